set_option maxHeartbeats 4000000 in
set_option maxRecDepth 100000 in
theorem c_X3_countSlots0 (l : Launch) (dC : Nat → ClassId) (dI : Nat → Nat → Nat) (cI cZ cK : ClassId) (tS aK aV : Nat) (o : Nat) (k : Nat) (ks : Nat) (kw : Nat) (kc : Nat) (kq : Nat) (km : Nat) (kd : Nat) (ka : Nat) (kk : Nat) (op : Nat) (oq : Nat) (ov : Nat) (os : Nat) (i0 : Int32) (sz : Nat) (hi0 : 0 ≤ i0.toInt ∧ i0.toInt ≤ 13) : Cv l yX3_countSlots (wq yX3_countSlots cX3_countSlots 3 none) ({ frames := 2, cells := 0, slots := 0, locals := 44 }) dC dI cI cZ cK tS aK aV [.ref o, .int i0] sz [(o, .inr (3, [.ref k, .ref op, .int 0, .ref oq, .ref ov, .ref os])), (os, .inl (cI, 5, .inl (fun _ => 0))), (k, .inr (0, [.ref ks, .ref kw, .ref kc, .int (-6), .int 0, .int 0, .ref kq, .ref km, .ref kd, .int 0, .ref ka, .ref kk])), (ks, .inl (cI, 5, .inl (upd (fun _ => 0) 0 800))), (kw, .inl (cI, 14, .inl (fun _ => 0)))] (fun (u : Nat → Int32) => 0 ≤ (u 0).toInt ∧ (u 0).toInt ≤ 28 ∧ 0 ≤ (u 1).toInt ∧ (u 1).toInt ≤ 28 ∧ 0 ≤ (u 2).toInt ∧ (u 2).toInt ≤ 28 ∧ 0 ≤ (u 3).toInt ∧ (u 3).toInt ≤ 28 ∧ 0 ≤ (u 4).toInt ∧ (u 4).toInt ≤ 28) (fun u => [(o, .inr (3, [.ref k, .ref op, .int 0, .ref oq, .ref ov, .ref os])), (os, .inl (cI, 5, .inl u)), (k, .inr (0, [.ref ks, .ref kw, .ref kc, .int (-6), .int 0, .int 0, .ref kq, .ref km, .ref kd, .int 0, .ref ka, .ref kk])), (ks, .inl (cI, 5, .inl (upd (fun _ => 0) 0 800))), (kw, .inl (cI, 14, .inl (fun _ => 0)))]) := by
  refine Met.ofW (cc := cX3_countSlots) (maxL := 3) (ret := none) (by decide) rfl ?_
  intro p e s m args below meth c s₁ B hml hv
  obtain ⟨rfl, hsz, hP, hKx, hD0⟩ := hv
  have hx := B.exec
  have hb := B.bytes
  have hr := B.returns
  have hts := atoms_spec (ws := wq yX3_countSlots cX3_countSlots 3 none) B.pre
  have hown : s.vm.findClass RX3 = some m.cls := findClass_of_methodNamed B.named
  have hlocks := B.notSynchronized
  subst hsz
  have hD := hD0.self (sz := s.heap.size)
  generalize hAe : va_A [(o, .inr (3, [.ref k, .ref op, .int 0, .ref oq, .ref ov, .ref os])), (os, .inl (cI, 5, .inl (fun _ => 0))), (k, .inr (0, [.ref ks, .ref kw, .ref kc, .int (-6), .int 0, .int 0, .ref kq, .ref km, .ref kd, .int 0, .ref ka, .ref kk])), (ks, .inl (cI, 5, .inl (upd (fun _ => 0) 0 800))), (kw, .inl (cI, 14, .inl (fun _ => 0)))] s.heap.size = A at hD hKx ⊢
  have hA : ∀ q : Nat, s.heap.size ≤ q → A q := fun q h => by rw [← hAe]; exact Or.inr h
  have hS : va_S A s.heap s.heap [] := va_S.rf
  have hP : va_P (dC, dI) vwCl [(o, .inr (3, [.ref k, .ref op, .int 0, .ref oq, .ref ov, .ref os])), (os, .inl (cI, 5, .inl (fun _ => 0))), (k, .inr (0, [.ref ks, .ref kw, .ref kc, .int (-6), .int 0, .int 0, .ref kq, .ref km, .ref kd, .int 0, .ref ka, .ref kk])), (ks, .inl (cI, 5, .inl (upd (fun _ => 0) 0 800))), (kw, .inl (cI, 14, .inl (fun _ => 0)))] s.heap := hP
  have hl := lv_entry ([.ref o, .int i0]) (n := 3) (Nat.le_of_ble_eq_true rfl)
  rw [lg_entry_eq]
  generalize (lg_sl ([.ref o, .int i0]) ++ List.replicate (3 - (lg_sl ([.ref o, .int i0])).length) Slot.unset).toArray = ls at hl ⊢
  have hl : lv_has ls 3 [(0, .ref o), (1, .int i0)] := hl
  have hK := hKx.1
  have hin3 := fun w9 h9 => List.mem_cons_of_mem (Cond.code yX3_countSlots cX3_countSlots 3 none) (inlX3 w9 h9)
  have hin0 := fun w9 h9 => List.mem_cons_of_mem (Cond.code yX3_countSlots cX3_countSlots 3 none) (inlX0 w9 h9)
  have hw0 := hts (.fieldLink RX3 21 "OneCan$Order" "slots" "[I") (List.mem_cons_of_mem _ wm_194)
  have hw1 := hts (.fieldLink RX3 24 "OneCan$Order" "camp" "LOneCan$Camp;") (List.mem_cons_of_mem _ wm_167)
  have hw2 := hts (.fieldLink RX3 58 "OneCan$Camp" "settings" "[I") (List.mem_cons_of_mem _ wm_168)
  rcases (show i0 = 0 ∨ i0 = 1 ∨ i0 = 2 ∨ i0 = 3 ∨ i0 = 4 ∨ i0 = 5 ∨ i0 = 6 ∨ i0 = 7 ∨ i0 = 8 ∨ i0 = 9 ∨ i0 = 10 ∨ i0 = 11 ∨ i0 = 12 ∨ i0 = 13 from by rcases (show i0.toInt = 0 ∨ i0.toInt = 1 ∨ i0.toInt = 2 ∨ i0.toInt = 3 ∨ i0.toInt = 4 ∨ i0.toInt = 5 ∨ i0.toInt = 6 ∨ i0.toInt = 7 ∨ i0.toInt = 8 ∨ i0.toInt = 9 ∨ i0.toInt = 10 ∨ i0.toInt = 11 ∨ i0.toInt = 12 ∨ i0.toInt = 13 by omega) with h9 | h9 | h9 | h9 | h9 | h9 | h9 | h9 | h9 | h9 | h9 | h9 | h9 | h9 <;> first | exact Or.inl (ceq h9) | exact Or.inr (Or.inl (ceq h9)) | exact Or.inr (Or.inr (Or.inl (ceq h9))) | exact Or.inr (Or.inr (Or.inr (Or.inl (ceq h9)))) | exact Or.inr (Or.inr (Or.inr (Or.inr (Or.inl (ceq h9))))) | exact Or.inr (Or.inr (Or.inr (Or.inr (Or.inr (Or.inl (ceq h9)))))) | exact Or.inr (Or.inr (Or.inr (Or.inr (Or.inr (Or.inr (Or.inl (ceq h9))))))) | exact Or.inr (Or.inr (Or.inr (Or.inr (Or.inr (Or.inr (Or.inr (Or.inl (ceq h9)))))))) | exact Or.inr (Or.inr (Or.inr (Or.inr (Or.inr (Or.inr (Or.inr (Or.inr (Or.inl (ceq h9))))))))) | exact Or.inr (Or.inr (Or.inr (Or.inr (Or.inr (Or.inr (Or.inr (Or.inr (Or.inr (Or.inl (ceq h9)))))))))) | exact Or.inr (Or.inr (Or.inr (Or.inr (Or.inr (Or.inr (Or.inr (Or.inr (Or.inr (Or.inr (Or.inl (ceq h9))))))))))) | exact Or.inr (Or.inr (Or.inr (Or.inr (Or.inr (Or.inr (Or.inr (Or.inr (Or.inr (Or.inr (Or.inr (Or.inl (ceq h9)))))))))))) | exact Or.inr (Or.inr (Or.inr (Or.inr (Or.inr (Or.inr (Or.inr (Or.inr (Or.inr (Or.inr (Or.inr (Or.inr (Or.inl (ceq h9))))))))))))) | exact Or.inr (Or.inr (Or.inr (Or.inr (Or.inr (Or.inr (Or.inr (Or.inr (Or.inr (Or.inr (Or.inr (Or.inr (Or.inr (ceq h9)))))))))))))) with rfl | rfl | rfl | rfl | rfl | rfl | rfl | rfl | rfl | rfl | rfl | rfl | rfl | rfl
  · have z9 : (0 : Int32).toInt = 0 := rfl
    refine lv_iconst (v := 0) hx hb dX3_countSlots_0 (by decide) ?_
    refine lv_istore_n (lv' := [(2, .int 0), (0, .ref o), (1, .int 0)]) hx hb dX3_countSlots_1 rfl hl (by decide) rfl (fun ls hl => ?_)
    refine lv_iload_n hx hb dX3_countSlots_2 rfl (lv_at hl 0 rfl) ?_
    refine lv_iconst (v := 4) hx hb dX3_countSlots_3 (by decide) ?_
    refine lv_icmp_gt (tgt := 20) hx hb dX3_countSlots_4 (by decide) (fun c1 => absurd c1 (by decide)) (fun c1 => ?_)
    refine lv_aload_n hx hb dX3_countSlots_7 rfl (lv_at hl 1 rfl) ?_
    refine va_get (D := (dC, dI)) (ci := 3) (v := .ref os) (C := RX3) (T := TX3) (N := 6) hx hb hts hin3 hown hK hP 0 rfl rfl 5 (by decide) hw0 (fun _ h9 => h9) rfl dX3_countSlots_8 ?_
    refine lv_iload_n hx hb dX3_countSlots_11 rfl (lv_at hl 0 rfl) ?_
    refine lv_iconst (v := 0) hx hb dX3_countSlots_12 (by decide) ?_
    refine va_iast hx hb hK hP hD hS 1 0 rfl rfl (vin (by decide) (by decide)) dX3_countSlots_13 (fun H locs hP hD hS => ?_)
    replace hP : va_P (dC, dI) vwCl [(o, .inr (3, [.ref k, .ref op, .int 0, .ref oq, .ref ov, .ref os])), (os, .inl (cI, 5, .inl (upd (fun _ => 0) 0 0))), (k, .inr (0, [.ref ks, .ref kw, .ref kc, .int (-6), .int 0, .int 0, .ref kq, .ref km, .ref kd, .int 0, .ref ka, .ref kk])), (ks, .inl (cI, 5, .inl (upd (fun _ => 0) 0 800))), (kw, .inl (cI, 14, .inl (fun _ => 0)))] H := hP
    replace hD : va_D A [(o, .inr (3, [.ref k, .ref op, .int 0, .ref oq, .ref ov, .ref os])), (os, .inl (cI, 5, .inl (upd (fun _ => 0) 0 0))), (k, .inr (0, [.ref ks, .ref kw, .ref kc, .int (-6), .int 0, .int 0, .ref kq, .ref km, .ref kd, .int 0, .ref ka, .ref kk])), (ks, .inl (cI, 5, .inl (upd (fun _ => 0) 0 800))), (kw, .inl (cI, 14, .inl (fun _ => 0)))] := hD
    refine lv_iinc (v := 1) (lv' := [(2, .int 1), (0, .ref o), (1, .int 0)]) hx hb dX3_countSlots_14 hl (k := 0) rfl (by decide) (by decide) rfl (fun ls hl => ?_)
    refine lv_goto (tgt := 2) hx hb dX3_countSlots_17 (by decide) ?_
    refine lv_iload_n hx hb dX3_countSlots_2 rfl (lv_at hl 0 rfl) ?_
    refine lv_iconst (v := 4) hx hb dX3_countSlots_3 (by decide) ?_
    refine lv_icmp_gt (tgt := 20) hx hb dX3_countSlots_4 (by decide) (fun c2 => absurd c2 (by decide)) (fun c2 => ?_)
    refine lv_aload_n hx hb dX3_countSlots_7 rfl (lv_at hl 1 rfl) ?_
    refine va_get (D := (dC, dI)) (ci := 3) (v := .ref os) (C := RX3) (T := TX3) (N := 6) hx hb hts hin3 hown hK hP 0 rfl rfl 5 (by decide) hw0 (fun _ h9 => h9) rfl dX3_countSlots_8 ?_
    refine lv_iload_n hx hb dX3_countSlots_11 rfl (lv_at hl 0 rfl) ?_
    refine lv_iconst (v := 0) hx hb dX3_countSlots_12 (by decide) ?_
    refine va_iast hx hb hK hP hD hS 1 0 rfl rfl (vin (by decide) (by decide)) dX3_countSlots_13 (fun H locs hP hD hS => ?_)
    replace hP : va_P (dC, dI) vwCl [(o, .inr (3, [.ref k, .ref op, .int 0, .ref oq, .ref ov, .ref os])), (os, .inl (cI, 5, .inl (upd (upd (fun _ => 0) 0 0) 1 0))), (k, .inr (0, [.ref ks, .ref kw, .ref kc, .int (-6), .int 0, .int 0, .ref kq, .ref km, .ref kd, .int 0, .ref ka, .ref kk])), (ks, .inl (cI, 5, .inl (upd (fun _ => 0) 0 800))), (kw, .inl (cI, 14, .inl (fun _ => 0)))] H := hP
    replace hD : va_D A [(o, .inr (3, [.ref k, .ref op, .int 0, .ref oq, .ref ov, .ref os])), (os, .inl (cI, 5, .inl (upd (upd (fun _ => 0) 0 0) 1 0))), (k, .inr (0, [.ref ks, .ref kw, .ref kc, .int (-6), .int 0, .int 0, .ref kq, .ref km, .ref kd, .int 0, .ref ka, .ref kk])), (ks, .inl (cI, 5, .inl (upd (fun _ => 0) 0 800))), (kw, .inl (cI, 14, .inl (fun _ => 0)))] := hD
    refine lv_iinc (v := 2) (lv' := [(2, .int 2), (0, .ref o), (1, .int 0)]) hx hb dX3_countSlots_14 hl (k := 0) rfl (by decide) (by decide) rfl (fun ls hl => ?_)
    refine lv_goto (tgt := 2) hx hb dX3_countSlots_17 (by decide) ?_
    refine lv_iload_n hx hb dX3_countSlots_2 rfl (lv_at hl 0 rfl) ?_
    refine lv_iconst (v := 4) hx hb dX3_countSlots_3 (by decide) ?_
    refine lv_icmp_gt (tgt := 20) hx hb dX3_countSlots_4 (by decide) (fun c3 => absurd c3 (by decide)) (fun c3 => ?_)
    refine lv_aload_n hx hb dX3_countSlots_7 rfl (lv_at hl 1 rfl) ?_
    refine va_get (D := (dC, dI)) (ci := 3) (v := .ref os) (C := RX3) (T := TX3) (N := 6) hx hb hts hin3 hown hK hP 0 rfl rfl 5 (by decide) hw0 (fun _ h9 => h9) rfl dX3_countSlots_8 ?_
    refine lv_iload_n hx hb dX3_countSlots_11 rfl (lv_at hl 0 rfl) ?_
    refine lv_iconst (v := 0) hx hb dX3_countSlots_12 (by decide) ?_
    refine va_iast hx hb hK hP hD hS 1 0 rfl rfl (vin (by decide) (by decide)) dX3_countSlots_13 (fun H locs hP hD hS => ?_)
    replace hP : va_P (dC, dI) vwCl [(o, .inr (3, [.ref k, .ref op, .int 0, .ref oq, .ref ov, .ref os])), (os, .inl (cI, 5, .inl (upd (upd (upd (fun _ => 0) 0 0) 1 0) 2 0))), (k, .inr (0, [.ref ks, .ref kw, .ref kc, .int (-6), .int 0, .int 0, .ref kq, .ref km, .ref kd, .int 0, .ref ka, .ref kk])), (ks, .inl (cI, 5, .inl (upd (fun _ => 0) 0 800))), (kw, .inl (cI, 14, .inl (fun _ => 0)))] H := hP
    replace hD : va_D A [(o, .inr (3, [.ref k, .ref op, .int 0, .ref oq, .ref ov, .ref os])), (os, .inl (cI, 5, .inl (upd (upd (upd (fun _ => 0) 0 0) 1 0) 2 0))), (k, .inr (0, [.ref ks, .ref kw, .ref kc, .int (-6), .int 0, .int 0, .ref kq, .ref km, .ref kd, .int 0, .ref ka, .ref kk])), (ks, .inl (cI, 5, .inl (upd (fun _ => 0) 0 800))), (kw, .inl (cI, 14, .inl (fun _ => 0)))] := hD
    refine lv_iinc (v := 3) (lv' := [(2, .int 3), (0, .ref o), (1, .int 0)]) hx hb dX3_countSlots_14 hl (k := 0) rfl (by decide) (by decide) rfl (fun ls hl => ?_)
    refine lv_goto (tgt := 2) hx hb dX3_countSlots_17 (by decide) ?_
    refine lv_iload_n hx hb dX3_countSlots_2 rfl (lv_at hl 0 rfl) ?_
    refine lv_iconst (v := 4) hx hb dX3_countSlots_3 (by decide) ?_
    refine lv_icmp_gt (tgt := 20) hx hb dX3_countSlots_4 (by decide) (fun c4 => absurd c4 (by decide)) (fun c4 => ?_)
    refine lv_aload_n hx hb dX3_countSlots_7 rfl (lv_at hl 1 rfl) ?_
    refine va_get (D := (dC, dI)) (ci := 3) (v := .ref os) (C := RX3) (T := TX3) (N := 6) hx hb hts hin3 hown hK hP 0 rfl rfl 5 (by decide) hw0 (fun _ h9 => h9) rfl dX3_countSlots_8 ?_
    refine lv_iload_n hx hb dX3_countSlots_11 rfl (lv_at hl 0 rfl) ?_
    refine lv_iconst (v := 0) hx hb dX3_countSlots_12 (by decide) ?_
    refine va_iast hx hb hK hP hD hS 1 0 rfl rfl (vin (by decide) (by decide)) dX3_countSlots_13 (fun H locs hP hD hS => ?_)
    replace hP : va_P (dC, dI) vwCl [(o, .inr (3, [.ref k, .ref op, .int 0, .ref oq, .ref ov, .ref os])), (os, .inl (cI, 5, .inl (upd (upd (upd (upd (fun _ => 0) 0 0) 1 0) 2 0) 3 0))), (k, .inr (0, [.ref ks, .ref kw, .ref kc, .int (-6), .int 0, .int 0, .ref kq, .ref km, .ref kd, .int 0, .ref ka, .ref kk])), (ks, .inl (cI, 5, .inl (upd (fun _ => 0) 0 800))), (kw, .inl (cI, 14, .inl (fun _ => 0)))] H := hP
    replace hD : va_D A [(o, .inr (3, [.ref k, .ref op, .int 0, .ref oq, .ref ov, .ref os])), (os, .inl (cI, 5, .inl (upd (upd (upd (upd (fun _ => 0) 0 0) 1 0) 2 0) 3 0))), (k, .inr (0, [.ref ks, .ref kw, .ref kc, .int (-6), .int 0, .int 0, .ref kq, .ref km, .ref kd, .int 0, .ref ka, .ref kk])), (ks, .inl (cI, 5, .inl (upd (fun _ => 0) 0 800))), (kw, .inl (cI, 14, .inl (fun _ => 0)))] := hD
    refine lv_iinc (v := 4) (lv' := [(2, .int 4), (0, .ref o), (1, .int 0)]) hx hb dX3_countSlots_14 hl (k := 0) rfl (by decide) (by decide) rfl (fun ls hl => ?_)
    refine lv_goto (tgt := 2) hx hb dX3_countSlots_17 (by decide) ?_
    refine lv_iload_n hx hb dX3_countSlots_2 rfl (lv_at hl 0 rfl) ?_
    refine lv_iconst (v := 4) hx hb dX3_countSlots_3 (by decide) ?_
    refine lv_icmp_gt (tgt := 20) hx hb dX3_countSlots_4 (by decide) (fun c5 => absurd c5 (by decide)) (fun c5 => ?_)
    refine lv_aload_n hx hb dX3_countSlots_7 rfl (lv_at hl 1 rfl) ?_
    refine va_get (D := (dC, dI)) (ci := 3) (v := .ref os) (C := RX3) (T := TX3) (N := 6) hx hb hts hin3 hown hK hP 0 rfl rfl 5 (by decide) hw0 (fun _ h9 => h9) rfl dX3_countSlots_8 ?_
    refine lv_iload_n hx hb dX3_countSlots_11 rfl (lv_at hl 0 rfl) ?_
    refine lv_iconst (v := 0) hx hb dX3_countSlots_12 (by decide) ?_
    refine va_iast hx hb hK hP hD hS 1 0 rfl rfl (vin (by decide) (by decide)) dX3_countSlots_13 (fun H locs hP hD hS => ?_)
    replace hP : va_P (dC, dI) vwCl [(o, .inr (3, [.ref k, .ref op, .int 0, .ref oq, .ref ov, .ref os])), (os, .inl (cI, 5, .inl (upd (upd (upd (upd (upd (fun _ => 0) 0 0) 1 0) 2 0) 3 0) 4 0))), (k, .inr (0, [.ref ks, .ref kw, .ref kc, .int (-6), .int 0, .int 0, .ref kq, .ref km, .ref kd, .int 0, .ref ka, .ref kk])), (ks, .inl (cI, 5, .inl (upd (fun _ => 0) 0 800))), (kw, .inl (cI, 14, .inl (fun _ => 0)))] H := hP
    replace hD : va_D A [(o, .inr (3, [.ref k, .ref op, .int 0, .ref oq, .ref ov, .ref os])), (os, .inl (cI, 5, .inl (upd (upd (upd (upd (upd (fun _ => 0) 0 0) 1 0) 2 0) 3 0) 4 0))), (k, .inr (0, [.ref ks, .ref kw, .ref kc, .int (-6), .int 0, .int 0, .ref kq, .ref km, .ref kd, .int 0, .ref ka, .ref kk])), (ks, .inl (cI, 5, .inl (upd (fun _ => 0) 0 800))), (kw, .inl (cI, 14, .inl (fun _ => 0)))] := hD
    refine lv_iinc (v := 5) (lv' := [(2, .int 5), (0, .ref o), (1, .int 0)]) hx hb dX3_countSlots_14 hl (k := 0) rfl (by decide) (by decide) rfl (fun ls hl => ?_)
    refine lv_goto (tgt := 2) hx hb dX3_countSlots_17 (by decide) ?_
    refine lv_iload_n hx hb dX3_countSlots_2 rfl (lv_at hl 0 rfl) ?_
    refine lv_iconst (v := 4) hx hb dX3_countSlots_3 (by decide) ?_
    refine lv_icmp_gt (tgt := 20) hx hb dX3_countSlots_4 (by decide) (fun c6 => ?_) (fun c6 => absurd c6 (by decide))
    refine lv_aload_n hx hb dX3_countSlots_20 rfl (lv_at hl 1 rfl) ?_
    refine va_get (D := (dC, dI)) (ci := 3) (v := .ref k) (C := RX3) (T := TX3) (N := 6) hx hb hts hin3 hown hK hP 0 rfl rfl 0 (by decide) hw1 (fun _ h9 => h9) rfl dX3_countSlots_21 ?_
    refine va_get (D := (dC, dI)) (ci := 0) (v := .ref ks) (C := RX0) (T := TX0) (N := 12) hx hb hts hin0 hown hK hP 2 rfl rfl 0 (by decide) hw2 (fun _ h9 => h9) rfl dX3_countSlots_24 ?_
    refine lv_iconst (v := 4) hx hb dX3_countSlots_27 (by decide) ?_
    refine va_iald hx hb hK hP 3 0 rfl rfl (vin (by decide) (by decide)) dX3_countSlots_28 ?_
    refine lv_topi (fun x7 e7 => ?_)
    obtain rfl : x7 = 0 := e7.trans (by first | rfl | decide)
    refine lv_istore_n (lv' := [(2, .int 0), (0, .ref o), (1, .int 0)]) hx hb dX3_countSlots_29 rfl hl (by decide) rfl (fun ls hl => ?_)
    refine lv_iload_n hx hb dX3_countSlots_30 rfl (lv_at hl 0 rfl) ?_
    refine lv_iload_n hx hb dX3_countSlots_31 rfl (lv_at hl 2 rfl) ?_
    refine lv_icmp_gt (tgt := 59) hx hb dX3_countSlots_32 (by decide) (fun c8 => absurd c8 (by decide)) (fun c8 => ?_)
    refine lv_aload_n hx hb dX3_countSlots_35 rfl (lv_at hl 1 rfl) ?_
    refine va_get (D := (dC, dI)) (ci := 3) (v := .ref os) (C := RX3) (T := TX3) (N := 6) hx hb hts hin3 hown hK hP 0 rfl rfl 5 (by decide) hw0 (fun _ h9 => h9) rfl dX3_countSlots_36 ?_
    refine lv_aload_n hx hb dX3_countSlots_39 rfl (lv_at hl 1 rfl) ?_
    refine va_get (D := (dC, dI)) (ci := 3) (v := .ref k) (C := RX3) (T := TX3) (N := 6) hx hb hts hin3 hown hK hP 0 rfl rfl 0 (by decide) hw1 (fun _ h9 => h9) rfl dX3_countSlots_40 ?_
    refine lv_iload_n hx hb dX3_countSlots_43 rfl (lv_at hl 0 rfl) ?_
    refine lv_iconst (v := 0) hx hb dX3_countSlots_44 (by decide) ?_
    refine mx_i (wr := [(o, .inr (3, [.ref k, .ref op, .int 0, .ref oq, .ref ov, .ref os])), (os, .inl (cI, 5, .inl (upd (upd (upd (upd (upd (fun _ => 0) 0 0) 1 0) 2 0) 3 0) 4 0)))]) (va_runV (As := [.int 0, .int 0]) (rest := [.ref os]) ⟨hx, hb, hml, hown, hts⟩ (c_X0_windOn l dC dI cI cZ cK tS aK aV k ks kw kc kq km kd ka kk 0 H.size (by have z8 : (0 : Int32).toInt = 0 := rfl; first | omega | decide | assumption | trivial)) (cwV 2 hts (gw_v (fun _ h9 => List.mem_cons_of_mem _ h9) wm_169 wm_170 wm_171 wm_10 wm_172) rfl rfl rfl (by decide +kernel) ⟨Nat.le_of_ble_eq_true rfl, Nat.le_of_ble_eq_true rfl⟩) (mx_preV (C := RX0) (T := TX0) (N := 12) (ci := 0) hKx hP hD hS hA [2, 3, 4] (by decide) rfl rfl rfl) rfl rfl hl.1 rfl (lv_room (Nat.le_of_ble_eq_true rfl)) dX3_countSlots_45 ⟨Nat.le_of_ble_eq_true rfl, Nat.le_of_ble_eq_true rfl⟩) hP hD hS hA [2, 3, 4] [0, 1] rfl rfl (by decide) (by decide) (fun r9 u9 H locs hq9 hP hD hS => ?_)
    replace hP : va_P (dC, dI) vwCl [(o, .inr (3, [.ref k, .ref op, .int 0, .ref oq, .ref ov, .ref os])), (os, .inl (cI, 5, .inl (upd (upd (upd (upd (upd (fun _ => 0) 0 0) 1 0) 2 0) 3 0) 4 0))), (k, .inr (0, [.ref ks, .ref kw, .ref kc, .int (-6), .int 0, .int 0, .ref kq, .ref km, .ref kd, .int 0, .ref ka, .ref kk])), (ks, .inl (cI, 5, .inl (upd (fun _ => 0) 0 800))), (kw, .inl (cI, 14, .inl (fun _ => 0)))] H := hP
    replace hD : va_D A [(o, .inr (3, [.ref k, .ref op, .int 0, .ref oq, .ref ov, .ref os])), (os, .inl (cI, 5, .inl (upd (upd (upd (upd (upd (fun _ => 0) 0 0) 1 0) 2 0) 3 0) 4 0))), (k, .inr (0, [.ref ks, .ref kw, .ref kc, .int (-6), .int 0, .int 0, .ref kq, .ref km, .ref kd, .int 0, .ref ka, .ref kk])), (ks, .inl (cI, 5, .inl (upd (fun _ => 0) 0 800))), (kw, .inl (cI, 14, .inl (fun _ => 0)))] := hD
    obtain rfl : r9 = 0 := hq9
    refine lv_dup2_11 hx hb dX3_countSlots_48 rfl rfl ?_
    refine va_iald hx hb hK hP 1 0 rfl rfl (vin (by decide) (by decide)) dX3_countSlots_49 ?_
    refine lv_topi (fun x10 e10 => ?_)
    obtain rfl : x10 = 0 := e10.trans (by first | rfl | decide)
    refine lv_iconst (v := 2) hx hb dX3_countSlots_50 (by decide) ?_
    refine lv_iadd hx hb dX3_countSlots_51 ?_
    refine lv_topi (fun x11 e11 => ?_)
    obtain rfl : x11 = 2 := e11.trans (by decide)
    refine va_iast hx hb hK hP hD hS 1 0 rfl rfl (vin (by decide) (by decide)) dX3_countSlots_52 (fun H locs hP hD hS => ?_)
    replace hP : va_P (dC, dI) vwCl [(o, .inr (3, [.ref k, .ref op, .int 0, .ref oq, .ref ov, .ref os])), (os, .inl (cI, 5, .inl (upd (upd (upd (upd (upd (upd (fun _ => 0) 0 0) 1 0) 2 0) 3 0) 4 0) 0 2))), (k, .inr (0, [.ref ks, .ref kw, .ref kc, .int (-6), .int 0, .int 0, .ref kq, .ref km, .ref kd, .int 0, .ref ka, .ref kk])), (ks, .inl (cI, 5, .inl (upd (fun _ => 0) 0 800))), (kw, .inl (cI, 14, .inl (fun _ => 0)))] H := hP
    replace hD : va_D A [(o, .inr (3, [.ref k, .ref op, .int 0, .ref oq, .ref ov, .ref os])), (os, .inl (cI, 5, .inl (upd (upd (upd (upd (upd (upd (fun _ => 0) 0 0) 1 0) 2 0) 3 0) 4 0) 0 2))), (k, .inr (0, [.ref ks, .ref kw, .ref kc, .int (-6), .int 0, .int 0, .ref kq, .ref km, .ref kd, .int 0, .ref ka, .ref kk])), (ks, .inl (cI, 5, .inl (upd (fun _ => 0) 0 800))), (kw, .inl (cI, 14, .inl (fun _ => 0)))] := hD
    refine lv_iinc (v := 1) (lv' := [(2, .int 1), (0, .ref o), (1, .int 0)]) hx hb dX3_countSlots_53 hl (k := 0) rfl (by decide) (by decide) rfl (fun ls hl => ?_)
    refine lv_goto (tgt := 30) hx hb dX3_countSlots_56 (by decide) ?_
    refine lv_iload_n hx hb dX3_countSlots_30 rfl (lv_at hl 0 rfl) ?_
    refine lv_iload_n hx hb dX3_countSlots_31 rfl (lv_at hl 2 rfl) ?_
    refine lv_icmp_gt (tgt := 59) hx hb dX3_countSlots_32 (by decide) (fun c12 => ?_) (fun c12 => absurd c12 (by decide))
    have hP9 := mx_subP (wc := [(o, .inr (3, [.ref k, .ref op, .int 0, .ref oq, .ref ov, .ref os])), (os, .inl (cI, 5, .inl (upd (upd (upd (upd (upd (upd (fun _ => 0) 0 0) 1 0) 2 0) 3 0) 4 0) 0 2))), (k, .inr (0, [.ref ks, .ref kw, .ref kc, .int (-6), .int 0, .int 0, .ref kq, .ref km, .ref kd, .int 0, .ref ka, .ref kk])), (ks, .inl (cI, 5, .inl (upd (fun _ => 0) 0 800))), (kw, .inl (cI, 14, .inl (fun _ => 0)))]) hP [0, 1, 2, 3, 4] rfl
    have hD9 := hD.sub (ws' := [(o, .inr (3, [.ref k, .ref op, .int 0, .ref oq, .ref ov, .ref os])), (os, .inl (cI, 5, .inl (upd (upd (upd (upd (upd (upd (fun _ => 0) 0 0) 1 0) 2 0) 3 0) 4 0) 0 2))), (k, .inr (0, [.ref ks, .ref kw, .ref kc, .int (-6), .int 0, .int 0, .ref kq, .ref km, .ref kd, .int 0, .ref ka, .ref kk])), (ks, .inl (cI, 5, .inl (upd (fun _ => 0) 0 800))), (kw, .inl (cI, 14, .inl (fun _ => 0)))]) [0, 1, 2, 3, 4] (by decide) rfl
    exact W.vret hx hb hr (fun t ht hW => ⟨⟨(upd (upd (upd (upd (upd (upd (fun _ => 0) 0 0) 1 0) 2 0) 3 0) 4 0) 0 2), rfl, (by refine ⟨?_, ?_, ?_, ?_, ?_, ?_, ?_, ?_, ?_, ?_⟩ <;> decide), by rw [ht]; exact hP9, hD9⟩, hS.F ht⟩) hS.2.2 dX3_countSlots_59
  · have z9 : (1 : Int32).toInt = 1 := rfl
    refine lv_iconst (v := 0) hx hb dX3_countSlots_0 (by decide) ?_
    refine lv_istore_n (lv' := [(2, .int 0), (0, .ref o), (1, .int 1)]) hx hb dX3_countSlots_1 rfl hl (by decide) rfl (fun ls hl => ?_)
    refine lv_iload_n hx hb dX3_countSlots_2 rfl (lv_at hl 0 rfl) ?_
    refine lv_iconst (v := 4) hx hb dX3_countSlots_3 (by decide) ?_
    refine lv_icmp_gt (tgt := 20) hx hb dX3_countSlots_4 (by decide) (fun c13 => absurd c13 (by decide)) (fun c13 => ?_)
    refine lv_aload_n hx hb dX3_countSlots_7 rfl (lv_at hl 1 rfl) ?_
    refine va_get (D := (dC, dI)) (ci := 3) (v := .ref os) (C := RX3) (T := TX3) (N := 6) hx hb hts hin3 hown hK hP 0 rfl rfl 5 (by decide) hw0 (fun _ h9 => h9) rfl dX3_countSlots_8 ?_
    refine lv_iload_n hx hb dX3_countSlots_11 rfl (lv_at hl 0 rfl) ?_
    refine lv_iconst (v := 0) hx hb dX3_countSlots_12 (by decide) ?_
    refine va_iast hx hb hK hP hD hS 1 0 rfl rfl (vin (by decide) (by decide)) dX3_countSlots_13 (fun H locs hP hD hS => ?_)
    replace hP : va_P (dC, dI) vwCl [(o, .inr (3, [.ref k, .ref op, .int 0, .ref oq, .ref ov, .ref os])), (os, .inl (cI, 5, .inl (upd (fun _ => 0) 0 0))), (k, .inr (0, [.ref ks, .ref kw, .ref kc, .int (-6), .int 0, .int 0, .ref kq, .ref km, .ref kd, .int 0, .ref ka, .ref kk])), (ks, .inl (cI, 5, .inl (upd (fun _ => 0) 0 800))), (kw, .inl (cI, 14, .inl (fun _ => 0)))] H := hP
    replace hD : va_D A [(o, .inr (3, [.ref k, .ref op, .int 0, .ref oq, .ref ov, .ref os])), (os, .inl (cI, 5, .inl (upd (fun _ => 0) 0 0))), (k, .inr (0, [.ref ks, .ref kw, .ref kc, .int (-6), .int 0, .int 0, .ref kq, .ref km, .ref kd, .int 0, .ref ka, .ref kk])), (ks, .inl (cI, 5, .inl (upd (fun _ => 0) 0 800))), (kw, .inl (cI, 14, .inl (fun _ => 0)))] := hD
    refine lv_iinc (v := 1) (lv' := [(2, .int 1), (0, .ref o), (1, .int 1)]) hx hb dX3_countSlots_14 hl (k := 0) rfl (by decide) (by decide) rfl (fun ls hl => ?_)
    refine lv_goto (tgt := 2) hx hb dX3_countSlots_17 (by decide) ?_
    refine lv_iload_n hx hb dX3_countSlots_2 rfl (lv_at hl 0 rfl) ?_
    refine lv_iconst (v := 4) hx hb dX3_countSlots_3 (by decide) ?_
    refine lv_icmp_gt (tgt := 20) hx hb dX3_countSlots_4 (by decide) (fun c14 => absurd c14 (by decide)) (fun c14 => ?_)
    refine lv_aload_n hx hb dX3_countSlots_7 rfl (lv_at hl 1 rfl) ?_
    refine va_get (D := (dC, dI)) (ci := 3) (v := .ref os) (C := RX3) (T := TX3) (N := 6) hx hb hts hin3 hown hK hP 0 rfl rfl 5 (by decide) hw0 (fun _ h9 => h9) rfl dX3_countSlots_8 ?_
    refine lv_iload_n hx hb dX3_countSlots_11 rfl (lv_at hl 0 rfl) ?_
    refine lv_iconst (v := 0) hx hb dX3_countSlots_12 (by decide) ?_
    refine va_iast hx hb hK hP hD hS 1 0 rfl rfl (vin (by decide) (by decide)) dX3_countSlots_13 (fun H locs hP hD hS => ?_)
    replace hP : va_P (dC, dI) vwCl [(o, .inr (3, [.ref k, .ref op, .int 0, .ref oq, .ref ov, .ref os])), (os, .inl (cI, 5, .inl (upd (upd (fun _ => 0) 0 0) 1 0))), (k, .inr (0, [.ref ks, .ref kw, .ref kc, .int (-6), .int 0, .int 0, .ref kq, .ref km, .ref kd, .int 0, .ref ka, .ref kk])), (ks, .inl (cI, 5, .inl (upd (fun _ => 0) 0 800))), (kw, .inl (cI, 14, .inl (fun _ => 0)))] H := hP
    replace hD : va_D A [(o, .inr (3, [.ref k, .ref op, .int 0, .ref oq, .ref ov, .ref os])), (os, .inl (cI, 5, .inl (upd (upd (fun _ => 0) 0 0) 1 0))), (k, .inr (0, [.ref ks, .ref kw, .ref kc, .int (-6), .int 0, .int 0, .ref kq, .ref km, .ref kd, .int 0, .ref ka, .ref kk])), (ks, .inl (cI, 5, .inl (upd (fun _ => 0) 0 800))), (kw, .inl (cI, 14, .inl (fun _ => 0)))] := hD
    refine lv_iinc (v := 2) (lv' := [(2, .int 2), (0, .ref o), (1, .int 1)]) hx hb dX3_countSlots_14 hl (k := 0) rfl (by decide) (by decide) rfl (fun ls hl => ?_)
    refine lv_goto (tgt := 2) hx hb dX3_countSlots_17 (by decide) ?_
    refine lv_iload_n hx hb dX3_countSlots_2 rfl (lv_at hl 0 rfl) ?_
    refine lv_iconst (v := 4) hx hb dX3_countSlots_3 (by decide) ?_
    refine lv_icmp_gt (tgt := 20) hx hb dX3_countSlots_4 (by decide) (fun c15 => absurd c15 (by decide)) (fun c15 => ?_)
    refine lv_aload_n hx hb dX3_countSlots_7 rfl (lv_at hl 1 rfl) ?_
    refine va_get (D := (dC, dI)) (ci := 3) (v := .ref os) (C := RX3) (T := TX3) (N := 6) hx hb hts hin3 hown hK hP 0 rfl rfl 5 (by decide) hw0 (fun _ h9 => h9) rfl dX3_countSlots_8 ?_
    refine lv_iload_n hx hb dX3_countSlots_11 rfl (lv_at hl 0 rfl) ?_
    refine lv_iconst (v := 0) hx hb dX3_countSlots_12 (by decide) ?_
    refine va_iast hx hb hK hP hD hS 1 0 rfl rfl (vin (by decide) (by decide)) dX3_countSlots_13 (fun H locs hP hD hS => ?_)
    replace hP : va_P (dC, dI) vwCl [(o, .inr (3, [.ref k, .ref op, .int 0, .ref oq, .ref ov, .ref os])), (os, .inl (cI, 5, .inl (upd (upd (upd (fun _ => 0) 0 0) 1 0) 2 0))), (k, .inr (0, [.ref ks, .ref kw, .ref kc, .int (-6), .int 0, .int 0, .ref kq, .ref km, .ref kd, .int 0, .ref ka, .ref kk])), (ks, .inl (cI, 5, .inl (upd (fun _ => 0) 0 800))), (kw, .inl (cI, 14, .inl (fun _ => 0)))] H := hP
    replace hD : va_D A [(o, .inr (3, [.ref k, .ref op, .int 0, .ref oq, .ref ov, .ref os])), (os, .inl (cI, 5, .inl (upd (upd (upd (fun _ => 0) 0 0) 1 0) 2 0))), (k, .inr (0, [.ref ks, .ref kw, .ref kc, .int (-6), .int 0, .int 0, .ref kq, .ref km, .ref kd, .int 0, .ref ka, .ref kk])), (ks, .inl (cI, 5, .inl (upd (fun _ => 0) 0 800))), (kw, .inl (cI, 14, .inl (fun _ => 0)))] := hD
    refine lv_iinc (v := 3) (lv' := [(2, .int 3), (0, .ref o), (1, .int 1)]) hx hb dX3_countSlots_14 hl (k := 0) rfl (by decide) (by decide) rfl (fun ls hl => ?_)
    refine lv_goto (tgt := 2) hx hb dX3_countSlots_17 (by decide) ?_
    refine lv_iload_n hx hb dX3_countSlots_2 rfl (lv_at hl 0 rfl) ?_
    refine lv_iconst (v := 4) hx hb dX3_countSlots_3 (by decide) ?_
    refine lv_icmp_gt (tgt := 20) hx hb dX3_countSlots_4 (by decide) (fun c16 => absurd c16 (by decide)) (fun c16 => ?_)
    refine lv_aload_n hx hb dX3_countSlots_7 rfl (lv_at hl 1 rfl) ?_
    refine va_get (D := (dC, dI)) (ci := 3) (v := .ref os) (C := RX3) (T := TX3) (N := 6) hx hb hts hin3 hown hK hP 0 rfl rfl 5 (by decide) hw0 (fun _ h9 => h9) rfl dX3_countSlots_8 ?_
    refine lv_iload_n hx hb dX3_countSlots_11 rfl (lv_at hl 0 rfl) ?_
    refine lv_iconst (v := 0) hx hb dX3_countSlots_12 (by decide) ?_
    refine va_iast hx hb hK hP hD hS 1 0 rfl rfl (vin (by decide) (by decide)) dX3_countSlots_13 (fun H locs hP hD hS => ?_)
    replace hP : va_P (dC, dI) vwCl [(o, .inr (3, [.ref k, .ref op, .int 0, .ref oq, .ref ov, .ref os])), (os, .inl (cI, 5, .inl (upd (upd (upd (upd (fun _ => 0) 0 0) 1 0) 2 0) 3 0))), (k, .inr (0, [.ref ks, .ref kw, .ref kc, .int (-6), .int 0, .int 0, .ref kq, .ref km, .ref kd, .int 0, .ref ka, .ref kk])), (ks, .inl (cI, 5, .inl (upd (fun _ => 0) 0 800))), (kw, .inl (cI, 14, .inl (fun _ => 0)))] H := hP
    replace hD : va_D A [(o, .inr (3, [.ref k, .ref op, .int 0, .ref oq, .ref ov, .ref os])), (os, .inl (cI, 5, .inl (upd (upd (upd (upd (fun _ => 0) 0 0) 1 0) 2 0) 3 0))), (k, .inr (0, [.ref ks, .ref kw, .ref kc, .int (-6), .int 0, .int 0, .ref kq, .ref km, .ref kd, .int 0, .ref ka, .ref kk])), (ks, .inl (cI, 5, .inl (upd (fun _ => 0) 0 800))), (kw, .inl (cI, 14, .inl (fun _ => 0)))] := hD
    refine lv_iinc (v := 4) (lv' := [(2, .int 4), (0, .ref o), (1, .int 1)]) hx hb dX3_countSlots_14 hl (k := 0) rfl (by decide) (by decide) rfl (fun ls hl => ?_)
    refine lv_goto (tgt := 2) hx hb dX3_countSlots_17 (by decide) ?_
    refine lv_iload_n hx hb dX3_countSlots_2 rfl (lv_at hl 0 rfl) ?_
    refine lv_iconst (v := 4) hx hb dX3_countSlots_3 (by decide) ?_
    refine lv_icmp_gt (tgt := 20) hx hb dX3_countSlots_4 (by decide) (fun c17 => absurd c17 (by decide)) (fun c17 => ?_)
    refine lv_aload_n hx hb dX3_countSlots_7 rfl (lv_at hl 1 rfl) ?_
    refine va_get (D := (dC, dI)) (ci := 3) (v := .ref os) (C := RX3) (T := TX3) (N := 6) hx hb hts hin3 hown hK hP 0 rfl rfl 5 (by decide) hw0 (fun _ h9 => h9) rfl dX3_countSlots_8 ?_
    refine lv_iload_n hx hb dX3_countSlots_11 rfl (lv_at hl 0 rfl) ?_
    refine lv_iconst (v := 0) hx hb dX3_countSlots_12 (by decide) ?_
    refine va_iast hx hb hK hP hD hS 1 0 rfl rfl (vin (by decide) (by decide)) dX3_countSlots_13 (fun H locs hP hD hS => ?_)
    replace hP : va_P (dC, dI) vwCl [(o, .inr (3, [.ref k, .ref op, .int 0, .ref oq, .ref ov, .ref os])), (os, .inl (cI, 5, .inl (upd (upd (upd (upd (upd (fun _ => 0) 0 0) 1 0) 2 0) 3 0) 4 0))), (k, .inr (0, [.ref ks, .ref kw, .ref kc, .int (-6), .int 0, .int 0, .ref kq, .ref km, .ref kd, .int 0, .ref ka, .ref kk])), (ks, .inl (cI, 5, .inl (upd (fun _ => 0) 0 800))), (kw, .inl (cI, 14, .inl (fun _ => 0)))] H := hP
    replace hD : va_D A [(o, .inr (3, [.ref k, .ref op, .int 0, .ref oq, .ref ov, .ref os])), (os, .inl (cI, 5, .inl (upd (upd (upd (upd (upd (fun _ => 0) 0 0) 1 0) 2 0) 3 0) 4 0))), (k, .inr (0, [.ref ks, .ref kw, .ref kc, .int (-6), .int 0, .int 0, .ref kq, .ref km, .ref kd, .int 0, .ref ka, .ref kk])), (ks, .inl (cI, 5, .inl (upd (fun _ => 0) 0 800))), (kw, .inl (cI, 14, .inl (fun _ => 0)))] := hD
    refine lv_iinc (v := 5) (lv' := [(2, .int 5), (0, .ref o), (1, .int 1)]) hx hb dX3_countSlots_14 hl (k := 0) rfl (by decide) (by decide) rfl (fun ls hl => ?_)
    refine lv_goto (tgt := 2) hx hb dX3_countSlots_17 (by decide) ?_
    refine lv_iload_n hx hb dX3_countSlots_2 rfl (lv_at hl 0 rfl) ?_
    refine lv_iconst (v := 4) hx hb dX3_countSlots_3 (by decide) ?_
    refine lv_icmp_gt (tgt := 20) hx hb dX3_countSlots_4 (by decide) (fun c18 => ?_) (fun c18 => absurd c18 (by decide))
    refine lv_aload_n hx hb dX3_countSlots_20 rfl (lv_at hl 1 rfl) ?_
    refine va_get (D := (dC, dI)) (ci := 3) (v := .ref k) (C := RX3) (T := TX3) (N := 6) hx hb hts hin3 hown hK hP 0 rfl rfl 0 (by decide) hw1 (fun _ h9 => h9) rfl dX3_countSlots_21 ?_
    refine va_get (D := (dC, dI)) (ci := 0) (v := .ref ks) (C := RX0) (T := TX0) (N := 12) hx hb hts hin0 hown hK hP 2 rfl rfl 0 (by decide) hw2 (fun _ h9 => h9) rfl dX3_countSlots_24 ?_
    refine lv_iconst (v := 4) hx hb dX3_countSlots_27 (by decide) ?_
    refine va_iald hx hb hK hP 3 0 rfl rfl (vin (by decide) (by decide)) dX3_countSlots_28 ?_
    refine lv_topi (fun x19 e19 => ?_)
    obtain rfl : x19 = 0 := e19.trans (by first | rfl | decide)
    refine lv_istore_n (lv' := [(2, .int 0), (0, .ref o), (1, .int 1)]) hx hb dX3_countSlots_29 rfl hl (by decide) rfl (fun ls hl => ?_)
    refine lv_iload_n hx hb dX3_countSlots_30 rfl (lv_at hl 0 rfl) ?_
    refine lv_iload_n hx hb dX3_countSlots_31 rfl (lv_at hl 2 rfl) ?_
    refine lv_icmp_gt (tgt := 59) hx hb dX3_countSlots_32 (by decide) (fun c20 => absurd c20 (by decide)) (fun c20 => ?_)
    refine lv_aload_n hx hb dX3_countSlots_35 rfl (lv_at hl 1 rfl) ?_
    refine va_get (D := (dC, dI)) (ci := 3) (v := .ref os) (C := RX3) (T := TX3) (N := 6) hx hb hts hin3 hown hK hP 0 rfl rfl 5 (by decide) hw0 (fun _ h9 => h9) rfl dX3_countSlots_36 ?_
    refine lv_aload_n hx hb dX3_countSlots_39 rfl (lv_at hl 1 rfl) ?_
    refine va_get (D := (dC, dI)) (ci := 3) (v := .ref k) (C := RX3) (T := TX3) (N := 6) hx hb hts hin3 hown hK hP 0 rfl rfl 0 (by decide) hw1 (fun _ h9 => h9) rfl dX3_countSlots_40 ?_
    refine lv_iload_n hx hb dX3_countSlots_43 rfl (lv_at hl 0 rfl) ?_
    refine lv_iconst (v := 0) hx hb dX3_countSlots_44 (by decide) ?_
    refine mx_i (wr := [(o, .inr (3, [.ref k, .ref op, .int 0, .ref oq, .ref ov, .ref os])), (os, .inl (cI, 5, .inl (upd (upd (upd (upd (upd (fun _ => 0) 0 0) 1 0) 2 0) 3 0) 4 0)))]) (va_runV (As := [.int 0, .int 0]) (rest := [.ref os]) ⟨hx, hb, hml, hown, hts⟩ (c_X0_windOn l dC dI cI cZ cK tS aK aV k ks kw kc kq km kd ka kk 0 H.size (by have z8 : (0 : Int32).toInt = 0 := rfl; first | omega | decide | assumption | trivial)) (cwV 2 hts (gw_v (fun _ h9 => List.mem_cons_of_mem _ h9) wm_169 wm_170 wm_171 wm_10 wm_172) rfl rfl rfl (by decide +kernel) ⟨Nat.le_of_ble_eq_true rfl, Nat.le_of_ble_eq_true rfl⟩) (mx_preV (C := RX0) (T := TX0) (N := 12) (ci := 0) hKx hP hD hS hA [2, 3, 4] (by decide) rfl rfl rfl) rfl rfl hl.1 rfl (lv_room (Nat.le_of_ble_eq_true rfl)) dX3_countSlots_45 ⟨Nat.le_of_ble_eq_true rfl, Nat.le_of_ble_eq_true rfl⟩) hP hD hS hA [2, 3, 4] [0, 1] rfl rfl (by decide) (by decide) (fun r21 u21 H locs hq21 hP hD hS => ?_)
    replace hP : va_P (dC, dI) vwCl [(o, .inr (3, [.ref k, .ref op, .int 0, .ref oq, .ref ov, .ref os])), (os, .inl (cI, 5, .inl (upd (upd (upd (upd (upd (fun _ => 0) 0 0) 1 0) 2 0) 3 0) 4 0))), (k, .inr (0, [.ref ks, .ref kw, .ref kc, .int (-6), .int 0, .int 0, .ref kq, .ref km, .ref kd, .int 0, .ref ka, .ref kk])), (ks, .inl (cI, 5, .inl (upd (fun _ => 0) 0 800))), (kw, .inl (cI, 14, .inl (fun _ => 0)))] H := hP
    replace hD : va_D A [(o, .inr (3, [.ref k, .ref op, .int 0, .ref oq, .ref ov, .ref os])), (os, .inl (cI, 5, .inl (upd (upd (upd (upd (upd (fun _ => 0) 0 0) 1 0) 2 0) 3 0) 4 0))), (k, .inr (0, [.ref ks, .ref kw, .ref kc, .int (-6), .int 0, .int 0, .ref kq, .ref km, .ref kd, .int 0, .ref ka, .ref kk])), (ks, .inl (cI, 5, .inl (upd (fun _ => 0) 0 800))), (kw, .inl (cI, 14, .inl (fun _ => 0)))] := hD
    obtain rfl : r21 = 0 := hq21
    refine lv_dup2_11 hx hb dX3_countSlots_48 rfl rfl ?_
    refine va_iald hx hb hK hP 1 0 rfl rfl (vin (by decide) (by decide)) dX3_countSlots_49 ?_
    refine lv_topi (fun x22 e22 => ?_)
    obtain rfl : x22 = 0 := e22.trans (by first | rfl | decide)
    refine lv_iconst (v := 2) hx hb dX3_countSlots_50 (by decide) ?_
    refine lv_iadd hx hb dX3_countSlots_51 ?_
    refine lv_topi (fun x23 e23 => ?_)
    obtain rfl : x23 = 2 := e23.trans (by decide)
    refine va_iast hx hb hK hP hD hS 1 0 rfl rfl (vin (by decide) (by decide)) dX3_countSlots_52 (fun H locs hP hD hS => ?_)
    replace hP : va_P (dC, dI) vwCl [(o, .inr (3, [.ref k, .ref op, .int 0, .ref oq, .ref ov, .ref os])), (os, .inl (cI, 5, .inl (upd (upd (upd (upd (upd (upd (fun _ => 0) 0 0) 1 0) 2 0) 3 0) 4 0) 0 2))), (k, .inr (0, [.ref ks, .ref kw, .ref kc, .int (-6), .int 0, .int 0, .ref kq, .ref km, .ref kd, .int 0, .ref ka, .ref kk])), (ks, .inl (cI, 5, .inl (upd (fun _ => 0) 0 800))), (kw, .inl (cI, 14, .inl (fun _ => 0)))] H := hP
    replace hD : va_D A [(o, .inr (3, [.ref k, .ref op, .int 0, .ref oq, .ref ov, .ref os])), (os, .inl (cI, 5, .inl (upd (upd (upd (upd (upd (upd (fun _ => 0) 0 0) 1 0) 2 0) 3 0) 4 0) 0 2))), (k, .inr (0, [.ref ks, .ref kw, .ref kc, .int (-6), .int 0, .int 0, .ref kq, .ref km, .ref kd, .int 0, .ref ka, .ref kk])), (ks, .inl (cI, 5, .inl (upd (fun _ => 0) 0 800))), (kw, .inl (cI, 14, .inl (fun _ => 0)))] := hD
    refine lv_iinc (v := 1) (lv' := [(2, .int 1), (0, .ref o), (1, .int 1)]) hx hb dX3_countSlots_53 hl (k := 0) rfl (by decide) (by decide) rfl (fun ls hl => ?_)
    refine lv_goto (tgt := 30) hx hb dX3_countSlots_56 (by decide) ?_
    refine lv_iload_n hx hb dX3_countSlots_30 rfl (lv_at hl 0 rfl) ?_
    refine lv_iload_n hx hb dX3_countSlots_31 rfl (lv_at hl 2 rfl) ?_
    refine lv_icmp_gt (tgt := 59) hx hb dX3_countSlots_32 (by decide) (fun c24 => absurd c24 (by decide)) (fun c24 => ?_)
    refine lv_aload_n hx hb dX3_countSlots_35 rfl (lv_at hl 1 rfl) ?_
    refine va_get (D := (dC, dI)) (ci := 3) (v := .ref os) (C := RX3) (T := TX3) (N := 6) hx hb hts hin3 hown hK hP 0 rfl rfl 5 (by decide) hw0 (fun _ h9 => h9) rfl dX3_countSlots_36 ?_
    refine lv_aload_n hx hb dX3_countSlots_39 rfl (lv_at hl 1 rfl) ?_
    refine va_get (D := (dC, dI)) (ci := 3) (v := .ref k) (C := RX3) (T := TX3) (N := 6) hx hb hts hin3 hown hK hP 0 rfl rfl 0 (by decide) hw1 (fun _ h9 => h9) rfl dX3_countSlots_40 ?_
    refine lv_iload_n hx hb dX3_countSlots_43 rfl (lv_at hl 0 rfl) ?_
    refine lv_iconst (v := 0) hx hb dX3_countSlots_44 (by decide) ?_
    refine mx_i (wr := [(o, .inr (3, [.ref k, .ref op, .int 0, .ref oq, .ref ov, .ref os])), (os, .inl (cI, 5, .inl (upd (upd (upd (upd (upd (upd (fun _ => 0) 0 0) 1 0) 2 0) 3 0) 4 0) 0 2)))]) (va_runV (As := [.int 1, .int 0]) (rest := [.ref os]) ⟨hx, hb, hml, hown, hts⟩ (c_X0_windOn l dC dI cI cZ cK tS aK aV k ks kw kc kq km kd ka kk 1 H.size (by have z8 : (1 : Int32).toInt = 1 := rfl; first | omega | decide | assumption | trivial)) (cwV 2 hts (gw_v (fun _ h9 => List.mem_cons_of_mem _ h9) wm_169 wm_170 wm_171 wm_10 wm_172) rfl rfl rfl (by decide +kernel) ⟨Nat.le_of_ble_eq_true rfl, Nat.le_of_ble_eq_true rfl⟩) (mx_preV (C := RX0) (T := TX0) (N := 12) (ci := 0) hKx hP hD hS hA [2, 3, 4] (by decide) rfl rfl rfl) rfl rfl hl.1 rfl (lv_room (Nat.le_of_ble_eq_true rfl)) dX3_countSlots_45 ⟨Nat.le_of_ble_eq_true rfl, Nat.le_of_ble_eq_true rfl⟩) hP hD hS hA [2, 3, 4] [0, 1] rfl rfl (by decide) (by decide) (fun r25 u25 H locs hq25 hP hD hS => ?_)
    replace hP : va_P (dC, dI) vwCl [(o, .inr (3, [.ref k, .ref op, .int 0, .ref oq, .ref ov, .ref os])), (os, .inl (cI, 5, .inl (upd (upd (upd (upd (upd (upd (fun _ => 0) 0 0) 1 0) 2 0) 3 0) 4 0) 0 2))), (k, .inr (0, [.ref ks, .ref kw, .ref kc, .int (-6), .int 0, .int 0, .ref kq, .ref km, .ref kd, .int 0, .ref ka, .ref kk])), (ks, .inl (cI, 5, .inl (upd (fun _ => 0) 0 800))), (kw, .inl (cI, 14, .inl (fun _ => 0)))] H := hP
    replace hD : va_D A [(o, .inr (3, [.ref k, .ref op, .int 0, .ref oq, .ref ov, .ref os])), (os, .inl (cI, 5, .inl (upd (upd (upd (upd (upd (upd (fun _ => 0) 0 0) 1 0) 2 0) 3 0) 4 0) 0 2))), (k, .inr (0, [.ref ks, .ref kw, .ref kc, .int (-6), .int 0, .int 0, .ref kq, .ref km, .ref kd, .int 0, .ref ka, .ref kk])), (ks, .inl (cI, 5, .inl (upd (fun _ => 0) 0 800))), (kw, .inl (cI, 14, .inl (fun _ => 0)))] := hD
    obtain rfl : r25 = 0 := hq25
    refine lv_dup2_11 hx hb dX3_countSlots_48 rfl rfl ?_
    refine va_iald hx hb hK hP 1 0 rfl rfl (vin (by decide) (by decide)) dX3_countSlots_49 ?_
    refine lv_topi (fun x26 e26 => ?_)
    obtain rfl : x26 = 2 := e26.trans (by first | rfl | decide)
    refine lv_iconst (v := 2) hx hb dX3_countSlots_50 (by decide) ?_
    refine lv_iadd hx hb dX3_countSlots_51 ?_
    refine lv_topi (fun x27 e27 => ?_)
    obtain rfl : x27 = 4 := e27.trans (by decide)
    refine va_iast hx hb hK hP hD hS 1 0 rfl rfl (vin (by decide) (by decide)) dX3_countSlots_52 (fun H locs hP hD hS => ?_)
    replace hP : va_P (dC, dI) vwCl [(o, .inr (3, [.ref k, .ref op, .int 0, .ref oq, .ref ov, .ref os])), (os, .inl (cI, 5, .inl (upd (upd (upd (upd (upd (upd (upd (fun _ => 0) 0 0) 1 0) 2 0) 3 0) 4 0) 0 2) 0 4))), (k, .inr (0, [.ref ks, .ref kw, .ref kc, .int (-6), .int 0, .int 0, .ref kq, .ref km, .ref kd, .int 0, .ref ka, .ref kk])), (ks, .inl (cI, 5, .inl (upd (fun _ => 0) 0 800))), (kw, .inl (cI, 14, .inl (fun _ => 0)))] H := hP
    replace hD : va_D A [(o, .inr (3, [.ref k, .ref op, .int 0, .ref oq, .ref ov, .ref os])), (os, .inl (cI, 5, .inl (upd (upd (upd (upd (upd (upd (upd (fun _ => 0) 0 0) 1 0) 2 0) 3 0) 4 0) 0 2) 0 4))), (k, .inr (0, [.ref ks, .ref kw, .ref kc, .int (-6), .int 0, .int 0, .ref kq, .ref km, .ref kd, .int 0, .ref ka, .ref kk])), (ks, .inl (cI, 5, .inl (upd (fun _ => 0) 0 800))), (kw, .inl (cI, 14, .inl (fun _ => 0)))] := hD
    refine lv_iinc (v := 2) (lv' := [(2, .int 2), (0, .ref o), (1, .int 1)]) hx hb dX3_countSlots_53 hl (k := 0) rfl (by decide) (by decide) rfl (fun ls hl => ?_)
    refine lv_goto (tgt := 30) hx hb dX3_countSlots_56 (by decide) ?_
    refine lv_iload_n hx hb dX3_countSlots_30 rfl (lv_at hl 0 rfl) ?_
    refine lv_iload_n hx hb dX3_countSlots_31 rfl (lv_at hl 2 rfl) ?_
    refine lv_icmp_gt (tgt := 59) hx hb dX3_countSlots_32 (by decide) (fun c28 => ?_) (fun c28 => absurd c28 (by decide))
    have hP9 := mx_subP (wc := [(o, .inr (3, [.ref k, .ref op, .int 0, .ref oq, .ref ov, .ref os])), (os, .inl (cI, 5, .inl (upd (upd (upd (upd (upd (upd (upd (fun _ => 0) 0 0) 1 0) 2 0) 3 0) 4 0) 0 2) 0 4))), (k, .inr (0, [.ref ks, .ref kw, .ref kc, .int (-6), .int 0, .int 0, .ref kq, .ref km, .ref kd, .int 0, .ref ka, .ref kk])), (ks, .inl (cI, 5, .inl (upd (fun _ => 0) 0 800))), (kw, .inl (cI, 14, .inl (fun _ => 0)))]) hP [0, 1, 2, 3, 4] rfl
    have hD9 := hD.sub (ws' := [(o, .inr (3, [.ref k, .ref op, .int 0, .ref oq, .ref ov, .ref os])), (os, .inl (cI, 5, .inl (upd (upd (upd (upd (upd (upd (upd (fun _ => 0) 0 0) 1 0) 2 0) 3 0) 4 0) 0 2) 0 4))), (k, .inr (0, [.ref ks, .ref kw, .ref kc, .int (-6), .int 0, .int 0, .ref kq, .ref km, .ref kd, .int 0, .ref ka, .ref kk])), (ks, .inl (cI, 5, .inl (upd (fun _ => 0) 0 800))), (kw, .inl (cI, 14, .inl (fun _ => 0)))]) [0, 1, 2, 3, 4] (by decide) rfl
    exact W.vret hx hb hr (fun t ht hW => ⟨⟨(upd (upd (upd (upd (upd (upd (upd (fun _ => 0) 0 0) 1 0) 2 0) 3 0) 4 0) 0 2) 0 4), rfl, (by refine ⟨?_, ?_, ?_, ?_, ?_, ?_, ?_, ?_, ?_, ?_⟩ <;> decide), by rw [ht]; exact hP9, hD9⟩, hS.F ht⟩) hS.2.2 dX3_countSlots_59
  · have z9 : (2 : Int32).toInt = 2 := rfl
    refine lv_iconst (v := 0) hx hb dX3_countSlots_0 (by decide) ?_
    refine lv_istore_n (lv' := [(2, .int 0), (0, .ref o), (1, .int 2)]) hx hb dX3_countSlots_1 rfl hl (by decide) rfl (fun ls hl => ?_)
    refine lv_iload_n hx hb dX3_countSlots_2 rfl (lv_at hl 0 rfl) ?_
    refine lv_iconst (v := 4) hx hb dX3_countSlots_3 (by decide) ?_
    refine lv_icmp_gt (tgt := 20) hx hb dX3_countSlots_4 (by decide) (fun c29 => absurd c29 (by decide)) (fun c29 => ?_)
    refine lv_aload_n hx hb dX3_countSlots_7 rfl (lv_at hl 1 rfl) ?_
    refine va_get (D := (dC, dI)) (ci := 3) (v := .ref os) (C := RX3) (T := TX3) (N := 6) hx hb hts hin3 hown hK hP 0 rfl rfl 5 (by decide) hw0 (fun _ h9 => h9) rfl dX3_countSlots_8 ?_
    refine lv_iload_n hx hb dX3_countSlots_11 rfl (lv_at hl 0 rfl) ?_
    refine lv_iconst (v := 0) hx hb dX3_countSlots_12 (by decide) ?_
    refine va_iast hx hb hK hP hD hS 1 0 rfl rfl (vin (by decide) (by decide)) dX3_countSlots_13 (fun H locs hP hD hS => ?_)
    replace hP : va_P (dC, dI) vwCl [(o, .inr (3, [.ref k, .ref op, .int 0, .ref oq, .ref ov, .ref os])), (os, .inl (cI, 5, .inl (upd (fun _ => 0) 0 0))), (k, .inr (0, [.ref ks, .ref kw, .ref kc, .int (-6), .int 0, .int 0, .ref kq, .ref km, .ref kd, .int 0, .ref ka, .ref kk])), (ks, .inl (cI, 5, .inl (upd (fun _ => 0) 0 800))), (kw, .inl (cI, 14, .inl (fun _ => 0)))] H := hP
    replace hD : va_D A [(o, .inr (3, [.ref k, .ref op, .int 0, .ref oq, .ref ov, .ref os])), (os, .inl (cI, 5, .inl (upd (fun _ => 0) 0 0))), (k, .inr (0, [.ref ks, .ref kw, .ref kc, .int (-6), .int 0, .int 0, .ref kq, .ref km, .ref kd, .int 0, .ref ka, .ref kk])), (ks, .inl (cI, 5, .inl (upd (fun _ => 0) 0 800))), (kw, .inl (cI, 14, .inl (fun _ => 0)))] := hD
    refine lv_iinc (v := 1) (lv' := [(2, .int 1), (0, .ref o), (1, .int 2)]) hx hb dX3_countSlots_14 hl (k := 0) rfl (by decide) (by decide) rfl (fun ls hl => ?_)
    refine lv_goto (tgt := 2) hx hb dX3_countSlots_17 (by decide) ?_
    refine lv_iload_n hx hb dX3_countSlots_2 rfl (lv_at hl 0 rfl) ?_
    refine lv_iconst (v := 4) hx hb dX3_countSlots_3 (by decide) ?_
    refine lv_icmp_gt (tgt := 20) hx hb dX3_countSlots_4 (by decide) (fun c30 => absurd c30 (by decide)) (fun c30 => ?_)
    refine lv_aload_n hx hb dX3_countSlots_7 rfl (lv_at hl 1 rfl) ?_
    refine va_get (D := (dC, dI)) (ci := 3) (v := .ref os) (C := RX3) (T := TX3) (N := 6) hx hb hts hin3 hown hK hP 0 rfl rfl 5 (by decide) hw0 (fun _ h9 => h9) rfl dX3_countSlots_8 ?_
    refine lv_iload_n hx hb dX3_countSlots_11 rfl (lv_at hl 0 rfl) ?_
    refine lv_iconst (v := 0) hx hb dX3_countSlots_12 (by decide) ?_
    refine va_iast hx hb hK hP hD hS 1 0 rfl rfl (vin (by decide) (by decide)) dX3_countSlots_13 (fun H locs hP hD hS => ?_)
    replace hP : va_P (dC, dI) vwCl [(o, .inr (3, [.ref k, .ref op, .int 0, .ref oq, .ref ov, .ref os])), (os, .inl (cI, 5, .inl (upd (upd (fun _ => 0) 0 0) 1 0))), (k, .inr (0, [.ref ks, .ref kw, .ref kc, .int (-6), .int 0, .int 0, .ref kq, .ref km, .ref kd, .int 0, .ref ka, .ref kk])), (ks, .inl (cI, 5, .inl (upd (fun _ => 0) 0 800))), (kw, .inl (cI, 14, .inl (fun _ => 0)))] H := hP
    replace hD : va_D A [(o, .inr (3, [.ref k, .ref op, .int 0, .ref oq, .ref ov, .ref os])), (os, .inl (cI, 5, .inl (upd (upd (fun _ => 0) 0 0) 1 0))), (k, .inr (0, [.ref ks, .ref kw, .ref kc, .int (-6), .int 0, .int 0, .ref kq, .ref km, .ref kd, .int 0, .ref ka, .ref kk])), (ks, .inl (cI, 5, .inl (upd (fun _ => 0) 0 800))), (kw, .inl (cI, 14, .inl (fun _ => 0)))] := hD
    refine lv_iinc (v := 2) (lv' := [(2, .int 2), (0, .ref o), (1, .int 2)]) hx hb dX3_countSlots_14 hl (k := 0) rfl (by decide) (by decide) rfl (fun ls hl => ?_)
    refine lv_goto (tgt := 2) hx hb dX3_countSlots_17 (by decide) ?_
    refine lv_iload_n hx hb dX3_countSlots_2 rfl (lv_at hl 0 rfl) ?_
    refine lv_iconst (v := 4) hx hb dX3_countSlots_3 (by decide) ?_
    refine lv_icmp_gt (tgt := 20) hx hb dX3_countSlots_4 (by decide) (fun c31 => absurd c31 (by decide)) (fun c31 => ?_)
    refine lv_aload_n hx hb dX3_countSlots_7 rfl (lv_at hl 1 rfl) ?_
    refine va_get (D := (dC, dI)) (ci := 3) (v := .ref os) (C := RX3) (T := TX3) (N := 6) hx hb hts hin3 hown hK hP 0 rfl rfl 5 (by decide) hw0 (fun _ h9 => h9) rfl dX3_countSlots_8 ?_
    refine lv_iload_n hx hb dX3_countSlots_11 rfl (lv_at hl 0 rfl) ?_
    refine lv_iconst (v := 0) hx hb dX3_countSlots_12 (by decide) ?_
    refine va_iast hx hb hK hP hD hS 1 0 rfl rfl (vin (by decide) (by decide)) dX3_countSlots_13 (fun H locs hP hD hS => ?_)
    replace hP : va_P (dC, dI) vwCl [(o, .inr (3, [.ref k, .ref op, .int 0, .ref oq, .ref ov, .ref os])), (os, .inl (cI, 5, .inl (upd (upd (upd (fun _ => 0) 0 0) 1 0) 2 0))), (k, .inr (0, [.ref ks, .ref kw, .ref kc, .int (-6), .int 0, .int 0, .ref kq, .ref km, .ref kd, .int 0, .ref ka, .ref kk])), (ks, .inl (cI, 5, .inl (upd (fun _ => 0) 0 800))), (kw, .inl (cI, 14, .inl (fun _ => 0)))] H := hP
    replace hD : va_D A [(o, .inr (3, [.ref k, .ref op, .int 0, .ref oq, .ref ov, .ref os])), (os, .inl (cI, 5, .inl (upd (upd (upd (fun _ => 0) 0 0) 1 0) 2 0))), (k, .inr (0, [.ref ks, .ref kw, .ref kc, .int (-6), .int 0, .int 0, .ref kq, .ref km, .ref kd, .int 0, .ref ka, .ref kk])), (ks, .inl (cI, 5, .inl (upd (fun _ => 0) 0 800))), (kw, .inl (cI, 14, .inl (fun _ => 0)))] := hD
    refine lv_iinc (v := 3) (lv' := [(2, .int 3), (0, .ref o), (1, .int 2)]) hx hb dX3_countSlots_14 hl (k := 0) rfl (by decide) (by decide) rfl (fun ls hl => ?_)
    refine lv_goto (tgt := 2) hx hb dX3_countSlots_17 (by decide) ?_
    refine lv_iload_n hx hb dX3_countSlots_2 rfl (lv_at hl 0 rfl) ?_
    refine lv_iconst (v := 4) hx hb dX3_countSlots_3 (by decide) ?_
    refine lv_icmp_gt (tgt := 20) hx hb dX3_countSlots_4 (by decide) (fun c32 => absurd c32 (by decide)) (fun c32 => ?_)
    refine lv_aload_n hx hb dX3_countSlots_7 rfl (lv_at hl 1 rfl) ?_
    refine va_get (D := (dC, dI)) (ci := 3) (v := .ref os) (C := RX3) (T := TX3) (N := 6) hx hb hts hin3 hown hK hP 0 rfl rfl 5 (by decide) hw0 (fun _ h9 => h9) rfl dX3_countSlots_8 ?_
    refine lv_iload_n hx hb dX3_countSlots_11 rfl (lv_at hl 0 rfl) ?_
    refine lv_iconst (v := 0) hx hb dX3_countSlots_12 (by decide) ?_
    refine va_iast hx hb hK hP hD hS 1 0 rfl rfl (vin (by decide) (by decide)) dX3_countSlots_13 (fun H locs hP hD hS => ?_)
    replace hP : va_P (dC, dI) vwCl [(o, .inr (3, [.ref k, .ref op, .int 0, .ref oq, .ref ov, .ref os])), (os, .inl (cI, 5, .inl (upd (upd (upd (upd (fun _ => 0) 0 0) 1 0) 2 0) 3 0))), (k, .inr (0, [.ref ks, .ref kw, .ref kc, .int (-6), .int 0, .int 0, .ref kq, .ref km, .ref kd, .int 0, .ref ka, .ref kk])), (ks, .inl (cI, 5, .inl (upd (fun _ => 0) 0 800))), (kw, .inl (cI, 14, .inl (fun _ => 0)))] H := hP
    replace hD : va_D A [(o, .inr (3, [.ref k, .ref op, .int 0, .ref oq, .ref ov, .ref os])), (os, .inl (cI, 5, .inl (upd (upd (upd (upd (fun _ => 0) 0 0) 1 0) 2 0) 3 0))), (k, .inr (0, [.ref ks, .ref kw, .ref kc, .int (-6), .int 0, .int 0, .ref kq, .ref km, .ref kd, .int 0, .ref ka, .ref kk])), (ks, .inl (cI, 5, .inl (upd (fun _ => 0) 0 800))), (kw, .inl (cI, 14, .inl (fun _ => 0)))] := hD
    refine lv_iinc (v := 4) (lv' := [(2, .int 4), (0, .ref o), (1, .int 2)]) hx hb dX3_countSlots_14 hl (k := 0) rfl (by decide) (by decide) rfl (fun ls hl => ?_)
    refine lv_goto (tgt := 2) hx hb dX3_countSlots_17 (by decide) ?_
    refine lv_iload_n hx hb dX3_countSlots_2 rfl (lv_at hl 0 rfl) ?_
    refine lv_iconst (v := 4) hx hb dX3_countSlots_3 (by decide) ?_
    refine lv_icmp_gt (tgt := 20) hx hb dX3_countSlots_4 (by decide) (fun c33 => absurd c33 (by decide)) (fun c33 => ?_)
    refine lv_aload_n hx hb dX3_countSlots_7 rfl (lv_at hl 1 rfl) ?_
    refine va_get (D := (dC, dI)) (ci := 3) (v := .ref os) (C := RX3) (T := TX3) (N := 6) hx hb hts hin3 hown hK hP 0 rfl rfl 5 (by decide) hw0 (fun _ h9 => h9) rfl dX3_countSlots_8 ?_
    refine lv_iload_n hx hb dX3_countSlots_11 rfl (lv_at hl 0 rfl) ?_
    refine lv_iconst (v := 0) hx hb dX3_countSlots_12 (by decide) ?_
    refine va_iast hx hb hK hP hD hS 1 0 rfl rfl (vin (by decide) (by decide)) dX3_countSlots_13 (fun H locs hP hD hS => ?_)
    replace hP : va_P (dC, dI) vwCl [(o, .inr (3, [.ref k, .ref op, .int 0, .ref oq, .ref ov, .ref os])), (os, .inl (cI, 5, .inl (upd (upd (upd (upd (upd (fun _ => 0) 0 0) 1 0) 2 0) 3 0) 4 0))), (k, .inr (0, [.ref ks, .ref kw, .ref kc, .int (-6), .int 0, .int 0, .ref kq, .ref km, .ref kd, .int 0, .ref ka, .ref kk])), (ks, .inl (cI, 5, .inl (upd (fun _ => 0) 0 800))), (kw, .inl (cI, 14, .inl (fun _ => 0)))] H := hP
    replace hD : va_D A [(o, .inr (3, [.ref k, .ref op, .int 0, .ref oq, .ref ov, .ref os])), (os, .inl (cI, 5, .inl (upd (upd (upd (upd (upd (fun _ => 0) 0 0) 1 0) 2 0) 3 0) 4 0))), (k, .inr (0, [.ref ks, .ref kw, .ref kc, .int (-6), .int 0, .int 0, .ref kq, .ref km, .ref kd, .int 0, .ref ka, .ref kk])), (ks, .inl (cI, 5, .inl (upd (fun _ => 0) 0 800))), (kw, .inl (cI, 14, .inl (fun _ => 0)))] := hD
    refine lv_iinc (v := 5) (lv' := [(2, .int 5), (0, .ref o), (1, .int 2)]) hx hb dX3_countSlots_14 hl (k := 0) rfl (by decide) (by decide) rfl (fun ls hl => ?_)
    refine lv_goto (tgt := 2) hx hb dX3_countSlots_17 (by decide) ?_
    refine lv_iload_n hx hb dX3_countSlots_2 rfl (lv_at hl 0 rfl) ?_
    refine lv_iconst (v := 4) hx hb dX3_countSlots_3 (by decide) ?_
    refine lv_icmp_gt (tgt := 20) hx hb dX3_countSlots_4 (by decide) (fun c34 => ?_) (fun c34 => absurd c34 (by decide))
    refine lv_aload_n hx hb dX3_countSlots_20 rfl (lv_at hl 1 rfl) ?_
    refine va_get (D := (dC, dI)) (ci := 3) (v := .ref k) (C := RX3) (T := TX3) (N := 6) hx hb hts hin3 hown hK hP 0 rfl rfl 0 (by decide) hw1 (fun _ h9 => h9) rfl dX3_countSlots_21 ?_
    refine va_get (D := (dC, dI)) (ci := 0) (v := .ref ks) (C := RX0) (T := TX0) (N := 12) hx hb hts hin0 hown hK hP 2 rfl rfl 0 (by decide) hw2 (fun _ h9 => h9) rfl dX3_countSlots_24 ?_
    refine lv_iconst (v := 4) hx hb dX3_countSlots_27 (by decide) ?_
    refine va_iald hx hb hK hP 3 0 rfl rfl (vin (by decide) (by decide)) dX3_countSlots_28 ?_
    refine lv_topi (fun x35 e35 => ?_)
    obtain rfl : x35 = 0 := e35.trans (by first | rfl | decide)
    refine lv_istore_n (lv' := [(2, .int 0), (0, .ref o), (1, .int 2)]) hx hb dX3_countSlots_29 rfl hl (by decide) rfl (fun ls hl => ?_)
    refine lv_iload_n hx hb dX3_countSlots_30 rfl (lv_at hl 0 rfl) ?_
    refine lv_iload_n hx hb dX3_countSlots_31 rfl (lv_at hl 2 rfl) ?_
    refine lv_icmp_gt (tgt := 59) hx hb dX3_countSlots_32 (by decide) (fun c36 => absurd c36 (by decide)) (fun c36 => ?_)
    refine lv_aload_n hx hb dX3_countSlots_35 rfl (lv_at hl 1 rfl) ?_
    refine va_get (D := (dC, dI)) (ci := 3) (v := .ref os) (C := RX3) (T := TX3) (N := 6) hx hb hts hin3 hown hK hP 0 rfl rfl 5 (by decide) hw0 (fun _ h9 => h9) rfl dX3_countSlots_36 ?_
    refine lv_aload_n hx hb dX3_countSlots_39 rfl (lv_at hl 1 rfl) ?_
    refine va_get (D := (dC, dI)) (ci := 3) (v := .ref k) (C := RX3) (T := TX3) (N := 6) hx hb hts hin3 hown hK hP 0 rfl rfl 0 (by decide) hw1 (fun _ h9 => h9) rfl dX3_countSlots_40 ?_
    refine lv_iload_n hx hb dX3_countSlots_43 rfl (lv_at hl 0 rfl) ?_
    refine lv_iconst (v := 0) hx hb dX3_countSlots_44 (by decide) ?_
    refine mx_i (wr := [(o, .inr (3, [.ref k, .ref op, .int 0, .ref oq, .ref ov, .ref os])), (os, .inl (cI, 5, .inl (upd (upd (upd (upd (upd (fun _ => 0) 0 0) 1 0) 2 0) 3 0) 4 0)))]) (va_runV (As := [.int 0, .int 0]) (rest := [.ref os]) ⟨hx, hb, hml, hown, hts⟩ (c_X0_windOn l dC dI cI cZ cK tS aK aV k ks kw kc kq km kd ka kk 0 H.size (by have z8 : (0 : Int32).toInt = 0 := rfl; first | omega | decide | assumption | trivial)) (cwV 2 hts (gw_v (fun _ h9 => List.mem_cons_of_mem _ h9) wm_169 wm_170 wm_171 wm_10 wm_172) rfl rfl rfl (by decide +kernel) ⟨Nat.le_of_ble_eq_true rfl, Nat.le_of_ble_eq_true rfl⟩) (mx_preV (C := RX0) (T := TX0) (N := 12) (ci := 0) hKx hP hD hS hA [2, 3, 4] (by decide) rfl rfl rfl) rfl rfl hl.1 rfl (lv_room (Nat.le_of_ble_eq_true rfl)) dX3_countSlots_45 ⟨Nat.le_of_ble_eq_true rfl, Nat.le_of_ble_eq_true rfl⟩) hP hD hS hA [2, 3, 4] [0, 1] rfl rfl (by decide) (by decide) (fun r37 u37 H locs hq37 hP hD hS => ?_)
    replace hP : va_P (dC, dI) vwCl [(o, .inr (3, [.ref k, .ref op, .int 0, .ref oq, .ref ov, .ref os])), (os, .inl (cI, 5, .inl (upd (upd (upd (upd (upd (fun _ => 0) 0 0) 1 0) 2 0) 3 0) 4 0))), (k, .inr (0, [.ref ks, .ref kw, .ref kc, .int (-6), .int 0, .int 0, .ref kq, .ref km, .ref kd, .int 0, .ref ka, .ref kk])), (ks, .inl (cI, 5, .inl (upd (fun _ => 0) 0 800))), (kw, .inl (cI, 14, .inl (fun _ => 0)))] H := hP
    replace hD : va_D A [(o, .inr (3, [.ref k, .ref op, .int 0, .ref oq, .ref ov, .ref os])), (os, .inl (cI, 5, .inl (upd (upd (upd (upd (upd (fun _ => 0) 0 0) 1 0) 2 0) 3 0) 4 0))), (k, .inr (0, [.ref ks, .ref kw, .ref kc, .int (-6), .int 0, .int 0, .ref kq, .ref km, .ref kd, .int 0, .ref ka, .ref kk])), (ks, .inl (cI, 5, .inl (upd (fun _ => 0) 0 800))), (kw, .inl (cI, 14, .inl (fun _ => 0)))] := hD
    obtain rfl : r37 = 0 := hq37
    refine lv_dup2_11 hx hb dX3_countSlots_48 rfl rfl ?_
    refine va_iald hx hb hK hP 1 0 rfl rfl (vin (by decide) (by decide)) dX3_countSlots_49 ?_
    refine lv_topi (fun x38 e38 => ?_)
    obtain rfl : x38 = 0 := e38.trans (by first | rfl | decide)
    refine lv_iconst (v := 2) hx hb dX3_countSlots_50 (by decide) ?_
    refine lv_iadd hx hb dX3_countSlots_51 ?_
    refine lv_topi (fun x39 e39 => ?_)
    obtain rfl : x39 = 2 := e39.trans (by decide)
    refine va_iast hx hb hK hP hD hS 1 0 rfl rfl (vin (by decide) (by decide)) dX3_countSlots_52 (fun H locs hP hD hS => ?_)
    replace hP : va_P (dC, dI) vwCl [(o, .inr (3, [.ref k, .ref op, .int 0, .ref oq, .ref ov, .ref os])), (os, .inl (cI, 5, .inl (upd (upd (upd (upd (upd (upd (fun _ => 0) 0 0) 1 0) 2 0) 3 0) 4 0) 0 2))), (k, .inr (0, [.ref ks, .ref kw, .ref kc, .int (-6), .int 0, .int 0, .ref kq, .ref km, .ref kd, .int 0, .ref ka, .ref kk])), (ks, .inl (cI, 5, .inl (upd (fun _ => 0) 0 800))), (kw, .inl (cI, 14, .inl (fun _ => 0)))] H := hP
    replace hD : va_D A [(o, .inr (3, [.ref k, .ref op, .int 0, .ref oq, .ref ov, .ref os])), (os, .inl (cI, 5, .inl (upd (upd (upd (upd (upd (upd (fun _ => 0) 0 0) 1 0) 2 0) 3 0) 4 0) 0 2))), (k, .inr (0, [.ref ks, .ref kw, .ref kc, .int (-6), .int 0, .int 0, .ref kq, .ref km, .ref kd, .int 0, .ref ka, .ref kk])), (ks, .inl (cI, 5, .inl (upd (fun _ => 0) 0 800))), (kw, .inl (cI, 14, .inl (fun _ => 0)))] := hD
    refine lv_iinc (v := 1) (lv' := [(2, .int 1), (0, .ref o), (1, .int 2)]) hx hb dX3_countSlots_53 hl (k := 0) rfl (by decide) (by decide) rfl (fun ls hl => ?_)
    refine lv_goto (tgt := 30) hx hb dX3_countSlots_56 (by decide) ?_
    refine lv_iload_n hx hb dX3_countSlots_30 rfl (lv_at hl 0 rfl) ?_
    refine lv_iload_n hx hb dX3_countSlots_31 rfl (lv_at hl 2 rfl) ?_
    refine lv_icmp_gt (tgt := 59) hx hb dX3_countSlots_32 (by decide) (fun c40 => absurd c40 (by decide)) (fun c40 => ?_)
    refine lv_aload_n hx hb dX3_countSlots_35 rfl (lv_at hl 1 rfl) ?_
    refine va_get (D := (dC, dI)) (ci := 3) (v := .ref os) (C := RX3) (T := TX3) (N := 6) hx hb hts hin3 hown hK hP 0 rfl rfl 5 (by decide) hw0 (fun _ h9 => h9) rfl dX3_countSlots_36 ?_
    refine lv_aload_n hx hb dX3_countSlots_39 rfl (lv_at hl 1 rfl) ?_
    refine va_get (D := (dC, dI)) (ci := 3) (v := .ref k) (C := RX3) (T := TX3) (N := 6) hx hb hts hin3 hown hK hP 0 rfl rfl 0 (by decide) hw1 (fun _ h9 => h9) rfl dX3_countSlots_40 ?_
    refine lv_iload_n hx hb dX3_countSlots_43 rfl (lv_at hl 0 rfl) ?_
    refine lv_iconst (v := 0) hx hb dX3_countSlots_44 (by decide) ?_
    refine mx_i (wr := [(o, .inr (3, [.ref k, .ref op, .int 0, .ref oq, .ref ov, .ref os])), (os, .inl (cI, 5, .inl (upd (upd (upd (upd (upd (upd (fun _ => 0) 0 0) 1 0) 2 0) 3 0) 4 0) 0 2)))]) (va_runV (As := [.int 1, .int 0]) (rest := [.ref os]) ⟨hx, hb, hml, hown, hts⟩ (c_X0_windOn l dC dI cI cZ cK tS aK aV k ks kw kc kq km kd ka kk 1 H.size (by have z8 : (1 : Int32).toInt = 1 := rfl; first | omega | decide | assumption | trivial)) (cwV 2 hts (gw_v (fun _ h9 => List.mem_cons_of_mem _ h9) wm_169 wm_170 wm_171 wm_10 wm_172) rfl rfl rfl (by decide +kernel) ⟨Nat.le_of_ble_eq_true rfl, Nat.le_of_ble_eq_true rfl⟩) (mx_preV (C := RX0) (T := TX0) (N := 12) (ci := 0) hKx hP hD hS hA [2, 3, 4] (by decide) rfl rfl rfl) rfl rfl hl.1 rfl (lv_room (Nat.le_of_ble_eq_true rfl)) dX3_countSlots_45 ⟨Nat.le_of_ble_eq_true rfl, Nat.le_of_ble_eq_true rfl⟩) hP hD hS hA [2, 3, 4] [0, 1] rfl rfl (by decide) (by decide) (fun r41 u41 H locs hq41 hP hD hS => ?_)
    replace hP : va_P (dC, dI) vwCl [(o, .inr (3, [.ref k, .ref op, .int 0, .ref oq, .ref ov, .ref os])), (os, .inl (cI, 5, .inl (upd (upd (upd (upd (upd (upd (fun _ => 0) 0 0) 1 0) 2 0) 3 0) 4 0) 0 2))), (k, .inr (0, [.ref ks, .ref kw, .ref kc, .int (-6), .int 0, .int 0, .ref kq, .ref km, .ref kd, .int 0, .ref ka, .ref kk])), (ks, .inl (cI, 5, .inl (upd (fun _ => 0) 0 800))), (kw, .inl (cI, 14, .inl (fun _ => 0)))] H := hP
    replace hD : va_D A [(o, .inr (3, [.ref k, .ref op, .int 0, .ref oq, .ref ov, .ref os])), (os, .inl (cI, 5, .inl (upd (upd (upd (upd (upd (upd (fun _ => 0) 0 0) 1 0) 2 0) 3 0) 4 0) 0 2))), (k, .inr (0, [.ref ks, .ref kw, .ref kc, .int (-6), .int 0, .int 0, .ref kq, .ref km, .ref kd, .int 0, .ref ka, .ref kk])), (ks, .inl (cI, 5, .inl (upd (fun _ => 0) 0 800))), (kw, .inl (cI, 14, .inl (fun _ => 0)))] := hD
    obtain rfl : r41 = 0 := hq41
    refine lv_dup2_11 hx hb dX3_countSlots_48 rfl rfl ?_
    refine va_iald hx hb hK hP 1 0 rfl rfl (vin (by decide) (by decide)) dX3_countSlots_49 ?_
    refine lv_topi (fun x42 e42 => ?_)
    obtain rfl : x42 = 2 := e42.trans (by first | rfl | decide)
    refine lv_iconst (v := 2) hx hb dX3_countSlots_50 (by decide) ?_
    refine lv_iadd hx hb dX3_countSlots_51 ?_
    refine lv_topi (fun x43 e43 => ?_)
    obtain rfl : x43 = 4 := e43.trans (by decide)
    refine va_iast hx hb hK hP hD hS 1 0 rfl rfl (vin (by decide) (by decide)) dX3_countSlots_52 (fun H locs hP hD hS => ?_)
    replace hP : va_P (dC, dI) vwCl [(o, .inr (3, [.ref k, .ref op, .int 0, .ref oq, .ref ov, .ref os])), (os, .inl (cI, 5, .inl (upd (upd (upd (upd (upd (upd (upd (fun _ => 0) 0 0) 1 0) 2 0) 3 0) 4 0) 0 2) 0 4))), (k, .inr (0, [.ref ks, .ref kw, .ref kc, .int (-6), .int 0, .int 0, .ref kq, .ref km, .ref kd, .int 0, .ref ka, .ref kk])), (ks, .inl (cI, 5, .inl (upd (fun _ => 0) 0 800))), (kw, .inl (cI, 14, .inl (fun _ => 0)))] H := hP
    replace hD : va_D A [(o, .inr (3, [.ref k, .ref op, .int 0, .ref oq, .ref ov, .ref os])), (os, .inl (cI, 5, .inl (upd (upd (upd (upd (upd (upd (upd (fun _ => 0) 0 0) 1 0) 2 0) 3 0) 4 0) 0 2) 0 4))), (k, .inr (0, [.ref ks, .ref kw, .ref kc, .int (-6), .int 0, .int 0, .ref kq, .ref km, .ref kd, .int 0, .ref ka, .ref kk])), (ks, .inl (cI, 5, .inl (upd (fun _ => 0) 0 800))), (kw, .inl (cI, 14, .inl (fun _ => 0)))] := hD
    refine lv_iinc (v := 2) (lv' := [(2, .int 2), (0, .ref o), (1, .int 2)]) hx hb dX3_countSlots_53 hl (k := 0) rfl (by decide) (by decide) rfl (fun ls hl => ?_)
    refine lv_goto (tgt := 30) hx hb dX3_countSlots_56 (by decide) ?_
    refine lv_iload_n hx hb dX3_countSlots_30 rfl (lv_at hl 0 rfl) ?_
    refine lv_iload_n hx hb dX3_countSlots_31 rfl (lv_at hl 2 rfl) ?_
    refine lv_icmp_gt (tgt := 59) hx hb dX3_countSlots_32 (by decide) (fun c44 => absurd c44 (by decide)) (fun c44 => ?_)
    refine lv_aload_n hx hb dX3_countSlots_35 rfl (lv_at hl 1 rfl) ?_
    refine va_get (D := (dC, dI)) (ci := 3) (v := .ref os) (C := RX3) (T := TX3) (N := 6) hx hb hts hin3 hown hK hP 0 rfl rfl 5 (by decide) hw0 (fun _ h9 => h9) rfl dX3_countSlots_36 ?_
    refine lv_aload_n hx hb dX3_countSlots_39 rfl (lv_at hl 1 rfl) ?_
    refine va_get (D := (dC, dI)) (ci := 3) (v := .ref k) (C := RX3) (T := TX3) (N := 6) hx hb hts hin3 hown hK hP 0 rfl rfl 0 (by decide) hw1 (fun _ h9 => h9) rfl dX3_countSlots_40 ?_
    refine lv_iload_n hx hb dX3_countSlots_43 rfl (lv_at hl 0 rfl) ?_
    refine lv_iconst (v := 0) hx hb dX3_countSlots_44 (by decide) ?_
    refine mx_i (wr := [(o, .inr (3, [.ref k, .ref op, .int 0, .ref oq, .ref ov, .ref os])), (os, .inl (cI, 5, .inl (upd (upd (upd (upd (upd (upd (upd (fun _ => 0) 0 0) 1 0) 2 0) 3 0) 4 0) 0 2) 0 4)))]) (va_runV (As := [.int 2, .int 0]) (rest := [.ref os]) ⟨hx, hb, hml, hown, hts⟩ (c_X0_windOn l dC dI cI cZ cK tS aK aV k ks kw kc kq km kd ka kk 2 H.size (by have z8 : (2 : Int32).toInt = 2 := rfl; first | omega | decide | assumption | trivial)) (cwV 2 hts (gw_v (fun _ h9 => List.mem_cons_of_mem _ h9) wm_169 wm_170 wm_171 wm_10 wm_172) rfl rfl rfl (by decide +kernel) ⟨Nat.le_of_ble_eq_true rfl, Nat.le_of_ble_eq_true rfl⟩) (mx_preV (C := RX0) (T := TX0) (N := 12) (ci := 0) hKx hP hD hS hA [2, 3, 4] (by decide) rfl rfl rfl) rfl rfl hl.1 rfl (lv_room (Nat.le_of_ble_eq_true rfl)) dX3_countSlots_45 ⟨Nat.le_of_ble_eq_true rfl, Nat.le_of_ble_eq_true rfl⟩) hP hD hS hA [2, 3, 4] [0, 1] rfl rfl (by decide) (by decide) (fun r45 u45 H locs hq45 hP hD hS => ?_)
    replace hP : va_P (dC, dI) vwCl [(o, .inr (3, [.ref k, .ref op, .int 0, .ref oq, .ref ov, .ref os])), (os, .inl (cI, 5, .inl (upd (upd (upd (upd (upd (upd (upd (fun _ => 0) 0 0) 1 0) 2 0) 3 0) 4 0) 0 2) 0 4))), (k, .inr (0, [.ref ks, .ref kw, .ref kc, .int (-6), .int 0, .int 0, .ref kq, .ref km, .ref kd, .int 0, .ref ka, .ref kk])), (ks, .inl (cI, 5, .inl (upd (fun _ => 0) 0 800))), (kw, .inl (cI, 14, .inl (fun _ => 0)))] H := hP
    replace hD : va_D A [(o, .inr (3, [.ref k, .ref op, .int 0, .ref oq, .ref ov, .ref os])), (os, .inl (cI, 5, .inl (upd (upd (upd (upd (upd (upd (upd (fun _ => 0) 0 0) 1 0) 2 0) 3 0) 4 0) 0 2) 0 4))), (k, .inr (0, [.ref ks, .ref kw, .ref kc, .int (-6), .int 0, .int 0, .ref kq, .ref km, .ref kd, .int 0, .ref ka, .ref kk])), (ks, .inl (cI, 5, .inl (upd (fun _ => 0) 0 800))), (kw, .inl (cI, 14, .inl (fun _ => 0)))] := hD
    obtain rfl : r45 = 0 := hq45
    refine lv_dup2_11 hx hb dX3_countSlots_48 rfl rfl ?_
    refine va_iald hx hb hK hP 1 0 rfl rfl (vin (by decide) (by decide)) dX3_countSlots_49 ?_
    refine lv_topi (fun x46 e46 => ?_)
    obtain rfl : x46 = 4 := e46.trans (by first | rfl | decide)
    refine lv_iconst (v := 2) hx hb dX3_countSlots_50 (by decide) ?_
    refine lv_iadd hx hb dX3_countSlots_51 ?_
    refine lv_topi (fun x47 e47 => ?_)
    obtain rfl : x47 = 6 := e47.trans (by decide)
    refine va_iast hx hb hK hP hD hS 1 0 rfl rfl (vin (by decide) (by decide)) dX3_countSlots_52 (fun H locs hP hD hS => ?_)
    replace hP : va_P (dC, dI) vwCl [(o, .inr (3, [.ref k, .ref op, .int 0, .ref oq, .ref ov, .ref os])), (os, .inl (cI, 5, .inl (upd (upd (upd (upd (upd (upd (upd (upd (fun _ => 0) 0 0) 1 0) 2 0) 3 0) 4 0) 0 2) 0 4) 0 6))), (k, .inr (0, [.ref ks, .ref kw, .ref kc, .int (-6), .int 0, .int 0, .ref kq, .ref km, .ref kd, .int 0, .ref ka, .ref kk])), (ks, .inl (cI, 5, .inl (upd (fun _ => 0) 0 800))), (kw, .inl (cI, 14, .inl (fun _ => 0)))] H := hP
    replace hD : va_D A [(o, .inr (3, [.ref k, .ref op, .int 0, .ref oq, .ref ov, .ref os])), (os, .inl (cI, 5, .inl (upd (upd (upd (upd (upd (upd (upd (upd (fun _ => 0) 0 0) 1 0) 2 0) 3 0) 4 0) 0 2) 0 4) 0 6))), (k, .inr (0, [.ref ks, .ref kw, .ref kc, .int (-6), .int 0, .int 0, .ref kq, .ref km, .ref kd, .int 0, .ref ka, .ref kk])), (ks, .inl (cI, 5, .inl (upd (fun _ => 0) 0 800))), (kw, .inl (cI, 14, .inl (fun _ => 0)))] := hD
    refine lv_iinc (v := 3) (lv' := [(2, .int 3), (0, .ref o), (1, .int 2)]) hx hb dX3_countSlots_53 hl (k := 0) rfl (by decide) (by decide) rfl (fun ls hl => ?_)
    refine lv_goto (tgt := 30) hx hb dX3_countSlots_56 (by decide) ?_
    refine lv_iload_n hx hb dX3_countSlots_30 rfl (lv_at hl 0 rfl) ?_
    refine lv_iload_n hx hb dX3_countSlots_31 rfl (lv_at hl 2 rfl) ?_
    refine lv_icmp_gt (tgt := 59) hx hb dX3_countSlots_32 (by decide) (fun c48 => ?_) (fun c48 => absurd c48 (by decide))
    have hP9 := mx_subP (wc := [(o, .inr (3, [.ref k, .ref op, .int 0, .ref oq, .ref ov, .ref os])), (os, .inl (cI, 5, .inl (upd (upd (upd (upd (upd (upd (upd (upd (fun _ => 0) 0 0) 1 0) 2 0) 3 0) 4 0) 0 2) 0 4) 0 6))), (k, .inr (0, [.ref ks, .ref kw, .ref kc, .int (-6), .int 0, .int 0, .ref kq, .ref km, .ref kd, .int 0, .ref ka, .ref kk])), (ks, .inl (cI, 5, .inl (upd (fun _ => 0) 0 800))), (kw, .inl (cI, 14, .inl (fun _ => 0)))]) hP [0, 1, 2, 3, 4] rfl
    have hD9 := hD.sub (ws' := [(o, .inr (3, [.ref k, .ref op, .int 0, .ref oq, .ref ov, .ref os])), (os, .inl (cI, 5, .inl (upd (upd (upd (upd (upd (upd (upd (upd (fun _ => 0) 0 0) 1 0) 2 0) 3 0) 4 0) 0 2) 0 4) 0 6))), (k, .inr (0, [.ref ks, .ref kw, .ref kc, .int (-6), .int 0, .int 0, .ref kq, .ref km, .ref kd, .int 0, .ref ka, .ref kk])), (ks, .inl (cI, 5, .inl (upd (fun _ => 0) 0 800))), (kw, .inl (cI, 14, .inl (fun _ => 0)))]) [0, 1, 2, 3, 4] (by decide) rfl
    exact W.vret hx hb hr (fun t ht hW => ⟨⟨(upd (upd (upd (upd (upd (upd (upd (upd (fun _ => 0) 0 0) 1 0) 2 0) 3 0) 4 0) 0 2) 0 4) 0 6), rfl, (by refine ⟨?_, ?_, ?_, ?_, ?_, ?_, ?_, ?_, ?_, ?_⟩ <;> decide), by rw [ht]; exact hP9, hD9⟩, hS.F ht⟩) hS.2.2 dX3_countSlots_59
  · have z9 : (3 : Int32).toInt = 3 := rfl
    refine lv_iconst (v := 0) hx hb dX3_countSlots_0 (by decide) ?_
    refine lv_istore_n (lv' := [(2, .int 0), (0, .ref o), (1, .int 3)]) hx hb dX3_countSlots_1 rfl hl (by decide) rfl (fun ls hl => ?_)
    refine lv_iload_n hx hb dX3_countSlots_2 rfl (lv_at hl 0 rfl) ?_
    refine lv_iconst (v := 4) hx hb dX3_countSlots_3 (by decide) ?_
    refine lv_icmp_gt (tgt := 20) hx hb dX3_countSlots_4 (by decide) (fun c49 => absurd c49 (by decide)) (fun c49 => ?_)
    refine lv_aload_n hx hb dX3_countSlots_7 rfl (lv_at hl 1 rfl) ?_
    refine va_get (D := (dC, dI)) (ci := 3) (v := .ref os) (C := RX3) (T := TX3) (N := 6) hx hb hts hin3 hown hK hP 0 rfl rfl 5 (by decide) hw0 (fun _ h9 => h9) rfl dX3_countSlots_8 ?_
    refine lv_iload_n hx hb dX3_countSlots_11 rfl (lv_at hl 0 rfl) ?_
    refine lv_iconst (v := 0) hx hb dX3_countSlots_12 (by decide) ?_
    refine va_iast hx hb hK hP hD hS 1 0 rfl rfl (vin (by decide) (by decide)) dX3_countSlots_13 (fun H locs hP hD hS => ?_)
    replace hP : va_P (dC, dI) vwCl [(o, .inr (3, [.ref k, .ref op, .int 0, .ref oq, .ref ov, .ref os])), (os, .inl (cI, 5, .inl (upd (fun _ => 0) 0 0))), (k, .inr (0, [.ref ks, .ref kw, .ref kc, .int (-6), .int 0, .int 0, .ref kq, .ref km, .ref kd, .int 0, .ref ka, .ref kk])), (ks, .inl (cI, 5, .inl (upd (fun _ => 0) 0 800))), (kw, .inl (cI, 14, .inl (fun _ => 0)))] H := hP
    replace hD : va_D A [(o, .inr (3, [.ref k, .ref op, .int 0, .ref oq, .ref ov, .ref os])), (os, .inl (cI, 5, .inl (upd (fun _ => 0) 0 0))), (k, .inr (0, [.ref ks, .ref kw, .ref kc, .int (-6), .int 0, .int 0, .ref kq, .ref km, .ref kd, .int 0, .ref ka, .ref kk])), (ks, .inl (cI, 5, .inl (upd (fun _ => 0) 0 800))), (kw, .inl (cI, 14, .inl (fun _ => 0)))] := hD
    refine lv_iinc (v := 1) (lv' := [(2, .int 1), (0, .ref o), (1, .int 3)]) hx hb dX3_countSlots_14 hl (k := 0) rfl (by decide) (by decide) rfl (fun ls hl => ?_)
    refine lv_goto (tgt := 2) hx hb dX3_countSlots_17 (by decide) ?_
    refine lv_iload_n hx hb dX3_countSlots_2 rfl (lv_at hl 0 rfl) ?_
    refine lv_iconst (v := 4) hx hb dX3_countSlots_3 (by decide) ?_
    refine lv_icmp_gt (tgt := 20) hx hb dX3_countSlots_4 (by decide) (fun c50 => absurd c50 (by decide)) (fun c50 => ?_)
    refine lv_aload_n hx hb dX3_countSlots_7 rfl (lv_at hl 1 rfl) ?_
    refine va_get (D := (dC, dI)) (ci := 3) (v := .ref os) (C := RX3) (T := TX3) (N := 6) hx hb hts hin3 hown hK hP 0 rfl rfl 5 (by decide) hw0 (fun _ h9 => h9) rfl dX3_countSlots_8 ?_
    refine lv_iload_n hx hb dX3_countSlots_11 rfl (lv_at hl 0 rfl) ?_
    refine lv_iconst (v := 0) hx hb dX3_countSlots_12 (by decide) ?_
    refine va_iast hx hb hK hP hD hS 1 0 rfl rfl (vin (by decide) (by decide)) dX3_countSlots_13 (fun H locs hP hD hS => ?_)
    replace hP : va_P (dC, dI) vwCl [(o, .inr (3, [.ref k, .ref op, .int 0, .ref oq, .ref ov, .ref os])), (os, .inl (cI, 5, .inl (upd (upd (fun _ => 0) 0 0) 1 0))), (k, .inr (0, [.ref ks, .ref kw, .ref kc, .int (-6), .int 0, .int 0, .ref kq, .ref km, .ref kd, .int 0, .ref ka, .ref kk])), (ks, .inl (cI, 5, .inl (upd (fun _ => 0) 0 800))), (kw, .inl (cI, 14, .inl (fun _ => 0)))] H := hP
    replace hD : va_D A [(o, .inr (3, [.ref k, .ref op, .int 0, .ref oq, .ref ov, .ref os])), (os, .inl (cI, 5, .inl (upd (upd (fun _ => 0) 0 0) 1 0))), (k, .inr (0, [.ref ks, .ref kw, .ref kc, .int (-6), .int 0, .int 0, .ref kq, .ref km, .ref kd, .int 0, .ref ka, .ref kk])), (ks, .inl (cI, 5, .inl (upd (fun _ => 0) 0 800))), (kw, .inl (cI, 14, .inl (fun _ => 0)))] := hD
    refine lv_iinc (v := 2) (lv' := [(2, .int 2), (0, .ref o), (1, .int 3)]) hx hb dX3_countSlots_14 hl (k := 0) rfl (by decide) (by decide) rfl (fun ls hl => ?_)
    refine lv_goto (tgt := 2) hx hb dX3_countSlots_17 (by decide) ?_
    refine lv_iload_n hx hb dX3_countSlots_2 rfl (lv_at hl 0 rfl) ?_
    refine lv_iconst (v := 4) hx hb dX3_countSlots_3 (by decide) ?_
    refine lv_icmp_gt (tgt := 20) hx hb dX3_countSlots_4 (by decide) (fun c51 => absurd c51 (by decide)) (fun c51 => ?_)
    refine lv_aload_n hx hb dX3_countSlots_7 rfl (lv_at hl 1 rfl) ?_
    refine va_get (D := (dC, dI)) (ci := 3) (v := .ref os) (C := RX3) (T := TX3) (N := 6) hx hb hts hin3 hown hK hP 0 rfl rfl 5 (by decide) hw0 (fun _ h9 => h9) rfl dX3_countSlots_8 ?_
    refine lv_iload_n hx hb dX3_countSlots_11 rfl (lv_at hl 0 rfl) ?_
    refine lv_iconst (v := 0) hx hb dX3_countSlots_12 (by decide) ?_
    refine va_iast hx hb hK hP hD hS 1 0 rfl rfl (vin (by decide) (by decide)) dX3_countSlots_13 (fun H locs hP hD hS => ?_)
    replace hP : va_P (dC, dI) vwCl [(o, .inr (3, [.ref k, .ref op, .int 0, .ref oq, .ref ov, .ref os])), (os, .inl (cI, 5, .inl (upd (upd (upd (fun _ => 0) 0 0) 1 0) 2 0))), (k, .inr (0, [.ref ks, .ref kw, .ref kc, .int (-6), .int 0, .int 0, .ref kq, .ref km, .ref kd, .int 0, .ref ka, .ref kk])), (ks, .inl (cI, 5, .inl (upd (fun _ => 0) 0 800))), (kw, .inl (cI, 14, .inl (fun _ => 0)))] H := hP
    replace hD : va_D A [(o, .inr (3, [.ref k, .ref op, .int 0, .ref oq, .ref ov, .ref os])), (os, .inl (cI, 5, .inl (upd (upd (upd (fun _ => 0) 0 0) 1 0) 2 0))), (k, .inr (0, [.ref ks, .ref kw, .ref kc, .int (-6), .int 0, .int 0, .ref kq, .ref km, .ref kd, .int 0, .ref ka, .ref kk])), (ks, .inl (cI, 5, .inl (upd (fun _ => 0) 0 800))), (kw, .inl (cI, 14, .inl (fun _ => 0)))] := hD
    refine lv_iinc (v := 3) (lv' := [(2, .int 3), (0, .ref o), (1, .int 3)]) hx hb dX3_countSlots_14 hl (k := 0) rfl (by decide) (by decide) rfl (fun ls hl => ?_)
    refine lv_goto (tgt := 2) hx hb dX3_countSlots_17 (by decide) ?_
    refine lv_iload_n hx hb dX3_countSlots_2 rfl (lv_at hl 0 rfl) ?_
    refine lv_iconst (v := 4) hx hb dX3_countSlots_3 (by decide) ?_
    refine lv_icmp_gt (tgt := 20) hx hb dX3_countSlots_4 (by decide) (fun c52 => absurd c52 (by decide)) (fun c52 => ?_)
    refine lv_aload_n hx hb dX3_countSlots_7 rfl (lv_at hl 1 rfl) ?_
    refine va_get (D := (dC, dI)) (ci := 3) (v := .ref os) (C := RX3) (T := TX3) (N := 6) hx hb hts hin3 hown hK hP 0 rfl rfl 5 (by decide) hw0 (fun _ h9 => h9) rfl dX3_countSlots_8 ?_
    refine lv_iload_n hx hb dX3_countSlots_11 rfl (lv_at hl 0 rfl) ?_
    refine lv_iconst (v := 0) hx hb dX3_countSlots_12 (by decide) ?_
    refine va_iast hx hb hK hP hD hS 1 0 rfl rfl (vin (by decide) (by decide)) dX3_countSlots_13 (fun H locs hP hD hS => ?_)
    replace hP : va_P (dC, dI) vwCl [(o, .inr (3, [.ref k, .ref op, .int 0, .ref oq, .ref ov, .ref os])), (os, .inl (cI, 5, .inl (upd (upd (upd (upd (fun _ => 0) 0 0) 1 0) 2 0) 3 0))), (k, .inr (0, [.ref ks, .ref kw, .ref kc, .int (-6), .int 0, .int 0, .ref kq, .ref km, .ref kd, .int 0, .ref ka, .ref kk])), (ks, .inl (cI, 5, .inl (upd (fun _ => 0) 0 800))), (kw, .inl (cI, 14, .inl (fun _ => 0)))] H := hP
    replace hD : va_D A [(o, .inr (3, [.ref k, .ref op, .int 0, .ref oq, .ref ov, .ref os])), (os, .inl (cI, 5, .inl (upd (upd (upd (upd (fun _ => 0) 0 0) 1 0) 2 0) 3 0))), (k, .inr (0, [.ref ks, .ref kw, .ref kc, .int (-6), .int 0, .int 0, .ref kq, .ref km, .ref kd, .int 0, .ref ka, .ref kk])), (ks, .inl (cI, 5, .inl (upd (fun _ => 0) 0 800))), (kw, .inl (cI, 14, .inl (fun _ => 0)))] := hD
    refine lv_iinc (v := 4) (lv' := [(2, .int 4), (0, .ref o), (1, .int 3)]) hx hb dX3_countSlots_14 hl (k := 0) rfl (by decide) (by decide) rfl (fun ls hl => ?_)
    refine lv_goto (tgt := 2) hx hb dX3_countSlots_17 (by decide) ?_
    refine lv_iload_n hx hb dX3_countSlots_2 rfl (lv_at hl 0 rfl) ?_
    refine lv_iconst (v := 4) hx hb dX3_countSlots_3 (by decide) ?_
    refine lv_icmp_gt (tgt := 20) hx hb dX3_countSlots_4 (by decide) (fun c53 => absurd c53 (by decide)) (fun c53 => ?_)
    refine lv_aload_n hx hb dX3_countSlots_7 rfl (lv_at hl 1 rfl) ?_
    refine va_get (D := (dC, dI)) (ci := 3) (v := .ref os) (C := RX3) (T := TX3) (N := 6) hx hb hts hin3 hown hK hP 0 rfl rfl 5 (by decide) hw0 (fun _ h9 => h9) rfl dX3_countSlots_8 ?_
    refine lv_iload_n hx hb dX3_countSlots_11 rfl (lv_at hl 0 rfl) ?_
    refine lv_iconst (v := 0) hx hb dX3_countSlots_12 (by decide) ?_
    refine va_iast hx hb hK hP hD hS 1 0 rfl rfl (vin (by decide) (by decide)) dX3_countSlots_13 (fun H locs hP hD hS => ?_)
    replace hP : va_P (dC, dI) vwCl [(o, .inr (3, [.ref k, .ref op, .int 0, .ref oq, .ref ov, .ref os])), (os, .inl (cI, 5, .inl (upd (upd (upd (upd (upd (fun _ => 0) 0 0) 1 0) 2 0) 3 0) 4 0))), (k, .inr (0, [.ref ks, .ref kw, .ref kc, .int (-6), .int 0, .int 0, .ref kq, .ref km, .ref kd, .int 0, .ref ka, .ref kk])), (ks, .inl (cI, 5, .inl (upd (fun _ => 0) 0 800))), (kw, .inl (cI, 14, .inl (fun _ => 0)))] H := hP
    replace hD : va_D A [(o, .inr (3, [.ref k, .ref op, .int 0, .ref oq, .ref ov, .ref os])), (os, .inl (cI, 5, .inl (upd (upd (upd (upd (upd (fun _ => 0) 0 0) 1 0) 2 0) 3 0) 4 0))), (k, .inr (0, [.ref ks, .ref kw, .ref kc, .int (-6), .int 0, .int 0, .ref kq, .ref km, .ref kd, .int 0, .ref ka, .ref kk])), (ks, .inl (cI, 5, .inl (upd (fun _ => 0) 0 800))), (kw, .inl (cI, 14, .inl (fun _ => 0)))] := hD
    refine lv_iinc (v := 5) (lv' := [(2, .int 5), (0, .ref o), (1, .int 3)]) hx hb dX3_countSlots_14 hl (k := 0) rfl (by decide) (by decide) rfl (fun ls hl => ?_)
    refine lv_goto (tgt := 2) hx hb dX3_countSlots_17 (by decide) ?_
    refine lv_iload_n hx hb dX3_countSlots_2 rfl (lv_at hl 0 rfl) ?_
    refine lv_iconst (v := 4) hx hb dX3_countSlots_3 (by decide) ?_
    refine lv_icmp_gt (tgt := 20) hx hb dX3_countSlots_4 (by decide) (fun c54 => ?_) (fun c54 => absurd c54 (by decide))
    refine lv_aload_n hx hb dX3_countSlots_20 rfl (lv_at hl 1 rfl) ?_
    refine va_get (D := (dC, dI)) (ci := 3) (v := .ref k) (C := RX3) (T := TX3) (N := 6) hx hb hts hin3 hown hK hP 0 rfl rfl 0 (by decide) hw1 (fun _ h9 => h9) rfl dX3_countSlots_21 ?_
    refine va_get (D := (dC, dI)) (ci := 0) (v := .ref ks) (C := RX0) (T := TX0) (N := 12) hx hb hts hin0 hown hK hP 2 rfl rfl 0 (by decide) hw2 (fun _ h9 => h9) rfl dX3_countSlots_24 ?_
    refine lv_iconst (v := 4) hx hb dX3_countSlots_27 (by decide) ?_
    refine va_iald hx hb hK hP 3 0 rfl rfl (vin (by decide) (by decide)) dX3_countSlots_28 ?_
    refine lv_topi (fun x55 e55 => ?_)
    obtain rfl : x55 = 0 := e55.trans (by first | rfl | decide)
    refine lv_istore_n (lv' := [(2, .int 0), (0, .ref o), (1, .int 3)]) hx hb dX3_countSlots_29 rfl hl (by decide) rfl (fun ls hl => ?_)
    refine lv_iload_n hx hb dX3_countSlots_30 rfl (lv_at hl 0 rfl) ?_
    refine lv_iload_n hx hb dX3_countSlots_31 rfl (lv_at hl 2 rfl) ?_
    refine lv_icmp_gt (tgt := 59) hx hb dX3_countSlots_32 (by decide) (fun c56 => absurd c56 (by decide)) (fun c56 => ?_)
    refine lv_aload_n hx hb dX3_countSlots_35 rfl (lv_at hl 1 rfl) ?_
    refine va_get (D := (dC, dI)) (ci := 3) (v := .ref os) (C := RX3) (T := TX3) (N := 6) hx hb hts hin3 hown hK hP 0 rfl rfl 5 (by decide) hw0 (fun _ h9 => h9) rfl dX3_countSlots_36 ?_
    refine lv_aload_n hx hb dX3_countSlots_39 rfl (lv_at hl 1 rfl) ?_
    refine va_get (D := (dC, dI)) (ci := 3) (v := .ref k) (C := RX3) (T := TX3) (N := 6) hx hb hts hin3 hown hK hP 0 rfl rfl 0 (by decide) hw1 (fun _ h9 => h9) rfl dX3_countSlots_40 ?_
    refine lv_iload_n hx hb dX3_countSlots_43 rfl (lv_at hl 0 rfl) ?_
    refine lv_iconst (v := 0) hx hb dX3_countSlots_44 (by decide) ?_
    refine mx_i (wr := [(o, .inr (3, [.ref k, .ref op, .int 0, .ref oq, .ref ov, .ref os])), (os, .inl (cI, 5, .inl (upd (upd (upd (upd (upd (fun _ => 0) 0 0) 1 0) 2 0) 3 0) 4 0)))]) (va_runV (As := [.int 0, .int 0]) (rest := [.ref os]) ⟨hx, hb, hml, hown, hts⟩ (c_X0_windOn l dC dI cI cZ cK tS aK aV k ks kw kc kq km kd ka kk 0 H.size (by have z8 : (0 : Int32).toInt = 0 := rfl; first | omega | decide | assumption | trivial)) (cwV 2 hts (gw_v (fun _ h9 => List.mem_cons_of_mem _ h9) wm_169 wm_170 wm_171 wm_10 wm_172) rfl rfl rfl (by decide +kernel) ⟨Nat.le_of_ble_eq_true rfl, Nat.le_of_ble_eq_true rfl⟩) (mx_preV (C := RX0) (T := TX0) (N := 12) (ci := 0) hKx hP hD hS hA [2, 3, 4] (by decide) rfl rfl rfl) rfl rfl hl.1 rfl (lv_room (Nat.le_of_ble_eq_true rfl)) dX3_countSlots_45 ⟨Nat.le_of_ble_eq_true rfl, Nat.le_of_ble_eq_true rfl⟩) hP hD hS hA [2, 3, 4] [0, 1] rfl rfl (by decide) (by decide) (fun r57 u57 H locs hq57 hP hD hS => ?_)
    replace hP : va_P (dC, dI) vwCl [(o, .inr (3, [.ref k, .ref op, .int 0, .ref oq, .ref ov, .ref os])), (os, .inl (cI, 5, .inl (upd (upd (upd (upd (upd (fun _ => 0) 0 0) 1 0) 2 0) 3 0) 4 0))), (k, .inr (0, [.ref ks, .ref kw, .ref kc, .int (-6), .int 0, .int 0, .ref kq, .ref km, .ref kd, .int 0, .ref ka, .ref kk])), (ks, .inl (cI, 5, .inl (upd (fun _ => 0) 0 800))), (kw, .inl (cI, 14, .inl (fun _ => 0)))] H := hP
    replace hD : va_D A [(o, .inr (3, [.ref k, .ref op, .int 0, .ref oq, .ref ov, .ref os])), (os, .inl (cI, 5, .inl (upd (upd (upd (upd (upd (fun _ => 0) 0 0) 1 0) 2 0) 3 0) 4 0))), (k, .inr (0, [.ref ks, .ref kw, .ref kc, .int (-6), .int 0, .int 0, .ref kq, .ref km, .ref kd, .int 0, .ref ka, .ref kk])), (ks, .inl (cI, 5, .inl (upd (fun _ => 0) 0 800))), (kw, .inl (cI, 14, .inl (fun _ => 0)))] := hD
    obtain rfl : r57 = 0 := hq57
    refine lv_dup2_11 hx hb dX3_countSlots_48 rfl rfl ?_
    refine va_iald hx hb hK hP 1 0 rfl rfl (vin (by decide) (by decide)) dX3_countSlots_49 ?_
    refine lv_topi (fun x58 e58 => ?_)
    obtain rfl : x58 = 0 := e58.trans (by first | rfl | decide)
    refine lv_iconst (v := 2) hx hb dX3_countSlots_50 (by decide) ?_
    refine lv_iadd hx hb dX3_countSlots_51 ?_
    refine lv_topi (fun x59 e59 => ?_)
    obtain rfl : x59 = 2 := e59.trans (by decide)
    refine va_iast hx hb hK hP hD hS 1 0 rfl rfl (vin (by decide) (by decide)) dX3_countSlots_52 (fun H locs hP hD hS => ?_)
    replace hP : va_P (dC, dI) vwCl [(o, .inr (3, [.ref k, .ref op, .int 0, .ref oq, .ref ov, .ref os])), (os, .inl (cI, 5, .inl (upd (upd (upd (upd (upd (upd (fun _ => 0) 0 0) 1 0) 2 0) 3 0) 4 0) 0 2))), (k, .inr (0, [.ref ks, .ref kw, .ref kc, .int (-6), .int 0, .int 0, .ref kq, .ref km, .ref kd, .int 0, .ref ka, .ref kk])), (ks, .inl (cI, 5, .inl (upd (fun _ => 0) 0 800))), (kw, .inl (cI, 14, .inl (fun _ => 0)))] H := hP
    replace hD : va_D A [(o, .inr (3, [.ref k, .ref op, .int 0, .ref oq, .ref ov, .ref os])), (os, .inl (cI, 5, .inl (upd (upd (upd (upd (upd (upd (fun _ => 0) 0 0) 1 0) 2 0) 3 0) 4 0) 0 2))), (k, .inr (0, [.ref ks, .ref kw, .ref kc, .int (-6), .int 0, .int 0, .ref kq, .ref km, .ref kd, .int 0, .ref ka, .ref kk])), (ks, .inl (cI, 5, .inl (upd (fun _ => 0) 0 800))), (kw, .inl (cI, 14, .inl (fun _ => 0)))] := hD
    refine lv_iinc (v := 1) (lv' := [(2, .int 1), (0, .ref o), (1, .int 3)]) hx hb dX3_countSlots_53 hl (k := 0) rfl (by decide) (by decide) rfl (fun ls hl => ?_)
    refine lv_goto (tgt := 30) hx hb dX3_countSlots_56 (by decide) ?_
    refine lv_iload_n hx hb dX3_countSlots_30 rfl (lv_at hl 0 rfl) ?_
    refine lv_iload_n hx hb dX3_countSlots_31 rfl (lv_at hl 2 rfl) ?_
    refine lv_icmp_gt (tgt := 59) hx hb dX3_countSlots_32 (by decide) (fun c60 => absurd c60 (by decide)) (fun c60 => ?_)
    refine lv_aload_n hx hb dX3_countSlots_35 rfl (lv_at hl 1 rfl) ?_
    refine va_get (D := (dC, dI)) (ci := 3) (v := .ref os) (C := RX3) (T := TX3) (N := 6) hx hb hts hin3 hown hK hP 0 rfl rfl 5 (by decide) hw0 (fun _ h9 => h9) rfl dX3_countSlots_36 ?_
    refine lv_aload_n hx hb dX3_countSlots_39 rfl (lv_at hl 1 rfl) ?_
    refine va_get (D := (dC, dI)) (ci := 3) (v := .ref k) (C := RX3) (T := TX3) (N := 6) hx hb hts hin3 hown hK hP 0 rfl rfl 0 (by decide) hw1 (fun _ h9 => h9) rfl dX3_countSlots_40 ?_
    refine lv_iload_n hx hb dX3_countSlots_43 rfl (lv_at hl 0 rfl) ?_
    refine lv_iconst (v := 0) hx hb dX3_countSlots_44 (by decide) ?_
    refine mx_i (wr := [(o, .inr (3, [.ref k, .ref op, .int 0, .ref oq, .ref ov, .ref os])), (os, .inl (cI, 5, .inl (upd (upd (upd (upd (upd (upd (fun _ => 0) 0 0) 1 0) 2 0) 3 0) 4 0) 0 2)))]) (va_runV (As := [.int 1, .int 0]) (rest := [.ref os]) ⟨hx, hb, hml, hown, hts⟩ (c_X0_windOn l dC dI cI cZ cK tS aK aV k ks kw kc kq km kd ka kk 1 H.size (by have z8 : (1 : Int32).toInt = 1 := rfl; first | omega | decide | assumption | trivial)) (cwV 2 hts (gw_v (fun _ h9 => List.mem_cons_of_mem _ h9) wm_169 wm_170 wm_171 wm_10 wm_172) rfl rfl rfl (by decide +kernel) ⟨Nat.le_of_ble_eq_true rfl, Nat.le_of_ble_eq_true rfl⟩) (mx_preV (C := RX0) (T := TX0) (N := 12) (ci := 0) hKx hP hD hS hA [2, 3, 4] (by decide) rfl rfl rfl) rfl rfl hl.1 rfl (lv_room (Nat.le_of_ble_eq_true rfl)) dX3_countSlots_45 ⟨Nat.le_of_ble_eq_true rfl, Nat.le_of_ble_eq_true rfl⟩) hP hD hS hA [2, 3, 4] [0, 1] rfl rfl (by decide) (by decide) (fun r61 u61 H locs hq61 hP hD hS => ?_)
    replace hP : va_P (dC, dI) vwCl [(o, .inr (3, [.ref k, .ref op, .int 0, .ref oq, .ref ov, .ref os])), (os, .inl (cI, 5, .inl (upd (upd (upd (upd (upd (upd (fun _ => 0) 0 0) 1 0) 2 0) 3 0) 4 0) 0 2))), (k, .inr (0, [.ref ks, .ref kw, .ref kc, .int (-6), .int 0, .int 0, .ref kq, .ref km, .ref kd, .int 0, .ref ka, .ref kk])), (ks, .inl (cI, 5, .inl (upd (fun _ => 0) 0 800))), (kw, .inl (cI, 14, .inl (fun _ => 0)))] H := hP
    replace hD : va_D A [(o, .inr (3, [.ref k, .ref op, .int 0, .ref oq, .ref ov, .ref os])), (os, .inl (cI, 5, .inl (upd (upd (upd (upd (upd (upd (fun _ => 0) 0 0) 1 0) 2 0) 3 0) 4 0) 0 2))), (k, .inr (0, [.ref ks, .ref kw, .ref kc, .int (-6), .int 0, .int 0, .ref kq, .ref km, .ref kd, .int 0, .ref ka, .ref kk])), (ks, .inl (cI, 5, .inl (upd (fun _ => 0) 0 800))), (kw, .inl (cI, 14, .inl (fun _ => 0)))] := hD
    obtain rfl : r61 = 0 := hq61
    refine lv_dup2_11 hx hb dX3_countSlots_48 rfl rfl ?_
    refine va_iald hx hb hK hP 1 0 rfl rfl (vin (by decide) (by decide)) dX3_countSlots_49 ?_
    refine lv_topi (fun x62 e62 => ?_)
    obtain rfl : x62 = 2 := e62.trans (by first | rfl | decide)
    refine lv_iconst (v := 2) hx hb dX3_countSlots_50 (by decide) ?_
    refine lv_iadd hx hb dX3_countSlots_51 ?_
    refine lv_topi (fun x63 e63 => ?_)
    obtain rfl : x63 = 4 := e63.trans (by decide)
    refine va_iast hx hb hK hP hD hS 1 0 rfl rfl (vin (by decide) (by decide)) dX3_countSlots_52 (fun H locs hP hD hS => ?_)
    replace hP : va_P (dC, dI) vwCl [(o, .inr (3, [.ref k, .ref op, .int 0, .ref oq, .ref ov, .ref os])), (os, .inl (cI, 5, .inl (upd (upd (upd (upd (upd (upd (upd (fun _ => 0) 0 0) 1 0) 2 0) 3 0) 4 0) 0 2) 0 4))), (k, .inr (0, [.ref ks, .ref kw, .ref kc, .int (-6), .int 0, .int 0, .ref kq, .ref km, .ref kd, .int 0, .ref ka, .ref kk])), (ks, .inl (cI, 5, .inl (upd (fun _ => 0) 0 800))), (kw, .inl (cI, 14, .inl (fun _ => 0)))] H := hP
    replace hD : va_D A [(o, .inr (3, [.ref k, .ref op, .int 0, .ref oq, .ref ov, .ref os])), (os, .inl (cI, 5, .inl (upd (upd (upd (upd (upd (upd (upd (fun _ => 0) 0 0) 1 0) 2 0) 3 0) 4 0) 0 2) 0 4))), (k, .inr (0, [.ref ks, .ref kw, .ref kc, .int (-6), .int 0, .int 0, .ref kq, .ref km, .ref kd, .int 0, .ref ka, .ref kk])), (ks, .inl (cI, 5, .inl (upd (fun _ => 0) 0 800))), (kw, .inl (cI, 14, .inl (fun _ => 0)))] := hD
    refine lv_iinc (v := 2) (lv' := [(2, .int 2), (0, .ref o), (1, .int 3)]) hx hb dX3_countSlots_53 hl (k := 0) rfl (by decide) (by decide) rfl (fun ls hl => ?_)
    refine lv_goto (tgt := 30) hx hb dX3_countSlots_56 (by decide) ?_
    refine lv_iload_n hx hb dX3_countSlots_30 rfl (lv_at hl 0 rfl) ?_
    refine lv_iload_n hx hb dX3_countSlots_31 rfl (lv_at hl 2 rfl) ?_
    refine lv_icmp_gt (tgt := 59) hx hb dX3_countSlots_32 (by decide) (fun c64 => absurd c64 (by decide)) (fun c64 => ?_)
    refine lv_aload_n hx hb dX3_countSlots_35 rfl (lv_at hl 1 rfl) ?_
    refine va_get (D := (dC, dI)) (ci := 3) (v := .ref os) (C := RX3) (T := TX3) (N := 6) hx hb hts hin3 hown hK hP 0 rfl rfl 5 (by decide) hw0 (fun _ h9 => h9) rfl dX3_countSlots_36 ?_
    refine lv_aload_n hx hb dX3_countSlots_39 rfl (lv_at hl 1 rfl) ?_
    refine va_get (D := (dC, dI)) (ci := 3) (v := .ref k) (C := RX3) (T := TX3) (N := 6) hx hb hts hin3 hown hK hP 0 rfl rfl 0 (by decide) hw1 (fun _ h9 => h9) rfl dX3_countSlots_40 ?_
    refine lv_iload_n hx hb dX3_countSlots_43 rfl (lv_at hl 0 rfl) ?_
    refine lv_iconst (v := 0) hx hb dX3_countSlots_44 (by decide) ?_
    refine mx_i (wr := [(o, .inr (3, [.ref k, .ref op, .int 0, .ref oq, .ref ov, .ref os])), (os, .inl (cI, 5, .inl (upd (upd (upd (upd (upd (upd (upd (fun _ => 0) 0 0) 1 0) 2 0) 3 0) 4 0) 0 2) 0 4)))]) (va_runV (As := [.int 2, .int 0]) (rest := [.ref os]) ⟨hx, hb, hml, hown, hts⟩ (c_X0_windOn l dC dI cI cZ cK tS aK aV k ks kw kc kq km kd ka kk 2 H.size (by have z8 : (2 : Int32).toInt = 2 := rfl; first | omega | decide | assumption | trivial)) (cwV 2 hts (gw_v (fun _ h9 => List.mem_cons_of_mem _ h9) wm_169 wm_170 wm_171 wm_10 wm_172) rfl rfl rfl (by decide +kernel) ⟨Nat.le_of_ble_eq_true rfl, Nat.le_of_ble_eq_true rfl⟩) (mx_preV (C := RX0) (T := TX0) (N := 12) (ci := 0) hKx hP hD hS hA [2, 3, 4] (by decide) rfl rfl rfl) rfl rfl hl.1 rfl (lv_room (Nat.le_of_ble_eq_true rfl)) dX3_countSlots_45 ⟨Nat.le_of_ble_eq_true rfl, Nat.le_of_ble_eq_true rfl⟩) hP hD hS hA [2, 3, 4] [0, 1] rfl rfl (by decide) (by decide) (fun r65 u65 H locs hq65 hP hD hS => ?_)
    replace hP : va_P (dC, dI) vwCl [(o, .inr (3, [.ref k, .ref op, .int 0, .ref oq, .ref ov, .ref os])), (os, .inl (cI, 5, .inl (upd (upd (upd (upd (upd (upd (upd (fun _ => 0) 0 0) 1 0) 2 0) 3 0) 4 0) 0 2) 0 4))), (k, .inr (0, [.ref ks, .ref kw, .ref kc, .int (-6), .int 0, .int 0, .ref kq, .ref km, .ref kd, .int 0, .ref ka, .ref kk])), (ks, .inl (cI, 5, .inl (upd (fun _ => 0) 0 800))), (kw, .inl (cI, 14, .inl (fun _ => 0)))] H := hP
    replace hD : va_D A [(o, .inr (3, [.ref k, .ref op, .int 0, .ref oq, .ref ov, .ref os])), (os, .inl (cI, 5, .inl (upd (upd (upd (upd (upd (upd (upd (fun _ => 0) 0 0) 1 0) 2 0) 3 0) 4 0) 0 2) 0 4))), (k, .inr (0, [.ref ks, .ref kw, .ref kc, .int (-6), .int 0, .int 0, .ref kq, .ref km, .ref kd, .int 0, .ref ka, .ref kk])), (ks, .inl (cI, 5, .inl (upd (fun _ => 0) 0 800))), (kw, .inl (cI, 14, .inl (fun _ => 0)))] := hD
    obtain rfl : r65 = 0 := hq65
    refine lv_dup2_11 hx hb dX3_countSlots_48 rfl rfl ?_
    refine va_iald hx hb hK hP 1 0 rfl rfl (vin (by decide) (by decide)) dX3_countSlots_49 ?_
    refine lv_topi (fun x66 e66 => ?_)
    obtain rfl : x66 = 4 := e66.trans (by first | rfl | decide)
    refine lv_iconst (v := 2) hx hb dX3_countSlots_50 (by decide) ?_
    refine lv_iadd hx hb dX3_countSlots_51 ?_
    refine lv_topi (fun x67 e67 => ?_)
    obtain rfl : x67 = 6 := e67.trans (by decide)
    refine va_iast hx hb hK hP hD hS 1 0 rfl rfl (vin (by decide) (by decide)) dX3_countSlots_52 (fun H locs hP hD hS => ?_)
    replace hP : va_P (dC, dI) vwCl [(o, .inr (3, [.ref k, .ref op, .int 0, .ref oq, .ref ov, .ref os])), (os, .inl (cI, 5, .inl (upd (upd (upd (upd (upd (upd (upd (upd (fun _ => 0) 0 0) 1 0) 2 0) 3 0) 4 0) 0 2) 0 4) 0 6))), (k, .inr (0, [.ref ks, .ref kw, .ref kc, .int (-6), .int 0, .int 0, .ref kq, .ref km, .ref kd, .int 0, .ref ka, .ref kk])), (ks, .inl (cI, 5, .inl (upd (fun _ => 0) 0 800))), (kw, .inl (cI, 14, .inl (fun _ => 0)))] H := hP
    replace hD : va_D A [(o, .inr (3, [.ref k, .ref op, .int 0, .ref oq, .ref ov, .ref os])), (os, .inl (cI, 5, .inl (upd (upd (upd (upd (upd (upd (upd (upd (fun _ => 0) 0 0) 1 0) 2 0) 3 0) 4 0) 0 2) 0 4) 0 6))), (k, .inr (0, [.ref ks, .ref kw, .ref kc, .int (-6), .int 0, .int 0, .ref kq, .ref km, .ref kd, .int 0, .ref ka, .ref kk])), (ks, .inl (cI, 5, .inl (upd (fun _ => 0) 0 800))), (kw, .inl (cI, 14, .inl (fun _ => 0)))] := hD
    refine lv_iinc (v := 3) (lv' := [(2, .int 3), (0, .ref o), (1, .int 3)]) hx hb dX3_countSlots_53 hl (k := 0) rfl (by decide) (by decide) rfl (fun ls hl => ?_)
    refine lv_goto (tgt := 30) hx hb dX3_countSlots_56 (by decide) ?_
    refine lv_iload_n hx hb dX3_countSlots_30 rfl (lv_at hl 0 rfl) ?_
    refine lv_iload_n hx hb dX3_countSlots_31 rfl (lv_at hl 2 rfl) ?_
    refine lv_icmp_gt (tgt := 59) hx hb dX3_countSlots_32 (by decide) (fun c68 => absurd c68 (by decide)) (fun c68 => ?_)
    refine lv_aload_n hx hb dX3_countSlots_35 rfl (lv_at hl 1 rfl) ?_
    refine va_get (D := (dC, dI)) (ci := 3) (v := .ref os) (C := RX3) (T := TX3) (N := 6) hx hb hts hin3 hown hK hP 0 rfl rfl 5 (by decide) hw0 (fun _ h9 => h9) rfl dX3_countSlots_36 ?_
    refine lv_aload_n hx hb dX3_countSlots_39 rfl (lv_at hl 1 rfl) ?_
    refine va_get (D := (dC, dI)) (ci := 3) (v := .ref k) (C := RX3) (T := TX3) (N := 6) hx hb hts hin3 hown hK hP 0 rfl rfl 0 (by decide) hw1 (fun _ h9 => h9) rfl dX3_countSlots_40 ?_
    refine lv_iload_n hx hb dX3_countSlots_43 rfl (lv_at hl 0 rfl) ?_
    refine lv_iconst (v := 0) hx hb dX3_countSlots_44 (by decide) ?_
    refine mx_i (wr := [(o, .inr (3, [.ref k, .ref op, .int 0, .ref oq, .ref ov, .ref os])), (os, .inl (cI, 5, .inl (upd (upd (upd (upd (upd (upd (upd (upd (fun _ => 0) 0 0) 1 0) 2 0) 3 0) 4 0) 0 2) 0 4) 0 6)))]) (va_runV (As := [.int 3, .int 0]) (rest := [.ref os]) ⟨hx, hb, hml, hown, hts⟩ (c_X0_windOn l dC dI cI cZ cK tS aK aV k ks kw kc kq km kd ka kk 3 H.size (by have z8 : (3 : Int32).toInt = 3 := rfl; first | omega | decide | assumption | trivial)) (cwV 2 hts (gw_v (fun _ h9 => List.mem_cons_of_mem _ h9) wm_169 wm_170 wm_171 wm_10 wm_172) rfl rfl rfl (by decide +kernel) ⟨Nat.le_of_ble_eq_true rfl, Nat.le_of_ble_eq_true rfl⟩) (mx_preV (C := RX0) (T := TX0) (N := 12) (ci := 0) hKx hP hD hS hA [2, 3, 4] (by decide) rfl rfl rfl) rfl rfl hl.1 rfl (lv_room (Nat.le_of_ble_eq_true rfl)) dX3_countSlots_45 ⟨Nat.le_of_ble_eq_true rfl, Nat.le_of_ble_eq_true rfl⟩) hP hD hS hA [2, 3, 4] [0, 1] rfl rfl (by decide) (by decide) (fun r69 u69 H locs hq69 hP hD hS => ?_)
    replace hP : va_P (dC, dI) vwCl [(o, .inr (3, [.ref k, .ref op, .int 0, .ref oq, .ref ov, .ref os])), (os, .inl (cI, 5, .inl (upd (upd (upd (upd (upd (upd (upd (upd (fun _ => 0) 0 0) 1 0) 2 0) 3 0) 4 0) 0 2) 0 4) 0 6))), (k, .inr (0, [.ref ks, .ref kw, .ref kc, .int (-6), .int 0, .int 0, .ref kq, .ref km, .ref kd, .int 0, .ref ka, .ref kk])), (ks, .inl (cI, 5, .inl (upd (fun _ => 0) 0 800))), (kw, .inl (cI, 14, .inl (fun _ => 0)))] H := hP
    replace hD : va_D A [(o, .inr (3, [.ref k, .ref op, .int 0, .ref oq, .ref ov, .ref os])), (os, .inl (cI, 5, .inl (upd (upd (upd (upd (upd (upd (upd (upd (fun _ => 0) 0 0) 1 0) 2 0) 3 0) 4 0) 0 2) 0 4) 0 6))), (k, .inr (0, [.ref ks, .ref kw, .ref kc, .int (-6), .int 0, .int 0, .ref kq, .ref km, .ref kd, .int 0, .ref ka, .ref kk])), (ks, .inl (cI, 5, .inl (upd (fun _ => 0) 0 800))), (kw, .inl (cI, 14, .inl (fun _ => 0)))] := hD
    obtain rfl : r69 = 0 := hq69
    refine lv_dup2_11 hx hb dX3_countSlots_48 rfl rfl ?_
    refine va_iald hx hb hK hP 1 0 rfl rfl (vin (by decide) (by decide)) dX3_countSlots_49 ?_
    refine lv_topi (fun x70 e70 => ?_)
    obtain rfl : x70 = 6 := e70.trans (by first | rfl | decide)
    refine lv_iconst (v := 2) hx hb dX3_countSlots_50 (by decide) ?_
    refine lv_iadd hx hb dX3_countSlots_51 ?_
    refine lv_topi (fun x71 e71 => ?_)
    obtain rfl : x71 = 8 := e71.trans (by decide)
    refine va_iast hx hb hK hP hD hS 1 0 rfl rfl (vin (by decide) (by decide)) dX3_countSlots_52 (fun H locs hP hD hS => ?_)
    replace hP : va_P (dC, dI) vwCl [(o, .inr (3, [.ref k, .ref op, .int 0, .ref oq, .ref ov, .ref os])), (os, .inl (cI, 5, .inl (upd (upd (upd (upd (upd (upd (upd (upd (upd (fun _ => 0) 0 0) 1 0) 2 0) 3 0) 4 0) 0 2) 0 4) 0 6) 0 8))), (k, .inr (0, [.ref ks, .ref kw, .ref kc, .int (-6), .int 0, .int 0, .ref kq, .ref km, .ref kd, .int 0, .ref ka, .ref kk])), (ks, .inl (cI, 5, .inl (upd (fun _ => 0) 0 800))), (kw, .inl (cI, 14, .inl (fun _ => 0)))] H := hP
    replace hD : va_D A [(o, .inr (3, [.ref k, .ref op, .int 0, .ref oq, .ref ov, .ref os])), (os, .inl (cI, 5, .inl (upd (upd (upd (upd (upd (upd (upd (upd (upd (fun _ => 0) 0 0) 1 0) 2 0) 3 0) 4 0) 0 2) 0 4) 0 6) 0 8))), (k, .inr (0, [.ref ks, .ref kw, .ref kc, .int (-6), .int 0, .int 0, .ref kq, .ref km, .ref kd, .int 0, .ref ka, .ref kk])), (ks, .inl (cI, 5, .inl (upd (fun _ => 0) 0 800))), (kw, .inl (cI, 14, .inl (fun _ => 0)))] := hD
    refine lv_iinc (v := 4) (lv' := [(2, .int 4), (0, .ref o), (1, .int 3)]) hx hb dX3_countSlots_53 hl (k := 0) rfl (by decide) (by decide) rfl (fun ls hl => ?_)
    refine lv_goto (tgt := 30) hx hb dX3_countSlots_56 (by decide) ?_
    refine lv_iload_n hx hb dX3_countSlots_30 rfl (lv_at hl 0 rfl) ?_
    refine lv_iload_n hx hb dX3_countSlots_31 rfl (lv_at hl 2 rfl) ?_
    refine lv_icmp_gt (tgt := 59) hx hb dX3_countSlots_32 (by decide) (fun c72 => ?_) (fun c72 => absurd c72 (by decide))
    have hP9 := mx_subP (wc := [(o, .inr (3, [.ref k, .ref op, .int 0, .ref oq, .ref ov, .ref os])), (os, .inl (cI, 5, .inl (upd (upd (upd (upd (upd (upd (upd (upd (upd (fun _ => 0) 0 0) 1 0) 2 0) 3 0) 4 0) 0 2) 0 4) 0 6) 0 8))), (k, .inr (0, [.ref ks, .ref kw, .ref kc, .int (-6), .int 0, .int 0, .ref kq, .ref km, .ref kd, .int 0, .ref ka, .ref kk])), (ks, .inl (cI, 5, .inl (upd (fun _ => 0) 0 800))), (kw, .inl (cI, 14, .inl (fun _ => 0)))]) hP [0, 1, 2, 3, 4] rfl
    have hD9 := hD.sub (ws' := [(o, .inr (3, [.ref k, .ref op, .int 0, .ref oq, .ref ov, .ref os])), (os, .inl (cI, 5, .inl (upd (upd (upd (upd (upd (upd (upd (upd (upd (fun _ => 0) 0 0) 1 0) 2 0) 3 0) 4 0) 0 2) 0 4) 0 6) 0 8))), (k, .inr (0, [.ref ks, .ref kw, .ref kc, .int (-6), .int 0, .int 0, .ref kq, .ref km, .ref kd, .int 0, .ref ka, .ref kk])), (ks, .inl (cI, 5, .inl (upd (fun _ => 0) 0 800))), (kw, .inl (cI, 14, .inl (fun _ => 0)))]) [0, 1, 2, 3, 4] (by decide) rfl
    exact W.vret hx hb hr (fun t ht hW => ⟨⟨(upd (upd (upd (upd (upd (upd (upd (upd (upd (fun _ => 0) 0 0) 1 0) 2 0) 3 0) 4 0) 0 2) 0 4) 0 6) 0 8), rfl, (by refine ⟨?_, ?_, ?_, ?_, ?_, ?_, ?_, ?_, ?_, ?_⟩ <;> decide), by rw [ht]; exact hP9, hD9⟩, hS.F ht⟩) hS.2.2 dX3_countSlots_59
  · have z9 : (4 : Int32).toInt = 4 := rfl
    refine lv_iconst (v := 0) hx hb dX3_countSlots_0 (by decide) ?_
    refine lv_istore_n (lv' := [(2, .int 0), (0, .ref o), (1, .int 4)]) hx hb dX3_countSlots_1 rfl hl (by decide) rfl (fun ls hl => ?_)
    refine lv_iload_n hx hb dX3_countSlots_2 rfl (lv_at hl 0 rfl) ?_
    refine lv_iconst (v := 4) hx hb dX3_countSlots_3 (by decide) ?_
    refine lv_icmp_gt (tgt := 20) hx hb dX3_countSlots_4 (by decide) (fun c73 => absurd c73 (by decide)) (fun c73 => ?_)
    refine lv_aload_n hx hb dX3_countSlots_7 rfl (lv_at hl 1 rfl) ?_
    refine va_get (D := (dC, dI)) (ci := 3) (v := .ref os) (C := RX3) (T := TX3) (N := 6) hx hb hts hin3 hown hK hP 0 rfl rfl 5 (by decide) hw0 (fun _ h9 => h9) rfl dX3_countSlots_8 ?_
    refine lv_iload_n hx hb dX3_countSlots_11 rfl (lv_at hl 0 rfl) ?_
    refine lv_iconst (v := 0) hx hb dX3_countSlots_12 (by decide) ?_
    refine va_iast hx hb hK hP hD hS 1 0 rfl rfl (vin (by decide) (by decide)) dX3_countSlots_13 (fun H locs hP hD hS => ?_)
    replace hP : va_P (dC, dI) vwCl [(o, .inr (3, [.ref k, .ref op, .int 0, .ref oq, .ref ov, .ref os])), (os, .inl (cI, 5, .inl (upd (fun _ => 0) 0 0))), (k, .inr (0, [.ref ks, .ref kw, .ref kc, .int (-6), .int 0, .int 0, .ref kq, .ref km, .ref kd, .int 0, .ref ka, .ref kk])), (ks, .inl (cI, 5, .inl (upd (fun _ => 0) 0 800))), (kw, .inl (cI, 14, .inl (fun _ => 0)))] H := hP
    replace hD : va_D A [(o, .inr (3, [.ref k, .ref op, .int 0, .ref oq, .ref ov, .ref os])), (os, .inl (cI, 5, .inl (upd (fun _ => 0) 0 0))), (k, .inr (0, [.ref ks, .ref kw, .ref kc, .int (-6), .int 0, .int 0, .ref kq, .ref km, .ref kd, .int 0, .ref ka, .ref kk])), (ks, .inl (cI, 5, .inl (upd (fun _ => 0) 0 800))), (kw, .inl (cI, 14, .inl (fun _ => 0)))] := hD
    refine lv_iinc (v := 1) (lv' := [(2, .int 1), (0, .ref o), (1, .int 4)]) hx hb dX3_countSlots_14 hl (k := 0) rfl (by decide) (by decide) rfl (fun ls hl => ?_)
    refine lv_goto (tgt := 2) hx hb dX3_countSlots_17 (by decide) ?_
    refine lv_iload_n hx hb dX3_countSlots_2 rfl (lv_at hl 0 rfl) ?_
    refine lv_iconst (v := 4) hx hb dX3_countSlots_3 (by decide) ?_
    refine lv_icmp_gt (tgt := 20) hx hb dX3_countSlots_4 (by decide) (fun c74 => absurd c74 (by decide)) (fun c74 => ?_)
    refine lv_aload_n hx hb dX3_countSlots_7 rfl (lv_at hl 1 rfl) ?_
    refine va_get (D := (dC, dI)) (ci := 3) (v := .ref os) (C := RX3) (T := TX3) (N := 6) hx hb hts hin3 hown hK hP 0 rfl rfl 5 (by decide) hw0 (fun _ h9 => h9) rfl dX3_countSlots_8 ?_
    refine lv_iload_n hx hb dX3_countSlots_11 rfl (lv_at hl 0 rfl) ?_
    refine lv_iconst (v := 0) hx hb dX3_countSlots_12 (by decide) ?_
    refine va_iast hx hb hK hP hD hS 1 0 rfl rfl (vin (by decide) (by decide)) dX3_countSlots_13 (fun H locs hP hD hS => ?_)
    replace hP : va_P (dC, dI) vwCl [(o, .inr (3, [.ref k, .ref op, .int 0, .ref oq, .ref ov, .ref os])), (os, .inl (cI, 5, .inl (upd (upd (fun _ => 0) 0 0) 1 0))), (k, .inr (0, [.ref ks, .ref kw, .ref kc, .int (-6), .int 0, .int 0, .ref kq, .ref km, .ref kd, .int 0, .ref ka, .ref kk])), (ks, .inl (cI, 5, .inl (upd (fun _ => 0) 0 800))), (kw, .inl (cI, 14, .inl (fun _ => 0)))] H := hP
    replace hD : va_D A [(o, .inr (3, [.ref k, .ref op, .int 0, .ref oq, .ref ov, .ref os])), (os, .inl (cI, 5, .inl (upd (upd (fun _ => 0) 0 0) 1 0))), (k, .inr (0, [.ref ks, .ref kw, .ref kc, .int (-6), .int 0, .int 0, .ref kq, .ref km, .ref kd, .int 0, .ref ka, .ref kk])), (ks, .inl (cI, 5, .inl (upd (fun _ => 0) 0 800))), (kw, .inl (cI, 14, .inl (fun _ => 0)))] := hD
    refine lv_iinc (v := 2) (lv' := [(2, .int 2), (0, .ref o), (1, .int 4)]) hx hb dX3_countSlots_14 hl (k := 0) rfl (by decide) (by decide) rfl (fun ls hl => ?_)
    refine lv_goto (tgt := 2) hx hb dX3_countSlots_17 (by decide) ?_
    refine lv_iload_n hx hb dX3_countSlots_2 rfl (lv_at hl 0 rfl) ?_
    refine lv_iconst (v := 4) hx hb dX3_countSlots_3 (by decide) ?_
    refine lv_icmp_gt (tgt := 20) hx hb dX3_countSlots_4 (by decide) (fun c75 => absurd c75 (by decide)) (fun c75 => ?_)
    refine lv_aload_n hx hb dX3_countSlots_7 rfl (lv_at hl 1 rfl) ?_
    refine va_get (D := (dC, dI)) (ci := 3) (v := .ref os) (C := RX3) (T := TX3) (N := 6) hx hb hts hin3 hown hK hP 0 rfl rfl 5 (by decide) hw0 (fun _ h9 => h9) rfl dX3_countSlots_8 ?_
    refine lv_iload_n hx hb dX3_countSlots_11 rfl (lv_at hl 0 rfl) ?_
    refine lv_iconst (v := 0) hx hb dX3_countSlots_12 (by decide) ?_
    refine va_iast hx hb hK hP hD hS 1 0 rfl rfl (vin (by decide) (by decide)) dX3_countSlots_13 (fun H locs hP hD hS => ?_)
    replace hP : va_P (dC, dI) vwCl [(o, .inr (3, [.ref k, .ref op, .int 0, .ref oq, .ref ov, .ref os])), (os, .inl (cI, 5, .inl (upd (upd (upd (fun _ => 0) 0 0) 1 0) 2 0))), (k, .inr (0, [.ref ks, .ref kw, .ref kc, .int (-6), .int 0, .int 0, .ref kq, .ref km, .ref kd, .int 0, .ref ka, .ref kk])), (ks, .inl (cI, 5, .inl (upd (fun _ => 0) 0 800))), (kw, .inl (cI, 14, .inl (fun _ => 0)))] H := hP
    replace hD : va_D A [(o, .inr (3, [.ref k, .ref op, .int 0, .ref oq, .ref ov, .ref os])), (os, .inl (cI, 5, .inl (upd (upd (upd (fun _ => 0) 0 0) 1 0) 2 0))), (k, .inr (0, [.ref ks, .ref kw, .ref kc, .int (-6), .int 0, .int 0, .ref kq, .ref km, .ref kd, .int 0, .ref ka, .ref kk])), (ks, .inl (cI, 5, .inl (upd (fun _ => 0) 0 800))), (kw, .inl (cI, 14, .inl (fun _ => 0)))] := hD
    refine lv_iinc (v := 3) (lv' := [(2, .int 3), (0, .ref o), (1, .int 4)]) hx hb dX3_countSlots_14 hl (k := 0) rfl (by decide) (by decide) rfl (fun ls hl => ?_)
    refine lv_goto (tgt := 2) hx hb dX3_countSlots_17 (by decide) ?_
    refine lv_iload_n hx hb dX3_countSlots_2 rfl (lv_at hl 0 rfl) ?_
    refine lv_iconst (v := 4) hx hb dX3_countSlots_3 (by decide) ?_
    refine lv_icmp_gt (tgt := 20) hx hb dX3_countSlots_4 (by decide) (fun c76 => absurd c76 (by decide)) (fun c76 => ?_)
    refine lv_aload_n hx hb dX3_countSlots_7 rfl (lv_at hl 1 rfl) ?_
    refine va_get (D := (dC, dI)) (ci := 3) (v := .ref os) (C := RX3) (T := TX3) (N := 6) hx hb hts hin3 hown hK hP 0 rfl rfl 5 (by decide) hw0 (fun _ h9 => h9) rfl dX3_countSlots_8 ?_
    refine lv_iload_n hx hb dX3_countSlots_11 rfl (lv_at hl 0 rfl) ?_
    refine lv_iconst (v := 0) hx hb dX3_countSlots_12 (by decide) ?_
    refine va_iast hx hb hK hP hD hS 1 0 rfl rfl (vin (by decide) (by decide)) dX3_countSlots_13 (fun H locs hP hD hS => ?_)
    replace hP : va_P (dC, dI) vwCl [(o, .inr (3, [.ref k, .ref op, .int 0, .ref oq, .ref ov, .ref os])), (os, .inl (cI, 5, .inl (upd (upd (upd (upd (fun _ => 0) 0 0) 1 0) 2 0) 3 0))), (k, .inr (0, [.ref ks, .ref kw, .ref kc, .int (-6), .int 0, .int 0, .ref kq, .ref km, .ref kd, .int 0, .ref ka, .ref kk])), (ks, .inl (cI, 5, .inl (upd (fun _ => 0) 0 800))), (kw, .inl (cI, 14, .inl (fun _ => 0)))] H := hP
    replace hD : va_D A [(o, .inr (3, [.ref k, .ref op, .int 0, .ref oq, .ref ov, .ref os])), (os, .inl (cI, 5, .inl (upd (upd (upd (upd (fun _ => 0) 0 0) 1 0) 2 0) 3 0))), (k, .inr (0, [.ref ks, .ref kw, .ref kc, .int (-6), .int 0, .int 0, .ref kq, .ref km, .ref kd, .int 0, .ref ka, .ref kk])), (ks, .inl (cI, 5, .inl (upd (fun _ => 0) 0 800))), (kw, .inl (cI, 14, .inl (fun _ => 0)))] := hD
    refine lv_iinc (v := 4) (lv' := [(2, .int 4), (0, .ref o), (1, .int 4)]) hx hb dX3_countSlots_14 hl (k := 0) rfl (by decide) (by decide) rfl (fun ls hl => ?_)
    refine lv_goto (tgt := 2) hx hb dX3_countSlots_17 (by decide) ?_
    refine lv_iload_n hx hb dX3_countSlots_2 rfl (lv_at hl 0 rfl) ?_
    refine lv_iconst (v := 4) hx hb dX3_countSlots_3 (by decide) ?_
    refine lv_icmp_gt (tgt := 20) hx hb dX3_countSlots_4 (by decide) (fun c77 => absurd c77 (by decide)) (fun c77 => ?_)
    refine lv_aload_n hx hb dX3_countSlots_7 rfl (lv_at hl 1 rfl) ?_
    refine va_get (D := (dC, dI)) (ci := 3) (v := .ref os) (C := RX3) (T := TX3) (N := 6) hx hb hts hin3 hown hK hP 0 rfl rfl 5 (by decide) hw0 (fun _ h9 => h9) rfl dX3_countSlots_8 ?_
    refine lv_iload_n hx hb dX3_countSlots_11 rfl (lv_at hl 0 rfl) ?_
    refine lv_iconst (v := 0) hx hb dX3_countSlots_12 (by decide) ?_
    refine va_iast hx hb hK hP hD hS 1 0 rfl rfl (vin (by decide) (by decide)) dX3_countSlots_13 (fun H locs hP hD hS => ?_)
    replace hP : va_P (dC, dI) vwCl [(o, .inr (3, [.ref k, .ref op, .int 0, .ref oq, .ref ov, .ref os])), (os, .inl (cI, 5, .inl (upd (upd (upd (upd (upd (fun _ => 0) 0 0) 1 0) 2 0) 3 0) 4 0))), (k, .inr (0, [.ref ks, .ref kw, .ref kc, .int (-6), .int 0, .int 0, .ref kq, .ref km, .ref kd, .int 0, .ref ka, .ref kk])), (ks, .inl (cI, 5, .inl (upd (fun _ => 0) 0 800))), (kw, .inl (cI, 14, .inl (fun _ => 0)))] H := hP
    replace hD : va_D A [(o, .inr (3, [.ref k, .ref op, .int 0, .ref oq, .ref ov, .ref os])), (os, .inl (cI, 5, .inl (upd (upd (upd (upd (upd (fun _ => 0) 0 0) 1 0) 2 0) 3 0) 4 0))), (k, .inr (0, [.ref ks, .ref kw, .ref kc, .int (-6), .int 0, .int 0, .ref kq, .ref km, .ref kd, .int 0, .ref ka, .ref kk])), (ks, .inl (cI, 5, .inl (upd (fun _ => 0) 0 800))), (kw, .inl (cI, 14, .inl (fun _ => 0)))] := hD
    refine lv_iinc (v := 5) (lv' := [(2, .int 5), (0, .ref o), (1, .int 4)]) hx hb dX3_countSlots_14 hl (k := 0) rfl (by decide) (by decide) rfl (fun ls hl => ?_)
    refine lv_goto (tgt := 2) hx hb dX3_countSlots_17 (by decide) ?_
    refine lv_iload_n hx hb dX3_countSlots_2 rfl (lv_at hl 0 rfl) ?_
    refine lv_iconst (v := 4) hx hb dX3_countSlots_3 (by decide) ?_
    refine lv_icmp_gt (tgt := 20) hx hb dX3_countSlots_4 (by decide) (fun c78 => ?_) (fun c78 => absurd c78 (by decide))
    refine lv_aload_n hx hb dX3_countSlots_20 rfl (lv_at hl 1 rfl) ?_
    refine va_get (D := (dC, dI)) (ci := 3) (v := .ref k) (C := RX3) (T := TX3) (N := 6) hx hb hts hin3 hown hK hP 0 rfl rfl 0 (by decide) hw1 (fun _ h9 => h9) rfl dX3_countSlots_21 ?_
    refine va_get (D := (dC, dI)) (ci := 0) (v := .ref ks) (C := RX0) (T := TX0) (N := 12) hx hb hts hin0 hown hK hP 2 rfl rfl 0 (by decide) hw2 (fun _ h9 => h9) rfl dX3_countSlots_24 ?_
    refine lv_iconst (v := 4) hx hb dX3_countSlots_27 (by decide) ?_
    refine va_iald hx hb hK hP 3 0 rfl rfl (vin (by decide) (by decide)) dX3_countSlots_28 ?_
    refine lv_topi (fun x79 e79 => ?_)
    obtain rfl : x79 = 0 := e79.trans (by first | rfl | decide)
    refine lv_istore_n (lv' := [(2, .int 0), (0, .ref o), (1, .int 4)]) hx hb dX3_countSlots_29 rfl hl (by decide) rfl (fun ls hl => ?_)
    refine lv_iload_n hx hb dX3_countSlots_30 rfl (lv_at hl 0 rfl) ?_
    refine lv_iload_n hx hb dX3_countSlots_31 rfl (lv_at hl 2 rfl) ?_
    refine lv_icmp_gt (tgt := 59) hx hb dX3_countSlots_32 (by decide) (fun c80 => absurd c80 (by decide)) (fun c80 => ?_)
    refine lv_aload_n hx hb dX3_countSlots_35 rfl (lv_at hl 1 rfl) ?_
    refine va_get (D := (dC, dI)) (ci := 3) (v := .ref os) (C := RX3) (T := TX3) (N := 6) hx hb hts hin3 hown hK hP 0 rfl rfl 5 (by decide) hw0 (fun _ h9 => h9) rfl dX3_countSlots_36 ?_
    refine lv_aload_n hx hb dX3_countSlots_39 rfl (lv_at hl 1 rfl) ?_
    refine va_get (D := (dC, dI)) (ci := 3) (v := .ref k) (C := RX3) (T := TX3) (N := 6) hx hb hts hin3 hown hK hP 0 rfl rfl 0 (by decide) hw1 (fun _ h9 => h9) rfl dX3_countSlots_40 ?_
    refine lv_iload_n hx hb dX3_countSlots_43 rfl (lv_at hl 0 rfl) ?_
    refine lv_iconst (v := 0) hx hb dX3_countSlots_44 (by decide) ?_
    refine mx_i (wr := [(o, .inr (3, [.ref k, .ref op, .int 0, .ref oq, .ref ov, .ref os])), (os, .inl (cI, 5, .inl (upd (upd (upd (upd (upd (fun _ => 0) 0 0) 1 0) 2 0) 3 0) 4 0)))]) (va_runV (As := [.int 0, .int 0]) (rest := [.ref os]) ⟨hx, hb, hml, hown, hts⟩ (c_X0_windOn l dC dI cI cZ cK tS aK aV k ks kw kc kq km kd ka kk 0 H.size (by have z8 : (0 : Int32).toInt = 0 := rfl; first | omega | decide | assumption | trivial)) (cwV 2 hts (gw_v (fun _ h9 => List.mem_cons_of_mem _ h9) wm_169 wm_170 wm_171 wm_10 wm_172) rfl rfl rfl (by decide +kernel) ⟨Nat.le_of_ble_eq_true rfl, Nat.le_of_ble_eq_true rfl⟩) (mx_preV (C := RX0) (T := TX0) (N := 12) (ci := 0) hKx hP hD hS hA [2, 3, 4] (by decide) rfl rfl rfl) rfl rfl hl.1 rfl (lv_room (Nat.le_of_ble_eq_true rfl)) dX3_countSlots_45 ⟨Nat.le_of_ble_eq_true rfl, Nat.le_of_ble_eq_true rfl⟩) hP hD hS hA [2, 3, 4] [0, 1] rfl rfl (by decide) (by decide) (fun r81 u81 H locs hq81 hP hD hS => ?_)
    replace hP : va_P (dC, dI) vwCl [(o, .inr (3, [.ref k, .ref op, .int 0, .ref oq, .ref ov, .ref os])), (os, .inl (cI, 5, .inl (upd (upd (upd (upd (upd (fun _ => 0) 0 0) 1 0) 2 0) 3 0) 4 0))), (k, .inr (0, [.ref ks, .ref kw, .ref kc, .int (-6), .int 0, .int 0, .ref kq, .ref km, .ref kd, .int 0, .ref ka, .ref kk])), (ks, .inl (cI, 5, .inl (upd (fun _ => 0) 0 800))), (kw, .inl (cI, 14, .inl (fun _ => 0)))] H := hP
    replace hD : va_D A [(o, .inr (3, [.ref k, .ref op, .int 0, .ref oq, .ref ov, .ref os])), (os, .inl (cI, 5, .inl (upd (upd (upd (upd (upd (fun _ => 0) 0 0) 1 0) 2 0) 3 0) 4 0))), (k, .inr (0, [.ref ks, .ref kw, .ref kc, .int (-6), .int 0, .int 0, .ref kq, .ref km, .ref kd, .int 0, .ref ka, .ref kk])), (ks, .inl (cI, 5, .inl (upd (fun _ => 0) 0 800))), (kw, .inl (cI, 14, .inl (fun _ => 0)))] := hD
    obtain rfl : r81 = 0 := hq81
    refine lv_dup2_11 hx hb dX3_countSlots_48 rfl rfl ?_
    refine va_iald hx hb hK hP 1 0 rfl rfl (vin (by decide) (by decide)) dX3_countSlots_49 ?_
    refine lv_topi (fun x82 e82 => ?_)
    obtain rfl : x82 = 0 := e82.trans (by first | rfl | decide)
    refine lv_iconst (v := 2) hx hb dX3_countSlots_50 (by decide) ?_
    refine lv_iadd hx hb dX3_countSlots_51 ?_
    refine lv_topi (fun x83 e83 => ?_)
    obtain rfl : x83 = 2 := e83.trans (by decide)
    refine va_iast hx hb hK hP hD hS 1 0 rfl rfl (vin (by decide) (by decide)) dX3_countSlots_52 (fun H locs hP hD hS => ?_)
    replace hP : va_P (dC, dI) vwCl [(o, .inr (3, [.ref k, .ref op, .int 0, .ref oq, .ref ov, .ref os])), (os, .inl (cI, 5, .inl (upd (upd (upd (upd (upd (upd (fun _ => 0) 0 0) 1 0) 2 0) 3 0) 4 0) 0 2))), (k, .inr (0, [.ref ks, .ref kw, .ref kc, .int (-6), .int 0, .int 0, .ref kq, .ref km, .ref kd, .int 0, .ref ka, .ref kk])), (ks, .inl (cI, 5, .inl (upd (fun _ => 0) 0 800))), (kw, .inl (cI, 14, .inl (fun _ => 0)))] H := hP
    replace hD : va_D A [(o, .inr (3, [.ref k, .ref op, .int 0, .ref oq, .ref ov, .ref os])), (os, .inl (cI, 5, .inl (upd (upd (upd (upd (upd (upd (fun _ => 0) 0 0) 1 0) 2 0) 3 0) 4 0) 0 2))), (k, .inr (0, [.ref ks, .ref kw, .ref kc, .int (-6), .int 0, .int 0, .ref kq, .ref km, .ref kd, .int 0, .ref ka, .ref kk])), (ks, .inl (cI, 5, .inl (upd (fun _ => 0) 0 800))), (kw, .inl (cI, 14, .inl (fun _ => 0)))] := hD
    refine lv_iinc (v := 1) (lv' := [(2, .int 1), (0, .ref o), (1, .int 4)]) hx hb dX3_countSlots_53 hl (k := 0) rfl (by decide) (by decide) rfl (fun ls hl => ?_)
    refine lv_goto (tgt := 30) hx hb dX3_countSlots_56 (by decide) ?_
    refine lv_iload_n hx hb dX3_countSlots_30 rfl (lv_at hl 0 rfl) ?_
    refine lv_iload_n hx hb dX3_countSlots_31 rfl (lv_at hl 2 rfl) ?_
    refine lv_icmp_gt (tgt := 59) hx hb dX3_countSlots_32 (by decide) (fun c84 => absurd c84 (by decide)) (fun c84 => ?_)
    refine lv_aload_n hx hb dX3_countSlots_35 rfl (lv_at hl 1 rfl) ?_
    refine va_get (D := (dC, dI)) (ci := 3) (v := .ref os) (C := RX3) (T := TX3) (N := 6) hx hb hts hin3 hown hK hP 0 rfl rfl 5 (by decide) hw0 (fun _ h9 => h9) rfl dX3_countSlots_36 ?_
    refine lv_aload_n hx hb dX3_countSlots_39 rfl (lv_at hl 1 rfl) ?_
    refine va_get (D := (dC, dI)) (ci := 3) (v := .ref k) (C := RX3) (T := TX3) (N := 6) hx hb hts hin3 hown hK hP 0 rfl rfl 0 (by decide) hw1 (fun _ h9 => h9) rfl dX3_countSlots_40 ?_
    refine lv_iload_n hx hb dX3_countSlots_43 rfl (lv_at hl 0 rfl) ?_
    refine lv_iconst (v := 0) hx hb dX3_countSlots_44 (by decide) ?_
    refine mx_i (wr := [(o, .inr (3, [.ref k, .ref op, .int 0, .ref oq, .ref ov, .ref os])), (os, .inl (cI, 5, .inl (upd (upd (upd (upd (upd (upd (fun _ => 0) 0 0) 1 0) 2 0) 3 0) 4 0) 0 2)))]) (va_runV (As := [.int 1, .int 0]) (rest := [.ref os]) ⟨hx, hb, hml, hown, hts⟩ (c_X0_windOn l dC dI cI cZ cK tS aK aV k ks kw kc kq km kd ka kk 1 H.size (by have z8 : (1 : Int32).toInt = 1 := rfl; first | omega | decide | assumption | trivial)) (cwV 2 hts (gw_v (fun _ h9 => List.mem_cons_of_mem _ h9) wm_169 wm_170 wm_171 wm_10 wm_172) rfl rfl rfl (by decide +kernel) ⟨Nat.le_of_ble_eq_true rfl, Nat.le_of_ble_eq_true rfl⟩) (mx_preV (C := RX0) (T := TX0) (N := 12) (ci := 0) hKx hP hD hS hA [2, 3, 4] (by decide) rfl rfl rfl) rfl rfl hl.1 rfl (lv_room (Nat.le_of_ble_eq_true rfl)) dX3_countSlots_45 ⟨Nat.le_of_ble_eq_true rfl, Nat.le_of_ble_eq_true rfl⟩) hP hD hS hA [2, 3, 4] [0, 1] rfl rfl (by decide) (by decide) (fun r85 u85 H locs hq85 hP hD hS => ?_)
    replace hP : va_P (dC, dI) vwCl [(o, .inr (3, [.ref k, .ref op, .int 0, .ref oq, .ref ov, .ref os])), (os, .inl (cI, 5, .inl (upd (upd (upd (upd (upd (upd (fun _ => 0) 0 0) 1 0) 2 0) 3 0) 4 0) 0 2))), (k, .inr (0, [.ref ks, .ref kw, .ref kc, .int (-6), .int 0, .int 0, .ref kq, .ref km, .ref kd, .int 0, .ref ka, .ref kk])), (ks, .inl (cI, 5, .inl (upd (fun _ => 0) 0 800))), (kw, .inl (cI, 14, .inl (fun _ => 0)))] H := hP
    replace hD : va_D A [(o, .inr (3, [.ref k, .ref op, .int 0, .ref oq, .ref ov, .ref os])), (os, .inl (cI, 5, .inl (upd (upd (upd (upd (upd (upd (fun _ => 0) 0 0) 1 0) 2 0) 3 0) 4 0) 0 2))), (k, .inr (0, [.ref ks, .ref kw, .ref kc, .int (-6), .int 0, .int 0, .ref kq, .ref km, .ref kd, .int 0, .ref ka, .ref kk])), (ks, .inl (cI, 5, .inl (upd (fun _ => 0) 0 800))), (kw, .inl (cI, 14, .inl (fun _ => 0)))] := hD
    obtain rfl : r85 = 0 := hq85
    refine lv_dup2_11 hx hb dX3_countSlots_48 rfl rfl ?_
    refine va_iald hx hb hK hP 1 0 rfl rfl (vin (by decide) (by decide)) dX3_countSlots_49 ?_
    refine lv_topi (fun x86 e86 => ?_)
    obtain rfl : x86 = 2 := e86.trans (by first | rfl | decide)
    refine lv_iconst (v := 2) hx hb dX3_countSlots_50 (by decide) ?_
    refine lv_iadd hx hb dX3_countSlots_51 ?_
    refine lv_topi (fun x87 e87 => ?_)
    obtain rfl : x87 = 4 := e87.trans (by decide)
    refine va_iast hx hb hK hP hD hS 1 0 rfl rfl (vin (by decide) (by decide)) dX3_countSlots_52 (fun H locs hP hD hS => ?_)
    replace hP : va_P (dC, dI) vwCl [(o, .inr (3, [.ref k, .ref op, .int 0, .ref oq, .ref ov, .ref os])), (os, .inl (cI, 5, .inl (upd (upd (upd (upd (upd (upd (upd (fun _ => 0) 0 0) 1 0) 2 0) 3 0) 4 0) 0 2) 0 4))), (k, .inr (0, [.ref ks, .ref kw, .ref kc, .int (-6), .int 0, .int 0, .ref kq, .ref km, .ref kd, .int 0, .ref ka, .ref kk])), (ks, .inl (cI, 5, .inl (upd (fun _ => 0) 0 800))), (kw, .inl (cI, 14, .inl (fun _ => 0)))] H := hP
    replace hD : va_D A [(o, .inr (3, [.ref k, .ref op, .int 0, .ref oq, .ref ov, .ref os])), (os, .inl (cI, 5, .inl (upd (upd (upd (upd (upd (upd (upd (fun _ => 0) 0 0) 1 0) 2 0) 3 0) 4 0) 0 2) 0 4))), (k, .inr (0, [.ref ks, .ref kw, .ref kc, .int (-6), .int 0, .int 0, .ref kq, .ref km, .ref kd, .int 0, .ref ka, .ref kk])), (ks, .inl (cI, 5, .inl (upd (fun _ => 0) 0 800))), (kw, .inl (cI, 14, .inl (fun _ => 0)))] := hD
    refine lv_iinc (v := 2) (lv' := [(2, .int 2), (0, .ref o), (1, .int 4)]) hx hb dX3_countSlots_53 hl (k := 0) rfl (by decide) (by decide) rfl (fun ls hl => ?_)
    refine lv_goto (tgt := 30) hx hb dX3_countSlots_56 (by decide) ?_
    refine lv_iload_n hx hb dX3_countSlots_30 rfl (lv_at hl 0 rfl) ?_
    refine lv_iload_n hx hb dX3_countSlots_31 rfl (lv_at hl 2 rfl) ?_
    refine lv_icmp_gt (tgt := 59) hx hb dX3_countSlots_32 (by decide) (fun c88 => absurd c88 (by decide)) (fun c88 => ?_)
    refine lv_aload_n hx hb dX3_countSlots_35 rfl (lv_at hl 1 rfl) ?_
    refine va_get (D := (dC, dI)) (ci := 3) (v := .ref os) (C := RX3) (T := TX3) (N := 6) hx hb hts hin3 hown hK hP 0 rfl rfl 5 (by decide) hw0 (fun _ h9 => h9) rfl dX3_countSlots_36 ?_
    refine lv_aload_n hx hb dX3_countSlots_39 rfl (lv_at hl 1 rfl) ?_
    refine va_get (D := (dC, dI)) (ci := 3) (v := .ref k) (C := RX3) (T := TX3) (N := 6) hx hb hts hin3 hown hK hP 0 rfl rfl 0 (by decide) hw1 (fun _ h9 => h9) rfl dX3_countSlots_40 ?_
    refine lv_iload_n hx hb dX3_countSlots_43 rfl (lv_at hl 0 rfl) ?_
    refine lv_iconst (v := 0) hx hb dX3_countSlots_44 (by decide) ?_
    refine mx_i (wr := [(o, .inr (3, [.ref k, .ref op, .int 0, .ref oq, .ref ov, .ref os])), (os, .inl (cI, 5, .inl (upd (upd (upd (upd (upd (upd (upd (fun _ => 0) 0 0) 1 0) 2 0) 3 0) 4 0) 0 2) 0 4)))]) (va_runV (As := [.int 2, .int 0]) (rest := [.ref os]) ⟨hx, hb, hml, hown, hts⟩ (c_X0_windOn l dC dI cI cZ cK tS aK aV k ks kw kc kq km kd ka kk 2 H.size (by have z8 : (2 : Int32).toInt = 2 := rfl; first | omega | decide | assumption | trivial)) (cwV 2 hts (gw_v (fun _ h9 => List.mem_cons_of_mem _ h9) wm_169 wm_170 wm_171 wm_10 wm_172) rfl rfl rfl (by decide +kernel) ⟨Nat.le_of_ble_eq_true rfl, Nat.le_of_ble_eq_true rfl⟩) (mx_preV (C := RX0) (T := TX0) (N := 12) (ci := 0) hKx hP hD hS hA [2, 3, 4] (by decide) rfl rfl rfl) rfl rfl hl.1 rfl (lv_room (Nat.le_of_ble_eq_true rfl)) dX3_countSlots_45 ⟨Nat.le_of_ble_eq_true rfl, Nat.le_of_ble_eq_true rfl⟩) hP hD hS hA [2, 3, 4] [0, 1] rfl rfl (by decide) (by decide) (fun r89 u89 H locs hq89 hP hD hS => ?_)
    replace hP : va_P (dC, dI) vwCl [(o, .inr (3, [.ref k, .ref op, .int 0, .ref oq, .ref ov, .ref os])), (os, .inl (cI, 5, .inl (upd (upd (upd (upd (upd (upd (upd (fun _ => 0) 0 0) 1 0) 2 0) 3 0) 4 0) 0 2) 0 4))), (k, .inr (0, [.ref ks, .ref kw, .ref kc, .int (-6), .int 0, .int 0, .ref kq, .ref km, .ref kd, .int 0, .ref ka, .ref kk])), (ks, .inl (cI, 5, .inl (upd (fun _ => 0) 0 800))), (kw, .inl (cI, 14, .inl (fun _ => 0)))] H := hP
    replace hD : va_D A [(o, .inr (3, [.ref k, .ref op, .int 0, .ref oq, .ref ov, .ref os])), (os, .inl (cI, 5, .inl (upd (upd (upd (upd (upd (upd (upd (fun _ => 0) 0 0) 1 0) 2 0) 3 0) 4 0) 0 2) 0 4))), (k, .inr (0, [.ref ks, .ref kw, .ref kc, .int (-6), .int 0, .int 0, .ref kq, .ref km, .ref kd, .int 0, .ref ka, .ref kk])), (ks, .inl (cI, 5, .inl (upd (fun _ => 0) 0 800))), (kw, .inl (cI, 14, .inl (fun _ => 0)))] := hD
    obtain rfl : r89 = 0 := hq89
    refine lv_dup2_11 hx hb dX3_countSlots_48 rfl rfl ?_
    refine va_iald hx hb hK hP 1 0 rfl rfl (vin (by decide) (by decide)) dX3_countSlots_49 ?_
    refine lv_topi (fun x90 e90 => ?_)
    obtain rfl : x90 = 4 := e90.trans (by first | rfl | decide)
    refine lv_iconst (v := 2) hx hb dX3_countSlots_50 (by decide) ?_
    refine lv_iadd hx hb dX3_countSlots_51 ?_
    refine lv_topi (fun x91 e91 => ?_)
    obtain rfl : x91 = 6 := e91.trans (by decide)
    refine va_iast hx hb hK hP hD hS 1 0 rfl rfl (vin (by decide) (by decide)) dX3_countSlots_52 (fun H locs hP hD hS => ?_)
    replace hP : va_P (dC, dI) vwCl [(o, .inr (3, [.ref k, .ref op, .int 0, .ref oq, .ref ov, .ref os])), (os, .inl (cI, 5, .inl (upd (upd (upd (upd (upd (upd (upd (upd (fun _ => 0) 0 0) 1 0) 2 0) 3 0) 4 0) 0 2) 0 4) 0 6))), (k, .inr (0, [.ref ks, .ref kw, .ref kc, .int (-6), .int 0, .int 0, .ref kq, .ref km, .ref kd, .int 0, .ref ka, .ref kk])), (ks, .inl (cI, 5, .inl (upd (fun _ => 0) 0 800))), (kw, .inl (cI, 14, .inl (fun _ => 0)))] H := hP
    replace hD : va_D A [(o, .inr (3, [.ref k, .ref op, .int 0, .ref oq, .ref ov, .ref os])), (os, .inl (cI, 5, .inl (upd (upd (upd (upd (upd (upd (upd (upd (fun _ => 0) 0 0) 1 0) 2 0) 3 0) 4 0) 0 2) 0 4) 0 6))), (k, .inr (0, [.ref ks, .ref kw, .ref kc, .int (-6), .int 0, .int 0, .ref kq, .ref km, .ref kd, .int 0, .ref ka, .ref kk])), (ks, .inl (cI, 5, .inl (upd (fun _ => 0) 0 800))), (kw, .inl (cI, 14, .inl (fun _ => 0)))] := hD
    refine lv_iinc (v := 3) (lv' := [(2, .int 3), (0, .ref o), (1, .int 4)]) hx hb dX3_countSlots_53 hl (k := 0) rfl (by decide) (by decide) rfl (fun ls hl => ?_)
    refine lv_goto (tgt := 30) hx hb dX3_countSlots_56 (by decide) ?_
    refine lv_iload_n hx hb dX3_countSlots_30 rfl (lv_at hl 0 rfl) ?_
    refine lv_iload_n hx hb dX3_countSlots_31 rfl (lv_at hl 2 rfl) ?_
    refine lv_icmp_gt (tgt := 59) hx hb dX3_countSlots_32 (by decide) (fun c92 => absurd c92 (by decide)) (fun c92 => ?_)
    refine lv_aload_n hx hb dX3_countSlots_35 rfl (lv_at hl 1 rfl) ?_
    refine va_get (D := (dC, dI)) (ci := 3) (v := .ref os) (C := RX3) (T := TX3) (N := 6) hx hb hts hin3 hown hK hP 0 rfl rfl 5 (by decide) hw0 (fun _ h9 => h9) rfl dX3_countSlots_36 ?_
    refine lv_aload_n hx hb dX3_countSlots_39 rfl (lv_at hl 1 rfl) ?_
    refine va_get (D := (dC, dI)) (ci := 3) (v := .ref k) (C := RX3) (T := TX3) (N := 6) hx hb hts hin3 hown hK hP 0 rfl rfl 0 (by decide) hw1 (fun _ h9 => h9) rfl dX3_countSlots_40 ?_
    refine lv_iload_n hx hb dX3_countSlots_43 rfl (lv_at hl 0 rfl) ?_
    refine lv_iconst (v := 0) hx hb dX3_countSlots_44 (by decide) ?_
    refine mx_i (wr := [(o, .inr (3, [.ref k, .ref op, .int 0, .ref oq, .ref ov, .ref os])), (os, .inl (cI, 5, .inl (upd (upd (upd (upd (upd (upd (upd (upd (fun _ => 0) 0 0) 1 0) 2 0) 3 0) 4 0) 0 2) 0 4) 0 6)))]) (va_runV (As := [.int 3, .int 0]) (rest := [.ref os]) ⟨hx, hb, hml, hown, hts⟩ (c_X0_windOn l dC dI cI cZ cK tS aK aV k ks kw kc kq km kd ka kk 3 H.size (by have z8 : (3 : Int32).toInt = 3 := rfl; first | omega | decide | assumption | trivial)) (cwV 2 hts (gw_v (fun _ h9 => List.mem_cons_of_mem _ h9) wm_169 wm_170 wm_171 wm_10 wm_172) rfl rfl rfl (by decide +kernel) ⟨Nat.le_of_ble_eq_true rfl, Nat.le_of_ble_eq_true rfl⟩) (mx_preV (C := RX0) (T := TX0) (N := 12) (ci := 0) hKx hP hD hS hA [2, 3, 4] (by decide) rfl rfl rfl) rfl rfl hl.1 rfl (lv_room (Nat.le_of_ble_eq_true rfl)) dX3_countSlots_45 ⟨Nat.le_of_ble_eq_true rfl, Nat.le_of_ble_eq_true rfl⟩) hP hD hS hA [2, 3, 4] [0, 1] rfl rfl (by decide) (by decide) (fun r93 u93 H locs hq93 hP hD hS => ?_)
    replace hP : va_P (dC, dI) vwCl [(o, .inr (3, [.ref k, .ref op, .int 0, .ref oq, .ref ov, .ref os])), (os, .inl (cI, 5, .inl (upd (upd (upd (upd (upd (upd (upd (upd (fun _ => 0) 0 0) 1 0) 2 0) 3 0) 4 0) 0 2) 0 4) 0 6))), (k, .inr (0, [.ref ks, .ref kw, .ref kc, .int (-6), .int 0, .int 0, .ref kq, .ref km, .ref kd, .int 0, .ref ka, .ref kk])), (ks, .inl (cI, 5, .inl (upd (fun _ => 0) 0 800))), (kw, .inl (cI, 14, .inl (fun _ => 0)))] H := hP
    replace hD : va_D A [(o, .inr (3, [.ref k, .ref op, .int 0, .ref oq, .ref ov, .ref os])), (os, .inl (cI, 5, .inl (upd (upd (upd (upd (upd (upd (upd (upd (fun _ => 0) 0 0) 1 0) 2 0) 3 0) 4 0) 0 2) 0 4) 0 6))), (k, .inr (0, [.ref ks, .ref kw, .ref kc, .int (-6), .int 0, .int 0, .ref kq, .ref km, .ref kd, .int 0, .ref ka, .ref kk])), (ks, .inl (cI, 5, .inl (upd (fun _ => 0) 0 800))), (kw, .inl (cI, 14, .inl (fun _ => 0)))] := hD
    obtain rfl : r93 = 0 := hq93
    refine lv_dup2_11 hx hb dX3_countSlots_48 rfl rfl ?_
    refine va_iald hx hb hK hP 1 0 rfl rfl (vin (by decide) (by decide)) dX3_countSlots_49 ?_
    refine lv_topi (fun x94 e94 => ?_)
    obtain rfl : x94 = 6 := e94.trans (by first | rfl | decide)
    refine lv_iconst (v := 2) hx hb dX3_countSlots_50 (by decide) ?_
    refine lv_iadd hx hb dX3_countSlots_51 ?_
    refine lv_topi (fun x95 e95 => ?_)
    obtain rfl : x95 = 8 := e95.trans (by decide)
    refine va_iast hx hb hK hP hD hS 1 0 rfl rfl (vin (by decide) (by decide)) dX3_countSlots_52 (fun H locs hP hD hS => ?_)
    replace hP : va_P (dC, dI) vwCl [(o, .inr (3, [.ref k, .ref op, .int 0, .ref oq, .ref ov, .ref os])), (os, .inl (cI, 5, .inl (upd (upd (upd (upd (upd (upd (upd (upd (upd (fun _ => 0) 0 0) 1 0) 2 0) 3 0) 4 0) 0 2) 0 4) 0 6) 0 8))), (k, .inr (0, [.ref ks, .ref kw, .ref kc, .int (-6), .int 0, .int 0, .ref kq, .ref km, .ref kd, .int 0, .ref ka, .ref kk])), (ks, .inl (cI, 5, .inl (upd (fun _ => 0) 0 800))), (kw, .inl (cI, 14, .inl (fun _ => 0)))] H := hP
    replace hD : va_D A [(o, .inr (3, [.ref k, .ref op, .int 0, .ref oq, .ref ov, .ref os])), (os, .inl (cI, 5, .inl (upd (upd (upd (upd (upd (upd (upd (upd (upd (fun _ => 0) 0 0) 1 0) 2 0) 3 0) 4 0) 0 2) 0 4) 0 6) 0 8))), (k, .inr (0, [.ref ks, .ref kw, .ref kc, .int (-6), .int 0, .int 0, .ref kq, .ref km, .ref kd, .int 0, .ref ka, .ref kk])), (ks, .inl (cI, 5, .inl (upd (fun _ => 0) 0 800))), (kw, .inl (cI, 14, .inl (fun _ => 0)))] := hD
    refine lv_iinc (v := 4) (lv' := [(2, .int 4), (0, .ref o), (1, .int 4)]) hx hb dX3_countSlots_53 hl (k := 0) rfl (by decide) (by decide) rfl (fun ls hl => ?_)
    refine lv_goto (tgt := 30) hx hb dX3_countSlots_56 (by decide) ?_
    refine lv_iload_n hx hb dX3_countSlots_30 rfl (lv_at hl 0 rfl) ?_
    refine lv_iload_n hx hb dX3_countSlots_31 rfl (lv_at hl 2 rfl) ?_
    refine lv_icmp_gt (tgt := 59) hx hb dX3_countSlots_32 (by decide) (fun c96 => absurd c96 (by decide)) (fun c96 => ?_)
    refine lv_aload_n hx hb dX3_countSlots_35 rfl (lv_at hl 1 rfl) ?_
    refine va_get (D := (dC, dI)) (ci := 3) (v := .ref os) (C := RX3) (T := TX3) (N := 6) hx hb hts hin3 hown hK hP 0 rfl rfl 5 (by decide) hw0 (fun _ h9 => h9) rfl dX3_countSlots_36 ?_
    refine lv_aload_n hx hb dX3_countSlots_39 rfl (lv_at hl 1 rfl) ?_
    refine va_get (D := (dC, dI)) (ci := 3) (v := .ref k) (C := RX3) (T := TX3) (N := 6) hx hb hts hin3 hown hK hP 0 rfl rfl 0 (by decide) hw1 (fun _ h9 => h9) rfl dX3_countSlots_40 ?_
    refine lv_iload_n hx hb dX3_countSlots_43 rfl (lv_at hl 0 rfl) ?_
    refine lv_iconst (v := 0) hx hb dX3_countSlots_44 (by decide) ?_
    refine mx_i (wr := [(o, .inr (3, [.ref k, .ref op, .int 0, .ref oq, .ref ov, .ref os])), (os, .inl (cI, 5, .inl (upd (upd (upd (upd (upd (upd (upd (upd (upd (fun _ => 0) 0 0) 1 0) 2 0) 3 0) 4 0) 0 2) 0 4) 0 6) 0 8)))]) (va_runV (As := [.int 4, .int 0]) (rest := [.ref os]) ⟨hx, hb, hml, hown, hts⟩ (c_X0_windOn l dC dI cI cZ cK tS aK aV k ks kw kc kq km kd ka kk 4 H.size (by have z8 : (4 : Int32).toInt = 4 := rfl; first | omega | decide | assumption | trivial)) (cwV 2 hts (gw_v (fun _ h9 => List.mem_cons_of_mem _ h9) wm_169 wm_170 wm_171 wm_10 wm_172) rfl rfl rfl (by decide +kernel) ⟨Nat.le_of_ble_eq_true rfl, Nat.le_of_ble_eq_true rfl⟩) (mx_preV (C := RX0) (T := TX0) (N := 12) (ci := 0) hKx hP hD hS hA [2, 3, 4] (by decide) rfl rfl rfl) rfl rfl hl.1 rfl (lv_room (Nat.le_of_ble_eq_true rfl)) dX3_countSlots_45 ⟨Nat.le_of_ble_eq_true rfl, Nat.le_of_ble_eq_true rfl⟩) hP hD hS hA [2, 3, 4] [0, 1] rfl rfl (by decide) (by decide) (fun r97 u97 H locs hq97 hP hD hS => ?_)
    replace hP : va_P (dC, dI) vwCl [(o, .inr (3, [.ref k, .ref op, .int 0, .ref oq, .ref ov, .ref os])), (os, .inl (cI, 5, .inl (upd (upd (upd (upd (upd (upd (upd (upd (upd (fun _ => 0) 0 0) 1 0) 2 0) 3 0) 4 0) 0 2) 0 4) 0 6) 0 8))), (k, .inr (0, [.ref ks, .ref kw, .ref kc, .int (-6), .int 0, .int 0, .ref kq, .ref km, .ref kd, .int 0, .ref ka, .ref kk])), (ks, .inl (cI, 5, .inl (upd (fun _ => 0) 0 800))), (kw, .inl (cI, 14, .inl (fun _ => 0)))] H := hP
    replace hD : va_D A [(o, .inr (3, [.ref k, .ref op, .int 0, .ref oq, .ref ov, .ref os])), (os, .inl (cI, 5, .inl (upd (upd (upd (upd (upd (upd (upd (upd (upd (fun _ => 0) 0 0) 1 0) 2 0) 3 0) 4 0) 0 2) 0 4) 0 6) 0 8))), (k, .inr (0, [.ref ks, .ref kw, .ref kc, .int (-6), .int 0, .int 0, .ref kq, .ref km, .ref kd, .int 0, .ref ka, .ref kk])), (ks, .inl (cI, 5, .inl (upd (fun _ => 0) 0 800))), (kw, .inl (cI, 14, .inl (fun _ => 0)))] := hD
    obtain rfl : r97 = 0 := hq97
    refine lv_dup2_11 hx hb dX3_countSlots_48 rfl rfl ?_
    refine va_iald hx hb hK hP 1 0 rfl rfl (vin (by decide) (by decide)) dX3_countSlots_49 ?_
    refine lv_topi (fun x98 e98 => ?_)
    obtain rfl : x98 = 8 := e98.trans (by first | rfl | decide)
    refine lv_iconst (v := 2) hx hb dX3_countSlots_50 (by decide) ?_
    refine lv_iadd hx hb dX3_countSlots_51 ?_
    refine lv_topi (fun x99 e99 => ?_)
    obtain rfl : x99 = 10 := e99.trans (by decide)
    refine va_iast hx hb hK hP hD hS 1 0 rfl rfl (vin (by decide) (by decide)) dX3_countSlots_52 (fun H locs hP hD hS => ?_)
    replace hP : va_P (dC, dI) vwCl [(o, .inr (3, [.ref k, .ref op, .int 0, .ref oq, .ref ov, .ref os])), (os, .inl (cI, 5, .inl (upd (upd (upd (upd (upd (upd (upd (upd (upd (upd (fun _ => 0) 0 0) 1 0) 2 0) 3 0) 4 0) 0 2) 0 4) 0 6) 0 8) 0 10))), (k, .inr (0, [.ref ks, .ref kw, .ref kc, .int (-6), .int 0, .int 0, .ref kq, .ref km, .ref kd, .int 0, .ref ka, .ref kk])), (ks, .inl (cI, 5, .inl (upd (fun _ => 0) 0 800))), (kw, .inl (cI, 14, .inl (fun _ => 0)))] H := hP
    replace hD : va_D A [(o, .inr (3, [.ref k, .ref op, .int 0, .ref oq, .ref ov, .ref os])), (os, .inl (cI, 5, .inl (upd (upd (upd (upd (upd (upd (upd (upd (upd (upd (fun _ => 0) 0 0) 1 0) 2 0) 3 0) 4 0) 0 2) 0 4) 0 6) 0 8) 0 10))), (k, .inr (0, [.ref ks, .ref kw, .ref kc, .int (-6), .int 0, .int 0, .ref kq, .ref km, .ref kd, .int 0, .ref ka, .ref kk])), (ks, .inl (cI, 5, .inl (upd (fun _ => 0) 0 800))), (kw, .inl (cI, 14, .inl (fun _ => 0)))] := hD
    refine lv_iinc (v := 5) (lv' := [(2, .int 5), (0, .ref o), (1, .int 4)]) hx hb dX3_countSlots_53 hl (k := 0) rfl (by decide) (by decide) rfl (fun ls hl => ?_)
    refine lv_goto (tgt := 30) hx hb dX3_countSlots_56 (by decide) ?_
    refine lv_iload_n hx hb dX3_countSlots_30 rfl (lv_at hl 0 rfl) ?_
    refine lv_iload_n hx hb dX3_countSlots_31 rfl (lv_at hl 2 rfl) ?_
    refine lv_icmp_gt (tgt := 59) hx hb dX3_countSlots_32 (by decide) (fun c100 => ?_) (fun c100 => absurd c100 (by decide))
    have hP9 := mx_subP (wc := [(o, .inr (3, [.ref k, .ref op, .int 0, .ref oq, .ref ov, .ref os])), (os, .inl (cI, 5, .inl (upd (upd (upd (upd (upd (upd (upd (upd (upd (upd (fun _ => 0) 0 0) 1 0) 2 0) 3 0) 4 0) 0 2) 0 4) 0 6) 0 8) 0 10))), (k, .inr (0, [.ref ks, .ref kw, .ref kc, .int (-6), .int 0, .int 0, .ref kq, .ref km, .ref kd, .int 0, .ref ka, .ref kk])), (ks, .inl (cI, 5, .inl (upd (fun _ => 0) 0 800))), (kw, .inl (cI, 14, .inl (fun _ => 0)))]) hP [0, 1, 2, 3, 4] rfl
    have hD9 := hD.sub (ws' := [(o, .inr (3, [.ref k, .ref op, .int 0, .ref oq, .ref ov, .ref os])), (os, .inl (cI, 5, .inl (upd (upd (upd (upd (upd (upd (upd (upd (upd (upd (fun _ => 0) 0 0) 1 0) 2 0) 3 0) 4 0) 0 2) 0 4) 0 6) 0 8) 0 10))), (k, .inr (0, [.ref ks, .ref kw, .ref kc, .int (-6), .int 0, .int 0, .ref kq, .ref km, .ref kd, .int 0, .ref ka, .ref kk])), (ks, .inl (cI, 5, .inl (upd (fun _ => 0) 0 800))), (kw, .inl (cI, 14, .inl (fun _ => 0)))]) [0, 1, 2, 3, 4] (by decide) rfl
    exact W.vret hx hb hr (fun t ht hW => ⟨⟨(upd (upd (upd (upd (upd (upd (upd (upd (upd (upd (fun _ => 0) 0 0) 1 0) 2 0) 3 0) 4 0) 0 2) 0 4) 0 6) 0 8) 0 10), rfl, (by refine ⟨?_, ?_, ?_, ?_, ?_, ?_, ?_, ?_, ?_, ?_⟩ <;> decide), by rw [ht]; exact hP9, hD9⟩, hS.F ht⟩) hS.2.2 dX3_countSlots_59
  · have z9 : (5 : Int32).toInt = 5 := rfl
    refine lv_iconst (v := 0) hx hb dX3_countSlots_0 (by decide) ?_
    refine lv_istore_n (lv' := [(2, .int 0), (0, .ref o), (1, .int 5)]) hx hb dX3_countSlots_1 rfl hl (by decide) rfl (fun ls hl => ?_)
    refine lv_iload_n hx hb dX3_countSlots_2 rfl (lv_at hl 0 rfl) ?_
    refine lv_iconst (v := 4) hx hb dX3_countSlots_3 (by decide) ?_
    refine lv_icmp_gt (tgt := 20) hx hb dX3_countSlots_4 (by decide) (fun c101 => absurd c101 (by decide)) (fun c101 => ?_)
    refine lv_aload_n hx hb dX3_countSlots_7 rfl (lv_at hl 1 rfl) ?_
    refine va_get (D := (dC, dI)) (ci := 3) (v := .ref os) (C := RX3) (T := TX3) (N := 6) hx hb hts hin3 hown hK hP 0 rfl rfl 5 (by decide) hw0 (fun _ h9 => h9) rfl dX3_countSlots_8 ?_
    refine lv_iload_n hx hb dX3_countSlots_11 rfl (lv_at hl 0 rfl) ?_
    refine lv_iconst (v := 0) hx hb dX3_countSlots_12 (by decide) ?_
    refine va_iast hx hb hK hP hD hS 1 0 rfl rfl (vin (by decide) (by decide)) dX3_countSlots_13 (fun H locs hP hD hS => ?_)
    replace hP : va_P (dC, dI) vwCl [(o, .inr (3, [.ref k, .ref op, .int 0, .ref oq, .ref ov, .ref os])), (os, .inl (cI, 5, .inl (upd (fun _ => 0) 0 0))), (k, .inr (0, [.ref ks, .ref kw, .ref kc, .int (-6), .int 0, .int 0, .ref kq, .ref km, .ref kd, .int 0, .ref ka, .ref kk])), (ks, .inl (cI, 5, .inl (upd (fun _ => 0) 0 800))), (kw, .inl (cI, 14, .inl (fun _ => 0)))] H := hP
    replace hD : va_D A [(o, .inr (3, [.ref k, .ref op, .int 0, .ref oq, .ref ov, .ref os])), (os, .inl (cI, 5, .inl (upd (fun _ => 0) 0 0))), (k, .inr (0, [.ref ks, .ref kw, .ref kc, .int (-6), .int 0, .int 0, .ref kq, .ref km, .ref kd, .int 0, .ref ka, .ref kk])), (ks, .inl (cI, 5, .inl (upd (fun _ => 0) 0 800))), (kw, .inl (cI, 14, .inl (fun _ => 0)))] := hD
    refine lv_iinc (v := 1) (lv' := [(2, .int 1), (0, .ref o), (1, .int 5)]) hx hb dX3_countSlots_14 hl (k := 0) rfl (by decide) (by decide) rfl (fun ls hl => ?_)
    refine lv_goto (tgt := 2) hx hb dX3_countSlots_17 (by decide) ?_
    refine lv_iload_n hx hb dX3_countSlots_2 rfl (lv_at hl 0 rfl) ?_
    refine lv_iconst (v := 4) hx hb dX3_countSlots_3 (by decide) ?_
    refine lv_icmp_gt (tgt := 20) hx hb dX3_countSlots_4 (by decide) (fun c102 => absurd c102 (by decide)) (fun c102 => ?_)
    refine lv_aload_n hx hb dX3_countSlots_7 rfl (lv_at hl 1 rfl) ?_
    refine va_get (D := (dC, dI)) (ci := 3) (v := .ref os) (C := RX3) (T := TX3) (N := 6) hx hb hts hin3 hown hK hP 0 rfl rfl 5 (by decide) hw0 (fun _ h9 => h9) rfl dX3_countSlots_8 ?_
    refine lv_iload_n hx hb dX3_countSlots_11 rfl (lv_at hl 0 rfl) ?_
    refine lv_iconst (v := 0) hx hb dX3_countSlots_12 (by decide) ?_
    refine va_iast hx hb hK hP hD hS 1 0 rfl rfl (vin (by decide) (by decide)) dX3_countSlots_13 (fun H locs hP hD hS => ?_)
    replace hP : va_P (dC, dI) vwCl [(o, .inr (3, [.ref k, .ref op, .int 0, .ref oq, .ref ov, .ref os])), (os, .inl (cI, 5, .inl (upd (upd (fun _ => 0) 0 0) 1 0))), (k, .inr (0, [.ref ks, .ref kw, .ref kc, .int (-6), .int 0, .int 0, .ref kq, .ref km, .ref kd, .int 0, .ref ka, .ref kk])), (ks, .inl (cI, 5, .inl (upd (fun _ => 0) 0 800))), (kw, .inl (cI, 14, .inl (fun _ => 0)))] H := hP
    replace hD : va_D A [(o, .inr (3, [.ref k, .ref op, .int 0, .ref oq, .ref ov, .ref os])), (os, .inl (cI, 5, .inl (upd (upd (fun _ => 0) 0 0) 1 0))), (k, .inr (0, [.ref ks, .ref kw, .ref kc, .int (-6), .int 0, .int 0, .ref kq, .ref km, .ref kd, .int 0, .ref ka, .ref kk])), (ks, .inl (cI, 5, .inl (upd (fun _ => 0) 0 800))), (kw, .inl (cI, 14, .inl (fun _ => 0)))] := hD
    refine lv_iinc (v := 2) (lv' := [(2, .int 2), (0, .ref o), (1, .int 5)]) hx hb dX3_countSlots_14 hl (k := 0) rfl (by decide) (by decide) rfl (fun ls hl => ?_)
    refine lv_goto (tgt := 2) hx hb dX3_countSlots_17 (by decide) ?_
    refine lv_iload_n hx hb dX3_countSlots_2 rfl (lv_at hl 0 rfl) ?_
    refine lv_iconst (v := 4) hx hb dX3_countSlots_3 (by decide) ?_
    refine lv_icmp_gt (tgt := 20) hx hb dX3_countSlots_4 (by decide) (fun c103 => absurd c103 (by decide)) (fun c103 => ?_)
    refine lv_aload_n hx hb dX3_countSlots_7 rfl (lv_at hl 1 rfl) ?_
    refine va_get (D := (dC, dI)) (ci := 3) (v := .ref os) (C := RX3) (T := TX3) (N := 6) hx hb hts hin3 hown hK hP 0 rfl rfl 5 (by decide) hw0 (fun _ h9 => h9) rfl dX3_countSlots_8 ?_
    refine lv_iload_n hx hb dX3_countSlots_11 rfl (lv_at hl 0 rfl) ?_
    refine lv_iconst (v := 0) hx hb dX3_countSlots_12 (by decide) ?_
    refine va_iast hx hb hK hP hD hS 1 0 rfl rfl (vin (by decide) (by decide)) dX3_countSlots_13 (fun H locs hP hD hS => ?_)
    replace hP : va_P (dC, dI) vwCl [(o, .inr (3, [.ref k, .ref op, .int 0, .ref oq, .ref ov, .ref os])), (os, .inl (cI, 5, .inl (upd (upd (upd (fun _ => 0) 0 0) 1 0) 2 0))), (k, .inr (0, [.ref ks, .ref kw, .ref kc, .int (-6), .int 0, .int 0, .ref kq, .ref km, .ref kd, .int 0, .ref ka, .ref kk])), (ks, .inl (cI, 5, .inl (upd (fun _ => 0) 0 800))), (kw, .inl (cI, 14, .inl (fun _ => 0)))] H := hP
    replace hD : va_D A [(o, .inr (3, [.ref k, .ref op, .int 0, .ref oq, .ref ov, .ref os])), (os, .inl (cI, 5, .inl (upd (upd (upd (fun _ => 0) 0 0) 1 0) 2 0))), (k, .inr (0, [.ref ks, .ref kw, .ref kc, .int (-6), .int 0, .int 0, .ref kq, .ref km, .ref kd, .int 0, .ref ka, .ref kk])), (ks, .inl (cI, 5, .inl (upd (fun _ => 0) 0 800))), (kw, .inl (cI, 14, .inl (fun _ => 0)))] := hD
    refine lv_iinc (v := 3) (lv' := [(2, .int 3), (0, .ref o), (1, .int 5)]) hx hb dX3_countSlots_14 hl (k := 0) rfl (by decide) (by decide) rfl (fun ls hl => ?_)
    refine lv_goto (tgt := 2) hx hb dX3_countSlots_17 (by decide) ?_
    refine lv_iload_n hx hb dX3_countSlots_2 rfl (lv_at hl 0 rfl) ?_
    refine lv_iconst (v := 4) hx hb dX3_countSlots_3 (by decide) ?_
    refine lv_icmp_gt (tgt := 20) hx hb dX3_countSlots_4 (by decide) (fun c104 => absurd c104 (by decide)) (fun c104 => ?_)
    refine lv_aload_n hx hb dX3_countSlots_7 rfl (lv_at hl 1 rfl) ?_
    refine va_get (D := (dC, dI)) (ci := 3) (v := .ref os) (C := RX3) (T := TX3) (N := 6) hx hb hts hin3 hown hK hP 0 rfl rfl 5 (by decide) hw0 (fun _ h9 => h9) rfl dX3_countSlots_8 ?_
    refine lv_iload_n hx hb dX3_countSlots_11 rfl (lv_at hl 0 rfl) ?_
    refine lv_iconst (v := 0) hx hb dX3_countSlots_12 (by decide) ?_
    refine va_iast hx hb hK hP hD hS 1 0 rfl rfl (vin (by decide) (by decide)) dX3_countSlots_13 (fun H locs hP hD hS => ?_)
    replace hP : va_P (dC, dI) vwCl [(o, .inr (3, [.ref k, .ref op, .int 0, .ref oq, .ref ov, .ref os])), (os, .inl (cI, 5, .inl (upd (upd (upd (upd (fun _ => 0) 0 0) 1 0) 2 0) 3 0))), (k, .inr (0, [.ref ks, .ref kw, .ref kc, .int (-6), .int 0, .int 0, .ref kq, .ref km, .ref kd, .int 0, .ref ka, .ref kk])), (ks, .inl (cI, 5, .inl (upd (fun _ => 0) 0 800))), (kw, .inl (cI, 14, .inl (fun _ => 0)))] H := hP
    replace hD : va_D A [(o, .inr (3, [.ref k, .ref op, .int 0, .ref oq, .ref ov, .ref os])), (os, .inl (cI, 5, .inl (upd (upd (upd (upd (fun _ => 0) 0 0) 1 0) 2 0) 3 0))), (k, .inr (0, [.ref ks, .ref kw, .ref kc, .int (-6), .int 0, .int 0, .ref kq, .ref km, .ref kd, .int 0, .ref ka, .ref kk])), (ks, .inl (cI, 5, .inl (upd (fun _ => 0) 0 800))), (kw, .inl (cI, 14, .inl (fun _ => 0)))] := hD
    refine lv_iinc (v := 4) (lv' := [(2, .int 4), (0, .ref o), (1, .int 5)]) hx hb dX3_countSlots_14 hl (k := 0) rfl (by decide) (by decide) rfl (fun ls hl => ?_)
    refine lv_goto (tgt := 2) hx hb dX3_countSlots_17 (by decide) ?_
    refine lv_iload_n hx hb dX3_countSlots_2 rfl (lv_at hl 0 rfl) ?_
    refine lv_iconst (v := 4) hx hb dX3_countSlots_3 (by decide) ?_
    refine lv_icmp_gt (tgt := 20) hx hb dX3_countSlots_4 (by decide) (fun c105 => absurd c105 (by decide)) (fun c105 => ?_)
    refine lv_aload_n hx hb dX3_countSlots_7 rfl (lv_at hl 1 rfl) ?_
    refine va_get (D := (dC, dI)) (ci := 3) (v := .ref os) (C := RX3) (T := TX3) (N := 6) hx hb hts hin3 hown hK hP 0 rfl rfl 5 (by decide) hw0 (fun _ h9 => h9) rfl dX3_countSlots_8 ?_
    refine lv_iload_n hx hb dX3_countSlots_11 rfl (lv_at hl 0 rfl) ?_
    refine lv_iconst (v := 0) hx hb dX3_countSlots_12 (by decide) ?_
    refine va_iast hx hb hK hP hD hS 1 0 rfl rfl (vin (by decide) (by decide)) dX3_countSlots_13 (fun H locs hP hD hS => ?_)
    replace hP : va_P (dC, dI) vwCl [(o, .inr (3, [.ref k, .ref op, .int 0, .ref oq, .ref ov, .ref os])), (os, .inl (cI, 5, .inl (upd (upd (upd (upd (upd (fun _ => 0) 0 0) 1 0) 2 0) 3 0) 4 0))), (k, .inr (0, [.ref ks, .ref kw, .ref kc, .int (-6), .int 0, .int 0, .ref kq, .ref km, .ref kd, .int 0, .ref ka, .ref kk])), (ks, .inl (cI, 5, .inl (upd (fun _ => 0) 0 800))), (kw, .inl (cI, 14, .inl (fun _ => 0)))] H := hP
    replace hD : va_D A [(o, .inr (3, [.ref k, .ref op, .int 0, .ref oq, .ref ov, .ref os])), (os, .inl (cI, 5, .inl (upd (upd (upd (upd (upd (fun _ => 0) 0 0) 1 0) 2 0) 3 0) 4 0))), (k, .inr (0, [.ref ks, .ref kw, .ref kc, .int (-6), .int 0, .int 0, .ref kq, .ref km, .ref kd, .int 0, .ref ka, .ref kk])), (ks, .inl (cI, 5, .inl (upd (fun _ => 0) 0 800))), (kw, .inl (cI, 14, .inl (fun _ => 0)))] := hD
    refine lv_iinc (v := 5) (lv' := [(2, .int 5), (0, .ref o), (1, .int 5)]) hx hb dX3_countSlots_14 hl (k := 0) rfl (by decide) (by decide) rfl (fun ls hl => ?_)
    refine lv_goto (tgt := 2) hx hb dX3_countSlots_17 (by decide) ?_
    refine lv_iload_n hx hb dX3_countSlots_2 rfl (lv_at hl 0 rfl) ?_
    refine lv_iconst (v := 4) hx hb dX3_countSlots_3 (by decide) ?_
    refine lv_icmp_gt (tgt := 20) hx hb dX3_countSlots_4 (by decide) (fun c106 => ?_) (fun c106 => absurd c106 (by decide))
    refine lv_aload_n hx hb dX3_countSlots_20 rfl (lv_at hl 1 rfl) ?_
    refine va_get (D := (dC, dI)) (ci := 3) (v := .ref k) (C := RX3) (T := TX3) (N := 6) hx hb hts hin3 hown hK hP 0 rfl rfl 0 (by decide) hw1 (fun _ h9 => h9) rfl dX3_countSlots_21 ?_
    refine va_get (D := (dC, dI)) (ci := 0) (v := .ref ks) (C := RX0) (T := TX0) (N := 12) hx hb hts hin0 hown hK hP 2 rfl rfl 0 (by decide) hw2 (fun _ h9 => h9) rfl dX3_countSlots_24 ?_
    refine lv_iconst (v := 4) hx hb dX3_countSlots_27 (by decide) ?_
    refine va_iald hx hb hK hP 3 0 rfl rfl (vin (by decide) (by decide)) dX3_countSlots_28 ?_
    refine lv_topi (fun x107 e107 => ?_)
    obtain rfl : x107 = 0 := e107.trans (by first | rfl | decide)
    refine lv_istore_n (lv' := [(2, .int 0), (0, .ref o), (1, .int 5)]) hx hb dX3_countSlots_29 rfl hl (by decide) rfl (fun ls hl => ?_)
    refine lv_iload_n hx hb dX3_countSlots_30 rfl (lv_at hl 0 rfl) ?_
    refine lv_iload_n hx hb dX3_countSlots_31 rfl (lv_at hl 2 rfl) ?_
    refine lv_icmp_gt (tgt := 59) hx hb dX3_countSlots_32 (by decide) (fun c108 => absurd c108 (by decide)) (fun c108 => ?_)
    refine lv_aload_n hx hb dX3_countSlots_35 rfl (lv_at hl 1 rfl) ?_
    refine va_get (D := (dC, dI)) (ci := 3) (v := .ref os) (C := RX3) (T := TX3) (N := 6) hx hb hts hin3 hown hK hP 0 rfl rfl 5 (by decide) hw0 (fun _ h9 => h9) rfl dX3_countSlots_36 ?_
    refine lv_aload_n hx hb dX3_countSlots_39 rfl (lv_at hl 1 rfl) ?_
    refine va_get (D := (dC, dI)) (ci := 3) (v := .ref k) (C := RX3) (T := TX3) (N := 6) hx hb hts hin3 hown hK hP 0 rfl rfl 0 (by decide) hw1 (fun _ h9 => h9) rfl dX3_countSlots_40 ?_
    refine lv_iload_n hx hb dX3_countSlots_43 rfl (lv_at hl 0 rfl) ?_
    refine lv_iconst (v := 0) hx hb dX3_countSlots_44 (by decide) ?_
    refine mx_i (wr := [(o, .inr (3, [.ref k, .ref op, .int 0, .ref oq, .ref ov, .ref os])), (os, .inl (cI, 5, .inl (upd (upd (upd (upd (upd (fun _ => 0) 0 0) 1 0) 2 0) 3 0) 4 0)))]) (va_runV (As := [.int 0, .int 0]) (rest := [.ref os]) ⟨hx, hb, hml, hown, hts⟩ (c_X0_windOn l dC dI cI cZ cK tS aK aV k ks kw kc kq km kd ka kk 0 H.size (by have z8 : (0 : Int32).toInt = 0 := rfl; first | omega | decide | assumption | trivial)) (cwV 2 hts (gw_v (fun _ h9 => List.mem_cons_of_mem _ h9) wm_169 wm_170 wm_171 wm_10 wm_172) rfl rfl rfl (by decide +kernel) ⟨Nat.le_of_ble_eq_true rfl, Nat.le_of_ble_eq_true rfl⟩) (mx_preV (C := RX0) (T := TX0) (N := 12) (ci := 0) hKx hP hD hS hA [2, 3, 4] (by decide) rfl rfl rfl) rfl rfl hl.1 rfl (lv_room (Nat.le_of_ble_eq_true rfl)) dX3_countSlots_45 ⟨Nat.le_of_ble_eq_true rfl, Nat.le_of_ble_eq_true rfl⟩) hP hD hS hA [2, 3, 4] [0, 1] rfl rfl (by decide) (by decide) (fun r109 u109 H locs hq109 hP hD hS => ?_)
    replace hP : va_P (dC, dI) vwCl [(o, .inr (3, [.ref k, .ref op, .int 0, .ref oq, .ref ov, .ref os])), (os, .inl (cI, 5, .inl (upd (upd (upd (upd (upd (fun _ => 0) 0 0) 1 0) 2 0) 3 0) 4 0))), (k, .inr (0, [.ref ks, .ref kw, .ref kc, .int (-6), .int 0, .int 0, .ref kq, .ref km, .ref kd, .int 0, .ref ka, .ref kk])), (ks, .inl (cI, 5, .inl (upd (fun _ => 0) 0 800))), (kw, .inl (cI, 14, .inl (fun _ => 0)))] H := hP
    replace hD : va_D A [(o, .inr (3, [.ref k, .ref op, .int 0, .ref oq, .ref ov, .ref os])), (os, .inl (cI, 5, .inl (upd (upd (upd (upd (upd (fun _ => 0) 0 0) 1 0) 2 0) 3 0) 4 0))), (k, .inr (0, [.ref ks, .ref kw, .ref kc, .int (-6), .int 0, .int 0, .ref kq, .ref km, .ref kd, .int 0, .ref ka, .ref kk])), (ks, .inl (cI, 5, .inl (upd (fun _ => 0) 0 800))), (kw, .inl (cI, 14, .inl (fun _ => 0)))] := hD
    obtain rfl : r109 = 0 := hq109
    refine lv_dup2_11 hx hb dX3_countSlots_48 rfl rfl ?_
    refine va_iald hx hb hK hP 1 0 rfl rfl (vin (by decide) (by decide)) dX3_countSlots_49 ?_
    refine lv_topi (fun x110 e110 => ?_)
    obtain rfl : x110 = 0 := e110.trans (by first | rfl | decide)
    refine lv_iconst (v := 2) hx hb dX3_countSlots_50 (by decide) ?_
    refine lv_iadd hx hb dX3_countSlots_51 ?_
    refine lv_topi (fun x111 e111 => ?_)
    obtain rfl : x111 = 2 := e111.trans (by decide)
    refine va_iast hx hb hK hP hD hS 1 0 rfl rfl (vin (by decide) (by decide)) dX3_countSlots_52 (fun H locs hP hD hS => ?_)
    replace hP : va_P (dC, dI) vwCl [(o, .inr (3, [.ref k, .ref op, .int 0, .ref oq, .ref ov, .ref os])), (os, .inl (cI, 5, .inl (upd (upd (upd (upd (upd (upd (fun _ => 0) 0 0) 1 0) 2 0) 3 0) 4 0) 0 2))), (k, .inr (0, [.ref ks, .ref kw, .ref kc, .int (-6), .int 0, .int 0, .ref kq, .ref km, .ref kd, .int 0, .ref ka, .ref kk])), (ks, .inl (cI, 5, .inl (upd (fun _ => 0) 0 800))), (kw, .inl (cI, 14, .inl (fun _ => 0)))] H := hP
    replace hD : va_D A [(o, .inr (3, [.ref k, .ref op, .int 0, .ref oq, .ref ov, .ref os])), (os, .inl (cI, 5, .inl (upd (upd (upd (upd (upd (upd (fun _ => 0) 0 0) 1 0) 2 0) 3 0) 4 0) 0 2))), (k, .inr (0, [.ref ks, .ref kw, .ref kc, .int (-6), .int 0, .int 0, .ref kq, .ref km, .ref kd, .int 0, .ref ka, .ref kk])), (ks, .inl (cI, 5, .inl (upd (fun _ => 0) 0 800))), (kw, .inl (cI, 14, .inl (fun _ => 0)))] := hD
    refine lv_iinc (v := 1) (lv' := [(2, .int 1), (0, .ref o), (1, .int 5)]) hx hb dX3_countSlots_53 hl (k := 0) rfl (by decide) (by decide) rfl (fun ls hl => ?_)
    refine lv_goto (tgt := 30) hx hb dX3_countSlots_56 (by decide) ?_
    refine lv_iload_n hx hb dX3_countSlots_30 rfl (lv_at hl 0 rfl) ?_
    refine lv_iload_n hx hb dX3_countSlots_31 rfl (lv_at hl 2 rfl) ?_
    refine lv_icmp_gt (tgt := 59) hx hb dX3_countSlots_32 (by decide) (fun c112 => absurd c112 (by decide)) (fun c112 => ?_)
    refine lv_aload_n hx hb dX3_countSlots_35 rfl (lv_at hl 1 rfl) ?_
    refine va_get (D := (dC, dI)) (ci := 3) (v := .ref os) (C := RX3) (T := TX3) (N := 6) hx hb hts hin3 hown hK hP 0 rfl rfl 5 (by decide) hw0 (fun _ h9 => h9) rfl dX3_countSlots_36 ?_
    refine lv_aload_n hx hb dX3_countSlots_39 rfl (lv_at hl 1 rfl) ?_
    refine va_get (D := (dC, dI)) (ci := 3) (v := .ref k) (C := RX3) (T := TX3) (N := 6) hx hb hts hin3 hown hK hP 0 rfl rfl 0 (by decide) hw1 (fun _ h9 => h9) rfl dX3_countSlots_40 ?_
    refine lv_iload_n hx hb dX3_countSlots_43 rfl (lv_at hl 0 rfl) ?_
    refine lv_iconst (v := 0) hx hb dX3_countSlots_44 (by decide) ?_
    refine mx_i (wr := [(o, .inr (3, [.ref k, .ref op, .int 0, .ref oq, .ref ov, .ref os])), (os, .inl (cI, 5, .inl (upd (upd (upd (upd (upd (upd (fun _ => 0) 0 0) 1 0) 2 0) 3 0) 4 0) 0 2)))]) (va_runV (As := [.int 1, .int 0]) (rest := [.ref os]) ⟨hx, hb, hml, hown, hts⟩ (c_X0_windOn l dC dI cI cZ cK tS aK aV k ks kw kc kq km kd ka kk 1 H.size (by have z8 : (1 : Int32).toInt = 1 := rfl; first | omega | decide | assumption | trivial)) (cwV 2 hts (gw_v (fun _ h9 => List.mem_cons_of_mem _ h9) wm_169 wm_170 wm_171 wm_10 wm_172) rfl rfl rfl (by decide +kernel) ⟨Nat.le_of_ble_eq_true rfl, Nat.le_of_ble_eq_true rfl⟩) (mx_preV (C := RX0) (T := TX0) (N := 12) (ci := 0) hKx hP hD hS hA [2, 3, 4] (by decide) rfl rfl rfl) rfl rfl hl.1 rfl (lv_room (Nat.le_of_ble_eq_true rfl)) dX3_countSlots_45 ⟨Nat.le_of_ble_eq_true rfl, Nat.le_of_ble_eq_true rfl⟩) hP hD hS hA [2, 3, 4] [0, 1] rfl rfl (by decide) (by decide) (fun r113 u113 H locs hq113 hP hD hS => ?_)
    replace hP : va_P (dC, dI) vwCl [(o, .inr (3, [.ref k, .ref op, .int 0, .ref oq, .ref ov, .ref os])), (os, .inl (cI, 5, .inl (upd (upd (upd (upd (upd (upd (fun _ => 0) 0 0) 1 0) 2 0) 3 0) 4 0) 0 2))), (k, .inr (0, [.ref ks, .ref kw, .ref kc, .int (-6), .int 0, .int 0, .ref kq, .ref km, .ref kd, .int 0, .ref ka, .ref kk])), (ks, .inl (cI, 5, .inl (upd (fun _ => 0) 0 800))), (kw, .inl (cI, 14, .inl (fun _ => 0)))] H := hP
    replace hD : va_D A [(o, .inr (3, [.ref k, .ref op, .int 0, .ref oq, .ref ov, .ref os])), (os, .inl (cI, 5, .inl (upd (upd (upd (upd (upd (upd (fun _ => 0) 0 0) 1 0) 2 0) 3 0) 4 0) 0 2))), (k, .inr (0, [.ref ks, .ref kw, .ref kc, .int (-6), .int 0, .int 0, .ref kq, .ref km, .ref kd, .int 0, .ref ka, .ref kk])), (ks, .inl (cI, 5, .inl (upd (fun _ => 0) 0 800))), (kw, .inl (cI, 14, .inl (fun _ => 0)))] := hD
    obtain rfl : r113 = 0 := hq113
    refine lv_dup2_11 hx hb dX3_countSlots_48 rfl rfl ?_
    refine va_iald hx hb hK hP 1 0 rfl rfl (vin (by decide) (by decide)) dX3_countSlots_49 ?_
    refine lv_topi (fun x114 e114 => ?_)
    obtain rfl : x114 = 2 := e114.trans (by first | rfl | decide)
    refine lv_iconst (v := 2) hx hb dX3_countSlots_50 (by decide) ?_
    refine lv_iadd hx hb dX3_countSlots_51 ?_
    refine lv_topi (fun x115 e115 => ?_)
    obtain rfl : x115 = 4 := e115.trans (by decide)
    refine va_iast hx hb hK hP hD hS 1 0 rfl rfl (vin (by decide) (by decide)) dX3_countSlots_52 (fun H locs hP hD hS => ?_)
    replace hP : va_P (dC, dI) vwCl [(o, .inr (3, [.ref k, .ref op, .int 0, .ref oq, .ref ov, .ref os])), (os, .inl (cI, 5, .inl (upd (upd (upd (upd (upd (upd (upd (fun _ => 0) 0 0) 1 0) 2 0) 3 0) 4 0) 0 2) 0 4))), (k, .inr (0, [.ref ks, .ref kw, .ref kc, .int (-6), .int 0, .int 0, .ref kq, .ref km, .ref kd, .int 0, .ref ka, .ref kk])), (ks, .inl (cI, 5, .inl (upd (fun _ => 0) 0 800))), (kw, .inl (cI, 14, .inl (fun _ => 0)))] H := hP
    replace hD : va_D A [(o, .inr (3, [.ref k, .ref op, .int 0, .ref oq, .ref ov, .ref os])), (os, .inl (cI, 5, .inl (upd (upd (upd (upd (upd (upd (upd (fun _ => 0) 0 0) 1 0) 2 0) 3 0) 4 0) 0 2) 0 4))), (k, .inr (0, [.ref ks, .ref kw, .ref kc, .int (-6), .int 0, .int 0, .ref kq, .ref km, .ref kd, .int 0, .ref ka, .ref kk])), (ks, .inl (cI, 5, .inl (upd (fun _ => 0) 0 800))), (kw, .inl (cI, 14, .inl (fun _ => 0)))] := hD
    refine lv_iinc (v := 2) (lv' := [(2, .int 2), (0, .ref o), (1, .int 5)]) hx hb dX3_countSlots_53 hl (k := 0) rfl (by decide) (by decide) rfl (fun ls hl => ?_)
    refine lv_goto (tgt := 30) hx hb dX3_countSlots_56 (by decide) ?_
    refine lv_iload_n hx hb dX3_countSlots_30 rfl (lv_at hl 0 rfl) ?_
    refine lv_iload_n hx hb dX3_countSlots_31 rfl (lv_at hl 2 rfl) ?_
    refine lv_icmp_gt (tgt := 59) hx hb dX3_countSlots_32 (by decide) (fun c116 => absurd c116 (by decide)) (fun c116 => ?_)
    refine lv_aload_n hx hb dX3_countSlots_35 rfl (lv_at hl 1 rfl) ?_
    refine va_get (D := (dC, dI)) (ci := 3) (v := .ref os) (C := RX3) (T := TX3) (N := 6) hx hb hts hin3 hown hK hP 0 rfl rfl 5 (by decide) hw0 (fun _ h9 => h9) rfl dX3_countSlots_36 ?_
    refine lv_aload_n hx hb dX3_countSlots_39 rfl (lv_at hl 1 rfl) ?_
    refine va_get (D := (dC, dI)) (ci := 3) (v := .ref k) (C := RX3) (T := TX3) (N := 6) hx hb hts hin3 hown hK hP 0 rfl rfl 0 (by decide) hw1 (fun _ h9 => h9) rfl dX3_countSlots_40 ?_
    refine lv_iload_n hx hb dX3_countSlots_43 rfl (lv_at hl 0 rfl) ?_
    refine lv_iconst (v := 0) hx hb dX3_countSlots_44 (by decide) ?_
    refine mx_i (wr := [(o, .inr (3, [.ref k, .ref op, .int 0, .ref oq, .ref ov, .ref os])), (os, .inl (cI, 5, .inl (upd (upd (upd (upd (upd (upd (upd (fun _ => 0) 0 0) 1 0) 2 0) 3 0) 4 0) 0 2) 0 4)))]) (va_runV (As := [.int 2, .int 0]) (rest := [.ref os]) ⟨hx, hb, hml, hown, hts⟩ (c_X0_windOn l dC dI cI cZ cK tS aK aV k ks kw kc kq km kd ka kk 2 H.size (by have z8 : (2 : Int32).toInt = 2 := rfl; first | omega | decide | assumption | trivial)) (cwV 2 hts (gw_v (fun _ h9 => List.mem_cons_of_mem _ h9) wm_169 wm_170 wm_171 wm_10 wm_172) rfl rfl rfl (by decide +kernel) ⟨Nat.le_of_ble_eq_true rfl, Nat.le_of_ble_eq_true rfl⟩) (mx_preV (C := RX0) (T := TX0) (N := 12) (ci := 0) hKx hP hD hS hA [2, 3, 4] (by decide) rfl rfl rfl) rfl rfl hl.1 rfl (lv_room (Nat.le_of_ble_eq_true rfl)) dX3_countSlots_45 ⟨Nat.le_of_ble_eq_true rfl, Nat.le_of_ble_eq_true rfl⟩) hP hD hS hA [2, 3, 4] [0, 1] rfl rfl (by decide) (by decide) (fun r117 u117 H locs hq117 hP hD hS => ?_)
    replace hP : va_P (dC, dI) vwCl [(o, .inr (3, [.ref k, .ref op, .int 0, .ref oq, .ref ov, .ref os])), (os, .inl (cI, 5, .inl (upd (upd (upd (upd (upd (upd (upd (fun _ => 0) 0 0) 1 0) 2 0) 3 0) 4 0) 0 2) 0 4))), (k, .inr (0, [.ref ks, .ref kw, .ref kc, .int (-6), .int 0, .int 0, .ref kq, .ref km, .ref kd, .int 0, .ref ka, .ref kk])), (ks, .inl (cI, 5, .inl (upd (fun _ => 0) 0 800))), (kw, .inl (cI, 14, .inl (fun _ => 0)))] H := hP
    replace hD : va_D A [(o, .inr (3, [.ref k, .ref op, .int 0, .ref oq, .ref ov, .ref os])), (os, .inl (cI, 5, .inl (upd (upd (upd (upd (upd (upd (upd (fun _ => 0) 0 0) 1 0) 2 0) 3 0) 4 0) 0 2) 0 4))), (k, .inr (0, [.ref ks, .ref kw, .ref kc, .int (-6), .int 0, .int 0, .ref kq, .ref km, .ref kd, .int 0, .ref ka, .ref kk])), (ks, .inl (cI, 5, .inl (upd (fun _ => 0) 0 800))), (kw, .inl (cI, 14, .inl (fun _ => 0)))] := hD
    obtain rfl : r117 = 0 := hq117
    refine lv_dup2_11 hx hb dX3_countSlots_48 rfl rfl ?_
    refine va_iald hx hb hK hP 1 0 rfl rfl (vin (by decide) (by decide)) dX3_countSlots_49 ?_
    refine lv_topi (fun x118 e118 => ?_)
    obtain rfl : x118 = 4 := e118.trans (by first | rfl | decide)
    refine lv_iconst (v := 2) hx hb dX3_countSlots_50 (by decide) ?_
    refine lv_iadd hx hb dX3_countSlots_51 ?_
    refine lv_topi (fun x119 e119 => ?_)
    obtain rfl : x119 = 6 := e119.trans (by decide)
    refine va_iast hx hb hK hP hD hS 1 0 rfl rfl (vin (by decide) (by decide)) dX3_countSlots_52 (fun H locs hP hD hS => ?_)
    replace hP : va_P (dC, dI) vwCl [(o, .inr (3, [.ref k, .ref op, .int 0, .ref oq, .ref ov, .ref os])), (os, .inl (cI, 5, .inl (upd (upd (upd (upd (upd (upd (upd (upd (fun _ => 0) 0 0) 1 0) 2 0) 3 0) 4 0) 0 2) 0 4) 0 6))), (k, .inr (0, [.ref ks, .ref kw, .ref kc, .int (-6), .int 0, .int 0, .ref kq, .ref km, .ref kd, .int 0, .ref ka, .ref kk])), (ks, .inl (cI, 5, .inl (upd (fun _ => 0) 0 800))), (kw, .inl (cI, 14, .inl (fun _ => 0)))] H := hP
    replace hD : va_D A [(o, .inr (3, [.ref k, .ref op, .int 0, .ref oq, .ref ov, .ref os])), (os, .inl (cI, 5, .inl (upd (upd (upd (upd (upd (upd (upd (upd (fun _ => 0) 0 0) 1 0) 2 0) 3 0) 4 0) 0 2) 0 4) 0 6))), (k, .inr (0, [.ref ks, .ref kw, .ref kc, .int (-6), .int 0, .int 0, .ref kq, .ref km, .ref kd, .int 0, .ref ka, .ref kk])), (ks, .inl (cI, 5, .inl (upd (fun _ => 0) 0 800))), (kw, .inl (cI, 14, .inl (fun _ => 0)))] := hD
    refine lv_iinc (v := 3) (lv' := [(2, .int 3), (0, .ref o), (1, .int 5)]) hx hb dX3_countSlots_53 hl (k := 0) rfl (by decide) (by decide) rfl (fun ls hl => ?_)
    refine lv_goto (tgt := 30) hx hb dX3_countSlots_56 (by decide) ?_
    refine lv_iload_n hx hb dX3_countSlots_30 rfl (lv_at hl 0 rfl) ?_
    refine lv_iload_n hx hb dX3_countSlots_31 rfl (lv_at hl 2 rfl) ?_
    refine lv_icmp_gt (tgt := 59) hx hb dX3_countSlots_32 (by decide) (fun c120 => absurd c120 (by decide)) (fun c120 => ?_)
    refine lv_aload_n hx hb dX3_countSlots_35 rfl (lv_at hl 1 rfl) ?_
    refine va_get (D := (dC, dI)) (ci := 3) (v := .ref os) (C := RX3) (T := TX3) (N := 6) hx hb hts hin3 hown hK hP 0 rfl rfl 5 (by decide) hw0 (fun _ h9 => h9) rfl dX3_countSlots_36 ?_
    refine lv_aload_n hx hb dX3_countSlots_39 rfl (lv_at hl 1 rfl) ?_
    refine va_get (D := (dC, dI)) (ci := 3) (v := .ref k) (C := RX3) (T := TX3) (N := 6) hx hb hts hin3 hown hK hP 0 rfl rfl 0 (by decide) hw1 (fun _ h9 => h9) rfl dX3_countSlots_40 ?_
    refine lv_iload_n hx hb dX3_countSlots_43 rfl (lv_at hl 0 rfl) ?_
    refine lv_iconst (v := 0) hx hb dX3_countSlots_44 (by decide) ?_
    refine mx_i (wr := [(o, .inr (3, [.ref k, .ref op, .int 0, .ref oq, .ref ov, .ref os])), (os, .inl (cI, 5, .inl (upd (upd (upd (upd (upd (upd (upd (upd (fun _ => 0) 0 0) 1 0) 2 0) 3 0) 4 0) 0 2) 0 4) 0 6)))]) (va_runV (As := [.int 3, .int 0]) (rest := [.ref os]) ⟨hx, hb, hml, hown, hts⟩ (c_X0_windOn l dC dI cI cZ cK tS aK aV k ks kw kc kq km kd ka kk 3 H.size (by have z8 : (3 : Int32).toInt = 3 := rfl; first | omega | decide | assumption | trivial)) (cwV 2 hts (gw_v (fun _ h9 => List.mem_cons_of_mem _ h9) wm_169 wm_170 wm_171 wm_10 wm_172) rfl rfl rfl (by decide +kernel) ⟨Nat.le_of_ble_eq_true rfl, Nat.le_of_ble_eq_true rfl⟩) (mx_preV (C := RX0) (T := TX0) (N := 12) (ci := 0) hKx hP hD hS hA [2, 3, 4] (by decide) rfl rfl rfl) rfl rfl hl.1 rfl (lv_room (Nat.le_of_ble_eq_true rfl)) dX3_countSlots_45 ⟨Nat.le_of_ble_eq_true rfl, Nat.le_of_ble_eq_true rfl⟩) hP hD hS hA [2, 3, 4] [0, 1] rfl rfl (by decide) (by decide) (fun r121 u121 H locs hq121 hP hD hS => ?_)
    replace hP : va_P (dC, dI) vwCl [(o, .inr (3, [.ref k, .ref op, .int 0, .ref oq, .ref ov, .ref os])), (os, .inl (cI, 5, .inl (upd (upd (upd (upd (upd (upd (upd (upd (fun _ => 0) 0 0) 1 0) 2 0) 3 0) 4 0) 0 2) 0 4) 0 6))), (k, .inr (0, [.ref ks, .ref kw, .ref kc, .int (-6), .int 0, .int 0, .ref kq, .ref km, .ref kd, .int 0, .ref ka, .ref kk])), (ks, .inl (cI, 5, .inl (upd (fun _ => 0) 0 800))), (kw, .inl (cI, 14, .inl (fun _ => 0)))] H := hP
    replace hD : va_D A [(o, .inr (3, [.ref k, .ref op, .int 0, .ref oq, .ref ov, .ref os])), (os, .inl (cI, 5, .inl (upd (upd (upd (upd (upd (upd (upd (upd (fun _ => 0) 0 0) 1 0) 2 0) 3 0) 4 0) 0 2) 0 4) 0 6))), (k, .inr (0, [.ref ks, .ref kw, .ref kc, .int (-6), .int 0, .int 0, .ref kq, .ref km, .ref kd, .int 0, .ref ka, .ref kk])), (ks, .inl (cI, 5, .inl (upd (fun _ => 0) 0 800))), (kw, .inl (cI, 14, .inl (fun _ => 0)))] := hD
    obtain rfl : r121 = 0 := hq121
    refine lv_dup2_11 hx hb dX3_countSlots_48 rfl rfl ?_
    refine va_iald hx hb hK hP 1 0 rfl rfl (vin (by decide) (by decide)) dX3_countSlots_49 ?_
    refine lv_topi (fun x122 e122 => ?_)
    obtain rfl : x122 = 6 := e122.trans (by first | rfl | decide)
    refine lv_iconst (v := 2) hx hb dX3_countSlots_50 (by decide) ?_
    refine lv_iadd hx hb dX3_countSlots_51 ?_
    refine lv_topi (fun x123 e123 => ?_)
    obtain rfl : x123 = 8 := e123.trans (by decide)
    refine va_iast hx hb hK hP hD hS 1 0 rfl rfl (vin (by decide) (by decide)) dX3_countSlots_52 (fun H locs hP hD hS => ?_)
    replace hP : va_P (dC, dI) vwCl [(o, .inr (3, [.ref k, .ref op, .int 0, .ref oq, .ref ov, .ref os])), (os, .inl (cI, 5, .inl (upd (upd (upd (upd (upd (upd (upd (upd (upd (fun _ => 0) 0 0) 1 0) 2 0) 3 0) 4 0) 0 2) 0 4) 0 6) 0 8))), (k, .inr (0, [.ref ks, .ref kw, .ref kc, .int (-6), .int 0, .int 0, .ref kq, .ref km, .ref kd, .int 0, .ref ka, .ref kk])), (ks, .inl (cI, 5, .inl (upd (fun _ => 0) 0 800))), (kw, .inl (cI, 14, .inl (fun _ => 0)))] H := hP
    replace hD : va_D A [(o, .inr (3, [.ref k, .ref op, .int 0, .ref oq, .ref ov, .ref os])), (os, .inl (cI, 5, .inl (upd (upd (upd (upd (upd (upd (upd (upd (upd (fun _ => 0) 0 0) 1 0) 2 0) 3 0) 4 0) 0 2) 0 4) 0 6) 0 8))), (k, .inr (0, [.ref ks, .ref kw, .ref kc, .int (-6), .int 0, .int 0, .ref kq, .ref km, .ref kd, .int 0, .ref ka, .ref kk])), (ks, .inl (cI, 5, .inl (upd (fun _ => 0) 0 800))), (kw, .inl (cI, 14, .inl (fun _ => 0)))] := hD
    refine lv_iinc (v := 4) (lv' := [(2, .int 4), (0, .ref o), (1, .int 5)]) hx hb dX3_countSlots_53 hl (k := 0) rfl (by decide) (by decide) rfl (fun ls hl => ?_)
    refine lv_goto (tgt := 30) hx hb dX3_countSlots_56 (by decide) ?_
    refine lv_iload_n hx hb dX3_countSlots_30 rfl (lv_at hl 0 rfl) ?_
    refine lv_iload_n hx hb dX3_countSlots_31 rfl (lv_at hl 2 rfl) ?_
    refine lv_icmp_gt (tgt := 59) hx hb dX3_countSlots_32 (by decide) (fun c124 => absurd c124 (by decide)) (fun c124 => ?_)
    refine lv_aload_n hx hb dX3_countSlots_35 rfl (lv_at hl 1 rfl) ?_
    refine va_get (D := (dC, dI)) (ci := 3) (v := .ref os) (C := RX3) (T := TX3) (N := 6) hx hb hts hin3 hown hK hP 0 rfl rfl 5 (by decide) hw0 (fun _ h9 => h9) rfl dX3_countSlots_36 ?_
    refine lv_aload_n hx hb dX3_countSlots_39 rfl (lv_at hl 1 rfl) ?_
    refine va_get (D := (dC, dI)) (ci := 3) (v := .ref k) (C := RX3) (T := TX3) (N := 6) hx hb hts hin3 hown hK hP 0 rfl rfl 0 (by decide) hw1 (fun _ h9 => h9) rfl dX3_countSlots_40 ?_
    refine lv_iload_n hx hb dX3_countSlots_43 rfl (lv_at hl 0 rfl) ?_
    refine lv_iconst (v := 0) hx hb dX3_countSlots_44 (by decide) ?_
    refine mx_i (wr := [(o, .inr (3, [.ref k, .ref op, .int 0, .ref oq, .ref ov, .ref os])), (os, .inl (cI, 5, .inl (upd (upd (upd (upd (upd (upd (upd (upd (upd (fun _ => 0) 0 0) 1 0) 2 0) 3 0) 4 0) 0 2) 0 4) 0 6) 0 8)))]) (va_runV (As := [.int 4, .int 0]) (rest := [.ref os]) ⟨hx, hb, hml, hown, hts⟩ (c_X0_windOn l dC dI cI cZ cK tS aK aV k ks kw kc kq km kd ka kk 4 H.size (by have z8 : (4 : Int32).toInt = 4 := rfl; first | omega | decide | assumption | trivial)) (cwV 2 hts (gw_v (fun _ h9 => List.mem_cons_of_mem _ h9) wm_169 wm_170 wm_171 wm_10 wm_172) rfl rfl rfl (by decide +kernel) ⟨Nat.le_of_ble_eq_true rfl, Nat.le_of_ble_eq_true rfl⟩) (mx_preV (C := RX0) (T := TX0) (N := 12) (ci := 0) hKx hP hD hS hA [2, 3, 4] (by decide) rfl rfl rfl) rfl rfl hl.1 rfl (lv_room (Nat.le_of_ble_eq_true rfl)) dX3_countSlots_45 ⟨Nat.le_of_ble_eq_true rfl, Nat.le_of_ble_eq_true rfl⟩) hP hD hS hA [2, 3, 4] [0, 1] rfl rfl (by decide) (by decide) (fun r125 u125 H locs hq125 hP hD hS => ?_)
    replace hP : va_P (dC, dI) vwCl [(o, .inr (3, [.ref k, .ref op, .int 0, .ref oq, .ref ov, .ref os])), (os, .inl (cI, 5, .inl (upd (upd (upd (upd (upd (upd (upd (upd (upd (fun _ => 0) 0 0) 1 0) 2 0) 3 0) 4 0) 0 2) 0 4) 0 6) 0 8))), (k, .inr (0, [.ref ks, .ref kw, .ref kc, .int (-6), .int 0, .int 0, .ref kq, .ref km, .ref kd, .int 0, .ref ka, .ref kk])), (ks, .inl (cI, 5, .inl (upd (fun _ => 0) 0 800))), (kw, .inl (cI, 14, .inl (fun _ => 0)))] H := hP
    replace hD : va_D A [(o, .inr (3, [.ref k, .ref op, .int 0, .ref oq, .ref ov, .ref os])), (os, .inl (cI, 5, .inl (upd (upd (upd (upd (upd (upd (upd (upd (upd (fun _ => 0) 0 0) 1 0) 2 0) 3 0) 4 0) 0 2) 0 4) 0 6) 0 8))), (k, .inr (0, [.ref ks, .ref kw, .ref kc, .int (-6), .int 0, .int 0, .ref kq, .ref km, .ref kd, .int 0, .ref ka, .ref kk])), (ks, .inl (cI, 5, .inl (upd (fun _ => 0) 0 800))), (kw, .inl (cI, 14, .inl (fun _ => 0)))] := hD
    obtain rfl : r125 = 0 := hq125
    refine lv_dup2_11 hx hb dX3_countSlots_48 rfl rfl ?_
    refine va_iald hx hb hK hP 1 0 rfl rfl (vin (by decide) (by decide)) dX3_countSlots_49 ?_
    refine lv_topi (fun x126 e126 => ?_)
    obtain rfl : x126 = 8 := e126.trans (by first | rfl | decide)
    refine lv_iconst (v := 2) hx hb dX3_countSlots_50 (by decide) ?_
    refine lv_iadd hx hb dX3_countSlots_51 ?_
    refine lv_topi (fun x127 e127 => ?_)
    obtain rfl : x127 = 10 := e127.trans (by decide)
    refine va_iast hx hb hK hP hD hS 1 0 rfl rfl (vin (by decide) (by decide)) dX3_countSlots_52 (fun H locs hP hD hS => ?_)
    replace hP : va_P (dC, dI) vwCl [(o, .inr (3, [.ref k, .ref op, .int 0, .ref oq, .ref ov, .ref os])), (os, .inl (cI, 5, .inl (upd (upd (upd (upd (upd (upd (upd (upd (upd (upd (fun _ => 0) 0 0) 1 0) 2 0) 3 0) 4 0) 0 2) 0 4) 0 6) 0 8) 0 10))), (k, .inr (0, [.ref ks, .ref kw, .ref kc, .int (-6), .int 0, .int 0, .ref kq, .ref km, .ref kd, .int 0, .ref ka, .ref kk])), (ks, .inl (cI, 5, .inl (upd (fun _ => 0) 0 800))), (kw, .inl (cI, 14, .inl (fun _ => 0)))] H := hP
    replace hD : va_D A [(o, .inr (3, [.ref k, .ref op, .int 0, .ref oq, .ref ov, .ref os])), (os, .inl (cI, 5, .inl (upd (upd (upd (upd (upd (upd (upd (upd (upd (upd (fun _ => 0) 0 0) 1 0) 2 0) 3 0) 4 0) 0 2) 0 4) 0 6) 0 8) 0 10))), (k, .inr (0, [.ref ks, .ref kw, .ref kc, .int (-6), .int 0, .int 0, .ref kq, .ref km, .ref kd, .int 0, .ref ka, .ref kk])), (ks, .inl (cI, 5, .inl (upd (fun _ => 0) 0 800))), (kw, .inl (cI, 14, .inl (fun _ => 0)))] := hD
    refine lv_iinc (v := 5) (lv' := [(2, .int 5), (0, .ref o), (1, .int 5)]) hx hb dX3_countSlots_53 hl (k := 0) rfl (by decide) (by decide) rfl (fun ls hl => ?_)
    refine lv_goto (tgt := 30) hx hb dX3_countSlots_56 (by decide) ?_
    refine lv_iload_n hx hb dX3_countSlots_30 rfl (lv_at hl 0 rfl) ?_
    refine lv_iload_n hx hb dX3_countSlots_31 rfl (lv_at hl 2 rfl) ?_
    refine lv_icmp_gt (tgt := 59) hx hb dX3_countSlots_32 (by decide) (fun c128 => absurd c128 (by decide)) (fun c128 => ?_)
    refine lv_aload_n hx hb dX3_countSlots_35 rfl (lv_at hl 1 rfl) ?_
    refine va_get (D := (dC, dI)) (ci := 3) (v := .ref os) (C := RX3) (T := TX3) (N := 6) hx hb hts hin3 hown hK hP 0 rfl rfl 5 (by decide) hw0 (fun _ h9 => h9) rfl dX3_countSlots_36 ?_
    refine lv_aload_n hx hb dX3_countSlots_39 rfl (lv_at hl 1 rfl) ?_
    refine va_get (D := (dC, dI)) (ci := 3) (v := .ref k) (C := RX3) (T := TX3) (N := 6) hx hb hts hin3 hown hK hP 0 rfl rfl 0 (by decide) hw1 (fun _ h9 => h9) rfl dX3_countSlots_40 ?_
    refine lv_iload_n hx hb dX3_countSlots_43 rfl (lv_at hl 0 rfl) ?_
    refine lv_iconst (v := 0) hx hb dX3_countSlots_44 (by decide) ?_
    refine mx_i (wr := [(o, .inr (3, [.ref k, .ref op, .int 0, .ref oq, .ref ov, .ref os])), (os, .inl (cI, 5, .inl (upd (upd (upd (upd (upd (upd (upd (upd (upd (upd (fun _ => 0) 0 0) 1 0) 2 0) 3 0) 4 0) 0 2) 0 4) 0 6) 0 8) 0 10)))]) (va_runV (As := [.int 5, .int 0]) (rest := [.ref os]) ⟨hx, hb, hml, hown, hts⟩ (c_X0_windOn l dC dI cI cZ cK tS aK aV k ks kw kc kq km kd ka kk 5 H.size (by have z8 : (5 : Int32).toInt = 5 := rfl; first | omega | decide | assumption | trivial)) (cwV 2 hts (gw_v (fun _ h9 => List.mem_cons_of_mem _ h9) wm_169 wm_170 wm_171 wm_10 wm_172) rfl rfl rfl (by decide +kernel) ⟨Nat.le_of_ble_eq_true rfl, Nat.le_of_ble_eq_true rfl⟩) (mx_preV (C := RX0) (T := TX0) (N := 12) (ci := 0) hKx hP hD hS hA [2, 3, 4] (by decide) rfl rfl rfl) rfl rfl hl.1 rfl (lv_room (Nat.le_of_ble_eq_true rfl)) dX3_countSlots_45 ⟨Nat.le_of_ble_eq_true rfl, Nat.le_of_ble_eq_true rfl⟩) hP hD hS hA [2, 3, 4] [0, 1] rfl rfl (by decide) (by decide) (fun r129 u129 H locs hq129 hP hD hS => ?_)
    replace hP : va_P (dC, dI) vwCl [(o, .inr (3, [.ref k, .ref op, .int 0, .ref oq, .ref ov, .ref os])), (os, .inl (cI, 5, .inl (upd (upd (upd (upd (upd (upd (upd (upd (upd (upd (fun _ => 0) 0 0) 1 0) 2 0) 3 0) 4 0) 0 2) 0 4) 0 6) 0 8) 0 10))), (k, .inr (0, [.ref ks, .ref kw, .ref kc, .int (-6), .int 0, .int 0, .ref kq, .ref km, .ref kd, .int 0, .ref ka, .ref kk])), (ks, .inl (cI, 5, .inl (upd (fun _ => 0) 0 800))), (kw, .inl (cI, 14, .inl (fun _ => 0)))] H := hP
    replace hD : va_D A [(o, .inr (3, [.ref k, .ref op, .int 0, .ref oq, .ref ov, .ref os])), (os, .inl (cI, 5, .inl (upd (upd (upd (upd (upd (upd (upd (upd (upd (upd (fun _ => 0) 0 0) 1 0) 2 0) 3 0) 4 0) 0 2) 0 4) 0 6) 0 8) 0 10))), (k, .inr (0, [.ref ks, .ref kw, .ref kc, .int (-6), .int 0, .int 0, .ref kq, .ref km, .ref kd, .int 0, .ref ka, .ref kk])), (ks, .inl (cI, 5, .inl (upd (fun _ => 0) 0 800))), (kw, .inl (cI, 14, .inl (fun _ => 0)))] := hD
    obtain rfl : r129 = 0 := hq129
    refine lv_dup2_11 hx hb dX3_countSlots_48 rfl rfl ?_
    refine va_iald hx hb hK hP 1 0 rfl rfl (vin (by decide) (by decide)) dX3_countSlots_49 ?_
    refine lv_topi (fun x130 e130 => ?_)
    obtain rfl : x130 = 10 := e130.trans (by first | rfl | decide)
    refine lv_iconst (v := 2) hx hb dX3_countSlots_50 (by decide) ?_
    refine lv_iadd hx hb dX3_countSlots_51 ?_
    refine lv_topi (fun x131 e131 => ?_)
    obtain rfl : x131 = 12 := e131.trans (by decide)
    refine va_iast hx hb hK hP hD hS 1 0 rfl rfl (vin (by decide) (by decide)) dX3_countSlots_52 (fun H locs hP hD hS => ?_)
    replace hP : va_P (dC, dI) vwCl [(o, .inr (3, [.ref k, .ref op, .int 0, .ref oq, .ref ov, .ref os])), (os, .inl (cI, 5, .inl (upd (upd (upd (upd (upd (upd (upd (upd (upd (upd (upd (fun _ => 0) 0 0) 1 0) 2 0) 3 0) 4 0) 0 2) 0 4) 0 6) 0 8) 0 10) 0 12))), (k, .inr (0, [.ref ks, .ref kw, .ref kc, .int (-6), .int 0, .int 0, .ref kq, .ref km, .ref kd, .int 0, .ref ka, .ref kk])), (ks, .inl (cI, 5, .inl (upd (fun _ => 0) 0 800))), (kw, .inl (cI, 14, .inl (fun _ => 0)))] H := hP
    replace hD : va_D A [(o, .inr (3, [.ref k, .ref op, .int 0, .ref oq, .ref ov, .ref os])), (os, .inl (cI, 5, .inl (upd (upd (upd (upd (upd (upd (upd (upd (upd (upd (upd (fun _ => 0) 0 0) 1 0) 2 0) 3 0) 4 0) 0 2) 0 4) 0 6) 0 8) 0 10) 0 12))), (k, .inr (0, [.ref ks, .ref kw, .ref kc, .int (-6), .int 0, .int 0, .ref kq, .ref km, .ref kd, .int 0, .ref ka, .ref kk])), (ks, .inl (cI, 5, .inl (upd (fun _ => 0) 0 800))), (kw, .inl (cI, 14, .inl (fun _ => 0)))] := hD
    refine lv_iinc (v := 6) (lv' := [(2, .int 6), (0, .ref o), (1, .int 5)]) hx hb dX3_countSlots_53 hl (k := 0) rfl (by decide) (by decide) rfl (fun ls hl => ?_)
    refine lv_goto (tgt := 30) hx hb dX3_countSlots_56 (by decide) ?_
    refine lv_iload_n hx hb dX3_countSlots_30 rfl (lv_at hl 0 rfl) ?_
    refine lv_iload_n hx hb dX3_countSlots_31 rfl (lv_at hl 2 rfl) ?_
    refine lv_icmp_gt (tgt := 59) hx hb dX3_countSlots_32 (by decide) (fun c132 => ?_) (fun c132 => absurd c132 (by decide))
    have hP9 := mx_subP (wc := [(o, .inr (3, [.ref k, .ref op, .int 0, .ref oq, .ref ov, .ref os])), (os, .inl (cI, 5, .inl (upd (upd (upd (upd (upd (upd (upd (upd (upd (upd (upd (fun _ => 0) 0 0) 1 0) 2 0) 3 0) 4 0) 0 2) 0 4) 0 6) 0 8) 0 10) 0 12))), (k, .inr (0, [.ref ks, .ref kw, .ref kc, .int (-6), .int 0, .int 0, .ref kq, .ref km, .ref kd, .int 0, .ref ka, .ref kk])), (ks, .inl (cI, 5, .inl (upd (fun _ => 0) 0 800))), (kw, .inl (cI, 14, .inl (fun _ => 0)))]) hP [0, 1, 2, 3, 4] rfl
    have hD9 := hD.sub (ws' := [(o, .inr (3, [.ref k, .ref op, .int 0, .ref oq, .ref ov, .ref os])), (os, .inl (cI, 5, .inl (upd (upd (upd (upd (upd (upd (upd (upd (upd (upd (upd (fun _ => 0) 0 0) 1 0) 2 0) 3 0) 4 0) 0 2) 0 4) 0 6) 0 8) 0 10) 0 12))), (k, .inr (0, [.ref ks, .ref kw, .ref kc, .int (-6), .int 0, .int 0, .ref kq, .ref km, .ref kd, .int 0, .ref ka, .ref kk])), (ks, .inl (cI, 5, .inl (upd (fun _ => 0) 0 800))), (kw, .inl (cI, 14, .inl (fun _ => 0)))]) [0, 1, 2, 3, 4] (by decide) rfl
    exact W.vret hx hb hr (fun t ht hW => ⟨⟨(upd (upd (upd (upd (upd (upd (upd (upd (upd (upd (upd (fun _ => 0) 0 0) 1 0) 2 0) 3 0) 4 0) 0 2) 0 4) 0 6) 0 8) 0 10) 0 12), rfl, (by refine ⟨?_, ?_, ?_, ?_, ?_, ?_, ?_, ?_, ?_, ?_⟩ <;> decide), by rw [ht]; exact hP9, hD9⟩, hS.F ht⟩) hS.2.2 dX3_countSlots_59
  · have z9 : (6 : Int32).toInt = 6 := rfl
    refine lv_iconst (v := 0) hx hb dX3_countSlots_0 (by decide) ?_
    refine lv_istore_n (lv' := [(2, .int 0), (0, .ref o), (1, .int 6)]) hx hb dX3_countSlots_1 rfl hl (by decide) rfl (fun ls hl => ?_)
    refine lv_iload_n hx hb dX3_countSlots_2 rfl (lv_at hl 0 rfl) ?_
    refine lv_iconst (v := 4) hx hb dX3_countSlots_3 (by decide) ?_
    refine lv_icmp_gt (tgt := 20) hx hb dX3_countSlots_4 (by decide) (fun c133 => absurd c133 (by decide)) (fun c133 => ?_)
    refine lv_aload_n hx hb dX3_countSlots_7 rfl (lv_at hl 1 rfl) ?_
    refine va_get (D := (dC, dI)) (ci := 3) (v := .ref os) (C := RX3) (T := TX3) (N := 6) hx hb hts hin3 hown hK hP 0 rfl rfl 5 (by decide) hw0 (fun _ h9 => h9) rfl dX3_countSlots_8 ?_
    refine lv_iload_n hx hb dX3_countSlots_11 rfl (lv_at hl 0 rfl) ?_
    refine lv_iconst (v := 0) hx hb dX3_countSlots_12 (by decide) ?_
    refine va_iast hx hb hK hP hD hS 1 0 rfl rfl (vin (by decide) (by decide)) dX3_countSlots_13 (fun H locs hP hD hS => ?_)
    replace hP : va_P (dC, dI) vwCl [(o, .inr (3, [.ref k, .ref op, .int 0, .ref oq, .ref ov, .ref os])), (os, .inl (cI, 5, .inl (upd (fun _ => 0) 0 0))), (k, .inr (0, [.ref ks, .ref kw, .ref kc, .int (-6), .int 0, .int 0, .ref kq, .ref km, .ref kd, .int 0, .ref ka, .ref kk])), (ks, .inl (cI, 5, .inl (upd (fun _ => 0) 0 800))), (kw, .inl (cI, 14, .inl (fun _ => 0)))] H := hP
    replace hD : va_D A [(o, .inr (3, [.ref k, .ref op, .int 0, .ref oq, .ref ov, .ref os])), (os, .inl (cI, 5, .inl (upd (fun _ => 0) 0 0))), (k, .inr (0, [.ref ks, .ref kw, .ref kc, .int (-6), .int 0, .int 0, .ref kq, .ref km, .ref kd, .int 0, .ref ka, .ref kk])), (ks, .inl (cI, 5, .inl (upd (fun _ => 0) 0 800))), (kw, .inl (cI, 14, .inl (fun _ => 0)))] := hD
    refine lv_iinc (v := 1) (lv' := [(2, .int 1), (0, .ref o), (1, .int 6)]) hx hb dX3_countSlots_14 hl (k := 0) rfl (by decide) (by decide) rfl (fun ls hl => ?_)
    refine lv_goto (tgt := 2) hx hb dX3_countSlots_17 (by decide) ?_
    refine lv_iload_n hx hb dX3_countSlots_2 rfl (lv_at hl 0 rfl) ?_
    refine lv_iconst (v := 4) hx hb dX3_countSlots_3 (by decide) ?_
    refine lv_icmp_gt (tgt := 20) hx hb dX3_countSlots_4 (by decide) (fun c134 => absurd c134 (by decide)) (fun c134 => ?_)
    refine lv_aload_n hx hb dX3_countSlots_7 rfl (lv_at hl 1 rfl) ?_
    refine va_get (D := (dC, dI)) (ci := 3) (v := .ref os) (C := RX3) (T := TX3) (N := 6) hx hb hts hin3 hown hK hP 0 rfl rfl 5 (by decide) hw0 (fun _ h9 => h9) rfl dX3_countSlots_8 ?_
    refine lv_iload_n hx hb dX3_countSlots_11 rfl (lv_at hl 0 rfl) ?_
    refine lv_iconst (v := 0) hx hb dX3_countSlots_12 (by decide) ?_
    refine va_iast hx hb hK hP hD hS 1 0 rfl rfl (vin (by decide) (by decide)) dX3_countSlots_13 (fun H locs hP hD hS => ?_)
    replace hP : va_P (dC, dI) vwCl [(o, .inr (3, [.ref k, .ref op, .int 0, .ref oq, .ref ov, .ref os])), (os, .inl (cI, 5, .inl (upd (upd (fun _ => 0) 0 0) 1 0))), (k, .inr (0, [.ref ks, .ref kw, .ref kc, .int (-6), .int 0, .int 0, .ref kq, .ref km, .ref kd, .int 0, .ref ka, .ref kk])), (ks, .inl (cI, 5, .inl (upd (fun _ => 0) 0 800))), (kw, .inl (cI, 14, .inl (fun _ => 0)))] H := hP
    replace hD : va_D A [(o, .inr (3, [.ref k, .ref op, .int 0, .ref oq, .ref ov, .ref os])), (os, .inl (cI, 5, .inl (upd (upd (fun _ => 0) 0 0) 1 0))), (k, .inr (0, [.ref ks, .ref kw, .ref kc, .int (-6), .int 0, .int 0, .ref kq, .ref km, .ref kd, .int 0, .ref ka, .ref kk])), (ks, .inl (cI, 5, .inl (upd (fun _ => 0) 0 800))), (kw, .inl (cI, 14, .inl (fun _ => 0)))] := hD
    refine lv_iinc (v := 2) (lv' := [(2, .int 2), (0, .ref o), (1, .int 6)]) hx hb dX3_countSlots_14 hl (k := 0) rfl (by decide) (by decide) rfl (fun ls hl => ?_)
    refine lv_goto (tgt := 2) hx hb dX3_countSlots_17 (by decide) ?_
    refine lv_iload_n hx hb dX3_countSlots_2 rfl (lv_at hl 0 rfl) ?_
    refine lv_iconst (v := 4) hx hb dX3_countSlots_3 (by decide) ?_
    refine lv_icmp_gt (tgt := 20) hx hb dX3_countSlots_4 (by decide) (fun c135 => absurd c135 (by decide)) (fun c135 => ?_)
    refine lv_aload_n hx hb dX3_countSlots_7 rfl (lv_at hl 1 rfl) ?_
    refine va_get (D := (dC, dI)) (ci := 3) (v := .ref os) (C := RX3) (T := TX3) (N := 6) hx hb hts hin3 hown hK hP 0 rfl rfl 5 (by decide) hw0 (fun _ h9 => h9) rfl dX3_countSlots_8 ?_
    refine lv_iload_n hx hb dX3_countSlots_11 rfl (lv_at hl 0 rfl) ?_
    refine lv_iconst (v := 0) hx hb dX3_countSlots_12 (by decide) ?_
    refine va_iast hx hb hK hP hD hS 1 0 rfl rfl (vin (by decide) (by decide)) dX3_countSlots_13 (fun H locs hP hD hS => ?_)
    replace hP : va_P (dC, dI) vwCl [(o, .inr (3, [.ref k, .ref op, .int 0, .ref oq, .ref ov, .ref os])), (os, .inl (cI, 5, .inl (upd (upd (upd (fun _ => 0) 0 0) 1 0) 2 0))), (k, .inr (0, [.ref ks, .ref kw, .ref kc, .int (-6), .int 0, .int 0, .ref kq, .ref km, .ref kd, .int 0, .ref ka, .ref kk])), (ks, .inl (cI, 5, .inl (upd (fun _ => 0) 0 800))), (kw, .inl (cI, 14, .inl (fun _ => 0)))] H := hP
    replace hD : va_D A [(o, .inr (3, [.ref k, .ref op, .int 0, .ref oq, .ref ov, .ref os])), (os, .inl (cI, 5, .inl (upd (upd (upd (fun _ => 0) 0 0) 1 0) 2 0))), (k, .inr (0, [.ref ks, .ref kw, .ref kc, .int (-6), .int 0, .int 0, .ref kq, .ref km, .ref kd, .int 0, .ref ka, .ref kk])), (ks, .inl (cI, 5, .inl (upd (fun _ => 0) 0 800))), (kw, .inl (cI, 14, .inl (fun _ => 0)))] := hD
    refine lv_iinc (v := 3) (lv' := [(2, .int 3), (0, .ref o), (1, .int 6)]) hx hb dX3_countSlots_14 hl (k := 0) rfl (by decide) (by decide) rfl (fun ls hl => ?_)
    refine lv_goto (tgt := 2) hx hb dX3_countSlots_17 (by decide) ?_
    refine lv_iload_n hx hb dX3_countSlots_2 rfl (lv_at hl 0 rfl) ?_
    refine lv_iconst (v := 4) hx hb dX3_countSlots_3 (by decide) ?_
    refine lv_icmp_gt (tgt := 20) hx hb dX3_countSlots_4 (by decide) (fun c136 => absurd c136 (by decide)) (fun c136 => ?_)
    refine lv_aload_n hx hb dX3_countSlots_7 rfl (lv_at hl 1 rfl) ?_
    refine va_get (D := (dC, dI)) (ci := 3) (v := .ref os) (C := RX3) (T := TX3) (N := 6) hx hb hts hin3 hown hK hP 0 rfl rfl 5 (by decide) hw0 (fun _ h9 => h9) rfl dX3_countSlots_8 ?_
    refine lv_iload_n hx hb dX3_countSlots_11 rfl (lv_at hl 0 rfl) ?_
    refine lv_iconst (v := 0) hx hb dX3_countSlots_12 (by decide) ?_
    refine va_iast hx hb hK hP hD hS 1 0 rfl rfl (vin (by decide) (by decide)) dX3_countSlots_13 (fun H locs hP hD hS => ?_)
    replace hP : va_P (dC, dI) vwCl [(o, .inr (3, [.ref k, .ref op, .int 0, .ref oq, .ref ov, .ref os])), (os, .inl (cI, 5, .inl (upd (upd (upd (upd (fun _ => 0) 0 0) 1 0) 2 0) 3 0))), (k, .inr (0, [.ref ks, .ref kw, .ref kc, .int (-6), .int 0, .int 0, .ref kq, .ref km, .ref kd, .int 0, .ref ka, .ref kk])), (ks, .inl (cI, 5, .inl (upd (fun _ => 0) 0 800))), (kw, .inl (cI, 14, .inl (fun _ => 0)))] H := hP
    replace hD : va_D A [(o, .inr (3, [.ref k, .ref op, .int 0, .ref oq, .ref ov, .ref os])), (os, .inl (cI, 5, .inl (upd (upd (upd (upd (fun _ => 0) 0 0) 1 0) 2 0) 3 0))), (k, .inr (0, [.ref ks, .ref kw, .ref kc, .int (-6), .int 0, .int 0, .ref kq, .ref km, .ref kd, .int 0, .ref ka, .ref kk])), (ks, .inl (cI, 5, .inl (upd (fun _ => 0) 0 800))), (kw, .inl (cI, 14, .inl (fun _ => 0)))] := hD
    refine lv_iinc (v := 4) (lv' := [(2, .int 4), (0, .ref o), (1, .int 6)]) hx hb dX3_countSlots_14 hl (k := 0) rfl (by decide) (by decide) rfl (fun ls hl => ?_)
    refine lv_goto (tgt := 2) hx hb dX3_countSlots_17 (by decide) ?_
    refine lv_iload_n hx hb dX3_countSlots_2 rfl (lv_at hl 0 rfl) ?_
    refine lv_iconst (v := 4) hx hb dX3_countSlots_3 (by decide) ?_
    refine lv_icmp_gt (tgt := 20) hx hb dX3_countSlots_4 (by decide) (fun c137 => absurd c137 (by decide)) (fun c137 => ?_)
    refine lv_aload_n hx hb dX3_countSlots_7 rfl (lv_at hl 1 rfl) ?_
    refine va_get (D := (dC, dI)) (ci := 3) (v := .ref os) (C := RX3) (T := TX3) (N := 6) hx hb hts hin3 hown hK hP 0 rfl rfl 5 (by decide) hw0 (fun _ h9 => h9) rfl dX3_countSlots_8 ?_
    refine lv_iload_n hx hb dX3_countSlots_11 rfl (lv_at hl 0 rfl) ?_
    refine lv_iconst (v := 0) hx hb dX3_countSlots_12 (by decide) ?_
    refine va_iast hx hb hK hP hD hS 1 0 rfl rfl (vin (by decide) (by decide)) dX3_countSlots_13 (fun H locs hP hD hS => ?_)
    replace hP : va_P (dC, dI) vwCl [(o, .inr (3, [.ref k, .ref op, .int 0, .ref oq, .ref ov, .ref os])), (os, .inl (cI, 5, .inl (upd (upd (upd (upd (upd (fun _ => 0) 0 0) 1 0) 2 0) 3 0) 4 0))), (k, .inr (0, [.ref ks, .ref kw, .ref kc, .int (-6), .int 0, .int 0, .ref kq, .ref km, .ref kd, .int 0, .ref ka, .ref kk])), (ks, .inl (cI, 5, .inl (upd (fun _ => 0) 0 800))), (kw, .inl (cI, 14, .inl (fun _ => 0)))] H := hP
    replace hD : va_D A [(o, .inr (3, [.ref k, .ref op, .int 0, .ref oq, .ref ov, .ref os])), (os, .inl (cI, 5, .inl (upd (upd (upd (upd (upd (fun _ => 0) 0 0) 1 0) 2 0) 3 0) 4 0))), (k, .inr (0, [.ref ks, .ref kw, .ref kc, .int (-6), .int 0, .int 0, .ref kq, .ref km, .ref kd, .int 0, .ref ka, .ref kk])), (ks, .inl (cI, 5, .inl (upd (fun _ => 0) 0 800))), (kw, .inl (cI, 14, .inl (fun _ => 0)))] := hD
    refine lv_iinc (v := 5) (lv' := [(2, .int 5), (0, .ref o), (1, .int 6)]) hx hb dX3_countSlots_14 hl (k := 0) rfl (by decide) (by decide) rfl (fun ls hl => ?_)
    refine lv_goto (tgt := 2) hx hb dX3_countSlots_17 (by decide) ?_
    refine lv_iload_n hx hb dX3_countSlots_2 rfl (lv_at hl 0 rfl) ?_
    refine lv_iconst (v := 4) hx hb dX3_countSlots_3 (by decide) ?_
    refine lv_icmp_gt (tgt := 20) hx hb dX3_countSlots_4 (by decide) (fun c138 => ?_) (fun c138 => absurd c138 (by decide))
    refine lv_aload_n hx hb dX3_countSlots_20 rfl (lv_at hl 1 rfl) ?_
    refine va_get (D := (dC, dI)) (ci := 3) (v := .ref k) (C := RX3) (T := TX3) (N := 6) hx hb hts hin3 hown hK hP 0 rfl rfl 0 (by decide) hw1 (fun _ h9 => h9) rfl dX3_countSlots_21 ?_
    refine va_get (D := (dC, dI)) (ci := 0) (v := .ref ks) (C := RX0) (T := TX0) (N := 12) hx hb hts hin0 hown hK hP 2 rfl rfl 0 (by decide) hw2 (fun _ h9 => h9) rfl dX3_countSlots_24 ?_
    refine lv_iconst (v := 4) hx hb dX3_countSlots_27 (by decide) ?_
    refine va_iald hx hb hK hP 3 0 rfl rfl (vin (by decide) (by decide)) dX3_countSlots_28 ?_
    refine lv_topi (fun x139 e139 => ?_)
    obtain rfl : x139 = 0 := e139.trans (by first | rfl | decide)
    refine lv_istore_n (lv' := [(2, .int 0), (0, .ref o), (1, .int 6)]) hx hb dX3_countSlots_29 rfl hl (by decide) rfl (fun ls hl => ?_)
    refine lv_iload_n hx hb dX3_countSlots_30 rfl (lv_at hl 0 rfl) ?_
    refine lv_iload_n hx hb dX3_countSlots_31 rfl (lv_at hl 2 rfl) ?_
    refine lv_icmp_gt (tgt := 59) hx hb dX3_countSlots_32 (by decide) (fun c140 => absurd c140 (by decide)) (fun c140 => ?_)
    refine lv_aload_n hx hb dX3_countSlots_35 rfl (lv_at hl 1 rfl) ?_
    refine va_get (D := (dC, dI)) (ci := 3) (v := .ref os) (C := RX3) (T := TX3) (N := 6) hx hb hts hin3 hown hK hP 0 rfl rfl 5 (by decide) hw0 (fun _ h9 => h9) rfl dX3_countSlots_36 ?_
    refine lv_aload_n hx hb dX3_countSlots_39 rfl (lv_at hl 1 rfl) ?_
    refine va_get (D := (dC, dI)) (ci := 3) (v := .ref k) (C := RX3) (T := TX3) (N := 6) hx hb hts hin3 hown hK hP 0 rfl rfl 0 (by decide) hw1 (fun _ h9 => h9) rfl dX3_countSlots_40 ?_
    refine lv_iload_n hx hb dX3_countSlots_43 rfl (lv_at hl 0 rfl) ?_
    refine lv_iconst (v := 0) hx hb dX3_countSlots_44 (by decide) ?_
    refine mx_i (wr := [(o, .inr (3, [.ref k, .ref op, .int 0, .ref oq, .ref ov, .ref os])), (os, .inl (cI, 5, .inl (upd (upd (upd (upd (upd (fun _ => 0) 0 0) 1 0) 2 0) 3 0) 4 0)))]) (va_runV (As := [.int 0, .int 0]) (rest := [.ref os]) ⟨hx, hb, hml, hown, hts⟩ (c_X0_windOn l dC dI cI cZ cK tS aK aV k ks kw kc kq km kd ka kk 0 H.size (by have z8 : (0 : Int32).toInt = 0 := rfl; first | omega | decide | assumption | trivial)) (cwV 2 hts (gw_v (fun _ h9 => List.mem_cons_of_mem _ h9) wm_169 wm_170 wm_171 wm_10 wm_172) rfl rfl rfl (by decide +kernel) ⟨Nat.le_of_ble_eq_true rfl, Nat.le_of_ble_eq_true rfl⟩) (mx_preV (C := RX0) (T := TX0) (N := 12) (ci := 0) hKx hP hD hS hA [2, 3, 4] (by decide) rfl rfl rfl) rfl rfl hl.1 rfl (lv_room (Nat.le_of_ble_eq_true rfl)) dX3_countSlots_45 ⟨Nat.le_of_ble_eq_true rfl, Nat.le_of_ble_eq_true rfl⟩) hP hD hS hA [2, 3, 4] [0, 1] rfl rfl (by decide) (by decide) (fun r141 u141 H locs hq141 hP hD hS => ?_)
    replace hP : va_P (dC, dI) vwCl [(o, .inr (3, [.ref k, .ref op, .int 0, .ref oq, .ref ov, .ref os])), (os, .inl (cI, 5, .inl (upd (upd (upd (upd (upd (fun _ => 0) 0 0) 1 0) 2 0) 3 0) 4 0))), (k, .inr (0, [.ref ks, .ref kw, .ref kc, .int (-6), .int 0, .int 0, .ref kq, .ref km, .ref kd, .int 0, .ref ka, .ref kk])), (ks, .inl (cI, 5, .inl (upd (fun _ => 0) 0 800))), (kw, .inl (cI, 14, .inl (fun _ => 0)))] H := hP
    replace hD : va_D A [(o, .inr (3, [.ref k, .ref op, .int 0, .ref oq, .ref ov, .ref os])), (os, .inl (cI, 5, .inl (upd (upd (upd (upd (upd (fun _ => 0) 0 0) 1 0) 2 0) 3 0) 4 0))), (k, .inr (0, [.ref ks, .ref kw, .ref kc, .int (-6), .int 0, .int 0, .ref kq, .ref km, .ref kd, .int 0, .ref ka, .ref kk])), (ks, .inl (cI, 5, .inl (upd (fun _ => 0) 0 800))), (kw, .inl (cI, 14, .inl (fun _ => 0)))] := hD
    obtain rfl : r141 = 0 := hq141
    refine lv_dup2_11 hx hb dX3_countSlots_48 rfl rfl ?_
    refine va_iald hx hb hK hP 1 0 rfl rfl (vin (by decide) (by decide)) dX3_countSlots_49 ?_
    refine lv_topi (fun x142 e142 => ?_)
    obtain rfl : x142 = 0 := e142.trans (by first | rfl | decide)
    refine lv_iconst (v := 2) hx hb dX3_countSlots_50 (by decide) ?_
    refine lv_iadd hx hb dX3_countSlots_51 ?_
    refine lv_topi (fun x143 e143 => ?_)
    obtain rfl : x143 = 2 := e143.trans (by decide)
    refine va_iast hx hb hK hP hD hS 1 0 rfl rfl (vin (by decide) (by decide)) dX3_countSlots_52 (fun H locs hP hD hS => ?_)
    replace hP : va_P (dC, dI) vwCl [(o, .inr (3, [.ref k, .ref op, .int 0, .ref oq, .ref ov, .ref os])), (os, .inl (cI, 5, .inl (upd (upd (upd (upd (upd (upd (fun _ => 0) 0 0) 1 0) 2 0) 3 0) 4 0) 0 2))), (k, .inr (0, [.ref ks, .ref kw, .ref kc, .int (-6), .int 0, .int 0, .ref kq, .ref km, .ref kd, .int 0, .ref ka, .ref kk])), (ks, .inl (cI, 5, .inl (upd (fun _ => 0) 0 800))), (kw, .inl (cI, 14, .inl (fun _ => 0)))] H := hP
    replace hD : va_D A [(o, .inr (3, [.ref k, .ref op, .int 0, .ref oq, .ref ov, .ref os])), (os, .inl (cI, 5, .inl (upd (upd (upd (upd (upd (upd (fun _ => 0) 0 0) 1 0) 2 0) 3 0) 4 0) 0 2))), (k, .inr (0, [.ref ks, .ref kw, .ref kc, .int (-6), .int 0, .int 0, .ref kq, .ref km, .ref kd, .int 0, .ref ka, .ref kk])), (ks, .inl (cI, 5, .inl (upd (fun _ => 0) 0 800))), (kw, .inl (cI, 14, .inl (fun _ => 0)))] := hD
    refine lv_iinc (v := 1) (lv' := [(2, .int 1), (0, .ref o), (1, .int 6)]) hx hb dX3_countSlots_53 hl (k := 0) rfl (by decide) (by decide) rfl (fun ls hl => ?_)
    refine lv_goto (tgt := 30) hx hb dX3_countSlots_56 (by decide) ?_
    refine lv_iload_n hx hb dX3_countSlots_30 rfl (lv_at hl 0 rfl) ?_
    refine lv_iload_n hx hb dX3_countSlots_31 rfl (lv_at hl 2 rfl) ?_
    refine lv_icmp_gt (tgt := 59) hx hb dX3_countSlots_32 (by decide) (fun c144 => absurd c144 (by decide)) (fun c144 => ?_)
    refine lv_aload_n hx hb dX3_countSlots_35 rfl (lv_at hl 1 rfl) ?_
    refine va_get (D := (dC, dI)) (ci := 3) (v := .ref os) (C := RX3) (T := TX3) (N := 6) hx hb hts hin3 hown hK hP 0 rfl rfl 5 (by decide) hw0 (fun _ h9 => h9) rfl dX3_countSlots_36 ?_
    refine lv_aload_n hx hb dX3_countSlots_39 rfl (lv_at hl 1 rfl) ?_
    refine va_get (D := (dC, dI)) (ci := 3) (v := .ref k) (C := RX3) (T := TX3) (N := 6) hx hb hts hin3 hown hK hP 0 rfl rfl 0 (by decide) hw1 (fun _ h9 => h9) rfl dX3_countSlots_40 ?_
    refine lv_iload_n hx hb dX3_countSlots_43 rfl (lv_at hl 0 rfl) ?_
    refine lv_iconst (v := 0) hx hb dX3_countSlots_44 (by decide) ?_
    refine mx_i (wr := [(o, .inr (3, [.ref k, .ref op, .int 0, .ref oq, .ref ov, .ref os])), (os, .inl (cI, 5, .inl (upd (upd (upd (upd (upd (upd (fun _ => 0) 0 0) 1 0) 2 0) 3 0) 4 0) 0 2)))]) (va_runV (As := [.int 1, .int 0]) (rest := [.ref os]) ⟨hx, hb, hml, hown, hts⟩ (c_X0_windOn l dC dI cI cZ cK tS aK aV k ks kw kc kq km kd ka kk 1 H.size (by have z8 : (1 : Int32).toInt = 1 := rfl; first | omega | decide | assumption | trivial)) (cwV 2 hts (gw_v (fun _ h9 => List.mem_cons_of_mem _ h9) wm_169 wm_170 wm_171 wm_10 wm_172) rfl rfl rfl (by decide +kernel) ⟨Nat.le_of_ble_eq_true rfl, Nat.le_of_ble_eq_true rfl⟩) (mx_preV (C := RX0) (T := TX0) (N := 12) (ci := 0) hKx hP hD hS hA [2, 3, 4] (by decide) rfl rfl rfl) rfl rfl hl.1 rfl (lv_room (Nat.le_of_ble_eq_true rfl)) dX3_countSlots_45 ⟨Nat.le_of_ble_eq_true rfl, Nat.le_of_ble_eq_true rfl⟩) hP hD hS hA [2, 3, 4] [0, 1] rfl rfl (by decide) (by decide) (fun r145 u145 H locs hq145 hP hD hS => ?_)
    replace hP : va_P (dC, dI) vwCl [(o, .inr (3, [.ref k, .ref op, .int 0, .ref oq, .ref ov, .ref os])), (os, .inl (cI, 5, .inl (upd (upd (upd (upd (upd (upd (fun _ => 0) 0 0) 1 0) 2 0) 3 0) 4 0) 0 2))), (k, .inr (0, [.ref ks, .ref kw, .ref kc, .int (-6), .int 0, .int 0, .ref kq, .ref km, .ref kd, .int 0, .ref ka, .ref kk])), (ks, .inl (cI, 5, .inl (upd (fun _ => 0) 0 800))), (kw, .inl (cI, 14, .inl (fun _ => 0)))] H := hP
    replace hD : va_D A [(o, .inr (3, [.ref k, .ref op, .int 0, .ref oq, .ref ov, .ref os])), (os, .inl (cI, 5, .inl (upd (upd (upd (upd (upd (upd (fun _ => 0) 0 0) 1 0) 2 0) 3 0) 4 0) 0 2))), (k, .inr (0, [.ref ks, .ref kw, .ref kc, .int (-6), .int 0, .int 0, .ref kq, .ref km, .ref kd, .int 0, .ref ka, .ref kk])), (ks, .inl (cI, 5, .inl (upd (fun _ => 0) 0 800))), (kw, .inl (cI, 14, .inl (fun _ => 0)))] := hD
    obtain rfl : r145 = 0 := hq145
    refine lv_dup2_11 hx hb dX3_countSlots_48 rfl rfl ?_
    refine va_iald hx hb hK hP 1 0 rfl rfl (vin (by decide) (by decide)) dX3_countSlots_49 ?_
    refine lv_topi (fun x146 e146 => ?_)
    obtain rfl : x146 = 2 := e146.trans (by first | rfl | decide)
    refine lv_iconst (v := 2) hx hb dX3_countSlots_50 (by decide) ?_
    refine lv_iadd hx hb dX3_countSlots_51 ?_
    refine lv_topi (fun x147 e147 => ?_)
    obtain rfl : x147 = 4 := e147.trans (by decide)
    refine va_iast hx hb hK hP hD hS 1 0 rfl rfl (vin (by decide) (by decide)) dX3_countSlots_52 (fun H locs hP hD hS => ?_)
    replace hP : va_P (dC, dI) vwCl [(o, .inr (3, [.ref k, .ref op, .int 0, .ref oq, .ref ov, .ref os])), (os, .inl (cI, 5, .inl (upd (upd (upd (upd (upd (upd (upd (fun _ => 0) 0 0) 1 0) 2 0) 3 0) 4 0) 0 2) 0 4))), (k, .inr (0, [.ref ks, .ref kw, .ref kc, .int (-6), .int 0, .int 0, .ref kq, .ref km, .ref kd, .int 0, .ref ka, .ref kk])), (ks, .inl (cI, 5, .inl (upd (fun _ => 0) 0 800))), (kw, .inl (cI, 14, .inl (fun _ => 0)))] H := hP
    replace hD : va_D A [(o, .inr (3, [.ref k, .ref op, .int 0, .ref oq, .ref ov, .ref os])), (os, .inl (cI, 5, .inl (upd (upd (upd (upd (upd (upd (upd (fun _ => 0) 0 0) 1 0) 2 0) 3 0) 4 0) 0 2) 0 4))), (k, .inr (0, [.ref ks, .ref kw, .ref kc, .int (-6), .int 0, .int 0, .ref kq, .ref km, .ref kd, .int 0, .ref ka, .ref kk])), (ks, .inl (cI, 5, .inl (upd (fun _ => 0) 0 800))), (kw, .inl (cI, 14, .inl (fun _ => 0)))] := hD
    refine lv_iinc (v := 2) (lv' := [(2, .int 2), (0, .ref o), (1, .int 6)]) hx hb dX3_countSlots_53 hl (k := 0) rfl (by decide) (by decide) rfl (fun ls hl => ?_)
    refine lv_goto (tgt := 30) hx hb dX3_countSlots_56 (by decide) ?_
    refine lv_iload_n hx hb dX3_countSlots_30 rfl (lv_at hl 0 rfl) ?_
    refine lv_iload_n hx hb dX3_countSlots_31 rfl (lv_at hl 2 rfl) ?_
    refine lv_icmp_gt (tgt := 59) hx hb dX3_countSlots_32 (by decide) (fun c148 => absurd c148 (by decide)) (fun c148 => ?_)
    refine lv_aload_n hx hb dX3_countSlots_35 rfl (lv_at hl 1 rfl) ?_
    refine va_get (D := (dC, dI)) (ci := 3) (v := .ref os) (C := RX3) (T := TX3) (N := 6) hx hb hts hin3 hown hK hP 0 rfl rfl 5 (by decide) hw0 (fun _ h9 => h9) rfl dX3_countSlots_36 ?_
    refine lv_aload_n hx hb dX3_countSlots_39 rfl (lv_at hl 1 rfl) ?_
    refine va_get (D := (dC, dI)) (ci := 3) (v := .ref k) (C := RX3) (T := TX3) (N := 6) hx hb hts hin3 hown hK hP 0 rfl rfl 0 (by decide) hw1 (fun _ h9 => h9) rfl dX3_countSlots_40 ?_
    refine lv_iload_n hx hb dX3_countSlots_43 rfl (lv_at hl 0 rfl) ?_
    refine lv_iconst (v := 0) hx hb dX3_countSlots_44 (by decide) ?_
    refine mx_i (wr := [(o, .inr (3, [.ref k, .ref op, .int 0, .ref oq, .ref ov, .ref os])), (os, .inl (cI, 5, .inl (upd (upd (upd (upd (upd (upd (upd (fun _ => 0) 0 0) 1 0) 2 0) 3 0) 4 0) 0 2) 0 4)))]) (va_runV (As := [.int 2, .int 0]) (rest := [.ref os]) ⟨hx, hb, hml, hown, hts⟩ (c_X0_windOn l dC dI cI cZ cK tS aK aV k ks kw kc kq km kd ka kk 2 H.size (by have z8 : (2 : Int32).toInt = 2 := rfl; first | omega | decide | assumption | trivial)) (cwV 2 hts (gw_v (fun _ h9 => List.mem_cons_of_mem _ h9) wm_169 wm_170 wm_171 wm_10 wm_172) rfl rfl rfl (by decide +kernel) ⟨Nat.le_of_ble_eq_true rfl, Nat.le_of_ble_eq_true rfl⟩) (mx_preV (C := RX0) (T := TX0) (N := 12) (ci := 0) hKx hP hD hS hA [2, 3, 4] (by decide) rfl rfl rfl) rfl rfl hl.1 rfl (lv_room (Nat.le_of_ble_eq_true rfl)) dX3_countSlots_45 ⟨Nat.le_of_ble_eq_true rfl, Nat.le_of_ble_eq_true rfl⟩) hP hD hS hA [2, 3, 4] [0, 1] rfl rfl (by decide) (by decide) (fun r149 u149 H locs hq149 hP hD hS => ?_)
    replace hP : va_P (dC, dI) vwCl [(o, .inr (3, [.ref k, .ref op, .int 0, .ref oq, .ref ov, .ref os])), (os, .inl (cI, 5, .inl (upd (upd (upd (upd (upd (upd (upd (fun _ => 0) 0 0) 1 0) 2 0) 3 0) 4 0) 0 2) 0 4))), (k, .inr (0, [.ref ks, .ref kw, .ref kc, .int (-6), .int 0, .int 0, .ref kq, .ref km, .ref kd, .int 0, .ref ka, .ref kk])), (ks, .inl (cI, 5, .inl (upd (fun _ => 0) 0 800))), (kw, .inl (cI, 14, .inl (fun _ => 0)))] H := hP
    replace hD : va_D A [(o, .inr (3, [.ref k, .ref op, .int 0, .ref oq, .ref ov, .ref os])), (os, .inl (cI, 5, .inl (upd (upd (upd (upd (upd (upd (upd (fun _ => 0) 0 0) 1 0) 2 0) 3 0) 4 0) 0 2) 0 4))), (k, .inr (0, [.ref ks, .ref kw, .ref kc, .int (-6), .int 0, .int 0, .ref kq, .ref km, .ref kd, .int 0, .ref ka, .ref kk])), (ks, .inl (cI, 5, .inl (upd (fun _ => 0) 0 800))), (kw, .inl (cI, 14, .inl (fun _ => 0)))] := hD
    obtain rfl : r149 = 0 := hq149
    refine lv_dup2_11 hx hb dX3_countSlots_48 rfl rfl ?_
    refine va_iald hx hb hK hP 1 0 rfl rfl (vin (by decide) (by decide)) dX3_countSlots_49 ?_
    refine lv_topi (fun x150 e150 => ?_)
    obtain rfl : x150 = 4 := e150.trans (by first | rfl | decide)
    refine lv_iconst (v := 2) hx hb dX3_countSlots_50 (by decide) ?_
    refine lv_iadd hx hb dX3_countSlots_51 ?_
    refine lv_topi (fun x151 e151 => ?_)
    obtain rfl : x151 = 6 := e151.trans (by decide)
    refine va_iast hx hb hK hP hD hS 1 0 rfl rfl (vin (by decide) (by decide)) dX3_countSlots_52 (fun H locs hP hD hS => ?_)
    replace hP : va_P (dC, dI) vwCl [(o, .inr (3, [.ref k, .ref op, .int 0, .ref oq, .ref ov, .ref os])), (os, .inl (cI, 5, .inl (upd (upd (upd (upd (upd (upd (upd (upd (fun _ => 0) 0 0) 1 0) 2 0) 3 0) 4 0) 0 2) 0 4) 0 6))), (k, .inr (0, [.ref ks, .ref kw, .ref kc, .int (-6), .int 0, .int 0, .ref kq, .ref km, .ref kd, .int 0, .ref ka, .ref kk])), (ks, .inl (cI, 5, .inl (upd (fun _ => 0) 0 800))), (kw, .inl (cI, 14, .inl (fun _ => 0)))] H := hP
    replace hD : va_D A [(o, .inr (3, [.ref k, .ref op, .int 0, .ref oq, .ref ov, .ref os])), (os, .inl (cI, 5, .inl (upd (upd (upd (upd (upd (upd (upd (upd (fun _ => 0) 0 0) 1 0) 2 0) 3 0) 4 0) 0 2) 0 4) 0 6))), (k, .inr (0, [.ref ks, .ref kw, .ref kc, .int (-6), .int 0, .int 0, .ref kq, .ref km, .ref kd, .int 0, .ref ka, .ref kk])), (ks, .inl (cI, 5, .inl (upd (fun _ => 0) 0 800))), (kw, .inl (cI, 14, .inl (fun _ => 0)))] := hD
    refine lv_iinc (v := 3) (lv' := [(2, .int 3), (0, .ref o), (1, .int 6)]) hx hb dX3_countSlots_53 hl (k := 0) rfl (by decide) (by decide) rfl (fun ls hl => ?_)
    refine lv_goto (tgt := 30) hx hb dX3_countSlots_56 (by decide) ?_
    refine lv_iload_n hx hb dX3_countSlots_30 rfl (lv_at hl 0 rfl) ?_
    refine lv_iload_n hx hb dX3_countSlots_31 rfl (lv_at hl 2 rfl) ?_
    refine lv_icmp_gt (tgt := 59) hx hb dX3_countSlots_32 (by decide) (fun c152 => absurd c152 (by decide)) (fun c152 => ?_)
    refine lv_aload_n hx hb dX3_countSlots_35 rfl (lv_at hl 1 rfl) ?_
    refine va_get (D := (dC, dI)) (ci := 3) (v := .ref os) (C := RX3) (T := TX3) (N := 6) hx hb hts hin3 hown hK hP 0 rfl rfl 5 (by decide) hw0 (fun _ h9 => h9) rfl dX3_countSlots_36 ?_
    refine lv_aload_n hx hb dX3_countSlots_39 rfl (lv_at hl 1 rfl) ?_
    refine va_get (D := (dC, dI)) (ci := 3) (v := .ref k) (C := RX3) (T := TX3) (N := 6) hx hb hts hin3 hown hK hP 0 rfl rfl 0 (by decide) hw1 (fun _ h9 => h9) rfl dX3_countSlots_40 ?_
    refine lv_iload_n hx hb dX3_countSlots_43 rfl (lv_at hl 0 rfl) ?_
    refine lv_iconst (v := 0) hx hb dX3_countSlots_44 (by decide) ?_
    refine mx_i (wr := [(o, .inr (3, [.ref k, .ref op, .int 0, .ref oq, .ref ov, .ref os])), (os, .inl (cI, 5, .inl (upd (upd (upd (upd (upd (upd (upd (upd (fun _ => 0) 0 0) 1 0) 2 0) 3 0) 4 0) 0 2) 0 4) 0 6)))]) (va_runV (As := [.int 3, .int 0]) (rest := [.ref os]) ⟨hx, hb, hml, hown, hts⟩ (c_X0_windOn l dC dI cI cZ cK tS aK aV k ks kw kc kq km kd ka kk 3 H.size (by have z8 : (3 : Int32).toInt = 3 := rfl; first | omega | decide | assumption | trivial)) (cwV 2 hts (gw_v (fun _ h9 => List.mem_cons_of_mem _ h9) wm_169 wm_170 wm_171 wm_10 wm_172) rfl rfl rfl (by decide +kernel) ⟨Nat.le_of_ble_eq_true rfl, Nat.le_of_ble_eq_true rfl⟩) (mx_preV (C := RX0) (T := TX0) (N := 12) (ci := 0) hKx hP hD hS hA [2, 3, 4] (by decide) rfl rfl rfl) rfl rfl hl.1 rfl (lv_room (Nat.le_of_ble_eq_true rfl)) dX3_countSlots_45 ⟨Nat.le_of_ble_eq_true rfl, Nat.le_of_ble_eq_true rfl⟩) hP hD hS hA [2, 3, 4] [0, 1] rfl rfl (by decide) (by decide) (fun r153 u153 H locs hq153 hP hD hS => ?_)
    replace hP : va_P (dC, dI) vwCl [(o, .inr (3, [.ref k, .ref op, .int 0, .ref oq, .ref ov, .ref os])), (os, .inl (cI, 5, .inl (upd (upd (upd (upd (upd (upd (upd (upd (fun _ => 0) 0 0) 1 0) 2 0) 3 0) 4 0) 0 2) 0 4) 0 6))), (k, .inr (0, [.ref ks, .ref kw, .ref kc, .int (-6), .int 0, .int 0, .ref kq, .ref km, .ref kd, .int 0, .ref ka, .ref kk])), (ks, .inl (cI, 5, .inl (upd (fun _ => 0) 0 800))), (kw, .inl (cI, 14, .inl (fun _ => 0)))] H := hP
    replace hD : va_D A [(o, .inr (3, [.ref k, .ref op, .int 0, .ref oq, .ref ov, .ref os])), (os, .inl (cI, 5, .inl (upd (upd (upd (upd (upd (upd (upd (upd (fun _ => 0) 0 0) 1 0) 2 0) 3 0) 4 0) 0 2) 0 4) 0 6))), (k, .inr (0, [.ref ks, .ref kw, .ref kc, .int (-6), .int 0, .int 0, .ref kq, .ref km, .ref kd, .int 0, .ref ka, .ref kk])), (ks, .inl (cI, 5, .inl (upd (fun _ => 0) 0 800))), (kw, .inl (cI, 14, .inl (fun _ => 0)))] := hD
    obtain rfl : r153 = 0 := hq153
    refine lv_dup2_11 hx hb dX3_countSlots_48 rfl rfl ?_
    refine va_iald hx hb hK hP 1 0 rfl rfl (vin (by decide) (by decide)) dX3_countSlots_49 ?_
    refine lv_topi (fun x154 e154 => ?_)
    obtain rfl : x154 = 6 := e154.trans (by first | rfl | decide)
    refine lv_iconst (v := 2) hx hb dX3_countSlots_50 (by decide) ?_
    refine lv_iadd hx hb dX3_countSlots_51 ?_
    refine lv_topi (fun x155 e155 => ?_)
    obtain rfl : x155 = 8 := e155.trans (by decide)
    refine va_iast hx hb hK hP hD hS 1 0 rfl rfl (vin (by decide) (by decide)) dX3_countSlots_52 (fun H locs hP hD hS => ?_)
    replace hP : va_P (dC, dI) vwCl [(o, .inr (3, [.ref k, .ref op, .int 0, .ref oq, .ref ov, .ref os])), (os, .inl (cI, 5, .inl (upd (upd (upd (upd (upd (upd (upd (upd (upd (fun _ => 0) 0 0) 1 0) 2 0) 3 0) 4 0) 0 2) 0 4) 0 6) 0 8))), (k, .inr (0, [.ref ks, .ref kw, .ref kc, .int (-6), .int 0, .int 0, .ref kq, .ref km, .ref kd, .int 0, .ref ka, .ref kk])), (ks, .inl (cI, 5, .inl (upd (fun _ => 0) 0 800))), (kw, .inl (cI, 14, .inl (fun _ => 0)))] H := hP
    replace hD : va_D A [(o, .inr (3, [.ref k, .ref op, .int 0, .ref oq, .ref ov, .ref os])), (os, .inl (cI, 5, .inl (upd (upd (upd (upd (upd (upd (upd (upd (upd (fun _ => 0) 0 0) 1 0) 2 0) 3 0) 4 0) 0 2) 0 4) 0 6) 0 8))), (k, .inr (0, [.ref ks, .ref kw, .ref kc, .int (-6), .int 0, .int 0, .ref kq, .ref km, .ref kd, .int 0, .ref ka, .ref kk])), (ks, .inl (cI, 5, .inl (upd (fun _ => 0) 0 800))), (kw, .inl (cI, 14, .inl (fun _ => 0)))] := hD
    refine lv_iinc (v := 4) (lv' := [(2, .int 4), (0, .ref o), (1, .int 6)]) hx hb dX3_countSlots_53 hl (k := 0) rfl (by decide) (by decide) rfl (fun ls hl => ?_)
    refine lv_goto (tgt := 30) hx hb dX3_countSlots_56 (by decide) ?_
    refine lv_iload_n hx hb dX3_countSlots_30 rfl (lv_at hl 0 rfl) ?_
    refine lv_iload_n hx hb dX3_countSlots_31 rfl (lv_at hl 2 rfl) ?_
    refine lv_icmp_gt (tgt := 59) hx hb dX3_countSlots_32 (by decide) (fun c156 => absurd c156 (by decide)) (fun c156 => ?_)
    refine lv_aload_n hx hb dX3_countSlots_35 rfl (lv_at hl 1 rfl) ?_
    refine va_get (D := (dC, dI)) (ci := 3) (v := .ref os) (C := RX3) (T := TX3) (N := 6) hx hb hts hin3 hown hK hP 0 rfl rfl 5 (by decide) hw0 (fun _ h9 => h9) rfl dX3_countSlots_36 ?_
    refine lv_aload_n hx hb dX3_countSlots_39 rfl (lv_at hl 1 rfl) ?_
    refine va_get (D := (dC, dI)) (ci := 3) (v := .ref k) (C := RX3) (T := TX3) (N := 6) hx hb hts hin3 hown hK hP 0 rfl rfl 0 (by decide) hw1 (fun _ h9 => h9) rfl dX3_countSlots_40 ?_
    refine lv_iload_n hx hb dX3_countSlots_43 rfl (lv_at hl 0 rfl) ?_
    refine lv_iconst (v := 0) hx hb dX3_countSlots_44 (by decide) ?_
    refine mx_i (wr := [(o, .inr (3, [.ref k, .ref op, .int 0, .ref oq, .ref ov, .ref os])), (os, .inl (cI, 5, .inl (upd (upd (upd (upd (upd (upd (upd (upd (upd (fun _ => 0) 0 0) 1 0) 2 0) 3 0) 4 0) 0 2) 0 4) 0 6) 0 8)))]) (va_runV (As := [.int 4, .int 0]) (rest := [.ref os]) ⟨hx, hb, hml, hown, hts⟩ (c_X0_windOn l dC dI cI cZ cK tS aK aV k ks kw kc kq km kd ka kk 4 H.size (by have z8 : (4 : Int32).toInt = 4 := rfl; first | omega | decide | assumption | trivial)) (cwV 2 hts (gw_v (fun _ h9 => List.mem_cons_of_mem _ h9) wm_169 wm_170 wm_171 wm_10 wm_172) rfl rfl rfl (by decide +kernel) ⟨Nat.le_of_ble_eq_true rfl, Nat.le_of_ble_eq_true rfl⟩) (mx_preV (C := RX0) (T := TX0) (N := 12) (ci := 0) hKx hP hD hS hA [2, 3, 4] (by decide) rfl rfl rfl) rfl rfl hl.1 rfl (lv_room (Nat.le_of_ble_eq_true rfl)) dX3_countSlots_45 ⟨Nat.le_of_ble_eq_true rfl, Nat.le_of_ble_eq_true rfl⟩) hP hD hS hA [2, 3, 4] [0, 1] rfl rfl (by decide) (by decide) (fun r157 u157 H locs hq157 hP hD hS => ?_)
    replace hP : va_P (dC, dI) vwCl [(o, .inr (3, [.ref k, .ref op, .int 0, .ref oq, .ref ov, .ref os])), (os, .inl (cI, 5, .inl (upd (upd (upd (upd (upd (upd (upd (upd (upd (fun _ => 0) 0 0) 1 0) 2 0) 3 0) 4 0) 0 2) 0 4) 0 6) 0 8))), (k, .inr (0, [.ref ks, .ref kw, .ref kc, .int (-6), .int 0, .int 0, .ref kq, .ref km, .ref kd, .int 0, .ref ka, .ref kk])), (ks, .inl (cI, 5, .inl (upd (fun _ => 0) 0 800))), (kw, .inl (cI, 14, .inl (fun _ => 0)))] H := hP
    replace hD : va_D A [(o, .inr (3, [.ref k, .ref op, .int 0, .ref oq, .ref ov, .ref os])), (os, .inl (cI, 5, .inl (upd (upd (upd (upd (upd (upd (upd (upd (upd (fun _ => 0) 0 0) 1 0) 2 0) 3 0) 4 0) 0 2) 0 4) 0 6) 0 8))), (k, .inr (0, [.ref ks, .ref kw, .ref kc, .int (-6), .int 0, .int 0, .ref kq, .ref km, .ref kd, .int 0, .ref ka, .ref kk])), (ks, .inl (cI, 5, .inl (upd (fun _ => 0) 0 800))), (kw, .inl (cI, 14, .inl (fun _ => 0)))] := hD
    obtain rfl : r157 = 0 := hq157
    refine lv_dup2_11 hx hb dX3_countSlots_48 rfl rfl ?_
    refine va_iald hx hb hK hP 1 0 rfl rfl (vin (by decide) (by decide)) dX3_countSlots_49 ?_
    refine lv_topi (fun x158 e158 => ?_)
    obtain rfl : x158 = 8 := e158.trans (by first | rfl | decide)
    refine lv_iconst (v := 2) hx hb dX3_countSlots_50 (by decide) ?_
    refine lv_iadd hx hb dX3_countSlots_51 ?_
    refine lv_topi (fun x159 e159 => ?_)
    obtain rfl : x159 = 10 := e159.trans (by decide)
    refine va_iast hx hb hK hP hD hS 1 0 rfl rfl (vin (by decide) (by decide)) dX3_countSlots_52 (fun H locs hP hD hS => ?_)
    replace hP : va_P (dC, dI) vwCl [(o, .inr (3, [.ref k, .ref op, .int 0, .ref oq, .ref ov, .ref os])), (os, .inl (cI, 5, .inl (upd (upd (upd (upd (upd (upd (upd (upd (upd (upd (fun _ => 0) 0 0) 1 0) 2 0) 3 0) 4 0) 0 2) 0 4) 0 6) 0 8) 0 10))), (k, .inr (0, [.ref ks, .ref kw, .ref kc, .int (-6), .int 0, .int 0, .ref kq, .ref km, .ref kd, .int 0, .ref ka, .ref kk])), (ks, .inl (cI, 5, .inl (upd (fun _ => 0) 0 800))), (kw, .inl (cI, 14, .inl (fun _ => 0)))] H := hP
    replace hD : va_D A [(o, .inr (3, [.ref k, .ref op, .int 0, .ref oq, .ref ov, .ref os])), (os, .inl (cI, 5, .inl (upd (upd (upd (upd (upd (upd (upd (upd (upd (upd (fun _ => 0) 0 0) 1 0) 2 0) 3 0) 4 0) 0 2) 0 4) 0 6) 0 8) 0 10))), (k, .inr (0, [.ref ks, .ref kw, .ref kc, .int (-6), .int 0, .int 0, .ref kq, .ref km, .ref kd, .int 0, .ref ka, .ref kk])), (ks, .inl (cI, 5, .inl (upd (fun _ => 0) 0 800))), (kw, .inl (cI, 14, .inl (fun _ => 0)))] := hD
    refine lv_iinc (v := 5) (lv' := [(2, .int 5), (0, .ref o), (1, .int 6)]) hx hb dX3_countSlots_53 hl (k := 0) rfl (by decide) (by decide) rfl (fun ls hl => ?_)
    refine lv_goto (tgt := 30) hx hb dX3_countSlots_56 (by decide) ?_
    refine lv_iload_n hx hb dX3_countSlots_30 rfl (lv_at hl 0 rfl) ?_
    refine lv_iload_n hx hb dX3_countSlots_31 rfl (lv_at hl 2 rfl) ?_
    refine lv_icmp_gt (tgt := 59) hx hb dX3_countSlots_32 (by decide) (fun c160 => absurd c160 (by decide)) (fun c160 => ?_)
    refine lv_aload_n hx hb dX3_countSlots_35 rfl (lv_at hl 1 rfl) ?_
    refine va_get (D := (dC, dI)) (ci := 3) (v := .ref os) (C := RX3) (T := TX3) (N := 6) hx hb hts hin3 hown hK hP 0 rfl rfl 5 (by decide) hw0 (fun _ h9 => h9) rfl dX3_countSlots_36 ?_
    refine lv_aload_n hx hb dX3_countSlots_39 rfl (lv_at hl 1 rfl) ?_
    refine va_get (D := (dC, dI)) (ci := 3) (v := .ref k) (C := RX3) (T := TX3) (N := 6) hx hb hts hin3 hown hK hP 0 rfl rfl 0 (by decide) hw1 (fun _ h9 => h9) rfl dX3_countSlots_40 ?_
    refine lv_iload_n hx hb dX3_countSlots_43 rfl (lv_at hl 0 rfl) ?_
    refine lv_iconst (v := 0) hx hb dX3_countSlots_44 (by decide) ?_
    refine mx_i (wr := [(o, .inr (3, [.ref k, .ref op, .int 0, .ref oq, .ref ov, .ref os])), (os, .inl (cI, 5, .inl (upd (upd (upd (upd (upd (upd (upd (upd (upd (upd (fun _ => 0) 0 0) 1 0) 2 0) 3 0) 4 0) 0 2) 0 4) 0 6) 0 8) 0 10)))]) (va_runV (As := [.int 5, .int 0]) (rest := [.ref os]) ⟨hx, hb, hml, hown, hts⟩ (c_X0_windOn l dC dI cI cZ cK tS aK aV k ks kw kc kq km kd ka kk 5 H.size (by have z8 : (5 : Int32).toInt = 5 := rfl; first | omega | decide | assumption | trivial)) (cwV 2 hts (gw_v (fun _ h9 => List.mem_cons_of_mem _ h9) wm_169 wm_170 wm_171 wm_10 wm_172) rfl rfl rfl (by decide +kernel) ⟨Nat.le_of_ble_eq_true rfl, Nat.le_of_ble_eq_true rfl⟩) (mx_preV (C := RX0) (T := TX0) (N := 12) (ci := 0) hKx hP hD hS hA [2, 3, 4] (by decide) rfl rfl rfl) rfl rfl hl.1 rfl (lv_room (Nat.le_of_ble_eq_true rfl)) dX3_countSlots_45 ⟨Nat.le_of_ble_eq_true rfl, Nat.le_of_ble_eq_true rfl⟩) hP hD hS hA [2, 3, 4] [0, 1] rfl rfl (by decide) (by decide) (fun r161 u161 H locs hq161 hP hD hS => ?_)
    replace hP : va_P (dC, dI) vwCl [(o, .inr (3, [.ref k, .ref op, .int 0, .ref oq, .ref ov, .ref os])), (os, .inl (cI, 5, .inl (upd (upd (upd (upd (upd (upd (upd (upd (upd (upd (fun _ => 0) 0 0) 1 0) 2 0) 3 0) 4 0) 0 2) 0 4) 0 6) 0 8) 0 10))), (k, .inr (0, [.ref ks, .ref kw, .ref kc, .int (-6), .int 0, .int 0, .ref kq, .ref km, .ref kd, .int 0, .ref ka, .ref kk])), (ks, .inl (cI, 5, .inl (upd (fun _ => 0) 0 800))), (kw, .inl (cI, 14, .inl (fun _ => 0)))] H := hP
    replace hD : va_D A [(o, .inr (3, [.ref k, .ref op, .int 0, .ref oq, .ref ov, .ref os])), (os, .inl (cI, 5, .inl (upd (upd (upd (upd (upd (upd (upd (upd (upd (upd (fun _ => 0) 0 0) 1 0) 2 0) 3 0) 4 0) 0 2) 0 4) 0 6) 0 8) 0 10))), (k, .inr (0, [.ref ks, .ref kw, .ref kc, .int (-6), .int 0, .int 0, .ref kq, .ref km, .ref kd, .int 0, .ref ka, .ref kk])), (ks, .inl (cI, 5, .inl (upd (fun _ => 0) 0 800))), (kw, .inl (cI, 14, .inl (fun _ => 0)))] := hD
    obtain rfl : r161 = 0 := hq161
    refine lv_dup2_11 hx hb dX3_countSlots_48 rfl rfl ?_
    refine va_iald hx hb hK hP 1 0 rfl rfl (vin (by decide) (by decide)) dX3_countSlots_49 ?_
    refine lv_topi (fun x162 e162 => ?_)
    obtain rfl : x162 = 10 := e162.trans (by first | rfl | decide)
    refine lv_iconst (v := 2) hx hb dX3_countSlots_50 (by decide) ?_
    refine lv_iadd hx hb dX3_countSlots_51 ?_
    refine lv_topi (fun x163 e163 => ?_)
    obtain rfl : x163 = 12 := e163.trans (by decide)
    refine va_iast hx hb hK hP hD hS 1 0 rfl rfl (vin (by decide) (by decide)) dX3_countSlots_52 (fun H locs hP hD hS => ?_)
    replace hP : va_P (dC, dI) vwCl [(o, .inr (3, [.ref k, .ref op, .int 0, .ref oq, .ref ov, .ref os])), (os, .inl (cI, 5, .inl (upd (upd (upd (upd (upd (upd (upd (upd (upd (upd (upd (fun _ => 0) 0 0) 1 0) 2 0) 3 0) 4 0) 0 2) 0 4) 0 6) 0 8) 0 10) 0 12))), (k, .inr (0, [.ref ks, .ref kw, .ref kc, .int (-6), .int 0, .int 0, .ref kq, .ref km, .ref kd, .int 0, .ref ka, .ref kk])), (ks, .inl (cI, 5, .inl (upd (fun _ => 0) 0 800))), (kw, .inl (cI, 14, .inl (fun _ => 0)))] H := hP
    replace hD : va_D A [(o, .inr (3, [.ref k, .ref op, .int 0, .ref oq, .ref ov, .ref os])), (os, .inl (cI, 5, .inl (upd (upd (upd (upd (upd (upd (upd (upd (upd (upd (upd (fun _ => 0) 0 0) 1 0) 2 0) 3 0) 4 0) 0 2) 0 4) 0 6) 0 8) 0 10) 0 12))), (k, .inr (0, [.ref ks, .ref kw, .ref kc, .int (-6), .int 0, .int 0, .ref kq, .ref km, .ref kd, .int 0, .ref ka, .ref kk])), (ks, .inl (cI, 5, .inl (upd (fun _ => 0) 0 800))), (kw, .inl (cI, 14, .inl (fun _ => 0)))] := hD
    refine lv_iinc (v := 6) (lv' := [(2, .int 6), (0, .ref o), (1, .int 6)]) hx hb dX3_countSlots_53 hl (k := 0) rfl (by decide) (by decide) rfl (fun ls hl => ?_)
    refine lv_goto (tgt := 30) hx hb dX3_countSlots_56 (by decide) ?_
    refine lv_iload_n hx hb dX3_countSlots_30 rfl (lv_at hl 0 rfl) ?_
    refine lv_iload_n hx hb dX3_countSlots_31 rfl (lv_at hl 2 rfl) ?_
    refine lv_icmp_gt (tgt := 59) hx hb dX3_countSlots_32 (by decide) (fun c164 => absurd c164 (by decide)) (fun c164 => ?_)
    refine lv_aload_n hx hb dX3_countSlots_35 rfl (lv_at hl 1 rfl) ?_
    refine va_get (D := (dC, dI)) (ci := 3) (v := .ref os) (C := RX3) (T := TX3) (N := 6) hx hb hts hin3 hown hK hP 0 rfl rfl 5 (by decide) hw0 (fun _ h9 => h9) rfl dX3_countSlots_36 ?_
    refine lv_aload_n hx hb dX3_countSlots_39 rfl (lv_at hl 1 rfl) ?_
    refine va_get (D := (dC, dI)) (ci := 3) (v := .ref k) (C := RX3) (T := TX3) (N := 6) hx hb hts hin3 hown hK hP 0 rfl rfl 0 (by decide) hw1 (fun _ h9 => h9) rfl dX3_countSlots_40 ?_
    refine lv_iload_n hx hb dX3_countSlots_43 rfl (lv_at hl 0 rfl) ?_
    refine lv_iconst (v := 0) hx hb dX3_countSlots_44 (by decide) ?_
    refine mx_i (wr := [(o, .inr (3, [.ref k, .ref op, .int 0, .ref oq, .ref ov, .ref os])), (os, .inl (cI, 5, .inl (upd (upd (upd (upd (upd (upd (upd (upd (upd (upd (upd (fun _ => 0) 0 0) 1 0) 2 0) 3 0) 4 0) 0 2) 0 4) 0 6) 0 8) 0 10) 0 12)))]) (va_runV (As := [.int 6, .int 0]) (rest := [.ref os]) ⟨hx, hb, hml, hown, hts⟩ (c_X0_windOn l dC dI cI cZ cK tS aK aV k ks kw kc kq km kd ka kk 6 H.size (by have z8 : (6 : Int32).toInt = 6 := rfl; first | omega | decide | assumption | trivial)) (cwV 2 hts (gw_v (fun _ h9 => List.mem_cons_of_mem _ h9) wm_169 wm_170 wm_171 wm_10 wm_172) rfl rfl rfl (by decide +kernel) ⟨Nat.le_of_ble_eq_true rfl, Nat.le_of_ble_eq_true rfl⟩) (mx_preV (C := RX0) (T := TX0) (N := 12) (ci := 0) hKx hP hD hS hA [2, 3, 4] (by decide) rfl rfl rfl) rfl rfl hl.1 rfl (lv_room (Nat.le_of_ble_eq_true rfl)) dX3_countSlots_45 ⟨Nat.le_of_ble_eq_true rfl, Nat.le_of_ble_eq_true rfl⟩) hP hD hS hA [2, 3, 4] [0, 1] rfl rfl (by decide) (by decide) (fun r165 u165 H locs hq165 hP hD hS => ?_)
    replace hP : va_P (dC, dI) vwCl [(o, .inr (3, [.ref k, .ref op, .int 0, .ref oq, .ref ov, .ref os])), (os, .inl (cI, 5, .inl (upd (upd (upd (upd (upd (upd (upd (upd (upd (upd (upd (fun _ => 0) 0 0) 1 0) 2 0) 3 0) 4 0) 0 2) 0 4) 0 6) 0 8) 0 10) 0 12))), (k, .inr (0, [.ref ks, .ref kw, .ref kc, .int (-6), .int 0, .int 0, .ref kq, .ref km, .ref kd, .int 0, .ref ka, .ref kk])), (ks, .inl (cI, 5, .inl (upd (fun _ => 0) 0 800))), (kw, .inl (cI, 14, .inl (fun _ => 0)))] H := hP
    replace hD : va_D A [(o, .inr (3, [.ref k, .ref op, .int 0, .ref oq, .ref ov, .ref os])), (os, .inl (cI, 5, .inl (upd (upd (upd (upd (upd (upd (upd (upd (upd (upd (upd (fun _ => 0) 0 0) 1 0) 2 0) 3 0) 4 0) 0 2) 0 4) 0 6) 0 8) 0 10) 0 12))), (k, .inr (0, [.ref ks, .ref kw, .ref kc, .int (-6), .int 0, .int 0, .ref kq, .ref km, .ref kd, .int 0, .ref ka, .ref kk])), (ks, .inl (cI, 5, .inl (upd (fun _ => 0) 0 800))), (kw, .inl (cI, 14, .inl (fun _ => 0)))] := hD
    obtain rfl : r165 = 0 := hq165
    refine lv_dup2_11 hx hb dX3_countSlots_48 rfl rfl ?_
    refine va_iald hx hb hK hP 1 0 rfl rfl (vin (by decide) (by decide)) dX3_countSlots_49 ?_
    refine lv_topi (fun x166 e166 => ?_)
    obtain rfl : x166 = 12 := e166.trans (by first | rfl | decide)
    refine lv_iconst (v := 2) hx hb dX3_countSlots_50 (by decide) ?_
    refine lv_iadd hx hb dX3_countSlots_51 ?_
    refine lv_topi (fun x167 e167 => ?_)
    obtain rfl : x167 = 14 := e167.trans (by decide)
    refine va_iast hx hb hK hP hD hS 1 0 rfl rfl (vin (by decide) (by decide)) dX3_countSlots_52 (fun H locs hP hD hS => ?_)
    replace hP : va_P (dC, dI) vwCl [(o, .inr (3, [.ref k, .ref op, .int 0, .ref oq, .ref ov, .ref os])), (os, .inl (cI, 5, .inl (upd (upd (upd (upd (upd (upd (upd (upd (upd (upd (upd (upd (fun _ => 0) 0 0) 1 0) 2 0) 3 0) 4 0) 0 2) 0 4) 0 6) 0 8) 0 10) 0 12) 0 14))), (k, .inr (0, [.ref ks, .ref kw, .ref kc, .int (-6), .int 0, .int 0, .ref kq, .ref km, .ref kd, .int 0, .ref ka, .ref kk])), (ks, .inl (cI, 5, .inl (upd (fun _ => 0) 0 800))), (kw, .inl (cI, 14, .inl (fun _ => 0)))] H := hP
    replace hD : va_D A [(o, .inr (3, [.ref k, .ref op, .int 0, .ref oq, .ref ov, .ref os])), (os, .inl (cI, 5, .inl (upd (upd (upd (upd (upd (upd (upd (upd (upd (upd (upd (upd (fun _ => 0) 0 0) 1 0) 2 0) 3 0) 4 0) 0 2) 0 4) 0 6) 0 8) 0 10) 0 12) 0 14))), (k, .inr (0, [.ref ks, .ref kw, .ref kc, .int (-6), .int 0, .int 0, .ref kq, .ref km, .ref kd, .int 0, .ref ka, .ref kk])), (ks, .inl (cI, 5, .inl (upd (fun _ => 0) 0 800))), (kw, .inl (cI, 14, .inl (fun _ => 0)))] := hD
    refine lv_iinc (v := 7) (lv' := [(2, .int 7), (0, .ref o), (1, .int 6)]) hx hb dX3_countSlots_53 hl (k := 0) rfl (by decide) (by decide) rfl (fun ls hl => ?_)
    refine lv_goto (tgt := 30) hx hb dX3_countSlots_56 (by decide) ?_
    refine lv_iload_n hx hb dX3_countSlots_30 rfl (lv_at hl 0 rfl) ?_
    refine lv_iload_n hx hb dX3_countSlots_31 rfl (lv_at hl 2 rfl) ?_
    refine lv_icmp_gt (tgt := 59) hx hb dX3_countSlots_32 (by decide) (fun c168 => ?_) (fun c168 => absurd c168 (by decide))
    have hP9 := mx_subP (wc := [(o, .inr (3, [.ref k, .ref op, .int 0, .ref oq, .ref ov, .ref os])), (os, .inl (cI, 5, .inl (upd (upd (upd (upd (upd (upd (upd (upd (upd (upd (upd (upd (fun _ => 0) 0 0) 1 0) 2 0) 3 0) 4 0) 0 2) 0 4) 0 6) 0 8) 0 10) 0 12) 0 14))), (k, .inr (0, [.ref ks, .ref kw, .ref kc, .int (-6), .int 0, .int 0, .ref kq, .ref km, .ref kd, .int 0, .ref ka, .ref kk])), (ks, .inl (cI, 5, .inl (upd (fun _ => 0) 0 800))), (kw, .inl (cI, 14, .inl (fun _ => 0)))]) hP [0, 1, 2, 3, 4] rfl
    have hD9 := hD.sub (ws' := [(o, .inr (3, [.ref k, .ref op, .int 0, .ref oq, .ref ov, .ref os])), (os, .inl (cI, 5, .inl (upd (upd (upd (upd (upd (upd (upd (upd (upd (upd (upd (upd (fun _ => 0) 0 0) 1 0) 2 0) 3 0) 4 0) 0 2) 0 4) 0 6) 0 8) 0 10) 0 12) 0 14))), (k, .inr (0, [.ref ks, .ref kw, .ref kc, .int (-6), .int 0, .int 0, .ref kq, .ref km, .ref kd, .int 0, .ref ka, .ref kk])), (ks, .inl (cI, 5, .inl (upd (fun _ => 0) 0 800))), (kw, .inl (cI, 14, .inl (fun _ => 0)))]) [0, 1, 2, 3, 4] (by decide) rfl
    exact W.vret hx hb hr (fun t ht hW => ⟨⟨(upd (upd (upd (upd (upd (upd (upd (upd (upd (upd (upd (upd (fun _ => 0) 0 0) 1 0) 2 0) 3 0) 4 0) 0 2) 0 4) 0 6) 0 8) 0 10) 0 12) 0 14), rfl, (by refine ⟨?_, ?_, ?_, ?_, ?_, ?_, ?_, ?_, ?_, ?_⟩ <;> decide), by rw [ht]; exact hP9, hD9⟩, hS.F ht⟩) hS.2.2 dX3_countSlots_59
  · have z9 : (7 : Int32).toInt = 7 := rfl
    refine lv_iconst (v := 0) hx hb dX3_countSlots_0 (by decide) ?_
    refine lv_istore_n (lv' := [(2, .int 0), (0, .ref o), (1, .int 7)]) hx hb dX3_countSlots_1 rfl hl (by decide) rfl (fun ls hl => ?_)
    refine lv_iload_n hx hb dX3_countSlots_2 rfl (lv_at hl 0 rfl) ?_
    refine lv_iconst (v := 4) hx hb dX3_countSlots_3 (by decide) ?_
    refine lv_icmp_gt (tgt := 20) hx hb dX3_countSlots_4 (by decide) (fun c169 => absurd c169 (by decide)) (fun c169 => ?_)
    refine lv_aload_n hx hb dX3_countSlots_7 rfl (lv_at hl 1 rfl) ?_
    refine va_get (D := (dC, dI)) (ci := 3) (v := .ref os) (C := RX3) (T := TX3) (N := 6) hx hb hts hin3 hown hK hP 0 rfl rfl 5 (by decide) hw0 (fun _ h9 => h9) rfl dX3_countSlots_8 ?_
    refine lv_iload_n hx hb dX3_countSlots_11 rfl (lv_at hl 0 rfl) ?_
    refine lv_iconst (v := 0) hx hb dX3_countSlots_12 (by decide) ?_
    refine va_iast hx hb hK hP hD hS 1 0 rfl rfl (vin (by decide) (by decide)) dX3_countSlots_13 (fun H locs hP hD hS => ?_)
    replace hP : va_P (dC, dI) vwCl [(o, .inr (3, [.ref k, .ref op, .int 0, .ref oq, .ref ov, .ref os])), (os, .inl (cI, 5, .inl (upd (fun _ => 0) 0 0))), (k, .inr (0, [.ref ks, .ref kw, .ref kc, .int (-6), .int 0, .int 0, .ref kq, .ref km, .ref kd, .int 0, .ref ka, .ref kk])), (ks, .inl (cI, 5, .inl (upd (fun _ => 0) 0 800))), (kw, .inl (cI, 14, .inl (fun _ => 0)))] H := hP
    replace hD : va_D A [(o, .inr (3, [.ref k, .ref op, .int 0, .ref oq, .ref ov, .ref os])), (os, .inl (cI, 5, .inl (upd (fun _ => 0) 0 0))), (k, .inr (0, [.ref ks, .ref kw, .ref kc, .int (-6), .int 0, .int 0, .ref kq, .ref km, .ref kd, .int 0, .ref ka, .ref kk])), (ks, .inl (cI, 5, .inl (upd (fun _ => 0) 0 800))), (kw, .inl (cI, 14, .inl (fun _ => 0)))] := hD
    refine lv_iinc (v := 1) (lv' := [(2, .int 1), (0, .ref o), (1, .int 7)]) hx hb dX3_countSlots_14 hl (k := 0) rfl (by decide) (by decide) rfl (fun ls hl => ?_)
    refine lv_goto (tgt := 2) hx hb dX3_countSlots_17 (by decide) ?_
    refine lv_iload_n hx hb dX3_countSlots_2 rfl (lv_at hl 0 rfl) ?_
    refine lv_iconst (v := 4) hx hb dX3_countSlots_3 (by decide) ?_
    refine lv_icmp_gt (tgt := 20) hx hb dX3_countSlots_4 (by decide) (fun c170 => absurd c170 (by decide)) (fun c170 => ?_)
    refine lv_aload_n hx hb dX3_countSlots_7 rfl (lv_at hl 1 rfl) ?_
    refine va_get (D := (dC, dI)) (ci := 3) (v := .ref os) (C := RX3) (T := TX3) (N := 6) hx hb hts hin3 hown hK hP 0 rfl rfl 5 (by decide) hw0 (fun _ h9 => h9) rfl dX3_countSlots_8 ?_
    refine lv_iload_n hx hb dX3_countSlots_11 rfl (lv_at hl 0 rfl) ?_
    refine lv_iconst (v := 0) hx hb dX3_countSlots_12 (by decide) ?_
    refine va_iast hx hb hK hP hD hS 1 0 rfl rfl (vin (by decide) (by decide)) dX3_countSlots_13 (fun H locs hP hD hS => ?_)
    replace hP : va_P (dC, dI) vwCl [(o, .inr (3, [.ref k, .ref op, .int 0, .ref oq, .ref ov, .ref os])), (os, .inl (cI, 5, .inl (upd (upd (fun _ => 0) 0 0) 1 0))), (k, .inr (0, [.ref ks, .ref kw, .ref kc, .int (-6), .int 0, .int 0, .ref kq, .ref km, .ref kd, .int 0, .ref ka, .ref kk])), (ks, .inl (cI, 5, .inl (upd (fun _ => 0) 0 800))), (kw, .inl (cI, 14, .inl (fun _ => 0)))] H := hP
    replace hD : va_D A [(o, .inr (3, [.ref k, .ref op, .int 0, .ref oq, .ref ov, .ref os])), (os, .inl (cI, 5, .inl (upd (upd (fun _ => 0) 0 0) 1 0))), (k, .inr (0, [.ref ks, .ref kw, .ref kc, .int (-6), .int 0, .int 0, .ref kq, .ref km, .ref kd, .int 0, .ref ka, .ref kk])), (ks, .inl (cI, 5, .inl (upd (fun _ => 0) 0 800))), (kw, .inl (cI, 14, .inl (fun _ => 0)))] := hD
    refine lv_iinc (v := 2) (lv' := [(2, .int 2), (0, .ref o), (1, .int 7)]) hx hb dX3_countSlots_14 hl (k := 0) rfl (by decide) (by decide) rfl (fun ls hl => ?_)
    refine lv_goto (tgt := 2) hx hb dX3_countSlots_17 (by decide) ?_
    refine lv_iload_n hx hb dX3_countSlots_2 rfl (lv_at hl 0 rfl) ?_
    refine lv_iconst (v := 4) hx hb dX3_countSlots_3 (by decide) ?_
    refine lv_icmp_gt (tgt := 20) hx hb dX3_countSlots_4 (by decide) (fun c171 => absurd c171 (by decide)) (fun c171 => ?_)
    refine lv_aload_n hx hb dX3_countSlots_7 rfl (lv_at hl 1 rfl) ?_
    refine va_get (D := (dC, dI)) (ci := 3) (v := .ref os) (C := RX3) (T := TX3) (N := 6) hx hb hts hin3 hown hK hP 0 rfl rfl 5 (by decide) hw0 (fun _ h9 => h9) rfl dX3_countSlots_8 ?_
    refine lv_iload_n hx hb dX3_countSlots_11 rfl (lv_at hl 0 rfl) ?_
    refine lv_iconst (v := 0) hx hb dX3_countSlots_12 (by decide) ?_
    refine va_iast hx hb hK hP hD hS 1 0 rfl rfl (vin (by decide) (by decide)) dX3_countSlots_13 (fun H locs hP hD hS => ?_)
    replace hP : va_P (dC, dI) vwCl [(o, .inr (3, [.ref k, .ref op, .int 0, .ref oq, .ref ov, .ref os])), (os, .inl (cI, 5, .inl (upd (upd (upd (fun _ => 0) 0 0) 1 0) 2 0))), (k, .inr (0, [.ref ks, .ref kw, .ref kc, .int (-6), .int 0, .int 0, .ref kq, .ref km, .ref kd, .int 0, .ref ka, .ref kk])), (ks, .inl (cI, 5, .inl (upd (fun _ => 0) 0 800))), (kw, .inl (cI, 14, .inl (fun _ => 0)))] H := hP
    replace hD : va_D A [(o, .inr (3, [.ref k, .ref op, .int 0, .ref oq, .ref ov, .ref os])), (os, .inl (cI, 5, .inl (upd (upd (upd (fun _ => 0) 0 0) 1 0) 2 0))), (k, .inr (0, [.ref ks, .ref kw, .ref kc, .int (-6), .int 0, .int 0, .ref kq, .ref km, .ref kd, .int 0, .ref ka, .ref kk])), (ks, .inl (cI, 5, .inl (upd (fun _ => 0) 0 800))), (kw, .inl (cI, 14, .inl (fun _ => 0)))] := hD
    refine lv_iinc (v := 3) (lv' := [(2, .int 3), (0, .ref o), (1, .int 7)]) hx hb dX3_countSlots_14 hl (k := 0) rfl (by decide) (by decide) rfl (fun ls hl => ?_)
    refine lv_goto (tgt := 2) hx hb dX3_countSlots_17 (by decide) ?_
    refine lv_iload_n hx hb dX3_countSlots_2 rfl (lv_at hl 0 rfl) ?_
    refine lv_iconst (v := 4) hx hb dX3_countSlots_3 (by decide) ?_
    refine lv_icmp_gt (tgt := 20) hx hb dX3_countSlots_4 (by decide) (fun c172 => absurd c172 (by decide)) (fun c172 => ?_)
    refine lv_aload_n hx hb dX3_countSlots_7 rfl (lv_at hl 1 rfl) ?_
    refine va_get (D := (dC, dI)) (ci := 3) (v := .ref os) (C := RX3) (T := TX3) (N := 6) hx hb hts hin3 hown hK hP 0 rfl rfl 5 (by decide) hw0 (fun _ h9 => h9) rfl dX3_countSlots_8 ?_
    refine lv_iload_n hx hb dX3_countSlots_11 rfl (lv_at hl 0 rfl) ?_
    refine lv_iconst (v := 0) hx hb dX3_countSlots_12 (by decide) ?_
    refine va_iast hx hb hK hP hD hS 1 0 rfl rfl (vin (by decide) (by decide)) dX3_countSlots_13 (fun H locs hP hD hS => ?_)
    replace hP : va_P (dC, dI) vwCl [(o, .inr (3, [.ref k, .ref op, .int 0, .ref oq, .ref ov, .ref os])), (os, .inl (cI, 5, .inl (upd (upd (upd (upd (fun _ => 0) 0 0) 1 0) 2 0) 3 0))), (k, .inr (0, [.ref ks, .ref kw, .ref kc, .int (-6), .int 0, .int 0, .ref kq, .ref km, .ref kd, .int 0, .ref ka, .ref kk])), (ks, .inl (cI, 5, .inl (upd (fun _ => 0) 0 800))), (kw, .inl (cI, 14, .inl (fun _ => 0)))] H := hP
    replace hD : va_D A [(o, .inr (3, [.ref k, .ref op, .int 0, .ref oq, .ref ov, .ref os])), (os, .inl (cI, 5, .inl (upd (upd (upd (upd (fun _ => 0) 0 0) 1 0) 2 0) 3 0))), (k, .inr (0, [.ref ks, .ref kw, .ref kc, .int (-6), .int 0, .int 0, .ref kq, .ref km, .ref kd, .int 0, .ref ka, .ref kk])), (ks, .inl (cI, 5, .inl (upd (fun _ => 0) 0 800))), (kw, .inl (cI, 14, .inl (fun _ => 0)))] := hD
    refine lv_iinc (v := 4) (lv' := [(2, .int 4), (0, .ref o), (1, .int 7)]) hx hb dX3_countSlots_14 hl (k := 0) rfl (by decide) (by decide) rfl (fun ls hl => ?_)
    refine lv_goto (tgt := 2) hx hb dX3_countSlots_17 (by decide) ?_
    refine lv_iload_n hx hb dX3_countSlots_2 rfl (lv_at hl 0 rfl) ?_
    refine lv_iconst (v := 4) hx hb dX3_countSlots_3 (by decide) ?_
    refine lv_icmp_gt (tgt := 20) hx hb dX3_countSlots_4 (by decide) (fun c173 => absurd c173 (by decide)) (fun c173 => ?_)
    refine lv_aload_n hx hb dX3_countSlots_7 rfl (lv_at hl 1 rfl) ?_
    refine va_get (D := (dC, dI)) (ci := 3) (v := .ref os) (C := RX3) (T := TX3) (N := 6) hx hb hts hin3 hown hK hP 0 rfl rfl 5 (by decide) hw0 (fun _ h9 => h9) rfl dX3_countSlots_8 ?_
    refine lv_iload_n hx hb dX3_countSlots_11 rfl (lv_at hl 0 rfl) ?_
    refine lv_iconst (v := 0) hx hb dX3_countSlots_12 (by decide) ?_
    refine va_iast hx hb hK hP hD hS 1 0 rfl rfl (vin (by decide) (by decide)) dX3_countSlots_13 (fun H locs hP hD hS => ?_)
    replace hP : va_P (dC, dI) vwCl [(o, .inr (3, [.ref k, .ref op, .int 0, .ref oq, .ref ov, .ref os])), (os, .inl (cI, 5, .inl (upd (upd (upd (upd (upd (fun _ => 0) 0 0) 1 0) 2 0) 3 0) 4 0))), (k, .inr (0, [.ref ks, .ref kw, .ref kc, .int (-6), .int 0, .int 0, .ref kq, .ref km, .ref kd, .int 0, .ref ka, .ref kk])), (ks, .inl (cI, 5, .inl (upd (fun _ => 0) 0 800))), (kw, .inl (cI, 14, .inl (fun _ => 0)))] H := hP
    replace hD : va_D A [(o, .inr (3, [.ref k, .ref op, .int 0, .ref oq, .ref ov, .ref os])), (os, .inl (cI, 5, .inl (upd (upd (upd (upd (upd (fun _ => 0) 0 0) 1 0) 2 0) 3 0) 4 0))), (k, .inr (0, [.ref ks, .ref kw, .ref kc, .int (-6), .int 0, .int 0, .ref kq, .ref km, .ref kd, .int 0, .ref ka, .ref kk])), (ks, .inl (cI, 5, .inl (upd (fun _ => 0) 0 800))), (kw, .inl (cI, 14, .inl (fun _ => 0)))] := hD
    refine lv_iinc (v := 5) (lv' := [(2, .int 5), (0, .ref o), (1, .int 7)]) hx hb dX3_countSlots_14 hl (k := 0) rfl (by decide) (by decide) rfl (fun ls hl => ?_)
    refine lv_goto (tgt := 2) hx hb dX3_countSlots_17 (by decide) ?_
    refine lv_iload_n hx hb dX3_countSlots_2 rfl (lv_at hl 0 rfl) ?_
    refine lv_iconst (v := 4) hx hb dX3_countSlots_3 (by decide) ?_
    refine lv_icmp_gt (tgt := 20) hx hb dX3_countSlots_4 (by decide) (fun c174 => ?_) (fun c174 => absurd c174 (by decide))
    refine lv_aload_n hx hb dX3_countSlots_20 rfl (lv_at hl 1 rfl) ?_
    refine va_get (D := (dC, dI)) (ci := 3) (v := .ref k) (C := RX3) (T := TX3) (N := 6) hx hb hts hin3 hown hK hP 0 rfl rfl 0 (by decide) hw1 (fun _ h9 => h9) rfl dX3_countSlots_21 ?_
    refine va_get (D := (dC, dI)) (ci := 0) (v := .ref ks) (C := RX0) (T := TX0) (N := 12) hx hb hts hin0 hown hK hP 2 rfl rfl 0 (by decide) hw2 (fun _ h9 => h9) rfl dX3_countSlots_24 ?_
    refine lv_iconst (v := 4) hx hb dX3_countSlots_27 (by decide) ?_
    refine va_iald hx hb hK hP 3 0 rfl rfl (vin (by decide) (by decide)) dX3_countSlots_28 ?_
    refine lv_topi (fun x175 e175 => ?_)
    obtain rfl : x175 = 0 := e175.trans (by first | rfl | decide)
    refine lv_istore_n (lv' := [(2, .int 0), (0, .ref o), (1, .int 7)]) hx hb dX3_countSlots_29 rfl hl (by decide) rfl (fun ls hl => ?_)
    refine lv_iload_n hx hb dX3_countSlots_30 rfl (lv_at hl 0 rfl) ?_
    refine lv_iload_n hx hb dX3_countSlots_31 rfl (lv_at hl 2 rfl) ?_
    refine lv_icmp_gt (tgt := 59) hx hb dX3_countSlots_32 (by decide) (fun c176 => absurd c176 (by decide)) (fun c176 => ?_)
    refine lv_aload_n hx hb dX3_countSlots_35 rfl (lv_at hl 1 rfl) ?_
    refine va_get (D := (dC, dI)) (ci := 3) (v := .ref os) (C := RX3) (T := TX3) (N := 6) hx hb hts hin3 hown hK hP 0 rfl rfl 5 (by decide) hw0 (fun _ h9 => h9) rfl dX3_countSlots_36 ?_
    refine lv_aload_n hx hb dX3_countSlots_39 rfl (lv_at hl 1 rfl) ?_
    refine va_get (D := (dC, dI)) (ci := 3) (v := .ref k) (C := RX3) (T := TX3) (N := 6) hx hb hts hin3 hown hK hP 0 rfl rfl 0 (by decide) hw1 (fun _ h9 => h9) rfl dX3_countSlots_40 ?_
    refine lv_iload_n hx hb dX3_countSlots_43 rfl (lv_at hl 0 rfl) ?_
    refine lv_iconst (v := 0) hx hb dX3_countSlots_44 (by decide) ?_
    refine mx_i (wr := [(o, .inr (3, [.ref k, .ref op, .int 0, .ref oq, .ref ov, .ref os])), (os, .inl (cI, 5, .inl (upd (upd (upd (upd (upd (fun _ => 0) 0 0) 1 0) 2 0) 3 0) 4 0)))]) (va_runV (As := [.int 0, .int 0]) (rest := [.ref os]) ⟨hx, hb, hml, hown, hts⟩ (c_X0_windOn l dC dI cI cZ cK tS aK aV k ks kw kc kq km kd ka kk 0 H.size (by have z8 : (0 : Int32).toInt = 0 := rfl; first | omega | decide | assumption | trivial)) (cwV 2 hts (gw_v (fun _ h9 => List.mem_cons_of_mem _ h9) wm_169 wm_170 wm_171 wm_10 wm_172) rfl rfl rfl (by decide +kernel) ⟨Nat.le_of_ble_eq_true rfl, Nat.le_of_ble_eq_true rfl⟩) (mx_preV (C := RX0) (T := TX0) (N := 12) (ci := 0) hKx hP hD hS hA [2, 3, 4] (by decide) rfl rfl rfl) rfl rfl hl.1 rfl (lv_room (Nat.le_of_ble_eq_true rfl)) dX3_countSlots_45 ⟨Nat.le_of_ble_eq_true rfl, Nat.le_of_ble_eq_true rfl⟩) hP hD hS hA [2, 3, 4] [0, 1] rfl rfl (by decide) (by decide) (fun r177 u177 H locs hq177 hP hD hS => ?_)
    replace hP : va_P (dC, dI) vwCl [(o, .inr (3, [.ref k, .ref op, .int 0, .ref oq, .ref ov, .ref os])), (os, .inl (cI, 5, .inl (upd (upd (upd (upd (upd (fun _ => 0) 0 0) 1 0) 2 0) 3 0) 4 0))), (k, .inr (0, [.ref ks, .ref kw, .ref kc, .int (-6), .int 0, .int 0, .ref kq, .ref km, .ref kd, .int 0, .ref ka, .ref kk])), (ks, .inl (cI, 5, .inl (upd (fun _ => 0) 0 800))), (kw, .inl (cI, 14, .inl (fun _ => 0)))] H := hP
    replace hD : va_D A [(o, .inr (3, [.ref k, .ref op, .int 0, .ref oq, .ref ov, .ref os])), (os, .inl (cI, 5, .inl (upd (upd (upd (upd (upd (fun _ => 0) 0 0) 1 0) 2 0) 3 0) 4 0))), (k, .inr (0, [.ref ks, .ref kw, .ref kc, .int (-6), .int 0, .int 0, .ref kq, .ref km, .ref kd, .int 0, .ref ka, .ref kk])), (ks, .inl (cI, 5, .inl (upd (fun _ => 0) 0 800))), (kw, .inl (cI, 14, .inl (fun _ => 0)))] := hD
    obtain rfl : r177 = 0 := hq177
    refine lv_dup2_11 hx hb dX3_countSlots_48 rfl rfl ?_
    refine va_iald hx hb hK hP 1 0 rfl rfl (vin (by decide) (by decide)) dX3_countSlots_49 ?_
    refine lv_topi (fun x178 e178 => ?_)
    obtain rfl : x178 = 0 := e178.trans (by first | rfl | decide)
    refine lv_iconst (v := 2) hx hb dX3_countSlots_50 (by decide) ?_
    refine lv_iadd hx hb dX3_countSlots_51 ?_
    refine lv_topi (fun x179 e179 => ?_)
    obtain rfl : x179 = 2 := e179.trans (by decide)
    refine va_iast hx hb hK hP hD hS 1 0 rfl rfl (vin (by decide) (by decide)) dX3_countSlots_52 (fun H locs hP hD hS => ?_)
    replace hP : va_P (dC, dI) vwCl [(o, .inr (3, [.ref k, .ref op, .int 0, .ref oq, .ref ov, .ref os])), (os, .inl (cI, 5, .inl (upd (upd (upd (upd (upd (upd (fun _ => 0) 0 0) 1 0) 2 0) 3 0) 4 0) 0 2))), (k, .inr (0, [.ref ks, .ref kw, .ref kc, .int (-6), .int 0, .int 0, .ref kq, .ref km, .ref kd, .int 0, .ref ka, .ref kk])), (ks, .inl (cI, 5, .inl (upd (fun _ => 0) 0 800))), (kw, .inl (cI, 14, .inl (fun _ => 0)))] H := hP
    replace hD : va_D A [(o, .inr (3, [.ref k, .ref op, .int 0, .ref oq, .ref ov, .ref os])), (os, .inl (cI, 5, .inl (upd (upd (upd (upd (upd (upd (fun _ => 0) 0 0) 1 0) 2 0) 3 0) 4 0) 0 2))), (k, .inr (0, [.ref ks, .ref kw, .ref kc, .int (-6), .int 0, .int 0, .ref kq, .ref km, .ref kd, .int 0, .ref ka, .ref kk])), (ks, .inl (cI, 5, .inl (upd (fun _ => 0) 0 800))), (kw, .inl (cI, 14, .inl (fun _ => 0)))] := hD
    refine lv_iinc (v := 1) (lv' := [(2, .int 1), (0, .ref o), (1, .int 7)]) hx hb dX3_countSlots_53 hl (k := 0) rfl (by decide) (by decide) rfl (fun ls hl => ?_)
    refine lv_goto (tgt := 30) hx hb dX3_countSlots_56 (by decide) ?_
    refine lv_iload_n hx hb dX3_countSlots_30 rfl (lv_at hl 0 rfl) ?_
    refine lv_iload_n hx hb dX3_countSlots_31 rfl (lv_at hl 2 rfl) ?_
    refine lv_icmp_gt (tgt := 59) hx hb dX3_countSlots_32 (by decide) (fun c180 => absurd c180 (by decide)) (fun c180 => ?_)
    refine lv_aload_n hx hb dX3_countSlots_35 rfl (lv_at hl 1 rfl) ?_
    refine va_get (D := (dC, dI)) (ci := 3) (v := .ref os) (C := RX3) (T := TX3) (N := 6) hx hb hts hin3 hown hK hP 0 rfl rfl 5 (by decide) hw0 (fun _ h9 => h9) rfl dX3_countSlots_36 ?_
    refine lv_aload_n hx hb dX3_countSlots_39 rfl (lv_at hl 1 rfl) ?_
    refine va_get (D := (dC, dI)) (ci := 3) (v := .ref k) (C := RX3) (T := TX3) (N := 6) hx hb hts hin3 hown hK hP 0 rfl rfl 0 (by decide) hw1 (fun _ h9 => h9) rfl dX3_countSlots_40 ?_
    refine lv_iload_n hx hb dX3_countSlots_43 rfl (lv_at hl 0 rfl) ?_
    refine lv_iconst (v := 0) hx hb dX3_countSlots_44 (by decide) ?_
    refine mx_i (wr := [(o, .inr (3, [.ref k, .ref op, .int 0, .ref oq, .ref ov, .ref os])), (os, .inl (cI, 5, .inl (upd (upd (upd (upd (upd (upd (fun _ => 0) 0 0) 1 0) 2 0) 3 0) 4 0) 0 2)))]) (va_runV (As := [.int 1, .int 0]) (rest := [.ref os]) ⟨hx, hb, hml, hown, hts⟩ (c_X0_windOn l dC dI cI cZ cK tS aK aV k ks kw kc kq km kd ka kk 1 H.size (by have z8 : (1 : Int32).toInt = 1 := rfl; first | omega | decide | assumption | trivial)) (cwV 2 hts (gw_v (fun _ h9 => List.mem_cons_of_mem _ h9) wm_169 wm_170 wm_171 wm_10 wm_172) rfl rfl rfl (by decide +kernel) ⟨Nat.le_of_ble_eq_true rfl, Nat.le_of_ble_eq_true rfl⟩) (mx_preV (C := RX0) (T := TX0) (N := 12) (ci := 0) hKx hP hD hS hA [2, 3, 4] (by decide) rfl rfl rfl) rfl rfl hl.1 rfl (lv_room (Nat.le_of_ble_eq_true rfl)) dX3_countSlots_45 ⟨Nat.le_of_ble_eq_true rfl, Nat.le_of_ble_eq_true rfl⟩) hP hD hS hA [2, 3, 4] [0, 1] rfl rfl (by decide) (by decide) (fun r181 u181 H locs hq181 hP hD hS => ?_)
    replace hP : va_P (dC, dI) vwCl [(o, .inr (3, [.ref k, .ref op, .int 0, .ref oq, .ref ov, .ref os])), (os, .inl (cI, 5, .inl (upd (upd (upd (upd (upd (upd (fun _ => 0) 0 0) 1 0) 2 0) 3 0) 4 0) 0 2))), (k, .inr (0, [.ref ks, .ref kw, .ref kc, .int (-6), .int 0, .int 0, .ref kq, .ref km, .ref kd, .int 0, .ref ka, .ref kk])), (ks, .inl (cI, 5, .inl (upd (fun _ => 0) 0 800))), (kw, .inl (cI, 14, .inl (fun _ => 0)))] H := hP
    replace hD : va_D A [(o, .inr (3, [.ref k, .ref op, .int 0, .ref oq, .ref ov, .ref os])), (os, .inl (cI, 5, .inl (upd (upd (upd (upd (upd (upd (fun _ => 0) 0 0) 1 0) 2 0) 3 0) 4 0) 0 2))), (k, .inr (0, [.ref ks, .ref kw, .ref kc, .int (-6), .int 0, .int 0, .ref kq, .ref km, .ref kd, .int 0, .ref ka, .ref kk])), (ks, .inl (cI, 5, .inl (upd (fun _ => 0) 0 800))), (kw, .inl (cI, 14, .inl (fun _ => 0)))] := hD
    obtain rfl : r181 = 0 := hq181
    refine lv_dup2_11 hx hb dX3_countSlots_48 rfl rfl ?_
    refine va_iald hx hb hK hP 1 0 rfl rfl (vin (by decide) (by decide)) dX3_countSlots_49 ?_
    refine lv_topi (fun x182 e182 => ?_)
    obtain rfl : x182 = 2 := e182.trans (by first | rfl | decide)
    refine lv_iconst (v := 2) hx hb dX3_countSlots_50 (by decide) ?_
    refine lv_iadd hx hb dX3_countSlots_51 ?_
    refine lv_topi (fun x183 e183 => ?_)
    obtain rfl : x183 = 4 := e183.trans (by decide)
    refine va_iast hx hb hK hP hD hS 1 0 rfl rfl (vin (by decide) (by decide)) dX3_countSlots_52 (fun H locs hP hD hS => ?_)
    replace hP : va_P (dC, dI) vwCl [(o, .inr (3, [.ref k, .ref op, .int 0, .ref oq, .ref ov, .ref os])), (os, .inl (cI, 5, .inl (upd (upd (upd (upd (upd (upd (upd (fun _ => 0) 0 0) 1 0) 2 0) 3 0) 4 0) 0 2) 0 4))), (k, .inr (0, [.ref ks, .ref kw, .ref kc, .int (-6), .int 0, .int 0, .ref kq, .ref km, .ref kd, .int 0, .ref ka, .ref kk])), (ks, .inl (cI, 5, .inl (upd (fun _ => 0) 0 800))), (kw, .inl (cI, 14, .inl (fun _ => 0)))] H := hP
    replace hD : va_D A [(o, .inr (3, [.ref k, .ref op, .int 0, .ref oq, .ref ov, .ref os])), (os, .inl (cI, 5, .inl (upd (upd (upd (upd (upd (upd (upd (fun _ => 0) 0 0) 1 0) 2 0) 3 0) 4 0) 0 2) 0 4))), (k, .inr (0, [.ref ks, .ref kw, .ref kc, .int (-6), .int 0, .int 0, .ref kq, .ref km, .ref kd, .int 0, .ref ka, .ref kk])), (ks, .inl (cI, 5, .inl (upd (fun _ => 0) 0 800))), (kw, .inl (cI, 14, .inl (fun _ => 0)))] := hD
    refine lv_iinc (v := 2) (lv' := [(2, .int 2), (0, .ref o), (1, .int 7)]) hx hb dX3_countSlots_53 hl (k := 0) rfl (by decide) (by decide) rfl (fun ls hl => ?_)
    refine lv_goto (tgt := 30) hx hb dX3_countSlots_56 (by decide) ?_
    refine lv_iload_n hx hb dX3_countSlots_30 rfl (lv_at hl 0 rfl) ?_
    refine lv_iload_n hx hb dX3_countSlots_31 rfl (lv_at hl 2 rfl) ?_
    refine lv_icmp_gt (tgt := 59) hx hb dX3_countSlots_32 (by decide) (fun c184 => absurd c184 (by decide)) (fun c184 => ?_)
    refine lv_aload_n hx hb dX3_countSlots_35 rfl (lv_at hl 1 rfl) ?_
    refine va_get (D := (dC, dI)) (ci := 3) (v := .ref os) (C := RX3) (T := TX3) (N := 6) hx hb hts hin3 hown hK hP 0 rfl rfl 5 (by decide) hw0 (fun _ h9 => h9) rfl dX3_countSlots_36 ?_
    refine lv_aload_n hx hb dX3_countSlots_39 rfl (lv_at hl 1 rfl) ?_
    refine va_get (D := (dC, dI)) (ci := 3) (v := .ref k) (C := RX3) (T := TX3) (N := 6) hx hb hts hin3 hown hK hP 0 rfl rfl 0 (by decide) hw1 (fun _ h9 => h9) rfl dX3_countSlots_40 ?_
    refine lv_iload_n hx hb dX3_countSlots_43 rfl (lv_at hl 0 rfl) ?_
    refine lv_iconst (v := 0) hx hb dX3_countSlots_44 (by decide) ?_
    refine mx_i (wr := [(o, .inr (3, [.ref k, .ref op, .int 0, .ref oq, .ref ov, .ref os])), (os, .inl (cI, 5, .inl (upd (upd (upd (upd (upd (upd (upd (fun _ => 0) 0 0) 1 0) 2 0) 3 0) 4 0) 0 2) 0 4)))]) (va_runV (As := [.int 2, .int 0]) (rest := [.ref os]) ⟨hx, hb, hml, hown, hts⟩ (c_X0_windOn l dC dI cI cZ cK tS aK aV k ks kw kc kq km kd ka kk 2 H.size (by have z8 : (2 : Int32).toInt = 2 := rfl; first | omega | decide | assumption | trivial)) (cwV 2 hts (gw_v (fun _ h9 => List.mem_cons_of_mem _ h9) wm_169 wm_170 wm_171 wm_10 wm_172) rfl rfl rfl (by decide +kernel) ⟨Nat.le_of_ble_eq_true rfl, Nat.le_of_ble_eq_true rfl⟩) (mx_preV (C := RX0) (T := TX0) (N := 12) (ci := 0) hKx hP hD hS hA [2, 3, 4] (by decide) rfl rfl rfl) rfl rfl hl.1 rfl (lv_room (Nat.le_of_ble_eq_true rfl)) dX3_countSlots_45 ⟨Nat.le_of_ble_eq_true rfl, Nat.le_of_ble_eq_true rfl⟩) hP hD hS hA [2, 3, 4] [0, 1] rfl rfl (by decide) (by decide) (fun r185 u185 H locs hq185 hP hD hS => ?_)
    replace hP : va_P (dC, dI) vwCl [(o, .inr (3, [.ref k, .ref op, .int 0, .ref oq, .ref ov, .ref os])), (os, .inl (cI, 5, .inl (upd (upd (upd (upd (upd (upd (upd (fun _ => 0) 0 0) 1 0) 2 0) 3 0) 4 0) 0 2) 0 4))), (k, .inr (0, [.ref ks, .ref kw, .ref kc, .int (-6), .int 0, .int 0, .ref kq, .ref km, .ref kd, .int 0, .ref ka, .ref kk])), (ks, .inl (cI, 5, .inl (upd (fun _ => 0) 0 800))), (kw, .inl (cI, 14, .inl (fun _ => 0)))] H := hP
    replace hD : va_D A [(o, .inr (3, [.ref k, .ref op, .int 0, .ref oq, .ref ov, .ref os])), (os, .inl (cI, 5, .inl (upd (upd (upd (upd (upd (upd (upd (fun _ => 0) 0 0) 1 0) 2 0) 3 0) 4 0) 0 2) 0 4))), (k, .inr (0, [.ref ks, .ref kw, .ref kc, .int (-6), .int 0, .int 0, .ref kq, .ref km, .ref kd, .int 0, .ref ka, .ref kk])), (ks, .inl (cI, 5, .inl (upd (fun _ => 0) 0 800))), (kw, .inl (cI, 14, .inl (fun _ => 0)))] := hD
    obtain rfl : r185 = 0 := hq185
    refine lv_dup2_11 hx hb dX3_countSlots_48 rfl rfl ?_
    refine va_iald hx hb hK hP 1 0 rfl rfl (vin (by decide) (by decide)) dX3_countSlots_49 ?_
    refine lv_topi (fun x186 e186 => ?_)
    obtain rfl : x186 = 4 := e186.trans (by first | rfl | decide)
    refine lv_iconst (v := 2) hx hb dX3_countSlots_50 (by decide) ?_
    refine lv_iadd hx hb dX3_countSlots_51 ?_
    refine lv_topi (fun x187 e187 => ?_)
    obtain rfl : x187 = 6 := e187.trans (by decide)
    refine va_iast hx hb hK hP hD hS 1 0 rfl rfl (vin (by decide) (by decide)) dX3_countSlots_52 (fun H locs hP hD hS => ?_)
    replace hP : va_P (dC, dI) vwCl [(o, .inr (3, [.ref k, .ref op, .int 0, .ref oq, .ref ov, .ref os])), (os, .inl (cI, 5, .inl (upd (upd (upd (upd (upd (upd (upd (upd (fun _ => 0) 0 0) 1 0) 2 0) 3 0) 4 0) 0 2) 0 4) 0 6))), (k, .inr (0, [.ref ks, .ref kw, .ref kc, .int (-6), .int 0, .int 0, .ref kq, .ref km, .ref kd, .int 0, .ref ka, .ref kk])), (ks, .inl (cI, 5, .inl (upd (fun _ => 0) 0 800))), (kw, .inl (cI, 14, .inl (fun _ => 0)))] H := hP
    replace hD : va_D A [(o, .inr (3, [.ref k, .ref op, .int 0, .ref oq, .ref ov, .ref os])), (os, .inl (cI, 5, .inl (upd (upd (upd (upd (upd (upd (upd (upd (fun _ => 0) 0 0) 1 0) 2 0) 3 0) 4 0) 0 2) 0 4) 0 6))), (k, .inr (0, [.ref ks, .ref kw, .ref kc, .int (-6), .int 0, .int 0, .ref kq, .ref km, .ref kd, .int 0, .ref ka, .ref kk])), (ks, .inl (cI, 5, .inl (upd (fun _ => 0) 0 800))), (kw, .inl (cI, 14, .inl (fun _ => 0)))] := hD
    refine lv_iinc (v := 3) (lv' := [(2, .int 3), (0, .ref o), (1, .int 7)]) hx hb dX3_countSlots_53 hl (k := 0) rfl (by decide) (by decide) rfl (fun ls hl => ?_)
    refine lv_goto (tgt := 30) hx hb dX3_countSlots_56 (by decide) ?_
    refine lv_iload_n hx hb dX3_countSlots_30 rfl (lv_at hl 0 rfl) ?_
    refine lv_iload_n hx hb dX3_countSlots_31 rfl (lv_at hl 2 rfl) ?_
    refine lv_icmp_gt (tgt := 59) hx hb dX3_countSlots_32 (by decide) (fun c188 => absurd c188 (by decide)) (fun c188 => ?_)
    refine lv_aload_n hx hb dX3_countSlots_35 rfl (lv_at hl 1 rfl) ?_
    refine va_get (D := (dC, dI)) (ci := 3) (v := .ref os) (C := RX3) (T := TX3) (N := 6) hx hb hts hin3 hown hK hP 0 rfl rfl 5 (by decide) hw0 (fun _ h9 => h9) rfl dX3_countSlots_36 ?_
    refine lv_aload_n hx hb dX3_countSlots_39 rfl (lv_at hl 1 rfl) ?_
    refine va_get (D := (dC, dI)) (ci := 3) (v := .ref k) (C := RX3) (T := TX3) (N := 6) hx hb hts hin3 hown hK hP 0 rfl rfl 0 (by decide) hw1 (fun _ h9 => h9) rfl dX3_countSlots_40 ?_
    refine lv_iload_n hx hb dX3_countSlots_43 rfl (lv_at hl 0 rfl) ?_
    refine lv_iconst (v := 0) hx hb dX3_countSlots_44 (by decide) ?_
    refine mx_i (wr := [(o, .inr (3, [.ref k, .ref op, .int 0, .ref oq, .ref ov, .ref os])), (os, .inl (cI, 5, .inl (upd (upd (upd (upd (upd (upd (upd (upd (fun _ => 0) 0 0) 1 0) 2 0) 3 0) 4 0) 0 2) 0 4) 0 6)))]) (va_runV (As := [.int 3, .int 0]) (rest := [.ref os]) ⟨hx, hb, hml, hown, hts⟩ (c_X0_windOn l dC dI cI cZ cK tS aK aV k ks kw kc kq km kd ka kk 3 H.size (by have z8 : (3 : Int32).toInt = 3 := rfl; first | omega | decide | assumption | trivial)) (cwV 2 hts (gw_v (fun _ h9 => List.mem_cons_of_mem _ h9) wm_169 wm_170 wm_171 wm_10 wm_172) rfl rfl rfl (by decide +kernel) ⟨Nat.le_of_ble_eq_true rfl, Nat.le_of_ble_eq_true rfl⟩) (mx_preV (C := RX0) (T := TX0) (N := 12) (ci := 0) hKx hP hD hS hA [2, 3, 4] (by decide) rfl rfl rfl) rfl rfl hl.1 rfl (lv_room (Nat.le_of_ble_eq_true rfl)) dX3_countSlots_45 ⟨Nat.le_of_ble_eq_true rfl, Nat.le_of_ble_eq_true rfl⟩) hP hD hS hA [2, 3, 4] [0, 1] rfl rfl (by decide) (by decide) (fun r189 u189 H locs hq189 hP hD hS => ?_)
    replace hP : va_P (dC, dI) vwCl [(o, .inr (3, [.ref k, .ref op, .int 0, .ref oq, .ref ov, .ref os])), (os, .inl (cI, 5, .inl (upd (upd (upd (upd (upd (upd (upd (upd (fun _ => 0) 0 0) 1 0) 2 0) 3 0) 4 0) 0 2) 0 4) 0 6))), (k, .inr (0, [.ref ks, .ref kw, .ref kc, .int (-6), .int 0, .int 0, .ref kq, .ref km, .ref kd, .int 0, .ref ka, .ref kk])), (ks, .inl (cI, 5, .inl (upd (fun _ => 0) 0 800))), (kw, .inl (cI, 14, .inl (fun _ => 0)))] H := hP
    replace hD : va_D A [(o, .inr (3, [.ref k, .ref op, .int 0, .ref oq, .ref ov, .ref os])), (os, .inl (cI, 5, .inl (upd (upd (upd (upd (upd (upd (upd (upd (fun _ => 0) 0 0) 1 0) 2 0) 3 0) 4 0) 0 2) 0 4) 0 6))), (k, .inr (0, [.ref ks, .ref kw, .ref kc, .int (-6), .int 0, .int 0, .ref kq, .ref km, .ref kd, .int 0, .ref ka, .ref kk])), (ks, .inl (cI, 5, .inl (upd (fun _ => 0) 0 800))), (kw, .inl (cI, 14, .inl (fun _ => 0)))] := hD
    obtain rfl : r189 = 0 := hq189
    refine lv_dup2_11 hx hb dX3_countSlots_48 rfl rfl ?_
    refine va_iald hx hb hK hP 1 0 rfl rfl (vin (by decide) (by decide)) dX3_countSlots_49 ?_
    refine lv_topi (fun x190 e190 => ?_)
    obtain rfl : x190 = 6 := e190.trans (by first | rfl | decide)
    refine lv_iconst (v := 2) hx hb dX3_countSlots_50 (by decide) ?_
    refine lv_iadd hx hb dX3_countSlots_51 ?_
    refine lv_topi (fun x191 e191 => ?_)
    obtain rfl : x191 = 8 := e191.trans (by decide)
    refine va_iast hx hb hK hP hD hS 1 0 rfl rfl (vin (by decide) (by decide)) dX3_countSlots_52 (fun H locs hP hD hS => ?_)
    replace hP : va_P (dC, dI) vwCl [(o, .inr (3, [.ref k, .ref op, .int 0, .ref oq, .ref ov, .ref os])), (os, .inl (cI, 5, .inl (upd (upd (upd (upd (upd (upd (upd (upd (upd (fun _ => 0) 0 0) 1 0) 2 0) 3 0) 4 0) 0 2) 0 4) 0 6) 0 8))), (k, .inr (0, [.ref ks, .ref kw, .ref kc, .int (-6), .int 0, .int 0, .ref kq, .ref km, .ref kd, .int 0, .ref ka, .ref kk])), (ks, .inl (cI, 5, .inl (upd (fun _ => 0) 0 800))), (kw, .inl (cI, 14, .inl (fun _ => 0)))] H := hP
    replace hD : va_D A [(o, .inr (3, [.ref k, .ref op, .int 0, .ref oq, .ref ov, .ref os])), (os, .inl (cI, 5, .inl (upd (upd (upd (upd (upd (upd (upd (upd (upd (fun _ => 0) 0 0) 1 0) 2 0) 3 0) 4 0) 0 2) 0 4) 0 6) 0 8))), (k, .inr (0, [.ref ks, .ref kw, .ref kc, .int (-6), .int 0, .int 0, .ref kq, .ref km, .ref kd, .int 0, .ref ka, .ref kk])), (ks, .inl (cI, 5, .inl (upd (fun _ => 0) 0 800))), (kw, .inl (cI, 14, .inl (fun _ => 0)))] := hD
    refine lv_iinc (v := 4) (lv' := [(2, .int 4), (0, .ref o), (1, .int 7)]) hx hb dX3_countSlots_53 hl (k := 0) rfl (by decide) (by decide) rfl (fun ls hl => ?_)
    refine lv_goto (tgt := 30) hx hb dX3_countSlots_56 (by decide) ?_
    refine lv_iload_n hx hb dX3_countSlots_30 rfl (lv_at hl 0 rfl) ?_
    refine lv_iload_n hx hb dX3_countSlots_31 rfl (lv_at hl 2 rfl) ?_
    refine lv_icmp_gt (tgt := 59) hx hb dX3_countSlots_32 (by decide) (fun c192 => absurd c192 (by decide)) (fun c192 => ?_)
    refine lv_aload_n hx hb dX3_countSlots_35 rfl (lv_at hl 1 rfl) ?_
    refine va_get (D := (dC, dI)) (ci := 3) (v := .ref os) (C := RX3) (T := TX3) (N := 6) hx hb hts hin3 hown hK hP 0 rfl rfl 5 (by decide) hw0 (fun _ h9 => h9) rfl dX3_countSlots_36 ?_
    refine lv_aload_n hx hb dX3_countSlots_39 rfl (lv_at hl 1 rfl) ?_
    refine va_get (D := (dC, dI)) (ci := 3) (v := .ref k) (C := RX3) (T := TX3) (N := 6) hx hb hts hin3 hown hK hP 0 rfl rfl 0 (by decide) hw1 (fun _ h9 => h9) rfl dX3_countSlots_40 ?_
    refine lv_iload_n hx hb dX3_countSlots_43 rfl (lv_at hl 0 rfl) ?_
    refine lv_iconst (v := 0) hx hb dX3_countSlots_44 (by decide) ?_
    refine mx_i (wr := [(o, .inr (3, [.ref k, .ref op, .int 0, .ref oq, .ref ov, .ref os])), (os, .inl (cI, 5, .inl (upd (upd (upd (upd (upd (upd (upd (upd (upd (fun _ => 0) 0 0) 1 0) 2 0) 3 0) 4 0) 0 2) 0 4) 0 6) 0 8)))]) (va_runV (As := [.int 4, .int 0]) (rest := [.ref os]) ⟨hx, hb, hml, hown, hts⟩ (c_X0_windOn l dC dI cI cZ cK tS aK aV k ks kw kc kq km kd ka kk 4 H.size (by have z8 : (4 : Int32).toInt = 4 := rfl; first | omega | decide | assumption | trivial)) (cwV 2 hts (gw_v (fun _ h9 => List.mem_cons_of_mem _ h9) wm_169 wm_170 wm_171 wm_10 wm_172) rfl rfl rfl (by decide +kernel) ⟨Nat.le_of_ble_eq_true rfl, Nat.le_of_ble_eq_true rfl⟩) (mx_preV (C := RX0) (T := TX0) (N := 12) (ci := 0) hKx hP hD hS hA [2, 3, 4] (by decide) rfl rfl rfl) rfl rfl hl.1 rfl (lv_room (Nat.le_of_ble_eq_true rfl)) dX3_countSlots_45 ⟨Nat.le_of_ble_eq_true rfl, Nat.le_of_ble_eq_true rfl⟩) hP hD hS hA [2, 3, 4] [0, 1] rfl rfl (by decide) (by decide) (fun r193 u193 H locs hq193 hP hD hS => ?_)
    replace hP : va_P (dC, dI) vwCl [(o, .inr (3, [.ref k, .ref op, .int 0, .ref oq, .ref ov, .ref os])), (os, .inl (cI, 5, .inl (upd (upd (upd (upd (upd (upd (upd (upd (upd (fun _ => 0) 0 0) 1 0) 2 0) 3 0) 4 0) 0 2) 0 4) 0 6) 0 8))), (k, .inr (0, [.ref ks, .ref kw, .ref kc, .int (-6), .int 0, .int 0, .ref kq, .ref km, .ref kd, .int 0, .ref ka, .ref kk])), (ks, .inl (cI, 5, .inl (upd (fun _ => 0) 0 800))), (kw, .inl (cI, 14, .inl (fun _ => 0)))] H := hP
    replace hD : va_D A [(o, .inr (3, [.ref k, .ref op, .int 0, .ref oq, .ref ov, .ref os])), (os, .inl (cI, 5, .inl (upd (upd (upd (upd (upd (upd (upd (upd (upd (fun _ => 0) 0 0) 1 0) 2 0) 3 0) 4 0) 0 2) 0 4) 0 6) 0 8))), (k, .inr (0, [.ref ks, .ref kw, .ref kc, .int (-6), .int 0, .int 0, .ref kq, .ref km, .ref kd, .int 0, .ref ka, .ref kk])), (ks, .inl (cI, 5, .inl (upd (fun _ => 0) 0 800))), (kw, .inl (cI, 14, .inl (fun _ => 0)))] := hD
    obtain rfl : r193 = 0 := hq193
    refine lv_dup2_11 hx hb dX3_countSlots_48 rfl rfl ?_
    refine va_iald hx hb hK hP 1 0 rfl rfl (vin (by decide) (by decide)) dX3_countSlots_49 ?_
    refine lv_topi (fun x194 e194 => ?_)
    obtain rfl : x194 = 8 := e194.trans (by first | rfl | decide)
    refine lv_iconst (v := 2) hx hb dX3_countSlots_50 (by decide) ?_
    refine lv_iadd hx hb dX3_countSlots_51 ?_
    refine lv_topi (fun x195 e195 => ?_)
    obtain rfl : x195 = 10 := e195.trans (by decide)
    refine va_iast hx hb hK hP hD hS 1 0 rfl rfl (vin (by decide) (by decide)) dX3_countSlots_52 (fun H locs hP hD hS => ?_)
    replace hP : va_P (dC, dI) vwCl [(o, .inr (3, [.ref k, .ref op, .int 0, .ref oq, .ref ov, .ref os])), (os, .inl (cI, 5, .inl (upd (upd (upd (upd (upd (upd (upd (upd (upd (upd (fun _ => 0) 0 0) 1 0) 2 0) 3 0) 4 0) 0 2) 0 4) 0 6) 0 8) 0 10))), (k, .inr (0, [.ref ks, .ref kw, .ref kc, .int (-6), .int 0, .int 0, .ref kq, .ref km, .ref kd, .int 0, .ref ka, .ref kk])), (ks, .inl (cI, 5, .inl (upd (fun _ => 0) 0 800))), (kw, .inl (cI, 14, .inl (fun _ => 0)))] H := hP
    replace hD : va_D A [(o, .inr (3, [.ref k, .ref op, .int 0, .ref oq, .ref ov, .ref os])), (os, .inl (cI, 5, .inl (upd (upd (upd (upd (upd (upd (upd (upd (upd (upd (fun _ => 0) 0 0) 1 0) 2 0) 3 0) 4 0) 0 2) 0 4) 0 6) 0 8) 0 10))), (k, .inr (0, [.ref ks, .ref kw, .ref kc, .int (-6), .int 0, .int 0, .ref kq, .ref km, .ref kd, .int 0, .ref ka, .ref kk])), (ks, .inl (cI, 5, .inl (upd (fun _ => 0) 0 800))), (kw, .inl (cI, 14, .inl (fun _ => 0)))] := hD
    refine lv_iinc (v := 5) (lv' := [(2, .int 5), (0, .ref o), (1, .int 7)]) hx hb dX3_countSlots_53 hl (k := 0) rfl (by decide) (by decide) rfl (fun ls hl => ?_)
    refine lv_goto (tgt := 30) hx hb dX3_countSlots_56 (by decide) ?_
    refine lv_iload_n hx hb dX3_countSlots_30 rfl (lv_at hl 0 rfl) ?_
    refine lv_iload_n hx hb dX3_countSlots_31 rfl (lv_at hl 2 rfl) ?_
    refine lv_icmp_gt (tgt := 59) hx hb dX3_countSlots_32 (by decide) (fun c196 => absurd c196 (by decide)) (fun c196 => ?_)
    refine lv_aload_n hx hb dX3_countSlots_35 rfl (lv_at hl 1 rfl) ?_
    refine va_get (D := (dC, dI)) (ci := 3) (v := .ref os) (C := RX3) (T := TX3) (N := 6) hx hb hts hin3 hown hK hP 0 rfl rfl 5 (by decide) hw0 (fun _ h9 => h9) rfl dX3_countSlots_36 ?_
    refine lv_aload_n hx hb dX3_countSlots_39 rfl (lv_at hl 1 rfl) ?_
    refine va_get (D := (dC, dI)) (ci := 3) (v := .ref k) (C := RX3) (T := TX3) (N := 6) hx hb hts hin3 hown hK hP 0 rfl rfl 0 (by decide) hw1 (fun _ h9 => h9) rfl dX3_countSlots_40 ?_
    refine lv_iload_n hx hb dX3_countSlots_43 rfl (lv_at hl 0 rfl) ?_
    refine lv_iconst (v := 0) hx hb dX3_countSlots_44 (by decide) ?_
    refine mx_i (wr := [(o, .inr (3, [.ref k, .ref op, .int 0, .ref oq, .ref ov, .ref os])), (os, .inl (cI, 5, .inl (upd (upd (upd (upd (upd (upd (upd (upd (upd (upd (fun _ => 0) 0 0) 1 0) 2 0) 3 0) 4 0) 0 2) 0 4) 0 6) 0 8) 0 10)))]) (va_runV (As := [.int 5, .int 0]) (rest := [.ref os]) ⟨hx, hb, hml, hown, hts⟩ (c_X0_windOn l dC dI cI cZ cK tS aK aV k ks kw kc kq km kd ka kk 5 H.size (by have z8 : (5 : Int32).toInt = 5 := rfl; first | omega | decide | assumption | trivial)) (cwV 2 hts (gw_v (fun _ h9 => List.mem_cons_of_mem _ h9) wm_169 wm_170 wm_171 wm_10 wm_172) rfl rfl rfl (by decide +kernel) ⟨Nat.le_of_ble_eq_true rfl, Nat.le_of_ble_eq_true rfl⟩) (mx_preV (C := RX0) (T := TX0) (N := 12) (ci := 0) hKx hP hD hS hA [2, 3, 4] (by decide) rfl rfl rfl) rfl rfl hl.1 rfl (lv_room (Nat.le_of_ble_eq_true rfl)) dX3_countSlots_45 ⟨Nat.le_of_ble_eq_true rfl, Nat.le_of_ble_eq_true rfl⟩) hP hD hS hA [2, 3, 4] [0, 1] rfl rfl (by decide) (by decide) (fun r197 u197 H locs hq197 hP hD hS => ?_)
    replace hP : va_P (dC, dI) vwCl [(o, .inr (3, [.ref k, .ref op, .int 0, .ref oq, .ref ov, .ref os])), (os, .inl (cI, 5, .inl (upd (upd (upd (upd (upd (upd (upd (upd (upd (upd (fun _ => 0) 0 0) 1 0) 2 0) 3 0) 4 0) 0 2) 0 4) 0 6) 0 8) 0 10))), (k, .inr (0, [.ref ks, .ref kw, .ref kc, .int (-6), .int 0, .int 0, .ref kq, .ref km, .ref kd, .int 0, .ref ka, .ref kk])), (ks, .inl (cI, 5, .inl (upd (fun _ => 0) 0 800))), (kw, .inl (cI, 14, .inl (fun _ => 0)))] H := hP
    replace hD : va_D A [(o, .inr (3, [.ref k, .ref op, .int 0, .ref oq, .ref ov, .ref os])), (os, .inl (cI, 5, .inl (upd (upd (upd (upd (upd (upd (upd (upd (upd (upd (fun _ => 0) 0 0) 1 0) 2 0) 3 0) 4 0) 0 2) 0 4) 0 6) 0 8) 0 10))), (k, .inr (0, [.ref ks, .ref kw, .ref kc, .int (-6), .int 0, .int 0, .ref kq, .ref km, .ref kd, .int 0, .ref ka, .ref kk])), (ks, .inl (cI, 5, .inl (upd (fun _ => 0) 0 800))), (kw, .inl (cI, 14, .inl (fun _ => 0)))] := hD
    obtain rfl : r197 = 0 := hq197
    refine lv_dup2_11 hx hb dX3_countSlots_48 rfl rfl ?_
    refine va_iald hx hb hK hP 1 0 rfl rfl (vin (by decide) (by decide)) dX3_countSlots_49 ?_
    refine lv_topi (fun x198 e198 => ?_)
    obtain rfl : x198 = 10 := e198.trans (by first | rfl | decide)
    refine lv_iconst (v := 2) hx hb dX3_countSlots_50 (by decide) ?_
    refine lv_iadd hx hb dX3_countSlots_51 ?_
    refine lv_topi (fun x199 e199 => ?_)
    obtain rfl : x199 = 12 := e199.trans (by decide)
    refine va_iast hx hb hK hP hD hS 1 0 rfl rfl (vin (by decide) (by decide)) dX3_countSlots_52 (fun H locs hP hD hS => ?_)
    replace hP : va_P (dC, dI) vwCl [(o, .inr (3, [.ref k, .ref op, .int 0, .ref oq, .ref ov, .ref os])), (os, .inl (cI, 5, .inl (upd (upd (upd (upd (upd (upd (upd (upd (upd (upd (upd (fun _ => 0) 0 0) 1 0) 2 0) 3 0) 4 0) 0 2) 0 4) 0 6) 0 8) 0 10) 0 12))), (k, .inr (0, [.ref ks, .ref kw, .ref kc, .int (-6), .int 0, .int 0, .ref kq, .ref km, .ref kd, .int 0, .ref ka, .ref kk])), (ks, .inl (cI, 5, .inl (upd (fun _ => 0) 0 800))), (kw, .inl (cI, 14, .inl (fun _ => 0)))] H := hP
    replace hD : va_D A [(o, .inr (3, [.ref k, .ref op, .int 0, .ref oq, .ref ov, .ref os])), (os, .inl (cI, 5, .inl (upd (upd (upd (upd (upd (upd (upd (upd (upd (upd (upd (fun _ => 0) 0 0) 1 0) 2 0) 3 0) 4 0) 0 2) 0 4) 0 6) 0 8) 0 10) 0 12))), (k, .inr (0, [.ref ks, .ref kw, .ref kc, .int (-6), .int 0, .int 0, .ref kq, .ref km, .ref kd, .int 0, .ref ka, .ref kk])), (ks, .inl (cI, 5, .inl (upd (fun _ => 0) 0 800))), (kw, .inl (cI, 14, .inl (fun _ => 0)))] := hD
    refine lv_iinc (v := 6) (lv' := [(2, .int 6), (0, .ref o), (1, .int 7)]) hx hb dX3_countSlots_53 hl (k := 0) rfl (by decide) (by decide) rfl (fun ls hl => ?_)
    refine lv_goto (tgt := 30) hx hb dX3_countSlots_56 (by decide) ?_
    refine lv_iload_n hx hb dX3_countSlots_30 rfl (lv_at hl 0 rfl) ?_
    refine lv_iload_n hx hb dX3_countSlots_31 rfl (lv_at hl 2 rfl) ?_
    refine lv_icmp_gt (tgt := 59) hx hb dX3_countSlots_32 (by decide) (fun c200 => absurd c200 (by decide)) (fun c200 => ?_)
    refine lv_aload_n hx hb dX3_countSlots_35 rfl (lv_at hl 1 rfl) ?_
    refine va_get (D := (dC, dI)) (ci := 3) (v := .ref os) (C := RX3) (T := TX3) (N := 6) hx hb hts hin3 hown hK hP 0 rfl rfl 5 (by decide) hw0 (fun _ h9 => h9) rfl dX3_countSlots_36 ?_
    refine lv_aload_n hx hb dX3_countSlots_39 rfl (lv_at hl 1 rfl) ?_
    refine va_get (D := (dC, dI)) (ci := 3) (v := .ref k) (C := RX3) (T := TX3) (N := 6) hx hb hts hin3 hown hK hP 0 rfl rfl 0 (by decide) hw1 (fun _ h9 => h9) rfl dX3_countSlots_40 ?_
    refine lv_iload_n hx hb dX3_countSlots_43 rfl (lv_at hl 0 rfl) ?_
    refine lv_iconst (v := 0) hx hb dX3_countSlots_44 (by decide) ?_
    refine mx_i (wr := [(o, .inr (3, [.ref k, .ref op, .int 0, .ref oq, .ref ov, .ref os])), (os, .inl (cI, 5, .inl (upd (upd (upd (upd (upd (upd (upd (upd (upd (upd (upd (fun _ => 0) 0 0) 1 0) 2 0) 3 0) 4 0) 0 2) 0 4) 0 6) 0 8) 0 10) 0 12)))]) (va_runV (As := [.int 6, .int 0]) (rest := [.ref os]) ⟨hx, hb, hml, hown, hts⟩ (c_X0_windOn l dC dI cI cZ cK tS aK aV k ks kw kc kq km kd ka kk 6 H.size (by have z8 : (6 : Int32).toInt = 6 := rfl; first | omega | decide | assumption | trivial)) (cwV 2 hts (gw_v (fun _ h9 => List.mem_cons_of_mem _ h9) wm_169 wm_170 wm_171 wm_10 wm_172) rfl rfl rfl (by decide +kernel) ⟨Nat.le_of_ble_eq_true rfl, Nat.le_of_ble_eq_true rfl⟩) (mx_preV (C := RX0) (T := TX0) (N := 12) (ci := 0) hKx hP hD hS hA [2, 3, 4] (by decide) rfl rfl rfl) rfl rfl hl.1 rfl (lv_room (Nat.le_of_ble_eq_true rfl)) dX3_countSlots_45 ⟨Nat.le_of_ble_eq_true rfl, Nat.le_of_ble_eq_true rfl⟩) hP hD hS hA [2, 3, 4] [0, 1] rfl rfl (by decide) (by decide) (fun r201 u201 H locs hq201 hP hD hS => ?_)
    replace hP : va_P (dC, dI) vwCl [(o, .inr (3, [.ref k, .ref op, .int 0, .ref oq, .ref ov, .ref os])), (os, .inl (cI, 5, .inl (upd (upd (upd (upd (upd (upd (upd (upd (upd (upd (upd (fun _ => 0) 0 0) 1 0) 2 0) 3 0) 4 0) 0 2) 0 4) 0 6) 0 8) 0 10) 0 12))), (k, .inr (0, [.ref ks, .ref kw, .ref kc, .int (-6), .int 0, .int 0, .ref kq, .ref km, .ref kd, .int 0, .ref ka, .ref kk])), (ks, .inl (cI, 5, .inl (upd (fun _ => 0) 0 800))), (kw, .inl (cI, 14, .inl (fun _ => 0)))] H := hP
    replace hD : va_D A [(o, .inr (3, [.ref k, .ref op, .int 0, .ref oq, .ref ov, .ref os])), (os, .inl (cI, 5, .inl (upd (upd (upd (upd (upd (upd (upd (upd (upd (upd (upd (fun _ => 0) 0 0) 1 0) 2 0) 3 0) 4 0) 0 2) 0 4) 0 6) 0 8) 0 10) 0 12))), (k, .inr (0, [.ref ks, .ref kw, .ref kc, .int (-6), .int 0, .int 0, .ref kq, .ref km, .ref kd, .int 0, .ref ka, .ref kk])), (ks, .inl (cI, 5, .inl (upd (fun _ => 0) 0 800))), (kw, .inl (cI, 14, .inl (fun _ => 0)))] := hD
    obtain rfl : r201 = 0 := hq201
    refine lv_dup2_11 hx hb dX3_countSlots_48 rfl rfl ?_
    refine va_iald hx hb hK hP 1 0 rfl rfl (vin (by decide) (by decide)) dX3_countSlots_49 ?_
    refine lv_topi (fun x202 e202 => ?_)
    obtain rfl : x202 = 12 := e202.trans (by first | rfl | decide)
    refine lv_iconst (v := 2) hx hb dX3_countSlots_50 (by decide) ?_
    refine lv_iadd hx hb dX3_countSlots_51 ?_
    refine lv_topi (fun x203 e203 => ?_)
    obtain rfl : x203 = 14 := e203.trans (by decide)
    refine va_iast hx hb hK hP hD hS 1 0 rfl rfl (vin (by decide) (by decide)) dX3_countSlots_52 (fun H locs hP hD hS => ?_)
    replace hP : va_P (dC, dI) vwCl [(o, .inr (3, [.ref k, .ref op, .int 0, .ref oq, .ref ov, .ref os])), (os, .inl (cI, 5, .inl (upd (upd (upd (upd (upd (upd (upd (upd (upd (upd (upd (upd (fun _ => 0) 0 0) 1 0) 2 0) 3 0) 4 0) 0 2) 0 4) 0 6) 0 8) 0 10) 0 12) 0 14))), (k, .inr (0, [.ref ks, .ref kw, .ref kc, .int (-6), .int 0, .int 0, .ref kq, .ref km, .ref kd, .int 0, .ref ka, .ref kk])), (ks, .inl (cI, 5, .inl (upd (fun _ => 0) 0 800))), (kw, .inl (cI, 14, .inl (fun _ => 0)))] H := hP
    replace hD : va_D A [(o, .inr (3, [.ref k, .ref op, .int 0, .ref oq, .ref ov, .ref os])), (os, .inl (cI, 5, .inl (upd (upd (upd (upd (upd (upd (upd (upd (upd (upd (upd (upd (fun _ => 0) 0 0) 1 0) 2 0) 3 0) 4 0) 0 2) 0 4) 0 6) 0 8) 0 10) 0 12) 0 14))), (k, .inr (0, [.ref ks, .ref kw, .ref kc, .int (-6), .int 0, .int 0, .ref kq, .ref km, .ref kd, .int 0, .ref ka, .ref kk])), (ks, .inl (cI, 5, .inl (upd (fun _ => 0) 0 800))), (kw, .inl (cI, 14, .inl (fun _ => 0)))] := hD
    refine lv_iinc (v := 7) (lv' := [(2, .int 7), (0, .ref o), (1, .int 7)]) hx hb dX3_countSlots_53 hl (k := 0) rfl (by decide) (by decide) rfl (fun ls hl => ?_)
    refine lv_goto (tgt := 30) hx hb dX3_countSlots_56 (by decide) ?_
    refine lv_iload_n hx hb dX3_countSlots_30 rfl (lv_at hl 0 rfl) ?_
    refine lv_iload_n hx hb dX3_countSlots_31 rfl (lv_at hl 2 rfl) ?_
    refine lv_icmp_gt (tgt := 59) hx hb dX3_countSlots_32 (by decide) (fun c204 => absurd c204 (by decide)) (fun c204 => ?_)
    refine lv_aload_n hx hb dX3_countSlots_35 rfl (lv_at hl 1 rfl) ?_
    refine va_get (D := (dC, dI)) (ci := 3) (v := .ref os) (C := RX3) (T := TX3) (N := 6) hx hb hts hin3 hown hK hP 0 rfl rfl 5 (by decide) hw0 (fun _ h9 => h9) rfl dX3_countSlots_36 ?_
    refine lv_aload_n hx hb dX3_countSlots_39 rfl (lv_at hl 1 rfl) ?_
    refine va_get (D := (dC, dI)) (ci := 3) (v := .ref k) (C := RX3) (T := TX3) (N := 6) hx hb hts hin3 hown hK hP 0 rfl rfl 0 (by decide) hw1 (fun _ h9 => h9) rfl dX3_countSlots_40 ?_
    refine lv_iload_n hx hb dX3_countSlots_43 rfl (lv_at hl 0 rfl) ?_
    refine lv_iconst (v := 0) hx hb dX3_countSlots_44 (by decide) ?_
    refine mx_i (wr := [(o, .inr (3, [.ref k, .ref op, .int 0, .ref oq, .ref ov, .ref os])), (os, .inl (cI, 5, .inl (upd (upd (upd (upd (upd (upd (upd (upd (upd (upd (upd (upd (fun _ => 0) 0 0) 1 0) 2 0) 3 0) 4 0) 0 2) 0 4) 0 6) 0 8) 0 10) 0 12) 0 14)))]) (va_runV (As := [.int 7, .int 0]) (rest := [.ref os]) ⟨hx, hb, hml, hown, hts⟩ (c_X0_windOn l dC dI cI cZ cK tS aK aV k ks kw kc kq km kd ka kk 7 H.size (by have z8 : (7 : Int32).toInt = 7 := rfl; first | omega | decide | assumption | trivial)) (cwV 2 hts (gw_v (fun _ h9 => List.mem_cons_of_mem _ h9) wm_169 wm_170 wm_171 wm_10 wm_172) rfl rfl rfl (by decide +kernel) ⟨Nat.le_of_ble_eq_true rfl, Nat.le_of_ble_eq_true rfl⟩) (mx_preV (C := RX0) (T := TX0) (N := 12) (ci := 0) hKx hP hD hS hA [2, 3, 4] (by decide) rfl rfl rfl) rfl rfl hl.1 rfl (lv_room (Nat.le_of_ble_eq_true rfl)) dX3_countSlots_45 ⟨Nat.le_of_ble_eq_true rfl, Nat.le_of_ble_eq_true rfl⟩) hP hD hS hA [2, 3, 4] [0, 1] rfl rfl (by decide) (by decide) (fun r205 u205 H locs hq205 hP hD hS => ?_)
    replace hP : va_P (dC, dI) vwCl [(o, .inr (3, [.ref k, .ref op, .int 0, .ref oq, .ref ov, .ref os])), (os, .inl (cI, 5, .inl (upd (upd (upd (upd (upd (upd (upd (upd (upd (upd (upd (upd (fun _ => 0) 0 0) 1 0) 2 0) 3 0) 4 0) 0 2) 0 4) 0 6) 0 8) 0 10) 0 12) 0 14))), (k, .inr (0, [.ref ks, .ref kw, .ref kc, .int (-6), .int 0, .int 0, .ref kq, .ref km, .ref kd, .int 0, .ref ka, .ref kk])), (ks, .inl (cI, 5, .inl (upd (fun _ => 0) 0 800))), (kw, .inl (cI, 14, .inl (fun _ => 0)))] H := hP
    replace hD : va_D A [(o, .inr (3, [.ref k, .ref op, .int 0, .ref oq, .ref ov, .ref os])), (os, .inl (cI, 5, .inl (upd (upd (upd (upd (upd (upd (upd (upd (upd (upd (upd (upd (fun _ => 0) 0 0) 1 0) 2 0) 3 0) 4 0) 0 2) 0 4) 0 6) 0 8) 0 10) 0 12) 0 14))), (k, .inr (0, [.ref ks, .ref kw, .ref kc, .int (-6), .int 0, .int 0, .ref kq, .ref km, .ref kd, .int 0, .ref ka, .ref kk])), (ks, .inl (cI, 5, .inl (upd (fun _ => 0) 0 800))), (kw, .inl (cI, 14, .inl (fun _ => 0)))] := hD
    obtain rfl : r205 = 0 := hq205
    refine lv_dup2_11 hx hb dX3_countSlots_48 rfl rfl ?_
    refine va_iald hx hb hK hP 1 0 rfl rfl (vin (by decide) (by decide)) dX3_countSlots_49 ?_
    refine lv_topi (fun x206 e206 => ?_)
    obtain rfl : x206 = 14 := e206.trans (by first | rfl | decide)
    refine lv_iconst (v := 2) hx hb dX3_countSlots_50 (by decide) ?_
    refine lv_iadd hx hb dX3_countSlots_51 ?_
    refine lv_topi (fun x207 e207 => ?_)
    obtain rfl : x207 = 16 := e207.trans (by decide)
    refine va_iast hx hb hK hP hD hS 1 0 rfl rfl (vin (by decide) (by decide)) dX3_countSlots_52 (fun H locs hP hD hS => ?_)
    replace hP : va_P (dC, dI) vwCl [(o, .inr (3, [.ref k, .ref op, .int 0, .ref oq, .ref ov, .ref os])), (os, .inl (cI, 5, .inl (upd (upd (upd (upd (upd (upd (upd (upd (upd (upd (upd (upd (upd (fun _ => 0) 0 0) 1 0) 2 0) 3 0) 4 0) 0 2) 0 4) 0 6) 0 8) 0 10) 0 12) 0 14) 0 16))), (k, .inr (0, [.ref ks, .ref kw, .ref kc, .int (-6), .int 0, .int 0, .ref kq, .ref km, .ref kd, .int 0, .ref ka, .ref kk])), (ks, .inl (cI, 5, .inl (upd (fun _ => 0) 0 800))), (kw, .inl (cI, 14, .inl (fun _ => 0)))] H := hP
    replace hD : va_D A [(o, .inr (3, [.ref k, .ref op, .int 0, .ref oq, .ref ov, .ref os])), (os, .inl (cI, 5, .inl (upd (upd (upd (upd (upd (upd (upd (upd (upd (upd (upd (upd (upd (fun _ => 0) 0 0) 1 0) 2 0) 3 0) 4 0) 0 2) 0 4) 0 6) 0 8) 0 10) 0 12) 0 14) 0 16))), (k, .inr (0, [.ref ks, .ref kw, .ref kc, .int (-6), .int 0, .int 0, .ref kq, .ref km, .ref kd, .int 0, .ref ka, .ref kk])), (ks, .inl (cI, 5, .inl (upd (fun _ => 0) 0 800))), (kw, .inl (cI, 14, .inl (fun _ => 0)))] := hD
    refine lv_iinc (v := 8) (lv' := [(2, .int 8), (0, .ref o), (1, .int 7)]) hx hb dX3_countSlots_53 hl (k := 0) rfl (by decide) (by decide) rfl (fun ls hl => ?_)
    refine lv_goto (tgt := 30) hx hb dX3_countSlots_56 (by decide) ?_
    refine lv_iload_n hx hb dX3_countSlots_30 rfl (lv_at hl 0 rfl) ?_
    refine lv_iload_n hx hb dX3_countSlots_31 rfl (lv_at hl 2 rfl) ?_
    refine lv_icmp_gt (tgt := 59) hx hb dX3_countSlots_32 (by decide) (fun c208 => ?_) (fun c208 => absurd c208 (by decide))
    have hP9 := mx_subP (wc := [(o, .inr (3, [.ref k, .ref op, .int 0, .ref oq, .ref ov, .ref os])), (os, .inl (cI, 5, .inl (upd (upd (upd (upd (upd (upd (upd (upd (upd (upd (upd (upd (upd (fun _ => 0) 0 0) 1 0) 2 0) 3 0) 4 0) 0 2) 0 4) 0 6) 0 8) 0 10) 0 12) 0 14) 0 16))), (k, .inr (0, [.ref ks, .ref kw, .ref kc, .int (-6), .int 0, .int 0, .ref kq, .ref km, .ref kd, .int 0, .ref ka, .ref kk])), (ks, .inl (cI, 5, .inl (upd (fun _ => 0) 0 800))), (kw, .inl (cI, 14, .inl (fun _ => 0)))]) hP [0, 1, 2, 3, 4] rfl
    have hD9 := hD.sub (ws' := [(o, .inr (3, [.ref k, .ref op, .int 0, .ref oq, .ref ov, .ref os])), (os, .inl (cI, 5, .inl (upd (upd (upd (upd (upd (upd (upd (upd (upd (upd (upd (upd (upd (fun _ => 0) 0 0) 1 0) 2 0) 3 0) 4 0) 0 2) 0 4) 0 6) 0 8) 0 10) 0 12) 0 14) 0 16))), (k, .inr (0, [.ref ks, .ref kw, .ref kc, .int (-6), .int 0, .int 0, .ref kq, .ref km, .ref kd, .int 0, .ref ka, .ref kk])), (ks, .inl (cI, 5, .inl (upd (fun _ => 0) 0 800))), (kw, .inl (cI, 14, .inl (fun _ => 0)))]) [0, 1, 2, 3, 4] (by decide) rfl
    exact W.vret hx hb hr (fun t ht hW => ⟨⟨(upd (upd (upd (upd (upd (upd (upd (upd (upd (upd (upd (upd (upd (fun _ => 0) 0 0) 1 0) 2 0) 3 0) 4 0) 0 2) 0 4) 0 6) 0 8) 0 10) 0 12) 0 14) 0 16), rfl, (by refine ⟨?_, ?_, ?_, ?_, ?_, ?_, ?_, ?_, ?_, ?_⟩ <;> decide), by rw [ht]; exact hP9, hD9⟩, hS.F ht⟩) hS.2.2 dX3_countSlots_59
  · have z9 : (8 : Int32).toInt = 8 := rfl
    refine lv_iconst (v := 0) hx hb dX3_countSlots_0 (by decide) ?_
    refine lv_istore_n (lv' := [(2, .int 0), (0, .ref o), (1, .int 8)]) hx hb dX3_countSlots_1 rfl hl (by decide) rfl (fun ls hl => ?_)
    refine lv_iload_n hx hb dX3_countSlots_2 rfl (lv_at hl 0 rfl) ?_
    refine lv_iconst (v := 4) hx hb dX3_countSlots_3 (by decide) ?_
    refine lv_icmp_gt (tgt := 20) hx hb dX3_countSlots_4 (by decide) (fun c209 => absurd c209 (by decide)) (fun c209 => ?_)
    refine lv_aload_n hx hb dX3_countSlots_7 rfl (lv_at hl 1 rfl) ?_
    refine va_get (D := (dC, dI)) (ci := 3) (v := .ref os) (C := RX3) (T := TX3) (N := 6) hx hb hts hin3 hown hK hP 0 rfl rfl 5 (by decide) hw0 (fun _ h9 => h9) rfl dX3_countSlots_8 ?_
    refine lv_iload_n hx hb dX3_countSlots_11 rfl (lv_at hl 0 rfl) ?_
    refine lv_iconst (v := 0) hx hb dX3_countSlots_12 (by decide) ?_
    refine va_iast hx hb hK hP hD hS 1 0 rfl rfl (vin (by decide) (by decide)) dX3_countSlots_13 (fun H locs hP hD hS => ?_)
    replace hP : va_P (dC, dI) vwCl [(o, .inr (3, [.ref k, .ref op, .int 0, .ref oq, .ref ov, .ref os])), (os, .inl (cI, 5, .inl (upd (fun _ => 0) 0 0))), (k, .inr (0, [.ref ks, .ref kw, .ref kc, .int (-6), .int 0, .int 0, .ref kq, .ref km, .ref kd, .int 0, .ref ka, .ref kk])), (ks, .inl (cI, 5, .inl (upd (fun _ => 0) 0 800))), (kw, .inl (cI, 14, .inl (fun _ => 0)))] H := hP
    replace hD : va_D A [(o, .inr (3, [.ref k, .ref op, .int 0, .ref oq, .ref ov, .ref os])), (os, .inl (cI, 5, .inl (upd (fun _ => 0) 0 0))), (k, .inr (0, [.ref ks, .ref kw, .ref kc, .int (-6), .int 0, .int 0, .ref kq, .ref km, .ref kd, .int 0, .ref ka, .ref kk])), (ks, .inl (cI, 5, .inl (upd (fun _ => 0) 0 800))), (kw, .inl (cI, 14, .inl (fun _ => 0)))] := hD
    refine lv_iinc (v := 1) (lv' := [(2, .int 1), (0, .ref o), (1, .int 8)]) hx hb dX3_countSlots_14 hl (k := 0) rfl (by decide) (by decide) rfl (fun ls hl => ?_)
    refine lv_goto (tgt := 2) hx hb dX3_countSlots_17 (by decide) ?_
    refine lv_iload_n hx hb dX3_countSlots_2 rfl (lv_at hl 0 rfl) ?_
    refine lv_iconst (v := 4) hx hb dX3_countSlots_3 (by decide) ?_
    refine lv_icmp_gt (tgt := 20) hx hb dX3_countSlots_4 (by decide) (fun c210 => absurd c210 (by decide)) (fun c210 => ?_)
    refine lv_aload_n hx hb dX3_countSlots_7 rfl (lv_at hl 1 rfl) ?_
    refine va_get (D := (dC, dI)) (ci := 3) (v := .ref os) (C := RX3) (T := TX3) (N := 6) hx hb hts hin3 hown hK hP 0 rfl rfl 5 (by decide) hw0 (fun _ h9 => h9) rfl dX3_countSlots_8 ?_
    refine lv_iload_n hx hb dX3_countSlots_11 rfl (lv_at hl 0 rfl) ?_
    refine lv_iconst (v := 0) hx hb dX3_countSlots_12 (by decide) ?_
    refine va_iast hx hb hK hP hD hS 1 0 rfl rfl (vin (by decide) (by decide)) dX3_countSlots_13 (fun H locs hP hD hS => ?_)
    replace hP : va_P (dC, dI) vwCl [(o, .inr (3, [.ref k, .ref op, .int 0, .ref oq, .ref ov, .ref os])), (os, .inl (cI, 5, .inl (upd (upd (fun _ => 0) 0 0) 1 0))), (k, .inr (0, [.ref ks, .ref kw, .ref kc, .int (-6), .int 0, .int 0, .ref kq, .ref km, .ref kd, .int 0, .ref ka, .ref kk])), (ks, .inl (cI, 5, .inl (upd (fun _ => 0) 0 800))), (kw, .inl (cI, 14, .inl (fun _ => 0)))] H := hP
    replace hD : va_D A [(o, .inr (3, [.ref k, .ref op, .int 0, .ref oq, .ref ov, .ref os])), (os, .inl (cI, 5, .inl (upd (upd (fun _ => 0) 0 0) 1 0))), (k, .inr (0, [.ref ks, .ref kw, .ref kc, .int (-6), .int 0, .int 0, .ref kq, .ref km, .ref kd, .int 0, .ref ka, .ref kk])), (ks, .inl (cI, 5, .inl (upd (fun _ => 0) 0 800))), (kw, .inl (cI, 14, .inl (fun _ => 0)))] := hD
    refine lv_iinc (v := 2) (lv' := [(2, .int 2), (0, .ref o), (1, .int 8)]) hx hb dX3_countSlots_14 hl (k := 0) rfl (by decide) (by decide) rfl (fun ls hl => ?_)
    refine lv_goto (tgt := 2) hx hb dX3_countSlots_17 (by decide) ?_
    refine lv_iload_n hx hb dX3_countSlots_2 rfl (lv_at hl 0 rfl) ?_
    refine lv_iconst (v := 4) hx hb dX3_countSlots_3 (by decide) ?_
    refine lv_icmp_gt (tgt := 20) hx hb dX3_countSlots_4 (by decide) (fun c211 => absurd c211 (by decide)) (fun c211 => ?_)
    refine lv_aload_n hx hb dX3_countSlots_7 rfl (lv_at hl 1 rfl) ?_
    refine va_get (D := (dC, dI)) (ci := 3) (v := .ref os) (C := RX3) (T := TX3) (N := 6) hx hb hts hin3 hown hK hP 0 rfl rfl 5 (by decide) hw0 (fun _ h9 => h9) rfl dX3_countSlots_8 ?_
    refine lv_iload_n hx hb dX3_countSlots_11 rfl (lv_at hl 0 rfl) ?_
    refine lv_iconst (v := 0) hx hb dX3_countSlots_12 (by decide) ?_
    refine va_iast hx hb hK hP hD hS 1 0 rfl rfl (vin (by decide) (by decide)) dX3_countSlots_13 (fun H locs hP hD hS => ?_)
    replace hP : va_P (dC, dI) vwCl [(o, .inr (3, [.ref k, .ref op, .int 0, .ref oq, .ref ov, .ref os])), (os, .inl (cI, 5, .inl (upd (upd (upd (fun _ => 0) 0 0) 1 0) 2 0))), (k, .inr (0, [.ref ks, .ref kw, .ref kc, .int (-6), .int 0, .int 0, .ref kq, .ref km, .ref kd, .int 0, .ref ka, .ref kk])), (ks, .inl (cI, 5, .inl (upd (fun _ => 0) 0 800))), (kw, .inl (cI, 14, .inl (fun _ => 0)))] H := hP
    replace hD : va_D A [(o, .inr (3, [.ref k, .ref op, .int 0, .ref oq, .ref ov, .ref os])), (os, .inl (cI, 5, .inl (upd (upd (upd (fun _ => 0) 0 0) 1 0) 2 0))), (k, .inr (0, [.ref ks, .ref kw, .ref kc, .int (-6), .int 0, .int 0, .ref kq, .ref km, .ref kd, .int 0, .ref ka, .ref kk])), (ks, .inl (cI, 5, .inl (upd (fun _ => 0) 0 800))), (kw, .inl (cI, 14, .inl (fun _ => 0)))] := hD
    refine lv_iinc (v := 3) (lv' := [(2, .int 3), (0, .ref o), (1, .int 8)]) hx hb dX3_countSlots_14 hl (k := 0) rfl (by decide) (by decide) rfl (fun ls hl => ?_)
    refine lv_goto (tgt := 2) hx hb dX3_countSlots_17 (by decide) ?_
    refine lv_iload_n hx hb dX3_countSlots_2 rfl (lv_at hl 0 rfl) ?_
    refine lv_iconst (v := 4) hx hb dX3_countSlots_3 (by decide) ?_
    refine lv_icmp_gt (tgt := 20) hx hb dX3_countSlots_4 (by decide) (fun c212 => absurd c212 (by decide)) (fun c212 => ?_)
    refine lv_aload_n hx hb dX3_countSlots_7 rfl (lv_at hl 1 rfl) ?_
    refine va_get (D := (dC, dI)) (ci := 3) (v := .ref os) (C := RX3) (T := TX3) (N := 6) hx hb hts hin3 hown hK hP 0 rfl rfl 5 (by decide) hw0 (fun _ h9 => h9) rfl dX3_countSlots_8 ?_
    refine lv_iload_n hx hb dX3_countSlots_11 rfl (lv_at hl 0 rfl) ?_
    refine lv_iconst (v := 0) hx hb dX3_countSlots_12 (by decide) ?_
    refine va_iast hx hb hK hP hD hS 1 0 rfl rfl (vin (by decide) (by decide)) dX3_countSlots_13 (fun H locs hP hD hS => ?_)
    replace hP : va_P (dC, dI) vwCl [(o, .inr (3, [.ref k, .ref op, .int 0, .ref oq, .ref ov, .ref os])), (os, .inl (cI, 5, .inl (upd (upd (upd (upd (fun _ => 0) 0 0) 1 0) 2 0) 3 0))), (k, .inr (0, [.ref ks, .ref kw, .ref kc, .int (-6), .int 0, .int 0, .ref kq, .ref km, .ref kd, .int 0, .ref ka, .ref kk])), (ks, .inl (cI, 5, .inl (upd (fun _ => 0) 0 800))), (kw, .inl (cI, 14, .inl (fun _ => 0)))] H := hP
    replace hD : va_D A [(o, .inr (3, [.ref k, .ref op, .int 0, .ref oq, .ref ov, .ref os])), (os, .inl (cI, 5, .inl (upd (upd (upd (upd (fun _ => 0) 0 0) 1 0) 2 0) 3 0))), (k, .inr (0, [.ref ks, .ref kw, .ref kc, .int (-6), .int 0, .int 0, .ref kq, .ref km, .ref kd, .int 0, .ref ka, .ref kk])), (ks, .inl (cI, 5, .inl (upd (fun _ => 0) 0 800))), (kw, .inl (cI, 14, .inl (fun _ => 0)))] := hD
    refine lv_iinc (v := 4) (lv' := [(2, .int 4), (0, .ref o), (1, .int 8)]) hx hb dX3_countSlots_14 hl (k := 0) rfl (by decide) (by decide) rfl (fun ls hl => ?_)
    refine lv_goto (tgt := 2) hx hb dX3_countSlots_17 (by decide) ?_
    refine lv_iload_n hx hb dX3_countSlots_2 rfl (lv_at hl 0 rfl) ?_
    refine lv_iconst (v := 4) hx hb dX3_countSlots_3 (by decide) ?_
    refine lv_icmp_gt (tgt := 20) hx hb dX3_countSlots_4 (by decide) (fun c213 => absurd c213 (by decide)) (fun c213 => ?_)
    refine lv_aload_n hx hb dX3_countSlots_7 rfl (lv_at hl 1 rfl) ?_
    refine va_get (D := (dC, dI)) (ci := 3) (v := .ref os) (C := RX3) (T := TX3) (N := 6) hx hb hts hin3 hown hK hP 0 rfl rfl 5 (by decide) hw0 (fun _ h9 => h9) rfl dX3_countSlots_8 ?_
    refine lv_iload_n hx hb dX3_countSlots_11 rfl (lv_at hl 0 rfl) ?_
    refine lv_iconst (v := 0) hx hb dX3_countSlots_12 (by decide) ?_
    refine va_iast hx hb hK hP hD hS 1 0 rfl rfl (vin (by decide) (by decide)) dX3_countSlots_13 (fun H locs hP hD hS => ?_)
    replace hP : va_P (dC, dI) vwCl [(o, .inr (3, [.ref k, .ref op, .int 0, .ref oq, .ref ov, .ref os])), (os, .inl (cI, 5, .inl (upd (upd (upd (upd (upd (fun _ => 0) 0 0) 1 0) 2 0) 3 0) 4 0))), (k, .inr (0, [.ref ks, .ref kw, .ref kc, .int (-6), .int 0, .int 0, .ref kq, .ref km, .ref kd, .int 0, .ref ka, .ref kk])), (ks, .inl (cI, 5, .inl (upd (fun _ => 0) 0 800))), (kw, .inl (cI, 14, .inl (fun _ => 0)))] H := hP
    replace hD : va_D A [(o, .inr (3, [.ref k, .ref op, .int 0, .ref oq, .ref ov, .ref os])), (os, .inl (cI, 5, .inl (upd (upd (upd (upd (upd (fun _ => 0) 0 0) 1 0) 2 0) 3 0) 4 0))), (k, .inr (0, [.ref ks, .ref kw, .ref kc, .int (-6), .int 0, .int 0, .ref kq, .ref km, .ref kd, .int 0, .ref ka, .ref kk])), (ks, .inl (cI, 5, .inl (upd (fun _ => 0) 0 800))), (kw, .inl (cI, 14, .inl (fun _ => 0)))] := hD
    refine lv_iinc (v := 5) (lv' := [(2, .int 5), (0, .ref o), (1, .int 8)]) hx hb dX3_countSlots_14 hl (k := 0) rfl (by decide) (by decide) rfl (fun ls hl => ?_)
    refine lv_goto (tgt := 2) hx hb dX3_countSlots_17 (by decide) ?_
    refine lv_iload_n hx hb dX3_countSlots_2 rfl (lv_at hl 0 rfl) ?_
    refine lv_iconst (v := 4) hx hb dX3_countSlots_3 (by decide) ?_
    refine lv_icmp_gt (tgt := 20) hx hb dX3_countSlots_4 (by decide) (fun c214 => ?_) (fun c214 => absurd c214 (by decide))
    refine lv_aload_n hx hb dX3_countSlots_20 rfl (lv_at hl 1 rfl) ?_
    refine va_get (D := (dC, dI)) (ci := 3) (v := .ref k) (C := RX3) (T := TX3) (N := 6) hx hb hts hin3 hown hK hP 0 rfl rfl 0 (by decide) hw1 (fun _ h9 => h9) rfl dX3_countSlots_21 ?_
    refine va_get (D := (dC, dI)) (ci := 0) (v := .ref ks) (C := RX0) (T := TX0) (N := 12) hx hb hts hin0 hown hK hP 2 rfl rfl 0 (by decide) hw2 (fun _ h9 => h9) rfl dX3_countSlots_24 ?_
    refine lv_iconst (v := 4) hx hb dX3_countSlots_27 (by decide) ?_
    refine va_iald hx hb hK hP 3 0 rfl rfl (vin (by decide) (by decide)) dX3_countSlots_28 ?_
    refine lv_topi (fun x215 e215 => ?_)
    obtain rfl : x215 = 0 := e215.trans (by first | rfl | decide)
    refine lv_istore_n (lv' := [(2, .int 0), (0, .ref o), (1, .int 8)]) hx hb dX3_countSlots_29 rfl hl (by decide) rfl (fun ls hl => ?_)
    refine lv_iload_n hx hb dX3_countSlots_30 rfl (lv_at hl 0 rfl) ?_
    refine lv_iload_n hx hb dX3_countSlots_31 rfl (lv_at hl 2 rfl) ?_
    refine lv_icmp_gt (tgt := 59) hx hb dX3_countSlots_32 (by decide) (fun c216 => absurd c216 (by decide)) (fun c216 => ?_)
    refine lv_aload_n hx hb dX3_countSlots_35 rfl (lv_at hl 1 rfl) ?_
    refine va_get (D := (dC, dI)) (ci := 3) (v := .ref os) (C := RX3) (T := TX3) (N := 6) hx hb hts hin3 hown hK hP 0 rfl rfl 5 (by decide) hw0 (fun _ h9 => h9) rfl dX3_countSlots_36 ?_
    refine lv_aload_n hx hb dX3_countSlots_39 rfl (lv_at hl 1 rfl) ?_
    refine va_get (D := (dC, dI)) (ci := 3) (v := .ref k) (C := RX3) (T := TX3) (N := 6) hx hb hts hin3 hown hK hP 0 rfl rfl 0 (by decide) hw1 (fun _ h9 => h9) rfl dX3_countSlots_40 ?_
    refine lv_iload_n hx hb dX3_countSlots_43 rfl (lv_at hl 0 rfl) ?_
    refine lv_iconst (v := 0) hx hb dX3_countSlots_44 (by decide) ?_
    refine mx_i (wr := [(o, .inr (3, [.ref k, .ref op, .int 0, .ref oq, .ref ov, .ref os])), (os, .inl (cI, 5, .inl (upd (upd (upd (upd (upd (fun _ => 0) 0 0) 1 0) 2 0) 3 0) 4 0)))]) (va_runV (As := [.int 0, .int 0]) (rest := [.ref os]) ⟨hx, hb, hml, hown, hts⟩ (c_X0_windOn l dC dI cI cZ cK tS aK aV k ks kw kc kq km kd ka kk 0 H.size (by have z8 : (0 : Int32).toInt = 0 := rfl; first | omega | decide | assumption | trivial)) (cwV 2 hts (gw_v (fun _ h9 => List.mem_cons_of_mem _ h9) wm_169 wm_170 wm_171 wm_10 wm_172) rfl rfl rfl (by decide +kernel) ⟨Nat.le_of_ble_eq_true rfl, Nat.le_of_ble_eq_true rfl⟩) (mx_preV (C := RX0) (T := TX0) (N := 12) (ci := 0) hKx hP hD hS hA [2, 3, 4] (by decide) rfl rfl rfl) rfl rfl hl.1 rfl (lv_room (Nat.le_of_ble_eq_true rfl)) dX3_countSlots_45 ⟨Nat.le_of_ble_eq_true rfl, Nat.le_of_ble_eq_true rfl⟩) hP hD hS hA [2, 3, 4] [0, 1] rfl rfl (by decide) (by decide) (fun r217 u217 H locs hq217 hP hD hS => ?_)
    replace hP : va_P (dC, dI) vwCl [(o, .inr (3, [.ref k, .ref op, .int 0, .ref oq, .ref ov, .ref os])), (os, .inl (cI, 5, .inl (upd (upd (upd (upd (upd (fun _ => 0) 0 0) 1 0) 2 0) 3 0) 4 0))), (k, .inr (0, [.ref ks, .ref kw, .ref kc, .int (-6), .int 0, .int 0, .ref kq, .ref km, .ref kd, .int 0, .ref ka, .ref kk])), (ks, .inl (cI, 5, .inl (upd (fun _ => 0) 0 800))), (kw, .inl (cI, 14, .inl (fun _ => 0)))] H := hP
    replace hD : va_D A [(o, .inr (3, [.ref k, .ref op, .int 0, .ref oq, .ref ov, .ref os])), (os, .inl (cI, 5, .inl (upd (upd (upd (upd (upd (fun _ => 0) 0 0) 1 0) 2 0) 3 0) 4 0))), (k, .inr (0, [.ref ks, .ref kw, .ref kc, .int (-6), .int 0, .int 0, .ref kq, .ref km, .ref kd, .int 0, .ref ka, .ref kk])), (ks, .inl (cI, 5, .inl (upd (fun _ => 0) 0 800))), (kw, .inl (cI, 14, .inl (fun _ => 0)))] := hD
    obtain rfl : r217 = 0 := hq217
    refine lv_dup2_11 hx hb dX3_countSlots_48 rfl rfl ?_
    refine va_iald hx hb hK hP 1 0 rfl rfl (vin (by decide) (by decide)) dX3_countSlots_49 ?_
    refine lv_topi (fun x218 e218 => ?_)
    obtain rfl : x218 = 0 := e218.trans (by first | rfl | decide)
    refine lv_iconst (v := 2) hx hb dX3_countSlots_50 (by decide) ?_
    refine lv_iadd hx hb dX3_countSlots_51 ?_
    refine lv_topi (fun x219 e219 => ?_)
    obtain rfl : x219 = 2 := e219.trans (by decide)
    refine va_iast hx hb hK hP hD hS 1 0 rfl rfl (vin (by decide) (by decide)) dX3_countSlots_52 (fun H locs hP hD hS => ?_)
    replace hP : va_P (dC, dI) vwCl [(o, .inr (3, [.ref k, .ref op, .int 0, .ref oq, .ref ov, .ref os])), (os, .inl (cI, 5, .inl (upd (upd (upd (upd (upd (upd (fun _ => 0) 0 0) 1 0) 2 0) 3 0) 4 0) 0 2))), (k, .inr (0, [.ref ks, .ref kw, .ref kc, .int (-6), .int 0, .int 0, .ref kq, .ref km, .ref kd, .int 0, .ref ka, .ref kk])), (ks, .inl (cI, 5, .inl (upd (fun _ => 0) 0 800))), (kw, .inl (cI, 14, .inl (fun _ => 0)))] H := hP
    replace hD : va_D A [(o, .inr (3, [.ref k, .ref op, .int 0, .ref oq, .ref ov, .ref os])), (os, .inl (cI, 5, .inl (upd (upd (upd (upd (upd (upd (fun _ => 0) 0 0) 1 0) 2 0) 3 0) 4 0) 0 2))), (k, .inr (0, [.ref ks, .ref kw, .ref kc, .int (-6), .int 0, .int 0, .ref kq, .ref km, .ref kd, .int 0, .ref ka, .ref kk])), (ks, .inl (cI, 5, .inl (upd (fun _ => 0) 0 800))), (kw, .inl (cI, 14, .inl (fun _ => 0)))] := hD
    refine lv_iinc (v := 1) (lv' := [(2, .int 1), (0, .ref o), (1, .int 8)]) hx hb dX3_countSlots_53 hl (k := 0) rfl (by decide) (by decide) rfl (fun ls hl => ?_)
    refine lv_goto (tgt := 30) hx hb dX3_countSlots_56 (by decide) ?_
    refine lv_iload_n hx hb dX3_countSlots_30 rfl (lv_at hl 0 rfl) ?_
    refine lv_iload_n hx hb dX3_countSlots_31 rfl (lv_at hl 2 rfl) ?_
    refine lv_icmp_gt (tgt := 59) hx hb dX3_countSlots_32 (by decide) (fun c220 => absurd c220 (by decide)) (fun c220 => ?_)
    refine lv_aload_n hx hb dX3_countSlots_35 rfl (lv_at hl 1 rfl) ?_
    refine va_get (D := (dC, dI)) (ci := 3) (v := .ref os) (C := RX3) (T := TX3) (N := 6) hx hb hts hin3 hown hK hP 0 rfl rfl 5 (by decide) hw0 (fun _ h9 => h9) rfl dX3_countSlots_36 ?_
    refine lv_aload_n hx hb dX3_countSlots_39 rfl (lv_at hl 1 rfl) ?_
    refine va_get (D := (dC, dI)) (ci := 3) (v := .ref k) (C := RX3) (T := TX3) (N := 6) hx hb hts hin3 hown hK hP 0 rfl rfl 0 (by decide) hw1 (fun _ h9 => h9) rfl dX3_countSlots_40 ?_
    refine lv_iload_n hx hb dX3_countSlots_43 rfl (lv_at hl 0 rfl) ?_
    refine lv_iconst (v := 0) hx hb dX3_countSlots_44 (by decide) ?_
    refine mx_i (wr := [(o, .inr (3, [.ref k, .ref op, .int 0, .ref oq, .ref ov, .ref os])), (os, .inl (cI, 5, .inl (upd (upd (upd (upd (upd (upd (fun _ => 0) 0 0) 1 0) 2 0) 3 0) 4 0) 0 2)))]) (va_runV (As := [.int 1, .int 0]) (rest := [.ref os]) ⟨hx, hb, hml, hown, hts⟩ (c_X0_windOn l dC dI cI cZ cK tS aK aV k ks kw kc kq km kd ka kk 1 H.size (by have z8 : (1 : Int32).toInt = 1 := rfl; first | omega | decide | assumption | trivial)) (cwV 2 hts (gw_v (fun _ h9 => List.mem_cons_of_mem _ h9) wm_169 wm_170 wm_171 wm_10 wm_172) rfl rfl rfl (by decide +kernel) ⟨Nat.le_of_ble_eq_true rfl, Nat.le_of_ble_eq_true rfl⟩) (mx_preV (C := RX0) (T := TX0) (N := 12) (ci := 0) hKx hP hD hS hA [2, 3, 4] (by decide) rfl rfl rfl) rfl rfl hl.1 rfl (lv_room (Nat.le_of_ble_eq_true rfl)) dX3_countSlots_45 ⟨Nat.le_of_ble_eq_true rfl, Nat.le_of_ble_eq_true rfl⟩) hP hD hS hA [2, 3, 4] [0, 1] rfl rfl (by decide) (by decide) (fun r221 u221 H locs hq221 hP hD hS => ?_)
    replace hP : va_P (dC, dI) vwCl [(o, .inr (3, [.ref k, .ref op, .int 0, .ref oq, .ref ov, .ref os])), (os, .inl (cI, 5, .inl (upd (upd (upd (upd (upd (upd (fun _ => 0) 0 0) 1 0) 2 0) 3 0) 4 0) 0 2))), (k, .inr (0, [.ref ks, .ref kw, .ref kc, .int (-6), .int 0, .int 0, .ref kq, .ref km, .ref kd, .int 0, .ref ka, .ref kk])), (ks, .inl (cI, 5, .inl (upd (fun _ => 0) 0 800))), (kw, .inl (cI, 14, .inl (fun _ => 0)))] H := hP
    replace hD : va_D A [(o, .inr (3, [.ref k, .ref op, .int 0, .ref oq, .ref ov, .ref os])), (os, .inl (cI, 5, .inl (upd (upd (upd (upd (upd (upd (fun _ => 0) 0 0) 1 0) 2 0) 3 0) 4 0) 0 2))), (k, .inr (0, [.ref ks, .ref kw, .ref kc, .int (-6), .int 0, .int 0, .ref kq, .ref km, .ref kd, .int 0, .ref ka, .ref kk])), (ks, .inl (cI, 5, .inl (upd (fun _ => 0) 0 800))), (kw, .inl (cI, 14, .inl (fun _ => 0)))] := hD
    obtain rfl : r221 = 0 := hq221
    refine lv_dup2_11 hx hb dX3_countSlots_48 rfl rfl ?_
    refine va_iald hx hb hK hP 1 0 rfl rfl (vin (by decide) (by decide)) dX3_countSlots_49 ?_
    refine lv_topi (fun x222 e222 => ?_)
    obtain rfl : x222 = 2 := e222.trans (by first | rfl | decide)
    refine lv_iconst (v := 2) hx hb dX3_countSlots_50 (by decide) ?_
    refine lv_iadd hx hb dX3_countSlots_51 ?_
    refine lv_topi (fun x223 e223 => ?_)
    obtain rfl : x223 = 4 := e223.trans (by decide)
    refine va_iast hx hb hK hP hD hS 1 0 rfl rfl (vin (by decide) (by decide)) dX3_countSlots_52 (fun H locs hP hD hS => ?_)
    replace hP : va_P (dC, dI) vwCl [(o, .inr (3, [.ref k, .ref op, .int 0, .ref oq, .ref ov, .ref os])), (os, .inl (cI, 5, .inl (upd (upd (upd (upd (upd (upd (upd (fun _ => 0) 0 0) 1 0) 2 0) 3 0) 4 0) 0 2) 0 4))), (k, .inr (0, [.ref ks, .ref kw, .ref kc, .int (-6), .int 0, .int 0, .ref kq, .ref km, .ref kd, .int 0, .ref ka, .ref kk])), (ks, .inl (cI, 5, .inl (upd (fun _ => 0) 0 800))), (kw, .inl (cI, 14, .inl (fun _ => 0)))] H := hP
    replace hD : va_D A [(o, .inr (3, [.ref k, .ref op, .int 0, .ref oq, .ref ov, .ref os])), (os, .inl (cI, 5, .inl (upd (upd (upd (upd (upd (upd (upd (fun _ => 0) 0 0) 1 0) 2 0) 3 0) 4 0) 0 2) 0 4))), (k, .inr (0, [.ref ks, .ref kw, .ref kc, .int (-6), .int 0, .int 0, .ref kq, .ref km, .ref kd, .int 0, .ref ka, .ref kk])), (ks, .inl (cI, 5, .inl (upd (fun _ => 0) 0 800))), (kw, .inl (cI, 14, .inl (fun _ => 0)))] := hD
    refine lv_iinc (v := 2) (lv' := [(2, .int 2), (0, .ref o), (1, .int 8)]) hx hb dX3_countSlots_53 hl (k := 0) rfl (by decide) (by decide) rfl (fun ls hl => ?_)
    refine lv_goto (tgt := 30) hx hb dX3_countSlots_56 (by decide) ?_
    refine lv_iload_n hx hb dX3_countSlots_30 rfl (lv_at hl 0 rfl) ?_
    refine lv_iload_n hx hb dX3_countSlots_31 rfl (lv_at hl 2 rfl) ?_
    refine lv_icmp_gt (tgt := 59) hx hb dX3_countSlots_32 (by decide) (fun c224 => absurd c224 (by decide)) (fun c224 => ?_)
    refine lv_aload_n hx hb dX3_countSlots_35 rfl (lv_at hl 1 rfl) ?_
    refine va_get (D := (dC, dI)) (ci := 3) (v := .ref os) (C := RX3) (T := TX3) (N := 6) hx hb hts hin3 hown hK hP 0 rfl rfl 5 (by decide) hw0 (fun _ h9 => h9) rfl dX3_countSlots_36 ?_
    refine lv_aload_n hx hb dX3_countSlots_39 rfl (lv_at hl 1 rfl) ?_
    refine va_get (D := (dC, dI)) (ci := 3) (v := .ref k) (C := RX3) (T := TX3) (N := 6) hx hb hts hin3 hown hK hP 0 rfl rfl 0 (by decide) hw1 (fun _ h9 => h9) rfl dX3_countSlots_40 ?_
    refine lv_iload_n hx hb dX3_countSlots_43 rfl (lv_at hl 0 rfl) ?_
    refine lv_iconst (v := 0) hx hb dX3_countSlots_44 (by decide) ?_
    refine mx_i (wr := [(o, .inr (3, [.ref k, .ref op, .int 0, .ref oq, .ref ov, .ref os])), (os, .inl (cI, 5, .inl (upd (upd (upd (upd (upd (upd (upd (fun _ => 0) 0 0) 1 0) 2 0) 3 0) 4 0) 0 2) 0 4)))]) (va_runV (As := [.int 2, .int 0]) (rest := [.ref os]) ⟨hx, hb, hml, hown, hts⟩ (c_X0_windOn l dC dI cI cZ cK tS aK aV k ks kw kc kq km kd ka kk 2 H.size (by have z8 : (2 : Int32).toInt = 2 := rfl; first | omega | decide | assumption | trivial)) (cwV 2 hts (gw_v (fun _ h9 => List.mem_cons_of_mem _ h9) wm_169 wm_170 wm_171 wm_10 wm_172) rfl rfl rfl (by decide +kernel) ⟨Nat.le_of_ble_eq_true rfl, Nat.le_of_ble_eq_true rfl⟩) (mx_preV (C := RX0) (T := TX0) (N := 12) (ci := 0) hKx hP hD hS hA [2, 3, 4] (by decide) rfl rfl rfl) rfl rfl hl.1 rfl (lv_room (Nat.le_of_ble_eq_true rfl)) dX3_countSlots_45 ⟨Nat.le_of_ble_eq_true rfl, Nat.le_of_ble_eq_true rfl⟩) hP hD hS hA [2, 3, 4] [0, 1] rfl rfl (by decide) (by decide) (fun r225 u225 H locs hq225 hP hD hS => ?_)
    replace hP : va_P (dC, dI) vwCl [(o, .inr (3, [.ref k, .ref op, .int 0, .ref oq, .ref ov, .ref os])), (os, .inl (cI, 5, .inl (upd (upd (upd (upd (upd (upd (upd (fun _ => 0) 0 0) 1 0) 2 0) 3 0) 4 0) 0 2) 0 4))), (k, .inr (0, [.ref ks, .ref kw, .ref kc, .int (-6), .int 0, .int 0, .ref kq, .ref km, .ref kd, .int 0, .ref ka, .ref kk])), (ks, .inl (cI, 5, .inl (upd (fun _ => 0) 0 800))), (kw, .inl (cI, 14, .inl (fun _ => 0)))] H := hP
    replace hD : va_D A [(o, .inr (3, [.ref k, .ref op, .int 0, .ref oq, .ref ov, .ref os])), (os, .inl (cI, 5, .inl (upd (upd (upd (upd (upd (upd (upd (fun _ => 0) 0 0) 1 0) 2 0) 3 0) 4 0) 0 2) 0 4))), (k, .inr (0, [.ref ks, .ref kw, .ref kc, .int (-6), .int 0, .int 0, .ref kq, .ref km, .ref kd, .int 0, .ref ka, .ref kk])), (ks, .inl (cI, 5, .inl (upd (fun _ => 0) 0 800))), (kw, .inl (cI, 14, .inl (fun _ => 0)))] := hD
    obtain rfl : r225 = 0 := hq225
    refine lv_dup2_11 hx hb dX3_countSlots_48 rfl rfl ?_
    refine va_iald hx hb hK hP 1 0 rfl rfl (vin (by decide) (by decide)) dX3_countSlots_49 ?_
    refine lv_topi (fun x226 e226 => ?_)
    obtain rfl : x226 = 4 := e226.trans (by first | rfl | decide)
    refine lv_iconst (v := 2) hx hb dX3_countSlots_50 (by decide) ?_
    refine lv_iadd hx hb dX3_countSlots_51 ?_
    refine lv_topi (fun x227 e227 => ?_)
    obtain rfl : x227 = 6 := e227.trans (by decide)
    refine va_iast hx hb hK hP hD hS 1 0 rfl rfl (vin (by decide) (by decide)) dX3_countSlots_52 (fun H locs hP hD hS => ?_)
    replace hP : va_P (dC, dI) vwCl [(o, .inr (3, [.ref k, .ref op, .int 0, .ref oq, .ref ov, .ref os])), (os, .inl (cI, 5, .inl (upd (upd (upd (upd (upd (upd (upd (upd (fun _ => 0) 0 0) 1 0) 2 0) 3 0) 4 0) 0 2) 0 4) 0 6))), (k, .inr (0, [.ref ks, .ref kw, .ref kc, .int (-6), .int 0, .int 0, .ref kq, .ref km, .ref kd, .int 0, .ref ka, .ref kk])), (ks, .inl (cI, 5, .inl (upd (fun _ => 0) 0 800))), (kw, .inl (cI, 14, .inl (fun _ => 0)))] H := hP
    replace hD : va_D A [(o, .inr (3, [.ref k, .ref op, .int 0, .ref oq, .ref ov, .ref os])), (os, .inl (cI, 5, .inl (upd (upd (upd (upd (upd (upd (upd (upd (fun _ => 0) 0 0) 1 0) 2 0) 3 0) 4 0) 0 2) 0 4) 0 6))), (k, .inr (0, [.ref ks, .ref kw, .ref kc, .int (-6), .int 0, .int 0, .ref kq, .ref km, .ref kd, .int 0, .ref ka, .ref kk])), (ks, .inl (cI, 5, .inl (upd (fun _ => 0) 0 800))), (kw, .inl (cI, 14, .inl (fun _ => 0)))] := hD
    refine lv_iinc (v := 3) (lv' := [(2, .int 3), (0, .ref o), (1, .int 8)]) hx hb dX3_countSlots_53 hl (k := 0) rfl (by decide) (by decide) rfl (fun ls hl => ?_)
    refine lv_goto (tgt := 30) hx hb dX3_countSlots_56 (by decide) ?_
    refine lv_iload_n hx hb dX3_countSlots_30 rfl (lv_at hl 0 rfl) ?_
    refine lv_iload_n hx hb dX3_countSlots_31 rfl (lv_at hl 2 rfl) ?_
    refine lv_icmp_gt (tgt := 59) hx hb dX3_countSlots_32 (by decide) (fun c228 => absurd c228 (by decide)) (fun c228 => ?_)
    refine lv_aload_n hx hb dX3_countSlots_35 rfl (lv_at hl 1 rfl) ?_
    refine va_get (D := (dC, dI)) (ci := 3) (v := .ref os) (C := RX3) (T := TX3) (N := 6) hx hb hts hin3 hown hK hP 0 rfl rfl 5 (by decide) hw0 (fun _ h9 => h9) rfl dX3_countSlots_36 ?_
    refine lv_aload_n hx hb dX3_countSlots_39 rfl (lv_at hl 1 rfl) ?_
    refine va_get (D := (dC, dI)) (ci := 3) (v := .ref k) (C := RX3) (T := TX3) (N := 6) hx hb hts hin3 hown hK hP 0 rfl rfl 0 (by decide) hw1 (fun _ h9 => h9) rfl dX3_countSlots_40 ?_
    refine lv_iload_n hx hb dX3_countSlots_43 rfl (lv_at hl 0 rfl) ?_
    refine lv_iconst (v := 0) hx hb dX3_countSlots_44 (by decide) ?_
    refine mx_i (wr := [(o, .inr (3, [.ref k, .ref op, .int 0, .ref oq, .ref ov, .ref os])), (os, .inl (cI, 5, .inl (upd (upd (upd (upd (upd (upd (upd (upd (fun _ => 0) 0 0) 1 0) 2 0) 3 0) 4 0) 0 2) 0 4) 0 6)))]) (va_runV (As := [.int 3, .int 0]) (rest := [.ref os]) ⟨hx, hb, hml, hown, hts⟩ (c_X0_windOn l dC dI cI cZ cK tS aK aV k ks kw kc kq km kd ka kk 3 H.size (by have z8 : (3 : Int32).toInt = 3 := rfl; first | omega | decide | assumption | trivial)) (cwV 2 hts (gw_v (fun _ h9 => List.mem_cons_of_mem _ h9) wm_169 wm_170 wm_171 wm_10 wm_172) rfl rfl rfl (by decide +kernel) ⟨Nat.le_of_ble_eq_true rfl, Nat.le_of_ble_eq_true rfl⟩) (mx_preV (C := RX0) (T := TX0) (N := 12) (ci := 0) hKx hP hD hS hA [2, 3, 4] (by decide) rfl rfl rfl) rfl rfl hl.1 rfl (lv_room (Nat.le_of_ble_eq_true rfl)) dX3_countSlots_45 ⟨Nat.le_of_ble_eq_true rfl, Nat.le_of_ble_eq_true rfl⟩) hP hD hS hA [2, 3, 4] [0, 1] rfl rfl (by decide) (by decide) (fun r229 u229 H locs hq229 hP hD hS => ?_)
    replace hP : va_P (dC, dI) vwCl [(o, .inr (3, [.ref k, .ref op, .int 0, .ref oq, .ref ov, .ref os])), (os, .inl (cI, 5, .inl (upd (upd (upd (upd (upd (upd (upd (upd (fun _ => 0) 0 0) 1 0) 2 0) 3 0) 4 0) 0 2) 0 4) 0 6))), (k, .inr (0, [.ref ks, .ref kw, .ref kc, .int (-6), .int 0, .int 0, .ref kq, .ref km, .ref kd, .int 0, .ref ka, .ref kk])), (ks, .inl (cI, 5, .inl (upd (fun _ => 0) 0 800))), (kw, .inl (cI, 14, .inl (fun _ => 0)))] H := hP
    replace hD : va_D A [(o, .inr (3, [.ref k, .ref op, .int 0, .ref oq, .ref ov, .ref os])), (os, .inl (cI, 5, .inl (upd (upd (upd (upd (upd (upd (upd (upd (fun _ => 0) 0 0) 1 0) 2 0) 3 0) 4 0) 0 2) 0 4) 0 6))), (k, .inr (0, [.ref ks, .ref kw, .ref kc, .int (-6), .int 0, .int 0, .ref kq, .ref km, .ref kd, .int 0, .ref ka, .ref kk])), (ks, .inl (cI, 5, .inl (upd (fun _ => 0) 0 800))), (kw, .inl (cI, 14, .inl (fun _ => 0)))] := hD
    obtain rfl : r229 = 0 := hq229
    refine lv_dup2_11 hx hb dX3_countSlots_48 rfl rfl ?_
    refine va_iald hx hb hK hP 1 0 rfl rfl (vin (by decide) (by decide)) dX3_countSlots_49 ?_
    refine lv_topi (fun x230 e230 => ?_)
    obtain rfl : x230 = 6 := e230.trans (by first | rfl | decide)
    refine lv_iconst (v := 2) hx hb dX3_countSlots_50 (by decide) ?_
    refine lv_iadd hx hb dX3_countSlots_51 ?_
    refine lv_topi (fun x231 e231 => ?_)
    obtain rfl : x231 = 8 := e231.trans (by decide)
    refine va_iast hx hb hK hP hD hS 1 0 rfl rfl (vin (by decide) (by decide)) dX3_countSlots_52 (fun H locs hP hD hS => ?_)
    replace hP : va_P (dC, dI) vwCl [(o, .inr (3, [.ref k, .ref op, .int 0, .ref oq, .ref ov, .ref os])), (os, .inl (cI, 5, .inl (upd (upd (upd (upd (upd (upd (upd (upd (upd (fun _ => 0) 0 0) 1 0) 2 0) 3 0) 4 0) 0 2) 0 4) 0 6) 0 8))), (k, .inr (0, [.ref ks, .ref kw, .ref kc, .int (-6), .int 0, .int 0, .ref kq, .ref km, .ref kd, .int 0, .ref ka, .ref kk])), (ks, .inl (cI, 5, .inl (upd (fun _ => 0) 0 800))), (kw, .inl (cI, 14, .inl (fun _ => 0)))] H := hP
    replace hD : va_D A [(o, .inr (3, [.ref k, .ref op, .int 0, .ref oq, .ref ov, .ref os])), (os, .inl (cI, 5, .inl (upd (upd (upd (upd (upd (upd (upd (upd (upd (fun _ => 0) 0 0) 1 0) 2 0) 3 0) 4 0) 0 2) 0 4) 0 6) 0 8))), (k, .inr (0, [.ref ks, .ref kw, .ref kc, .int (-6), .int 0, .int 0, .ref kq, .ref km, .ref kd, .int 0, .ref ka, .ref kk])), (ks, .inl (cI, 5, .inl (upd (fun _ => 0) 0 800))), (kw, .inl (cI, 14, .inl (fun _ => 0)))] := hD
    refine lv_iinc (v := 4) (lv' := [(2, .int 4), (0, .ref o), (1, .int 8)]) hx hb dX3_countSlots_53 hl (k := 0) rfl (by decide) (by decide) rfl (fun ls hl => ?_)
    refine lv_goto (tgt := 30) hx hb dX3_countSlots_56 (by decide) ?_
    refine lv_iload_n hx hb dX3_countSlots_30 rfl (lv_at hl 0 rfl) ?_
    refine lv_iload_n hx hb dX3_countSlots_31 rfl (lv_at hl 2 rfl) ?_
    refine lv_icmp_gt (tgt := 59) hx hb dX3_countSlots_32 (by decide) (fun c232 => absurd c232 (by decide)) (fun c232 => ?_)
    refine lv_aload_n hx hb dX3_countSlots_35 rfl (lv_at hl 1 rfl) ?_
    refine va_get (D := (dC, dI)) (ci := 3) (v := .ref os) (C := RX3) (T := TX3) (N := 6) hx hb hts hin3 hown hK hP 0 rfl rfl 5 (by decide) hw0 (fun _ h9 => h9) rfl dX3_countSlots_36 ?_
    refine lv_aload_n hx hb dX3_countSlots_39 rfl (lv_at hl 1 rfl) ?_
    refine va_get (D := (dC, dI)) (ci := 3) (v := .ref k) (C := RX3) (T := TX3) (N := 6) hx hb hts hin3 hown hK hP 0 rfl rfl 0 (by decide) hw1 (fun _ h9 => h9) rfl dX3_countSlots_40 ?_
    refine lv_iload_n hx hb dX3_countSlots_43 rfl (lv_at hl 0 rfl) ?_
    refine lv_iconst (v := 0) hx hb dX3_countSlots_44 (by decide) ?_
    refine mx_i (wr := [(o, .inr (3, [.ref k, .ref op, .int 0, .ref oq, .ref ov, .ref os])), (os, .inl (cI, 5, .inl (upd (upd (upd (upd (upd (upd (upd (upd (upd (fun _ => 0) 0 0) 1 0) 2 0) 3 0) 4 0) 0 2) 0 4) 0 6) 0 8)))]) (va_runV (As := [.int 4, .int 0]) (rest := [.ref os]) ⟨hx, hb, hml, hown, hts⟩ (c_X0_windOn l dC dI cI cZ cK tS aK aV k ks kw kc kq km kd ka kk 4 H.size (by have z8 : (4 : Int32).toInt = 4 := rfl; first | omega | decide | assumption | trivial)) (cwV 2 hts (gw_v (fun _ h9 => List.mem_cons_of_mem _ h9) wm_169 wm_170 wm_171 wm_10 wm_172) rfl rfl rfl (by decide +kernel) ⟨Nat.le_of_ble_eq_true rfl, Nat.le_of_ble_eq_true rfl⟩) (mx_preV (C := RX0) (T := TX0) (N := 12) (ci := 0) hKx hP hD hS hA [2, 3, 4] (by decide) rfl rfl rfl) rfl rfl hl.1 rfl (lv_room (Nat.le_of_ble_eq_true rfl)) dX3_countSlots_45 ⟨Nat.le_of_ble_eq_true rfl, Nat.le_of_ble_eq_true rfl⟩) hP hD hS hA [2, 3, 4] [0, 1] rfl rfl (by decide) (by decide) (fun r233 u233 H locs hq233 hP hD hS => ?_)
    replace hP : va_P (dC, dI) vwCl [(o, .inr (3, [.ref k, .ref op, .int 0, .ref oq, .ref ov, .ref os])), (os, .inl (cI, 5, .inl (upd (upd (upd (upd (upd (upd (upd (upd (upd (fun _ => 0) 0 0) 1 0) 2 0) 3 0) 4 0) 0 2) 0 4) 0 6) 0 8))), (k, .inr (0, [.ref ks, .ref kw, .ref kc, .int (-6), .int 0, .int 0, .ref kq, .ref km, .ref kd, .int 0, .ref ka, .ref kk])), (ks, .inl (cI, 5, .inl (upd (fun _ => 0) 0 800))), (kw, .inl (cI, 14, .inl (fun _ => 0)))] H := hP
    replace hD : va_D A [(o, .inr (3, [.ref k, .ref op, .int 0, .ref oq, .ref ov, .ref os])), (os, .inl (cI, 5, .inl (upd (upd (upd (upd (upd (upd (upd (upd (upd (fun _ => 0) 0 0) 1 0) 2 0) 3 0) 4 0) 0 2) 0 4) 0 6) 0 8))), (k, .inr (0, [.ref ks, .ref kw, .ref kc, .int (-6), .int 0, .int 0, .ref kq, .ref km, .ref kd, .int 0, .ref ka, .ref kk])), (ks, .inl (cI, 5, .inl (upd (fun _ => 0) 0 800))), (kw, .inl (cI, 14, .inl (fun _ => 0)))] := hD
    obtain rfl : r233 = 0 := hq233
    refine lv_dup2_11 hx hb dX3_countSlots_48 rfl rfl ?_
    refine va_iald hx hb hK hP 1 0 rfl rfl (vin (by decide) (by decide)) dX3_countSlots_49 ?_
    refine lv_topi (fun x234 e234 => ?_)
    obtain rfl : x234 = 8 := e234.trans (by first | rfl | decide)
    refine lv_iconst (v := 2) hx hb dX3_countSlots_50 (by decide) ?_
    refine lv_iadd hx hb dX3_countSlots_51 ?_
    refine lv_topi (fun x235 e235 => ?_)
    obtain rfl : x235 = 10 := e235.trans (by decide)
    refine va_iast hx hb hK hP hD hS 1 0 rfl rfl (vin (by decide) (by decide)) dX3_countSlots_52 (fun H locs hP hD hS => ?_)
    replace hP : va_P (dC, dI) vwCl [(o, .inr (3, [.ref k, .ref op, .int 0, .ref oq, .ref ov, .ref os])), (os, .inl (cI, 5, .inl (upd (upd (upd (upd (upd (upd (upd (upd (upd (upd (fun _ => 0) 0 0) 1 0) 2 0) 3 0) 4 0) 0 2) 0 4) 0 6) 0 8) 0 10))), (k, .inr (0, [.ref ks, .ref kw, .ref kc, .int (-6), .int 0, .int 0, .ref kq, .ref km, .ref kd, .int 0, .ref ka, .ref kk])), (ks, .inl (cI, 5, .inl (upd (fun _ => 0) 0 800))), (kw, .inl (cI, 14, .inl (fun _ => 0)))] H := hP
    replace hD : va_D A [(o, .inr (3, [.ref k, .ref op, .int 0, .ref oq, .ref ov, .ref os])), (os, .inl (cI, 5, .inl (upd (upd (upd (upd (upd (upd (upd (upd (upd (upd (fun _ => 0) 0 0) 1 0) 2 0) 3 0) 4 0) 0 2) 0 4) 0 6) 0 8) 0 10))), (k, .inr (0, [.ref ks, .ref kw, .ref kc, .int (-6), .int 0, .int 0, .ref kq, .ref km, .ref kd, .int 0, .ref ka, .ref kk])), (ks, .inl (cI, 5, .inl (upd (fun _ => 0) 0 800))), (kw, .inl (cI, 14, .inl (fun _ => 0)))] := hD
    refine lv_iinc (v := 5) (lv' := [(2, .int 5), (0, .ref o), (1, .int 8)]) hx hb dX3_countSlots_53 hl (k := 0) rfl (by decide) (by decide) rfl (fun ls hl => ?_)
    refine lv_goto (tgt := 30) hx hb dX3_countSlots_56 (by decide) ?_
    refine lv_iload_n hx hb dX3_countSlots_30 rfl (lv_at hl 0 rfl) ?_
    refine lv_iload_n hx hb dX3_countSlots_31 rfl (lv_at hl 2 rfl) ?_
    refine lv_icmp_gt (tgt := 59) hx hb dX3_countSlots_32 (by decide) (fun c236 => absurd c236 (by decide)) (fun c236 => ?_)
    refine lv_aload_n hx hb dX3_countSlots_35 rfl (lv_at hl 1 rfl) ?_
    refine va_get (D := (dC, dI)) (ci := 3) (v := .ref os) (C := RX3) (T := TX3) (N := 6) hx hb hts hin3 hown hK hP 0 rfl rfl 5 (by decide) hw0 (fun _ h9 => h9) rfl dX3_countSlots_36 ?_
    refine lv_aload_n hx hb dX3_countSlots_39 rfl (lv_at hl 1 rfl) ?_
    refine va_get (D := (dC, dI)) (ci := 3) (v := .ref k) (C := RX3) (T := TX3) (N := 6) hx hb hts hin3 hown hK hP 0 rfl rfl 0 (by decide) hw1 (fun _ h9 => h9) rfl dX3_countSlots_40 ?_
    refine lv_iload_n hx hb dX3_countSlots_43 rfl (lv_at hl 0 rfl) ?_
    refine lv_iconst (v := 0) hx hb dX3_countSlots_44 (by decide) ?_
    refine mx_i (wr := [(o, .inr (3, [.ref k, .ref op, .int 0, .ref oq, .ref ov, .ref os])), (os, .inl (cI, 5, .inl (upd (upd (upd (upd (upd (upd (upd (upd (upd (upd (fun _ => 0) 0 0) 1 0) 2 0) 3 0) 4 0) 0 2) 0 4) 0 6) 0 8) 0 10)))]) (va_runV (As := [.int 5, .int 0]) (rest := [.ref os]) ⟨hx, hb, hml, hown, hts⟩ (c_X0_windOn l dC dI cI cZ cK tS aK aV k ks kw kc kq km kd ka kk 5 H.size (by have z8 : (5 : Int32).toInt = 5 := rfl; first | omega | decide | assumption | trivial)) (cwV 2 hts (gw_v (fun _ h9 => List.mem_cons_of_mem _ h9) wm_169 wm_170 wm_171 wm_10 wm_172) rfl rfl rfl (by decide +kernel) ⟨Nat.le_of_ble_eq_true rfl, Nat.le_of_ble_eq_true rfl⟩) (mx_preV (C := RX0) (T := TX0) (N := 12) (ci := 0) hKx hP hD hS hA [2, 3, 4] (by decide) rfl rfl rfl) rfl rfl hl.1 rfl (lv_room (Nat.le_of_ble_eq_true rfl)) dX3_countSlots_45 ⟨Nat.le_of_ble_eq_true rfl, Nat.le_of_ble_eq_true rfl⟩) hP hD hS hA [2, 3, 4] [0, 1] rfl rfl (by decide) (by decide) (fun r237 u237 H locs hq237 hP hD hS => ?_)
    replace hP : va_P (dC, dI) vwCl [(o, .inr (3, [.ref k, .ref op, .int 0, .ref oq, .ref ov, .ref os])), (os, .inl (cI, 5, .inl (upd (upd (upd (upd (upd (upd (upd (upd (upd (upd (fun _ => 0) 0 0) 1 0) 2 0) 3 0) 4 0) 0 2) 0 4) 0 6) 0 8) 0 10))), (k, .inr (0, [.ref ks, .ref kw, .ref kc, .int (-6), .int 0, .int 0, .ref kq, .ref km, .ref kd, .int 0, .ref ka, .ref kk])), (ks, .inl (cI, 5, .inl (upd (fun _ => 0) 0 800))), (kw, .inl (cI, 14, .inl (fun _ => 0)))] H := hP
    replace hD : va_D A [(o, .inr (3, [.ref k, .ref op, .int 0, .ref oq, .ref ov, .ref os])), (os, .inl (cI, 5, .inl (upd (upd (upd (upd (upd (upd (upd (upd (upd (upd (fun _ => 0) 0 0) 1 0) 2 0) 3 0) 4 0) 0 2) 0 4) 0 6) 0 8) 0 10))), (k, .inr (0, [.ref ks, .ref kw, .ref kc, .int (-6), .int 0, .int 0, .ref kq, .ref km, .ref kd, .int 0, .ref ka, .ref kk])), (ks, .inl (cI, 5, .inl (upd (fun _ => 0) 0 800))), (kw, .inl (cI, 14, .inl (fun _ => 0)))] := hD
    obtain rfl : r237 = 0 := hq237
    refine lv_dup2_11 hx hb dX3_countSlots_48 rfl rfl ?_
    refine va_iald hx hb hK hP 1 0 rfl rfl (vin (by decide) (by decide)) dX3_countSlots_49 ?_
    refine lv_topi (fun x238 e238 => ?_)
    obtain rfl : x238 = 10 := e238.trans (by first | rfl | decide)
    refine lv_iconst (v := 2) hx hb dX3_countSlots_50 (by decide) ?_
    refine lv_iadd hx hb dX3_countSlots_51 ?_
    refine lv_topi (fun x239 e239 => ?_)
    obtain rfl : x239 = 12 := e239.trans (by decide)
    refine va_iast hx hb hK hP hD hS 1 0 rfl rfl (vin (by decide) (by decide)) dX3_countSlots_52 (fun H locs hP hD hS => ?_)
    replace hP : va_P (dC, dI) vwCl [(o, .inr (3, [.ref k, .ref op, .int 0, .ref oq, .ref ov, .ref os])), (os, .inl (cI, 5, .inl (upd (upd (upd (upd (upd (upd (upd (upd (upd (upd (upd (fun _ => 0) 0 0) 1 0) 2 0) 3 0) 4 0) 0 2) 0 4) 0 6) 0 8) 0 10) 0 12))), (k, .inr (0, [.ref ks, .ref kw, .ref kc, .int (-6), .int 0, .int 0, .ref kq, .ref km, .ref kd, .int 0, .ref ka, .ref kk])), (ks, .inl (cI, 5, .inl (upd (fun _ => 0) 0 800))), (kw, .inl (cI, 14, .inl (fun _ => 0)))] H := hP
    replace hD : va_D A [(o, .inr (3, [.ref k, .ref op, .int 0, .ref oq, .ref ov, .ref os])), (os, .inl (cI, 5, .inl (upd (upd (upd (upd (upd (upd (upd (upd (upd (upd (upd (fun _ => 0) 0 0) 1 0) 2 0) 3 0) 4 0) 0 2) 0 4) 0 6) 0 8) 0 10) 0 12))), (k, .inr (0, [.ref ks, .ref kw, .ref kc, .int (-6), .int 0, .int 0, .ref kq, .ref km, .ref kd, .int 0, .ref ka, .ref kk])), (ks, .inl (cI, 5, .inl (upd (fun _ => 0) 0 800))), (kw, .inl (cI, 14, .inl (fun _ => 0)))] := hD
    refine lv_iinc (v := 6) (lv' := [(2, .int 6), (0, .ref o), (1, .int 8)]) hx hb dX3_countSlots_53 hl (k := 0) rfl (by decide) (by decide) rfl (fun ls hl => ?_)
    refine lv_goto (tgt := 30) hx hb dX3_countSlots_56 (by decide) ?_
    refine lv_iload_n hx hb dX3_countSlots_30 rfl (lv_at hl 0 rfl) ?_
    refine lv_iload_n hx hb dX3_countSlots_31 rfl (lv_at hl 2 rfl) ?_
    refine lv_icmp_gt (tgt := 59) hx hb dX3_countSlots_32 (by decide) (fun c240 => absurd c240 (by decide)) (fun c240 => ?_)
    refine lv_aload_n hx hb dX3_countSlots_35 rfl (lv_at hl 1 rfl) ?_
    refine va_get (D := (dC, dI)) (ci := 3) (v := .ref os) (C := RX3) (T := TX3) (N := 6) hx hb hts hin3 hown hK hP 0 rfl rfl 5 (by decide) hw0 (fun _ h9 => h9) rfl dX3_countSlots_36 ?_
    refine lv_aload_n hx hb dX3_countSlots_39 rfl (lv_at hl 1 rfl) ?_
    refine va_get (D := (dC, dI)) (ci := 3) (v := .ref k) (C := RX3) (T := TX3) (N := 6) hx hb hts hin3 hown hK hP 0 rfl rfl 0 (by decide) hw1 (fun _ h9 => h9) rfl dX3_countSlots_40 ?_
    refine lv_iload_n hx hb dX3_countSlots_43 rfl (lv_at hl 0 rfl) ?_
    refine lv_iconst (v := 0) hx hb dX3_countSlots_44 (by decide) ?_
    refine mx_i (wr := [(o, .inr (3, [.ref k, .ref op, .int 0, .ref oq, .ref ov, .ref os])), (os, .inl (cI, 5, .inl (upd (upd (upd (upd (upd (upd (upd (upd (upd (upd (upd (fun _ => 0) 0 0) 1 0) 2 0) 3 0) 4 0) 0 2) 0 4) 0 6) 0 8) 0 10) 0 12)))]) (va_runV (As := [.int 6, .int 0]) (rest := [.ref os]) ⟨hx, hb, hml, hown, hts⟩ (c_X0_windOn l dC dI cI cZ cK tS aK aV k ks kw kc kq km kd ka kk 6 H.size (by have z8 : (6 : Int32).toInt = 6 := rfl; first | omega | decide | assumption | trivial)) (cwV 2 hts (gw_v (fun _ h9 => List.mem_cons_of_mem _ h9) wm_169 wm_170 wm_171 wm_10 wm_172) rfl rfl rfl (by decide +kernel) ⟨Nat.le_of_ble_eq_true rfl, Nat.le_of_ble_eq_true rfl⟩) (mx_preV (C := RX0) (T := TX0) (N := 12) (ci := 0) hKx hP hD hS hA [2, 3, 4] (by decide) rfl rfl rfl) rfl rfl hl.1 rfl (lv_room (Nat.le_of_ble_eq_true rfl)) dX3_countSlots_45 ⟨Nat.le_of_ble_eq_true rfl, Nat.le_of_ble_eq_true rfl⟩) hP hD hS hA [2, 3, 4] [0, 1] rfl rfl (by decide) (by decide) (fun r241 u241 H locs hq241 hP hD hS => ?_)
    replace hP : va_P (dC, dI) vwCl [(o, .inr (3, [.ref k, .ref op, .int 0, .ref oq, .ref ov, .ref os])), (os, .inl (cI, 5, .inl (upd (upd (upd (upd (upd (upd (upd (upd (upd (upd (upd (fun _ => 0) 0 0) 1 0) 2 0) 3 0) 4 0) 0 2) 0 4) 0 6) 0 8) 0 10) 0 12))), (k, .inr (0, [.ref ks, .ref kw, .ref kc, .int (-6), .int 0, .int 0, .ref kq, .ref km, .ref kd, .int 0, .ref ka, .ref kk])), (ks, .inl (cI, 5, .inl (upd (fun _ => 0) 0 800))), (kw, .inl (cI, 14, .inl (fun _ => 0)))] H := hP
    replace hD : va_D A [(o, .inr (3, [.ref k, .ref op, .int 0, .ref oq, .ref ov, .ref os])), (os, .inl (cI, 5, .inl (upd (upd (upd (upd (upd (upd (upd (upd (upd (upd (upd (fun _ => 0) 0 0) 1 0) 2 0) 3 0) 4 0) 0 2) 0 4) 0 6) 0 8) 0 10) 0 12))), (k, .inr (0, [.ref ks, .ref kw, .ref kc, .int (-6), .int 0, .int 0, .ref kq, .ref km, .ref kd, .int 0, .ref ka, .ref kk])), (ks, .inl (cI, 5, .inl (upd (fun _ => 0) 0 800))), (kw, .inl (cI, 14, .inl (fun _ => 0)))] := hD
    obtain rfl : r241 = 0 := hq241
    refine lv_dup2_11 hx hb dX3_countSlots_48 rfl rfl ?_
    refine va_iald hx hb hK hP 1 0 rfl rfl (vin (by decide) (by decide)) dX3_countSlots_49 ?_
    refine lv_topi (fun x242 e242 => ?_)
    obtain rfl : x242 = 12 := e242.trans (by first | rfl | decide)
    refine lv_iconst (v := 2) hx hb dX3_countSlots_50 (by decide) ?_
    refine lv_iadd hx hb dX3_countSlots_51 ?_
    refine lv_topi (fun x243 e243 => ?_)
    obtain rfl : x243 = 14 := e243.trans (by decide)
    refine va_iast hx hb hK hP hD hS 1 0 rfl rfl (vin (by decide) (by decide)) dX3_countSlots_52 (fun H locs hP hD hS => ?_)
    replace hP : va_P (dC, dI) vwCl [(o, .inr (3, [.ref k, .ref op, .int 0, .ref oq, .ref ov, .ref os])), (os, .inl (cI, 5, .inl (upd (upd (upd (upd (upd (upd (upd (upd (upd (upd (upd (upd (fun _ => 0) 0 0) 1 0) 2 0) 3 0) 4 0) 0 2) 0 4) 0 6) 0 8) 0 10) 0 12) 0 14))), (k, .inr (0, [.ref ks, .ref kw, .ref kc, .int (-6), .int 0, .int 0, .ref kq, .ref km, .ref kd, .int 0, .ref ka, .ref kk])), (ks, .inl (cI, 5, .inl (upd (fun _ => 0) 0 800))), (kw, .inl (cI, 14, .inl (fun _ => 0)))] H := hP
    replace hD : va_D A [(o, .inr (3, [.ref k, .ref op, .int 0, .ref oq, .ref ov, .ref os])), (os, .inl (cI, 5, .inl (upd (upd (upd (upd (upd (upd (upd (upd (upd (upd (upd (upd (fun _ => 0) 0 0) 1 0) 2 0) 3 0) 4 0) 0 2) 0 4) 0 6) 0 8) 0 10) 0 12) 0 14))), (k, .inr (0, [.ref ks, .ref kw, .ref kc, .int (-6), .int 0, .int 0, .ref kq, .ref km, .ref kd, .int 0, .ref ka, .ref kk])), (ks, .inl (cI, 5, .inl (upd (fun _ => 0) 0 800))), (kw, .inl (cI, 14, .inl (fun _ => 0)))] := hD
    refine lv_iinc (v := 7) (lv' := [(2, .int 7), (0, .ref o), (1, .int 8)]) hx hb dX3_countSlots_53 hl (k := 0) rfl (by decide) (by decide) rfl (fun ls hl => ?_)
    refine lv_goto (tgt := 30) hx hb dX3_countSlots_56 (by decide) ?_
    refine lv_iload_n hx hb dX3_countSlots_30 rfl (lv_at hl 0 rfl) ?_
    refine lv_iload_n hx hb dX3_countSlots_31 rfl (lv_at hl 2 rfl) ?_
    refine lv_icmp_gt (tgt := 59) hx hb dX3_countSlots_32 (by decide) (fun c244 => absurd c244 (by decide)) (fun c244 => ?_)
    refine lv_aload_n hx hb dX3_countSlots_35 rfl (lv_at hl 1 rfl) ?_
    refine va_get (D := (dC, dI)) (ci := 3) (v := .ref os) (C := RX3) (T := TX3) (N := 6) hx hb hts hin3 hown hK hP 0 rfl rfl 5 (by decide) hw0 (fun _ h9 => h9) rfl dX3_countSlots_36 ?_
    refine lv_aload_n hx hb dX3_countSlots_39 rfl (lv_at hl 1 rfl) ?_
    refine va_get (D := (dC, dI)) (ci := 3) (v := .ref k) (C := RX3) (T := TX3) (N := 6) hx hb hts hin3 hown hK hP 0 rfl rfl 0 (by decide) hw1 (fun _ h9 => h9) rfl dX3_countSlots_40 ?_
    refine lv_iload_n hx hb dX3_countSlots_43 rfl (lv_at hl 0 rfl) ?_
    refine lv_iconst (v := 0) hx hb dX3_countSlots_44 (by decide) ?_
    refine mx_i (wr := [(o, .inr (3, [.ref k, .ref op, .int 0, .ref oq, .ref ov, .ref os])), (os, .inl (cI, 5, .inl (upd (upd (upd (upd (upd (upd (upd (upd (upd (upd (upd (upd (fun _ => 0) 0 0) 1 0) 2 0) 3 0) 4 0) 0 2) 0 4) 0 6) 0 8) 0 10) 0 12) 0 14)))]) (va_runV (As := [.int 7, .int 0]) (rest := [.ref os]) ⟨hx, hb, hml, hown, hts⟩ (c_X0_windOn l dC dI cI cZ cK tS aK aV k ks kw kc kq km kd ka kk 7 H.size (by have z8 : (7 : Int32).toInt = 7 := rfl; first | omega | decide | assumption | trivial)) (cwV 2 hts (gw_v (fun _ h9 => List.mem_cons_of_mem _ h9) wm_169 wm_170 wm_171 wm_10 wm_172) rfl rfl rfl (by decide +kernel) ⟨Nat.le_of_ble_eq_true rfl, Nat.le_of_ble_eq_true rfl⟩) (mx_preV (C := RX0) (T := TX0) (N := 12) (ci := 0) hKx hP hD hS hA [2, 3, 4] (by decide) rfl rfl rfl) rfl rfl hl.1 rfl (lv_room (Nat.le_of_ble_eq_true rfl)) dX3_countSlots_45 ⟨Nat.le_of_ble_eq_true rfl, Nat.le_of_ble_eq_true rfl⟩) hP hD hS hA [2, 3, 4] [0, 1] rfl rfl (by decide) (by decide) (fun r245 u245 H locs hq245 hP hD hS => ?_)
    replace hP : va_P (dC, dI) vwCl [(o, .inr (3, [.ref k, .ref op, .int 0, .ref oq, .ref ov, .ref os])), (os, .inl (cI, 5, .inl (upd (upd (upd (upd (upd (upd (upd (upd (upd (upd (upd (upd (fun _ => 0) 0 0) 1 0) 2 0) 3 0) 4 0) 0 2) 0 4) 0 6) 0 8) 0 10) 0 12) 0 14))), (k, .inr (0, [.ref ks, .ref kw, .ref kc, .int (-6), .int 0, .int 0, .ref kq, .ref km, .ref kd, .int 0, .ref ka, .ref kk])), (ks, .inl (cI, 5, .inl (upd (fun _ => 0) 0 800))), (kw, .inl (cI, 14, .inl (fun _ => 0)))] H := hP
    replace hD : va_D A [(o, .inr (3, [.ref k, .ref op, .int 0, .ref oq, .ref ov, .ref os])), (os, .inl (cI, 5, .inl (upd (upd (upd (upd (upd (upd (upd (upd (upd (upd (upd (upd (fun _ => 0) 0 0) 1 0) 2 0) 3 0) 4 0) 0 2) 0 4) 0 6) 0 8) 0 10) 0 12) 0 14))), (k, .inr (0, [.ref ks, .ref kw, .ref kc, .int (-6), .int 0, .int 0, .ref kq, .ref km, .ref kd, .int 0, .ref ka, .ref kk])), (ks, .inl (cI, 5, .inl (upd (fun _ => 0) 0 800))), (kw, .inl (cI, 14, .inl (fun _ => 0)))] := hD
    obtain rfl : r245 = 0 := hq245
    refine lv_dup2_11 hx hb dX3_countSlots_48 rfl rfl ?_
    refine va_iald hx hb hK hP 1 0 rfl rfl (vin (by decide) (by decide)) dX3_countSlots_49 ?_
    refine lv_topi (fun x246 e246 => ?_)
    obtain rfl : x246 = 14 := e246.trans (by first | rfl | decide)
    refine lv_iconst (v := 2) hx hb dX3_countSlots_50 (by decide) ?_
    refine lv_iadd hx hb dX3_countSlots_51 ?_
    refine lv_topi (fun x247 e247 => ?_)
    obtain rfl : x247 = 16 := e247.trans (by decide)
    refine va_iast hx hb hK hP hD hS 1 0 rfl rfl (vin (by decide) (by decide)) dX3_countSlots_52 (fun H locs hP hD hS => ?_)
    replace hP : va_P (dC, dI) vwCl [(o, .inr (3, [.ref k, .ref op, .int 0, .ref oq, .ref ov, .ref os])), (os, .inl (cI, 5, .inl (upd (upd (upd (upd (upd (upd (upd (upd (upd (upd (upd (upd (upd (fun _ => 0) 0 0) 1 0) 2 0) 3 0) 4 0) 0 2) 0 4) 0 6) 0 8) 0 10) 0 12) 0 14) 0 16))), (k, .inr (0, [.ref ks, .ref kw, .ref kc, .int (-6), .int 0, .int 0, .ref kq, .ref km, .ref kd, .int 0, .ref ka, .ref kk])), (ks, .inl (cI, 5, .inl (upd (fun _ => 0) 0 800))), (kw, .inl (cI, 14, .inl (fun _ => 0)))] H := hP
    replace hD : va_D A [(o, .inr (3, [.ref k, .ref op, .int 0, .ref oq, .ref ov, .ref os])), (os, .inl (cI, 5, .inl (upd (upd (upd (upd (upd (upd (upd (upd (upd (upd (upd (upd (upd (fun _ => 0) 0 0) 1 0) 2 0) 3 0) 4 0) 0 2) 0 4) 0 6) 0 8) 0 10) 0 12) 0 14) 0 16))), (k, .inr (0, [.ref ks, .ref kw, .ref kc, .int (-6), .int 0, .int 0, .ref kq, .ref km, .ref kd, .int 0, .ref ka, .ref kk])), (ks, .inl (cI, 5, .inl (upd (fun _ => 0) 0 800))), (kw, .inl (cI, 14, .inl (fun _ => 0)))] := hD
    refine lv_iinc (v := 8) (lv' := [(2, .int 8), (0, .ref o), (1, .int 8)]) hx hb dX3_countSlots_53 hl (k := 0) rfl (by decide) (by decide) rfl (fun ls hl => ?_)
    refine lv_goto (tgt := 30) hx hb dX3_countSlots_56 (by decide) ?_
    refine lv_iload_n hx hb dX3_countSlots_30 rfl (lv_at hl 0 rfl) ?_
    refine lv_iload_n hx hb dX3_countSlots_31 rfl (lv_at hl 2 rfl) ?_
    refine lv_icmp_gt (tgt := 59) hx hb dX3_countSlots_32 (by decide) (fun c248 => absurd c248 (by decide)) (fun c248 => ?_)
    refine lv_aload_n hx hb dX3_countSlots_35 rfl (lv_at hl 1 rfl) ?_
    refine va_get (D := (dC, dI)) (ci := 3) (v := .ref os) (C := RX3) (T := TX3) (N := 6) hx hb hts hin3 hown hK hP 0 rfl rfl 5 (by decide) hw0 (fun _ h9 => h9) rfl dX3_countSlots_36 ?_
    refine lv_aload_n hx hb dX3_countSlots_39 rfl (lv_at hl 1 rfl) ?_
    refine va_get (D := (dC, dI)) (ci := 3) (v := .ref k) (C := RX3) (T := TX3) (N := 6) hx hb hts hin3 hown hK hP 0 rfl rfl 0 (by decide) hw1 (fun _ h9 => h9) rfl dX3_countSlots_40 ?_
    refine lv_iload_n hx hb dX3_countSlots_43 rfl (lv_at hl 0 rfl) ?_
    refine lv_iconst (v := 0) hx hb dX3_countSlots_44 (by decide) ?_
    refine mx_i (wr := [(o, .inr (3, [.ref k, .ref op, .int 0, .ref oq, .ref ov, .ref os])), (os, .inl (cI, 5, .inl (upd (upd (upd (upd (upd (upd (upd (upd (upd (upd (upd (upd (upd (fun _ => 0) 0 0) 1 0) 2 0) 3 0) 4 0) 0 2) 0 4) 0 6) 0 8) 0 10) 0 12) 0 14) 0 16)))]) (va_runV (As := [.int 8, .int 0]) (rest := [.ref os]) ⟨hx, hb, hml, hown, hts⟩ (c_X0_windOn l dC dI cI cZ cK tS aK aV k ks kw kc kq km kd ka kk 8 H.size (by have z8 : (8 : Int32).toInt = 8 := rfl; first | omega | decide | assumption | trivial)) (cwV 2 hts (gw_v (fun _ h9 => List.mem_cons_of_mem _ h9) wm_169 wm_170 wm_171 wm_10 wm_172) rfl rfl rfl (by decide +kernel) ⟨Nat.le_of_ble_eq_true rfl, Nat.le_of_ble_eq_true rfl⟩) (mx_preV (C := RX0) (T := TX0) (N := 12) (ci := 0) hKx hP hD hS hA [2, 3, 4] (by decide) rfl rfl rfl) rfl rfl hl.1 rfl (lv_room (Nat.le_of_ble_eq_true rfl)) dX3_countSlots_45 ⟨Nat.le_of_ble_eq_true rfl, Nat.le_of_ble_eq_true rfl⟩) hP hD hS hA [2, 3, 4] [0, 1] rfl rfl (by decide) (by decide) (fun r249 u249 H locs hq249 hP hD hS => ?_)
    replace hP : va_P (dC, dI) vwCl [(o, .inr (3, [.ref k, .ref op, .int 0, .ref oq, .ref ov, .ref os])), (os, .inl (cI, 5, .inl (upd (upd (upd (upd (upd (upd (upd (upd (upd (upd (upd (upd (upd (fun _ => 0) 0 0) 1 0) 2 0) 3 0) 4 0) 0 2) 0 4) 0 6) 0 8) 0 10) 0 12) 0 14) 0 16))), (k, .inr (0, [.ref ks, .ref kw, .ref kc, .int (-6), .int 0, .int 0, .ref kq, .ref km, .ref kd, .int 0, .ref ka, .ref kk])), (ks, .inl (cI, 5, .inl (upd (fun _ => 0) 0 800))), (kw, .inl (cI, 14, .inl (fun _ => 0)))] H := hP
    replace hD : va_D A [(o, .inr (3, [.ref k, .ref op, .int 0, .ref oq, .ref ov, .ref os])), (os, .inl (cI, 5, .inl (upd (upd (upd (upd (upd (upd (upd (upd (upd (upd (upd (upd (upd (fun _ => 0) 0 0) 1 0) 2 0) 3 0) 4 0) 0 2) 0 4) 0 6) 0 8) 0 10) 0 12) 0 14) 0 16))), (k, .inr (0, [.ref ks, .ref kw, .ref kc, .int (-6), .int 0, .int 0, .ref kq, .ref km, .ref kd, .int 0, .ref ka, .ref kk])), (ks, .inl (cI, 5, .inl (upd (fun _ => 0) 0 800))), (kw, .inl (cI, 14, .inl (fun _ => 0)))] := hD
    obtain rfl : r249 = 0 := hq249
    refine lv_dup2_11 hx hb dX3_countSlots_48 rfl rfl ?_
    refine va_iald hx hb hK hP 1 0 rfl rfl (vin (by decide) (by decide)) dX3_countSlots_49 ?_
    refine lv_topi (fun x250 e250 => ?_)
    obtain rfl : x250 = 16 := e250.trans (by first | rfl | decide)
    refine lv_iconst (v := 2) hx hb dX3_countSlots_50 (by decide) ?_
    refine lv_iadd hx hb dX3_countSlots_51 ?_
    refine lv_topi (fun x251 e251 => ?_)
    obtain rfl : x251 = 18 := e251.trans (by decide)
    refine va_iast hx hb hK hP hD hS 1 0 rfl rfl (vin (by decide) (by decide)) dX3_countSlots_52 (fun H locs hP hD hS => ?_)
    replace hP : va_P (dC, dI) vwCl [(o, .inr (3, [.ref k, .ref op, .int 0, .ref oq, .ref ov, .ref os])), (os, .inl (cI, 5, .inl (upd (upd (upd (upd (upd (upd (upd (upd (upd (upd (upd (upd (upd (upd (fun _ => 0) 0 0) 1 0) 2 0) 3 0) 4 0) 0 2) 0 4) 0 6) 0 8) 0 10) 0 12) 0 14) 0 16) 0 18))), (k, .inr (0, [.ref ks, .ref kw, .ref kc, .int (-6), .int 0, .int 0, .ref kq, .ref km, .ref kd, .int 0, .ref ka, .ref kk])), (ks, .inl (cI, 5, .inl (upd (fun _ => 0) 0 800))), (kw, .inl (cI, 14, .inl (fun _ => 0)))] H := hP
    replace hD : va_D A [(o, .inr (3, [.ref k, .ref op, .int 0, .ref oq, .ref ov, .ref os])), (os, .inl (cI, 5, .inl (upd (upd (upd (upd (upd (upd (upd (upd (upd (upd (upd (upd (upd (upd (fun _ => 0) 0 0) 1 0) 2 0) 3 0) 4 0) 0 2) 0 4) 0 6) 0 8) 0 10) 0 12) 0 14) 0 16) 0 18))), (k, .inr (0, [.ref ks, .ref kw, .ref kc, .int (-6), .int 0, .int 0, .ref kq, .ref km, .ref kd, .int 0, .ref ka, .ref kk])), (ks, .inl (cI, 5, .inl (upd (fun _ => 0) 0 800))), (kw, .inl (cI, 14, .inl (fun _ => 0)))] := hD
    refine lv_iinc (v := 9) (lv' := [(2, .int 9), (0, .ref o), (1, .int 8)]) hx hb dX3_countSlots_53 hl (k := 0) rfl (by decide) (by decide) rfl (fun ls hl => ?_)
    refine lv_goto (tgt := 30) hx hb dX3_countSlots_56 (by decide) ?_
    refine lv_iload_n hx hb dX3_countSlots_30 rfl (lv_at hl 0 rfl) ?_
    refine lv_iload_n hx hb dX3_countSlots_31 rfl (lv_at hl 2 rfl) ?_
    refine lv_icmp_gt (tgt := 59) hx hb dX3_countSlots_32 (by decide) (fun c252 => ?_) (fun c252 => absurd c252 (by decide))
    have hP9 := mx_subP (wc := [(o, .inr (3, [.ref k, .ref op, .int 0, .ref oq, .ref ov, .ref os])), (os, .inl (cI, 5, .inl (upd (upd (upd (upd (upd (upd (upd (upd (upd (upd (upd (upd (upd (upd (fun _ => 0) 0 0) 1 0) 2 0) 3 0) 4 0) 0 2) 0 4) 0 6) 0 8) 0 10) 0 12) 0 14) 0 16) 0 18))), (k, .inr (0, [.ref ks, .ref kw, .ref kc, .int (-6), .int 0, .int 0, .ref kq, .ref km, .ref kd, .int 0, .ref ka, .ref kk])), (ks, .inl (cI, 5, .inl (upd (fun _ => 0) 0 800))), (kw, .inl (cI, 14, .inl (fun _ => 0)))]) hP [0, 1, 2, 3, 4] rfl
    have hD9 := hD.sub (ws' := [(o, .inr (3, [.ref k, .ref op, .int 0, .ref oq, .ref ov, .ref os])), (os, .inl (cI, 5, .inl (upd (upd (upd (upd (upd (upd (upd (upd (upd (upd (upd (upd (upd (upd (fun _ => 0) 0 0) 1 0) 2 0) 3 0) 4 0) 0 2) 0 4) 0 6) 0 8) 0 10) 0 12) 0 14) 0 16) 0 18))), (k, .inr (0, [.ref ks, .ref kw, .ref kc, .int (-6), .int 0, .int 0, .ref kq, .ref km, .ref kd, .int 0, .ref ka, .ref kk])), (ks, .inl (cI, 5, .inl (upd (fun _ => 0) 0 800))), (kw, .inl (cI, 14, .inl (fun _ => 0)))]) [0, 1, 2, 3, 4] (by decide) rfl
    exact W.vret hx hb hr (fun t ht hW => ⟨⟨(upd (upd (upd (upd (upd (upd (upd (upd (upd (upd (upd (upd (upd (upd (fun _ => 0) 0 0) 1 0) 2 0) 3 0) 4 0) 0 2) 0 4) 0 6) 0 8) 0 10) 0 12) 0 14) 0 16) 0 18), rfl, (by refine ⟨?_, ?_, ?_, ?_, ?_, ?_, ?_, ?_, ?_, ?_⟩ <;> decide), by rw [ht]; exact hP9, hD9⟩, hS.F ht⟩) hS.2.2 dX3_countSlots_59
  · have z9 : (9 : Int32).toInt = 9 := rfl
    refine lv_iconst (v := 0) hx hb dX3_countSlots_0 (by decide) ?_
    refine lv_istore_n (lv' := [(2, .int 0), (0, .ref o), (1, .int 9)]) hx hb dX3_countSlots_1 rfl hl (by decide) rfl (fun ls hl => ?_)
    refine lv_iload_n hx hb dX3_countSlots_2 rfl (lv_at hl 0 rfl) ?_
    refine lv_iconst (v := 4) hx hb dX3_countSlots_3 (by decide) ?_
    refine lv_icmp_gt (tgt := 20) hx hb dX3_countSlots_4 (by decide) (fun c253 => absurd c253 (by decide)) (fun c253 => ?_)
    refine lv_aload_n hx hb dX3_countSlots_7 rfl (lv_at hl 1 rfl) ?_
    refine va_get (D := (dC, dI)) (ci := 3) (v := .ref os) (C := RX3) (T := TX3) (N := 6) hx hb hts hin3 hown hK hP 0 rfl rfl 5 (by decide) hw0 (fun _ h9 => h9) rfl dX3_countSlots_8 ?_
    refine lv_iload_n hx hb dX3_countSlots_11 rfl (lv_at hl 0 rfl) ?_
    refine lv_iconst (v := 0) hx hb dX3_countSlots_12 (by decide) ?_
    refine va_iast hx hb hK hP hD hS 1 0 rfl rfl (vin (by decide) (by decide)) dX3_countSlots_13 (fun H locs hP hD hS => ?_)
    replace hP : va_P (dC, dI) vwCl [(o, .inr (3, [.ref k, .ref op, .int 0, .ref oq, .ref ov, .ref os])), (os, .inl (cI, 5, .inl (upd (fun _ => 0) 0 0))), (k, .inr (0, [.ref ks, .ref kw, .ref kc, .int (-6), .int 0, .int 0, .ref kq, .ref km, .ref kd, .int 0, .ref ka, .ref kk])), (ks, .inl (cI, 5, .inl (upd (fun _ => 0) 0 800))), (kw, .inl (cI, 14, .inl (fun _ => 0)))] H := hP
    replace hD : va_D A [(o, .inr (3, [.ref k, .ref op, .int 0, .ref oq, .ref ov, .ref os])), (os, .inl (cI, 5, .inl (upd (fun _ => 0) 0 0))), (k, .inr (0, [.ref ks, .ref kw, .ref kc, .int (-6), .int 0, .int 0, .ref kq, .ref km, .ref kd, .int 0, .ref ka, .ref kk])), (ks, .inl (cI, 5, .inl (upd (fun _ => 0) 0 800))), (kw, .inl (cI, 14, .inl (fun _ => 0)))] := hD
    refine lv_iinc (v := 1) (lv' := [(2, .int 1), (0, .ref o), (1, .int 9)]) hx hb dX3_countSlots_14 hl (k := 0) rfl (by decide) (by decide) rfl (fun ls hl => ?_)
    refine lv_goto (tgt := 2) hx hb dX3_countSlots_17 (by decide) ?_
    refine lv_iload_n hx hb dX3_countSlots_2 rfl (lv_at hl 0 rfl) ?_
    refine lv_iconst (v := 4) hx hb dX3_countSlots_3 (by decide) ?_
    refine lv_icmp_gt (tgt := 20) hx hb dX3_countSlots_4 (by decide) (fun c254 => absurd c254 (by decide)) (fun c254 => ?_)
    refine lv_aload_n hx hb dX3_countSlots_7 rfl (lv_at hl 1 rfl) ?_
    refine va_get (D := (dC, dI)) (ci := 3) (v := .ref os) (C := RX3) (T := TX3) (N := 6) hx hb hts hin3 hown hK hP 0 rfl rfl 5 (by decide) hw0 (fun _ h9 => h9) rfl dX3_countSlots_8 ?_
    refine lv_iload_n hx hb dX3_countSlots_11 rfl (lv_at hl 0 rfl) ?_
    refine lv_iconst (v := 0) hx hb dX3_countSlots_12 (by decide) ?_
    refine va_iast hx hb hK hP hD hS 1 0 rfl rfl (vin (by decide) (by decide)) dX3_countSlots_13 (fun H locs hP hD hS => ?_)
    replace hP : va_P (dC, dI) vwCl [(o, .inr (3, [.ref k, .ref op, .int 0, .ref oq, .ref ov, .ref os])), (os, .inl (cI, 5, .inl (upd (upd (fun _ => 0) 0 0) 1 0))), (k, .inr (0, [.ref ks, .ref kw, .ref kc, .int (-6), .int 0, .int 0, .ref kq, .ref km, .ref kd, .int 0, .ref ka, .ref kk])), (ks, .inl (cI, 5, .inl (upd (fun _ => 0) 0 800))), (kw, .inl (cI, 14, .inl (fun _ => 0)))] H := hP
    replace hD : va_D A [(o, .inr (3, [.ref k, .ref op, .int 0, .ref oq, .ref ov, .ref os])), (os, .inl (cI, 5, .inl (upd (upd (fun _ => 0) 0 0) 1 0))), (k, .inr (0, [.ref ks, .ref kw, .ref kc, .int (-6), .int 0, .int 0, .ref kq, .ref km, .ref kd, .int 0, .ref ka, .ref kk])), (ks, .inl (cI, 5, .inl (upd (fun _ => 0) 0 800))), (kw, .inl (cI, 14, .inl (fun _ => 0)))] := hD
    refine lv_iinc (v := 2) (lv' := [(2, .int 2), (0, .ref o), (1, .int 9)]) hx hb dX3_countSlots_14 hl (k := 0) rfl (by decide) (by decide) rfl (fun ls hl => ?_)
    refine lv_goto (tgt := 2) hx hb dX3_countSlots_17 (by decide) ?_
    refine lv_iload_n hx hb dX3_countSlots_2 rfl (lv_at hl 0 rfl) ?_
    refine lv_iconst (v := 4) hx hb dX3_countSlots_3 (by decide) ?_
    refine lv_icmp_gt (tgt := 20) hx hb dX3_countSlots_4 (by decide) (fun c255 => absurd c255 (by decide)) (fun c255 => ?_)
    refine lv_aload_n hx hb dX3_countSlots_7 rfl (lv_at hl 1 rfl) ?_
    refine va_get (D := (dC, dI)) (ci := 3) (v := .ref os) (C := RX3) (T := TX3) (N := 6) hx hb hts hin3 hown hK hP 0 rfl rfl 5 (by decide) hw0 (fun _ h9 => h9) rfl dX3_countSlots_8 ?_
    refine lv_iload_n hx hb dX3_countSlots_11 rfl (lv_at hl 0 rfl) ?_
    refine lv_iconst (v := 0) hx hb dX3_countSlots_12 (by decide) ?_
    refine va_iast hx hb hK hP hD hS 1 0 rfl rfl (vin (by decide) (by decide)) dX3_countSlots_13 (fun H locs hP hD hS => ?_)
    replace hP : va_P (dC, dI) vwCl [(o, .inr (3, [.ref k, .ref op, .int 0, .ref oq, .ref ov, .ref os])), (os, .inl (cI, 5, .inl (upd (upd (upd (fun _ => 0) 0 0) 1 0) 2 0))), (k, .inr (0, [.ref ks, .ref kw, .ref kc, .int (-6), .int 0, .int 0, .ref kq, .ref km, .ref kd, .int 0, .ref ka, .ref kk])), (ks, .inl (cI, 5, .inl (upd (fun _ => 0) 0 800))), (kw, .inl (cI, 14, .inl (fun _ => 0)))] H := hP
    replace hD : va_D A [(o, .inr (3, [.ref k, .ref op, .int 0, .ref oq, .ref ov, .ref os])), (os, .inl (cI, 5, .inl (upd (upd (upd (fun _ => 0) 0 0) 1 0) 2 0))), (k, .inr (0, [.ref ks, .ref kw, .ref kc, .int (-6), .int 0, .int 0, .ref kq, .ref km, .ref kd, .int 0, .ref ka, .ref kk])), (ks, .inl (cI, 5, .inl (upd (fun _ => 0) 0 800))), (kw, .inl (cI, 14, .inl (fun _ => 0)))] := hD
    refine lv_iinc (v := 3) (lv' := [(2, .int 3), (0, .ref o), (1, .int 9)]) hx hb dX3_countSlots_14 hl (k := 0) rfl (by decide) (by decide) rfl (fun ls hl => ?_)
    refine lv_goto (tgt := 2) hx hb dX3_countSlots_17 (by decide) ?_
    refine lv_iload_n hx hb dX3_countSlots_2 rfl (lv_at hl 0 rfl) ?_
    refine lv_iconst (v := 4) hx hb dX3_countSlots_3 (by decide) ?_
    refine lv_icmp_gt (tgt := 20) hx hb dX3_countSlots_4 (by decide) (fun c256 => absurd c256 (by decide)) (fun c256 => ?_)
    refine lv_aload_n hx hb dX3_countSlots_7 rfl (lv_at hl 1 rfl) ?_
    refine va_get (D := (dC, dI)) (ci := 3) (v := .ref os) (C := RX3) (T := TX3) (N := 6) hx hb hts hin3 hown hK hP 0 rfl rfl 5 (by decide) hw0 (fun _ h9 => h9) rfl dX3_countSlots_8 ?_
    refine lv_iload_n hx hb dX3_countSlots_11 rfl (lv_at hl 0 rfl) ?_
    refine lv_iconst (v := 0) hx hb dX3_countSlots_12 (by decide) ?_
    refine va_iast hx hb hK hP hD hS 1 0 rfl rfl (vin (by decide) (by decide)) dX3_countSlots_13 (fun H locs hP hD hS => ?_)
    replace hP : va_P (dC, dI) vwCl [(o, .inr (3, [.ref k, .ref op, .int 0, .ref oq, .ref ov, .ref os])), (os, .inl (cI, 5, .inl (upd (upd (upd (upd (fun _ => 0) 0 0) 1 0) 2 0) 3 0))), (k, .inr (0, [.ref ks, .ref kw, .ref kc, .int (-6), .int 0, .int 0, .ref kq, .ref km, .ref kd, .int 0, .ref ka, .ref kk])), (ks, .inl (cI, 5, .inl (upd (fun _ => 0) 0 800))), (kw, .inl (cI, 14, .inl (fun _ => 0)))] H := hP
    replace hD : va_D A [(o, .inr (3, [.ref k, .ref op, .int 0, .ref oq, .ref ov, .ref os])), (os, .inl (cI, 5, .inl (upd (upd (upd (upd (fun _ => 0) 0 0) 1 0) 2 0) 3 0))), (k, .inr (0, [.ref ks, .ref kw, .ref kc, .int (-6), .int 0, .int 0, .ref kq, .ref km, .ref kd, .int 0, .ref ka, .ref kk])), (ks, .inl (cI, 5, .inl (upd (fun _ => 0) 0 800))), (kw, .inl (cI, 14, .inl (fun _ => 0)))] := hD
    refine lv_iinc (v := 4) (lv' := [(2, .int 4), (0, .ref o), (1, .int 9)]) hx hb dX3_countSlots_14 hl (k := 0) rfl (by decide) (by decide) rfl (fun ls hl => ?_)
    refine lv_goto (tgt := 2) hx hb dX3_countSlots_17 (by decide) ?_
    refine lv_iload_n hx hb dX3_countSlots_2 rfl (lv_at hl 0 rfl) ?_
    refine lv_iconst (v := 4) hx hb dX3_countSlots_3 (by decide) ?_
    refine lv_icmp_gt (tgt := 20) hx hb dX3_countSlots_4 (by decide) (fun c257 => absurd c257 (by decide)) (fun c257 => ?_)
    refine lv_aload_n hx hb dX3_countSlots_7 rfl (lv_at hl 1 rfl) ?_
    refine va_get (D := (dC, dI)) (ci := 3) (v := .ref os) (C := RX3) (T := TX3) (N := 6) hx hb hts hin3 hown hK hP 0 rfl rfl 5 (by decide) hw0 (fun _ h9 => h9) rfl dX3_countSlots_8 ?_
    refine lv_iload_n hx hb dX3_countSlots_11 rfl (lv_at hl 0 rfl) ?_
    refine lv_iconst (v := 0) hx hb dX3_countSlots_12 (by decide) ?_
    refine va_iast hx hb hK hP hD hS 1 0 rfl rfl (vin (by decide) (by decide)) dX3_countSlots_13 (fun H locs hP hD hS => ?_)
    replace hP : va_P (dC, dI) vwCl [(o, .inr (3, [.ref k, .ref op, .int 0, .ref oq, .ref ov, .ref os])), (os, .inl (cI, 5, .inl (upd (upd (upd (upd (upd (fun _ => 0) 0 0) 1 0) 2 0) 3 0) 4 0))), (k, .inr (0, [.ref ks, .ref kw, .ref kc, .int (-6), .int 0, .int 0, .ref kq, .ref km, .ref kd, .int 0, .ref ka, .ref kk])), (ks, .inl (cI, 5, .inl (upd (fun _ => 0) 0 800))), (kw, .inl (cI, 14, .inl (fun _ => 0)))] H := hP
    replace hD : va_D A [(o, .inr (3, [.ref k, .ref op, .int 0, .ref oq, .ref ov, .ref os])), (os, .inl (cI, 5, .inl (upd (upd (upd (upd (upd (fun _ => 0) 0 0) 1 0) 2 0) 3 0) 4 0))), (k, .inr (0, [.ref ks, .ref kw, .ref kc, .int (-6), .int 0, .int 0, .ref kq, .ref km, .ref kd, .int 0, .ref ka, .ref kk])), (ks, .inl (cI, 5, .inl (upd (fun _ => 0) 0 800))), (kw, .inl (cI, 14, .inl (fun _ => 0)))] := hD
    refine lv_iinc (v := 5) (lv' := [(2, .int 5), (0, .ref o), (1, .int 9)]) hx hb dX3_countSlots_14 hl (k := 0) rfl (by decide) (by decide) rfl (fun ls hl => ?_)
    refine lv_goto (tgt := 2) hx hb dX3_countSlots_17 (by decide) ?_
    refine lv_iload_n hx hb dX3_countSlots_2 rfl (lv_at hl 0 rfl) ?_
    refine lv_iconst (v := 4) hx hb dX3_countSlots_3 (by decide) ?_
    refine lv_icmp_gt (tgt := 20) hx hb dX3_countSlots_4 (by decide) (fun c258 => ?_) (fun c258 => absurd c258 (by decide))
    refine lv_aload_n hx hb dX3_countSlots_20 rfl (lv_at hl 1 rfl) ?_
    refine va_get (D := (dC, dI)) (ci := 3) (v := .ref k) (C := RX3) (T := TX3) (N := 6) hx hb hts hin3 hown hK hP 0 rfl rfl 0 (by decide) hw1 (fun _ h9 => h9) rfl dX3_countSlots_21 ?_
    refine va_get (D := (dC, dI)) (ci := 0) (v := .ref ks) (C := RX0) (T := TX0) (N := 12) hx hb hts hin0 hown hK hP 2 rfl rfl 0 (by decide) hw2 (fun _ h9 => h9) rfl dX3_countSlots_24 ?_
    refine lv_iconst (v := 4) hx hb dX3_countSlots_27 (by decide) ?_
    refine va_iald hx hb hK hP 3 0 rfl rfl (vin (by decide) (by decide)) dX3_countSlots_28 ?_
    refine lv_topi (fun x259 e259 => ?_)
    obtain rfl : x259 = 0 := e259.trans (by first | rfl | decide)
    refine lv_istore_n (lv' := [(2, .int 0), (0, .ref o), (1, .int 9)]) hx hb dX3_countSlots_29 rfl hl (by decide) rfl (fun ls hl => ?_)
    refine lv_iload_n hx hb dX3_countSlots_30 rfl (lv_at hl 0 rfl) ?_
    refine lv_iload_n hx hb dX3_countSlots_31 rfl (lv_at hl 2 rfl) ?_
    refine lv_icmp_gt (tgt := 59) hx hb dX3_countSlots_32 (by decide) (fun c260 => absurd c260 (by decide)) (fun c260 => ?_)
    refine lv_aload_n hx hb dX3_countSlots_35 rfl (lv_at hl 1 rfl) ?_
    refine va_get (D := (dC, dI)) (ci := 3) (v := .ref os) (C := RX3) (T := TX3) (N := 6) hx hb hts hin3 hown hK hP 0 rfl rfl 5 (by decide) hw0 (fun _ h9 => h9) rfl dX3_countSlots_36 ?_
    refine lv_aload_n hx hb dX3_countSlots_39 rfl (lv_at hl 1 rfl) ?_
    refine va_get (D := (dC, dI)) (ci := 3) (v := .ref k) (C := RX3) (T := TX3) (N := 6) hx hb hts hin3 hown hK hP 0 rfl rfl 0 (by decide) hw1 (fun _ h9 => h9) rfl dX3_countSlots_40 ?_
    refine lv_iload_n hx hb dX3_countSlots_43 rfl (lv_at hl 0 rfl) ?_
    refine lv_iconst (v := 0) hx hb dX3_countSlots_44 (by decide) ?_
    refine mx_i (wr := [(o, .inr (3, [.ref k, .ref op, .int 0, .ref oq, .ref ov, .ref os])), (os, .inl (cI, 5, .inl (upd (upd (upd (upd (upd (fun _ => 0) 0 0) 1 0) 2 0) 3 0) 4 0)))]) (va_runV (As := [.int 0, .int 0]) (rest := [.ref os]) ⟨hx, hb, hml, hown, hts⟩ (c_X0_windOn l dC dI cI cZ cK tS aK aV k ks kw kc kq km kd ka kk 0 H.size (by have z8 : (0 : Int32).toInt = 0 := rfl; first | omega | decide | assumption | trivial)) (cwV 2 hts (gw_v (fun _ h9 => List.mem_cons_of_mem _ h9) wm_169 wm_170 wm_171 wm_10 wm_172) rfl rfl rfl (by decide +kernel) ⟨Nat.le_of_ble_eq_true rfl, Nat.le_of_ble_eq_true rfl⟩) (mx_preV (C := RX0) (T := TX0) (N := 12) (ci := 0) hKx hP hD hS hA [2, 3, 4] (by decide) rfl rfl rfl) rfl rfl hl.1 rfl (lv_room (Nat.le_of_ble_eq_true rfl)) dX3_countSlots_45 ⟨Nat.le_of_ble_eq_true rfl, Nat.le_of_ble_eq_true rfl⟩) hP hD hS hA [2, 3, 4] [0, 1] rfl rfl (by decide) (by decide) (fun r261 u261 H locs hq261 hP hD hS => ?_)
    replace hP : va_P (dC, dI) vwCl [(o, .inr (3, [.ref k, .ref op, .int 0, .ref oq, .ref ov, .ref os])), (os, .inl (cI, 5, .inl (upd (upd (upd (upd (upd (fun _ => 0) 0 0) 1 0) 2 0) 3 0) 4 0))), (k, .inr (0, [.ref ks, .ref kw, .ref kc, .int (-6), .int 0, .int 0, .ref kq, .ref km, .ref kd, .int 0, .ref ka, .ref kk])), (ks, .inl (cI, 5, .inl (upd (fun _ => 0) 0 800))), (kw, .inl (cI, 14, .inl (fun _ => 0)))] H := hP
    replace hD : va_D A [(o, .inr (3, [.ref k, .ref op, .int 0, .ref oq, .ref ov, .ref os])), (os, .inl (cI, 5, .inl (upd (upd (upd (upd (upd (fun _ => 0) 0 0) 1 0) 2 0) 3 0) 4 0))), (k, .inr (0, [.ref ks, .ref kw, .ref kc, .int (-6), .int 0, .int 0, .ref kq, .ref km, .ref kd, .int 0, .ref ka, .ref kk])), (ks, .inl (cI, 5, .inl (upd (fun _ => 0) 0 800))), (kw, .inl (cI, 14, .inl (fun _ => 0)))] := hD
    obtain rfl : r261 = 0 := hq261
    refine lv_dup2_11 hx hb dX3_countSlots_48 rfl rfl ?_
    refine va_iald hx hb hK hP 1 0 rfl rfl (vin (by decide) (by decide)) dX3_countSlots_49 ?_
    refine lv_topi (fun x262 e262 => ?_)
    obtain rfl : x262 = 0 := e262.trans (by first | rfl | decide)
    refine lv_iconst (v := 2) hx hb dX3_countSlots_50 (by decide) ?_
    refine lv_iadd hx hb dX3_countSlots_51 ?_
    refine lv_topi (fun x263 e263 => ?_)
    obtain rfl : x263 = 2 := e263.trans (by decide)
    refine va_iast hx hb hK hP hD hS 1 0 rfl rfl (vin (by decide) (by decide)) dX3_countSlots_52 (fun H locs hP hD hS => ?_)
    replace hP : va_P (dC, dI) vwCl [(o, .inr (3, [.ref k, .ref op, .int 0, .ref oq, .ref ov, .ref os])), (os, .inl (cI, 5, .inl (upd (upd (upd (upd (upd (upd (fun _ => 0) 0 0) 1 0) 2 0) 3 0) 4 0) 0 2))), (k, .inr (0, [.ref ks, .ref kw, .ref kc, .int (-6), .int 0, .int 0, .ref kq, .ref km, .ref kd, .int 0, .ref ka, .ref kk])), (ks, .inl (cI, 5, .inl (upd (fun _ => 0) 0 800))), (kw, .inl (cI, 14, .inl (fun _ => 0)))] H := hP
    replace hD : va_D A [(o, .inr (3, [.ref k, .ref op, .int 0, .ref oq, .ref ov, .ref os])), (os, .inl (cI, 5, .inl (upd (upd (upd (upd (upd (upd (fun _ => 0) 0 0) 1 0) 2 0) 3 0) 4 0) 0 2))), (k, .inr (0, [.ref ks, .ref kw, .ref kc, .int (-6), .int 0, .int 0, .ref kq, .ref km, .ref kd, .int 0, .ref ka, .ref kk])), (ks, .inl (cI, 5, .inl (upd (fun _ => 0) 0 800))), (kw, .inl (cI, 14, .inl (fun _ => 0)))] := hD
    refine lv_iinc (v := 1) (lv' := [(2, .int 1), (0, .ref o), (1, .int 9)]) hx hb dX3_countSlots_53 hl (k := 0) rfl (by decide) (by decide) rfl (fun ls hl => ?_)
    refine lv_goto (tgt := 30) hx hb dX3_countSlots_56 (by decide) ?_
    refine lv_iload_n hx hb dX3_countSlots_30 rfl (lv_at hl 0 rfl) ?_
    refine lv_iload_n hx hb dX3_countSlots_31 rfl (lv_at hl 2 rfl) ?_
    refine lv_icmp_gt (tgt := 59) hx hb dX3_countSlots_32 (by decide) (fun c264 => absurd c264 (by decide)) (fun c264 => ?_)
    refine lv_aload_n hx hb dX3_countSlots_35 rfl (lv_at hl 1 rfl) ?_
    refine va_get (D := (dC, dI)) (ci := 3) (v := .ref os) (C := RX3) (T := TX3) (N := 6) hx hb hts hin3 hown hK hP 0 rfl rfl 5 (by decide) hw0 (fun _ h9 => h9) rfl dX3_countSlots_36 ?_
    refine lv_aload_n hx hb dX3_countSlots_39 rfl (lv_at hl 1 rfl) ?_
    refine va_get (D := (dC, dI)) (ci := 3) (v := .ref k) (C := RX3) (T := TX3) (N := 6) hx hb hts hin3 hown hK hP 0 rfl rfl 0 (by decide) hw1 (fun _ h9 => h9) rfl dX3_countSlots_40 ?_
    refine lv_iload_n hx hb dX3_countSlots_43 rfl (lv_at hl 0 rfl) ?_
    refine lv_iconst (v := 0) hx hb dX3_countSlots_44 (by decide) ?_
    refine mx_i (wr := [(o, .inr (3, [.ref k, .ref op, .int 0, .ref oq, .ref ov, .ref os])), (os, .inl (cI, 5, .inl (upd (upd (upd (upd (upd (upd (fun _ => 0) 0 0) 1 0) 2 0) 3 0) 4 0) 0 2)))]) (va_runV (As := [.int 1, .int 0]) (rest := [.ref os]) ⟨hx, hb, hml, hown, hts⟩ (c_X0_windOn l dC dI cI cZ cK tS aK aV k ks kw kc kq km kd ka kk 1 H.size (by have z8 : (1 : Int32).toInt = 1 := rfl; first | omega | decide | assumption | trivial)) (cwV 2 hts (gw_v (fun _ h9 => List.mem_cons_of_mem _ h9) wm_169 wm_170 wm_171 wm_10 wm_172) rfl rfl rfl (by decide +kernel) ⟨Nat.le_of_ble_eq_true rfl, Nat.le_of_ble_eq_true rfl⟩) (mx_preV (C := RX0) (T := TX0) (N := 12) (ci := 0) hKx hP hD hS hA [2, 3, 4] (by decide) rfl rfl rfl) rfl rfl hl.1 rfl (lv_room (Nat.le_of_ble_eq_true rfl)) dX3_countSlots_45 ⟨Nat.le_of_ble_eq_true rfl, Nat.le_of_ble_eq_true rfl⟩) hP hD hS hA [2, 3, 4] [0, 1] rfl rfl (by decide) (by decide) (fun r265 u265 H locs hq265 hP hD hS => ?_)
    replace hP : va_P (dC, dI) vwCl [(o, .inr (3, [.ref k, .ref op, .int 0, .ref oq, .ref ov, .ref os])), (os, .inl (cI, 5, .inl (upd (upd (upd (upd (upd (upd (fun _ => 0) 0 0) 1 0) 2 0) 3 0) 4 0) 0 2))), (k, .inr (0, [.ref ks, .ref kw, .ref kc, .int (-6), .int 0, .int 0, .ref kq, .ref km, .ref kd, .int 0, .ref ka, .ref kk])), (ks, .inl (cI, 5, .inl (upd (fun _ => 0) 0 800))), (kw, .inl (cI, 14, .inl (fun _ => 0)))] H := hP
    replace hD : va_D A [(o, .inr (3, [.ref k, .ref op, .int 0, .ref oq, .ref ov, .ref os])), (os, .inl (cI, 5, .inl (upd (upd (upd (upd (upd (upd (fun _ => 0) 0 0) 1 0) 2 0) 3 0) 4 0) 0 2))), (k, .inr (0, [.ref ks, .ref kw, .ref kc, .int (-6), .int 0, .int 0, .ref kq, .ref km, .ref kd, .int 0, .ref ka, .ref kk])), (ks, .inl (cI, 5, .inl (upd (fun _ => 0) 0 800))), (kw, .inl (cI, 14, .inl (fun _ => 0)))] := hD
    obtain rfl : r265 = 0 := hq265
    refine lv_dup2_11 hx hb dX3_countSlots_48 rfl rfl ?_
    refine va_iald hx hb hK hP 1 0 rfl rfl (vin (by decide) (by decide)) dX3_countSlots_49 ?_
    refine lv_topi (fun x266 e266 => ?_)
    obtain rfl : x266 = 2 := e266.trans (by first | rfl | decide)
    refine lv_iconst (v := 2) hx hb dX3_countSlots_50 (by decide) ?_
    refine lv_iadd hx hb dX3_countSlots_51 ?_
    refine lv_topi (fun x267 e267 => ?_)
    obtain rfl : x267 = 4 := e267.trans (by decide)
    refine va_iast hx hb hK hP hD hS 1 0 rfl rfl (vin (by decide) (by decide)) dX3_countSlots_52 (fun H locs hP hD hS => ?_)
    replace hP : va_P (dC, dI) vwCl [(o, .inr (3, [.ref k, .ref op, .int 0, .ref oq, .ref ov, .ref os])), (os, .inl (cI, 5, .inl (upd (upd (upd (upd (upd (upd (upd (fun _ => 0) 0 0) 1 0) 2 0) 3 0) 4 0) 0 2) 0 4))), (k, .inr (0, [.ref ks, .ref kw, .ref kc, .int (-6), .int 0, .int 0, .ref kq, .ref km, .ref kd, .int 0, .ref ka, .ref kk])), (ks, .inl (cI, 5, .inl (upd (fun _ => 0) 0 800))), (kw, .inl (cI, 14, .inl (fun _ => 0)))] H := hP
    replace hD : va_D A [(o, .inr (3, [.ref k, .ref op, .int 0, .ref oq, .ref ov, .ref os])), (os, .inl (cI, 5, .inl (upd (upd (upd (upd (upd (upd (upd (fun _ => 0) 0 0) 1 0) 2 0) 3 0) 4 0) 0 2) 0 4))), (k, .inr (0, [.ref ks, .ref kw, .ref kc, .int (-6), .int 0, .int 0, .ref kq, .ref km, .ref kd, .int 0, .ref ka, .ref kk])), (ks, .inl (cI, 5, .inl (upd (fun _ => 0) 0 800))), (kw, .inl (cI, 14, .inl (fun _ => 0)))] := hD
    refine lv_iinc (v := 2) (lv' := [(2, .int 2), (0, .ref o), (1, .int 9)]) hx hb dX3_countSlots_53 hl (k := 0) rfl (by decide) (by decide) rfl (fun ls hl => ?_)
    refine lv_goto (tgt := 30) hx hb dX3_countSlots_56 (by decide) ?_
    refine lv_iload_n hx hb dX3_countSlots_30 rfl (lv_at hl 0 rfl) ?_
    refine lv_iload_n hx hb dX3_countSlots_31 rfl (lv_at hl 2 rfl) ?_
    refine lv_icmp_gt (tgt := 59) hx hb dX3_countSlots_32 (by decide) (fun c268 => absurd c268 (by decide)) (fun c268 => ?_)
    refine lv_aload_n hx hb dX3_countSlots_35 rfl (lv_at hl 1 rfl) ?_
    refine va_get (D := (dC, dI)) (ci := 3) (v := .ref os) (C := RX3) (T := TX3) (N := 6) hx hb hts hin3 hown hK hP 0 rfl rfl 5 (by decide) hw0 (fun _ h9 => h9) rfl dX3_countSlots_36 ?_
    refine lv_aload_n hx hb dX3_countSlots_39 rfl (lv_at hl 1 rfl) ?_
    refine va_get (D := (dC, dI)) (ci := 3) (v := .ref k) (C := RX3) (T := TX3) (N := 6) hx hb hts hin3 hown hK hP 0 rfl rfl 0 (by decide) hw1 (fun _ h9 => h9) rfl dX3_countSlots_40 ?_
    refine lv_iload_n hx hb dX3_countSlots_43 rfl (lv_at hl 0 rfl) ?_
    refine lv_iconst (v := 0) hx hb dX3_countSlots_44 (by decide) ?_
    refine mx_i (wr := [(o, .inr (3, [.ref k, .ref op, .int 0, .ref oq, .ref ov, .ref os])), (os, .inl (cI, 5, .inl (upd (upd (upd (upd (upd (upd (upd (fun _ => 0) 0 0) 1 0) 2 0) 3 0) 4 0) 0 2) 0 4)))]) (va_runV (As := [.int 2, .int 0]) (rest := [.ref os]) ⟨hx, hb, hml, hown, hts⟩ (c_X0_windOn l dC dI cI cZ cK tS aK aV k ks kw kc kq km kd ka kk 2 H.size (by have z8 : (2 : Int32).toInt = 2 := rfl; first | omega | decide | assumption | trivial)) (cwV 2 hts (gw_v (fun _ h9 => List.mem_cons_of_mem _ h9) wm_169 wm_170 wm_171 wm_10 wm_172) rfl rfl rfl (by decide +kernel) ⟨Nat.le_of_ble_eq_true rfl, Nat.le_of_ble_eq_true rfl⟩) (mx_preV (C := RX0) (T := TX0) (N := 12) (ci := 0) hKx hP hD hS hA [2, 3, 4] (by decide) rfl rfl rfl) rfl rfl hl.1 rfl (lv_room (Nat.le_of_ble_eq_true rfl)) dX3_countSlots_45 ⟨Nat.le_of_ble_eq_true rfl, Nat.le_of_ble_eq_true rfl⟩) hP hD hS hA [2, 3, 4] [0, 1] rfl rfl (by decide) (by decide) (fun r269 u269 H locs hq269 hP hD hS => ?_)
    replace hP : va_P (dC, dI) vwCl [(o, .inr (3, [.ref k, .ref op, .int 0, .ref oq, .ref ov, .ref os])), (os, .inl (cI, 5, .inl (upd (upd (upd (upd (upd (upd (upd (fun _ => 0) 0 0) 1 0) 2 0) 3 0) 4 0) 0 2) 0 4))), (k, .inr (0, [.ref ks, .ref kw, .ref kc, .int (-6), .int 0, .int 0, .ref kq, .ref km, .ref kd, .int 0, .ref ka, .ref kk])), (ks, .inl (cI, 5, .inl (upd (fun _ => 0) 0 800))), (kw, .inl (cI, 14, .inl (fun _ => 0)))] H := hP
    replace hD : va_D A [(o, .inr (3, [.ref k, .ref op, .int 0, .ref oq, .ref ov, .ref os])), (os, .inl (cI, 5, .inl (upd (upd (upd (upd (upd (upd (upd (fun _ => 0) 0 0) 1 0) 2 0) 3 0) 4 0) 0 2) 0 4))), (k, .inr (0, [.ref ks, .ref kw, .ref kc, .int (-6), .int 0, .int 0, .ref kq, .ref km, .ref kd, .int 0, .ref ka, .ref kk])), (ks, .inl (cI, 5, .inl (upd (fun _ => 0) 0 800))), (kw, .inl (cI, 14, .inl (fun _ => 0)))] := hD
    obtain rfl : r269 = 0 := hq269
    refine lv_dup2_11 hx hb dX3_countSlots_48 rfl rfl ?_
    refine va_iald hx hb hK hP 1 0 rfl rfl (vin (by decide) (by decide)) dX3_countSlots_49 ?_
    refine lv_topi (fun x270 e270 => ?_)
    obtain rfl : x270 = 4 := e270.trans (by first | rfl | decide)
    refine lv_iconst (v := 2) hx hb dX3_countSlots_50 (by decide) ?_
    refine lv_iadd hx hb dX3_countSlots_51 ?_
    refine lv_topi (fun x271 e271 => ?_)
    obtain rfl : x271 = 6 := e271.trans (by decide)
    refine va_iast hx hb hK hP hD hS 1 0 rfl rfl (vin (by decide) (by decide)) dX3_countSlots_52 (fun H locs hP hD hS => ?_)
    replace hP : va_P (dC, dI) vwCl [(o, .inr (3, [.ref k, .ref op, .int 0, .ref oq, .ref ov, .ref os])), (os, .inl (cI, 5, .inl (upd (upd (upd (upd (upd (upd (upd (upd (fun _ => 0) 0 0) 1 0) 2 0) 3 0) 4 0) 0 2) 0 4) 0 6))), (k, .inr (0, [.ref ks, .ref kw, .ref kc, .int (-6), .int 0, .int 0, .ref kq, .ref km, .ref kd, .int 0, .ref ka, .ref kk])), (ks, .inl (cI, 5, .inl (upd (fun _ => 0) 0 800))), (kw, .inl (cI, 14, .inl (fun _ => 0)))] H := hP
    replace hD : va_D A [(o, .inr (3, [.ref k, .ref op, .int 0, .ref oq, .ref ov, .ref os])), (os, .inl (cI, 5, .inl (upd (upd (upd (upd (upd (upd (upd (upd (fun _ => 0) 0 0) 1 0) 2 0) 3 0) 4 0) 0 2) 0 4) 0 6))), (k, .inr (0, [.ref ks, .ref kw, .ref kc, .int (-6), .int 0, .int 0, .ref kq, .ref km, .ref kd, .int 0, .ref ka, .ref kk])), (ks, .inl (cI, 5, .inl (upd (fun _ => 0) 0 800))), (kw, .inl (cI, 14, .inl (fun _ => 0)))] := hD
    refine lv_iinc (v := 3) (lv' := [(2, .int 3), (0, .ref o), (1, .int 9)]) hx hb dX3_countSlots_53 hl (k := 0) rfl (by decide) (by decide) rfl (fun ls hl => ?_)
    refine lv_goto (tgt := 30) hx hb dX3_countSlots_56 (by decide) ?_
    refine lv_iload_n hx hb dX3_countSlots_30 rfl (lv_at hl 0 rfl) ?_
    refine lv_iload_n hx hb dX3_countSlots_31 rfl (lv_at hl 2 rfl) ?_
    refine lv_icmp_gt (tgt := 59) hx hb dX3_countSlots_32 (by decide) (fun c272 => absurd c272 (by decide)) (fun c272 => ?_)
    refine lv_aload_n hx hb dX3_countSlots_35 rfl (lv_at hl 1 rfl) ?_
    refine va_get (D := (dC, dI)) (ci := 3) (v := .ref os) (C := RX3) (T := TX3) (N := 6) hx hb hts hin3 hown hK hP 0 rfl rfl 5 (by decide) hw0 (fun _ h9 => h9) rfl dX3_countSlots_36 ?_
    refine lv_aload_n hx hb dX3_countSlots_39 rfl (lv_at hl 1 rfl) ?_
    refine va_get (D := (dC, dI)) (ci := 3) (v := .ref k) (C := RX3) (T := TX3) (N := 6) hx hb hts hin3 hown hK hP 0 rfl rfl 0 (by decide) hw1 (fun _ h9 => h9) rfl dX3_countSlots_40 ?_
    refine lv_iload_n hx hb dX3_countSlots_43 rfl (lv_at hl 0 rfl) ?_
    refine lv_iconst (v := 0) hx hb dX3_countSlots_44 (by decide) ?_
    refine mx_i (wr := [(o, .inr (3, [.ref k, .ref op, .int 0, .ref oq, .ref ov, .ref os])), (os, .inl (cI, 5, .inl (upd (upd (upd (upd (upd (upd (upd (upd (fun _ => 0) 0 0) 1 0) 2 0) 3 0) 4 0) 0 2) 0 4) 0 6)))]) (va_runV (As := [.int 3, .int 0]) (rest := [.ref os]) ⟨hx, hb, hml, hown, hts⟩ (c_X0_windOn l dC dI cI cZ cK tS aK aV k ks kw kc kq km kd ka kk 3 H.size (by have z8 : (3 : Int32).toInt = 3 := rfl; first | omega | decide | assumption | trivial)) (cwV 2 hts (gw_v (fun _ h9 => List.mem_cons_of_mem _ h9) wm_169 wm_170 wm_171 wm_10 wm_172) rfl rfl rfl (by decide +kernel) ⟨Nat.le_of_ble_eq_true rfl, Nat.le_of_ble_eq_true rfl⟩) (mx_preV (C := RX0) (T := TX0) (N := 12) (ci := 0) hKx hP hD hS hA [2, 3, 4] (by decide) rfl rfl rfl) rfl rfl hl.1 rfl (lv_room (Nat.le_of_ble_eq_true rfl)) dX3_countSlots_45 ⟨Nat.le_of_ble_eq_true rfl, Nat.le_of_ble_eq_true rfl⟩) hP hD hS hA [2, 3, 4] [0, 1] rfl rfl (by decide) (by decide) (fun r273 u273 H locs hq273 hP hD hS => ?_)
    replace hP : va_P (dC, dI) vwCl [(o, .inr (3, [.ref k, .ref op, .int 0, .ref oq, .ref ov, .ref os])), (os, .inl (cI, 5, .inl (upd (upd (upd (upd (upd (upd (upd (upd (fun _ => 0) 0 0) 1 0) 2 0) 3 0) 4 0) 0 2) 0 4) 0 6))), (k, .inr (0, [.ref ks, .ref kw, .ref kc, .int (-6), .int 0, .int 0, .ref kq, .ref km, .ref kd, .int 0, .ref ka, .ref kk])), (ks, .inl (cI, 5, .inl (upd (fun _ => 0) 0 800))), (kw, .inl (cI, 14, .inl (fun _ => 0)))] H := hP
    replace hD : va_D A [(o, .inr (3, [.ref k, .ref op, .int 0, .ref oq, .ref ov, .ref os])), (os, .inl (cI, 5, .inl (upd (upd (upd (upd (upd (upd (upd (upd (fun _ => 0) 0 0) 1 0) 2 0) 3 0) 4 0) 0 2) 0 4) 0 6))), (k, .inr (0, [.ref ks, .ref kw, .ref kc, .int (-6), .int 0, .int 0, .ref kq, .ref km, .ref kd, .int 0, .ref ka, .ref kk])), (ks, .inl (cI, 5, .inl (upd (fun _ => 0) 0 800))), (kw, .inl (cI, 14, .inl (fun _ => 0)))] := hD
    obtain rfl : r273 = 0 := hq273
    refine lv_dup2_11 hx hb dX3_countSlots_48 rfl rfl ?_
    refine va_iald hx hb hK hP 1 0 rfl rfl (vin (by decide) (by decide)) dX3_countSlots_49 ?_
    refine lv_topi (fun x274 e274 => ?_)
    obtain rfl : x274 = 6 := e274.trans (by first | rfl | decide)
    refine lv_iconst (v := 2) hx hb dX3_countSlots_50 (by decide) ?_
    refine lv_iadd hx hb dX3_countSlots_51 ?_
    refine lv_topi (fun x275 e275 => ?_)
    obtain rfl : x275 = 8 := e275.trans (by decide)
    refine va_iast hx hb hK hP hD hS 1 0 rfl rfl (vin (by decide) (by decide)) dX3_countSlots_52 (fun H locs hP hD hS => ?_)
    replace hP : va_P (dC, dI) vwCl [(o, .inr (3, [.ref k, .ref op, .int 0, .ref oq, .ref ov, .ref os])), (os, .inl (cI, 5, .inl (upd (upd (upd (upd (upd (upd (upd (upd (upd (fun _ => 0) 0 0) 1 0) 2 0) 3 0) 4 0) 0 2) 0 4) 0 6) 0 8))), (k, .inr (0, [.ref ks, .ref kw, .ref kc, .int (-6), .int 0, .int 0, .ref kq, .ref km, .ref kd, .int 0, .ref ka, .ref kk])), (ks, .inl (cI, 5, .inl (upd (fun _ => 0) 0 800))), (kw, .inl (cI, 14, .inl (fun _ => 0)))] H := hP
    replace hD : va_D A [(o, .inr (3, [.ref k, .ref op, .int 0, .ref oq, .ref ov, .ref os])), (os, .inl (cI, 5, .inl (upd (upd (upd (upd (upd (upd (upd (upd (upd (fun _ => 0) 0 0) 1 0) 2 0) 3 0) 4 0) 0 2) 0 4) 0 6) 0 8))), (k, .inr (0, [.ref ks, .ref kw, .ref kc, .int (-6), .int 0, .int 0, .ref kq, .ref km, .ref kd, .int 0, .ref ka, .ref kk])), (ks, .inl (cI, 5, .inl (upd (fun _ => 0) 0 800))), (kw, .inl (cI, 14, .inl (fun _ => 0)))] := hD
    refine lv_iinc (v := 4) (lv' := [(2, .int 4), (0, .ref o), (1, .int 9)]) hx hb dX3_countSlots_53 hl (k := 0) rfl (by decide) (by decide) rfl (fun ls hl => ?_)
    refine lv_goto (tgt := 30) hx hb dX3_countSlots_56 (by decide) ?_
    refine lv_iload_n hx hb dX3_countSlots_30 rfl (lv_at hl 0 rfl) ?_
    refine lv_iload_n hx hb dX3_countSlots_31 rfl (lv_at hl 2 rfl) ?_
    refine lv_icmp_gt (tgt := 59) hx hb dX3_countSlots_32 (by decide) (fun c276 => absurd c276 (by decide)) (fun c276 => ?_)
    refine lv_aload_n hx hb dX3_countSlots_35 rfl (lv_at hl 1 rfl) ?_
    refine va_get (D := (dC, dI)) (ci := 3) (v := .ref os) (C := RX3) (T := TX3) (N := 6) hx hb hts hin3 hown hK hP 0 rfl rfl 5 (by decide) hw0 (fun _ h9 => h9) rfl dX3_countSlots_36 ?_
    refine lv_aload_n hx hb dX3_countSlots_39 rfl (lv_at hl 1 rfl) ?_
    refine va_get (D := (dC, dI)) (ci := 3) (v := .ref k) (C := RX3) (T := TX3) (N := 6) hx hb hts hin3 hown hK hP 0 rfl rfl 0 (by decide) hw1 (fun _ h9 => h9) rfl dX3_countSlots_40 ?_
    refine lv_iload_n hx hb dX3_countSlots_43 rfl (lv_at hl 0 rfl) ?_
    refine lv_iconst (v := 0) hx hb dX3_countSlots_44 (by decide) ?_
    refine mx_i (wr := [(o, .inr (3, [.ref k, .ref op, .int 0, .ref oq, .ref ov, .ref os])), (os, .inl (cI, 5, .inl (upd (upd (upd (upd (upd (upd (upd (upd (upd (fun _ => 0) 0 0) 1 0) 2 0) 3 0) 4 0) 0 2) 0 4) 0 6) 0 8)))]) (va_runV (As := [.int 4, .int 0]) (rest := [.ref os]) ⟨hx, hb, hml, hown, hts⟩ (c_X0_windOn l dC dI cI cZ cK tS aK aV k ks kw kc kq km kd ka kk 4 H.size (by have z8 : (4 : Int32).toInt = 4 := rfl; first | omega | decide | assumption | trivial)) (cwV 2 hts (gw_v (fun _ h9 => List.mem_cons_of_mem _ h9) wm_169 wm_170 wm_171 wm_10 wm_172) rfl rfl rfl (by decide +kernel) ⟨Nat.le_of_ble_eq_true rfl, Nat.le_of_ble_eq_true rfl⟩) (mx_preV (C := RX0) (T := TX0) (N := 12) (ci := 0) hKx hP hD hS hA [2, 3, 4] (by decide) rfl rfl rfl) rfl rfl hl.1 rfl (lv_room (Nat.le_of_ble_eq_true rfl)) dX3_countSlots_45 ⟨Nat.le_of_ble_eq_true rfl, Nat.le_of_ble_eq_true rfl⟩) hP hD hS hA [2, 3, 4] [0, 1] rfl rfl (by decide) (by decide) (fun r277 u277 H locs hq277 hP hD hS => ?_)
    replace hP : va_P (dC, dI) vwCl [(o, .inr (3, [.ref k, .ref op, .int 0, .ref oq, .ref ov, .ref os])), (os, .inl (cI, 5, .inl (upd (upd (upd (upd (upd (upd (upd (upd (upd (fun _ => 0) 0 0) 1 0) 2 0) 3 0) 4 0) 0 2) 0 4) 0 6) 0 8))), (k, .inr (0, [.ref ks, .ref kw, .ref kc, .int (-6), .int 0, .int 0, .ref kq, .ref km, .ref kd, .int 0, .ref ka, .ref kk])), (ks, .inl (cI, 5, .inl (upd (fun _ => 0) 0 800))), (kw, .inl (cI, 14, .inl (fun _ => 0)))] H := hP
    replace hD : va_D A [(o, .inr (3, [.ref k, .ref op, .int 0, .ref oq, .ref ov, .ref os])), (os, .inl (cI, 5, .inl (upd (upd (upd (upd (upd (upd (upd (upd (upd (fun _ => 0) 0 0) 1 0) 2 0) 3 0) 4 0) 0 2) 0 4) 0 6) 0 8))), (k, .inr (0, [.ref ks, .ref kw, .ref kc, .int (-6), .int 0, .int 0, .ref kq, .ref km, .ref kd, .int 0, .ref ka, .ref kk])), (ks, .inl (cI, 5, .inl (upd (fun _ => 0) 0 800))), (kw, .inl (cI, 14, .inl (fun _ => 0)))] := hD
    obtain rfl : r277 = 0 := hq277
    refine lv_dup2_11 hx hb dX3_countSlots_48 rfl rfl ?_
    refine va_iald hx hb hK hP 1 0 rfl rfl (vin (by decide) (by decide)) dX3_countSlots_49 ?_
    refine lv_topi (fun x278 e278 => ?_)
    obtain rfl : x278 = 8 := e278.trans (by first | rfl | decide)
    refine lv_iconst (v := 2) hx hb dX3_countSlots_50 (by decide) ?_
    refine lv_iadd hx hb dX3_countSlots_51 ?_
    refine lv_topi (fun x279 e279 => ?_)
    obtain rfl : x279 = 10 := e279.trans (by decide)
    refine va_iast hx hb hK hP hD hS 1 0 rfl rfl (vin (by decide) (by decide)) dX3_countSlots_52 (fun H locs hP hD hS => ?_)
    replace hP : va_P (dC, dI) vwCl [(o, .inr (3, [.ref k, .ref op, .int 0, .ref oq, .ref ov, .ref os])), (os, .inl (cI, 5, .inl (upd (upd (upd (upd (upd (upd (upd (upd (upd (upd (fun _ => 0) 0 0) 1 0) 2 0) 3 0) 4 0) 0 2) 0 4) 0 6) 0 8) 0 10))), (k, .inr (0, [.ref ks, .ref kw, .ref kc, .int (-6), .int 0, .int 0, .ref kq, .ref km, .ref kd, .int 0, .ref ka, .ref kk])), (ks, .inl (cI, 5, .inl (upd (fun _ => 0) 0 800))), (kw, .inl (cI, 14, .inl (fun _ => 0)))] H := hP
    replace hD : va_D A [(o, .inr (3, [.ref k, .ref op, .int 0, .ref oq, .ref ov, .ref os])), (os, .inl (cI, 5, .inl (upd (upd (upd (upd (upd (upd (upd (upd (upd (upd (fun _ => 0) 0 0) 1 0) 2 0) 3 0) 4 0) 0 2) 0 4) 0 6) 0 8) 0 10))), (k, .inr (0, [.ref ks, .ref kw, .ref kc, .int (-6), .int 0, .int 0, .ref kq, .ref km, .ref kd, .int 0, .ref ka, .ref kk])), (ks, .inl (cI, 5, .inl (upd (fun _ => 0) 0 800))), (kw, .inl (cI, 14, .inl (fun _ => 0)))] := hD
    refine lv_iinc (v := 5) (lv' := [(2, .int 5), (0, .ref o), (1, .int 9)]) hx hb dX3_countSlots_53 hl (k := 0) rfl (by decide) (by decide) rfl (fun ls hl => ?_)
    refine lv_goto (tgt := 30) hx hb dX3_countSlots_56 (by decide) ?_
    refine lv_iload_n hx hb dX3_countSlots_30 rfl (lv_at hl 0 rfl) ?_
    refine lv_iload_n hx hb dX3_countSlots_31 rfl (lv_at hl 2 rfl) ?_
    refine lv_icmp_gt (tgt := 59) hx hb dX3_countSlots_32 (by decide) (fun c280 => absurd c280 (by decide)) (fun c280 => ?_)
    refine lv_aload_n hx hb dX3_countSlots_35 rfl (lv_at hl 1 rfl) ?_
    refine va_get (D := (dC, dI)) (ci := 3) (v := .ref os) (C := RX3) (T := TX3) (N := 6) hx hb hts hin3 hown hK hP 0 rfl rfl 5 (by decide) hw0 (fun _ h9 => h9) rfl dX3_countSlots_36 ?_
    refine lv_aload_n hx hb dX3_countSlots_39 rfl (lv_at hl 1 rfl) ?_
    refine va_get (D := (dC, dI)) (ci := 3) (v := .ref k) (C := RX3) (T := TX3) (N := 6) hx hb hts hin3 hown hK hP 0 rfl rfl 0 (by decide) hw1 (fun _ h9 => h9) rfl dX3_countSlots_40 ?_
    refine lv_iload_n hx hb dX3_countSlots_43 rfl (lv_at hl 0 rfl) ?_
    refine lv_iconst (v := 0) hx hb dX3_countSlots_44 (by decide) ?_
    refine mx_i (wr := [(o, .inr (3, [.ref k, .ref op, .int 0, .ref oq, .ref ov, .ref os])), (os, .inl (cI, 5, .inl (upd (upd (upd (upd (upd (upd (upd (upd (upd (upd (fun _ => 0) 0 0) 1 0) 2 0) 3 0) 4 0) 0 2) 0 4) 0 6) 0 8) 0 10)))]) (va_runV (As := [.int 5, .int 0]) (rest := [.ref os]) ⟨hx, hb, hml, hown, hts⟩ (c_X0_windOn l dC dI cI cZ cK tS aK aV k ks kw kc kq km kd ka kk 5 H.size (by have z8 : (5 : Int32).toInt = 5 := rfl; first | omega | decide | assumption | trivial)) (cwV 2 hts (gw_v (fun _ h9 => List.mem_cons_of_mem _ h9) wm_169 wm_170 wm_171 wm_10 wm_172) rfl rfl rfl (by decide +kernel) ⟨Nat.le_of_ble_eq_true rfl, Nat.le_of_ble_eq_true rfl⟩) (mx_preV (C := RX0) (T := TX0) (N := 12) (ci := 0) hKx hP hD hS hA [2, 3, 4] (by decide) rfl rfl rfl) rfl rfl hl.1 rfl (lv_room (Nat.le_of_ble_eq_true rfl)) dX3_countSlots_45 ⟨Nat.le_of_ble_eq_true rfl, Nat.le_of_ble_eq_true rfl⟩) hP hD hS hA [2, 3, 4] [0, 1] rfl rfl (by decide) (by decide) (fun r281 u281 H locs hq281 hP hD hS => ?_)
    replace hP : va_P (dC, dI) vwCl [(o, .inr (3, [.ref k, .ref op, .int 0, .ref oq, .ref ov, .ref os])), (os, .inl (cI, 5, .inl (upd (upd (upd (upd (upd (upd (upd (upd (upd (upd (fun _ => 0) 0 0) 1 0) 2 0) 3 0) 4 0) 0 2) 0 4) 0 6) 0 8) 0 10))), (k, .inr (0, [.ref ks, .ref kw, .ref kc, .int (-6), .int 0, .int 0, .ref kq, .ref km, .ref kd, .int 0, .ref ka, .ref kk])), (ks, .inl (cI, 5, .inl (upd (fun _ => 0) 0 800))), (kw, .inl (cI, 14, .inl (fun _ => 0)))] H := hP
    replace hD : va_D A [(o, .inr (3, [.ref k, .ref op, .int 0, .ref oq, .ref ov, .ref os])), (os, .inl (cI, 5, .inl (upd (upd (upd (upd (upd (upd (upd (upd (upd (upd (fun _ => 0) 0 0) 1 0) 2 0) 3 0) 4 0) 0 2) 0 4) 0 6) 0 8) 0 10))), (k, .inr (0, [.ref ks, .ref kw, .ref kc, .int (-6), .int 0, .int 0, .ref kq, .ref km, .ref kd, .int 0, .ref ka, .ref kk])), (ks, .inl (cI, 5, .inl (upd (fun _ => 0) 0 800))), (kw, .inl (cI, 14, .inl (fun _ => 0)))] := hD
    obtain rfl : r281 = 0 := hq281
    refine lv_dup2_11 hx hb dX3_countSlots_48 rfl rfl ?_
    refine va_iald hx hb hK hP 1 0 rfl rfl (vin (by decide) (by decide)) dX3_countSlots_49 ?_
    refine lv_topi (fun x282 e282 => ?_)
    obtain rfl : x282 = 10 := e282.trans (by first | rfl | decide)
    refine lv_iconst (v := 2) hx hb dX3_countSlots_50 (by decide) ?_
    refine lv_iadd hx hb dX3_countSlots_51 ?_
    refine lv_topi (fun x283 e283 => ?_)
    obtain rfl : x283 = 12 := e283.trans (by decide)
    refine va_iast hx hb hK hP hD hS 1 0 rfl rfl (vin (by decide) (by decide)) dX3_countSlots_52 (fun H locs hP hD hS => ?_)
    replace hP : va_P (dC, dI) vwCl [(o, .inr (3, [.ref k, .ref op, .int 0, .ref oq, .ref ov, .ref os])), (os, .inl (cI, 5, .inl (upd (upd (upd (upd (upd (upd (upd (upd (upd (upd (upd (fun _ => 0) 0 0) 1 0) 2 0) 3 0) 4 0) 0 2) 0 4) 0 6) 0 8) 0 10) 0 12))), (k, .inr (0, [.ref ks, .ref kw, .ref kc, .int (-6), .int 0, .int 0, .ref kq, .ref km, .ref kd, .int 0, .ref ka, .ref kk])), (ks, .inl (cI, 5, .inl (upd (fun _ => 0) 0 800))), (kw, .inl (cI, 14, .inl (fun _ => 0)))] H := hP
    replace hD : va_D A [(o, .inr (3, [.ref k, .ref op, .int 0, .ref oq, .ref ov, .ref os])), (os, .inl (cI, 5, .inl (upd (upd (upd (upd (upd (upd (upd (upd (upd (upd (upd (fun _ => 0) 0 0) 1 0) 2 0) 3 0) 4 0) 0 2) 0 4) 0 6) 0 8) 0 10) 0 12))), (k, .inr (0, [.ref ks, .ref kw, .ref kc, .int (-6), .int 0, .int 0, .ref kq, .ref km, .ref kd, .int 0, .ref ka, .ref kk])), (ks, .inl (cI, 5, .inl (upd (fun _ => 0) 0 800))), (kw, .inl (cI, 14, .inl (fun _ => 0)))] := hD
    refine lv_iinc (v := 6) (lv' := [(2, .int 6), (0, .ref o), (1, .int 9)]) hx hb dX3_countSlots_53 hl (k := 0) rfl (by decide) (by decide) rfl (fun ls hl => ?_)
    refine lv_goto (tgt := 30) hx hb dX3_countSlots_56 (by decide) ?_
    refine lv_iload_n hx hb dX3_countSlots_30 rfl (lv_at hl 0 rfl) ?_
    refine lv_iload_n hx hb dX3_countSlots_31 rfl (lv_at hl 2 rfl) ?_
    refine lv_icmp_gt (tgt := 59) hx hb dX3_countSlots_32 (by decide) (fun c284 => absurd c284 (by decide)) (fun c284 => ?_)
    refine lv_aload_n hx hb dX3_countSlots_35 rfl (lv_at hl 1 rfl) ?_
    refine va_get (D := (dC, dI)) (ci := 3) (v := .ref os) (C := RX3) (T := TX3) (N := 6) hx hb hts hin3 hown hK hP 0 rfl rfl 5 (by decide) hw0 (fun _ h9 => h9) rfl dX3_countSlots_36 ?_
    refine lv_aload_n hx hb dX3_countSlots_39 rfl (lv_at hl 1 rfl) ?_
    refine va_get (D := (dC, dI)) (ci := 3) (v := .ref k) (C := RX3) (T := TX3) (N := 6) hx hb hts hin3 hown hK hP 0 rfl rfl 0 (by decide) hw1 (fun _ h9 => h9) rfl dX3_countSlots_40 ?_
    refine lv_iload_n hx hb dX3_countSlots_43 rfl (lv_at hl 0 rfl) ?_
    refine lv_iconst (v := 0) hx hb dX3_countSlots_44 (by decide) ?_
    refine mx_i (wr := [(o, .inr (3, [.ref k, .ref op, .int 0, .ref oq, .ref ov, .ref os])), (os, .inl (cI, 5, .inl (upd (upd (upd (upd (upd (upd (upd (upd (upd (upd (upd (fun _ => 0) 0 0) 1 0) 2 0) 3 0) 4 0) 0 2) 0 4) 0 6) 0 8) 0 10) 0 12)))]) (va_runV (As := [.int 6, .int 0]) (rest := [.ref os]) ⟨hx, hb, hml, hown, hts⟩ (c_X0_windOn l dC dI cI cZ cK tS aK aV k ks kw kc kq km kd ka kk 6 H.size (by have z8 : (6 : Int32).toInt = 6 := rfl; first | omega | decide | assumption | trivial)) (cwV 2 hts (gw_v (fun _ h9 => List.mem_cons_of_mem _ h9) wm_169 wm_170 wm_171 wm_10 wm_172) rfl rfl rfl (by decide +kernel) ⟨Nat.le_of_ble_eq_true rfl, Nat.le_of_ble_eq_true rfl⟩) (mx_preV (C := RX0) (T := TX0) (N := 12) (ci := 0) hKx hP hD hS hA [2, 3, 4] (by decide) rfl rfl rfl) rfl rfl hl.1 rfl (lv_room (Nat.le_of_ble_eq_true rfl)) dX3_countSlots_45 ⟨Nat.le_of_ble_eq_true rfl, Nat.le_of_ble_eq_true rfl⟩) hP hD hS hA [2, 3, 4] [0, 1] rfl rfl (by decide) (by decide) (fun r285 u285 H locs hq285 hP hD hS => ?_)
    replace hP : va_P (dC, dI) vwCl [(o, .inr (3, [.ref k, .ref op, .int 0, .ref oq, .ref ov, .ref os])), (os, .inl (cI, 5, .inl (upd (upd (upd (upd (upd (upd (upd (upd (upd (upd (upd (fun _ => 0) 0 0) 1 0) 2 0) 3 0) 4 0) 0 2) 0 4) 0 6) 0 8) 0 10) 0 12))), (k, .inr (0, [.ref ks, .ref kw, .ref kc, .int (-6), .int 0, .int 0, .ref kq, .ref km, .ref kd, .int 0, .ref ka, .ref kk])), (ks, .inl (cI, 5, .inl (upd (fun _ => 0) 0 800))), (kw, .inl (cI, 14, .inl (fun _ => 0)))] H := hP
    replace hD : va_D A [(o, .inr (3, [.ref k, .ref op, .int 0, .ref oq, .ref ov, .ref os])), (os, .inl (cI, 5, .inl (upd (upd (upd (upd (upd (upd (upd (upd (upd (upd (upd (fun _ => 0) 0 0) 1 0) 2 0) 3 0) 4 0) 0 2) 0 4) 0 6) 0 8) 0 10) 0 12))), (k, .inr (0, [.ref ks, .ref kw, .ref kc, .int (-6), .int 0, .int 0, .ref kq, .ref km, .ref kd, .int 0, .ref ka, .ref kk])), (ks, .inl (cI, 5, .inl (upd (fun _ => 0) 0 800))), (kw, .inl (cI, 14, .inl (fun _ => 0)))] := hD
    obtain rfl : r285 = 0 := hq285
    refine lv_dup2_11 hx hb dX3_countSlots_48 rfl rfl ?_
    refine va_iald hx hb hK hP 1 0 rfl rfl (vin (by decide) (by decide)) dX3_countSlots_49 ?_
    refine lv_topi (fun x286 e286 => ?_)
    obtain rfl : x286 = 12 := e286.trans (by first | rfl | decide)
    refine lv_iconst (v := 2) hx hb dX3_countSlots_50 (by decide) ?_
    refine lv_iadd hx hb dX3_countSlots_51 ?_
    refine lv_topi (fun x287 e287 => ?_)
    obtain rfl : x287 = 14 := e287.trans (by decide)
    refine va_iast hx hb hK hP hD hS 1 0 rfl rfl (vin (by decide) (by decide)) dX3_countSlots_52 (fun H locs hP hD hS => ?_)
    replace hP : va_P (dC, dI) vwCl [(o, .inr (3, [.ref k, .ref op, .int 0, .ref oq, .ref ov, .ref os])), (os, .inl (cI, 5, .inl (upd (upd (upd (upd (upd (upd (upd (upd (upd (upd (upd (upd (fun _ => 0) 0 0) 1 0) 2 0) 3 0) 4 0) 0 2) 0 4) 0 6) 0 8) 0 10) 0 12) 0 14))), (k, .inr (0, [.ref ks, .ref kw, .ref kc, .int (-6), .int 0, .int 0, .ref kq, .ref km, .ref kd, .int 0, .ref ka, .ref kk])), (ks, .inl (cI, 5, .inl (upd (fun _ => 0) 0 800))), (kw, .inl (cI, 14, .inl (fun _ => 0)))] H := hP
    replace hD : va_D A [(o, .inr (3, [.ref k, .ref op, .int 0, .ref oq, .ref ov, .ref os])), (os, .inl (cI, 5, .inl (upd (upd (upd (upd (upd (upd (upd (upd (upd (upd (upd (upd (fun _ => 0) 0 0) 1 0) 2 0) 3 0) 4 0) 0 2) 0 4) 0 6) 0 8) 0 10) 0 12) 0 14))), (k, .inr (0, [.ref ks, .ref kw, .ref kc, .int (-6), .int 0, .int 0, .ref kq, .ref km, .ref kd, .int 0, .ref ka, .ref kk])), (ks, .inl (cI, 5, .inl (upd (fun _ => 0) 0 800))), (kw, .inl (cI, 14, .inl (fun _ => 0)))] := hD
    refine lv_iinc (v := 7) (lv' := [(2, .int 7), (0, .ref o), (1, .int 9)]) hx hb dX3_countSlots_53 hl (k := 0) rfl (by decide) (by decide) rfl (fun ls hl => ?_)
    refine lv_goto (tgt := 30) hx hb dX3_countSlots_56 (by decide) ?_
    refine lv_iload_n hx hb dX3_countSlots_30 rfl (lv_at hl 0 rfl) ?_
    refine lv_iload_n hx hb dX3_countSlots_31 rfl (lv_at hl 2 rfl) ?_
    refine lv_icmp_gt (tgt := 59) hx hb dX3_countSlots_32 (by decide) (fun c288 => absurd c288 (by decide)) (fun c288 => ?_)
    refine lv_aload_n hx hb dX3_countSlots_35 rfl (lv_at hl 1 rfl) ?_
    refine va_get (D := (dC, dI)) (ci := 3) (v := .ref os) (C := RX3) (T := TX3) (N := 6) hx hb hts hin3 hown hK hP 0 rfl rfl 5 (by decide) hw0 (fun _ h9 => h9) rfl dX3_countSlots_36 ?_
    refine lv_aload_n hx hb dX3_countSlots_39 rfl (lv_at hl 1 rfl) ?_
    refine va_get (D := (dC, dI)) (ci := 3) (v := .ref k) (C := RX3) (T := TX3) (N := 6) hx hb hts hin3 hown hK hP 0 rfl rfl 0 (by decide) hw1 (fun _ h9 => h9) rfl dX3_countSlots_40 ?_
    refine lv_iload_n hx hb dX3_countSlots_43 rfl (lv_at hl 0 rfl) ?_
    refine lv_iconst (v := 0) hx hb dX3_countSlots_44 (by decide) ?_
    refine mx_i (wr := [(o, .inr (3, [.ref k, .ref op, .int 0, .ref oq, .ref ov, .ref os])), (os, .inl (cI, 5, .inl (upd (upd (upd (upd (upd (upd (upd (upd (upd (upd (upd (upd (fun _ => 0) 0 0) 1 0) 2 0) 3 0) 4 0) 0 2) 0 4) 0 6) 0 8) 0 10) 0 12) 0 14)))]) (va_runV (As := [.int 7, .int 0]) (rest := [.ref os]) ⟨hx, hb, hml, hown, hts⟩ (c_X0_windOn l dC dI cI cZ cK tS aK aV k ks kw kc kq km kd ka kk 7 H.size (by have z8 : (7 : Int32).toInt = 7 := rfl; first | omega | decide | assumption | trivial)) (cwV 2 hts (gw_v (fun _ h9 => List.mem_cons_of_mem _ h9) wm_169 wm_170 wm_171 wm_10 wm_172) rfl rfl rfl (by decide +kernel) ⟨Nat.le_of_ble_eq_true rfl, Nat.le_of_ble_eq_true rfl⟩) (mx_preV (C := RX0) (T := TX0) (N := 12) (ci := 0) hKx hP hD hS hA [2, 3, 4] (by decide) rfl rfl rfl) rfl rfl hl.1 rfl (lv_room (Nat.le_of_ble_eq_true rfl)) dX3_countSlots_45 ⟨Nat.le_of_ble_eq_true rfl, Nat.le_of_ble_eq_true rfl⟩) hP hD hS hA [2, 3, 4] [0, 1] rfl rfl (by decide) (by decide) (fun r289 u289 H locs hq289 hP hD hS => ?_)
    replace hP : va_P (dC, dI) vwCl [(o, .inr (3, [.ref k, .ref op, .int 0, .ref oq, .ref ov, .ref os])), (os, .inl (cI, 5, .inl (upd (upd (upd (upd (upd (upd (upd (upd (upd (upd (upd (upd (fun _ => 0) 0 0) 1 0) 2 0) 3 0) 4 0) 0 2) 0 4) 0 6) 0 8) 0 10) 0 12) 0 14))), (k, .inr (0, [.ref ks, .ref kw, .ref kc, .int (-6), .int 0, .int 0, .ref kq, .ref km, .ref kd, .int 0, .ref ka, .ref kk])), (ks, .inl (cI, 5, .inl (upd (fun _ => 0) 0 800))), (kw, .inl (cI, 14, .inl (fun _ => 0)))] H := hP
    replace hD : va_D A [(o, .inr (3, [.ref k, .ref op, .int 0, .ref oq, .ref ov, .ref os])), (os, .inl (cI, 5, .inl (upd (upd (upd (upd (upd (upd (upd (upd (upd (upd (upd (upd (fun _ => 0) 0 0) 1 0) 2 0) 3 0) 4 0) 0 2) 0 4) 0 6) 0 8) 0 10) 0 12) 0 14))), (k, .inr (0, [.ref ks, .ref kw, .ref kc, .int (-6), .int 0, .int 0, .ref kq, .ref km, .ref kd, .int 0, .ref ka, .ref kk])), (ks, .inl (cI, 5, .inl (upd (fun _ => 0) 0 800))), (kw, .inl (cI, 14, .inl (fun _ => 0)))] := hD
    obtain rfl : r289 = 0 := hq289
    refine lv_dup2_11 hx hb dX3_countSlots_48 rfl rfl ?_
    refine va_iald hx hb hK hP 1 0 rfl rfl (vin (by decide) (by decide)) dX3_countSlots_49 ?_
    refine lv_topi (fun x290 e290 => ?_)
    obtain rfl : x290 = 14 := e290.trans (by first | rfl | decide)
    refine lv_iconst (v := 2) hx hb dX3_countSlots_50 (by decide) ?_
    refine lv_iadd hx hb dX3_countSlots_51 ?_
    refine lv_topi (fun x291 e291 => ?_)
    obtain rfl : x291 = 16 := e291.trans (by decide)
    refine va_iast hx hb hK hP hD hS 1 0 rfl rfl (vin (by decide) (by decide)) dX3_countSlots_52 (fun H locs hP hD hS => ?_)
    replace hP : va_P (dC, dI) vwCl [(o, .inr (3, [.ref k, .ref op, .int 0, .ref oq, .ref ov, .ref os])), (os, .inl (cI, 5, .inl (upd (upd (upd (upd (upd (upd (upd (upd (upd (upd (upd (upd (upd (fun _ => 0) 0 0) 1 0) 2 0) 3 0) 4 0) 0 2) 0 4) 0 6) 0 8) 0 10) 0 12) 0 14) 0 16))), (k, .inr (0, [.ref ks, .ref kw, .ref kc, .int (-6), .int 0, .int 0, .ref kq, .ref km, .ref kd, .int 0, .ref ka, .ref kk])), (ks, .inl (cI, 5, .inl (upd (fun _ => 0) 0 800))), (kw, .inl (cI, 14, .inl (fun _ => 0)))] H := hP
    replace hD : va_D A [(o, .inr (3, [.ref k, .ref op, .int 0, .ref oq, .ref ov, .ref os])), (os, .inl (cI, 5, .inl (upd (upd (upd (upd (upd (upd (upd (upd (upd (upd (upd (upd (upd (fun _ => 0) 0 0) 1 0) 2 0) 3 0) 4 0) 0 2) 0 4) 0 6) 0 8) 0 10) 0 12) 0 14) 0 16))), (k, .inr (0, [.ref ks, .ref kw, .ref kc, .int (-6), .int 0, .int 0, .ref kq, .ref km, .ref kd, .int 0, .ref ka, .ref kk])), (ks, .inl (cI, 5, .inl (upd (fun _ => 0) 0 800))), (kw, .inl (cI, 14, .inl (fun _ => 0)))] := hD
    refine lv_iinc (v := 8) (lv' := [(2, .int 8), (0, .ref o), (1, .int 9)]) hx hb dX3_countSlots_53 hl (k := 0) rfl (by decide) (by decide) rfl (fun ls hl => ?_)
    refine lv_goto (tgt := 30) hx hb dX3_countSlots_56 (by decide) ?_
    refine lv_iload_n hx hb dX3_countSlots_30 rfl (lv_at hl 0 rfl) ?_
    refine lv_iload_n hx hb dX3_countSlots_31 rfl (lv_at hl 2 rfl) ?_
    refine lv_icmp_gt (tgt := 59) hx hb dX3_countSlots_32 (by decide) (fun c292 => absurd c292 (by decide)) (fun c292 => ?_)
    refine lv_aload_n hx hb dX3_countSlots_35 rfl (lv_at hl 1 rfl) ?_
    refine va_get (D := (dC, dI)) (ci := 3) (v := .ref os) (C := RX3) (T := TX3) (N := 6) hx hb hts hin3 hown hK hP 0 rfl rfl 5 (by decide) hw0 (fun _ h9 => h9) rfl dX3_countSlots_36 ?_
    refine lv_aload_n hx hb dX3_countSlots_39 rfl (lv_at hl 1 rfl) ?_
    refine va_get (D := (dC, dI)) (ci := 3) (v := .ref k) (C := RX3) (T := TX3) (N := 6) hx hb hts hin3 hown hK hP 0 rfl rfl 0 (by decide) hw1 (fun _ h9 => h9) rfl dX3_countSlots_40 ?_
    refine lv_iload_n hx hb dX3_countSlots_43 rfl (lv_at hl 0 rfl) ?_
    refine lv_iconst (v := 0) hx hb dX3_countSlots_44 (by decide) ?_
    refine mx_i (wr := [(o, .inr (3, [.ref k, .ref op, .int 0, .ref oq, .ref ov, .ref os])), (os, .inl (cI, 5, .inl (upd (upd (upd (upd (upd (upd (upd (upd (upd (upd (upd (upd (upd (fun _ => 0) 0 0) 1 0) 2 0) 3 0) 4 0) 0 2) 0 4) 0 6) 0 8) 0 10) 0 12) 0 14) 0 16)))]) (va_runV (As := [.int 8, .int 0]) (rest := [.ref os]) ⟨hx, hb, hml, hown, hts⟩ (c_X0_windOn l dC dI cI cZ cK tS aK aV k ks kw kc kq km kd ka kk 8 H.size (by have z8 : (8 : Int32).toInt = 8 := rfl; first | omega | decide | assumption | trivial)) (cwV 2 hts (gw_v (fun _ h9 => List.mem_cons_of_mem _ h9) wm_169 wm_170 wm_171 wm_10 wm_172) rfl rfl rfl (by decide +kernel) ⟨Nat.le_of_ble_eq_true rfl, Nat.le_of_ble_eq_true rfl⟩) (mx_preV (C := RX0) (T := TX0) (N := 12) (ci := 0) hKx hP hD hS hA [2, 3, 4] (by decide) rfl rfl rfl) rfl rfl hl.1 rfl (lv_room (Nat.le_of_ble_eq_true rfl)) dX3_countSlots_45 ⟨Nat.le_of_ble_eq_true rfl, Nat.le_of_ble_eq_true rfl⟩) hP hD hS hA [2, 3, 4] [0, 1] rfl rfl (by decide) (by decide) (fun r293 u293 H locs hq293 hP hD hS => ?_)
    replace hP : va_P (dC, dI) vwCl [(o, .inr (3, [.ref k, .ref op, .int 0, .ref oq, .ref ov, .ref os])), (os, .inl (cI, 5, .inl (upd (upd (upd (upd (upd (upd (upd (upd (upd (upd (upd (upd (upd (fun _ => 0) 0 0) 1 0) 2 0) 3 0) 4 0) 0 2) 0 4) 0 6) 0 8) 0 10) 0 12) 0 14) 0 16))), (k, .inr (0, [.ref ks, .ref kw, .ref kc, .int (-6), .int 0, .int 0, .ref kq, .ref km, .ref kd, .int 0, .ref ka, .ref kk])), (ks, .inl (cI, 5, .inl (upd (fun _ => 0) 0 800))), (kw, .inl (cI, 14, .inl (fun _ => 0)))] H := hP
    replace hD : va_D A [(o, .inr (3, [.ref k, .ref op, .int 0, .ref oq, .ref ov, .ref os])), (os, .inl (cI, 5, .inl (upd (upd (upd (upd (upd (upd (upd (upd (upd (upd (upd (upd (upd (fun _ => 0) 0 0) 1 0) 2 0) 3 0) 4 0) 0 2) 0 4) 0 6) 0 8) 0 10) 0 12) 0 14) 0 16))), (k, .inr (0, [.ref ks, .ref kw, .ref kc, .int (-6), .int 0, .int 0, .ref kq, .ref km, .ref kd, .int 0, .ref ka, .ref kk])), (ks, .inl (cI, 5, .inl (upd (fun _ => 0) 0 800))), (kw, .inl (cI, 14, .inl (fun _ => 0)))] := hD
    obtain rfl : r293 = 0 := hq293
    refine lv_dup2_11 hx hb dX3_countSlots_48 rfl rfl ?_
    refine va_iald hx hb hK hP 1 0 rfl rfl (vin (by decide) (by decide)) dX3_countSlots_49 ?_
    refine lv_topi (fun x294 e294 => ?_)
    obtain rfl : x294 = 16 := e294.trans (by first | rfl | decide)
    refine lv_iconst (v := 2) hx hb dX3_countSlots_50 (by decide) ?_
    refine lv_iadd hx hb dX3_countSlots_51 ?_
    refine lv_topi (fun x295 e295 => ?_)
    obtain rfl : x295 = 18 := e295.trans (by decide)
    refine va_iast hx hb hK hP hD hS 1 0 rfl rfl (vin (by decide) (by decide)) dX3_countSlots_52 (fun H locs hP hD hS => ?_)
    replace hP : va_P (dC, dI) vwCl [(o, .inr (3, [.ref k, .ref op, .int 0, .ref oq, .ref ov, .ref os])), (os, .inl (cI, 5, .inl (upd (upd (upd (upd (upd (upd (upd (upd (upd (upd (upd (upd (upd (upd (fun _ => 0) 0 0) 1 0) 2 0) 3 0) 4 0) 0 2) 0 4) 0 6) 0 8) 0 10) 0 12) 0 14) 0 16) 0 18))), (k, .inr (0, [.ref ks, .ref kw, .ref kc, .int (-6), .int 0, .int 0, .ref kq, .ref km, .ref kd, .int 0, .ref ka, .ref kk])), (ks, .inl (cI, 5, .inl (upd (fun _ => 0) 0 800))), (kw, .inl (cI, 14, .inl (fun _ => 0)))] H := hP
    replace hD : va_D A [(o, .inr (3, [.ref k, .ref op, .int 0, .ref oq, .ref ov, .ref os])), (os, .inl (cI, 5, .inl (upd (upd (upd (upd (upd (upd (upd (upd (upd (upd (upd (upd (upd (upd (fun _ => 0) 0 0) 1 0) 2 0) 3 0) 4 0) 0 2) 0 4) 0 6) 0 8) 0 10) 0 12) 0 14) 0 16) 0 18))), (k, .inr (0, [.ref ks, .ref kw, .ref kc, .int (-6), .int 0, .int 0, .ref kq, .ref km, .ref kd, .int 0, .ref ka, .ref kk])), (ks, .inl (cI, 5, .inl (upd (fun _ => 0) 0 800))), (kw, .inl (cI, 14, .inl (fun _ => 0)))] := hD
    refine lv_iinc (v := 9) (lv' := [(2, .int 9), (0, .ref o), (1, .int 9)]) hx hb dX3_countSlots_53 hl (k := 0) rfl (by decide) (by decide) rfl (fun ls hl => ?_)
    refine lv_goto (tgt := 30) hx hb dX3_countSlots_56 (by decide) ?_
    refine lv_iload_n hx hb dX3_countSlots_30 rfl (lv_at hl 0 rfl) ?_
    refine lv_iload_n hx hb dX3_countSlots_31 rfl (lv_at hl 2 rfl) ?_
    refine lv_icmp_gt (tgt := 59) hx hb dX3_countSlots_32 (by decide) (fun c296 => absurd c296 (by decide)) (fun c296 => ?_)
    refine lv_aload_n hx hb dX3_countSlots_35 rfl (lv_at hl 1 rfl) ?_
    refine va_get (D := (dC, dI)) (ci := 3) (v := .ref os) (C := RX3) (T := TX3) (N := 6) hx hb hts hin3 hown hK hP 0 rfl rfl 5 (by decide) hw0 (fun _ h9 => h9) rfl dX3_countSlots_36 ?_
    refine lv_aload_n hx hb dX3_countSlots_39 rfl (lv_at hl 1 rfl) ?_
    refine va_get (D := (dC, dI)) (ci := 3) (v := .ref k) (C := RX3) (T := TX3) (N := 6) hx hb hts hin3 hown hK hP 0 rfl rfl 0 (by decide) hw1 (fun _ h9 => h9) rfl dX3_countSlots_40 ?_
    refine lv_iload_n hx hb dX3_countSlots_43 rfl (lv_at hl 0 rfl) ?_
    refine lv_iconst (v := 0) hx hb dX3_countSlots_44 (by decide) ?_
    refine mx_i (wr := [(o, .inr (3, [.ref k, .ref op, .int 0, .ref oq, .ref ov, .ref os])), (os, .inl (cI, 5, .inl (upd (upd (upd (upd (upd (upd (upd (upd (upd (upd (upd (upd (upd (upd (fun _ => 0) 0 0) 1 0) 2 0) 3 0) 4 0) 0 2) 0 4) 0 6) 0 8) 0 10) 0 12) 0 14) 0 16) 0 18)))]) (va_runV (As := [.int 9, .int 0]) (rest := [.ref os]) ⟨hx, hb, hml, hown, hts⟩ (c_X0_windOn l dC dI cI cZ cK tS aK aV k ks kw kc kq km kd ka kk 9 H.size (by have z8 : (9 : Int32).toInt = 9 := rfl; first | omega | decide | assumption | trivial)) (cwV 2 hts (gw_v (fun _ h9 => List.mem_cons_of_mem _ h9) wm_169 wm_170 wm_171 wm_10 wm_172) rfl rfl rfl (by decide +kernel) ⟨Nat.le_of_ble_eq_true rfl, Nat.le_of_ble_eq_true rfl⟩) (mx_preV (C := RX0) (T := TX0) (N := 12) (ci := 0) hKx hP hD hS hA [2, 3, 4] (by decide) rfl rfl rfl) rfl rfl hl.1 rfl (lv_room (Nat.le_of_ble_eq_true rfl)) dX3_countSlots_45 ⟨Nat.le_of_ble_eq_true rfl, Nat.le_of_ble_eq_true rfl⟩) hP hD hS hA [2, 3, 4] [0, 1] rfl rfl (by decide) (by decide) (fun r297 u297 H locs hq297 hP hD hS => ?_)
    replace hP : va_P (dC, dI) vwCl [(o, .inr (3, [.ref k, .ref op, .int 0, .ref oq, .ref ov, .ref os])), (os, .inl (cI, 5, .inl (upd (upd (upd (upd (upd (upd (upd (upd (upd (upd (upd (upd (upd (upd (fun _ => 0) 0 0) 1 0) 2 0) 3 0) 4 0) 0 2) 0 4) 0 6) 0 8) 0 10) 0 12) 0 14) 0 16) 0 18))), (k, .inr (0, [.ref ks, .ref kw, .ref kc, .int (-6), .int 0, .int 0, .ref kq, .ref km, .ref kd, .int 0, .ref ka, .ref kk])), (ks, .inl (cI, 5, .inl (upd (fun _ => 0) 0 800))), (kw, .inl (cI, 14, .inl (fun _ => 0)))] H := hP
    replace hD : va_D A [(o, .inr (3, [.ref k, .ref op, .int 0, .ref oq, .ref ov, .ref os])), (os, .inl (cI, 5, .inl (upd (upd (upd (upd (upd (upd (upd (upd (upd (upd (upd (upd (upd (upd (fun _ => 0) 0 0) 1 0) 2 0) 3 0) 4 0) 0 2) 0 4) 0 6) 0 8) 0 10) 0 12) 0 14) 0 16) 0 18))), (k, .inr (0, [.ref ks, .ref kw, .ref kc, .int (-6), .int 0, .int 0, .ref kq, .ref km, .ref kd, .int 0, .ref ka, .ref kk])), (ks, .inl (cI, 5, .inl (upd (fun _ => 0) 0 800))), (kw, .inl (cI, 14, .inl (fun _ => 0)))] := hD
    obtain rfl : r297 = 0 := hq297
    refine lv_dup2_11 hx hb dX3_countSlots_48 rfl rfl ?_
    refine va_iald hx hb hK hP 1 0 rfl rfl (vin (by decide) (by decide)) dX3_countSlots_49 ?_
    refine lv_topi (fun x298 e298 => ?_)
    obtain rfl : x298 = 18 := e298.trans (by first | rfl | decide)
    refine lv_iconst (v := 2) hx hb dX3_countSlots_50 (by decide) ?_
    refine lv_iadd hx hb dX3_countSlots_51 ?_
    refine lv_topi (fun x299 e299 => ?_)
    obtain rfl : x299 = 20 := e299.trans (by decide)
    refine va_iast hx hb hK hP hD hS 1 0 rfl rfl (vin (by decide) (by decide)) dX3_countSlots_52 (fun H locs hP hD hS => ?_)
    replace hP : va_P (dC, dI) vwCl [(o, .inr (3, [.ref k, .ref op, .int 0, .ref oq, .ref ov, .ref os])), (os, .inl (cI, 5, .inl (upd (upd (upd (upd (upd (upd (upd (upd (upd (upd (upd (upd (upd (upd (upd (fun _ => 0) 0 0) 1 0) 2 0) 3 0) 4 0) 0 2) 0 4) 0 6) 0 8) 0 10) 0 12) 0 14) 0 16) 0 18) 0 20))), (k, .inr (0, [.ref ks, .ref kw, .ref kc, .int (-6), .int 0, .int 0, .ref kq, .ref km, .ref kd, .int 0, .ref ka, .ref kk])), (ks, .inl (cI, 5, .inl (upd (fun _ => 0) 0 800))), (kw, .inl (cI, 14, .inl (fun _ => 0)))] H := hP
    replace hD : va_D A [(o, .inr (3, [.ref k, .ref op, .int 0, .ref oq, .ref ov, .ref os])), (os, .inl (cI, 5, .inl (upd (upd (upd (upd (upd (upd (upd (upd (upd (upd (upd (upd (upd (upd (upd (fun _ => 0) 0 0) 1 0) 2 0) 3 0) 4 0) 0 2) 0 4) 0 6) 0 8) 0 10) 0 12) 0 14) 0 16) 0 18) 0 20))), (k, .inr (0, [.ref ks, .ref kw, .ref kc, .int (-6), .int 0, .int 0, .ref kq, .ref km, .ref kd, .int 0, .ref ka, .ref kk])), (ks, .inl (cI, 5, .inl (upd (fun _ => 0) 0 800))), (kw, .inl (cI, 14, .inl (fun _ => 0)))] := hD
    refine lv_iinc (v := 10) (lv' := [(2, .int 10), (0, .ref o), (1, .int 9)]) hx hb dX3_countSlots_53 hl (k := 0) rfl (by decide) (by decide) rfl (fun ls hl => ?_)
    refine lv_goto (tgt := 30) hx hb dX3_countSlots_56 (by decide) ?_
    refine lv_iload_n hx hb dX3_countSlots_30 rfl (lv_at hl 0 rfl) ?_
    refine lv_iload_n hx hb dX3_countSlots_31 rfl (lv_at hl 2 rfl) ?_
    refine lv_icmp_gt (tgt := 59) hx hb dX3_countSlots_32 (by decide) (fun c300 => ?_) (fun c300 => absurd c300 (by decide))
    have hP9 := mx_subP (wc := [(o, .inr (3, [.ref k, .ref op, .int 0, .ref oq, .ref ov, .ref os])), (os, .inl (cI, 5, .inl (upd (upd (upd (upd (upd (upd (upd (upd (upd (upd (upd (upd (upd (upd (upd (fun _ => 0) 0 0) 1 0) 2 0) 3 0) 4 0) 0 2) 0 4) 0 6) 0 8) 0 10) 0 12) 0 14) 0 16) 0 18) 0 20))), (k, .inr (0, [.ref ks, .ref kw, .ref kc, .int (-6), .int 0, .int 0, .ref kq, .ref km, .ref kd, .int 0, .ref ka, .ref kk])), (ks, .inl (cI, 5, .inl (upd (fun _ => 0) 0 800))), (kw, .inl (cI, 14, .inl (fun _ => 0)))]) hP [0, 1, 2, 3, 4] rfl
    have hD9 := hD.sub (ws' := [(o, .inr (3, [.ref k, .ref op, .int 0, .ref oq, .ref ov, .ref os])), (os, .inl (cI, 5, .inl (upd (upd (upd (upd (upd (upd (upd (upd (upd (upd (upd (upd (upd (upd (upd (fun _ => 0) 0 0) 1 0) 2 0) 3 0) 4 0) 0 2) 0 4) 0 6) 0 8) 0 10) 0 12) 0 14) 0 16) 0 18) 0 20))), (k, .inr (0, [.ref ks, .ref kw, .ref kc, .int (-6), .int 0, .int 0, .ref kq, .ref km, .ref kd, .int 0, .ref ka, .ref kk])), (ks, .inl (cI, 5, .inl (upd (fun _ => 0) 0 800))), (kw, .inl (cI, 14, .inl (fun _ => 0)))]) [0, 1, 2, 3, 4] (by decide) rfl
    exact W.vret hx hb hr (fun t ht hW => ⟨⟨(upd (upd (upd (upd (upd (upd (upd (upd (upd (upd (upd (upd (upd (upd (upd (fun _ => 0) 0 0) 1 0) 2 0) 3 0) 4 0) 0 2) 0 4) 0 6) 0 8) 0 10) 0 12) 0 14) 0 16) 0 18) 0 20), rfl, (by refine ⟨?_, ?_, ?_, ?_, ?_, ?_, ?_, ?_, ?_, ?_⟩ <;> decide), by rw [ht]; exact hP9, hD9⟩, hS.F ht⟩) hS.2.2 dX3_countSlots_59
  · have z9 : (10 : Int32).toInt = 10 := rfl
    refine lv_iconst (v := 0) hx hb dX3_countSlots_0 (by decide) ?_
    refine lv_istore_n (lv' := [(2, .int 0), (0, .ref o), (1, .int 10)]) hx hb dX3_countSlots_1 rfl hl (by decide) rfl (fun ls hl => ?_)
    refine lv_iload_n hx hb dX3_countSlots_2 rfl (lv_at hl 0 rfl) ?_
    refine lv_iconst (v := 4) hx hb dX3_countSlots_3 (by decide) ?_
    refine lv_icmp_gt (tgt := 20) hx hb dX3_countSlots_4 (by decide) (fun c301 => absurd c301 (by decide)) (fun c301 => ?_)
    refine lv_aload_n hx hb dX3_countSlots_7 rfl (lv_at hl 1 rfl) ?_
    refine va_get (D := (dC, dI)) (ci := 3) (v := .ref os) (C := RX3) (T := TX3) (N := 6) hx hb hts hin3 hown hK hP 0 rfl rfl 5 (by decide) hw0 (fun _ h9 => h9) rfl dX3_countSlots_8 ?_
    refine lv_iload_n hx hb dX3_countSlots_11 rfl (lv_at hl 0 rfl) ?_
    refine lv_iconst (v := 0) hx hb dX3_countSlots_12 (by decide) ?_
    refine va_iast hx hb hK hP hD hS 1 0 rfl rfl (vin (by decide) (by decide)) dX3_countSlots_13 (fun H locs hP hD hS => ?_)
    replace hP : va_P (dC, dI) vwCl [(o, .inr (3, [.ref k, .ref op, .int 0, .ref oq, .ref ov, .ref os])), (os, .inl (cI, 5, .inl (upd (fun _ => 0) 0 0))), (k, .inr (0, [.ref ks, .ref kw, .ref kc, .int (-6), .int 0, .int 0, .ref kq, .ref km, .ref kd, .int 0, .ref ka, .ref kk])), (ks, .inl (cI, 5, .inl (upd (fun _ => 0) 0 800))), (kw, .inl (cI, 14, .inl (fun _ => 0)))] H := hP
    replace hD : va_D A [(o, .inr (3, [.ref k, .ref op, .int 0, .ref oq, .ref ov, .ref os])), (os, .inl (cI, 5, .inl (upd (fun _ => 0) 0 0))), (k, .inr (0, [.ref ks, .ref kw, .ref kc, .int (-6), .int 0, .int 0, .ref kq, .ref km, .ref kd, .int 0, .ref ka, .ref kk])), (ks, .inl (cI, 5, .inl (upd (fun _ => 0) 0 800))), (kw, .inl (cI, 14, .inl (fun _ => 0)))] := hD
    refine lv_iinc (v := 1) (lv' := [(2, .int 1), (0, .ref o), (1, .int 10)]) hx hb dX3_countSlots_14 hl (k := 0) rfl (by decide) (by decide) rfl (fun ls hl => ?_)
    refine lv_goto (tgt := 2) hx hb dX3_countSlots_17 (by decide) ?_
    refine lv_iload_n hx hb dX3_countSlots_2 rfl (lv_at hl 0 rfl) ?_
    refine lv_iconst (v := 4) hx hb dX3_countSlots_3 (by decide) ?_
    refine lv_icmp_gt (tgt := 20) hx hb dX3_countSlots_4 (by decide) (fun c302 => absurd c302 (by decide)) (fun c302 => ?_)
    refine lv_aload_n hx hb dX3_countSlots_7 rfl (lv_at hl 1 rfl) ?_
    refine va_get (D := (dC, dI)) (ci := 3) (v := .ref os) (C := RX3) (T := TX3) (N := 6) hx hb hts hin3 hown hK hP 0 rfl rfl 5 (by decide) hw0 (fun _ h9 => h9) rfl dX3_countSlots_8 ?_
    refine lv_iload_n hx hb dX3_countSlots_11 rfl (lv_at hl 0 rfl) ?_
    refine lv_iconst (v := 0) hx hb dX3_countSlots_12 (by decide) ?_
    refine va_iast hx hb hK hP hD hS 1 0 rfl rfl (vin (by decide) (by decide)) dX3_countSlots_13 (fun H locs hP hD hS => ?_)
    replace hP : va_P (dC, dI) vwCl [(o, .inr (3, [.ref k, .ref op, .int 0, .ref oq, .ref ov, .ref os])), (os, .inl (cI, 5, .inl (upd (upd (fun _ => 0) 0 0) 1 0))), (k, .inr (0, [.ref ks, .ref kw, .ref kc, .int (-6), .int 0, .int 0, .ref kq, .ref km, .ref kd, .int 0, .ref ka, .ref kk])), (ks, .inl (cI, 5, .inl (upd (fun _ => 0) 0 800))), (kw, .inl (cI, 14, .inl (fun _ => 0)))] H := hP
    replace hD : va_D A [(o, .inr (3, [.ref k, .ref op, .int 0, .ref oq, .ref ov, .ref os])), (os, .inl (cI, 5, .inl (upd (upd (fun _ => 0) 0 0) 1 0))), (k, .inr (0, [.ref ks, .ref kw, .ref kc, .int (-6), .int 0, .int 0, .ref kq, .ref km, .ref kd, .int 0, .ref ka, .ref kk])), (ks, .inl (cI, 5, .inl (upd (fun _ => 0) 0 800))), (kw, .inl (cI, 14, .inl (fun _ => 0)))] := hD
    refine lv_iinc (v := 2) (lv' := [(2, .int 2), (0, .ref o), (1, .int 10)]) hx hb dX3_countSlots_14 hl (k := 0) rfl (by decide) (by decide) rfl (fun ls hl => ?_)
    refine lv_goto (tgt := 2) hx hb dX3_countSlots_17 (by decide) ?_
    refine lv_iload_n hx hb dX3_countSlots_2 rfl (lv_at hl 0 rfl) ?_
    refine lv_iconst (v := 4) hx hb dX3_countSlots_3 (by decide) ?_
    refine lv_icmp_gt (tgt := 20) hx hb dX3_countSlots_4 (by decide) (fun c303 => absurd c303 (by decide)) (fun c303 => ?_)
    refine lv_aload_n hx hb dX3_countSlots_7 rfl (lv_at hl 1 rfl) ?_
    refine va_get (D := (dC, dI)) (ci := 3) (v := .ref os) (C := RX3) (T := TX3) (N := 6) hx hb hts hin3 hown hK hP 0 rfl rfl 5 (by decide) hw0 (fun _ h9 => h9) rfl dX3_countSlots_8 ?_
    refine lv_iload_n hx hb dX3_countSlots_11 rfl (lv_at hl 0 rfl) ?_
    refine lv_iconst (v := 0) hx hb dX3_countSlots_12 (by decide) ?_
    refine va_iast hx hb hK hP hD hS 1 0 rfl rfl (vin (by decide) (by decide)) dX3_countSlots_13 (fun H locs hP hD hS => ?_)
    replace hP : va_P (dC, dI) vwCl [(o, .inr (3, [.ref k, .ref op, .int 0, .ref oq, .ref ov, .ref os])), (os, .inl (cI, 5, .inl (upd (upd (upd (fun _ => 0) 0 0) 1 0) 2 0))), (k, .inr (0, [.ref ks, .ref kw, .ref kc, .int (-6), .int 0, .int 0, .ref kq, .ref km, .ref kd, .int 0, .ref ka, .ref kk])), (ks, .inl (cI, 5, .inl (upd (fun _ => 0) 0 800))), (kw, .inl (cI, 14, .inl (fun _ => 0)))] H := hP
    replace hD : va_D A [(o, .inr (3, [.ref k, .ref op, .int 0, .ref oq, .ref ov, .ref os])), (os, .inl (cI, 5, .inl (upd (upd (upd (fun _ => 0) 0 0) 1 0) 2 0))), (k, .inr (0, [.ref ks, .ref kw, .ref kc, .int (-6), .int 0, .int 0, .ref kq, .ref km, .ref kd, .int 0, .ref ka, .ref kk])), (ks, .inl (cI, 5, .inl (upd (fun _ => 0) 0 800))), (kw, .inl (cI, 14, .inl (fun _ => 0)))] := hD
    refine lv_iinc (v := 3) (lv' := [(2, .int 3), (0, .ref o), (1, .int 10)]) hx hb dX3_countSlots_14 hl (k := 0) rfl (by decide) (by decide) rfl (fun ls hl => ?_)
    refine lv_goto (tgt := 2) hx hb dX3_countSlots_17 (by decide) ?_
    refine lv_iload_n hx hb dX3_countSlots_2 rfl (lv_at hl 0 rfl) ?_
    refine lv_iconst (v := 4) hx hb dX3_countSlots_3 (by decide) ?_
    refine lv_icmp_gt (tgt := 20) hx hb dX3_countSlots_4 (by decide) (fun c304 => absurd c304 (by decide)) (fun c304 => ?_)
    refine lv_aload_n hx hb dX3_countSlots_7 rfl (lv_at hl 1 rfl) ?_
    refine va_get (D := (dC, dI)) (ci := 3) (v := .ref os) (C := RX3) (T := TX3) (N := 6) hx hb hts hin3 hown hK hP 0 rfl rfl 5 (by decide) hw0 (fun _ h9 => h9) rfl dX3_countSlots_8 ?_
    refine lv_iload_n hx hb dX3_countSlots_11 rfl (lv_at hl 0 rfl) ?_
    refine lv_iconst (v := 0) hx hb dX3_countSlots_12 (by decide) ?_
    refine va_iast hx hb hK hP hD hS 1 0 rfl rfl (vin (by decide) (by decide)) dX3_countSlots_13 (fun H locs hP hD hS => ?_)
    replace hP : va_P (dC, dI) vwCl [(o, .inr (3, [.ref k, .ref op, .int 0, .ref oq, .ref ov, .ref os])), (os, .inl (cI, 5, .inl (upd (upd (upd (upd (fun _ => 0) 0 0) 1 0) 2 0) 3 0))), (k, .inr (0, [.ref ks, .ref kw, .ref kc, .int (-6), .int 0, .int 0, .ref kq, .ref km, .ref kd, .int 0, .ref ka, .ref kk])), (ks, .inl (cI, 5, .inl (upd (fun _ => 0) 0 800))), (kw, .inl (cI, 14, .inl (fun _ => 0)))] H := hP
    replace hD : va_D A [(o, .inr (3, [.ref k, .ref op, .int 0, .ref oq, .ref ov, .ref os])), (os, .inl (cI, 5, .inl (upd (upd (upd (upd (fun _ => 0) 0 0) 1 0) 2 0) 3 0))), (k, .inr (0, [.ref ks, .ref kw, .ref kc, .int (-6), .int 0, .int 0, .ref kq, .ref km, .ref kd, .int 0, .ref ka, .ref kk])), (ks, .inl (cI, 5, .inl (upd (fun _ => 0) 0 800))), (kw, .inl (cI, 14, .inl (fun _ => 0)))] := hD
    refine lv_iinc (v := 4) (lv' := [(2, .int 4), (0, .ref o), (1, .int 10)]) hx hb dX3_countSlots_14 hl (k := 0) rfl (by decide) (by decide) rfl (fun ls hl => ?_)
    refine lv_goto (tgt := 2) hx hb dX3_countSlots_17 (by decide) ?_
    refine lv_iload_n hx hb dX3_countSlots_2 rfl (lv_at hl 0 rfl) ?_
    refine lv_iconst (v := 4) hx hb dX3_countSlots_3 (by decide) ?_
    refine lv_icmp_gt (tgt := 20) hx hb dX3_countSlots_4 (by decide) (fun c305 => absurd c305 (by decide)) (fun c305 => ?_)
    refine lv_aload_n hx hb dX3_countSlots_7 rfl (lv_at hl 1 rfl) ?_
    refine va_get (D := (dC, dI)) (ci := 3) (v := .ref os) (C := RX3) (T := TX3) (N := 6) hx hb hts hin3 hown hK hP 0 rfl rfl 5 (by decide) hw0 (fun _ h9 => h9) rfl dX3_countSlots_8 ?_
    refine lv_iload_n hx hb dX3_countSlots_11 rfl (lv_at hl 0 rfl) ?_
    refine lv_iconst (v := 0) hx hb dX3_countSlots_12 (by decide) ?_
    refine va_iast hx hb hK hP hD hS 1 0 rfl rfl (vin (by decide) (by decide)) dX3_countSlots_13 (fun H locs hP hD hS => ?_)
    replace hP : va_P (dC, dI) vwCl [(o, .inr (3, [.ref k, .ref op, .int 0, .ref oq, .ref ov, .ref os])), (os, .inl (cI, 5, .inl (upd (upd (upd (upd (upd (fun _ => 0) 0 0) 1 0) 2 0) 3 0) 4 0))), (k, .inr (0, [.ref ks, .ref kw, .ref kc, .int (-6), .int 0, .int 0, .ref kq, .ref km, .ref kd, .int 0, .ref ka, .ref kk])), (ks, .inl (cI, 5, .inl (upd (fun _ => 0) 0 800))), (kw, .inl (cI, 14, .inl (fun _ => 0)))] H := hP
    replace hD : va_D A [(o, .inr (3, [.ref k, .ref op, .int 0, .ref oq, .ref ov, .ref os])), (os, .inl (cI, 5, .inl (upd (upd (upd (upd (upd (fun _ => 0) 0 0) 1 0) 2 0) 3 0) 4 0))), (k, .inr (0, [.ref ks, .ref kw, .ref kc, .int (-6), .int 0, .int 0, .ref kq, .ref km, .ref kd, .int 0, .ref ka, .ref kk])), (ks, .inl (cI, 5, .inl (upd (fun _ => 0) 0 800))), (kw, .inl (cI, 14, .inl (fun _ => 0)))] := hD
    refine lv_iinc (v := 5) (lv' := [(2, .int 5), (0, .ref o), (1, .int 10)]) hx hb dX3_countSlots_14 hl (k := 0) rfl (by decide) (by decide) rfl (fun ls hl => ?_)
    refine lv_goto (tgt := 2) hx hb dX3_countSlots_17 (by decide) ?_
    refine lv_iload_n hx hb dX3_countSlots_2 rfl (lv_at hl 0 rfl) ?_
    refine lv_iconst (v := 4) hx hb dX3_countSlots_3 (by decide) ?_
    refine lv_icmp_gt (tgt := 20) hx hb dX3_countSlots_4 (by decide) (fun c306 => ?_) (fun c306 => absurd c306 (by decide))
    refine lv_aload_n hx hb dX3_countSlots_20 rfl (lv_at hl 1 rfl) ?_
    refine va_get (D := (dC, dI)) (ci := 3) (v := .ref k) (C := RX3) (T := TX3) (N := 6) hx hb hts hin3 hown hK hP 0 rfl rfl 0 (by decide) hw1 (fun _ h9 => h9) rfl dX3_countSlots_21 ?_
    refine va_get (D := (dC, dI)) (ci := 0) (v := .ref ks) (C := RX0) (T := TX0) (N := 12) hx hb hts hin0 hown hK hP 2 rfl rfl 0 (by decide) hw2 (fun _ h9 => h9) rfl dX3_countSlots_24 ?_
    refine lv_iconst (v := 4) hx hb dX3_countSlots_27 (by decide) ?_
    refine va_iald hx hb hK hP 3 0 rfl rfl (vin (by decide) (by decide)) dX3_countSlots_28 ?_
    refine lv_topi (fun x307 e307 => ?_)
    obtain rfl : x307 = 0 := e307.trans (by first | rfl | decide)
    refine lv_istore_n (lv' := [(2, .int 0), (0, .ref o), (1, .int 10)]) hx hb dX3_countSlots_29 rfl hl (by decide) rfl (fun ls hl => ?_)
    refine lv_iload_n hx hb dX3_countSlots_30 rfl (lv_at hl 0 rfl) ?_
    refine lv_iload_n hx hb dX3_countSlots_31 rfl (lv_at hl 2 rfl) ?_
    refine lv_icmp_gt (tgt := 59) hx hb dX3_countSlots_32 (by decide) (fun c308 => absurd c308 (by decide)) (fun c308 => ?_)
    refine lv_aload_n hx hb dX3_countSlots_35 rfl (lv_at hl 1 rfl) ?_
    refine va_get (D := (dC, dI)) (ci := 3) (v := .ref os) (C := RX3) (T := TX3) (N := 6) hx hb hts hin3 hown hK hP 0 rfl rfl 5 (by decide) hw0 (fun _ h9 => h9) rfl dX3_countSlots_36 ?_
    refine lv_aload_n hx hb dX3_countSlots_39 rfl (lv_at hl 1 rfl) ?_
    refine va_get (D := (dC, dI)) (ci := 3) (v := .ref k) (C := RX3) (T := TX3) (N := 6) hx hb hts hin3 hown hK hP 0 rfl rfl 0 (by decide) hw1 (fun _ h9 => h9) rfl dX3_countSlots_40 ?_
    refine lv_iload_n hx hb dX3_countSlots_43 rfl (lv_at hl 0 rfl) ?_
    refine lv_iconst (v := 0) hx hb dX3_countSlots_44 (by decide) ?_
    refine mx_i (wr := [(o, .inr (3, [.ref k, .ref op, .int 0, .ref oq, .ref ov, .ref os])), (os, .inl (cI, 5, .inl (upd (upd (upd (upd (upd (fun _ => 0) 0 0) 1 0) 2 0) 3 0) 4 0)))]) (va_runV (As := [.int 0, .int 0]) (rest := [.ref os]) ⟨hx, hb, hml, hown, hts⟩ (c_X0_windOn l dC dI cI cZ cK tS aK aV k ks kw kc kq km kd ka kk 0 H.size (by have z8 : (0 : Int32).toInt = 0 := rfl; first | omega | decide | assumption | trivial)) (cwV 2 hts (gw_v (fun _ h9 => List.mem_cons_of_mem _ h9) wm_169 wm_170 wm_171 wm_10 wm_172) rfl rfl rfl (by decide +kernel) ⟨Nat.le_of_ble_eq_true rfl, Nat.le_of_ble_eq_true rfl⟩) (mx_preV (C := RX0) (T := TX0) (N := 12) (ci := 0) hKx hP hD hS hA [2, 3, 4] (by decide) rfl rfl rfl) rfl rfl hl.1 rfl (lv_room (Nat.le_of_ble_eq_true rfl)) dX3_countSlots_45 ⟨Nat.le_of_ble_eq_true rfl, Nat.le_of_ble_eq_true rfl⟩) hP hD hS hA [2, 3, 4] [0, 1] rfl rfl (by decide) (by decide) (fun r309 u309 H locs hq309 hP hD hS => ?_)
    replace hP : va_P (dC, dI) vwCl [(o, .inr (3, [.ref k, .ref op, .int 0, .ref oq, .ref ov, .ref os])), (os, .inl (cI, 5, .inl (upd (upd (upd (upd (upd (fun _ => 0) 0 0) 1 0) 2 0) 3 0) 4 0))), (k, .inr (0, [.ref ks, .ref kw, .ref kc, .int (-6), .int 0, .int 0, .ref kq, .ref km, .ref kd, .int 0, .ref ka, .ref kk])), (ks, .inl (cI, 5, .inl (upd (fun _ => 0) 0 800))), (kw, .inl (cI, 14, .inl (fun _ => 0)))] H := hP
    replace hD : va_D A [(o, .inr (3, [.ref k, .ref op, .int 0, .ref oq, .ref ov, .ref os])), (os, .inl (cI, 5, .inl (upd (upd (upd (upd (upd (fun _ => 0) 0 0) 1 0) 2 0) 3 0) 4 0))), (k, .inr (0, [.ref ks, .ref kw, .ref kc, .int (-6), .int 0, .int 0, .ref kq, .ref km, .ref kd, .int 0, .ref ka, .ref kk])), (ks, .inl (cI, 5, .inl (upd (fun _ => 0) 0 800))), (kw, .inl (cI, 14, .inl (fun _ => 0)))] := hD
    obtain rfl : r309 = 0 := hq309
    refine lv_dup2_11 hx hb dX3_countSlots_48 rfl rfl ?_
    refine va_iald hx hb hK hP 1 0 rfl rfl (vin (by decide) (by decide)) dX3_countSlots_49 ?_
    refine lv_topi (fun x310 e310 => ?_)
    obtain rfl : x310 = 0 := e310.trans (by first | rfl | decide)
    refine lv_iconst (v := 2) hx hb dX3_countSlots_50 (by decide) ?_
    refine lv_iadd hx hb dX3_countSlots_51 ?_
    refine lv_topi (fun x311 e311 => ?_)
    obtain rfl : x311 = 2 := e311.trans (by decide)
    refine va_iast hx hb hK hP hD hS 1 0 rfl rfl (vin (by decide) (by decide)) dX3_countSlots_52 (fun H locs hP hD hS => ?_)
    replace hP : va_P (dC, dI) vwCl [(o, .inr (3, [.ref k, .ref op, .int 0, .ref oq, .ref ov, .ref os])), (os, .inl (cI, 5, .inl (upd (upd (upd (upd (upd (upd (fun _ => 0) 0 0) 1 0) 2 0) 3 0) 4 0) 0 2))), (k, .inr (0, [.ref ks, .ref kw, .ref kc, .int (-6), .int 0, .int 0, .ref kq, .ref km, .ref kd, .int 0, .ref ka, .ref kk])), (ks, .inl (cI, 5, .inl (upd (fun _ => 0) 0 800))), (kw, .inl (cI, 14, .inl (fun _ => 0)))] H := hP
    replace hD : va_D A [(o, .inr (3, [.ref k, .ref op, .int 0, .ref oq, .ref ov, .ref os])), (os, .inl (cI, 5, .inl (upd (upd (upd (upd (upd (upd (fun _ => 0) 0 0) 1 0) 2 0) 3 0) 4 0) 0 2))), (k, .inr (0, [.ref ks, .ref kw, .ref kc, .int (-6), .int 0, .int 0, .ref kq, .ref km, .ref kd, .int 0, .ref ka, .ref kk])), (ks, .inl (cI, 5, .inl (upd (fun _ => 0) 0 800))), (kw, .inl (cI, 14, .inl (fun _ => 0)))] := hD
    refine lv_iinc (v := 1) (lv' := [(2, .int 1), (0, .ref o), (1, .int 10)]) hx hb dX3_countSlots_53 hl (k := 0) rfl (by decide) (by decide) rfl (fun ls hl => ?_)
    refine lv_goto (tgt := 30) hx hb dX3_countSlots_56 (by decide) ?_
    refine lv_iload_n hx hb dX3_countSlots_30 rfl (lv_at hl 0 rfl) ?_
    refine lv_iload_n hx hb dX3_countSlots_31 rfl (lv_at hl 2 rfl) ?_
    refine lv_icmp_gt (tgt := 59) hx hb dX3_countSlots_32 (by decide) (fun c312 => absurd c312 (by decide)) (fun c312 => ?_)
    refine lv_aload_n hx hb dX3_countSlots_35 rfl (lv_at hl 1 rfl) ?_
    refine va_get (D := (dC, dI)) (ci := 3) (v := .ref os) (C := RX3) (T := TX3) (N := 6) hx hb hts hin3 hown hK hP 0 rfl rfl 5 (by decide) hw0 (fun _ h9 => h9) rfl dX3_countSlots_36 ?_
    refine lv_aload_n hx hb dX3_countSlots_39 rfl (lv_at hl 1 rfl) ?_
    refine va_get (D := (dC, dI)) (ci := 3) (v := .ref k) (C := RX3) (T := TX3) (N := 6) hx hb hts hin3 hown hK hP 0 rfl rfl 0 (by decide) hw1 (fun _ h9 => h9) rfl dX3_countSlots_40 ?_
    refine lv_iload_n hx hb dX3_countSlots_43 rfl (lv_at hl 0 rfl) ?_
    refine lv_iconst (v := 0) hx hb dX3_countSlots_44 (by decide) ?_
    refine mx_i (wr := [(o, .inr (3, [.ref k, .ref op, .int 0, .ref oq, .ref ov, .ref os])), (os, .inl (cI, 5, .inl (upd (upd (upd (upd (upd (upd (fun _ => 0) 0 0) 1 0) 2 0) 3 0) 4 0) 0 2)))]) (va_runV (As := [.int 1, .int 0]) (rest := [.ref os]) ⟨hx, hb, hml, hown, hts⟩ (c_X0_windOn l dC dI cI cZ cK tS aK aV k ks kw kc kq km kd ka kk 1 H.size (by have z8 : (1 : Int32).toInt = 1 := rfl; first | omega | decide | assumption | trivial)) (cwV 2 hts (gw_v (fun _ h9 => List.mem_cons_of_mem _ h9) wm_169 wm_170 wm_171 wm_10 wm_172) rfl rfl rfl (by decide +kernel) ⟨Nat.le_of_ble_eq_true rfl, Nat.le_of_ble_eq_true rfl⟩) (mx_preV (C := RX0) (T := TX0) (N := 12) (ci := 0) hKx hP hD hS hA [2, 3, 4] (by decide) rfl rfl rfl) rfl rfl hl.1 rfl (lv_room (Nat.le_of_ble_eq_true rfl)) dX3_countSlots_45 ⟨Nat.le_of_ble_eq_true rfl, Nat.le_of_ble_eq_true rfl⟩) hP hD hS hA [2, 3, 4] [0, 1] rfl rfl (by decide) (by decide) (fun r313 u313 H locs hq313 hP hD hS => ?_)
    replace hP : va_P (dC, dI) vwCl [(o, .inr (3, [.ref k, .ref op, .int 0, .ref oq, .ref ov, .ref os])), (os, .inl (cI, 5, .inl (upd (upd (upd (upd (upd (upd (fun _ => 0) 0 0) 1 0) 2 0) 3 0) 4 0) 0 2))), (k, .inr (0, [.ref ks, .ref kw, .ref kc, .int (-6), .int 0, .int 0, .ref kq, .ref km, .ref kd, .int 0, .ref ka, .ref kk])), (ks, .inl (cI, 5, .inl (upd (fun _ => 0) 0 800))), (kw, .inl (cI, 14, .inl (fun _ => 0)))] H := hP
    replace hD : va_D A [(o, .inr (3, [.ref k, .ref op, .int 0, .ref oq, .ref ov, .ref os])), (os, .inl (cI, 5, .inl (upd (upd (upd (upd (upd (upd (fun _ => 0) 0 0) 1 0) 2 0) 3 0) 4 0) 0 2))), (k, .inr (0, [.ref ks, .ref kw, .ref kc, .int (-6), .int 0, .int 0, .ref kq, .ref km, .ref kd, .int 0, .ref ka, .ref kk])), (ks, .inl (cI, 5, .inl (upd (fun _ => 0) 0 800))), (kw, .inl (cI, 14, .inl (fun _ => 0)))] := hD
    obtain rfl : r313 = 0 := hq313
    refine lv_dup2_11 hx hb dX3_countSlots_48 rfl rfl ?_
    refine va_iald hx hb hK hP 1 0 rfl rfl (vin (by decide) (by decide)) dX3_countSlots_49 ?_
    refine lv_topi (fun x314 e314 => ?_)
    obtain rfl : x314 = 2 := e314.trans (by first | rfl | decide)
    refine lv_iconst (v := 2) hx hb dX3_countSlots_50 (by decide) ?_
    refine lv_iadd hx hb dX3_countSlots_51 ?_
    refine lv_topi (fun x315 e315 => ?_)
    obtain rfl : x315 = 4 := e315.trans (by decide)
    refine va_iast hx hb hK hP hD hS 1 0 rfl rfl (vin (by decide) (by decide)) dX3_countSlots_52 (fun H locs hP hD hS => ?_)
    replace hP : va_P (dC, dI) vwCl [(o, .inr (3, [.ref k, .ref op, .int 0, .ref oq, .ref ov, .ref os])), (os, .inl (cI, 5, .inl (upd (upd (upd (upd (upd (upd (upd (fun _ => 0) 0 0) 1 0) 2 0) 3 0) 4 0) 0 2) 0 4))), (k, .inr (0, [.ref ks, .ref kw, .ref kc, .int (-6), .int 0, .int 0, .ref kq, .ref km, .ref kd, .int 0, .ref ka, .ref kk])), (ks, .inl (cI, 5, .inl (upd (fun _ => 0) 0 800))), (kw, .inl (cI, 14, .inl (fun _ => 0)))] H := hP
    replace hD : va_D A [(o, .inr (3, [.ref k, .ref op, .int 0, .ref oq, .ref ov, .ref os])), (os, .inl (cI, 5, .inl (upd (upd (upd (upd (upd (upd (upd (fun _ => 0) 0 0) 1 0) 2 0) 3 0) 4 0) 0 2) 0 4))), (k, .inr (0, [.ref ks, .ref kw, .ref kc, .int (-6), .int 0, .int 0, .ref kq, .ref km, .ref kd, .int 0, .ref ka, .ref kk])), (ks, .inl (cI, 5, .inl (upd (fun _ => 0) 0 800))), (kw, .inl (cI, 14, .inl (fun _ => 0)))] := hD
    refine lv_iinc (v := 2) (lv' := [(2, .int 2), (0, .ref o), (1, .int 10)]) hx hb dX3_countSlots_53 hl (k := 0) rfl (by decide) (by decide) rfl (fun ls hl => ?_)
    refine lv_goto (tgt := 30) hx hb dX3_countSlots_56 (by decide) ?_
    refine lv_iload_n hx hb dX3_countSlots_30 rfl (lv_at hl 0 rfl) ?_
    refine lv_iload_n hx hb dX3_countSlots_31 rfl (lv_at hl 2 rfl) ?_
    refine lv_icmp_gt (tgt := 59) hx hb dX3_countSlots_32 (by decide) (fun c316 => absurd c316 (by decide)) (fun c316 => ?_)
    refine lv_aload_n hx hb dX3_countSlots_35 rfl (lv_at hl 1 rfl) ?_
    refine va_get (D := (dC, dI)) (ci := 3) (v := .ref os) (C := RX3) (T := TX3) (N := 6) hx hb hts hin3 hown hK hP 0 rfl rfl 5 (by decide) hw0 (fun _ h9 => h9) rfl dX3_countSlots_36 ?_
    refine lv_aload_n hx hb dX3_countSlots_39 rfl (lv_at hl 1 rfl) ?_
    refine va_get (D := (dC, dI)) (ci := 3) (v := .ref k) (C := RX3) (T := TX3) (N := 6) hx hb hts hin3 hown hK hP 0 rfl rfl 0 (by decide) hw1 (fun _ h9 => h9) rfl dX3_countSlots_40 ?_
    refine lv_iload_n hx hb dX3_countSlots_43 rfl (lv_at hl 0 rfl) ?_
    refine lv_iconst (v := 0) hx hb dX3_countSlots_44 (by decide) ?_
    refine mx_i (wr := [(o, .inr (3, [.ref k, .ref op, .int 0, .ref oq, .ref ov, .ref os])), (os, .inl (cI, 5, .inl (upd (upd (upd (upd (upd (upd (upd (fun _ => 0) 0 0) 1 0) 2 0) 3 0) 4 0) 0 2) 0 4)))]) (va_runV (As := [.int 2, .int 0]) (rest := [.ref os]) ⟨hx, hb, hml, hown, hts⟩ (c_X0_windOn l dC dI cI cZ cK tS aK aV k ks kw kc kq km kd ka kk 2 H.size (by have z8 : (2 : Int32).toInt = 2 := rfl; first | omega | decide | assumption | trivial)) (cwV 2 hts (gw_v (fun _ h9 => List.mem_cons_of_mem _ h9) wm_169 wm_170 wm_171 wm_10 wm_172) rfl rfl rfl (by decide +kernel) ⟨Nat.le_of_ble_eq_true rfl, Nat.le_of_ble_eq_true rfl⟩) (mx_preV (C := RX0) (T := TX0) (N := 12) (ci := 0) hKx hP hD hS hA [2, 3, 4] (by decide) rfl rfl rfl) rfl rfl hl.1 rfl (lv_room (Nat.le_of_ble_eq_true rfl)) dX3_countSlots_45 ⟨Nat.le_of_ble_eq_true rfl, Nat.le_of_ble_eq_true rfl⟩) hP hD hS hA [2, 3, 4] [0, 1] rfl rfl (by decide) (by decide) (fun r317 u317 H locs hq317 hP hD hS => ?_)
    replace hP : va_P (dC, dI) vwCl [(o, .inr (3, [.ref k, .ref op, .int 0, .ref oq, .ref ov, .ref os])), (os, .inl (cI, 5, .inl (upd (upd (upd (upd (upd (upd (upd (fun _ => 0) 0 0) 1 0) 2 0) 3 0) 4 0) 0 2) 0 4))), (k, .inr (0, [.ref ks, .ref kw, .ref kc, .int (-6), .int 0, .int 0, .ref kq, .ref km, .ref kd, .int 0, .ref ka, .ref kk])), (ks, .inl (cI, 5, .inl (upd (fun _ => 0) 0 800))), (kw, .inl (cI, 14, .inl (fun _ => 0)))] H := hP
    replace hD : va_D A [(o, .inr (3, [.ref k, .ref op, .int 0, .ref oq, .ref ov, .ref os])), (os, .inl (cI, 5, .inl (upd (upd (upd (upd (upd (upd (upd (fun _ => 0) 0 0) 1 0) 2 0) 3 0) 4 0) 0 2) 0 4))), (k, .inr (0, [.ref ks, .ref kw, .ref kc, .int (-6), .int 0, .int 0, .ref kq, .ref km, .ref kd, .int 0, .ref ka, .ref kk])), (ks, .inl (cI, 5, .inl (upd (fun _ => 0) 0 800))), (kw, .inl (cI, 14, .inl (fun _ => 0)))] := hD
    obtain rfl : r317 = 0 := hq317
    refine lv_dup2_11 hx hb dX3_countSlots_48 rfl rfl ?_
    refine va_iald hx hb hK hP 1 0 rfl rfl (vin (by decide) (by decide)) dX3_countSlots_49 ?_
    refine lv_topi (fun x318 e318 => ?_)
    obtain rfl : x318 = 4 := e318.trans (by first | rfl | decide)
    refine lv_iconst (v := 2) hx hb dX3_countSlots_50 (by decide) ?_
    refine lv_iadd hx hb dX3_countSlots_51 ?_
    refine lv_topi (fun x319 e319 => ?_)
    obtain rfl : x319 = 6 := e319.trans (by decide)
    refine va_iast hx hb hK hP hD hS 1 0 rfl rfl (vin (by decide) (by decide)) dX3_countSlots_52 (fun H locs hP hD hS => ?_)
    replace hP : va_P (dC, dI) vwCl [(o, .inr (3, [.ref k, .ref op, .int 0, .ref oq, .ref ov, .ref os])), (os, .inl (cI, 5, .inl (upd (upd (upd (upd (upd (upd (upd (upd (fun _ => 0) 0 0) 1 0) 2 0) 3 0) 4 0) 0 2) 0 4) 0 6))), (k, .inr (0, [.ref ks, .ref kw, .ref kc, .int (-6), .int 0, .int 0, .ref kq, .ref km, .ref kd, .int 0, .ref ka, .ref kk])), (ks, .inl (cI, 5, .inl (upd (fun _ => 0) 0 800))), (kw, .inl (cI, 14, .inl (fun _ => 0)))] H := hP
    replace hD : va_D A [(o, .inr (3, [.ref k, .ref op, .int 0, .ref oq, .ref ov, .ref os])), (os, .inl (cI, 5, .inl (upd (upd (upd (upd (upd (upd (upd (upd (fun _ => 0) 0 0) 1 0) 2 0) 3 0) 4 0) 0 2) 0 4) 0 6))), (k, .inr (0, [.ref ks, .ref kw, .ref kc, .int (-6), .int 0, .int 0, .ref kq, .ref km, .ref kd, .int 0, .ref ka, .ref kk])), (ks, .inl (cI, 5, .inl (upd (fun _ => 0) 0 800))), (kw, .inl (cI, 14, .inl (fun _ => 0)))] := hD
    refine lv_iinc (v := 3) (lv' := [(2, .int 3), (0, .ref o), (1, .int 10)]) hx hb dX3_countSlots_53 hl (k := 0) rfl (by decide) (by decide) rfl (fun ls hl => ?_)
    refine lv_goto (tgt := 30) hx hb dX3_countSlots_56 (by decide) ?_
    refine lv_iload_n hx hb dX3_countSlots_30 rfl (lv_at hl 0 rfl) ?_
    refine lv_iload_n hx hb dX3_countSlots_31 rfl (lv_at hl 2 rfl) ?_
    refine lv_icmp_gt (tgt := 59) hx hb dX3_countSlots_32 (by decide) (fun c320 => absurd c320 (by decide)) (fun c320 => ?_)
    refine lv_aload_n hx hb dX3_countSlots_35 rfl (lv_at hl 1 rfl) ?_
    refine va_get (D := (dC, dI)) (ci := 3) (v := .ref os) (C := RX3) (T := TX3) (N := 6) hx hb hts hin3 hown hK hP 0 rfl rfl 5 (by decide) hw0 (fun _ h9 => h9) rfl dX3_countSlots_36 ?_
    refine lv_aload_n hx hb dX3_countSlots_39 rfl (lv_at hl 1 rfl) ?_
    refine va_get (D := (dC, dI)) (ci := 3) (v := .ref k) (C := RX3) (T := TX3) (N := 6) hx hb hts hin3 hown hK hP 0 rfl rfl 0 (by decide) hw1 (fun _ h9 => h9) rfl dX3_countSlots_40 ?_
    refine lv_iload_n hx hb dX3_countSlots_43 rfl (lv_at hl 0 rfl) ?_
    refine lv_iconst (v := 0) hx hb dX3_countSlots_44 (by decide) ?_
    refine mx_i (wr := [(o, .inr (3, [.ref k, .ref op, .int 0, .ref oq, .ref ov, .ref os])), (os, .inl (cI, 5, .inl (upd (upd (upd (upd (upd (upd (upd (upd (fun _ => 0) 0 0) 1 0) 2 0) 3 0) 4 0) 0 2) 0 4) 0 6)))]) (va_runV (As := [.int 3, .int 0]) (rest := [.ref os]) ⟨hx, hb, hml, hown, hts⟩ (c_X0_windOn l dC dI cI cZ cK tS aK aV k ks kw kc kq km kd ka kk 3 H.size (by have z8 : (3 : Int32).toInt = 3 := rfl; first | omega | decide | assumption | trivial)) (cwV 2 hts (gw_v (fun _ h9 => List.mem_cons_of_mem _ h9) wm_169 wm_170 wm_171 wm_10 wm_172) rfl rfl rfl (by decide +kernel) ⟨Nat.le_of_ble_eq_true rfl, Nat.le_of_ble_eq_true rfl⟩) (mx_preV (C := RX0) (T := TX0) (N := 12) (ci := 0) hKx hP hD hS hA [2, 3, 4] (by decide) rfl rfl rfl) rfl rfl hl.1 rfl (lv_room (Nat.le_of_ble_eq_true rfl)) dX3_countSlots_45 ⟨Nat.le_of_ble_eq_true rfl, Nat.le_of_ble_eq_true rfl⟩) hP hD hS hA [2, 3, 4] [0, 1] rfl rfl (by decide) (by decide) (fun r321 u321 H locs hq321 hP hD hS => ?_)
    replace hP : va_P (dC, dI) vwCl [(o, .inr (3, [.ref k, .ref op, .int 0, .ref oq, .ref ov, .ref os])), (os, .inl (cI, 5, .inl (upd (upd (upd (upd (upd (upd (upd (upd (fun _ => 0) 0 0) 1 0) 2 0) 3 0) 4 0) 0 2) 0 4) 0 6))), (k, .inr (0, [.ref ks, .ref kw, .ref kc, .int (-6), .int 0, .int 0, .ref kq, .ref km, .ref kd, .int 0, .ref ka, .ref kk])), (ks, .inl (cI, 5, .inl (upd (fun _ => 0) 0 800))), (kw, .inl (cI, 14, .inl (fun _ => 0)))] H := hP
    replace hD : va_D A [(o, .inr (3, [.ref k, .ref op, .int 0, .ref oq, .ref ov, .ref os])), (os, .inl (cI, 5, .inl (upd (upd (upd (upd (upd (upd (upd (upd (fun _ => 0) 0 0) 1 0) 2 0) 3 0) 4 0) 0 2) 0 4) 0 6))), (k, .inr (0, [.ref ks, .ref kw, .ref kc, .int (-6), .int 0, .int 0, .ref kq, .ref km, .ref kd, .int 0, .ref ka, .ref kk])), (ks, .inl (cI, 5, .inl (upd (fun _ => 0) 0 800))), (kw, .inl (cI, 14, .inl (fun _ => 0)))] := hD
    obtain rfl : r321 = 0 := hq321
    refine lv_dup2_11 hx hb dX3_countSlots_48 rfl rfl ?_
    refine va_iald hx hb hK hP 1 0 rfl rfl (vin (by decide) (by decide)) dX3_countSlots_49 ?_
    refine lv_topi (fun x322 e322 => ?_)
    obtain rfl : x322 = 6 := e322.trans (by first | rfl | decide)
    refine lv_iconst (v := 2) hx hb dX3_countSlots_50 (by decide) ?_
    refine lv_iadd hx hb dX3_countSlots_51 ?_
    refine lv_topi (fun x323 e323 => ?_)
    obtain rfl : x323 = 8 := e323.trans (by decide)
    refine va_iast hx hb hK hP hD hS 1 0 rfl rfl (vin (by decide) (by decide)) dX3_countSlots_52 (fun H locs hP hD hS => ?_)
    replace hP : va_P (dC, dI) vwCl [(o, .inr (3, [.ref k, .ref op, .int 0, .ref oq, .ref ov, .ref os])), (os, .inl (cI, 5, .inl (upd (upd (upd (upd (upd (upd (upd (upd (upd (fun _ => 0) 0 0) 1 0) 2 0) 3 0) 4 0) 0 2) 0 4) 0 6) 0 8))), (k, .inr (0, [.ref ks, .ref kw, .ref kc, .int (-6), .int 0, .int 0, .ref kq, .ref km, .ref kd, .int 0, .ref ka, .ref kk])), (ks, .inl (cI, 5, .inl (upd (fun _ => 0) 0 800))), (kw, .inl (cI, 14, .inl (fun _ => 0)))] H := hP
    replace hD : va_D A [(o, .inr (3, [.ref k, .ref op, .int 0, .ref oq, .ref ov, .ref os])), (os, .inl (cI, 5, .inl (upd (upd (upd (upd (upd (upd (upd (upd (upd (fun _ => 0) 0 0) 1 0) 2 0) 3 0) 4 0) 0 2) 0 4) 0 6) 0 8))), (k, .inr (0, [.ref ks, .ref kw, .ref kc, .int (-6), .int 0, .int 0, .ref kq, .ref km, .ref kd, .int 0, .ref ka, .ref kk])), (ks, .inl (cI, 5, .inl (upd (fun _ => 0) 0 800))), (kw, .inl (cI, 14, .inl (fun _ => 0)))] := hD
    refine lv_iinc (v := 4) (lv' := [(2, .int 4), (0, .ref o), (1, .int 10)]) hx hb dX3_countSlots_53 hl (k := 0) rfl (by decide) (by decide) rfl (fun ls hl => ?_)
    refine lv_goto (tgt := 30) hx hb dX3_countSlots_56 (by decide) ?_
    refine lv_iload_n hx hb dX3_countSlots_30 rfl (lv_at hl 0 rfl) ?_
    refine lv_iload_n hx hb dX3_countSlots_31 rfl (lv_at hl 2 rfl) ?_
    refine lv_icmp_gt (tgt := 59) hx hb dX3_countSlots_32 (by decide) (fun c324 => absurd c324 (by decide)) (fun c324 => ?_)
    refine lv_aload_n hx hb dX3_countSlots_35 rfl (lv_at hl 1 rfl) ?_
    refine va_get (D := (dC, dI)) (ci := 3) (v := .ref os) (C := RX3) (T := TX3) (N := 6) hx hb hts hin3 hown hK hP 0 rfl rfl 5 (by decide) hw0 (fun _ h9 => h9) rfl dX3_countSlots_36 ?_
    refine lv_aload_n hx hb dX3_countSlots_39 rfl (lv_at hl 1 rfl) ?_
    refine va_get (D := (dC, dI)) (ci := 3) (v := .ref k) (C := RX3) (T := TX3) (N := 6) hx hb hts hin3 hown hK hP 0 rfl rfl 0 (by decide) hw1 (fun _ h9 => h9) rfl dX3_countSlots_40 ?_
    refine lv_iload_n hx hb dX3_countSlots_43 rfl (lv_at hl 0 rfl) ?_
    refine lv_iconst (v := 0) hx hb dX3_countSlots_44 (by decide) ?_
    refine mx_i (wr := [(o, .inr (3, [.ref k, .ref op, .int 0, .ref oq, .ref ov, .ref os])), (os, .inl (cI, 5, .inl (upd (upd (upd (upd (upd (upd (upd (upd (upd (fun _ => 0) 0 0) 1 0) 2 0) 3 0) 4 0) 0 2) 0 4) 0 6) 0 8)))]) (va_runV (As := [.int 4, .int 0]) (rest := [.ref os]) ⟨hx, hb, hml, hown, hts⟩ (c_X0_windOn l dC dI cI cZ cK tS aK aV k ks kw kc kq km kd ka kk 4 H.size (by have z8 : (4 : Int32).toInt = 4 := rfl; first | omega | decide | assumption | trivial)) (cwV 2 hts (gw_v (fun _ h9 => List.mem_cons_of_mem _ h9) wm_169 wm_170 wm_171 wm_10 wm_172) rfl rfl rfl (by decide +kernel) ⟨Nat.le_of_ble_eq_true rfl, Nat.le_of_ble_eq_true rfl⟩) (mx_preV (C := RX0) (T := TX0) (N := 12) (ci := 0) hKx hP hD hS hA [2, 3, 4] (by decide) rfl rfl rfl) rfl rfl hl.1 rfl (lv_room (Nat.le_of_ble_eq_true rfl)) dX3_countSlots_45 ⟨Nat.le_of_ble_eq_true rfl, Nat.le_of_ble_eq_true rfl⟩) hP hD hS hA [2, 3, 4] [0, 1] rfl rfl (by decide) (by decide) (fun r325 u325 H locs hq325 hP hD hS => ?_)
    replace hP : va_P (dC, dI) vwCl [(o, .inr (3, [.ref k, .ref op, .int 0, .ref oq, .ref ov, .ref os])), (os, .inl (cI, 5, .inl (upd (upd (upd (upd (upd (upd (upd (upd (upd (fun _ => 0) 0 0) 1 0) 2 0) 3 0) 4 0) 0 2) 0 4) 0 6) 0 8))), (k, .inr (0, [.ref ks, .ref kw, .ref kc, .int (-6), .int 0, .int 0, .ref kq, .ref km, .ref kd, .int 0, .ref ka, .ref kk])), (ks, .inl (cI, 5, .inl (upd (fun _ => 0) 0 800))), (kw, .inl (cI, 14, .inl (fun _ => 0)))] H := hP
    replace hD : va_D A [(o, .inr (3, [.ref k, .ref op, .int 0, .ref oq, .ref ov, .ref os])), (os, .inl (cI, 5, .inl (upd (upd (upd (upd (upd (upd (upd (upd (upd (fun _ => 0) 0 0) 1 0) 2 0) 3 0) 4 0) 0 2) 0 4) 0 6) 0 8))), (k, .inr (0, [.ref ks, .ref kw, .ref kc, .int (-6), .int 0, .int 0, .ref kq, .ref km, .ref kd, .int 0, .ref ka, .ref kk])), (ks, .inl (cI, 5, .inl (upd (fun _ => 0) 0 800))), (kw, .inl (cI, 14, .inl (fun _ => 0)))] := hD
    obtain rfl : r325 = 0 := hq325
    refine lv_dup2_11 hx hb dX3_countSlots_48 rfl rfl ?_
    refine va_iald hx hb hK hP 1 0 rfl rfl (vin (by decide) (by decide)) dX3_countSlots_49 ?_
    refine lv_topi (fun x326 e326 => ?_)
    obtain rfl : x326 = 8 := e326.trans (by first | rfl | decide)
    refine lv_iconst (v := 2) hx hb dX3_countSlots_50 (by decide) ?_
    refine lv_iadd hx hb dX3_countSlots_51 ?_
    refine lv_topi (fun x327 e327 => ?_)
    obtain rfl : x327 = 10 := e327.trans (by decide)
    refine va_iast hx hb hK hP hD hS 1 0 rfl rfl (vin (by decide) (by decide)) dX3_countSlots_52 (fun H locs hP hD hS => ?_)
    replace hP : va_P (dC, dI) vwCl [(o, .inr (3, [.ref k, .ref op, .int 0, .ref oq, .ref ov, .ref os])), (os, .inl (cI, 5, .inl (upd (upd (upd (upd (upd (upd (upd (upd (upd (upd (fun _ => 0) 0 0) 1 0) 2 0) 3 0) 4 0) 0 2) 0 4) 0 6) 0 8) 0 10))), (k, .inr (0, [.ref ks, .ref kw, .ref kc, .int (-6), .int 0, .int 0, .ref kq, .ref km, .ref kd, .int 0, .ref ka, .ref kk])), (ks, .inl (cI, 5, .inl (upd (fun _ => 0) 0 800))), (kw, .inl (cI, 14, .inl (fun _ => 0)))] H := hP
    replace hD : va_D A [(o, .inr (3, [.ref k, .ref op, .int 0, .ref oq, .ref ov, .ref os])), (os, .inl (cI, 5, .inl (upd (upd (upd (upd (upd (upd (upd (upd (upd (upd (fun _ => 0) 0 0) 1 0) 2 0) 3 0) 4 0) 0 2) 0 4) 0 6) 0 8) 0 10))), (k, .inr (0, [.ref ks, .ref kw, .ref kc, .int (-6), .int 0, .int 0, .ref kq, .ref km, .ref kd, .int 0, .ref ka, .ref kk])), (ks, .inl (cI, 5, .inl (upd (fun _ => 0) 0 800))), (kw, .inl (cI, 14, .inl (fun _ => 0)))] := hD
    refine lv_iinc (v := 5) (lv' := [(2, .int 5), (0, .ref o), (1, .int 10)]) hx hb dX3_countSlots_53 hl (k := 0) rfl (by decide) (by decide) rfl (fun ls hl => ?_)
    refine lv_goto (tgt := 30) hx hb dX3_countSlots_56 (by decide) ?_
    refine lv_iload_n hx hb dX3_countSlots_30 rfl (lv_at hl 0 rfl) ?_
    refine lv_iload_n hx hb dX3_countSlots_31 rfl (lv_at hl 2 rfl) ?_
    refine lv_icmp_gt (tgt := 59) hx hb dX3_countSlots_32 (by decide) (fun c328 => absurd c328 (by decide)) (fun c328 => ?_)
    refine lv_aload_n hx hb dX3_countSlots_35 rfl (lv_at hl 1 rfl) ?_
    refine va_get (D := (dC, dI)) (ci := 3) (v := .ref os) (C := RX3) (T := TX3) (N := 6) hx hb hts hin3 hown hK hP 0 rfl rfl 5 (by decide) hw0 (fun _ h9 => h9) rfl dX3_countSlots_36 ?_
    refine lv_aload_n hx hb dX3_countSlots_39 rfl (lv_at hl 1 rfl) ?_
    refine va_get (D := (dC, dI)) (ci := 3) (v := .ref k) (C := RX3) (T := TX3) (N := 6) hx hb hts hin3 hown hK hP 0 rfl rfl 0 (by decide) hw1 (fun _ h9 => h9) rfl dX3_countSlots_40 ?_
    refine lv_iload_n hx hb dX3_countSlots_43 rfl (lv_at hl 0 rfl) ?_
    refine lv_iconst (v := 0) hx hb dX3_countSlots_44 (by decide) ?_
    refine mx_i (wr := [(o, .inr (3, [.ref k, .ref op, .int 0, .ref oq, .ref ov, .ref os])), (os, .inl (cI, 5, .inl (upd (upd (upd (upd (upd (upd (upd (upd (upd (upd (fun _ => 0) 0 0) 1 0) 2 0) 3 0) 4 0) 0 2) 0 4) 0 6) 0 8) 0 10)))]) (va_runV (As := [.int 5, .int 0]) (rest := [.ref os]) ⟨hx, hb, hml, hown, hts⟩ (c_X0_windOn l dC dI cI cZ cK tS aK aV k ks kw kc kq km kd ka kk 5 H.size (by have z8 : (5 : Int32).toInt = 5 := rfl; first | omega | decide | assumption | trivial)) (cwV 2 hts (gw_v (fun _ h9 => List.mem_cons_of_mem _ h9) wm_169 wm_170 wm_171 wm_10 wm_172) rfl rfl rfl (by decide +kernel) ⟨Nat.le_of_ble_eq_true rfl, Nat.le_of_ble_eq_true rfl⟩) (mx_preV (C := RX0) (T := TX0) (N := 12) (ci := 0) hKx hP hD hS hA [2, 3, 4] (by decide) rfl rfl rfl) rfl rfl hl.1 rfl (lv_room (Nat.le_of_ble_eq_true rfl)) dX3_countSlots_45 ⟨Nat.le_of_ble_eq_true rfl, Nat.le_of_ble_eq_true rfl⟩) hP hD hS hA [2, 3, 4] [0, 1] rfl rfl (by decide) (by decide) (fun r329 u329 H locs hq329 hP hD hS => ?_)
    replace hP : va_P (dC, dI) vwCl [(o, .inr (3, [.ref k, .ref op, .int 0, .ref oq, .ref ov, .ref os])), (os, .inl (cI, 5, .inl (upd (upd (upd (upd (upd (upd (upd (upd (upd (upd (fun _ => 0) 0 0) 1 0) 2 0) 3 0) 4 0) 0 2) 0 4) 0 6) 0 8) 0 10))), (k, .inr (0, [.ref ks, .ref kw, .ref kc, .int (-6), .int 0, .int 0, .ref kq, .ref km, .ref kd, .int 0, .ref ka, .ref kk])), (ks, .inl (cI, 5, .inl (upd (fun _ => 0) 0 800))), (kw, .inl (cI, 14, .inl (fun _ => 0)))] H := hP
    replace hD : va_D A [(o, .inr (3, [.ref k, .ref op, .int 0, .ref oq, .ref ov, .ref os])), (os, .inl (cI, 5, .inl (upd (upd (upd (upd (upd (upd (upd (upd (upd (upd (fun _ => 0) 0 0) 1 0) 2 0) 3 0) 4 0) 0 2) 0 4) 0 6) 0 8) 0 10))), (k, .inr (0, [.ref ks, .ref kw, .ref kc, .int (-6), .int 0, .int 0, .ref kq, .ref km, .ref kd, .int 0, .ref ka, .ref kk])), (ks, .inl (cI, 5, .inl (upd (fun _ => 0) 0 800))), (kw, .inl (cI, 14, .inl (fun _ => 0)))] := hD
    obtain rfl : r329 = 0 := hq329
    refine lv_dup2_11 hx hb dX3_countSlots_48 rfl rfl ?_
    refine va_iald hx hb hK hP 1 0 rfl rfl (vin (by decide) (by decide)) dX3_countSlots_49 ?_
    refine lv_topi (fun x330 e330 => ?_)
    obtain rfl : x330 = 10 := e330.trans (by first | rfl | decide)
    refine lv_iconst (v := 2) hx hb dX3_countSlots_50 (by decide) ?_
    refine lv_iadd hx hb dX3_countSlots_51 ?_
    refine lv_topi (fun x331 e331 => ?_)
    obtain rfl : x331 = 12 := e331.trans (by decide)
    refine va_iast hx hb hK hP hD hS 1 0 rfl rfl (vin (by decide) (by decide)) dX3_countSlots_52 (fun H locs hP hD hS => ?_)
    replace hP : va_P (dC, dI) vwCl [(o, .inr (3, [.ref k, .ref op, .int 0, .ref oq, .ref ov, .ref os])), (os, .inl (cI, 5, .inl (upd (upd (upd (upd (upd (upd (upd (upd (upd (upd (upd (fun _ => 0) 0 0) 1 0) 2 0) 3 0) 4 0) 0 2) 0 4) 0 6) 0 8) 0 10) 0 12))), (k, .inr (0, [.ref ks, .ref kw, .ref kc, .int (-6), .int 0, .int 0, .ref kq, .ref km, .ref kd, .int 0, .ref ka, .ref kk])), (ks, .inl (cI, 5, .inl (upd (fun _ => 0) 0 800))), (kw, .inl (cI, 14, .inl (fun _ => 0)))] H := hP
    replace hD : va_D A [(o, .inr (3, [.ref k, .ref op, .int 0, .ref oq, .ref ov, .ref os])), (os, .inl (cI, 5, .inl (upd (upd (upd (upd (upd (upd (upd (upd (upd (upd (upd (fun _ => 0) 0 0) 1 0) 2 0) 3 0) 4 0) 0 2) 0 4) 0 6) 0 8) 0 10) 0 12))), (k, .inr (0, [.ref ks, .ref kw, .ref kc, .int (-6), .int 0, .int 0, .ref kq, .ref km, .ref kd, .int 0, .ref ka, .ref kk])), (ks, .inl (cI, 5, .inl (upd (fun _ => 0) 0 800))), (kw, .inl (cI, 14, .inl (fun _ => 0)))] := hD
    refine lv_iinc (v := 6) (lv' := [(2, .int 6), (0, .ref o), (1, .int 10)]) hx hb dX3_countSlots_53 hl (k := 0) rfl (by decide) (by decide) rfl (fun ls hl => ?_)
    refine lv_goto (tgt := 30) hx hb dX3_countSlots_56 (by decide) ?_
    refine lv_iload_n hx hb dX3_countSlots_30 rfl (lv_at hl 0 rfl) ?_
    refine lv_iload_n hx hb dX3_countSlots_31 rfl (lv_at hl 2 rfl) ?_
    refine lv_icmp_gt (tgt := 59) hx hb dX3_countSlots_32 (by decide) (fun c332 => absurd c332 (by decide)) (fun c332 => ?_)
    refine lv_aload_n hx hb dX3_countSlots_35 rfl (lv_at hl 1 rfl) ?_
    refine va_get (D := (dC, dI)) (ci := 3) (v := .ref os) (C := RX3) (T := TX3) (N := 6) hx hb hts hin3 hown hK hP 0 rfl rfl 5 (by decide) hw0 (fun _ h9 => h9) rfl dX3_countSlots_36 ?_
    refine lv_aload_n hx hb dX3_countSlots_39 rfl (lv_at hl 1 rfl) ?_
    refine va_get (D := (dC, dI)) (ci := 3) (v := .ref k) (C := RX3) (T := TX3) (N := 6) hx hb hts hin3 hown hK hP 0 rfl rfl 0 (by decide) hw1 (fun _ h9 => h9) rfl dX3_countSlots_40 ?_
    refine lv_iload_n hx hb dX3_countSlots_43 rfl (lv_at hl 0 rfl) ?_
    refine lv_iconst (v := 0) hx hb dX3_countSlots_44 (by decide) ?_
    refine mx_i (wr := [(o, .inr (3, [.ref k, .ref op, .int 0, .ref oq, .ref ov, .ref os])), (os, .inl (cI, 5, .inl (upd (upd (upd (upd (upd (upd (upd (upd (upd (upd (upd (fun _ => 0) 0 0) 1 0) 2 0) 3 0) 4 0) 0 2) 0 4) 0 6) 0 8) 0 10) 0 12)))]) (va_runV (As := [.int 6, .int 0]) (rest := [.ref os]) ⟨hx, hb, hml, hown, hts⟩ (c_X0_windOn l dC dI cI cZ cK tS aK aV k ks kw kc kq km kd ka kk 6 H.size (by have z8 : (6 : Int32).toInt = 6 := rfl; first | omega | decide | assumption | trivial)) (cwV 2 hts (gw_v (fun _ h9 => List.mem_cons_of_mem _ h9) wm_169 wm_170 wm_171 wm_10 wm_172) rfl rfl rfl (by decide +kernel) ⟨Nat.le_of_ble_eq_true rfl, Nat.le_of_ble_eq_true rfl⟩) (mx_preV (C := RX0) (T := TX0) (N := 12) (ci := 0) hKx hP hD hS hA [2, 3, 4] (by decide) rfl rfl rfl) rfl rfl hl.1 rfl (lv_room (Nat.le_of_ble_eq_true rfl)) dX3_countSlots_45 ⟨Nat.le_of_ble_eq_true rfl, Nat.le_of_ble_eq_true rfl⟩) hP hD hS hA [2, 3, 4] [0, 1] rfl rfl (by decide) (by decide) (fun r333 u333 H locs hq333 hP hD hS => ?_)
    replace hP : va_P (dC, dI) vwCl [(o, .inr (3, [.ref k, .ref op, .int 0, .ref oq, .ref ov, .ref os])), (os, .inl (cI, 5, .inl (upd (upd (upd (upd (upd (upd (upd (upd (upd (upd (upd (fun _ => 0) 0 0) 1 0) 2 0) 3 0) 4 0) 0 2) 0 4) 0 6) 0 8) 0 10) 0 12))), (k, .inr (0, [.ref ks, .ref kw, .ref kc, .int (-6), .int 0, .int 0, .ref kq, .ref km, .ref kd, .int 0, .ref ka, .ref kk])), (ks, .inl (cI, 5, .inl (upd (fun _ => 0) 0 800))), (kw, .inl (cI, 14, .inl (fun _ => 0)))] H := hP
    replace hD : va_D A [(o, .inr (3, [.ref k, .ref op, .int 0, .ref oq, .ref ov, .ref os])), (os, .inl (cI, 5, .inl (upd (upd (upd (upd (upd (upd (upd (upd (upd (upd (upd (fun _ => 0) 0 0) 1 0) 2 0) 3 0) 4 0) 0 2) 0 4) 0 6) 0 8) 0 10) 0 12))), (k, .inr (0, [.ref ks, .ref kw, .ref kc, .int (-6), .int 0, .int 0, .ref kq, .ref km, .ref kd, .int 0, .ref ka, .ref kk])), (ks, .inl (cI, 5, .inl (upd (fun _ => 0) 0 800))), (kw, .inl (cI, 14, .inl (fun _ => 0)))] := hD
    obtain rfl : r333 = 0 := hq333
    refine lv_dup2_11 hx hb dX3_countSlots_48 rfl rfl ?_
    refine va_iald hx hb hK hP 1 0 rfl rfl (vin (by decide) (by decide)) dX3_countSlots_49 ?_
    refine lv_topi (fun x334 e334 => ?_)
    obtain rfl : x334 = 12 := e334.trans (by first | rfl | decide)
    refine lv_iconst (v := 2) hx hb dX3_countSlots_50 (by decide) ?_
    refine lv_iadd hx hb dX3_countSlots_51 ?_
    refine lv_topi (fun x335 e335 => ?_)
    obtain rfl : x335 = 14 := e335.trans (by decide)
    refine va_iast hx hb hK hP hD hS 1 0 rfl rfl (vin (by decide) (by decide)) dX3_countSlots_52 (fun H locs hP hD hS => ?_)
    replace hP : va_P (dC, dI) vwCl [(o, .inr (3, [.ref k, .ref op, .int 0, .ref oq, .ref ov, .ref os])), (os, .inl (cI, 5, .inl (upd (upd (upd (upd (upd (upd (upd (upd (upd (upd (upd (upd (fun _ => 0) 0 0) 1 0) 2 0) 3 0) 4 0) 0 2) 0 4) 0 6) 0 8) 0 10) 0 12) 0 14))), (k, .inr (0, [.ref ks, .ref kw, .ref kc, .int (-6), .int 0, .int 0, .ref kq, .ref km, .ref kd, .int 0, .ref ka, .ref kk])), (ks, .inl (cI, 5, .inl (upd (fun _ => 0) 0 800))), (kw, .inl (cI, 14, .inl (fun _ => 0)))] H := hP
    replace hD : va_D A [(o, .inr (3, [.ref k, .ref op, .int 0, .ref oq, .ref ov, .ref os])), (os, .inl (cI, 5, .inl (upd (upd (upd (upd (upd (upd (upd (upd (upd (upd (upd (upd (fun _ => 0) 0 0) 1 0) 2 0) 3 0) 4 0) 0 2) 0 4) 0 6) 0 8) 0 10) 0 12) 0 14))), (k, .inr (0, [.ref ks, .ref kw, .ref kc, .int (-6), .int 0, .int 0, .ref kq, .ref km, .ref kd, .int 0, .ref ka, .ref kk])), (ks, .inl (cI, 5, .inl (upd (fun _ => 0) 0 800))), (kw, .inl (cI, 14, .inl (fun _ => 0)))] := hD
    refine lv_iinc (v := 7) (lv' := [(2, .int 7), (0, .ref o), (1, .int 10)]) hx hb dX3_countSlots_53 hl (k := 0) rfl (by decide) (by decide) rfl (fun ls hl => ?_)
    refine lv_goto (tgt := 30) hx hb dX3_countSlots_56 (by decide) ?_
    refine lv_iload_n hx hb dX3_countSlots_30 rfl (lv_at hl 0 rfl) ?_
    refine lv_iload_n hx hb dX3_countSlots_31 rfl (lv_at hl 2 rfl) ?_
    refine lv_icmp_gt (tgt := 59) hx hb dX3_countSlots_32 (by decide) (fun c336 => absurd c336 (by decide)) (fun c336 => ?_)
    refine lv_aload_n hx hb dX3_countSlots_35 rfl (lv_at hl 1 rfl) ?_
    refine va_get (D := (dC, dI)) (ci := 3) (v := .ref os) (C := RX3) (T := TX3) (N := 6) hx hb hts hin3 hown hK hP 0 rfl rfl 5 (by decide) hw0 (fun _ h9 => h9) rfl dX3_countSlots_36 ?_
    refine lv_aload_n hx hb dX3_countSlots_39 rfl (lv_at hl 1 rfl) ?_
    refine va_get (D := (dC, dI)) (ci := 3) (v := .ref k) (C := RX3) (T := TX3) (N := 6) hx hb hts hin3 hown hK hP 0 rfl rfl 0 (by decide) hw1 (fun _ h9 => h9) rfl dX3_countSlots_40 ?_
    refine lv_iload_n hx hb dX3_countSlots_43 rfl (lv_at hl 0 rfl) ?_
    refine lv_iconst (v := 0) hx hb dX3_countSlots_44 (by decide) ?_
    refine mx_i (wr := [(o, .inr (3, [.ref k, .ref op, .int 0, .ref oq, .ref ov, .ref os])), (os, .inl (cI, 5, .inl (upd (upd (upd (upd (upd (upd (upd (upd (upd (upd (upd (upd (fun _ => 0) 0 0) 1 0) 2 0) 3 0) 4 0) 0 2) 0 4) 0 6) 0 8) 0 10) 0 12) 0 14)))]) (va_runV (As := [.int 7, .int 0]) (rest := [.ref os]) ⟨hx, hb, hml, hown, hts⟩ (c_X0_windOn l dC dI cI cZ cK tS aK aV k ks kw kc kq km kd ka kk 7 H.size (by have z8 : (7 : Int32).toInt = 7 := rfl; first | omega | decide | assumption | trivial)) (cwV 2 hts (gw_v (fun _ h9 => List.mem_cons_of_mem _ h9) wm_169 wm_170 wm_171 wm_10 wm_172) rfl rfl rfl (by decide +kernel) ⟨Nat.le_of_ble_eq_true rfl, Nat.le_of_ble_eq_true rfl⟩) (mx_preV (C := RX0) (T := TX0) (N := 12) (ci := 0) hKx hP hD hS hA [2, 3, 4] (by decide) rfl rfl rfl) rfl rfl hl.1 rfl (lv_room (Nat.le_of_ble_eq_true rfl)) dX3_countSlots_45 ⟨Nat.le_of_ble_eq_true rfl, Nat.le_of_ble_eq_true rfl⟩) hP hD hS hA [2, 3, 4] [0, 1] rfl rfl (by decide) (by decide) (fun r337 u337 H locs hq337 hP hD hS => ?_)
    replace hP : va_P (dC, dI) vwCl [(o, .inr (3, [.ref k, .ref op, .int 0, .ref oq, .ref ov, .ref os])), (os, .inl (cI, 5, .inl (upd (upd (upd (upd (upd (upd (upd (upd (upd (upd (upd (upd (fun _ => 0) 0 0) 1 0) 2 0) 3 0) 4 0) 0 2) 0 4) 0 6) 0 8) 0 10) 0 12) 0 14))), (k, .inr (0, [.ref ks, .ref kw, .ref kc, .int (-6), .int 0, .int 0, .ref kq, .ref km, .ref kd, .int 0, .ref ka, .ref kk])), (ks, .inl (cI, 5, .inl (upd (fun _ => 0) 0 800))), (kw, .inl (cI, 14, .inl (fun _ => 0)))] H := hP
    replace hD : va_D A [(o, .inr (3, [.ref k, .ref op, .int 0, .ref oq, .ref ov, .ref os])), (os, .inl (cI, 5, .inl (upd (upd (upd (upd (upd (upd (upd (upd (upd (upd (upd (upd (fun _ => 0) 0 0) 1 0) 2 0) 3 0) 4 0) 0 2) 0 4) 0 6) 0 8) 0 10) 0 12) 0 14))), (k, .inr (0, [.ref ks, .ref kw, .ref kc, .int (-6), .int 0, .int 0, .ref kq, .ref km, .ref kd, .int 0, .ref ka, .ref kk])), (ks, .inl (cI, 5, .inl (upd (fun _ => 0) 0 800))), (kw, .inl (cI, 14, .inl (fun _ => 0)))] := hD
    obtain rfl : r337 = 0 := hq337
    refine lv_dup2_11 hx hb dX3_countSlots_48 rfl rfl ?_
    refine va_iald hx hb hK hP 1 0 rfl rfl (vin (by decide) (by decide)) dX3_countSlots_49 ?_
    refine lv_topi (fun x338 e338 => ?_)
    obtain rfl : x338 = 14 := e338.trans (by first | rfl | decide)
    refine lv_iconst (v := 2) hx hb dX3_countSlots_50 (by decide) ?_
    refine lv_iadd hx hb dX3_countSlots_51 ?_
    refine lv_topi (fun x339 e339 => ?_)
    obtain rfl : x339 = 16 := e339.trans (by decide)
    refine va_iast hx hb hK hP hD hS 1 0 rfl rfl (vin (by decide) (by decide)) dX3_countSlots_52 (fun H locs hP hD hS => ?_)
    replace hP : va_P (dC, dI) vwCl [(o, .inr (3, [.ref k, .ref op, .int 0, .ref oq, .ref ov, .ref os])), (os, .inl (cI, 5, .inl (upd (upd (upd (upd (upd (upd (upd (upd (upd (upd (upd (upd (upd (fun _ => 0) 0 0) 1 0) 2 0) 3 0) 4 0) 0 2) 0 4) 0 6) 0 8) 0 10) 0 12) 0 14) 0 16))), (k, .inr (0, [.ref ks, .ref kw, .ref kc, .int (-6), .int 0, .int 0, .ref kq, .ref km, .ref kd, .int 0, .ref ka, .ref kk])), (ks, .inl (cI, 5, .inl (upd (fun _ => 0) 0 800))), (kw, .inl (cI, 14, .inl (fun _ => 0)))] H := hP
    replace hD : va_D A [(o, .inr (3, [.ref k, .ref op, .int 0, .ref oq, .ref ov, .ref os])), (os, .inl (cI, 5, .inl (upd (upd (upd (upd (upd (upd (upd (upd (upd (upd (upd (upd (upd (fun _ => 0) 0 0) 1 0) 2 0) 3 0) 4 0) 0 2) 0 4) 0 6) 0 8) 0 10) 0 12) 0 14) 0 16))), (k, .inr (0, [.ref ks, .ref kw, .ref kc, .int (-6), .int 0, .int 0, .ref kq, .ref km, .ref kd, .int 0, .ref ka, .ref kk])), (ks, .inl (cI, 5, .inl (upd (fun _ => 0) 0 800))), (kw, .inl (cI, 14, .inl (fun _ => 0)))] := hD
    refine lv_iinc (v := 8) (lv' := [(2, .int 8), (0, .ref o), (1, .int 10)]) hx hb dX3_countSlots_53 hl (k := 0) rfl (by decide) (by decide) rfl (fun ls hl => ?_)
    refine lv_goto (tgt := 30) hx hb dX3_countSlots_56 (by decide) ?_
    refine lv_iload_n hx hb dX3_countSlots_30 rfl (lv_at hl 0 rfl) ?_
    refine lv_iload_n hx hb dX3_countSlots_31 rfl (lv_at hl 2 rfl) ?_
    refine lv_icmp_gt (tgt := 59) hx hb dX3_countSlots_32 (by decide) (fun c340 => absurd c340 (by decide)) (fun c340 => ?_)
    refine lv_aload_n hx hb dX3_countSlots_35 rfl (lv_at hl 1 rfl) ?_
    refine va_get (D := (dC, dI)) (ci := 3) (v := .ref os) (C := RX3) (T := TX3) (N := 6) hx hb hts hin3 hown hK hP 0 rfl rfl 5 (by decide) hw0 (fun _ h9 => h9) rfl dX3_countSlots_36 ?_
    refine lv_aload_n hx hb dX3_countSlots_39 rfl (lv_at hl 1 rfl) ?_
    refine va_get (D := (dC, dI)) (ci := 3) (v := .ref k) (C := RX3) (T := TX3) (N := 6) hx hb hts hin3 hown hK hP 0 rfl rfl 0 (by decide) hw1 (fun _ h9 => h9) rfl dX3_countSlots_40 ?_
    refine lv_iload_n hx hb dX3_countSlots_43 rfl (lv_at hl 0 rfl) ?_
    refine lv_iconst (v := 0) hx hb dX3_countSlots_44 (by decide) ?_
    refine mx_i (wr := [(o, .inr (3, [.ref k, .ref op, .int 0, .ref oq, .ref ov, .ref os])), (os, .inl (cI, 5, .inl (upd (upd (upd (upd (upd (upd (upd (upd (upd (upd (upd (upd (upd (fun _ => 0) 0 0) 1 0) 2 0) 3 0) 4 0) 0 2) 0 4) 0 6) 0 8) 0 10) 0 12) 0 14) 0 16)))]) (va_runV (As := [.int 8, .int 0]) (rest := [.ref os]) ⟨hx, hb, hml, hown, hts⟩ (c_X0_windOn l dC dI cI cZ cK tS aK aV k ks kw kc kq km kd ka kk 8 H.size (by have z8 : (8 : Int32).toInt = 8 := rfl; first | omega | decide | assumption | trivial)) (cwV 2 hts (gw_v (fun _ h9 => List.mem_cons_of_mem _ h9) wm_169 wm_170 wm_171 wm_10 wm_172) rfl rfl rfl (by decide +kernel) ⟨Nat.le_of_ble_eq_true rfl, Nat.le_of_ble_eq_true rfl⟩) (mx_preV (C := RX0) (T := TX0) (N := 12) (ci := 0) hKx hP hD hS hA [2, 3, 4] (by decide) rfl rfl rfl) rfl rfl hl.1 rfl (lv_room (Nat.le_of_ble_eq_true rfl)) dX3_countSlots_45 ⟨Nat.le_of_ble_eq_true rfl, Nat.le_of_ble_eq_true rfl⟩) hP hD hS hA [2, 3, 4] [0, 1] rfl rfl (by decide) (by decide) (fun r341 u341 H locs hq341 hP hD hS => ?_)
    replace hP : va_P (dC, dI) vwCl [(o, .inr (3, [.ref k, .ref op, .int 0, .ref oq, .ref ov, .ref os])), (os, .inl (cI, 5, .inl (upd (upd (upd (upd (upd (upd (upd (upd (upd (upd (upd (upd (upd (fun _ => 0) 0 0) 1 0) 2 0) 3 0) 4 0) 0 2) 0 4) 0 6) 0 8) 0 10) 0 12) 0 14) 0 16))), (k, .inr (0, [.ref ks, .ref kw, .ref kc, .int (-6), .int 0, .int 0, .ref kq, .ref km, .ref kd, .int 0, .ref ka, .ref kk])), (ks, .inl (cI, 5, .inl (upd (fun _ => 0) 0 800))), (kw, .inl (cI, 14, .inl (fun _ => 0)))] H := hP
    replace hD : va_D A [(o, .inr (3, [.ref k, .ref op, .int 0, .ref oq, .ref ov, .ref os])), (os, .inl (cI, 5, .inl (upd (upd (upd (upd (upd (upd (upd (upd (upd (upd (upd (upd (upd (fun _ => 0) 0 0) 1 0) 2 0) 3 0) 4 0) 0 2) 0 4) 0 6) 0 8) 0 10) 0 12) 0 14) 0 16))), (k, .inr (0, [.ref ks, .ref kw, .ref kc, .int (-6), .int 0, .int 0, .ref kq, .ref km, .ref kd, .int 0, .ref ka, .ref kk])), (ks, .inl (cI, 5, .inl (upd (fun _ => 0) 0 800))), (kw, .inl (cI, 14, .inl (fun _ => 0)))] := hD
    obtain rfl : r341 = 0 := hq341
    refine lv_dup2_11 hx hb dX3_countSlots_48 rfl rfl ?_
    refine va_iald hx hb hK hP 1 0 rfl rfl (vin (by decide) (by decide)) dX3_countSlots_49 ?_
    refine lv_topi (fun x342 e342 => ?_)
    obtain rfl : x342 = 16 := e342.trans (by first | rfl | decide)
    refine lv_iconst (v := 2) hx hb dX3_countSlots_50 (by decide) ?_
    refine lv_iadd hx hb dX3_countSlots_51 ?_
    refine lv_topi (fun x343 e343 => ?_)
    obtain rfl : x343 = 18 := e343.trans (by decide)
    refine va_iast hx hb hK hP hD hS 1 0 rfl rfl (vin (by decide) (by decide)) dX3_countSlots_52 (fun H locs hP hD hS => ?_)
    replace hP : va_P (dC, dI) vwCl [(o, .inr (3, [.ref k, .ref op, .int 0, .ref oq, .ref ov, .ref os])), (os, .inl (cI, 5, .inl (upd (upd (upd (upd (upd (upd (upd (upd (upd (upd (upd (upd (upd (upd (fun _ => 0) 0 0) 1 0) 2 0) 3 0) 4 0) 0 2) 0 4) 0 6) 0 8) 0 10) 0 12) 0 14) 0 16) 0 18))), (k, .inr (0, [.ref ks, .ref kw, .ref kc, .int (-6), .int 0, .int 0, .ref kq, .ref km, .ref kd, .int 0, .ref ka, .ref kk])), (ks, .inl (cI, 5, .inl (upd (fun _ => 0) 0 800))), (kw, .inl (cI, 14, .inl (fun _ => 0)))] H := hP
    replace hD : va_D A [(o, .inr (3, [.ref k, .ref op, .int 0, .ref oq, .ref ov, .ref os])), (os, .inl (cI, 5, .inl (upd (upd (upd (upd (upd (upd (upd (upd (upd (upd (upd (upd (upd (upd (fun _ => 0) 0 0) 1 0) 2 0) 3 0) 4 0) 0 2) 0 4) 0 6) 0 8) 0 10) 0 12) 0 14) 0 16) 0 18))), (k, .inr (0, [.ref ks, .ref kw, .ref kc, .int (-6), .int 0, .int 0, .ref kq, .ref km, .ref kd, .int 0, .ref ka, .ref kk])), (ks, .inl (cI, 5, .inl (upd (fun _ => 0) 0 800))), (kw, .inl (cI, 14, .inl (fun _ => 0)))] := hD
    refine lv_iinc (v := 9) (lv' := [(2, .int 9), (0, .ref o), (1, .int 10)]) hx hb dX3_countSlots_53 hl (k := 0) rfl (by decide) (by decide) rfl (fun ls hl => ?_)
    refine lv_goto (tgt := 30) hx hb dX3_countSlots_56 (by decide) ?_
    refine lv_iload_n hx hb dX3_countSlots_30 rfl (lv_at hl 0 rfl) ?_
    refine lv_iload_n hx hb dX3_countSlots_31 rfl (lv_at hl 2 rfl) ?_
    refine lv_icmp_gt (tgt := 59) hx hb dX3_countSlots_32 (by decide) (fun c344 => absurd c344 (by decide)) (fun c344 => ?_)
    refine lv_aload_n hx hb dX3_countSlots_35 rfl (lv_at hl 1 rfl) ?_
    refine va_get (D := (dC, dI)) (ci := 3) (v := .ref os) (C := RX3) (T := TX3) (N := 6) hx hb hts hin3 hown hK hP 0 rfl rfl 5 (by decide) hw0 (fun _ h9 => h9) rfl dX3_countSlots_36 ?_
    refine lv_aload_n hx hb dX3_countSlots_39 rfl (lv_at hl 1 rfl) ?_
    refine va_get (D := (dC, dI)) (ci := 3) (v := .ref k) (C := RX3) (T := TX3) (N := 6) hx hb hts hin3 hown hK hP 0 rfl rfl 0 (by decide) hw1 (fun _ h9 => h9) rfl dX3_countSlots_40 ?_
    refine lv_iload_n hx hb dX3_countSlots_43 rfl (lv_at hl 0 rfl) ?_
    refine lv_iconst (v := 0) hx hb dX3_countSlots_44 (by decide) ?_
    refine mx_i (wr := [(o, .inr (3, [.ref k, .ref op, .int 0, .ref oq, .ref ov, .ref os])), (os, .inl (cI, 5, .inl (upd (upd (upd (upd (upd (upd (upd (upd (upd (upd (upd (upd (upd (upd (fun _ => 0) 0 0) 1 0) 2 0) 3 0) 4 0) 0 2) 0 4) 0 6) 0 8) 0 10) 0 12) 0 14) 0 16) 0 18)))]) (va_runV (As := [.int 9, .int 0]) (rest := [.ref os]) ⟨hx, hb, hml, hown, hts⟩ (c_X0_windOn l dC dI cI cZ cK tS aK aV k ks kw kc kq km kd ka kk 9 H.size (by have z8 : (9 : Int32).toInt = 9 := rfl; first | omega | decide | assumption | trivial)) (cwV 2 hts (gw_v (fun _ h9 => List.mem_cons_of_mem _ h9) wm_169 wm_170 wm_171 wm_10 wm_172) rfl rfl rfl (by decide +kernel) ⟨Nat.le_of_ble_eq_true rfl, Nat.le_of_ble_eq_true rfl⟩) (mx_preV (C := RX0) (T := TX0) (N := 12) (ci := 0) hKx hP hD hS hA [2, 3, 4] (by decide) rfl rfl rfl) rfl rfl hl.1 rfl (lv_room (Nat.le_of_ble_eq_true rfl)) dX3_countSlots_45 ⟨Nat.le_of_ble_eq_true rfl, Nat.le_of_ble_eq_true rfl⟩) hP hD hS hA [2, 3, 4] [0, 1] rfl rfl (by decide) (by decide) (fun r345 u345 H locs hq345 hP hD hS => ?_)
    replace hP : va_P (dC, dI) vwCl [(o, .inr (3, [.ref k, .ref op, .int 0, .ref oq, .ref ov, .ref os])), (os, .inl (cI, 5, .inl (upd (upd (upd (upd (upd (upd (upd (upd (upd (upd (upd (upd (upd (upd (fun _ => 0) 0 0) 1 0) 2 0) 3 0) 4 0) 0 2) 0 4) 0 6) 0 8) 0 10) 0 12) 0 14) 0 16) 0 18))), (k, .inr (0, [.ref ks, .ref kw, .ref kc, .int (-6), .int 0, .int 0, .ref kq, .ref km, .ref kd, .int 0, .ref ka, .ref kk])), (ks, .inl (cI, 5, .inl (upd (fun _ => 0) 0 800))), (kw, .inl (cI, 14, .inl (fun _ => 0)))] H := hP
    replace hD : va_D A [(o, .inr (3, [.ref k, .ref op, .int 0, .ref oq, .ref ov, .ref os])), (os, .inl (cI, 5, .inl (upd (upd (upd (upd (upd (upd (upd (upd (upd (upd (upd (upd (upd (upd (fun _ => 0) 0 0) 1 0) 2 0) 3 0) 4 0) 0 2) 0 4) 0 6) 0 8) 0 10) 0 12) 0 14) 0 16) 0 18))), (k, .inr (0, [.ref ks, .ref kw, .ref kc, .int (-6), .int 0, .int 0, .ref kq, .ref km, .ref kd, .int 0, .ref ka, .ref kk])), (ks, .inl (cI, 5, .inl (upd (fun _ => 0) 0 800))), (kw, .inl (cI, 14, .inl (fun _ => 0)))] := hD
    obtain rfl : r345 = 0 := hq345
    refine lv_dup2_11 hx hb dX3_countSlots_48 rfl rfl ?_
    refine va_iald hx hb hK hP 1 0 rfl rfl (vin (by decide) (by decide)) dX3_countSlots_49 ?_
    refine lv_topi (fun x346 e346 => ?_)
    obtain rfl : x346 = 18 := e346.trans (by first | rfl | decide)
    refine lv_iconst (v := 2) hx hb dX3_countSlots_50 (by decide) ?_
    refine lv_iadd hx hb dX3_countSlots_51 ?_
    refine lv_topi (fun x347 e347 => ?_)
    obtain rfl : x347 = 20 := e347.trans (by decide)
    refine va_iast hx hb hK hP hD hS 1 0 rfl rfl (vin (by decide) (by decide)) dX3_countSlots_52 (fun H locs hP hD hS => ?_)
    replace hP : va_P (dC, dI) vwCl [(o, .inr (3, [.ref k, .ref op, .int 0, .ref oq, .ref ov, .ref os])), (os, .inl (cI, 5, .inl (upd (upd (upd (upd (upd (upd (upd (upd (upd (upd (upd (upd (upd (upd (upd (fun _ => 0) 0 0) 1 0) 2 0) 3 0) 4 0) 0 2) 0 4) 0 6) 0 8) 0 10) 0 12) 0 14) 0 16) 0 18) 0 20))), (k, .inr (0, [.ref ks, .ref kw, .ref kc, .int (-6), .int 0, .int 0, .ref kq, .ref km, .ref kd, .int 0, .ref ka, .ref kk])), (ks, .inl (cI, 5, .inl (upd (fun _ => 0) 0 800))), (kw, .inl (cI, 14, .inl (fun _ => 0)))] H := hP
    replace hD : va_D A [(o, .inr (3, [.ref k, .ref op, .int 0, .ref oq, .ref ov, .ref os])), (os, .inl (cI, 5, .inl (upd (upd (upd (upd (upd (upd (upd (upd (upd (upd (upd (upd (upd (upd (upd (fun _ => 0) 0 0) 1 0) 2 0) 3 0) 4 0) 0 2) 0 4) 0 6) 0 8) 0 10) 0 12) 0 14) 0 16) 0 18) 0 20))), (k, .inr (0, [.ref ks, .ref kw, .ref kc, .int (-6), .int 0, .int 0, .ref kq, .ref km, .ref kd, .int 0, .ref ka, .ref kk])), (ks, .inl (cI, 5, .inl (upd (fun _ => 0) 0 800))), (kw, .inl (cI, 14, .inl (fun _ => 0)))] := hD
    refine lv_iinc (v := 10) (lv' := [(2, .int 10), (0, .ref o), (1, .int 10)]) hx hb dX3_countSlots_53 hl (k := 0) rfl (by decide) (by decide) rfl (fun ls hl => ?_)
    refine lv_goto (tgt := 30) hx hb dX3_countSlots_56 (by decide) ?_
    refine lv_iload_n hx hb dX3_countSlots_30 rfl (lv_at hl 0 rfl) ?_
    refine lv_iload_n hx hb dX3_countSlots_31 rfl (lv_at hl 2 rfl) ?_
    refine lv_icmp_gt (tgt := 59) hx hb dX3_countSlots_32 (by decide) (fun c348 => absurd c348 (by decide)) (fun c348 => ?_)
    refine lv_aload_n hx hb dX3_countSlots_35 rfl (lv_at hl 1 rfl) ?_
    refine va_get (D := (dC, dI)) (ci := 3) (v := .ref os) (C := RX3) (T := TX3) (N := 6) hx hb hts hin3 hown hK hP 0 rfl rfl 5 (by decide) hw0 (fun _ h9 => h9) rfl dX3_countSlots_36 ?_
    refine lv_aload_n hx hb dX3_countSlots_39 rfl (lv_at hl 1 rfl) ?_
    refine va_get (D := (dC, dI)) (ci := 3) (v := .ref k) (C := RX3) (T := TX3) (N := 6) hx hb hts hin3 hown hK hP 0 rfl rfl 0 (by decide) hw1 (fun _ h9 => h9) rfl dX3_countSlots_40 ?_
    refine lv_iload_n hx hb dX3_countSlots_43 rfl (lv_at hl 0 rfl) ?_
    refine lv_iconst (v := 0) hx hb dX3_countSlots_44 (by decide) ?_
    refine mx_i (wr := [(o, .inr (3, [.ref k, .ref op, .int 0, .ref oq, .ref ov, .ref os])), (os, .inl (cI, 5, .inl (upd (upd (upd (upd (upd (upd (upd (upd (upd (upd (upd (upd (upd (upd (upd (fun _ => 0) 0 0) 1 0) 2 0) 3 0) 4 0) 0 2) 0 4) 0 6) 0 8) 0 10) 0 12) 0 14) 0 16) 0 18) 0 20)))]) (va_runV (As := [.int 10, .int 0]) (rest := [.ref os]) ⟨hx, hb, hml, hown, hts⟩ (c_X0_windOn l dC dI cI cZ cK tS aK aV k ks kw kc kq km kd ka kk 10 H.size (by have z8 : (10 : Int32).toInt = 10 := rfl; first | omega | decide | assumption | trivial)) (cwV 2 hts (gw_v (fun _ h9 => List.mem_cons_of_mem _ h9) wm_169 wm_170 wm_171 wm_10 wm_172) rfl rfl rfl (by decide +kernel) ⟨Nat.le_of_ble_eq_true rfl, Nat.le_of_ble_eq_true rfl⟩) (mx_preV (C := RX0) (T := TX0) (N := 12) (ci := 0) hKx hP hD hS hA [2, 3, 4] (by decide) rfl rfl rfl) rfl rfl hl.1 rfl (lv_room (Nat.le_of_ble_eq_true rfl)) dX3_countSlots_45 ⟨Nat.le_of_ble_eq_true rfl, Nat.le_of_ble_eq_true rfl⟩) hP hD hS hA [2, 3, 4] [0, 1] rfl rfl (by decide) (by decide) (fun r349 u349 H locs hq349 hP hD hS => ?_)
    replace hP : va_P (dC, dI) vwCl [(o, .inr (3, [.ref k, .ref op, .int 0, .ref oq, .ref ov, .ref os])), (os, .inl (cI, 5, .inl (upd (upd (upd (upd (upd (upd (upd (upd (upd (upd (upd (upd (upd (upd (upd (fun _ => 0) 0 0) 1 0) 2 0) 3 0) 4 0) 0 2) 0 4) 0 6) 0 8) 0 10) 0 12) 0 14) 0 16) 0 18) 0 20))), (k, .inr (0, [.ref ks, .ref kw, .ref kc, .int (-6), .int 0, .int 0, .ref kq, .ref km, .ref kd, .int 0, .ref ka, .ref kk])), (ks, .inl (cI, 5, .inl (upd (fun _ => 0) 0 800))), (kw, .inl (cI, 14, .inl (fun _ => 0)))] H := hP
    replace hD : va_D A [(o, .inr (3, [.ref k, .ref op, .int 0, .ref oq, .ref ov, .ref os])), (os, .inl (cI, 5, .inl (upd (upd (upd (upd (upd (upd (upd (upd (upd (upd (upd (upd (upd (upd (upd (fun _ => 0) 0 0) 1 0) 2 0) 3 0) 4 0) 0 2) 0 4) 0 6) 0 8) 0 10) 0 12) 0 14) 0 16) 0 18) 0 20))), (k, .inr (0, [.ref ks, .ref kw, .ref kc, .int (-6), .int 0, .int 0, .ref kq, .ref km, .ref kd, .int 0, .ref ka, .ref kk])), (ks, .inl (cI, 5, .inl (upd (fun _ => 0) 0 800))), (kw, .inl (cI, 14, .inl (fun _ => 0)))] := hD
    obtain rfl : r349 = 0 := hq349
    refine lv_dup2_11 hx hb dX3_countSlots_48 rfl rfl ?_
    refine va_iald hx hb hK hP 1 0 rfl rfl (vin (by decide) (by decide)) dX3_countSlots_49 ?_
    refine lv_topi (fun x350 e350 => ?_)
    obtain rfl : x350 = 20 := e350.trans (by first | rfl | decide)
    refine lv_iconst (v := 2) hx hb dX3_countSlots_50 (by decide) ?_
    refine lv_iadd hx hb dX3_countSlots_51 ?_
    refine lv_topi (fun x351 e351 => ?_)
    obtain rfl : x351 = 22 := e351.trans (by decide)
    refine va_iast hx hb hK hP hD hS 1 0 rfl rfl (vin (by decide) (by decide)) dX3_countSlots_52 (fun H locs hP hD hS => ?_)
    replace hP : va_P (dC, dI) vwCl [(o, .inr (3, [.ref k, .ref op, .int 0, .ref oq, .ref ov, .ref os])), (os, .inl (cI, 5, .inl (upd (upd (upd (upd (upd (upd (upd (upd (upd (upd (upd (upd (upd (upd (upd (upd (fun _ => 0) 0 0) 1 0) 2 0) 3 0) 4 0) 0 2) 0 4) 0 6) 0 8) 0 10) 0 12) 0 14) 0 16) 0 18) 0 20) 0 22))), (k, .inr (0, [.ref ks, .ref kw, .ref kc, .int (-6), .int 0, .int 0, .ref kq, .ref km, .ref kd, .int 0, .ref ka, .ref kk])), (ks, .inl (cI, 5, .inl (upd (fun _ => 0) 0 800))), (kw, .inl (cI, 14, .inl (fun _ => 0)))] H := hP
    replace hD : va_D A [(o, .inr (3, [.ref k, .ref op, .int 0, .ref oq, .ref ov, .ref os])), (os, .inl (cI, 5, .inl (upd (upd (upd (upd (upd (upd (upd (upd (upd (upd (upd (upd (upd (upd (upd (upd (fun _ => 0) 0 0) 1 0) 2 0) 3 0) 4 0) 0 2) 0 4) 0 6) 0 8) 0 10) 0 12) 0 14) 0 16) 0 18) 0 20) 0 22))), (k, .inr (0, [.ref ks, .ref kw, .ref kc, .int (-6), .int 0, .int 0, .ref kq, .ref km, .ref kd, .int 0, .ref ka, .ref kk])), (ks, .inl (cI, 5, .inl (upd (fun _ => 0) 0 800))), (kw, .inl (cI, 14, .inl (fun _ => 0)))] := hD
    refine lv_iinc (v := 11) (lv' := [(2, .int 11), (0, .ref o), (1, .int 10)]) hx hb dX3_countSlots_53 hl (k := 0) rfl (by decide) (by decide) rfl (fun ls hl => ?_)
    refine lv_goto (tgt := 30) hx hb dX3_countSlots_56 (by decide) ?_
    refine lv_iload_n hx hb dX3_countSlots_30 rfl (lv_at hl 0 rfl) ?_
    refine lv_iload_n hx hb dX3_countSlots_31 rfl (lv_at hl 2 rfl) ?_
    refine lv_icmp_gt (tgt := 59) hx hb dX3_countSlots_32 (by decide) (fun c352 => ?_) (fun c352 => absurd c352 (by decide))
    have hP9 := mx_subP (wc := [(o, .inr (3, [.ref k, .ref op, .int 0, .ref oq, .ref ov, .ref os])), (os, .inl (cI, 5, .inl (upd (upd (upd (upd (upd (upd (upd (upd (upd (upd (upd (upd (upd (upd (upd (upd (fun _ => 0) 0 0) 1 0) 2 0) 3 0) 4 0) 0 2) 0 4) 0 6) 0 8) 0 10) 0 12) 0 14) 0 16) 0 18) 0 20) 0 22))), (k, .inr (0, [.ref ks, .ref kw, .ref kc, .int (-6), .int 0, .int 0, .ref kq, .ref km, .ref kd, .int 0, .ref ka, .ref kk])), (ks, .inl (cI, 5, .inl (upd (fun _ => 0) 0 800))), (kw, .inl (cI, 14, .inl (fun _ => 0)))]) hP [0, 1, 2, 3, 4] rfl
    have hD9 := hD.sub (ws' := [(o, .inr (3, [.ref k, .ref op, .int 0, .ref oq, .ref ov, .ref os])), (os, .inl (cI, 5, .inl (upd (upd (upd (upd (upd (upd (upd (upd (upd (upd (upd (upd (upd (upd (upd (upd (fun _ => 0) 0 0) 1 0) 2 0) 3 0) 4 0) 0 2) 0 4) 0 6) 0 8) 0 10) 0 12) 0 14) 0 16) 0 18) 0 20) 0 22))), (k, .inr (0, [.ref ks, .ref kw, .ref kc, .int (-6), .int 0, .int 0, .ref kq, .ref km, .ref kd, .int 0, .ref ka, .ref kk])), (ks, .inl (cI, 5, .inl (upd (fun _ => 0) 0 800))), (kw, .inl (cI, 14, .inl (fun _ => 0)))]) [0, 1, 2, 3, 4] (by decide) rfl
    exact W.vret hx hb hr (fun t ht hW => ⟨⟨(upd (upd (upd (upd (upd (upd (upd (upd (upd (upd (upd (upd (upd (upd (upd (upd (fun _ => 0) 0 0) 1 0) 2 0) 3 0) 4 0) 0 2) 0 4) 0 6) 0 8) 0 10) 0 12) 0 14) 0 16) 0 18) 0 20) 0 22), rfl, (by refine ⟨?_, ?_, ?_, ?_, ?_, ?_, ?_, ?_, ?_, ?_⟩ <;> decide), by rw [ht]; exact hP9, hD9⟩, hS.F ht⟩) hS.2.2 dX3_countSlots_59
  · have z9 : (11 : Int32).toInt = 11 := rfl
    refine lv_iconst (v := 0) hx hb dX3_countSlots_0 (by decide) ?_
    refine lv_istore_n (lv' := [(2, .int 0), (0, .ref o), (1, .int 11)]) hx hb dX3_countSlots_1 rfl hl (by decide) rfl (fun ls hl => ?_)
    refine lv_iload_n hx hb dX3_countSlots_2 rfl (lv_at hl 0 rfl) ?_
    refine lv_iconst (v := 4) hx hb dX3_countSlots_3 (by decide) ?_
    refine lv_icmp_gt (tgt := 20) hx hb dX3_countSlots_4 (by decide) (fun c353 => absurd c353 (by decide)) (fun c353 => ?_)
    refine lv_aload_n hx hb dX3_countSlots_7 rfl (lv_at hl 1 rfl) ?_
    refine va_get (D := (dC, dI)) (ci := 3) (v := .ref os) (C := RX3) (T := TX3) (N := 6) hx hb hts hin3 hown hK hP 0 rfl rfl 5 (by decide) hw0 (fun _ h9 => h9) rfl dX3_countSlots_8 ?_
    refine lv_iload_n hx hb dX3_countSlots_11 rfl (lv_at hl 0 rfl) ?_
    refine lv_iconst (v := 0) hx hb dX3_countSlots_12 (by decide) ?_
    refine va_iast hx hb hK hP hD hS 1 0 rfl rfl (vin (by decide) (by decide)) dX3_countSlots_13 (fun H locs hP hD hS => ?_)
    replace hP : va_P (dC, dI) vwCl [(o, .inr (3, [.ref k, .ref op, .int 0, .ref oq, .ref ov, .ref os])), (os, .inl (cI, 5, .inl (upd (fun _ => 0) 0 0))), (k, .inr (0, [.ref ks, .ref kw, .ref kc, .int (-6), .int 0, .int 0, .ref kq, .ref km, .ref kd, .int 0, .ref ka, .ref kk])), (ks, .inl (cI, 5, .inl (upd (fun _ => 0) 0 800))), (kw, .inl (cI, 14, .inl (fun _ => 0)))] H := hP
    replace hD : va_D A [(o, .inr (3, [.ref k, .ref op, .int 0, .ref oq, .ref ov, .ref os])), (os, .inl (cI, 5, .inl (upd (fun _ => 0) 0 0))), (k, .inr (0, [.ref ks, .ref kw, .ref kc, .int (-6), .int 0, .int 0, .ref kq, .ref km, .ref kd, .int 0, .ref ka, .ref kk])), (ks, .inl (cI, 5, .inl (upd (fun _ => 0) 0 800))), (kw, .inl (cI, 14, .inl (fun _ => 0)))] := hD
    refine lv_iinc (v := 1) (lv' := [(2, .int 1), (0, .ref o), (1, .int 11)]) hx hb dX3_countSlots_14 hl (k := 0) rfl (by decide) (by decide) rfl (fun ls hl => ?_)
    refine lv_goto (tgt := 2) hx hb dX3_countSlots_17 (by decide) ?_
    refine lv_iload_n hx hb dX3_countSlots_2 rfl (lv_at hl 0 rfl) ?_
    refine lv_iconst (v := 4) hx hb dX3_countSlots_3 (by decide) ?_
    refine lv_icmp_gt (tgt := 20) hx hb dX3_countSlots_4 (by decide) (fun c354 => absurd c354 (by decide)) (fun c354 => ?_)
    refine lv_aload_n hx hb dX3_countSlots_7 rfl (lv_at hl 1 rfl) ?_
    refine va_get (D := (dC, dI)) (ci := 3) (v := .ref os) (C := RX3) (T := TX3) (N := 6) hx hb hts hin3 hown hK hP 0 rfl rfl 5 (by decide) hw0 (fun _ h9 => h9) rfl dX3_countSlots_8 ?_
    refine lv_iload_n hx hb dX3_countSlots_11 rfl (lv_at hl 0 rfl) ?_
    refine lv_iconst (v := 0) hx hb dX3_countSlots_12 (by decide) ?_
    refine va_iast hx hb hK hP hD hS 1 0 rfl rfl (vin (by decide) (by decide)) dX3_countSlots_13 (fun H locs hP hD hS => ?_)
    replace hP : va_P (dC, dI) vwCl [(o, .inr (3, [.ref k, .ref op, .int 0, .ref oq, .ref ov, .ref os])), (os, .inl (cI, 5, .inl (upd (upd (fun _ => 0) 0 0) 1 0))), (k, .inr (0, [.ref ks, .ref kw, .ref kc, .int (-6), .int 0, .int 0, .ref kq, .ref km, .ref kd, .int 0, .ref ka, .ref kk])), (ks, .inl (cI, 5, .inl (upd (fun _ => 0) 0 800))), (kw, .inl (cI, 14, .inl (fun _ => 0)))] H := hP
    replace hD : va_D A [(o, .inr (3, [.ref k, .ref op, .int 0, .ref oq, .ref ov, .ref os])), (os, .inl (cI, 5, .inl (upd (upd (fun _ => 0) 0 0) 1 0))), (k, .inr (0, [.ref ks, .ref kw, .ref kc, .int (-6), .int 0, .int 0, .ref kq, .ref km, .ref kd, .int 0, .ref ka, .ref kk])), (ks, .inl (cI, 5, .inl (upd (fun _ => 0) 0 800))), (kw, .inl (cI, 14, .inl (fun _ => 0)))] := hD
    refine lv_iinc (v := 2) (lv' := [(2, .int 2), (0, .ref o), (1, .int 11)]) hx hb dX3_countSlots_14 hl (k := 0) rfl (by decide) (by decide) rfl (fun ls hl => ?_)
    refine lv_goto (tgt := 2) hx hb dX3_countSlots_17 (by decide) ?_
    refine lv_iload_n hx hb dX3_countSlots_2 rfl (lv_at hl 0 rfl) ?_
    refine lv_iconst (v := 4) hx hb dX3_countSlots_3 (by decide) ?_
    refine lv_icmp_gt (tgt := 20) hx hb dX3_countSlots_4 (by decide) (fun c355 => absurd c355 (by decide)) (fun c355 => ?_)
    refine lv_aload_n hx hb dX3_countSlots_7 rfl (lv_at hl 1 rfl) ?_
    refine va_get (D := (dC, dI)) (ci := 3) (v := .ref os) (C := RX3) (T := TX3) (N := 6) hx hb hts hin3 hown hK hP 0 rfl rfl 5 (by decide) hw0 (fun _ h9 => h9) rfl dX3_countSlots_8 ?_
    refine lv_iload_n hx hb dX3_countSlots_11 rfl (lv_at hl 0 rfl) ?_
    refine lv_iconst (v := 0) hx hb dX3_countSlots_12 (by decide) ?_
    refine va_iast hx hb hK hP hD hS 1 0 rfl rfl (vin (by decide) (by decide)) dX3_countSlots_13 (fun H locs hP hD hS => ?_)
    replace hP : va_P (dC, dI) vwCl [(o, .inr (3, [.ref k, .ref op, .int 0, .ref oq, .ref ov, .ref os])), (os, .inl (cI, 5, .inl (upd (upd (upd (fun _ => 0) 0 0) 1 0) 2 0))), (k, .inr (0, [.ref ks, .ref kw, .ref kc, .int (-6), .int 0, .int 0, .ref kq, .ref km, .ref kd, .int 0, .ref ka, .ref kk])), (ks, .inl (cI, 5, .inl (upd (fun _ => 0) 0 800))), (kw, .inl (cI, 14, .inl (fun _ => 0)))] H := hP
    replace hD : va_D A [(o, .inr (3, [.ref k, .ref op, .int 0, .ref oq, .ref ov, .ref os])), (os, .inl (cI, 5, .inl (upd (upd (upd (fun _ => 0) 0 0) 1 0) 2 0))), (k, .inr (0, [.ref ks, .ref kw, .ref kc, .int (-6), .int 0, .int 0, .ref kq, .ref km, .ref kd, .int 0, .ref ka, .ref kk])), (ks, .inl (cI, 5, .inl (upd (fun _ => 0) 0 800))), (kw, .inl (cI, 14, .inl (fun _ => 0)))] := hD
    refine lv_iinc (v := 3) (lv' := [(2, .int 3), (0, .ref o), (1, .int 11)]) hx hb dX3_countSlots_14 hl (k := 0) rfl (by decide) (by decide) rfl (fun ls hl => ?_)
    refine lv_goto (tgt := 2) hx hb dX3_countSlots_17 (by decide) ?_
    refine lv_iload_n hx hb dX3_countSlots_2 rfl (lv_at hl 0 rfl) ?_
    refine lv_iconst (v := 4) hx hb dX3_countSlots_3 (by decide) ?_
    refine lv_icmp_gt (tgt := 20) hx hb dX3_countSlots_4 (by decide) (fun c356 => absurd c356 (by decide)) (fun c356 => ?_)
    refine lv_aload_n hx hb dX3_countSlots_7 rfl (lv_at hl 1 rfl) ?_
    refine va_get (D := (dC, dI)) (ci := 3) (v := .ref os) (C := RX3) (T := TX3) (N := 6) hx hb hts hin3 hown hK hP 0 rfl rfl 5 (by decide) hw0 (fun _ h9 => h9) rfl dX3_countSlots_8 ?_
    refine lv_iload_n hx hb dX3_countSlots_11 rfl (lv_at hl 0 rfl) ?_
    refine lv_iconst (v := 0) hx hb dX3_countSlots_12 (by decide) ?_
    refine va_iast hx hb hK hP hD hS 1 0 rfl rfl (vin (by decide) (by decide)) dX3_countSlots_13 (fun H locs hP hD hS => ?_)
    replace hP : va_P (dC, dI) vwCl [(o, .inr (3, [.ref k, .ref op, .int 0, .ref oq, .ref ov, .ref os])), (os, .inl (cI, 5, .inl (upd (upd (upd (upd (fun _ => 0) 0 0) 1 0) 2 0) 3 0))), (k, .inr (0, [.ref ks, .ref kw, .ref kc, .int (-6), .int 0, .int 0, .ref kq, .ref km, .ref kd, .int 0, .ref ka, .ref kk])), (ks, .inl (cI, 5, .inl (upd (fun _ => 0) 0 800))), (kw, .inl (cI, 14, .inl (fun _ => 0)))] H := hP
    replace hD : va_D A [(o, .inr (3, [.ref k, .ref op, .int 0, .ref oq, .ref ov, .ref os])), (os, .inl (cI, 5, .inl (upd (upd (upd (upd (fun _ => 0) 0 0) 1 0) 2 0) 3 0))), (k, .inr (0, [.ref ks, .ref kw, .ref kc, .int (-6), .int 0, .int 0, .ref kq, .ref km, .ref kd, .int 0, .ref ka, .ref kk])), (ks, .inl (cI, 5, .inl (upd (fun _ => 0) 0 800))), (kw, .inl (cI, 14, .inl (fun _ => 0)))] := hD
    refine lv_iinc (v := 4) (lv' := [(2, .int 4), (0, .ref o), (1, .int 11)]) hx hb dX3_countSlots_14 hl (k := 0) rfl (by decide) (by decide) rfl (fun ls hl => ?_)
    refine lv_goto (tgt := 2) hx hb dX3_countSlots_17 (by decide) ?_
    refine lv_iload_n hx hb dX3_countSlots_2 rfl (lv_at hl 0 rfl) ?_
    refine lv_iconst (v := 4) hx hb dX3_countSlots_3 (by decide) ?_
    refine lv_icmp_gt (tgt := 20) hx hb dX3_countSlots_4 (by decide) (fun c357 => absurd c357 (by decide)) (fun c357 => ?_)
    refine lv_aload_n hx hb dX3_countSlots_7 rfl (lv_at hl 1 rfl) ?_
    refine va_get (D := (dC, dI)) (ci := 3) (v := .ref os) (C := RX3) (T := TX3) (N := 6) hx hb hts hin3 hown hK hP 0 rfl rfl 5 (by decide) hw0 (fun _ h9 => h9) rfl dX3_countSlots_8 ?_
    refine lv_iload_n hx hb dX3_countSlots_11 rfl (lv_at hl 0 rfl) ?_
    refine lv_iconst (v := 0) hx hb dX3_countSlots_12 (by decide) ?_
    refine va_iast hx hb hK hP hD hS 1 0 rfl rfl (vin (by decide) (by decide)) dX3_countSlots_13 (fun H locs hP hD hS => ?_)
    replace hP : va_P (dC, dI) vwCl [(o, .inr (3, [.ref k, .ref op, .int 0, .ref oq, .ref ov, .ref os])), (os, .inl (cI, 5, .inl (upd (upd (upd (upd (upd (fun _ => 0) 0 0) 1 0) 2 0) 3 0) 4 0))), (k, .inr (0, [.ref ks, .ref kw, .ref kc, .int (-6), .int 0, .int 0, .ref kq, .ref km, .ref kd, .int 0, .ref ka, .ref kk])), (ks, .inl (cI, 5, .inl (upd (fun _ => 0) 0 800))), (kw, .inl (cI, 14, .inl (fun _ => 0)))] H := hP
    replace hD : va_D A [(o, .inr (3, [.ref k, .ref op, .int 0, .ref oq, .ref ov, .ref os])), (os, .inl (cI, 5, .inl (upd (upd (upd (upd (upd (fun _ => 0) 0 0) 1 0) 2 0) 3 0) 4 0))), (k, .inr (0, [.ref ks, .ref kw, .ref kc, .int (-6), .int 0, .int 0, .ref kq, .ref km, .ref kd, .int 0, .ref ka, .ref kk])), (ks, .inl (cI, 5, .inl (upd (fun _ => 0) 0 800))), (kw, .inl (cI, 14, .inl (fun _ => 0)))] := hD
    refine lv_iinc (v := 5) (lv' := [(2, .int 5), (0, .ref o), (1, .int 11)]) hx hb dX3_countSlots_14 hl (k := 0) rfl (by decide) (by decide) rfl (fun ls hl => ?_)
    refine lv_goto (tgt := 2) hx hb dX3_countSlots_17 (by decide) ?_
    refine lv_iload_n hx hb dX3_countSlots_2 rfl (lv_at hl 0 rfl) ?_
    refine lv_iconst (v := 4) hx hb dX3_countSlots_3 (by decide) ?_
    refine lv_icmp_gt (tgt := 20) hx hb dX3_countSlots_4 (by decide) (fun c358 => ?_) (fun c358 => absurd c358 (by decide))
    refine lv_aload_n hx hb dX3_countSlots_20 rfl (lv_at hl 1 rfl) ?_
    refine va_get (D := (dC, dI)) (ci := 3) (v := .ref k) (C := RX3) (T := TX3) (N := 6) hx hb hts hin3 hown hK hP 0 rfl rfl 0 (by decide) hw1 (fun _ h9 => h9) rfl dX3_countSlots_21 ?_
    refine va_get (D := (dC, dI)) (ci := 0) (v := .ref ks) (C := RX0) (T := TX0) (N := 12) hx hb hts hin0 hown hK hP 2 rfl rfl 0 (by decide) hw2 (fun _ h9 => h9) rfl dX3_countSlots_24 ?_
    refine lv_iconst (v := 4) hx hb dX3_countSlots_27 (by decide) ?_
    refine va_iald hx hb hK hP 3 0 rfl rfl (vin (by decide) (by decide)) dX3_countSlots_28 ?_
    refine lv_topi (fun x359 e359 => ?_)
    obtain rfl : x359 = 0 := e359.trans (by first | rfl | decide)
    refine lv_istore_n (lv' := [(2, .int 0), (0, .ref o), (1, .int 11)]) hx hb dX3_countSlots_29 rfl hl (by decide) rfl (fun ls hl => ?_)
    refine lv_iload_n hx hb dX3_countSlots_30 rfl (lv_at hl 0 rfl) ?_
    refine lv_iload_n hx hb dX3_countSlots_31 rfl (lv_at hl 2 rfl) ?_
    refine lv_icmp_gt (tgt := 59) hx hb dX3_countSlots_32 (by decide) (fun c360 => absurd c360 (by decide)) (fun c360 => ?_)
    refine lv_aload_n hx hb dX3_countSlots_35 rfl (lv_at hl 1 rfl) ?_
    refine va_get (D := (dC, dI)) (ci := 3) (v := .ref os) (C := RX3) (T := TX3) (N := 6) hx hb hts hin3 hown hK hP 0 rfl rfl 5 (by decide) hw0 (fun _ h9 => h9) rfl dX3_countSlots_36 ?_
    refine lv_aload_n hx hb dX3_countSlots_39 rfl (lv_at hl 1 rfl) ?_
    refine va_get (D := (dC, dI)) (ci := 3) (v := .ref k) (C := RX3) (T := TX3) (N := 6) hx hb hts hin3 hown hK hP 0 rfl rfl 0 (by decide) hw1 (fun _ h9 => h9) rfl dX3_countSlots_40 ?_
    refine lv_iload_n hx hb dX3_countSlots_43 rfl (lv_at hl 0 rfl) ?_
    refine lv_iconst (v := 0) hx hb dX3_countSlots_44 (by decide) ?_
    refine mx_i (wr := [(o, .inr (3, [.ref k, .ref op, .int 0, .ref oq, .ref ov, .ref os])), (os, .inl (cI, 5, .inl (upd (upd (upd (upd (upd (fun _ => 0) 0 0) 1 0) 2 0) 3 0) 4 0)))]) (va_runV (As := [.int 0, .int 0]) (rest := [.ref os]) ⟨hx, hb, hml, hown, hts⟩ (c_X0_windOn l dC dI cI cZ cK tS aK aV k ks kw kc kq km kd ka kk 0 H.size (by have z8 : (0 : Int32).toInt = 0 := rfl; first | omega | decide | assumption | trivial)) (cwV 2 hts (gw_v (fun _ h9 => List.mem_cons_of_mem _ h9) wm_169 wm_170 wm_171 wm_10 wm_172) rfl rfl rfl (by decide +kernel) ⟨Nat.le_of_ble_eq_true rfl, Nat.le_of_ble_eq_true rfl⟩) (mx_preV (C := RX0) (T := TX0) (N := 12) (ci := 0) hKx hP hD hS hA [2, 3, 4] (by decide) rfl rfl rfl) rfl rfl hl.1 rfl (lv_room (Nat.le_of_ble_eq_true rfl)) dX3_countSlots_45 ⟨Nat.le_of_ble_eq_true rfl, Nat.le_of_ble_eq_true rfl⟩) hP hD hS hA [2, 3, 4] [0, 1] rfl rfl (by decide) (by decide) (fun r361 u361 H locs hq361 hP hD hS => ?_)
    replace hP : va_P (dC, dI) vwCl [(o, .inr (3, [.ref k, .ref op, .int 0, .ref oq, .ref ov, .ref os])), (os, .inl (cI, 5, .inl (upd (upd (upd (upd (upd (fun _ => 0) 0 0) 1 0) 2 0) 3 0) 4 0))), (k, .inr (0, [.ref ks, .ref kw, .ref kc, .int (-6), .int 0, .int 0, .ref kq, .ref km, .ref kd, .int 0, .ref ka, .ref kk])), (ks, .inl (cI, 5, .inl (upd (fun _ => 0) 0 800))), (kw, .inl (cI, 14, .inl (fun _ => 0)))] H := hP
    replace hD : va_D A [(o, .inr (3, [.ref k, .ref op, .int 0, .ref oq, .ref ov, .ref os])), (os, .inl (cI, 5, .inl (upd (upd (upd (upd (upd (fun _ => 0) 0 0) 1 0) 2 0) 3 0) 4 0))), (k, .inr (0, [.ref ks, .ref kw, .ref kc, .int (-6), .int 0, .int 0, .ref kq, .ref km, .ref kd, .int 0, .ref ka, .ref kk])), (ks, .inl (cI, 5, .inl (upd (fun _ => 0) 0 800))), (kw, .inl (cI, 14, .inl (fun _ => 0)))] := hD
    obtain rfl : r361 = 0 := hq361
    refine lv_dup2_11 hx hb dX3_countSlots_48 rfl rfl ?_
    refine va_iald hx hb hK hP 1 0 rfl rfl (vin (by decide) (by decide)) dX3_countSlots_49 ?_
    refine lv_topi (fun x362 e362 => ?_)
    obtain rfl : x362 = 0 := e362.trans (by first | rfl | decide)
    refine lv_iconst (v := 2) hx hb dX3_countSlots_50 (by decide) ?_
    refine lv_iadd hx hb dX3_countSlots_51 ?_
    refine lv_topi (fun x363 e363 => ?_)
    obtain rfl : x363 = 2 := e363.trans (by decide)
    refine va_iast hx hb hK hP hD hS 1 0 rfl rfl (vin (by decide) (by decide)) dX3_countSlots_52 (fun H locs hP hD hS => ?_)
    replace hP : va_P (dC, dI) vwCl [(o, .inr (3, [.ref k, .ref op, .int 0, .ref oq, .ref ov, .ref os])), (os, .inl (cI, 5, .inl (upd (upd (upd (upd (upd (upd (fun _ => 0) 0 0) 1 0) 2 0) 3 0) 4 0) 0 2))), (k, .inr (0, [.ref ks, .ref kw, .ref kc, .int (-6), .int 0, .int 0, .ref kq, .ref km, .ref kd, .int 0, .ref ka, .ref kk])), (ks, .inl (cI, 5, .inl (upd (fun _ => 0) 0 800))), (kw, .inl (cI, 14, .inl (fun _ => 0)))] H := hP
    replace hD : va_D A [(o, .inr (3, [.ref k, .ref op, .int 0, .ref oq, .ref ov, .ref os])), (os, .inl (cI, 5, .inl (upd (upd (upd (upd (upd (upd (fun _ => 0) 0 0) 1 0) 2 0) 3 0) 4 0) 0 2))), (k, .inr (0, [.ref ks, .ref kw, .ref kc, .int (-6), .int 0, .int 0, .ref kq, .ref km, .ref kd, .int 0, .ref ka, .ref kk])), (ks, .inl (cI, 5, .inl (upd (fun _ => 0) 0 800))), (kw, .inl (cI, 14, .inl (fun _ => 0)))] := hD
    refine lv_iinc (v := 1) (lv' := [(2, .int 1), (0, .ref o), (1, .int 11)]) hx hb dX3_countSlots_53 hl (k := 0) rfl (by decide) (by decide) rfl (fun ls hl => ?_)
    refine lv_goto (tgt := 30) hx hb dX3_countSlots_56 (by decide) ?_
    refine lv_iload_n hx hb dX3_countSlots_30 rfl (lv_at hl 0 rfl) ?_
    refine lv_iload_n hx hb dX3_countSlots_31 rfl (lv_at hl 2 rfl) ?_
    refine lv_icmp_gt (tgt := 59) hx hb dX3_countSlots_32 (by decide) (fun c364 => absurd c364 (by decide)) (fun c364 => ?_)
    refine lv_aload_n hx hb dX3_countSlots_35 rfl (lv_at hl 1 rfl) ?_
    refine va_get (D := (dC, dI)) (ci := 3) (v := .ref os) (C := RX3) (T := TX3) (N := 6) hx hb hts hin3 hown hK hP 0 rfl rfl 5 (by decide) hw0 (fun _ h9 => h9) rfl dX3_countSlots_36 ?_
    refine lv_aload_n hx hb dX3_countSlots_39 rfl (lv_at hl 1 rfl) ?_
    refine va_get (D := (dC, dI)) (ci := 3) (v := .ref k) (C := RX3) (T := TX3) (N := 6) hx hb hts hin3 hown hK hP 0 rfl rfl 0 (by decide) hw1 (fun _ h9 => h9) rfl dX3_countSlots_40 ?_
    refine lv_iload_n hx hb dX3_countSlots_43 rfl (lv_at hl 0 rfl) ?_
    refine lv_iconst (v := 0) hx hb dX3_countSlots_44 (by decide) ?_
    refine mx_i (wr := [(o, .inr (3, [.ref k, .ref op, .int 0, .ref oq, .ref ov, .ref os])), (os, .inl (cI, 5, .inl (upd (upd (upd (upd (upd (upd (fun _ => 0) 0 0) 1 0) 2 0) 3 0) 4 0) 0 2)))]) (va_runV (As := [.int 1, .int 0]) (rest := [.ref os]) ⟨hx, hb, hml, hown, hts⟩ (c_X0_windOn l dC dI cI cZ cK tS aK aV k ks kw kc kq km kd ka kk 1 H.size (by have z8 : (1 : Int32).toInt = 1 := rfl; first | omega | decide | assumption | trivial)) (cwV 2 hts (gw_v (fun _ h9 => List.mem_cons_of_mem _ h9) wm_169 wm_170 wm_171 wm_10 wm_172) rfl rfl rfl (by decide +kernel) ⟨Nat.le_of_ble_eq_true rfl, Nat.le_of_ble_eq_true rfl⟩) (mx_preV (C := RX0) (T := TX0) (N := 12) (ci := 0) hKx hP hD hS hA [2, 3, 4] (by decide) rfl rfl rfl) rfl rfl hl.1 rfl (lv_room (Nat.le_of_ble_eq_true rfl)) dX3_countSlots_45 ⟨Nat.le_of_ble_eq_true rfl, Nat.le_of_ble_eq_true rfl⟩) hP hD hS hA [2, 3, 4] [0, 1] rfl rfl (by decide) (by decide) (fun r365 u365 H locs hq365 hP hD hS => ?_)
    replace hP : va_P (dC, dI) vwCl [(o, .inr (3, [.ref k, .ref op, .int 0, .ref oq, .ref ov, .ref os])), (os, .inl (cI, 5, .inl (upd (upd (upd (upd (upd (upd (fun _ => 0) 0 0) 1 0) 2 0) 3 0) 4 0) 0 2))), (k, .inr (0, [.ref ks, .ref kw, .ref kc, .int (-6), .int 0, .int 0, .ref kq, .ref km, .ref kd, .int 0, .ref ka, .ref kk])), (ks, .inl (cI, 5, .inl (upd (fun _ => 0) 0 800))), (kw, .inl (cI, 14, .inl (fun _ => 0)))] H := hP
    replace hD : va_D A [(o, .inr (3, [.ref k, .ref op, .int 0, .ref oq, .ref ov, .ref os])), (os, .inl (cI, 5, .inl (upd (upd (upd (upd (upd (upd (fun _ => 0) 0 0) 1 0) 2 0) 3 0) 4 0) 0 2))), (k, .inr (0, [.ref ks, .ref kw, .ref kc, .int (-6), .int 0, .int 0, .ref kq, .ref km, .ref kd, .int 0, .ref ka, .ref kk])), (ks, .inl (cI, 5, .inl (upd (fun _ => 0) 0 800))), (kw, .inl (cI, 14, .inl (fun _ => 0)))] := hD
    obtain rfl : r365 = 0 := hq365
    refine lv_dup2_11 hx hb dX3_countSlots_48 rfl rfl ?_
    refine va_iald hx hb hK hP 1 0 rfl rfl (vin (by decide) (by decide)) dX3_countSlots_49 ?_
    refine lv_topi (fun x366 e366 => ?_)
    obtain rfl : x366 = 2 := e366.trans (by first | rfl | decide)
    refine lv_iconst (v := 2) hx hb dX3_countSlots_50 (by decide) ?_
    refine lv_iadd hx hb dX3_countSlots_51 ?_
    refine lv_topi (fun x367 e367 => ?_)
    obtain rfl : x367 = 4 := e367.trans (by decide)
    refine va_iast hx hb hK hP hD hS 1 0 rfl rfl (vin (by decide) (by decide)) dX3_countSlots_52 (fun H locs hP hD hS => ?_)
    replace hP : va_P (dC, dI) vwCl [(o, .inr (3, [.ref k, .ref op, .int 0, .ref oq, .ref ov, .ref os])), (os, .inl (cI, 5, .inl (upd (upd (upd (upd (upd (upd (upd (fun _ => 0) 0 0) 1 0) 2 0) 3 0) 4 0) 0 2) 0 4))), (k, .inr (0, [.ref ks, .ref kw, .ref kc, .int (-6), .int 0, .int 0, .ref kq, .ref km, .ref kd, .int 0, .ref ka, .ref kk])), (ks, .inl (cI, 5, .inl (upd (fun _ => 0) 0 800))), (kw, .inl (cI, 14, .inl (fun _ => 0)))] H := hP
    replace hD : va_D A [(o, .inr (3, [.ref k, .ref op, .int 0, .ref oq, .ref ov, .ref os])), (os, .inl (cI, 5, .inl (upd (upd (upd (upd (upd (upd (upd (fun _ => 0) 0 0) 1 0) 2 0) 3 0) 4 0) 0 2) 0 4))), (k, .inr (0, [.ref ks, .ref kw, .ref kc, .int (-6), .int 0, .int 0, .ref kq, .ref km, .ref kd, .int 0, .ref ka, .ref kk])), (ks, .inl (cI, 5, .inl (upd (fun _ => 0) 0 800))), (kw, .inl (cI, 14, .inl (fun _ => 0)))] := hD
    refine lv_iinc (v := 2) (lv' := [(2, .int 2), (0, .ref o), (1, .int 11)]) hx hb dX3_countSlots_53 hl (k := 0) rfl (by decide) (by decide) rfl (fun ls hl => ?_)
    refine lv_goto (tgt := 30) hx hb dX3_countSlots_56 (by decide) ?_
    refine lv_iload_n hx hb dX3_countSlots_30 rfl (lv_at hl 0 rfl) ?_
    refine lv_iload_n hx hb dX3_countSlots_31 rfl (lv_at hl 2 rfl) ?_
    refine lv_icmp_gt (tgt := 59) hx hb dX3_countSlots_32 (by decide) (fun c368 => absurd c368 (by decide)) (fun c368 => ?_)
    refine lv_aload_n hx hb dX3_countSlots_35 rfl (lv_at hl 1 rfl) ?_
    refine va_get (D := (dC, dI)) (ci := 3) (v := .ref os) (C := RX3) (T := TX3) (N := 6) hx hb hts hin3 hown hK hP 0 rfl rfl 5 (by decide) hw0 (fun _ h9 => h9) rfl dX3_countSlots_36 ?_
    refine lv_aload_n hx hb dX3_countSlots_39 rfl (lv_at hl 1 rfl) ?_
    refine va_get (D := (dC, dI)) (ci := 3) (v := .ref k) (C := RX3) (T := TX3) (N := 6) hx hb hts hin3 hown hK hP 0 rfl rfl 0 (by decide) hw1 (fun _ h9 => h9) rfl dX3_countSlots_40 ?_
    refine lv_iload_n hx hb dX3_countSlots_43 rfl (lv_at hl 0 rfl) ?_
    refine lv_iconst (v := 0) hx hb dX3_countSlots_44 (by decide) ?_
    refine mx_i (wr := [(o, .inr (3, [.ref k, .ref op, .int 0, .ref oq, .ref ov, .ref os])), (os, .inl (cI, 5, .inl (upd (upd (upd (upd (upd (upd (upd (fun _ => 0) 0 0) 1 0) 2 0) 3 0) 4 0) 0 2) 0 4)))]) (va_runV (As := [.int 2, .int 0]) (rest := [.ref os]) ⟨hx, hb, hml, hown, hts⟩ (c_X0_windOn l dC dI cI cZ cK tS aK aV k ks kw kc kq km kd ka kk 2 H.size (by have z8 : (2 : Int32).toInt = 2 := rfl; first | omega | decide | assumption | trivial)) (cwV 2 hts (gw_v (fun _ h9 => List.mem_cons_of_mem _ h9) wm_169 wm_170 wm_171 wm_10 wm_172) rfl rfl rfl (by decide +kernel) ⟨Nat.le_of_ble_eq_true rfl, Nat.le_of_ble_eq_true rfl⟩) (mx_preV (C := RX0) (T := TX0) (N := 12) (ci := 0) hKx hP hD hS hA [2, 3, 4] (by decide) rfl rfl rfl) rfl rfl hl.1 rfl (lv_room (Nat.le_of_ble_eq_true rfl)) dX3_countSlots_45 ⟨Nat.le_of_ble_eq_true rfl, Nat.le_of_ble_eq_true rfl⟩) hP hD hS hA [2, 3, 4] [0, 1] rfl rfl (by decide) (by decide) (fun r369 u369 H locs hq369 hP hD hS => ?_)
    replace hP : va_P (dC, dI) vwCl [(o, .inr (3, [.ref k, .ref op, .int 0, .ref oq, .ref ov, .ref os])), (os, .inl (cI, 5, .inl (upd (upd (upd (upd (upd (upd (upd (fun _ => 0) 0 0) 1 0) 2 0) 3 0) 4 0) 0 2) 0 4))), (k, .inr (0, [.ref ks, .ref kw, .ref kc, .int (-6), .int 0, .int 0, .ref kq, .ref km, .ref kd, .int 0, .ref ka, .ref kk])), (ks, .inl (cI, 5, .inl (upd (fun _ => 0) 0 800))), (kw, .inl (cI, 14, .inl (fun _ => 0)))] H := hP
    replace hD : va_D A [(o, .inr (3, [.ref k, .ref op, .int 0, .ref oq, .ref ov, .ref os])), (os, .inl (cI, 5, .inl (upd (upd (upd (upd (upd (upd (upd (fun _ => 0) 0 0) 1 0) 2 0) 3 0) 4 0) 0 2) 0 4))), (k, .inr (0, [.ref ks, .ref kw, .ref kc, .int (-6), .int 0, .int 0, .ref kq, .ref km, .ref kd, .int 0, .ref ka, .ref kk])), (ks, .inl (cI, 5, .inl (upd (fun _ => 0) 0 800))), (kw, .inl (cI, 14, .inl (fun _ => 0)))] := hD
    obtain rfl : r369 = 0 := hq369
    refine lv_dup2_11 hx hb dX3_countSlots_48 rfl rfl ?_
    refine va_iald hx hb hK hP 1 0 rfl rfl (vin (by decide) (by decide)) dX3_countSlots_49 ?_
    refine lv_topi (fun x370 e370 => ?_)
    obtain rfl : x370 = 4 := e370.trans (by first | rfl | decide)
    refine lv_iconst (v := 2) hx hb dX3_countSlots_50 (by decide) ?_
    refine lv_iadd hx hb dX3_countSlots_51 ?_
    refine lv_topi (fun x371 e371 => ?_)
    obtain rfl : x371 = 6 := e371.trans (by decide)
    refine va_iast hx hb hK hP hD hS 1 0 rfl rfl (vin (by decide) (by decide)) dX3_countSlots_52 (fun H locs hP hD hS => ?_)
    replace hP : va_P (dC, dI) vwCl [(o, .inr (3, [.ref k, .ref op, .int 0, .ref oq, .ref ov, .ref os])), (os, .inl (cI, 5, .inl (upd (upd (upd (upd (upd (upd (upd (upd (fun _ => 0) 0 0) 1 0) 2 0) 3 0) 4 0) 0 2) 0 4) 0 6))), (k, .inr (0, [.ref ks, .ref kw, .ref kc, .int (-6), .int 0, .int 0, .ref kq, .ref km, .ref kd, .int 0, .ref ka, .ref kk])), (ks, .inl (cI, 5, .inl (upd (fun _ => 0) 0 800))), (kw, .inl (cI, 14, .inl (fun _ => 0)))] H := hP
    replace hD : va_D A [(o, .inr (3, [.ref k, .ref op, .int 0, .ref oq, .ref ov, .ref os])), (os, .inl (cI, 5, .inl (upd (upd (upd (upd (upd (upd (upd (upd (fun _ => 0) 0 0) 1 0) 2 0) 3 0) 4 0) 0 2) 0 4) 0 6))), (k, .inr (0, [.ref ks, .ref kw, .ref kc, .int (-6), .int 0, .int 0, .ref kq, .ref km, .ref kd, .int 0, .ref ka, .ref kk])), (ks, .inl (cI, 5, .inl (upd (fun _ => 0) 0 800))), (kw, .inl (cI, 14, .inl (fun _ => 0)))] := hD
    refine lv_iinc (v := 3) (lv' := [(2, .int 3), (0, .ref o), (1, .int 11)]) hx hb dX3_countSlots_53 hl (k := 0) rfl (by decide) (by decide) rfl (fun ls hl => ?_)
    refine lv_goto (tgt := 30) hx hb dX3_countSlots_56 (by decide) ?_
    refine lv_iload_n hx hb dX3_countSlots_30 rfl (lv_at hl 0 rfl) ?_
    refine lv_iload_n hx hb dX3_countSlots_31 rfl (lv_at hl 2 rfl) ?_
    refine lv_icmp_gt (tgt := 59) hx hb dX3_countSlots_32 (by decide) (fun c372 => absurd c372 (by decide)) (fun c372 => ?_)
    refine lv_aload_n hx hb dX3_countSlots_35 rfl (lv_at hl 1 rfl) ?_
    refine va_get (D := (dC, dI)) (ci := 3) (v := .ref os) (C := RX3) (T := TX3) (N := 6) hx hb hts hin3 hown hK hP 0 rfl rfl 5 (by decide) hw0 (fun _ h9 => h9) rfl dX3_countSlots_36 ?_
    refine lv_aload_n hx hb dX3_countSlots_39 rfl (lv_at hl 1 rfl) ?_
    refine va_get (D := (dC, dI)) (ci := 3) (v := .ref k) (C := RX3) (T := TX3) (N := 6) hx hb hts hin3 hown hK hP 0 rfl rfl 0 (by decide) hw1 (fun _ h9 => h9) rfl dX3_countSlots_40 ?_
    refine lv_iload_n hx hb dX3_countSlots_43 rfl (lv_at hl 0 rfl) ?_
    refine lv_iconst (v := 0) hx hb dX3_countSlots_44 (by decide) ?_
    refine mx_i (wr := [(o, .inr (3, [.ref k, .ref op, .int 0, .ref oq, .ref ov, .ref os])), (os, .inl (cI, 5, .inl (upd (upd (upd (upd (upd (upd (upd (upd (fun _ => 0) 0 0) 1 0) 2 0) 3 0) 4 0) 0 2) 0 4) 0 6)))]) (va_runV (As := [.int 3, .int 0]) (rest := [.ref os]) ⟨hx, hb, hml, hown, hts⟩ (c_X0_windOn l dC dI cI cZ cK tS aK aV k ks kw kc kq km kd ka kk 3 H.size (by have z8 : (3 : Int32).toInt = 3 := rfl; first | omega | decide | assumption | trivial)) (cwV 2 hts (gw_v (fun _ h9 => List.mem_cons_of_mem _ h9) wm_169 wm_170 wm_171 wm_10 wm_172) rfl rfl rfl (by decide +kernel) ⟨Nat.le_of_ble_eq_true rfl, Nat.le_of_ble_eq_true rfl⟩) (mx_preV (C := RX0) (T := TX0) (N := 12) (ci := 0) hKx hP hD hS hA [2, 3, 4] (by decide) rfl rfl rfl) rfl rfl hl.1 rfl (lv_room (Nat.le_of_ble_eq_true rfl)) dX3_countSlots_45 ⟨Nat.le_of_ble_eq_true rfl, Nat.le_of_ble_eq_true rfl⟩) hP hD hS hA [2, 3, 4] [0, 1] rfl rfl (by decide) (by decide) (fun r373 u373 H locs hq373 hP hD hS => ?_)
    replace hP : va_P (dC, dI) vwCl [(o, .inr (3, [.ref k, .ref op, .int 0, .ref oq, .ref ov, .ref os])), (os, .inl (cI, 5, .inl (upd (upd (upd (upd (upd (upd (upd (upd (fun _ => 0) 0 0) 1 0) 2 0) 3 0) 4 0) 0 2) 0 4) 0 6))), (k, .inr (0, [.ref ks, .ref kw, .ref kc, .int (-6), .int 0, .int 0, .ref kq, .ref km, .ref kd, .int 0, .ref ka, .ref kk])), (ks, .inl (cI, 5, .inl (upd (fun _ => 0) 0 800))), (kw, .inl (cI, 14, .inl (fun _ => 0)))] H := hP
    replace hD : va_D A [(o, .inr (3, [.ref k, .ref op, .int 0, .ref oq, .ref ov, .ref os])), (os, .inl (cI, 5, .inl (upd (upd (upd (upd (upd (upd (upd (upd (fun _ => 0) 0 0) 1 0) 2 0) 3 0) 4 0) 0 2) 0 4) 0 6))), (k, .inr (0, [.ref ks, .ref kw, .ref kc, .int (-6), .int 0, .int 0, .ref kq, .ref km, .ref kd, .int 0, .ref ka, .ref kk])), (ks, .inl (cI, 5, .inl (upd (fun _ => 0) 0 800))), (kw, .inl (cI, 14, .inl (fun _ => 0)))] := hD
    obtain rfl : r373 = 0 := hq373
    refine lv_dup2_11 hx hb dX3_countSlots_48 rfl rfl ?_
    refine va_iald hx hb hK hP 1 0 rfl rfl (vin (by decide) (by decide)) dX3_countSlots_49 ?_
    refine lv_topi (fun x374 e374 => ?_)
    obtain rfl : x374 = 6 := e374.trans (by first | rfl | decide)
    refine lv_iconst (v := 2) hx hb dX3_countSlots_50 (by decide) ?_
    refine lv_iadd hx hb dX3_countSlots_51 ?_
    refine lv_topi (fun x375 e375 => ?_)
    obtain rfl : x375 = 8 := e375.trans (by decide)
    refine va_iast hx hb hK hP hD hS 1 0 rfl rfl (vin (by decide) (by decide)) dX3_countSlots_52 (fun H locs hP hD hS => ?_)
    replace hP : va_P (dC, dI) vwCl [(o, .inr (3, [.ref k, .ref op, .int 0, .ref oq, .ref ov, .ref os])), (os, .inl (cI, 5, .inl (upd (upd (upd (upd (upd (upd (upd (upd (upd (fun _ => 0) 0 0) 1 0) 2 0) 3 0) 4 0) 0 2) 0 4) 0 6) 0 8))), (k, .inr (0, [.ref ks, .ref kw, .ref kc, .int (-6), .int 0, .int 0, .ref kq, .ref km, .ref kd, .int 0, .ref ka, .ref kk])), (ks, .inl (cI, 5, .inl (upd (fun _ => 0) 0 800))), (kw, .inl (cI, 14, .inl (fun _ => 0)))] H := hP
    replace hD : va_D A [(o, .inr (3, [.ref k, .ref op, .int 0, .ref oq, .ref ov, .ref os])), (os, .inl (cI, 5, .inl (upd (upd (upd (upd (upd (upd (upd (upd (upd (fun _ => 0) 0 0) 1 0) 2 0) 3 0) 4 0) 0 2) 0 4) 0 6) 0 8))), (k, .inr (0, [.ref ks, .ref kw, .ref kc, .int (-6), .int 0, .int 0, .ref kq, .ref km, .ref kd, .int 0, .ref ka, .ref kk])), (ks, .inl (cI, 5, .inl (upd (fun _ => 0) 0 800))), (kw, .inl (cI, 14, .inl (fun _ => 0)))] := hD
    refine lv_iinc (v := 4) (lv' := [(2, .int 4), (0, .ref o), (1, .int 11)]) hx hb dX3_countSlots_53 hl (k := 0) rfl (by decide) (by decide) rfl (fun ls hl => ?_)
    refine lv_goto (tgt := 30) hx hb dX3_countSlots_56 (by decide) ?_
    refine lv_iload_n hx hb dX3_countSlots_30 rfl (lv_at hl 0 rfl) ?_
    refine lv_iload_n hx hb dX3_countSlots_31 rfl (lv_at hl 2 rfl) ?_
    refine lv_icmp_gt (tgt := 59) hx hb dX3_countSlots_32 (by decide) (fun c376 => absurd c376 (by decide)) (fun c376 => ?_)
    refine lv_aload_n hx hb dX3_countSlots_35 rfl (lv_at hl 1 rfl) ?_
    refine va_get (D := (dC, dI)) (ci := 3) (v := .ref os) (C := RX3) (T := TX3) (N := 6) hx hb hts hin3 hown hK hP 0 rfl rfl 5 (by decide) hw0 (fun _ h9 => h9) rfl dX3_countSlots_36 ?_
    refine lv_aload_n hx hb dX3_countSlots_39 rfl (lv_at hl 1 rfl) ?_
    refine va_get (D := (dC, dI)) (ci := 3) (v := .ref k) (C := RX3) (T := TX3) (N := 6) hx hb hts hin3 hown hK hP 0 rfl rfl 0 (by decide) hw1 (fun _ h9 => h9) rfl dX3_countSlots_40 ?_
    refine lv_iload_n hx hb dX3_countSlots_43 rfl (lv_at hl 0 rfl) ?_
    refine lv_iconst (v := 0) hx hb dX3_countSlots_44 (by decide) ?_
    refine mx_i (wr := [(o, .inr (3, [.ref k, .ref op, .int 0, .ref oq, .ref ov, .ref os])), (os, .inl (cI, 5, .inl (upd (upd (upd (upd (upd (upd (upd (upd (upd (fun _ => 0) 0 0) 1 0) 2 0) 3 0) 4 0) 0 2) 0 4) 0 6) 0 8)))]) (va_runV (As := [.int 4, .int 0]) (rest := [.ref os]) ⟨hx, hb, hml, hown, hts⟩ (c_X0_windOn l dC dI cI cZ cK tS aK aV k ks kw kc kq km kd ka kk 4 H.size (by have z8 : (4 : Int32).toInt = 4 := rfl; first | omega | decide | assumption | trivial)) (cwV 2 hts (gw_v (fun _ h9 => List.mem_cons_of_mem _ h9) wm_169 wm_170 wm_171 wm_10 wm_172) rfl rfl rfl (by decide +kernel) ⟨Nat.le_of_ble_eq_true rfl, Nat.le_of_ble_eq_true rfl⟩) (mx_preV (C := RX0) (T := TX0) (N := 12) (ci := 0) hKx hP hD hS hA [2, 3, 4] (by decide) rfl rfl rfl) rfl rfl hl.1 rfl (lv_room (Nat.le_of_ble_eq_true rfl)) dX3_countSlots_45 ⟨Nat.le_of_ble_eq_true rfl, Nat.le_of_ble_eq_true rfl⟩) hP hD hS hA [2, 3, 4] [0, 1] rfl rfl (by decide) (by decide) (fun r377 u377 H locs hq377 hP hD hS => ?_)
    replace hP : va_P (dC, dI) vwCl [(o, .inr (3, [.ref k, .ref op, .int 0, .ref oq, .ref ov, .ref os])), (os, .inl (cI, 5, .inl (upd (upd (upd (upd (upd (upd (upd (upd (upd (fun _ => 0) 0 0) 1 0) 2 0) 3 0) 4 0) 0 2) 0 4) 0 6) 0 8))), (k, .inr (0, [.ref ks, .ref kw, .ref kc, .int (-6), .int 0, .int 0, .ref kq, .ref km, .ref kd, .int 0, .ref ka, .ref kk])), (ks, .inl (cI, 5, .inl (upd (fun _ => 0) 0 800))), (kw, .inl (cI, 14, .inl (fun _ => 0)))] H := hP
    replace hD : va_D A [(o, .inr (3, [.ref k, .ref op, .int 0, .ref oq, .ref ov, .ref os])), (os, .inl (cI, 5, .inl (upd (upd (upd (upd (upd (upd (upd (upd (upd (fun _ => 0) 0 0) 1 0) 2 0) 3 0) 4 0) 0 2) 0 4) 0 6) 0 8))), (k, .inr (0, [.ref ks, .ref kw, .ref kc, .int (-6), .int 0, .int 0, .ref kq, .ref km, .ref kd, .int 0, .ref ka, .ref kk])), (ks, .inl (cI, 5, .inl (upd (fun _ => 0) 0 800))), (kw, .inl (cI, 14, .inl (fun _ => 0)))] := hD
    obtain rfl : r377 = 0 := hq377
    refine lv_dup2_11 hx hb dX3_countSlots_48 rfl rfl ?_
    refine va_iald hx hb hK hP 1 0 rfl rfl (vin (by decide) (by decide)) dX3_countSlots_49 ?_
    refine lv_topi (fun x378 e378 => ?_)
    obtain rfl : x378 = 8 := e378.trans (by first | rfl | decide)
    refine lv_iconst (v := 2) hx hb dX3_countSlots_50 (by decide) ?_
    refine lv_iadd hx hb dX3_countSlots_51 ?_
    refine lv_topi (fun x379 e379 => ?_)
    obtain rfl : x379 = 10 := e379.trans (by decide)
    refine va_iast hx hb hK hP hD hS 1 0 rfl rfl (vin (by decide) (by decide)) dX3_countSlots_52 (fun H locs hP hD hS => ?_)
    replace hP : va_P (dC, dI) vwCl [(o, .inr (3, [.ref k, .ref op, .int 0, .ref oq, .ref ov, .ref os])), (os, .inl (cI, 5, .inl (upd (upd (upd (upd (upd (upd (upd (upd (upd (upd (fun _ => 0) 0 0) 1 0) 2 0) 3 0) 4 0) 0 2) 0 4) 0 6) 0 8) 0 10))), (k, .inr (0, [.ref ks, .ref kw, .ref kc, .int (-6), .int 0, .int 0, .ref kq, .ref km, .ref kd, .int 0, .ref ka, .ref kk])), (ks, .inl (cI, 5, .inl (upd (fun _ => 0) 0 800))), (kw, .inl (cI, 14, .inl (fun _ => 0)))] H := hP
    replace hD : va_D A [(o, .inr (3, [.ref k, .ref op, .int 0, .ref oq, .ref ov, .ref os])), (os, .inl (cI, 5, .inl (upd (upd (upd (upd (upd (upd (upd (upd (upd (upd (fun _ => 0) 0 0) 1 0) 2 0) 3 0) 4 0) 0 2) 0 4) 0 6) 0 8) 0 10))), (k, .inr (0, [.ref ks, .ref kw, .ref kc, .int (-6), .int 0, .int 0, .ref kq, .ref km, .ref kd, .int 0, .ref ka, .ref kk])), (ks, .inl (cI, 5, .inl (upd (fun _ => 0) 0 800))), (kw, .inl (cI, 14, .inl (fun _ => 0)))] := hD
    refine lv_iinc (v := 5) (lv' := [(2, .int 5), (0, .ref o), (1, .int 11)]) hx hb dX3_countSlots_53 hl (k := 0) rfl (by decide) (by decide) rfl (fun ls hl => ?_)
    refine lv_goto (tgt := 30) hx hb dX3_countSlots_56 (by decide) ?_
    refine lv_iload_n hx hb dX3_countSlots_30 rfl (lv_at hl 0 rfl) ?_
    refine lv_iload_n hx hb dX3_countSlots_31 rfl (lv_at hl 2 rfl) ?_
    refine lv_icmp_gt (tgt := 59) hx hb dX3_countSlots_32 (by decide) (fun c380 => absurd c380 (by decide)) (fun c380 => ?_)
    refine lv_aload_n hx hb dX3_countSlots_35 rfl (lv_at hl 1 rfl) ?_
    refine va_get (D := (dC, dI)) (ci := 3) (v := .ref os) (C := RX3) (T := TX3) (N := 6) hx hb hts hin3 hown hK hP 0 rfl rfl 5 (by decide) hw0 (fun _ h9 => h9) rfl dX3_countSlots_36 ?_
    refine lv_aload_n hx hb dX3_countSlots_39 rfl (lv_at hl 1 rfl) ?_
    refine va_get (D := (dC, dI)) (ci := 3) (v := .ref k) (C := RX3) (T := TX3) (N := 6) hx hb hts hin3 hown hK hP 0 rfl rfl 0 (by decide) hw1 (fun _ h9 => h9) rfl dX3_countSlots_40 ?_
    refine lv_iload_n hx hb dX3_countSlots_43 rfl (lv_at hl 0 rfl) ?_
    refine lv_iconst (v := 0) hx hb dX3_countSlots_44 (by decide) ?_
    refine mx_i (wr := [(o, .inr (3, [.ref k, .ref op, .int 0, .ref oq, .ref ov, .ref os])), (os, .inl (cI, 5, .inl (upd (upd (upd (upd (upd (upd (upd (upd (upd (upd (fun _ => 0) 0 0) 1 0) 2 0) 3 0) 4 0) 0 2) 0 4) 0 6) 0 8) 0 10)))]) (va_runV (As := [.int 5, .int 0]) (rest := [.ref os]) ⟨hx, hb, hml, hown, hts⟩ (c_X0_windOn l dC dI cI cZ cK tS aK aV k ks kw kc kq km kd ka kk 5 H.size (by have z8 : (5 : Int32).toInt = 5 := rfl; first | omega | decide | assumption | trivial)) (cwV 2 hts (gw_v (fun _ h9 => List.mem_cons_of_mem _ h9) wm_169 wm_170 wm_171 wm_10 wm_172) rfl rfl rfl (by decide +kernel) ⟨Nat.le_of_ble_eq_true rfl, Nat.le_of_ble_eq_true rfl⟩) (mx_preV (C := RX0) (T := TX0) (N := 12) (ci := 0) hKx hP hD hS hA [2, 3, 4] (by decide) rfl rfl rfl) rfl rfl hl.1 rfl (lv_room (Nat.le_of_ble_eq_true rfl)) dX3_countSlots_45 ⟨Nat.le_of_ble_eq_true rfl, Nat.le_of_ble_eq_true rfl⟩) hP hD hS hA [2, 3, 4] [0, 1] rfl rfl (by decide) (by decide) (fun r381 u381 H locs hq381 hP hD hS => ?_)
    replace hP : va_P (dC, dI) vwCl [(o, .inr (3, [.ref k, .ref op, .int 0, .ref oq, .ref ov, .ref os])), (os, .inl (cI, 5, .inl (upd (upd (upd (upd (upd (upd (upd (upd (upd (upd (fun _ => 0) 0 0) 1 0) 2 0) 3 0) 4 0) 0 2) 0 4) 0 6) 0 8) 0 10))), (k, .inr (0, [.ref ks, .ref kw, .ref kc, .int (-6), .int 0, .int 0, .ref kq, .ref km, .ref kd, .int 0, .ref ka, .ref kk])), (ks, .inl (cI, 5, .inl (upd (fun _ => 0) 0 800))), (kw, .inl (cI, 14, .inl (fun _ => 0)))] H := hP
    replace hD : va_D A [(o, .inr (3, [.ref k, .ref op, .int 0, .ref oq, .ref ov, .ref os])), (os, .inl (cI, 5, .inl (upd (upd (upd (upd (upd (upd (upd (upd (upd (upd (fun _ => 0) 0 0) 1 0) 2 0) 3 0) 4 0) 0 2) 0 4) 0 6) 0 8) 0 10))), (k, .inr (0, [.ref ks, .ref kw, .ref kc, .int (-6), .int 0, .int 0, .ref kq, .ref km, .ref kd, .int 0, .ref ka, .ref kk])), (ks, .inl (cI, 5, .inl (upd (fun _ => 0) 0 800))), (kw, .inl (cI, 14, .inl (fun _ => 0)))] := hD
    obtain rfl : r381 = 0 := hq381
    refine lv_dup2_11 hx hb dX3_countSlots_48 rfl rfl ?_
    refine va_iald hx hb hK hP 1 0 rfl rfl (vin (by decide) (by decide)) dX3_countSlots_49 ?_
    refine lv_topi (fun x382 e382 => ?_)
    obtain rfl : x382 = 10 := e382.trans (by first | rfl | decide)
    refine lv_iconst (v := 2) hx hb dX3_countSlots_50 (by decide) ?_
    refine lv_iadd hx hb dX3_countSlots_51 ?_
    refine lv_topi (fun x383 e383 => ?_)
    obtain rfl : x383 = 12 := e383.trans (by decide)
    refine va_iast hx hb hK hP hD hS 1 0 rfl rfl (vin (by decide) (by decide)) dX3_countSlots_52 (fun H locs hP hD hS => ?_)
    replace hP : va_P (dC, dI) vwCl [(o, .inr (3, [.ref k, .ref op, .int 0, .ref oq, .ref ov, .ref os])), (os, .inl (cI, 5, .inl (upd (upd (upd (upd (upd (upd (upd (upd (upd (upd (upd (fun _ => 0) 0 0) 1 0) 2 0) 3 0) 4 0) 0 2) 0 4) 0 6) 0 8) 0 10) 0 12))), (k, .inr (0, [.ref ks, .ref kw, .ref kc, .int (-6), .int 0, .int 0, .ref kq, .ref km, .ref kd, .int 0, .ref ka, .ref kk])), (ks, .inl (cI, 5, .inl (upd (fun _ => 0) 0 800))), (kw, .inl (cI, 14, .inl (fun _ => 0)))] H := hP
    replace hD : va_D A [(o, .inr (3, [.ref k, .ref op, .int 0, .ref oq, .ref ov, .ref os])), (os, .inl (cI, 5, .inl (upd (upd (upd (upd (upd (upd (upd (upd (upd (upd (upd (fun _ => 0) 0 0) 1 0) 2 0) 3 0) 4 0) 0 2) 0 4) 0 6) 0 8) 0 10) 0 12))), (k, .inr (0, [.ref ks, .ref kw, .ref kc, .int (-6), .int 0, .int 0, .ref kq, .ref km, .ref kd, .int 0, .ref ka, .ref kk])), (ks, .inl (cI, 5, .inl (upd (fun _ => 0) 0 800))), (kw, .inl (cI, 14, .inl (fun _ => 0)))] := hD
    refine lv_iinc (v := 6) (lv' := [(2, .int 6), (0, .ref o), (1, .int 11)]) hx hb dX3_countSlots_53 hl (k := 0) rfl (by decide) (by decide) rfl (fun ls hl => ?_)
    refine lv_goto (tgt := 30) hx hb dX3_countSlots_56 (by decide) ?_
    refine lv_iload_n hx hb dX3_countSlots_30 rfl (lv_at hl 0 rfl) ?_
    refine lv_iload_n hx hb dX3_countSlots_31 rfl (lv_at hl 2 rfl) ?_
    refine lv_icmp_gt (tgt := 59) hx hb dX3_countSlots_32 (by decide) (fun c384 => absurd c384 (by decide)) (fun c384 => ?_)
    refine lv_aload_n hx hb dX3_countSlots_35 rfl (lv_at hl 1 rfl) ?_
    refine va_get (D := (dC, dI)) (ci := 3) (v := .ref os) (C := RX3) (T := TX3) (N := 6) hx hb hts hin3 hown hK hP 0 rfl rfl 5 (by decide) hw0 (fun _ h9 => h9) rfl dX3_countSlots_36 ?_
    refine lv_aload_n hx hb dX3_countSlots_39 rfl (lv_at hl 1 rfl) ?_
    refine va_get (D := (dC, dI)) (ci := 3) (v := .ref k) (C := RX3) (T := TX3) (N := 6) hx hb hts hin3 hown hK hP 0 rfl rfl 0 (by decide) hw1 (fun _ h9 => h9) rfl dX3_countSlots_40 ?_
    refine lv_iload_n hx hb dX3_countSlots_43 rfl (lv_at hl 0 rfl) ?_
    refine lv_iconst (v := 0) hx hb dX3_countSlots_44 (by decide) ?_
    refine mx_i (wr := [(o, .inr (3, [.ref k, .ref op, .int 0, .ref oq, .ref ov, .ref os])), (os, .inl (cI, 5, .inl (upd (upd (upd (upd (upd (upd (upd (upd (upd (upd (upd (fun _ => 0) 0 0) 1 0) 2 0) 3 0) 4 0) 0 2) 0 4) 0 6) 0 8) 0 10) 0 12)))]) (va_runV (As := [.int 6, .int 0]) (rest := [.ref os]) ⟨hx, hb, hml, hown, hts⟩ (c_X0_windOn l dC dI cI cZ cK tS aK aV k ks kw kc kq km kd ka kk 6 H.size (by have z8 : (6 : Int32).toInt = 6 := rfl; first | omega | decide | assumption | trivial)) (cwV 2 hts (gw_v (fun _ h9 => List.mem_cons_of_mem _ h9) wm_169 wm_170 wm_171 wm_10 wm_172) rfl rfl rfl (by decide +kernel) ⟨Nat.le_of_ble_eq_true rfl, Nat.le_of_ble_eq_true rfl⟩) (mx_preV (C := RX0) (T := TX0) (N := 12) (ci := 0) hKx hP hD hS hA [2, 3, 4] (by decide) rfl rfl rfl) rfl rfl hl.1 rfl (lv_room (Nat.le_of_ble_eq_true rfl)) dX3_countSlots_45 ⟨Nat.le_of_ble_eq_true rfl, Nat.le_of_ble_eq_true rfl⟩) hP hD hS hA [2, 3, 4] [0, 1] rfl rfl (by decide) (by decide) (fun r385 u385 H locs hq385 hP hD hS => ?_)
    replace hP : va_P (dC, dI) vwCl [(o, .inr (3, [.ref k, .ref op, .int 0, .ref oq, .ref ov, .ref os])), (os, .inl (cI, 5, .inl (upd (upd (upd (upd (upd (upd (upd (upd (upd (upd (upd (fun _ => 0) 0 0) 1 0) 2 0) 3 0) 4 0) 0 2) 0 4) 0 6) 0 8) 0 10) 0 12))), (k, .inr (0, [.ref ks, .ref kw, .ref kc, .int (-6), .int 0, .int 0, .ref kq, .ref km, .ref kd, .int 0, .ref ka, .ref kk])), (ks, .inl (cI, 5, .inl (upd (fun _ => 0) 0 800))), (kw, .inl (cI, 14, .inl (fun _ => 0)))] H := hP
    replace hD : va_D A [(o, .inr (3, [.ref k, .ref op, .int 0, .ref oq, .ref ov, .ref os])), (os, .inl (cI, 5, .inl (upd (upd (upd (upd (upd (upd (upd (upd (upd (upd (upd (fun _ => 0) 0 0) 1 0) 2 0) 3 0) 4 0) 0 2) 0 4) 0 6) 0 8) 0 10) 0 12))), (k, .inr (0, [.ref ks, .ref kw, .ref kc, .int (-6), .int 0, .int 0, .ref kq, .ref km, .ref kd, .int 0, .ref ka, .ref kk])), (ks, .inl (cI, 5, .inl (upd (fun _ => 0) 0 800))), (kw, .inl (cI, 14, .inl (fun _ => 0)))] := hD
    obtain rfl : r385 = 0 := hq385
    refine lv_dup2_11 hx hb dX3_countSlots_48 rfl rfl ?_
    refine va_iald hx hb hK hP 1 0 rfl rfl (vin (by decide) (by decide)) dX3_countSlots_49 ?_
    refine lv_topi (fun x386 e386 => ?_)
    obtain rfl : x386 = 12 := e386.trans (by first | rfl | decide)
    refine lv_iconst (v := 2) hx hb dX3_countSlots_50 (by decide) ?_
    refine lv_iadd hx hb dX3_countSlots_51 ?_
    refine lv_topi (fun x387 e387 => ?_)
    obtain rfl : x387 = 14 := e387.trans (by decide)
    refine va_iast hx hb hK hP hD hS 1 0 rfl rfl (vin (by decide) (by decide)) dX3_countSlots_52 (fun H locs hP hD hS => ?_)
    replace hP : va_P (dC, dI) vwCl [(o, .inr (3, [.ref k, .ref op, .int 0, .ref oq, .ref ov, .ref os])), (os, .inl (cI, 5, .inl (upd (upd (upd (upd (upd (upd (upd (upd (upd (upd (upd (upd (fun _ => 0) 0 0) 1 0) 2 0) 3 0) 4 0) 0 2) 0 4) 0 6) 0 8) 0 10) 0 12) 0 14))), (k, .inr (0, [.ref ks, .ref kw, .ref kc, .int (-6), .int 0, .int 0, .ref kq, .ref km, .ref kd, .int 0, .ref ka, .ref kk])), (ks, .inl (cI, 5, .inl (upd (fun _ => 0) 0 800))), (kw, .inl (cI, 14, .inl (fun _ => 0)))] H := hP
    replace hD : va_D A [(o, .inr (3, [.ref k, .ref op, .int 0, .ref oq, .ref ov, .ref os])), (os, .inl (cI, 5, .inl (upd (upd (upd (upd (upd (upd (upd (upd (upd (upd (upd (upd (fun _ => 0) 0 0) 1 0) 2 0) 3 0) 4 0) 0 2) 0 4) 0 6) 0 8) 0 10) 0 12) 0 14))), (k, .inr (0, [.ref ks, .ref kw, .ref kc, .int (-6), .int 0, .int 0, .ref kq, .ref km, .ref kd, .int 0, .ref ka, .ref kk])), (ks, .inl (cI, 5, .inl (upd (fun _ => 0) 0 800))), (kw, .inl (cI, 14, .inl (fun _ => 0)))] := hD
    refine lv_iinc (v := 7) (lv' := [(2, .int 7), (0, .ref o), (1, .int 11)]) hx hb dX3_countSlots_53 hl (k := 0) rfl (by decide) (by decide) rfl (fun ls hl => ?_)
    refine lv_goto (tgt := 30) hx hb dX3_countSlots_56 (by decide) ?_
    refine lv_iload_n hx hb dX3_countSlots_30 rfl (lv_at hl 0 rfl) ?_
    refine lv_iload_n hx hb dX3_countSlots_31 rfl (lv_at hl 2 rfl) ?_
    refine lv_icmp_gt (tgt := 59) hx hb dX3_countSlots_32 (by decide) (fun c388 => absurd c388 (by decide)) (fun c388 => ?_)
    refine lv_aload_n hx hb dX3_countSlots_35 rfl (lv_at hl 1 rfl) ?_
    refine va_get (D := (dC, dI)) (ci := 3) (v := .ref os) (C := RX3) (T := TX3) (N := 6) hx hb hts hin3 hown hK hP 0 rfl rfl 5 (by decide) hw0 (fun _ h9 => h9) rfl dX3_countSlots_36 ?_
    refine lv_aload_n hx hb dX3_countSlots_39 rfl (lv_at hl 1 rfl) ?_
    refine va_get (D := (dC, dI)) (ci := 3) (v := .ref k) (C := RX3) (T := TX3) (N := 6) hx hb hts hin3 hown hK hP 0 rfl rfl 0 (by decide) hw1 (fun _ h9 => h9) rfl dX3_countSlots_40 ?_
    refine lv_iload_n hx hb dX3_countSlots_43 rfl (lv_at hl 0 rfl) ?_
    refine lv_iconst (v := 0) hx hb dX3_countSlots_44 (by decide) ?_
    refine mx_i (wr := [(o, .inr (3, [.ref k, .ref op, .int 0, .ref oq, .ref ov, .ref os])), (os, .inl (cI, 5, .inl (upd (upd (upd (upd (upd (upd (upd (upd (upd (upd (upd (upd (fun _ => 0) 0 0) 1 0) 2 0) 3 0) 4 0) 0 2) 0 4) 0 6) 0 8) 0 10) 0 12) 0 14)))]) (va_runV (As := [.int 7, .int 0]) (rest := [.ref os]) ⟨hx, hb, hml, hown, hts⟩ (c_X0_windOn l dC dI cI cZ cK tS aK aV k ks kw kc kq km kd ka kk 7 H.size (by have z8 : (7 : Int32).toInt = 7 := rfl; first | omega | decide | assumption | trivial)) (cwV 2 hts (gw_v (fun _ h9 => List.mem_cons_of_mem _ h9) wm_169 wm_170 wm_171 wm_10 wm_172) rfl rfl rfl (by decide +kernel) ⟨Nat.le_of_ble_eq_true rfl, Nat.le_of_ble_eq_true rfl⟩) (mx_preV (C := RX0) (T := TX0) (N := 12) (ci := 0) hKx hP hD hS hA [2, 3, 4] (by decide) rfl rfl rfl) rfl rfl hl.1 rfl (lv_room (Nat.le_of_ble_eq_true rfl)) dX3_countSlots_45 ⟨Nat.le_of_ble_eq_true rfl, Nat.le_of_ble_eq_true rfl⟩) hP hD hS hA [2, 3, 4] [0, 1] rfl rfl (by decide) (by decide) (fun r389 u389 H locs hq389 hP hD hS => ?_)
    replace hP : va_P (dC, dI) vwCl [(o, .inr (3, [.ref k, .ref op, .int 0, .ref oq, .ref ov, .ref os])), (os, .inl (cI, 5, .inl (upd (upd (upd (upd (upd (upd (upd (upd (upd (upd (upd (upd (fun _ => 0) 0 0) 1 0) 2 0) 3 0) 4 0) 0 2) 0 4) 0 6) 0 8) 0 10) 0 12) 0 14))), (k, .inr (0, [.ref ks, .ref kw, .ref kc, .int (-6), .int 0, .int 0, .ref kq, .ref km, .ref kd, .int 0, .ref ka, .ref kk])), (ks, .inl (cI, 5, .inl (upd (fun _ => 0) 0 800))), (kw, .inl (cI, 14, .inl (fun _ => 0)))] H := hP
    replace hD : va_D A [(o, .inr (3, [.ref k, .ref op, .int 0, .ref oq, .ref ov, .ref os])), (os, .inl (cI, 5, .inl (upd (upd (upd (upd (upd (upd (upd (upd (upd (upd (upd (upd (fun _ => 0) 0 0) 1 0) 2 0) 3 0) 4 0) 0 2) 0 4) 0 6) 0 8) 0 10) 0 12) 0 14))), (k, .inr (0, [.ref ks, .ref kw, .ref kc, .int (-6), .int 0, .int 0, .ref kq, .ref km, .ref kd, .int 0, .ref ka, .ref kk])), (ks, .inl (cI, 5, .inl (upd (fun _ => 0) 0 800))), (kw, .inl (cI, 14, .inl (fun _ => 0)))] := hD
    obtain rfl : r389 = 0 := hq389
    refine lv_dup2_11 hx hb dX3_countSlots_48 rfl rfl ?_
    refine va_iald hx hb hK hP 1 0 rfl rfl (vin (by decide) (by decide)) dX3_countSlots_49 ?_
    refine lv_topi (fun x390 e390 => ?_)
    obtain rfl : x390 = 14 := e390.trans (by first | rfl | decide)
    refine lv_iconst (v := 2) hx hb dX3_countSlots_50 (by decide) ?_
    refine lv_iadd hx hb dX3_countSlots_51 ?_
    refine lv_topi (fun x391 e391 => ?_)
    obtain rfl : x391 = 16 := e391.trans (by decide)
    refine va_iast hx hb hK hP hD hS 1 0 rfl rfl (vin (by decide) (by decide)) dX3_countSlots_52 (fun H locs hP hD hS => ?_)
    replace hP : va_P (dC, dI) vwCl [(o, .inr (3, [.ref k, .ref op, .int 0, .ref oq, .ref ov, .ref os])), (os, .inl (cI, 5, .inl (upd (upd (upd (upd (upd (upd (upd (upd (upd (upd (upd (upd (upd (fun _ => 0) 0 0) 1 0) 2 0) 3 0) 4 0) 0 2) 0 4) 0 6) 0 8) 0 10) 0 12) 0 14) 0 16))), (k, .inr (0, [.ref ks, .ref kw, .ref kc, .int (-6), .int 0, .int 0, .ref kq, .ref km, .ref kd, .int 0, .ref ka, .ref kk])), (ks, .inl (cI, 5, .inl (upd (fun _ => 0) 0 800))), (kw, .inl (cI, 14, .inl (fun _ => 0)))] H := hP
    replace hD : va_D A [(o, .inr (3, [.ref k, .ref op, .int 0, .ref oq, .ref ov, .ref os])), (os, .inl (cI, 5, .inl (upd (upd (upd (upd (upd (upd (upd (upd (upd (upd (upd (upd (upd (fun _ => 0) 0 0) 1 0) 2 0) 3 0) 4 0) 0 2) 0 4) 0 6) 0 8) 0 10) 0 12) 0 14) 0 16))), (k, .inr (0, [.ref ks, .ref kw, .ref kc, .int (-6), .int 0, .int 0, .ref kq, .ref km, .ref kd, .int 0, .ref ka, .ref kk])), (ks, .inl (cI, 5, .inl (upd (fun _ => 0) 0 800))), (kw, .inl (cI, 14, .inl (fun _ => 0)))] := hD
    refine lv_iinc (v := 8) (lv' := [(2, .int 8), (0, .ref o), (1, .int 11)]) hx hb dX3_countSlots_53 hl (k := 0) rfl (by decide) (by decide) rfl (fun ls hl => ?_)
    refine lv_goto (tgt := 30) hx hb dX3_countSlots_56 (by decide) ?_
    refine lv_iload_n hx hb dX3_countSlots_30 rfl (lv_at hl 0 rfl) ?_
    refine lv_iload_n hx hb dX3_countSlots_31 rfl (lv_at hl 2 rfl) ?_
    refine lv_icmp_gt (tgt := 59) hx hb dX3_countSlots_32 (by decide) (fun c392 => absurd c392 (by decide)) (fun c392 => ?_)
    refine lv_aload_n hx hb dX3_countSlots_35 rfl (lv_at hl 1 rfl) ?_
    refine va_get (D := (dC, dI)) (ci := 3) (v := .ref os) (C := RX3) (T := TX3) (N := 6) hx hb hts hin3 hown hK hP 0 rfl rfl 5 (by decide) hw0 (fun _ h9 => h9) rfl dX3_countSlots_36 ?_
    refine lv_aload_n hx hb dX3_countSlots_39 rfl (lv_at hl 1 rfl) ?_
    refine va_get (D := (dC, dI)) (ci := 3) (v := .ref k) (C := RX3) (T := TX3) (N := 6) hx hb hts hin3 hown hK hP 0 rfl rfl 0 (by decide) hw1 (fun _ h9 => h9) rfl dX3_countSlots_40 ?_
    refine lv_iload_n hx hb dX3_countSlots_43 rfl (lv_at hl 0 rfl) ?_
    refine lv_iconst (v := 0) hx hb dX3_countSlots_44 (by decide) ?_
    refine mx_i (wr := [(o, .inr (3, [.ref k, .ref op, .int 0, .ref oq, .ref ov, .ref os])), (os, .inl (cI, 5, .inl (upd (upd (upd (upd (upd (upd (upd (upd (upd (upd (upd (upd (upd (fun _ => 0) 0 0) 1 0) 2 0) 3 0) 4 0) 0 2) 0 4) 0 6) 0 8) 0 10) 0 12) 0 14) 0 16)))]) (va_runV (As := [.int 8, .int 0]) (rest := [.ref os]) ⟨hx, hb, hml, hown, hts⟩ (c_X0_windOn l dC dI cI cZ cK tS aK aV k ks kw kc kq km kd ka kk 8 H.size (by have z8 : (8 : Int32).toInt = 8 := rfl; first | omega | decide | assumption | trivial)) (cwV 2 hts (gw_v (fun _ h9 => List.mem_cons_of_mem _ h9) wm_169 wm_170 wm_171 wm_10 wm_172) rfl rfl rfl (by decide +kernel) ⟨Nat.le_of_ble_eq_true rfl, Nat.le_of_ble_eq_true rfl⟩) (mx_preV (C := RX0) (T := TX0) (N := 12) (ci := 0) hKx hP hD hS hA [2, 3, 4] (by decide) rfl rfl rfl) rfl rfl hl.1 rfl (lv_room (Nat.le_of_ble_eq_true rfl)) dX3_countSlots_45 ⟨Nat.le_of_ble_eq_true rfl, Nat.le_of_ble_eq_true rfl⟩) hP hD hS hA [2, 3, 4] [0, 1] rfl rfl (by decide) (by decide) (fun r393 u393 H locs hq393 hP hD hS => ?_)
    replace hP : va_P (dC, dI) vwCl [(o, .inr (3, [.ref k, .ref op, .int 0, .ref oq, .ref ov, .ref os])), (os, .inl (cI, 5, .inl (upd (upd (upd (upd (upd (upd (upd (upd (upd (upd (upd (upd (upd (fun _ => 0) 0 0) 1 0) 2 0) 3 0) 4 0) 0 2) 0 4) 0 6) 0 8) 0 10) 0 12) 0 14) 0 16))), (k, .inr (0, [.ref ks, .ref kw, .ref kc, .int (-6), .int 0, .int 0, .ref kq, .ref km, .ref kd, .int 0, .ref ka, .ref kk])), (ks, .inl (cI, 5, .inl (upd (fun _ => 0) 0 800))), (kw, .inl (cI, 14, .inl (fun _ => 0)))] H := hP
    replace hD : va_D A [(o, .inr (3, [.ref k, .ref op, .int 0, .ref oq, .ref ov, .ref os])), (os, .inl (cI, 5, .inl (upd (upd (upd (upd (upd (upd (upd (upd (upd (upd (upd (upd (upd (fun _ => 0) 0 0) 1 0) 2 0) 3 0) 4 0) 0 2) 0 4) 0 6) 0 8) 0 10) 0 12) 0 14) 0 16))), (k, .inr (0, [.ref ks, .ref kw, .ref kc, .int (-6), .int 0, .int 0, .ref kq, .ref km, .ref kd, .int 0, .ref ka, .ref kk])), (ks, .inl (cI, 5, .inl (upd (fun _ => 0) 0 800))), (kw, .inl (cI, 14, .inl (fun _ => 0)))] := hD
    obtain rfl : r393 = 0 := hq393
    refine lv_dup2_11 hx hb dX3_countSlots_48 rfl rfl ?_
    refine va_iald hx hb hK hP 1 0 rfl rfl (vin (by decide) (by decide)) dX3_countSlots_49 ?_
    refine lv_topi (fun x394 e394 => ?_)
    obtain rfl : x394 = 16 := e394.trans (by first | rfl | decide)
    refine lv_iconst (v := 2) hx hb dX3_countSlots_50 (by decide) ?_
    refine lv_iadd hx hb dX3_countSlots_51 ?_
    refine lv_topi (fun x395 e395 => ?_)
    obtain rfl : x395 = 18 := e395.trans (by decide)
    refine va_iast hx hb hK hP hD hS 1 0 rfl rfl (vin (by decide) (by decide)) dX3_countSlots_52 (fun H locs hP hD hS => ?_)
    replace hP : va_P (dC, dI) vwCl [(o, .inr (3, [.ref k, .ref op, .int 0, .ref oq, .ref ov, .ref os])), (os, .inl (cI, 5, .inl (upd (upd (upd (upd (upd (upd (upd (upd (upd (upd (upd (upd (upd (upd (fun _ => 0) 0 0) 1 0) 2 0) 3 0) 4 0) 0 2) 0 4) 0 6) 0 8) 0 10) 0 12) 0 14) 0 16) 0 18))), (k, .inr (0, [.ref ks, .ref kw, .ref kc, .int (-6), .int 0, .int 0, .ref kq, .ref km, .ref kd, .int 0, .ref ka, .ref kk])), (ks, .inl (cI, 5, .inl (upd (fun _ => 0) 0 800))), (kw, .inl (cI, 14, .inl (fun _ => 0)))] H := hP
    replace hD : va_D A [(o, .inr (3, [.ref k, .ref op, .int 0, .ref oq, .ref ov, .ref os])), (os, .inl (cI, 5, .inl (upd (upd (upd (upd (upd (upd (upd (upd (upd (upd (upd (upd (upd (upd (fun _ => 0) 0 0) 1 0) 2 0) 3 0) 4 0) 0 2) 0 4) 0 6) 0 8) 0 10) 0 12) 0 14) 0 16) 0 18))), (k, .inr (0, [.ref ks, .ref kw, .ref kc, .int (-6), .int 0, .int 0, .ref kq, .ref km, .ref kd, .int 0, .ref ka, .ref kk])), (ks, .inl (cI, 5, .inl (upd (fun _ => 0) 0 800))), (kw, .inl (cI, 14, .inl (fun _ => 0)))] := hD
    refine lv_iinc (v := 9) (lv' := [(2, .int 9), (0, .ref o), (1, .int 11)]) hx hb dX3_countSlots_53 hl (k := 0) rfl (by decide) (by decide) rfl (fun ls hl => ?_)
    refine lv_goto (tgt := 30) hx hb dX3_countSlots_56 (by decide) ?_
    refine lv_iload_n hx hb dX3_countSlots_30 rfl (lv_at hl 0 rfl) ?_
    refine lv_iload_n hx hb dX3_countSlots_31 rfl (lv_at hl 2 rfl) ?_
    refine lv_icmp_gt (tgt := 59) hx hb dX3_countSlots_32 (by decide) (fun c396 => absurd c396 (by decide)) (fun c396 => ?_)
    refine lv_aload_n hx hb dX3_countSlots_35 rfl (lv_at hl 1 rfl) ?_
    refine va_get (D := (dC, dI)) (ci := 3) (v := .ref os) (C := RX3) (T := TX3) (N := 6) hx hb hts hin3 hown hK hP 0 rfl rfl 5 (by decide) hw0 (fun _ h9 => h9) rfl dX3_countSlots_36 ?_
    refine lv_aload_n hx hb dX3_countSlots_39 rfl (lv_at hl 1 rfl) ?_
    refine va_get (D := (dC, dI)) (ci := 3) (v := .ref k) (C := RX3) (T := TX3) (N := 6) hx hb hts hin3 hown hK hP 0 rfl rfl 0 (by decide) hw1 (fun _ h9 => h9) rfl dX3_countSlots_40 ?_
    refine lv_iload_n hx hb dX3_countSlots_43 rfl (lv_at hl 0 rfl) ?_
    refine lv_iconst (v := 0) hx hb dX3_countSlots_44 (by decide) ?_
    refine mx_i (wr := [(o, .inr (3, [.ref k, .ref op, .int 0, .ref oq, .ref ov, .ref os])), (os, .inl (cI, 5, .inl (upd (upd (upd (upd (upd (upd (upd (upd (upd (upd (upd (upd (upd (upd (fun _ => 0) 0 0) 1 0) 2 0) 3 0) 4 0) 0 2) 0 4) 0 6) 0 8) 0 10) 0 12) 0 14) 0 16) 0 18)))]) (va_runV (As := [.int 9, .int 0]) (rest := [.ref os]) ⟨hx, hb, hml, hown, hts⟩ (c_X0_windOn l dC dI cI cZ cK tS aK aV k ks kw kc kq km kd ka kk 9 H.size (by have z8 : (9 : Int32).toInt = 9 := rfl; first | omega | decide | assumption | trivial)) (cwV 2 hts (gw_v (fun _ h9 => List.mem_cons_of_mem _ h9) wm_169 wm_170 wm_171 wm_10 wm_172) rfl rfl rfl (by decide +kernel) ⟨Nat.le_of_ble_eq_true rfl, Nat.le_of_ble_eq_true rfl⟩) (mx_preV (C := RX0) (T := TX0) (N := 12) (ci := 0) hKx hP hD hS hA [2, 3, 4] (by decide) rfl rfl rfl) rfl rfl hl.1 rfl (lv_room (Nat.le_of_ble_eq_true rfl)) dX3_countSlots_45 ⟨Nat.le_of_ble_eq_true rfl, Nat.le_of_ble_eq_true rfl⟩) hP hD hS hA [2, 3, 4] [0, 1] rfl rfl (by decide) (by decide) (fun r397 u397 H locs hq397 hP hD hS => ?_)
    replace hP : va_P (dC, dI) vwCl [(o, .inr (3, [.ref k, .ref op, .int 0, .ref oq, .ref ov, .ref os])), (os, .inl (cI, 5, .inl (upd (upd (upd (upd (upd (upd (upd (upd (upd (upd (upd (upd (upd (upd (fun _ => 0) 0 0) 1 0) 2 0) 3 0) 4 0) 0 2) 0 4) 0 6) 0 8) 0 10) 0 12) 0 14) 0 16) 0 18))), (k, .inr (0, [.ref ks, .ref kw, .ref kc, .int (-6), .int 0, .int 0, .ref kq, .ref km, .ref kd, .int 0, .ref ka, .ref kk])), (ks, .inl (cI, 5, .inl (upd (fun _ => 0) 0 800))), (kw, .inl (cI, 14, .inl (fun _ => 0)))] H := hP
    replace hD : va_D A [(o, .inr (3, [.ref k, .ref op, .int 0, .ref oq, .ref ov, .ref os])), (os, .inl (cI, 5, .inl (upd (upd (upd (upd (upd (upd (upd (upd (upd (upd (upd (upd (upd (upd (fun _ => 0) 0 0) 1 0) 2 0) 3 0) 4 0) 0 2) 0 4) 0 6) 0 8) 0 10) 0 12) 0 14) 0 16) 0 18))), (k, .inr (0, [.ref ks, .ref kw, .ref kc, .int (-6), .int 0, .int 0, .ref kq, .ref km, .ref kd, .int 0, .ref ka, .ref kk])), (ks, .inl (cI, 5, .inl (upd (fun _ => 0) 0 800))), (kw, .inl (cI, 14, .inl (fun _ => 0)))] := hD
    obtain rfl : r397 = 0 := hq397
    refine lv_dup2_11 hx hb dX3_countSlots_48 rfl rfl ?_
    refine va_iald hx hb hK hP 1 0 rfl rfl (vin (by decide) (by decide)) dX3_countSlots_49 ?_
    refine lv_topi (fun x398 e398 => ?_)
    obtain rfl : x398 = 18 := e398.trans (by first | rfl | decide)
    refine lv_iconst (v := 2) hx hb dX3_countSlots_50 (by decide) ?_
    refine lv_iadd hx hb dX3_countSlots_51 ?_
    refine lv_topi (fun x399 e399 => ?_)
    obtain rfl : x399 = 20 := e399.trans (by decide)
    refine va_iast hx hb hK hP hD hS 1 0 rfl rfl (vin (by decide) (by decide)) dX3_countSlots_52 (fun H locs hP hD hS => ?_)
    replace hP : va_P (dC, dI) vwCl [(o, .inr (3, [.ref k, .ref op, .int 0, .ref oq, .ref ov, .ref os])), (os, .inl (cI, 5, .inl (upd (upd (upd (upd (upd (upd (upd (upd (upd (upd (upd (upd (upd (upd (upd (fun _ => 0) 0 0) 1 0) 2 0) 3 0) 4 0) 0 2) 0 4) 0 6) 0 8) 0 10) 0 12) 0 14) 0 16) 0 18) 0 20))), (k, .inr (0, [.ref ks, .ref kw, .ref kc, .int (-6), .int 0, .int 0, .ref kq, .ref km, .ref kd, .int 0, .ref ka, .ref kk])), (ks, .inl (cI, 5, .inl (upd (fun _ => 0) 0 800))), (kw, .inl (cI, 14, .inl (fun _ => 0)))] H := hP
    replace hD : va_D A [(o, .inr (3, [.ref k, .ref op, .int 0, .ref oq, .ref ov, .ref os])), (os, .inl (cI, 5, .inl (upd (upd (upd (upd (upd (upd (upd (upd (upd (upd (upd (upd (upd (upd (upd (fun _ => 0) 0 0) 1 0) 2 0) 3 0) 4 0) 0 2) 0 4) 0 6) 0 8) 0 10) 0 12) 0 14) 0 16) 0 18) 0 20))), (k, .inr (0, [.ref ks, .ref kw, .ref kc, .int (-6), .int 0, .int 0, .ref kq, .ref km, .ref kd, .int 0, .ref ka, .ref kk])), (ks, .inl (cI, 5, .inl (upd (fun _ => 0) 0 800))), (kw, .inl (cI, 14, .inl (fun _ => 0)))] := hD
    refine lv_iinc (v := 10) (lv' := [(2, .int 10), (0, .ref o), (1, .int 11)]) hx hb dX3_countSlots_53 hl (k := 0) rfl (by decide) (by decide) rfl (fun ls hl => ?_)
    refine lv_goto (tgt := 30) hx hb dX3_countSlots_56 (by decide) ?_
    refine lv_iload_n hx hb dX3_countSlots_30 rfl (lv_at hl 0 rfl) ?_
    refine lv_iload_n hx hb dX3_countSlots_31 rfl (lv_at hl 2 rfl) ?_
    refine lv_icmp_gt (tgt := 59) hx hb dX3_countSlots_32 (by decide) (fun c400 => absurd c400 (by decide)) (fun c400 => ?_)
    refine lv_aload_n hx hb dX3_countSlots_35 rfl (lv_at hl 1 rfl) ?_
    refine va_get (D := (dC, dI)) (ci := 3) (v := .ref os) (C := RX3) (T := TX3) (N := 6) hx hb hts hin3 hown hK hP 0 rfl rfl 5 (by decide) hw0 (fun _ h9 => h9) rfl dX3_countSlots_36 ?_
    refine lv_aload_n hx hb dX3_countSlots_39 rfl (lv_at hl 1 rfl) ?_
    refine va_get (D := (dC, dI)) (ci := 3) (v := .ref k) (C := RX3) (T := TX3) (N := 6) hx hb hts hin3 hown hK hP 0 rfl rfl 0 (by decide) hw1 (fun _ h9 => h9) rfl dX3_countSlots_40 ?_
    refine lv_iload_n hx hb dX3_countSlots_43 rfl (lv_at hl 0 rfl) ?_
    refine lv_iconst (v := 0) hx hb dX3_countSlots_44 (by decide) ?_
    refine mx_i (wr := [(o, .inr (3, [.ref k, .ref op, .int 0, .ref oq, .ref ov, .ref os])), (os, .inl (cI, 5, .inl (upd (upd (upd (upd (upd (upd (upd (upd (upd (upd (upd (upd (upd (upd (upd (fun _ => 0) 0 0) 1 0) 2 0) 3 0) 4 0) 0 2) 0 4) 0 6) 0 8) 0 10) 0 12) 0 14) 0 16) 0 18) 0 20)))]) (va_runV (As := [.int 10, .int 0]) (rest := [.ref os]) ⟨hx, hb, hml, hown, hts⟩ (c_X0_windOn l dC dI cI cZ cK tS aK aV k ks kw kc kq km kd ka kk 10 H.size (by have z8 : (10 : Int32).toInt = 10 := rfl; first | omega | decide | assumption | trivial)) (cwV 2 hts (gw_v (fun _ h9 => List.mem_cons_of_mem _ h9) wm_169 wm_170 wm_171 wm_10 wm_172) rfl rfl rfl (by decide +kernel) ⟨Nat.le_of_ble_eq_true rfl, Nat.le_of_ble_eq_true rfl⟩) (mx_preV (C := RX0) (T := TX0) (N := 12) (ci := 0) hKx hP hD hS hA [2, 3, 4] (by decide) rfl rfl rfl) rfl rfl hl.1 rfl (lv_room (Nat.le_of_ble_eq_true rfl)) dX3_countSlots_45 ⟨Nat.le_of_ble_eq_true rfl, Nat.le_of_ble_eq_true rfl⟩) hP hD hS hA [2, 3, 4] [0, 1] rfl rfl (by decide) (by decide) (fun r401 u401 H locs hq401 hP hD hS => ?_)
    replace hP : va_P (dC, dI) vwCl [(o, .inr (3, [.ref k, .ref op, .int 0, .ref oq, .ref ov, .ref os])), (os, .inl (cI, 5, .inl (upd (upd (upd (upd (upd (upd (upd (upd (upd (upd (upd (upd (upd (upd (upd (fun _ => 0) 0 0) 1 0) 2 0) 3 0) 4 0) 0 2) 0 4) 0 6) 0 8) 0 10) 0 12) 0 14) 0 16) 0 18) 0 20))), (k, .inr (0, [.ref ks, .ref kw, .ref kc, .int (-6), .int 0, .int 0, .ref kq, .ref km, .ref kd, .int 0, .ref ka, .ref kk])), (ks, .inl (cI, 5, .inl (upd (fun _ => 0) 0 800))), (kw, .inl (cI, 14, .inl (fun _ => 0)))] H := hP
    replace hD : va_D A [(o, .inr (3, [.ref k, .ref op, .int 0, .ref oq, .ref ov, .ref os])), (os, .inl (cI, 5, .inl (upd (upd (upd (upd (upd (upd (upd (upd (upd (upd (upd (upd (upd (upd (upd (fun _ => 0) 0 0) 1 0) 2 0) 3 0) 4 0) 0 2) 0 4) 0 6) 0 8) 0 10) 0 12) 0 14) 0 16) 0 18) 0 20))), (k, .inr (0, [.ref ks, .ref kw, .ref kc, .int (-6), .int 0, .int 0, .ref kq, .ref km, .ref kd, .int 0, .ref ka, .ref kk])), (ks, .inl (cI, 5, .inl (upd (fun _ => 0) 0 800))), (kw, .inl (cI, 14, .inl (fun _ => 0)))] := hD
    obtain rfl : r401 = 0 := hq401
    refine lv_dup2_11 hx hb dX3_countSlots_48 rfl rfl ?_
    refine va_iald hx hb hK hP 1 0 rfl rfl (vin (by decide) (by decide)) dX3_countSlots_49 ?_
    refine lv_topi (fun x402 e402 => ?_)
    obtain rfl : x402 = 20 := e402.trans (by first | rfl | decide)
    refine lv_iconst (v := 2) hx hb dX3_countSlots_50 (by decide) ?_
    refine lv_iadd hx hb dX3_countSlots_51 ?_
    refine lv_topi (fun x403 e403 => ?_)
    obtain rfl : x403 = 22 := e403.trans (by decide)
    refine va_iast hx hb hK hP hD hS 1 0 rfl rfl (vin (by decide) (by decide)) dX3_countSlots_52 (fun H locs hP hD hS => ?_)
    replace hP : va_P (dC, dI) vwCl [(o, .inr (3, [.ref k, .ref op, .int 0, .ref oq, .ref ov, .ref os])), (os, .inl (cI, 5, .inl (upd (upd (upd (upd (upd (upd (upd (upd (upd (upd (upd (upd (upd (upd (upd (upd (fun _ => 0) 0 0) 1 0) 2 0) 3 0) 4 0) 0 2) 0 4) 0 6) 0 8) 0 10) 0 12) 0 14) 0 16) 0 18) 0 20) 0 22))), (k, .inr (0, [.ref ks, .ref kw, .ref kc, .int (-6), .int 0, .int 0, .ref kq, .ref km, .ref kd, .int 0, .ref ka, .ref kk])), (ks, .inl (cI, 5, .inl (upd (fun _ => 0) 0 800))), (kw, .inl (cI, 14, .inl (fun _ => 0)))] H := hP
    replace hD : va_D A [(o, .inr (3, [.ref k, .ref op, .int 0, .ref oq, .ref ov, .ref os])), (os, .inl (cI, 5, .inl (upd (upd (upd (upd (upd (upd (upd (upd (upd (upd (upd (upd (upd (upd (upd (upd (fun _ => 0) 0 0) 1 0) 2 0) 3 0) 4 0) 0 2) 0 4) 0 6) 0 8) 0 10) 0 12) 0 14) 0 16) 0 18) 0 20) 0 22))), (k, .inr (0, [.ref ks, .ref kw, .ref kc, .int (-6), .int 0, .int 0, .ref kq, .ref km, .ref kd, .int 0, .ref ka, .ref kk])), (ks, .inl (cI, 5, .inl (upd (fun _ => 0) 0 800))), (kw, .inl (cI, 14, .inl (fun _ => 0)))] := hD
    refine lv_iinc (v := 11) (lv' := [(2, .int 11), (0, .ref o), (1, .int 11)]) hx hb dX3_countSlots_53 hl (k := 0) rfl (by decide) (by decide) rfl (fun ls hl => ?_)
    refine lv_goto (tgt := 30) hx hb dX3_countSlots_56 (by decide) ?_
    refine lv_iload_n hx hb dX3_countSlots_30 rfl (lv_at hl 0 rfl) ?_
    refine lv_iload_n hx hb dX3_countSlots_31 rfl (lv_at hl 2 rfl) ?_
    refine lv_icmp_gt (tgt := 59) hx hb dX3_countSlots_32 (by decide) (fun c404 => absurd c404 (by decide)) (fun c404 => ?_)
    refine lv_aload_n hx hb dX3_countSlots_35 rfl (lv_at hl 1 rfl) ?_
    refine va_get (D := (dC, dI)) (ci := 3) (v := .ref os) (C := RX3) (T := TX3) (N := 6) hx hb hts hin3 hown hK hP 0 rfl rfl 5 (by decide) hw0 (fun _ h9 => h9) rfl dX3_countSlots_36 ?_
    refine lv_aload_n hx hb dX3_countSlots_39 rfl (lv_at hl 1 rfl) ?_
    refine va_get (D := (dC, dI)) (ci := 3) (v := .ref k) (C := RX3) (T := TX3) (N := 6) hx hb hts hin3 hown hK hP 0 rfl rfl 0 (by decide) hw1 (fun _ h9 => h9) rfl dX3_countSlots_40 ?_
    refine lv_iload_n hx hb dX3_countSlots_43 rfl (lv_at hl 0 rfl) ?_
    refine lv_iconst (v := 0) hx hb dX3_countSlots_44 (by decide) ?_
    refine mx_i (wr := [(o, .inr (3, [.ref k, .ref op, .int 0, .ref oq, .ref ov, .ref os])), (os, .inl (cI, 5, .inl (upd (upd (upd (upd (upd (upd (upd (upd (upd (upd (upd (upd (upd (upd (upd (upd (fun _ => 0) 0 0) 1 0) 2 0) 3 0) 4 0) 0 2) 0 4) 0 6) 0 8) 0 10) 0 12) 0 14) 0 16) 0 18) 0 20) 0 22)))]) (va_runV (As := [.int 11, .int 0]) (rest := [.ref os]) ⟨hx, hb, hml, hown, hts⟩ (c_X0_windOn l dC dI cI cZ cK tS aK aV k ks kw kc kq km kd ka kk 11 H.size (by have z8 : (11 : Int32).toInt = 11 := rfl; first | omega | decide | assumption | trivial)) (cwV 2 hts (gw_v (fun _ h9 => List.mem_cons_of_mem _ h9) wm_169 wm_170 wm_171 wm_10 wm_172) rfl rfl rfl (by decide +kernel) ⟨Nat.le_of_ble_eq_true rfl, Nat.le_of_ble_eq_true rfl⟩) (mx_preV (C := RX0) (T := TX0) (N := 12) (ci := 0) hKx hP hD hS hA [2, 3, 4] (by decide) rfl rfl rfl) rfl rfl hl.1 rfl (lv_room (Nat.le_of_ble_eq_true rfl)) dX3_countSlots_45 ⟨Nat.le_of_ble_eq_true rfl, Nat.le_of_ble_eq_true rfl⟩) hP hD hS hA [2, 3, 4] [0, 1] rfl rfl (by decide) (by decide) (fun r405 u405 H locs hq405 hP hD hS => ?_)
    replace hP : va_P (dC, dI) vwCl [(o, .inr (3, [.ref k, .ref op, .int 0, .ref oq, .ref ov, .ref os])), (os, .inl (cI, 5, .inl (upd (upd (upd (upd (upd (upd (upd (upd (upd (upd (upd (upd (upd (upd (upd (upd (fun _ => 0) 0 0) 1 0) 2 0) 3 0) 4 0) 0 2) 0 4) 0 6) 0 8) 0 10) 0 12) 0 14) 0 16) 0 18) 0 20) 0 22))), (k, .inr (0, [.ref ks, .ref kw, .ref kc, .int (-6), .int 0, .int 0, .ref kq, .ref km, .ref kd, .int 0, .ref ka, .ref kk])), (ks, .inl (cI, 5, .inl (upd (fun _ => 0) 0 800))), (kw, .inl (cI, 14, .inl (fun _ => 0)))] H := hP
    replace hD : va_D A [(o, .inr (3, [.ref k, .ref op, .int 0, .ref oq, .ref ov, .ref os])), (os, .inl (cI, 5, .inl (upd (upd (upd (upd (upd (upd (upd (upd (upd (upd (upd (upd (upd (upd (upd (upd (fun _ => 0) 0 0) 1 0) 2 0) 3 0) 4 0) 0 2) 0 4) 0 6) 0 8) 0 10) 0 12) 0 14) 0 16) 0 18) 0 20) 0 22))), (k, .inr (0, [.ref ks, .ref kw, .ref kc, .int (-6), .int 0, .int 0, .ref kq, .ref km, .ref kd, .int 0, .ref ka, .ref kk])), (ks, .inl (cI, 5, .inl (upd (fun _ => 0) 0 800))), (kw, .inl (cI, 14, .inl (fun _ => 0)))] := hD
    obtain rfl : r405 = 0 := hq405
    refine lv_dup2_11 hx hb dX3_countSlots_48 rfl rfl ?_
    refine va_iald hx hb hK hP 1 0 rfl rfl (vin (by decide) (by decide)) dX3_countSlots_49 ?_
    refine lv_topi (fun x406 e406 => ?_)
    obtain rfl : x406 = 22 := e406.trans (by first | rfl | decide)
    refine lv_iconst (v := 2) hx hb dX3_countSlots_50 (by decide) ?_
    refine lv_iadd hx hb dX3_countSlots_51 ?_
    refine lv_topi (fun x407 e407 => ?_)
    obtain rfl : x407 = 24 := e407.trans (by decide)
    refine va_iast hx hb hK hP hD hS 1 0 rfl rfl (vin (by decide) (by decide)) dX3_countSlots_52 (fun H locs hP hD hS => ?_)
    replace hP : va_P (dC, dI) vwCl [(o, .inr (3, [.ref k, .ref op, .int 0, .ref oq, .ref ov, .ref os])), (os, .inl (cI, 5, .inl (upd (upd (upd (upd (upd (upd (upd (upd (upd (upd (upd (upd (upd (upd (upd (upd (upd (fun _ => 0) 0 0) 1 0) 2 0) 3 0) 4 0) 0 2) 0 4) 0 6) 0 8) 0 10) 0 12) 0 14) 0 16) 0 18) 0 20) 0 22) 0 24))), (k, .inr (0, [.ref ks, .ref kw, .ref kc, .int (-6), .int 0, .int 0, .ref kq, .ref km, .ref kd, .int 0, .ref ka, .ref kk])), (ks, .inl (cI, 5, .inl (upd (fun _ => 0) 0 800))), (kw, .inl (cI, 14, .inl (fun _ => 0)))] H := hP
    replace hD : va_D A [(o, .inr (3, [.ref k, .ref op, .int 0, .ref oq, .ref ov, .ref os])), (os, .inl (cI, 5, .inl (upd (upd (upd (upd (upd (upd (upd (upd (upd (upd (upd (upd (upd (upd (upd (upd (upd (fun _ => 0) 0 0) 1 0) 2 0) 3 0) 4 0) 0 2) 0 4) 0 6) 0 8) 0 10) 0 12) 0 14) 0 16) 0 18) 0 20) 0 22) 0 24))), (k, .inr (0, [.ref ks, .ref kw, .ref kc, .int (-6), .int 0, .int 0, .ref kq, .ref km, .ref kd, .int 0, .ref ka, .ref kk])), (ks, .inl (cI, 5, .inl (upd (fun _ => 0) 0 800))), (kw, .inl (cI, 14, .inl (fun _ => 0)))] := hD
    refine lv_iinc (v := 12) (lv' := [(2, .int 12), (0, .ref o), (1, .int 11)]) hx hb dX3_countSlots_53 hl (k := 0) rfl (by decide) (by decide) rfl (fun ls hl => ?_)
    refine lv_goto (tgt := 30) hx hb dX3_countSlots_56 (by decide) ?_
    refine lv_iload_n hx hb dX3_countSlots_30 rfl (lv_at hl 0 rfl) ?_
    refine lv_iload_n hx hb dX3_countSlots_31 rfl (lv_at hl 2 rfl) ?_
    refine lv_icmp_gt (tgt := 59) hx hb dX3_countSlots_32 (by decide) (fun c408 => ?_) (fun c408 => absurd c408 (by decide))
    have hP9 := mx_subP (wc := [(o, .inr (3, [.ref k, .ref op, .int 0, .ref oq, .ref ov, .ref os])), (os, .inl (cI, 5, .inl (upd (upd (upd (upd (upd (upd (upd (upd (upd (upd (upd (upd (upd (upd (upd (upd (upd (fun _ => 0) 0 0) 1 0) 2 0) 3 0) 4 0) 0 2) 0 4) 0 6) 0 8) 0 10) 0 12) 0 14) 0 16) 0 18) 0 20) 0 22) 0 24))), (k, .inr (0, [.ref ks, .ref kw, .ref kc, .int (-6), .int 0, .int 0, .ref kq, .ref km, .ref kd, .int 0, .ref ka, .ref kk])), (ks, .inl (cI, 5, .inl (upd (fun _ => 0) 0 800))), (kw, .inl (cI, 14, .inl (fun _ => 0)))]) hP [0, 1, 2, 3, 4] rfl
    have hD9 := hD.sub (ws' := [(o, .inr (3, [.ref k, .ref op, .int 0, .ref oq, .ref ov, .ref os])), (os, .inl (cI, 5, .inl (upd (upd (upd (upd (upd (upd (upd (upd (upd (upd (upd (upd (upd (upd (upd (upd (upd (fun _ => 0) 0 0) 1 0) 2 0) 3 0) 4 0) 0 2) 0 4) 0 6) 0 8) 0 10) 0 12) 0 14) 0 16) 0 18) 0 20) 0 22) 0 24))), (k, .inr (0, [.ref ks, .ref kw, .ref kc, .int (-6), .int 0, .int 0, .ref kq, .ref km, .ref kd, .int 0, .ref ka, .ref kk])), (ks, .inl (cI, 5, .inl (upd (fun _ => 0) 0 800))), (kw, .inl (cI, 14, .inl (fun _ => 0)))]) [0, 1, 2, 3, 4] (by decide) rfl
    exact W.vret hx hb hr (fun t ht hW => ⟨⟨(upd (upd (upd (upd (upd (upd (upd (upd (upd (upd (upd (upd (upd (upd (upd (upd (upd (fun _ => 0) 0 0) 1 0) 2 0) 3 0) 4 0) 0 2) 0 4) 0 6) 0 8) 0 10) 0 12) 0 14) 0 16) 0 18) 0 20) 0 22) 0 24), rfl, (by refine ⟨?_, ?_, ?_, ?_, ?_, ?_, ?_, ?_, ?_, ?_⟩ <;> decide), by rw [ht]; exact hP9, hD9⟩, hS.F ht⟩) hS.2.2 dX3_countSlots_59
  · have z9 : (12 : Int32).toInt = 12 := rfl
    refine lv_iconst (v := 0) hx hb dX3_countSlots_0 (by decide) ?_
    refine lv_istore_n (lv' := [(2, .int 0), (0, .ref o), (1, .int 12)]) hx hb dX3_countSlots_1 rfl hl (by decide) rfl (fun ls hl => ?_)
    refine lv_iload_n hx hb dX3_countSlots_2 rfl (lv_at hl 0 rfl) ?_
    refine lv_iconst (v := 4) hx hb dX3_countSlots_3 (by decide) ?_
    refine lv_icmp_gt (tgt := 20) hx hb dX3_countSlots_4 (by decide) (fun c409 => absurd c409 (by decide)) (fun c409 => ?_)
    refine lv_aload_n hx hb dX3_countSlots_7 rfl (lv_at hl 1 rfl) ?_
    refine va_get (D := (dC, dI)) (ci := 3) (v := .ref os) (C := RX3) (T := TX3) (N := 6) hx hb hts hin3 hown hK hP 0 rfl rfl 5 (by decide) hw0 (fun _ h9 => h9) rfl dX3_countSlots_8 ?_
    refine lv_iload_n hx hb dX3_countSlots_11 rfl (lv_at hl 0 rfl) ?_
    refine lv_iconst (v := 0) hx hb dX3_countSlots_12 (by decide) ?_
    refine va_iast hx hb hK hP hD hS 1 0 rfl rfl (vin (by decide) (by decide)) dX3_countSlots_13 (fun H locs hP hD hS => ?_)
    replace hP : va_P (dC, dI) vwCl [(o, .inr (3, [.ref k, .ref op, .int 0, .ref oq, .ref ov, .ref os])), (os, .inl (cI, 5, .inl (upd (fun _ => 0) 0 0))), (k, .inr (0, [.ref ks, .ref kw, .ref kc, .int (-6), .int 0, .int 0, .ref kq, .ref km, .ref kd, .int 0, .ref ka, .ref kk])), (ks, .inl (cI, 5, .inl (upd (fun _ => 0) 0 800))), (kw, .inl (cI, 14, .inl (fun _ => 0)))] H := hP
    replace hD : va_D A [(o, .inr (3, [.ref k, .ref op, .int 0, .ref oq, .ref ov, .ref os])), (os, .inl (cI, 5, .inl (upd (fun _ => 0) 0 0))), (k, .inr (0, [.ref ks, .ref kw, .ref kc, .int (-6), .int 0, .int 0, .ref kq, .ref km, .ref kd, .int 0, .ref ka, .ref kk])), (ks, .inl (cI, 5, .inl (upd (fun _ => 0) 0 800))), (kw, .inl (cI, 14, .inl (fun _ => 0)))] := hD
    refine lv_iinc (v := 1) (lv' := [(2, .int 1), (0, .ref o), (1, .int 12)]) hx hb dX3_countSlots_14 hl (k := 0) rfl (by decide) (by decide) rfl (fun ls hl => ?_)
    refine lv_goto (tgt := 2) hx hb dX3_countSlots_17 (by decide) ?_
    refine lv_iload_n hx hb dX3_countSlots_2 rfl (lv_at hl 0 rfl) ?_
    refine lv_iconst (v := 4) hx hb dX3_countSlots_3 (by decide) ?_
    refine lv_icmp_gt (tgt := 20) hx hb dX3_countSlots_4 (by decide) (fun c410 => absurd c410 (by decide)) (fun c410 => ?_)
    refine lv_aload_n hx hb dX3_countSlots_7 rfl (lv_at hl 1 rfl) ?_
    refine va_get (D := (dC, dI)) (ci := 3) (v := .ref os) (C := RX3) (T := TX3) (N := 6) hx hb hts hin3 hown hK hP 0 rfl rfl 5 (by decide) hw0 (fun _ h9 => h9) rfl dX3_countSlots_8 ?_
    refine lv_iload_n hx hb dX3_countSlots_11 rfl (lv_at hl 0 rfl) ?_
    refine lv_iconst (v := 0) hx hb dX3_countSlots_12 (by decide) ?_
    refine va_iast hx hb hK hP hD hS 1 0 rfl rfl (vin (by decide) (by decide)) dX3_countSlots_13 (fun H locs hP hD hS => ?_)
    replace hP : va_P (dC, dI) vwCl [(o, .inr (3, [.ref k, .ref op, .int 0, .ref oq, .ref ov, .ref os])), (os, .inl (cI, 5, .inl (upd (upd (fun _ => 0) 0 0) 1 0))), (k, .inr (0, [.ref ks, .ref kw, .ref kc, .int (-6), .int 0, .int 0, .ref kq, .ref km, .ref kd, .int 0, .ref ka, .ref kk])), (ks, .inl (cI, 5, .inl (upd (fun _ => 0) 0 800))), (kw, .inl (cI, 14, .inl (fun _ => 0)))] H := hP
    replace hD : va_D A [(o, .inr (3, [.ref k, .ref op, .int 0, .ref oq, .ref ov, .ref os])), (os, .inl (cI, 5, .inl (upd (upd (fun _ => 0) 0 0) 1 0))), (k, .inr (0, [.ref ks, .ref kw, .ref kc, .int (-6), .int 0, .int 0, .ref kq, .ref km, .ref kd, .int 0, .ref ka, .ref kk])), (ks, .inl (cI, 5, .inl (upd (fun _ => 0) 0 800))), (kw, .inl (cI, 14, .inl (fun _ => 0)))] := hD
    refine lv_iinc (v := 2) (lv' := [(2, .int 2), (0, .ref o), (1, .int 12)]) hx hb dX3_countSlots_14 hl (k := 0) rfl (by decide) (by decide) rfl (fun ls hl => ?_)
    refine lv_goto (tgt := 2) hx hb dX3_countSlots_17 (by decide) ?_
    refine lv_iload_n hx hb dX3_countSlots_2 rfl (lv_at hl 0 rfl) ?_
    refine lv_iconst (v := 4) hx hb dX3_countSlots_3 (by decide) ?_
    refine lv_icmp_gt (tgt := 20) hx hb dX3_countSlots_4 (by decide) (fun c411 => absurd c411 (by decide)) (fun c411 => ?_)
    refine lv_aload_n hx hb dX3_countSlots_7 rfl (lv_at hl 1 rfl) ?_
    refine va_get (D := (dC, dI)) (ci := 3) (v := .ref os) (C := RX3) (T := TX3) (N := 6) hx hb hts hin3 hown hK hP 0 rfl rfl 5 (by decide) hw0 (fun _ h9 => h9) rfl dX3_countSlots_8 ?_
    refine lv_iload_n hx hb dX3_countSlots_11 rfl (lv_at hl 0 rfl) ?_
    refine lv_iconst (v := 0) hx hb dX3_countSlots_12 (by decide) ?_
    refine va_iast hx hb hK hP hD hS 1 0 rfl rfl (vin (by decide) (by decide)) dX3_countSlots_13 (fun H locs hP hD hS => ?_)
    replace hP : va_P (dC, dI) vwCl [(o, .inr (3, [.ref k, .ref op, .int 0, .ref oq, .ref ov, .ref os])), (os, .inl (cI, 5, .inl (upd (upd (upd (fun _ => 0) 0 0) 1 0) 2 0))), (k, .inr (0, [.ref ks, .ref kw, .ref kc, .int (-6), .int 0, .int 0, .ref kq, .ref km, .ref kd, .int 0, .ref ka, .ref kk])), (ks, .inl (cI, 5, .inl (upd (fun _ => 0) 0 800))), (kw, .inl (cI, 14, .inl (fun _ => 0)))] H := hP
    replace hD : va_D A [(o, .inr (3, [.ref k, .ref op, .int 0, .ref oq, .ref ov, .ref os])), (os, .inl (cI, 5, .inl (upd (upd (upd (fun _ => 0) 0 0) 1 0) 2 0))), (k, .inr (0, [.ref ks, .ref kw, .ref kc, .int (-6), .int 0, .int 0, .ref kq, .ref km, .ref kd, .int 0, .ref ka, .ref kk])), (ks, .inl (cI, 5, .inl (upd (fun _ => 0) 0 800))), (kw, .inl (cI, 14, .inl (fun _ => 0)))] := hD
    refine lv_iinc (v := 3) (lv' := [(2, .int 3), (0, .ref o), (1, .int 12)]) hx hb dX3_countSlots_14 hl (k := 0) rfl (by decide) (by decide) rfl (fun ls hl => ?_)
    refine lv_goto (tgt := 2) hx hb dX3_countSlots_17 (by decide) ?_
    refine lv_iload_n hx hb dX3_countSlots_2 rfl (lv_at hl 0 rfl) ?_
    refine lv_iconst (v := 4) hx hb dX3_countSlots_3 (by decide) ?_
    refine lv_icmp_gt (tgt := 20) hx hb dX3_countSlots_4 (by decide) (fun c412 => absurd c412 (by decide)) (fun c412 => ?_)
    refine lv_aload_n hx hb dX3_countSlots_7 rfl (lv_at hl 1 rfl) ?_
    refine va_get (D := (dC, dI)) (ci := 3) (v := .ref os) (C := RX3) (T := TX3) (N := 6) hx hb hts hin3 hown hK hP 0 rfl rfl 5 (by decide) hw0 (fun _ h9 => h9) rfl dX3_countSlots_8 ?_
    refine lv_iload_n hx hb dX3_countSlots_11 rfl (lv_at hl 0 rfl) ?_
    refine lv_iconst (v := 0) hx hb dX3_countSlots_12 (by decide) ?_
    refine va_iast hx hb hK hP hD hS 1 0 rfl rfl (vin (by decide) (by decide)) dX3_countSlots_13 (fun H locs hP hD hS => ?_)
    replace hP : va_P (dC, dI) vwCl [(o, .inr (3, [.ref k, .ref op, .int 0, .ref oq, .ref ov, .ref os])), (os, .inl (cI, 5, .inl (upd (upd (upd (upd (fun _ => 0) 0 0) 1 0) 2 0) 3 0))), (k, .inr (0, [.ref ks, .ref kw, .ref kc, .int (-6), .int 0, .int 0, .ref kq, .ref km, .ref kd, .int 0, .ref ka, .ref kk])), (ks, .inl (cI, 5, .inl (upd (fun _ => 0) 0 800))), (kw, .inl (cI, 14, .inl (fun _ => 0)))] H := hP
    replace hD : va_D A [(o, .inr (3, [.ref k, .ref op, .int 0, .ref oq, .ref ov, .ref os])), (os, .inl (cI, 5, .inl (upd (upd (upd (upd (fun _ => 0) 0 0) 1 0) 2 0) 3 0))), (k, .inr (0, [.ref ks, .ref kw, .ref kc, .int (-6), .int 0, .int 0, .ref kq, .ref km, .ref kd, .int 0, .ref ka, .ref kk])), (ks, .inl (cI, 5, .inl (upd (fun _ => 0) 0 800))), (kw, .inl (cI, 14, .inl (fun _ => 0)))] := hD
    refine lv_iinc (v := 4) (lv' := [(2, .int 4), (0, .ref o), (1, .int 12)]) hx hb dX3_countSlots_14 hl (k := 0) rfl (by decide) (by decide) rfl (fun ls hl => ?_)
    refine lv_goto (tgt := 2) hx hb dX3_countSlots_17 (by decide) ?_
    refine lv_iload_n hx hb dX3_countSlots_2 rfl (lv_at hl 0 rfl) ?_
    refine lv_iconst (v := 4) hx hb dX3_countSlots_3 (by decide) ?_
    refine lv_icmp_gt (tgt := 20) hx hb dX3_countSlots_4 (by decide) (fun c413 => absurd c413 (by decide)) (fun c413 => ?_)
    refine lv_aload_n hx hb dX3_countSlots_7 rfl (lv_at hl 1 rfl) ?_
    refine va_get (D := (dC, dI)) (ci := 3) (v := .ref os) (C := RX3) (T := TX3) (N := 6) hx hb hts hin3 hown hK hP 0 rfl rfl 5 (by decide) hw0 (fun _ h9 => h9) rfl dX3_countSlots_8 ?_
    refine lv_iload_n hx hb dX3_countSlots_11 rfl (lv_at hl 0 rfl) ?_
    refine lv_iconst (v := 0) hx hb dX3_countSlots_12 (by decide) ?_
    refine va_iast hx hb hK hP hD hS 1 0 rfl rfl (vin (by decide) (by decide)) dX3_countSlots_13 (fun H locs hP hD hS => ?_)
    replace hP : va_P (dC, dI) vwCl [(o, .inr (3, [.ref k, .ref op, .int 0, .ref oq, .ref ov, .ref os])), (os, .inl (cI, 5, .inl (upd (upd (upd (upd (upd (fun _ => 0) 0 0) 1 0) 2 0) 3 0) 4 0))), (k, .inr (0, [.ref ks, .ref kw, .ref kc, .int (-6), .int 0, .int 0, .ref kq, .ref km, .ref kd, .int 0, .ref ka, .ref kk])), (ks, .inl (cI, 5, .inl (upd (fun _ => 0) 0 800))), (kw, .inl (cI, 14, .inl (fun _ => 0)))] H := hP
    replace hD : va_D A [(o, .inr (3, [.ref k, .ref op, .int 0, .ref oq, .ref ov, .ref os])), (os, .inl (cI, 5, .inl (upd (upd (upd (upd (upd (fun _ => 0) 0 0) 1 0) 2 0) 3 0) 4 0))), (k, .inr (0, [.ref ks, .ref kw, .ref kc, .int (-6), .int 0, .int 0, .ref kq, .ref km, .ref kd, .int 0, .ref ka, .ref kk])), (ks, .inl (cI, 5, .inl (upd (fun _ => 0) 0 800))), (kw, .inl (cI, 14, .inl (fun _ => 0)))] := hD
    refine lv_iinc (v := 5) (lv' := [(2, .int 5), (0, .ref o), (1, .int 12)]) hx hb dX3_countSlots_14 hl (k := 0) rfl (by decide) (by decide) rfl (fun ls hl => ?_)
    refine lv_goto (tgt := 2) hx hb dX3_countSlots_17 (by decide) ?_
    refine lv_iload_n hx hb dX3_countSlots_2 rfl (lv_at hl 0 rfl) ?_
    refine lv_iconst (v := 4) hx hb dX3_countSlots_3 (by decide) ?_
    refine lv_icmp_gt (tgt := 20) hx hb dX3_countSlots_4 (by decide) (fun c414 => ?_) (fun c414 => absurd c414 (by decide))
    refine lv_aload_n hx hb dX3_countSlots_20 rfl (lv_at hl 1 rfl) ?_
    refine va_get (D := (dC, dI)) (ci := 3) (v := .ref k) (C := RX3) (T := TX3) (N := 6) hx hb hts hin3 hown hK hP 0 rfl rfl 0 (by decide) hw1 (fun _ h9 => h9) rfl dX3_countSlots_21 ?_
    refine va_get (D := (dC, dI)) (ci := 0) (v := .ref ks) (C := RX0) (T := TX0) (N := 12) hx hb hts hin0 hown hK hP 2 rfl rfl 0 (by decide) hw2 (fun _ h9 => h9) rfl dX3_countSlots_24 ?_
    refine lv_iconst (v := 4) hx hb dX3_countSlots_27 (by decide) ?_
    refine va_iald hx hb hK hP 3 0 rfl rfl (vin (by decide) (by decide)) dX3_countSlots_28 ?_
    refine lv_topi (fun x415 e415 => ?_)
    obtain rfl : x415 = 0 := e415.trans (by first | rfl | decide)
    refine lv_istore_n (lv' := [(2, .int 0), (0, .ref o), (1, .int 12)]) hx hb dX3_countSlots_29 rfl hl (by decide) rfl (fun ls hl => ?_)
    refine lv_iload_n hx hb dX3_countSlots_30 rfl (lv_at hl 0 rfl) ?_
    refine lv_iload_n hx hb dX3_countSlots_31 rfl (lv_at hl 2 rfl) ?_
    refine lv_icmp_gt (tgt := 59) hx hb dX3_countSlots_32 (by decide) (fun c416 => absurd c416 (by decide)) (fun c416 => ?_)
    refine lv_aload_n hx hb dX3_countSlots_35 rfl (lv_at hl 1 rfl) ?_
    refine va_get (D := (dC, dI)) (ci := 3) (v := .ref os) (C := RX3) (T := TX3) (N := 6) hx hb hts hin3 hown hK hP 0 rfl rfl 5 (by decide) hw0 (fun _ h9 => h9) rfl dX3_countSlots_36 ?_
    refine lv_aload_n hx hb dX3_countSlots_39 rfl (lv_at hl 1 rfl) ?_
    refine va_get (D := (dC, dI)) (ci := 3) (v := .ref k) (C := RX3) (T := TX3) (N := 6) hx hb hts hin3 hown hK hP 0 rfl rfl 0 (by decide) hw1 (fun _ h9 => h9) rfl dX3_countSlots_40 ?_
    refine lv_iload_n hx hb dX3_countSlots_43 rfl (lv_at hl 0 rfl) ?_
    refine lv_iconst (v := 0) hx hb dX3_countSlots_44 (by decide) ?_
    refine mx_i (wr := [(o, .inr (3, [.ref k, .ref op, .int 0, .ref oq, .ref ov, .ref os])), (os, .inl (cI, 5, .inl (upd (upd (upd (upd (upd (fun _ => 0) 0 0) 1 0) 2 0) 3 0) 4 0)))]) (va_runV (As := [.int 0, .int 0]) (rest := [.ref os]) ⟨hx, hb, hml, hown, hts⟩ (c_X0_windOn l dC dI cI cZ cK tS aK aV k ks kw kc kq km kd ka kk 0 H.size (by have z8 : (0 : Int32).toInt = 0 := rfl; first | omega | decide | assumption | trivial)) (cwV 2 hts (gw_v (fun _ h9 => List.mem_cons_of_mem _ h9) wm_169 wm_170 wm_171 wm_10 wm_172) rfl rfl rfl (by decide +kernel) ⟨Nat.le_of_ble_eq_true rfl, Nat.le_of_ble_eq_true rfl⟩) (mx_preV (C := RX0) (T := TX0) (N := 12) (ci := 0) hKx hP hD hS hA [2, 3, 4] (by decide) rfl rfl rfl) rfl rfl hl.1 rfl (lv_room (Nat.le_of_ble_eq_true rfl)) dX3_countSlots_45 ⟨Nat.le_of_ble_eq_true rfl, Nat.le_of_ble_eq_true rfl⟩) hP hD hS hA [2, 3, 4] [0, 1] rfl rfl (by decide) (by decide) (fun r417 u417 H locs hq417 hP hD hS => ?_)
    replace hP : va_P (dC, dI) vwCl [(o, .inr (3, [.ref k, .ref op, .int 0, .ref oq, .ref ov, .ref os])), (os, .inl (cI, 5, .inl (upd (upd (upd (upd (upd (fun _ => 0) 0 0) 1 0) 2 0) 3 0) 4 0))), (k, .inr (0, [.ref ks, .ref kw, .ref kc, .int (-6), .int 0, .int 0, .ref kq, .ref km, .ref kd, .int 0, .ref ka, .ref kk])), (ks, .inl (cI, 5, .inl (upd (fun _ => 0) 0 800))), (kw, .inl (cI, 14, .inl (fun _ => 0)))] H := hP
    replace hD : va_D A [(o, .inr (3, [.ref k, .ref op, .int 0, .ref oq, .ref ov, .ref os])), (os, .inl (cI, 5, .inl (upd (upd (upd (upd (upd (fun _ => 0) 0 0) 1 0) 2 0) 3 0) 4 0))), (k, .inr (0, [.ref ks, .ref kw, .ref kc, .int (-6), .int 0, .int 0, .ref kq, .ref km, .ref kd, .int 0, .ref ka, .ref kk])), (ks, .inl (cI, 5, .inl (upd (fun _ => 0) 0 800))), (kw, .inl (cI, 14, .inl (fun _ => 0)))] := hD
    obtain rfl : r417 = 0 := hq417
    refine lv_dup2_11 hx hb dX3_countSlots_48 rfl rfl ?_
    refine va_iald hx hb hK hP 1 0 rfl rfl (vin (by decide) (by decide)) dX3_countSlots_49 ?_
    refine lv_topi (fun x418 e418 => ?_)
    obtain rfl : x418 = 0 := e418.trans (by first | rfl | decide)
    refine lv_iconst (v := 2) hx hb dX3_countSlots_50 (by decide) ?_
    refine lv_iadd hx hb dX3_countSlots_51 ?_
    refine lv_topi (fun x419 e419 => ?_)
    obtain rfl : x419 = 2 := e419.trans (by decide)
    refine va_iast hx hb hK hP hD hS 1 0 rfl rfl (vin (by decide) (by decide)) dX3_countSlots_52 (fun H locs hP hD hS => ?_)
    replace hP : va_P (dC, dI) vwCl [(o, .inr (3, [.ref k, .ref op, .int 0, .ref oq, .ref ov, .ref os])), (os, .inl (cI, 5, .inl (upd (upd (upd (upd (upd (upd (fun _ => 0) 0 0) 1 0) 2 0) 3 0) 4 0) 0 2))), (k, .inr (0, [.ref ks, .ref kw, .ref kc, .int (-6), .int 0, .int 0, .ref kq, .ref km, .ref kd, .int 0, .ref ka, .ref kk])), (ks, .inl (cI, 5, .inl (upd (fun _ => 0) 0 800))), (kw, .inl (cI, 14, .inl (fun _ => 0)))] H := hP
    replace hD : va_D A [(o, .inr (3, [.ref k, .ref op, .int 0, .ref oq, .ref ov, .ref os])), (os, .inl (cI, 5, .inl (upd (upd (upd (upd (upd (upd (fun _ => 0) 0 0) 1 0) 2 0) 3 0) 4 0) 0 2))), (k, .inr (0, [.ref ks, .ref kw, .ref kc, .int (-6), .int 0, .int 0, .ref kq, .ref km, .ref kd, .int 0, .ref ka, .ref kk])), (ks, .inl (cI, 5, .inl (upd (fun _ => 0) 0 800))), (kw, .inl (cI, 14, .inl (fun _ => 0)))] := hD
    refine lv_iinc (v := 1) (lv' := [(2, .int 1), (0, .ref o), (1, .int 12)]) hx hb dX3_countSlots_53 hl (k := 0) rfl (by decide) (by decide) rfl (fun ls hl => ?_)
    refine lv_goto (tgt := 30) hx hb dX3_countSlots_56 (by decide) ?_
    refine lv_iload_n hx hb dX3_countSlots_30 rfl (lv_at hl 0 rfl) ?_
    refine lv_iload_n hx hb dX3_countSlots_31 rfl (lv_at hl 2 rfl) ?_
    refine lv_icmp_gt (tgt := 59) hx hb dX3_countSlots_32 (by decide) (fun c420 => absurd c420 (by decide)) (fun c420 => ?_)
    refine lv_aload_n hx hb dX3_countSlots_35 rfl (lv_at hl 1 rfl) ?_
    refine va_get (D := (dC, dI)) (ci := 3) (v := .ref os) (C := RX3) (T := TX3) (N := 6) hx hb hts hin3 hown hK hP 0 rfl rfl 5 (by decide) hw0 (fun _ h9 => h9) rfl dX3_countSlots_36 ?_
    refine lv_aload_n hx hb dX3_countSlots_39 rfl (lv_at hl 1 rfl) ?_
    refine va_get (D := (dC, dI)) (ci := 3) (v := .ref k) (C := RX3) (T := TX3) (N := 6) hx hb hts hin3 hown hK hP 0 rfl rfl 0 (by decide) hw1 (fun _ h9 => h9) rfl dX3_countSlots_40 ?_
    refine lv_iload_n hx hb dX3_countSlots_43 rfl (lv_at hl 0 rfl) ?_
    refine lv_iconst (v := 0) hx hb dX3_countSlots_44 (by decide) ?_
    refine mx_i (wr := [(o, .inr (3, [.ref k, .ref op, .int 0, .ref oq, .ref ov, .ref os])), (os, .inl (cI, 5, .inl (upd (upd (upd (upd (upd (upd (fun _ => 0) 0 0) 1 0) 2 0) 3 0) 4 0) 0 2)))]) (va_runV (As := [.int 1, .int 0]) (rest := [.ref os]) ⟨hx, hb, hml, hown, hts⟩ (c_X0_windOn l dC dI cI cZ cK tS aK aV k ks kw kc kq km kd ka kk 1 H.size (by have z8 : (1 : Int32).toInt = 1 := rfl; first | omega | decide | assumption | trivial)) (cwV 2 hts (gw_v (fun _ h9 => List.mem_cons_of_mem _ h9) wm_169 wm_170 wm_171 wm_10 wm_172) rfl rfl rfl (by decide +kernel) ⟨Nat.le_of_ble_eq_true rfl, Nat.le_of_ble_eq_true rfl⟩) (mx_preV (C := RX0) (T := TX0) (N := 12) (ci := 0) hKx hP hD hS hA [2, 3, 4] (by decide) rfl rfl rfl) rfl rfl hl.1 rfl (lv_room (Nat.le_of_ble_eq_true rfl)) dX3_countSlots_45 ⟨Nat.le_of_ble_eq_true rfl, Nat.le_of_ble_eq_true rfl⟩) hP hD hS hA [2, 3, 4] [0, 1] rfl rfl (by decide) (by decide) (fun r421 u421 H locs hq421 hP hD hS => ?_)
    replace hP : va_P (dC, dI) vwCl [(o, .inr (3, [.ref k, .ref op, .int 0, .ref oq, .ref ov, .ref os])), (os, .inl (cI, 5, .inl (upd (upd (upd (upd (upd (upd (fun _ => 0) 0 0) 1 0) 2 0) 3 0) 4 0) 0 2))), (k, .inr (0, [.ref ks, .ref kw, .ref kc, .int (-6), .int 0, .int 0, .ref kq, .ref km, .ref kd, .int 0, .ref ka, .ref kk])), (ks, .inl (cI, 5, .inl (upd (fun _ => 0) 0 800))), (kw, .inl (cI, 14, .inl (fun _ => 0)))] H := hP
    replace hD : va_D A [(o, .inr (3, [.ref k, .ref op, .int 0, .ref oq, .ref ov, .ref os])), (os, .inl (cI, 5, .inl (upd (upd (upd (upd (upd (upd (fun _ => 0) 0 0) 1 0) 2 0) 3 0) 4 0) 0 2))), (k, .inr (0, [.ref ks, .ref kw, .ref kc, .int (-6), .int 0, .int 0, .ref kq, .ref km, .ref kd, .int 0, .ref ka, .ref kk])), (ks, .inl (cI, 5, .inl (upd (fun _ => 0) 0 800))), (kw, .inl (cI, 14, .inl (fun _ => 0)))] := hD
    obtain rfl : r421 = 0 := hq421
    refine lv_dup2_11 hx hb dX3_countSlots_48 rfl rfl ?_
    refine va_iald hx hb hK hP 1 0 rfl rfl (vin (by decide) (by decide)) dX3_countSlots_49 ?_
    refine lv_topi (fun x422 e422 => ?_)
    obtain rfl : x422 = 2 := e422.trans (by first | rfl | decide)
    refine lv_iconst (v := 2) hx hb dX3_countSlots_50 (by decide) ?_
    refine lv_iadd hx hb dX3_countSlots_51 ?_
    refine lv_topi (fun x423 e423 => ?_)
    obtain rfl : x423 = 4 := e423.trans (by decide)
    refine va_iast hx hb hK hP hD hS 1 0 rfl rfl (vin (by decide) (by decide)) dX3_countSlots_52 (fun H locs hP hD hS => ?_)
    replace hP : va_P (dC, dI) vwCl [(o, .inr (3, [.ref k, .ref op, .int 0, .ref oq, .ref ov, .ref os])), (os, .inl (cI, 5, .inl (upd (upd (upd (upd (upd (upd (upd (fun _ => 0) 0 0) 1 0) 2 0) 3 0) 4 0) 0 2) 0 4))), (k, .inr (0, [.ref ks, .ref kw, .ref kc, .int (-6), .int 0, .int 0, .ref kq, .ref km, .ref kd, .int 0, .ref ka, .ref kk])), (ks, .inl (cI, 5, .inl (upd (fun _ => 0) 0 800))), (kw, .inl (cI, 14, .inl (fun _ => 0)))] H := hP
    replace hD : va_D A [(o, .inr (3, [.ref k, .ref op, .int 0, .ref oq, .ref ov, .ref os])), (os, .inl (cI, 5, .inl (upd (upd (upd (upd (upd (upd (upd (fun _ => 0) 0 0) 1 0) 2 0) 3 0) 4 0) 0 2) 0 4))), (k, .inr (0, [.ref ks, .ref kw, .ref kc, .int (-6), .int 0, .int 0, .ref kq, .ref km, .ref kd, .int 0, .ref ka, .ref kk])), (ks, .inl (cI, 5, .inl (upd (fun _ => 0) 0 800))), (kw, .inl (cI, 14, .inl (fun _ => 0)))] := hD
    refine lv_iinc (v := 2) (lv' := [(2, .int 2), (0, .ref o), (1, .int 12)]) hx hb dX3_countSlots_53 hl (k := 0) rfl (by decide) (by decide) rfl (fun ls hl => ?_)
    refine lv_goto (tgt := 30) hx hb dX3_countSlots_56 (by decide) ?_
    refine lv_iload_n hx hb dX3_countSlots_30 rfl (lv_at hl 0 rfl) ?_
    refine lv_iload_n hx hb dX3_countSlots_31 rfl (lv_at hl 2 rfl) ?_
    refine lv_icmp_gt (tgt := 59) hx hb dX3_countSlots_32 (by decide) (fun c424 => absurd c424 (by decide)) (fun c424 => ?_)
    refine lv_aload_n hx hb dX3_countSlots_35 rfl (lv_at hl 1 rfl) ?_
    refine va_get (D := (dC, dI)) (ci := 3) (v := .ref os) (C := RX3) (T := TX3) (N := 6) hx hb hts hin3 hown hK hP 0 rfl rfl 5 (by decide) hw0 (fun _ h9 => h9) rfl dX3_countSlots_36 ?_
    refine lv_aload_n hx hb dX3_countSlots_39 rfl (lv_at hl 1 rfl) ?_
    refine va_get (D := (dC, dI)) (ci := 3) (v := .ref k) (C := RX3) (T := TX3) (N := 6) hx hb hts hin3 hown hK hP 0 rfl rfl 0 (by decide) hw1 (fun _ h9 => h9) rfl dX3_countSlots_40 ?_
    refine lv_iload_n hx hb dX3_countSlots_43 rfl (lv_at hl 0 rfl) ?_
    refine lv_iconst (v := 0) hx hb dX3_countSlots_44 (by decide) ?_
    refine mx_i (wr := [(o, .inr (3, [.ref k, .ref op, .int 0, .ref oq, .ref ov, .ref os])), (os, .inl (cI, 5, .inl (upd (upd (upd (upd (upd (upd (upd (fun _ => 0) 0 0) 1 0) 2 0) 3 0) 4 0) 0 2) 0 4)))]) (va_runV (As := [.int 2, .int 0]) (rest := [.ref os]) ⟨hx, hb, hml, hown, hts⟩ (c_X0_windOn l dC dI cI cZ cK tS aK aV k ks kw kc kq km kd ka kk 2 H.size (by have z8 : (2 : Int32).toInt = 2 := rfl; first | omega | decide | assumption | trivial)) (cwV 2 hts (gw_v (fun _ h9 => List.mem_cons_of_mem _ h9) wm_169 wm_170 wm_171 wm_10 wm_172) rfl rfl rfl (by decide +kernel) ⟨Nat.le_of_ble_eq_true rfl, Nat.le_of_ble_eq_true rfl⟩) (mx_preV (C := RX0) (T := TX0) (N := 12) (ci := 0) hKx hP hD hS hA [2, 3, 4] (by decide) rfl rfl rfl) rfl rfl hl.1 rfl (lv_room (Nat.le_of_ble_eq_true rfl)) dX3_countSlots_45 ⟨Nat.le_of_ble_eq_true rfl, Nat.le_of_ble_eq_true rfl⟩) hP hD hS hA [2, 3, 4] [0, 1] rfl rfl (by decide) (by decide) (fun r425 u425 H locs hq425 hP hD hS => ?_)
    replace hP : va_P (dC, dI) vwCl [(o, .inr (3, [.ref k, .ref op, .int 0, .ref oq, .ref ov, .ref os])), (os, .inl (cI, 5, .inl (upd (upd (upd (upd (upd (upd (upd (fun _ => 0) 0 0) 1 0) 2 0) 3 0) 4 0) 0 2) 0 4))), (k, .inr (0, [.ref ks, .ref kw, .ref kc, .int (-6), .int 0, .int 0, .ref kq, .ref km, .ref kd, .int 0, .ref ka, .ref kk])), (ks, .inl (cI, 5, .inl (upd (fun _ => 0) 0 800))), (kw, .inl (cI, 14, .inl (fun _ => 0)))] H := hP
    replace hD : va_D A [(o, .inr (3, [.ref k, .ref op, .int 0, .ref oq, .ref ov, .ref os])), (os, .inl (cI, 5, .inl (upd (upd (upd (upd (upd (upd (upd (fun _ => 0) 0 0) 1 0) 2 0) 3 0) 4 0) 0 2) 0 4))), (k, .inr (0, [.ref ks, .ref kw, .ref kc, .int (-6), .int 0, .int 0, .ref kq, .ref km, .ref kd, .int 0, .ref ka, .ref kk])), (ks, .inl (cI, 5, .inl (upd (fun _ => 0) 0 800))), (kw, .inl (cI, 14, .inl (fun _ => 0)))] := hD
    obtain rfl : r425 = 0 := hq425
    refine lv_dup2_11 hx hb dX3_countSlots_48 rfl rfl ?_
    refine va_iald hx hb hK hP 1 0 rfl rfl (vin (by decide) (by decide)) dX3_countSlots_49 ?_
    refine lv_topi (fun x426 e426 => ?_)
    obtain rfl : x426 = 4 := e426.trans (by first | rfl | decide)
    refine lv_iconst (v := 2) hx hb dX3_countSlots_50 (by decide) ?_
    refine lv_iadd hx hb dX3_countSlots_51 ?_
    refine lv_topi (fun x427 e427 => ?_)
    obtain rfl : x427 = 6 := e427.trans (by decide)
    refine va_iast hx hb hK hP hD hS 1 0 rfl rfl (vin (by decide) (by decide)) dX3_countSlots_52 (fun H locs hP hD hS => ?_)
    replace hP : va_P (dC, dI) vwCl [(o, .inr (3, [.ref k, .ref op, .int 0, .ref oq, .ref ov, .ref os])), (os, .inl (cI, 5, .inl (upd (upd (upd (upd (upd (upd (upd (upd (fun _ => 0) 0 0) 1 0) 2 0) 3 0) 4 0) 0 2) 0 4) 0 6))), (k, .inr (0, [.ref ks, .ref kw, .ref kc, .int (-6), .int 0, .int 0, .ref kq, .ref km, .ref kd, .int 0, .ref ka, .ref kk])), (ks, .inl (cI, 5, .inl (upd (fun _ => 0) 0 800))), (kw, .inl (cI, 14, .inl (fun _ => 0)))] H := hP
    replace hD : va_D A [(o, .inr (3, [.ref k, .ref op, .int 0, .ref oq, .ref ov, .ref os])), (os, .inl (cI, 5, .inl (upd (upd (upd (upd (upd (upd (upd (upd (fun _ => 0) 0 0) 1 0) 2 0) 3 0) 4 0) 0 2) 0 4) 0 6))), (k, .inr (0, [.ref ks, .ref kw, .ref kc, .int (-6), .int 0, .int 0, .ref kq, .ref km, .ref kd, .int 0, .ref ka, .ref kk])), (ks, .inl (cI, 5, .inl (upd (fun _ => 0) 0 800))), (kw, .inl (cI, 14, .inl (fun _ => 0)))] := hD
    refine lv_iinc (v := 3) (lv' := [(2, .int 3), (0, .ref o), (1, .int 12)]) hx hb dX3_countSlots_53 hl (k := 0) rfl (by decide) (by decide) rfl (fun ls hl => ?_)
    refine lv_goto (tgt := 30) hx hb dX3_countSlots_56 (by decide) ?_
    refine lv_iload_n hx hb dX3_countSlots_30 rfl (lv_at hl 0 rfl) ?_
    refine lv_iload_n hx hb dX3_countSlots_31 rfl (lv_at hl 2 rfl) ?_
    refine lv_icmp_gt (tgt := 59) hx hb dX3_countSlots_32 (by decide) (fun c428 => absurd c428 (by decide)) (fun c428 => ?_)
    refine lv_aload_n hx hb dX3_countSlots_35 rfl (lv_at hl 1 rfl) ?_
    refine va_get (D := (dC, dI)) (ci := 3) (v := .ref os) (C := RX3) (T := TX3) (N := 6) hx hb hts hin3 hown hK hP 0 rfl rfl 5 (by decide) hw0 (fun _ h9 => h9) rfl dX3_countSlots_36 ?_
    refine lv_aload_n hx hb dX3_countSlots_39 rfl (lv_at hl 1 rfl) ?_
    refine va_get (D := (dC, dI)) (ci := 3) (v := .ref k) (C := RX3) (T := TX3) (N := 6) hx hb hts hin3 hown hK hP 0 rfl rfl 0 (by decide) hw1 (fun _ h9 => h9) rfl dX3_countSlots_40 ?_
    refine lv_iload_n hx hb dX3_countSlots_43 rfl (lv_at hl 0 rfl) ?_
    refine lv_iconst (v := 0) hx hb dX3_countSlots_44 (by decide) ?_
    refine mx_i (wr := [(o, .inr (3, [.ref k, .ref op, .int 0, .ref oq, .ref ov, .ref os])), (os, .inl (cI, 5, .inl (upd (upd (upd (upd (upd (upd (upd (upd (fun _ => 0) 0 0) 1 0) 2 0) 3 0) 4 0) 0 2) 0 4) 0 6)))]) (va_runV (As := [.int 3, .int 0]) (rest := [.ref os]) ⟨hx, hb, hml, hown, hts⟩ (c_X0_windOn l dC dI cI cZ cK tS aK aV k ks kw kc kq km kd ka kk 3 H.size (by have z8 : (3 : Int32).toInt = 3 := rfl; first | omega | decide | assumption | trivial)) (cwV 2 hts (gw_v (fun _ h9 => List.mem_cons_of_mem _ h9) wm_169 wm_170 wm_171 wm_10 wm_172) rfl rfl rfl (by decide +kernel) ⟨Nat.le_of_ble_eq_true rfl, Nat.le_of_ble_eq_true rfl⟩) (mx_preV (C := RX0) (T := TX0) (N := 12) (ci := 0) hKx hP hD hS hA [2, 3, 4] (by decide) rfl rfl rfl) rfl rfl hl.1 rfl (lv_room (Nat.le_of_ble_eq_true rfl)) dX3_countSlots_45 ⟨Nat.le_of_ble_eq_true rfl, Nat.le_of_ble_eq_true rfl⟩) hP hD hS hA [2, 3, 4] [0, 1] rfl rfl (by decide) (by decide) (fun r429 u429 H locs hq429 hP hD hS => ?_)
    replace hP : va_P (dC, dI) vwCl [(o, .inr (3, [.ref k, .ref op, .int 0, .ref oq, .ref ov, .ref os])), (os, .inl (cI, 5, .inl (upd (upd (upd (upd (upd (upd (upd (upd (fun _ => 0) 0 0) 1 0) 2 0) 3 0) 4 0) 0 2) 0 4) 0 6))), (k, .inr (0, [.ref ks, .ref kw, .ref kc, .int (-6), .int 0, .int 0, .ref kq, .ref km, .ref kd, .int 0, .ref ka, .ref kk])), (ks, .inl (cI, 5, .inl (upd (fun _ => 0) 0 800))), (kw, .inl (cI, 14, .inl (fun _ => 0)))] H := hP
    replace hD : va_D A [(o, .inr (3, [.ref k, .ref op, .int 0, .ref oq, .ref ov, .ref os])), (os, .inl (cI, 5, .inl (upd (upd (upd (upd (upd (upd (upd (upd (fun _ => 0) 0 0) 1 0) 2 0) 3 0) 4 0) 0 2) 0 4) 0 6))), (k, .inr (0, [.ref ks, .ref kw, .ref kc, .int (-6), .int 0, .int 0, .ref kq, .ref km, .ref kd, .int 0, .ref ka, .ref kk])), (ks, .inl (cI, 5, .inl (upd (fun _ => 0) 0 800))), (kw, .inl (cI, 14, .inl (fun _ => 0)))] := hD
    obtain rfl : r429 = 0 := hq429
    refine lv_dup2_11 hx hb dX3_countSlots_48 rfl rfl ?_
    refine va_iald hx hb hK hP 1 0 rfl rfl (vin (by decide) (by decide)) dX3_countSlots_49 ?_
    refine lv_topi (fun x430 e430 => ?_)
    obtain rfl : x430 = 6 := e430.trans (by first | rfl | decide)
    refine lv_iconst (v := 2) hx hb dX3_countSlots_50 (by decide) ?_
    refine lv_iadd hx hb dX3_countSlots_51 ?_
    refine lv_topi (fun x431 e431 => ?_)
    obtain rfl : x431 = 8 := e431.trans (by decide)
    refine va_iast hx hb hK hP hD hS 1 0 rfl rfl (vin (by decide) (by decide)) dX3_countSlots_52 (fun H locs hP hD hS => ?_)
    replace hP : va_P (dC, dI) vwCl [(o, .inr (3, [.ref k, .ref op, .int 0, .ref oq, .ref ov, .ref os])), (os, .inl (cI, 5, .inl (upd (upd (upd (upd (upd (upd (upd (upd (upd (fun _ => 0) 0 0) 1 0) 2 0) 3 0) 4 0) 0 2) 0 4) 0 6) 0 8))), (k, .inr (0, [.ref ks, .ref kw, .ref kc, .int (-6), .int 0, .int 0, .ref kq, .ref km, .ref kd, .int 0, .ref ka, .ref kk])), (ks, .inl (cI, 5, .inl (upd (fun _ => 0) 0 800))), (kw, .inl (cI, 14, .inl (fun _ => 0)))] H := hP
    replace hD : va_D A [(o, .inr (3, [.ref k, .ref op, .int 0, .ref oq, .ref ov, .ref os])), (os, .inl (cI, 5, .inl (upd (upd (upd (upd (upd (upd (upd (upd (upd (fun _ => 0) 0 0) 1 0) 2 0) 3 0) 4 0) 0 2) 0 4) 0 6) 0 8))), (k, .inr (0, [.ref ks, .ref kw, .ref kc, .int (-6), .int 0, .int 0, .ref kq, .ref km, .ref kd, .int 0, .ref ka, .ref kk])), (ks, .inl (cI, 5, .inl (upd (fun _ => 0) 0 800))), (kw, .inl (cI, 14, .inl (fun _ => 0)))] := hD
    refine lv_iinc (v := 4) (lv' := [(2, .int 4), (0, .ref o), (1, .int 12)]) hx hb dX3_countSlots_53 hl (k := 0) rfl (by decide) (by decide) rfl (fun ls hl => ?_)
    refine lv_goto (tgt := 30) hx hb dX3_countSlots_56 (by decide) ?_
    refine lv_iload_n hx hb dX3_countSlots_30 rfl (lv_at hl 0 rfl) ?_
    refine lv_iload_n hx hb dX3_countSlots_31 rfl (lv_at hl 2 rfl) ?_
    refine lv_icmp_gt (tgt := 59) hx hb dX3_countSlots_32 (by decide) (fun c432 => absurd c432 (by decide)) (fun c432 => ?_)
    refine lv_aload_n hx hb dX3_countSlots_35 rfl (lv_at hl 1 rfl) ?_
    refine va_get (D := (dC, dI)) (ci := 3) (v := .ref os) (C := RX3) (T := TX3) (N := 6) hx hb hts hin3 hown hK hP 0 rfl rfl 5 (by decide) hw0 (fun _ h9 => h9) rfl dX3_countSlots_36 ?_
    refine lv_aload_n hx hb dX3_countSlots_39 rfl (lv_at hl 1 rfl) ?_
    refine va_get (D := (dC, dI)) (ci := 3) (v := .ref k) (C := RX3) (T := TX3) (N := 6) hx hb hts hin3 hown hK hP 0 rfl rfl 0 (by decide) hw1 (fun _ h9 => h9) rfl dX3_countSlots_40 ?_
    refine lv_iload_n hx hb dX3_countSlots_43 rfl (lv_at hl 0 rfl) ?_
    refine lv_iconst (v := 0) hx hb dX3_countSlots_44 (by decide) ?_
    refine mx_i (wr := [(o, .inr (3, [.ref k, .ref op, .int 0, .ref oq, .ref ov, .ref os])), (os, .inl (cI, 5, .inl (upd (upd (upd (upd (upd (upd (upd (upd (upd (fun _ => 0) 0 0) 1 0) 2 0) 3 0) 4 0) 0 2) 0 4) 0 6) 0 8)))]) (va_runV (As := [.int 4, .int 0]) (rest := [.ref os]) ⟨hx, hb, hml, hown, hts⟩ (c_X0_windOn l dC dI cI cZ cK tS aK aV k ks kw kc kq km kd ka kk 4 H.size (by have z8 : (4 : Int32).toInt = 4 := rfl; first | omega | decide | assumption | trivial)) (cwV 2 hts (gw_v (fun _ h9 => List.mem_cons_of_mem _ h9) wm_169 wm_170 wm_171 wm_10 wm_172) rfl rfl rfl (by decide +kernel) ⟨Nat.le_of_ble_eq_true rfl, Nat.le_of_ble_eq_true rfl⟩) (mx_preV (C := RX0) (T := TX0) (N := 12) (ci := 0) hKx hP hD hS hA [2, 3, 4] (by decide) rfl rfl rfl) rfl rfl hl.1 rfl (lv_room (Nat.le_of_ble_eq_true rfl)) dX3_countSlots_45 ⟨Nat.le_of_ble_eq_true rfl, Nat.le_of_ble_eq_true rfl⟩) hP hD hS hA [2, 3, 4] [0, 1] rfl rfl (by decide) (by decide) (fun r433 u433 H locs hq433 hP hD hS => ?_)
    replace hP : va_P (dC, dI) vwCl [(o, .inr (3, [.ref k, .ref op, .int 0, .ref oq, .ref ov, .ref os])), (os, .inl (cI, 5, .inl (upd (upd (upd (upd (upd (upd (upd (upd (upd (fun _ => 0) 0 0) 1 0) 2 0) 3 0) 4 0) 0 2) 0 4) 0 6) 0 8))), (k, .inr (0, [.ref ks, .ref kw, .ref kc, .int (-6), .int 0, .int 0, .ref kq, .ref km, .ref kd, .int 0, .ref ka, .ref kk])), (ks, .inl (cI, 5, .inl (upd (fun _ => 0) 0 800))), (kw, .inl (cI, 14, .inl (fun _ => 0)))] H := hP
    replace hD : va_D A [(o, .inr (3, [.ref k, .ref op, .int 0, .ref oq, .ref ov, .ref os])), (os, .inl (cI, 5, .inl (upd (upd (upd (upd (upd (upd (upd (upd (upd (fun _ => 0) 0 0) 1 0) 2 0) 3 0) 4 0) 0 2) 0 4) 0 6) 0 8))), (k, .inr (0, [.ref ks, .ref kw, .ref kc, .int (-6), .int 0, .int 0, .ref kq, .ref km, .ref kd, .int 0, .ref ka, .ref kk])), (ks, .inl (cI, 5, .inl (upd (fun _ => 0) 0 800))), (kw, .inl (cI, 14, .inl (fun _ => 0)))] := hD
    obtain rfl : r433 = 0 := hq433
    refine lv_dup2_11 hx hb dX3_countSlots_48 rfl rfl ?_
    refine va_iald hx hb hK hP 1 0 rfl rfl (vin (by decide) (by decide)) dX3_countSlots_49 ?_
    refine lv_topi (fun x434 e434 => ?_)
    obtain rfl : x434 = 8 := e434.trans (by first | rfl | decide)
    refine lv_iconst (v := 2) hx hb dX3_countSlots_50 (by decide) ?_
    refine lv_iadd hx hb dX3_countSlots_51 ?_
    refine lv_topi (fun x435 e435 => ?_)
    obtain rfl : x435 = 10 := e435.trans (by decide)
    refine va_iast hx hb hK hP hD hS 1 0 rfl rfl (vin (by decide) (by decide)) dX3_countSlots_52 (fun H locs hP hD hS => ?_)
    replace hP : va_P (dC, dI) vwCl [(o, .inr (3, [.ref k, .ref op, .int 0, .ref oq, .ref ov, .ref os])), (os, .inl (cI, 5, .inl (upd (upd (upd (upd (upd (upd (upd (upd (upd (upd (fun _ => 0) 0 0) 1 0) 2 0) 3 0) 4 0) 0 2) 0 4) 0 6) 0 8) 0 10))), (k, .inr (0, [.ref ks, .ref kw, .ref kc, .int (-6), .int 0, .int 0, .ref kq, .ref km, .ref kd, .int 0, .ref ka, .ref kk])), (ks, .inl (cI, 5, .inl (upd (fun _ => 0) 0 800))), (kw, .inl (cI, 14, .inl (fun _ => 0)))] H := hP
    replace hD : va_D A [(o, .inr (3, [.ref k, .ref op, .int 0, .ref oq, .ref ov, .ref os])), (os, .inl (cI, 5, .inl (upd (upd (upd (upd (upd (upd (upd (upd (upd (upd (fun _ => 0) 0 0) 1 0) 2 0) 3 0) 4 0) 0 2) 0 4) 0 6) 0 8) 0 10))), (k, .inr (0, [.ref ks, .ref kw, .ref kc, .int (-6), .int 0, .int 0, .ref kq, .ref km, .ref kd, .int 0, .ref ka, .ref kk])), (ks, .inl (cI, 5, .inl (upd (fun _ => 0) 0 800))), (kw, .inl (cI, 14, .inl (fun _ => 0)))] := hD
    refine lv_iinc (v := 5) (lv' := [(2, .int 5), (0, .ref o), (1, .int 12)]) hx hb dX3_countSlots_53 hl (k := 0) rfl (by decide) (by decide) rfl (fun ls hl => ?_)
    refine lv_goto (tgt := 30) hx hb dX3_countSlots_56 (by decide) ?_
    refine lv_iload_n hx hb dX3_countSlots_30 rfl (lv_at hl 0 rfl) ?_
    refine lv_iload_n hx hb dX3_countSlots_31 rfl (lv_at hl 2 rfl) ?_
    refine lv_icmp_gt (tgt := 59) hx hb dX3_countSlots_32 (by decide) (fun c436 => absurd c436 (by decide)) (fun c436 => ?_)
    refine lv_aload_n hx hb dX3_countSlots_35 rfl (lv_at hl 1 rfl) ?_
    refine va_get (D := (dC, dI)) (ci := 3) (v := .ref os) (C := RX3) (T := TX3) (N := 6) hx hb hts hin3 hown hK hP 0 rfl rfl 5 (by decide) hw0 (fun _ h9 => h9) rfl dX3_countSlots_36 ?_
    refine lv_aload_n hx hb dX3_countSlots_39 rfl (lv_at hl 1 rfl) ?_
    refine va_get (D := (dC, dI)) (ci := 3) (v := .ref k) (C := RX3) (T := TX3) (N := 6) hx hb hts hin3 hown hK hP 0 rfl rfl 0 (by decide) hw1 (fun _ h9 => h9) rfl dX3_countSlots_40 ?_
    refine lv_iload_n hx hb dX3_countSlots_43 rfl (lv_at hl 0 rfl) ?_
    refine lv_iconst (v := 0) hx hb dX3_countSlots_44 (by decide) ?_
    refine mx_i (wr := [(o, .inr (3, [.ref k, .ref op, .int 0, .ref oq, .ref ov, .ref os])), (os, .inl (cI, 5, .inl (upd (upd (upd (upd (upd (upd (upd (upd (upd (upd (fun _ => 0) 0 0) 1 0) 2 0) 3 0) 4 0) 0 2) 0 4) 0 6) 0 8) 0 10)))]) (va_runV (As := [.int 5, .int 0]) (rest := [.ref os]) ⟨hx, hb, hml, hown, hts⟩ (c_X0_windOn l dC dI cI cZ cK tS aK aV k ks kw kc kq km kd ka kk 5 H.size (by have z8 : (5 : Int32).toInt = 5 := rfl; first | omega | decide | assumption | trivial)) (cwV 2 hts (gw_v (fun _ h9 => List.mem_cons_of_mem _ h9) wm_169 wm_170 wm_171 wm_10 wm_172) rfl rfl rfl (by decide +kernel) ⟨Nat.le_of_ble_eq_true rfl, Nat.le_of_ble_eq_true rfl⟩) (mx_preV (C := RX0) (T := TX0) (N := 12) (ci := 0) hKx hP hD hS hA [2, 3, 4] (by decide) rfl rfl rfl) rfl rfl hl.1 rfl (lv_room (Nat.le_of_ble_eq_true rfl)) dX3_countSlots_45 ⟨Nat.le_of_ble_eq_true rfl, Nat.le_of_ble_eq_true rfl⟩) hP hD hS hA [2, 3, 4] [0, 1] rfl rfl (by decide) (by decide) (fun r437 u437 H locs hq437 hP hD hS => ?_)
    replace hP : va_P (dC, dI) vwCl [(o, .inr (3, [.ref k, .ref op, .int 0, .ref oq, .ref ov, .ref os])), (os, .inl (cI, 5, .inl (upd (upd (upd (upd (upd (upd (upd (upd (upd (upd (fun _ => 0) 0 0) 1 0) 2 0) 3 0) 4 0) 0 2) 0 4) 0 6) 0 8) 0 10))), (k, .inr (0, [.ref ks, .ref kw, .ref kc, .int (-6), .int 0, .int 0, .ref kq, .ref km, .ref kd, .int 0, .ref ka, .ref kk])), (ks, .inl (cI, 5, .inl (upd (fun _ => 0) 0 800))), (kw, .inl (cI, 14, .inl (fun _ => 0)))] H := hP
    replace hD : va_D A [(o, .inr (3, [.ref k, .ref op, .int 0, .ref oq, .ref ov, .ref os])), (os, .inl (cI, 5, .inl (upd (upd (upd (upd (upd (upd (upd (upd (upd (upd (fun _ => 0) 0 0) 1 0) 2 0) 3 0) 4 0) 0 2) 0 4) 0 6) 0 8) 0 10))), (k, .inr (0, [.ref ks, .ref kw, .ref kc, .int (-6), .int 0, .int 0, .ref kq, .ref km, .ref kd, .int 0, .ref ka, .ref kk])), (ks, .inl (cI, 5, .inl (upd (fun _ => 0) 0 800))), (kw, .inl (cI, 14, .inl (fun _ => 0)))] := hD
    obtain rfl : r437 = 0 := hq437
    refine lv_dup2_11 hx hb dX3_countSlots_48 rfl rfl ?_
    refine va_iald hx hb hK hP 1 0 rfl rfl (vin (by decide) (by decide)) dX3_countSlots_49 ?_
    refine lv_topi (fun x438 e438 => ?_)
    obtain rfl : x438 = 10 := e438.trans (by first | rfl | decide)
    refine lv_iconst (v := 2) hx hb dX3_countSlots_50 (by decide) ?_
    refine lv_iadd hx hb dX3_countSlots_51 ?_
    refine lv_topi (fun x439 e439 => ?_)
    obtain rfl : x439 = 12 := e439.trans (by decide)
    refine va_iast hx hb hK hP hD hS 1 0 rfl rfl (vin (by decide) (by decide)) dX3_countSlots_52 (fun H locs hP hD hS => ?_)
    replace hP : va_P (dC, dI) vwCl [(o, .inr (3, [.ref k, .ref op, .int 0, .ref oq, .ref ov, .ref os])), (os, .inl (cI, 5, .inl (upd (upd (upd (upd (upd (upd (upd (upd (upd (upd (upd (fun _ => 0) 0 0) 1 0) 2 0) 3 0) 4 0) 0 2) 0 4) 0 6) 0 8) 0 10) 0 12))), (k, .inr (0, [.ref ks, .ref kw, .ref kc, .int (-6), .int 0, .int 0, .ref kq, .ref km, .ref kd, .int 0, .ref ka, .ref kk])), (ks, .inl (cI, 5, .inl (upd (fun _ => 0) 0 800))), (kw, .inl (cI, 14, .inl (fun _ => 0)))] H := hP
    replace hD : va_D A [(o, .inr (3, [.ref k, .ref op, .int 0, .ref oq, .ref ov, .ref os])), (os, .inl (cI, 5, .inl (upd (upd (upd (upd (upd (upd (upd (upd (upd (upd (upd (fun _ => 0) 0 0) 1 0) 2 0) 3 0) 4 0) 0 2) 0 4) 0 6) 0 8) 0 10) 0 12))), (k, .inr (0, [.ref ks, .ref kw, .ref kc, .int (-6), .int 0, .int 0, .ref kq, .ref km, .ref kd, .int 0, .ref ka, .ref kk])), (ks, .inl (cI, 5, .inl (upd (fun _ => 0) 0 800))), (kw, .inl (cI, 14, .inl (fun _ => 0)))] := hD
    refine lv_iinc (v := 6) (lv' := [(2, .int 6), (0, .ref o), (1, .int 12)]) hx hb dX3_countSlots_53 hl (k := 0) rfl (by decide) (by decide) rfl (fun ls hl => ?_)
    refine lv_goto (tgt := 30) hx hb dX3_countSlots_56 (by decide) ?_
    refine lv_iload_n hx hb dX3_countSlots_30 rfl (lv_at hl 0 rfl) ?_
    refine lv_iload_n hx hb dX3_countSlots_31 rfl (lv_at hl 2 rfl) ?_
    refine lv_icmp_gt (tgt := 59) hx hb dX3_countSlots_32 (by decide) (fun c440 => absurd c440 (by decide)) (fun c440 => ?_)
    refine lv_aload_n hx hb dX3_countSlots_35 rfl (lv_at hl 1 rfl) ?_
    refine va_get (D := (dC, dI)) (ci := 3) (v := .ref os) (C := RX3) (T := TX3) (N := 6) hx hb hts hin3 hown hK hP 0 rfl rfl 5 (by decide) hw0 (fun _ h9 => h9) rfl dX3_countSlots_36 ?_
    refine lv_aload_n hx hb dX3_countSlots_39 rfl (lv_at hl 1 rfl) ?_
    refine va_get (D := (dC, dI)) (ci := 3) (v := .ref k) (C := RX3) (T := TX3) (N := 6) hx hb hts hin3 hown hK hP 0 rfl rfl 0 (by decide) hw1 (fun _ h9 => h9) rfl dX3_countSlots_40 ?_
    refine lv_iload_n hx hb dX3_countSlots_43 rfl (lv_at hl 0 rfl) ?_
    refine lv_iconst (v := 0) hx hb dX3_countSlots_44 (by decide) ?_
    refine mx_i (wr := [(o, .inr (3, [.ref k, .ref op, .int 0, .ref oq, .ref ov, .ref os])), (os, .inl (cI, 5, .inl (upd (upd (upd (upd (upd (upd (upd (upd (upd (upd (upd (fun _ => 0) 0 0) 1 0) 2 0) 3 0) 4 0) 0 2) 0 4) 0 6) 0 8) 0 10) 0 12)))]) (va_runV (As := [.int 6, .int 0]) (rest := [.ref os]) ⟨hx, hb, hml, hown, hts⟩ (c_X0_windOn l dC dI cI cZ cK tS aK aV k ks kw kc kq km kd ka kk 6 H.size (by have z8 : (6 : Int32).toInt = 6 := rfl; first | omega | decide | assumption | trivial)) (cwV 2 hts (gw_v (fun _ h9 => List.mem_cons_of_mem _ h9) wm_169 wm_170 wm_171 wm_10 wm_172) rfl rfl rfl (by decide +kernel) ⟨Nat.le_of_ble_eq_true rfl, Nat.le_of_ble_eq_true rfl⟩) (mx_preV (C := RX0) (T := TX0) (N := 12) (ci := 0) hKx hP hD hS hA [2, 3, 4] (by decide) rfl rfl rfl) rfl rfl hl.1 rfl (lv_room (Nat.le_of_ble_eq_true rfl)) dX3_countSlots_45 ⟨Nat.le_of_ble_eq_true rfl, Nat.le_of_ble_eq_true rfl⟩) hP hD hS hA [2, 3, 4] [0, 1] rfl rfl (by decide) (by decide) (fun r441 u441 H locs hq441 hP hD hS => ?_)
    replace hP : va_P (dC, dI) vwCl [(o, .inr (3, [.ref k, .ref op, .int 0, .ref oq, .ref ov, .ref os])), (os, .inl (cI, 5, .inl (upd (upd (upd (upd (upd (upd (upd (upd (upd (upd (upd (fun _ => 0) 0 0) 1 0) 2 0) 3 0) 4 0) 0 2) 0 4) 0 6) 0 8) 0 10) 0 12))), (k, .inr (0, [.ref ks, .ref kw, .ref kc, .int (-6), .int 0, .int 0, .ref kq, .ref km, .ref kd, .int 0, .ref ka, .ref kk])), (ks, .inl (cI, 5, .inl (upd (fun _ => 0) 0 800))), (kw, .inl (cI, 14, .inl (fun _ => 0)))] H := hP
    replace hD : va_D A [(o, .inr (3, [.ref k, .ref op, .int 0, .ref oq, .ref ov, .ref os])), (os, .inl (cI, 5, .inl (upd (upd (upd (upd (upd (upd (upd (upd (upd (upd (upd (fun _ => 0) 0 0) 1 0) 2 0) 3 0) 4 0) 0 2) 0 4) 0 6) 0 8) 0 10) 0 12))), (k, .inr (0, [.ref ks, .ref kw, .ref kc, .int (-6), .int 0, .int 0, .ref kq, .ref km, .ref kd, .int 0, .ref ka, .ref kk])), (ks, .inl (cI, 5, .inl (upd (fun _ => 0) 0 800))), (kw, .inl (cI, 14, .inl (fun _ => 0)))] := hD
    obtain rfl : r441 = 0 := hq441
    refine lv_dup2_11 hx hb dX3_countSlots_48 rfl rfl ?_
    refine va_iald hx hb hK hP 1 0 rfl rfl (vin (by decide) (by decide)) dX3_countSlots_49 ?_
    refine lv_topi (fun x442 e442 => ?_)
    obtain rfl : x442 = 12 := e442.trans (by first | rfl | decide)
    refine lv_iconst (v := 2) hx hb dX3_countSlots_50 (by decide) ?_
    refine lv_iadd hx hb dX3_countSlots_51 ?_
    refine lv_topi (fun x443 e443 => ?_)
    obtain rfl : x443 = 14 := e443.trans (by decide)
    refine va_iast hx hb hK hP hD hS 1 0 rfl rfl (vin (by decide) (by decide)) dX3_countSlots_52 (fun H locs hP hD hS => ?_)
    replace hP : va_P (dC, dI) vwCl [(o, .inr (3, [.ref k, .ref op, .int 0, .ref oq, .ref ov, .ref os])), (os, .inl (cI, 5, .inl (upd (upd (upd (upd (upd (upd (upd (upd (upd (upd (upd (upd (fun _ => 0) 0 0) 1 0) 2 0) 3 0) 4 0) 0 2) 0 4) 0 6) 0 8) 0 10) 0 12) 0 14))), (k, .inr (0, [.ref ks, .ref kw, .ref kc, .int (-6), .int 0, .int 0, .ref kq, .ref km, .ref kd, .int 0, .ref ka, .ref kk])), (ks, .inl (cI, 5, .inl (upd (fun _ => 0) 0 800))), (kw, .inl (cI, 14, .inl (fun _ => 0)))] H := hP
    replace hD : va_D A [(o, .inr (3, [.ref k, .ref op, .int 0, .ref oq, .ref ov, .ref os])), (os, .inl (cI, 5, .inl (upd (upd (upd (upd (upd (upd (upd (upd (upd (upd (upd (upd (fun _ => 0) 0 0) 1 0) 2 0) 3 0) 4 0) 0 2) 0 4) 0 6) 0 8) 0 10) 0 12) 0 14))), (k, .inr (0, [.ref ks, .ref kw, .ref kc, .int (-6), .int 0, .int 0, .ref kq, .ref km, .ref kd, .int 0, .ref ka, .ref kk])), (ks, .inl (cI, 5, .inl (upd (fun _ => 0) 0 800))), (kw, .inl (cI, 14, .inl (fun _ => 0)))] := hD
    refine lv_iinc (v := 7) (lv' := [(2, .int 7), (0, .ref o), (1, .int 12)]) hx hb dX3_countSlots_53 hl (k := 0) rfl (by decide) (by decide) rfl (fun ls hl => ?_)
    refine lv_goto (tgt := 30) hx hb dX3_countSlots_56 (by decide) ?_
    refine lv_iload_n hx hb dX3_countSlots_30 rfl (lv_at hl 0 rfl) ?_
    refine lv_iload_n hx hb dX3_countSlots_31 rfl (lv_at hl 2 rfl) ?_
    refine lv_icmp_gt (tgt := 59) hx hb dX3_countSlots_32 (by decide) (fun c444 => absurd c444 (by decide)) (fun c444 => ?_)
    refine lv_aload_n hx hb dX3_countSlots_35 rfl (lv_at hl 1 rfl) ?_
    refine va_get (D := (dC, dI)) (ci := 3) (v := .ref os) (C := RX3) (T := TX3) (N := 6) hx hb hts hin3 hown hK hP 0 rfl rfl 5 (by decide) hw0 (fun _ h9 => h9) rfl dX3_countSlots_36 ?_
    refine lv_aload_n hx hb dX3_countSlots_39 rfl (lv_at hl 1 rfl) ?_
    refine va_get (D := (dC, dI)) (ci := 3) (v := .ref k) (C := RX3) (T := TX3) (N := 6) hx hb hts hin3 hown hK hP 0 rfl rfl 0 (by decide) hw1 (fun _ h9 => h9) rfl dX3_countSlots_40 ?_
    refine lv_iload_n hx hb dX3_countSlots_43 rfl (lv_at hl 0 rfl) ?_
    refine lv_iconst (v := 0) hx hb dX3_countSlots_44 (by decide) ?_
    refine mx_i (wr := [(o, .inr (3, [.ref k, .ref op, .int 0, .ref oq, .ref ov, .ref os])), (os, .inl (cI, 5, .inl (upd (upd (upd (upd (upd (upd (upd (upd (upd (upd (upd (upd (fun _ => 0) 0 0) 1 0) 2 0) 3 0) 4 0) 0 2) 0 4) 0 6) 0 8) 0 10) 0 12) 0 14)))]) (va_runV (As := [.int 7, .int 0]) (rest := [.ref os]) ⟨hx, hb, hml, hown, hts⟩ (c_X0_windOn l dC dI cI cZ cK tS aK aV k ks kw kc kq km kd ka kk 7 H.size (by have z8 : (7 : Int32).toInt = 7 := rfl; first | omega | decide | assumption | trivial)) (cwV 2 hts (gw_v (fun _ h9 => List.mem_cons_of_mem _ h9) wm_169 wm_170 wm_171 wm_10 wm_172) rfl rfl rfl (by decide +kernel) ⟨Nat.le_of_ble_eq_true rfl, Nat.le_of_ble_eq_true rfl⟩) (mx_preV (C := RX0) (T := TX0) (N := 12) (ci := 0) hKx hP hD hS hA [2, 3, 4] (by decide) rfl rfl rfl) rfl rfl hl.1 rfl (lv_room (Nat.le_of_ble_eq_true rfl)) dX3_countSlots_45 ⟨Nat.le_of_ble_eq_true rfl, Nat.le_of_ble_eq_true rfl⟩) hP hD hS hA [2, 3, 4] [0, 1] rfl rfl (by decide) (by decide) (fun r445 u445 H locs hq445 hP hD hS => ?_)
    replace hP : va_P (dC, dI) vwCl [(o, .inr (3, [.ref k, .ref op, .int 0, .ref oq, .ref ov, .ref os])), (os, .inl (cI, 5, .inl (upd (upd (upd (upd (upd (upd (upd (upd (upd (upd (upd (upd (fun _ => 0) 0 0) 1 0) 2 0) 3 0) 4 0) 0 2) 0 4) 0 6) 0 8) 0 10) 0 12) 0 14))), (k, .inr (0, [.ref ks, .ref kw, .ref kc, .int (-6), .int 0, .int 0, .ref kq, .ref km, .ref kd, .int 0, .ref ka, .ref kk])), (ks, .inl (cI, 5, .inl (upd (fun _ => 0) 0 800))), (kw, .inl (cI, 14, .inl (fun _ => 0)))] H := hP
    replace hD : va_D A [(o, .inr (3, [.ref k, .ref op, .int 0, .ref oq, .ref ov, .ref os])), (os, .inl (cI, 5, .inl (upd (upd (upd (upd (upd (upd (upd (upd (upd (upd (upd (upd (fun _ => 0) 0 0) 1 0) 2 0) 3 0) 4 0) 0 2) 0 4) 0 6) 0 8) 0 10) 0 12) 0 14))), (k, .inr (0, [.ref ks, .ref kw, .ref kc, .int (-6), .int 0, .int 0, .ref kq, .ref km, .ref kd, .int 0, .ref ka, .ref kk])), (ks, .inl (cI, 5, .inl (upd (fun _ => 0) 0 800))), (kw, .inl (cI, 14, .inl (fun _ => 0)))] := hD
    obtain rfl : r445 = 0 := hq445
    refine lv_dup2_11 hx hb dX3_countSlots_48 rfl rfl ?_
    refine va_iald hx hb hK hP 1 0 rfl rfl (vin (by decide) (by decide)) dX3_countSlots_49 ?_
    refine lv_topi (fun x446 e446 => ?_)
    obtain rfl : x446 = 14 := e446.trans (by first | rfl | decide)
    refine lv_iconst (v := 2) hx hb dX3_countSlots_50 (by decide) ?_
    refine lv_iadd hx hb dX3_countSlots_51 ?_
    refine lv_topi (fun x447 e447 => ?_)
    obtain rfl : x447 = 16 := e447.trans (by decide)
    refine va_iast hx hb hK hP hD hS 1 0 rfl rfl (vin (by decide) (by decide)) dX3_countSlots_52 (fun H locs hP hD hS => ?_)
    replace hP : va_P (dC, dI) vwCl [(o, .inr (3, [.ref k, .ref op, .int 0, .ref oq, .ref ov, .ref os])), (os, .inl (cI, 5, .inl (upd (upd (upd (upd (upd (upd (upd (upd (upd (upd (upd (upd (upd (fun _ => 0) 0 0) 1 0) 2 0) 3 0) 4 0) 0 2) 0 4) 0 6) 0 8) 0 10) 0 12) 0 14) 0 16))), (k, .inr (0, [.ref ks, .ref kw, .ref kc, .int (-6), .int 0, .int 0, .ref kq, .ref km, .ref kd, .int 0, .ref ka, .ref kk])), (ks, .inl (cI, 5, .inl (upd (fun _ => 0) 0 800))), (kw, .inl (cI, 14, .inl (fun _ => 0)))] H := hP
    replace hD : va_D A [(o, .inr (3, [.ref k, .ref op, .int 0, .ref oq, .ref ov, .ref os])), (os, .inl (cI, 5, .inl (upd (upd (upd (upd (upd (upd (upd (upd (upd (upd (upd (upd (upd (fun _ => 0) 0 0) 1 0) 2 0) 3 0) 4 0) 0 2) 0 4) 0 6) 0 8) 0 10) 0 12) 0 14) 0 16))), (k, .inr (0, [.ref ks, .ref kw, .ref kc, .int (-6), .int 0, .int 0, .ref kq, .ref km, .ref kd, .int 0, .ref ka, .ref kk])), (ks, .inl (cI, 5, .inl (upd (fun _ => 0) 0 800))), (kw, .inl (cI, 14, .inl (fun _ => 0)))] := hD
    refine lv_iinc (v := 8) (lv' := [(2, .int 8), (0, .ref o), (1, .int 12)]) hx hb dX3_countSlots_53 hl (k := 0) rfl (by decide) (by decide) rfl (fun ls hl => ?_)
    refine lv_goto (tgt := 30) hx hb dX3_countSlots_56 (by decide) ?_
    refine lv_iload_n hx hb dX3_countSlots_30 rfl (lv_at hl 0 rfl) ?_
    refine lv_iload_n hx hb dX3_countSlots_31 rfl (lv_at hl 2 rfl) ?_
    refine lv_icmp_gt (tgt := 59) hx hb dX3_countSlots_32 (by decide) (fun c448 => absurd c448 (by decide)) (fun c448 => ?_)
    refine lv_aload_n hx hb dX3_countSlots_35 rfl (lv_at hl 1 rfl) ?_
    refine va_get (D := (dC, dI)) (ci := 3) (v := .ref os) (C := RX3) (T := TX3) (N := 6) hx hb hts hin3 hown hK hP 0 rfl rfl 5 (by decide) hw0 (fun _ h9 => h9) rfl dX3_countSlots_36 ?_
    refine lv_aload_n hx hb dX3_countSlots_39 rfl (lv_at hl 1 rfl) ?_
    refine va_get (D := (dC, dI)) (ci := 3) (v := .ref k) (C := RX3) (T := TX3) (N := 6) hx hb hts hin3 hown hK hP 0 rfl rfl 0 (by decide) hw1 (fun _ h9 => h9) rfl dX3_countSlots_40 ?_
    refine lv_iload_n hx hb dX3_countSlots_43 rfl (lv_at hl 0 rfl) ?_
    refine lv_iconst (v := 0) hx hb dX3_countSlots_44 (by decide) ?_
    refine mx_i (wr := [(o, .inr (3, [.ref k, .ref op, .int 0, .ref oq, .ref ov, .ref os])), (os, .inl (cI, 5, .inl (upd (upd (upd (upd (upd (upd (upd (upd (upd (upd (upd (upd (upd (fun _ => 0) 0 0) 1 0) 2 0) 3 0) 4 0) 0 2) 0 4) 0 6) 0 8) 0 10) 0 12) 0 14) 0 16)))]) (va_runV (As := [.int 8, .int 0]) (rest := [.ref os]) ⟨hx, hb, hml, hown, hts⟩ (c_X0_windOn l dC dI cI cZ cK tS aK aV k ks kw kc kq km kd ka kk 8 H.size (by have z8 : (8 : Int32).toInt = 8 := rfl; first | omega | decide | assumption | trivial)) (cwV 2 hts (gw_v (fun _ h9 => List.mem_cons_of_mem _ h9) wm_169 wm_170 wm_171 wm_10 wm_172) rfl rfl rfl (by decide +kernel) ⟨Nat.le_of_ble_eq_true rfl, Nat.le_of_ble_eq_true rfl⟩) (mx_preV (C := RX0) (T := TX0) (N := 12) (ci := 0) hKx hP hD hS hA [2, 3, 4] (by decide) rfl rfl rfl) rfl rfl hl.1 rfl (lv_room (Nat.le_of_ble_eq_true rfl)) dX3_countSlots_45 ⟨Nat.le_of_ble_eq_true rfl, Nat.le_of_ble_eq_true rfl⟩) hP hD hS hA [2, 3, 4] [0, 1] rfl rfl (by decide) (by decide) (fun r449 u449 H locs hq449 hP hD hS => ?_)
    replace hP : va_P (dC, dI) vwCl [(o, .inr (3, [.ref k, .ref op, .int 0, .ref oq, .ref ov, .ref os])), (os, .inl (cI, 5, .inl (upd (upd (upd (upd (upd (upd (upd (upd (upd (upd (upd (upd (upd (fun _ => 0) 0 0) 1 0) 2 0) 3 0) 4 0) 0 2) 0 4) 0 6) 0 8) 0 10) 0 12) 0 14) 0 16))), (k, .inr (0, [.ref ks, .ref kw, .ref kc, .int (-6), .int 0, .int 0, .ref kq, .ref km, .ref kd, .int 0, .ref ka, .ref kk])), (ks, .inl (cI, 5, .inl (upd (fun _ => 0) 0 800))), (kw, .inl (cI, 14, .inl (fun _ => 0)))] H := hP
    replace hD : va_D A [(o, .inr (3, [.ref k, .ref op, .int 0, .ref oq, .ref ov, .ref os])), (os, .inl (cI, 5, .inl (upd (upd (upd (upd (upd (upd (upd (upd (upd (upd (upd (upd (upd (fun _ => 0) 0 0) 1 0) 2 0) 3 0) 4 0) 0 2) 0 4) 0 6) 0 8) 0 10) 0 12) 0 14) 0 16))), (k, .inr (0, [.ref ks, .ref kw, .ref kc, .int (-6), .int 0, .int 0, .ref kq, .ref km, .ref kd, .int 0, .ref ka, .ref kk])), (ks, .inl (cI, 5, .inl (upd (fun _ => 0) 0 800))), (kw, .inl (cI, 14, .inl (fun _ => 0)))] := hD
    obtain rfl : r449 = 0 := hq449
    refine lv_dup2_11 hx hb dX3_countSlots_48 rfl rfl ?_
    refine va_iald hx hb hK hP 1 0 rfl rfl (vin (by decide) (by decide)) dX3_countSlots_49 ?_
    refine lv_topi (fun x450 e450 => ?_)
    obtain rfl : x450 = 16 := e450.trans (by first | rfl | decide)
    refine lv_iconst (v := 2) hx hb dX3_countSlots_50 (by decide) ?_
    refine lv_iadd hx hb dX3_countSlots_51 ?_
    refine lv_topi (fun x451 e451 => ?_)
    obtain rfl : x451 = 18 := e451.trans (by decide)
    refine va_iast hx hb hK hP hD hS 1 0 rfl rfl (vin (by decide) (by decide)) dX3_countSlots_52 (fun H locs hP hD hS => ?_)
    replace hP : va_P (dC, dI) vwCl [(o, .inr (3, [.ref k, .ref op, .int 0, .ref oq, .ref ov, .ref os])), (os, .inl (cI, 5, .inl (upd (upd (upd (upd (upd (upd (upd (upd (upd (upd (upd (upd (upd (upd (fun _ => 0) 0 0) 1 0) 2 0) 3 0) 4 0) 0 2) 0 4) 0 6) 0 8) 0 10) 0 12) 0 14) 0 16) 0 18))), (k, .inr (0, [.ref ks, .ref kw, .ref kc, .int (-6), .int 0, .int 0, .ref kq, .ref km, .ref kd, .int 0, .ref ka, .ref kk])), (ks, .inl (cI, 5, .inl (upd (fun _ => 0) 0 800))), (kw, .inl (cI, 14, .inl (fun _ => 0)))] H := hP
    replace hD : va_D A [(o, .inr (3, [.ref k, .ref op, .int 0, .ref oq, .ref ov, .ref os])), (os, .inl (cI, 5, .inl (upd (upd (upd (upd (upd (upd (upd (upd (upd (upd (upd (upd (upd (upd (fun _ => 0) 0 0) 1 0) 2 0) 3 0) 4 0) 0 2) 0 4) 0 6) 0 8) 0 10) 0 12) 0 14) 0 16) 0 18))), (k, .inr (0, [.ref ks, .ref kw, .ref kc, .int (-6), .int 0, .int 0, .ref kq, .ref km, .ref kd, .int 0, .ref ka, .ref kk])), (ks, .inl (cI, 5, .inl (upd (fun _ => 0) 0 800))), (kw, .inl (cI, 14, .inl (fun _ => 0)))] := hD
    refine lv_iinc (v := 9) (lv' := [(2, .int 9), (0, .ref o), (1, .int 12)]) hx hb dX3_countSlots_53 hl (k := 0) rfl (by decide) (by decide) rfl (fun ls hl => ?_)
    refine lv_goto (tgt := 30) hx hb dX3_countSlots_56 (by decide) ?_
    refine lv_iload_n hx hb dX3_countSlots_30 rfl (lv_at hl 0 rfl) ?_
    refine lv_iload_n hx hb dX3_countSlots_31 rfl (lv_at hl 2 rfl) ?_
    refine lv_icmp_gt (tgt := 59) hx hb dX3_countSlots_32 (by decide) (fun c452 => absurd c452 (by decide)) (fun c452 => ?_)
    refine lv_aload_n hx hb dX3_countSlots_35 rfl (lv_at hl 1 rfl) ?_
    refine va_get (D := (dC, dI)) (ci := 3) (v := .ref os) (C := RX3) (T := TX3) (N := 6) hx hb hts hin3 hown hK hP 0 rfl rfl 5 (by decide) hw0 (fun _ h9 => h9) rfl dX3_countSlots_36 ?_
    refine lv_aload_n hx hb dX3_countSlots_39 rfl (lv_at hl 1 rfl) ?_
    refine va_get (D := (dC, dI)) (ci := 3) (v := .ref k) (C := RX3) (T := TX3) (N := 6) hx hb hts hin3 hown hK hP 0 rfl rfl 0 (by decide) hw1 (fun _ h9 => h9) rfl dX3_countSlots_40 ?_
    refine lv_iload_n hx hb dX3_countSlots_43 rfl (lv_at hl 0 rfl) ?_
    refine lv_iconst (v := 0) hx hb dX3_countSlots_44 (by decide) ?_
    refine mx_i (wr := [(o, .inr (3, [.ref k, .ref op, .int 0, .ref oq, .ref ov, .ref os])), (os, .inl (cI, 5, .inl (upd (upd (upd (upd (upd (upd (upd (upd (upd (upd (upd (upd (upd (upd (fun _ => 0) 0 0) 1 0) 2 0) 3 0) 4 0) 0 2) 0 4) 0 6) 0 8) 0 10) 0 12) 0 14) 0 16) 0 18)))]) (va_runV (As := [.int 9, .int 0]) (rest := [.ref os]) ⟨hx, hb, hml, hown, hts⟩ (c_X0_windOn l dC dI cI cZ cK tS aK aV k ks kw kc kq km kd ka kk 9 H.size (by have z8 : (9 : Int32).toInt = 9 := rfl; first | omega | decide | assumption | trivial)) (cwV 2 hts (gw_v (fun _ h9 => List.mem_cons_of_mem _ h9) wm_169 wm_170 wm_171 wm_10 wm_172) rfl rfl rfl (by decide +kernel) ⟨Nat.le_of_ble_eq_true rfl, Nat.le_of_ble_eq_true rfl⟩) (mx_preV (C := RX0) (T := TX0) (N := 12) (ci := 0) hKx hP hD hS hA [2, 3, 4] (by decide) rfl rfl rfl) rfl rfl hl.1 rfl (lv_room (Nat.le_of_ble_eq_true rfl)) dX3_countSlots_45 ⟨Nat.le_of_ble_eq_true rfl, Nat.le_of_ble_eq_true rfl⟩) hP hD hS hA [2, 3, 4] [0, 1] rfl rfl (by decide) (by decide) (fun r453 u453 H locs hq453 hP hD hS => ?_)
    replace hP : va_P (dC, dI) vwCl [(o, .inr (3, [.ref k, .ref op, .int 0, .ref oq, .ref ov, .ref os])), (os, .inl (cI, 5, .inl (upd (upd (upd (upd (upd (upd (upd (upd (upd (upd (upd (upd (upd (upd (fun _ => 0) 0 0) 1 0) 2 0) 3 0) 4 0) 0 2) 0 4) 0 6) 0 8) 0 10) 0 12) 0 14) 0 16) 0 18))), (k, .inr (0, [.ref ks, .ref kw, .ref kc, .int (-6), .int 0, .int 0, .ref kq, .ref km, .ref kd, .int 0, .ref ka, .ref kk])), (ks, .inl (cI, 5, .inl (upd (fun _ => 0) 0 800))), (kw, .inl (cI, 14, .inl (fun _ => 0)))] H := hP
    replace hD : va_D A [(o, .inr (3, [.ref k, .ref op, .int 0, .ref oq, .ref ov, .ref os])), (os, .inl (cI, 5, .inl (upd (upd (upd (upd (upd (upd (upd (upd (upd (upd (upd (upd (upd (upd (fun _ => 0) 0 0) 1 0) 2 0) 3 0) 4 0) 0 2) 0 4) 0 6) 0 8) 0 10) 0 12) 0 14) 0 16) 0 18))), (k, .inr (0, [.ref ks, .ref kw, .ref kc, .int (-6), .int 0, .int 0, .ref kq, .ref km, .ref kd, .int 0, .ref ka, .ref kk])), (ks, .inl (cI, 5, .inl (upd (fun _ => 0) 0 800))), (kw, .inl (cI, 14, .inl (fun _ => 0)))] := hD
    obtain rfl : r453 = 0 := hq453
    refine lv_dup2_11 hx hb dX3_countSlots_48 rfl rfl ?_
    refine va_iald hx hb hK hP 1 0 rfl rfl (vin (by decide) (by decide)) dX3_countSlots_49 ?_
    refine lv_topi (fun x454 e454 => ?_)
    obtain rfl : x454 = 18 := e454.trans (by first | rfl | decide)
    refine lv_iconst (v := 2) hx hb dX3_countSlots_50 (by decide) ?_
    refine lv_iadd hx hb dX3_countSlots_51 ?_
    refine lv_topi (fun x455 e455 => ?_)
    obtain rfl : x455 = 20 := e455.trans (by decide)
    refine va_iast hx hb hK hP hD hS 1 0 rfl rfl (vin (by decide) (by decide)) dX3_countSlots_52 (fun H locs hP hD hS => ?_)
    replace hP : va_P (dC, dI) vwCl [(o, .inr (3, [.ref k, .ref op, .int 0, .ref oq, .ref ov, .ref os])), (os, .inl (cI, 5, .inl (upd (upd (upd (upd (upd (upd (upd (upd (upd (upd (upd (upd (upd (upd (upd (fun _ => 0) 0 0) 1 0) 2 0) 3 0) 4 0) 0 2) 0 4) 0 6) 0 8) 0 10) 0 12) 0 14) 0 16) 0 18) 0 20))), (k, .inr (0, [.ref ks, .ref kw, .ref kc, .int (-6), .int 0, .int 0, .ref kq, .ref km, .ref kd, .int 0, .ref ka, .ref kk])), (ks, .inl (cI, 5, .inl (upd (fun _ => 0) 0 800))), (kw, .inl (cI, 14, .inl (fun _ => 0)))] H := hP
    replace hD : va_D A [(o, .inr (3, [.ref k, .ref op, .int 0, .ref oq, .ref ov, .ref os])), (os, .inl (cI, 5, .inl (upd (upd (upd (upd (upd (upd (upd (upd (upd (upd (upd (upd (upd (upd (upd (fun _ => 0) 0 0) 1 0) 2 0) 3 0) 4 0) 0 2) 0 4) 0 6) 0 8) 0 10) 0 12) 0 14) 0 16) 0 18) 0 20))), (k, .inr (0, [.ref ks, .ref kw, .ref kc, .int (-6), .int 0, .int 0, .ref kq, .ref km, .ref kd, .int 0, .ref ka, .ref kk])), (ks, .inl (cI, 5, .inl (upd (fun _ => 0) 0 800))), (kw, .inl (cI, 14, .inl (fun _ => 0)))] := hD
    refine lv_iinc (v := 10) (lv' := [(2, .int 10), (0, .ref o), (1, .int 12)]) hx hb dX3_countSlots_53 hl (k := 0) rfl (by decide) (by decide) rfl (fun ls hl => ?_)
    refine lv_goto (tgt := 30) hx hb dX3_countSlots_56 (by decide) ?_
    refine lv_iload_n hx hb dX3_countSlots_30 rfl (lv_at hl 0 rfl) ?_
    refine lv_iload_n hx hb dX3_countSlots_31 rfl (lv_at hl 2 rfl) ?_
    refine lv_icmp_gt (tgt := 59) hx hb dX3_countSlots_32 (by decide) (fun c456 => absurd c456 (by decide)) (fun c456 => ?_)
    refine lv_aload_n hx hb dX3_countSlots_35 rfl (lv_at hl 1 rfl) ?_
    refine va_get (D := (dC, dI)) (ci := 3) (v := .ref os) (C := RX3) (T := TX3) (N := 6) hx hb hts hin3 hown hK hP 0 rfl rfl 5 (by decide) hw0 (fun _ h9 => h9) rfl dX3_countSlots_36 ?_
    refine lv_aload_n hx hb dX3_countSlots_39 rfl (lv_at hl 1 rfl) ?_
    refine va_get (D := (dC, dI)) (ci := 3) (v := .ref k) (C := RX3) (T := TX3) (N := 6) hx hb hts hin3 hown hK hP 0 rfl rfl 0 (by decide) hw1 (fun _ h9 => h9) rfl dX3_countSlots_40 ?_
    refine lv_iload_n hx hb dX3_countSlots_43 rfl (lv_at hl 0 rfl) ?_
    refine lv_iconst (v := 0) hx hb dX3_countSlots_44 (by decide) ?_
    refine mx_i (wr := [(o, .inr (3, [.ref k, .ref op, .int 0, .ref oq, .ref ov, .ref os])), (os, .inl (cI, 5, .inl (upd (upd (upd (upd (upd (upd (upd (upd (upd (upd (upd (upd (upd (upd (upd (fun _ => 0) 0 0) 1 0) 2 0) 3 0) 4 0) 0 2) 0 4) 0 6) 0 8) 0 10) 0 12) 0 14) 0 16) 0 18) 0 20)))]) (va_runV (As := [.int 10, .int 0]) (rest := [.ref os]) ⟨hx, hb, hml, hown, hts⟩ (c_X0_windOn l dC dI cI cZ cK tS aK aV k ks kw kc kq km kd ka kk 10 H.size (by have z8 : (10 : Int32).toInt = 10 := rfl; first | omega | decide | assumption | trivial)) (cwV 2 hts (gw_v (fun _ h9 => List.mem_cons_of_mem _ h9) wm_169 wm_170 wm_171 wm_10 wm_172) rfl rfl rfl (by decide +kernel) ⟨Nat.le_of_ble_eq_true rfl, Nat.le_of_ble_eq_true rfl⟩) (mx_preV (C := RX0) (T := TX0) (N := 12) (ci := 0) hKx hP hD hS hA [2, 3, 4] (by decide) rfl rfl rfl) rfl rfl hl.1 rfl (lv_room (Nat.le_of_ble_eq_true rfl)) dX3_countSlots_45 ⟨Nat.le_of_ble_eq_true rfl, Nat.le_of_ble_eq_true rfl⟩) hP hD hS hA [2, 3, 4] [0, 1] rfl rfl (by decide) (by decide) (fun r457 u457 H locs hq457 hP hD hS => ?_)
    replace hP : va_P (dC, dI) vwCl [(o, .inr (3, [.ref k, .ref op, .int 0, .ref oq, .ref ov, .ref os])), (os, .inl (cI, 5, .inl (upd (upd (upd (upd (upd (upd (upd (upd (upd (upd (upd (upd (upd (upd (upd (fun _ => 0) 0 0) 1 0) 2 0) 3 0) 4 0) 0 2) 0 4) 0 6) 0 8) 0 10) 0 12) 0 14) 0 16) 0 18) 0 20))), (k, .inr (0, [.ref ks, .ref kw, .ref kc, .int (-6), .int 0, .int 0, .ref kq, .ref km, .ref kd, .int 0, .ref ka, .ref kk])), (ks, .inl (cI, 5, .inl (upd (fun _ => 0) 0 800))), (kw, .inl (cI, 14, .inl (fun _ => 0)))] H := hP
    replace hD : va_D A [(o, .inr (3, [.ref k, .ref op, .int 0, .ref oq, .ref ov, .ref os])), (os, .inl (cI, 5, .inl (upd (upd (upd (upd (upd (upd (upd (upd (upd (upd (upd (upd (upd (upd (upd (fun _ => 0) 0 0) 1 0) 2 0) 3 0) 4 0) 0 2) 0 4) 0 6) 0 8) 0 10) 0 12) 0 14) 0 16) 0 18) 0 20))), (k, .inr (0, [.ref ks, .ref kw, .ref kc, .int (-6), .int 0, .int 0, .ref kq, .ref km, .ref kd, .int 0, .ref ka, .ref kk])), (ks, .inl (cI, 5, .inl (upd (fun _ => 0) 0 800))), (kw, .inl (cI, 14, .inl (fun _ => 0)))] := hD
    obtain rfl : r457 = 0 := hq457
    refine lv_dup2_11 hx hb dX3_countSlots_48 rfl rfl ?_
    refine va_iald hx hb hK hP 1 0 rfl rfl (vin (by decide) (by decide)) dX3_countSlots_49 ?_
    refine lv_topi (fun x458 e458 => ?_)
    obtain rfl : x458 = 20 := e458.trans (by first | rfl | decide)
    refine lv_iconst (v := 2) hx hb dX3_countSlots_50 (by decide) ?_
    refine lv_iadd hx hb dX3_countSlots_51 ?_
    refine lv_topi (fun x459 e459 => ?_)
    obtain rfl : x459 = 22 := e459.trans (by decide)
    refine va_iast hx hb hK hP hD hS 1 0 rfl rfl (vin (by decide) (by decide)) dX3_countSlots_52 (fun H locs hP hD hS => ?_)
    replace hP : va_P (dC, dI) vwCl [(o, .inr (3, [.ref k, .ref op, .int 0, .ref oq, .ref ov, .ref os])), (os, .inl (cI, 5, .inl (upd (upd (upd (upd (upd (upd (upd (upd (upd (upd (upd (upd (upd (upd (upd (upd (fun _ => 0) 0 0) 1 0) 2 0) 3 0) 4 0) 0 2) 0 4) 0 6) 0 8) 0 10) 0 12) 0 14) 0 16) 0 18) 0 20) 0 22))), (k, .inr (0, [.ref ks, .ref kw, .ref kc, .int (-6), .int 0, .int 0, .ref kq, .ref km, .ref kd, .int 0, .ref ka, .ref kk])), (ks, .inl (cI, 5, .inl (upd (fun _ => 0) 0 800))), (kw, .inl (cI, 14, .inl (fun _ => 0)))] H := hP
    replace hD : va_D A [(o, .inr (3, [.ref k, .ref op, .int 0, .ref oq, .ref ov, .ref os])), (os, .inl (cI, 5, .inl (upd (upd (upd (upd (upd (upd (upd (upd (upd (upd (upd (upd (upd (upd (upd (upd (fun _ => 0) 0 0) 1 0) 2 0) 3 0) 4 0) 0 2) 0 4) 0 6) 0 8) 0 10) 0 12) 0 14) 0 16) 0 18) 0 20) 0 22))), (k, .inr (0, [.ref ks, .ref kw, .ref kc, .int (-6), .int 0, .int 0, .ref kq, .ref km, .ref kd, .int 0, .ref ka, .ref kk])), (ks, .inl (cI, 5, .inl (upd (fun _ => 0) 0 800))), (kw, .inl (cI, 14, .inl (fun _ => 0)))] := hD
    refine lv_iinc (v := 11) (lv' := [(2, .int 11), (0, .ref o), (1, .int 12)]) hx hb dX3_countSlots_53 hl (k := 0) rfl (by decide) (by decide) rfl (fun ls hl => ?_)
    refine lv_goto (tgt := 30) hx hb dX3_countSlots_56 (by decide) ?_
    refine lv_iload_n hx hb dX3_countSlots_30 rfl (lv_at hl 0 rfl) ?_
    refine lv_iload_n hx hb dX3_countSlots_31 rfl (lv_at hl 2 rfl) ?_
    refine lv_icmp_gt (tgt := 59) hx hb dX3_countSlots_32 (by decide) (fun c460 => absurd c460 (by decide)) (fun c460 => ?_)
    refine lv_aload_n hx hb dX3_countSlots_35 rfl (lv_at hl 1 rfl) ?_
    refine va_get (D := (dC, dI)) (ci := 3) (v := .ref os) (C := RX3) (T := TX3) (N := 6) hx hb hts hin3 hown hK hP 0 rfl rfl 5 (by decide) hw0 (fun _ h9 => h9) rfl dX3_countSlots_36 ?_
    refine lv_aload_n hx hb dX3_countSlots_39 rfl (lv_at hl 1 rfl) ?_
    refine va_get (D := (dC, dI)) (ci := 3) (v := .ref k) (C := RX3) (T := TX3) (N := 6) hx hb hts hin3 hown hK hP 0 rfl rfl 0 (by decide) hw1 (fun _ h9 => h9) rfl dX3_countSlots_40 ?_
    refine lv_iload_n hx hb dX3_countSlots_43 rfl (lv_at hl 0 rfl) ?_
    refine lv_iconst (v := 0) hx hb dX3_countSlots_44 (by decide) ?_
    refine mx_i (wr := [(o, .inr (3, [.ref k, .ref op, .int 0, .ref oq, .ref ov, .ref os])), (os, .inl (cI, 5, .inl (upd (upd (upd (upd (upd (upd (upd (upd (upd (upd (upd (upd (upd (upd (upd (upd (fun _ => 0) 0 0) 1 0) 2 0) 3 0) 4 0) 0 2) 0 4) 0 6) 0 8) 0 10) 0 12) 0 14) 0 16) 0 18) 0 20) 0 22)))]) (va_runV (As := [.int 11, .int 0]) (rest := [.ref os]) ⟨hx, hb, hml, hown, hts⟩ (c_X0_windOn l dC dI cI cZ cK tS aK aV k ks kw kc kq km kd ka kk 11 H.size (by have z8 : (11 : Int32).toInt = 11 := rfl; first | omega | decide | assumption | trivial)) (cwV 2 hts (gw_v (fun _ h9 => List.mem_cons_of_mem _ h9) wm_169 wm_170 wm_171 wm_10 wm_172) rfl rfl rfl (by decide +kernel) ⟨Nat.le_of_ble_eq_true rfl, Nat.le_of_ble_eq_true rfl⟩) (mx_preV (C := RX0) (T := TX0) (N := 12) (ci := 0) hKx hP hD hS hA [2, 3, 4] (by decide) rfl rfl rfl) rfl rfl hl.1 rfl (lv_room (Nat.le_of_ble_eq_true rfl)) dX3_countSlots_45 ⟨Nat.le_of_ble_eq_true rfl, Nat.le_of_ble_eq_true rfl⟩) hP hD hS hA [2, 3, 4] [0, 1] rfl rfl (by decide) (by decide) (fun r461 u461 H locs hq461 hP hD hS => ?_)
    replace hP : va_P (dC, dI) vwCl [(o, .inr (3, [.ref k, .ref op, .int 0, .ref oq, .ref ov, .ref os])), (os, .inl (cI, 5, .inl (upd (upd (upd (upd (upd (upd (upd (upd (upd (upd (upd (upd (upd (upd (upd (upd (fun _ => 0) 0 0) 1 0) 2 0) 3 0) 4 0) 0 2) 0 4) 0 6) 0 8) 0 10) 0 12) 0 14) 0 16) 0 18) 0 20) 0 22))), (k, .inr (0, [.ref ks, .ref kw, .ref kc, .int (-6), .int 0, .int 0, .ref kq, .ref km, .ref kd, .int 0, .ref ka, .ref kk])), (ks, .inl (cI, 5, .inl (upd (fun _ => 0) 0 800))), (kw, .inl (cI, 14, .inl (fun _ => 0)))] H := hP
    replace hD : va_D A [(o, .inr (3, [.ref k, .ref op, .int 0, .ref oq, .ref ov, .ref os])), (os, .inl (cI, 5, .inl (upd (upd (upd (upd (upd (upd (upd (upd (upd (upd (upd (upd (upd (upd (upd (upd (fun _ => 0) 0 0) 1 0) 2 0) 3 0) 4 0) 0 2) 0 4) 0 6) 0 8) 0 10) 0 12) 0 14) 0 16) 0 18) 0 20) 0 22))), (k, .inr (0, [.ref ks, .ref kw, .ref kc, .int (-6), .int 0, .int 0, .ref kq, .ref km, .ref kd, .int 0, .ref ka, .ref kk])), (ks, .inl (cI, 5, .inl (upd (fun _ => 0) 0 800))), (kw, .inl (cI, 14, .inl (fun _ => 0)))] := hD
    obtain rfl : r461 = 0 := hq461
    refine lv_dup2_11 hx hb dX3_countSlots_48 rfl rfl ?_
    refine va_iald hx hb hK hP 1 0 rfl rfl (vin (by decide) (by decide)) dX3_countSlots_49 ?_
    refine lv_topi (fun x462 e462 => ?_)
    obtain rfl : x462 = 22 := e462.trans (by first | rfl | decide)
    refine lv_iconst (v := 2) hx hb dX3_countSlots_50 (by decide) ?_
    refine lv_iadd hx hb dX3_countSlots_51 ?_
    refine lv_topi (fun x463 e463 => ?_)
    obtain rfl : x463 = 24 := e463.trans (by decide)
    refine va_iast hx hb hK hP hD hS 1 0 rfl rfl (vin (by decide) (by decide)) dX3_countSlots_52 (fun H locs hP hD hS => ?_)
    replace hP : va_P (dC, dI) vwCl [(o, .inr (3, [.ref k, .ref op, .int 0, .ref oq, .ref ov, .ref os])), (os, .inl (cI, 5, .inl (upd (upd (upd (upd (upd (upd (upd (upd (upd (upd (upd (upd (upd (upd (upd (upd (upd (fun _ => 0) 0 0) 1 0) 2 0) 3 0) 4 0) 0 2) 0 4) 0 6) 0 8) 0 10) 0 12) 0 14) 0 16) 0 18) 0 20) 0 22) 0 24))), (k, .inr (0, [.ref ks, .ref kw, .ref kc, .int (-6), .int 0, .int 0, .ref kq, .ref km, .ref kd, .int 0, .ref ka, .ref kk])), (ks, .inl (cI, 5, .inl (upd (fun _ => 0) 0 800))), (kw, .inl (cI, 14, .inl (fun _ => 0)))] H := hP
    replace hD : va_D A [(o, .inr (3, [.ref k, .ref op, .int 0, .ref oq, .ref ov, .ref os])), (os, .inl (cI, 5, .inl (upd (upd (upd (upd (upd (upd (upd (upd (upd (upd (upd (upd (upd (upd (upd (upd (upd (fun _ => 0) 0 0) 1 0) 2 0) 3 0) 4 0) 0 2) 0 4) 0 6) 0 8) 0 10) 0 12) 0 14) 0 16) 0 18) 0 20) 0 22) 0 24))), (k, .inr (0, [.ref ks, .ref kw, .ref kc, .int (-6), .int 0, .int 0, .ref kq, .ref km, .ref kd, .int 0, .ref ka, .ref kk])), (ks, .inl (cI, 5, .inl (upd (fun _ => 0) 0 800))), (kw, .inl (cI, 14, .inl (fun _ => 0)))] := hD
    refine lv_iinc (v := 12) (lv' := [(2, .int 12), (0, .ref o), (1, .int 12)]) hx hb dX3_countSlots_53 hl (k := 0) rfl (by decide) (by decide) rfl (fun ls hl => ?_)
    refine lv_goto (tgt := 30) hx hb dX3_countSlots_56 (by decide) ?_
    refine lv_iload_n hx hb dX3_countSlots_30 rfl (lv_at hl 0 rfl) ?_
    refine lv_iload_n hx hb dX3_countSlots_31 rfl (lv_at hl 2 rfl) ?_
    refine lv_icmp_gt (tgt := 59) hx hb dX3_countSlots_32 (by decide) (fun c464 => absurd c464 (by decide)) (fun c464 => ?_)
    refine lv_aload_n hx hb dX3_countSlots_35 rfl (lv_at hl 1 rfl) ?_
    refine va_get (D := (dC, dI)) (ci := 3) (v := .ref os) (C := RX3) (T := TX3) (N := 6) hx hb hts hin3 hown hK hP 0 rfl rfl 5 (by decide) hw0 (fun _ h9 => h9) rfl dX3_countSlots_36 ?_
    refine lv_aload_n hx hb dX3_countSlots_39 rfl (lv_at hl 1 rfl) ?_
    refine va_get (D := (dC, dI)) (ci := 3) (v := .ref k) (C := RX3) (T := TX3) (N := 6) hx hb hts hin3 hown hK hP 0 rfl rfl 0 (by decide) hw1 (fun _ h9 => h9) rfl dX3_countSlots_40 ?_
    refine lv_iload_n hx hb dX3_countSlots_43 rfl (lv_at hl 0 rfl) ?_
    refine lv_iconst (v := 0) hx hb dX3_countSlots_44 (by decide) ?_
    refine mx_i (wr := [(o, .inr (3, [.ref k, .ref op, .int 0, .ref oq, .ref ov, .ref os])), (os, .inl (cI, 5, .inl (upd (upd (upd (upd (upd (upd (upd (upd (upd (upd (upd (upd (upd (upd (upd (upd (upd (fun _ => 0) 0 0) 1 0) 2 0) 3 0) 4 0) 0 2) 0 4) 0 6) 0 8) 0 10) 0 12) 0 14) 0 16) 0 18) 0 20) 0 22) 0 24)))]) (va_runV (As := [.int 12, .int 0]) (rest := [.ref os]) ⟨hx, hb, hml, hown, hts⟩ (c_X0_windOn l dC dI cI cZ cK tS aK aV k ks kw kc kq km kd ka kk 12 H.size (by have z8 : (12 : Int32).toInt = 12 := rfl; first | omega | decide | assumption | trivial)) (cwV 2 hts (gw_v (fun _ h9 => List.mem_cons_of_mem _ h9) wm_169 wm_170 wm_171 wm_10 wm_172) rfl rfl rfl (by decide +kernel) ⟨Nat.le_of_ble_eq_true rfl, Nat.le_of_ble_eq_true rfl⟩) (mx_preV (C := RX0) (T := TX0) (N := 12) (ci := 0) hKx hP hD hS hA [2, 3, 4] (by decide) rfl rfl rfl) rfl rfl hl.1 rfl (lv_room (Nat.le_of_ble_eq_true rfl)) dX3_countSlots_45 ⟨Nat.le_of_ble_eq_true rfl, Nat.le_of_ble_eq_true rfl⟩) hP hD hS hA [2, 3, 4] [0, 1] rfl rfl (by decide) (by decide) (fun r465 u465 H locs hq465 hP hD hS => ?_)
    replace hP : va_P (dC, dI) vwCl [(o, .inr (3, [.ref k, .ref op, .int 0, .ref oq, .ref ov, .ref os])), (os, .inl (cI, 5, .inl (upd (upd (upd (upd (upd (upd (upd (upd (upd (upd (upd (upd (upd (upd (upd (upd (upd (fun _ => 0) 0 0) 1 0) 2 0) 3 0) 4 0) 0 2) 0 4) 0 6) 0 8) 0 10) 0 12) 0 14) 0 16) 0 18) 0 20) 0 22) 0 24))), (k, .inr (0, [.ref ks, .ref kw, .ref kc, .int (-6), .int 0, .int 0, .ref kq, .ref km, .ref kd, .int 0, .ref ka, .ref kk])), (ks, .inl (cI, 5, .inl (upd (fun _ => 0) 0 800))), (kw, .inl (cI, 14, .inl (fun _ => 0)))] H := hP
    replace hD : va_D A [(o, .inr (3, [.ref k, .ref op, .int 0, .ref oq, .ref ov, .ref os])), (os, .inl (cI, 5, .inl (upd (upd (upd (upd (upd (upd (upd (upd (upd (upd (upd (upd (upd (upd (upd (upd (upd (fun _ => 0) 0 0) 1 0) 2 0) 3 0) 4 0) 0 2) 0 4) 0 6) 0 8) 0 10) 0 12) 0 14) 0 16) 0 18) 0 20) 0 22) 0 24))), (k, .inr (0, [.ref ks, .ref kw, .ref kc, .int (-6), .int 0, .int 0, .ref kq, .ref km, .ref kd, .int 0, .ref ka, .ref kk])), (ks, .inl (cI, 5, .inl (upd (fun _ => 0) 0 800))), (kw, .inl (cI, 14, .inl (fun _ => 0)))] := hD
    obtain rfl : r465 = 0 := hq465
    refine lv_dup2_11 hx hb dX3_countSlots_48 rfl rfl ?_
    refine va_iald hx hb hK hP 1 0 rfl rfl (vin (by decide) (by decide)) dX3_countSlots_49 ?_
    refine lv_topi (fun x466 e466 => ?_)
    obtain rfl : x466 = 24 := e466.trans (by first | rfl | decide)
    refine lv_iconst (v := 2) hx hb dX3_countSlots_50 (by decide) ?_
    refine lv_iadd hx hb dX3_countSlots_51 ?_
    refine lv_topi (fun x467 e467 => ?_)
    obtain rfl : x467 = 26 := e467.trans (by decide)
    refine va_iast hx hb hK hP hD hS 1 0 rfl rfl (vin (by decide) (by decide)) dX3_countSlots_52 (fun H locs hP hD hS => ?_)
    replace hP : va_P (dC, dI) vwCl [(o, .inr (3, [.ref k, .ref op, .int 0, .ref oq, .ref ov, .ref os])), (os, .inl (cI, 5, .inl (upd (upd (upd (upd (upd (upd (upd (upd (upd (upd (upd (upd (upd (upd (upd (upd (upd (upd (fun _ => 0) 0 0) 1 0) 2 0) 3 0) 4 0) 0 2) 0 4) 0 6) 0 8) 0 10) 0 12) 0 14) 0 16) 0 18) 0 20) 0 22) 0 24) 0 26))), (k, .inr (0, [.ref ks, .ref kw, .ref kc, .int (-6), .int 0, .int 0, .ref kq, .ref km, .ref kd, .int 0, .ref ka, .ref kk])), (ks, .inl (cI, 5, .inl (upd (fun _ => 0) 0 800))), (kw, .inl (cI, 14, .inl (fun _ => 0)))] H := hP
    replace hD : va_D A [(o, .inr (3, [.ref k, .ref op, .int 0, .ref oq, .ref ov, .ref os])), (os, .inl (cI, 5, .inl (upd (upd (upd (upd (upd (upd (upd (upd (upd (upd (upd (upd (upd (upd (upd (upd (upd (upd (fun _ => 0) 0 0) 1 0) 2 0) 3 0) 4 0) 0 2) 0 4) 0 6) 0 8) 0 10) 0 12) 0 14) 0 16) 0 18) 0 20) 0 22) 0 24) 0 26))), (k, .inr (0, [.ref ks, .ref kw, .ref kc, .int (-6), .int 0, .int 0, .ref kq, .ref km, .ref kd, .int 0, .ref ka, .ref kk])), (ks, .inl (cI, 5, .inl (upd (fun _ => 0) 0 800))), (kw, .inl (cI, 14, .inl (fun _ => 0)))] := hD
    refine lv_iinc (v := 13) (lv' := [(2, .int 13), (0, .ref o), (1, .int 12)]) hx hb dX3_countSlots_53 hl (k := 0) rfl (by decide) (by decide) rfl (fun ls hl => ?_)
    refine lv_goto (tgt := 30) hx hb dX3_countSlots_56 (by decide) ?_
    refine lv_iload_n hx hb dX3_countSlots_30 rfl (lv_at hl 0 rfl) ?_
    refine lv_iload_n hx hb dX3_countSlots_31 rfl (lv_at hl 2 rfl) ?_
    refine lv_icmp_gt (tgt := 59) hx hb dX3_countSlots_32 (by decide) (fun c468 => ?_) (fun c468 => absurd c468 (by decide))
    have hP9 := mx_subP (wc := [(o, .inr (3, [.ref k, .ref op, .int 0, .ref oq, .ref ov, .ref os])), (os, .inl (cI, 5, .inl (upd (upd (upd (upd (upd (upd (upd (upd (upd (upd (upd (upd (upd (upd (upd (upd (upd (upd (fun _ => 0) 0 0) 1 0) 2 0) 3 0) 4 0) 0 2) 0 4) 0 6) 0 8) 0 10) 0 12) 0 14) 0 16) 0 18) 0 20) 0 22) 0 24) 0 26))), (k, .inr (0, [.ref ks, .ref kw, .ref kc, .int (-6), .int 0, .int 0, .ref kq, .ref km, .ref kd, .int 0, .ref ka, .ref kk])), (ks, .inl (cI, 5, .inl (upd (fun _ => 0) 0 800))), (kw, .inl (cI, 14, .inl (fun _ => 0)))]) hP [0, 1, 2, 3, 4] rfl
    have hD9 := hD.sub (ws' := [(o, .inr (3, [.ref k, .ref op, .int 0, .ref oq, .ref ov, .ref os])), (os, .inl (cI, 5, .inl (upd (upd (upd (upd (upd (upd (upd (upd (upd (upd (upd (upd (upd (upd (upd (upd (upd (upd (fun _ => 0) 0 0) 1 0) 2 0) 3 0) 4 0) 0 2) 0 4) 0 6) 0 8) 0 10) 0 12) 0 14) 0 16) 0 18) 0 20) 0 22) 0 24) 0 26))), (k, .inr (0, [.ref ks, .ref kw, .ref kc, .int (-6), .int 0, .int 0, .ref kq, .ref km, .ref kd, .int 0, .ref ka, .ref kk])), (ks, .inl (cI, 5, .inl (upd (fun _ => 0) 0 800))), (kw, .inl (cI, 14, .inl (fun _ => 0)))]) [0, 1, 2, 3, 4] (by decide) rfl
    exact W.vret hx hb hr (fun t ht hW => ⟨⟨(upd (upd (upd (upd (upd (upd (upd (upd (upd (upd (upd (upd (upd (upd (upd (upd (upd (upd (fun _ => 0) 0 0) 1 0) 2 0) 3 0) 4 0) 0 2) 0 4) 0 6) 0 8) 0 10) 0 12) 0 14) 0 16) 0 18) 0 20) 0 22) 0 24) 0 26), rfl, (by refine ⟨?_, ?_, ?_, ?_, ?_, ?_, ?_, ?_, ?_, ?_⟩ <;> decide), by rw [ht]; exact hP9, hD9⟩, hS.F ht⟩) hS.2.2 dX3_countSlots_59
  · have z9 : (13 : Int32).toInt = 13 := rfl
    refine lv_iconst (v := 0) hx hb dX3_countSlots_0 (by decide) ?_
    refine lv_istore_n (lv' := [(2, .int 0), (0, .ref o), (1, .int 13)]) hx hb dX3_countSlots_1 rfl hl (by decide) rfl (fun ls hl => ?_)
    refine lv_iload_n hx hb dX3_countSlots_2 rfl (lv_at hl 0 rfl) ?_
    refine lv_iconst (v := 4) hx hb dX3_countSlots_3 (by decide) ?_
    refine lv_icmp_gt (tgt := 20) hx hb dX3_countSlots_4 (by decide) (fun c469 => absurd c469 (by decide)) (fun c469 => ?_)
    refine lv_aload_n hx hb dX3_countSlots_7 rfl (lv_at hl 1 rfl) ?_
    refine va_get (D := (dC, dI)) (ci := 3) (v := .ref os) (C := RX3) (T := TX3) (N := 6) hx hb hts hin3 hown hK hP 0 rfl rfl 5 (by decide) hw0 (fun _ h9 => h9) rfl dX3_countSlots_8 ?_
    refine lv_iload_n hx hb dX3_countSlots_11 rfl (lv_at hl 0 rfl) ?_
    refine lv_iconst (v := 0) hx hb dX3_countSlots_12 (by decide) ?_
    refine va_iast hx hb hK hP hD hS 1 0 rfl rfl (vin (by decide) (by decide)) dX3_countSlots_13 (fun H locs hP hD hS => ?_)
    replace hP : va_P (dC, dI) vwCl [(o, .inr (3, [.ref k, .ref op, .int 0, .ref oq, .ref ov, .ref os])), (os, .inl (cI, 5, .inl (upd (fun _ => 0) 0 0))), (k, .inr (0, [.ref ks, .ref kw, .ref kc, .int (-6), .int 0, .int 0, .ref kq, .ref km, .ref kd, .int 0, .ref ka, .ref kk])), (ks, .inl (cI, 5, .inl (upd (fun _ => 0) 0 800))), (kw, .inl (cI, 14, .inl (fun _ => 0)))] H := hP
    replace hD : va_D A [(o, .inr (3, [.ref k, .ref op, .int 0, .ref oq, .ref ov, .ref os])), (os, .inl (cI, 5, .inl (upd (fun _ => 0) 0 0))), (k, .inr (0, [.ref ks, .ref kw, .ref kc, .int (-6), .int 0, .int 0, .ref kq, .ref km, .ref kd, .int 0, .ref ka, .ref kk])), (ks, .inl (cI, 5, .inl (upd (fun _ => 0) 0 800))), (kw, .inl (cI, 14, .inl (fun _ => 0)))] := hD
    refine lv_iinc (v := 1) (lv' := [(2, .int 1), (0, .ref o), (1, .int 13)]) hx hb dX3_countSlots_14 hl (k := 0) rfl (by decide) (by decide) rfl (fun ls hl => ?_)
    refine lv_goto (tgt := 2) hx hb dX3_countSlots_17 (by decide) ?_
    refine lv_iload_n hx hb dX3_countSlots_2 rfl (lv_at hl 0 rfl) ?_
    refine lv_iconst (v := 4) hx hb dX3_countSlots_3 (by decide) ?_
    refine lv_icmp_gt (tgt := 20) hx hb dX3_countSlots_4 (by decide) (fun c470 => absurd c470 (by decide)) (fun c470 => ?_)
    refine lv_aload_n hx hb dX3_countSlots_7 rfl (lv_at hl 1 rfl) ?_
    refine va_get (D := (dC, dI)) (ci := 3) (v := .ref os) (C := RX3) (T := TX3) (N := 6) hx hb hts hin3 hown hK hP 0 rfl rfl 5 (by decide) hw0 (fun _ h9 => h9) rfl dX3_countSlots_8 ?_
    refine lv_iload_n hx hb dX3_countSlots_11 rfl (lv_at hl 0 rfl) ?_
    refine lv_iconst (v := 0) hx hb dX3_countSlots_12 (by decide) ?_
    refine va_iast hx hb hK hP hD hS 1 0 rfl rfl (vin (by decide) (by decide)) dX3_countSlots_13 (fun H locs hP hD hS => ?_)
    replace hP : va_P (dC, dI) vwCl [(o, .inr (3, [.ref k, .ref op, .int 0, .ref oq, .ref ov, .ref os])), (os, .inl (cI, 5, .inl (upd (upd (fun _ => 0) 0 0) 1 0))), (k, .inr (0, [.ref ks, .ref kw, .ref kc, .int (-6), .int 0, .int 0, .ref kq, .ref km, .ref kd, .int 0, .ref ka, .ref kk])), (ks, .inl (cI, 5, .inl (upd (fun _ => 0) 0 800))), (kw, .inl (cI, 14, .inl (fun _ => 0)))] H := hP
    replace hD : va_D A [(o, .inr (3, [.ref k, .ref op, .int 0, .ref oq, .ref ov, .ref os])), (os, .inl (cI, 5, .inl (upd (upd (fun _ => 0) 0 0) 1 0))), (k, .inr (0, [.ref ks, .ref kw, .ref kc, .int (-6), .int 0, .int 0, .ref kq, .ref km, .ref kd, .int 0, .ref ka, .ref kk])), (ks, .inl (cI, 5, .inl (upd (fun _ => 0) 0 800))), (kw, .inl (cI, 14, .inl (fun _ => 0)))] := hD
    refine lv_iinc (v := 2) (lv' := [(2, .int 2), (0, .ref o), (1, .int 13)]) hx hb dX3_countSlots_14 hl (k := 0) rfl (by decide) (by decide) rfl (fun ls hl => ?_)
    refine lv_goto (tgt := 2) hx hb dX3_countSlots_17 (by decide) ?_
    refine lv_iload_n hx hb dX3_countSlots_2 rfl (lv_at hl 0 rfl) ?_
    refine lv_iconst (v := 4) hx hb dX3_countSlots_3 (by decide) ?_
    refine lv_icmp_gt (tgt := 20) hx hb dX3_countSlots_4 (by decide) (fun c471 => absurd c471 (by decide)) (fun c471 => ?_)
    refine lv_aload_n hx hb dX3_countSlots_7 rfl (lv_at hl 1 rfl) ?_
    refine va_get (D := (dC, dI)) (ci := 3) (v := .ref os) (C := RX3) (T := TX3) (N := 6) hx hb hts hin3 hown hK hP 0 rfl rfl 5 (by decide) hw0 (fun _ h9 => h9) rfl dX3_countSlots_8 ?_
    refine lv_iload_n hx hb dX3_countSlots_11 rfl (lv_at hl 0 rfl) ?_
    refine lv_iconst (v := 0) hx hb dX3_countSlots_12 (by decide) ?_
    refine va_iast hx hb hK hP hD hS 1 0 rfl rfl (vin (by decide) (by decide)) dX3_countSlots_13 (fun H locs hP hD hS => ?_)
    replace hP : va_P (dC, dI) vwCl [(o, .inr (3, [.ref k, .ref op, .int 0, .ref oq, .ref ov, .ref os])), (os, .inl (cI, 5, .inl (upd (upd (upd (fun _ => 0) 0 0) 1 0) 2 0))), (k, .inr (0, [.ref ks, .ref kw, .ref kc, .int (-6), .int 0, .int 0, .ref kq, .ref km, .ref kd, .int 0, .ref ka, .ref kk])), (ks, .inl (cI, 5, .inl (upd (fun _ => 0) 0 800))), (kw, .inl (cI, 14, .inl (fun _ => 0)))] H := hP
    replace hD : va_D A [(o, .inr (3, [.ref k, .ref op, .int 0, .ref oq, .ref ov, .ref os])), (os, .inl (cI, 5, .inl (upd (upd (upd (fun _ => 0) 0 0) 1 0) 2 0))), (k, .inr (0, [.ref ks, .ref kw, .ref kc, .int (-6), .int 0, .int 0, .ref kq, .ref km, .ref kd, .int 0, .ref ka, .ref kk])), (ks, .inl (cI, 5, .inl (upd (fun _ => 0) 0 800))), (kw, .inl (cI, 14, .inl (fun _ => 0)))] := hD
    refine lv_iinc (v := 3) (lv' := [(2, .int 3), (0, .ref o), (1, .int 13)]) hx hb dX3_countSlots_14 hl (k := 0) rfl (by decide) (by decide) rfl (fun ls hl => ?_)
    refine lv_goto (tgt := 2) hx hb dX3_countSlots_17 (by decide) ?_
    refine lv_iload_n hx hb dX3_countSlots_2 rfl (lv_at hl 0 rfl) ?_
    refine lv_iconst (v := 4) hx hb dX3_countSlots_3 (by decide) ?_
    refine lv_icmp_gt (tgt := 20) hx hb dX3_countSlots_4 (by decide) (fun c472 => absurd c472 (by decide)) (fun c472 => ?_)
    refine lv_aload_n hx hb dX3_countSlots_7 rfl (lv_at hl 1 rfl) ?_
    refine va_get (D := (dC, dI)) (ci := 3) (v := .ref os) (C := RX3) (T := TX3) (N := 6) hx hb hts hin3 hown hK hP 0 rfl rfl 5 (by decide) hw0 (fun _ h9 => h9) rfl dX3_countSlots_8 ?_
    refine lv_iload_n hx hb dX3_countSlots_11 rfl (lv_at hl 0 rfl) ?_
    refine lv_iconst (v := 0) hx hb dX3_countSlots_12 (by decide) ?_
    refine va_iast hx hb hK hP hD hS 1 0 rfl rfl (vin (by decide) (by decide)) dX3_countSlots_13 (fun H locs hP hD hS => ?_)
    replace hP : va_P (dC, dI) vwCl [(o, .inr (3, [.ref k, .ref op, .int 0, .ref oq, .ref ov, .ref os])), (os, .inl (cI, 5, .inl (upd (upd (upd (upd (fun _ => 0) 0 0) 1 0) 2 0) 3 0))), (k, .inr (0, [.ref ks, .ref kw, .ref kc, .int (-6), .int 0, .int 0, .ref kq, .ref km, .ref kd, .int 0, .ref ka, .ref kk])), (ks, .inl (cI, 5, .inl (upd (fun _ => 0) 0 800))), (kw, .inl (cI, 14, .inl (fun _ => 0)))] H := hP
    replace hD : va_D A [(o, .inr (3, [.ref k, .ref op, .int 0, .ref oq, .ref ov, .ref os])), (os, .inl (cI, 5, .inl (upd (upd (upd (upd (fun _ => 0) 0 0) 1 0) 2 0) 3 0))), (k, .inr (0, [.ref ks, .ref kw, .ref kc, .int (-6), .int 0, .int 0, .ref kq, .ref km, .ref kd, .int 0, .ref ka, .ref kk])), (ks, .inl (cI, 5, .inl (upd (fun _ => 0) 0 800))), (kw, .inl (cI, 14, .inl (fun _ => 0)))] := hD
    refine lv_iinc (v := 4) (lv' := [(2, .int 4), (0, .ref o), (1, .int 13)]) hx hb dX3_countSlots_14 hl (k := 0) rfl (by decide) (by decide) rfl (fun ls hl => ?_)
    refine lv_goto (tgt := 2) hx hb dX3_countSlots_17 (by decide) ?_
    refine lv_iload_n hx hb dX3_countSlots_2 rfl (lv_at hl 0 rfl) ?_
    refine lv_iconst (v := 4) hx hb dX3_countSlots_3 (by decide) ?_
    refine lv_icmp_gt (tgt := 20) hx hb dX3_countSlots_4 (by decide) (fun c473 => absurd c473 (by decide)) (fun c473 => ?_)
    refine lv_aload_n hx hb dX3_countSlots_7 rfl (lv_at hl 1 rfl) ?_
    refine va_get (D := (dC, dI)) (ci := 3) (v := .ref os) (C := RX3) (T := TX3) (N := 6) hx hb hts hin3 hown hK hP 0 rfl rfl 5 (by decide) hw0 (fun _ h9 => h9) rfl dX3_countSlots_8 ?_
    refine lv_iload_n hx hb dX3_countSlots_11 rfl (lv_at hl 0 rfl) ?_
    refine lv_iconst (v := 0) hx hb dX3_countSlots_12 (by decide) ?_
    refine va_iast hx hb hK hP hD hS 1 0 rfl rfl (vin (by decide) (by decide)) dX3_countSlots_13 (fun H locs hP hD hS => ?_)
    replace hP : va_P (dC, dI) vwCl [(o, .inr (3, [.ref k, .ref op, .int 0, .ref oq, .ref ov, .ref os])), (os, .inl (cI, 5, .inl (upd (upd (upd (upd (upd (fun _ => 0) 0 0) 1 0) 2 0) 3 0) 4 0))), (k, .inr (0, [.ref ks, .ref kw, .ref kc, .int (-6), .int 0, .int 0, .ref kq, .ref km, .ref kd, .int 0, .ref ka, .ref kk])), (ks, .inl (cI, 5, .inl (upd (fun _ => 0) 0 800))), (kw, .inl (cI, 14, .inl (fun _ => 0)))] H := hP
    replace hD : va_D A [(o, .inr (3, [.ref k, .ref op, .int 0, .ref oq, .ref ov, .ref os])), (os, .inl (cI, 5, .inl (upd (upd (upd (upd (upd (fun _ => 0) 0 0) 1 0) 2 0) 3 0) 4 0))), (k, .inr (0, [.ref ks, .ref kw, .ref kc, .int (-6), .int 0, .int 0, .ref kq, .ref km, .ref kd, .int 0, .ref ka, .ref kk])), (ks, .inl (cI, 5, .inl (upd (fun _ => 0) 0 800))), (kw, .inl (cI, 14, .inl (fun _ => 0)))] := hD
    refine lv_iinc (v := 5) (lv' := [(2, .int 5), (0, .ref o), (1, .int 13)]) hx hb dX3_countSlots_14 hl (k := 0) rfl (by decide) (by decide) rfl (fun ls hl => ?_)
    refine lv_goto (tgt := 2) hx hb dX3_countSlots_17 (by decide) ?_
    refine lv_iload_n hx hb dX3_countSlots_2 rfl (lv_at hl 0 rfl) ?_
    refine lv_iconst (v := 4) hx hb dX3_countSlots_3 (by decide) ?_
    refine lv_icmp_gt (tgt := 20) hx hb dX3_countSlots_4 (by decide) (fun c474 => ?_) (fun c474 => absurd c474 (by decide))
    refine lv_aload_n hx hb dX3_countSlots_20 rfl (lv_at hl 1 rfl) ?_
    refine va_get (D := (dC, dI)) (ci := 3) (v := .ref k) (C := RX3) (T := TX3) (N := 6) hx hb hts hin3 hown hK hP 0 rfl rfl 0 (by decide) hw1 (fun _ h9 => h9) rfl dX3_countSlots_21 ?_
    refine va_get (D := (dC, dI)) (ci := 0) (v := .ref ks) (C := RX0) (T := TX0) (N := 12) hx hb hts hin0 hown hK hP 2 rfl rfl 0 (by decide) hw2 (fun _ h9 => h9) rfl dX3_countSlots_24 ?_
    refine lv_iconst (v := 4) hx hb dX3_countSlots_27 (by decide) ?_
    refine va_iald hx hb hK hP 3 0 rfl rfl (vin (by decide) (by decide)) dX3_countSlots_28 ?_
    refine lv_topi (fun x475 e475 => ?_)
    obtain rfl : x475 = 0 := e475.trans (by first | rfl | decide)
    refine lv_istore_n (lv' := [(2, .int 0), (0, .ref o), (1, .int 13)]) hx hb dX3_countSlots_29 rfl hl (by decide) rfl (fun ls hl => ?_)
    refine lv_iload_n hx hb dX3_countSlots_30 rfl (lv_at hl 0 rfl) ?_
    refine lv_iload_n hx hb dX3_countSlots_31 rfl (lv_at hl 2 rfl) ?_
    refine lv_icmp_gt (tgt := 59) hx hb dX3_countSlots_32 (by decide) (fun c476 => absurd c476 (by decide)) (fun c476 => ?_)
    refine lv_aload_n hx hb dX3_countSlots_35 rfl (lv_at hl 1 rfl) ?_
    refine va_get (D := (dC, dI)) (ci := 3) (v := .ref os) (C := RX3) (T := TX3) (N := 6) hx hb hts hin3 hown hK hP 0 rfl rfl 5 (by decide) hw0 (fun _ h9 => h9) rfl dX3_countSlots_36 ?_
    refine lv_aload_n hx hb dX3_countSlots_39 rfl (lv_at hl 1 rfl) ?_
    refine va_get (D := (dC, dI)) (ci := 3) (v := .ref k) (C := RX3) (T := TX3) (N := 6) hx hb hts hin3 hown hK hP 0 rfl rfl 0 (by decide) hw1 (fun _ h9 => h9) rfl dX3_countSlots_40 ?_
    refine lv_iload_n hx hb dX3_countSlots_43 rfl (lv_at hl 0 rfl) ?_
    refine lv_iconst (v := 0) hx hb dX3_countSlots_44 (by decide) ?_
    refine mx_i (wr := [(o, .inr (3, [.ref k, .ref op, .int 0, .ref oq, .ref ov, .ref os])), (os, .inl (cI, 5, .inl (upd (upd (upd (upd (upd (fun _ => 0) 0 0) 1 0) 2 0) 3 0) 4 0)))]) (va_runV (As := [.int 0, .int 0]) (rest := [.ref os]) ⟨hx, hb, hml, hown, hts⟩ (c_X0_windOn l dC dI cI cZ cK tS aK aV k ks kw kc kq km kd ka kk 0 H.size (by have z8 : (0 : Int32).toInt = 0 := rfl; first | omega | decide | assumption | trivial)) (cwV 2 hts (gw_v (fun _ h9 => List.mem_cons_of_mem _ h9) wm_169 wm_170 wm_171 wm_10 wm_172) rfl rfl rfl (by decide +kernel) ⟨Nat.le_of_ble_eq_true rfl, Nat.le_of_ble_eq_true rfl⟩) (mx_preV (C := RX0) (T := TX0) (N := 12) (ci := 0) hKx hP hD hS hA [2, 3, 4] (by decide) rfl rfl rfl) rfl rfl hl.1 rfl (lv_room (Nat.le_of_ble_eq_true rfl)) dX3_countSlots_45 ⟨Nat.le_of_ble_eq_true rfl, Nat.le_of_ble_eq_true rfl⟩) hP hD hS hA [2, 3, 4] [0, 1] rfl rfl (by decide) (by decide) (fun r477 u477 H locs hq477 hP hD hS => ?_)
    replace hP : va_P (dC, dI) vwCl [(o, .inr (3, [.ref k, .ref op, .int 0, .ref oq, .ref ov, .ref os])), (os, .inl (cI, 5, .inl (upd (upd (upd (upd (upd (fun _ => 0) 0 0) 1 0) 2 0) 3 0) 4 0))), (k, .inr (0, [.ref ks, .ref kw, .ref kc, .int (-6), .int 0, .int 0, .ref kq, .ref km, .ref kd, .int 0, .ref ka, .ref kk])), (ks, .inl (cI, 5, .inl (upd (fun _ => 0) 0 800))), (kw, .inl (cI, 14, .inl (fun _ => 0)))] H := hP
    replace hD : va_D A [(o, .inr (3, [.ref k, .ref op, .int 0, .ref oq, .ref ov, .ref os])), (os, .inl (cI, 5, .inl (upd (upd (upd (upd (upd (fun _ => 0) 0 0) 1 0) 2 0) 3 0) 4 0))), (k, .inr (0, [.ref ks, .ref kw, .ref kc, .int (-6), .int 0, .int 0, .ref kq, .ref km, .ref kd, .int 0, .ref ka, .ref kk])), (ks, .inl (cI, 5, .inl (upd (fun _ => 0) 0 800))), (kw, .inl (cI, 14, .inl (fun _ => 0)))] := hD
    obtain rfl : r477 = 0 := hq477
    refine lv_dup2_11 hx hb dX3_countSlots_48 rfl rfl ?_
    refine va_iald hx hb hK hP 1 0 rfl rfl (vin (by decide) (by decide)) dX3_countSlots_49 ?_
    refine lv_topi (fun x478 e478 => ?_)
    obtain rfl : x478 = 0 := e478.trans (by first | rfl | decide)
    refine lv_iconst (v := 2) hx hb dX3_countSlots_50 (by decide) ?_
    refine lv_iadd hx hb dX3_countSlots_51 ?_
    refine lv_topi (fun x479 e479 => ?_)
    obtain rfl : x479 = 2 := e479.trans (by decide)
    refine va_iast hx hb hK hP hD hS 1 0 rfl rfl (vin (by decide) (by decide)) dX3_countSlots_52 (fun H locs hP hD hS => ?_)
    replace hP : va_P (dC, dI) vwCl [(o, .inr (3, [.ref k, .ref op, .int 0, .ref oq, .ref ov, .ref os])), (os, .inl (cI, 5, .inl (upd (upd (upd (upd (upd (upd (fun _ => 0) 0 0) 1 0) 2 0) 3 0) 4 0) 0 2))), (k, .inr (0, [.ref ks, .ref kw, .ref kc, .int (-6), .int 0, .int 0, .ref kq, .ref km, .ref kd, .int 0, .ref ka, .ref kk])), (ks, .inl (cI, 5, .inl (upd (fun _ => 0) 0 800))), (kw, .inl (cI, 14, .inl (fun _ => 0)))] H := hP
    replace hD : va_D A [(o, .inr (3, [.ref k, .ref op, .int 0, .ref oq, .ref ov, .ref os])), (os, .inl (cI, 5, .inl (upd (upd (upd (upd (upd (upd (fun _ => 0) 0 0) 1 0) 2 0) 3 0) 4 0) 0 2))), (k, .inr (0, [.ref ks, .ref kw, .ref kc, .int (-6), .int 0, .int 0, .ref kq, .ref km, .ref kd, .int 0, .ref ka, .ref kk])), (ks, .inl (cI, 5, .inl (upd (fun _ => 0) 0 800))), (kw, .inl (cI, 14, .inl (fun _ => 0)))] := hD
    refine lv_iinc (v := 1) (lv' := [(2, .int 1), (0, .ref o), (1, .int 13)]) hx hb dX3_countSlots_53 hl (k := 0) rfl (by decide) (by decide) rfl (fun ls hl => ?_)
    refine lv_goto (tgt := 30) hx hb dX3_countSlots_56 (by decide) ?_
    refine lv_iload_n hx hb dX3_countSlots_30 rfl (lv_at hl 0 rfl) ?_
    refine lv_iload_n hx hb dX3_countSlots_31 rfl (lv_at hl 2 rfl) ?_
    refine lv_icmp_gt (tgt := 59) hx hb dX3_countSlots_32 (by decide) (fun c480 => absurd c480 (by decide)) (fun c480 => ?_)
    refine lv_aload_n hx hb dX3_countSlots_35 rfl (lv_at hl 1 rfl) ?_
    refine va_get (D := (dC, dI)) (ci := 3) (v := .ref os) (C := RX3) (T := TX3) (N := 6) hx hb hts hin3 hown hK hP 0 rfl rfl 5 (by decide) hw0 (fun _ h9 => h9) rfl dX3_countSlots_36 ?_
    refine lv_aload_n hx hb dX3_countSlots_39 rfl (lv_at hl 1 rfl) ?_
    refine va_get (D := (dC, dI)) (ci := 3) (v := .ref k) (C := RX3) (T := TX3) (N := 6) hx hb hts hin3 hown hK hP 0 rfl rfl 0 (by decide) hw1 (fun _ h9 => h9) rfl dX3_countSlots_40 ?_
    refine lv_iload_n hx hb dX3_countSlots_43 rfl (lv_at hl 0 rfl) ?_
    refine lv_iconst (v := 0) hx hb dX3_countSlots_44 (by decide) ?_
    refine mx_i (wr := [(o, .inr (3, [.ref k, .ref op, .int 0, .ref oq, .ref ov, .ref os])), (os, .inl (cI, 5, .inl (upd (upd (upd (upd (upd (upd (fun _ => 0) 0 0) 1 0) 2 0) 3 0) 4 0) 0 2)))]) (va_runV (As := [.int 1, .int 0]) (rest := [.ref os]) ⟨hx, hb, hml, hown, hts⟩ (c_X0_windOn l dC dI cI cZ cK tS aK aV k ks kw kc kq km kd ka kk 1 H.size (by have z8 : (1 : Int32).toInt = 1 := rfl; first | omega | decide | assumption | trivial)) (cwV 2 hts (gw_v (fun _ h9 => List.mem_cons_of_mem _ h9) wm_169 wm_170 wm_171 wm_10 wm_172) rfl rfl rfl (by decide +kernel) ⟨Nat.le_of_ble_eq_true rfl, Nat.le_of_ble_eq_true rfl⟩) (mx_preV (C := RX0) (T := TX0) (N := 12) (ci := 0) hKx hP hD hS hA [2, 3, 4] (by decide) rfl rfl rfl) rfl rfl hl.1 rfl (lv_room (Nat.le_of_ble_eq_true rfl)) dX3_countSlots_45 ⟨Nat.le_of_ble_eq_true rfl, Nat.le_of_ble_eq_true rfl⟩) hP hD hS hA [2, 3, 4] [0, 1] rfl rfl (by decide) (by decide) (fun r481 u481 H locs hq481 hP hD hS => ?_)
    replace hP : va_P (dC, dI) vwCl [(o, .inr (3, [.ref k, .ref op, .int 0, .ref oq, .ref ov, .ref os])), (os, .inl (cI, 5, .inl (upd (upd (upd (upd (upd (upd (fun _ => 0) 0 0) 1 0) 2 0) 3 0) 4 0) 0 2))), (k, .inr (0, [.ref ks, .ref kw, .ref kc, .int (-6), .int 0, .int 0, .ref kq, .ref km, .ref kd, .int 0, .ref ka, .ref kk])), (ks, .inl (cI, 5, .inl (upd (fun _ => 0) 0 800))), (kw, .inl (cI, 14, .inl (fun _ => 0)))] H := hP
    replace hD : va_D A [(o, .inr (3, [.ref k, .ref op, .int 0, .ref oq, .ref ov, .ref os])), (os, .inl (cI, 5, .inl (upd (upd (upd (upd (upd (upd (fun _ => 0) 0 0) 1 0) 2 0) 3 0) 4 0) 0 2))), (k, .inr (0, [.ref ks, .ref kw, .ref kc, .int (-6), .int 0, .int 0, .ref kq, .ref km, .ref kd, .int 0, .ref ka, .ref kk])), (ks, .inl (cI, 5, .inl (upd (fun _ => 0) 0 800))), (kw, .inl (cI, 14, .inl (fun _ => 0)))] := hD
    obtain rfl : r481 = 0 := hq481
    refine lv_dup2_11 hx hb dX3_countSlots_48 rfl rfl ?_
    refine va_iald hx hb hK hP 1 0 rfl rfl (vin (by decide) (by decide)) dX3_countSlots_49 ?_
    refine lv_topi (fun x482 e482 => ?_)
    obtain rfl : x482 = 2 := e482.trans (by first | rfl | decide)
    refine lv_iconst (v := 2) hx hb dX3_countSlots_50 (by decide) ?_
    refine lv_iadd hx hb dX3_countSlots_51 ?_
    refine lv_topi (fun x483 e483 => ?_)
    obtain rfl : x483 = 4 := e483.trans (by decide)
    refine va_iast hx hb hK hP hD hS 1 0 rfl rfl (vin (by decide) (by decide)) dX3_countSlots_52 (fun H locs hP hD hS => ?_)
    replace hP : va_P (dC, dI) vwCl [(o, .inr (3, [.ref k, .ref op, .int 0, .ref oq, .ref ov, .ref os])), (os, .inl (cI, 5, .inl (upd (upd (upd (upd (upd (upd (upd (fun _ => 0) 0 0) 1 0) 2 0) 3 0) 4 0) 0 2) 0 4))), (k, .inr (0, [.ref ks, .ref kw, .ref kc, .int (-6), .int 0, .int 0, .ref kq, .ref km, .ref kd, .int 0, .ref ka, .ref kk])), (ks, .inl (cI, 5, .inl (upd (fun _ => 0) 0 800))), (kw, .inl (cI, 14, .inl (fun _ => 0)))] H := hP
    replace hD : va_D A [(o, .inr (3, [.ref k, .ref op, .int 0, .ref oq, .ref ov, .ref os])), (os, .inl (cI, 5, .inl (upd (upd (upd (upd (upd (upd (upd (fun _ => 0) 0 0) 1 0) 2 0) 3 0) 4 0) 0 2) 0 4))), (k, .inr (0, [.ref ks, .ref kw, .ref kc, .int (-6), .int 0, .int 0, .ref kq, .ref km, .ref kd, .int 0, .ref ka, .ref kk])), (ks, .inl (cI, 5, .inl (upd (fun _ => 0) 0 800))), (kw, .inl (cI, 14, .inl (fun _ => 0)))] := hD
    refine lv_iinc (v := 2) (lv' := [(2, .int 2), (0, .ref o), (1, .int 13)]) hx hb dX3_countSlots_53 hl (k := 0) rfl (by decide) (by decide) rfl (fun ls hl => ?_)
    refine lv_goto (tgt := 30) hx hb dX3_countSlots_56 (by decide) ?_
    refine lv_iload_n hx hb dX3_countSlots_30 rfl (lv_at hl 0 rfl) ?_
    refine lv_iload_n hx hb dX3_countSlots_31 rfl (lv_at hl 2 rfl) ?_
    refine lv_icmp_gt (tgt := 59) hx hb dX3_countSlots_32 (by decide) (fun c484 => absurd c484 (by decide)) (fun c484 => ?_)
    refine lv_aload_n hx hb dX3_countSlots_35 rfl (lv_at hl 1 rfl) ?_
    refine va_get (D := (dC, dI)) (ci := 3) (v := .ref os) (C := RX3) (T := TX3) (N := 6) hx hb hts hin3 hown hK hP 0 rfl rfl 5 (by decide) hw0 (fun _ h9 => h9) rfl dX3_countSlots_36 ?_
    refine lv_aload_n hx hb dX3_countSlots_39 rfl (lv_at hl 1 rfl) ?_
    refine va_get (D := (dC, dI)) (ci := 3) (v := .ref k) (C := RX3) (T := TX3) (N := 6) hx hb hts hin3 hown hK hP 0 rfl rfl 0 (by decide) hw1 (fun _ h9 => h9) rfl dX3_countSlots_40 ?_
    refine lv_iload_n hx hb dX3_countSlots_43 rfl (lv_at hl 0 rfl) ?_
    refine lv_iconst (v := 0) hx hb dX3_countSlots_44 (by decide) ?_
    refine mx_i (wr := [(o, .inr (3, [.ref k, .ref op, .int 0, .ref oq, .ref ov, .ref os])), (os, .inl (cI, 5, .inl (upd (upd (upd (upd (upd (upd (upd (fun _ => 0) 0 0) 1 0) 2 0) 3 0) 4 0) 0 2) 0 4)))]) (va_runV (As := [.int 2, .int 0]) (rest := [.ref os]) ⟨hx, hb, hml, hown, hts⟩ (c_X0_windOn l dC dI cI cZ cK tS aK aV k ks kw kc kq km kd ka kk 2 H.size (by have z8 : (2 : Int32).toInt = 2 := rfl; first | omega | decide | assumption | trivial)) (cwV 2 hts (gw_v (fun _ h9 => List.mem_cons_of_mem _ h9) wm_169 wm_170 wm_171 wm_10 wm_172) rfl rfl rfl (by decide +kernel) ⟨Nat.le_of_ble_eq_true rfl, Nat.le_of_ble_eq_true rfl⟩) (mx_preV (C := RX0) (T := TX0) (N := 12) (ci := 0) hKx hP hD hS hA [2, 3, 4] (by decide) rfl rfl rfl) rfl rfl hl.1 rfl (lv_room (Nat.le_of_ble_eq_true rfl)) dX3_countSlots_45 ⟨Nat.le_of_ble_eq_true rfl, Nat.le_of_ble_eq_true rfl⟩) hP hD hS hA [2, 3, 4] [0, 1] rfl rfl (by decide) (by decide) (fun r485 u485 H locs hq485 hP hD hS => ?_)
    replace hP : va_P (dC, dI) vwCl [(o, .inr (3, [.ref k, .ref op, .int 0, .ref oq, .ref ov, .ref os])), (os, .inl (cI, 5, .inl (upd (upd (upd (upd (upd (upd (upd (fun _ => 0) 0 0) 1 0) 2 0) 3 0) 4 0) 0 2) 0 4))), (k, .inr (0, [.ref ks, .ref kw, .ref kc, .int (-6), .int 0, .int 0, .ref kq, .ref km, .ref kd, .int 0, .ref ka, .ref kk])), (ks, .inl (cI, 5, .inl (upd (fun _ => 0) 0 800))), (kw, .inl (cI, 14, .inl (fun _ => 0)))] H := hP
    replace hD : va_D A [(o, .inr (3, [.ref k, .ref op, .int 0, .ref oq, .ref ov, .ref os])), (os, .inl (cI, 5, .inl (upd (upd (upd (upd (upd (upd (upd (fun _ => 0) 0 0) 1 0) 2 0) 3 0) 4 0) 0 2) 0 4))), (k, .inr (0, [.ref ks, .ref kw, .ref kc, .int (-6), .int 0, .int 0, .ref kq, .ref km, .ref kd, .int 0, .ref ka, .ref kk])), (ks, .inl (cI, 5, .inl (upd (fun _ => 0) 0 800))), (kw, .inl (cI, 14, .inl (fun _ => 0)))] := hD
    obtain rfl : r485 = 0 := hq485
    refine lv_dup2_11 hx hb dX3_countSlots_48 rfl rfl ?_
    refine va_iald hx hb hK hP 1 0 rfl rfl (vin (by decide) (by decide)) dX3_countSlots_49 ?_
    refine lv_topi (fun x486 e486 => ?_)
    obtain rfl : x486 = 4 := e486.trans (by first | rfl | decide)
    refine lv_iconst (v := 2) hx hb dX3_countSlots_50 (by decide) ?_
    refine lv_iadd hx hb dX3_countSlots_51 ?_
    refine lv_topi (fun x487 e487 => ?_)
    obtain rfl : x487 = 6 := e487.trans (by decide)
    refine va_iast hx hb hK hP hD hS 1 0 rfl rfl (vin (by decide) (by decide)) dX3_countSlots_52 (fun H locs hP hD hS => ?_)
    replace hP : va_P (dC, dI) vwCl [(o, .inr (3, [.ref k, .ref op, .int 0, .ref oq, .ref ov, .ref os])), (os, .inl (cI, 5, .inl (upd (upd (upd (upd (upd (upd (upd (upd (fun _ => 0) 0 0) 1 0) 2 0) 3 0) 4 0) 0 2) 0 4) 0 6))), (k, .inr (0, [.ref ks, .ref kw, .ref kc, .int (-6), .int 0, .int 0, .ref kq, .ref km, .ref kd, .int 0, .ref ka, .ref kk])), (ks, .inl (cI, 5, .inl (upd (fun _ => 0) 0 800))), (kw, .inl (cI, 14, .inl (fun _ => 0)))] H := hP
    replace hD : va_D A [(o, .inr (3, [.ref k, .ref op, .int 0, .ref oq, .ref ov, .ref os])), (os, .inl (cI, 5, .inl (upd (upd (upd (upd (upd (upd (upd (upd (fun _ => 0) 0 0) 1 0) 2 0) 3 0) 4 0) 0 2) 0 4) 0 6))), (k, .inr (0, [.ref ks, .ref kw, .ref kc, .int (-6), .int 0, .int 0, .ref kq, .ref km, .ref kd, .int 0, .ref ka, .ref kk])), (ks, .inl (cI, 5, .inl (upd (fun _ => 0) 0 800))), (kw, .inl (cI, 14, .inl (fun _ => 0)))] := hD
    refine lv_iinc (v := 3) (lv' := [(2, .int 3), (0, .ref o), (1, .int 13)]) hx hb dX3_countSlots_53 hl (k := 0) rfl (by decide) (by decide) rfl (fun ls hl => ?_)
    refine lv_goto (tgt := 30) hx hb dX3_countSlots_56 (by decide) ?_
    refine lv_iload_n hx hb dX3_countSlots_30 rfl (lv_at hl 0 rfl) ?_
    refine lv_iload_n hx hb dX3_countSlots_31 rfl (lv_at hl 2 rfl) ?_
    refine lv_icmp_gt (tgt := 59) hx hb dX3_countSlots_32 (by decide) (fun c488 => absurd c488 (by decide)) (fun c488 => ?_)
    refine lv_aload_n hx hb dX3_countSlots_35 rfl (lv_at hl 1 rfl) ?_
    refine va_get (D := (dC, dI)) (ci := 3) (v := .ref os) (C := RX3) (T := TX3) (N := 6) hx hb hts hin3 hown hK hP 0 rfl rfl 5 (by decide) hw0 (fun _ h9 => h9) rfl dX3_countSlots_36 ?_
    refine lv_aload_n hx hb dX3_countSlots_39 rfl (lv_at hl 1 rfl) ?_
    refine va_get (D := (dC, dI)) (ci := 3) (v := .ref k) (C := RX3) (T := TX3) (N := 6) hx hb hts hin3 hown hK hP 0 rfl rfl 0 (by decide) hw1 (fun _ h9 => h9) rfl dX3_countSlots_40 ?_
    refine lv_iload_n hx hb dX3_countSlots_43 rfl (lv_at hl 0 rfl) ?_
    refine lv_iconst (v := 0) hx hb dX3_countSlots_44 (by decide) ?_
    refine mx_i (wr := [(o, .inr (3, [.ref k, .ref op, .int 0, .ref oq, .ref ov, .ref os])), (os, .inl (cI, 5, .inl (upd (upd (upd (upd (upd (upd (upd (upd (fun _ => 0) 0 0) 1 0) 2 0) 3 0) 4 0) 0 2) 0 4) 0 6)))]) (va_runV (As := [.int 3, .int 0]) (rest := [.ref os]) ⟨hx, hb, hml, hown, hts⟩ (c_X0_windOn l dC dI cI cZ cK tS aK aV k ks kw kc kq km kd ka kk 3 H.size (by have z8 : (3 : Int32).toInt = 3 := rfl; first | omega | decide | assumption | trivial)) (cwV 2 hts (gw_v (fun _ h9 => List.mem_cons_of_mem _ h9) wm_169 wm_170 wm_171 wm_10 wm_172) rfl rfl rfl (by decide +kernel) ⟨Nat.le_of_ble_eq_true rfl, Nat.le_of_ble_eq_true rfl⟩) (mx_preV (C := RX0) (T := TX0) (N := 12) (ci := 0) hKx hP hD hS hA [2, 3, 4] (by decide) rfl rfl rfl) rfl rfl hl.1 rfl (lv_room (Nat.le_of_ble_eq_true rfl)) dX3_countSlots_45 ⟨Nat.le_of_ble_eq_true rfl, Nat.le_of_ble_eq_true rfl⟩) hP hD hS hA [2, 3, 4] [0, 1] rfl rfl (by decide) (by decide) (fun r489 u489 H locs hq489 hP hD hS => ?_)
    replace hP : va_P (dC, dI) vwCl [(o, .inr (3, [.ref k, .ref op, .int 0, .ref oq, .ref ov, .ref os])), (os, .inl (cI, 5, .inl (upd (upd (upd (upd (upd (upd (upd (upd (fun _ => 0) 0 0) 1 0) 2 0) 3 0) 4 0) 0 2) 0 4) 0 6))), (k, .inr (0, [.ref ks, .ref kw, .ref kc, .int (-6), .int 0, .int 0, .ref kq, .ref km, .ref kd, .int 0, .ref ka, .ref kk])), (ks, .inl (cI, 5, .inl (upd (fun _ => 0) 0 800))), (kw, .inl (cI, 14, .inl (fun _ => 0)))] H := hP
    replace hD : va_D A [(o, .inr (3, [.ref k, .ref op, .int 0, .ref oq, .ref ov, .ref os])), (os, .inl (cI, 5, .inl (upd (upd (upd (upd (upd (upd (upd (upd (fun _ => 0) 0 0) 1 0) 2 0) 3 0) 4 0) 0 2) 0 4) 0 6))), (k, .inr (0, [.ref ks, .ref kw, .ref kc, .int (-6), .int 0, .int 0, .ref kq, .ref km, .ref kd, .int 0, .ref ka, .ref kk])), (ks, .inl (cI, 5, .inl (upd (fun _ => 0) 0 800))), (kw, .inl (cI, 14, .inl (fun _ => 0)))] := hD
    obtain rfl : r489 = 0 := hq489
    refine lv_dup2_11 hx hb dX3_countSlots_48 rfl rfl ?_
    refine va_iald hx hb hK hP 1 0 rfl rfl (vin (by decide) (by decide)) dX3_countSlots_49 ?_
    refine lv_topi (fun x490 e490 => ?_)
    obtain rfl : x490 = 6 := e490.trans (by first | rfl | decide)
    refine lv_iconst (v := 2) hx hb dX3_countSlots_50 (by decide) ?_
    refine lv_iadd hx hb dX3_countSlots_51 ?_
    refine lv_topi (fun x491 e491 => ?_)
    obtain rfl : x491 = 8 := e491.trans (by decide)
    refine va_iast hx hb hK hP hD hS 1 0 rfl rfl (vin (by decide) (by decide)) dX3_countSlots_52 (fun H locs hP hD hS => ?_)
    replace hP : va_P (dC, dI) vwCl [(o, .inr (3, [.ref k, .ref op, .int 0, .ref oq, .ref ov, .ref os])), (os, .inl (cI, 5, .inl (upd (upd (upd (upd (upd (upd (upd (upd (upd (fun _ => 0) 0 0) 1 0) 2 0) 3 0) 4 0) 0 2) 0 4) 0 6) 0 8))), (k, .inr (0, [.ref ks, .ref kw, .ref kc, .int (-6), .int 0, .int 0, .ref kq, .ref km, .ref kd, .int 0, .ref ka, .ref kk])), (ks, .inl (cI, 5, .inl (upd (fun _ => 0) 0 800))), (kw, .inl (cI, 14, .inl (fun _ => 0)))] H := hP
    replace hD : va_D A [(o, .inr (3, [.ref k, .ref op, .int 0, .ref oq, .ref ov, .ref os])), (os, .inl (cI, 5, .inl (upd (upd (upd (upd (upd (upd (upd (upd (upd (fun _ => 0) 0 0) 1 0) 2 0) 3 0) 4 0) 0 2) 0 4) 0 6) 0 8))), (k, .inr (0, [.ref ks, .ref kw, .ref kc, .int (-6), .int 0, .int 0, .ref kq, .ref km, .ref kd, .int 0, .ref ka, .ref kk])), (ks, .inl (cI, 5, .inl (upd (fun _ => 0) 0 800))), (kw, .inl (cI, 14, .inl (fun _ => 0)))] := hD
    refine lv_iinc (v := 4) (lv' := [(2, .int 4), (0, .ref o), (1, .int 13)]) hx hb dX3_countSlots_53 hl (k := 0) rfl (by decide) (by decide) rfl (fun ls hl => ?_)
    refine lv_goto (tgt := 30) hx hb dX3_countSlots_56 (by decide) ?_
    refine lv_iload_n hx hb dX3_countSlots_30 rfl (lv_at hl 0 rfl) ?_
    refine lv_iload_n hx hb dX3_countSlots_31 rfl (lv_at hl 2 rfl) ?_
    refine lv_icmp_gt (tgt := 59) hx hb dX3_countSlots_32 (by decide) (fun c492 => absurd c492 (by decide)) (fun c492 => ?_)
    refine lv_aload_n hx hb dX3_countSlots_35 rfl (lv_at hl 1 rfl) ?_
    refine va_get (D := (dC, dI)) (ci := 3) (v := .ref os) (C := RX3) (T := TX3) (N := 6) hx hb hts hin3 hown hK hP 0 rfl rfl 5 (by decide) hw0 (fun _ h9 => h9) rfl dX3_countSlots_36 ?_
    refine lv_aload_n hx hb dX3_countSlots_39 rfl (lv_at hl 1 rfl) ?_
    refine va_get (D := (dC, dI)) (ci := 3) (v := .ref k) (C := RX3) (T := TX3) (N := 6) hx hb hts hin3 hown hK hP 0 rfl rfl 0 (by decide) hw1 (fun _ h9 => h9) rfl dX3_countSlots_40 ?_
    refine lv_iload_n hx hb dX3_countSlots_43 rfl (lv_at hl 0 rfl) ?_
    refine lv_iconst (v := 0) hx hb dX3_countSlots_44 (by decide) ?_
    refine mx_i (wr := [(o, .inr (3, [.ref k, .ref op, .int 0, .ref oq, .ref ov, .ref os])), (os, .inl (cI, 5, .inl (upd (upd (upd (upd (upd (upd (upd (upd (upd (fun _ => 0) 0 0) 1 0) 2 0) 3 0) 4 0) 0 2) 0 4) 0 6) 0 8)))]) (va_runV (As := [.int 4, .int 0]) (rest := [.ref os]) ⟨hx, hb, hml, hown, hts⟩ (c_X0_windOn l dC dI cI cZ cK tS aK aV k ks kw kc kq km kd ka kk 4 H.size (by have z8 : (4 : Int32).toInt = 4 := rfl; first | omega | decide | assumption | trivial)) (cwV 2 hts (gw_v (fun _ h9 => List.mem_cons_of_mem _ h9) wm_169 wm_170 wm_171 wm_10 wm_172) rfl rfl rfl (by decide +kernel) ⟨Nat.le_of_ble_eq_true rfl, Nat.le_of_ble_eq_true rfl⟩) (mx_preV (C := RX0) (T := TX0) (N := 12) (ci := 0) hKx hP hD hS hA [2, 3, 4] (by decide) rfl rfl rfl) rfl rfl hl.1 rfl (lv_room (Nat.le_of_ble_eq_true rfl)) dX3_countSlots_45 ⟨Nat.le_of_ble_eq_true rfl, Nat.le_of_ble_eq_true rfl⟩) hP hD hS hA [2, 3, 4] [0, 1] rfl rfl (by decide) (by decide) (fun r493 u493 H locs hq493 hP hD hS => ?_)
    replace hP : va_P (dC, dI) vwCl [(o, .inr (3, [.ref k, .ref op, .int 0, .ref oq, .ref ov, .ref os])), (os, .inl (cI, 5, .inl (upd (upd (upd (upd (upd (upd (upd (upd (upd (fun _ => 0) 0 0) 1 0) 2 0) 3 0) 4 0) 0 2) 0 4) 0 6) 0 8))), (k, .inr (0, [.ref ks, .ref kw, .ref kc, .int (-6), .int 0, .int 0, .ref kq, .ref km, .ref kd, .int 0, .ref ka, .ref kk])), (ks, .inl (cI, 5, .inl (upd (fun _ => 0) 0 800))), (kw, .inl (cI, 14, .inl (fun _ => 0)))] H := hP
    replace hD : va_D A [(o, .inr (3, [.ref k, .ref op, .int 0, .ref oq, .ref ov, .ref os])), (os, .inl (cI, 5, .inl (upd (upd (upd (upd (upd (upd (upd (upd (upd (fun _ => 0) 0 0) 1 0) 2 0) 3 0) 4 0) 0 2) 0 4) 0 6) 0 8))), (k, .inr (0, [.ref ks, .ref kw, .ref kc, .int (-6), .int 0, .int 0, .ref kq, .ref km, .ref kd, .int 0, .ref ka, .ref kk])), (ks, .inl (cI, 5, .inl (upd (fun _ => 0) 0 800))), (kw, .inl (cI, 14, .inl (fun _ => 0)))] := hD
    obtain rfl : r493 = 0 := hq493
    refine lv_dup2_11 hx hb dX3_countSlots_48 rfl rfl ?_
    refine va_iald hx hb hK hP 1 0 rfl rfl (vin (by decide) (by decide)) dX3_countSlots_49 ?_
    refine lv_topi (fun x494 e494 => ?_)
    obtain rfl : x494 = 8 := e494.trans (by first | rfl | decide)
    refine lv_iconst (v := 2) hx hb dX3_countSlots_50 (by decide) ?_
    refine lv_iadd hx hb dX3_countSlots_51 ?_
    refine lv_topi (fun x495 e495 => ?_)
    obtain rfl : x495 = 10 := e495.trans (by decide)
    refine va_iast hx hb hK hP hD hS 1 0 rfl rfl (vin (by decide) (by decide)) dX3_countSlots_52 (fun H locs hP hD hS => ?_)
    replace hP : va_P (dC, dI) vwCl [(o, .inr (3, [.ref k, .ref op, .int 0, .ref oq, .ref ov, .ref os])), (os, .inl (cI, 5, .inl (upd (upd (upd (upd (upd (upd (upd (upd (upd (upd (fun _ => 0) 0 0) 1 0) 2 0) 3 0) 4 0) 0 2) 0 4) 0 6) 0 8) 0 10))), (k, .inr (0, [.ref ks, .ref kw, .ref kc, .int (-6), .int 0, .int 0, .ref kq, .ref km, .ref kd, .int 0, .ref ka, .ref kk])), (ks, .inl (cI, 5, .inl (upd (fun _ => 0) 0 800))), (kw, .inl (cI, 14, .inl (fun _ => 0)))] H := hP
    replace hD : va_D A [(o, .inr (3, [.ref k, .ref op, .int 0, .ref oq, .ref ov, .ref os])), (os, .inl (cI, 5, .inl (upd (upd (upd (upd (upd (upd (upd (upd (upd (upd (fun _ => 0) 0 0) 1 0) 2 0) 3 0) 4 0) 0 2) 0 4) 0 6) 0 8) 0 10))), (k, .inr (0, [.ref ks, .ref kw, .ref kc, .int (-6), .int 0, .int 0, .ref kq, .ref km, .ref kd, .int 0, .ref ka, .ref kk])), (ks, .inl (cI, 5, .inl (upd (fun _ => 0) 0 800))), (kw, .inl (cI, 14, .inl (fun _ => 0)))] := hD
    refine lv_iinc (v := 5) (lv' := [(2, .int 5), (0, .ref o), (1, .int 13)]) hx hb dX3_countSlots_53 hl (k := 0) rfl (by decide) (by decide) rfl (fun ls hl => ?_)
    refine lv_goto (tgt := 30) hx hb dX3_countSlots_56 (by decide) ?_
    refine lv_iload_n hx hb dX3_countSlots_30 rfl (lv_at hl 0 rfl) ?_
    refine lv_iload_n hx hb dX3_countSlots_31 rfl (lv_at hl 2 rfl) ?_
    refine lv_icmp_gt (tgt := 59) hx hb dX3_countSlots_32 (by decide) (fun c496 => absurd c496 (by decide)) (fun c496 => ?_)
    refine lv_aload_n hx hb dX3_countSlots_35 rfl (lv_at hl 1 rfl) ?_
    refine va_get (D := (dC, dI)) (ci := 3) (v := .ref os) (C := RX3) (T := TX3) (N := 6) hx hb hts hin3 hown hK hP 0 rfl rfl 5 (by decide) hw0 (fun _ h9 => h9) rfl dX3_countSlots_36 ?_
    refine lv_aload_n hx hb dX3_countSlots_39 rfl (lv_at hl 1 rfl) ?_
    refine va_get (D := (dC, dI)) (ci := 3) (v := .ref k) (C := RX3) (T := TX3) (N := 6) hx hb hts hin3 hown hK hP 0 rfl rfl 0 (by decide) hw1 (fun _ h9 => h9) rfl dX3_countSlots_40 ?_
    refine lv_iload_n hx hb dX3_countSlots_43 rfl (lv_at hl 0 rfl) ?_
    refine lv_iconst (v := 0) hx hb dX3_countSlots_44 (by decide) ?_
    refine mx_i (wr := [(o, .inr (3, [.ref k, .ref op, .int 0, .ref oq, .ref ov, .ref os])), (os, .inl (cI, 5, .inl (upd (upd (upd (upd (upd (upd (upd (upd (upd (upd (fun _ => 0) 0 0) 1 0) 2 0) 3 0) 4 0) 0 2) 0 4) 0 6) 0 8) 0 10)))]) (va_runV (As := [.int 5, .int 0]) (rest := [.ref os]) ⟨hx, hb, hml, hown, hts⟩ (c_X0_windOn l dC dI cI cZ cK tS aK aV k ks kw kc kq km kd ka kk 5 H.size (by have z8 : (5 : Int32).toInt = 5 := rfl; first | omega | decide | assumption | trivial)) (cwV 2 hts (gw_v (fun _ h9 => List.mem_cons_of_mem _ h9) wm_169 wm_170 wm_171 wm_10 wm_172) rfl rfl rfl (by decide +kernel) ⟨Nat.le_of_ble_eq_true rfl, Nat.le_of_ble_eq_true rfl⟩) (mx_preV (C := RX0) (T := TX0) (N := 12) (ci := 0) hKx hP hD hS hA [2, 3, 4] (by decide) rfl rfl rfl) rfl rfl hl.1 rfl (lv_room (Nat.le_of_ble_eq_true rfl)) dX3_countSlots_45 ⟨Nat.le_of_ble_eq_true rfl, Nat.le_of_ble_eq_true rfl⟩) hP hD hS hA [2, 3, 4] [0, 1] rfl rfl (by decide) (by decide) (fun r497 u497 H locs hq497 hP hD hS => ?_)
    replace hP : va_P (dC, dI) vwCl [(o, .inr (3, [.ref k, .ref op, .int 0, .ref oq, .ref ov, .ref os])), (os, .inl (cI, 5, .inl (upd (upd (upd (upd (upd (upd (upd (upd (upd (upd (fun _ => 0) 0 0) 1 0) 2 0) 3 0) 4 0) 0 2) 0 4) 0 6) 0 8) 0 10))), (k, .inr (0, [.ref ks, .ref kw, .ref kc, .int (-6), .int 0, .int 0, .ref kq, .ref km, .ref kd, .int 0, .ref ka, .ref kk])), (ks, .inl (cI, 5, .inl (upd (fun _ => 0) 0 800))), (kw, .inl (cI, 14, .inl (fun _ => 0)))] H := hP
    replace hD : va_D A [(o, .inr (3, [.ref k, .ref op, .int 0, .ref oq, .ref ov, .ref os])), (os, .inl (cI, 5, .inl (upd (upd (upd (upd (upd (upd (upd (upd (upd (upd (fun _ => 0) 0 0) 1 0) 2 0) 3 0) 4 0) 0 2) 0 4) 0 6) 0 8) 0 10))), (k, .inr (0, [.ref ks, .ref kw, .ref kc, .int (-6), .int 0, .int 0, .ref kq, .ref km, .ref kd, .int 0, .ref ka, .ref kk])), (ks, .inl (cI, 5, .inl (upd (fun _ => 0) 0 800))), (kw, .inl (cI, 14, .inl (fun _ => 0)))] := hD
    obtain rfl : r497 = 0 := hq497
    refine lv_dup2_11 hx hb dX3_countSlots_48 rfl rfl ?_
    refine va_iald hx hb hK hP 1 0 rfl rfl (vin (by decide) (by decide)) dX3_countSlots_49 ?_
    refine lv_topi (fun x498 e498 => ?_)
    obtain rfl : x498 = 10 := e498.trans (by first | rfl | decide)
    refine lv_iconst (v := 2) hx hb dX3_countSlots_50 (by decide) ?_
    refine lv_iadd hx hb dX3_countSlots_51 ?_
    refine lv_topi (fun x499 e499 => ?_)
    obtain rfl : x499 = 12 := e499.trans (by decide)
    refine va_iast hx hb hK hP hD hS 1 0 rfl rfl (vin (by decide) (by decide)) dX3_countSlots_52 (fun H locs hP hD hS => ?_)
    replace hP : va_P (dC, dI) vwCl [(o, .inr (3, [.ref k, .ref op, .int 0, .ref oq, .ref ov, .ref os])), (os, .inl (cI, 5, .inl (upd (upd (upd (upd (upd (upd (upd (upd (upd (upd (upd (fun _ => 0) 0 0) 1 0) 2 0) 3 0) 4 0) 0 2) 0 4) 0 6) 0 8) 0 10) 0 12))), (k, .inr (0, [.ref ks, .ref kw, .ref kc, .int (-6), .int 0, .int 0, .ref kq, .ref km, .ref kd, .int 0, .ref ka, .ref kk])), (ks, .inl (cI, 5, .inl (upd (fun _ => 0) 0 800))), (kw, .inl (cI, 14, .inl (fun _ => 0)))] H := hP
    replace hD : va_D A [(o, .inr (3, [.ref k, .ref op, .int 0, .ref oq, .ref ov, .ref os])), (os, .inl (cI, 5, .inl (upd (upd (upd (upd (upd (upd (upd (upd (upd (upd (upd (fun _ => 0) 0 0) 1 0) 2 0) 3 0) 4 0) 0 2) 0 4) 0 6) 0 8) 0 10) 0 12))), (k, .inr (0, [.ref ks, .ref kw, .ref kc, .int (-6), .int 0, .int 0, .ref kq, .ref km, .ref kd, .int 0, .ref ka, .ref kk])), (ks, .inl (cI, 5, .inl (upd (fun _ => 0) 0 800))), (kw, .inl (cI, 14, .inl (fun _ => 0)))] := hD
    refine lv_iinc (v := 6) (lv' := [(2, .int 6), (0, .ref o), (1, .int 13)]) hx hb dX3_countSlots_53 hl (k := 0) rfl (by decide) (by decide) rfl (fun ls hl => ?_)
    refine lv_goto (tgt := 30) hx hb dX3_countSlots_56 (by decide) ?_
    refine lv_iload_n hx hb dX3_countSlots_30 rfl (lv_at hl 0 rfl) ?_
    refine lv_iload_n hx hb dX3_countSlots_31 rfl (lv_at hl 2 rfl) ?_
    refine lv_icmp_gt (tgt := 59) hx hb dX3_countSlots_32 (by decide) (fun c500 => absurd c500 (by decide)) (fun c500 => ?_)
    refine lv_aload_n hx hb dX3_countSlots_35 rfl (lv_at hl 1 rfl) ?_
    refine va_get (D := (dC, dI)) (ci := 3) (v := .ref os) (C := RX3) (T := TX3) (N := 6) hx hb hts hin3 hown hK hP 0 rfl rfl 5 (by decide) hw0 (fun _ h9 => h9) rfl dX3_countSlots_36 ?_
    refine lv_aload_n hx hb dX3_countSlots_39 rfl (lv_at hl 1 rfl) ?_
    refine va_get (D := (dC, dI)) (ci := 3) (v := .ref k) (C := RX3) (T := TX3) (N := 6) hx hb hts hin3 hown hK hP 0 rfl rfl 0 (by decide) hw1 (fun _ h9 => h9) rfl dX3_countSlots_40 ?_
    refine lv_iload_n hx hb dX3_countSlots_43 rfl (lv_at hl 0 rfl) ?_
    refine lv_iconst (v := 0) hx hb dX3_countSlots_44 (by decide) ?_
    refine mx_i (wr := [(o, .inr (3, [.ref k, .ref op, .int 0, .ref oq, .ref ov, .ref os])), (os, .inl (cI, 5, .inl (upd (upd (upd (upd (upd (upd (upd (upd (upd (upd (upd (fun _ => 0) 0 0) 1 0) 2 0) 3 0) 4 0) 0 2) 0 4) 0 6) 0 8) 0 10) 0 12)))]) (va_runV (As := [.int 6, .int 0]) (rest := [.ref os]) ⟨hx, hb, hml, hown, hts⟩ (c_X0_windOn l dC dI cI cZ cK tS aK aV k ks kw kc kq km kd ka kk 6 H.size (by have z8 : (6 : Int32).toInt = 6 := rfl; first | omega | decide | assumption | trivial)) (cwV 2 hts (gw_v (fun _ h9 => List.mem_cons_of_mem _ h9) wm_169 wm_170 wm_171 wm_10 wm_172) rfl rfl rfl (by decide +kernel) ⟨Nat.le_of_ble_eq_true rfl, Nat.le_of_ble_eq_true rfl⟩) (mx_preV (C := RX0) (T := TX0) (N := 12) (ci := 0) hKx hP hD hS hA [2, 3, 4] (by decide) rfl rfl rfl) rfl rfl hl.1 rfl (lv_room (Nat.le_of_ble_eq_true rfl)) dX3_countSlots_45 ⟨Nat.le_of_ble_eq_true rfl, Nat.le_of_ble_eq_true rfl⟩) hP hD hS hA [2, 3, 4] [0, 1] rfl rfl (by decide) (by decide) (fun r501 u501 H locs hq501 hP hD hS => ?_)
    replace hP : va_P (dC, dI) vwCl [(o, .inr (3, [.ref k, .ref op, .int 0, .ref oq, .ref ov, .ref os])), (os, .inl (cI, 5, .inl (upd (upd (upd (upd (upd (upd (upd (upd (upd (upd (upd (fun _ => 0) 0 0) 1 0) 2 0) 3 0) 4 0) 0 2) 0 4) 0 6) 0 8) 0 10) 0 12))), (k, .inr (0, [.ref ks, .ref kw, .ref kc, .int (-6), .int 0, .int 0, .ref kq, .ref km, .ref kd, .int 0, .ref ka, .ref kk])), (ks, .inl (cI, 5, .inl (upd (fun _ => 0) 0 800))), (kw, .inl (cI, 14, .inl (fun _ => 0)))] H := hP
    replace hD : va_D A [(o, .inr (3, [.ref k, .ref op, .int 0, .ref oq, .ref ov, .ref os])), (os, .inl (cI, 5, .inl (upd (upd (upd (upd (upd (upd (upd (upd (upd (upd (upd (fun _ => 0) 0 0) 1 0) 2 0) 3 0) 4 0) 0 2) 0 4) 0 6) 0 8) 0 10) 0 12))), (k, .inr (0, [.ref ks, .ref kw, .ref kc, .int (-6), .int 0, .int 0, .ref kq, .ref km, .ref kd, .int 0, .ref ka, .ref kk])), (ks, .inl (cI, 5, .inl (upd (fun _ => 0) 0 800))), (kw, .inl (cI, 14, .inl (fun _ => 0)))] := hD
    obtain rfl : r501 = 0 := hq501
    refine lv_dup2_11 hx hb dX3_countSlots_48 rfl rfl ?_
    refine va_iald hx hb hK hP 1 0 rfl rfl (vin (by decide) (by decide)) dX3_countSlots_49 ?_
    refine lv_topi (fun x502 e502 => ?_)
    obtain rfl : x502 = 12 := e502.trans (by first | rfl | decide)
    refine lv_iconst (v := 2) hx hb dX3_countSlots_50 (by decide) ?_
    refine lv_iadd hx hb dX3_countSlots_51 ?_
    refine lv_topi (fun x503 e503 => ?_)
    obtain rfl : x503 = 14 := e503.trans (by decide)
    refine va_iast hx hb hK hP hD hS 1 0 rfl rfl (vin (by decide) (by decide)) dX3_countSlots_52 (fun H locs hP hD hS => ?_)
    replace hP : va_P (dC, dI) vwCl [(o, .inr (3, [.ref k, .ref op, .int 0, .ref oq, .ref ov, .ref os])), (os, .inl (cI, 5, .inl (upd (upd (upd (upd (upd (upd (upd (upd (upd (upd (upd (upd (fun _ => 0) 0 0) 1 0) 2 0) 3 0) 4 0) 0 2) 0 4) 0 6) 0 8) 0 10) 0 12) 0 14))), (k, .inr (0, [.ref ks, .ref kw, .ref kc, .int (-6), .int 0, .int 0, .ref kq, .ref km, .ref kd, .int 0, .ref ka, .ref kk])), (ks, .inl (cI, 5, .inl (upd (fun _ => 0) 0 800))), (kw, .inl (cI, 14, .inl (fun _ => 0)))] H := hP
    replace hD : va_D A [(o, .inr (3, [.ref k, .ref op, .int 0, .ref oq, .ref ov, .ref os])), (os, .inl (cI, 5, .inl (upd (upd (upd (upd (upd (upd (upd (upd (upd (upd (upd (upd (fun _ => 0) 0 0) 1 0) 2 0) 3 0) 4 0) 0 2) 0 4) 0 6) 0 8) 0 10) 0 12) 0 14))), (k, .inr (0, [.ref ks, .ref kw, .ref kc, .int (-6), .int 0, .int 0, .ref kq, .ref km, .ref kd, .int 0, .ref ka, .ref kk])), (ks, .inl (cI, 5, .inl (upd (fun _ => 0) 0 800))), (kw, .inl (cI, 14, .inl (fun _ => 0)))] := hD
    refine lv_iinc (v := 7) (lv' := [(2, .int 7), (0, .ref o), (1, .int 13)]) hx hb dX3_countSlots_53 hl (k := 0) rfl (by decide) (by decide) rfl (fun ls hl => ?_)
    refine lv_goto (tgt := 30) hx hb dX3_countSlots_56 (by decide) ?_
    refine lv_iload_n hx hb dX3_countSlots_30 rfl (lv_at hl 0 rfl) ?_
    refine lv_iload_n hx hb dX3_countSlots_31 rfl (lv_at hl 2 rfl) ?_
    refine lv_icmp_gt (tgt := 59) hx hb dX3_countSlots_32 (by decide) (fun c504 => absurd c504 (by decide)) (fun c504 => ?_)
    refine lv_aload_n hx hb dX3_countSlots_35 rfl (lv_at hl 1 rfl) ?_
    refine va_get (D := (dC, dI)) (ci := 3) (v := .ref os) (C := RX3) (T := TX3) (N := 6) hx hb hts hin3 hown hK hP 0 rfl rfl 5 (by decide) hw0 (fun _ h9 => h9) rfl dX3_countSlots_36 ?_
    refine lv_aload_n hx hb dX3_countSlots_39 rfl (lv_at hl 1 rfl) ?_
    refine va_get (D := (dC, dI)) (ci := 3) (v := .ref k) (C := RX3) (T := TX3) (N := 6) hx hb hts hin3 hown hK hP 0 rfl rfl 0 (by decide) hw1 (fun _ h9 => h9) rfl dX3_countSlots_40 ?_
    refine lv_iload_n hx hb dX3_countSlots_43 rfl (lv_at hl 0 rfl) ?_
    refine lv_iconst (v := 0) hx hb dX3_countSlots_44 (by decide) ?_
    refine mx_i (wr := [(o, .inr (3, [.ref k, .ref op, .int 0, .ref oq, .ref ov, .ref os])), (os, .inl (cI, 5, .inl (upd (upd (upd (upd (upd (upd (upd (upd (upd (upd (upd (upd (fun _ => 0) 0 0) 1 0) 2 0) 3 0) 4 0) 0 2) 0 4) 0 6) 0 8) 0 10) 0 12) 0 14)))]) (va_runV (As := [.int 7, .int 0]) (rest := [.ref os]) ⟨hx, hb, hml, hown, hts⟩ (c_X0_windOn l dC dI cI cZ cK tS aK aV k ks kw kc kq km kd ka kk 7 H.size (by have z8 : (7 : Int32).toInt = 7 := rfl; first | omega | decide | assumption | trivial)) (cwV 2 hts (gw_v (fun _ h9 => List.mem_cons_of_mem _ h9) wm_169 wm_170 wm_171 wm_10 wm_172) rfl rfl rfl (by decide +kernel) ⟨Nat.le_of_ble_eq_true rfl, Nat.le_of_ble_eq_true rfl⟩) (mx_preV (C := RX0) (T := TX0) (N := 12) (ci := 0) hKx hP hD hS hA [2, 3, 4] (by decide) rfl rfl rfl) rfl rfl hl.1 rfl (lv_room (Nat.le_of_ble_eq_true rfl)) dX3_countSlots_45 ⟨Nat.le_of_ble_eq_true rfl, Nat.le_of_ble_eq_true rfl⟩) hP hD hS hA [2, 3, 4] [0, 1] rfl rfl (by decide) (by decide) (fun r505 u505 H locs hq505 hP hD hS => ?_)
    replace hP : va_P (dC, dI) vwCl [(o, .inr (3, [.ref k, .ref op, .int 0, .ref oq, .ref ov, .ref os])), (os, .inl (cI, 5, .inl (upd (upd (upd (upd (upd (upd (upd (upd (upd (upd (upd (upd (fun _ => 0) 0 0) 1 0) 2 0) 3 0) 4 0) 0 2) 0 4) 0 6) 0 8) 0 10) 0 12) 0 14))), (k, .inr (0, [.ref ks, .ref kw, .ref kc, .int (-6), .int 0, .int 0, .ref kq, .ref km, .ref kd, .int 0, .ref ka, .ref kk])), (ks, .inl (cI, 5, .inl (upd (fun _ => 0) 0 800))), (kw, .inl (cI, 14, .inl (fun _ => 0)))] H := hP
    replace hD : va_D A [(o, .inr (3, [.ref k, .ref op, .int 0, .ref oq, .ref ov, .ref os])), (os, .inl (cI, 5, .inl (upd (upd (upd (upd (upd (upd (upd (upd (upd (upd (upd (upd (fun _ => 0) 0 0) 1 0) 2 0) 3 0) 4 0) 0 2) 0 4) 0 6) 0 8) 0 10) 0 12) 0 14))), (k, .inr (0, [.ref ks, .ref kw, .ref kc, .int (-6), .int 0, .int 0, .ref kq, .ref km, .ref kd, .int 0, .ref ka, .ref kk])), (ks, .inl (cI, 5, .inl (upd (fun _ => 0) 0 800))), (kw, .inl (cI, 14, .inl (fun _ => 0)))] := hD
    obtain rfl : r505 = 0 := hq505
    refine lv_dup2_11 hx hb dX3_countSlots_48 rfl rfl ?_
    refine va_iald hx hb hK hP 1 0 rfl rfl (vin (by decide) (by decide)) dX3_countSlots_49 ?_
    refine lv_topi (fun x506 e506 => ?_)
    obtain rfl : x506 = 14 := e506.trans (by first | rfl | decide)
    refine lv_iconst (v := 2) hx hb dX3_countSlots_50 (by decide) ?_
    refine lv_iadd hx hb dX3_countSlots_51 ?_
    refine lv_topi (fun x507 e507 => ?_)
    obtain rfl : x507 = 16 := e507.trans (by decide)
    refine va_iast hx hb hK hP hD hS 1 0 rfl rfl (vin (by decide) (by decide)) dX3_countSlots_52 (fun H locs hP hD hS => ?_)
    replace hP : va_P (dC, dI) vwCl [(o, .inr (3, [.ref k, .ref op, .int 0, .ref oq, .ref ov, .ref os])), (os, .inl (cI, 5, .inl (upd (upd (upd (upd (upd (upd (upd (upd (upd (upd (upd (upd (upd (fun _ => 0) 0 0) 1 0) 2 0) 3 0) 4 0) 0 2) 0 4) 0 6) 0 8) 0 10) 0 12) 0 14) 0 16))), (k, .inr (0, [.ref ks, .ref kw, .ref kc, .int (-6), .int 0, .int 0, .ref kq, .ref km, .ref kd, .int 0, .ref ka, .ref kk])), (ks, .inl (cI, 5, .inl (upd (fun _ => 0) 0 800))), (kw, .inl (cI, 14, .inl (fun _ => 0)))] H := hP
    replace hD : va_D A [(o, .inr (3, [.ref k, .ref op, .int 0, .ref oq, .ref ov, .ref os])), (os, .inl (cI, 5, .inl (upd (upd (upd (upd (upd (upd (upd (upd (upd (upd (upd (upd (upd (fun _ => 0) 0 0) 1 0) 2 0) 3 0) 4 0) 0 2) 0 4) 0 6) 0 8) 0 10) 0 12) 0 14) 0 16))), (k, .inr (0, [.ref ks, .ref kw, .ref kc, .int (-6), .int 0, .int 0, .ref kq, .ref km, .ref kd, .int 0, .ref ka, .ref kk])), (ks, .inl (cI, 5, .inl (upd (fun _ => 0) 0 800))), (kw, .inl (cI, 14, .inl (fun _ => 0)))] := hD
    refine lv_iinc (v := 8) (lv' := [(2, .int 8), (0, .ref o), (1, .int 13)]) hx hb dX3_countSlots_53 hl (k := 0) rfl (by decide) (by decide) rfl (fun ls hl => ?_)
    refine lv_goto (tgt := 30) hx hb dX3_countSlots_56 (by decide) ?_
    refine lv_iload_n hx hb dX3_countSlots_30 rfl (lv_at hl 0 rfl) ?_
    refine lv_iload_n hx hb dX3_countSlots_31 rfl (lv_at hl 2 rfl) ?_
    refine lv_icmp_gt (tgt := 59) hx hb dX3_countSlots_32 (by decide) (fun c508 => absurd c508 (by decide)) (fun c508 => ?_)
    refine lv_aload_n hx hb dX3_countSlots_35 rfl (lv_at hl 1 rfl) ?_
    refine va_get (D := (dC, dI)) (ci := 3) (v := .ref os) (C := RX3) (T := TX3) (N := 6) hx hb hts hin3 hown hK hP 0 rfl rfl 5 (by decide) hw0 (fun _ h9 => h9) rfl dX3_countSlots_36 ?_
    refine lv_aload_n hx hb dX3_countSlots_39 rfl (lv_at hl 1 rfl) ?_
    refine va_get (D := (dC, dI)) (ci := 3) (v := .ref k) (C := RX3) (T := TX3) (N := 6) hx hb hts hin3 hown hK hP 0 rfl rfl 0 (by decide) hw1 (fun _ h9 => h9) rfl dX3_countSlots_40 ?_
    refine lv_iload_n hx hb dX3_countSlots_43 rfl (lv_at hl 0 rfl) ?_
    refine lv_iconst (v := 0) hx hb dX3_countSlots_44 (by decide) ?_
    refine mx_i (wr := [(o, .inr (3, [.ref k, .ref op, .int 0, .ref oq, .ref ov, .ref os])), (os, .inl (cI, 5, .inl (upd (upd (upd (upd (upd (upd (upd (upd (upd (upd (upd (upd (upd (fun _ => 0) 0 0) 1 0) 2 0) 3 0) 4 0) 0 2) 0 4) 0 6) 0 8) 0 10) 0 12) 0 14) 0 16)))]) (va_runV (As := [.int 8, .int 0]) (rest := [.ref os]) ⟨hx, hb, hml, hown, hts⟩ (c_X0_windOn l dC dI cI cZ cK tS aK aV k ks kw kc kq km kd ka kk 8 H.size (by have z8 : (8 : Int32).toInt = 8 := rfl; first | omega | decide | assumption | trivial)) (cwV 2 hts (gw_v (fun _ h9 => List.mem_cons_of_mem _ h9) wm_169 wm_170 wm_171 wm_10 wm_172) rfl rfl rfl (by decide +kernel) ⟨Nat.le_of_ble_eq_true rfl, Nat.le_of_ble_eq_true rfl⟩) (mx_preV (C := RX0) (T := TX0) (N := 12) (ci := 0) hKx hP hD hS hA [2, 3, 4] (by decide) rfl rfl rfl) rfl rfl hl.1 rfl (lv_room (Nat.le_of_ble_eq_true rfl)) dX3_countSlots_45 ⟨Nat.le_of_ble_eq_true rfl, Nat.le_of_ble_eq_true rfl⟩) hP hD hS hA [2, 3, 4] [0, 1] rfl rfl (by decide) (by decide) (fun r509 u509 H locs hq509 hP hD hS => ?_)
    replace hP : va_P (dC, dI) vwCl [(o, .inr (3, [.ref k, .ref op, .int 0, .ref oq, .ref ov, .ref os])), (os, .inl (cI, 5, .inl (upd (upd (upd (upd (upd (upd (upd (upd (upd (upd (upd (upd (upd (fun _ => 0) 0 0) 1 0) 2 0) 3 0) 4 0) 0 2) 0 4) 0 6) 0 8) 0 10) 0 12) 0 14) 0 16))), (k, .inr (0, [.ref ks, .ref kw, .ref kc, .int (-6), .int 0, .int 0, .ref kq, .ref km, .ref kd, .int 0, .ref ka, .ref kk])), (ks, .inl (cI, 5, .inl (upd (fun _ => 0) 0 800))), (kw, .inl (cI, 14, .inl (fun _ => 0)))] H := hP
    replace hD : va_D A [(o, .inr (3, [.ref k, .ref op, .int 0, .ref oq, .ref ov, .ref os])), (os, .inl (cI, 5, .inl (upd (upd (upd (upd (upd (upd (upd (upd (upd (upd (upd (upd (upd (fun _ => 0) 0 0) 1 0) 2 0) 3 0) 4 0) 0 2) 0 4) 0 6) 0 8) 0 10) 0 12) 0 14) 0 16))), (k, .inr (0, [.ref ks, .ref kw, .ref kc, .int (-6), .int 0, .int 0, .ref kq, .ref km, .ref kd, .int 0, .ref ka, .ref kk])), (ks, .inl (cI, 5, .inl (upd (fun _ => 0) 0 800))), (kw, .inl (cI, 14, .inl (fun _ => 0)))] := hD
    obtain rfl : r509 = 0 := hq509
    refine lv_dup2_11 hx hb dX3_countSlots_48 rfl rfl ?_
    refine va_iald hx hb hK hP 1 0 rfl rfl (vin (by decide) (by decide)) dX3_countSlots_49 ?_
    refine lv_topi (fun x510 e510 => ?_)
    obtain rfl : x510 = 16 := e510.trans (by first | rfl | decide)
    refine lv_iconst (v := 2) hx hb dX3_countSlots_50 (by decide) ?_
    refine lv_iadd hx hb dX3_countSlots_51 ?_
    refine lv_topi (fun x511 e511 => ?_)
    obtain rfl : x511 = 18 := e511.trans (by decide)
    refine va_iast hx hb hK hP hD hS 1 0 rfl rfl (vin (by decide) (by decide)) dX3_countSlots_52 (fun H locs hP hD hS => ?_)
    replace hP : va_P (dC, dI) vwCl [(o, .inr (3, [.ref k, .ref op, .int 0, .ref oq, .ref ov, .ref os])), (os, .inl (cI, 5, .inl (upd (upd (upd (upd (upd (upd (upd (upd (upd (upd (upd (upd (upd (upd (fun _ => 0) 0 0) 1 0) 2 0) 3 0) 4 0) 0 2) 0 4) 0 6) 0 8) 0 10) 0 12) 0 14) 0 16) 0 18))), (k, .inr (0, [.ref ks, .ref kw, .ref kc, .int (-6), .int 0, .int 0, .ref kq, .ref km, .ref kd, .int 0, .ref ka, .ref kk])), (ks, .inl (cI, 5, .inl (upd (fun _ => 0) 0 800))), (kw, .inl (cI, 14, .inl (fun _ => 0)))] H := hP
    replace hD : va_D A [(o, .inr (3, [.ref k, .ref op, .int 0, .ref oq, .ref ov, .ref os])), (os, .inl (cI, 5, .inl (upd (upd (upd (upd (upd (upd (upd (upd (upd (upd (upd (upd (upd (upd (fun _ => 0) 0 0) 1 0) 2 0) 3 0) 4 0) 0 2) 0 4) 0 6) 0 8) 0 10) 0 12) 0 14) 0 16) 0 18))), (k, .inr (0, [.ref ks, .ref kw, .ref kc, .int (-6), .int 0, .int 0, .ref kq, .ref km, .ref kd, .int 0, .ref ka, .ref kk])), (ks, .inl (cI, 5, .inl (upd (fun _ => 0) 0 800))), (kw, .inl (cI, 14, .inl (fun _ => 0)))] := hD
    refine lv_iinc (v := 9) (lv' := [(2, .int 9), (0, .ref o), (1, .int 13)]) hx hb dX3_countSlots_53 hl (k := 0) rfl (by decide) (by decide) rfl (fun ls hl => ?_)
    refine lv_goto (tgt := 30) hx hb dX3_countSlots_56 (by decide) ?_
    refine lv_iload_n hx hb dX3_countSlots_30 rfl (lv_at hl 0 rfl) ?_
    refine lv_iload_n hx hb dX3_countSlots_31 rfl (lv_at hl 2 rfl) ?_
    refine lv_icmp_gt (tgt := 59) hx hb dX3_countSlots_32 (by decide) (fun c512 => absurd c512 (by decide)) (fun c512 => ?_)
    refine lv_aload_n hx hb dX3_countSlots_35 rfl (lv_at hl 1 rfl) ?_
    refine va_get (D := (dC, dI)) (ci := 3) (v := .ref os) (C := RX3) (T := TX3) (N := 6) hx hb hts hin3 hown hK hP 0 rfl rfl 5 (by decide) hw0 (fun _ h9 => h9) rfl dX3_countSlots_36 ?_
    refine lv_aload_n hx hb dX3_countSlots_39 rfl (lv_at hl 1 rfl) ?_
    refine va_get (D := (dC, dI)) (ci := 3) (v := .ref k) (C := RX3) (T := TX3) (N := 6) hx hb hts hin3 hown hK hP 0 rfl rfl 0 (by decide) hw1 (fun _ h9 => h9) rfl dX3_countSlots_40 ?_
    refine lv_iload_n hx hb dX3_countSlots_43 rfl (lv_at hl 0 rfl) ?_
    refine lv_iconst (v := 0) hx hb dX3_countSlots_44 (by decide) ?_
    refine mx_i (wr := [(o, .inr (3, [.ref k, .ref op, .int 0, .ref oq, .ref ov, .ref os])), (os, .inl (cI, 5, .inl (upd (upd (upd (upd (upd (upd (upd (upd (upd (upd (upd (upd (upd (upd (fun _ => 0) 0 0) 1 0) 2 0) 3 0) 4 0) 0 2) 0 4) 0 6) 0 8) 0 10) 0 12) 0 14) 0 16) 0 18)))]) (va_runV (As := [.int 9, .int 0]) (rest := [.ref os]) ⟨hx, hb, hml, hown, hts⟩ (c_X0_windOn l dC dI cI cZ cK tS aK aV k ks kw kc kq km kd ka kk 9 H.size (by have z8 : (9 : Int32).toInt = 9 := rfl; first | omega | decide | assumption | trivial)) (cwV 2 hts (gw_v (fun _ h9 => List.mem_cons_of_mem _ h9) wm_169 wm_170 wm_171 wm_10 wm_172) rfl rfl rfl (by decide +kernel) ⟨Nat.le_of_ble_eq_true rfl, Nat.le_of_ble_eq_true rfl⟩) (mx_preV (C := RX0) (T := TX0) (N := 12) (ci := 0) hKx hP hD hS hA [2, 3, 4] (by decide) rfl rfl rfl) rfl rfl hl.1 rfl (lv_room (Nat.le_of_ble_eq_true rfl)) dX3_countSlots_45 ⟨Nat.le_of_ble_eq_true rfl, Nat.le_of_ble_eq_true rfl⟩) hP hD hS hA [2, 3, 4] [0, 1] rfl rfl (by decide) (by decide) (fun r513 u513 H locs hq513 hP hD hS => ?_)
    replace hP : va_P (dC, dI) vwCl [(o, .inr (3, [.ref k, .ref op, .int 0, .ref oq, .ref ov, .ref os])), (os, .inl (cI, 5, .inl (upd (upd (upd (upd (upd (upd (upd (upd (upd (upd (upd (upd (upd (upd (fun _ => 0) 0 0) 1 0) 2 0) 3 0) 4 0) 0 2) 0 4) 0 6) 0 8) 0 10) 0 12) 0 14) 0 16) 0 18))), (k, .inr (0, [.ref ks, .ref kw, .ref kc, .int (-6), .int 0, .int 0, .ref kq, .ref km, .ref kd, .int 0, .ref ka, .ref kk])), (ks, .inl (cI, 5, .inl (upd (fun _ => 0) 0 800))), (kw, .inl (cI, 14, .inl (fun _ => 0)))] H := hP
    replace hD : va_D A [(o, .inr (3, [.ref k, .ref op, .int 0, .ref oq, .ref ov, .ref os])), (os, .inl (cI, 5, .inl (upd (upd (upd (upd (upd (upd (upd (upd (upd (upd (upd (upd (upd (upd (fun _ => 0) 0 0) 1 0) 2 0) 3 0) 4 0) 0 2) 0 4) 0 6) 0 8) 0 10) 0 12) 0 14) 0 16) 0 18))), (k, .inr (0, [.ref ks, .ref kw, .ref kc, .int (-6), .int 0, .int 0, .ref kq, .ref km, .ref kd, .int 0, .ref ka, .ref kk])), (ks, .inl (cI, 5, .inl (upd (fun _ => 0) 0 800))), (kw, .inl (cI, 14, .inl (fun _ => 0)))] := hD
    obtain rfl : r513 = 0 := hq513
    refine lv_dup2_11 hx hb dX3_countSlots_48 rfl rfl ?_
    refine va_iald hx hb hK hP 1 0 rfl rfl (vin (by decide) (by decide)) dX3_countSlots_49 ?_
    refine lv_topi (fun x514 e514 => ?_)
    obtain rfl : x514 = 18 := e514.trans (by first | rfl | decide)
    refine lv_iconst (v := 2) hx hb dX3_countSlots_50 (by decide) ?_
    refine lv_iadd hx hb dX3_countSlots_51 ?_
    refine lv_topi (fun x515 e515 => ?_)
    obtain rfl : x515 = 20 := e515.trans (by decide)
    refine va_iast hx hb hK hP hD hS 1 0 rfl rfl (vin (by decide) (by decide)) dX3_countSlots_52 (fun H locs hP hD hS => ?_)
    replace hP : va_P (dC, dI) vwCl [(o, .inr (3, [.ref k, .ref op, .int 0, .ref oq, .ref ov, .ref os])), (os, .inl (cI, 5, .inl (upd (upd (upd (upd (upd (upd (upd (upd (upd (upd (upd (upd (upd (upd (upd (fun _ => 0) 0 0) 1 0) 2 0) 3 0) 4 0) 0 2) 0 4) 0 6) 0 8) 0 10) 0 12) 0 14) 0 16) 0 18) 0 20))), (k, .inr (0, [.ref ks, .ref kw, .ref kc, .int (-6), .int 0, .int 0, .ref kq, .ref km, .ref kd, .int 0, .ref ka, .ref kk])), (ks, .inl (cI, 5, .inl (upd (fun _ => 0) 0 800))), (kw, .inl (cI, 14, .inl (fun _ => 0)))] H := hP
    replace hD : va_D A [(o, .inr (3, [.ref k, .ref op, .int 0, .ref oq, .ref ov, .ref os])), (os, .inl (cI, 5, .inl (upd (upd (upd (upd (upd (upd (upd (upd (upd (upd (upd (upd (upd (upd (upd (fun _ => 0) 0 0) 1 0) 2 0) 3 0) 4 0) 0 2) 0 4) 0 6) 0 8) 0 10) 0 12) 0 14) 0 16) 0 18) 0 20))), (k, .inr (0, [.ref ks, .ref kw, .ref kc, .int (-6), .int 0, .int 0, .ref kq, .ref km, .ref kd, .int 0, .ref ka, .ref kk])), (ks, .inl (cI, 5, .inl (upd (fun _ => 0) 0 800))), (kw, .inl (cI, 14, .inl (fun _ => 0)))] := hD
    refine lv_iinc (v := 10) (lv' := [(2, .int 10), (0, .ref o), (1, .int 13)]) hx hb dX3_countSlots_53 hl (k := 0) rfl (by decide) (by decide) rfl (fun ls hl => ?_)
    refine lv_goto (tgt := 30) hx hb dX3_countSlots_56 (by decide) ?_
    refine lv_iload_n hx hb dX3_countSlots_30 rfl (lv_at hl 0 rfl) ?_
    refine lv_iload_n hx hb dX3_countSlots_31 rfl (lv_at hl 2 rfl) ?_
    refine lv_icmp_gt (tgt := 59) hx hb dX3_countSlots_32 (by decide) (fun c516 => absurd c516 (by decide)) (fun c516 => ?_)
    refine lv_aload_n hx hb dX3_countSlots_35 rfl (lv_at hl 1 rfl) ?_
    refine va_get (D := (dC, dI)) (ci := 3) (v := .ref os) (C := RX3) (T := TX3) (N := 6) hx hb hts hin3 hown hK hP 0 rfl rfl 5 (by decide) hw0 (fun _ h9 => h9) rfl dX3_countSlots_36 ?_
    refine lv_aload_n hx hb dX3_countSlots_39 rfl (lv_at hl 1 rfl) ?_
    refine va_get (D := (dC, dI)) (ci := 3) (v := .ref k) (C := RX3) (T := TX3) (N := 6) hx hb hts hin3 hown hK hP 0 rfl rfl 0 (by decide) hw1 (fun _ h9 => h9) rfl dX3_countSlots_40 ?_
    refine lv_iload_n hx hb dX3_countSlots_43 rfl (lv_at hl 0 rfl) ?_
    refine lv_iconst (v := 0) hx hb dX3_countSlots_44 (by decide) ?_
    refine mx_i (wr := [(o, .inr (3, [.ref k, .ref op, .int 0, .ref oq, .ref ov, .ref os])), (os, .inl (cI, 5, .inl (upd (upd (upd (upd (upd (upd (upd (upd (upd (upd (upd (upd (upd (upd (upd (fun _ => 0) 0 0) 1 0) 2 0) 3 0) 4 0) 0 2) 0 4) 0 6) 0 8) 0 10) 0 12) 0 14) 0 16) 0 18) 0 20)))]) (va_runV (As := [.int 10, .int 0]) (rest := [.ref os]) ⟨hx, hb, hml, hown, hts⟩ (c_X0_windOn l dC dI cI cZ cK tS aK aV k ks kw kc kq km kd ka kk 10 H.size (by have z8 : (10 : Int32).toInt = 10 := rfl; first | omega | decide | assumption | trivial)) (cwV 2 hts (gw_v (fun _ h9 => List.mem_cons_of_mem _ h9) wm_169 wm_170 wm_171 wm_10 wm_172) rfl rfl rfl (by decide +kernel) ⟨Nat.le_of_ble_eq_true rfl, Nat.le_of_ble_eq_true rfl⟩) (mx_preV (C := RX0) (T := TX0) (N := 12) (ci := 0) hKx hP hD hS hA [2, 3, 4] (by decide) rfl rfl rfl) rfl rfl hl.1 rfl (lv_room (Nat.le_of_ble_eq_true rfl)) dX3_countSlots_45 ⟨Nat.le_of_ble_eq_true rfl, Nat.le_of_ble_eq_true rfl⟩) hP hD hS hA [2, 3, 4] [0, 1] rfl rfl (by decide) (by decide) (fun r517 u517 H locs hq517 hP hD hS => ?_)
    replace hP : va_P (dC, dI) vwCl [(o, .inr (3, [.ref k, .ref op, .int 0, .ref oq, .ref ov, .ref os])), (os, .inl (cI, 5, .inl (upd (upd (upd (upd (upd (upd (upd (upd (upd (upd (upd (upd (upd (upd (upd (fun _ => 0) 0 0) 1 0) 2 0) 3 0) 4 0) 0 2) 0 4) 0 6) 0 8) 0 10) 0 12) 0 14) 0 16) 0 18) 0 20))), (k, .inr (0, [.ref ks, .ref kw, .ref kc, .int (-6), .int 0, .int 0, .ref kq, .ref km, .ref kd, .int 0, .ref ka, .ref kk])), (ks, .inl (cI, 5, .inl (upd (fun _ => 0) 0 800))), (kw, .inl (cI, 14, .inl (fun _ => 0)))] H := hP
    replace hD : va_D A [(o, .inr (3, [.ref k, .ref op, .int 0, .ref oq, .ref ov, .ref os])), (os, .inl (cI, 5, .inl (upd (upd (upd (upd (upd (upd (upd (upd (upd (upd (upd (upd (upd (upd (upd (fun _ => 0) 0 0) 1 0) 2 0) 3 0) 4 0) 0 2) 0 4) 0 6) 0 8) 0 10) 0 12) 0 14) 0 16) 0 18) 0 20))), (k, .inr (0, [.ref ks, .ref kw, .ref kc, .int (-6), .int 0, .int 0, .ref kq, .ref km, .ref kd, .int 0, .ref ka, .ref kk])), (ks, .inl (cI, 5, .inl (upd (fun _ => 0) 0 800))), (kw, .inl (cI, 14, .inl (fun _ => 0)))] := hD
    obtain rfl : r517 = 0 := hq517
    refine lv_dup2_11 hx hb dX3_countSlots_48 rfl rfl ?_
    refine va_iald hx hb hK hP 1 0 rfl rfl (vin (by decide) (by decide)) dX3_countSlots_49 ?_
    refine lv_topi (fun x518 e518 => ?_)
    obtain rfl : x518 = 20 := e518.trans (by first | rfl | decide)
    refine lv_iconst (v := 2) hx hb dX3_countSlots_50 (by decide) ?_
    refine lv_iadd hx hb dX3_countSlots_51 ?_
    refine lv_topi (fun x519 e519 => ?_)
    obtain rfl : x519 = 22 := e519.trans (by decide)
    refine va_iast hx hb hK hP hD hS 1 0 rfl rfl (vin (by decide) (by decide)) dX3_countSlots_52 (fun H locs hP hD hS => ?_)
    replace hP : va_P (dC, dI) vwCl [(o, .inr (3, [.ref k, .ref op, .int 0, .ref oq, .ref ov, .ref os])), (os, .inl (cI, 5, .inl (upd (upd (upd (upd (upd (upd (upd (upd (upd (upd (upd (upd (upd (upd (upd (upd (fun _ => 0) 0 0) 1 0) 2 0) 3 0) 4 0) 0 2) 0 4) 0 6) 0 8) 0 10) 0 12) 0 14) 0 16) 0 18) 0 20) 0 22))), (k, .inr (0, [.ref ks, .ref kw, .ref kc, .int (-6), .int 0, .int 0, .ref kq, .ref km, .ref kd, .int 0, .ref ka, .ref kk])), (ks, .inl (cI, 5, .inl (upd (fun _ => 0) 0 800))), (kw, .inl (cI, 14, .inl (fun _ => 0)))] H := hP
    replace hD : va_D A [(o, .inr (3, [.ref k, .ref op, .int 0, .ref oq, .ref ov, .ref os])), (os, .inl (cI, 5, .inl (upd (upd (upd (upd (upd (upd (upd (upd (upd (upd (upd (upd (upd (upd (upd (upd (fun _ => 0) 0 0) 1 0) 2 0) 3 0) 4 0) 0 2) 0 4) 0 6) 0 8) 0 10) 0 12) 0 14) 0 16) 0 18) 0 20) 0 22))), (k, .inr (0, [.ref ks, .ref kw, .ref kc, .int (-6), .int 0, .int 0, .ref kq, .ref km, .ref kd, .int 0, .ref ka, .ref kk])), (ks, .inl (cI, 5, .inl (upd (fun _ => 0) 0 800))), (kw, .inl (cI, 14, .inl (fun _ => 0)))] := hD
    refine lv_iinc (v := 11) (lv' := [(2, .int 11), (0, .ref o), (1, .int 13)]) hx hb dX3_countSlots_53 hl (k := 0) rfl (by decide) (by decide) rfl (fun ls hl => ?_)
    refine lv_goto (tgt := 30) hx hb dX3_countSlots_56 (by decide) ?_
    refine lv_iload_n hx hb dX3_countSlots_30 rfl (lv_at hl 0 rfl) ?_
    refine lv_iload_n hx hb dX3_countSlots_31 rfl (lv_at hl 2 rfl) ?_
    refine lv_icmp_gt (tgt := 59) hx hb dX3_countSlots_32 (by decide) (fun c520 => absurd c520 (by decide)) (fun c520 => ?_)
    refine lv_aload_n hx hb dX3_countSlots_35 rfl (lv_at hl 1 rfl) ?_
    refine va_get (D := (dC, dI)) (ci := 3) (v := .ref os) (C := RX3) (T := TX3) (N := 6) hx hb hts hin3 hown hK hP 0 rfl rfl 5 (by decide) hw0 (fun _ h9 => h9) rfl dX3_countSlots_36 ?_
    refine lv_aload_n hx hb dX3_countSlots_39 rfl (lv_at hl 1 rfl) ?_
    refine va_get (D := (dC, dI)) (ci := 3) (v := .ref k) (C := RX3) (T := TX3) (N := 6) hx hb hts hin3 hown hK hP 0 rfl rfl 0 (by decide) hw1 (fun _ h9 => h9) rfl dX3_countSlots_40 ?_
    refine lv_iload_n hx hb dX3_countSlots_43 rfl (lv_at hl 0 rfl) ?_
    refine lv_iconst (v := 0) hx hb dX3_countSlots_44 (by decide) ?_
    refine mx_i (wr := [(o, .inr (3, [.ref k, .ref op, .int 0, .ref oq, .ref ov, .ref os])), (os, .inl (cI, 5, .inl (upd (upd (upd (upd (upd (upd (upd (upd (upd (upd (upd (upd (upd (upd (upd (upd (fun _ => 0) 0 0) 1 0) 2 0) 3 0) 4 0) 0 2) 0 4) 0 6) 0 8) 0 10) 0 12) 0 14) 0 16) 0 18) 0 20) 0 22)))]) (va_runV (As := [.int 11, .int 0]) (rest := [.ref os]) ⟨hx, hb, hml, hown, hts⟩ (c_X0_windOn l dC dI cI cZ cK tS aK aV k ks kw kc kq km kd ka kk 11 H.size (by have z8 : (11 : Int32).toInt = 11 := rfl; first | omega | decide | assumption | trivial)) (cwV 2 hts (gw_v (fun _ h9 => List.mem_cons_of_mem _ h9) wm_169 wm_170 wm_171 wm_10 wm_172) rfl rfl rfl (by decide +kernel) ⟨Nat.le_of_ble_eq_true rfl, Nat.le_of_ble_eq_true rfl⟩) (mx_preV (C := RX0) (T := TX0) (N := 12) (ci := 0) hKx hP hD hS hA [2, 3, 4] (by decide) rfl rfl rfl) rfl rfl hl.1 rfl (lv_room (Nat.le_of_ble_eq_true rfl)) dX3_countSlots_45 ⟨Nat.le_of_ble_eq_true rfl, Nat.le_of_ble_eq_true rfl⟩) hP hD hS hA [2, 3, 4] [0, 1] rfl rfl (by decide) (by decide) (fun r521 u521 H locs hq521 hP hD hS => ?_)
    replace hP : va_P (dC, dI) vwCl [(o, .inr (3, [.ref k, .ref op, .int 0, .ref oq, .ref ov, .ref os])), (os, .inl (cI, 5, .inl (upd (upd (upd (upd (upd (upd (upd (upd (upd (upd (upd (upd (upd (upd (upd (upd (fun _ => 0) 0 0) 1 0) 2 0) 3 0) 4 0) 0 2) 0 4) 0 6) 0 8) 0 10) 0 12) 0 14) 0 16) 0 18) 0 20) 0 22))), (k, .inr (0, [.ref ks, .ref kw, .ref kc, .int (-6), .int 0, .int 0, .ref kq, .ref km, .ref kd, .int 0, .ref ka, .ref kk])), (ks, .inl (cI, 5, .inl (upd (fun _ => 0) 0 800))), (kw, .inl (cI, 14, .inl (fun _ => 0)))] H := hP
    replace hD : va_D A [(o, .inr (3, [.ref k, .ref op, .int 0, .ref oq, .ref ov, .ref os])), (os, .inl (cI, 5, .inl (upd (upd (upd (upd (upd (upd (upd (upd (upd (upd (upd (upd (upd (upd (upd (upd (fun _ => 0) 0 0) 1 0) 2 0) 3 0) 4 0) 0 2) 0 4) 0 6) 0 8) 0 10) 0 12) 0 14) 0 16) 0 18) 0 20) 0 22))), (k, .inr (0, [.ref ks, .ref kw, .ref kc, .int (-6), .int 0, .int 0, .ref kq, .ref km, .ref kd, .int 0, .ref ka, .ref kk])), (ks, .inl (cI, 5, .inl (upd (fun _ => 0) 0 800))), (kw, .inl (cI, 14, .inl (fun _ => 0)))] := hD
    obtain rfl : r521 = 0 := hq521
    refine lv_dup2_11 hx hb dX3_countSlots_48 rfl rfl ?_
    refine va_iald hx hb hK hP 1 0 rfl rfl (vin (by decide) (by decide)) dX3_countSlots_49 ?_
    refine lv_topi (fun x522 e522 => ?_)
    obtain rfl : x522 = 22 := e522.trans (by first | rfl | decide)
    refine lv_iconst (v := 2) hx hb dX3_countSlots_50 (by decide) ?_
    refine lv_iadd hx hb dX3_countSlots_51 ?_
    refine lv_topi (fun x523 e523 => ?_)
    obtain rfl : x523 = 24 := e523.trans (by decide)
    refine va_iast hx hb hK hP hD hS 1 0 rfl rfl (vin (by decide) (by decide)) dX3_countSlots_52 (fun H locs hP hD hS => ?_)
    replace hP : va_P (dC, dI) vwCl [(o, .inr (3, [.ref k, .ref op, .int 0, .ref oq, .ref ov, .ref os])), (os, .inl (cI, 5, .inl (upd (upd (upd (upd (upd (upd (upd (upd (upd (upd (upd (upd (upd (upd (upd (upd (upd (fun _ => 0) 0 0) 1 0) 2 0) 3 0) 4 0) 0 2) 0 4) 0 6) 0 8) 0 10) 0 12) 0 14) 0 16) 0 18) 0 20) 0 22) 0 24))), (k, .inr (0, [.ref ks, .ref kw, .ref kc, .int (-6), .int 0, .int 0, .ref kq, .ref km, .ref kd, .int 0, .ref ka, .ref kk])), (ks, .inl (cI, 5, .inl (upd (fun _ => 0) 0 800))), (kw, .inl (cI, 14, .inl (fun _ => 0)))] H := hP
    replace hD : va_D A [(o, .inr (3, [.ref k, .ref op, .int 0, .ref oq, .ref ov, .ref os])), (os, .inl (cI, 5, .inl (upd (upd (upd (upd (upd (upd (upd (upd (upd (upd (upd (upd (upd (upd (upd (upd (upd (fun _ => 0) 0 0) 1 0) 2 0) 3 0) 4 0) 0 2) 0 4) 0 6) 0 8) 0 10) 0 12) 0 14) 0 16) 0 18) 0 20) 0 22) 0 24))), (k, .inr (0, [.ref ks, .ref kw, .ref kc, .int (-6), .int 0, .int 0, .ref kq, .ref km, .ref kd, .int 0, .ref ka, .ref kk])), (ks, .inl (cI, 5, .inl (upd (fun _ => 0) 0 800))), (kw, .inl (cI, 14, .inl (fun _ => 0)))] := hD
    refine lv_iinc (v := 12) (lv' := [(2, .int 12), (0, .ref o), (1, .int 13)]) hx hb dX3_countSlots_53 hl (k := 0) rfl (by decide) (by decide) rfl (fun ls hl => ?_)
    refine lv_goto (tgt := 30) hx hb dX3_countSlots_56 (by decide) ?_
    refine lv_iload_n hx hb dX3_countSlots_30 rfl (lv_at hl 0 rfl) ?_
    refine lv_iload_n hx hb dX3_countSlots_31 rfl (lv_at hl 2 rfl) ?_
    refine lv_icmp_gt (tgt := 59) hx hb dX3_countSlots_32 (by decide) (fun c524 => absurd c524 (by decide)) (fun c524 => ?_)
    refine lv_aload_n hx hb dX3_countSlots_35 rfl (lv_at hl 1 rfl) ?_
    refine va_get (D := (dC, dI)) (ci := 3) (v := .ref os) (C := RX3) (T := TX3) (N := 6) hx hb hts hin3 hown hK hP 0 rfl rfl 5 (by decide) hw0 (fun _ h9 => h9) rfl dX3_countSlots_36 ?_
    refine lv_aload_n hx hb dX3_countSlots_39 rfl (lv_at hl 1 rfl) ?_
    refine va_get (D := (dC, dI)) (ci := 3) (v := .ref k) (C := RX3) (T := TX3) (N := 6) hx hb hts hin3 hown hK hP 0 rfl rfl 0 (by decide) hw1 (fun _ h9 => h9) rfl dX3_countSlots_40 ?_
    refine lv_iload_n hx hb dX3_countSlots_43 rfl (lv_at hl 0 rfl) ?_
    refine lv_iconst (v := 0) hx hb dX3_countSlots_44 (by decide) ?_
    refine mx_i (wr := [(o, .inr (3, [.ref k, .ref op, .int 0, .ref oq, .ref ov, .ref os])), (os, .inl (cI, 5, .inl (upd (upd (upd (upd (upd (upd (upd (upd (upd (upd (upd (upd (upd (upd (upd (upd (upd (fun _ => 0) 0 0) 1 0) 2 0) 3 0) 4 0) 0 2) 0 4) 0 6) 0 8) 0 10) 0 12) 0 14) 0 16) 0 18) 0 20) 0 22) 0 24)))]) (va_runV (As := [.int 12, .int 0]) (rest := [.ref os]) ⟨hx, hb, hml, hown, hts⟩ (c_X0_windOn l dC dI cI cZ cK tS aK aV k ks kw kc kq km kd ka kk 12 H.size (by have z8 : (12 : Int32).toInt = 12 := rfl; first | omega | decide | assumption | trivial)) (cwV 2 hts (gw_v (fun _ h9 => List.mem_cons_of_mem _ h9) wm_169 wm_170 wm_171 wm_10 wm_172) rfl rfl rfl (by decide +kernel) ⟨Nat.le_of_ble_eq_true rfl, Nat.le_of_ble_eq_true rfl⟩) (mx_preV (C := RX0) (T := TX0) (N := 12) (ci := 0) hKx hP hD hS hA [2, 3, 4] (by decide) rfl rfl rfl) rfl rfl hl.1 rfl (lv_room (Nat.le_of_ble_eq_true rfl)) dX3_countSlots_45 ⟨Nat.le_of_ble_eq_true rfl, Nat.le_of_ble_eq_true rfl⟩) hP hD hS hA [2, 3, 4] [0, 1] rfl rfl (by decide) (by decide) (fun r525 u525 H locs hq525 hP hD hS => ?_)
    replace hP : va_P (dC, dI) vwCl [(o, .inr (3, [.ref k, .ref op, .int 0, .ref oq, .ref ov, .ref os])), (os, .inl (cI, 5, .inl (upd (upd (upd (upd (upd (upd (upd (upd (upd (upd (upd (upd (upd (upd (upd (upd (upd (fun _ => 0) 0 0) 1 0) 2 0) 3 0) 4 0) 0 2) 0 4) 0 6) 0 8) 0 10) 0 12) 0 14) 0 16) 0 18) 0 20) 0 22) 0 24))), (k, .inr (0, [.ref ks, .ref kw, .ref kc, .int (-6), .int 0, .int 0, .ref kq, .ref km, .ref kd, .int 0, .ref ka, .ref kk])), (ks, .inl (cI, 5, .inl (upd (fun _ => 0) 0 800))), (kw, .inl (cI, 14, .inl (fun _ => 0)))] H := hP
    replace hD : va_D A [(o, .inr (3, [.ref k, .ref op, .int 0, .ref oq, .ref ov, .ref os])), (os, .inl (cI, 5, .inl (upd (upd (upd (upd (upd (upd (upd (upd (upd (upd (upd (upd (upd (upd (upd (upd (upd (fun _ => 0) 0 0) 1 0) 2 0) 3 0) 4 0) 0 2) 0 4) 0 6) 0 8) 0 10) 0 12) 0 14) 0 16) 0 18) 0 20) 0 22) 0 24))), (k, .inr (0, [.ref ks, .ref kw, .ref kc, .int (-6), .int 0, .int 0, .ref kq, .ref km, .ref kd, .int 0, .ref ka, .ref kk])), (ks, .inl (cI, 5, .inl (upd (fun _ => 0) 0 800))), (kw, .inl (cI, 14, .inl (fun _ => 0)))] := hD
    obtain rfl : r525 = 0 := hq525
    refine lv_dup2_11 hx hb dX3_countSlots_48 rfl rfl ?_
    refine va_iald hx hb hK hP 1 0 rfl rfl (vin (by decide) (by decide)) dX3_countSlots_49 ?_
    refine lv_topi (fun x526 e526 => ?_)
    obtain rfl : x526 = 24 := e526.trans (by first | rfl | decide)
    refine lv_iconst (v := 2) hx hb dX3_countSlots_50 (by decide) ?_
    refine lv_iadd hx hb dX3_countSlots_51 ?_
    refine lv_topi (fun x527 e527 => ?_)
    obtain rfl : x527 = 26 := e527.trans (by decide)
    refine va_iast hx hb hK hP hD hS 1 0 rfl rfl (vin (by decide) (by decide)) dX3_countSlots_52 (fun H locs hP hD hS => ?_)
    replace hP : va_P (dC, dI) vwCl [(o, .inr (3, [.ref k, .ref op, .int 0, .ref oq, .ref ov, .ref os])), (os, .inl (cI, 5, .inl (upd (upd (upd (upd (upd (upd (upd (upd (upd (upd (upd (upd (upd (upd (upd (upd (upd (upd (fun _ => 0) 0 0) 1 0) 2 0) 3 0) 4 0) 0 2) 0 4) 0 6) 0 8) 0 10) 0 12) 0 14) 0 16) 0 18) 0 20) 0 22) 0 24) 0 26))), (k, .inr (0, [.ref ks, .ref kw, .ref kc, .int (-6), .int 0, .int 0, .ref kq, .ref km, .ref kd, .int 0, .ref ka, .ref kk])), (ks, .inl (cI, 5, .inl (upd (fun _ => 0) 0 800))), (kw, .inl (cI, 14, .inl (fun _ => 0)))] H := hP
    replace hD : va_D A [(o, .inr (3, [.ref k, .ref op, .int 0, .ref oq, .ref ov, .ref os])), (os, .inl (cI, 5, .inl (upd (upd (upd (upd (upd (upd (upd (upd (upd (upd (upd (upd (upd (upd (upd (upd (upd (upd (fun _ => 0) 0 0) 1 0) 2 0) 3 0) 4 0) 0 2) 0 4) 0 6) 0 8) 0 10) 0 12) 0 14) 0 16) 0 18) 0 20) 0 22) 0 24) 0 26))), (k, .inr (0, [.ref ks, .ref kw, .ref kc, .int (-6), .int 0, .int 0, .ref kq, .ref km, .ref kd, .int 0, .ref ka, .ref kk])), (ks, .inl (cI, 5, .inl (upd (fun _ => 0) 0 800))), (kw, .inl (cI, 14, .inl (fun _ => 0)))] := hD
    refine lv_iinc (v := 13) (lv' := [(2, .int 13), (0, .ref o), (1, .int 13)]) hx hb dX3_countSlots_53 hl (k := 0) rfl (by decide) (by decide) rfl (fun ls hl => ?_)
    refine lv_goto (tgt := 30) hx hb dX3_countSlots_56 (by decide) ?_
    refine lv_iload_n hx hb dX3_countSlots_30 rfl (lv_at hl 0 rfl) ?_
    refine lv_iload_n hx hb dX3_countSlots_31 rfl (lv_at hl 2 rfl) ?_
    refine lv_icmp_gt (tgt := 59) hx hb dX3_countSlots_32 (by decide) (fun c528 => absurd c528 (by decide)) (fun c528 => ?_)
    refine lv_aload_n hx hb dX3_countSlots_35 rfl (lv_at hl 1 rfl) ?_
    refine va_get (D := (dC, dI)) (ci := 3) (v := .ref os) (C := RX3) (T := TX3) (N := 6) hx hb hts hin3 hown hK hP 0 rfl rfl 5 (by decide) hw0 (fun _ h9 => h9) rfl dX3_countSlots_36 ?_
    refine lv_aload_n hx hb dX3_countSlots_39 rfl (lv_at hl 1 rfl) ?_
    refine va_get (D := (dC, dI)) (ci := 3) (v := .ref k) (C := RX3) (T := TX3) (N := 6) hx hb hts hin3 hown hK hP 0 rfl rfl 0 (by decide) hw1 (fun _ h9 => h9) rfl dX3_countSlots_40 ?_
    refine lv_iload_n hx hb dX3_countSlots_43 rfl (lv_at hl 0 rfl) ?_
    refine lv_iconst (v := 0) hx hb dX3_countSlots_44 (by decide) ?_
    refine mx_i (wr := [(o, .inr (3, [.ref k, .ref op, .int 0, .ref oq, .ref ov, .ref os])), (os, .inl (cI, 5, .inl (upd (upd (upd (upd (upd (upd (upd (upd (upd (upd (upd (upd (upd (upd (upd (upd (upd (upd (fun _ => 0) 0 0) 1 0) 2 0) 3 0) 4 0) 0 2) 0 4) 0 6) 0 8) 0 10) 0 12) 0 14) 0 16) 0 18) 0 20) 0 22) 0 24) 0 26)))]) (va_runV (As := [.int 13, .int 0]) (rest := [.ref os]) ⟨hx, hb, hml, hown, hts⟩ (c_X0_windOn l dC dI cI cZ cK tS aK aV k ks kw kc kq km kd ka kk 13 H.size (by have z8 : (13 : Int32).toInt = 13 := rfl; first | omega | decide | assumption | trivial)) (cwV 2 hts (gw_v (fun _ h9 => List.mem_cons_of_mem _ h9) wm_169 wm_170 wm_171 wm_10 wm_172) rfl rfl rfl (by decide +kernel) ⟨Nat.le_of_ble_eq_true rfl, Nat.le_of_ble_eq_true rfl⟩) (mx_preV (C := RX0) (T := TX0) (N := 12) (ci := 0) hKx hP hD hS hA [2, 3, 4] (by decide) rfl rfl rfl) rfl rfl hl.1 rfl (lv_room (Nat.le_of_ble_eq_true rfl)) dX3_countSlots_45 ⟨Nat.le_of_ble_eq_true rfl, Nat.le_of_ble_eq_true rfl⟩) hP hD hS hA [2, 3, 4] [0, 1] rfl rfl (by decide) (by decide) (fun r529 u529 H locs hq529 hP hD hS => ?_)
    replace hP : va_P (dC, dI) vwCl [(o, .inr (3, [.ref k, .ref op, .int 0, .ref oq, .ref ov, .ref os])), (os, .inl (cI, 5, .inl (upd (upd (upd (upd (upd (upd (upd (upd (upd (upd (upd (upd (upd (upd (upd (upd (upd (upd (fun _ => 0) 0 0) 1 0) 2 0) 3 0) 4 0) 0 2) 0 4) 0 6) 0 8) 0 10) 0 12) 0 14) 0 16) 0 18) 0 20) 0 22) 0 24) 0 26))), (k, .inr (0, [.ref ks, .ref kw, .ref kc, .int (-6), .int 0, .int 0, .ref kq, .ref km, .ref kd, .int 0, .ref ka, .ref kk])), (ks, .inl (cI, 5, .inl (upd (fun _ => 0) 0 800))), (kw, .inl (cI, 14, .inl (fun _ => 0)))] H := hP
    replace hD : va_D A [(o, .inr (3, [.ref k, .ref op, .int 0, .ref oq, .ref ov, .ref os])), (os, .inl (cI, 5, .inl (upd (upd (upd (upd (upd (upd (upd (upd (upd (upd (upd (upd (upd (upd (upd (upd (upd (upd (fun _ => 0) 0 0) 1 0) 2 0) 3 0) 4 0) 0 2) 0 4) 0 6) 0 8) 0 10) 0 12) 0 14) 0 16) 0 18) 0 20) 0 22) 0 24) 0 26))), (k, .inr (0, [.ref ks, .ref kw, .ref kc, .int (-6), .int 0, .int 0, .ref kq, .ref km, .ref kd, .int 0, .ref ka, .ref kk])), (ks, .inl (cI, 5, .inl (upd (fun _ => 0) 0 800))), (kw, .inl (cI, 14, .inl (fun _ => 0)))] := hD
    obtain rfl : r529 = 0 := hq529
    refine lv_dup2_11 hx hb dX3_countSlots_48 rfl rfl ?_
    refine va_iald hx hb hK hP 1 0 rfl rfl (vin (by decide) (by decide)) dX3_countSlots_49 ?_
    refine lv_topi (fun x530 e530 => ?_)
    obtain rfl : x530 = 26 := e530.trans (by first | rfl | decide)
    refine lv_iconst (v := 2) hx hb dX3_countSlots_50 (by decide) ?_
    refine lv_iadd hx hb dX3_countSlots_51 ?_
    refine lv_topi (fun x531 e531 => ?_)
    obtain rfl : x531 = 28 := e531.trans (by decide)
    refine va_iast hx hb hK hP hD hS 1 0 rfl rfl (vin (by decide) (by decide)) dX3_countSlots_52 (fun H locs hP hD hS => ?_)
    replace hP : va_P (dC, dI) vwCl [(o, .inr (3, [.ref k, .ref op, .int 0, .ref oq, .ref ov, .ref os])), (os, .inl (cI, 5, .inl (upd (upd (upd (upd (upd (upd (upd (upd (upd (upd (upd (upd (upd (upd (upd (upd (upd (upd (upd (fun _ => 0) 0 0) 1 0) 2 0) 3 0) 4 0) 0 2) 0 4) 0 6) 0 8) 0 10) 0 12) 0 14) 0 16) 0 18) 0 20) 0 22) 0 24) 0 26) 0 28))), (k, .inr (0, [.ref ks, .ref kw, .ref kc, .int (-6), .int 0, .int 0, .ref kq, .ref km, .ref kd, .int 0, .ref ka, .ref kk])), (ks, .inl (cI, 5, .inl (upd (fun _ => 0) 0 800))), (kw, .inl (cI, 14, .inl (fun _ => 0)))] H := hP
    replace hD : va_D A [(o, .inr (3, [.ref k, .ref op, .int 0, .ref oq, .ref ov, .ref os])), (os, .inl (cI, 5, .inl (upd (upd (upd (upd (upd (upd (upd (upd (upd (upd (upd (upd (upd (upd (upd (upd (upd (upd (upd (fun _ => 0) 0 0) 1 0) 2 0) 3 0) 4 0) 0 2) 0 4) 0 6) 0 8) 0 10) 0 12) 0 14) 0 16) 0 18) 0 20) 0 22) 0 24) 0 26) 0 28))), (k, .inr (0, [.ref ks, .ref kw, .ref kc, .int (-6), .int 0, .int 0, .ref kq, .ref km, .ref kd, .int 0, .ref ka, .ref kk])), (ks, .inl (cI, 5, .inl (upd (fun _ => 0) 0 800))), (kw, .inl (cI, 14, .inl (fun _ => 0)))] := hD
    refine lv_iinc (v := 14) (lv' := [(2, .int 14), (0, .ref o), (1, .int 13)]) hx hb dX3_countSlots_53 hl (k := 0) rfl (by decide) (by decide) rfl (fun ls hl => ?_)
    refine lv_goto (tgt := 30) hx hb dX3_countSlots_56 (by decide) ?_
    refine lv_iload_n hx hb dX3_countSlots_30 rfl (lv_at hl 0 rfl) ?_
    refine lv_iload_n hx hb dX3_countSlots_31 rfl (lv_at hl 2 rfl) ?_
    refine lv_icmp_gt (tgt := 59) hx hb dX3_countSlots_32 (by decide) (fun c532 => ?_) (fun c532 => absurd c532 (by decide))
    have hP9 := mx_subP (wc := [(o, .inr (3, [.ref k, .ref op, .int 0, .ref oq, .ref ov, .ref os])), (os, .inl (cI, 5, .inl (upd (upd (upd (upd (upd (upd (upd (upd (upd (upd (upd (upd (upd (upd (upd (upd (upd (upd (upd (fun _ => 0) 0 0) 1 0) 2 0) 3 0) 4 0) 0 2) 0 4) 0 6) 0 8) 0 10) 0 12) 0 14) 0 16) 0 18) 0 20) 0 22) 0 24) 0 26) 0 28))), (k, .inr (0, [.ref ks, .ref kw, .ref kc, .int (-6), .int 0, .int 0, .ref kq, .ref km, .ref kd, .int 0, .ref ka, .ref kk])), (ks, .inl (cI, 5, .inl (upd (fun _ => 0) 0 800))), (kw, .inl (cI, 14, .inl (fun _ => 0)))]) hP [0, 1, 2, 3, 4] rfl
    have hD9 := hD.sub (ws' := [(o, .inr (3, [.ref k, .ref op, .int 0, .ref oq, .ref ov, .ref os])), (os, .inl (cI, 5, .inl (upd (upd (upd (upd (upd (upd (upd (upd (upd (upd (upd (upd (upd (upd (upd (upd (upd (upd (upd (fun _ => 0) 0 0) 1 0) 2 0) 3 0) 4 0) 0 2) 0 4) 0 6) 0 8) 0 10) 0 12) 0 14) 0 16) 0 18) 0 20) 0 22) 0 24) 0 26) 0 28))), (k, .inr (0, [.ref ks, .ref kw, .ref kc, .int (-6), .int 0, .int 0, .ref kq, .ref km, .ref kd, .int 0, .ref ka, .ref kk])), (ks, .inl (cI, 5, .inl (upd (fun _ => 0) 0 800))), (kw, .inl (cI, 14, .inl (fun _ => 0)))]) [0, 1, 2, 3, 4] (by decide) rfl
    exact W.vret hx hb hr (fun t ht hW => ⟨⟨(upd (upd (upd (upd (upd (upd (upd (upd (upd (upd (upd (upd (upd (upd (upd (upd (upd (upd (upd (fun _ => 0) 0 0) 1 0) 2 0) 3 0) 4 0) 0 2) 0 4) 0 6) 0 8) 0 10) 0 12) 0 14) 0 16) 0 18) 0 20) 0 22) 0 24) 0 26) 0 28), rfl, (by refine ⟨?_, ?_, ?_, ?_, ?_, ?_, ?_, ?_, ?_, ?_⟩ <;> decide), by rw [ht]; exact hP9, hD9⟩, hS.F ht⟩) hS.2.2 dX3_countSlots_59
