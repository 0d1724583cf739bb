set_option maxHeartbeats 4000000 in
set_option maxRecDepth 100000 in
theorem c_X0_init (l : Launch) (dC : Nat → ClassId) (dI : Nat → Nat → Nat) (cI cZ cK : ClassId) (tS : Nat) (aK aV : Nat → Nat) (k : Nat) (sz : Nat) : Cv l yX0_init (wq yX0_init cX0_init 1 none) ({ frames := 1, cells := 8, slots := 67, locals := 12 }) dC dI cI cZ cK tS aK aV [.ref k] sz [(k, .inr (0, [.null, .null, .null, .int 0, .int 0, .int 0, .null, .null, .null, .int 0, .null, .null]))] (fun (u : Nat → Nat) => True) (fun u => [(k, .inr (0, [.ref (u 0), .ref (u 1), .ref (u 2), .int (-6), .int 0, .int 0, .ref (u 3), .ref (u 4), .ref (u 5), .int 0, .ref (u 6), .ref (u 7)])), ((u 0), .inl (cI, 5, .inl (upd (fun _ => 0) 0 800))), ((u 1), .inl (cI, 14, .inl (fun _ => 0))), ((u 2), .inl (cZ, 14, .inl (fun _ => 0))), ((u 3), .inl (cI, 6, .inl (fun _ => 0))), ((u 4), .inl (cI, 6, .inl (fun _ => 0))), ((u 5), .inl (cI, 6, .inl (fun _ => 0))), ((u 6), .inl (cI, 8, .inl (fun _ => 0))), ((u 7), .inl (cI, 8, .inl (fun _ => 0)))]) := by
  refine Met.ofW (cc := cX0_init) (maxL := 1) (ret := none) (by decide) rfl ?_
  intro p e s m args below meth c s₁ B hml hv
  obtain ⟨rfl, hsz, hP, hKx, hD0⟩ := hv
  have hx := B.exec
  have hb := B.bytes
  have hr := B.returns
  have hts := atoms_spec (ws := wq yX0_init cX0_init 1 none) B.pre
  have hown : s.vm.findClass RX0 = some m.cls := findClass_of_methodNamed B.named
  have hlocks := B.notSynchronized
  have hin : meth.name = "<init>" := (name_of_methodNamed B.named B.method).1
  subst hsz
  have hD := hD0.self (sz := s.heap.size)
  generalize hAe : va_A [(k, .inr (0, [.null, .null, .null, .int 0, .int 0, .int 0, .null, .null, .null, .int 0, .null, .null]))] s.heap.size = A at hD hKx ⊢
  have hA : ∀ q : Nat, s.heap.size ≤ q → A q := fun q h => by rw [← hAe]; exact Or.inr h
  have hS : va_S A s.heap s.heap [] := va_S.rf
  have hP : va_P (dC, dI) vwCl [(k, .inr (0, [.null, .null, .null, .int 0, .int 0, .int 0, .null, .null, .null, .int 0, .null, .null]))] s.heap := hP
  have hl := lv_entry ([.ref k]) (n := 1) (Nat.le_of_ble_eq_true rfl)
  rw [lg_entry_eq]
  generalize (lg_sl ([.ref k]) ++ List.replicate (1 - (lg_sl ([.ref k])).length) Slot.unset).toArray = ls at hl ⊢
  have hl : lv_has ls 1 [(0, .ref k)] := hl
  have hK := hKx.1
  have hin0 := fun w9 h9 => List.mem_cons_of_mem (Cond.code yX0_init cX0_init 1 none) (inlX0 w9 h9)
  have hw0 := hts (.methodLink RX0 3 objectInit) (List.mem_cons_of_mem _ wm_48)
  have hw1 := hts (.instanceMethod objectInit) (List.mem_cons_of_mem _ wm_10)
  have hw2 := hts (.code objectInit ⟨#[0xb1]⟩ 1 none) (List.mem_cons_of_mem _ wm_11)
  have hw3 := hts (.arrayClass .int) (List.mem_cons_of_mem _ wm_43)
  have hw4 := hts (.fieldLink RX0 9 "OneCan$Camp" "settings" "[I") (List.mem_cons_of_mem _ wm_49)
  have hw5 := hts (.fieldLink RX0 15 "OneCan$Camp" "winds" "[I") (List.mem_cons_of_mem _ wm_50)
  have hw6 := hts (.arrayClass .boolean) (List.mem_cons_of_mem _ wm_41)
  have hw7 := hts (.fieldLink RX0 18 "OneCan$Camp" "colds" "[Z") (List.mem_cons_of_mem _ wm_51)
  have hw8 := hts (.fieldLink RX0 22 "OneCan$Camp" "warmDay" "I") (List.mem_cons_of_mem _ wm_52)
  have hw9 := hts (.fieldLink RX0 26 "OneCan$Camp" "quarts" "[I") (List.mem_cons_of_mem _ wm_53)
  have hw10 := hts (.fieldLink RX0 29 "OneCan$Camp" "minutes" "[I") (List.mem_cons_of_mem _ wm_54)
  have hw11 := hts (.fieldLink RX0 32 "OneCan$Camp" "degrees" "[I") (List.mem_cons_of_mem _ wm_55)
  have hw12 := hts (.fieldLink RX0 35 "OneCan$Camp" "sightActs" "[I") (List.mem_cons_of_mem _ wm_56)
  have hw13 := hts (.fieldLink RX0 38 "OneCan$Camp" "sightMarks" "[I") (List.mem_cons_of_mem _ wm_57)
  refine lv_aload_n hx hb dX0_init_0 rfl (lv_at hl 0 rfl) ?_
  refine W.objInit hx hb hown hw0 hw1 hw2 rfl (by rw [hml]; exact hl.1) rfl dX0_init_1 (Nat.le_of_ble_eq_true rfl) (Nat.le_of_ble_eq_true rfl) ?_
  refine W.eq (g2 := F0 m 4 ls []) rfl ?_
  refine lv_aload_n hx hb dX0_init_4 rfl (lv_at hl 0 rfl) ?_
  refine lv_iconst (v := 5) hx hb dX0_init_5 (by decide) ?_
  refine mx_newI (N' := 5) hx hb hw3 hK hP hD hS hA 0 rfl (by decide) (by decide) (by decide) (Nat.le_of_ble_eq_true rfl) (Nat.le_of_ble_eq_true rfl) dX0_init_6 (fun q1 H hP hD hS => ?_)
  replace hP : va_P (dC, dI) vwCl [(k, .inr (0, [.null, .null, .null, .int 0, .int 0, .int 0, .null, .null, .null, .int 0, .null, .null])), (q1, .inl (cI, 5, .inl (fun _ => 0)))] H := hP
  replace hD : va_D A [(k, .inr (0, [.null, .null, .null, .int 0, .int 0, .int 0, .null, .null, .null, .int 0, .null, .null])), (q1, .inl (cI, 5, .inl (fun _ => 0)))] := hD
  refine W.widen (k := 1) (n := 5) (Nat.le_of_ble_eq_true rfl) (Nat.le_of_ble_eq_true rfl) ?_
  refine va_putF (D := (dC, dI)) (ci := 0) (v := .ref q1) (ty := .array (.int)) (C := RX0) (T := TX0) (N := 12) hx hb hts hin0 tyX0 tyX0_ok nmX0 hown hK hP hD hS 0 rfl rfl 0 (by decide) hw4 (fun _ h9 => h9) rfl hin rfl (by decide +kernel) rfl rfl (Nat.le_of_ble_eq_true rfl) dX0_init_8 (fun H locs hP hD hS => ?_)
  replace hP : va_P (dC, dI) vwCl [(k, .inr (0, [.ref q1, .null, .null, .int 0, .int 0, .int 0, .null, .null, .null, .int 0, .null, .null])), (q1, .inl (cI, 5, .inl (fun _ => 0)))] H := hP
  replace hD : va_D A [(k, .inr (0, [.ref q1, .null, .null, .int 0, .int 0, .int 0, .null, .null, .null, .int 0, .null, .null])), (q1, .inl (cI, 5, .inl (fun _ => 0)))] := hD
  refine lv_aload_n hx hb dX0_init_11 rfl (lv_at hl 0 rfl) ?_
  refine lv_bipush (v := 14) hx hb dX0_init_12 (by decide) ?_
  refine mx_newI (N' := 14) hx hb hw3 hK hP hD hS hA 0 rfl (by decide) (by decide) (by decide) (Nat.le_of_ble_eq_true rfl) (Nat.le_of_ble_eq_true rfl) dX0_init_14 (fun q2 H hP hD hS => ?_)
  replace hP : va_P (dC, dI) vwCl [(k, .inr (0, [.ref q1, .null, .null, .int 0, .int 0, .int 0, .null, .null, .null, .int 0, .null, .null])), (q1, .inl (cI, 5, .inl (fun _ => 0))), (q2, .inl (cI, 14, .inl (fun _ => 0)))] H := hP
  replace hD : va_D A [(k, .inr (0, [.ref q1, .null, .null, .int 0, .int 0, .int 0, .null, .null, .null, .int 0, .null, .null])), (q1, .inl (cI, 5, .inl (fun _ => 0))), (q2, .inl (cI, 14, .inl (fun _ => 0)))] := hD
  refine W.widen (k := 2) (n := 19) (Nat.le_of_ble_eq_true rfl) (Nat.le_of_ble_eq_true rfl) ?_
  refine va_putF (D := (dC, dI)) (ci := 0) (v := .ref q2) (ty := .array (.int)) (C := RX0) (T := TX0) (N := 12) hx hb hts hin0 tyX0 tyX0_ok nmX0 hown hK hP hD hS 0 rfl rfl 1 (by decide) hw5 (fun _ h9 => h9) rfl hin rfl (by decide +kernel) rfl rfl (Nat.le_of_ble_eq_true rfl) dX0_init_16 (fun H locs hP hD hS => ?_)
  replace hP : va_P (dC, dI) vwCl [(k, .inr (0, [.ref q1, .ref q2, .null, .int 0, .int 0, .int 0, .null, .null, .null, .int 0, .null, .null])), (q1, .inl (cI, 5, .inl (fun _ => 0))), (q2, .inl (cI, 14, .inl (fun _ => 0)))] H := hP
  replace hD : va_D A [(k, .inr (0, [.ref q1, .ref q2, .null, .int 0, .int 0, .int 0, .null, .null, .null, .int 0, .null, .null])), (q1, .inl (cI, 5, .inl (fun _ => 0))), (q2, .inl (cI, 14, .inl (fun _ => 0)))] := hD
  refine lv_aload_n hx hb dX0_init_19 rfl (lv_at hl 0 rfl) ?_
  refine lv_bipush (v := 14) hx hb dX0_init_20 (by decide) ?_
  refine mx_newZ (N' := 14) hx hb hw6 hK hP hD hS hA 1 rfl (by decide) (by decide) (by decide) (Nat.le_of_ble_eq_true rfl) (Nat.le_of_ble_eq_true rfl) dX0_init_22 (fun q3 H hP hD hS => ?_)
  replace hP : va_P (dC, dI) vwCl [(k, .inr (0, [.ref q1, .ref q2, .null, .int 0, .int 0, .int 0, .null, .null, .null, .int 0, .null, .null])), (q1, .inl (cI, 5, .inl (fun _ => 0))), (q2, .inl (cI, 14, .inl (fun _ => 0))), (q3, .inl (cZ, 14, .inl (fun _ => 0)))] H := hP
  replace hD : va_D A [(k, .inr (0, [.ref q1, .ref q2, .null, .int 0, .int 0, .int 0, .null, .null, .null, .int 0, .null, .null])), (q1, .inl (cI, 5, .inl (fun _ => 0))), (q2, .inl (cI, 14, .inl (fun _ => 0))), (q3, .inl (cZ, 14, .inl (fun _ => 0)))] := hD
  refine W.widen (k := 3) (n := 33) (Nat.le_of_ble_eq_true rfl) (Nat.le_of_ble_eq_true rfl) ?_
  refine va_putF (D := (dC, dI)) (ci := 0) (v := .ref q3) (ty := .array (.boolean)) (C := RX0) (T := TX0) (N := 12) hx hb hts hin0 tyX0 tyX0_ok nmX0 hown hK hP hD hS 0 rfl rfl 2 (by decide) hw7 (fun _ h9 => h9) rfl hin rfl (by decide +kernel) rfl rfl (Nat.le_of_ble_eq_true rfl) dX0_init_24 (fun H locs hP hD hS => ?_)
  replace hP : va_P (dC, dI) vwCl [(k, .inr (0, [.ref q1, .ref q2, .ref q3, .int 0, .int 0, .int 0, .null, .null, .null, .int 0, .null, .null])), (q1, .inl (cI, 5, .inl (fun _ => 0))), (q2, .inl (cI, 14, .inl (fun _ => 0))), (q3, .inl (cZ, 14, .inl (fun _ => 0)))] H := hP
  replace hD : va_D A [(k, .inr (0, [.ref q1, .ref q2, .ref q3, .int 0, .int 0, .int 0, .null, .null, .null, .int 0, .null, .null])), (q1, .inl (cI, 5, .inl (fun _ => 0))), (q2, .inl (cI, 14, .inl (fun _ => 0))), (q3, .inl (cZ, 14, .inl (fun _ => 0)))] := hD
  refine lv_aload_n hx hb dX0_init_27 rfl (lv_at hl 0 rfl) ?_
  refine lv_bipush (v := (-6)) hx hb dX0_init_28 (by decide) ?_
  refine va_put (D := (dC, dI)) (ci := 0) (v := .int (-6)) (ty := .int) (C := RX0) (T := TX0) (N := 12) hx hb hts hin0 tyX0 tyX0_ok nmX0 hown hK hP hD hS 0 rfl rfl 3 (by decide) hw8 (fun _ h9 => h9) rfl (by decide +kernel) rfl rfl (Nat.le_of_ble_eq_true rfl) dX0_init_30 (fun H locs hP hD hS => ?_)
  replace hP : va_P (dC, dI) vwCl [(k, .inr (0, [.ref q1, .ref q2, .ref q3, .int (-6), .int 0, .int 0, .null, .null, .null, .int 0, .null, .null])), (q1, .inl (cI, 5, .inl (fun _ => 0))), (q2, .inl (cI, 14, .inl (fun _ => 0))), (q3, .inl (cZ, 14, .inl (fun _ => 0)))] H := hP
  replace hD : va_D A [(k, .inr (0, [.ref q1, .ref q2, .ref q3, .int (-6), .int 0, .int 0, .null, .null, .null, .int 0, .null, .null])), (q1, .inl (cI, 5, .inl (fun _ => 0))), (q2, .inl (cI, 14, .inl (fun _ => 0))), (q3, .inl (cZ, 14, .inl (fun _ => 0)))] := hD
  refine lv_aload_n hx hb dX0_init_33 rfl (lv_at hl 0 rfl) ?_
  refine lv_bipush (v := 6) hx hb dX0_init_34 (by decide) ?_
  refine mx_newI (N' := 6) hx hb hw3 hK hP hD hS hA 0 rfl (by decide) (by decide) (by decide) (Nat.le_of_ble_eq_true rfl) (Nat.le_of_ble_eq_true rfl) dX0_init_36 (fun q4 H hP hD hS => ?_)
  replace hP : va_P (dC, dI) vwCl [(k, .inr (0, [.ref q1, .ref q2, .ref q3, .int (-6), .int 0, .int 0, .null, .null, .null, .int 0, .null, .null])), (q1, .inl (cI, 5, .inl (fun _ => 0))), (q2, .inl (cI, 14, .inl (fun _ => 0))), (q3, .inl (cZ, 14, .inl (fun _ => 0))), (q4, .inl (cI, 6, .inl (fun _ => 0)))] H := hP
  replace hD : va_D A [(k, .inr (0, [.ref q1, .ref q2, .ref q3, .int (-6), .int 0, .int 0, .null, .null, .null, .int 0, .null, .null])), (q1, .inl (cI, 5, .inl (fun _ => 0))), (q2, .inl (cI, 14, .inl (fun _ => 0))), (q3, .inl (cZ, 14, .inl (fun _ => 0))), (q4, .inl (cI, 6, .inl (fun _ => 0)))] := hD
  refine W.widen (k := 4) (n := 39) (Nat.le_of_ble_eq_true rfl) (Nat.le_of_ble_eq_true rfl) ?_
  refine va_putF (D := (dC, dI)) (ci := 0) (v := .ref q4) (ty := .array (.int)) (C := RX0) (T := TX0) (N := 12) hx hb hts hin0 tyX0 tyX0_ok nmX0 hown hK hP hD hS 0 rfl rfl 6 (by decide) hw9 (fun _ h9 => h9) rfl hin rfl (by decide +kernel) rfl rfl (Nat.le_of_ble_eq_true rfl) dX0_init_38 (fun H locs hP hD hS => ?_)
  replace hP : va_P (dC, dI) vwCl [(k, .inr (0, [.ref q1, .ref q2, .ref q3, .int (-6), .int 0, .int 0, .ref q4, .null, .null, .int 0, .null, .null])), (q1, .inl (cI, 5, .inl (fun _ => 0))), (q2, .inl (cI, 14, .inl (fun _ => 0))), (q3, .inl (cZ, 14, .inl (fun _ => 0))), (q4, .inl (cI, 6, .inl (fun _ => 0)))] H := hP
  replace hD : va_D A [(k, .inr (0, [.ref q1, .ref q2, .ref q3, .int (-6), .int 0, .int 0, .ref q4, .null, .null, .int 0, .null, .null])), (q1, .inl (cI, 5, .inl (fun _ => 0))), (q2, .inl (cI, 14, .inl (fun _ => 0))), (q3, .inl (cZ, 14, .inl (fun _ => 0))), (q4, .inl (cI, 6, .inl (fun _ => 0)))] := hD
  refine lv_aload_n hx hb dX0_init_41 rfl (lv_at hl 0 rfl) ?_
  refine lv_bipush (v := 6) hx hb dX0_init_42 (by decide) ?_
  refine mx_newI (N' := 6) hx hb hw3 hK hP hD hS hA 0 rfl (by decide) (by decide) (by decide) (Nat.le_of_ble_eq_true rfl) (Nat.le_of_ble_eq_true rfl) dX0_init_44 (fun q5 H hP hD hS => ?_)
  replace hP : va_P (dC, dI) vwCl [(k, .inr (0, [.ref q1, .ref q2, .ref q3, .int (-6), .int 0, .int 0, .ref q4, .null, .null, .int 0, .null, .null])), (q1, .inl (cI, 5, .inl (fun _ => 0))), (q2, .inl (cI, 14, .inl (fun _ => 0))), (q3, .inl (cZ, 14, .inl (fun _ => 0))), (q4, .inl (cI, 6, .inl (fun _ => 0))), (q5, .inl (cI, 6, .inl (fun _ => 0)))] H := hP
  replace hD : va_D A [(k, .inr (0, [.ref q1, .ref q2, .ref q3, .int (-6), .int 0, .int 0, .ref q4, .null, .null, .int 0, .null, .null])), (q1, .inl (cI, 5, .inl (fun _ => 0))), (q2, .inl (cI, 14, .inl (fun _ => 0))), (q3, .inl (cZ, 14, .inl (fun _ => 0))), (q4, .inl (cI, 6, .inl (fun _ => 0))), (q5, .inl (cI, 6, .inl (fun _ => 0)))] := hD
  refine W.widen (k := 5) (n := 45) (Nat.le_of_ble_eq_true rfl) (Nat.le_of_ble_eq_true rfl) ?_
  refine va_putF (D := (dC, dI)) (ci := 0) (v := .ref q5) (ty := .array (.int)) (C := RX0) (T := TX0) (N := 12) hx hb hts hin0 tyX0 tyX0_ok nmX0 hown hK hP hD hS 0 rfl rfl 7 (by decide) hw10 (fun _ h9 => h9) rfl hin rfl (by decide +kernel) rfl rfl (Nat.le_of_ble_eq_true rfl) dX0_init_46 (fun H locs hP hD hS => ?_)
  replace hP : va_P (dC, dI) vwCl [(k, .inr (0, [.ref q1, .ref q2, .ref q3, .int (-6), .int 0, .int 0, .ref q4, .ref q5, .null, .int 0, .null, .null])), (q1, .inl (cI, 5, .inl (fun _ => 0))), (q2, .inl (cI, 14, .inl (fun _ => 0))), (q3, .inl (cZ, 14, .inl (fun _ => 0))), (q4, .inl (cI, 6, .inl (fun _ => 0))), (q5, .inl (cI, 6, .inl (fun _ => 0)))] H := hP
  replace hD : va_D A [(k, .inr (0, [.ref q1, .ref q2, .ref q3, .int (-6), .int 0, .int 0, .ref q4, .ref q5, .null, .int 0, .null, .null])), (q1, .inl (cI, 5, .inl (fun _ => 0))), (q2, .inl (cI, 14, .inl (fun _ => 0))), (q3, .inl (cZ, 14, .inl (fun _ => 0))), (q4, .inl (cI, 6, .inl (fun _ => 0))), (q5, .inl (cI, 6, .inl (fun _ => 0)))] := hD
  refine lv_aload_n hx hb dX0_init_49 rfl (lv_at hl 0 rfl) ?_
  refine lv_bipush (v := 6) hx hb dX0_init_50 (by decide) ?_
  refine mx_newI (N' := 6) hx hb hw3 hK hP hD hS hA 0 rfl (by decide) (by decide) (by decide) (Nat.le_of_ble_eq_true rfl) (Nat.le_of_ble_eq_true rfl) dX0_init_52 (fun q6 H hP hD hS => ?_)
  replace hP : va_P (dC, dI) vwCl [(k, .inr (0, [.ref q1, .ref q2, .ref q3, .int (-6), .int 0, .int 0, .ref q4, .ref q5, .null, .int 0, .null, .null])), (q1, .inl (cI, 5, .inl (fun _ => 0))), (q2, .inl (cI, 14, .inl (fun _ => 0))), (q3, .inl (cZ, 14, .inl (fun _ => 0))), (q4, .inl (cI, 6, .inl (fun _ => 0))), (q5, .inl (cI, 6, .inl (fun _ => 0))), (q6, .inl (cI, 6, .inl (fun _ => 0)))] H := hP
  replace hD : va_D A [(k, .inr (0, [.ref q1, .ref q2, .ref q3, .int (-6), .int 0, .int 0, .ref q4, .ref q5, .null, .int 0, .null, .null])), (q1, .inl (cI, 5, .inl (fun _ => 0))), (q2, .inl (cI, 14, .inl (fun _ => 0))), (q3, .inl (cZ, 14, .inl (fun _ => 0))), (q4, .inl (cI, 6, .inl (fun _ => 0))), (q5, .inl (cI, 6, .inl (fun _ => 0))), (q6, .inl (cI, 6, .inl (fun _ => 0)))] := hD
  refine W.widen (k := 6) (n := 51) (Nat.le_of_ble_eq_true rfl) (Nat.le_of_ble_eq_true rfl) ?_
  refine va_putF (D := (dC, dI)) (ci := 0) (v := .ref q6) (ty := .array (.int)) (C := RX0) (T := TX0) (N := 12) hx hb hts hin0 tyX0 tyX0_ok nmX0 hown hK hP hD hS 0 rfl rfl 8 (by decide) hw11 (fun _ h9 => h9) rfl hin rfl (by decide +kernel) rfl rfl (Nat.le_of_ble_eq_true rfl) dX0_init_54 (fun H locs hP hD hS => ?_)
  replace hP : va_P (dC, dI) vwCl [(k, .inr (0, [.ref q1, .ref q2, .ref q3, .int (-6), .int 0, .int 0, .ref q4, .ref q5, .ref q6, .int 0, .null, .null])), (q1, .inl (cI, 5, .inl (fun _ => 0))), (q2, .inl (cI, 14, .inl (fun _ => 0))), (q3, .inl (cZ, 14, .inl (fun _ => 0))), (q4, .inl (cI, 6, .inl (fun _ => 0))), (q5, .inl (cI, 6, .inl (fun _ => 0))), (q6, .inl (cI, 6, .inl (fun _ => 0)))] H := hP
  replace hD : va_D A [(k, .inr (0, [.ref q1, .ref q2, .ref q3, .int (-6), .int 0, .int 0, .ref q4, .ref q5, .ref q6, .int 0, .null, .null])), (q1, .inl (cI, 5, .inl (fun _ => 0))), (q2, .inl (cI, 14, .inl (fun _ => 0))), (q3, .inl (cZ, 14, .inl (fun _ => 0))), (q4, .inl (cI, 6, .inl (fun _ => 0))), (q5, .inl (cI, 6, .inl (fun _ => 0))), (q6, .inl (cI, 6, .inl (fun _ => 0)))] := hD
  refine lv_aload_n hx hb dX0_init_57 rfl (lv_at hl 0 rfl) ?_
  refine lv_bipush (v := 8) hx hb dX0_init_58 (by decide) ?_
  refine mx_newI (N' := 8) hx hb hw3 hK hP hD hS hA 0 rfl (by decide) (by decide) (by decide) (Nat.le_of_ble_eq_true rfl) (Nat.le_of_ble_eq_true rfl) dX0_init_60 (fun q7 H hP hD hS => ?_)
  replace hP : va_P (dC, dI) vwCl [(k, .inr (0, [.ref q1, .ref q2, .ref q3, .int (-6), .int 0, .int 0, .ref q4, .ref q5, .ref q6, .int 0, .null, .null])), (q1, .inl (cI, 5, .inl (fun _ => 0))), (q2, .inl (cI, 14, .inl (fun _ => 0))), (q3, .inl (cZ, 14, .inl (fun _ => 0))), (q4, .inl (cI, 6, .inl (fun _ => 0))), (q5, .inl (cI, 6, .inl (fun _ => 0))), (q6, .inl (cI, 6, .inl (fun _ => 0))), (q7, .inl (cI, 8, .inl (fun _ => 0)))] H := hP
  replace hD : va_D A [(k, .inr (0, [.ref q1, .ref q2, .ref q3, .int (-6), .int 0, .int 0, .ref q4, .ref q5, .ref q6, .int 0, .null, .null])), (q1, .inl (cI, 5, .inl (fun _ => 0))), (q2, .inl (cI, 14, .inl (fun _ => 0))), (q3, .inl (cZ, 14, .inl (fun _ => 0))), (q4, .inl (cI, 6, .inl (fun _ => 0))), (q5, .inl (cI, 6, .inl (fun _ => 0))), (q6, .inl (cI, 6, .inl (fun _ => 0))), (q7, .inl (cI, 8, .inl (fun _ => 0)))] := hD
  refine W.widen (k := 7) (n := 59) (Nat.le_of_ble_eq_true rfl) (Nat.le_of_ble_eq_true rfl) ?_
  refine va_putF (D := (dC, dI)) (ci := 0) (v := .ref q7) (ty := .array (.int)) (C := RX0) (T := TX0) (N := 12) hx hb hts hin0 tyX0 tyX0_ok nmX0 hown hK hP hD hS 0 rfl rfl 10 (by decide) hw12 (fun _ h9 => h9) rfl hin rfl (by decide +kernel) rfl rfl (Nat.le_of_ble_eq_true rfl) dX0_init_62 (fun H locs hP hD hS => ?_)
  replace hP : va_P (dC, dI) vwCl [(k, .inr (0, [.ref q1, .ref q2, .ref q3, .int (-6), .int 0, .int 0, .ref q4, .ref q5, .ref q6, .int 0, .ref q7, .null])), (q1, .inl (cI, 5, .inl (fun _ => 0))), (q2, .inl (cI, 14, .inl (fun _ => 0))), (q3, .inl (cZ, 14, .inl (fun _ => 0))), (q4, .inl (cI, 6, .inl (fun _ => 0))), (q5, .inl (cI, 6, .inl (fun _ => 0))), (q6, .inl (cI, 6, .inl (fun _ => 0))), (q7, .inl (cI, 8, .inl (fun _ => 0)))] H := hP
  replace hD : va_D A [(k, .inr (0, [.ref q1, .ref q2, .ref q3, .int (-6), .int 0, .int 0, .ref q4, .ref q5, .ref q6, .int 0, .ref q7, .null])), (q1, .inl (cI, 5, .inl (fun _ => 0))), (q2, .inl (cI, 14, .inl (fun _ => 0))), (q3, .inl (cZ, 14, .inl (fun _ => 0))), (q4, .inl (cI, 6, .inl (fun _ => 0))), (q5, .inl (cI, 6, .inl (fun _ => 0))), (q6, .inl (cI, 6, .inl (fun _ => 0))), (q7, .inl (cI, 8, .inl (fun _ => 0)))] := hD
  refine lv_aload_n hx hb dX0_init_65 rfl (lv_at hl 0 rfl) ?_
  refine lv_bipush (v := 8) hx hb dX0_init_66 (by decide) ?_
  refine mx_newI (N' := 8) hx hb hw3 hK hP hD hS hA 0 rfl (by decide) (by decide) (by decide) (Nat.le_of_ble_eq_true rfl) (Nat.le_of_ble_eq_true rfl) dX0_init_68 (fun q8 H hP hD hS => ?_)
  replace hP : va_P (dC, dI) vwCl [(k, .inr (0, [.ref q1, .ref q2, .ref q3, .int (-6), .int 0, .int 0, .ref q4, .ref q5, .ref q6, .int 0, .ref q7, .null])), (q1, .inl (cI, 5, .inl (fun _ => 0))), (q2, .inl (cI, 14, .inl (fun _ => 0))), (q3, .inl (cZ, 14, .inl (fun _ => 0))), (q4, .inl (cI, 6, .inl (fun _ => 0))), (q5, .inl (cI, 6, .inl (fun _ => 0))), (q6, .inl (cI, 6, .inl (fun _ => 0))), (q7, .inl (cI, 8, .inl (fun _ => 0))), (q8, .inl (cI, 8, .inl (fun _ => 0)))] H := hP
  replace hD : va_D A [(k, .inr (0, [.ref q1, .ref q2, .ref q3, .int (-6), .int 0, .int 0, .ref q4, .ref q5, .ref q6, .int 0, .ref q7, .null])), (q1, .inl (cI, 5, .inl (fun _ => 0))), (q2, .inl (cI, 14, .inl (fun _ => 0))), (q3, .inl (cZ, 14, .inl (fun _ => 0))), (q4, .inl (cI, 6, .inl (fun _ => 0))), (q5, .inl (cI, 6, .inl (fun _ => 0))), (q6, .inl (cI, 6, .inl (fun _ => 0))), (q7, .inl (cI, 8, .inl (fun _ => 0))), (q8, .inl (cI, 8, .inl (fun _ => 0)))] := hD
  refine W.widen (k := 8) (n := 67) (Nat.le_of_ble_eq_true rfl) (Nat.le_of_ble_eq_true rfl) ?_
  refine va_putF (D := (dC, dI)) (ci := 0) (v := .ref q8) (ty := .array (.int)) (C := RX0) (T := TX0) (N := 12) hx hb hts hin0 tyX0 tyX0_ok nmX0 hown hK hP hD hS 0 rfl rfl 11 (by decide) hw13 (fun _ h9 => h9) rfl hin rfl (by decide +kernel) rfl rfl (Nat.le_of_ble_eq_true rfl) dX0_init_70 (fun H locs hP hD hS => ?_)
  replace hP : va_P (dC, dI) vwCl [(k, .inr (0, [.ref q1, .ref q2, .ref q3, .int (-6), .int 0, .int 0, .ref q4, .ref q5, .ref q6, .int 0, .ref q7, .ref q8])), (q1, .inl (cI, 5, .inl (fun _ => 0))), (q2, .inl (cI, 14, .inl (fun _ => 0))), (q3, .inl (cZ, 14, .inl (fun _ => 0))), (q4, .inl (cI, 6, .inl (fun _ => 0))), (q5, .inl (cI, 6, .inl (fun _ => 0))), (q6, .inl (cI, 6, .inl (fun _ => 0))), (q7, .inl (cI, 8, .inl (fun _ => 0))), (q8, .inl (cI, 8, .inl (fun _ => 0)))] H := hP
  replace hD : va_D A [(k, .inr (0, [.ref q1, .ref q2, .ref q3, .int (-6), .int 0, .int 0, .ref q4, .ref q5, .ref q6, .int 0, .ref q7, .ref q8])), (q1, .inl (cI, 5, .inl (fun _ => 0))), (q2, .inl (cI, 14, .inl (fun _ => 0))), (q3, .inl (cZ, 14, .inl (fun _ => 0))), (q4, .inl (cI, 6, .inl (fun _ => 0))), (q5, .inl (cI, 6, .inl (fun _ => 0))), (q6, .inl (cI, 6, .inl (fun _ => 0))), (q7, .inl (cI, 8, .inl (fun _ => 0))), (q8, .inl (cI, 8, .inl (fun _ => 0)))] := hD
  refine lv_aload_n hx hb dX0_init_73 rfl (lv_at hl 0 rfl) ?_
  refine va_get (D := (dC, dI)) (ci := 0) (v := .ref q1) (C := RX0) (T := TX0) (N := 12) hx hb hts hin0 hown hK hP 0 rfl rfl 0 (by decide) hw4 (fun _ h9 => h9) rfl dX0_init_74 ?_
  refine lv_iconst (v := 0) hx hb dX0_init_77 (by decide) ?_
  refine lv_sipush (v := 800) hx hb dX0_init_78 (by decide) ?_
  refine va_iast hx hb hK hP hD hS 1 0 rfl rfl (vin (by decide) (by decide)) dX0_init_81 (fun H locs hP hD hS => ?_)
  replace hP : va_P (dC, dI) vwCl [(k, .inr (0, [.ref q1, .ref q2, .ref q3, .int (-6), .int 0, .int 0, .ref q4, .ref q5, .ref q6, .int 0, .ref q7, .ref q8])), (q1, .inl (cI, 5, .inl (upd (fun _ => 0) 0 800))), (q2, .inl (cI, 14, .inl (fun _ => 0))), (q3, .inl (cZ, 14, .inl (fun _ => 0))), (q4, .inl (cI, 6, .inl (fun _ => 0))), (q5, .inl (cI, 6, .inl (fun _ => 0))), (q6, .inl (cI, 6, .inl (fun _ => 0))), (q7, .inl (cI, 8, .inl (fun _ => 0))), (q8, .inl (cI, 8, .inl (fun _ => 0)))] H := hP
  replace hD : va_D A [(k, .inr (0, [.ref q1, .ref q2, .ref q3, .int (-6), .int 0, .int 0, .ref q4, .ref q5, .ref q6, .int 0, .ref q7, .ref q8])), (q1, .inl (cI, 5, .inl (upd (fun _ => 0) 0 800))), (q2, .inl (cI, 14, .inl (fun _ => 0))), (q3, .inl (cZ, 14, .inl (fun _ => 0))), (q4, .inl (cI, 6, .inl (fun _ => 0))), (q5, .inl (cI, 6, .inl (fun _ => 0))), (q6, .inl (cI, 6, .inl (fun _ => 0))), (q7, .inl (cI, 8, .inl (fun _ => 0))), (q8, .inl (cI, 8, .inl (fun _ => 0)))] := hD
  refine W.widen (k := 8) (n := 67) (Nat.le_of_ble_eq_true rfl) (Nat.le_of_ble_eq_true rfl) ?_
  have hP9 := mx_subP (wc := [(k, .inr (0, [.ref q1, .ref q2, .ref q3, .int (-6), .int 0, .int 0, .ref q4, .ref q5, .ref q6, .int 0, .ref q7, .ref q8])), (q1, .inl (cI, 5, .inl (upd (fun _ => 0) 0 800))), (q2, .inl (cI, 14, .inl (fun _ => 0))), (q3, .inl (cZ, 14, .inl (fun _ => 0))), (q4, .inl (cI, 6, .inl (fun _ => 0))), (q5, .inl (cI, 6, .inl (fun _ => 0))), (q6, .inl (cI, 6, .inl (fun _ => 0))), (q7, .inl (cI, 8, .inl (fun _ => 0))), (q8, .inl (cI, 8, .inl (fun _ => 0)))]) hP [0, 1, 2, 3, 4, 5, 6, 7, 8] rfl
  have hD9 := hD.sub (ws' := [(k, .inr (0, [.ref q1, .ref q2, .ref q3, .int (-6), .int 0, .int 0, .ref q4, .ref q5, .ref q6, .int 0, .ref q7, .ref q8])), (q1, .inl (cI, 5, .inl (upd (fun _ => 0) 0 800))), (q2, .inl (cI, 14, .inl (fun _ => 0))), (q3, .inl (cZ, 14, .inl (fun _ => 0))), (q4, .inl (cI, 6, .inl (fun _ => 0))), (q5, .inl (cI, 6, .inl (fun _ => 0))), (q6, .inl (cI, 6, .inl (fun _ => 0))), (q7, .inl (cI, 8, .inl (fun _ => 0))), (q8, .inl (cI, 8, .inl (fun _ => 0)))]) [0, 1, 2, 3, 4, 5, 6, 7, 8] (by decide) rfl
  exact W.vret hx hb hr (fun t ht hW => ⟨⟨(fun u9 => [q1, q2, q3, q4, q5, q6, q7, q8].getD u9 0), rfl, trivial, by rw [ht]; exact hP9, hD9⟩, hS.F ht⟩) hS.2.2 dX0_init_82
set_option maxHeartbeats 4000000 in
set_option maxRecDepth 100000 in
theorem c_X4_init (l : Launch) (dC : Nat → ClassId) (dI : Nat → Nat → Nat) (cI cZ cK : ClassId) (tS : Nat) (aK aV : Nat → Nat) (d : Nat) (sz : Nat) : Cv l yX4_init (wq yX4_init cX4_init 1 none) ({ frames := 1, cells := 3, slots := 180, locals := 12 }) dC dI cI cZ cK tS aK aV [.ref d] sz [(d, .inr (4, [.null, .int 0, .null, .null, .int 0, .int 0]))] (fun (u : Nat → Nat) => True) (fun u => [(d, .inr (4, [.ref (u 0), .int 0, .ref (u 1), .ref (u 2), .int 0, .int 0])), ((u 0), .inl (cI, 60, .inl (fun _ => 0))), ((u 1), .inl (cI, 60, .inl (fun _ => 0))), ((u 2), .inl (cI, 60, .inl (fun _ => 0)))]) := by
  refine Met.ofW (cc := cX4_init) (maxL := 1) (ret := none) (by decide) rfl ?_
  intro p e s m args below meth c s₁ B hml hv
  obtain ⟨rfl, hsz, hP, hKx, hD0⟩ := hv
  have hx := B.exec
  have hb := B.bytes
  have hr := B.returns
  have hts := atoms_spec (ws := wq yX4_init cX4_init 1 none) B.pre
  have hown : s.vm.findClass RX4 = some m.cls := findClass_of_methodNamed B.named
  have hlocks := B.notSynchronized
  have hin : meth.name = "<init>" := (name_of_methodNamed B.named B.method).1
  subst hsz
  have hD := hD0.self (sz := s.heap.size)
  generalize hAe : va_A [(d, .inr (4, [.null, .int 0, .null, .null, .int 0, .int 0]))] s.heap.size = A at hD hKx ⊢
  have hA : ∀ q : Nat, s.heap.size ≤ q → A q := fun q h => by rw [← hAe]; exact Or.inr h
  have hS : va_S A s.heap s.heap [] := va_S.rf
  have hP : va_P (dC, dI) vwCl [(d, .inr (4, [.null, .int 0, .null, .null, .int 0, .int 0]))] s.heap := hP
  have hl := lv_entry ([.ref d]) (n := 1) (Nat.le_of_ble_eq_true rfl)
  rw [lg_entry_eq]
  generalize (lg_sl ([.ref d]) ++ List.replicate (1 - (lg_sl ([.ref d])).length) Slot.unset).toArray = ls at hl ⊢
  have hl : lv_has ls 1 [(0, .ref d)] := hl
  have hK := hKx.1
  have hin4 := fun w9 h9 => List.mem_cons_of_mem (Cond.code yX4_init cX4_init 1 none) (inlX4 w9 h9)
  have hw0 := hts (.methodLink RX4 3 objectInit) (List.mem_cons_of_mem _ wm_60)
  have hw1 := hts (.instanceMethod objectInit) (List.mem_cons_of_mem _ wm_10)
  have hw2 := hts (.code objectInit ⟨#[0xb1]⟩ 1 none) (List.mem_cons_of_mem _ wm_11)
  have hw3 := hts (.arrayClass .int) (List.mem_cons_of_mem _ wm_43)
  have hw4 := hts (.fieldLink RX4 9 "OneCan$Pad" "signs" "[I") (List.mem_cons_of_mem _ wm_61)
  have hw5 := hts (.fieldLink RX4 15 "OneCan$Pad" "kinds" "[I") (List.mem_cons_of_mem _ wm_62)
  have hw6 := hts (.fieldLink RX4 18 "OneCan$Pad" "ways" "[I") (List.mem_cons_of_mem _ wm_63)
  refine lv_aload_n hx hb dX4_init_0 rfl (lv_at hl 0 rfl) ?_
  refine W.objInit hx hb hown hw0 hw1 hw2 rfl (by rw [hml]; exact hl.1) rfl dX4_init_1 (Nat.le_of_ble_eq_true rfl) (Nat.le_of_ble_eq_true rfl) ?_
  refine W.eq (g2 := F0 m 4 ls []) rfl ?_
  refine lv_aload_n hx hb dX4_init_4 rfl (lv_at hl 0 rfl) ?_
  refine lv_bipush (v := 60) hx hb dX4_init_5 (by decide) ?_
  refine mx_newI (N' := 60) hx hb hw3 hK hP hD hS hA 0 rfl (by decide) (by decide) (by decide) (Nat.le_of_ble_eq_true rfl) (Nat.le_of_ble_eq_true rfl) dX4_init_7 (fun q1 H hP hD hS => ?_)
  replace hP : va_P (dC, dI) vwCl [(d, .inr (4, [.null, .int 0, .null, .null, .int 0, .int 0])), (q1, .inl (cI, 60, .inl (fun _ => 0)))] H := hP
  replace hD : va_D A [(d, .inr (4, [.null, .int 0, .null, .null, .int 0, .int 0])), (q1, .inl (cI, 60, .inl (fun _ => 0)))] := hD
  refine W.widen (k := 1) (n := 60) (Nat.le_of_ble_eq_true rfl) (Nat.le_of_ble_eq_true rfl) ?_
  refine va_putF (D := (dC, dI)) (ci := 4) (v := .ref q1) (ty := .array (.int)) (C := RX4) (T := TX4) (N := 6) hx hb hts hin4 tyX4 tyX4_ok nmX4 hown hK hP hD hS 0 rfl rfl 0 (by decide) hw4 (fun _ h9 => h9) rfl hin rfl (by decide +kernel) rfl rfl (Nat.le_of_ble_eq_true rfl) dX4_init_9 (fun H locs hP hD hS => ?_)
  replace hP : va_P (dC, dI) vwCl [(d, .inr (4, [.ref q1, .int 0, .null, .null, .int 0, .int 0])), (q1, .inl (cI, 60, .inl (fun _ => 0)))] H := hP
  replace hD : va_D A [(d, .inr (4, [.ref q1, .int 0, .null, .null, .int 0, .int 0])), (q1, .inl (cI, 60, .inl (fun _ => 0)))] := hD
  refine lv_aload_n hx hb dX4_init_12 rfl (lv_at hl 0 rfl) ?_
  refine lv_bipush (v := 60) hx hb dX4_init_13 (by decide) ?_
  refine mx_newI (N' := 60) hx hb hw3 hK hP hD hS hA 0 rfl (by decide) (by decide) (by decide) (Nat.le_of_ble_eq_true rfl) (Nat.le_of_ble_eq_true rfl) dX4_init_15 (fun q2 H hP hD hS => ?_)
  replace hP : va_P (dC, dI) vwCl [(d, .inr (4, [.ref q1, .int 0, .null, .null, .int 0, .int 0])), (q1, .inl (cI, 60, .inl (fun _ => 0))), (q2, .inl (cI, 60, .inl (fun _ => 0)))] H := hP
  replace hD : va_D A [(d, .inr (4, [.ref q1, .int 0, .null, .null, .int 0, .int 0])), (q1, .inl (cI, 60, .inl (fun _ => 0))), (q2, .inl (cI, 60, .inl (fun _ => 0)))] := hD
  refine W.widen (k := 2) (n := 120) (Nat.le_of_ble_eq_true rfl) (Nat.le_of_ble_eq_true rfl) ?_
  refine va_putF (D := (dC, dI)) (ci := 4) (v := .ref q2) (ty := .array (.int)) (C := RX4) (T := TX4) (N := 6) hx hb hts hin4 tyX4 tyX4_ok nmX4 hown hK hP hD hS 0 rfl rfl 2 (by decide) hw5 (fun _ h9 => h9) rfl hin rfl (by decide +kernel) rfl rfl (Nat.le_of_ble_eq_true rfl) dX4_init_17 (fun H locs hP hD hS => ?_)
  replace hP : va_P (dC, dI) vwCl [(d, .inr (4, [.ref q1, .int 0, .ref q2, .null, .int 0, .int 0])), (q1, .inl (cI, 60, .inl (fun _ => 0))), (q2, .inl (cI, 60, .inl (fun _ => 0)))] H := hP
  replace hD : va_D A [(d, .inr (4, [.ref q1, .int 0, .ref q2, .null, .int 0, .int 0])), (q1, .inl (cI, 60, .inl (fun _ => 0))), (q2, .inl (cI, 60, .inl (fun _ => 0)))] := hD
  refine lv_aload_n hx hb dX4_init_20 rfl (lv_at hl 0 rfl) ?_
  refine lv_bipush (v := 60) hx hb dX4_init_21 (by decide) ?_
  refine mx_newI (N' := 60) hx hb hw3 hK hP hD hS hA 0 rfl (by decide) (by decide) (by decide) (Nat.le_of_ble_eq_true rfl) (Nat.le_of_ble_eq_true rfl) dX4_init_23 (fun q3 H hP hD hS => ?_)
  replace hP : va_P (dC, dI) vwCl [(d, .inr (4, [.ref q1, .int 0, .ref q2, .null, .int 0, .int 0])), (q1, .inl (cI, 60, .inl (fun _ => 0))), (q2, .inl (cI, 60, .inl (fun _ => 0))), (q3, .inl (cI, 60, .inl (fun _ => 0)))] H := hP
  replace hD : va_D A [(d, .inr (4, [.ref q1, .int 0, .ref q2, .null, .int 0, .int 0])), (q1, .inl (cI, 60, .inl (fun _ => 0))), (q2, .inl (cI, 60, .inl (fun _ => 0))), (q3, .inl (cI, 60, .inl (fun _ => 0)))] := hD
  refine W.widen (k := 3) (n := 180) (Nat.le_of_ble_eq_true rfl) (Nat.le_of_ble_eq_true rfl) ?_
  refine va_putF (D := (dC, dI)) (ci := 4) (v := .ref q3) (ty := .array (.int)) (C := RX4) (T := TX4) (N := 6) hx hb hts hin4 tyX4 tyX4_ok nmX4 hown hK hP hD hS 0 rfl rfl 3 (by decide) hw6 (fun _ h9 => h9) rfl hin rfl (by decide +kernel) rfl rfl (Nat.le_of_ble_eq_true rfl) dX4_init_25 (fun H locs hP hD hS => ?_)
  replace hP : va_P (dC, dI) vwCl [(d, .inr (4, [.ref q1, .int 0, .ref q2, .ref q3, .int 0, .int 0])), (q1, .inl (cI, 60, .inl (fun _ => 0))), (q2, .inl (cI, 60, .inl (fun _ => 0))), (q3, .inl (cI, 60, .inl (fun _ => 0)))] H := hP
  replace hD : va_D A [(d, .inr (4, [.ref q1, .int 0, .ref q2, .ref q3, .int 0, .int 0])), (q1, .inl (cI, 60, .inl (fun _ => 0))), (q2, .inl (cI, 60, .inl (fun _ => 0))), (q3, .inl (cI, 60, .inl (fun _ => 0)))] := hD
  refine W.widen (k := 3) (n := 180) (Nat.le_of_ble_eq_true rfl) (Nat.le_of_ble_eq_true rfl) ?_
  have hP9 := mx_subP (wc := [(d, .inr (4, [.ref q1, .int 0, .ref q2, .ref q3, .int 0, .int 0])), (q1, .inl (cI, 60, .inl (fun _ => 0))), (q2, .inl (cI, 60, .inl (fun _ => 0))), (q3, .inl (cI, 60, .inl (fun _ => 0)))]) hP [0, 1, 2, 3] rfl
  have hD9 := hD.sub (ws' := [(d, .inr (4, [.ref q1, .int 0, .ref q2, .ref q3, .int 0, .int 0])), (q1, .inl (cI, 60, .inl (fun _ => 0))), (q2, .inl (cI, 60, .inl (fun _ => 0))), (q3, .inl (cI, 60, .inl (fun _ => 0)))]) [0, 1, 2, 3] (by decide) rfl
  exact W.vret hx hb hr (fun t ht hW => ⟨⟨(fun u9 => [q1, q2, q3].getD u9 0), rfl, trivial, by rw [ht]; exact hP9, hD9⟩, hS.F ht⟩) hS.2.2 dX4_init_28
set_option maxHeartbeats 4000000 in
set_option maxRecDepth 100000 in
theorem c_X1_init (l : Launch) (dC : Nat → ClassId) (dI : Nat → Nat → Nat) (cI cZ cK : ClassId) (tS : Nat) (aK aV : Nat → Nat) (j : Nat) (k : Nat) (d : Nat) (sz : Nat) : Cv l yX1_init (wq yX1_init cX1_init 3 none) ({ frames := 1, cells := 4, slots := 241, locals := 12 }) dC dI cI cZ cK tS aK aV [.ref j, .ref k, .ref d] sz [(j, .inr (1, [.null, .null, .null, .null, .null, .null, .int 0, .int 0, .int 0, .int 0, .int 0, .int 0, .int 0, .int 0]))] (fun (u : Nat → Nat) => True) (fun u => [(j, .inr (1, [.ref k, .ref d, .ref (u 0), .ref (u 1), .ref (u 2), .ref (u 3), .int 0, .int 0, .int 0, .int 0, .int 0, .int 0, .int 0, .int 0])), ((u 0), .inl (cI, 60, .inl (fun _ => 0))), ((u 1), .inl (cI, 60, .inl (fun _ => 0))), ((u 2), .inl (cI, 60, .inl (fun _ => 0))), ((u 3), .inl (cI, 61, .inl (fun _ => 0)))]) := by
  refine Met.ofW (cc := cX1_init) (maxL := 3) (ret := none) (by decide) rfl ?_
  intro p e s m args below meth c s₁ B hml hv
  obtain ⟨rfl, hsz, hP, hKx, hD0⟩ := hv
  have hx := B.exec
  have hb := B.bytes
  have hr := B.returns
  have hts := atoms_spec (ws := wq yX1_init cX1_init 3 none) B.pre
  have hown : s.vm.findClass RX1 = some m.cls := findClass_of_methodNamed B.named
  have hlocks := B.notSynchronized
  have hin : meth.name = "<init>" := (name_of_methodNamed B.named B.method).1
  subst hsz
  have hD := hD0.self (sz := s.heap.size)
  generalize hAe : va_A [(j, .inr (1, [.null, .null, .null, .null, .null, .null, .int 0, .int 0, .int 0, .int 0, .int 0, .int 0, .int 0, .int 0]))] s.heap.size = A at hD hKx ⊢
  have hA : ∀ q : Nat, s.heap.size ≤ q → A q := fun q h => by rw [← hAe]; exact Or.inr h
  have hS : va_S A s.heap s.heap [] := va_S.rf
  have hP : va_P (dC, dI) vwCl [(j, .inr (1, [.null, .null, .null, .null, .null, .null, .int 0, .int 0, .int 0, .int 0, .int 0, .int 0, .int 0, .int 0]))] s.heap := hP
  have hl := lv_entry ([.ref j, .ref k, .ref d]) (n := 3) (Nat.le_of_ble_eq_true rfl)
  rw [lg_entry_eq]
  generalize (lg_sl ([.ref j, .ref k, .ref d]) ++ List.replicate (3 - (lg_sl ([.ref j, .ref k, .ref d])).length) Slot.unset).toArray = ls at hl ⊢
  have hl : lv_has ls 3 [(0, .ref j), (1, .ref k), (2, .ref d)] := hl
  have hK := hKx.1
  have hin1 := fun w9 h9 => List.mem_cons_of_mem (Cond.code yX1_init cX1_init 3 none) (inlX1 w9 h9)
  have hw0 := hts (.methodLink RX1 3 objectInit) (List.mem_cons_of_mem _ wm_67)
  have hw1 := hts (.instanceMethod objectInit) (List.mem_cons_of_mem _ wm_10)
  have hw2 := hts (.code objectInit ⟨#[0xb1]⟩ 1 none) (List.mem_cons_of_mem _ wm_11)
  have hw3 := hts (.arrayClass .int) (List.mem_cons_of_mem _ wm_43)
  have hw4 := hts (.fieldLink RX1 9 "OneCan$Course" "days" "[I") (List.mem_cons_of_mem _ wm_68)
  have hw5 := hts (.fieldLink RX1 15 "OneCan$Course" "burns" "[I") (List.mem_cons_of_mem _ wm_69)
  have hw6 := hts (.fieldLink RX1 18 "OneCan$Course" "byWind" "[I") (List.mem_cons_of_mem _ wm_70)
  have hw7 := hts (.fieldLink RX1 21 "OneCan$Course" "lefts" "[I") (List.mem_cons_of_mem _ wm_71)
  have hw8 := hts (.fieldLink RX1 24 "OneCan$Course" "camp" "LOneCan$Camp;") (List.mem_cons_of_mem _ wm_72)
  have hw9 := hts (.fieldLink RX1 28 "OneCan$Course" "pad" "LOneCan$Pad;") (List.mem_cons_of_mem _ wm_73)
  refine lv_aload_n hx hb dX1_init_0 rfl (lv_at hl 0 rfl) ?_
  refine W.objInit hx hb hown hw0 hw1 hw2 rfl (by rw [hml]; exact hl.1) rfl dX1_init_1 (Nat.le_of_ble_eq_true rfl) (Nat.le_of_ble_eq_true rfl) ?_
  refine W.eq (g2 := F0 m 4 ls []) rfl ?_
  refine lv_aload_n hx hb dX1_init_4 rfl (lv_at hl 0 rfl) ?_
  refine lv_bipush (v := 60) hx hb dX1_init_5 (by decide) ?_
  refine mx_newI (N' := 60) hx hb hw3 hK hP hD hS hA 0 rfl (by decide) (by decide) (by decide) (Nat.le_of_ble_eq_true rfl) (Nat.le_of_ble_eq_true rfl) dX1_init_7 (fun q1 H hP hD hS => ?_)
  replace hP : va_P (dC, dI) vwCl [(j, .inr (1, [.null, .null, .null, .null, .null, .null, .int 0, .int 0, .int 0, .int 0, .int 0, .int 0, .int 0, .int 0])), (q1, .inl (cI, 60, .inl (fun _ => 0)))] H := hP
  replace hD : va_D A [(j, .inr (1, [.null, .null, .null, .null, .null, .null, .int 0, .int 0, .int 0, .int 0, .int 0, .int 0, .int 0, .int 0])), (q1, .inl (cI, 60, .inl (fun _ => 0)))] := hD
  refine W.widen (k := 1) (n := 60) (Nat.le_of_ble_eq_true rfl) (Nat.le_of_ble_eq_true rfl) ?_
  refine va_putF (D := (dC, dI)) (ci := 1) (v := .ref q1) (ty := .array (.int)) (C := RX1) (T := TX1) (N := 14) hx hb hts hin1 tyX1 tyX1_ok nmX1 hown hK hP hD hS 0 rfl rfl 2 (by decide) hw4 (fun _ h9 => h9) rfl hin rfl (by decide +kernel) rfl rfl (Nat.le_of_ble_eq_true rfl) dX1_init_9 (fun H locs hP hD hS => ?_)
  replace hP : va_P (dC, dI) vwCl [(j, .inr (1, [.null, .null, .ref q1, .null, .null, .null, .int 0, .int 0, .int 0, .int 0, .int 0, .int 0, .int 0, .int 0])), (q1, .inl (cI, 60, .inl (fun _ => 0)))] H := hP
  replace hD : va_D A [(j, .inr (1, [.null, .null, .ref q1, .null, .null, .null, .int 0, .int 0, .int 0, .int 0, .int 0, .int 0, .int 0, .int 0])), (q1, .inl (cI, 60, .inl (fun _ => 0)))] := hD
  refine lv_aload_n hx hb dX1_init_12 rfl (lv_at hl 0 rfl) ?_
  refine lv_bipush (v := 60) hx hb dX1_init_13 (by decide) ?_
  refine mx_newI (N' := 60) hx hb hw3 hK hP hD hS hA 0 rfl (by decide) (by decide) (by decide) (Nat.le_of_ble_eq_true rfl) (Nat.le_of_ble_eq_true rfl) dX1_init_15 (fun q2 H hP hD hS => ?_)
  replace hP : va_P (dC, dI) vwCl [(j, .inr (1, [.null, .null, .ref q1, .null, .null, .null, .int 0, .int 0, .int 0, .int 0, .int 0, .int 0, .int 0, .int 0])), (q1, .inl (cI, 60, .inl (fun _ => 0))), (q2, .inl (cI, 60, .inl (fun _ => 0)))] H := hP
  replace hD : va_D A [(j, .inr (1, [.null, .null, .ref q1, .null, .null, .null, .int 0, .int 0, .int 0, .int 0, .int 0, .int 0, .int 0, .int 0])), (q1, .inl (cI, 60, .inl (fun _ => 0))), (q2, .inl (cI, 60, .inl (fun _ => 0)))] := hD
  refine W.widen (k := 2) (n := 120) (Nat.le_of_ble_eq_true rfl) (Nat.le_of_ble_eq_true rfl) ?_
  refine va_putF (D := (dC, dI)) (ci := 1) (v := .ref q2) (ty := .array (.int)) (C := RX1) (T := TX1) (N := 14) hx hb hts hin1 tyX1 tyX1_ok nmX1 hown hK hP hD hS 0 rfl rfl 3 (by decide) hw5 (fun _ h9 => h9) rfl hin rfl (by decide +kernel) rfl rfl (Nat.le_of_ble_eq_true rfl) dX1_init_17 (fun H locs hP hD hS => ?_)
  replace hP : va_P (dC, dI) vwCl [(j, .inr (1, [.null, .null, .ref q1, .ref q2, .null, .null, .int 0, .int 0, .int 0, .int 0, .int 0, .int 0, .int 0, .int 0])), (q1, .inl (cI, 60, .inl (fun _ => 0))), (q2, .inl (cI, 60, .inl (fun _ => 0)))] H := hP
  replace hD : va_D A [(j, .inr (1, [.null, .null, .ref q1, .ref q2, .null, .null, .int 0, .int 0, .int 0, .int 0, .int 0, .int 0, .int 0, .int 0])), (q1, .inl (cI, 60, .inl (fun _ => 0))), (q2, .inl (cI, 60, .inl (fun _ => 0)))] := hD
  refine lv_aload_n hx hb dX1_init_20 rfl (lv_at hl 0 rfl) ?_
  refine lv_bipush (v := 60) hx hb dX1_init_21 (by decide) ?_
  refine mx_newI (N' := 60) hx hb hw3 hK hP hD hS hA 0 rfl (by decide) (by decide) (by decide) (Nat.le_of_ble_eq_true rfl) (Nat.le_of_ble_eq_true rfl) dX1_init_23 (fun q3 H hP hD hS => ?_)
  replace hP : va_P (dC, dI) vwCl [(j, .inr (1, [.null, .null, .ref q1, .ref q2, .null, .null, .int 0, .int 0, .int 0, .int 0, .int 0, .int 0, .int 0, .int 0])), (q1, .inl (cI, 60, .inl (fun _ => 0))), (q2, .inl (cI, 60, .inl (fun _ => 0))), (q3, .inl (cI, 60, .inl (fun _ => 0)))] H := hP
  replace hD : va_D A [(j, .inr (1, [.null, .null, .ref q1, .ref q2, .null, .null, .int 0, .int 0, .int 0, .int 0, .int 0, .int 0, .int 0, .int 0])), (q1, .inl (cI, 60, .inl (fun _ => 0))), (q2, .inl (cI, 60, .inl (fun _ => 0))), (q3, .inl (cI, 60, .inl (fun _ => 0)))] := hD
  refine W.widen (k := 3) (n := 180) (Nat.le_of_ble_eq_true rfl) (Nat.le_of_ble_eq_true rfl) ?_
  refine va_putF (D := (dC, dI)) (ci := 1) (v := .ref q3) (ty := .array (.int)) (C := RX1) (T := TX1) (N := 14) hx hb hts hin1 tyX1 tyX1_ok nmX1 hown hK hP hD hS 0 rfl rfl 4 (by decide) hw6 (fun _ h9 => h9) rfl hin rfl (by decide +kernel) rfl rfl (Nat.le_of_ble_eq_true rfl) dX1_init_25 (fun H locs hP hD hS => ?_)
  replace hP : va_P (dC, dI) vwCl [(j, .inr (1, [.null, .null, .ref q1, .ref q2, .ref q3, .null, .int 0, .int 0, .int 0, .int 0, .int 0, .int 0, .int 0, .int 0])), (q1, .inl (cI, 60, .inl (fun _ => 0))), (q2, .inl (cI, 60, .inl (fun _ => 0))), (q3, .inl (cI, 60, .inl (fun _ => 0)))] H := hP
  replace hD : va_D A [(j, .inr (1, [.null, .null, .ref q1, .ref q2, .ref q3, .null, .int 0, .int 0, .int 0, .int 0, .int 0, .int 0, .int 0, .int 0])), (q1, .inl (cI, 60, .inl (fun _ => 0))), (q2, .inl (cI, 60, .inl (fun _ => 0))), (q3, .inl (cI, 60, .inl (fun _ => 0)))] := hD
  refine lv_aload_n hx hb dX1_init_28 rfl (lv_at hl 0 rfl) ?_
  refine lv_bipush (v := 61) hx hb dX1_init_29 (by decide) ?_
  refine mx_newI (N' := 61) hx hb hw3 hK hP hD hS hA 0 rfl (by decide) (by decide) (by decide) (Nat.le_of_ble_eq_true rfl) (Nat.le_of_ble_eq_true rfl) dX1_init_31 (fun q4 H hP hD hS => ?_)
  replace hP : va_P (dC, dI) vwCl [(j, .inr (1, [.null, .null, .ref q1, .ref q2, .ref q3, .null, .int 0, .int 0, .int 0, .int 0, .int 0, .int 0, .int 0, .int 0])), (q1, .inl (cI, 60, .inl (fun _ => 0))), (q2, .inl (cI, 60, .inl (fun _ => 0))), (q3, .inl (cI, 60, .inl (fun _ => 0))), (q4, .inl (cI, 61, .inl (fun _ => 0)))] H := hP
  replace hD : va_D A [(j, .inr (1, [.null, .null, .ref q1, .ref q2, .ref q3, .null, .int 0, .int 0, .int 0, .int 0, .int 0, .int 0, .int 0, .int 0])), (q1, .inl (cI, 60, .inl (fun _ => 0))), (q2, .inl (cI, 60, .inl (fun _ => 0))), (q3, .inl (cI, 60, .inl (fun _ => 0))), (q4, .inl (cI, 61, .inl (fun _ => 0)))] := hD
  refine W.widen (k := 4) (n := 241) (Nat.le_of_ble_eq_true rfl) (Nat.le_of_ble_eq_true rfl) ?_
  refine va_putF (D := (dC, dI)) (ci := 1) (v := .ref q4) (ty := .array (.int)) (C := RX1) (T := TX1) (N := 14) hx hb hts hin1 tyX1 tyX1_ok nmX1 hown hK hP hD hS 0 rfl rfl 5 (by decide) hw7 (fun _ h9 => h9) rfl hin rfl (by decide +kernel) rfl rfl (Nat.le_of_ble_eq_true rfl) dX1_init_33 (fun H locs hP hD hS => ?_)
  replace hP : va_P (dC, dI) vwCl [(j, .inr (1, [.null, .null, .ref q1, .ref q2, .ref q3, .ref q4, .int 0, .int 0, .int 0, .int 0, .int 0, .int 0, .int 0, .int 0])), (q1, .inl (cI, 60, .inl (fun _ => 0))), (q2, .inl (cI, 60, .inl (fun _ => 0))), (q3, .inl (cI, 60, .inl (fun _ => 0))), (q4, .inl (cI, 61, .inl (fun _ => 0)))] H := hP
  replace hD : va_D A [(j, .inr (1, [.null, .null, .ref q1, .ref q2, .ref q3, .ref q4, .int 0, .int 0, .int 0, .int 0, .int 0, .int 0, .int 0, .int 0])), (q1, .inl (cI, 60, .inl (fun _ => 0))), (q2, .inl (cI, 60, .inl (fun _ => 0))), (q3, .inl (cI, 60, .inl (fun _ => 0))), (q4, .inl (cI, 61, .inl (fun _ => 0)))] := hD
  refine lv_aload_n hx hb dX1_init_36 rfl (lv_at hl 0 rfl) ?_
  refine lv_aload_n hx hb dX1_init_37 rfl (lv_at hl 1 rfl) ?_
  refine va_putF (D := (dC, dI)) (ci := 1) (v := .ref k) (ty := .object "OneCan$Camp") (C := RX1) (T := TX1) (N := 14) hx hb hts hin1 tyX1 tyX1_ok nmX1 hown hK hP hD hS 0 rfl rfl 0 (by decide) hw8 (fun _ h9 => h9) rfl hin rfl (by decide +kernel) rfl rfl (Nat.le_of_ble_eq_true rfl) dX1_init_38 (fun H locs hP hD hS => ?_)
  replace hP : va_P (dC, dI) vwCl [(j, .inr (1, [.ref k, .null, .ref q1, .ref q2, .ref q3, .ref q4, .int 0, .int 0, .int 0, .int 0, .int 0, .int 0, .int 0, .int 0])), (q1, .inl (cI, 60, .inl (fun _ => 0))), (q2, .inl (cI, 60, .inl (fun _ => 0))), (q3, .inl (cI, 60, .inl (fun _ => 0))), (q4, .inl (cI, 61, .inl (fun _ => 0)))] H := hP
  replace hD : va_D A [(j, .inr (1, [.ref k, .null, .ref q1, .ref q2, .ref q3, .ref q4, .int 0, .int 0, .int 0, .int 0, .int 0, .int 0, .int 0, .int 0])), (q1, .inl (cI, 60, .inl (fun _ => 0))), (q2, .inl (cI, 60, .inl (fun _ => 0))), (q3, .inl (cI, 60, .inl (fun _ => 0))), (q4, .inl (cI, 61, .inl (fun _ => 0)))] := hD
  refine lv_aload_n hx hb dX1_init_41 rfl (lv_at hl 0 rfl) ?_
  refine lv_aload_n hx hb dX1_init_42 rfl (lv_at hl 2 rfl) ?_
  refine va_putF (D := (dC, dI)) (ci := 1) (v := .ref d) (ty := .object "OneCan$Pad") (C := RX1) (T := TX1) (N := 14) hx hb hts hin1 tyX1 tyX1_ok nmX1 hown hK hP hD hS 0 rfl rfl 1 (by decide) hw9 (fun _ h9 => h9) rfl hin rfl (by decide +kernel) rfl rfl (Nat.le_of_ble_eq_true rfl) dX1_init_43 (fun H locs hP hD hS => ?_)
  replace hP : va_P (dC, dI) vwCl [(j, .inr (1, [.ref k, .ref d, .ref q1, .ref q2, .ref q3, .ref q4, .int 0, .int 0, .int 0, .int 0, .int 0, .int 0, .int 0, .int 0])), (q1, .inl (cI, 60, .inl (fun _ => 0))), (q2, .inl (cI, 60, .inl (fun _ => 0))), (q3, .inl (cI, 60, .inl (fun _ => 0))), (q4, .inl (cI, 61, .inl (fun _ => 0)))] H := hP
  replace hD : va_D A [(j, .inr (1, [.ref k, .ref d, .ref q1, .ref q2, .ref q3, .ref q4, .int 0, .int 0, .int 0, .int 0, .int 0, .int 0, .int 0, .int 0])), (q1, .inl (cI, 60, .inl (fun _ => 0))), (q2, .inl (cI, 60, .inl (fun _ => 0))), (q3, .inl (cI, 60, .inl (fun _ => 0))), (q4, .inl (cI, 61, .inl (fun _ => 0)))] := hD
  refine W.widen (k := 4) (n := 241) (Nat.le_of_ble_eq_true rfl) (Nat.le_of_ble_eq_true rfl) ?_
  have hP9 := mx_subP (wc := [(j, .inr (1, [.ref k, .ref d, .ref q1, .ref q2, .ref q3, .ref q4, .int 0, .int 0, .int 0, .int 0, .int 0, .int 0, .int 0, .int 0])), (q1, .inl (cI, 60, .inl (fun _ => 0))), (q2, .inl (cI, 60, .inl (fun _ => 0))), (q3, .inl (cI, 60, .inl (fun _ => 0))), (q4, .inl (cI, 61, .inl (fun _ => 0)))]) hP [0, 1, 2, 3, 4] rfl
  have hD9 := hD.sub (ws' := [(j, .inr (1, [.ref k, .ref d, .ref q1, .ref q2, .ref q3, .ref q4, .int 0, .int 0, .int 0, .int 0, .int 0, .int 0, .int 0, .int 0])), (q1, .inl (cI, 60, .inl (fun _ => 0))), (q2, .inl (cI, 60, .inl (fun _ => 0))), (q3, .inl (cI, 60, .inl (fun _ => 0))), (q4, .inl (cI, 61, .inl (fun _ => 0)))]) [0, 1, 2, 3, 4] (by decide) rfl
  exact W.vret hx hb hr (fun t ht hW => ⟨⟨(fun u9 => [q1, q2, q3, q4].getD u9 0), rfl, trivial, by rw [ht]; exact hP9, hD9⟩, hS.F ht⟩) hS.2.2 dX1_init_46
set_option maxHeartbeats 4000000 in
set_option maxRecDepth 100000 in
theorem c_X3_init (l : Launch) (dC : Nat → ClassId) (dI : Nat → Nat → Nat) (cI cZ cK : ClassId) (tS : Nat) (aK aV : Nat → Nat) (o : Nat) (k : Nat) (sz : Nat) : Cv l yX3_init (wq yX3_init cX3_init 2 none) ({ frames := 1, cells := 4, slots := 23, locals := 12 }) dC dI cI cZ cK tS aK aV [.ref o, .ref k] sz [(o, .inr (3, [.null, .null, .int 0, .null, .null, .null]))] (fun (u : Nat → Nat) => True) (fun u => [(o, .inr (3, [.ref k, .ref (u 0), .int 0, .ref (u 1), .ref (u 2), .ref (u 3)])), ((u 0), .inl (cI, 6, .inl (fun _ => 0))), ((u 1), .inl (cI, 6, .inl (fun _ => 0))), ((u 2), .inl (cI, 6, .inl (fun _ => 0))), ((u 3), .inl (cI, 5, .inl (fun _ => 0)))]) := by
  refine Met.ofW (cc := cX3_init) (maxL := 2) (ret := none) (by decide) rfl ?_
  intro p e s m args below meth c s₁ B hml hv
  obtain ⟨rfl, hsz, hP, hKx, hD0⟩ := hv
  have hx := B.exec
  have hb := B.bytes
  have hr := B.returns
  have hts := atoms_spec (ws := wq yX3_init cX3_init 2 none) B.pre
  have hown : s.vm.findClass RX3 = some m.cls := findClass_of_methodNamed B.named
  have hlocks := B.notSynchronized
  have hin : meth.name = "<init>" := (name_of_methodNamed B.named B.method).1
  subst hsz
  have hD := hD0.self (sz := s.heap.size)
  generalize hAe : va_A [(o, .inr (3, [.null, .null, .int 0, .null, .null, .null]))] s.heap.size = A at hD hKx ⊢
  have hA : ∀ q : Nat, s.heap.size ≤ q → A q := fun q h => by rw [← hAe]; exact Or.inr h
  have hS : va_S A s.heap s.heap [] := va_S.rf
  have hP : va_P (dC, dI) vwCl [(o, .inr (3, [.null, .null, .int 0, .null, .null, .null]))] s.heap := hP
  have hl := lv_entry ([.ref o, .ref k]) (n := 2) (Nat.le_of_ble_eq_true rfl)
  rw [lg_entry_eq]
  generalize (lg_sl ([.ref o, .ref k]) ++ List.replicate (2 - (lg_sl ([.ref o, .ref k])).length) Slot.unset).toArray = ls at hl ⊢
  have hl : lv_has ls 2 [(0, .ref o), (1, .ref k)] := hl
  have hK := hKx.1
  have hin3 := fun w9 h9 => List.mem_cons_of_mem (Cond.code yX3_init cX3_init 2 none) (inlX3 w9 h9)
  have hw0 := hts (.methodLink RX3 3 objectInit) (List.mem_cons_of_mem _ wm_77)
  have hw1 := hts (.instanceMethod objectInit) (List.mem_cons_of_mem _ wm_10)
  have hw2 := hts (.code objectInit ⟨#[0xb1]⟩ 1 none) (List.mem_cons_of_mem _ wm_11)
  have hw3 := hts (.arrayClass .int) (List.mem_cons_of_mem _ wm_43)
  have hw4 := hts (.fieldLink RX3 9 "OneCan$Order" "portions" "[I") (List.mem_cons_of_mem _ wm_78)
  have hw5 := hts (.fieldLink RX3 15 "OneCan$Order" "prices" "[I") (List.mem_cons_of_mem _ wm_79)
  have hw6 := hts (.fieldLink RX3 18 "OneCan$Order" "values" "[I") (List.mem_cons_of_mem _ wm_80)
  have hw7 := hts (.fieldLink RX3 21 "OneCan$Order" "slots" "[I") (List.mem_cons_of_mem _ wm_81)
  have hw8 := hts (.fieldLink RX3 24 "OneCan$Order" "camp" "LOneCan$Camp;") (List.mem_cons_of_mem _ wm_82)
  refine lv_aload_n hx hb dX3_init_0 rfl (lv_at hl 0 rfl) ?_
  refine W.objInit hx hb hown hw0 hw1 hw2 rfl (by rw [hml]; exact hl.1) rfl dX3_init_1 (Nat.le_of_ble_eq_true rfl) (Nat.le_of_ble_eq_true rfl) ?_
  refine W.eq (g2 := F0 m 4 ls []) rfl ?_
  refine lv_aload_n hx hb dX3_init_4 rfl (lv_at hl 0 rfl) ?_
  refine lv_bipush (v := 6) hx hb dX3_init_5 (by decide) ?_
  refine mx_newI (N' := 6) hx hb hw3 hK hP hD hS hA 0 rfl (by decide) (by decide) (by decide) (Nat.le_of_ble_eq_true rfl) (Nat.le_of_ble_eq_true rfl) dX3_init_7 (fun q1 H hP hD hS => ?_)
  replace hP : va_P (dC, dI) vwCl [(o, .inr (3, [.null, .null, .int 0, .null, .null, .null])), (q1, .inl (cI, 6, .inl (fun _ => 0)))] H := hP
  replace hD : va_D A [(o, .inr (3, [.null, .null, .int 0, .null, .null, .null])), (q1, .inl (cI, 6, .inl (fun _ => 0)))] := hD
  refine W.widen (k := 1) (n := 6) (Nat.le_of_ble_eq_true rfl) (Nat.le_of_ble_eq_true rfl) ?_
  refine va_putF (D := (dC, dI)) (ci := 3) (v := .ref q1) (ty := .array (.int)) (C := RX3) (T := TX3) (N := 6) hx hb hts hin3 tyX3 tyX3_ok nmX3 hown hK hP hD hS 0 rfl rfl 1 (by decide) hw4 (fun _ h9 => h9) rfl hin rfl (by decide +kernel) rfl rfl (Nat.le_of_ble_eq_true rfl) dX3_init_9 (fun H locs hP hD hS => ?_)
  replace hP : va_P (dC, dI) vwCl [(o, .inr (3, [.null, .ref q1, .int 0, .null, .null, .null])), (q1, .inl (cI, 6, .inl (fun _ => 0)))] H := hP
  replace hD : va_D A [(o, .inr (3, [.null, .ref q1, .int 0, .null, .null, .null])), (q1, .inl (cI, 6, .inl (fun _ => 0)))] := hD
  refine lv_aload_n hx hb dX3_init_12 rfl (lv_at hl 0 rfl) ?_
  refine lv_bipush (v := 6) hx hb dX3_init_13 (by decide) ?_
  refine mx_newI (N' := 6) hx hb hw3 hK hP hD hS hA 0 rfl (by decide) (by decide) (by decide) (Nat.le_of_ble_eq_true rfl) (Nat.le_of_ble_eq_true rfl) dX3_init_15 (fun q2 H hP hD hS => ?_)
  replace hP : va_P (dC, dI) vwCl [(o, .inr (3, [.null, .ref q1, .int 0, .null, .null, .null])), (q1, .inl (cI, 6, .inl (fun _ => 0))), (q2, .inl (cI, 6, .inl (fun _ => 0)))] H := hP
  replace hD : va_D A [(o, .inr (3, [.null, .ref q1, .int 0, .null, .null, .null])), (q1, .inl (cI, 6, .inl (fun _ => 0))), (q2, .inl (cI, 6, .inl (fun _ => 0)))] := hD
  refine W.widen (k := 2) (n := 12) (Nat.le_of_ble_eq_true rfl) (Nat.le_of_ble_eq_true rfl) ?_
  refine va_putF (D := (dC, dI)) (ci := 3) (v := .ref q2) (ty := .array (.int)) (C := RX3) (T := TX3) (N := 6) hx hb hts hin3 tyX3 tyX3_ok nmX3 hown hK hP hD hS 0 rfl rfl 3 (by decide) hw5 (fun _ h9 => h9) rfl hin rfl (by decide +kernel) rfl rfl (Nat.le_of_ble_eq_true rfl) dX3_init_17 (fun H locs hP hD hS => ?_)
  replace hP : va_P (dC, dI) vwCl [(o, .inr (3, [.null, .ref q1, .int 0, .ref q2, .null, .null])), (q1, .inl (cI, 6, .inl (fun _ => 0))), (q2, .inl (cI, 6, .inl (fun _ => 0)))] H := hP
  replace hD : va_D A [(o, .inr (3, [.null, .ref q1, .int 0, .ref q2, .null, .null])), (q1, .inl (cI, 6, .inl (fun _ => 0))), (q2, .inl (cI, 6, .inl (fun _ => 0)))] := hD
  refine lv_aload_n hx hb dX3_init_20 rfl (lv_at hl 0 rfl) ?_
  refine lv_bipush (v := 6) hx hb dX3_init_21 (by decide) ?_
  refine mx_newI (N' := 6) hx hb hw3 hK hP hD hS hA 0 rfl (by decide) (by decide) (by decide) (Nat.le_of_ble_eq_true rfl) (Nat.le_of_ble_eq_true rfl) dX3_init_23 (fun q3 H hP hD hS => ?_)
  replace hP : va_P (dC, dI) vwCl [(o, .inr (3, [.null, .ref q1, .int 0, .ref q2, .null, .null])), (q1, .inl (cI, 6, .inl (fun _ => 0))), (q2, .inl (cI, 6, .inl (fun _ => 0))), (q3, .inl (cI, 6, .inl (fun _ => 0)))] H := hP
  replace hD : va_D A [(o, .inr (3, [.null, .ref q1, .int 0, .ref q2, .null, .null])), (q1, .inl (cI, 6, .inl (fun _ => 0))), (q2, .inl (cI, 6, .inl (fun _ => 0))), (q3, .inl (cI, 6, .inl (fun _ => 0)))] := hD
  refine W.widen (k := 3) (n := 18) (Nat.le_of_ble_eq_true rfl) (Nat.le_of_ble_eq_true rfl) ?_
  refine va_putF (D := (dC, dI)) (ci := 3) (v := .ref q3) (ty := .array (.int)) (C := RX3) (T := TX3) (N := 6) hx hb hts hin3 tyX3 tyX3_ok nmX3 hown hK hP hD hS 0 rfl rfl 4 (by decide) hw6 (fun _ h9 => h9) rfl hin rfl (by decide +kernel) rfl rfl (Nat.le_of_ble_eq_true rfl) dX3_init_25 (fun H locs hP hD hS => ?_)
  replace hP : va_P (dC, dI) vwCl [(o, .inr (3, [.null, .ref q1, .int 0, .ref q2, .ref q3, .null])), (q1, .inl (cI, 6, .inl (fun _ => 0))), (q2, .inl (cI, 6, .inl (fun _ => 0))), (q3, .inl (cI, 6, .inl (fun _ => 0)))] H := hP
  replace hD : va_D A [(o, .inr (3, [.null, .ref q1, .int 0, .ref q2, .ref q3, .null])), (q1, .inl (cI, 6, .inl (fun _ => 0))), (q2, .inl (cI, 6, .inl (fun _ => 0))), (q3, .inl (cI, 6, .inl (fun _ => 0)))] := hD
  refine lv_aload_n hx hb dX3_init_28 rfl (lv_at hl 0 rfl) ?_
  refine lv_iconst (v := 5) hx hb dX3_init_29 (by decide) ?_
  refine mx_newI (N' := 5) hx hb hw3 hK hP hD hS hA 0 rfl (by decide) (by decide) (by decide) (Nat.le_of_ble_eq_true rfl) (Nat.le_of_ble_eq_true rfl) dX3_init_30 (fun q4 H hP hD hS => ?_)
  replace hP : va_P (dC, dI) vwCl [(o, .inr (3, [.null, .ref q1, .int 0, .ref q2, .ref q3, .null])), (q1, .inl (cI, 6, .inl (fun _ => 0))), (q2, .inl (cI, 6, .inl (fun _ => 0))), (q3, .inl (cI, 6, .inl (fun _ => 0))), (q4, .inl (cI, 5, .inl (fun _ => 0)))] H := hP
  replace hD : va_D A [(o, .inr (3, [.null, .ref q1, .int 0, .ref q2, .ref q3, .null])), (q1, .inl (cI, 6, .inl (fun _ => 0))), (q2, .inl (cI, 6, .inl (fun _ => 0))), (q3, .inl (cI, 6, .inl (fun _ => 0))), (q4, .inl (cI, 5, .inl (fun _ => 0)))] := hD
  refine W.widen (k := 4) (n := 23) (Nat.le_of_ble_eq_true rfl) (Nat.le_of_ble_eq_true rfl) ?_
  refine va_putF (D := (dC, dI)) (ci := 3) (v := .ref q4) (ty := .array (.int)) (C := RX3) (T := TX3) (N := 6) hx hb hts hin3 tyX3 tyX3_ok nmX3 hown hK hP hD hS 0 rfl rfl 5 (by decide) hw7 (fun _ h9 => h9) rfl hin rfl (by decide +kernel) rfl rfl (Nat.le_of_ble_eq_true rfl) dX3_init_32 (fun H locs hP hD hS => ?_)
  replace hP : va_P (dC, dI) vwCl [(o, .inr (3, [.null, .ref q1, .int 0, .ref q2, .ref q3, .ref q4])), (q1, .inl (cI, 6, .inl (fun _ => 0))), (q2, .inl (cI, 6, .inl (fun _ => 0))), (q3, .inl (cI, 6, .inl (fun _ => 0))), (q4, .inl (cI, 5, .inl (fun _ => 0)))] H := hP
  replace hD : va_D A [(o, .inr (3, [.null, .ref q1, .int 0, .ref q2, .ref q3, .ref q4])), (q1, .inl (cI, 6, .inl (fun _ => 0))), (q2, .inl (cI, 6, .inl (fun _ => 0))), (q3, .inl (cI, 6, .inl (fun _ => 0))), (q4, .inl (cI, 5, .inl (fun _ => 0)))] := hD
  refine lv_aload_n hx hb dX3_init_35 rfl (lv_at hl 0 rfl) ?_
  refine lv_aload_n hx hb dX3_init_36 rfl (lv_at hl 1 rfl) ?_
  refine va_putF (D := (dC, dI)) (ci := 3) (v := .ref k) (ty := .object "OneCan$Camp") (C := RX3) (T := TX3) (N := 6) hx hb hts hin3 tyX3 tyX3_ok nmX3 hown hK hP hD hS 0 rfl rfl 0 (by decide) hw8 (fun _ h9 => h9) rfl hin rfl (by decide +kernel) rfl rfl (Nat.le_of_ble_eq_true rfl) dX3_init_37 (fun H locs hP hD hS => ?_)
  replace hP : va_P (dC, dI) vwCl [(o, .inr (3, [.ref k, .ref q1, .int 0, .ref q2, .ref q3, .ref q4])), (q1, .inl (cI, 6, .inl (fun _ => 0))), (q2, .inl (cI, 6, .inl (fun _ => 0))), (q3, .inl (cI, 6, .inl (fun _ => 0))), (q4, .inl (cI, 5, .inl (fun _ => 0)))] H := hP
  replace hD : va_D A [(o, .inr (3, [.ref k, .ref q1, .int 0, .ref q2, .ref q3, .ref q4])), (q1, .inl (cI, 6, .inl (fun _ => 0))), (q2, .inl (cI, 6, .inl (fun _ => 0))), (q3, .inl (cI, 6, .inl (fun _ => 0))), (q4, .inl (cI, 5, .inl (fun _ => 0)))] := hD
  refine W.widen (k := 4) (n := 23) (Nat.le_of_ble_eq_true rfl) (Nat.le_of_ble_eq_true rfl) ?_
  have hP9 := mx_subP (wc := [(o, .inr (3, [.ref k, .ref q1, .int 0, .ref q2, .ref q3, .ref q4])), (q1, .inl (cI, 6, .inl (fun _ => 0))), (q2, .inl (cI, 6, .inl (fun _ => 0))), (q3, .inl (cI, 6, .inl (fun _ => 0))), (q4, .inl (cI, 5, .inl (fun _ => 0)))]) hP [0, 1, 2, 3, 4] rfl
  have hD9 := hD.sub (ws' := [(o, .inr (3, [.ref k, .ref q1, .int 0, .ref q2, .ref q3, .ref q4])), (q1, .inl (cI, 6, .inl (fun _ => 0))), (q2, .inl (cI, 6, .inl (fun _ => 0))), (q3, .inl (cI, 6, .inl (fun _ => 0))), (q4, .inl (cI, 5, .inl (fun _ => 0)))]) [0, 1, 2, 3, 4] (by decide) rfl
  exact W.vret hx hb hr (fun t ht hW => ⟨⟨(fun u9 => [q1, q2, q3, q4].getD u9 0), rfl, trivial, by rw [ht]; exact hP9, hD9⟩, hS.F ht⟩) hS.2.2 dX3_init_40
set_option maxHeartbeats 4000000 in
set_option maxRecDepth 100000 in
theorem c_X5_init (l : Launch) (dC : Nat → ClassId) (dI : Nat → Nat → Nat) (cI cZ cK : ClassId) (tS : Nat) (aK aV : Nat → Nat) (f : Nat) (k : Nat) (d : Nat) (j : Nat) (sz : Nat) : Cv l yX5_init (wq yX5_init cX5_init 4 none) ({ frames := 1, cells := 5, slots := 263, locals := 12 }) dC dI cI cZ cK tS aK aV [.ref f, .ref k, .ref d, .ref j] sz [(f, .inr (5, [.null, .null, .null, .null, .null, .null, .null, .null, .int 0, .int 0, .int 0]))] (fun (u : Nat → Nat) => True) (fun u => [(f, .inr (5, [.ref k, .ref d, .ref j, .ref (u 0), .ref (u 1), .ref (u 2), .ref (u 3), .ref (u 4), .int 0, .int 0, .int 0])), ((u 0), .inl (cI, 61, .inl (fun _ => 0))), ((u 1), .inl (cI, 61, .inl (fun _ => 0))), ((u 2), .inl (cI, 60, .inl (fun _ => 0))), ((u 3), .inl (cI, 60, .inl (fun _ => 0))), ((u 4), .inl (cI, 21, .inl (fun _ => 0)))]) := by
  refine Met.ofW (cc := cX5_init) (maxL := 4) (ret := none) (by decide) rfl ?_
  intro p e s m args below meth c s₁ B hml hv
  obtain ⟨rfl, hsz, hP, hKx, hD0⟩ := hv
  have hx := B.exec
  have hb := B.bytes
  have hr := B.returns
  have hts := atoms_spec (ws := wq yX5_init cX5_init 4 none) B.pre
  have hown : s.vm.findClass RX5 = some m.cls := findClass_of_methodNamed B.named
  have hlocks := B.notSynchronized
  have hin : meth.name = "<init>" := (name_of_methodNamed B.named B.method).1
  subst hsz
  have hD := hD0.self (sz := s.heap.size)
  generalize hAe : va_A [(f, .inr (5, [.null, .null, .null, .null, .null, .null, .null, .null, .int 0, .int 0, .int 0]))] s.heap.size = A at hD hKx ⊢
  have hA : ∀ q : Nat, s.heap.size ≤ q → A q := fun q h => by rw [← hAe]; exact Or.inr h
  have hS : va_S A s.heap s.heap [] := va_S.rf
  have hP : va_P (dC, dI) vwCl [(f, .inr (5, [.null, .null, .null, .null, .null, .null, .null, .null, .int 0, .int 0, .int 0]))] s.heap := hP
  have hl := lv_entry ([.ref f, .ref k, .ref d, .ref j]) (n := 4) (Nat.le_of_ble_eq_true rfl)
  rw [lg_entry_eq]
  generalize (lg_sl ([.ref f, .ref k, .ref d, .ref j]) ++ List.replicate (4 - (lg_sl ([.ref f, .ref k, .ref d, .ref j])).length) Slot.unset).toArray = ls at hl ⊢
  have hl : lv_has ls 4 [(0, .ref f), (1, .ref k), (2, .ref d), (3, .ref j)] := hl
  have hK := hKx.1
  have hin5 := fun w9 h9 => List.mem_cons_of_mem (Cond.code yX5_init cX5_init 4 none) (inlX5 w9 h9)
  have hw0 := hts (.methodLink RX5 3 objectInit) (List.mem_cons_of_mem _ wm_86)
  have hw1 := hts (.instanceMethod objectInit) (List.mem_cons_of_mem _ wm_10)
  have hw2 := hts (.code objectInit ⟨#[0xb1]⟩ 1 none) (List.mem_cons_of_mem _ wm_11)
  have hw3 := hts (.arrayClass .int) (List.mem_cons_of_mem _ wm_43)
  have hw4 := hts (.fieldLink RX5 9 "OneCan$Search" "low" "[I") (List.mem_cons_of_mem _ wm_87)
  have hw5 := hts (.fieldLink RX5 15 "OneCan$Search" "high" "[I") (List.mem_cons_of_mem _ wm_88)
  have hw6 := hts (.fieldLink RX5 18 "OneCan$Search" "first" "[I") (List.mem_cons_of_mem _ wm_89)
  have hw7 := hts (.fieldLink RX5 21 "OneCan$Search" "last" "[I") (List.mem_cons_of_mem _ wm_90)
  have hw8 := hts (.fieldLink RX5 24 "OneCan$Search" "byMark" "[I") (List.mem_cons_of_mem _ wm_91)
  have hw9 := hts (.fieldLink RX5 27 "OneCan$Search" "camp" "LOneCan$Camp;") (List.mem_cons_of_mem _ wm_92)
  have hw10 := hts (.fieldLink RX5 31 "OneCan$Search" "pad" "LOneCan$Pad;") (List.mem_cons_of_mem _ wm_93)
  have hw11 := hts (.fieldLink RX5 35 "OneCan$Search" "course" "LOneCan$Course;") (List.mem_cons_of_mem _ wm_94)
  refine lv_aload_n hx hb dX5_init_0 rfl (lv_at hl 0 rfl) ?_
  refine W.objInit hx hb hown hw0 hw1 hw2 rfl (by rw [hml]; exact hl.1) rfl dX5_init_1 (Nat.le_of_ble_eq_true rfl) (Nat.le_of_ble_eq_true rfl) ?_
  refine W.eq (g2 := F0 m 4 ls []) rfl ?_
  refine lv_aload_n hx hb dX5_init_4 rfl (lv_at hl 0 rfl) ?_
  refine lv_bipush (v := 61) hx hb dX5_init_5 (by decide) ?_
  refine mx_newI (N' := 61) hx hb hw3 hK hP hD hS hA 0 rfl (by decide) (by decide) (by decide) (Nat.le_of_ble_eq_true rfl) (Nat.le_of_ble_eq_true rfl) dX5_init_7 (fun q1 H hP hD hS => ?_)
  replace hP : va_P (dC, dI) vwCl [(f, .inr (5, [.null, .null, .null, .null, .null, .null, .null, .null, .int 0, .int 0, .int 0])), (q1, .inl (cI, 61, .inl (fun _ => 0)))] H := hP
  replace hD : va_D A [(f, .inr (5, [.null, .null, .null, .null, .null, .null, .null, .null, .int 0, .int 0, .int 0])), (q1, .inl (cI, 61, .inl (fun _ => 0)))] := hD
  refine W.widen (k := 1) (n := 61) (Nat.le_of_ble_eq_true rfl) (Nat.le_of_ble_eq_true rfl) ?_
  refine va_putF (D := (dC, dI)) (ci := 5) (v := .ref q1) (ty := .array (.int)) (C := RX5) (T := TX5) (N := 11) hx hb hts hin5 tyX5 tyX5_ok nmX5 hown hK hP hD hS 0 rfl rfl 3 (by decide) hw4 (fun _ h9 => h9) rfl hin rfl (by decide +kernel) rfl rfl (Nat.le_of_ble_eq_true rfl) dX5_init_9 (fun H locs hP hD hS => ?_)
  replace hP : va_P (dC, dI) vwCl [(f, .inr (5, [.null, .null, .null, .ref q1, .null, .null, .null, .null, .int 0, .int 0, .int 0])), (q1, .inl (cI, 61, .inl (fun _ => 0)))] H := hP
  replace hD : va_D A [(f, .inr (5, [.null, .null, .null, .ref q1, .null, .null, .null, .null, .int 0, .int 0, .int 0])), (q1, .inl (cI, 61, .inl (fun _ => 0)))] := hD
  refine lv_aload_n hx hb dX5_init_12 rfl (lv_at hl 0 rfl) ?_
  refine lv_bipush (v := 61) hx hb dX5_init_13 (by decide) ?_
  refine mx_newI (N' := 61) hx hb hw3 hK hP hD hS hA 0 rfl (by decide) (by decide) (by decide) (Nat.le_of_ble_eq_true rfl) (Nat.le_of_ble_eq_true rfl) dX5_init_15 (fun q2 H hP hD hS => ?_)
  replace hP : va_P (dC, dI) vwCl [(f, .inr (5, [.null, .null, .null, .ref q1, .null, .null, .null, .null, .int 0, .int 0, .int 0])), (q1, .inl (cI, 61, .inl (fun _ => 0))), (q2, .inl (cI, 61, .inl (fun _ => 0)))] H := hP
  replace hD : va_D A [(f, .inr (5, [.null, .null, .null, .ref q1, .null, .null, .null, .null, .int 0, .int 0, .int 0])), (q1, .inl (cI, 61, .inl (fun _ => 0))), (q2, .inl (cI, 61, .inl (fun _ => 0)))] := hD
  refine W.widen (k := 2) (n := 122) (Nat.le_of_ble_eq_true rfl) (Nat.le_of_ble_eq_true rfl) ?_
  refine va_putF (D := (dC, dI)) (ci := 5) (v := .ref q2) (ty := .array (.int)) (C := RX5) (T := TX5) (N := 11) hx hb hts hin5 tyX5 tyX5_ok nmX5 hown hK hP hD hS 0 rfl rfl 4 (by decide) hw5 (fun _ h9 => h9) rfl hin rfl (by decide +kernel) rfl rfl (Nat.le_of_ble_eq_true rfl) dX5_init_17 (fun H locs hP hD hS => ?_)
  replace hP : va_P (dC, dI) vwCl [(f, .inr (5, [.null, .null, .null, .ref q1, .ref q2, .null, .null, .null, .int 0, .int 0, .int 0])), (q1, .inl (cI, 61, .inl (fun _ => 0))), (q2, .inl (cI, 61, .inl (fun _ => 0)))] H := hP
  replace hD : va_D A [(f, .inr (5, [.null, .null, .null, .ref q1, .ref q2, .null, .null, .null, .int 0, .int 0, .int 0])), (q1, .inl (cI, 61, .inl (fun _ => 0))), (q2, .inl (cI, 61, .inl (fun _ => 0)))] := hD
  refine lv_aload_n hx hb dX5_init_20 rfl (lv_at hl 0 rfl) ?_
  refine lv_bipush (v := 60) hx hb dX5_init_21 (by decide) ?_
  refine mx_newI (N' := 60) hx hb hw3 hK hP hD hS hA 0 rfl (by decide) (by decide) (by decide) (Nat.le_of_ble_eq_true rfl) (Nat.le_of_ble_eq_true rfl) dX5_init_23 (fun q3 H hP hD hS => ?_)
  replace hP : va_P (dC, dI) vwCl [(f, .inr (5, [.null, .null, .null, .ref q1, .ref q2, .null, .null, .null, .int 0, .int 0, .int 0])), (q1, .inl (cI, 61, .inl (fun _ => 0))), (q2, .inl (cI, 61, .inl (fun _ => 0))), (q3, .inl (cI, 60, .inl (fun _ => 0)))] H := hP
  replace hD : va_D A [(f, .inr (5, [.null, .null, .null, .ref q1, .ref q2, .null, .null, .null, .int 0, .int 0, .int 0])), (q1, .inl (cI, 61, .inl (fun _ => 0))), (q2, .inl (cI, 61, .inl (fun _ => 0))), (q3, .inl (cI, 60, .inl (fun _ => 0)))] := hD
  refine W.widen (k := 3) (n := 182) (Nat.le_of_ble_eq_true rfl) (Nat.le_of_ble_eq_true rfl) ?_
  refine va_putF (D := (dC, dI)) (ci := 5) (v := .ref q3) (ty := .array (.int)) (C := RX5) (T := TX5) (N := 11) hx hb hts hin5 tyX5 tyX5_ok nmX5 hown hK hP hD hS 0 rfl rfl 5 (by decide) hw6 (fun _ h9 => h9) rfl hin rfl (by decide +kernel) rfl rfl (Nat.le_of_ble_eq_true rfl) dX5_init_25 (fun H locs hP hD hS => ?_)
  replace hP : va_P (dC, dI) vwCl [(f, .inr (5, [.null, .null, .null, .ref q1, .ref q2, .ref q3, .null, .null, .int 0, .int 0, .int 0])), (q1, .inl (cI, 61, .inl (fun _ => 0))), (q2, .inl (cI, 61, .inl (fun _ => 0))), (q3, .inl (cI, 60, .inl (fun _ => 0)))] H := hP
  replace hD : va_D A [(f, .inr (5, [.null, .null, .null, .ref q1, .ref q2, .ref q3, .null, .null, .int 0, .int 0, .int 0])), (q1, .inl (cI, 61, .inl (fun _ => 0))), (q2, .inl (cI, 61, .inl (fun _ => 0))), (q3, .inl (cI, 60, .inl (fun _ => 0)))] := hD
  refine lv_aload_n hx hb dX5_init_28 rfl (lv_at hl 0 rfl) ?_
  refine lv_bipush (v := 60) hx hb dX5_init_29 (by decide) ?_
  refine mx_newI (N' := 60) hx hb hw3 hK hP hD hS hA 0 rfl (by decide) (by decide) (by decide) (Nat.le_of_ble_eq_true rfl) (Nat.le_of_ble_eq_true rfl) dX5_init_31 (fun q4 H hP hD hS => ?_)
  replace hP : va_P (dC, dI) vwCl [(f, .inr (5, [.null, .null, .null, .ref q1, .ref q2, .ref q3, .null, .null, .int 0, .int 0, .int 0])), (q1, .inl (cI, 61, .inl (fun _ => 0))), (q2, .inl (cI, 61, .inl (fun _ => 0))), (q3, .inl (cI, 60, .inl (fun _ => 0))), (q4, .inl (cI, 60, .inl (fun _ => 0)))] H := hP
  replace hD : va_D A [(f, .inr (5, [.null, .null, .null, .ref q1, .ref q2, .ref q3, .null, .null, .int 0, .int 0, .int 0])), (q1, .inl (cI, 61, .inl (fun _ => 0))), (q2, .inl (cI, 61, .inl (fun _ => 0))), (q3, .inl (cI, 60, .inl (fun _ => 0))), (q4, .inl (cI, 60, .inl (fun _ => 0)))] := hD
  refine W.widen (k := 4) (n := 242) (Nat.le_of_ble_eq_true rfl) (Nat.le_of_ble_eq_true rfl) ?_
  refine va_putF (D := (dC, dI)) (ci := 5) (v := .ref q4) (ty := .array (.int)) (C := RX5) (T := TX5) (N := 11) hx hb hts hin5 tyX5 tyX5_ok nmX5 hown hK hP hD hS 0 rfl rfl 6 (by decide) hw7 (fun _ h9 => h9) rfl hin rfl (by decide +kernel) rfl rfl (Nat.le_of_ble_eq_true rfl) dX5_init_33 (fun H locs hP hD hS => ?_)
  replace hP : va_P (dC, dI) vwCl [(f, .inr (5, [.null, .null, .null, .ref q1, .ref q2, .ref q3, .ref q4, .null, .int 0, .int 0, .int 0])), (q1, .inl (cI, 61, .inl (fun _ => 0))), (q2, .inl (cI, 61, .inl (fun _ => 0))), (q3, .inl (cI, 60, .inl (fun _ => 0))), (q4, .inl (cI, 60, .inl (fun _ => 0)))] H := hP
  replace hD : va_D A [(f, .inr (5, [.null, .null, .null, .ref q1, .ref q2, .ref q3, .ref q4, .null, .int 0, .int 0, .int 0])), (q1, .inl (cI, 61, .inl (fun _ => 0))), (q2, .inl (cI, 61, .inl (fun _ => 0))), (q3, .inl (cI, 60, .inl (fun _ => 0))), (q4, .inl (cI, 60, .inl (fun _ => 0)))] := hD
  refine lv_aload_n hx hb dX5_init_36 rfl (lv_at hl 0 rfl) ?_
  refine lv_bipush (v := 21) hx hb dX5_init_37 (by decide) ?_
  refine mx_newI (N' := 21) hx hb hw3 hK hP hD hS hA 0 rfl (by decide) (by decide) (by decide) (Nat.le_of_ble_eq_true rfl) (Nat.le_of_ble_eq_true rfl) dX5_init_39 (fun q5 H hP hD hS => ?_)
  replace hP : va_P (dC, dI) vwCl [(f, .inr (5, [.null, .null, .null, .ref q1, .ref q2, .ref q3, .ref q4, .null, .int 0, .int 0, .int 0])), (q1, .inl (cI, 61, .inl (fun _ => 0))), (q2, .inl (cI, 61, .inl (fun _ => 0))), (q3, .inl (cI, 60, .inl (fun _ => 0))), (q4, .inl (cI, 60, .inl (fun _ => 0))), (q5, .inl (cI, 21, .inl (fun _ => 0)))] H := hP
  replace hD : va_D A [(f, .inr (5, [.null, .null, .null, .ref q1, .ref q2, .ref q3, .ref q4, .null, .int 0, .int 0, .int 0])), (q1, .inl (cI, 61, .inl (fun _ => 0))), (q2, .inl (cI, 61, .inl (fun _ => 0))), (q3, .inl (cI, 60, .inl (fun _ => 0))), (q4, .inl (cI, 60, .inl (fun _ => 0))), (q5, .inl (cI, 21, .inl (fun _ => 0)))] := hD
  refine W.widen (k := 5) (n := 263) (Nat.le_of_ble_eq_true rfl) (Nat.le_of_ble_eq_true rfl) ?_
  refine va_putF (D := (dC, dI)) (ci := 5) (v := .ref q5) (ty := .array (.int)) (C := RX5) (T := TX5) (N := 11) hx hb hts hin5 tyX5 tyX5_ok nmX5 hown hK hP hD hS 0 rfl rfl 7 (by decide) hw8 (fun _ h9 => h9) rfl hin rfl (by decide +kernel) rfl rfl (Nat.le_of_ble_eq_true rfl) dX5_init_41 (fun H locs hP hD hS => ?_)
  replace hP : va_P (dC, dI) vwCl [(f, .inr (5, [.null, .null, .null, .ref q1, .ref q2, .ref q3, .ref q4, .ref q5, .int 0, .int 0, .int 0])), (q1, .inl (cI, 61, .inl (fun _ => 0))), (q2, .inl (cI, 61, .inl (fun _ => 0))), (q3, .inl (cI, 60, .inl (fun _ => 0))), (q4, .inl (cI, 60, .inl (fun _ => 0))), (q5, .inl (cI, 21, .inl (fun _ => 0)))] H := hP
  replace hD : va_D A [(f, .inr (5, [.null, .null, .null, .ref q1, .ref q2, .ref q3, .ref q4, .ref q5, .int 0, .int 0, .int 0])), (q1, .inl (cI, 61, .inl (fun _ => 0))), (q2, .inl (cI, 61, .inl (fun _ => 0))), (q3, .inl (cI, 60, .inl (fun _ => 0))), (q4, .inl (cI, 60, .inl (fun _ => 0))), (q5, .inl (cI, 21, .inl (fun _ => 0)))] := hD
  refine lv_aload_n hx hb dX5_init_44 rfl (lv_at hl 0 rfl) ?_
  refine lv_aload_n hx hb dX5_init_45 rfl (lv_at hl 1 rfl) ?_
  refine va_putF (D := (dC, dI)) (ci := 5) (v := .ref k) (ty := .object "OneCan$Camp") (C := RX5) (T := TX5) (N := 11) hx hb hts hin5 tyX5 tyX5_ok nmX5 hown hK hP hD hS 0 rfl rfl 0 (by decide) hw9 (fun _ h9 => h9) rfl hin rfl (by decide +kernel) rfl rfl (Nat.le_of_ble_eq_true rfl) dX5_init_46 (fun H locs hP hD hS => ?_)
  replace hP : va_P (dC, dI) vwCl [(f, .inr (5, [.ref k, .null, .null, .ref q1, .ref q2, .ref q3, .ref q4, .ref q5, .int 0, .int 0, .int 0])), (q1, .inl (cI, 61, .inl (fun _ => 0))), (q2, .inl (cI, 61, .inl (fun _ => 0))), (q3, .inl (cI, 60, .inl (fun _ => 0))), (q4, .inl (cI, 60, .inl (fun _ => 0))), (q5, .inl (cI, 21, .inl (fun _ => 0)))] H := hP
  replace hD : va_D A [(f, .inr (5, [.ref k, .null, .null, .ref q1, .ref q2, .ref q3, .ref q4, .ref q5, .int 0, .int 0, .int 0])), (q1, .inl (cI, 61, .inl (fun _ => 0))), (q2, .inl (cI, 61, .inl (fun _ => 0))), (q3, .inl (cI, 60, .inl (fun _ => 0))), (q4, .inl (cI, 60, .inl (fun _ => 0))), (q5, .inl (cI, 21, .inl (fun _ => 0)))] := hD
  refine lv_aload_n hx hb dX5_init_49 rfl (lv_at hl 0 rfl) ?_
  refine lv_aload_n hx hb dX5_init_50 rfl (lv_at hl 2 rfl) ?_
  refine va_putF (D := (dC, dI)) (ci := 5) (v := .ref d) (ty := .object "OneCan$Pad") (C := RX5) (T := TX5) (N := 11) hx hb hts hin5 tyX5 tyX5_ok nmX5 hown hK hP hD hS 0 rfl rfl 1 (by decide) hw10 (fun _ h9 => h9) rfl hin rfl (by decide +kernel) rfl rfl (Nat.le_of_ble_eq_true rfl) dX5_init_51 (fun H locs hP hD hS => ?_)
  replace hP : va_P (dC, dI) vwCl [(f, .inr (5, [.ref k, .ref d, .null, .ref q1, .ref q2, .ref q3, .ref q4, .ref q5, .int 0, .int 0, .int 0])), (q1, .inl (cI, 61, .inl (fun _ => 0))), (q2, .inl (cI, 61, .inl (fun _ => 0))), (q3, .inl (cI, 60, .inl (fun _ => 0))), (q4, .inl (cI, 60, .inl (fun _ => 0))), (q5, .inl (cI, 21, .inl (fun _ => 0)))] H := hP
  replace hD : va_D A [(f, .inr (5, [.ref k, .ref d, .null, .ref q1, .ref q2, .ref q3, .ref q4, .ref q5, .int 0, .int 0, .int 0])), (q1, .inl (cI, 61, .inl (fun _ => 0))), (q2, .inl (cI, 61, .inl (fun _ => 0))), (q3, .inl (cI, 60, .inl (fun _ => 0))), (q4, .inl (cI, 60, .inl (fun _ => 0))), (q5, .inl (cI, 21, .inl (fun _ => 0)))] := hD
  refine lv_aload_n hx hb dX5_init_54 rfl (lv_at hl 0 rfl) ?_
  refine lv_aload_n hx hb dX5_init_55 rfl (lv_at hl 3 rfl) ?_
  refine va_putF (D := (dC, dI)) (ci := 5) (v := .ref j) (ty := .object "OneCan$Course") (C := RX5) (T := TX5) (N := 11) hx hb hts hin5 tyX5 tyX5_ok nmX5 hown hK hP hD hS 0 rfl rfl 2 (by decide) hw11 (fun _ h9 => h9) rfl hin rfl (by decide +kernel) rfl rfl (Nat.le_of_ble_eq_true rfl) dX5_init_56 (fun H locs hP hD hS => ?_)
  replace hP : va_P (dC, dI) vwCl [(f, .inr (5, [.ref k, .ref d, .ref j, .ref q1, .ref q2, .ref q3, .ref q4, .ref q5, .int 0, .int 0, .int 0])), (q1, .inl (cI, 61, .inl (fun _ => 0))), (q2, .inl (cI, 61, .inl (fun _ => 0))), (q3, .inl (cI, 60, .inl (fun _ => 0))), (q4, .inl (cI, 60, .inl (fun _ => 0))), (q5, .inl (cI, 21, .inl (fun _ => 0)))] H := hP
  replace hD : va_D A [(f, .inr (5, [.ref k, .ref d, .ref j, .ref q1, .ref q2, .ref q3, .ref q4, .ref q5, .int 0, .int 0, .int 0])), (q1, .inl (cI, 61, .inl (fun _ => 0))), (q2, .inl (cI, 61, .inl (fun _ => 0))), (q3, .inl (cI, 60, .inl (fun _ => 0))), (q4, .inl (cI, 60, .inl (fun _ => 0))), (q5, .inl (cI, 21, .inl (fun _ => 0)))] := hD
  refine W.widen (k := 5) (n := 263) (Nat.le_of_ble_eq_true rfl) (Nat.le_of_ble_eq_true rfl) ?_
  have hP9 := mx_subP (wc := [(f, .inr (5, [.ref k, .ref d, .ref j, .ref q1, .ref q2, .ref q3, .ref q4, .ref q5, .int 0, .int 0, .int 0])), (q1, .inl (cI, 61, .inl (fun _ => 0))), (q2, .inl (cI, 61, .inl (fun _ => 0))), (q3, .inl (cI, 60, .inl (fun _ => 0))), (q4, .inl (cI, 60, .inl (fun _ => 0))), (q5, .inl (cI, 21, .inl (fun _ => 0)))]) hP [0, 1, 2, 3, 4, 5] rfl
  have hD9 := hD.sub (ws' := [(f, .inr (5, [.ref k, .ref d, .ref j, .ref q1, .ref q2, .ref q3, .ref q4, .ref q5, .int 0, .int 0, .int 0])), (q1, .inl (cI, 61, .inl (fun _ => 0))), (q2, .inl (cI, 61, .inl (fun _ => 0))), (q3, .inl (cI, 60, .inl (fun _ => 0))), (q4, .inl (cI, 60, .inl (fun _ => 0))), (q5, .inl (cI, 21, .inl (fun _ => 0)))]) [0, 1, 2, 3, 4, 5] (by decide) rfl
  exact W.vret hx hb hr (fun t ht hW => ⟨⟨(fun u9 => [q1, q2, q3, q4, q5].getD u9 0), rfl, trivial, by rw [ht]; exact hP9, hD9⟩, hS.F ht⟩) hS.2.2 dX5_init_59
set_option maxHeartbeats 4000000 in
set_option maxRecDepth 100000 in
theorem c_X2_init (l : Launch) (dC : Nat → ClassId) (dI : Nat → Nat → Nat) (cI cZ cK : ClassId) (tS : Nat) (aK aV : Nat → Nat) (g : Nat) (k : Nat) (d : Nat) (j : Nat) (sz : Nat) : Cv l yX2_init (wq yX2_init cX2_init 4 none) ({ frames := 1, cells := 1, slots := 60, locals := 12 }) dC dI cI cZ cK tS aK aV [.ref g, .ref k, .ref d, .ref j] sz [(g, .inr (2, [.null, .null, .null, .null, .long 0, .long 0]))] (fun (u : Nat → Nat) => True) (fun u => [(g, .inr (2, [.ref k, .ref d, .ref j, .ref (u 0), .long 0, .long 0])), ((u 0), .inl (cI, 60, .inl (fun _ => 0)))]) := by
  refine Met.ofW (cc := cX2_init) (maxL := 4) (ret := none) (by decide) rfl ?_
  intro p e s m args below meth c s₁ B hml hv
  obtain ⟨rfl, hsz, hP, hKx, hD0⟩ := hv
  have hx := B.exec
  have hb := B.bytes
  have hr := B.returns
  have hts := atoms_spec (ws := wq yX2_init cX2_init 4 none) B.pre
  have hown : s.vm.findClass RX2 = some m.cls := findClass_of_methodNamed B.named
  have hlocks := B.notSynchronized
  have hin : meth.name = "<init>" := (name_of_methodNamed B.named B.method).1
  subst hsz
  have hD := hD0.self (sz := s.heap.size)
  generalize hAe : va_A [(g, .inr (2, [.null, .null, .null, .null, .long 0, .long 0]))] s.heap.size = A at hD hKx ⊢
  have hA : ∀ q : Nat, s.heap.size ≤ q → A q := fun q h => by rw [← hAe]; exact Or.inr h
  have hS : va_S A s.heap s.heap [] := va_S.rf
  have hP : va_P (dC, dI) vwCl [(g, .inr (2, [.null, .null, .null, .null, .long 0, .long 0]))] s.heap := hP
  have hl := lv_entry ([.ref g, .ref k, .ref d, .ref j]) (n := 4) (Nat.le_of_ble_eq_true rfl)
  rw [lg_entry_eq]
  generalize (lg_sl ([.ref g, .ref k, .ref d, .ref j]) ++ List.replicate (4 - (lg_sl ([.ref g, .ref k, .ref d, .ref j])).length) Slot.unset).toArray = ls at hl ⊢
  have hl : lv_has ls 4 [(0, .ref g), (1, .ref k), (2, .ref d), (3, .ref j)] := hl
  have hK := hKx.1
  have hin2 := fun w9 h9 => List.mem_cons_of_mem (Cond.code yX2_init cX2_init 4 none) (inlX2 w9 h9)
  have hw0 := hts (.methodLink RX2 3 objectInit) (List.mem_cons_of_mem _ wm_98)
  have hw1 := hts (.instanceMethod objectInit) (List.mem_cons_of_mem _ wm_10)
  have hw2 := hts (.code objectInit ⟨#[0xb1]⟩ 1 none) (List.mem_cons_of_mem _ wm_11)
  have hw3 := hts (.arrayClass .int) (List.mem_cons_of_mem _ wm_43)
  have hw4 := hts (.fieldLink RX2 9 "OneCan$Gusts" "gusty" "[I") (List.mem_cons_of_mem _ wm_99)
  have hw5 := hts (.fieldLink RX2 15 "OneCan$Gusts" "camp" "LOneCan$Camp;") (List.mem_cons_of_mem _ wm_100)
  have hw6 := hts (.fieldLink RX2 19 "OneCan$Gusts" "pad" "LOneCan$Pad;") (List.mem_cons_of_mem _ wm_101)
  have hw7 := hts (.fieldLink RX2 23 "OneCan$Gusts" "course" "LOneCan$Course;") (List.mem_cons_of_mem _ wm_102)
  refine lv_aload_n hx hb dX2_init_0 rfl (lv_at hl 0 rfl) ?_
  refine W.objInit hx hb hown hw0 hw1 hw2 rfl (by rw [hml]; exact hl.1) rfl dX2_init_1 (Nat.le_of_ble_eq_true rfl) (Nat.le_of_ble_eq_true rfl) ?_
  refine W.eq (g2 := F0 m 4 ls []) rfl ?_
  refine lv_aload_n hx hb dX2_init_4 rfl (lv_at hl 0 rfl) ?_
  refine lv_bipush (v := 60) hx hb dX2_init_5 (by decide) ?_
  refine mx_newI (N' := 60) hx hb hw3 hK hP hD hS hA 0 rfl (by decide) (by decide) (by decide) (Nat.le_of_ble_eq_true rfl) (Nat.le_of_ble_eq_true rfl) dX2_init_7 (fun q1 H hP hD hS => ?_)
  replace hP : va_P (dC, dI) vwCl [(g, .inr (2, [.null, .null, .null, .null, .long 0, .long 0])), (q1, .inl (cI, 60, .inl (fun _ => 0)))] H := hP
  replace hD : va_D A [(g, .inr (2, [.null, .null, .null, .null, .long 0, .long 0])), (q1, .inl (cI, 60, .inl (fun _ => 0)))] := hD
  refine W.widen (k := 1) (n := 60) (Nat.le_of_ble_eq_true rfl) (Nat.le_of_ble_eq_true rfl) ?_
  refine va_putF (D := (dC, dI)) (ci := 2) (v := .ref q1) (ty := .array (.int)) (C := RX2) (T := TX2) (N := 6) hx hb hts hin2 tyX2 tyX2_ok nmX2 hown hK hP hD hS 0 rfl rfl 3 (by decide) hw4 (fun _ h9 => h9) rfl hin rfl (by decide +kernel) rfl rfl (Nat.le_of_ble_eq_true rfl) dX2_init_9 (fun H locs hP hD hS => ?_)
  replace hP : va_P (dC, dI) vwCl [(g, .inr (2, [.null, .null, .null, .ref q1, .long 0, .long 0])), (q1, .inl (cI, 60, .inl (fun _ => 0)))] H := hP
  replace hD : va_D A [(g, .inr (2, [.null, .null, .null, .ref q1, .long 0, .long 0])), (q1, .inl (cI, 60, .inl (fun _ => 0)))] := hD
  refine lv_aload_n hx hb dX2_init_12 rfl (lv_at hl 0 rfl) ?_
  refine lv_aload_n hx hb dX2_init_13 rfl (lv_at hl 1 rfl) ?_
  refine va_putF (D := (dC, dI)) (ci := 2) (v := .ref k) (ty := .object "OneCan$Camp") (C := RX2) (T := TX2) (N := 6) hx hb hts hin2 tyX2 tyX2_ok nmX2 hown hK hP hD hS 0 rfl rfl 0 (by decide) hw5 (fun _ h9 => h9) rfl hin rfl (by decide +kernel) rfl rfl (Nat.le_of_ble_eq_true rfl) dX2_init_14 (fun H locs hP hD hS => ?_)
  replace hP : va_P (dC, dI) vwCl [(g, .inr (2, [.ref k, .null, .null, .ref q1, .long 0, .long 0])), (q1, .inl (cI, 60, .inl (fun _ => 0)))] H := hP
  replace hD : va_D A [(g, .inr (2, [.ref k, .null, .null, .ref q1, .long 0, .long 0])), (q1, .inl (cI, 60, .inl (fun _ => 0)))] := hD
  refine lv_aload_n hx hb dX2_init_17 rfl (lv_at hl 0 rfl) ?_
  refine lv_aload_n hx hb dX2_init_18 rfl (lv_at hl 2 rfl) ?_
  refine va_putF (D := (dC, dI)) (ci := 2) (v := .ref d) (ty := .object "OneCan$Pad") (C := RX2) (T := TX2) (N := 6) hx hb hts hin2 tyX2 tyX2_ok nmX2 hown hK hP hD hS 0 rfl rfl 1 (by decide) hw6 (fun _ h9 => h9) rfl hin rfl (by decide +kernel) rfl rfl (Nat.le_of_ble_eq_true rfl) dX2_init_19 (fun H locs hP hD hS => ?_)
  replace hP : va_P (dC, dI) vwCl [(g, .inr (2, [.ref k, .ref d, .null, .ref q1, .long 0, .long 0])), (q1, .inl (cI, 60, .inl (fun _ => 0)))] H := hP
  replace hD : va_D A [(g, .inr (2, [.ref k, .ref d, .null, .ref q1, .long 0, .long 0])), (q1, .inl (cI, 60, .inl (fun _ => 0)))] := hD
  refine lv_aload_n hx hb dX2_init_22 rfl (lv_at hl 0 rfl) ?_
  refine lv_aload_n hx hb dX2_init_23 rfl (lv_at hl 3 rfl) ?_
  refine va_putF (D := (dC, dI)) (ci := 2) (v := .ref j) (ty := .object "OneCan$Course") (C := RX2) (T := TX2) (N := 6) hx hb hts hin2 tyX2 tyX2_ok nmX2 hown hK hP hD hS 0 rfl rfl 2 (by decide) hw7 (fun _ h9 => h9) rfl hin rfl (by decide +kernel) rfl rfl (Nat.le_of_ble_eq_true rfl) dX2_init_24 (fun H locs hP hD hS => ?_)
  replace hP : va_P (dC, dI) vwCl [(g, .inr (2, [.ref k, .ref d, .ref j, .ref q1, .long 0, .long 0])), (q1, .inl (cI, 60, .inl (fun _ => 0)))] H := hP
  replace hD : va_D A [(g, .inr (2, [.ref k, .ref d, .ref j, .ref q1, .long 0, .long 0])), (q1, .inl (cI, 60, .inl (fun _ => 0)))] := hD
  refine W.widen (k := 1) (n := 60) (Nat.le_of_ble_eq_true rfl) (Nat.le_of_ble_eq_true rfl) ?_
  have hP9 := mx_subP (wc := [(g, .inr (2, [.ref k, .ref d, .ref j, .ref q1, .long 0, .long 0])), (q1, .inl (cI, 60, .inl (fun _ => 0)))]) hP [0, 1] rfl
  have hD9 := hD.sub (ws' := [(g, .inr (2, [.ref k, .ref d, .ref j, .ref q1, .long 0, .long 0])), (q1, .inl (cI, 60, .inl (fun _ => 0)))]) [0, 1] (by decide) rfl
  exact W.vret hx hb hr (fun t ht hW => ⟨⟨(fun u9 => [q1].getD u9 0), rfl, trivial, by rw [ht]; exact hP9, hD9⟩, hS.F ht⟩) hS.2.2 dX2_init_27
set_option maxHeartbeats 4000000 in
set_option maxRecDepth 100000 in
theorem c_X6_init (l : Launch) (dC : Nat → ClassId) (dI : Nat → Nat → Nat) (cI cZ cK : ClassId) (tS : Nat) (aK aV : Nat → Nat) (wk : Nat) (k : Nat) (sz : Nat) : Cv l yX6_init (wq yX6_init cX6_init 2 none) ({ frames := 1, cells := 0, slots := 0, locals := 12 }) dC dI cI cZ cK tS aK aV [.ref wk, .ref k] sz [(wk, .inr (6, [.null, .int 0, .int 0, .int 0]))] (fun (u : Unit) => True) (fun _ => [(wk, .inr (6, [.ref k, .int 0, .int 0, .int 0]))]) := by
  refine Met.ofW (cc := cX6_init) (maxL := 2) (ret := none) (by decide) rfl ?_
  intro p e s m args below meth c s₁ B hml hv
  obtain ⟨rfl, hsz, hP, hKx, hD0⟩ := hv
  have hx := B.exec
  have hb := B.bytes
  have hr := B.returns
  have hts := atoms_spec (ws := wq yX6_init cX6_init 2 none) B.pre
  have hown : s.vm.findClass RX6 = some m.cls := findClass_of_methodNamed B.named
  have hlocks := B.notSynchronized
  have hin : meth.name = "<init>" := (name_of_methodNamed B.named B.method).1
  subst hsz
  have hD := hD0.self (sz := s.heap.size)
  generalize hAe : va_A [(wk, .inr (6, [.null, .int 0, .int 0, .int 0]))] s.heap.size = A at hD hKx ⊢
  have hA : ∀ q : Nat, s.heap.size ≤ q → A q := fun q h => by rw [← hAe]; exact Or.inr h
  have hS : va_S A s.heap s.heap [] := va_S.rf
  have hP : va_P (dC, dI) vwCl [(wk, .inr (6, [.null, .int 0, .int 0, .int 0]))] s.heap := hP
  have hl := lv_entry ([.ref wk, .ref k]) (n := 2) (Nat.le_of_ble_eq_true rfl)
  rw [lg_entry_eq]
  generalize (lg_sl ([.ref wk, .ref k]) ++ List.replicate (2 - (lg_sl ([.ref wk, .ref k])).length) Slot.unset).toArray = ls at hl ⊢
  have hl : lv_has ls 2 [(0, .ref wk), (1, .ref k)] := hl
  have hK := hKx.1
  have hin6 := fun w9 h9 => List.mem_cons_of_mem (Cond.code yX6_init cX6_init 2 none) (inlX6 w9 h9)
  have hw0 := hts (.methodLink RX6 3 objectInit) (List.mem_cons_of_mem _ wm_106)
  have hw1 := hts (.instanceMethod objectInit) (List.mem_cons_of_mem _ wm_10)
  have hw2 := hts (.code objectInit ⟨#[0xb1]⟩ 1 none) (List.mem_cons_of_mem _ wm_11)
  have hw3 := hts (.fieldLink RX6 9 "OneCan$Week" "camp" "LOneCan$Camp;") (List.mem_cons_of_mem _ wm_107)
  refine lv_aload_n hx hb dX6_init_0 rfl (lv_at hl 0 rfl) ?_
  refine W.objInit hx hb hown hw0 hw1 hw2 rfl (by rw [hml]; exact hl.1) rfl dX6_init_1 (Nat.le_of_ble_eq_true rfl) (Nat.le_of_ble_eq_true rfl) ?_
  refine W.eq (g2 := F0 m 4 ls []) rfl ?_
  refine lv_aload_n hx hb dX6_init_4 rfl (lv_at hl 0 rfl) ?_
  refine lv_aload_n hx hb dX6_init_5 rfl (lv_at hl 1 rfl) ?_
  refine va_putF (D := (dC, dI)) (ci := 6) (v := .ref k) (ty := .object "OneCan$Camp") (C := RX6) (T := TX6) (N := 4) hx hb hts hin6 tyX6 tyX6_ok nmX6 hown hK hP hD hS 0 rfl rfl 0 (by decide) hw3 (fun _ h9 => h9) rfl hin rfl (by decide +kernel) rfl rfl (Nat.le_of_ble_eq_true rfl) dX6_init_6 (fun H locs hP hD hS => ?_)
  replace hP : va_P (dC, dI) vwCl [(wk, .inr (6, [.ref k, .int 0, .int 0, .int 0]))] H := hP
  replace hD : va_D A [(wk, .inr (6, [.ref k, .int 0, .int 0, .int 0]))] := hD
  have hP9 := mx_subP (wc := [(wk, .inr (6, [.ref k, .int 0, .int 0, .int 0]))]) hP [0] rfl
  have hD9 := hD.sub (ws' := [(wk, .inr (6, [.ref k, .int 0, .int 0, .int 0]))]) [0] (by decide) rfl
  exact W.vret hx hb hr (fun t ht hW => ⟨⟨(), rfl, trivial, by rw [ht]; exact hP9, hD9⟩, hS.F ht⟩) hS.2.2 dX6_init_9
