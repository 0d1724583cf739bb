set_option maxHeartbeats 4000000 in
set_option maxRecDepth 100000 in
theorem c_X8_goPlan_1000000000 (l : Launch) (dC : Nat → ClassId) (dI : Nat → Nat → Nat) (cI cZ cK : ClassId) (tS aK aV : Nat) (n : Nat) (nwi : Nat) (nco : Nat) (nqu : Nat) (nmi : Nat) (nde : Nat) (nsa : Nat) (nsm : Nat) (npa : Nat) (nac : Nat) (nam : Nat) (naw : Nat) (ncs : Nat) (nbw : Nat) (ndc : Nat) (nmk : Nat) (npo : Nat) (nta : Nat) (npl : Nat) (nmm : Nat) (ncu : Nat) (nke : Nat) (nik : Nat) (vmetres : Int32) (vshut : Int32) (vshield : Int32) (vtoday : Int32) (vbagged : Int32) (vwarmed : Int32) (vmeals : Int32) (vsights : Int32) (vpadMany : Int32) (vgusty : Int32) (vleakAct : Int32) (vleakMuch : Int32) (vendOfCan : Int32) (vbadAct : Int32) (vbadWhy : Int32) (vburnt : Int32) (vboiled : Int32) (vhadLeft : Int32) (vhadToday : Int32) (vhadBagged : Int32) (vhadWarmed : Int32) (vleaves : Int32) (vdayThen : Int32) (vcoldThen : Int32) (vportionMany : Int32) (vleakMany : Int32) (vleakActs : Int32) (vkeptAt : Int32) (visWriting : Int32) (fd : Nat → Int32) (fm : Nat → Int32) (sz : Nat) : Cv l yX8_goPlan (wq yX8_goPlan cX8_goPlan 3 none) ({ frames := 0, cells := 0, slots := 0, locals := 0 }) dC dI cI cZ cK tS aK aV [.ref n] sz [(n, .inr (8, [.int 1000000000, .int vmetres, .int vshut, .int vshield, .int vtoday, .int vbagged, .int vwarmed, .ref nwi, .ref nco, .int vmeals, .ref nqu, .ref nmi, .ref nde, .ref nsa, .ref nsm, .int vsights, .ref npa, .int vpadMany, .ref nac, .ref nam, .ref naw, .int 0, .int vgusty, .int vleakAct, .int vleakMuch, .int vendOfCan, .int vbadAct, .int vbadWhy, .int vburnt, .int vboiled, .ref ncs, .ref nbw, .ref ndc, .ref nmk, .int vhadLeft, .int vhadToday, .int vhadBagged, .int vhadWarmed, .int vleaves, .int vdayThen, .int vcoldThen, .ref npo, .int vportionMany, .ref nta, .ref npl, .int vleakMany, .int vleakActs, .ref nmm, .ref ncu, .ref nke, .ref nik, .int vkeptAt, .int visWriting])), (ndc, .inl (cI, 14, .inl fd)), (nmk, .inl (cI, 61, .inl fm))] (fun (u : Unit) => True) (fun _ => [(n, .inr (8, [.int 1000000000, .int vmetres, .int vshut, .int vshield, .int vtoday, .int vbagged, .int vwarmed, .ref nwi, .ref nco, .int vmeals, .ref nqu, .ref nmi, .ref nde, .ref nsa, .ref nsm, .int vsights, .ref npa, .int vpadMany, .ref nac, .ref nam, .ref naw, .int 0, .int vgusty, .int vleakAct, .int vleakMuch, .int vendOfCan, .int (-6), .int (-6), .int 0, .int 0, .ref ncs, .ref nbw, .ref ndc, .ref nmk, .int vhadLeft, .int vhadToday, .int vhadBagged, .int vhadWarmed, .int vleaves, .int vdayThen, .int vcoldThen, .ref npo, .int vportionMany, .ref nta, .ref npl, .int vleakMany, .int vleakActs, .ref nmm, .ref ncu, .ref nke, .ref nik, .int vkeptAt, .int visWriting])), (ndc, .inl (cI, 14, .inl (upd (upd (upd (upd (upd (upd (upd (upd (upd (upd (upd (upd (upd (upd fd 0 0) 1 0) 2 0) 3 0) 4 0) 5 0) 6 0) 7 0) 8 0) 9 0) 10 0) 11 0) 12 0) 13 0))), (nmk, .inl (cI, 61, .inl (upd fm 0 5000000)))]) := by
  refine Met.ofW (cc := cX8_goPlan) (maxL := 3) (ret := none) (by decide) rfl ?_
  intro p e s m args below meth c s₁ B hml hv
  obtain ⟨rfl, hsz, hP, hKx, hD0⟩ := hv
  have hx := B.exec
  have hb := B.bytes
  have hr := B.returns
  have hts := atoms_spec (ws := wq yX8_goPlan cX8_goPlan 3 none) B.pre
  have hown : s.vm.findClass RX8 = some m.cls := findClass_of_methodNamed B.named
  have hlocks := B.notSynchronized
  subst hsz
  have hD := hD0.self (sz := s.heap.size)
  generalize hAe : va_A [(n, .inr (8, [.int 1000000000, .int vmetres, .int vshut, .int vshield, .int vtoday, .int vbagged, .int vwarmed, .ref nwi, .ref nco, .int vmeals, .ref nqu, .ref nmi, .ref nde, .ref nsa, .ref nsm, .int vsights, .ref npa, .int vpadMany, .ref nac, .ref nam, .ref naw, .int 0, .int vgusty, .int vleakAct, .int vleakMuch, .int vendOfCan, .int vbadAct, .int vbadWhy, .int vburnt, .int vboiled, .ref ncs, .ref nbw, .ref ndc, .ref nmk, .int vhadLeft, .int vhadToday, .int vhadBagged, .int vhadWarmed, .int vleaves, .int vdayThen, .int vcoldThen, .ref npo, .int vportionMany, .ref nta, .ref npl, .int vleakMany, .int vleakActs, .ref nmm, .ref ncu, .ref nke, .ref nik, .int vkeptAt, .int visWriting])), (ndc, .inl (cI, 14, .inl fd)), (nmk, .inl (cI, 61, .inl fm))] s.heap.size = A at hD hKx ⊢
  have hA : ∀ q : Nat, s.heap.size ≤ q → A q := fun q h => by rw [← hAe]; exact Or.inr h
  have hS : va_S A s.heap s.heap [] := va_S.rf
  have hP : va_P (dC, dI) vwCl [(n, .inr (8, [.int 1000000000, .int vmetres, .int vshut, .int vshield, .int vtoday, .int vbagged, .int vwarmed, .ref nwi, .ref nco, .int vmeals, .ref nqu, .ref nmi, .ref nde, .ref nsa, .ref nsm, .int vsights, .ref npa, .int vpadMany, .ref nac, .ref nam, .ref naw, .int 0, .int vgusty, .int vleakAct, .int vleakMuch, .int vendOfCan, .int vbadAct, .int vbadWhy, .int vburnt, .int vboiled, .ref ncs, .ref nbw, .ref ndc, .ref nmk, .int vhadLeft, .int vhadToday, .int vhadBagged, .int vhadWarmed, .int vleaves, .int vdayThen, .int vcoldThen, .ref npo, .int vportionMany, .ref nta, .ref npl, .int vleakMany, .int vleakActs, .ref nmm, .ref ncu, .ref nke, .ref nik, .int vkeptAt, .int visWriting])), (ndc, .inl (cI, 14, .inl fd)), (nmk, .inl (cI, 61, .inl fm))] s.heap := hP
  have hl := lv_entry ([.ref n]) (n := 3) (Nat.le_of_ble_eq_true rfl)
  rw [lg_entry_eq]
  generalize (lg_sl ([.ref n]) ++ List.replicate (3 - (lg_sl ([.ref n])).length) Slot.unset).toArray = ls at hl ⊢
  have hl : lv_has ls 3 [(0, .ref n)] := hl
  have hK := hKx.1
  have hin8 := fun w9 h9 => List.mem_cons_of_mem (Cond.code yX8_goPlan cX8_goPlan 3 none) (inlX8 w9 h9)
  have hw0 := hts (.fieldLink RX8 179 "OneCanModel" "badAct" "I") (List.mem_cons_of_mem _ wm_447)
  have hw1 := hts (.fieldLink RX8 182 "OneCanModel" "badWhy" "I") (List.mem_cons_of_mem _ wm_448)
  have hw2 := hts (.fieldLink RX8 185 "OneCanModel" "burnt" "I") (List.mem_cons_of_mem _ wm_449)
  have hw3 := hts (.fieldLink RX8 188 "OneCanModel" "boiled" "I") (List.mem_cons_of_mem _ wm_450)
  have hw4 := hts (.fieldLink RX8 49 "OneCanModel" "dayCosts" "[I") (List.mem_cons_of_mem _ wm_451)
  have hw5 := hts (.fieldLink RX8 52 "OneCanModel" "marks" "[I") (List.mem_cons_of_mem _ wm_452)
  have hw6 := hts (.fieldLink RX8 77 "OneCanModel" "left" "I") (List.mem_cons_of_mem _ wm_389)
  have hw7 := hts (.fieldLink RX8 137 "OneCanModel" "acts" "I") (List.mem_cons_of_mem _ wm_438)
  refine lv_aload_n hx hb dX8_goPlan_0 rfl (lv_at hl 0 rfl) ?_
  refine lv_bipush (v := (-6)) hx hb dX8_goPlan_1 (by decide) ?_
  refine va_put (D := (dC, dI)) (ci := 8) (v := .int (-6)) (ty := .int) (C := RX8) (T := TX8) (N := 53) hx hb hts hin8 tyX8 tyX8_ok nmX8 hown hK hP hD hS 0 rfl rfl 26 (by decide) hw0 (fun _ h9 => h9) rfl (by decide +kernel) rfl rfl (Nat.le_of_ble_eq_true rfl) dX8_goPlan_3 (fun H locs hP hD hS => ?_)
  replace hP : va_P (dC, dI) vwCl [(n, .inr (8, [.int 1000000000, .int vmetres, .int vshut, .int vshield, .int vtoday, .int vbagged, .int vwarmed, .ref nwi, .ref nco, .int vmeals, .ref nqu, .ref nmi, .ref nde, .ref nsa, .ref nsm, .int vsights, .ref npa, .int vpadMany, .ref nac, .ref nam, .ref naw, .int 0, .int vgusty, .int vleakAct, .int vleakMuch, .int vendOfCan, .int (-6), .int vbadWhy, .int vburnt, .int vboiled, .ref ncs, .ref nbw, .ref ndc, .ref nmk, .int vhadLeft, .int vhadToday, .int vhadBagged, .int vhadWarmed, .int vleaves, .int vdayThen, .int vcoldThen, .ref npo, .int vportionMany, .ref nta, .ref npl, .int vleakMany, .int vleakActs, .ref nmm, .ref ncu, .ref nke, .ref nik, .int vkeptAt, .int visWriting])), (ndc, .inl (cI, 14, .inl fd)), (nmk, .inl (cI, 61, .inl fm))] H := hP
  replace hD : va_D A [(n, .inr (8, [.int 1000000000, .int vmetres, .int vshut, .int vshield, .int vtoday, .int vbagged, .int vwarmed, .ref nwi, .ref nco, .int vmeals, .ref nqu, .ref nmi, .ref nde, .ref nsa, .ref nsm, .int vsights, .ref npa, .int vpadMany, .ref nac, .ref nam, .ref naw, .int 0, .int vgusty, .int vleakAct, .int vleakMuch, .int vendOfCan, .int (-6), .int vbadWhy, .int vburnt, .int vboiled, .ref ncs, .ref nbw, .ref ndc, .ref nmk, .int vhadLeft, .int vhadToday, .int vhadBagged, .int vhadWarmed, .int vleaves, .int vdayThen, .int vcoldThen, .ref npo, .int vportionMany, .ref nta, .ref npl, .int vleakMany, .int vleakActs, .ref nmm, .ref ncu, .ref nke, .ref nik, .int vkeptAt, .int visWriting])), (ndc, .inl (cI, 14, .inl fd)), (nmk, .inl (cI, 61, .inl fm))] := hD
  refine lv_aload_n hx hb dX8_goPlan_6 rfl (lv_at hl 0 rfl) ?_
  refine lv_bipush (v := (-6)) hx hb dX8_goPlan_7 (by decide) ?_
  refine va_put (D := (dC, dI)) (ci := 8) (v := .int (-6)) (ty := .int) (C := RX8) (T := TX8) (N := 53) hx hb hts hin8 tyX8 tyX8_ok nmX8 hown hK hP hD hS 0 rfl rfl 27 (by decide) hw1 (fun _ h9 => h9) rfl (by decide +kernel) rfl rfl (Nat.le_of_ble_eq_true rfl) dX8_goPlan_9 (fun H locs hP hD hS => ?_)
  replace hP : va_P (dC, dI) vwCl [(n, .inr (8, [.int 1000000000, .int vmetres, .int vshut, .int vshield, .int vtoday, .int vbagged, .int vwarmed, .ref nwi, .ref nco, .int vmeals, .ref nqu, .ref nmi, .ref nde, .ref nsa, .ref nsm, .int vsights, .ref npa, .int vpadMany, .ref nac, .ref nam, .ref naw, .int 0, .int vgusty, .int vleakAct, .int vleakMuch, .int vendOfCan, .int (-6), .int (-6), .int vburnt, .int vboiled, .ref ncs, .ref nbw, .ref ndc, .ref nmk, .int vhadLeft, .int vhadToday, .int vhadBagged, .int vhadWarmed, .int vleaves, .int vdayThen, .int vcoldThen, .ref npo, .int vportionMany, .ref nta, .ref npl, .int vleakMany, .int vleakActs, .ref nmm, .ref ncu, .ref nke, .ref nik, .int vkeptAt, .int visWriting])), (ndc, .inl (cI, 14, .inl fd)), (nmk, .inl (cI, 61, .inl fm))] H := hP
  replace hD : va_D A [(n, .inr (8, [.int 1000000000, .int vmetres, .int vshut, .int vshield, .int vtoday, .int vbagged, .int vwarmed, .ref nwi, .ref nco, .int vmeals, .ref nqu, .ref nmi, .ref nde, .ref nsa, .ref nsm, .int vsights, .ref npa, .int vpadMany, .ref nac, .ref nam, .ref naw, .int 0, .int vgusty, .int vleakAct, .int vleakMuch, .int vendOfCan, .int (-6), .int (-6), .int vburnt, .int vboiled, .ref ncs, .ref nbw, .ref ndc, .ref nmk, .int vhadLeft, .int vhadToday, .int vhadBagged, .int vhadWarmed, .int vleaves, .int vdayThen, .int vcoldThen, .ref npo, .int vportionMany, .ref nta, .ref npl, .int vleakMany, .int vleakActs, .ref nmm, .ref ncu, .ref nke, .ref nik, .int vkeptAt, .int visWriting])), (ndc, .inl (cI, 14, .inl fd)), (nmk, .inl (cI, 61, .inl fm))] := hD
  refine lv_aload_n hx hb dX8_goPlan_12 rfl (lv_at hl 0 rfl) ?_
  refine lv_iconst (v := 0) hx hb dX8_goPlan_13 (by decide) ?_
  refine va_put (D := (dC, dI)) (ci := 8) (v := .int 0) (ty := .int) (C := RX8) (T := TX8) (N := 53) hx hb hts hin8 tyX8 tyX8_ok nmX8 hown hK hP hD hS 0 rfl rfl 28 (by decide) hw2 (fun _ h9 => h9) rfl (by decide +kernel) rfl rfl (Nat.le_of_ble_eq_true rfl) dX8_goPlan_14 (fun H locs hP hD hS => ?_)
  replace hP : va_P (dC, dI) vwCl [(n, .inr (8, [.int 1000000000, .int vmetres, .int vshut, .int vshield, .int vtoday, .int vbagged, .int vwarmed, .ref nwi, .ref nco, .int vmeals, .ref nqu, .ref nmi, .ref nde, .ref nsa, .ref nsm, .int vsights, .ref npa, .int vpadMany, .ref nac, .ref nam, .ref naw, .int 0, .int vgusty, .int vleakAct, .int vleakMuch, .int vendOfCan, .int (-6), .int (-6), .int 0, .int vboiled, .ref ncs, .ref nbw, .ref ndc, .ref nmk, .int vhadLeft, .int vhadToday, .int vhadBagged, .int vhadWarmed, .int vleaves, .int vdayThen, .int vcoldThen, .ref npo, .int vportionMany, .ref nta, .ref npl, .int vleakMany, .int vleakActs, .ref nmm, .ref ncu, .ref nke, .ref nik, .int vkeptAt, .int visWriting])), (ndc, .inl (cI, 14, .inl fd)), (nmk, .inl (cI, 61, .inl fm))] H := hP
  replace hD : va_D A [(n, .inr (8, [.int 1000000000, .int vmetres, .int vshut, .int vshield, .int vtoday, .int vbagged, .int vwarmed, .ref nwi, .ref nco, .int vmeals, .ref nqu, .ref nmi, .ref nde, .ref nsa, .ref nsm, .int vsights, .ref npa, .int vpadMany, .ref nac, .ref nam, .ref naw, .int 0, .int vgusty, .int vleakAct, .int vleakMuch, .int vendOfCan, .int (-6), .int (-6), .int 0, .int vboiled, .ref ncs, .ref nbw, .ref ndc, .ref nmk, .int vhadLeft, .int vhadToday, .int vhadBagged, .int vhadWarmed, .int vleaves, .int vdayThen, .int vcoldThen, .ref npo, .int vportionMany, .ref nta, .ref npl, .int vleakMany, .int vleakActs, .ref nmm, .ref ncu, .ref nke, .ref nik, .int vkeptAt, .int visWriting])), (ndc, .inl (cI, 14, .inl fd)), (nmk, .inl (cI, 61, .inl fm))] := hD
  refine lv_aload_n hx hb dX8_goPlan_17 rfl (lv_at hl 0 rfl) ?_
  refine lv_iconst (v := 0) hx hb dX8_goPlan_18 (by decide) ?_
  refine va_put (D := (dC, dI)) (ci := 8) (v := .int 0) (ty := .int) (C := RX8) (T := TX8) (N := 53) hx hb hts hin8 tyX8 tyX8_ok nmX8 hown hK hP hD hS 0 rfl rfl 29 (by decide) hw3 (fun _ h9 => h9) rfl (by decide +kernel) rfl rfl (Nat.le_of_ble_eq_true rfl) dX8_goPlan_19 (fun H locs hP hD hS => ?_)
  replace hP : va_P (dC, dI) vwCl [(n, .inr (8, [.int 1000000000, .int vmetres, .int vshut, .int vshield, .int vtoday, .int vbagged, .int vwarmed, .ref nwi, .ref nco, .int vmeals, .ref nqu, .ref nmi, .ref nde, .ref nsa, .ref nsm, .int vsights, .ref npa, .int vpadMany, .ref nac, .ref nam, .ref naw, .int 0, .int vgusty, .int vleakAct, .int vleakMuch, .int vendOfCan, .int (-6), .int (-6), .int 0, .int 0, .ref ncs, .ref nbw, .ref ndc, .ref nmk, .int vhadLeft, .int vhadToday, .int vhadBagged, .int vhadWarmed, .int vleaves, .int vdayThen, .int vcoldThen, .ref npo, .int vportionMany, .ref nta, .ref npl, .int vleakMany, .int vleakActs, .ref nmm, .ref ncu, .ref nke, .ref nik, .int vkeptAt, .int visWriting])), (ndc, .inl (cI, 14, .inl fd)), (nmk, .inl (cI, 61, .inl fm))] H := hP
  replace hD : va_D A [(n, .inr (8, [.int 1000000000, .int vmetres, .int vshut, .int vshield, .int vtoday, .int vbagged, .int vwarmed, .ref nwi, .ref nco, .int vmeals, .ref nqu, .ref nmi, .ref nde, .ref nsa, .ref nsm, .int vsights, .ref npa, .int vpadMany, .ref nac, .ref nam, .ref naw, .int 0, .int vgusty, .int vleakAct, .int vleakMuch, .int vendOfCan, .int (-6), .int (-6), .int 0, .int 0, .ref ncs, .ref nbw, .ref ndc, .ref nmk, .int vhadLeft, .int vhadToday, .int vhadBagged, .int vhadWarmed, .int vleaves, .int vdayThen, .int vcoldThen, .ref npo, .int vportionMany, .ref nta, .ref npl, .int vleakMany, .int vleakActs, .ref nmm, .ref ncu, .ref nke, .ref nik, .int vkeptAt, .int visWriting])), (ndc, .inl (cI, 14, .inl fd)), (nmk, .inl (cI, 61, .inl fm))] := hD
  refine lv_iconst (v := 0) hx hb dX8_goPlan_22 (by decide) ?_
  refine lv_istore_n (lv' := [(1, .int 0), (0, .ref n)]) hx hb dX8_goPlan_23 rfl hl (by decide) rfl (fun ls hl => ?_)
  refine lv_iload_n hx hb dX8_goPlan_24 rfl (lv_at hl 0 rfl) ?_
  refine lv_bipush (v := 14) hx hb dX8_goPlan_25 (by decide) ?_
  refine lv_icmp_ge (tgt := 43) hx hb dX8_goPlan_27 (by decide) (fun c1 => absurd c1 (by decide)) (fun c1 => ?_)
  refine lv_aload_n hx hb dX8_goPlan_30 rfl (lv_at hl 1 rfl) ?_
  refine va_get (D := (dC, dI)) (ci := 8) (v := .ref ndc) (C := RX8) (T := TX8) (N := 53) hx hb hts hin8 hown hK hP 0 rfl rfl 32 (by decide) hw4 (fun _ h9 => h9) rfl dX8_goPlan_31 ?_
  refine lv_iload_n hx hb dX8_goPlan_34 rfl (lv_at hl 0 rfl) ?_
  refine lv_iconst (v := 0) hx hb dX8_goPlan_35 (by decide) ?_
  refine va_iast hx hb hK hP hD hS 1 0 rfl rfl (vin (by decide) (by decide)) dX8_goPlan_36 (fun H locs hP hD hS => ?_)
  replace hP : va_P (dC, dI) vwCl [(n, .inr (8, [.int 1000000000, .int vmetres, .int vshut, .int vshield, .int vtoday, .int vbagged, .int vwarmed, .ref nwi, .ref nco, .int vmeals, .ref nqu, .ref nmi, .ref nde, .ref nsa, .ref nsm, .int vsights, .ref npa, .int vpadMany, .ref nac, .ref nam, .ref naw, .int 0, .int vgusty, .int vleakAct, .int vleakMuch, .int vendOfCan, .int (-6), .int (-6), .int 0, .int 0, .ref ncs, .ref nbw, .ref ndc, .ref nmk, .int vhadLeft, .int vhadToday, .int vhadBagged, .int vhadWarmed, .int vleaves, .int vdayThen, .int vcoldThen, .ref npo, .int vportionMany, .ref nta, .ref npl, .int vleakMany, .int vleakActs, .ref nmm, .ref ncu, .ref nke, .ref nik, .int vkeptAt, .int visWriting])), (ndc, .inl (cI, 14, .inl (upd fd 0 0))), (nmk, .inl (cI, 61, .inl fm))] H := hP
  replace hD : va_D A [(n, .inr (8, [.int 1000000000, .int vmetres, .int vshut, .int vshield, .int vtoday, .int vbagged, .int vwarmed, .ref nwi, .ref nco, .int vmeals, .ref nqu, .ref nmi, .ref nde, .ref nsa, .ref nsm, .int vsights, .ref npa, .int vpadMany, .ref nac, .ref nam, .ref naw, .int 0, .int vgusty, .int vleakAct, .int vleakMuch, .int vendOfCan, .int (-6), .int (-6), .int 0, .int 0, .ref ncs, .ref nbw, .ref ndc, .ref nmk, .int vhadLeft, .int vhadToday, .int vhadBagged, .int vhadWarmed, .int vleaves, .int vdayThen, .int vcoldThen, .ref npo, .int vportionMany, .ref nta, .ref npl, .int vleakMany, .int vleakActs, .ref nmm, .ref ncu, .ref nke, .ref nik, .int vkeptAt, .int visWriting])), (ndc, .inl (cI, 14, .inl (upd fd 0 0))), (nmk, .inl (cI, 61, .inl fm))] := hD
  refine lv_iinc (v := 1) (lv' := [(1, .int 1), (0, .ref n)]) hx hb dX8_goPlan_37 hl (k := 0) rfl (by decide) (by decide) rfl (fun ls hl => ?_)
  refine lv_goto (tgt := 24) hx hb dX8_goPlan_40 (by decide) ?_
  refine lv_iload_n hx hb dX8_goPlan_24 rfl (lv_at hl 0 rfl) ?_
  refine lv_bipush (v := 14) hx hb dX8_goPlan_25 (by decide) ?_
  refine lv_icmp_ge (tgt := 43) hx hb dX8_goPlan_27 (by decide) (fun c2 => absurd c2 (by decide)) (fun c2 => ?_)
  refine lv_aload_n hx hb dX8_goPlan_30 rfl (lv_at hl 1 rfl) ?_
  refine va_get (D := (dC, dI)) (ci := 8) (v := .ref ndc) (C := RX8) (T := TX8) (N := 53) hx hb hts hin8 hown hK hP 0 rfl rfl 32 (by decide) hw4 (fun _ h9 => h9) rfl dX8_goPlan_31 ?_
  refine lv_iload_n hx hb dX8_goPlan_34 rfl (lv_at hl 0 rfl) ?_
  refine lv_iconst (v := 0) hx hb dX8_goPlan_35 (by decide) ?_
  refine va_iast hx hb hK hP hD hS 1 0 rfl rfl (vin (by decide) (by decide)) dX8_goPlan_36 (fun H locs hP hD hS => ?_)
  replace hP : va_P (dC, dI) vwCl [(n, .inr (8, [.int 1000000000, .int vmetres, .int vshut, .int vshield, .int vtoday, .int vbagged, .int vwarmed, .ref nwi, .ref nco, .int vmeals, .ref nqu, .ref nmi, .ref nde, .ref nsa, .ref nsm, .int vsights, .ref npa, .int vpadMany, .ref nac, .ref nam, .ref naw, .int 0, .int vgusty, .int vleakAct, .int vleakMuch, .int vendOfCan, .int (-6), .int (-6), .int 0, .int 0, .ref ncs, .ref nbw, .ref ndc, .ref nmk, .int vhadLeft, .int vhadToday, .int vhadBagged, .int vhadWarmed, .int vleaves, .int vdayThen, .int vcoldThen, .ref npo, .int vportionMany, .ref nta, .ref npl, .int vleakMany, .int vleakActs, .ref nmm, .ref ncu, .ref nke, .ref nik, .int vkeptAt, .int visWriting])), (ndc, .inl (cI, 14, .inl (upd (upd fd 0 0) 1 0))), (nmk, .inl (cI, 61, .inl fm))] H := hP
  replace hD : va_D A [(n, .inr (8, [.int 1000000000, .int vmetres, .int vshut, .int vshield, .int vtoday, .int vbagged, .int vwarmed, .ref nwi, .ref nco, .int vmeals, .ref nqu, .ref nmi, .ref nde, .ref nsa, .ref nsm, .int vsights, .ref npa, .int vpadMany, .ref nac, .ref nam, .ref naw, .int 0, .int vgusty, .int vleakAct, .int vleakMuch, .int vendOfCan, .int (-6), .int (-6), .int 0, .int 0, .ref ncs, .ref nbw, .ref ndc, .ref nmk, .int vhadLeft, .int vhadToday, .int vhadBagged, .int vhadWarmed, .int vleaves, .int vdayThen, .int vcoldThen, .ref npo, .int vportionMany, .ref nta, .ref npl, .int vleakMany, .int vleakActs, .ref nmm, .ref ncu, .ref nke, .ref nik, .int vkeptAt, .int visWriting])), (ndc, .inl (cI, 14, .inl (upd (upd fd 0 0) 1 0))), (nmk, .inl (cI, 61, .inl fm))] := hD
  refine lv_iinc (v := 2) (lv' := [(1, .int 2), (0, .ref n)]) hx hb dX8_goPlan_37 hl (k := 0) rfl (by decide) (by decide) rfl (fun ls hl => ?_)
  refine lv_goto (tgt := 24) hx hb dX8_goPlan_40 (by decide) ?_
  refine lv_iload_n hx hb dX8_goPlan_24 rfl (lv_at hl 0 rfl) ?_
  refine lv_bipush (v := 14) hx hb dX8_goPlan_25 (by decide) ?_
  refine lv_icmp_ge (tgt := 43) hx hb dX8_goPlan_27 (by decide) (fun c3 => absurd c3 (by decide)) (fun c3 => ?_)
  refine lv_aload_n hx hb dX8_goPlan_30 rfl (lv_at hl 1 rfl) ?_
  refine va_get (D := (dC, dI)) (ci := 8) (v := .ref ndc) (C := RX8) (T := TX8) (N := 53) hx hb hts hin8 hown hK hP 0 rfl rfl 32 (by decide) hw4 (fun _ h9 => h9) rfl dX8_goPlan_31 ?_
  refine lv_iload_n hx hb dX8_goPlan_34 rfl (lv_at hl 0 rfl) ?_
  refine lv_iconst (v := 0) hx hb dX8_goPlan_35 (by decide) ?_
  refine va_iast hx hb hK hP hD hS 1 0 rfl rfl (vin (by decide) (by decide)) dX8_goPlan_36 (fun H locs hP hD hS => ?_)
  replace hP : va_P (dC, dI) vwCl [(n, .inr (8, [.int 1000000000, .int vmetres, .int vshut, .int vshield, .int vtoday, .int vbagged, .int vwarmed, .ref nwi, .ref nco, .int vmeals, .ref nqu, .ref nmi, .ref nde, .ref nsa, .ref nsm, .int vsights, .ref npa, .int vpadMany, .ref nac, .ref nam, .ref naw, .int 0, .int vgusty, .int vleakAct, .int vleakMuch, .int vendOfCan, .int (-6), .int (-6), .int 0, .int 0, .ref ncs, .ref nbw, .ref ndc, .ref nmk, .int vhadLeft, .int vhadToday, .int vhadBagged, .int vhadWarmed, .int vleaves, .int vdayThen, .int vcoldThen, .ref npo, .int vportionMany, .ref nta, .ref npl, .int vleakMany, .int vleakActs, .ref nmm, .ref ncu, .ref nke, .ref nik, .int vkeptAt, .int visWriting])), (ndc, .inl (cI, 14, .inl (upd (upd (upd fd 0 0) 1 0) 2 0))), (nmk, .inl (cI, 61, .inl fm))] H := hP
  replace hD : va_D A [(n, .inr (8, [.int 1000000000, .int vmetres, .int vshut, .int vshield, .int vtoday, .int vbagged, .int vwarmed, .ref nwi, .ref nco, .int vmeals, .ref nqu, .ref nmi, .ref nde, .ref nsa, .ref nsm, .int vsights, .ref npa, .int vpadMany, .ref nac, .ref nam, .ref naw, .int 0, .int vgusty, .int vleakAct, .int vleakMuch, .int vendOfCan, .int (-6), .int (-6), .int 0, .int 0, .ref ncs, .ref nbw, .ref ndc, .ref nmk, .int vhadLeft, .int vhadToday, .int vhadBagged, .int vhadWarmed, .int vleaves, .int vdayThen, .int vcoldThen, .ref npo, .int vportionMany, .ref nta, .ref npl, .int vleakMany, .int vleakActs, .ref nmm, .ref ncu, .ref nke, .ref nik, .int vkeptAt, .int visWriting])), (ndc, .inl (cI, 14, .inl (upd (upd (upd fd 0 0) 1 0) 2 0))), (nmk, .inl (cI, 61, .inl fm))] := hD
  refine lv_iinc (v := 3) (lv' := [(1, .int 3), (0, .ref n)]) hx hb dX8_goPlan_37 hl (k := 0) rfl (by decide) (by decide) rfl (fun ls hl => ?_)
  refine lv_goto (tgt := 24) hx hb dX8_goPlan_40 (by decide) ?_
  refine lv_iload_n hx hb dX8_goPlan_24 rfl (lv_at hl 0 rfl) ?_
  refine lv_bipush (v := 14) hx hb dX8_goPlan_25 (by decide) ?_
  refine lv_icmp_ge (tgt := 43) hx hb dX8_goPlan_27 (by decide) (fun c4 => absurd c4 (by decide)) (fun c4 => ?_)
  refine lv_aload_n hx hb dX8_goPlan_30 rfl (lv_at hl 1 rfl) ?_
  refine va_get (D := (dC, dI)) (ci := 8) (v := .ref ndc) (C := RX8) (T := TX8) (N := 53) hx hb hts hin8 hown hK hP 0 rfl rfl 32 (by decide) hw4 (fun _ h9 => h9) rfl dX8_goPlan_31 ?_
  refine lv_iload_n hx hb dX8_goPlan_34 rfl (lv_at hl 0 rfl) ?_
  refine lv_iconst (v := 0) hx hb dX8_goPlan_35 (by decide) ?_
  refine va_iast hx hb hK hP hD hS 1 0 rfl rfl (vin (by decide) (by decide)) dX8_goPlan_36 (fun H locs hP hD hS => ?_)
  replace hP : va_P (dC, dI) vwCl [(n, .inr (8, [.int 1000000000, .int vmetres, .int vshut, .int vshield, .int vtoday, .int vbagged, .int vwarmed, .ref nwi, .ref nco, .int vmeals, .ref nqu, .ref nmi, .ref nde, .ref nsa, .ref nsm, .int vsights, .ref npa, .int vpadMany, .ref nac, .ref nam, .ref naw, .int 0, .int vgusty, .int vleakAct, .int vleakMuch, .int vendOfCan, .int (-6), .int (-6), .int 0, .int 0, .ref ncs, .ref nbw, .ref ndc, .ref nmk, .int vhadLeft, .int vhadToday, .int vhadBagged, .int vhadWarmed, .int vleaves, .int vdayThen, .int vcoldThen, .ref npo, .int vportionMany, .ref nta, .ref npl, .int vleakMany, .int vleakActs, .ref nmm, .ref ncu, .ref nke, .ref nik, .int vkeptAt, .int visWriting])), (ndc, .inl (cI, 14, .inl (upd (upd (upd (upd fd 0 0) 1 0) 2 0) 3 0))), (nmk, .inl (cI, 61, .inl fm))] H := hP
  replace hD : va_D A [(n, .inr (8, [.int 1000000000, .int vmetres, .int vshut, .int vshield, .int vtoday, .int vbagged, .int vwarmed, .ref nwi, .ref nco, .int vmeals, .ref nqu, .ref nmi, .ref nde, .ref nsa, .ref nsm, .int vsights, .ref npa, .int vpadMany, .ref nac, .ref nam, .ref naw, .int 0, .int vgusty, .int vleakAct, .int vleakMuch, .int vendOfCan, .int (-6), .int (-6), .int 0, .int 0, .ref ncs, .ref nbw, .ref ndc, .ref nmk, .int vhadLeft, .int vhadToday, .int vhadBagged, .int vhadWarmed, .int vleaves, .int vdayThen, .int vcoldThen, .ref npo, .int vportionMany, .ref nta, .ref npl, .int vleakMany, .int vleakActs, .ref nmm, .ref ncu, .ref nke, .ref nik, .int vkeptAt, .int visWriting])), (ndc, .inl (cI, 14, .inl (upd (upd (upd (upd fd 0 0) 1 0) 2 0) 3 0))), (nmk, .inl (cI, 61, .inl fm))] := hD
  refine lv_iinc (v := 4) (lv' := [(1, .int 4), (0, .ref n)]) hx hb dX8_goPlan_37 hl (k := 0) rfl (by decide) (by decide) rfl (fun ls hl => ?_)
  refine lv_goto (tgt := 24) hx hb dX8_goPlan_40 (by decide) ?_
  refine lv_iload_n hx hb dX8_goPlan_24 rfl (lv_at hl 0 rfl) ?_
  refine lv_bipush (v := 14) hx hb dX8_goPlan_25 (by decide) ?_
  refine lv_icmp_ge (tgt := 43) hx hb dX8_goPlan_27 (by decide) (fun c5 => absurd c5 (by decide)) (fun c5 => ?_)
  refine lv_aload_n hx hb dX8_goPlan_30 rfl (lv_at hl 1 rfl) ?_
  refine va_get (D := (dC, dI)) (ci := 8) (v := .ref ndc) (C := RX8) (T := TX8) (N := 53) hx hb hts hin8 hown hK hP 0 rfl rfl 32 (by decide) hw4 (fun _ h9 => h9) rfl dX8_goPlan_31 ?_
  refine lv_iload_n hx hb dX8_goPlan_34 rfl (lv_at hl 0 rfl) ?_
  refine lv_iconst (v := 0) hx hb dX8_goPlan_35 (by decide) ?_
  refine va_iast hx hb hK hP hD hS 1 0 rfl rfl (vin (by decide) (by decide)) dX8_goPlan_36 (fun H locs hP hD hS => ?_)
  replace hP : va_P (dC, dI) vwCl [(n, .inr (8, [.int 1000000000, .int vmetres, .int vshut, .int vshield, .int vtoday, .int vbagged, .int vwarmed, .ref nwi, .ref nco, .int vmeals, .ref nqu, .ref nmi, .ref nde, .ref nsa, .ref nsm, .int vsights, .ref npa, .int vpadMany, .ref nac, .ref nam, .ref naw, .int 0, .int vgusty, .int vleakAct, .int vleakMuch, .int vendOfCan, .int (-6), .int (-6), .int 0, .int 0, .ref ncs, .ref nbw, .ref ndc, .ref nmk, .int vhadLeft, .int vhadToday, .int vhadBagged, .int vhadWarmed, .int vleaves, .int vdayThen, .int vcoldThen, .ref npo, .int vportionMany, .ref nta, .ref npl, .int vleakMany, .int vleakActs, .ref nmm, .ref ncu, .ref nke, .ref nik, .int vkeptAt, .int visWriting])), (ndc, .inl (cI, 14, .inl (upd (upd (upd (upd (upd fd 0 0) 1 0) 2 0) 3 0) 4 0))), (nmk, .inl (cI, 61, .inl fm))] H := hP
  replace hD : va_D A [(n, .inr (8, [.int 1000000000, .int vmetres, .int vshut, .int vshield, .int vtoday, .int vbagged, .int vwarmed, .ref nwi, .ref nco, .int vmeals, .ref nqu, .ref nmi, .ref nde, .ref nsa, .ref nsm, .int vsights, .ref npa, .int vpadMany, .ref nac, .ref nam, .ref naw, .int 0, .int vgusty, .int vleakAct, .int vleakMuch, .int vendOfCan, .int (-6), .int (-6), .int 0, .int 0, .ref ncs, .ref nbw, .ref ndc, .ref nmk, .int vhadLeft, .int vhadToday, .int vhadBagged, .int vhadWarmed, .int vleaves, .int vdayThen, .int vcoldThen, .ref npo, .int vportionMany, .ref nta, .ref npl, .int vleakMany, .int vleakActs, .ref nmm, .ref ncu, .ref nke, .ref nik, .int vkeptAt, .int visWriting])), (ndc, .inl (cI, 14, .inl (upd (upd (upd (upd (upd fd 0 0) 1 0) 2 0) 3 0) 4 0))), (nmk, .inl (cI, 61, .inl fm))] := hD
  refine lv_iinc (v := 5) (lv' := [(1, .int 5), (0, .ref n)]) hx hb dX8_goPlan_37 hl (k := 0) rfl (by decide) (by decide) rfl (fun ls hl => ?_)
  refine lv_goto (tgt := 24) hx hb dX8_goPlan_40 (by decide) ?_
  refine lv_iload_n hx hb dX8_goPlan_24 rfl (lv_at hl 0 rfl) ?_
  refine lv_bipush (v := 14) hx hb dX8_goPlan_25 (by decide) ?_
  refine lv_icmp_ge (tgt := 43) hx hb dX8_goPlan_27 (by decide) (fun c6 => absurd c6 (by decide)) (fun c6 => ?_)
  refine lv_aload_n hx hb dX8_goPlan_30 rfl (lv_at hl 1 rfl) ?_
  refine va_get (D := (dC, dI)) (ci := 8) (v := .ref ndc) (C := RX8) (T := TX8) (N := 53) hx hb hts hin8 hown hK hP 0 rfl rfl 32 (by decide) hw4 (fun _ h9 => h9) rfl dX8_goPlan_31 ?_
  refine lv_iload_n hx hb dX8_goPlan_34 rfl (lv_at hl 0 rfl) ?_
  refine lv_iconst (v := 0) hx hb dX8_goPlan_35 (by decide) ?_
  refine va_iast hx hb hK hP hD hS 1 0 rfl rfl (vin (by decide) (by decide)) dX8_goPlan_36 (fun H locs hP hD hS => ?_)
  replace hP : va_P (dC, dI) vwCl [(n, .inr (8, [.int 1000000000, .int vmetres, .int vshut, .int vshield, .int vtoday, .int vbagged, .int vwarmed, .ref nwi, .ref nco, .int vmeals, .ref nqu, .ref nmi, .ref nde, .ref nsa, .ref nsm, .int vsights, .ref npa, .int vpadMany, .ref nac, .ref nam, .ref naw, .int 0, .int vgusty, .int vleakAct, .int vleakMuch, .int vendOfCan, .int (-6), .int (-6), .int 0, .int 0, .ref ncs, .ref nbw, .ref ndc, .ref nmk, .int vhadLeft, .int vhadToday, .int vhadBagged, .int vhadWarmed, .int vleaves, .int vdayThen, .int vcoldThen, .ref npo, .int vportionMany, .ref nta, .ref npl, .int vleakMany, .int vleakActs, .ref nmm, .ref ncu, .ref nke, .ref nik, .int vkeptAt, .int visWriting])), (ndc, .inl (cI, 14, .inl (upd (upd (upd (upd (upd (upd fd 0 0) 1 0) 2 0) 3 0) 4 0) 5 0))), (nmk, .inl (cI, 61, .inl fm))] H := hP
  replace hD : va_D A [(n, .inr (8, [.int 1000000000, .int vmetres, .int vshut, .int vshield, .int vtoday, .int vbagged, .int vwarmed, .ref nwi, .ref nco, .int vmeals, .ref nqu, .ref nmi, .ref nde, .ref nsa, .ref nsm, .int vsights, .ref npa, .int vpadMany, .ref nac, .ref nam, .ref naw, .int 0, .int vgusty, .int vleakAct, .int vleakMuch, .int vendOfCan, .int (-6), .int (-6), .int 0, .int 0, .ref ncs, .ref nbw, .ref ndc, .ref nmk, .int vhadLeft, .int vhadToday, .int vhadBagged, .int vhadWarmed, .int vleaves, .int vdayThen, .int vcoldThen, .ref npo, .int vportionMany, .ref nta, .ref npl, .int vleakMany, .int vleakActs, .ref nmm, .ref ncu, .ref nke, .ref nik, .int vkeptAt, .int visWriting])), (ndc, .inl (cI, 14, .inl (upd (upd (upd (upd (upd (upd fd 0 0) 1 0) 2 0) 3 0) 4 0) 5 0))), (nmk, .inl (cI, 61, .inl fm))] := hD
  refine lv_iinc (v := 6) (lv' := [(1, .int 6), (0, .ref n)]) hx hb dX8_goPlan_37 hl (k := 0) rfl (by decide) (by decide) rfl (fun ls hl => ?_)
  refine lv_goto (tgt := 24) hx hb dX8_goPlan_40 (by decide) ?_
  refine lv_iload_n hx hb dX8_goPlan_24 rfl (lv_at hl 0 rfl) ?_
  refine lv_bipush (v := 14) hx hb dX8_goPlan_25 (by decide) ?_
  refine lv_icmp_ge (tgt := 43) hx hb dX8_goPlan_27 (by decide) (fun c7 => absurd c7 (by decide)) (fun c7 => ?_)
  refine lv_aload_n hx hb dX8_goPlan_30 rfl (lv_at hl 1 rfl) ?_
  refine va_get (D := (dC, dI)) (ci := 8) (v := .ref ndc) (C := RX8) (T := TX8) (N := 53) hx hb hts hin8 hown hK hP 0 rfl rfl 32 (by decide) hw4 (fun _ h9 => h9) rfl dX8_goPlan_31 ?_
  refine lv_iload_n hx hb dX8_goPlan_34 rfl (lv_at hl 0 rfl) ?_
  refine lv_iconst (v := 0) hx hb dX8_goPlan_35 (by decide) ?_
  refine va_iast hx hb hK hP hD hS 1 0 rfl rfl (vin (by decide) (by decide)) dX8_goPlan_36 (fun H locs hP hD hS => ?_)
  replace hP : va_P (dC, dI) vwCl [(n, .inr (8, [.int 1000000000, .int vmetres, .int vshut, .int vshield, .int vtoday, .int vbagged, .int vwarmed, .ref nwi, .ref nco, .int vmeals, .ref nqu, .ref nmi, .ref nde, .ref nsa, .ref nsm, .int vsights, .ref npa, .int vpadMany, .ref nac, .ref nam, .ref naw, .int 0, .int vgusty, .int vleakAct, .int vleakMuch, .int vendOfCan, .int (-6), .int (-6), .int 0, .int 0, .ref ncs, .ref nbw, .ref ndc, .ref nmk, .int vhadLeft, .int vhadToday, .int vhadBagged, .int vhadWarmed, .int vleaves, .int vdayThen, .int vcoldThen, .ref npo, .int vportionMany, .ref nta, .ref npl, .int vleakMany, .int vleakActs, .ref nmm, .ref ncu, .ref nke, .ref nik, .int vkeptAt, .int visWriting])), (ndc, .inl (cI, 14, .inl (upd (upd (upd (upd (upd (upd (upd fd 0 0) 1 0) 2 0) 3 0) 4 0) 5 0) 6 0))), (nmk, .inl (cI, 61, .inl fm))] H := hP
  replace hD : va_D A [(n, .inr (8, [.int 1000000000, .int vmetres, .int vshut, .int vshield, .int vtoday, .int vbagged, .int vwarmed, .ref nwi, .ref nco, .int vmeals, .ref nqu, .ref nmi, .ref nde, .ref nsa, .ref nsm, .int vsights, .ref npa, .int vpadMany, .ref nac, .ref nam, .ref naw, .int 0, .int vgusty, .int vleakAct, .int vleakMuch, .int vendOfCan, .int (-6), .int (-6), .int 0, .int 0, .ref ncs, .ref nbw, .ref ndc, .ref nmk, .int vhadLeft, .int vhadToday, .int vhadBagged, .int vhadWarmed, .int vleaves, .int vdayThen, .int vcoldThen, .ref npo, .int vportionMany, .ref nta, .ref npl, .int vleakMany, .int vleakActs, .ref nmm, .ref ncu, .ref nke, .ref nik, .int vkeptAt, .int visWriting])), (ndc, .inl (cI, 14, .inl (upd (upd (upd (upd (upd (upd (upd fd 0 0) 1 0) 2 0) 3 0) 4 0) 5 0) 6 0))), (nmk, .inl (cI, 61, .inl fm))] := hD
  refine lv_iinc (v := 7) (lv' := [(1, .int 7), (0, .ref n)]) hx hb dX8_goPlan_37 hl (k := 0) rfl (by decide) (by decide) rfl (fun ls hl => ?_)
  refine lv_goto (tgt := 24) hx hb dX8_goPlan_40 (by decide) ?_
  refine lv_iload_n hx hb dX8_goPlan_24 rfl (lv_at hl 0 rfl) ?_
  refine lv_bipush (v := 14) hx hb dX8_goPlan_25 (by decide) ?_
  refine lv_icmp_ge (tgt := 43) hx hb dX8_goPlan_27 (by decide) (fun c8 => absurd c8 (by decide)) (fun c8 => ?_)
  refine lv_aload_n hx hb dX8_goPlan_30 rfl (lv_at hl 1 rfl) ?_
  refine va_get (D := (dC, dI)) (ci := 8) (v := .ref ndc) (C := RX8) (T := TX8) (N := 53) hx hb hts hin8 hown hK hP 0 rfl rfl 32 (by decide) hw4 (fun _ h9 => h9) rfl dX8_goPlan_31 ?_
  refine lv_iload_n hx hb dX8_goPlan_34 rfl (lv_at hl 0 rfl) ?_
  refine lv_iconst (v := 0) hx hb dX8_goPlan_35 (by decide) ?_
  refine va_iast hx hb hK hP hD hS 1 0 rfl rfl (vin (by decide) (by decide)) dX8_goPlan_36 (fun H locs hP hD hS => ?_)
  replace hP : va_P (dC, dI) vwCl [(n, .inr (8, [.int 1000000000, .int vmetres, .int vshut, .int vshield, .int vtoday, .int vbagged, .int vwarmed, .ref nwi, .ref nco, .int vmeals, .ref nqu, .ref nmi, .ref nde, .ref nsa, .ref nsm, .int vsights, .ref npa, .int vpadMany, .ref nac, .ref nam, .ref naw, .int 0, .int vgusty, .int vleakAct, .int vleakMuch, .int vendOfCan, .int (-6), .int (-6), .int 0, .int 0, .ref ncs, .ref nbw, .ref ndc, .ref nmk, .int vhadLeft, .int vhadToday, .int vhadBagged, .int vhadWarmed, .int vleaves, .int vdayThen, .int vcoldThen, .ref npo, .int vportionMany, .ref nta, .ref npl, .int vleakMany, .int vleakActs, .ref nmm, .ref ncu, .ref nke, .ref nik, .int vkeptAt, .int visWriting])), (ndc, .inl (cI, 14, .inl (upd (upd (upd (upd (upd (upd (upd (upd fd 0 0) 1 0) 2 0) 3 0) 4 0) 5 0) 6 0) 7 0))), (nmk, .inl (cI, 61, .inl fm))] H := hP
  replace hD : va_D A [(n, .inr (8, [.int 1000000000, .int vmetres, .int vshut, .int vshield, .int vtoday, .int vbagged, .int vwarmed, .ref nwi, .ref nco, .int vmeals, .ref nqu, .ref nmi, .ref nde, .ref nsa, .ref nsm, .int vsights, .ref npa, .int vpadMany, .ref nac, .ref nam, .ref naw, .int 0, .int vgusty, .int vleakAct, .int vleakMuch, .int vendOfCan, .int (-6), .int (-6), .int 0, .int 0, .ref ncs, .ref nbw, .ref ndc, .ref nmk, .int vhadLeft, .int vhadToday, .int vhadBagged, .int vhadWarmed, .int vleaves, .int vdayThen, .int vcoldThen, .ref npo, .int vportionMany, .ref nta, .ref npl, .int vleakMany, .int vleakActs, .ref nmm, .ref ncu, .ref nke, .ref nik, .int vkeptAt, .int visWriting])), (ndc, .inl (cI, 14, .inl (upd (upd (upd (upd (upd (upd (upd (upd fd 0 0) 1 0) 2 0) 3 0) 4 0) 5 0) 6 0) 7 0))), (nmk, .inl (cI, 61, .inl fm))] := hD
  refine lv_iinc (v := 8) (lv' := [(1, .int 8), (0, .ref n)]) hx hb dX8_goPlan_37 hl (k := 0) rfl (by decide) (by decide) rfl (fun ls hl => ?_)
  refine lv_goto (tgt := 24) hx hb dX8_goPlan_40 (by decide) ?_
  refine lv_iload_n hx hb dX8_goPlan_24 rfl (lv_at hl 0 rfl) ?_
  refine lv_bipush (v := 14) hx hb dX8_goPlan_25 (by decide) ?_
  refine lv_icmp_ge (tgt := 43) hx hb dX8_goPlan_27 (by decide) (fun c9 => absurd c9 (by decide)) (fun c9 => ?_)
  refine lv_aload_n hx hb dX8_goPlan_30 rfl (lv_at hl 1 rfl) ?_
  refine va_get (D := (dC, dI)) (ci := 8) (v := .ref ndc) (C := RX8) (T := TX8) (N := 53) hx hb hts hin8 hown hK hP 0 rfl rfl 32 (by decide) hw4 (fun _ h9 => h9) rfl dX8_goPlan_31 ?_
  refine lv_iload_n hx hb dX8_goPlan_34 rfl (lv_at hl 0 rfl) ?_
  refine lv_iconst (v := 0) hx hb dX8_goPlan_35 (by decide) ?_
  refine va_iast hx hb hK hP hD hS 1 0 rfl rfl (vin (by decide) (by decide)) dX8_goPlan_36 (fun H locs hP hD hS => ?_)
  replace hP : va_P (dC, dI) vwCl [(n, .inr (8, [.int 1000000000, .int vmetres, .int vshut, .int vshield, .int vtoday, .int vbagged, .int vwarmed, .ref nwi, .ref nco, .int vmeals, .ref nqu, .ref nmi, .ref nde, .ref nsa, .ref nsm, .int vsights, .ref npa, .int vpadMany, .ref nac, .ref nam, .ref naw, .int 0, .int vgusty, .int vleakAct, .int vleakMuch, .int vendOfCan, .int (-6), .int (-6), .int 0, .int 0, .ref ncs, .ref nbw, .ref ndc, .ref nmk, .int vhadLeft, .int vhadToday, .int vhadBagged, .int vhadWarmed, .int vleaves, .int vdayThen, .int vcoldThen, .ref npo, .int vportionMany, .ref nta, .ref npl, .int vleakMany, .int vleakActs, .ref nmm, .ref ncu, .ref nke, .ref nik, .int vkeptAt, .int visWriting])), (ndc, .inl (cI, 14, .inl (upd (upd (upd (upd (upd (upd (upd (upd (upd fd 0 0) 1 0) 2 0) 3 0) 4 0) 5 0) 6 0) 7 0) 8 0))), (nmk, .inl (cI, 61, .inl fm))] H := hP
  replace hD : va_D A [(n, .inr (8, [.int 1000000000, .int vmetres, .int vshut, .int vshield, .int vtoday, .int vbagged, .int vwarmed, .ref nwi, .ref nco, .int vmeals, .ref nqu, .ref nmi, .ref nde, .ref nsa, .ref nsm, .int vsights, .ref npa, .int vpadMany, .ref nac, .ref nam, .ref naw, .int 0, .int vgusty, .int vleakAct, .int vleakMuch, .int vendOfCan, .int (-6), .int (-6), .int 0, .int 0, .ref ncs, .ref nbw, .ref ndc, .ref nmk, .int vhadLeft, .int vhadToday, .int vhadBagged, .int vhadWarmed, .int vleaves, .int vdayThen, .int vcoldThen, .ref npo, .int vportionMany, .ref nta, .ref npl, .int vleakMany, .int vleakActs, .ref nmm, .ref ncu, .ref nke, .ref nik, .int vkeptAt, .int visWriting])), (ndc, .inl (cI, 14, .inl (upd (upd (upd (upd (upd (upd (upd (upd (upd fd 0 0) 1 0) 2 0) 3 0) 4 0) 5 0) 6 0) 7 0) 8 0))), (nmk, .inl (cI, 61, .inl fm))] := hD
  refine lv_iinc (v := 9) (lv' := [(1, .int 9), (0, .ref n)]) hx hb dX8_goPlan_37 hl (k := 0) rfl (by decide) (by decide) rfl (fun ls hl => ?_)
  refine lv_goto (tgt := 24) hx hb dX8_goPlan_40 (by decide) ?_
  refine lv_iload_n hx hb dX8_goPlan_24 rfl (lv_at hl 0 rfl) ?_
  refine lv_bipush (v := 14) hx hb dX8_goPlan_25 (by decide) ?_
  refine lv_icmp_ge (tgt := 43) hx hb dX8_goPlan_27 (by decide) (fun c10 => absurd c10 (by decide)) (fun c10 => ?_)
  refine lv_aload_n hx hb dX8_goPlan_30 rfl (lv_at hl 1 rfl) ?_
  refine va_get (D := (dC, dI)) (ci := 8) (v := .ref ndc) (C := RX8) (T := TX8) (N := 53) hx hb hts hin8 hown hK hP 0 rfl rfl 32 (by decide) hw4 (fun _ h9 => h9) rfl dX8_goPlan_31 ?_
  refine lv_iload_n hx hb dX8_goPlan_34 rfl (lv_at hl 0 rfl) ?_
  refine lv_iconst (v := 0) hx hb dX8_goPlan_35 (by decide) ?_
  refine va_iast hx hb hK hP hD hS 1 0 rfl rfl (vin (by decide) (by decide)) dX8_goPlan_36 (fun H locs hP hD hS => ?_)
  replace hP : va_P (dC, dI) vwCl [(n, .inr (8, [.int 1000000000, .int vmetres, .int vshut, .int vshield, .int vtoday, .int vbagged, .int vwarmed, .ref nwi, .ref nco, .int vmeals, .ref nqu, .ref nmi, .ref nde, .ref nsa, .ref nsm, .int vsights, .ref npa, .int vpadMany, .ref nac, .ref nam, .ref naw, .int 0, .int vgusty, .int vleakAct, .int vleakMuch, .int vendOfCan, .int (-6), .int (-6), .int 0, .int 0, .ref ncs, .ref nbw, .ref ndc, .ref nmk, .int vhadLeft, .int vhadToday, .int vhadBagged, .int vhadWarmed, .int vleaves, .int vdayThen, .int vcoldThen, .ref npo, .int vportionMany, .ref nta, .ref npl, .int vleakMany, .int vleakActs, .ref nmm, .ref ncu, .ref nke, .ref nik, .int vkeptAt, .int visWriting])), (ndc, .inl (cI, 14, .inl (upd (upd (upd (upd (upd (upd (upd (upd (upd (upd fd 0 0) 1 0) 2 0) 3 0) 4 0) 5 0) 6 0) 7 0) 8 0) 9 0))), (nmk, .inl (cI, 61, .inl fm))] H := hP
  replace hD : va_D A [(n, .inr (8, [.int 1000000000, .int vmetres, .int vshut, .int vshield, .int vtoday, .int vbagged, .int vwarmed, .ref nwi, .ref nco, .int vmeals, .ref nqu, .ref nmi, .ref nde, .ref nsa, .ref nsm, .int vsights, .ref npa, .int vpadMany, .ref nac, .ref nam, .ref naw, .int 0, .int vgusty, .int vleakAct, .int vleakMuch, .int vendOfCan, .int (-6), .int (-6), .int 0, .int 0, .ref ncs, .ref nbw, .ref ndc, .ref nmk, .int vhadLeft, .int vhadToday, .int vhadBagged, .int vhadWarmed, .int vleaves, .int vdayThen, .int vcoldThen, .ref npo, .int vportionMany, .ref nta, .ref npl, .int vleakMany, .int vleakActs, .ref nmm, .ref ncu, .ref nke, .ref nik, .int vkeptAt, .int visWriting])), (ndc, .inl (cI, 14, .inl (upd (upd (upd (upd (upd (upd (upd (upd (upd (upd fd 0 0) 1 0) 2 0) 3 0) 4 0) 5 0) 6 0) 7 0) 8 0) 9 0))), (nmk, .inl (cI, 61, .inl fm))] := hD
  refine lv_iinc (v := 10) (lv' := [(1, .int 10), (0, .ref n)]) hx hb dX8_goPlan_37 hl (k := 0) rfl (by decide) (by decide) rfl (fun ls hl => ?_)
  refine lv_goto (tgt := 24) hx hb dX8_goPlan_40 (by decide) ?_
  refine lv_iload_n hx hb dX8_goPlan_24 rfl (lv_at hl 0 rfl) ?_
  refine lv_bipush (v := 14) hx hb dX8_goPlan_25 (by decide) ?_
  refine lv_icmp_ge (tgt := 43) hx hb dX8_goPlan_27 (by decide) (fun c11 => absurd c11 (by decide)) (fun c11 => ?_)
  refine lv_aload_n hx hb dX8_goPlan_30 rfl (lv_at hl 1 rfl) ?_
  refine va_get (D := (dC, dI)) (ci := 8) (v := .ref ndc) (C := RX8) (T := TX8) (N := 53) hx hb hts hin8 hown hK hP 0 rfl rfl 32 (by decide) hw4 (fun _ h9 => h9) rfl dX8_goPlan_31 ?_
  refine lv_iload_n hx hb dX8_goPlan_34 rfl (lv_at hl 0 rfl) ?_
  refine lv_iconst (v := 0) hx hb dX8_goPlan_35 (by decide) ?_
  refine va_iast hx hb hK hP hD hS 1 0 rfl rfl (vin (by decide) (by decide)) dX8_goPlan_36 (fun H locs hP hD hS => ?_)
  replace hP : va_P (dC, dI) vwCl [(n, .inr (8, [.int 1000000000, .int vmetres, .int vshut, .int vshield, .int vtoday, .int vbagged, .int vwarmed, .ref nwi, .ref nco, .int vmeals, .ref nqu, .ref nmi, .ref nde, .ref nsa, .ref nsm, .int vsights, .ref npa, .int vpadMany, .ref nac, .ref nam, .ref naw, .int 0, .int vgusty, .int vleakAct, .int vleakMuch, .int vendOfCan, .int (-6), .int (-6), .int 0, .int 0, .ref ncs, .ref nbw, .ref ndc, .ref nmk, .int vhadLeft, .int vhadToday, .int vhadBagged, .int vhadWarmed, .int vleaves, .int vdayThen, .int vcoldThen, .ref npo, .int vportionMany, .ref nta, .ref npl, .int vleakMany, .int vleakActs, .ref nmm, .ref ncu, .ref nke, .ref nik, .int vkeptAt, .int visWriting])), (ndc, .inl (cI, 14, .inl (upd (upd (upd (upd (upd (upd (upd (upd (upd (upd (upd fd 0 0) 1 0) 2 0) 3 0) 4 0) 5 0) 6 0) 7 0) 8 0) 9 0) 10 0))), (nmk, .inl (cI, 61, .inl fm))] H := hP
  replace hD : va_D A [(n, .inr (8, [.int 1000000000, .int vmetres, .int vshut, .int vshield, .int vtoday, .int vbagged, .int vwarmed, .ref nwi, .ref nco, .int vmeals, .ref nqu, .ref nmi, .ref nde, .ref nsa, .ref nsm, .int vsights, .ref npa, .int vpadMany, .ref nac, .ref nam, .ref naw, .int 0, .int vgusty, .int vleakAct, .int vleakMuch, .int vendOfCan, .int (-6), .int (-6), .int 0, .int 0, .ref ncs, .ref nbw, .ref ndc, .ref nmk, .int vhadLeft, .int vhadToday, .int vhadBagged, .int vhadWarmed, .int vleaves, .int vdayThen, .int vcoldThen, .ref npo, .int vportionMany, .ref nta, .ref npl, .int vleakMany, .int vleakActs, .ref nmm, .ref ncu, .ref nke, .ref nik, .int vkeptAt, .int visWriting])), (ndc, .inl (cI, 14, .inl (upd (upd (upd (upd (upd (upd (upd (upd (upd (upd (upd fd 0 0) 1 0) 2 0) 3 0) 4 0) 5 0) 6 0) 7 0) 8 0) 9 0) 10 0))), (nmk, .inl (cI, 61, .inl fm))] := hD
  refine lv_iinc (v := 11) (lv' := [(1, .int 11), (0, .ref n)]) hx hb dX8_goPlan_37 hl (k := 0) rfl (by decide) (by decide) rfl (fun ls hl => ?_)
  refine lv_goto (tgt := 24) hx hb dX8_goPlan_40 (by decide) ?_
  refine lv_iload_n hx hb dX8_goPlan_24 rfl (lv_at hl 0 rfl) ?_
  refine lv_bipush (v := 14) hx hb dX8_goPlan_25 (by decide) ?_
  refine lv_icmp_ge (tgt := 43) hx hb dX8_goPlan_27 (by decide) (fun c12 => absurd c12 (by decide)) (fun c12 => ?_)
  refine lv_aload_n hx hb dX8_goPlan_30 rfl (lv_at hl 1 rfl) ?_
  refine va_get (D := (dC, dI)) (ci := 8) (v := .ref ndc) (C := RX8) (T := TX8) (N := 53) hx hb hts hin8 hown hK hP 0 rfl rfl 32 (by decide) hw4 (fun _ h9 => h9) rfl dX8_goPlan_31 ?_
  refine lv_iload_n hx hb dX8_goPlan_34 rfl (lv_at hl 0 rfl) ?_
  refine lv_iconst (v := 0) hx hb dX8_goPlan_35 (by decide) ?_
  refine va_iast hx hb hK hP hD hS 1 0 rfl rfl (vin (by decide) (by decide)) dX8_goPlan_36 (fun H locs hP hD hS => ?_)
  replace hP : va_P (dC, dI) vwCl [(n, .inr (8, [.int 1000000000, .int vmetres, .int vshut, .int vshield, .int vtoday, .int vbagged, .int vwarmed, .ref nwi, .ref nco, .int vmeals, .ref nqu, .ref nmi, .ref nde, .ref nsa, .ref nsm, .int vsights, .ref npa, .int vpadMany, .ref nac, .ref nam, .ref naw, .int 0, .int vgusty, .int vleakAct, .int vleakMuch, .int vendOfCan, .int (-6), .int (-6), .int 0, .int 0, .ref ncs, .ref nbw, .ref ndc, .ref nmk, .int vhadLeft, .int vhadToday, .int vhadBagged, .int vhadWarmed, .int vleaves, .int vdayThen, .int vcoldThen, .ref npo, .int vportionMany, .ref nta, .ref npl, .int vleakMany, .int vleakActs, .ref nmm, .ref ncu, .ref nke, .ref nik, .int vkeptAt, .int visWriting])), (ndc, .inl (cI, 14, .inl (upd (upd (upd (upd (upd (upd (upd (upd (upd (upd (upd (upd fd 0 0) 1 0) 2 0) 3 0) 4 0) 5 0) 6 0) 7 0) 8 0) 9 0) 10 0) 11 0))), (nmk, .inl (cI, 61, .inl fm))] H := hP
  replace hD : va_D A [(n, .inr (8, [.int 1000000000, .int vmetres, .int vshut, .int vshield, .int vtoday, .int vbagged, .int vwarmed, .ref nwi, .ref nco, .int vmeals, .ref nqu, .ref nmi, .ref nde, .ref nsa, .ref nsm, .int vsights, .ref npa, .int vpadMany, .ref nac, .ref nam, .ref naw, .int 0, .int vgusty, .int vleakAct, .int vleakMuch, .int vendOfCan, .int (-6), .int (-6), .int 0, .int 0, .ref ncs, .ref nbw, .ref ndc, .ref nmk, .int vhadLeft, .int vhadToday, .int vhadBagged, .int vhadWarmed, .int vleaves, .int vdayThen, .int vcoldThen, .ref npo, .int vportionMany, .ref nta, .ref npl, .int vleakMany, .int vleakActs, .ref nmm, .ref ncu, .ref nke, .ref nik, .int vkeptAt, .int visWriting])), (ndc, .inl (cI, 14, .inl (upd (upd (upd (upd (upd (upd (upd (upd (upd (upd (upd (upd fd 0 0) 1 0) 2 0) 3 0) 4 0) 5 0) 6 0) 7 0) 8 0) 9 0) 10 0) 11 0))), (nmk, .inl (cI, 61, .inl fm))] := hD
  refine lv_iinc (v := 12) (lv' := [(1, .int 12), (0, .ref n)]) hx hb dX8_goPlan_37 hl (k := 0) rfl (by decide) (by decide) rfl (fun ls hl => ?_)
  refine lv_goto (tgt := 24) hx hb dX8_goPlan_40 (by decide) ?_
  refine lv_iload_n hx hb dX8_goPlan_24 rfl (lv_at hl 0 rfl) ?_
  refine lv_bipush (v := 14) hx hb dX8_goPlan_25 (by decide) ?_
  refine lv_icmp_ge (tgt := 43) hx hb dX8_goPlan_27 (by decide) (fun c13 => absurd c13 (by decide)) (fun c13 => ?_)
  refine lv_aload_n hx hb dX8_goPlan_30 rfl (lv_at hl 1 rfl) ?_
  refine va_get (D := (dC, dI)) (ci := 8) (v := .ref ndc) (C := RX8) (T := TX8) (N := 53) hx hb hts hin8 hown hK hP 0 rfl rfl 32 (by decide) hw4 (fun _ h9 => h9) rfl dX8_goPlan_31 ?_
  refine lv_iload_n hx hb dX8_goPlan_34 rfl (lv_at hl 0 rfl) ?_
  refine lv_iconst (v := 0) hx hb dX8_goPlan_35 (by decide) ?_
  refine va_iast hx hb hK hP hD hS 1 0 rfl rfl (vin (by decide) (by decide)) dX8_goPlan_36 (fun H locs hP hD hS => ?_)
  replace hP : va_P (dC, dI) vwCl [(n, .inr (8, [.int 1000000000, .int vmetres, .int vshut, .int vshield, .int vtoday, .int vbagged, .int vwarmed, .ref nwi, .ref nco, .int vmeals, .ref nqu, .ref nmi, .ref nde, .ref nsa, .ref nsm, .int vsights, .ref npa, .int vpadMany, .ref nac, .ref nam, .ref naw, .int 0, .int vgusty, .int vleakAct, .int vleakMuch, .int vendOfCan, .int (-6), .int (-6), .int 0, .int 0, .ref ncs, .ref nbw, .ref ndc, .ref nmk, .int vhadLeft, .int vhadToday, .int vhadBagged, .int vhadWarmed, .int vleaves, .int vdayThen, .int vcoldThen, .ref npo, .int vportionMany, .ref nta, .ref npl, .int vleakMany, .int vleakActs, .ref nmm, .ref ncu, .ref nke, .ref nik, .int vkeptAt, .int visWriting])), (ndc, .inl (cI, 14, .inl (upd (upd (upd (upd (upd (upd (upd (upd (upd (upd (upd (upd (upd fd 0 0) 1 0) 2 0) 3 0) 4 0) 5 0) 6 0) 7 0) 8 0) 9 0) 10 0) 11 0) 12 0))), (nmk, .inl (cI, 61, .inl fm))] H := hP
  replace hD : va_D A [(n, .inr (8, [.int 1000000000, .int vmetres, .int vshut, .int vshield, .int vtoday, .int vbagged, .int vwarmed, .ref nwi, .ref nco, .int vmeals, .ref nqu, .ref nmi, .ref nde, .ref nsa, .ref nsm, .int vsights, .ref npa, .int vpadMany, .ref nac, .ref nam, .ref naw, .int 0, .int vgusty, .int vleakAct, .int vleakMuch, .int vendOfCan, .int (-6), .int (-6), .int 0, .int 0, .ref ncs, .ref nbw, .ref ndc, .ref nmk, .int vhadLeft, .int vhadToday, .int vhadBagged, .int vhadWarmed, .int vleaves, .int vdayThen, .int vcoldThen, .ref npo, .int vportionMany, .ref nta, .ref npl, .int vleakMany, .int vleakActs, .ref nmm, .ref ncu, .ref nke, .ref nik, .int vkeptAt, .int visWriting])), (ndc, .inl (cI, 14, .inl (upd (upd (upd (upd (upd (upd (upd (upd (upd (upd (upd (upd (upd fd 0 0) 1 0) 2 0) 3 0) 4 0) 5 0) 6 0) 7 0) 8 0) 9 0) 10 0) 11 0) 12 0))), (nmk, .inl (cI, 61, .inl fm))] := hD
  refine lv_iinc (v := 13) (lv' := [(1, .int 13), (0, .ref n)]) hx hb dX8_goPlan_37 hl (k := 0) rfl (by decide) (by decide) rfl (fun ls hl => ?_)
  refine lv_goto (tgt := 24) hx hb dX8_goPlan_40 (by decide) ?_
  refine lv_iload_n hx hb dX8_goPlan_24 rfl (lv_at hl 0 rfl) ?_
  refine lv_bipush (v := 14) hx hb dX8_goPlan_25 (by decide) ?_
  refine lv_icmp_ge (tgt := 43) hx hb dX8_goPlan_27 (by decide) (fun c14 => absurd c14 (by decide)) (fun c14 => ?_)
  refine lv_aload_n hx hb dX8_goPlan_30 rfl (lv_at hl 1 rfl) ?_
  refine va_get (D := (dC, dI)) (ci := 8) (v := .ref ndc) (C := RX8) (T := TX8) (N := 53) hx hb hts hin8 hown hK hP 0 rfl rfl 32 (by decide) hw4 (fun _ h9 => h9) rfl dX8_goPlan_31 ?_
  refine lv_iload_n hx hb dX8_goPlan_34 rfl (lv_at hl 0 rfl) ?_
  refine lv_iconst (v := 0) hx hb dX8_goPlan_35 (by decide) ?_
  refine va_iast hx hb hK hP hD hS 1 0 rfl rfl (vin (by decide) (by decide)) dX8_goPlan_36 (fun H locs hP hD hS => ?_)
  replace hP : va_P (dC, dI) vwCl [(n, .inr (8, [.int 1000000000, .int vmetres, .int vshut, .int vshield, .int vtoday, .int vbagged, .int vwarmed, .ref nwi, .ref nco, .int vmeals, .ref nqu, .ref nmi, .ref nde, .ref nsa, .ref nsm, .int vsights, .ref npa, .int vpadMany, .ref nac, .ref nam, .ref naw, .int 0, .int vgusty, .int vleakAct, .int vleakMuch, .int vendOfCan, .int (-6), .int (-6), .int 0, .int 0, .ref ncs, .ref nbw, .ref ndc, .ref nmk, .int vhadLeft, .int vhadToday, .int vhadBagged, .int vhadWarmed, .int vleaves, .int vdayThen, .int vcoldThen, .ref npo, .int vportionMany, .ref nta, .ref npl, .int vleakMany, .int vleakActs, .ref nmm, .ref ncu, .ref nke, .ref nik, .int vkeptAt, .int visWriting])), (ndc, .inl (cI, 14, .inl (upd (upd (upd (upd (upd (upd (upd (upd (upd (upd (upd (upd (upd (upd fd 0 0) 1 0) 2 0) 3 0) 4 0) 5 0) 6 0) 7 0) 8 0) 9 0) 10 0) 11 0) 12 0) 13 0))), (nmk, .inl (cI, 61, .inl fm))] H := hP
  replace hD : va_D A [(n, .inr (8, [.int 1000000000, .int vmetres, .int vshut, .int vshield, .int vtoday, .int vbagged, .int vwarmed, .ref nwi, .ref nco, .int vmeals, .ref nqu, .ref nmi, .ref nde, .ref nsa, .ref nsm, .int vsights, .ref npa, .int vpadMany, .ref nac, .ref nam, .ref naw, .int 0, .int vgusty, .int vleakAct, .int vleakMuch, .int vendOfCan, .int (-6), .int (-6), .int 0, .int 0, .ref ncs, .ref nbw, .ref ndc, .ref nmk, .int vhadLeft, .int vhadToday, .int vhadBagged, .int vhadWarmed, .int vleaves, .int vdayThen, .int vcoldThen, .ref npo, .int vportionMany, .ref nta, .ref npl, .int vleakMany, .int vleakActs, .ref nmm, .ref ncu, .ref nke, .ref nik, .int vkeptAt, .int visWriting])), (ndc, .inl (cI, 14, .inl (upd (upd (upd (upd (upd (upd (upd (upd (upd (upd (upd (upd (upd (upd fd 0 0) 1 0) 2 0) 3 0) 4 0) 5 0) 6 0) 7 0) 8 0) 9 0) 10 0) 11 0) 12 0) 13 0))), (nmk, .inl (cI, 61, .inl fm))] := hD
  refine lv_iinc (v := 14) (lv' := [(1, .int 14), (0, .ref n)]) hx hb dX8_goPlan_37 hl (k := 0) rfl (by decide) (by decide) rfl (fun ls hl => ?_)
  refine lv_goto (tgt := 24) hx hb dX8_goPlan_40 (by decide) ?_
  refine lv_iload_n hx hb dX8_goPlan_24 rfl (lv_at hl 0 rfl) ?_
  refine lv_bipush (v := 14) hx hb dX8_goPlan_25 (by decide) ?_
  refine lv_icmp_ge (tgt := 43) hx hb dX8_goPlan_27 (by decide) (fun c15 => ?_) (fun c15 => absurd c15 (by decide))
  refine lv_aload_n hx hb dX8_goPlan_43 rfl (lv_at hl 1 rfl) ?_
  refine va_get (D := (dC, dI)) (ci := 8) (v := .ref nmk) (C := RX8) (T := TX8) (N := 53) hx hb hts hin8 hown hK hP 0 rfl rfl 33 (by decide) hw5 (fun _ h9 => h9) rfl dX8_goPlan_44 ?_
  refine lv_iconst (v := 0) hx hb dX8_goPlan_47 (by decide) ?_
  refine lv_aload_n hx hb dX8_goPlan_48 rfl (lv_at hl 1 rfl) ?_
  refine va_get (D := (dC, dI)) (ci := 8) (v := .int 1000000000) (C := RX8) (T := TX8) (N := 53) hx hb hts hin8 hown hK hP 0 rfl rfl 0 (by decide) hw6 (fun _ h9 => h9) rfl dX8_goPlan_49 ?_
  refine lv_sipush (v := 200) hx hb dX8_goPlan_52 (by decide) ?_
  refine lv_idiv hx hb dX8_goPlan_55 (by decide) ?_
  refine lv_topi (fun x16 e16 => ?_)
  obtain rfl : x16 = 5000000 := e16.trans (by decide)
  refine va_iast hx hb hK hP hD hS 2 0 rfl rfl (vin (by decide) (by decide)) dX8_goPlan_56 (fun H locs hP hD hS => ?_)
  replace hP : va_P (dC, dI) vwCl [(n, .inr (8, [.int 1000000000, .int vmetres, .int vshut, .int vshield, .int vtoday, .int vbagged, .int vwarmed, .ref nwi, .ref nco, .int vmeals, .ref nqu, .ref nmi, .ref nde, .ref nsa, .ref nsm, .int vsights, .ref npa, .int vpadMany, .ref nac, .ref nam, .ref naw, .int 0, .int vgusty, .int vleakAct, .int vleakMuch, .int vendOfCan, .int (-6), .int (-6), .int 0, .int 0, .ref ncs, .ref nbw, .ref ndc, .ref nmk, .int vhadLeft, .int vhadToday, .int vhadBagged, .int vhadWarmed, .int vleaves, .int vdayThen, .int vcoldThen, .ref npo, .int vportionMany, .ref nta, .ref npl, .int vleakMany, .int vleakActs, .ref nmm, .ref ncu, .ref nke, .ref nik, .int vkeptAt, .int visWriting])), (ndc, .inl (cI, 14, .inl (upd (upd (upd (upd (upd (upd (upd (upd (upd (upd (upd (upd (upd (upd fd 0 0) 1 0) 2 0) 3 0) 4 0) 5 0) 6 0) 7 0) 8 0) 9 0) 10 0) 11 0) 12 0) 13 0))), (nmk, .inl (cI, 61, .inl (upd fm 0 5000000)))] H := hP
  replace hD : va_D A [(n, .inr (8, [.int 1000000000, .int vmetres, .int vshut, .int vshield, .int vtoday, .int vbagged, .int vwarmed, .ref nwi, .ref nco, .int vmeals, .ref nqu, .ref nmi, .ref nde, .ref nsa, .ref nsm, .int vsights, .ref npa, .int vpadMany, .ref nac, .ref nam, .ref naw, .int 0, .int vgusty, .int vleakAct, .int vleakMuch, .int vendOfCan, .int (-6), .int (-6), .int 0, .int 0, .ref ncs, .ref nbw, .ref ndc, .ref nmk, .int vhadLeft, .int vhadToday, .int vhadBagged, .int vhadWarmed, .int vleaves, .int vdayThen, .int vcoldThen, .ref npo, .int vportionMany, .ref nta, .ref npl, .int vleakMany, .int vleakActs, .ref nmm, .ref ncu, .ref nke, .ref nik, .int vkeptAt, .int visWriting])), (ndc, .inl (cI, 14, .inl (upd (upd (upd (upd (upd (upd (upd (upd (upd (upd (upd (upd (upd (upd fd 0 0) 1 0) 2 0) 3 0) 4 0) 5 0) 6 0) 7 0) 8 0) 9 0) 10 0) 11 0) 12 0) 13 0))), (nmk, .inl (cI, 61, .inl (upd fm 0 5000000)))] := hD
  refine lv_iconst (v := 0) hx hb dX8_goPlan_57 (by decide) ?_
  refine lv_istore_n (lv' := [(1, .int 0), (0, .ref n)]) hx hb dX8_goPlan_58 rfl hl (by decide) rfl (fun ls hl => ?_)
  refine lv_iload_n hx hb dX8_goPlan_59 rfl (lv_at hl 0 rfl) ?_
  refine lv_aload_n hx hb dX8_goPlan_60 rfl (lv_at hl 1 rfl) ?_
  refine va_get (D := (dC, dI)) (ci := 8) (v := .int 0) (C := RX8) (T := TX8) (N := 53) hx hb hts hin8 hown hK hP 0 rfl rfl 21 (by decide) hw7 (fun _ h9 => h9) rfl dX8_goPlan_61 ?_
  refine lv_icmp_ge (tgt := 274) hx hb dX8_goPlan_64 (by decide) (fun c17 => ?_) (fun c17 => absurd c17 (by decide))
  have hP9 := mx_subP (wc := [(n, .inr (8, [.int 1000000000, .int vmetres, .int vshut, .int vshield, .int vtoday, .int vbagged, .int vwarmed, .ref nwi, .ref nco, .int vmeals, .ref nqu, .ref nmi, .ref nde, .ref nsa, .ref nsm, .int vsights, .ref npa, .int vpadMany, .ref nac, .ref nam, .ref naw, .int 0, .int vgusty, .int vleakAct, .int vleakMuch, .int vendOfCan, .int (-6), .int (-6), .int 0, .int 0, .ref ncs, .ref nbw, .ref ndc, .ref nmk, .int vhadLeft, .int vhadToday, .int vhadBagged, .int vhadWarmed, .int vleaves, .int vdayThen, .int vcoldThen, .ref npo, .int vportionMany, .ref nta, .ref npl, .int vleakMany, .int vleakActs, .ref nmm, .ref ncu, .ref nke, .ref nik, .int vkeptAt, .int visWriting])), (ndc, .inl (cI, 14, .inl (upd (upd (upd (upd (upd (upd (upd (upd (upd (upd (upd (upd (upd (upd fd 0 0) 1 0) 2 0) 3 0) 4 0) 5 0) 6 0) 7 0) 8 0) 9 0) 10 0) 11 0) 12 0) 13 0))), (nmk, .inl (cI, 61, .inl (upd fm 0 5000000)))]) hP [0, 1, 2] rfl
  have hD9 := hD.sub (ws' := [(n, .inr (8, [.int 1000000000, .int vmetres, .int vshut, .int vshield, .int vtoday, .int vbagged, .int vwarmed, .ref nwi, .ref nco, .int vmeals, .ref nqu, .ref nmi, .ref nde, .ref nsa, .ref nsm, .int vsights, .ref npa, .int vpadMany, .ref nac, .ref nam, .ref naw, .int 0, .int vgusty, .int vleakAct, .int vleakMuch, .int vendOfCan, .int (-6), .int (-6), .int 0, .int 0, .ref ncs, .ref nbw, .ref ndc, .ref nmk, .int vhadLeft, .int vhadToday, .int vhadBagged, .int vhadWarmed, .int vleaves, .int vdayThen, .int vcoldThen, .ref npo, .int vportionMany, .ref nta, .ref npl, .int vleakMany, .int vleakActs, .ref nmm, .ref ncu, .ref nke, .ref nik, .int vkeptAt, .int visWriting])), (ndc, .inl (cI, 14, .inl (upd (upd (upd (upd (upd (upd (upd (upd (upd (upd (upd (upd (upd (upd fd 0 0) 1 0) 2 0) 3 0) 4 0) 5 0) 6 0) 7 0) 8 0) 9 0) 10 0) 11 0) 12 0) 13 0))), (nmk, .inl (cI, 61, .inl (upd fm 0 5000000)))]) [0, 1, 2] (by decide) rfl
  exact W.vret hx hb hr (fun t ht hW => ⟨⟨(), rfl, trivial, by rw [ht]; exact hP9, hD9⟩, hS.F ht⟩) hS.2.2 dX8_goPlan_274
set_option maxHeartbeats 4000000 in
set_option maxRecDepth 100000 in
theorem c_X8_refusal (l : Launch) (dC : Nat → ClassId) (dI : Nat → Nat → Nat) (cI cZ cK : ClassId) (tS aK aV : Nat) (n : Nat) (nwi : Nat) (nco : Nat) (nqu : Nat) (nmi : Nat) (nde : Nat) (nsa : Nat) (nsm : Nat) (npa : Nat) (nac : Nat) (nam : Nat) (naw : Nat) (ncs : Nat) (nbw : Nat) (ndc : Nat) (nmk : Nat) (npo : Nat) (nta : Nat) (npl : Nat) (nmm : Nat) (ncu : Nat) (nke : Nat) (nik : Nat) (sz : Nat) : Ci l yX8_refusal (wq yX8_refusal cX8_refusal 1 (some .int)) ({ frames := 1, cells := 0, slots := 0, locals := 25 }) dC dI cI cZ cK tS aK aV [.ref n] sz [(n, .inr (8, [.int 800, .int 0, .int 0, .int 0, .int 0, .int 0, .int 0, .ref nwi, .ref nco, .int 0, .ref nqu, .ref nmi, .ref nde, .ref nsa, .ref nsm, .int 0, .ref npa, .int 0, .ref nac, .ref nam, .ref naw, .int 0, .int 0, .int 0, .int 0, .int 0, .int 0, .int 0, .int 0, .int 0, .ref ncs, .ref nbw, .ref ndc, .ref nmk, .int 0, .int 0, .int 0, .int 0, .int 0, .int 0, .int 0, .ref npo, .int 0, .ref nta, .ref npl, .int 0, .int 0, .ref nmm, .ref ncu, .ref nke, .ref nik, .int 0, .int 0])), (ndc, .inl (cI, 14, .inl (fun _ => 0))), (nmk, .inl (cI, 61, .inl (fun _ => 0))), (nco, .inl (cI, 14, .inl (fun _ => 0)))] (fun (r : Int32) (_ : Unit) => r = (-6)) (fun _ => [(n, .inr (8, [.int 800, .int 0, .int 0, .int 0, .int 0, .int 0, .int 0, .ref nwi, .ref nco, .int 0, .ref nqu, .ref nmi, .ref nde, .ref nsa, .ref nsm, .int 0, .ref npa, .int 0, .ref nac, .ref nam, .ref naw, .int 0, .int 0, .int (-6), .int 0, .int 4000, .int (-6), .int (-6), .int 0, .int 0, .ref ncs, .ref nbw, .ref ndc, .ref nmk, .int 800, .int 0, .int 0, .int 0, .int 800, .int 0, .int 0, .ref npo, .int 0, .ref nta, .ref npl, .int 0, .int 0, .ref nmm, .ref ncu, .ref nke, .ref nik, .int 0, .int 0])), (ndc, .inl (cI, 14, .inl (upd (upd (upd (upd (upd (upd (upd (upd (upd (upd (upd (upd (upd (upd (fun _ => 0) 0 0) 1 0) 2 0) 3 0) 4 0) 5 0) 6 0) 7 0) 8 0) 9 0) 10 0) 11 0) 12 0) 13 0))), (nmk, .inl (cI, 61, .inl (upd (fun _ => 0) 0 4))), (nco, .inl (cI, 14, .inl (fun _ => 0)))]) := by
  refine Met.ofW (cc := cX8_refusal) (maxL := 1) (ret := (some .int)) (by decide) rfl ?_
  intro p e s m args below meth c s₁ B hml hv
  obtain ⟨rfl, hsz, hP, hKx, hD0⟩ := hv
  have hx := B.exec
  have hb := B.bytes
  have hr := B.returns
  have hts := atoms_spec (ws := wq yX8_refusal cX8_refusal 1 (some .int)) B.pre
  have hown : s.vm.findClass RX8 = some m.cls := findClass_of_methodNamed B.named
  have hlocks := B.notSynchronized
  subst hsz
  have hD := hD0.self (sz := s.heap.size)
  generalize hAe : va_A [(n, .inr (8, [.int 800, .int 0, .int 0, .int 0, .int 0, .int 0, .int 0, .ref nwi, .ref nco, .int 0, .ref nqu, .ref nmi, .ref nde, .ref nsa, .ref nsm, .int 0, .ref npa, .int 0, .ref nac, .ref nam, .ref naw, .int 0, .int 0, .int 0, .int 0, .int 0, .int 0, .int 0, .int 0, .int 0, .ref ncs, .ref nbw, .ref ndc, .ref nmk, .int 0, .int 0, .int 0, .int 0, .int 0, .int 0, .int 0, .ref npo, .int 0, .ref nta, .ref npl, .int 0, .int 0, .ref nmm, .ref ncu, .ref nke, .ref nik, .int 0, .int 0])), (ndc, .inl (cI, 14, .inl (fun _ => 0))), (nmk, .inl (cI, 61, .inl (fun _ => 0))), (nco, .inl (cI, 14, .inl (fun _ => 0)))] s.heap.size = A at hD hKx ⊢
  have hA : ∀ q : Nat, s.heap.size ≤ q → A q := fun q h => by rw [← hAe]; exact Or.inr h
  have hS : va_S A s.heap s.heap [] := va_S.rf
  have hP : va_P (dC, dI) vwCl [(n, .inr (8, [.int 800, .int 0, .int 0, .int 0, .int 0, .int 0, .int 0, .ref nwi, .ref nco, .int 0, .ref nqu, .ref nmi, .ref nde, .ref nsa, .ref nsm, .int 0, .ref npa, .int 0, .ref nac, .ref nam, .ref naw, .int 0, .int 0, .int 0, .int 0, .int 0, .int 0, .int 0, .int 0, .int 0, .ref ncs, .ref nbw, .ref ndc, .ref nmk, .int 0, .int 0, .int 0, .int 0, .int 0, .int 0, .int 0, .ref npo, .int 0, .ref nta, .ref npl, .int 0, .int 0, .ref nmm, .ref ncu, .ref nke, .ref nik, .int 0, .int 0])), (ndc, .inl (cI, 14, .inl (fun _ => 0))), (nmk, .inl (cI, 61, .inl (fun _ => 0))), (nco, .inl (cI, 14, .inl (fun _ => 0)))] s.heap := hP
  have hl := lv_entry ([.ref n]) (n := 1) (Nat.le_of_ble_eq_true rfl)
  rw [lg_entry_eq]
  generalize (lg_sl ([.ref n]) ++ List.replicate (1 - (lg_sl ([.ref n])).length) Slot.unset).toArray = ls at hl ⊢
  have hl : lv_has ls 1 [(0, .ref n)] := hl
  have hK := hKx.1
  have hin8 := fun w9 h9 => List.mem_cons_of_mem (Cond.code yX8_refusal cX8_refusal 1 (some .int)) (inlX8 w9 h9)
  have hw0 := hts (.fieldLink RX8 77 "OneCanModel" "left" "I") (List.mem_cons_of_mem _ wm_389)
  have hw1 := hts (.fieldLink RX8 228 "OneCanModel" "leaves" "I") (List.mem_cons_of_mem _ wm_465)
  have hw2 := hts (.fieldLink RX8 101 "OneCanModel" "today" "I") (List.mem_cons_of_mem _ wm_393)
  have hw3 := hts (.fieldLink RX8 231 "OneCanModel" "dayThen" "I") (List.mem_cons_of_mem _ wm_466)
  have hw4 := hts (.fieldLink RX8 13 "OneCanModel" "cold" "[I") (List.mem_cons_of_mem _ wm_408)
  have hw5 := hts (.fieldLink RX8 234 "OneCanModel" "coldThen" "I") (List.mem_cons_of_mem _ wm_467)
  have hw6 := hts (.fieldLink RX8 179 "OneCanModel" "badAct" "I") (List.mem_cons_of_mem _ wm_447)
  refine lv_aload_n hx hb dX8_refusal_0 rfl (lv_at hl 0 rfl) ?_
  refine mx_i (wr := [(ndc, .inl (cI, 14, .inl (fun _ => 0))), (nmk, .inl (cI, 61, .inl (fun _ => 0))), (nco, .inl (cI, 14, .inl (fun _ => 0)))]) (va_runV (As := []) (rest := []) ⟨hx, hb, hml, hown, hts⟩ (c_X8_faultIn l dC dI cI cZ cK tS aK aV n nwi nco nqu nmi nde nsa nsm npa nac nam naw ncs nbw ndc nmk npo nta npl nmm ncu nke nik 800 0 0 0 0 0 0 0 0 0 0 0 0 0 0 0 0 0 0 0 0 0 0 0 0 0 0 0 0 0 s.heap.size) (cwV 0 hts (gw_v (fun _ h9 => List.mem_cons_of_mem _ h9) wm_453 wm_454 wm_455 wm_385 wm_456) rfl rfl rfl (by decide +kernel) ⟨Nat.le_of_ble_eq_true rfl, Nat.le_of_ble_eq_true rfl⟩) (mx_preV (C := RX8) (T := TX8) (N := 53) (ci := 8) hKx hP hD hS hA [0] (by decide) rfl rfl rfl) rfl rfl hl.1 rfl (lv_room (Nat.le_of_ble_eq_true rfl)) dX8_refusal_1 ⟨Nat.le_of_ble_eq_true rfl, Nat.le_of_ble_eq_true rfl⟩) hP hD hS hA [0] [1, 2, 3] rfl rfl (by decide) (by decide) (fun r1 u1 H locs hq1 hP hD hS => ?_)
  replace hP : va_P (dC, dI) vwCl [(ndc, .inl (cI, 14, .inl (fun _ => 0))), (nmk, .inl (cI, 61, .inl (fun _ => 0))), (nco, .inl (cI, 14, .inl (fun _ => 0))), (n, .inr (8, [.int 800, .int 0, .int 0, .int 0, .int 0, .int 0, .int 0, .ref nwi, .ref nco, .int 0, .ref nqu, .ref nmi, .ref nde, .ref nsa, .ref nsm, .int 0, .ref npa, .int 0, .ref nac, .ref nam, .ref naw, .int 0, .int 0, .int 0, .int 0, .int 0, .int 0, .int 0, .int 0, .int 0, .ref ncs, .ref nbw, .ref ndc, .ref nmk, .int 0, .int 0, .int 0, .int 0, .int 0, .int 0, .int 0, .ref npo, .int 0, .ref nta, .ref npl, .int 0, .int 0, .ref nmm, .ref ncu, .ref nke, .ref nik, .int 0, .int 0]))] H := hP
  replace hD : va_D A [(ndc, .inl (cI, 14, .inl (fun _ => 0))), (nmk, .inl (cI, 61, .inl (fun _ => 0))), (nco, .inl (cI, 14, .inl (fun _ => 0))), (n, .inr (8, [.int 800, .int 0, .int 0, .int 0, .int 0, .int 0, .int 0, .ref nwi, .ref nco, .int 0, .ref nqu, .ref nmi, .ref nde, .ref nsa, .ref nsm, .int 0, .ref npa, .int 0, .ref nac, .ref nam, .ref naw, .int 0, .int 0, .int 0, .int 0, .int 0, .int 0, .int 0, .int 0, .int 0, .ref ncs, .ref nbw, .ref ndc, .ref nmk, .int 0, .int 0, .int 0, .int 0, .int 0, .int 0, .int 0, .ref npo, .int 0, .ref nta, .ref npl, .int 0, .int 0, .ref nmm, .ref ncu, .ref nke, .ref nik, .int 0, .int 0]))] := hD
  obtain rfl : r1 = (-6) := hq1
  refine lv_if_lt (tgt := 10) hx hb dX8_refusal_4 (by decide) (fun c2 => ?_) (fun c2 => absurd c2 (by decide))
  refine lv_aload_n hx hb dX8_refusal_10 rfl (lv_at hl 0 rfl) ?_
  refine mx_v (wr := [(ndc, .inl (cI, 14, .inl (fun _ => 0))), (nmk, .inl (cI, 61, .inl (fun _ => 0))), (nco, .inl (cI, 14, .inl (fun _ => 0)))]) (va_runV (As := []) (rest := []) ⟨hx, hb, hml, hown, hts⟩ (c_X8_keepNow l dC dI cI cZ cK tS aK aV n nwi nco nqu nmi nde nsa nsm npa nac nam naw ncs nbw ndc nmk npo nta npl nmm ncu nke nik 800 0 0 0 0 0 0 0 0 0 0 0 0 0 0 0 0 0 0 0 0 0 0 0 0 0 0 0 0 0 0 H.size) (cwV 0 hts (gw_v (fun _ h9 => List.mem_cons_of_mem _ h9) wm_457 wm_458 wm_459 wm_385 wm_460) rfl rfl rfl (by decide +kernel) ⟨Nat.le_of_ble_eq_true rfl, Nat.le_of_ble_eq_true rfl⟩) (mx_preV (C := RX8) (T := TX8) (N := 53) (ci := 8) hKx hP hD hS hA [3] (by decide) rfl rfl rfl) rfl rfl hl.1 rfl (lv_room (Nat.le_of_ble_eq_true rfl)) dX8_refusal_11 ⟨Nat.le_of_ble_eq_true rfl, Nat.le_of_ble_eq_true rfl⟩) hP hD hS hA [3] [0, 1, 2] rfl rfl (by decide) (by decide) (fun u3 H locs hq3 hP hD hS => ?_)
  replace hP : va_P (dC, dI) vwCl [(ndc, .inl (cI, 14, .inl (fun _ => 0))), (nmk, .inl (cI, 61, .inl (fun _ => 0))), (nco, .inl (cI, 14, .inl (fun _ => 0))), (n, .inr (8, [.int 800, .int 0, .int 0, .int 0, .int 0, .int 0, .int 0, .ref nwi, .ref nco, .int 0, .ref nqu, .ref nmi, .ref nde, .ref nsa, .ref nsm, .int 0, .ref npa, .int 0, .ref nac, .ref nam, .ref naw, .int 0, .int 0, .int (-6), .int 0, .int 4000, .int 0, .int 0, .int 0, .int 0, .ref ncs, .ref nbw, .ref ndc, .ref nmk, .int 800, .int 0, .int 0, .int 0, .int 0, .int 0, .int 0, .ref npo, .int 0, .ref nta, .ref npl, .int 0, .int 0, .ref nmm, .ref ncu, .ref nke, .ref nik, .int 0, .int 0]))] H := hP
  replace hD : va_D A [(ndc, .inl (cI, 14, .inl (fun _ => 0))), (nmk, .inl (cI, 61, .inl (fun _ => 0))), (nco, .inl (cI, 14, .inl (fun _ => 0))), (n, .inr (8, [.int 800, .int 0, .int 0, .int 0, .int 0, .int 0, .int 0, .ref nwi, .ref nco, .int 0, .ref nqu, .ref nmi, .ref nde, .ref nsa, .ref nsm, .int 0, .ref npa, .int 0, .ref nac, .ref nam, .ref naw, .int 0, .int 0, .int (-6), .int 0, .int 4000, .int 0, .int 0, .int 0, .int 0, .ref ncs, .ref nbw, .ref ndc, .ref nmk, .int 800, .int 0, .int 0, .int 0, .int 0, .int 0, .int 0, .ref npo, .int 0, .ref nta, .ref npl, .int 0, .int 0, .ref nmm, .ref ncu, .ref nke, .ref nik, .int 0, .int 0]))] := hD
  refine lv_aload_n hx hb dX8_refusal_14 rfl (lv_at hl 0 rfl) ?_
  refine mx_v (wr := [(nco, .inl (cI, 14, .inl (fun _ => 0)))]) (va_runV (As := []) (rest := []) ⟨hx, hb, hml, hown, hts⟩ (c_X8_goPlan_800 l dC dI cI cZ cK tS aK aV n nwi nco nqu nmi nde nsa nsm npa nac nam naw ncs nbw ndc nmk npo nta npl nmm ncu nke nik 0 0 0 0 0 0 0 0 0 0 (-6) 0 4000 0 0 0 0 800 0 0 0 0 0 0 0 0 0 0 0 (fun _ => 0) (fun _ => 0) H.size) (cwV 0 hts (gw_v (fun _ h9 => List.mem_cons_of_mem _ h9) wm_461 wm_462 wm_463 wm_385 wm_464) rfl rfl rfl (by decide +kernel) ⟨Nat.le_of_ble_eq_true rfl, Nat.le_of_ble_eq_true rfl⟩) (mx_preV (C := RX8) (T := TX8) (N := 53) (ci := 8) hKx hP hD hS hA [3, 0, 1] (by decide) rfl rfl rfl) rfl rfl hl.1 rfl (lv_room (Nat.le_of_ble_eq_true rfl)) dX8_refusal_15 ⟨Nat.le_of_ble_eq_true rfl, Nat.le_of_ble_eq_true rfl⟩) hP hD hS hA [3, 0, 1] [2] rfl rfl (by decide) (by decide) (fun u4 H locs hq4 hP hD hS => ?_)
  replace hP : va_P (dC, dI) vwCl [(nco, .inl (cI, 14, .inl (fun _ => 0))), (n, .inr (8, [.int 800, .int 0, .int 0, .int 0, .int 0, .int 0, .int 0, .ref nwi, .ref nco, .int 0, .ref nqu, .ref nmi, .ref nde, .ref nsa, .ref nsm, .int 0, .ref npa, .int 0, .ref nac, .ref nam, .ref naw, .int 0, .int 0, .int (-6), .int 0, .int 4000, .int (-6), .int (-6), .int 0, .int 0, .ref ncs, .ref nbw, .ref ndc, .ref nmk, .int 800, .int 0, .int 0, .int 0, .int 0, .int 0, .int 0, .ref npo, .int 0, .ref nta, .ref npl, .int 0, .int 0, .ref nmm, .ref ncu, .ref nke, .ref nik, .int 0, .int 0])), (ndc, .inl (cI, 14, .inl (upd (upd (upd (upd (upd (upd (upd (upd (upd (upd (upd (upd (upd (upd (fun _ => 0) 0 0) 1 0) 2 0) 3 0) 4 0) 5 0) 6 0) 7 0) 8 0) 9 0) 10 0) 11 0) 12 0) 13 0))), (nmk, .inl (cI, 61, .inl (upd (fun _ => 0) 0 4)))] H := hP
  replace hD : va_D A [(nco, .inl (cI, 14, .inl (fun _ => 0))), (n, .inr (8, [.int 800, .int 0, .int 0, .int 0, .int 0, .int 0, .int 0, .ref nwi, .ref nco, .int 0, .ref nqu, .ref nmi, .ref nde, .ref nsa, .ref nsm, .int 0, .ref npa, .int 0, .ref nac, .ref nam, .ref naw, .int 0, .int 0, .int (-6), .int 0, .int 4000, .int (-6), .int (-6), .int 0, .int 0, .ref ncs, .ref nbw, .ref ndc, .ref nmk, .int 800, .int 0, .int 0, .int 0, .int 0, .int 0, .int 0, .ref npo, .int 0, .ref nta, .ref npl, .int 0, .int 0, .ref nmm, .ref ncu, .ref nke, .ref nik, .int 0, .int 0])), (ndc, .inl (cI, 14, .inl (upd (upd (upd (upd (upd (upd (upd (upd (upd (upd (upd (upd (upd (upd (fun _ => 0) 0 0) 1 0) 2 0) 3 0) 4 0) 5 0) 6 0) 7 0) 8 0) 9 0) 10 0) 11 0) 12 0) 13 0))), (nmk, .inl (cI, 61, .inl (upd (fun _ => 0) 0 4)))] := hD
  refine lv_aload_n hx hb dX8_refusal_18 rfl (lv_at hl 0 rfl) ?_
  refine lv_aload_n hx hb dX8_refusal_19 rfl (lv_at hl 0 rfl) ?_
  refine va_get (D := (dC, dI)) (ci := 8) (v := .int 800) (C := RX8) (T := TX8) (N := 53) hx hb hts hin8 hown hK hP 1 rfl rfl 0 (by decide) hw0 (fun _ h9 => h9) rfl dX8_refusal_20 ?_
  refine va_put (D := (dC, dI)) (ci := 8) (v := .int 800) (ty := .int) (C := RX8) (T := TX8) (N := 53) hx hb hts hin8 tyX8 tyX8_ok nmX8 hown hK hP hD hS 1 rfl rfl 38 (by decide) hw1 (fun _ h9 => h9) rfl (by decide +kernel) rfl rfl (Nat.le_of_ble_eq_true rfl) dX8_refusal_23 (fun H locs hP hD hS => ?_)
  replace hP : va_P (dC, dI) vwCl [(nco, .inl (cI, 14, .inl (fun _ => 0))), (n, .inr (8, [.int 800, .int 0, .int 0, .int 0, .int 0, .int 0, .int 0, .ref nwi, .ref nco, .int 0, .ref nqu, .ref nmi, .ref nde, .ref nsa, .ref nsm, .int 0, .ref npa, .int 0, .ref nac, .ref nam, .ref naw, .int 0, .int 0, .int (-6), .int 0, .int 4000, .int (-6), .int (-6), .int 0, .int 0, .ref ncs, .ref nbw, .ref ndc, .ref nmk, .int 800, .int 0, .int 0, .int 0, .int 800, .int 0, .int 0, .ref npo, .int 0, .ref nta, .ref npl, .int 0, .int 0, .ref nmm, .ref ncu, .ref nke, .ref nik, .int 0, .int 0])), (ndc, .inl (cI, 14, .inl (upd (upd (upd (upd (upd (upd (upd (upd (upd (upd (upd (upd (upd (upd (fun _ => 0) 0 0) 1 0) 2 0) 3 0) 4 0) 5 0) 6 0) 7 0) 8 0) 9 0) 10 0) 11 0) 12 0) 13 0))), (nmk, .inl (cI, 61, .inl (upd (fun _ => 0) 0 4)))] H := hP
  replace hD : va_D A [(nco, .inl (cI, 14, .inl (fun _ => 0))), (n, .inr (8, [.int 800, .int 0, .int 0, .int 0, .int 0, .int 0, .int 0, .ref nwi, .ref nco, .int 0, .ref nqu, .ref nmi, .ref nde, .ref nsa, .ref nsm, .int 0, .ref npa, .int 0, .ref nac, .ref nam, .ref naw, .int 0, .int 0, .int (-6), .int 0, .int 4000, .int (-6), .int (-6), .int 0, .int 0, .ref ncs, .ref nbw, .ref ndc, .ref nmk, .int 800, .int 0, .int 0, .int 0, .int 800, .int 0, .int 0, .ref npo, .int 0, .ref nta, .ref npl, .int 0, .int 0, .ref nmm, .ref ncu, .ref nke, .ref nik, .int 0, .int 0])), (ndc, .inl (cI, 14, .inl (upd (upd (upd (upd (upd (upd (upd (upd (upd (upd (upd (upd (upd (upd (fun _ => 0) 0 0) 1 0) 2 0) 3 0) 4 0) 5 0) 6 0) 7 0) 8 0) 9 0) 10 0) 11 0) 12 0) 13 0))), (nmk, .inl (cI, 61, .inl (upd (fun _ => 0) 0 4)))] := hD
  refine lv_aload_n hx hb dX8_refusal_26 rfl (lv_at hl 0 rfl) ?_
  refine lv_aload_n hx hb dX8_refusal_27 rfl (lv_at hl 0 rfl) ?_
  refine va_get (D := (dC, dI)) (ci := 8) (v := .int 0) (C := RX8) (T := TX8) (N := 53) hx hb hts hin8 hown hK hP 1 rfl rfl 4 (by decide) hw2 (fun _ h9 => h9) rfl dX8_refusal_28 ?_
  refine va_put (D := (dC, dI)) (ci := 8) (v := .int 0) (ty := .int) (C := RX8) (T := TX8) (N := 53) hx hb hts hin8 tyX8 tyX8_ok nmX8 hown hK hP hD hS 1 rfl rfl 39 (by decide) hw3 (fun _ h9 => h9) rfl (by decide +kernel) rfl rfl (Nat.le_of_ble_eq_true rfl) dX8_refusal_31 (fun H locs hP hD hS => ?_)
  replace hP : va_P (dC, dI) vwCl [(nco, .inl (cI, 14, .inl (fun _ => 0))), (n, .inr (8, [.int 800, .int 0, .int 0, .int 0, .int 0, .int 0, .int 0, .ref nwi, .ref nco, .int 0, .ref nqu, .ref nmi, .ref nde, .ref nsa, .ref nsm, .int 0, .ref npa, .int 0, .ref nac, .ref nam, .ref naw, .int 0, .int 0, .int (-6), .int 0, .int 4000, .int (-6), .int (-6), .int 0, .int 0, .ref ncs, .ref nbw, .ref ndc, .ref nmk, .int 800, .int 0, .int 0, .int 0, .int 800, .int 0, .int 0, .ref npo, .int 0, .ref nta, .ref npl, .int 0, .int 0, .ref nmm, .ref ncu, .ref nke, .ref nik, .int 0, .int 0])), (ndc, .inl (cI, 14, .inl (upd (upd (upd (upd (upd (upd (upd (upd (upd (upd (upd (upd (upd (upd (fun _ => 0) 0 0) 1 0) 2 0) 3 0) 4 0) 5 0) 6 0) 7 0) 8 0) 9 0) 10 0) 11 0) 12 0) 13 0))), (nmk, .inl (cI, 61, .inl (upd (fun _ => 0) 0 4)))] H := hP
  replace hD : va_D A [(nco, .inl (cI, 14, .inl (fun _ => 0))), (n, .inr (8, [.int 800, .int 0, .int 0, .int 0, .int 0, .int 0, .int 0, .ref nwi, .ref nco, .int 0, .ref nqu, .ref nmi, .ref nde, .ref nsa, .ref nsm, .int 0, .ref npa, .int 0, .ref nac, .ref nam, .ref naw, .int 0, .int 0, .int (-6), .int 0, .int 4000, .int (-6), .int (-6), .int 0, .int 0, .ref ncs, .ref nbw, .ref ndc, .ref nmk, .int 800, .int 0, .int 0, .int 0, .int 800, .int 0, .int 0, .ref npo, .int 0, .ref nta, .ref npl, .int 0, .int 0, .ref nmm, .ref ncu, .ref nke, .ref nik, .int 0, .int 0])), (ndc, .inl (cI, 14, .inl (upd (upd (upd (upd (upd (upd (upd (upd (upd (upd (upd (upd (upd (upd (fun _ => 0) 0 0) 1 0) 2 0) 3 0) 4 0) 5 0) 6 0) 7 0) 8 0) 9 0) 10 0) 11 0) 12 0) 13 0))), (nmk, .inl (cI, 61, .inl (upd (fun _ => 0) 0 4)))] := hD
  refine lv_aload_n hx hb dX8_refusal_34 rfl (lv_at hl 0 rfl) ?_
  refine lv_aload_n hx hb dX8_refusal_35 rfl (lv_at hl 0 rfl) ?_
  refine va_get (D := (dC, dI)) (ci := 8) (v := .ref nco) (C := RX8) (T := TX8) (N := 53) hx hb hts hin8 hown hK hP 1 rfl rfl 8 (by decide) hw4 (fun _ h9 => h9) rfl dX8_refusal_36 ?_
  refine lv_aload_n hx hb dX8_refusal_39 rfl (lv_at hl 0 rfl) ?_
  refine va_get (D := (dC, dI)) (ci := 8) (v := .int 0) (C := RX8) (T := TX8) (N := 53) hx hb hts hin8 hown hK hP 1 rfl rfl 4 (by decide) hw2 (fun _ h9 => h9) rfl dX8_refusal_40 ?_
  refine va_iald hx hb hK hP 0 0 rfl rfl (vin (by decide) (by decide)) dX8_refusal_43 ?_
  refine lv_topi (fun x5 e5 => ?_)
  obtain rfl : x5 = 0 := e5.trans (by first | rfl | decide)
  refine lv_iconst (v := 1) hx hb dX8_refusal_44 (by decide) ?_
  refine lv_icmp_ne (tgt := 59) hx hb dX8_refusal_45 (by decide) (fun c6 => ?_) (fun c6 => absurd c6 (by decide))
  refine lv_iconst (v := 0) hx hb dX8_refusal_59 (by decide) ?_
  refine va_put (D := (dC, dI)) (ci := 8) (v := .int 0) (ty := .int) (C := RX8) (T := TX8) (N := 53) hx hb hts hin8 tyX8 tyX8_ok nmX8 hown hK hP hD hS 1 rfl rfl 40 (by decide) hw5 (fun _ h9 => h9) rfl (by decide +kernel) rfl rfl (Nat.le_of_ble_eq_true rfl) dX8_refusal_60 (fun H locs hP hD hS => ?_)
  replace hP : va_P (dC, dI) vwCl [(nco, .inl (cI, 14, .inl (fun _ => 0))), (n, .inr (8, [.int 800, .int 0, .int 0, .int 0, .int 0, .int 0, .int 0, .ref nwi, .ref nco, .int 0, .ref nqu, .ref nmi, .ref nde, .ref nsa, .ref nsm, .int 0, .ref npa, .int 0, .ref nac, .ref nam, .ref naw, .int 0, .int 0, .int (-6), .int 0, .int 4000, .int (-6), .int (-6), .int 0, .int 0, .ref ncs, .ref nbw, .ref ndc, .ref nmk, .int 800, .int 0, .int 0, .int 0, .int 800, .int 0, .int 0, .ref npo, .int 0, .ref nta, .ref npl, .int 0, .int 0, .ref nmm, .ref ncu, .ref nke, .ref nik, .int 0, .int 0])), (ndc, .inl (cI, 14, .inl (upd (upd (upd (upd (upd (upd (upd (upd (upd (upd (upd (upd (upd (upd (fun _ => 0) 0 0) 1 0) 2 0) 3 0) 4 0) 5 0) 6 0) 7 0) 8 0) 9 0) 10 0) 11 0) 12 0) 13 0))), (nmk, .inl (cI, 61, .inl (upd (fun _ => 0) 0 4)))] H := hP
  replace hD : va_D A [(nco, .inl (cI, 14, .inl (fun _ => 0))), (n, .inr (8, [.int 800, .int 0, .int 0, .int 0, .int 0, .int 0, .int 0, .ref nwi, .ref nco, .int 0, .ref nqu, .ref nmi, .ref nde, .ref nsa, .ref nsm, .int 0, .ref npa, .int 0, .ref nac, .ref nam, .ref naw, .int 0, .int 0, .int (-6), .int 0, .int 4000, .int (-6), .int (-6), .int 0, .int 0, .ref ncs, .ref nbw, .ref ndc, .ref nmk, .int 800, .int 0, .int 0, .int 0, .int 800, .int 0, .int 0, .ref npo, .int 0, .ref nta, .ref npl, .int 0, .int 0, .ref nmm, .ref ncu, .ref nke, .ref nik, .int 0, .int 0])), (ndc, .inl (cI, 14, .inl (upd (upd (upd (upd (upd (upd (upd (upd (upd (upd (upd (upd (upd (upd (fun _ => 0) 0 0) 1 0) 2 0) 3 0) 4 0) 5 0) 6 0) 7 0) 8 0) 9 0) 10 0) 11 0) 12 0) 13 0))), (nmk, .inl (cI, 61, .inl (upd (fun _ => 0) 0 4)))] := hD
  refine lv_aload_n hx hb dX8_refusal_63 rfl (lv_at hl 0 rfl) ?_
  refine mx_v (wr := [(nco, .inl (cI, 14, .inl (fun _ => 0))), (ndc, .inl (cI, 14, .inl (upd (upd (upd (upd (upd (upd (upd (upd (upd (upd (upd (upd (upd (upd (fun _ => 0) 0 0) 1 0) 2 0) 3 0) 4 0) 5 0) 6 0) 7 0) 8 0) 9 0) 10 0) 11 0) 12 0) 13 0))), (nmk, .inl (cI, 61, .inl (upd (fun _ => 0) 0 4)))]) (va_runV (As := []) (rest := []) ⟨hx, hb, hml, hown, hts⟩ (c_X8_putBack l dC dI cI cZ cK tS aK aV n nwi nco nqu nmi nde nsa nsm npa nac nam naw ncs nbw ndc nmk npo nta npl nmm ncu nke nik 800 0 0 0 0 0 0 0 0 0 0 0 (-6) 0 4000 (-6) (-6) 0 0 800 0 0 0 800 0 0 0 0 0 0 0 H.size) (cwV 0 hts (gw_v (fun _ h9 => List.mem_cons_of_mem _ h9) wm_468 wm_469 wm_470 wm_385 wm_471) rfl rfl rfl (by decide +kernel) ⟨Nat.le_of_ble_eq_true rfl, Nat.le_of_ble_eq_true rfl⟩) (mx_preV (C := RX8) (T := TX8) (N := 53) (ci := 8) hKx hP hD hS hA [1] (by decide) rfl rfl rfl) rfl rfl hl.1 rfl (lv_room (Nat.le_of_ble_eq_true rfl)) dX8_refusal_64 ⟨Nat.le_of_ble_eq_true rfl, Nat.le_of_ble_eq_true rfl⟩) hP hD hS hA [1] [0, 2, 3] rfl rfl (by decide) (by decide) (fun u7 H locs hq7 hP hD hS => ?_)
  replace hP : va_P (dC, dI) vwCl [(nco, .inl (cI, 14, .inl (fun _ => 0))), (ndc, .inl (cI, 14, .inl (upd (upd (upd (upd (upd (upd (upd (upd (upd (upd (upd (upd (upd (upd (fun _ => 0) 0 0) 1 0) 2 0) 3 0) 4 0) 5 0) 6 0) 7 0) 8 0) 9 0) 10 0) 11 0) 12 0) 13 0))), (nmk, .inl (cI, 61, .inl (upd (fun _ => 0) 0 4))), (n, .inr (8, [.int 800, .int 0, .int 0, .int 0, .int 0, .int 0, .int 0, .ref nwi, .ref nco, .int 0, .ref nqu, .ref nmi, .ref nde, .ref nsa, .ref nsm, .int 0, .ref npa, .int 0, .ref nac, .ref nam, .ref naw, .int 0, .int 0, .int (-6), .int 0, .int 4000, .int (-6), .int (-6), .int 0, .int 0, .ref ncs, .ref nbw, .ref ndc, .ref nmk, .int 800, .int 0, .int 0, .int 0, .int 800, .int 0, .int 0, .ref npo, .int 0, .ref nta, .ref npl, .int 0, .int 0, .ref nmm, .ref ncu, .ref nke, .ref nik, .int 0, .int 0]))] H := hP
  replace hD : va_D A [(nco, .inl (cI, 14, .inl (fun _ => 0))), (ndc, .inl (cI, 14, .inl (upd (upd (upd (upd (upd (upd (upd (upd (upd (upd (upd (upd (upd (upd (fun _ => 0) 0 0) 1 0) 2 0) 3 0) 4 0) 5 0) 6 0) 7 0) 8 0) 9 0) 10 0) 11 0) 12 0) 13 0))), (nmk, .inl (cI, 61, .inl (upd (fun _ => 0) 0 4))), (n, .inr (8, [.int 800, .int 0, .int 0, .int 0, .int 0, .int 0, .int 0, .ref nwi, .ref nco, .int 0, .ref nqu, .ref nmi, .ref nde, .ref nsa, .ref nsm, .int 0, .ref npa, .int 0, .ref nac, .ref nam, .ref naw, .int 0, .int 0, .int (-6), .int 0, .int 4000, .int (-6), .int (-6), .int 0, .int 0, .ref ncs, .ref nbw, .ref ndc, .ref nmk, .int 800, .int 0, .int 0, .int 0, .int 800, .int 0, .int 0, .ref npo, .int 0, .ref nta, .ref npl, .int 0, .int 0, .ref nmm, .ref ncu, .ref nke, .ref nik, .int 0, .int 0]))] := hD
  refine lv_aload_n hx hb dX8_refusal_67 rfl (lv_at hl 0 rfl) ?_
  refine va_get (D := (dC, dI)) (ci := 8) (v := .int (-6)) (C := RX8) (T := TX8) (N := 53) hx hb hts hin8 hown hK hP 3 rfl rfl 26 (by decide) hw6 (fun _ h9 => h9) rfl dX8_refusal_68 ?_
  refine lv_if_lt (tgt := 79) hx hb dX8_refusal_71 (by decide) (fun c8 => ?_) (fun c8 => absurd c8 (by decide))
  refine lv_bipush (v := (-6)) hx hb dX8_refusal_79 (by decide) ?_
  have hP9 := mx_subP (wc := [(n, .inr (8, [.int 800, .int 0, .int 0, .int 0, .int 0, .int 0, .int 0, .ref nwi, .ref nco, .int 0, .ref nqu, .ref nmi, .ref nde, .ref nsa, .ref nsm, .int 0, .ref npa, .int 0, .ref nac, .ref nam, .ref naw, .int 0, .int 0, .int (-6), .int 0, .int 4000, .int (-6), .int (-6), .int 0, .int 0, .ref ncs, .ref nbw, .ref ndc, .ref nmk, .int 800, .int 0, .int 0, .int 0, .int 800, .int 0, .int 0, .ref npo, .int 0, .ref nta, .ref npl, .int 0, .int 0, .ref nmm, .ref ncu, .ref nke, .ref nik, .int 0, .int 0])), (ndc, .inl (cI, 14, .inl (upd (upd (upd (upd (upd (upd (upd (upd (upd (upd (upd (upd (upd (upd (fun _ => 0) 0 0) 1 0) 2 0) 3 0) 4 0) 5 0) 6 0) 7 0) 8 0) 9 0) 10 0) 11 0) 12 0) 13 0))), (nmk, .inl (cI, 61, .inl (upd (fun _ => 0) 0 4))), (nco, .inl (cI, 14, .inl (fun _ => 0)))]) hP [3, 1, 2, 0] rfl
  have hD9 := hD.sub (ws' := [(n, .inr (8, [.int 800, .int 0, .int 0, .int 0, .int 0, .int 0, .int 0, .ref nwi, .ref nco, .int 0, .ref nqu, .ref nmi, .ref nde, .ref nsa, .ref nsm, .int 0, .ref npa, .int 0, .ref nac, .ref nam, .ref naw, .int 0, .int 0, .int (-6), .int 0, .int 4000, .int (-6), .int (-6), .int 0, .int 0, .ref ncs, .ref nbw, .ref ndc, .ref nmk, .int 800, .int 0, .int 0, .int 0, .int 800, .int 0, .int 0, .ref npo, .int 0, .ref nta, .ref npl, .int 0, .int 0, .ref nmm, .ref ncu, .ref nke, .ref nik, .int 0, .int 0])), (ndc, .inl (cI, 14, .inl (upd (upd (upd (upd (upd (upd (upd (upd (upd (upd (upd (upd (upd (upd (fun _ => 0) 0 0) 1 0) 2 0) 3 0) 4 0) 5 0) 6 0) 7 0) 8 0) 9 0) 10 0) 11 0) 12 0) 13 0))), (nmk, .inl (cI, 61, .inl (upd (fun _ => 0) 0 4))), (nco, .inl (cI, 14, .inl (fun _ => 0)))]) [3, 1, 2, 0] (by decide) rfl
  exact W.iret (v := (-6)) hx hb hr (fun t ht hW => ⟨⟨(-6), (), rfl, rfl, by rw [ht]; exact hP9, hD9⟩, hS.F ht⟩) hS.2.2 dX8_refusal_81
set_option maxHeartbeats 4000000 in
set_option maxRecDepth 100000 in
theorem c_X8_judge (l : Launch) (dC : Nat → ClassId) (dI : Nat → Nat → Nat) (cI cZ cK : ClassId) (tS aK aV : Nat) (n : Nat) (nwi : Nat) (nco : Nat) (nqu : Nat) (nmi : Nat) (nde : Nat) (nsa : Nat) (nsm : Nat) (npa : Nat) (nac : Nat) (nam : Nat) (naw : Nat) (ncs : Nat) (nbw : Nat) (ndc : Nat) (nmk : Nat) (npo : Nat) (nta : Nat) (npl : Nat) (nmm : Nat) (ncu : Nat) (nke : Nat) (nik : Nat) (i0 : Int32) (sz : Nat) : Ci l yX8_judge (wq yX8_judge cX8_judge 3 (some .int)) ({ frames := 2, cells := 0, slots := 0, locals := 45 }) dC dI cI cZ cK tS aK aV [.ref n, .int i0] sz [(n, .inr (8, [.int 800, .int 0, .int 0, .int 0, .int 0, .int 0, .int 0, .ref nwi, .ref nco, .int 0, .ref nqu, .ref nmi, .ref nde, .ref nsa, .ref nsm, .int 0, .ref npa, .int 0, .ref nac, .ref nam, .ref naw, .int 0, .int 0, .int 0, .int 0, .int 0, .int 0, .int 0, .int 0, .int 0, .ref ncs, .ref nbw, .ref ndc, .ref nmk, .int 0, .int 0, .int 0, .int 0, .int 0, .int 0, .int 0, .ref npo, .int 0, .ref nta, .ref npl, .int 0, .int 0, .ref nmm, .ref ncu, .ref nke, .ref nik, .int 0, .int 0])), (ndc, .inl (cI, 14, .inl (fun _ => 0))), (nmk, .inl (cI, 61, .inl (fun _ => 0))), (nco, .inl (cI, 14, .inl (fun _ => 0)))] (fun (r : Int32) (_ : Unit) => (r = (-6) ∧ (i0.toInt = 0 ∨ i0.toInt = 1)) ∨ (r = 0 ∧ (i0.toInt = 2 ∨ i0.toInt = 3)) ∨ (r = (-2) ∧ (i0.toInt < 0 ∨ 3 < i0.toInt))) (fun _ => []) := by
  refine Met.ofW (cc := cX8_judge) (maxL := 3) (ret := (some .int)) (by decide) rfl ?_
  intro p e s m args below meth c s₁ B hml hv
  obtain ⟨rfl, hsz, hP, hKx, hD0⟩ := hv
  have hx := B.exec
  have hb := B.bytes
  have hr := B.returns
  have hts := atoms_spec (ws := wq yX8_judge cX8_judge 3 (some .int)) B.pre
  have hown : s.vm.findClass RX8 = some m.cls := findClass_of_methodNamed B.named
  have hlocks := B.notSynchronized
  subst hsz
  have hD := hD0.self (sz := s.heap.size)
  generalize hAe : va_A [(n, .inr (8, [.int 800, .int 0, .int 0, .int 0, .int 0, .int 0, .int 0, .ref nwi, .ref nco, .int 0, .ref nqu, .ref nmi, .ref nde, .ref nsa, .ref nsm, .int 0, .ref npa, .int 0, .ref nac, .ref nam, .ref naw, .int 0, .int 0, .int 0, .int 0, .int 0, .int 0, .int 0, .int 0, .int 0, .ref ncs, .ref nbw, .ref ndc, .ref nmk, .int 0, .int 0, .int 0, .int 0, .int 0, .int 0, .int 0, .ref npo, .int 0, .ref nta, .ref npl, .int 0, .int 0, .ref nmm, .ref ncu, .ref nke, .ref nik, .int 0, .int 0])), (ndc, .inl (cI, 14, .inl (fun _ => 0))), (nmk, .inl (cI, 61, .inl (fun _ => 0))), (nco, .inl (cI, 14, .inl (fun _ => 0)))] s.heap.size = A at hD hKx ⊢
  have hA : ∀ q : Nat, s.heap.size ≤ q → A q := fun q h => by rw [← hAe]; exact Or.inr h
  have hS : va_S A s.heap s.heap [] := va_S.rf
  have hP : va_P (dC, dI) vwCl [(n, .inr (8, [.int 800, .int 0, .int 0, .int 0, .int 0, .int 0, .int 0, .ref nwi, .ref nco, .int 0, .ref nqu, .ref nmi, .ref nde, .ref nsa, .ref nsm, .int 0, .ref npa, .int 0, .ref nac, .ref nam, .ref naw, .int 0, .int 0, .int 0, .int 0, .int 0, .int 0, .int 0, .int 0, .int 0, .ref ncs, .ref nbw, .ref ndc, .ref nmk, .int 0, .int 0, .int 0, .int 0, .int 0, .int 0, .int 0, .ref npo, .int 0, .ref nta, .ref npl, .int 0, .int 0, .ref nmm, .ref ncu, .ref nke, .ref nik, .int 0, .int 0])), (ndc, .inl (cI, 14, .inl (fun _ => 0))), (nmk, .inl (cI, 61, .inl (fun _ => 0))), (nco, .inl (cI, 14, .inl (fun _ => 0)))] s.heap := hP
  have hl := lv_entry ([.ref n, .int i0]) (n := 3) (Nat.le_of_ble_eq_true rfl)
  rw [lg_entry_eq]
  generalize (lg_sl ([.ref n, .int i0]) ++ List.replicate (3 - (lg_sl ([.ref n, .int i0])).length) Slot.unset).toArray = ls at hl ⊢
  have hl : lv_has ls 3 [(0, .ref n), (1, .int i0)] := hl
  have hK := hKx.1
  have hin8 := fun w9 h9 => List.mem_cons_of_mem (Cond.code yX8_judge cX8_judge 3 (some .int)) (inlX8 w9 h9)
  have hw0 := hts (.constantLong RX8 240 3) (List.mem_cons_of_mem _ wm_472)
  have hw1 := hts (.fieldLink RX8 182 "OneCanModel" "badWhy" "I") (List.mem_cons_of_mem _ wm_448)
  have hw2 := hts (.fieldLink RX8 179 "OneCanModel" "badAct" "I") (List.mem_cons_of_mem _ wm_447)
  have hw3 := hts (.fieldLink RX8 188 "OneCanModel" "boiled" "I") (List.mem_cons_of_mem _ wm_450)
  have hw4 := hts (.fieldLink RX8 185 "OneCanModel" "burnt" "I") (List.mem_cons_of_mem _ wm_449)
  refine lv_iload_n hx hb dX8_judge_0 rfl (lv_at hl 1 rfl) ?_
  refine lv_i2l (v := i0.toInt64) hx hb dX8_judge_1 rfl ?_
  refine lv_lconst (v := 0) hx hb dX8_judge_2 (by decide) ?_
  refine lv_ldc2 (v := 3) hx hb hown hw0 dX8_judge_3 ?_
  refine mx_i (wr := [(n, .inr (8, [.int 800, .int 0, .int 0, .int 0, .int 0, .int 0, .int 0, .ref nwi, .ref nco, .int 0, .ref nqu, .ref nmi, .ref nde, .ref nsa, .ref nsm, .int 0, .ref npa, .int 0, .ref nac, .ref nam, .ref naw, .int 0, .int 0, .int 0, .int 0, .int 0, .int 0, .int 0, .int 0, .int 0, .ref ncs, .ref nbw, .ref ndc, .ref nmk, .int 0, .int 0, .int 0, .int 0, .int 0, .int 0, .int 0, .ref npo, .int 0, .ref nta, .ref npl, .int 0, .int 0, .ref nmm, .ref ncu, .ref nke, .ref nik, .int 0, .int 0])), (ndc, .inl (cI, 14, .inl (fun _ => 0))), (nmk, .inl (cI, 61, .inl (fun _ => 0))), (nco, .inl (cI, 14, .inl (fun _ => 0)))]) (va_runS (As := [.long (i0.toInt64), .long 0, .long 3]) (rest := []) ⟨hx, hb, hml, hown, hts⟩ (c_X8_in l dC dI cI cZ cK tS aK aV (i0.toInt64) 0 3 s.heap.size) (va_cwS 3 hts (gw_s (fun _ h9 => List.mem_cons_of_mem _ h9) wm_383 wm_384 wm_385 wm_386) rfl rfl rfl (by decide +kernel) ⟨Nat.le_of_ble_eq_true rfl, Nat.le_of_ble_eq_true rfl⟩) (mx_preS hKx hP hD hS hA [] (by decide) rfl) rfl rfl hl.1 rfl (lv_room (Nat.le_of_ble_eq_true rfl)) dX8_judge_6 ⟨Nat.le_of_ble_eq_true rfl, Nat.le_of_ble_eq_true rfl⟩) hP hD hS hA [] [0, 1, 2, 3] rfl rfl (by decide) (by decide) (fun r1 u1 H locs hq1 hP hD hS => ?_)
  replace hP : va_P (dC, dI) vwCl [(n, .inr (8, [.int 800, .int 0, .int 0, .int 0, .int 0, .int 0, .int 0, .ref nwi, .ref nco, .int 0, .ref nqu, .ref nmi, .ref nde, .ref nsa, .ref nsm, .int 0, .ref npa, .int 0, .ref nac, .ref nam, .ref naw, .int 0, .int 0, .int 0, .int 0, .int 0, .int 0, .int 0, .int 0, .int 0, .ref ncs, .ref nbw, .ref ndc, .ref nmk, .int 0, .int 0, .int 0, .int 0, .int 0, .int 0, .int 0, .ref npo, .int 0, .ref nta, .ref npl, .int 0, .int 0, .ref nmm, .ref ncu, .ref nke, .ref nik, .int 0, .int 0])), (ndc, .inl (cI, 14, .inl (fun _ => 0))), (nmk, .inl (cI, 61, .inl (fun _ => 0))), (nco, .inl (cI, 14, .inl (fun _ => 0)))] H := hP
  replace hD : va_D A [(n, .inr (8, [.int 800, .int 0, .int 0, .int 0, .int 0, .int 0, .int 0, .ref nwi, .ref nco, .int 0, .ref nqu, .ref nmi, .ref nde, .ref nsa, .ref nsm, .int 0, .ref npa, .int 0, .ref nac, .ref nam, .ref naw, .int 0, .int 0, .int 0, .int 0, .int 0, .int 0, .int 0, .int 0, .int 0, .ref ncs, .ref nbw, .ref ndc, .ref nmk, .int 0, .int 0, .int 0, .int 0, .int 0, .int 0, .int 0, .ref npo, .int 0, .ref nta, .ref npl, .int 0, .int 0, .ref nmm, .ref ncu, .ref nke, .ref nik, .int 0, .int 0])), (ndc, .inl (cI, 14, .inl (fun _ => 0))), (nmk, .inl (cI, 61, .inl (fun _ => 0))), (nco, .inl (cI, 14, .inl (fun _ => 0)))] := hD
  rcases hq1 with ⟨rfl, hf1⟩ | ⟨rfl, hf1⟩
  · have hf1 : (0 : Int) ≤ i0.toInt ∧ i0.toInt ≤ (3 : Int) := (by have h9 := hf1; simp only [Int32.toInt_toInt64] at h9; exact h9)
    refine lv_if_ne (tgt := 15) hx hb dX8_judge_9 (by decide) (fun c2 => ?_) (fun c2 => absurd c2 (by decide))
    refine lv_aload_n hx hb dX8_judge_15 rfl (lv_at hl 0 rfl) ?_
    refine mx_i (wr := []) (va_runV (As := []) (rest := []) ⟨hx, hb, hml, hown, hts⟩ (c_X8_refusal l dC dI cI cZ cK tS aK aV n nwi nco nqu nmi nde nsa nsm npa nac nam naw ncs nbw ndc nmk npo nta npl nmm ncu nke nik H.size) (cwV 0 hts (gw_v (fun _ h9 => List.mem_cons_of_mem _ h9) wm_473 wm_474 wm_475 wm_385 wm_476) rfl rfl rfl (by decide +kernel) ⟨Nat.le_of_ble_eq_true rfl, Nat.le_of_ble_eq_true rfl⟩) (mx_preV (C := RX8) (T := TX8) (N := 53) (ci := 8) hKx hP hD hS hA [0, 1, 2, 3] (by decide) rfl rfl rfl) rfl rfl hl.1 rfl (lv_room (Nat.le_of_ble_eq_true rfl)) dX8_judge_16 ⟨Nat.le_of_ble_eq_true rfl, Nat.le_of_ble_eq_true rfl⟩) hP hD hS hA [0, 1, 2, 3] [] rfl rfl (by decide) (by decide) (fun r3 u3 H locs hq3 hP hD hS => ?_)
    replace hP : va_P (dC, dI) vwCl [(n, .inr (8, [.int 800, .int 0, .int 0, .int 0, .int 0, .int 0, .int 0, .ref nwi, .ref nco, .int 0, .ref nqu, .ref nmi, .ref nde, .ref nsa, .ref nsm, .int 0, .ref npa, .int 0, .ref nac, .ref nam, .ref naw, .int 0, .int 0, .int (-6), .int 0, .int 4000, .int (-6), .int (-6), .int 0, .int 0, .ref ncs, .ref nbw, .ref ndc, .ref nmk, .int 800, .int 0, .int 0, .int 0, .int 800, .int 0, .int 0, .ref npo, .int 0, .ref nta, .ref npl, .int 0, .int 0, .ref nmm, .ref ncu, .ref nke, .ref nik, .int 0, .int 0])), (ndc, .inl (cI, 14, .inl (upd (upd (upd (upd (upd (upd (upd (upd (upd (upd (upd (upd (upd (upd (fun _ => 0) 0 0) 1 0) 2 0) 3 0) 4 0) 5 0) 6 0) 7 0) 8 0) 9 0) 10 0) 11 0) 12 0) 13 0))), (nmk, .inl (cI, 61, .inl (upd (fun _ => 0) 0 4))), (nco, .inl (cI, 14, .inl (fun _ => 0)))] H := hP
    replace hD : va_D A [(n, .inr (8, [.int 800, .int 0, .int 0, .int 0, .int 0, .int 0, .int 0, .ref nwi, .ref nco, .int 0, .ref nqu, .ref nmi, .ref nde, .ref nsa, .ref nsm, .int 0, .ref npa, .int 0, .ref nac, .ref nam, .ref naw, .int 0, .int 0, .int (-6), .int 0, .int 4000, .int (-6), .int (-6), .int 0, .int 0, .ref ncs, .ref nbw, .ref ndc, .ref nmk, .int 800, .int 0, .int 0, .int 0, .int 800, .int 0, .int 0, .ref npo, .int 0, .ref nta, .ref npl, .int 0, .int 0, .ref nmm, .ref ncu, .ref nke, .ref nik, .int 0, .int 0])), (ndc, .inl (cI, 14, .inl (upd (upd (upd (upd (upd (upd (upd (upd (upd (upd (upd (upd (upd (upd (fun _ => 0) 0 0) 1 0) 2 0) 3 0) 4 0) 5 0) 6 0) 7 0) 8 0) 9 0) 10 0) 11 0) 12 0) 13 0))), (nmk, .inl (cI, 61, .inl (upd (fun _ => 0) 0 4))), (nco, .inl (cI, 14, .inl (fun _ => 0)))] := hD
    obtain rfl : r3 = (-6) := hq3
    refine lv_istore_n (lv' := [(2, .int (-6)), (0, .ref n), (1, .int i0)]) hx hb dX8_judge_19 rfl hl (by decide) rfl (fun ls hl => ?_)
    refine lv_iload_n hx hb dX8_judge_20 rfl (lv_at hl 0 rfl) ?_
    refine lv_bipush (v := (-5)) hx hb dX8_judge_21 (by decide) ?_
    refine lv_icmp_eq (tgt := 37) hx hb dX8_judge_23 (by decide) (fun c4 => absurd c4 (by decide)) (fun c4 => ?_)
    refine lv_iload_n hx hb dX8_judge_26 rfl (lv_at hl 2 rfl) ?_
    refine lv_iconst (v := 1) hx hb dX8_judge_27 (by decide) ?_
    refine lv_icmp_le (tgt := 39) hx hb dX8_judge_28 (by decide) (fun c5 => ?_) (fun c5 => ?_)
    · have t5 : i0.toInt ≤ (1 : Int) := (tle c5)
      refine lv_iload_n hx hb dX8_judge_39 rfl (lv_at hl 2 rfl) ?_
      refine lv_if_ne (tgt := 50) hx hb dX8_judge_40 (by decide) (fun c6 => ?_) (fun c6 => ?_)
      · have t6 : i0.toInt ≠ (0 : Int) := (tne c6)
        refine lv_iload_n hx hb dX8_judge_50 rfl (lv_at hl 2 rfl) ?_
        refine lv_iconst (v := 1) hx hb dX8_judge_51 (by decide) ?_
        refine lv_icmp_ne (tgt := 62) hx hb dX8_judge_52 (by decide) (fun c7 => by exfalso; have t7 : i0.toInt ≠ (1 : Int) := (tne c7); omega) (fun c7 => ?_)
        refine lv_aload_n hx hb dX8_judge_55 rfl (lv_at hl 1 rfl) ?_
        refine va_get (D := (dC, dI)) (ci := 8) (v := .int (-6)) (C := RX8) (T := TX8) (N := 53) hx hb hts hin8 hown hK hP 0 rfl rfl 27 (by decide) hw1 (fun _ h9 => h9) rfl dX8_judge_56 ?_
        refine lv_goto (tgt := 78) hx hb dX8_judge_59 (by decide) ?_
        have hP9 := mx_subP (wc := []) hP [] rfl
        have hD9 := hD.sub (ws' := []) [] (by decide) rfl
        exact W.iret (v := (-6)) hx hb hr (fun t ht hW => ⟨⟨(-6), (), rfl, (by first | exact Or.inl (⟨rfl, by omega⟩) | exact Or.inr (Or.inl (⟨rfl, by omega⟩)) | exact Or.inr (Or.inr (⟨rfl, by omega⟩))), by rw [ht]; exact hP9, hD9⟩, hS.F ht⟩) hS.2.2 dX8_judge_78
      · have t6 : i0.toInt = (0 : Int) := (teq c6)
        refine lv_aload_n hx hb dX8_judge_43 rfl (lv_at hl 1 rfl) ?_
        refine va_get (D := (dC, dI)) (ci := 8) (v := .int (-6)) (C := RX8) (T := TX8) (N := 53) hx hb hts hin8 hown hK hP 0 rfl rfl 26 (by decide) hw2 (fun _ h9 => h9) rfl dX8_judge_44 ?_
        refine lv_goto (tgt := 78) hx hb dX8_judge_47 (by decide) ?_
        have hP9 := mx_subP (wc := []) hP [] rfl
        have hD9 := hD.sub (ws' := []) [] (by decide) rfl
        exact W.iret (v := (-6)) hx hb hr (fun t ht hW => ⟨⟨(-6), (), rfl, (by first | exact Or.inl (⟨rfl, by omega⟩) | exact Or.inr (Or.inl (⟨rfl, by omega⟩)) | exact Or.inr (Or.inr (⟨rfl, by omega⟩))), by rw [ht]; exact hP9, hD9⟩, hS.F ht⟩) hS.2.2 dX8_judge_78
    · have t5 : (1 : Int) < i0.toInt := (tnle c5)
      refine lv_iload_n hx hb dX8_judge_31 rfl (lv_at hl 0 rfl) ?_
      refine lv_bipush (v := (-3)) hx hb dX8_judge_32 (by decide) ?_
      refine lv_icmp_ne (tgt := 39) hx hb dX8_judge_34 (by decide) (fun c8 => ?_) (fun c8 => absurd c8 (by decide))
      refine lv_iload_n hx hb dX8_judge_39 rfl (lv_at hl 2 rfl) ?_
      refine lv_if_ne (tgt := 50) hx hb dX8_judge_40 (by decide) (fun c9 => ?_) (fun c9 => by exfalso; have t9 : i0.toInt = (0 : Int) := (teq c9); omega)
      refine lv_iload_n hx hb dX8_judge_50 rfl (lv_at hl 2 rfl) ?_
      refine lv_iconst (v := 1) hx hb dX8_judge_51 (by decide) ?_
      refine lv_icmp_ne (tgt := 62) hx hb dX8_judge_52 (by decide) (fun c10 => ?_) (fun c10 => by exfalso; have t10 : i0.toInt = (1 : Int) := (teq c10); omega)
      refine lv_iload_n hx hb dX8_judge_62 rfl (lv_at hl 2 rfl) ?_
      refine lv_iconst (v := 2) hx hb dX8_judge_63 (by decide) ?_
      refine lv_icmp_ne (tgt := 74) hx hb dX8_judge_64 (by decide) (fun c11 => ?_) (fun c11 => ?_)
      · have t11 : i0.toInt ≠ (2 : Int) := (tne c11)
        refine lv_aload_n hx hb dX8_judge_74 rfl (lv_at hl 1 rfl) ?_
        refine va_get (D := (dC, dI)) (ci := 8) (v := .int 0) (C := RX8) (T := TX8) (N := 53) hx hb hts hin8 hown hK hP 0 rfl rfl 29 (by decide) hw3 (fun _ h9 => h9) rfl dX8_judge_75 ?_
        have hP9 := mx_subP (wc := []) hP [] rfl
        have hD9 := hD.sub (ws' := []) [] (by decide) rfl
        exact W.iret (v := 0) hx hb hr (fun t ht hW => ⟨⟨0, (), rfl, (by first | exact Or.inl (⟨rfl, by omega⟩) | exact Or.inr (Or.inl (⟨rfl, by omega⟩)) | exact Or.inr (Or.inr (⟨rfl, by omega⟩))), by rw [ht]; exact hP9, hD9⟩, hS.F ht⟩) hS.2.2 dX8_judge_78
      · have t11 : i0.toInt = (2 : Int) := (teq c11)
        refine lv_aload_n hx hb dX8_judge_67 rfl (lv_at hl 1 rfl) ?_
        refine va_get (D := (dC, dI)) (ci := 8) (v := .int 0) (C := RX8) (T := TX8) (N := 53) hx hb hts hin8 hown hK hP 0 rfl rfl 28 (by decide) hw4 (fun _ h9 => h9) rfl dX8_judge_68 ?_
        refine lv_goto (tgt := 78) hx hb dX8_judge_71 (by decide) ?_
        have hP9 := mx_subP (wc := []) hP [] rfl
        have hD9 := hD.sub (ws' := []) [] (by decide) rfl
        exact W.iret (v := 0) hx hb hr (fun t ht hW => ⟨⟨0, (), rfl, (by first | exact Or.inl (⟨rfl, by omega⟩) | exact Or.inr (Or.inl (⟨rfl, by omega⟩)) | exact Or.inr (Or.inr (⟨rfl, by omega⟩))), by rw [ht]; exact hP9, hD9⟩, hS.F ht⟩) hS.2.2 dX8_judge_78
  · have hf1 : i0.toInt < (0 : Int) ∨ (3 : Int) < i0.toInt := (by have h9 := hf1; simp only [Int32.toInt_toInt64] at h9; exact h9)
    refine lv_if_ne (tgt := 15) hx hb dX8_judge_9 (by decide) (fun c12 => absurd c12 (by decide)) (fun c12 => ?_)
    refine lv_bipush (v := (-2)) hx hb dX8_judge_12 (by decide) ?_
    have hP9 := mx_subP (wc := []) hP [] rfl
    have hD9 := hD.sub (ws' := []) [] (by decide) rfl
    exact W.iret (v := (-2)) hx hb hr (fun t ht hW => ⟨⟨(-2), (), rfl, (by first | exact Or.inl (⟨rfl, by omega⟩) | exact Or.inr (Or.inl (⟨rfl, by omega⟩)) | exact Or.inr (Or.inr (⟨rfl, by omega⟩))), by rw [ht]; exact hP9, hD9⟩, hS.F ht⟩) hS.2.2 dX8_judge_14
set_option maxHeartbeats 4000000 in
set_option maxRecDepth 100000 in
theorem c_X8_behind (l : Launch) (dC : Nat → ClassId) (dI : Nat → Nat → Nat) (cI cZ cK : ClassId) (tS aK aV : Nat) (n : Nat) (nwi : Nat) (nco : Nat) (nqu : Nat) (nmi : Nat) (nde : Nat) (nsa : Nat) (nsm : Nat) (npa : Nat) (nac : Nat) (nam : Nat) (naw : Nat) (ncs : Nat) (nbw : Nat) (ndc : Nat) (nmk : Nat) (npo : Nat) (nta : Nat) (npl : Nat) (nmm : Nat) (ncu : Nat) (nke : Nat) (nik : Nat) (i0 : Int32) (sz : Nat) : Ci l yX8_behind (wq yX8_behind cX8_behind 3 (some .int)) ({ frames := 2, cells := 0, slots := 0, locals := 45 }) dC dI cI cZ cK tS aK aV [.ref n, .int i0] sz [(n, .inr (8, [.int 800, .int 0, .int 0, .int 0, .int 0, .int 0, .int 0, .ref nwi, .ref nco, .int 0, .ref nqu, .ref nmi, .ref nde, .ref nsa, .ref nsm, .int 0, .ref npa, .int 0, .ref nac, .ref nam, .ref naw, .int 0, .int 0, .int 0, .int 0, .int 0, .int 0, .int 0, .int 0, .int 0, .ref ncs, .ref nbw, .ref ndc, .ref nmk, .int 0, .int 0, .int 0, .int 0, .int 0, .int 0, .int 0, .ref npo, .int 0, .ref nta, .ref npl, .int 0, .int 0, .ref nmm, .ref ncu, .ref nke, .ref nik, .int 0, .int 0])), (ndc, .inl (cI, 14, .inl (fun _ => 0))), (nmk, .inl (cI, 61, .inl (fun _ => 0))), (nco, .inl (cI, 14, .inl (fun _ => 0)))] (fun (r : Int32) (_ : Unit) => (r = 800 ∧ (i0.toInt = 0)) ∨ (r = 0 ∧ (i0.toInt = 1 ∨ i0.toInt = 2)) ∨ (r = (-2) ∧ (i0.toInt < 0 ∨ 2 < i0.toInt))) (fun _ => []) := by
  refine Met.ofW (cc := cX8_behind) (maxL := 3) (ret := (some .int)) (by decide) rfl ?_
  intro p e s m args below meth c s₁ B hml hv
  obtain ⟨rfl, hsz, hP, hKx, hD0⟩ := hv
  have hx := B.exec
  have hb := B.bytes
  have hr := B.returns
  have hts := atoms_spec (ws := wq yX8_behind cX8_behind 3 (some .int)) B.pre
  have hown : s.vm.findClass RX8 = some m.cls := findClass_of_methodNamed B.named
  have hlocks := B.notSynchronized
  subst hsz
  have hD := hD0.self (sz := s.heap.size)
  generalize hAe : va_A [(n, .inr (8, [.int 800, .int 0, .int 0, .int 0, .int 0, .int 0, .int 0, .ref nwi, .ref nco, .int 0, .ref nqu, .ref nmi, .ref nde, .ref nsa, .ref nsm, .int 0, .ref npa, .int 0, .ref nac, .ref nam, .ref naw, .int 0, .int 0, .int 0, .int 0, .int 0, .int 0, .int 0, .int 0, .int 0, .ref ncs, .ref nbw, .ref ndc, .ref nmk, .int 0, .int 0, .int 0, .int 0, .int 0, .int 0, .int 0, .ref npo, .int 0, .ref nta, .ref npl, .int 0, .int 0, .ref nmm, .ref ncu, .ref nke, .ref nik, .int 0, .int 0])), (ndc, .inl (cI, 14, .inl (fun _ => 0))), (nmk, .inl (cI, 61, .inl (fun _ => 0))), (nco, .inl (cI, 14, .inl (fun _ => 0)))] s.heap.size = A at hD hKx ⊢
  have hA : ∀ q : Nat, s.heap.size ≤ q → A q := fun q h => by rw [← hAe]; exact Or.inr h
  have hS : va_S A s.heap s.heap [] := va_S.rf
  have hP : va_P (dC, dI) vwCl [(n, .inr (8, [.int 800, .int 0, .int 0, .int 0, .int 0, .int 0, .int 0, .ref nwi, .ref nco, .int 0, .ref nqu, .ref nmi, .ref nde, .ref nsa, .ref nsm, .int 0, .ref npa, .int 0, .ref nac, .ref nam, .ref naw, .int 0, .int 0, .int 0, .int 0, .int 0, .int 0, .int 0, .int 0, .int 0, .ref ncs, .ref nbw, .ref ndc, .ref nmk, .int 0, .int 0, .int 0, .int 0, .int 0, .int 0, .int 0, .ref npo, .int 0, .ref nta, .ref npl, .int 0, .int 0, .ref nmm, .ref ncu, .ref nke, .ref nik, .int 0, .int 0])), (ndc, .inl (cI, 14, .inl (fun _ => 0))), (nmk, .inl (cI, 61, .inl (fun _ => 0))), (nco, .inl (cI, 14, .inl (fun _ => 0)))] s.heap := hP
  have hl := lv_entry ([.ref n, .int i0]) (n := 3) (Nat.le_of_ble_eq_true rfl)
  rw [lg_entry_eq]
  generalize (lg_sl ([.ref n, .int i0]) ++ List.replicate (3 - (lg_sl ([.ref n, .int i0])).length) Slot.unset).toArray = ls at hl ⊢
  have hl : lv_has ls 3 [(0, .ref n), (1, .int i0)] := hl
  have hK := hKx.1
  have hin8 := fun w9 h9 => List.mem_cons_of_mem (Cond.code yX8_behind cX8_behind 3 (some .int)) (inlX8 w9 h9)
  have hw0 := hts (.constantLong RX8 245 2) (List.mem_cons_of_mem _ wm_477)
  have hw1 := hts (.fieldLink RX8 234 "OneCanModel" "coldThen" "I") (List.mem_cons_of_mem _ wm_467)
  have hw2 := hts (.fieldLink RX8 231 "OneCanModel" "dayThen" "I") (List.mem_cons_of_mem _ wm_466)
  have hw3 := hts (.fieldLink RX8 228 "OneCanModel" "leaves" "I") (List.mem_cons_of_mem _ wm_465)
  refine lv_iload_n hx hb dX8_behind_0 rfl (lv_at hl 1 rfl) ?_
  refine lv_i2l (v := i0.toInt64) hx hb dX8_behind_1 rfl ?_
  refine lv_lconst (v := 0) hx hb dX8_behind_2 (by decide) ?_
  refine lv_ldc2 (v := 2) hx hb hown hw0 dX8_behind_3 ?_
  refine mx_i (wr := [(n, .inr (8, [.int 800, .int 0, .int 0, .int 0, .int 0, .int 0, .int 0, .ref nwi, .ref nco, .int 0, .ref nqu, .ref nmi, .ref nde, .ref nsa, .ref nsm, .int 0, .ref npa, .int 0, .ref nac, .ref nam, .ref naw, .int 0, .int 0, .int 0, .int 0, .int 0, .int 0, .int 0, .int 0, .int 0, .ref ncs, .ref nbw, .ref ndc, .ref nmk, .int 0, .int 0, .int 0, .int 0, .int 0, .int 0, .int 0, .ref npo, .int 0, .ref nta, .ref npl, .int 0, .int 0, .ref nmm, .ref ncu, .ref nke, .ref nik, .int 0, .int 0])), (ndc, .inl (cI, 14, .inl (fun _ => 0))), (nmk, .inl (cI, 61, .inl (fun _ => 0))), (nco, .inl (cI, 14, .inl (fun _ => 0)))]) (va_runS (As := [.long (i0.toInt64), .long 0, .long 2]) (rest := []) ⟨hx, hb, hml, hown, hts⟩ (c_X8_in l dC dI cI cZ cK tS aK aV (i0.toInt64) 0 2 s.heap.size) (va_cwS 3 hts (gw_s (fun _ h9 => List.mem_cons_of_mem _ h9) wm_383 wm_384 wm_385 wm_386) rfl rfl rfl (by decide +kernel) ⟨Nat.le_of_ble_eq_true rfl, Nat.le_of_ble_eq_true rfl⟩) (mx_preS hKx hP hD hS hA [] (by decide) rfl) rfl rfl hl.1 rfl (lv_room (Nat.le_of_ble_eq_true rfl)) dX8_behind_6 ⟨Nat.le_of_ble_eq_true rfl, Nat.le_of_ble_eq_true rfl⟩) hP hD hS hA [] [0, 1, 2, 3] rfl rfl (by decide) (by decide) (fun r1 u1 H locs hq1 hP hD hS => ?_)
  replace hP : va_P (dC, dI) vwCl [(n, .inr (8, [.int 800, .int 0, .int 0, .int 0, .int 0, .int 0, .int 0, .ref nwi, .ref nco, .int 0, .ref nqu, .ref nmi, .ref nde, .ref nsa, .ref nsm, .int 0, .ref npa, .int 0, .ref nac, .ref nam, .ref naw, .int 0, .int 0, .int 0, .int 0, .int 0, .int 0, .int 0, .int 0, .int 0, .ref ncs, .ref nbw, .ref ndc, .ref nmk, .int 0, .int 0, .int 0, .int 0, .int 0, .int 0, .int 0, .ref npo, .int 0, .ref nta, .ref npl, .int 0, .int 0, .ref nmm, .ref ncu, .ref nke, .ref nik, .int 0, .int 0])), (ndc, .inl (cI, 14, .inl (fun _ => 0))), (nmk, .inl (cI, 61, .inl (fun _ => 0))), (nco, .inl (cI, 14, .inl (fun _ => 0)))] H := hP
  replace hD : va_D A [(n, .inr (8, [.int 800, .int 0, .int 0, .int 0, .int 0, .int 0, .int 0, .ref nwi, .ref nco, .int 0, .ref nqu, .ref nmi, .ref nde, .ref nsa, .ref nsm, .int 0, .ref npa, .int 0, .ref nac, .ref nam, .ref naw, .int 0, .int 0, .int 0, .int 0, .int 0, .int 0, .int 0, .int 0, .int 0, .ref ncs, .ref nbw, .ref ndc, .ref nmk, .int 0, .int 0, .int 0, .int 0, .int 0, .int 0, .int 0, .ref npo, .int 0, .ref nta, .ref npl, .int 0, .int 0, .ref nmm, .ref ncu, .ref nke, .ref nik, .int 0, .int 0])), (ndc, .inl (cI, 14, .inl (fun _ => 0))), (nmk, .inl (cI, 61, .inl (fun _ => 0))), (nco, .inl (cI, 14, .inl (fun _ => 0)))] := hD
  rcases hq1 with ⟨rfl, hf1⟩ | ⟨rfl, hf1⟩
  · have hf1 : (0 : Int) ≤ i0.toInt ∧ i0.toInt ≤ (2 : Int) := (by have h9 := hf1; simp only [Int32.toInt_toInt64] at h9; exact h9)
    refine lv_if_ne (tgt := 15) hx hb dX8_behind_9 (by decide) (fun c2 => ?_) (fun c2 => absurd c2 (by decide))
    refine lv_aload_n hx hb dX8_behind_15 rfl (lv_at hl 0 rfl) ?_
    refine mx_i (wr := []) (va_runV (As := []) (rest := []) ⟨hx, hb, hml, hown, hts⟩ (c_X8_refusal l dC dI cI cZ cK tS aK aV n nwi nco nqu nmi nde nsa nsm npa nac nam naw ncs nbw ndc nmk npo nta npl nmm ncu nke nik H.size) (cwV 0 hts (gw_v (fun _ h9 => List.mem_cons_of_mem _ h9) wm_473 wm_474 wm_475 wm_385 wm_476) rfl rfl rfl (by decide +kernel) ⟨Nat.le_of_ble_eq_true rfl, Nat.le_of_ble_eq_true rfl⟩) (mx_preV (C := RX8) (T := TX8) (N := 53) (ci := 8) hKx hP hD hS hA [0, 1, 2, 3] (by decide) rfl rfl rfl) rfl rfl hl.1 rfl (lv_room (Nat.le_of_ble_eq_true rfl)) dX8_behind_16 ⟨Nat.le_of_ble_eq_true rfl, Nat.le_of_ble_eq_true rfl⟩) hP hD hS hA [0, 1, 2, 3] [] rfl rfl (by decide) (by decide) (fun r3 u3 H locs hq3 hP hD hS => ?_)
    replace hP : va_P (dC, dI) vwCl [(n, .inr (8, [.int 800, .int 0, .int 0, .int 0, .int 0, .int 0, .int 0, .ref nwi, .ref nco, .int 0, .ref nqu, .ref nmi, .ref nde, .ref nsa, .ref nsm, .int 0, .ref npa, .int 0, .ref nac, .ref nam, .ref naw, .int 0, .int 0, .int (-6), .int 0, .int 4000, .int (-6), .int (-6), .int 0, .int 0, .ref ncs, .ref nbw, .ref ndc, .ref nmk, .int 800, .int 0, .int 0, .int 0, .int 800, .int 0, .int 0, .ref npo, .int 0, .ref nta, .ref npl, .int 0, .int 0, .ref nmm, .ref ncu, .ref nke, .ref nik, .int 0, .int 0])), (ndc, .inl (cI, 14, .inl (upd (upd (upd (upd (upd (upd (upd (upd (upd (upd (upd (upd (upd (upd (fun _ => 0) 0 0) 1 0) 2 0) 3 0) 4 0) 5 0) 6 0) 7 0) 8 0) 9 0) 10 0) 11 0) 12 0) 13 0))), (nmk, .inl (cI, 61, .inl (upd (fun _ => 0) 0 4))), (nco, .inl (cI, 14, .inl (fun _ => 0)))] H := hP
    replace hD : va_D A [(n, .inr (8, [.int 800, .int 0, .int 0, .int 0, .int 0, .int 0, .int 0, .ref nwi, .ref nco, .int 0, .ref nqu, .ref nmi, .ref nde, .ref nsa, .ref nsm, .int 0, .ref npa, .int 0, .ref nac, .ref nam, .ref naw, .int 0, .int 0, .int (-6), .int 0, .int 4000, .int (-6), .int (-6), .int 0, .int 0, .ref ncs, .ref nbw, .ref ndc, .ref nmk, .int 800, .int 0, .int 0, .int 0, .int 800, .int 0, .int 0, .ref npo, .int 0, .ref nta, .ref npl, .int 0, .int 0, .ref nmm, .ref ncu, .ref nke, .ref nik, .int 0, .int 0])), (ndc, .inl (cI, 14, .inl (upd (upd (upd (upd (upd (upd (upd (upd (upd (upd (upd (upd (upd (upd (fun _ => 0) 0 0) 1 0) 2 0) 3 0) 4 0) 5 0) 6 0) 7 0) 8 0) 9 0) 10 0) 11 0) 12 0) 13 0))), (nmk, .inl (cI, 61, .inl (upd (fun _ => 0) 0 4))), (nco, .inl (cI, 14, .inl (fun _ => 0)))] := hD
    obtain rfl : r3 = (-6) := hq3
    refine lv_istore_n (lv' := [(2, .int (-6)), (0, .ref n), (1, .int i0)]) hx hb dX8_behind_19 rfl hl (by decide) rfl (fun ls hl => ?_)
    refine lv_iload_n hx hb dX8_behind_20 rfl (lv_at hl 0 rfl) ?_
    refine lv_bipush (v := (-6)) hx hb dX8_behind_21 (by decide) ?_
    refine lv_icmp_eq (tgt := 28) hx hb dX8_behind_23 (by decide) (fun c4 => ?_) (fun c4 => absurd c4 (by decide))
    refine lv_iload_n hx hb dX8_behind_28 rfl (lv_at hl 2 rfl) ?_
    refine lv_if_ne (tgt := 39) hx hb dX8_behind_29 (by decide) (fun c5 => ?_) (fun c5 => ?_)
    · have t5 : i0.toInt ≠ (0 : Int) := (tne c5)
      refine lv_iload_n hx hb dX8_behind_39 rfl (lv_at hl 2 rfl) ?_
      refine lv_iconst (v := 1) hx hb dX8_behind_40 (by decide) ?_
      refine lv_icmp_ne (tgt := 51) hx hb dX8_behind_41 (by decide) (fun c6 => ?_) (fun c6 => ?_)
      · have t6 : i0.toInt ≠ (1 : Int) := (tne c6)
        refine lv_aload_n hx hb dX8_behind_51 rfl (lv_at hl 1 rfl) ?_
        refine va_get (D := (dC, dI)) (ci := 8) (v := .int 0) (C := RX8) (T := TX8) (N := 53) hx hb hts hin8 hown hK hP 0 rfl rfl 40 (by decide) hw1 (fun _ h9 => h9) rfl dX8_behind_52 ?_
        have hP9 := mx_subP (wc := []) hP [] rfl
        have hD9 := hD.sub (ws' := []) [] (by decide) rfl
        exact W.iret (v := 0) hx hb hr (fun t ht hW => ⟨⟨0, (), rfl, (by first | exact Or.inl (⟨rfl, by omega⟩) | exact Or.inr (Or.inl (⟨rfl, by omega⟩)) | exact Or.inr (Or.inr (⟨rfl, by omega⟩))), by rw [ht]; exact hP9, hD9⟩, hS.F ht⟩) hS.2.2 dX8_behind_55
      · have t6 : i0.toInt = (1 : Int) := (teq c6)
        refine lv_aload_n hx hb dX8_behind_44 rfl (lv_at hl 1 rfl) ?_
        refine va_get (D := (dC, dI)) (ci := 8) (v := .int 0) (C := RX8) (T := TX8) (N := 53) hx hb hts hin8 hown hK hP 0 rfl rfl 39 (by decide) hw2 (fun _ h9 => h9) rfl dX8_behind_45 ?_
        refine lv_goto (tgt := 55) hx hb dX8_behind_48 (by decide) ?_
        have hP9 := mx_subP (wc := []) hP [] rfl
        have hD9 := hD.sub (ws' := []) [] (by decide) rfl
        exact W.iret (v := 0) hx hb hr (fun t ht hW => ⟨⟨0, (), rfl, (by first | exact Or.inl (⟨rfl, by omega⟩) | exact Or.inr (Or.inl (⟨rfl, by omega⟩)) | exact Or.inr (Or.inr (⟨rfl, by omega⟩))), by rw [ht]; exact hP9, hD9⟩, hS.F ht⟩) hS.2.2 dX8_behind_55
    · have t5 : i0.toInt = (0 : Int) := (teq c5)
      refine lv_aload_n hx hb dX8_behind_32 rfl (lv_at hl 1 rfl) ?_
      refine va_get (D := (dC, dI)) (ci := 8) (v := .int 800) (C := RX8) (T := TX8) (N := 53) hx hb hts hin8 hown hK hP 0 rfl rfl 38 (by decide) hw3 (fun _ h9 => h9) rfl dX8_behind_33 ?_
      refine lv_goto (tgt := 55) hx hb dX8_behind_36 (by decide) ?_
      have hP9 := mx_subP (wc := []) hP [] rfl
      have hD9 := hD.sub (ws' := []) [] (by decide) rfl
      exact W.iret (v := 800) hx hb hr (fun t ht hW => ⟨⟨800, (), rfl, (by first | exact Or.inl (⟨rfl, by omega⟩) | exact Or.inr (Or.inl (⟨rfl, by omega⟩)) | exact Or.inr (Or.inr (⟨rfl, by omega⟩))), by rw [ht]; exact hP9, hD9⟩, hS.F ht⟩) hS.2.2 dX8_behind_55
  · have hf1 : i0.toInt < (0 : Int) ∨ (2 : Int) < i0.toInt := (by have h9 := hf1; simp only [Int32.toInt_toInt64] at h9; exact h9)
    refine lv_if_ne (tgt := 15) hx hb dX8_behind_9 (by decide) (fun c7 => absurd c7 (by decide)) (fun c7 => ?_)
    refine lv_bipush (v := (-2)) hx hb dX8_behind_12 (by decide) ?_
    have hP9 := mx_subP (wc := []) hP [] rfl
    have hD9 := hD.sub (ws' := []) [] (by decide) rfl
    exact W.iret (v := (-2)) hx hb hr (fun t ht hW => ⟨⟨(-2), (), rfl, (by first | exact Or.inl (⟨rfl, by omega⟩) | exact Or.inr (Or.inl (⟨rfl, by omega⟩)) | exact Or.inr (Or.inr (⟨rfl, by omega⟩))), by rw [ht]; exact hP9, hD9⟩, hS.F ht⟩) hS.2.2 dX8_behind_14
set_option maxHeartbeats 4000000 in
set_option maxRecDepth 100000 in
theorem c_X8_spent (l : Launch) (dC : Nat → ClassId) (dI : Nat → Nat → Nat) (cI cZ cK : ClassId) (tS aK aV : Nat) (n : Nat) (nwi : Nat) (nco : Nat) (nqu : Nat) (nmi : Nat) (nde : Nat) (nsa : Nat) (nsm : Nat) (npa : Nat) (nac : Nat) (nam : Nat) (naw : Nat) (ncs : Nat) (nbw : Nat) (ndc : Nat) (nmk : Nat) (npo : Nat) (nta : Nat) (npl : Nat) (nmm : Nat) (ncu : Nat) (nke : Nat) (nik : Nat) (i0 : Int32) (sz : Nat) : Ci l yX8_spent (wq yX8_spent cX8_spent 3 (some .int)) ({ frames := 2, cells := 0, slots := 0, locals := 45 }) dC dI cI cZ cK tS aK aV [.ref n, .int i0] sz [(n, .inr (8, [.int 800, .int 0, .int 0, .int 0, .int 0, .int 0, .int 0, .ref nwi, .ref nco, .int 0, .ref nqu, .ref nmi, .ref nde, .ref nsa, .ref nsm, .int 0, .ref npa, .int 0, .ref nac, .ref nam, .ref naw, .int 0, .int 0, .int 0, .int 0, .int 0, .int 0, .int 0, .int 0, .int 0, .ref ncs, .ref nbw, .ref ndc, .ref nmk, .int 0, .int 0, .int 0, .int 0, .int 0, .int 0, .int 0, .ref npo, .int 0, .ref nta, .ref npl, .int 0, .int 0, .ref nmm, .ref ncu, .ref nke, .ref nik, .int 0, .int 0])), (ndc, .inl (cI, 14, .inl (fun _ => 0))), (nmk, .inl (cI, 61, .inl (fun _ => 0))), (nco, .inl (cI, 14, .inl (fun _ => 0)))] (fun (r : Int32) (_ : Unit) => (r = 0 ∧ (0 ≤ i0.toInt ∧ i0.toInt ≤ 13)) ∨ (r = (-1) ∧ (i0.toInt < 0 ∨ 13 < i0.toInt))) (fun _ => []) := by
  refine Met.ofW (cc := cX8_spent) (maxL := 3) (ret := (some .int)) (by decide) rfl ?_
  intro p e s m args below meth c s₁ B hml hv
  obtain ⟨rfl, hsz, hP, hKx, hD0⟩ := hv
  have hx := B.exec
  have hb := B.bytes
  have hr := B.returns
  have hts := atoms_spec (ws := wq yX8_spent cX8_spent 3 (some .int)) B.pre
  have hown : s.vm.findClass RX8 = some m.cls := findClass_of_methodNamed B.named
  have hlocks := B.notSynchronized
  subst hsz
  have hD := hD0.self (sz := s.heap.size)
  generalize hAe : va_A [(n, .inr (8, [.int 800, .int 0, .int 0, .int 0, .int 0, .int 0, .int 0, .ref nwi, .ref nco, .int 0, .ref nqu, .ref nmi, .ref nde, .ref nsa, .ref nsm, .int 0, .ref npa, .int 0, .ref nac, .ref nam, .ref naw, .int 0, .int 0, .int 0, .int 0, .int 0, .int 0, .int 0, .int 0, .int 0, .ref ncs, .ref nbw, .ref ndc, .ref nmk, .int 0, .int 0, .int 0, .int 0, .int 0, .int 0, .int 0, .ref npo, .int 0, .ref nta, .ref npl, .int 0, .int 0, .ref nmm, .ref ncu, .ref nke, .ref nik, .int 0, .int 0])), (ndc, .inl (cI, 14, .inl (fun _ => 0))), (nmk, .inl (cI, 61, .inl (fun _ => 0))), (nco, .inl (cI, 14, .inl (fun _ => 0)))] s.heap.size = A at hD hKx ⊢
  have hA : ∀ q : Nat, s.heap.size ≤ q → A q := fun q h => by rw [← hAe]; exact Or.inr h
  have hS : va_S A s.heap s.heap [] := va_S.rf
  have hP : va_P (dC, dI) vwCl [(n, .inr (8, [.int 800, .int 0, .int 0, .int 0, .int 0, .int 0, .int 0, .ref nwi, .ref nco, .int 0, .ref nqu, .ref nmi, .ref nde, .ref nsa, .ref nsm, .int 0, .ref npa, .int 0, .ref nac, .ref nam, .ref naw, .int 0, .int 0, .int 0, .int 0, .int 0, .int 0, .int 0, .int 0, .int 0, .ref ncs, .ref nbw, .ref ndc, .ref nmk, .int 0, .int 0, .int 0, .int 0, .int 0, .int 0, .int 0, .ref npo, .int 0, .ref nta, .ref npl, .int 0, .int 0, .ref nmm, .ref ncu, .ref nke, .ref nik, .int 0, .int 0])), (ndc, .inl (cI, 14, .inl (fun _ => 0))), (nmk, .inl (cI, 61, .inl (fun _ => 0))), (nco, .inl (cI, 14, .inl (fun _ => 0)))] s.heap := hP
  have hl := lv_entry ([.ref n, .int i0]) (n := 3) (Nat.le_of_ble_eq_true rfl)
  rw [lg_entry_eq]
  generalize (lg_sl ([.ref n, .int i0]) ++ List.replicate (3 - (lg_sl ([.ref n, .int i0])).length) Slot.unset).toArray = ls at hl ⊢
  have hl : lv_has ls 3 [(0, .ref n), (1, .int i0)] := hl
  have hK := hKx.1
  have hin8 := fun w9 h9 => List.mem_cons_of_mem (Cond.code yX8_spent cX8_spent 3 (some .int)) (inlX8 w9 h9)
  have hw0 := hts (.fieldLink RX8 49 "OneCanModel" "dayCosts" "[I") (List.mem_cons_of_mem _ wm_451)
  refine lv_iload_n hx hb dX8_spent_0 rfl (lv_at hl 1 rfl) ?_
  refine mx_i (wr := [(n, .inr (8, [.int 800, .int 0, .int 0, .int 0, .int 0, .int 0, .int 0, .ref nwi, .ref nco, .int 0, .ref nqu, .ref nmi, .ref nde, .ref nsa, .ref nsm, .int 0, .ref npa, .int 0, .ref nac, .ref nam, .ref naw, .int 0, .int 0, .int 0, .int 0, .int 0, .int 0, .int 0, .int 0, .int 0, .ref ncs, .ref nbw, .ref ndc, .ref nmk, .int 0, .int 0, .int 0, .int 0, .int 0, .int 0, .int 0, .ref npo, .int 0, .ref nta, .ref npl, .int 0, .int 0, .ref nmm, .ref ncu, .ref nke, .ref nik, .int 0, .int 0])), (ndc, .inl (cI, 14, .inl (fun _ => 0))), (nmk, .inl (cI, 61, .inl (fun _ => 0))), (nco, .inl (cI, 14, .inl (fun _ => 0)))]) (va_runS (As := [.int i0]) (rest := []) ⟨hx, hb, hml, hown, hts⟩ (c_X8_isDay l dC dI cI cZ cK tS aK aV i0 s.heap.size) (va_cwS 1 hts (gw_s (fun _ h9 => List.mem_cons_of_mem _ h9) wm_404 wm_405 wm_385 wm_406) rfl rfl rfl (by decide +kernel) ⟨Nat.le_of_ble_eq_true rfl, Nat.le_of_ble_eq_true rfl⟩) (mx_preS hKx hP hD hS hA [] (by decide) rfl) rfl rfl hl.1 rfl (lv_room (Nat.le_of_ble_eq_true rfl)) dX8_spent_1 ⟨Nat.le_of_ble_eq_true rfl, Nat.le_of_ble_eq_true rfl⟩) hP hD hS hA [] [0, 1, 2, 3] rfl rfl (by decide) (by decide) (fun r1 u1 H locs hq1 hP hD hS => ?_)
  replace hP : va_P (dC, dI) vwCl [(n, .inr (8, [.int 800, .int 0, .int 0, .int 0, .int 0, .int 0, .int 0, .ref nwi, .ref nco, .int 0, .ref nqu, .ref nmi, .ref nde, .ref nsa, .ref nsm, .int 0, .ref npa, .int 0, .ref nac, .ref nam, .ref naw, .int 0, .int 0, .int 0, .int 0, .int 0, .int 0, .int 0, .int 0, .int 0, .ref ncs, .ref nbw, .ref ndc, .ref nmk, .int 0, .int 0, .int 0, .int 0, .int 0, .int 0, .int 0, .ref npo, .int 0, .ref nta, .ref npl, .int 0, .int 0, .ref nmm, .ref ncu, .ref nke, .ref nik, .int 0, .int 0])), (ndc, .inl (cI, 14, .inl (fun _ => 0))), (nmk, .inl (cI, 61, .inl (fun _ => 0))), (nco, .inl (cI, 14, .inl (fun _ => 0)))] H := hP
  replace hD : va_D A [(n, .inr (8, [.int 800, .int 0, .int 0, .int 0, .int 0, .int 0, .int 0, .ref nwi, .ref nco, .int 0, .ref nqu, .ref nmi, .ref nde, .ref nsa, .ref nsm, .int 0, .ref npa, .int 0, .ref nac, .ref nam, .ref naw, .int 0, .int 0, .int 0, .int 0, .int 0, .int 0, .int 0, .int 0, .int 0, .ref ncs, .ref nbw, .ref ndc, .ref nmk, .int 0, .int 0, .int 0, .int 0, .int 0, .int 0, .int 0, .ref npo, .int 0, .ref nta, .ref npl, .int 0, .int 0, .ref nmm, .ref ncu, .ref nke, .ref nik, .int 0, .int 0])), (ndc, .inl (cI, 14, .inl (fun _ => 0))), (nmk, .inl (cI, 61, .inl (fun _ => 0))), (nco, .inl (cI, 14, .inl (fun _ => 0)))] := hD
  rcases hq1 with ⟨rfl, hf1⟩ | ⟨rfl, hf1⟩
  · have hf1 : 0 ≤ i0.toInt ∧ i0.toInt ≤ 13 := hf1
    refine lv_if_ne (tgt := 9) hx hb dX8_spent_4 (by decide) (fun c2 => ?_) (fun c2 => absurd c2 (by decide))
    refine lv_aload_n hx hb dX8_spent_9 rfl (lv_at hl 0 rfl) ?_
    refine mx_i (wr := []) (va_runV (As := []) (rest := []) ⟨hx, hb, hml, hown, hts⟩ (c_X8_refusal l dC dI cI cZ cK tS aK aV n nwi nco nqu nmi nde nsa nsm npa nac nam naw ncs nbw ndc nmk npo nta npl nmm ncu nke nik H.size) (cwV 0 hts (gw_v (fun _ h9 => List.mem_cons_of_mem _ h9) wm_473 wm_474 wm_475 wm_385 wm_476) rfl rfl rfl (by decide +kernel) ⟨Nat.le_of_ble_eq_true rfl, Nat.le_of_ble_eq_true rfl⟩) (mx_preV (C := RX8) (T := TX8) (N := 53) (ci := 8) hKx hP hD hS hA [0, 1, 2, 3] (by decide) rfl rfl rfl) rfl rfl hl.1 rfl (lv_room (Nat.le_of_ble_eq_true rfl)) dX8_spent_10 ⟨Nat.le_of_ble_eq_true rfl, Nat.le_of_ble_eq_true rfl⟩) hP hD hS hA [0, 1, 2, 3] [] rfl rfl (by decide) (by decide) (fun r3 u3 H locs hq3 hP hD hS => ?_)
    replace hP : va_P (dC, dI) vwCl [(n, .inr (8, [.int 800, .int 0, .int 0, .int 0, .int 0, .int 0, .int 0, .ref nwi, .ref nco, .int 0, .ref nqu, .ref nmi, .ref nde, .ref nsa, .ref nsm, .int 0, .ref npa, .int 0, .ref nac, .ref nam, .ref naw, .int 0, .int 0, .int (-6), .int 0, .int 4000, .int (-6), .int (-6), .int 0, .int 0, .ref ncs, .ref nbw, .ref ndc, .ref nmk, .int 800, .int 0, .int 0, .int 0, .int 800, .int 0, .int 0, .ref npo, .int 0, .ref nta, .ref npl, .int 0, .int 0, .ref nmm, .ref ncu, .ref nke, .ref nik, .int 0, .int 0])), (ndc, .inl (cI, 14, .inl (upd (upd (upd (upd (upd (upd (upd (upd (upd (upd (upd (upd (upd (upd (fun _ => 0) 0 0) 1 0) 2 0) 3 0) 4 0) 5 0) 6 0) 7 0) 8 0) 9 0) 10 0) 11 0) 12 0) 13 0))), (nmk, .inl (cI, 61, .inl (upd (fun _ => 0) 0 4))), (nco, .inl (cI, 14, .inl (fun _ => 0)))] H := hP
    replace hD : va_D A [(n, .inr (8, [.int 800, .int 0, .int 0, .int 0, .int 0, .int 0, .int 0, .ref nwi, .ref nco, .int 0, .ref nqu, .ref nmi, .ref nde, .ref nsa, .ref nsm, .int 0, .ref npa, .int 0, .ref nac, .ref nam, .ref naw, .int 0, .int 0, .int (-6), .int 0, .int 4000, .int (-6), .int (-6), .int 0, .int 0, .ref ncs, .ref nbw, .ref ndc, .ref nmk, .int 800, .int 0, .int 0, .int 0, .int 800, .int 0, .int 0, .ref npo, .int 0, .ref nta, .ref npl, .int 0, .int 0, .ref nmm, .ref ncu, .ref nke, .ref nik, .int 0, .int 0])), (ndc, .inl (cI, 14, .inl (upd (upd (upd (upd (upd (upd (upd (upd (upd (upd (upd (upd (upd (upd (fun _ => 0) 0 0) 1 0) 2 0) 3 0) 4 0) 5 0) 6 0) 7 0) 8 0) 9 0) 10 0) 11 0) 12 0) 13 0))), (nmk, .inl (cI, 61, .inl (upd (fun _ => 0) 0 4))), (nco, .inl (cI, 14, .inl (fun _ => 0)))] := hD
    obtain rfl : r3 = (-6) := hq3
    refine lv_istore_n (lv' := [(2, .int (-6)), (0, .ref n), (1, .int i0)]) hx hb dX8_spent_13 rfl hl (by decide) rfl (fun ls hl => ?_)
    refine lv_iload_n hx hb dX8_spent_14 rfl (lv_at hl 0 rfl) ?_
    refine lv_bipush (v := (-6)) hx hb dX8_spent_15 (by decide) ?_
    refine lv_icmp_eq (tgt := 24) hx hb dX8_spent_17 (by decide) (fun c4 => ?_) (fun c4 => absurd c4 (by decide))
    refine lv_aload_n hx hb dX8_spent_24 rfl (lv_at hl 1 rfl) ?_
    refine va_get (D := (dC, dI)) (ci := 8) (v := .ref ndc) (C := RX8) (T := TX8) (N := 53) hx hb hts hin8 hown hK hP 0 rfl rfl 32 (by decide) hw0 (fun _ h9 => h9) rfl dX8_spent_25 ?_
    refine lv_iload_n hx hb dX8_spent_28 rfl (lv_at hl 2 rfl) ?_
    refine va_iald hx hb hK hP 1 0 rfl rfl (vin (by omega) (by omega)) dX8_spent_29 ?_
    refine lv_topi (fun x5 e5 => ?_)
    obtain rfl : x5 = 0 := e5.trans (by simp [upd])
    have hP9 := mx_subP (wc := []) hP [] rfl
    have hD9 := hD.sub (ws' := []) [] (by decide) rfl
    exact W.iret (v := 0) hx hb hr (fun t ht hW => ⟨⟨0, (), rfl, (by first | exact Or.inl (⟨rfl, by omega⟩) | exact Or.inr (⟨rfl, by omega⟩)), by rw [ht]; exact hP9, hD9⟩, hS.F ht⟩) hS.2.2 dX8_spent_30
  · have hf1 : i0.toInt < 0 ∨ 13 < i0.toInt := hf1
    refine lv_if_ne (tgt := 9) hx hb dX8_spent_4 (by decide) (fun c6 => absurd c6 (by decide)) (fun c6 => ?_)
    refine lv_iconst (v := (-1)) hx hb dX8_spent_7 (by decide) ?_
    have hP9 := mx_subP (wc := []) hP [] rfl
    have hD9 := hD.sub (ws' := []) [] (by decide) rfl
    exact W.iret (v := (-1)) hx hb hr (fun t ht hW => ⟨⟨(-1), (), rfl, (by first | exact Or.inl (⟨rfl, by omega⟩) | exact Or.inr (⟨rfl, by omega⟩)), by rw [ht]; exact hP9, hD9⟩, hS.F ht⟩) hS.2.2 dX8_spent_8
set_option maxHeartbeats 4000000 in
set_option maxRecDepth 100000 in
theorem c_X8_cost (l : Launch) (dC : Nat → ClassId) (dI : Nat → Nat → Nat) (cI cZ cK : ClassId) (tS aK aV : Nat) (n : Nat) (nwi : Nat) (nco : Nat) (nqu : Nat) (nmi : Nat) (nde : Nat) (nsa : Nat) (nsm : Nat) (npa : Nat) (nac : Nat) (nam : Nat) (naw : Nat) (ncs : Nat) (nbw : Nat) (ndc : Nat) (nmk : Nat) (npo : Nat) (nta : Nat) (npl : Nat) (nmm : Nat) (ncu : Nat) (nke : Nat) (nik : Nat) (i0 : Int32) (i1 : Int32) (sz : Nat) : Ci l yX8_cost (wq yX8_cost cX8_cost 4 (some .int)) ({ frames := 2, cells := 0, slots := 0, locals := 45 }) dC dI cI cZ cK tS aK aV [.ref n, .int i0, .int i1] sz [(n, .inr (8, [.int 800, .int 0, .int 0, .int 0, .int 0, .int 0, .int 0, .ref nwi, .ref nco, .int 0, .ref nqu, .ref nmi, .ref nde, .ref nsa, .ref nsm, .int 0, .ref npa, .int 0, .ref nac, .ref nam, .ref naw, .int 0, .int 0, .int 0, .int 0, .int 0, .int 0, .int 0, .int 0, .int 0, .ref ncs, .ref nbw, .ref ndc, .ref nmk, .int 0, .int 0, .int 0, .int 0, .int 0, .int 0, .int 0, .ref npo, .int 0, .ref nta, .ref npl, .int 0, .int 0, .ref nmm, .ref ncu, .ref nke, .ref nik, .int 0, .int 0])), (ndc, .inl (cI, 14, .inl (fun _ => 0))), (nmk, .inl (cI, 61, .inl (fun _ => 0))), (nco, .inl (cI, 14, .inl (fun _ => 0)))] (fun (r : Int32) (_ : Unit) => (r = (-1) ∧ (0 ≤ i1.toInt ∧ i1.toInt ≤ 1)) ∨ (r = (-2) ∧ (i1.toInt < 0 ∨ 1 < i1.toInt))) (fun _ => []) := by
  refine Met.ofW (cc := cX8_cost) (maxL := 4) (ret := (some .int)) (by decide) rfl ?_
  intro p e s m args below meth c s₁ B hml hv
  obtain ⟨rfl, hsz, hP, hKx, hD0⟩ := hv
  have hx := B.exec
  have hb := B.bytes
  have hr := B.returns
  have hts := atoms_spec (ws := wq yX8_cost cX8_cost 4 (some .int)) B.pre
  have hown : s.vm.findClass RX8 = some m.cls := findClass_of_methodNamed B.named
  have hlocks := B.notSynchronized
  subst hsz
  have hD := hD0.self (sz := s.heap.size)
  generalize hAe : va_A [(n, .inr (8, [.int 800, .int 0, .int 0, .int 0, .int 0, .int 0, .int 0, .ref nwi, .ref nco, .int 0, .ref nqu, .ref nmi, .ref nde, .ref nsa, .ref nsm, .int 0, .ref npa, .int 0, .ref nac, .ref nam, .ref naw, .int 0, .int 0, .int 0, .int 0, .int 0, .int 0, .int 0, .int 0, .int 0, .ref ncs, .ref nbw, .ref ndc, .ref nmk, .int 0, .int 0, .int 0, .int 0, .int 0, .int 0, .int 0, .ref npo, .int 0, .ref nta, .ref npl, .int 0, .int 0, .ref nmm, .ref ncu, .ref nke, .ref nik, .int 0, .int 0])), (ndc, .inl (cI, 14, .inl (fun _ => 0))), (nmk, .inl (cI, 61, .inl (fun _ => 0))), (nco, .inl (cI, 14, .inl (fun _ => 0)))] s.heap.size = A at hD hKx ⊢
  have hA : ∀ q : Nat, s.heap.size ≤ q → A q := fun q h => by rw [← hAe]; exact Or.inr h
  have hS : va_S A s.heap s.heap [] := va_S.rf
  have hP : va_P (dC, dI) vwCl [(n, .inr (8, [.int 800, .int 0, .int 0, .int 0, .int 0, .int 0, .int 0, .ref nwi, .ref nco, .int 0, .ref nqu, .ref nmi, .ref nde, .ref nsa, .ref nsm, .int 0, .ref npa, .int 0, .ref nac, .ref nam, .ref naw, .int 0, .int 0, .int 0, .int 0, .int 0, .int 0, .int 0, .int 0, .int 0, .ref ncs, .ref nbw, .ref ndc, .ref nmk, .int 0, .int 0, .int 0, .int 0, .int 0, .int 0, .int 0, .ref npo, .int 0, .ref nta, .ref npl, .int 0, .int 0, .ref nmm, .ref ncu, .ref nke, .ref nik, .int 0, .int 0])), (ndc, .inl (cI, 14, .inl (fun _ => 0))), (nmk, .inl (cI, 61, .inl (fun _ => 0))), (nco, .inl (cI, 14, .inl (fun _ => 0)))] s.heap := hP
  have hl := lv_entry ([.ref n, .int i0, .int i1]) (n := 4) (Nat.le_of_ble_eq_true rfl)
  rw [lg_entry_eq]
  generalize (lg_sl ([.ref n, .int i0, .int i1]) ++ List.replicate (4 - (lg_sl ([.ref n, .int i0, .int i1])).length) Slot.unset).toArray = ls at hl ⊢
  have hl : lv_has ls 4 [(0, .ref n), (1, .int i0), (2, .int i1)] := hl
  have hK := hKx.1
  have hin8 := fun w9 h9 => List.mem_cons_of_mem (Cond.code yX8_cost cX8_cost 4 (some .int)) (inlX8 w9 h9)
  have hw0 := hts (.fieldLink RX8 137 "OneCanModel" "acts" "I") (List.mem_cons_of_mem _ wm_438)
  refine lv_iload_n hx hb dX8_cost_0 rfl (lv_at hl 2 rfl) ?_
  refine lv_i2l (v := i1.toInt64) hx hb dX8_cost_1 rfl ?_
  refine lv_lconst (v := 0) hx hb dX8_cost_2 (by decide) ?_
  refine lv_lconst (v := 1) hx hb dX8_cost_3 (by decide) ?_
  refine mx_i (wr := [(n, .inr (8, [.int 800, .int 0, .int 0, .int 0, .int 0, .int 0, .int 0, .ref nwi, .ref nco, .int 0, .ref nqu, .ref nmi, .ref nde, .ref nsa, .ref nsm, .int 0, .ref npa, .int 0, .ref nac, .ref nam, .ref naw, .int 0, .int 0, .int 0, .int 0, .int 0, .int 0, .int 0, .int 0, .int 0, .ref ncs, .ref nbw, .ref ndc, .ref nmk, .int 0, .int 0, .int 0, .int 0, .int 0, .int 0, .int 0, .ref npo, .int 0, .ref nta, .ref npl, .int 0, .int 0, .ref nmm, .ref ncu, .ref nke, .ref nik, .int 0, .int 0])), (ndc, .inl (cI, 14, .inl (fun _ => 0))), (nmk, .inl (cI, 61, .inl (fun _ => 0))), (nco, .inl (cI, 14, .inl (fun _ => 0)))]) (va_runS (As := [.long (i1.toInt64), .long 0, .long 1]) (rest := []) ⟨hx, hb, hml, hown, hts⟩ (c_X8_in l dC dI cI cZ cK tS aK aV (i1.toInt64) 0 1 s.heap.size) (va_cwS 3 hts (gw_s (fun _ h9 => List.mem_cons_of_mem _ h9) wm_383 wm_384 wm_385 wm_386) rfl rfl rfl (by decide +kernel) ⟨Nat.le_of_ble_eq_true rfl, Nat.le_of_ble_eq_true rfl⟩) (mx_preS hKx hP hD hS hA [] (by decide) rfl) rfl rfl hl.1 rfl (lv_room (Nat.le_of_ble_eq_true rfl)) dX8_cost_4 ⟨Nat.le_of_ble_eq_true rfl, Nat.le_of_ble_eq_true rfl⟩) hP hD hS hA [] [0, 1, 2, 3] rfl rfl (by decide) (by decide) (fun r1 u1 H locs hq1 hP hD hS => ?_)
  replace hP : va_P (dC, dI) vwCl [(n, .inr (8, [.int 800, .int 0, .int 0, .int 0, .int 0, .int 0, .int 0, .ref nwi, .ref nco, .int 0, .ref nqu, .ref nmi, .ref nde, .ref nsa, .ref nsm, .int 0, .ref npa, .int 0, .ref nac, .ref nam, .ref naw, .int 0, .int 0, .int 0, .int 0, .int 0, .int 0, .int 0, .int 0, .int 0, .ref ncs, .ref nbw, .ref ndc, .ref nmk, .int 0, .int 0, .int 0, .int 0, .int 0, .int 0, .int 0, .ref npo, .int 0, .ref nta, .ref npl, .int 0, .int 0, .ref nmm, .ref ncu, .ref nke, .ref nik, .int 0, .int 0])), (ndc, .inl (cI, 14, .inl (fun _ => 0))), (nmk, .inl (cI, 61, .inl (fun _ => 0))), (nco, .inl (cI, 14, .inl (fun _ => 0)))] H := hP
  replace hD : va_D A [(n, .inr (8, [.int 800, .int 0, .int 0, .int 0, .int 0, .int 0, .int 0, .ref nwi, .ref nco, .int 0, .ref nqu, .ref nmi, .ref nde, .ref nsa, .ref nsm, .int 0, .ref npa, .int 0, .ref nac, .ref nam, .ref naw, .int 0, .int 0, .int 0, .int 0, .int 0, .int 0, .int 0, .int 0, .int 0, .ref ncs, .ref nbw, .ref ndc, .ref nmk, .int 0, .int 0, .int 0, .int 0, .int 0, .int 0, .int 0, .ref npo, .int 0, .ref nta, .ref npl, .int 0, .int 0, .ref nmm, .ref ncu, .ref nke, .ref nik, .int 0, .int 0])), (ndc, .inl (cI, 14, .inl (fun _ => 0))), (nmk, .inl (cI, 61, .inl (fun _ => 0))), (nco, .inl (cI, 14, .inl (fun _ => 0)))] := hD
  rcases hq1 with ⟨rfl, hf1⟩ | ⟨rfl, hf1⟩
  · have hf1 : (0 : Int) ≤ i1.toInt ∧ i1.toInt ≤ (1 : Int) := (by have h9 := hf1; simp only [Int32.toInt_toInt64] at h9; exact h9)
    refine lv_if_ne (tgt := 13) hx hb dX8_cost_7 (by decide) (fun c2 => ?_) (fun c2 => absurd c2 (by decide))
    refine lv_aload_n hx hb dX8_cost_13 rfl (lv_at hl 0 rfl) ?_
    refine mx_i (wr := []) (va_runV (As := []) (rest := []) ⟨hx, hb, hml, hown, hts⟩ (c_X8_refusal l dC dI cI cZ cK tS aK aV n nwi nco nqu nmi nde nsa nsm npa nac nam naw ncs nbw ndc nmk npo nta npl nmm ncu nke nik H.size) (cwV 0 hts (gw_v (fun _ h9 => List.mem_cons_of_mem _ h9) wm_473 wm_474 wm_475 wm_385 wm_476) rfl rfl rfl (by decide +kernel) ⟨Nat.le_of_ble_eq_true rfl, Nat.le_of_ble_eq_true rfl⟩) (mx_preV (C := RX8) (T := TX8) (N := 53) (ci := 8) hKx hP hD hS hA [0, 1, 2, 3] (by decide) rfl rfl rfl) rfl rfl hl.1 rfl (lv_room (Nat.le_of_ble_eq_true rfl)) dX8_cost_14 ⟨Nat.le_of_ble_eq_true rfl, Nat.le_of_ble_eq_true rfl⟩) hP hD hS hA [0, 1, 2, 3] [] rfl rfl (by decide) (by decide) (fun r3 u3 H locs hq3 hP hD hS => ?_)
    replace hP : va_P (dC, dI) vwCl [(n, .inr (8, [.int 800, .int 0, .int 0, .int 0, .int 0, .int 0, .int 0, .ref nwi, .ref nco, .int 0, .ref nqu, .ref nmi, .ref nde, .ref nsa, .ref nsm, .int 0, .ref npa, .int 0, .ref nac, .ref nam, .ref naw, .int 0, .int 0, .int (-6), .int 0, .int 4000, .int (-6), .int (-6), .int 0, .int 0, .ref ncs, .ref nbw, .ref ndc, .ref nmk, .int 800, .int 0, .int 0, .int 0, .int 800, .int 0, .int 0, .ref npo, .int 0, .ref nta, .ref npl, .int 0, .int 0, .ref nmm, .ref ncu, .ref nke, .ref nik, .int 0, .int 0])), (ndc, .inl (cI, 14, .inl (upd (upd (upd (upd (upd (upd (upd (upd (upd (upd (upd (upd (upd (upd (fun _ => 0) 0 0) 1 0) 2 0) 3 0) 4 0) 5 0) 6 0) 7 0) 8 0) 9 0) 10 0) 11 0) 12 0) 13 0))), (nmk, .inl (cI, 61, .inl (upd (fun _ => 0) 0 4))), (nco, .inl (cI, 14, .inl (fun _ => 0)))] H := hP
    replace hD : va_D A [(n, .inr (8, [.int 800, .int 0, .int 0, .int 0, .int 0, .int 0, .int 0, .ref nwi, .ref nco, .int 0, .ref nqu, .ref nmi, .ref nde, .ref nsa, .ref nsm, .int 0, .ref npa, .int 0, .ref nac, .ref nam, .ref naw, .int 0, .int 0, .int (-6), .int 0, .int 4000, .int (-6), .int (-6), .int 0, .int 0, .ref ncs, .ref nbw, .ref ndc, .ref nmk, .int 800, .int 0, .int 0, .int 0, .int 800, .int 0, .int 0, .ref npo, .int 0, .ref nta, .ref npl, .int 0, .int 0, .ref nmm, .ref ncu, .ref nke, .ref nik, .int 0, .int 0])), (ndc, .inl (cI, 14, .inl (upd (upd (upd (upd (upd (upd (upd (upd (upd (upd (upd (upd (upd (upd (fun _ => 0) 0 0) 1 0) 2 0) 3 0) 4 0) 5 0) 6 0) 7 0) 8 0) 9 0) 10 0) 11 0) 12 0) 13 0))), (nmk, .inl (cI, 61, .inl (upd (fun _ => 0) 0 4))), (nco, .inl (cI, 14, .inl (fun _ => 0)))] := hD
    obtain rfl : r3 = (-6) := hq3
    refine lv_istore_n (lv' := [(3, .int (-6)), (0, .ref n), (1, .int i0), (2, .int i1)]) hx hb dX8_cost_17 rfl hl (by decide) rfl (fun ls hl => ?_)
    refine lv_iload_n hx hb dX8_cost_18 rfl (lv_at hl 0 rfl) ?_
    refine lv_bipush (v := (-6)) hx hb dX8_cost_19 (by decide) ?_
    refine lv_icmp_eq (tgt := 26) hx hb dX8_cost_21 (by decide) (fun c4 => ?_) (fun c4 => absurd c4 (by decide))
    refine lv_iload_n hx hb dX8_cost_26 rfl (lv_at hl 2 rfl) ?_
    refine lv_i2l (v := i0.toInt64) hx hb dX8_cost_27 rfl ?_
    refine lv_lconst (v := 0) hx hb dX8_cost_28 (by decide) ?_
    refine lv_aload_n hx hb dX8_cost_29 rfl (lv_at hl 1 rfl) ?_
    refine va_get (D := (dC, dI)) (ci := 8) (v := .int 0) (C := RX8) (T := TX8) (N := 53) hx hb hts hin8 hown hK hP 0 rfl rfl 21 (by decide) hw0 (fun _ h9 => h9) rfl dX8_cost_30 ?_
    refine lv_iconst (v := 1) hx hb dX8_cost_33 (by decide) ?_
    refine lv_isub hx hb dX8_cost_34 ?_
    refine lv_topi (fun x5 e5 => ?_)
    obtain rfl : x5 = (-1) := e5.trans (by decide)
    refine lv_i2l (v := (-1)) hx hb dX8_cost_35 (by decide) ?_
    refine mx_i (wr := [(n, .inr (8, [.int 800, .int 0, .int 0, .int 0, .int 0, .int 0, .int 0, .ref nwi, .ref nco, .int 0, .ref nqu, .ref nmi, .ref nde, .ref nsa, .ref nsm, .int 0, .ref npa, .int 0, .ref nac, .ref nam, .ref naw, .int 0, .int 0, .int (-6), .int 0, .int 4000, .int (-6), .int (-6), .int 0, .int 0, .ref ncs, .ref nbw, .ref ndc, .ref nmk, .int 800, .int 0, .int 0, .int 0, .int 800, .int 0, .int 0, .ref npo, .int 0, .ref nta, .ref npl, .int 0, .int 0, .ref nmm, .ref ncu, .ref nke, .ref nik, .int 0, .int 0])), (ndc, .inl (cI, 14, .inl (upd (upd (upd (upd (upd (upd (upd (upd (upd (upd (upd (upd (upd (upd (fun _ => 0) 0 0) 1 0) 2 0) 3 0) 4 0) 5 0) 6 0) 7 0) 8 0) 9 0) 10 0) 11 0) 12 0) 13 0))), (nmk, .inl (cI, 61, .inl (upd (fun _ => 0) 0 4))), (nco, .inl (cI, 14, .inl (fun _ => 0)))]) (va_runS (As := [.long (i0.toInt64), .long 0, .long (-1)]) (rest := []) ⟨hx, hb, hml, hown, hts⟩ (c_X8_in l dC dI cI cZ cK tS aK aV (i0.toInt64) 0 (-1) H.size) (va_cwS 3 hts (gw_s (fun _ h9 => List.mem_cons_of_mem _ h9) wm_383 wm_384 wm_385 wm_386) rfl rfl rfl (by decide +kernel) ⟨Nat.le_of_ble_eq_true rfl, Nat.le_of_ble_eq_true rfl⟩) (mx_preS hKx hP hD hS hA [] (by decide) rfl) rfl rfl hl.1 rfl (lv_room (Nat.le_of_ble_eq_true rfl)) dX8_cost_36 ⟨Nat.le_of_ble_eq_true rfl, Nat.le_of_ble_eq_true rfl⟩) hP hD hS hA [] [0, 1, 2, 3] rfl rfl (by decide) (by decide) (fun r6 u6 H locs hq6 hP hD hS => ?_)
    replace hP : va_P (dC, dI) vwCl [(n, .inr (8, [.int 800, .int 0, .int 0, .int 0, .int 0, .int 0, .int 0, .ref nwi, .ref nco, .int 0, .ref nqu, .ref nmi, .ref nde, .ref nsa, .ref nsm, .int 0, .ref npa, .int 0, .ref nac, .ref nam, .ref naw, .int 0, .int 0, .int (-6), .int 0, .int 4000, .int (-6), .int (-6), .int 0, .int 0, .ref ncs, .ref nbw, .ref ndc, .ref nmk, .int 800, .int 0, .int 0, .int 0, .int 800, .int 0, .int 0, .ref npo, .int 0, .ref nta, .ref npl, .int 0, .int 0, .ref nmm, .ref ncu, .ref nke, .ref nik, .int 0, .int 0])), (ndc, .inl (cI, 14, .inl (upd (upd (upd (upd (upd (upd (upd (upd (upd (upd (upd (upd (upd (upd (fun _ => 0) 0 0) 1 0) 2 0) 3 0) 4 0) 5 0) 6 0) 7 0) 8 0) 9 0) 10 0) 11 0) 12 0) 13 0))), (nmk, .inl (cI, 61, .inl (upd (fun _ => 0) 0 4))), (nco, .inl (cI, 14, .inl (fun _ => 0)))] H := hP
    replace hD : va_D A [(n, .inr (8, [.int 800, .int 0, .int 0, .int 0, .int 0, .int 0, .int 0, .ref nwi, .ref nco, .int 0, .ref nqu, .ref nmi, .ref nde, .ref nsa, .ref nsm, .int 0, .ref npa, .int 0, .ref nac, .ref nam, .ref naw, .int 0, .int 0, .int (-6), .int 0, .int 4000, .int (-6), .int (-6), .int 0, .int 0, .ref ncs, .ref nbw, .ref ndc, .ref nmk, .int 800, .int 0, .int 0, .int 0, .int 800, .int 0, .int 0, .ref npo, .int 0, .ref nta, .ref npl, .int 0, .int 0, .ref nmm, .ref ncu, .ref nke, .ref nik, .int 0, .int 0])), (ndc, .inl (cI, 14, .inl (upd (upd (upd (upd (upd (upd (upd (upd (upd (upd (upd (upd (upd (upd (fun _ => 0) 0 0) 1 0) 2 0) 3 0) 4 0) 5 0) 6 0) 7 0) 8 0) 9 0) 10 0) 11 0) 12 0) 13 0))), (nmk, .inl (cI, 61, .inl (upd (fun _ => 0) 0 4))), (nco, .inl (cI, 14, .inl (fun _ => 0)))] := hD
    rcases hq6 with ⟨rfl, hf6⟩ | ⟨rfl, hf6⟩
    · exfalso; have hf6 : (0 : Int) ≤ i0.toInt ∧ i0.toInt ≤ (-1 : Int) := (by have h9 := hf6; simp only [Int32.toInt_toInt64] at h9; exact h9); omega
    · have hf6 : i0.toInt < (0 : Int) ∨ (-1 : Int) < i0.toInt := (by have h9 := hf6; simp only [Int32.toInt_toInt64] at h9; exact h9)
      refine lv_if_ne (tgt := 44) hx hb dX8_cost_39 (by decide) (fun c7 => absurd c7 (by decide)) (fun c7 => ?_)
      refine lv_iconst (v := (-1)) hx hb dX8_cost_42 (by decide) ?_
      have hP9 := mx_subP (wc := []) hP [] rfl
      have hD9 := hD.sub (ws' := []) [] (by decide) rfl
      exact W.iret (v := (-1)) hx hb hr (fun t ht hW => ⟨⟨(-1), (), rfl, (by first | exact Or.inl (⟨rfl, by omega⟩) | exact Or.inr (⟨rfl, by omega⟩)), by rw [ht]; exact hP9, hD9⟩, hS.F ht⟩) hS.2.2 dX8_cost_43
  · have hf1 : i1.toInt < (0 : Int) ∨ (1 : Int) < i1.toInt := (by have h9 := hf1; simp only [Int32.toInt_toInt64] at h9; exact h9)
    refine lv_if_ne (tgt := 13) hx hb dX8_cost_7 (by decide) (fun c8 => absurd c8 (by decide)) (fun c8 => ?_)
    refine lv_bipush (v := (-2)) hx hb dX8_cost_10 (by decide) ?_
    have hP9 := mx_subP (wc := []) hP [] rfl
    have hD9 := hD.sub (ws' := []) [] (by decide) rfl
    exact W.iret (v := (-2)) hx hb hr (fun t ht hW => ⟨⟨(-2), (), rfl, (by first | exact Or.inl (⟨rfl, by omega⟩) | exact Or.inr (⟨rfl, by omega⟩)), by rw [ht]; exact hP9, hD9⟩, hS.F ht⟩) hS.2.2 dX8_cost_12
set_option maxHeartbeats 4000000 in
set_option maxRecDepth 100000 in
theorem c_X8_done (l : Launch) (dC : Nat → ClassId) (dI : Nat → Nat → Nat) (cI cZ cK : ClassId) (tS aK aV : Nat) (n : Nat) (nwi : Nat) (nco : Nat) (nqu : Nat) (nmi : Nat) (nde : Nat) (nsa : Nat) (nsm : Nat) (npa : Nat) (nac : Nat) (nam : Nat) (naw : Nat) (ncs : Nat) (nbw : Nat) (ndc : Nat) (nmk : Nat) (npo : Nat) (nta : Nat) (npl : Nat) (nmm : Nat) (ncu : Nat) (nke : Nat) (nik : Nat) (sz : Nat) : Ci l yX8_done (wq yX8_done cX8_done 2 (some .int)) ({ frames := 2, cells := 0, slots := 0, locals := 45 }) dC dI cI cZ cK tS aK aV [.ref n] sz [(n, .inr (8, [.int 800, .int 0, .int 0, .int 0, .int 0, .int 0, .int 0, .ref nwi, .ref nco, .int 0, .ref nqu, .ref nmi, .ref nde, .ref nsa, .ref nsm, .int 0, .ref npa, .int 0, .ref nac, .ref nam, .ref naw, .int 0, .int 0, .int 0, .int 0, .int 0, .int 0, .int 0, .int 0, .int 0, .ref ncs, .ref nbw, .ref ndc, .ref nmk, .int 0, .int 0, .int 0, .int 0, .int 0, .int 0, .int 0, .ref npo, .int 0, .ref nta, .ref npl, .int 0, .int 0, .ref nmm, .ref ncu, .ref nke, .ref nik, .int 0, .int 0])), (ndc, .inl (cI, 14, .inl (fun _ => 0))), (nmk, .inl (cI, 61, .inl (fun _ => 0))), (nco, .inl (cI, 14, .inl (fun _ => 0)))] (fun (r : Int32) (_ : Unit) => r = 0) (fun _ => []) := by
  refine Met.ofW (cc := cX8_done) (maxL := 2) (ret := (some .int)) (by decide) rfl ?_
  intro p e s m args below meth c s₁ B hml hv
  obtain ⟨rfl, hsz, hP, hKx, hD0⟩ := hv
  have hx := B.exec
  have hb := B.bytes
  have hr := B.returns
  have hts := atoms_spec (ws := wq yX8_done cX8_done 2 (some .int)) B.pre
  have hown : s.vm.findClass RX8 = some m.cls := findClass_of_methodNamed B.named
  have hlocks := B.notSynchronized
  subst hsz
  have hD := hD0.self (sz := s.heap.size)
  generalize hAe : va_A [(n, .inr (8, [.int 800, .int 0, .int 0, .int 0, .int 0, .int 0, .int 0, .ref nwi, .ref nco, .int 0, .ref nqu, .ref nmi, .ref nde, .ref nsa, .ref nsm, .int 0, .ref npa, .int 0, .ref nac, .ref nam, .ref naw, .int 0, .int 0, .int 0, .int 0, .int 0, .int 0, .int 0, .int 0, .int 0, .ref ncs, .ref nbw, .ref ndc, .ref nmk, .int 0, .int 0, .int 0, .int 0, .int 0, .int 0, .int 0, .ref npo, .int 0, .ref nta, .ref npl, .int 0, .int 0, .ref nmm, .ref ncu, .ref nke, .ref nik, .int 0, .int 0])), (ndc, .inl (cI, 14, .inl (fun _ => 0))), (nmk, .inl (cI, 61, .inl (fun _ => 0))), (nco, .inl (cI, 14, .inl (fun _ => 0)))] s.heap.size = A at hD hKx ⊢
  have hA : ∀ q : Nat, s.heap.size ≤ q → A q := fun q h => by rw [← hAe]; exact Or.inr h
  have hS : va_S A s.heap s.heap [] := va_S.rf
  have hP : va_P (dC, dI) vwCl [(n, .inr (8, [.int 800, .int 0, .int 0, .int 0, .int 0, .int 0, .int 0, .ref nwi, .ref nco, .int 0, .ref nqu, .ref nmi, .ref nde, .ref nsa, .ref nsm, .int 0, .ref npa, .int 0, .ref nac, .ref nam, .ref naw, .int 0, .int 0, .int 0, .int 0, .int 0, .int 0, .int 0, .int 0, .int 0, .ref ncs, .ref nbw, .ref ndc, .ref nmk, .int 0, .int 0, .int 0, .int 0, .int 0, .int 0, .int 0, .ref npo, .int 0, .ref nta, .ref npl, .int 0, .int 0, .ref nmm, .ref ncu, .ref nke, .ref nik, .int 0, .int 0])), (ndc, .inl (cI, 14, .inl (fun _ => 0))), (nmk, .inl (cI, 61, .inl (fun _ => 0))), (nco, .inl (cI, 14, .inl (fun _ => 0)))] s.heap := hP
  have hl := lv_entry ([.ref n]) (n := 2) (Nat.le_of_ble_eq_true rfl)
  rw [lg_entry_eq]
  generalize (lg_sl ([.ref n]) ++ List.replicate (2 - (lg_sl ([.ref n])).length) Slot.unset).toArray = ls at hl ⊢
  have hl : lv_has ls 2 [(0, .ref n)] := hl
  have hK := hKx.1
  have hin8 := fun w9 h9 => List.mem_cons_of_mem (Cond.code yX8_done cX8_done 2 (some .int)) (inlX8 w9 h9)
  have hw0 := hts (.fieldLink RX8 134 "OneCanModel" "padMany" "I") (List.mem_cons_of_mem _ wm_419)
  have hw1 := hts (.fieldLink RX8 137 "OneCanModel" "acts" "I") (List.mem_cons_of_mem _ wm_438)
  refine lv_aload_n hx hb dX8_done_0 rfl (lv_at hl 0 rfl) ?_
  refine mx_i (wr := []) (va_runV (As := []) (rest := []) ⟨hx, hb, hml, hown, hts⟩ (c_X8_refusal l dC dI cI cZ cK tS aK aV n nwi nco nqu nmi nde nsa nsm npa nac nam naw ncs nbw ndc nmk npo nta npl nmm ncu nke nik s.heap.size) (cwV 0 hts (gw_v (fun _ h9 => List.mem_cons_of_mem _ h9) wm_473 wm_474 wm_475 wm_385 wm_476) rfl rfl rfl (by decide +kernel) ⟨Nat.le_of_ble_eq_true rfl, Nat.le_of_ble_eq_true rfl⟩) (mx_preV (C := RX8) (T := TX8) (N := 53) (ci := 8) hKx hP hD hS hA [0, 1, 2, 3] (by decide) rfl rfl rfl) rfl rfl hl.1 rfl (lv_room (Nat.le_of_ble_eq_true rfl)) dX8_done_1 ⟨Nat.le_of_ble_eq_true rfl, Nat.le_of_ble_eq_true rfl⟩) hP hD hS hA [0, 1, 2, 3] [] rfl rfl (by decide) (by decide) (fun r1 u1 H locs hq1 hP hD hS => ?_)
  replace hP : va_P (dC, dI) vwCl [(n, .inr (8, [.int 800, .int 0, .int 0, .int 0, .int 0, .int 0, .int 0, .ref nwi, .ref nco, .int 0, .ref nqu, .ref nmi, .ref nde, .ref nsa, .ref nsm, .int 0, .ref npa, .int 0, .ref nac, .ref nam, .ref naw, .int 0, .int 0, .int (-6), .int 0, .int 4000, .int (-6), .int (-6), .int 0, .int 0, .ref ncs, .ref nbw, .ref ndc, .ref nmk, .int 800, .int 0, .int 0, .int 0, .int 800, .int 0, .int 0, .ref npo, .int 0, .ref nta, .ref npl, .int 0, .int 0, .ref nmm, .ref ncu, .ref nke, .ref nik, .int 0, .int 0])), (ndc, .inl (cI, 14, .inl (upd (upd (upd (upd (upd (upd (upd (upd (upd (upd (upd (upd (upd (upd (fun _ => 0) 0 0) 1 0) 2 0) 3 0) 4 0) 5 0) 6 0) 7 0) 8 0) 9 0) 10 0) 11 0) 12 0) 13 0))), (nmk, .inl (cI, 61, .inl (upd (fun _ => 0) 0 4))), (nco, .inl (cI, 14, .inl (fun _ => 0)))] H := hP
  replace hD : va_D A [(n, .inr (8, [.int 800, .int 0, .int 0, .int 0, .int 0, .int 0, .int 0, .ref nwi, .ref nco, .int 0, .ref nqu, .ref nmi, .ref nde, .ref nsa, .ref nsm, .int 0, .ref npa, .int 0, .ref nac, .ref nam, .ref naw, .int 0, .int 0, .int (-6), .int 0, .int 4000, .int (-6), .int (-6), .int 0, .int 0, .ref ncs, .ref nbw, .ref ndc, .ref nmk, .int 800, .int 0, .int 0, .int 0, .int 800, .int 0, .int 0, .ref npo, .int 0, .ref nta, .ref npl, .int 0, .int 0, .ref nmm, .ref ncu, .ref nke, .ref nik, .int 0, .int 0])), (ndc, .inl (cI, 14, .inl (upd (upd (upd (upd (upd (upd (upd (upd (upd (upd (upd (upd (upd (upd (fun _ => 0) 0 0) 1 0) 2 0) 3 0) 4 0) 5 0) 6 0) 7 0) 8 0) 9 0) 10 0) 11 0) 12 0) 13 0))), (nmk, .inl (cI, 61, .inl (upd (fun _ => 0) 0 4))), (nco, .inl (cI, 14, .inl (fun _ => 0)))] := hD
  obtain rfl : r1 = (-6) := hq1
  refine lv_istore_n (lv' := [(1, .int (-6)), (0, .ref n)]) hx hb dX8_done_4 rfl hl (by decide) rfl (fun ls hl => ?_)
  refine lv_iload_n hx hb dX8_done_5 rfl (lv_at hl 0 rfl) ?_
  refine lv_bipush (v := (-6)) hx hb dX8_done_6 (by decide) ?_
  refine lv_icmp_eq (tgt := 13) hx hb dX8_done_8 (by decide) (fun c2 => ?_) (fun c2 => absurd c2 (by decide))
  refine lv_aload_n hx hb dX8_done_13 rfl (lv_at hl 1 rfl) ?_
  refine mx_v (wr := [(nco, .inl (cI, 14, .inl (fun _ => 0)))]) (va_runV (As := []) (rest := []) ⟨hx, hb, hml, hown, hts⟩ (c_X8_goPlan_800 l dC dI cI cZ cK tS aK aV n nwi nco nqu nmi nde nsa nsm npa nac nam naw ncs nbw ndc nmk npo nta npl nmm ncu nke nik 0 0 0 0 0 0 0 0 0 0 (-6) 0 4000 (-6) (-6) 0 0 800 0 0 0 800 0 0 0 0 0 0 0 (upd (upd (upd (upd (upd (upd (upd (upd (upd (upd (upd (upd (upd (upd (fun _ => 0) 0 0) 1 0) 2 0) 3 0) 4 0) 5 0) 6 0) 7 0) 8 0) 9 0) 10 0) 11 0) 12 0) 13 0) (upd (fun _ => 0) 0 4) H.size) (cwV 0 hts (gw_v (fun _ h9 => List.mem_cons_of_mem _ h9) wm_461 wm_462 wm_463 wm_385 wm_464) rfl rfl rfl (by decide +kernel) ⟨Nat.le_of_ble_eq_true rfl, Nat.le_of_ble_eq_true rfl⟩) (mx_preV (C := RX8) (T := TX8) (N := 53) (ci := 8) hKx hP hD hS hA [0, 1, 2] (by decide) rfl rfl rfl) rfl rfl hl.1 rfl (lv_room (Nat.le_of_ble_eq_true rfl)) dX8_done_14 ⟨Nat.le_of_ble_eq_true rfl, Nat.le_of_ble_eq_true rfl⟩) hP hD hS hA [0, 1, 2] [3] rfl rfl (by decide) (by decide) (fun u3 H locs hq3 hP hD hS => ?_)
  replace hP : va_P (dC, dI) vwCl [(nco, .inl (cI, 14, .inl (fun _ => 0))), (n, .inr (8, [.int 800, .int 0, .int 0, .int 0, .int 0, .int 0, .int 0, .ref nwi, .ref nco, .int 0, .ref nqu, .ref nmi, .ref nde, .ref nsa, .ref nsm, .int 0, .ref npa, .int 0, .ref nac, .ref nam, .ref naw, .int 0, .int 0, .int (-6), .int 0, .int 4000, .int (-6), .int (-6), .int 0, .int 0, .ref ncs, .ref nbw, .ref ndc, .ref nmk, .int 800, .int 0, .int 0, .int 0, .int 800, .int 0, .int 0, .ref npo, .int 0, .ref nta, .ref npl, .int 0, .int 0, .ref nmm, .ref ncu, .ref nke, .ref nik, .int 0, .int 0])), (ndc, .inl (cI, 14, .inl (upd (upd (upd (upd (upd (upd (upd (upd (upd (upd (upd (upd (upd (upd (upd (upd (upd (upd (upd (upd (upd (upd (upd (upd (upd (upd (upd (upd (fun _ => 0) 0 0) 1 0) 2 0) 3 0) 4 0) 5 0) 6 0) 7 0) 8 0) 9 0) 10 0) 11 0) 12 0) 13 0) 0 0) 1 0) 2 0) 3 0) 4 0) 5 0) 6 0) 7 0) 8 0) 9 0) 10 0) 11 0) 12 0) 13 0))), (nmk, .inl (cI, 61, .inl (upd (upd (fun _ => 0) 0 4) 0 4)))] H := hP
  replace hD : va_D A [(nco, .inl (cI, 14, .inl (fun _ => 0))), (n, .inr (8, [.int 800, .int 0, .int 0, .int 0, .int 0, .int 0, .int 0, .ref nwi, .ref nco, .int 0, .ref nqu, .ref nmi, .ref nde, .ref nsa, .ref nsm, .int 0, .ref npa, .int 0, .ref nac, .ref nam, .ref naw, .int 0, .int 0, .int (-6), .int 0, .int 4000, .int (-6), .int (-6), .int 0, .int 0, .ref ncs, .ref nbw, .ref ndc, .ref nmk, .int 800, .int 0, .int 0, .int 0, .int 800, .int 0, .int 0, .ref npo, .int 0, .ref nta, .ref npl, .int 0, .int 0, .ref nmm, .ref ncu, .ref nke, .ref nik, .int 0, .int 0])), (ndc, .inl (cI, 14, .inl (upd (upd (upd (upd (upd (upd (upd (upd (upd (upd (upd (upd (upd (upd (upd (upd (upd (upd (upd (upd (upd (upd (upd (upd (upd (upd (upd (upd (fun _ => 0) 0 0) 1 0) 2 0) 3 0) 4 0) 5 0) 6 0) 7 0) 8 0) 9 0) 10 0) 11 0) 12 0) 13 0) 0 0) 1 0) 2 0) 3 0) 4 0) 5 0) 6 0) 7 0) 8 0) 9 0) 10 0) 11 0) 12 0) 13 0))), (nmk, .inl (cI, 61, .inl (upd (upd (fun _ => 0) 0 4) 0 4)))] := hD
  refine lv_aload_n hx hb dX8_done_17 rfl (lv_at hl 1 rfl) ?_
  refine lv_iconst (v := 0) hx hb dX8_done_18 (by decide) ?_
  refine va_put (D := (dC, dI)) (ci := 8) (v := .int 0) (ty := .int) (C := RX8) (T := TX8) (N := 53) hx hb hts hin8 tyX8 tyX8_ok nmX8 hown hK hP hD hS 1 rfl rfl 17 (by decide) hw0 (fun _ h9 => h9) rfl (by decide +kernel) rfl rfl (Nat.le_of_ble_eq_true rfl) dX8_done_19 (fun H locs hP hD hS => ?_)
  replace hP : va_P (dC, dI) vwCl [(nco, .inl (cI, 14, .inl (fun _ => 0))), (n, .inr (8, [.int 800, .int 0, .int 0, .int 0, .int 0, .int 0, .int 0, .ref nwi, .ref nco, .int 0, .ref nqu, .ref nmi, .ref nde, .ref nsa, .ref nsm, .int 0, .ref npa, .int 0, .ref nac, .ref nam, .ref naw, .int 0, .int 0, .int (-6), .int 0, .int 4000, .int (-6), .int (-6), .int 0, .int 0, .ref ncs, .ref nbw, .ref ndc, .ref nmk, .int 800, .int 0, .int 0, .int 0, .int 800, .int 0, .int 0, .ref npo, .int 0, .ref nta, .ref npl, .int 0, .int 0, .ref nmm, .ref ncu, .ref nke, .ref nik, .int 0, .int 0])), (ndc, .inl (cI, 14, .inl (upd (upd (upd (upd (upd (upd (upd (upd (upd (upd (upd (upd (upd (upd (upd (upd (upd (upd (upd (upd (upd (upd (upd (upd (upd (upd (upd (upd (fun _ => 0) 0 0) 1 0) 2 0) 3 0) 4 0) 5 0) 6 0) 7 0) 8 0) 9 0) 10 0) 11 0) 12 0) 13 0) 0 0) 1 0) 2 0) 3 0) 4 0) 5 0) 6 0) 7 0) 8 0) 9 0) 10 0) 11 0) 12 0) 13 0))), (nmk, .inl (cI, 61, .inl (upd (upd (fun _ => 0) 0 4) 0 4)))] H := hP
  replace hD : va_D A [(nco, .inl (cI, 14, .inl (fun _ => 0))), (n, .inr (8, [.int 800, .int 0, .int 0, .int 0, .int 0, .int 0, .int 0, .ref nwi, .ref nco, .int 0, .ref nqu, .ref nmi, .ref nde, .ref nsa, .ref nsm, .int 0, .ref npa, .int 0, .ref nac, .ref nam, .ref naw, .int 0, .int 0, .int (-6), .int 0, .int 4000, .int (-6), .int (-6), .int 0, .int 0, .ref ncs, .ref nbw, .ref ndc, .ref nmk, .int 800, .int 0, .int 0, .int 0, .int 800, .int 0, .int 0, .ref npo, .int 0, .ref nta, .ref npl, .int 0, .int 0, .ref nmm, .ref ncu, .ref nke, .ref nik, .int 0, .int 0])), (ndc, .inl (cI, 14, .inl (upd (upd (upd (upd (upd (upd (upd (upd (upd (upd (upd (upd (upd (upd (upd (upd (upd (upd (upd (upd (upd (upd (upd (upd (upd (upd (upd (upd (fun _ => 0) 0 0) 1 0) 2 0) 3 0) 4 0) 5 0) 6 0) 7 0) 8 0) 9 0) 10 0) 11 0) 12 0) 13 0) 0 0) 1 0) 2 0) 3 0) 4 0) 5 0) 6 0) 7 0) 8 0) 9 0) 10 0) 11 0) 12 0) 13 0))), (nmk, .inl (cI, 61, .inl (upd (upd (fun _ => 0) 0 4) 0 4)))] := hD
  refine lv_aload_n hx hb dX8_done_22 rfl (lv_at hl 1 rfl) ?_
  refine va_get (D := (dC, dI)) (ci := 8) (v := .int 0) (C := RX8) (T := TX8) (N := 53) hx hb hts hin8 hown hK hP 1 rfl rfl 21 (by decide) hw1 (fun _ h9 => h9) rfl dX8_done_23 ?_
  have hP9 := mx_subP (wc := []) hP [] rfl
  have hD9 := hD.sub (ws' := []) [] (by decide) rfl
  exact W.iret (v := 0) hx hb hr (fun t ht hW => ⟨⟨0, (), rfl, rfl, by rw [ht]; exact hP9, hD9⟩, hS.F ht⟩) hS.2.2 dX8_done_26
set_option maxHeartbeats 4000000 in
set_option maxRecDepth 100000 in
theorem c_X8_arePortions (l : Launch) (dC : Nat → ClassId) (dI : Nat → Nat → Nat) (cI cZ cK : ClassId) (tS aK aV : Nat) (i0 : Int32) (sz : Nat) : Ci l yX8_arePortions (wq yX8_arePortions cX8_arePortions 1 (some .boolean)) ({ frames := 1, cells := 0, slots := 0, locals := 25 }) dC dI cI cZ cK tS aK aV [.int i0] sz [] (fun (r : Int32) (_ : Unit) => (r = 1 ∧ (0 ≤ i0.toInt ∧ i0.toInt ≤ 999999)) ∨ (r = 0 ∧ (i0.toInt < 0 ∨ 999999 < i0.toInt))) (fun _ => []) := by
  refine Met.ofW (cc := cX8_arePortions) (maxL := 1) (ret := (some .boolean)) (by decide) rfl ?_
  intro p e s m args below meth c s₁ B hml hv
  obtain ⟨rfl, hsz, hP, hKx, hD0⟩ := hv
  have hx := B.exec
  have hb := B.bytes
  have hr := B.returns
  have hts := atoms_spec (ws := wq yX8_arePortions cX8_arePortions 1 (some .boolean)) B.pre
  have hown : s.vm.findClass RX8 = some m.cls := findClass_of_methodNamed B.named
  have hlocks := B.notSynchronized
  subst hsz
  have hD := hD0.self (sz := s.heap.size)
  generalize hAe : va_A [] s.heap.size = A at hD hKx ⊢
  have hA : ∀ q : Nat, s.heap.size ≤ q → A q := fun q h => by rw [← hAe]; exact Or.inr h
  have hS : va_S A s.heap s.heap [] := va_S.rf
  have hP : va_P (dC, dI) vwCl [] s.heap := hP
  have hl := lv_entry ([.int i0]) (n := 1) (Nat.le_of_ble_eq_true rfl)
  rw [lg_entry_eq]
  generalize (lg_sl ([.int i0]) ++ List.replicate (1 - (lg_sl ([.int i0])).length) Slot.unset).toArray = ls at hl ⊢
  have hl : lv_has ls 1 [(0, .int i0)] := hl
  have hK := hKx.1
  have hw0 := hts (.constantLong RX8 252 999999) (List.mem_cons_of_mem _ wm_478)
  refine lv_iload_n hx hb dX8_arePortions_0 rfl (lv_at hl 0 rfl) ?_
  refine lv_i2l (v := i0.toInt64) hx hb dX8_arePortions_1 rfl ?_
  refine lv_lconst (v := 0) hx hb dX8_arePortions_2 (by decide) ?_
  refine lv_ldc2 (v := 999999) hx hb hown hw0 dX8_arePortions_3 ?_
  refine mx_i (wr := []) (va_runS (As := [.long (i0.toInt64), .long 0, .long 999999]) (rest := []) ⟨hx, hb, hml, hown, hts⟩ (c_X8_in l dC dI cI cZ cK tS aK aV (i0.toInt64) 0 999999 s.heap.size) (va_cwS 3 hts (gw_s (fun _ h9 => List.mem_cons_of_mem _ h9) wm_383 wm_384 wm_385 wm_386) rfl rfl rfl (by decide +kernel) ⟨Nat.le_of_ble_eq_true rfl, Nat.le_of_ble_eq_true rfl⟩) (mx_preS hKx hP hD hS hA [] (by decide) rfl) rfl rfl hl.1 rfl (lv_room (Nat.le_of_ble_eq_true rfl)) dX8_arePortions_6 ⟨Nat.le_of_ble_eq_true rfl, Nat.le_of_ble_eq_true rfl⟩) hP hD hS hA [] [] rfl rfl (by decide) (by decide) (fun r1 u1 H locs hq1 hP hD hS => ?_)
  replace hP : va_P (dC, dI) vwCl [] H := hP
  replace hD : va_D A [] := hD
  rcases hq1 with ⟨rfl, hf1⟩ | ⟨rfl, hf1⟩
  · have hf1 : (0 : Int) ≤ i0.toInt ∧ i0.toInt ≤ (999999 : Int) := (by have h9 := hf1; simp only [Int32.toInt_toInt64] at h9; exact h9)
    have hP9 := mx_subP (wc := []) hP [] rfl
    have hD9 := hD.sub (ws' := []) [] (by decide) rfl
    exact W.zret (v := 1) hx hb hr rfl (fun t ht hW => ⟨⟨1, (), rfl, (by first | exact Or.inl (⟨rfl, by omega⟩) | exact Or.inr (⟨rfl, by omega⟩)), by rw [ht]; exact hP9, hD9⟩, hS.F ht⟩) hS.2.2 dX8_arePortions_9
  · have hf1 : i0.toInt < (0 : Int) ∨ (999999 : Int) < i0.toInt := (by have h9 := hf1; simp only [Int32.toInt_toInt64] at h9; exact h9)
    have hP9 := mx_subP (wc := []) hP [] rfl
    have hD9 := hD.sub (ws' := []) [] (by decide) rfl
    exact W.zret (v := 0) hx hb hr rfl (fun t ht hW => ⟨⟨0, (), rfl, (by first | exact Or.inl (⟨rfl, by omega⟩) | exact Or.inr (⟨rfl, by omega⟩)), by rw [ht]; exact hP9, hD9⟩, hS.F ht⟩) hS.2.2 dX8_arePortions_9
set_option maxHeartbeats 4000000 in
set_option maxRecDepth 100000 in
theorem c_X8_layPortions0 (l : Launch) (dC : Nat → ClassId) (dI : Nat → Nat → Nat) (cI cZ cK : ClassId) (tS aK aV : Nat) (n : Nat) (nwi : Nat) (nco : Nat) (nqu : Nat) (nmi : Nat) (nde : Nat) (nsa : Nat) (nsm : Nat) (npa : Nat) (nac : Nat) (nam : Nat) (naw : Nat) (ncs : Nat) (nbw : Nat) (ndc : Nat) (nmk : Nat) (npo : Nat) (nta : Nat) (npl : Nat) (nmm : Nat) (ncu : Nat) (nke : Nat) (nik : Nat) (sz : Nat) : Ci l yX8_layPortions (wq yX8_layPortions cX8_layPortions 5 (some .boolean)) ({ frames := 0, cells := 0, slots := 0, locals := 0 }) dC dI cI cZ cK tS aK aV [.ref n, .int 0] sz [(n, .inr (8, [.int 800, .int 0, .int 0, .int 0, .int 0, .int 0, .int 0, .ref nwi, .ref nco, .int 0, .ref nqu, .ref nmi, .ref nde, .ref nsa, .ref nsm, .int 0, .ref npa, .int 0, .ref nac, .ref nam, .ref naw, .int 0, .int 0, .int 0, .int 0, .int 0, .int 0, .int 0, .int 0, .int 0, .ref ncs, .ref nbw, .ref ndc, .ref nmk, .int 0, .int 0, .int 0, .int 0, .int 0, .int 0, .int 0, .ref npo, .int 0, .ref nta, .ref npl, .int 0, .int 0, .ref nmm, .ref ncu, .ref nke, .ref nik, .int 0, .int 0])), (npo, .inl (cI, 6, .inl (fun _ => 0)))] (fun (r : Int32) (_ : Unit) => r = 1) (fun _ => [(n, .inr (8, [.int 800, .int 0, .int 0, .int 0, .int 0, .int 0, .int 0, .ref nwi, .ref nco, .int 0, .ref nqu, .ref nmi, .ref nde, .ref nsa, .ref nsm, .int 0, .ref npa, .int 0, .ref nac, .ref nam, .ref naw, .int 0, .int 0, .int 0, .int 0, .int 0, .int 0, .int 0, .int 0, .int 0, .ref ncs, .ref nbw, .ref ndc, .ref nmk, .int 0, .int 0, .int 0, .int 0, .int 0, .int 0, .int 0, .ref npo, .int 0, .ref nta, .ref npl, .int 0, .int 0, .ref nmm, .ref ncu, .ref nke, .ref nik, .int 0, .int 0])), (npo, .inl (cI, 6, .inl (upd (upd (upd (upd (upd (upd (fun _ => 0) 5 0) 4 0) 3 0) 2 0) 1 0) 0 0)))]) := by
  refine Met.ofW (cc := cX8_layPortions) (maxL := 5) (ret := (some .boolean)) (by decide) rfl ?_
  intro p e s m args below meth c s₁ B hml hv
  obtain ⟨rfl, hsz, hP, hKx, hD0⟩ := hv
  have hx := B.exec
  have hb := B.bytes
  have hr := B.returns
  have hts := atoms_spec (ws := wq yX8_layPortions cX8_layPortions 5 (some .boolean)) B.pre
  have hown : s.vm.findClass RX8 = some m.cls := findClass_of_methodNamed B.named
  have hlocks := B.notSynchronized
  subst hsz
  have hD := hD0.self (sz := s.heap.size)
  generalize hAe : va_A [(n, .inr (8, [.int 800, .int 0, .int 0, .int 0, .int 0, .int 0, .int 0, .ref nwi, .ref nco, .int 0, .ref nqu, .ref nmi, .ref nde, .ref nsa, .ref nsm, .int 0, .ref npa, .int 0, .ref nac, .ref nam, .ref naw, .int 0, .int 0, .int 0, .int 0, .int 0, .int 0, .int 0, .int 0, .int 0, .ref ncs, .ref nbw, .ref ndc, .ref nmk, .int 0, .int 0, .int 0, .int 0, .int 0, .int 0, .int 0, .ref npo, .int 0, .ref nta, .ref npl, .int 0, .int 0, .ref nmm, .ref ncu, .ref nke, .ref nik, .int 0, .int 0])), (npo, .inl (cI, 6, .inl (fun _ => 0)))] s.heap.size = A at hD hKx ⊢
  have hA : ∀ q : Nat, s.heap.size ≤ q → A q := fun q h => by rw [← hAe]; exact Or.inr h
  have hS : va_S A s.heap s.heap [] := va_S.rf
  have hP : va_P (dC, dI) vwCl [(n, .inr (8, [.int 800, .int 0, .int 0, .int 0, .int 0, .int 0, .int 0, .ref nwi, .ref nco, .int 0, .ref nqu, .ref nmi, .ref nde, .ref nsa, .ref nsm, .int 0, .ref npa, .int 0, .ref nac, .ref nam, .ref naw, .int 0, .int 0, .int 0, .int 0, .int 0, .int 0, .int 0, .int 0, .int 0, .ref ncs, .ref nbw, .ref ndc, .ref nmk, .int 0, .int 0, .int 0, .int 0, .int 0, .int 0, .int 0, .ref npo, .int 0, .ref nta, .ref npl, .int 0, .int 0, .ref nmm, .ref ncu, .ref nke, .ref nik, .int 0, .int 0])), (npo, .inl (cI, 6, .inl (fun _ => 0)))] s.heap := hP
  have hl := lv_entry ([.ref n, .int 0]) (n := 5) (Nat.le_of_ble_eq_true rfl)
  rw [lg_entry_eq]
  generalize (lg_sl ([.ref n, .int 0]) ++ List.replicate (5 - (lg_sl ([.ref n, .int 0])).length) Slot.unset).toArray = ls at hl ⊢
  have hl : lv_has ls 5 [(0, .ref n), (1, .int 0)] := hl
  have hK := hKx.1
  have hin8 := fun w9 h9 => List.mem_cons_of_mem (Cond.code yX8_layPortions cX8_layPortions 5 (some .boolean)) (inlX8 w9 h9)
  have hw0 := hts (.fieldLink RX8 249 "OneCanModel" "portionMany" "I") (List.mem_cons_of_mem _ wm_479)
  have hw1 := hts (.fieldLink RX8 55 "OneCanModel" "portion" "[I") (List.mem_cons_of_mem _ wm_480)
  refine lv_aload_n hx hb dX8_layPortions_0 rfl (lv_at hl 0 rfl) ?_
  refine lv_iconst (v := 0) hx hb dX8_layPortions_1 (by decide) ?_
  refine va_put (D := (dC, dI)) (ci := 8) (v := .int 0) (ty := .int) (C := RX8) (T := TX8) (N := 53) hx hb hts hin8 tyX8 tyX8_ok nmX8 hown hK hP hD hS 0 rfl rfl 42 (by decide) hw0 (fun _ h9 => h9) rfl (by decide +kernel) rfl rfl (Nat.le_of_ble_eq_true rfl) dX8_layPortions_2 (fun H locs hP hD hS => ?_)
  replace hP : va_P (dC, dI) vwCl [(n, .inr (8, [.int 800, .int 0, .int 0, .int 0, .int 0, .int 0, .int 0, .ref nwi, .ref nco, .int 0, .ref nqu, .ref nmi, .ref nde, .ref nsa, .ref nsm, .int 0, .ref npa, .int 0, .ref nac, .ref nam, .ref naw, .int 0, .int 0, .int 0, .int 0, .int 0, .int 0, .int 0, .int 0, .int 0, .ref ncs, .ref nbw, .ref ndc, .ref nmk, .int 0, .int 0, .int 0, .int 0, .int 0, .int 0, .int 0, .ref npo, .int 0, .ref nta, .ref npl, .int 0, .int 0, .ref nmm, .ref ncu, .ref nke, .ref nik, .int 0, .int 0])), (npo, .inl (cI, 6, .inl (fun _ => 0)))] H := hP
  replace hD : va_D A [(n, .inr (8, [.int 800, .int 0, .int 0, .int 0, .int 0, .int 0, .int 0, .ref nwi, .ref nco, .int 0, .ref nqu, .ref nmi, .ref nde, .ref nsa, .ref nsm, .int 0, .ref npa, .int 0, .ref nac, .ref nam, .ref naw, .int 0, .int 0, .int 0, .int 0, .int 0, .int 0, .int 0, .int 0, .int 0, .ref ncs, .ref nbw, .ref ndc, .ref nmk, .int 0, .int 0, .int 0, .int 0, .int 0, .int 0, .int 0, .ref npo, .int 0, .ref nta, .ref npl, .int 0, .int 0, .ref nmm, .ref ncu, .ref nke, .ref nik, .int 0, .int 0])), (npo, .inl (cI, 6, .inl (fun _ => 0)))] := hD
  refine lv_iconst (v := 1) hx hb dX8_layPortions_5 (by decide) ?_
  refine lv_istore_n (lv' := [(2, .int 1), (0, .ref n), (1, .int 0)]) hx hb dX8_layPortions_6 rfl hl (by decide) rfl (fun ls hl => ?_)
  refine lv_iload_n hx hb dX8_layPortions_7 rfl (lv_at hl 2 rfl) ?_
  refine lv_istore_n (lv' := [(3, .int 0), (2, .int 1), (0, .ref n), (1, .int 0)]) hx hb dX8_layPortions_8 rfl hl (by decide) rfl (fun ls hl => ?_)
  refine lv_iconst (v := 5) hx hb dX8_layPortions_9 (by decide) ?_
  refine lv_istore (lv' := [(4, .int 5), (3, .int 0), (2, .int 1), (0, .ref n), (1, .int 0)]) hx hb dX8_layPortions_10 hl (by decide) rfl (fun ls hl => ?_)
  refine lv_iload hx hb dX8_layPortions_12 (lv_at hl 0 rfl) ?_
  refine lv_if_lt (tgt := 84) hx hb dX8_layPortions_14 (by decide) (fun c1 => absurd c1 (by decide)) (fun c1 => ?_)
  refine lv_aload_n hx hb dX8_layPortions_17 rfl (lv_at hl 3 rfl) ?_
  refine va_get (D := (dC, dI)) (ci := 8) (v := .ref npo) (C := RX8) (T := TX8) (N := 53) hx hb hts hin8 hown hK hP 0 rfl rfl 41 (by decide) hw1 (fun _ h9 => h9) rfl dX8_layPortions_18 ?_
  refine lv_iload hx hb dX8_layPortions_21 (lv_at hl 0 rfl) ?_
  refine lv_iload_n hx hb dX8_layPortions_23 rfl (lv_at hl 1 rfl) ?_
  refine lv_bipush (v := 10) hx hb dX8_layPortions_24 (by decide) ?_
  refine lv_irem hx hb dX8_layPortions_26 (by decide) ?_
  refine lv_topi (fun x2 e2 => ?_)
  obtain rfl : x2 = 0 := e2.trans (by decide)
  refine va_iast hx hb hK hP hD hS 1 0 rfl rfl (vin (by decide) (by decide)) dX8_layPortions_27 (fun H locs hP hD hS => ?_)
  replace hP : va_P (dC, dI) vwCl [(n, .inr (8, [.int 800, .int 0, .int 0, .int 0, .int 0, .int 0, .int 0, .ref nwi, .ref nco, .int 0, .ref nqu, .ref nmi, .ref nde, .ref nsa, .ref nsm, .int 0, .ref npa, .int 0, .ref nac, .ref nam, .ref naw, .int 0, .int 0, .int 0, .int 0, .int 0, .int 0, .int 0, .int 0, .int 0, .ref ncs, .ref nbw, .ref ndc, .ref nmk, .int 0, .int 0, .int 0, .int 0, .int 0, .int 0, .int 0, .ref npo, .int 0, .ref nta, .ref npl, .int 0, .int 0, .ref nmm, .ref ncu, .ref nke, .ref nik, .int 0, .int 0])), (npo, .inl (cI, 6, .inl (upd (fun _ => 0) 5 0)))] H := hP
  replace hD : va_D A [(n, .inr (8, [.int 800, .int 0, .int 0, .int 0, .int 0, .int 0, .int 0, .ref nwi, .ref nco, .int 0, .ref nqu, .ref nmi, .ref nde, .ref nsa, .ref nsm, .int 0, .ref npa, .int 0, .ref nac, .ref nam, .ref naw, .int 0, .int 0, .int 0, .int 0, .int 0, .int 0, .int 0, .int 0, .int 0, .ref ncs, .ref nbw, .ref ndc, .ref nmk, .int 0, .int 0, .int 0, .int 0, .int 0, .int 0, .int 0, .ref npo, .int 0, .ref nta, .ref npl, .int 0, .int 0, .ref nmm, .ref ncu, .ref nke, .ref nik, .int 0, .int 0])), (npo, .inl (cI, 6, .inl (upd (fun _ => 0) 5 0)))] := hD
  refine lv_aload_n hx hb dX8_layPortions_28 rfl (lv_at hl 3 rfl) ?_
  refine lv_dup hx hb dX8_layPortions_29 rfl ?_
  refine va_get (D := (dC, dI)) (ci := 8) (v := .int 0) (C := RX8) (T := TX8) (N := 53) hx hb hts hin8 hown hK hP 0 rfl rfl 42 (by decide) hw0 (fun _ h9 => h9) rfl dX8_layPortions_30 ?_
  refine lv_aload_n hx hb dX8_layPortions_33 rfl (lv_at hl 3 rfl) ?_
  refine va_get (D := (dC, dI)) (ci := 8) (v := .ref npo) (C := RX8) (T := TX8) (N := 53) hx hb hts hin8 hown hK hP 0 rfl rfl 41 (by decide) hw1 (fun _ h9 => h9) rfl dX8_layPortions_34 ?_
  refine lv_iload hx hb dX8_layPortions_37 (lv_at hl 0 rfl) ?_
  refine va_iald hx hb hK hP 1 0 rfl rfl (vin (by decide) (by decide)) dX8_layPortions_39 ?_
  refine lv_topi (fun x3 e3 => ?_)
  obtain rfl : x3 = 0 := e3.trans (by first | rfl | decide)
  refine lv_iadd hx hb dX8_layPortions_40 ?_
  refine lv_topi (fun x4 e4 => ?_)
  obtain rfl : x4 = 0 := e4.trans (by decide)
  refine va_put (D := (dC, dI)) (ci := 8) (v := .int 0) (ty := .int) (C := RX8) (T := TX8) (N := 53) hx hb hts hin8 tyX8 tyX8_ok nmX8 hown hK hP hD hS 0 rfl rfl 42 (by decide) hw0 (fun _ h9 => h9) rfl (by decide +kernel) rfl rfl (Nat.le_of_ble_eq_true rfl) dX8_layPortions_41 (fun H locs hP hD hS => ?_)
  replace hP : va_P (dC, dI) vwCl [(n, .inr (8, [.int 800, .int 0, .int 0, .int 0, .int 0, .int 0, .int 0, .ref nwi, .ref nco, .int 0, .ref nqu, .ref nmi, .ref nde, .ref nsa, .ref nsm, .int 0, .ref npa, .int 0, .ref nac, .ref nam, .ref naw, .int 0, .int 0, .int 0, .int 0, .int 0, .int 0, .int 0, .int 0, .int 0, .ref ncs, .ref nbw, .ref ndc, .ref nmk, .int 0, .int 0, .int 0, .int 0, .int 0, .int 0, .int 0, .ref npo, .int 0, .ref nta, .ref npl, .int 0, .int 0, .ref nmm, .ref ncu, .ref nke, .ref nik, .int 0, .int 0])), (npo, .inl (cI, 6, .inl (upd (fun _ => 0) 5 0)))] H := hP
  replace hD : va_D A [(n, .inr (8, [.int 800, .int 0, .int 0, .int 0, .int 0, .int 0, .int 0, .ref nwi, .ref nco, .int 0, .ref nqu, .ref nmi, .ref nde, .ref nsa, .ref nsm, .int 0, .ref npa, .int 0, .ref nac, .ref nam, .ref naw, .int 0, .int 0, .int 0, .int 0, .int 0, .int 0, .int 0, .int 0, .int 0, .ref ncs, .ref nbw, .ref ndc, .ref nmk, .int 0, .int 0, .int 0, .int 0, .int 0, .int 0, .int 0, .ref npo, .int 0, .ref nta, .ref npl, .int 0, .int 0, .ref nmm, .ref ncu, .ref nke, .ref nik, .int 0, .int 0])), (npo, .inl (cI, 6, .inl (upd (fun _ => 0) 5 0)))] := hD
  refine lv_iload_n hx hb dX8_layPortions_44 rfl (lv_at hl 2 rfl) ?_
  refine lv_if_eq (tgt := 71) hx hb dX8_layPortions_45 (by decide) (fun c5 => absurd c5 (by decide)) (fun c5 => ?_)
  refine lv_aload_n hx hb dX8_layPortions_48 rfl (lv_at hl 3 rfl) ?_
  refine va_get (D := (dC, dI)) (ci := 8) (v := .ref npo) (C := RX8) (T := TX8) (N := 53) hx hb hts hin8 hown hK hP 0 rfl rfl 41 (by decide) hw1 (fun _ h9 => h9) rfl dX8_layPortions_49 ?_
  refine lv_iload hx hb dX8_layPortions_52 (lv_at hl 0 rfl) ?_
  refine va_iald hx hb hK hP 1 0 rfl rfl (vin (by decide) (by decide)) dX8_layPortions_54 ?_
  refine lv_topi (fun x6 e6 => ?_)
  obtain rfl : x6 = 0 := e6.trans (by first | rfl | decide)
  refine lv_if_eq (tgt := 67) hx hb dX8_layPortions_55 (by decide) (fun c7 => ?_) (fun c7 => absurd c7 (by decide))
  refine lv_iconst (v := 1) hx hb dX8_layPortions_67 (by decide) ?_
  refine lv_goto (tgt := 72) hx hb dX8_layPortions_68 (by decide) ?_
  refine lv_istore_n (lv' := [(2, .int 1), (4, .int 5), (3, .int 0), (0, .ref n), (1, .int 0)]) hx hb dX8_layPortions_72 rfl hl (by decide) rfl (fun ls hl => ?_)
  refine lv_iload_n hx hb dX8_layPortions_73 rfl (lv_at hl 2 rfl) ?_
  refine lv_bipush (v := 10) hx hb dX8_layPortions_74 (by decide) ?_
  refine lv_idiv hx hb dX8_layPortions_76 (by decide) ?_
  refine lv_topi (fun x8 e8 => ?_)
  obtain rfl : x8 = 0 := e8.trans (by decide)
  refine lv_istore_n (lv' := [(3, .int 0), (2, .int 1), (4, .int 5), (0, .ref n), (1, .int 0)]) hx hb dX8_layPortions_77 rfl hl (by decide) rfl (fun ls hl => ?_)
  refine lv_iinc (v := 4) (lv' := [(4, .int 4), (3, .int 0), (2, .int 1), (0, .ref n), (1, .int 0)]) hx hb dX8_layPortions_78 hl (k := 2) rfl (by decide) (by decide) rfl (fun ls hl => ?_)
  refine lv_goto (tgt := 12) hx hb dX8_layPortions_81 (by decide) ?_
  refine lv_iload hx hb dX8_layPortions_12 (lv_at hl 0 rfl) ?_
  refine lv_if_lt (tgt := 84) hx hb dX8_layPortions_14 (by decide) (fun c9 => absurd c9 (by decide)) (fun c9 => ?_)
  refine lv_aload_n hx hb dX8_layPortions_17 rfl (lv_at hl 3 rfl) ?_
  refine va_get (D := (dC, dI)) (ci := 8) (v := .ref npo) (C := RX8) (T := TX8) (N := 53) hx hb hts hin8 hown hK hP 0 rfl rfl 41 (by decide) hw1 (fun _ h9 => h9) rfl dX8_layPortions_18 ?_
  refine lv_iload hx hb dX8_layPortions_21 (lv_at hl 0 rfl) ?_
  refine lv_iload_n hx hb dX8_layPortions_23 rfl (lv_at hl 1 rfl) ?_
  refine lv_bipush (v := 10) hx hb dX8_layPortions_24 (by decide) ?_
  refine lv_irem hx hb dX8_layPortions_26 (by decide) ?_
  refine lv_topi (fun x10 e10 => ?_)
  obtain rfl : x10 = 0 := e10.trans (by decide)
  refine va_iast hx hb hK hP hD hS 1 0 rfl rfl (vin (by decide) (by decide)) dX8_layPortions_27 (fun H locs hP hD hS => ?_)
  replace hP : va_P (dC, dI) vwCl [(n, .inr (8, [.int 800, .int 0, .int 0, .int 0, .int 0, .int 0, .int 0, .ref nwi, .ref nco, .int 0, .ref nqu, .ref nmi, .ref nde, .ref nsa, .ref nsm, .int 0, .ref npa, .int 0, .ref nac, .ref nam, .ref naw, .int 0, .int 0, .int 0, .int 0, .int 0, .int 0, .int 0, .int 0, .int 0, .ref ncs, .ref nbw, .ref ndc, .ref nmk, .int 0, .int 0, .int 0, .int 0, .int 0, .int 0, .int 0, .ref npo, .int 0, .ref nta, .ref npl, .int 0, .int 0, .ref nmm, .ref ncu, .ref nke, .ref nik, .int 0, .int 0])), (npo, .inl (cI, 6, .inl (upd (upd (fun _ => 0) 5 0) 4 0)))] H := hP
  replace hD : va_D A [(n, .inr (8, [.int 800, .int 0, .int 0, .int 0, .int 0, .int 0, .int 0, .ref nwi, .ref nco, .int 0, .ref nqu, .ref nmi, .ref nde, .ref nsa, .ref nsm, .int 0, .ref npa, .int 0, .ref nac, .ref nam, .ref naw, .int 0, .int 0, .int 0, .int 0, .int 0, .int 0, .int 0, .int 0, .int 0, .ref ncs, .ref nbw, .ref ndc, .ref nmk, .int 0, .int 0, .int 0, .int 0, .int 0, .int 0, .int 0, .ref npo, .int 0, .ref nta, .ref npl, .int 0, .int 0, .ref nmm, .ref ncu, .ref nke, .ref nik, .int 0, .int 0])), (npo, .inl (cI, 6, .inl (upd (upd (fun _ => 0) 5 0) 4 0)))] := hD
  refine lv_aload_n hx hb dX8_layPortions_28 rfl (lv_at hl 3 rfl) ?_
  refine lv_dup hx hb dX8_layPortions_29 rfl ?_
  refine va_get (D := (dC, dI)) (ci := 8) (v := .int 0) (C := RX8) (T := TX8) (N := 53) hx hb hts hin8 hown hK hP 0 rfl rfl 42 (by decide) hw0 (fun _ h9 => h9) rfl dX8_layPortions_30 ?_
  refine lv_aload_n hx hb dX8_layPortions_33 rfl (lv_at hl 3 rfl) ?_
  refine va_get (D := (dC, dI)) (ci := 8) (v := .ref npo) (C := RX8) (T := TX8) (N := 53) hx hb hts hin8 hown hK hP 0 rfl rfl 41 (by decide) hw1 (fun _ h9 => h9) rfl dX8_layPortions_34 ?_
  refine lv_iload hx hb dX8_layPortions_37 (lv_at hl 0 rfl) ?_
  refine va_iald hx hb hK hP 1 0 rfl rfl (vin (by decide) (by decide)) dX8_layPortions_39 ?_
  refine lv_topi (fun x11 e11 => ?_)
  obtain rfl : x11 = 0 := e11.trans (by first | rfl | decide)
  refine lv_iadd hx hb dX8_layPortions_40 ?_
  refine lv_topi (fun x12 e12 => ?_)
  obtain rfl : x12 = 0 := e12.trans (by decide)
  refine va_put (D := (dC, dI)) (ci := 8) (v := .int 0) (ty := .int) (C := RX8) (T := TX8) (N := 53) hx hb hts hin8 tyX8 tyX8_ok nmX8 hown hK hP hD hS 0 rfl rfl 42 (by decide) hw0 (fun _ h9 => h9) rfl (by decide +kernel) rfl rfl (Nat.le_of_ble_eq_true rfl) dX8_layPortions_41 (fun H locs hP hD hS => ?_)
  replace hP : va_P (dC, dI) vwCl [(n, .inr (8, [.int 800, .int 0, .int 0, .int 0, .int 0, .int 0, .int 0, .ref nwi, .ref nco, .int 0, .ref nqu, .ref nmi, .ref nde, .ref nsa, .ref nsm, .int 0, .ref npa, .int 0, .ref nac, .ref nam, .ref naw, .int 0, .int 0, .int 0, .int 0, .int 0, .int 0, .int 0, .int 0, .int 0, .ref ncs, .ref nbw, .ref ndc, .ref nmk, .int 0, .int 0, .int 0, .int 0, .int 0, .int 0, .int 0, .ref npo, .int 0, .ref nta, .ref npl, .int 0, .int 0, .ref nmm, .ref ncu, .ref nke, .ref nik, .int 0, .int 0])), (npo, .inl (cI, 6, .inl (upd (upd (fun _ => 0) 5 0) 4 0)))] H := hP
  replace hD : va_D A [(n, .inr (8, [.int 800, .int 0, .int 0, .int 0, .int 0, .int 0, .int 0, .ref nwi, .ref nco, .int 0, .ref nqu, .ref nmi, .ref nde, .ref nsa, .ref nsm, .int 0, .ref npa, .int 0, .ref nac, .ref nam, .ref naw, .int 0, .int 0, .int 0, .int 0, .int 0, .int 0, .int 0, .int 0, .int 0, .ref ncs, .ref nbw, .ref ndc, .ref nmk, .int 0, .int 0, .int 0, .int 0, .int 0, .int 0, .int 0, .ref npo, .int 0, .ref nta, .ref npl, .int 0, .int 0, .ref nmm, .ref ncu, .ref nke, .ref nik, .int 0, .int 0])), (npo, .inl (cI, 6, .inl (upd (upd (fun _ => 0) 5 0) 4 0)))] := hD
  refine lv_iload_n hx hb dX8_layPortions_44 rfl (lv_at hl 2 rfl) ?_
  refine lv_if_eq (tgt := 71) hx hb dX8_layPortions_45 (by decide) (fun c13 => absurd c13 (by decide)) (fun c13 => ?_)
  refine lv_aload_n hx hb dX8_layPortions_48 rfl (lv_at hl 3 rfl) ?_
  refine va_get (D := (dC, dI)) (ci := 8) (v := .ref npo) (C := RX8) (T := TX8) (N := 53) hx hb hts hin8 hown hK hP 0 rfl rfl 41 (by decide) hw1 (fun _ h9 => h9) rfl dX8_layPortions_49 ?_
  refine lv_iload hx hb dX8_layPortions_52 (lv_at hl 0 rfl) ?_
  refine va_iald hx hb hK hP 1 0 rfl rfl (vin (by decide) (by decide)) dX8_layPortions_54 ?_
  refine lv_topi (fun x14 e14 => ?_)
  obtain rfl : x14 = 0 := e14.trans (by first | rfl | decide)
  refine lv_if_eq (tgt := 67) hx hb dX8_layPortions_55 (by decide) (fun c15 => ?_) (fun c15 => absurd c15 (by decide))
  refine lv_iconst (v := 1) hx hb dX8_layPortions_67 (by decide) ?_
  refine lv_goto (tgt := 72) hx hb dX8_layPortions_68 (by decide) ?_
  refine lv_istore_n (lv' := [(2, .int 1), (4, .int 4), (3, .int 0), (0, .ref n), (1, .int 0)]) hx hb dX8_layPortions_72 rfl hl (by decide) rfl (fun ls hl => ?_)
  refine lv_iload_n hx hb dX8_layPortions_73 rfl (lv_at hl 2 rfl) ?_
  refine lv_bipush (v := 10) hx hb dX8_layPortions_74 (by decide) ?_
  refine lv_idiv hx hb dX8_layPortions_76 (by decide) ?_
  refine lv_topi (fun x16 e16 => ?_)
  obtain rfl : x16 = 0 := e16.trans (by decide)
  refine lv_istore_n (lv' := [(3, .int 0), (2, .int 1), (4, .int 4), (0, .ref n), (1, .int 0)]) hx hb dX8_layPortions_77 rfl hl (by decide) rfl (fun ls hl => ?_)
  refine lv_iinc (v := 3) (lv' := [(4, .int 3), (3, .int 0), (2, .int 1), (0, .ref n), (1, .int 0)]) hx hb dX8_layPortions_78 hl (k := 2) rfl (by decide) (by decide) rfl (fun ls hl => ?_)
  refine lv_goto (tgt := 12) hx hb dX8_layPortions_81 (by decide) ?_
  refine lv_iload hx hb dX8_layPortions_12 (lv_at hl 0 rfl) ?_
  refine lv_if_lt (tgt := 84) hx hb dX8_layPortions_14 (by decide) (fun c17 => absurd c17 (by decide)) (fun c17 => ?_)
  refine lv_aload_n hx hb dX8_layPortions_17 rfl (lv_at hl 3 rfl) ?_
  refine va_get (D := (dC, dI)) (ci := 8) (v := .ref npo) (C := RX8) (T := TX8) (N := 53) hx hb hts hin8 hown hK hP 0 rfl rfl 41 (by decide) hw1 (fun _ h9 => h9) rfl dX8_layPortions_18 ?_
  refine lv_iload hx hb dX8_layPortions_21 (lv_at hl 0 rfl) ?_
  refine lv_iload_n hx hb dX8_layPortions_23 rfl (lv_at hl 1 rfl) ?_
  refine lv_bipush (v := 10) hx hb dX8_layPortions_24 (by decide) ?_
  refine lv_irem hx hb dX8_layPortions_26 (by decide) ?_
  refine lv_topi (fun x18 e18 => ?_)
  obtain rfl : x18 = 0 := e18.trans (by decide)
  refine va_iast hx hb hK hP hD hS 1 0 rfl rfl (vin (by decide) (by decide)) dX8_layPortions_27 (fun H locs hP hD hS => ?_)
  replace hP : va_P (dC, dI) vwCl [(n, .inr (8, [.int 800, .int 0, .int 0, .int 0, .int 0, .int 0, .int 0, .ref nwi, .ref nco, .int 0, .ref nqu, .ref nmi, .ref nde, .ref nsa, .ref nsm, .int 0, .ref npa, .int 0, .ref nac, .ref nam, .ref naw, .int 0, .int 0, .int 0, .int 0, .int 0, .int 0, .int 0, .int 0, .int 0, .ref ncs, .ref nbw, .ref ndc, .ref nmk, .int 0, .int 0, .int 0, .int 0, .int 0, .int 0, .int 0, .ref npo, .int 0, .ref nta, .ref npl, .int 0, .int 0, .ref nmm, .ref ncu, .ref nke, .ref nik, .int 0, .int 0])), (npo, .inl (cI, 6, .inl (upd (upd (upd (fun _ => 0) 5 0) 4 0) 3 0)))] H := hP
  replace hD : va_D A [(n, .inr (8, [.int 800, .int 0, .int 0, .int 0, .int 0, .int 0, .int 0, .ref nwi, .ref nco, .int 0, .ref nqu, .ref nmi, .ref nde, .ref nsa, .ref nsm, .int 0, .ref npa, .int 0, .ref nac, .ref nam, .ref naw, .int 0, .int 0, .int 0, .int 0, .int 0, .int 0, .int 0, .int 0, .int 0, .ref ncs, .ref nbw, .ref ndc, .ref nmk, .int 0, .int 0, .int 0, .int 0, .int 0, .int 0, .int 0, .ref npo, .int 0, .ref nta, .ref npl, .int 0, .int 0, .ref nmm, .ref ncu, .ref nke, .ref nik, .int 0, .int 0])), (npo, .inl (cI, 6, .inl (upd (upd (upd (fun _ => 0) 5 0) 4 0) 3 0)))] := hD
  refine lv_aload_n hx hb dX8_layPortions_28 rfl (lv_at hl 3 rfl) ?_
  refine lv_dup hx hb dX8_layPortions_29 rfl ?_
  refine va_get (D := (dC, dI)) (ci := 8) (v := .int 0) (C := RX8) (T := TX8) (N := 53) hx hb hts hin8 hown hK hP 0 rfl rfl 42 (by decide) hw0 (fun _ h9 => h9) rfl dX8_layPortions_30 ?_
  refine lv_aload_n hx hb dX8_layPortions_33 rfl (lv_at hl 3 rfl) ?_
  refine va_get (D := (dC, dI)) (ci := 8) (v := .ref npo) (C := RX8) (T := TX8) (N := 53) hx hb hts hin8 hown hK hP 0 rfl rfl 41 (by decide) hw1 (fun _ h9 => h9) rfl dX8_layPortions_34 ?_
  refine lv_iload hx hb dX8_layPortions_37 (lv_at hl 0 rfl) ?_
  refine va_iald hx hb hK hP 1 0 rfl rfl (vin (by decide) (by decide)) dX8_layPortions_39 ?_
  refine lv_topi (fun x19 e19 => ?_)
  obtain rfl : x19 = 0 := e19.trans (by first | rfl | decide)
  refine lv_iadd hx hb dX8_layPortions_40 ?_
  refine lv_topi (fun x20 e20 => ?_)
  obtain rfl : x20 = 0 := e20.trans (by decide)
  refine va_put (D := (dC, dI)) (ci := 8) (v := .int 0) (ty := .int) (C := RX8) (T := TX8) (N := 53) hx hb hts hin8 tyX8 tyX8_ok nmX8 hown hK hP hD hS 0 rfl rfl 42 (by decide) hw0 (fun _ h9 => h9) rfl (by decide +kernel) rfl rfl (Nat.le_of_ble_eq_true rfl) dX8_layPortions_41 (fun H locs hP hD hS => ?_)
  replace hP : va_P (dC, dI) vwCl [(n, .inr (8, [.int 800, .int 0, .int 0, .int 0, .int 0, .int 0, .int 0, .ref nwi, .ref nco, .int 0, .ref nqu, .ref nmi, .ref nde, .ref nsa, .ref nsm, .int 0, .ref npa, .int 0, .ref nac, .ref nam, .ref naw, .int 0, .int 0, .int 0, .int 0, .int 0, .int 0, .int 0, .int 0, .int 0, .ref ncs, .ref nbw, .ref ndc, .ref nmk, .int 0, .int 0, .int 0, .int 0, .int 0, .int 0, .int 0, .ref npo, .int 0, .ref nta, .ref npl, .int 0, .int 0, .ref nmm, .ref ncu, .ref nke, .ref nik, .int 0, .int 0])), (npo, .inl (cI, 6, .inl (upd (upd (upd (fun _ => 0) 5 0) 4 0) 3 0)))] H := hP
  replace hD : va_D A [(n, .inr (8, [.int 800, .int 0, .int 0, .int 0, .int 0, .int 0, .int 0, .ref nwi, .ref nco, .int 0, .ref nqu, .ref nmi, .ref nde, .ref nsa, .ref nsm, .int 0, .ref npa, .int 0, .ref nac, .ref nam, .ref naw, .int 0, .int 0, .int 0, .int 0, .int 0, .int 0, .int 0, .int 0, .int 0, .ref ncs, .ref nbw, .ref ndc, .ref nmk, .int 0, .int 0, .int 0, .int 0, .int 0, .int 0, .int 0, .ref npo, .int 0, .ref nta, .ref npl, .int 0, .int 0, .ref nmm, .ref ncu, .ref nke, .ref nik, .int 0, .int 0])), (npo, .inl (cI, 6, .inl (upd (upd (upd (fun _ => 0) 5 0) 4 0) 3 0)))] := hD
  refine lv_iload_n hx hb dX8_layPortions_44 rfl (lv_at hl 2 rfl) ?_
  refine lv_if_eq (tgt := 71) hx hb dX8_layPortions_45 (by decide) (fun c21 => absurd c21 (by decide)) (fun c21 => ?_)
  refine lv_aload_n hx hb dX8_layPortions_48 rfl (lv_at hl 3 rfl) ?_
  refine va_get (D := (dC, dI)) (ci := 8) (v := .ref npo) (C := RX8) (T := TX8) (N := 53) hx hb hts hin8 hown hK hP 0 rfl rfl 41 (by decide) hw1 (fun _ h9 => h9) rfl dX8_layPortions_49 ?_
  refine lv_iload hx hb dX8_layPortions_52 (lv_at hl 0 rfl) ?_
  refine va_iald hx hb hK hP 1 0 rfl rfl (vin (by decide) (by decide)) dX8_layPortions_54 ?_
  refine lv_topi (fun x22 e22 => ?_)
  obtain rfl : x22 = 0 := e22.trans (by first | rfl | decide)
  refine lv_if_eq (tgt := 67) hx hb dX8_layPortions_55 (by decide) (fun c23 => ?_) (fun c23 => absurd c23 (by decide))
  refine lv_iconst (v := 1) hx hb dX8_layPortions_67 (by decide) ?_
  refine lv_goto (tgt := 72) hx hb dX8_layPortions_68 (by decide) ?_
  refine lv_istore_n (lv' := [(2, .int 1), (4, .int 3), (3, .int 0), (0, .ref n), (1, .int 0)]) hx hb dX8_layPortions_72 rfl hl (by decide) rfl (fun ls hl => ?_)
  refine lv_iload_n hx hb dX8_layPortions_73 rfl (lv_at hl 2 rfl) ?_
  refine lv_bipush (v := 10) hx hb dX8_layPortions_74 (by decide) ?_
  refine lv_idiv hx hb dX8_layPortions_76 (by decide) ?_
  refine lv_topi (fun x24 e24 => ?_)
  obtain rfl : x24 = 0 := e24.trans (by decide)
  refine lv_istore_n (lv' := [(3, .int 0), (2, .int 1), (4, .int 3), (0, .ref n), (1, .int 0)]) hx hb dX8_layPortions_77 rfl hl (by decide) rfl (fun ls hl => ?_)
  refine lv_iinc (v := 2) (lv' := [(4, .int 2), (3, .int 0), (2, .int 1), (0, .ref n), (1, .int 0)]) hx hb dX8_layPortions_78 hl (k := 2) rfl (by decide) (by decide) rfl (fun ls hl => ?_)
  refine lv_goto (tgt := 12) hx hb dX8_layPortions_81 (by decide) ?_
  refine lv_iload hx hb dX8_layPortions_12 (lv_at hl 0 rfl) ?_
  refine lv_if_lt (tgt := 84) hx hb dX8_layPortions_14 (by decide) (fun c25 => absurd c25 (by decide)) (fun c25 => ?_)
  refine lv_aload_n hx hb dX8_layPortions_17 rfl (lv_at hl 3 rfl) ?_
  refine va_get (D := (dC, dI)) (ci := 8) (v := .ref npo) (C := RX8) (T := TX8) (N := 53) hx hb hts hin8 hown hK hP 0 rfl rfl 41 (by decide) hw1 (fun _ h9 => h9) rfl dX8_layPortions_18 ?_
  refine lv_iload hx hb dX8_layPortions_21 (lv_at hl 0 rfl) ?_
  refine lv_iload_n hx hb dX8_layPortions_23 rfl (lv_at hl 1 rfl) ?_
  refine lv_bipush (v := 10) hx hb dX8_layPortions_24 (by decide) ?_
  refine lv_irem hx hb dX8_layPortions_26 (by decide) ?_
  refine lv_topi (fun x26 e26 => ?_)
  obtain rfl : x26 = 0 := e26.trans (by decide)
  refine va_iast hx hb hK hP hD hS 1 0 rfl rfl (vin (by decide) (by decide)) dX8_layPortions_27 (fun H locs hP hD hS => ?_)
  replace hP : va_P (dC, dI) vwCl [(n, .inr (8, [.int 800, .int 0, .int 0, .int 0, .int 0, .int 0, .int 0, .ref nwi, .ref nco, .int 0, .ref nqu, .ref nmi, .ref nde, .ref nsa, .ref nsm, .int 0, .ref npa, .int 0, .ref nac, .ref nam, .ref naw, .int 0, .int 0, .int 0, .int 0, .int 0, .int 0, .int 0, .int 0, .int 0, .ref ncs, .ref nbw, .ref ndc, .ref nmk, .int 0, .int 0, .int 0, .int 0, .int 0, .int 0, .int 0, .ref npo, .int 0, .ref nta, .ref npl, .int 0, .int 0, .ref nmm, .ref ncu, .ref nke, .ref nik, .int 0, .int 0])), (npo, .inl (cI, 6, .inl (upd (upd (upd (upd (fun _ => 0) 5 0) 4 0) 3 0) 2 0)))] H := hP
  replace hD : va_D A [(n, .inr (8, [.int 800, .int 0, .int 0, .int 0, .int 0, .int 0, .int 0, .ref nwi, .ref nco, .int 0, .ref nqu, .ref nmi, .ref nde, .ref nsa, .ref nsm, .int 0, .ref npa, .int 0, .ref nac, .ref nam, .ref naw, .int 0, .int 0, .int 0, .int 0, .int 0, .int 0, .int 0, .int 0, .int 0, .ref ncs, .ref nbw, .ref ndc, .ref nmk, .int 0, .int 0, .int 0, .int 0, .int 0, .int 0, .int 0, .ref npo, .int 0, .ref nta, .ref npl, .int 0, .int 0, .ref nmm, .ref ncu, .ref nke, .ref nik, .int 0, .int 0])), (npo, .inl (cI, 6, .inl (upd (upd (upd (upd (fun _ => 0) 5 0) 4 0) 3 0) 2 0)))] := hD
  refine lv_aload_n hx hb dX8_layPortions_28 rfl (lv_at hl 3 rfl) ?_
  refine lv_dup hx hb dX8_layPortions_29 rfl ?_
  refine va_get (D := (dC, dI)) (ci := 8) (v := .int 0) (C := RX8) (T := TX8) (N := 53) hx hb hts hin8 hown hK hP 0 rfl rfl 42 (by decide) hw0 (fun _ h9 => h9) rfl dX8_layPortions_30 ?_
  refine lv_aload_n hx hb dX8_layPortions_33 rfl (lv_at hl 3 rfl) ?_
  refine va_get (D := (dC, dI)) (ci := 8) (v := .ref npo) (C := RX8) (T := TX8) (N := 53) hx hb hts hin8 hown hK hP 0 rfl rfl 41 (by decide) hw1 (fun _ h9 => h9) rfl dX8_layPortions_34 ?_
  refine lv_iload hx hb dX8_layPortions_37 (lv_at hl 0 rfl) ?_
  refine va_iald hx hb hK hP 1 0 rfl rfl (vin (by decide) (by decide)) dX8_layPortions_39 ?_
  refine lv_topi (fun x27 e27 => ?_)
  obtain rfl : x27 = 0 := e27.trans (by first | rfl | decide)
  refine lv_iadd hx hb dX8_layPortions_40 ?_
  refine lv_topi (fun x28 e28 => ?_)
  obtain rfl : x28 = 0 := e28.trans (by decide)
  refine va_put (D := (dC, dI)) (ci := 8) (v := .int 0) (ty := .int) (C := RX8) (T := TX8) (N := 53) hx hb hts hin8 tyX8 tyX8_ok nmX8 hown hK hP hD hS 0 rfl rfl 42 (by decide) hw0 (fun _ h9 => h9) rfl (by decide +kernel) rfl rfl (Nat.le_of_ble_eq_true rfl) dX8_layPortions_41 (fun H locs hP hD hS => ?_)
  replace hP : va_P (dC, dI) vwCl [(n, .inr (8, [.int 800, .int 0, .int 0, .int 0, .int 0, .int 0, .int 0, .ref nwi, .ref nco, .int 0, .ref nqu, .ref nmi, .ref nde, .ref nsa, .ref nsm, .int 0, .ref npa, .int 0, .ref nac, .ref nam, .ref naw, .int 0, .int 0, .int 0, .int 0, .int 0, .int 0, .int 0, .int 0, .int 0, .ref ncs, .ref nbw, .ref ndc, .ref nmk, .int 0, .int 0, .int 0, .int 0, .int 0, .int 0, .int 0, .ref npo, .int 0, .ref nta, .ref npl, .int 0, .int 0, .ref nmm, .ref ncu, .ref nke, .ref nik, .int 0, .int 0])), (npo, .inl (cI, 6, .inl (upd (upd (upd (upd (fun _ => 0) 5 0) 4 0) 3 0) 2 0)))] H := hP
  replace hD : va_D A [(n, .inr (8, [.int 800, .int 0, .int 0, .int 0, .int 0, .int 0, .int 0, .ref nwi, .ref nco, .int 0, .ref nqu, .ref nmi, .ref nde, .ref nsa, .ref nsm, .int 0, .ref npa, .int 0, .ref nac, .ref nam, .ref naw, .int 0, .int 0, .int 0, .int 0, .int 0, .int 0, .int 0, .int 0, .int 0, .ref ncs, .ref nbw, .ref ndc, .ref nmk, .int 0, .int 0, .int 0, .int 0, .int 0, .int 0, .int 0, .ref npo, .int 0, .ref nta, .ref npl, .int 0, .int 0, .ref nmm, .ref ncu, .ref nke, .ref nik, .int 0, .int 0])), (npo, .inl (cI, 6, .inl (upd (upd (upd (upd (fun _ => 0) 5 0) 4 0) 3 0) 2 0)))] := hD
  refine lv_iload_n hx hb dX8_layPortions_44 rfl (lv_at hl 2 rfl) ?_
  refine lv_if_eq (tgt := 71) hx hb dX8_layPortions_45 (by decide) (fun c29 => absurd c29 (by decide)) (fun c29 => ?_)
  refine lv_aload_n hx hb dX8_layPortions_48 rfl (lv_at hl 3 rfl) ?_
  refine va_get (D := (dC, dI)) (ci := 8) (v := .ref npo) (C := RX8) (T := TX8) (N := 53) hx hb hts hin8 hown hK hP 0 rfl rfl 41 (by decide) hw1 (fun _ h9 => h9) rfl dX8_layPortions_49 ?_
  refine lv_iload hx hb dX8_layPortions_52 (lv_at hl 0 rfl) ?_
  refine va_iald hx hb hK hP 1 0 rfl rfl (vin (by decide) (by decide)) dX8_layPortions_54 ?_
  refine lv_topi (fun x30 e30 => ?_)
  obtain rfl : x30 = 0 := e30.trans (by first | rfl | decide)
  refine lv_if_eq (tgt := 67) hx hb dX8_layPortions_55 (by decide) (fun c31 => ?_) (fun c31 => absurd c31 (by decide))
  refine lv_iconst (v := 1) hx hb dX8_layPortions_67 (by decide) ?_
  refine lv_goto (tgt := 72) hx hb dX8_layPortions_68 (by decide) ?_
  refine lv_istore_n (lv' := [(2, .int 1), (4, .int 2), (3, .int 0), (0, .ref n), (1, .int 0)]) hx hb dX8_layPortions_72 rfl hl (by decide) rfl (fun ls hl => ?_)
  refine lv_iload_n hx hb dX8_layPortions_73 rfl (lv_at hl 2 rfl) ?_
  refine lv_bipush (v := 10) hx hb dX8_layPortions_74 (by decide) ?_
  refine lv_idiv hx hb dX8_layPortions_76 (by decide) ?_
  refine lv_topi (fun x32 e32 => ?_)
  obtain rfl : x32 = 0 := e32.trans (by decide)
  refine lv_istore_n (lv' := [(3, .int 0), (2, .int 1), (4, .int 2), (0, .ref n), (1, .int 0)]) hx hb dX8_layPortions_77 rfl hl (by decide) rfl (fun ls hl => ?_)
  refine lv_iinc (v := 1) (lv' := [(4, .int 1), (3, .int 0), (2, .int 1), (0, .ref n), (1, .int 0)]) hx hb dX8_layPortions_78 hl (k := 2) rfl (by decide) (by decide) rfl (fun ls hl => ?_)
  refine lv_goto (tgt := 12) hx hb dX8_layPortions_81 (by decide) ?_
  refine lv_iload hx hb dX8_layPortions_12 (lv_at hl 0 rfl) ?_
  refine lv_if_lt (tgt := 84) hx hb dX8_layPortions_14 (by decide) (fun c33 => absurd c33 (by decide)) (fun c33 => ?_)
  refine lv_aload_n hx hb dX8_layPortions_17 rfl (lv_at hl 3 rfl) ?_
  refine va_get (D := (dC, dI)) (ci := 8) (v := .ref npo) (C := RX8) (T := TX8) (N := 53) hx hb hts hin8 hown hK hP 0 rfl rfl 41 (by decide) hw1 (fun _ h9 => h9) rfl dX8_layPortions_18 ?_
  refine lv_iload hx hb dX8_layPortions_21 (lv_at hl 0 rfl) ?_
  refine lv_iload_n hx hb dX8_layPortions_23 rfl (lv_at hl 1 rfl) ?_
  refine lv_bipush (v := 10) hx hb dX8_layPortions_24 (by decide) ?_
  refine lv_irem hx hb dX8_layPortions_26 (by decide) ?_
  refine lv_topi (fun x34 e34 => ?_)
  obtain rfl : x34 = 0 := e34.trans (by decide)
  refine va_iast hx hb hK hP hD hS 1 0 rfl rfl (vin (by decide) (by decide)) dX8_layPortions_27 (fun H locs hP hD hS => ?_)
  replace hP : va_P (dC, dI) vwCl [(n, .inr (8, [.int 800, .int 0, .int 0, .int 0, .int 0, .int 0, .int 0, .ref nwi, .ref nco, .int 0, .ref nqu, .ref nmi, .ref nde, .ref nsa, .ref nsm, .int 0, .ref npa, .int 0, .ref nac, .ref nam, .ref naw, .int 0, .int 0, .int 0, .int 0, .int 0, .int 0, .int 0, .int 0, .int 0, .ref ncs, .ref nbw, .ref ndc, .ref nmk, .int 0, .int 0, .int 0, .int 0, .int 0, .int 0, .int 0, .ref npo, .int 0, .ref nta, .ref npl, .int 0, .int 0, .ref nmm, .ref ncu, .ref nke, .ref nik, .int 0, .int 0])), (npo, .inl (cI, 6, .inl (upd (upd (upd (upd (upd (fun _ => 0) 5 0) 4 0) 3 0) 2 0) 1 0)))] H := hP
  replace hD : va_D A [(n, .inr (8, [.int 800, .int 0, .int 0, .int 0, .int 0, .int 0, .int 0, .ref nwi, .ref nco, .int 0, .ref nqu, .ref nmi, .ref nde, .ref nsa, .ref nsm, .int 0, .ref npa, .int 0, .ref nac, .ref nam, .ref naw, .int 0, .int 0, .int 0, .int 0, .int 0, .int 0, .int 0, .int 0, .int 0, .ref ncs, .ref nbw, .ref ndc, .ref nmk, .int 0, .int 0, .int 0, .int 0, .int 0, .int 0, .int 0, .ref npo, .int 0, .ref nta, .ref npl, .int 0, .int 0, .ref nmm, .ref ncu, .ref nke, .ref nik, .int 0, .int 0])), (npo, .inl (cI, 6, .inl (upd (upd (upd (upd (upd (fun _ => 0) 5 0) 4 0) 3 0) 2 0) 1 0)))] := hD
  refine lv_aload_n hx hb dX8_layPortions_28 rfl (lv_at hl 3 rfl) ?_
  refine lv_dup hx hb dX8_layPortions_29 rfl ?_
  refine va_get (D := (dC, dI)) (ci := 8) (v := .int 0) (C := RX8) (T := TX8) (N := 53) hx hb hts hin8 hown hK hP 0 rfl rfl 42 (by decide) hw0 (fun _ h9 => h9) rfl dX8_layPortions_30 ?_
  refine lv_aload_n hx hb dX8_layPortions_33 rfl (lv_at hl 3 rfl) ?_
  refine va_get (D := (dC, dI)) (ci := 8) (v := .ref npo) (C := RX8) (T := TX8) (N := 53) hx hb hts hin8 hown hK hP 0 rfl rfl 41 (by decide) hw1 (fun _ h9 => h9) rfl dX8_layPortions_34 ?_
  refine lv_iload hx hb dX8_layPortions_37 (lv_at hl 0 rfl) ?_
  refine va_iald hx hb hK hP 1 0 rfl rfl (vin (by decide) (by decide)) dX8_layPortions_39 ?_
  refine lv_topi (fun x35 e35 => ?_)
  obtain rfl : x35 = 0 := e35.trans (by first | rfl | decide)
  refine lv_iadd hx hb dX8_layPortions_40 ?_
  refine lv_topi (fun x36 e36 => ?_)
  obtain rfl : x36 = 0 := e36.trans (by decide)
  refine va_put (D := (dC, dI)) (ci := 8) (v := .int 0) (ty := .int) (C := RX8) (T := TX8) (N := 53) hx hb hts hin8 tyX8 tyX8_ok nmX8 hown hK hP hD hS 0 rfl rfl 42 (by decide) hw0 (fun _ h9 => h9) rfl (by decide +kernel) rfl rfl (Nat.le_of_ble_eq_true rfl) dX8_layPortions_41 (fun H locs hP hD hS => ?_)
  replace hP : va_P (dC, dI) vwCl [(n, .inr (8, [.int 800, .int 0, .int 0, .int 0, .int 0, .int 0, .int 0, .ref nwi, .ref nco, .int 0, .ref nqu, .ref nmi, .ref nde, .ref nsa, .ref nsm, .int 0, .ref npa, .int 0, .ref nac, .ref nam, .ref naw, .int 0, .int 0, .int 0, .int 0, .int 0, .int 0, .int 0, .int 0, .int 0, .ref ncs, .ref nbw, .ref ndc, .ref nmk, .int 0, .int 0, .int 0, .int 0, .int 0, .int 0, .int 0, .ref npo, .int 0, .ref nta, .ref npl, .int 0, .int 0, .ref nmm, .ref ncu, .ref nke, .ref nik, .int 0, .int 0])), (npo, .inl (cI, 6, .inl (upd (upd (upd (upd (upd (fun _ => 0) 5 0) 4 0) 3 0) 2 0) 1 0)))] H := hP
  replace hD : va_D A [(n, .inr (8, [.int 800, .int 0, .int 0, .int 0, .int 0, .int 0, .int 0, .ref nwi, .ref nco, .int 0, .ref nqu, .ref nmi, .ref nde, .ref nsa, .ref nsm, .int 0, .ref npa, .int 0, .ref nac, .ref nam, .ref naw, .int 0, .int 0, .int 0, .int 0, .int 0, .int 0, .int 0, .int 0, .int 0, .ref ncs, .ref nbw, .ref ndc, .ref nmk, .int 0, .int 0, .int 0, .int 0, .int 0, .int 0, .int 0, .ref npo, .int 0, .ref nta, .ref npl, .int 0, .int 0, .ref nmm, .ref ncu, .ref nke, .ref nik, .int 0, .int 0])), (npo, .inl (cI, 6, .inl (upd (upd (upd (upd (upd (fun _ => 0) 5 0) 4 0) 3 0) 2 0) 1 0)))] := hD
  refine lv_iload_n hx hb dX8_layPortions_44 rfl (lv_at hl 2 rfl) ?_
  refine lv_if_eq (tgt := 71) hx hb dX8_layPortions_45 (by decide) (fun c37 => absurd c37 (by decide)) (fun c37 => ?_)
  refine lv_aload_n hx hb dX8_layPortions_48 rfl (lv_at hl 3 rfl) ?_
  refine va_get (D := (dC, dI)) (ci := 8) (v := .ref npo) (C := RX8) (T := TX8) (N := 53) hx hb hts hin8 hown hK hP 0 rfl rfl 41 (by decide) hw1 (fun _ h9 => h9) rfl dX8_layPortions_49 ?_
  refine lv_iload hx hb dX8_layPortions_52 (lv_at hl 0 rfl) ?_
  refine va_iald hx hb hK hP 1 0 rfl rfl (vin (by decide) (by decide)) dX8_layPortions_54 ?_
  refine lv_topi (fun x38 e38 => ?_)
  obtain rfl : x38 = 0 := e38.trans (by first | rfl | decide)
  refine lv_if_eq (tgt := 67) hx hb dX8_layPortions_55 (by decide) (fun c39 => ?_) (fun c39 => absurd c39 (by decide))
  refine lv_iconst (v := 1) hx hb dX8_layPortions_67 (by decide) ?_
  refine lv_goto (tgt := 72) hx hb dX8_layPortions_68 (by decide) ?_
  refine lv_istore_n (lv' := [(2, .int 1), (4, .int 1), (3, .int 0), (0, .ref n), (1, .int 0)]) hx hb dX8_layPortions_72 rfl hl (by decide) rfl (fun ls hl => ?_)
  refine lv_iload_n hx hb dX8_layPortions_73 rfl (lv_at hl 2 rfl) ?_
  refine lv_bipush (v := 10) hx hb dX8_layPortions_74 (by decide) ?_
  refine lv_idiv hx hb dX8_layPortions_76 (by decide) ?_
  refine lv_topi (fun x40 e40 => ?_)
  obtain rfl : x40 = 0 := e40.trans (by decide)
  refine lv_istore_n (lv' := [(3, .int 0), (2, .int 1), (4, .int 1), (0, .ref n), (1, .int 0)]) hx hb dX8_layPortions_77 rfl hl (by decide) rfl (fun ls hl => ?_)
  refine lv_iinc (v := 0) (lv' := [(4, .int 0), (3, .int 0), (2, .int 1), (0, .ref n), (1, .int 0)]) hx hb dX8_layPortions_78 hl (k := 2) rfl (by decide) (by decide) rfl (fun ls hl => ?_)
  refine lv_goto (tgt := 12) hx hb dX8_layPortions_81 (by decide) ?_
  refine lv_iload hx hb dX8_layPortions_12 (lv_at hl 0 rfl) ?_
  refine lv_if_lt (tgt := 84) hx hb dX8_layPortions_14 (by decide) (fun c41 => absurd c41 (by decide)) (fun c41 => ?_)
  refine lv_aload_n hx hb dX8_layPortions_17 rfl (lv_at hl 3 rfl) ?_
  refine va_get (D := (dC, dI)) (ci := 8) (v := .ref npo) (C := RX8) (T := TX8) (N := 53) hx hb hts hin8 hown hK hP 0 rfl rfl 41 (by decide) hw1 (fun _ h9 => h9) rfl dX8_layPortions_18 ?_
  refine lv_iload hx hb dX8_layPortions_21 (lv_at hl 0 rfl) ?_
  refine lv_iload_n hx hb dX8_layPortions_23 rfl (lv_at hl 1 rfl) ?_
  refine lv_bipush (v := 10) hx hb dX8_layPortions_24 (by decide) ?_
  refine lv_irem hx hb dX8_layPortions_26 (by decide) ?_
  refine lv_topi (fun x42 e42 => ?_)
  obtain rfl : x42 = 0 := e42.trans (by decide)
  refine va_iast hx hb hK hP hD hS 1 0 rfl rfl (vin (by decide) (by decide)) dX8_layPortions_27 (fun H locs hP hD hS => ?_)
  replace hP : va_P (dC, dI) vwCl [(n, .inr (8, [.int 800, .int 0, .int 0, .int 0, .int 0, .int 0, .int 0, .ref nwi, .ref nco, .int 0, .ref nqu, .ref nmi, .ref nde, .ref nsa, .ref nsm, .int 0, .ref npa, .int 0, .ref nac, .ref nam, .ref naw, .int 0, .int 0, .int 0, .int 0, .int 0, .int 0, .int 0, .int 0, .int 0, .ref ncs, .ref nbw, .ref ndc, .ref nmk, .int 0, .int 0, .int 0, .int 0, .int 0, .int 0, .int 0, .ref npo, .int 0, .ref nta, .ref npl, .int 0, .int 0, .ref nmm, .ref ncu, .ref nke, .ref nik, .int 0, .int 0])), (npo, .inl (cI, 6, .inl (upd (upd (upd (upd (upd (upd (fun _ => 0) 5 0) 4 0) 3 0) 2 0) 1 0) 0 0)))] H := hP
  replace hD : va_D A [(n, .inr (8, [.int 800, .int 0, .int 0, .int 0, .int 0, .int 0, .int 0, .ref nwi, .ref nco, .int 0, .ref nqu, .ref nmi, .ref nde, .ref nsa, .ref nsm, .int 0, .ref npa, .int 0, .ref nac, .ref nam, .ref naw, .int 0, .int 0, .int 0, .int 0, .int 0, .int 0, .int 0, .int 0, .int 0, .ref ncs, .ref nbw, .ref ndc, .ref nmk, .int 0, .int 0, .int 0, .int 0, .int 0, .int 0, .int 0, .ref npo, .int 0, .ref nta, .ref npl, .int 0, .int 0, .ref nmm, .ref ncu, .ref nke, .ref nik, .int 0, .int 0])), (npo, .inl (cI, 6, .inl (upd (upd (upd (upd (upd (upd (fun _ => 0) 5 0) 4 0) 3 0) 2 0) 1 0) 0 0)))] := hD
  refine lv_aload_n hx hb dX8_layPortions_28 rfl (lv_at hl 3 rfl) ?_
  refine lv_dup hx hb dX8_layPortions_29 rfl ?_
  refine va_get (D := (dC, dI)) (ci := 8) (v := .int 0) (C := RX8) (T := TX8) (N := 53) hx hb hts hin8 hown hK hP 0 rfl rfl 42 (by decide) hw0 (fun _ h9 => h9) rfl dX8_layPortions_30 ?_
  refine lv_aload_n hx hb dX8_layPortions_33 rfl (lv_at hl 3 rfl) ?_
  refine va_get (D := (dC, dI)) (ci := 8) (v := .ref npo) (C := RX8) (T := TX8) (N := 53) hx hb hts hin8 hown hK hP 0 rfl rfl 41 (by decide) hw1 (fun _ h9 => h9) rfl dX8_layPortions_34 ?_
  refine lv_iload hx hb dX8_layPortions_37 (lv_at hl 0 rfl) ?_
  refine va_iald hx hb hK hP 1 0 rfl rfl (vin (by decide) (by decide)) dX8_layPortions_39 ?_
  refine lv_topi (fun x43 e43 => ?_)
  obtain rfl : x43 = 0 := e43.trans (by first | rfl | decide)
  refine lv_iadd hx hb dX8_layPortions_40 ?_
  refine lv_topi (fun x44 e44 => ?_)
  obtain rfl : x44 = 0 := e44.trans (by decide)
  refine va_put (D := (dC, dI)) (ci := 8) (v := .int 0) (ty := .int) (C := RX8) (T := TX8) (N := 53) hx hb hts hin8 tyX8 tyX8_ok nmX8 hown hK hP hD hS 0 rfl rfl 42 (by decide) hw0 (fun _ h9 => h9) rfl (by decide +kernel) rfl rfl (Nat.le_of_ble_eq_true rfl) dX8_layPortions_41 (fun H locs hP hD hS => ?_)
  replace hP : va_P (dC, dI) vwCl [(n, .inr (8, [.int 800, .int 0, .int 0, .int 0, .int 0, .int 0, .int 0, .ref nwi, .ref nco, .int 0, .ref nqu, .ref nmi, .ref nde, .ref nsa, .ref nsm, .int 0, .ref npa, .int 0, .ref nac, .ref nam, .ref naw, .int 0, .int 0, .int 0, .int 0, .int 0, .int 0, .int 0, .int 0, .int 0, .ref ncs, .ref nbw, .ref ndc, .ref nmk, .int 0, .int 0, .int 0, .int 0, .int 0, .int 0, .int 0, .ref npo, .int 0, .ref nta, .ref npl, .int 0, .int 0, .ref nmm, .ref ncu, .ref nke, .ref nik, .int 0, .int 0])), (npo, .inl (cI, 6, .inl (upd (upd (upd (upd (upd (upd (fun _ => 0) 5 0) 4 0) 3 0) 2 0) 1 0) 0 0)))] H := hP
  replace hD : va_D A [(n, .inr (8, [.int 800, .int 0, .int 0, .int 0, .int 0, .int 0, .int 0, .ref nwi, .ref nco, .int 0, .ref nqu, .ref nmi, .ref nde, .ref nsa, .ref nsm, .int 0, .ref npa, .int 0, .ref nac, .ref nam, .ref naw, .int 0, .int 0, .int 0, .int 0, .int 0, .int 0, .int 0, .int 0, .int 0, .ref ncs, .ref nbw, .ref ndc, .ref nmk, .int 0, .int 0, .int 0, .int 0, .int 0, .int 0, .int 0, .ref npo, .int 0, .ref nta, .ref npl, .int 0, .int 0, .ref nmm, .ref ncu, .ref nke, .ref nik, .int 0, .int 0])), (npo, .inl (cI, 6, .inl (upd (upd (upd (upd (upd (upd (fun _ => 0) 5 0) 4 0) 3 0) 2 0) 1 0) 0 0)))] := hD
  refine lv_iload_n hx hb dX8_layPortions_44 rfl (lv_at hl 2 rfl) ?_
  refine lv_if_eq (tgt := 71) hx hb dX8_layPortions_45 (by decide) (fun c45 => absurd c45 (by decide)) (fun c45 => ?_)
  refine lv_aload_n hx hb dX8_layPortions_48 rfl (lv_at hl 3 rfl) ?_
  refine va_get (D := (dC, dI)) (ci := 8) (v := .ref npo) (C := RX8) (T := TX8) (N := 53) hx hb hts hin8 hown hK hP 0 rfl rfl 41 (by decide) hw1 (fun _ h9 => h9) rfl dX8_layPortions_49 ?_
  refine lv_iload hx hb dX8_layPortions_52 (lv_at hl 0 rfl) ?_
  refine va_iald hx hb hK hP 1 0 rfl rfl (vin (by decide) (by decide)) dX8_layPortions_54 ?_
  refine lv_topi (fun x46 e46 => ?_)
  obtain rfl : x46 = 0 := e46.trans (by first | rfl | decide)
  refine lv_if_eq (tgt := 67) hx hb dX8_layPortions_55 (by decide) (fun c47 => ?_) (fun c47 => absurd c47 (by decide))
  refine lv_iconst (v := 1) hx hb dX8_layPortions_67 (by decide) ?_
  refine lv_goto (tgt := 72) hx hb dX8_layPortions_68 (by decide) ?_
  refine lv_istore_n (lv' := [(2, .int 1), (4, .int 0), (3, .int 0), (0, .ref n), (1, .int 0)]) hx hb dX8_layPortions_72 rfl hl (by decide) rfl (fun ls hl => ?_)
  refine lv_iload_n hx hb dX8_layPortions_73 rfl (lv_at hl 2 rfl) ?_
  refine lv_bipush (v := 10) hx hb dX8_layPortions_74 (by decide) ?_
  refine lv_idiv hx hb dX8_layPortions_76 (by decide) ?_
  refine lv_topi (fun x48 e48 => ?_)
  obtain rfl : x48 = 0 := e48.trans (by decide)
  refine lv_istore_n (lv' := [(3, .int 0), (2, .int 1), (4, .int 0), (0, .ref n), (1, .int 0)]) hx hb dX8_layPortions_77 rfl hl (by decide) rfl (fun ls hl => ?_)
  refine lv_iinc (v := (-1)) (lv' := [(4, .int (-1)), (3, .int 0), (2, .int 1), (0, .ref n), (1, .int 0)]) hx hb dX8_layPortions_78 hl (k := 2) rfl (by decide) (by decide) rfl (fun ls hl => ?_)
  refine lv_goto (tgt := 12) hx hb dX8_layPortions_81 (by decide) ?_
  refine lv_iload hx hb dX8_layPortions_12 (lv_at hl 0 rfl) ?_
  refine lv_if_lt (tgt := 84) hx hb dX8_layPortions_14 (by decide) (fun c49 => ?_) (fun c49 => absurd c49 (by decide))
  refine lv_iload_n hx hb dX8_layPortions_84 rfl (lv_at hl 2 rfl) ?_
  have hP9 := mx_subP (wc := [(n, .inr (8, [.int 800, .int 0, .int 0, .int 0, .int 0, .int 0, .int 0, .ref nwi, .ref nco, .int 0, .ref nqu, .ref nmi, .ref nde, .ref nsa, .ref nsm, .int 0, .ref npa, .int 0, .ref nac, .ref nam, .ref naw, .int 0, .int 0, .int 0, .int 0, .int 0, .int 0, .int 0, .int 0, .int 0, .ref ncs, .ref nbw, .ref ndc, .ref nmk, .int 0, .int 0, .int 0, .int 0, .int 0, .int 0, .int 0, .ref npo, .int 0, .ref nta, .ref npl, .int 0, .int 0, .ref nmm, .ref ncu, .ref nke, .ref nik, .int 0, .int 0])), (npo, .inl (cI, 6, .inl (upd (upd (upd (upd (upd (upd (fun _ => 0) 5 0) 4 0) 3 0) 2 0) 1 0) 0 0)))]) hP [0, 1] rfl
  have hD9 := hD.sub (ws' := [(n, .inr (8, [.int 800, .int 0, .int 0, .int 0, .int 0, .int 0, .int 0, .ref nwi, .ref nco, .int 0, .ref nqu, .ref nmi, .ref nde, .ref nsa, .ref nsm, .int 0, .ref npa, .int 0, .ref nac, .ref nam, .ref naw, .int 0, .int 0, .int 0, .int 0, .int 0, .int 0, .int 0, .int 0, .int 0, .ref ncs, .ref nbw, .ref ndc, .ref nmk, .int 0, .int 0, .int 0, .int 0, .int 0, .int 0, .int 0, .ref npo, .int 0, .ref nta, .ref npl, .int 0, .int 0, .ref nmm, .ref ncu, .ref nke, .ref nik, .int 0, .int 0])), (npo, .inl (cI, 6, .inl (upd (upd (upd (upd (upd (upd (fun _ => 0) 5 0) 4 0) 3 0) 2 0) 1 0) 0 0)))]) [0, 1] (by decide) rfl
  exact W.zret (v := 1) hx hb hr rfl (fun t ht hW => ⟨⟨1, (), rfl, rfl, by rw [ht]; exact hP9, hD9⟩, hS.F ht⟩) hS.2.2 dX8_layPortions_85
