set_option maxHeartbeats 4000000 in
set_option maxRecDepth 100000 in
theorem kx_start {p : Program} {s : State} {m : MethodId} {meth : Method} {c : Code} {b L : Nat} {xs : Nat → Int32} (C0 : lw_At p s m meth c b L xs) : ∃ (dC : Nat → ClassId) (dI : Nat → Nat → Nat) (cI cZ cK : ClassId) (tS : Nat) (aK aV : Nat → Nat), kx dC dI cI cZ cK tS aK aV (fun q : Nat => s.heap.size ≤ q) s := by
  obtain ⟨hx, hb, hr, hml, hown, ht0, hX, hbl, hlocks, hgv⟩ := C0
  have hts := fun w h => ht0 w (wsL_law_in w h)
  obtain ⟨c0, iS0, hKn0⟩ := u_known (C := RX0) (T := TX0) (N := 12) (n := 12) hts inlX0 (ht0 (.instantiable RX0 12) (by decide +kernel))
  obtain ⟨c1, iS1, hKn1⟩ := u_known (C := RX1) (T := TX1) (N := 14) (n := 14) hts inlX1 (ht0 (.instantiable RX1 14) (by decide +kernel))
  obtain ⟨c2, iS2, hKn2⟩ := u_known (C := RX2) (T := TX2) (N := 6) (n := 6) hts inlX2 (ht0 (.instantiable RX2 6) (by decide +kernel))
  obtain ⟨c3, iS3, hKn3⟩ := u_known (C := RX3) (T := TX3) (N := 6) (n := 6) hts inlX3 (ht0 (.instantiable RX3 6) (by decide +kernel))
  obtain ⟨c4, iS4, hKn4⟩ := u_known (C := RX4) (T := TX4) (N := 6) (n := 6) hts inlX4 (ht0 (.instantiable RX4 6) (by decide +kernel))
  obtain ⟨c5, iS5, hKn5⟩ := u_known (C := RX5) (T := TX5) (N := 11) (n := 11) hts inlX5 (ht0 (.instantiable RX5 11) (by decide +kernel))
  obtain ⟨c6, iS6, hKn6⟩ := u_known (C := RX6) (T := TX6) (N := 4) (n := 4) hts inlX6 (ht0 (.instantiable RX6 4) (by decide +kernel))
  obtain ⟨c7, iS7, hKn7⟩ := u_known (C := RX7) (T := TX7) (N := 10) (n := 10) hts inlX7 (ht0 (.instantiable RX7 10) (by decide +kernel))
  obtain ⟨c8, iS8, hKn8⟩ := u_known (C := RX8) (T := TX8) (N := 53) (n := 53) hts inlX8 (ht0 (.instantiable RX8 53) (by decide +kernel))
  obtain ⟨dC, dI, hKc⟩ : ∃ (dC : Nat → ClassId) (dI : Nat → Nat → Nat), ∀ (k : Nat) (q : vw_C), vwCl[k]? = some q → u_Kn s q.1 q.2.1 q.2.2 (dC k) (dI k) := by
    refine ⟨fun k => if k = 0 then c0 else if k = 1 then c1 else if k = 2 then c2 else if k = 3 then c3 else if k = 4 then c4 else if k = 5 then c5 else if k = 6 then c6 else if k = 7 then c7 else c8, fun k => if k = 0 then iS0 else if k = 1 then iS1 else if k = 2 then iS2 else if k = 3 then iS3 else if k = 4 then iS4 else if k = 5 then iS5 else if k = 6 then iS6 else if k = 7 then iS7 else iS8, ?_⟩
    intro k q hq
    match k, hq with
    | 0, hq => cases hq; exact hKn0
    | 1, hq => cases hq; exact hKn1
    | 2, hq => cases hq; exact hKn2
    | 3, hq => cases hq; exact hKn3
    | 4, hq => cases hq; exact hKn4
    | 5, hq => cases hq; exact hKn5
    | 6, hq => cases hq; exact hKn6
    | 7, hq => cases hq; exact hKn7
    | 8, hq => cases hq; exact hKn8
    | k + 9, hq => simp [vwCl] at hq
  obtain ⟨cI, hI1, hI2⟩ := st_tys (ht0 (.arrayClass .int) (by decide +kernel)) (fun C h => by cases h)
  obtain ⟨cZ, hZ1, hZ2⟩ := st_tys (ht0 (.arrayClass .boolean) (by decide +kernel)) (fun C h => by cases h)
  obtain ⟨cK, hK1, hK2⟩ := st_tyq (ht0 (.arrayOver (.object RX0)) (by decide +kernel))
  have hs := flat_of_before _ hgv
  have hAA : ∀ a : Nat, a < s.heap.size → ¬ (fun q : Nat => s.heap.size ≤ q) a := fun a h => Nat.not_le.mpr h
  obtain ⟨tS, hS1, hS2⟩ := va_Tof (tm := .static "OneCan" "SETTING_LIMITS" "[I") (ty := .int) (N := 5) (f := fun j => .int (limS j)) (by decide) (hs (.arrayOf (.static "OneCan" "SETTING_LIMITS" "[I") .int) (by decide +kernel)) (va_eqt (hs (.eq (.length (.static "OneCan" "SETTING_LIMITS" "[I")) (.int (Int32.ofNat 5))) (by decide +kernel))) (fun j hj => by
    rcases (show j = 0 ∨ j = 1 ∨ j = 2 ∨ j = 3 ∨ j = 4 by omega) with rfl | rfl | rfl | rfl | rfl
    · exact va_eqt (z := limS 0) (hs (.eq (.elem (.static "OneCan" "SETTING_LIMITS" "[I") (.int (Int32.ofNat 0))) (.int (limS 0))) (by decide +kernel))
    · exact va_eqt (z := limS 1) (hs (.eq (.elem (.static "OneCan" "SETTING_LIMITS" "[I") (.int (Int32.ofNat 1))) (.int (limS 1))) (by decide +kernel))
    · exact va_eqt (z := limS 2) (hs (.eq (.elem (.static "OneCan" "SETTING_LIMITS" "[I") (.int (Int32.ofNat 2))) (.int (limS 2))) (by decide +kernel))
    · exact va_eqt (z := limS 3) (hs (.eq (.elem (.static "OneCan" "SETTING_LIMITS" "[I") (.int (Int32.ofNat 3))) (.int (limS 3))) (by decide +kernel))
    · exact va_eqt (z := limS 4) (hs (.eq (.elem (.static "OneCan" "SETTING_LIMITS" "[I") (.int (Int32.ofNat 4))) (.int (limS 4))) (by decide +kernel))) hAA
  have hZ3 := va_Zof (ht0 (.laysStatic "OneCan" "SETTING_LIMITS" "[I") (by decide +kernel)) (ht0 (.initialized "OneCan") (by decide +kernel)) hS1 hAA
  have hZ4 := va_Zof (ht0 (.laysStatic "java/lang/String" "COMPACT_STRINGS" "Z") (by decide +kernel)) (ht0 (.initialized "java/lang/String") (by decide +kernel)) (va_eqi (hs (.eq (.static "java/lang/String" "COMPACT_STRINGS" "Z") (.int 1)) (by decide +kernel))) hAA
  obtain ⟨adK, adV, hV1, hV2⟩ := vk_Sof (N := 2) (tm := fun i => if i = 0 then .string "OneCan$Pad" 28 else .string "OneCan$Pad" 39) (len := [4, 9]) (byt := [[115, 111, 104, 120], [97, 98, 99, 100, 101, 102, 46, 126, 36]]) (fun i hi => by rcases (show i = 0 ∨ i = 1 by omega) with rfl | rfl <;> decide) (fun i hi => by rcases (show i = 0 ∨ i = 1 by omega) with rfl | rfl; (exact hs (.exactly (.string "OneCan$Pad" 28) "java/lang/String") (by decide +kernel)); (exact hs (.exactly (.string "OneCan$Pad" 39) "java/lang/String") (by decide +kernel))) (fun i hi => by rcases (show i = 0 ∨ i = 1 by omega) with rfl | rfl; (exact hs (.eq (.field (.string "OneCan$Pad" 28) "java/lang/String" "coder" "B") (.int 0)) (by decide +kernel)); (exact hs (.eq (.field (.string "OneCan$Pad" 39) "java/lang/String" "coder" "B") (.int 0)) (by decide +kernel))) (fun i hi => by rcases (show i = 0 ∨ i = 1 by omega) with rfl | rfl; (exact hs (.arrayOf (.field (.string "OneCan$Pad" 28) "java/lang/String" "value" "[B") .byte) (by decide +kernel)); (exact hs (.arrayOf (.field (.string "OneCan$Pad" 39) "java/lang/String" "value" "[B") .byte) (by decide +kernel))) (fun i hi => by rcases (show i = 0 ∨ i = 1 by omega) with rfl | rfl; (exact hs (.eq (.length (.field (.string "OneCan$Pad" 28) "java/lang/String" "value" "[B")) (.int (Int32.ofNat 4))) (by decide +kernel)); (exact hs (.eq (.length (.field (.string "OneCan$Pad" 39) "java/lang/String" "value" "[B")) (.int (Int32.ofNat 9))) (by decide +kernel))) (fun i hi j hj => by
    rcases (show i = 0 ∨ i = 1 by omega) with rfl | rfl
    · have hj4 : j < 4 := hj
      rcases (show j = 0 ∨ j = 1 ∨ j = 2 ∨ j = 3 by omega) with rfl | rfl | rfl | rfl
      · exact hs (.eq (.elem (.field (.string "OneCan$Pad" 28) "java/lang/String" "value" "[B") (.int (Int32.ofNat 0))) (.int 115)) (by decide +kernel)
      · exact hs (.eq (.elem (.field (.string "OneCan$Pad" 28) "java/lang/String" "value" "[B") (.int (Int32.ofNat 1))) (.int 111)) (by decide +kernel)
      · exact hs (.eq (.elem (.field (.string "OneCan$Pad" 28) "java/lang/String" "value" "[B") (.int (Int32.ofNat 2))) (.int 104)) (by decide +kernel)
      · exact hs (.eq (.elem (.field (.string "OneCan$Pad" 28) "java/lang/String" "value" "[B") (.int (Int32.ofNat 3))) (.int 120)) (by decide +kernel)
    · have hj4 : j < 9 := hj
      rcases (show j = 0 ∨ j = 1 ∨ j = 2 ∨ j = 3 ∨ j = 4 ∨ j = 5 ∨ j = 6 ∨ j = 7 ∨ j = 8 by omega) with rfl | rfl | rfl | rfl | rfl | rfl | rfl | rfl | rfl
      · exact hs (.eq (.elem (.field (.string "OneCan$Pad" 39) "java/lang/String" "value" "[B") (.int (Int32.ofNat 0))) (.int 97)) (by decide +kernel)
      · exact hs (.eq (.elem (.field (.string "OneCan$Pad" 39) "java/lang/String" "value" "[B") (.int (Int32.ofNat 1))) (.int 98)) (by decide +kernel)
      · exact hs (.eq (.elem (.field (.string "OneCan$Pad" 39) "java/lang/String" "value" "[B") (.int (Int32.ofNat 2))) (.int 99)) (by decide +kernel)
      · exact hs (.eq (.elem (.field (.string "OneCan$Pad" 39) "java/lang/String" "value" "[B") (.int (Int32.ofNat 3))) (.int 100)) (by decide +kernel)
      · exact hs (.eq (.elem (.field (.string "OneCan$Pad" 39) "java/lang/String" "value" "[B") (.int (Int32.ofNat 4))) (.int 101)) (by decide +kernel)
      · exact hs (.eq (.elem (.field (.string "OneCan$Pad" 39) "java/lang/String" "value" "[B") (.int (Int32.ofNat 5))) (.int 102)) (by decide +kernel)
      · exact hs (.eq (.elem (.field (.string "OneCan$Pad" 39) "java/lang/String" "value" "[B") (.int (Int32.ofNat 6))) (.int 46)) (by decide +kernel)
      · exact hs (.eq (.elem (.field (.string "OneCan$Pad" 39) "java/lang/String" "value" "[B") (.int (Int32.ofNat 7))) (.int 126)) (by decide +kernel)
      · exact hs (.eq (.elem (.field (.string "OneCan$Pad" 39) "java/lang/String" "value" "[B") (.int (Int32.ofNat 8))) (.int 36)) (by decide +kernel)) (fun i j hi hj hij => by
    rcases (show i = 0 ∧ j = 1 ∨ i = 1 ∧ j = 0 by omega) with ⟨rfl, rfl⟩ | ⟨rfl, rfl⟩
    · first | exact Or.inl (hs (.not (.eq (.string "OneCan$Pad" 28) (.string "OneCan$Pad" 39))) (by decide +kernel)) | exact Or.inr (hs (.not (.eq (.string "OneCan$Pad" 39) (.string "OneCan$Pad" 28))) (by decide +kernel))
    · first | exact Or.inl (hs (.not (.eq (.string "OneCan$Pad" 39) (.string "OneCan$Pad" 28))) (by decide +kernel)) | exact Or.inr (hs (.not (.eq (.string "OneCan$Pad" 28) (.string "OneCan$Pad" 39))) (by decide +kernel))) hAA
  refine ⟨dC, dI, cI, cZ, cK, tS, adK, adV, ⟨hKc, fun k q h => ?_⟩, va_Nw.of rfl (ht0 (.methodLinkNest RX0 56 yX7_isIn RX7) (by decide +kernel)), va_Nw.of rfl (ht0 (.methodLinkNest RX5 100 yX7_isIn RX7) (by decide +kernel)), va_Nw.of rfl (ht0 (.methodLinkNest RX7 18 yX4_init RX7) (by decide +kernel)), va_AO.of (ht0 (.arrayOver (.object RX0)) (by decide +kernel)), vk_R.of (ht0 (.stringRef RX4 28 "sohx") (by decide +kernel)) (hV2 0 (by decide)), vk_R.of (ht0 (.stringRef RX4 39 "abcdef.~$") (by decide +kernel)) (hV2 1 (by decide)), hZ3, hS2, hZ4, hV1⟩
  match k, h with
  | 0, h => cases h; exact ⟨hI1, hI2⟩
  | 1, h => cases h; exact ⟨hZ1, hZ2⟩
  | 2, h => cases h; exact ⟨hK1, hK2⟩
  | k + 3, h => simp at h
