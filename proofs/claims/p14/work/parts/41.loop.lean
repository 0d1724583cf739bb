set_option maxHeartbeats 4000000 in
set_option maxRecDepth 100000 in
theorem lw_head {p : Program} {e : Env} {s : State} {m : MethodId} {below : List Frame} {meth : Method} {c : Code} (l : Launch) {b L : Nat} {xs : Nat → Int32} (hL : L ≤ 320) (C0 : lw_At p s m meth c b L xs) (qx qn : Nat) (H : Heap) (locs : List Loc) (i : Int32) (hi0 : 0 ≤ i.toInt) (hi1 : i.toInt ≤ 320) (hS : va_S (fun q : Nat => s.heap.size ≤ q) s.heap H locs) (ls : Array Slot) (hl : lv_has ls 4 [(3, .int i), (2, .ref qn), (1, .ref qx), (0, .ref b)]) (kk : i.toInt + 5 ≤ (L : Int) → W p l e room_1 s m #[Value.ref b] below meth c H locs 77 3085 (lw_Z below #[Value.ref b] s) (F0 m 26 ls [])) : W p l e room_1 s m #[Value.ref b] below meth c H locs 77 3085 (lw_Z below #[Value.ref b] s) (F0 m 18 ls []) := by
  obtain ⟨hx, hb, hr, hml, hown, hts, hX, hbl, hlocks, hgv⟩ := id C0
  have hts := fun w h => hts w (wsL_law_in w h)
  have hown : s.vm.findClass RL = some m.cls := hown
  have hA : ∀ q : Nat, s.heap.size ≤ q → (fun q : Nat => s.heap.size ≤ q) q := fun _ h => h
  have hbA : ¬ (fun q : Nat => s.heap.size ≤ q) b := Nat.not_le.mpr hbl
  have hnL : (Int32.ofNat L).toInt = (L : Int) := nI_toInt (n := L) (by omega)
  refine lv_iload_n hx hb dL_law_18 rfl (lv_at hl 0 rfl) ?_
  refine lv_aload_n hx hb dL_law_19 rfl (lv_at hl 3 rfl) ?_
  refine va_slen hx hb hX hbl hbA hS dL_law_20 ?_
  refine lv_iconst (v := 5) hx hb dL_law_21 (by decide) ?_
  refine lv_isub hx hb dL_law_22 ?_
  refine lv_topi (fun x1 e1 => ?_)
  have f1 : x1.toInt = (Int32.ofNat L).toInt - (5 : Int) := by rw [e1]; exact tsub (by have t8 := tb (Int32.ofNat L); have z8 : (5 : Int32).toInt = 5 := rfl; omega) (by have t8 := tb (Int32.ofNat L); have z8 : (5 : Int32).toInt = 5 := rfl; omega)
  refine lv_icmp_gt (tgt := 1003) hx hb dL_law_23 (by decide) (fun c2 => ?_) (fun c2 => ?_)
  · have t2 : x1.toInt < i.toInt := (tlt c2)
    refine lv_iconst (v := 1) hx hb dL_law_1003 (by decide) ?_
    refine va_forget (fun q hq => hS.2.2 q hq) ?_
    refine W.widen (k := 600000) (n := 7302250) (Nat.le_of_ble_eq_true rfl) (Nat.le_of_ble_eq_true rfl) ?_
    exact lw_ret hx hb hr hlocks dL_law_1004
  · have t2 : i.toInt ≤ x1.toInt := (tnlt c2)
    exact kk (by omega)
set_option maxHeartbeats 4000000 in
set_option maxRecDepth 100000 in
theorem lw_next {p : Program} {e : Env} {s : State} {m : MethodId} {below : List Frame} {meth : Method} {c : Code} (l : Launch) {b L : Nat} {xs : Nat → Int32} (hL : L ≤ 320) (C0 : lw_At p s m meth c b L xs) (qx qn : Nat) (H : Heap) (locs : List Loc) (i : Int32) (hi0 : 0 ≤ i.toInt) (hi1 : i.toInt ≤ 320) (ls : Array Slot) (hl : lv_has ls 4 [(3, .int i), (2, .ref qn), (1, .ref qx), (0, .ref b)]) (kk : ∀ (ls : Array Slot) (i2 : Int32), i2.toInt = i.toInt + 5 → lv_has ls 4 [(3, .int i2), (2, .ref qn), (1, .ref qx), (0, .ref b)] → W p l e room_1 s m #[Value.ref b] below meth c H locs 77 3085 (lw_Z below #[Value.ref b] s) (F0 m 18 ls [])) : W p l e room_1 s m #[Value.ref b] below meth c H locs 77 3085 (lw_Z below #[Value.ref b] s) (F0 m 997 ls []) := by
  obtain ⟨hx, hb, hr, hml, hown, hts, hX, hbl, hlocks, hgv⟩ := id C0
  have hts := fun w h => hts w (wsL_law_in w h)
  have hown : s.vm.findClass RL = some m.cls := hown
  have hA : ∀ q : Nat, s.heap.size ≤ q → (fun q : Nat => s.heap.size ≤ q) q := fun _ h => h
  have hbA : ¬ (fun q : Nat => s.heap.size ≤ q) b := Nat.not_le.mpr hbl
  obtain ⟨x1, e1⟩ : ∃ y : Int32, y = i + Int32.ofInt 5 := ⟨_, rfl⟩
  refine lv_iinc (v := x1) (lv' := [(3, .int x1), (2, .ref qn), (1, .ref qx), (0, .ref b)]) hx hb dL_law_997 hl (k := 0) rfl e1.symm (by decide) rfl (fun ls hl => ?_)
  have f1 : x1.toInt = i.toInt + 5 := by rw [e1]; exact tinc (by decide) (by have t8 := tb i; omega) (by have t8 := tb i; omega)
  refine lv_goto (tgt := 18) hx hb dL_law_1000 (by decide) ?_
  exact kk ls x1 (by omega) (show lv_has ls 4 [(3, .int x1), (2, .ref qn), (1, .ref qx), (0, .ref b)] from lv_sub hl [0, 1, 2, 3] rfl)
set_option maxHeartbeats 4000000 in
set_option maxRecDepth 100000 in
theorem lw_body {p : Program} {e : Env} {s : State} {m : MethodId} {below : List Frame} {meth : Method} {c : Code} (l : Launch) {b L : Nat} {xs : Nat → Int32} (hL : L ≤ 320) (C0 : lw_At p s m meth c b L xs) (dC : Nat → ClassId) (dI : Nat → Nat → Nat) (cI cZ cK : ClassId) (tS : Nat) (aK aV : Nat → Nat) (hKx : kx dC dI cI cZ cK tS aK aV (fun q : Nat => s.heap.size ≤ q) s) (qx qn : Nat) (u v : Nat → Nat) (H : Heap) (locs : List Loc) (i : Int32) (hi0 : 0 ≤ i.toInt) (hiL : i.toInt + 5 ≤ (L : Int)) (hI : xI dC dI cI cZ cK qx qn u v (fun q : Nat => s.heap.size ≤ q) H) (hS : va_S (fun q : Nat => s.heap.size ≤ q) s.heap H locs) (ls : Array Slot) (hl : lv_has ls 4 [(3, .int i), (2, .ref qn), (1, .ref qx), (0, .ref b)]) (kk : ∀ (H : Heap) (locs : List Loc) (ls : Array Slot), xI dC dI cI cZ cK qx qn u v (fun q : Nat => s.heap.size ≤ q) H → va_S (fun q : Nat => s.heap.size ≤ q) s.heap H locs → lv_has ls 4 [(3, .int i), (2, .ref qn), (1, .ref qx), (0, .ref b)] → W p l e room_1 s m #[Value.ref b] below meth c H locs 77 3085 (lw_Z below #[Value.ref b] s) (F0 m 997 ls [])) : W p l e room_1 s m #[Value.ref b] below meth c H locs 77 3085 (lw_Z below #[Value.ref b] s) (F0 m 26 ls []) := by
  obtain ⟨hx, hb, hr, hml, hown, hts, hX, hbl, hlocks, hgv⟩ := id C0
  have hts := fun w h => hts w (wsL_law_in w h)
  have hown : s.vm.findClass RL = some m.cls := hown
  have hA : ∀ q : Nat, s.heap.size ≤ q → (fun q : Nat => s.heap.size ≤ q) q := fun _ h => h
  have hbA : ¬ (fun q : Nat => s.heap.size ≤ q) b := Nat.not_le.mpr hbl
  refine lv_aload_n hx hb dL_law_26 rfl (lv_at hl 3 rfl) ?_
  refine lv_iload_n hx hb dL_law_27 rfl (lv_at hl 0 rfl) ?_
  refine va_sld hx hb hX hbl hbA hS (vin (by omega) (by omega)) dL_law_28 ?_
  refine lv_topi (fun y1 e1 => ?_)
  refine lv_bipush (v := 31) hx hb dL_law_29 (by decide) ?_
  refine lv_iand hx hb dL_law_31 ?_
  refine lv_topi (fun x2 e2 => ?_)
  have f2 : 0 ≤ x2.toInt ∧ x2.toInt ≤ 31 := by rw [e2]; exact and31 _
  rcases (show (x2.toInt < 0 ∨ 28 < x2.toInt) ∨ x2.toInt = 0 ∨ x2.toInt = 1 ∨ x2.toInt = 2 ∨ x2.toInt = 3 ∨ x2.toInt = 4 ∨ x2.toInt = 5 ∨ x2.toInt = 6 ∨ x2.toInt = 7 ∨ x2.toInt = 8 ∨ x2.toInt = 9 ∨ x2.toInt = 10 ∨ x2.toInt = 11 ∨ x2.toInt = 12 ∨ x2.toInt = 13 ∨ x2.toInt = 14 ∨ x2.toInt = 15 ∨ x2.toInt = 16 ∨ x2.toInt = 17 ∨ x2.toInt = 18 ∨ x2.toInt = 19 ∨ x2.toInt = 20 ∨ x2.toInt = 21 ∨ x2.toInt = 22 ∨ x2.toInt = 23 ∨ x2.toInt = 24 ∨ x2.toInt = 25 ∨ x2.toInt = 26 ∨ x2.toInt = 27 ∨ x2.toInt = 28 by omega) with h3 | h3 | h3 | h3 | h3 | h3 | h3 | h3 | h3 | h3 | h3 | h3 | h3 | h3 | h3 | h3 | h3 | h3 | h3 | h3 | h3 | h3 | h3 | h3 | h3 | h3 | h3 | h3 | h3 | h3
  · refine lv_tableOut (tgt := 997) hx hb dL_law_32 h3 (by decide) ?_
    exact kk H locs ls hI hS hl
  · refine lv_tableIn (tgt := 164) (off := 132) hx hb dL_law_32 (by omega) (by omega) (by rw [h3]; decide) (by decide) ?_
    exact lc_set l hL C0 dC dI cI cZ cK tS aK aV hKx qx qn u v H locs i (by omega) (by omega) hI hS ls hl kk
  · refine lv_tableIn (tgt := 197) (off := 165) hx hb dL_law_32 (by omega) (by omega) (by rw [h3]; decide) (by decide) ?_
    exact lc_day l hL C0 dC dI cI cZ cK tS aK aV hKx qx qn u v H locs i (by omega) (by omega) hI hS ls hl kk
  · refine lv_tableIn (tgt := 256) (off := 224) hx hb dL_law_32 (by omega) (by omega) (by rw [h3]; decide) (by decide) ?_
    exact lc_meal l hL C0 dC dI cI cZ cK tS aK aV hKx qx qn u v H locs i (by omega) (by omega) hI hS ls hl kk
  · refine lv_tableIn (tgt := 309) (off := 277) hx hb dL_law_32 (by omega) (by omega) (by rw [h3]; decide) (by decide) ?_
    exact lc_say l hL C0 dC dI cI cZ cK tS aK aV hKx qx qn u v H locs i (by omega) (by omega) hI hS ls hl kk
  · refine lv_tableIn (tgt := 332) (off := 300) hx hb dL_law_32 (by omega) (by omega) (by rw [h3]; decide) (by decide) ?_
    exact lc_wipe l hL C0 dC dI cI cZ cK tS aK aV hKx qx qn u v H locs i (by omega) (by omega) hI hS ls hl kk
  · refine lv_tableIn (tgt := 345) (off := 313) hx hb dL_law_32 (by omega) (by omega) (by rw [h3]; decide) (by decide) ?_
    exact lc_fault l hL C0 dC dI cI cZ cK tS aK aV hKx qx qn u v H locs i (by omega) (by omega) hI hS ls hl kk
  · refine lv_tableIn (tgt := 358) (off := 326) hx hb dL_law_32 (by omega) (by omega) (by rw [h3]; decide) (by decide) ?_
    exact lc_judge l hL C0 dC dI cI cZ cK tS aK aV hKx qx qn u v H locs i (by omega) (by omega) hI hS ls hl kk
  · refine lv_tableIn (tgt := 381) (off := 349) hx hb dL_law_32 (by omega) (by omega) (by rw [h3]; decide) (by decide) ?_
    exact lc_behind l hL C0 dC dI cI cZ cK tS aK aV hKx qx qn u v H locs i (by omega) (by omega) hI hS ls hl kk
  · refine lv_tableIn (tgt := 404) (off := 372) hx hb dL_law_32 (by omega) (by omega) (by rw [h3]; decide) (by decide) ?_
    exact lc_cost l hL C0 dC dI cI cZ cK tS aK aV hKx qx qn u v H locs i (by omega) (by omega) hI hS ls hl kk
  · refine lv_tableIn (tgt := 437) (off := 405) hx hb dL_law_32 (by omega) (by omega) (by rw [h3]; decide) (by decide) ?_
    exact lc_spent l hL C0 dC dI cI cZ cK tS aK aV hKx qx qn u v H locs i (by omega) (by omega) hI hS ls hl kk
  · refine lv_tableIn (tgt := 460) (off := 428) hx hb dL_law_32 (by omega) (by omega) (by rw [h3]; decide) (by decide) ?_
    exact lc_done l hL C0 dC dI cI cZ cK tS aK aV hKx qx qn u v H locs i (by omega) (by omega) hI hS ls hl kk
  · refine lv_tableIn (tgt := 473) (off := 441) hx hb dL_law_32 (by omega) (by omega) (by rw [h3]; decide) (by decide) ?_
    exact lc_plain l hL C0 dC dI cI cZ cK tS aK aV hKx qx qn u v H locs i (by omega) (by omega) hI hS ls hl kk
  · refine lv_tableIn (tgt := 516) (off := 484) hx hb dL_law_32 (by omega) (by omega) (by rw [h3]; decide) (by decide) ?_
    exact lc_shared l hL C0 dC dI cI cZ cK tS aK aV hKx qx qn u v H locs i (by omega) (by omega) hI hS ls hl kk
  · refine lv_tableIn (tgt := 549) (off := 517) hx hb dL_law_32 (by omega) (by omega) (by rw [h3]; decide) (by decide) ?_
    exact lc_most l hL C0 dC dI cI cZ cK tS aK aV hKx qx qn u v H locs i (by omega) (by omega) hI hS ls hl kk
  · refine lv_tableIn (tgt := 592) (off := 560) hx hb dL_law_32 (by omega) (by omega) (by rw [h3]; decide) (by decide) ?_
    exact lc_least l hL C0 dC dI cI cZ cK tS aK aV hKx qx qn u v H locs i (by omega) (by omega) hI hS ls hl kk
  · refine lv_tableIn (tgt := 625) (off := 593) hx hb dL_law_32 (by omega) (by omega) (by rw [h3]; decide) (by decide) ?_
    exact lc_ends l hL C0 dC dI cI cZ cK tS aK aV hKx qx qn u v H locs i (by omega) (by omega) hI hS ls hl kk
  · refine lv_tableIn (tgt := 648) (off := 616) hx hb dL_law_32 (by omega) (by omega) (by rw [h3]; decide) (by decide) ?_
    exact lc_mark l hL C0 dC dI cI cZ cK tS aK aV hKx qx qn u v H locs i (by omega) (by omega) hI hS ls hl kk
  · refine lv_tableIn (tgt := 661) (off := 629) hx hb dL_law_32 (by omega) (by omega) (by rw [h3]; decide) (by decide) ?_
    exact lc_keep l hL C0 dC dI cI cZ cK tS aK aV hKx qx qn u v H locs i (by omega) (by omega) hI hS ls hl kk
  · refine lv_tableIn (tgt := 694) (off := 662) hx hb dL_law_32 (by omega) (by omega) (by rw [h3]; decide) (by decide) ?_
    exact lc_seen l hL C0 dC dI cI cZ cK tS aK aV hKx qx qn u v H locs i (by omega) (by omega) hI hS ls hl kk
  · refine lv_tableIn (tgt := 727) (off := 695) hx hb dL_law_32 (by omega) (by omega) (by rw [h3]; decide) (by decide) ?_
    exact lc_forget l hL C0 dC dI cI cZ cK tS aK aV hKx qx qn u v H locs i (by omega) (by omega) hI hS ls hl kk
  · refine lv_tableIn (tgt := 740) (off := 708) hx hb dL_law_32 (by omega) (by omega) (by rw [h3]; decide) (by decide) ?_
    exact lc_leaks l hL C0 dC dI cI cZ cK tS aK aV hKx qx qn u v H locs i (by omega) (by omega) hI hS ls hl kk
  · refine lv_tableIn (tgt := 763) (off := 731) hx hb dL_law_32 (by omega) (by omega) (by rw [h3]; decide) (by decide) ?_
    exact lc_where l hL C0 dC dI cI cZ cK tS aK aV hKx qx qn u v H locs i (by omega) (by omega) hI hS ls hl kk
  · refine lv_tableIn (tgt := 776) (off := 744) hx hb dL_law_32 (by omega) (by omega) (by rw [h3]; decide) (by decide) ?_
    exact lc_weigh l hL C0 dC dI cI cZ cK tS aK aV hKx qx qn u v H locs i (by omega) (by omega) hI hS ls hl kk
  · refine lv_tableIn (tgt := 799) (off := 767) hx hb dL_law_32 (by omega) (by omega) (by rw [h3]; decide) (by decide) ?_
    exact lc_gust l hL C0 dC dI cI cZ cK tS aK aV hKx qx qn u v H locs i (by omega) (by omega) hI hS ls hl kk
  · refine lv_tableIn (tgt := 842) (off := 810) hx hb dL_law_32 (by omega) (by omega) (by rw [h3]; decide) (by decide) ?_
    exact lc_shares l hL C0 dC dI cI cZ cK tS aK aV hKx qx qn u v H locs i (by omega) (by omega) hI hS ls hl kk
  · refine lv_tableIn (tgt := 885) (off := 853) hx hb dL_law_32 (by omega) (by omega) (by rw [h3]; decide) (by decide) ?_
    exact lc_week l hL C0 dC dI cI cZ cK tS aK aV hKx qx qn u v H locs i (by omega) (by omega) hI hS ls hl kk
  · refine lv_tableIn (tgt := 928) (off := 896) hx hb dL_law_32 (by omega) (by omega) (by rw [h3]; decide) (by decide) ?_
    exact lc_image l hL C0 dC dI cI cZ cK tS aK aV hKx qx qn u v H locs i (by omega) (by omega) hI hS ls hl kk
  · refine lv_tableIn (tgt := 951) (off := 919) hx hb dL_law_32 (by omega) (by omega) (by rw [h3]; decide) (by decide) ?_
    exact lc_restore l hL C0 dC dI cI cZ cK tS aK aV hKx qx qn u v H locs i (by omega) (by omega) hI hS ls hl kk
  · refine lv_tableIn (tgt := 974) (off := 942) hx hb dL_law_32 (by omega) (by omega) (by rw [h3]; decide) (by decide) ?_
    exact lc_told l hL C0 dC dI cI cZ cK tS aK aV hKx qx qn u v H locs i (by omega) (by omega) hI hS ls hl kk
set_option maxHeartbeats 4000000 in
set_option maxRecDepth 100000 in
theorem lw_loop {p : Program} {e : Env} {s : State} {m : MethodId} {below : List Frame} {meth : Method} {c : Code} (l : Launch) {b L : Nat} {xs : Nat → Int32} (hL : L ≤ 320) (C0 : lw_At p s m meth c b L xs) (dC : Nat → ClassId) (dI : Nat → Nat → Nat) (cI cZ cK : ClassId) (tS : Nat) (aK aV : Nat → Nat) (hKx : kx dC dI cI cZ cK tS aK aV (fun q : Nat => s.heap.size ≤ q) s) (qx qn : Nat) (u v : Nat → Nat) (n : Nat) : ∀ (H : Heap) (locs : List Loc) (i : Int32) (ls : Array Slot), 0 ≤ i.toInt → i.toInt ≤ 320 → (L : Int) - i.toInt ≤ (n : Int) → xI dC dI cI cZ cK qx qn u v (fun q : Nat => s.heap.size ≤ q) H → va_S (fun q : Nat => s.heap.size ≤ q) s.heap H locs → lv_has ls 4 [(3, .int i), (2, .ref qn), (1, .ref qx), (0, .ref b)] → W p l e room_1 s m #[Value.ref b] below meth c H locs 77 3085 (lw_Z below #[Value.ref b] s) (F0 m 18 ls []) := by
  induction n with
  | zero =>
    intro H locs i ls hi0 hi1 hn hI hS hl
    exact lw_head l hL C0 qx qn H locs i hi0 hi1 hS ls hl (fun h => by exfalso; omega)
  | succ n ih =>
    intro H locs i ls hi0 hi1 hn hI hS hl
    refine lw_head l hL C0 qx qn H locs i hi0 hi1 hS ls hl (fun h => ?_)
    refine lw_body l hL C0 dC dI cI cZ cK tS aK aV hKx qx qn u v H locs i hi0 h hI hS ls hl (fun H locs ls hI hS hl => ?_)
    refine lw_next l hL C0 qx qn H locs i hi0 hi1 ls hl (fun ls i2 h2 hl => ?_)
    exact ih H locs i2 ls (by omega) (by omega) (by omega) hI hS hl
