set_option maxHeartbeats 4000000 in
set_option maxRecDepth 100000 in
theorem lc_meal {p : Program} {e : Env} {s : State} {m : MethodId} {below : List Frame} {meth : Method} {c : Code} (l : Launch) {b : Nat} {xs : Nat → Int32} (C0 : lw_At p s m meth c b 5 xs) (dC : Nat → ClassId) (dI : Nat → Nat → Nat) (cI cZ cK : ClassId) (tS aK aV : Nat) (hKx : kx dC dI cI cZ cK tS aK aV (fun q : Nat => s.heap.size ≤ q) s) (qx qn : Nat) (u v : Nat → Nat) (H : Heap) (locs : List Loc) (hP : va_P (dC, dI) vwCl [(qx, .inr (7, [.ref (u 0), .ref (u 9), .ref (u 13), .ref (u 18), .ref (u 23), .ref (u 29), .ref (u 31), .ref (u 32), .ref (u 33), .ref (u 34)])), ((u 0), .inr (0, [.ref (u 1), .ref (u 2), .ref (u 3), .int (-6), .int 0, .int 0, .ref (u 4), .ref (u 5), .ref (u 6), .int 0, .ref (u 7), .ref (u 8)])), ((u 1), .inl (cI, 5, .inl (upd (fun _ => 0) 0 800))), ((u 2), .inl (cI, 14, .inl (fun _ => 0))), ((u 3), .inl (cZ, 14, .inl (fun _ => 0))), ((u 4), .inl (cI, 6, .inl (fun _ => 0))), ((u 5), .inl (cI, 6, .inl (fun _ => 0))), ((u 6), .inl (cI, 6, .inl (fun _ => 0))), ((u 7), .inl (cI, 8, .inl (fun _ => 0))), ((u 8), .inl (cI, 8, .inl (fun _ => 0))), ((u 9), .inr (4, [.ref (u 10), .int 0, .ref (u 11), .ref (u 12), .int 0, .int 0])), ((u 10), .inl (cI, 60, .inl (fun _ => 0))), ((u 11), .inl (cI, 60, .inl (fun _ => 0))), ((u 12), .inl (cI, 60, .inl (fun _ => 0))), ((u 13), .inr (1, [.ref (u 0), .ref (u 9), .ref (u 14), .ref (u 15), .ref (u 16), .ref (u 17), .int 0, .int 0, .int 0, .int 0, .int 0, .int 0, .int 0, .int 0])), ((u 14), .inl (cI, 60, .inl (fun _ => 0))), ((u 15), .inl (cI, 60, .inl (fun _ => 0))), ((u 16), .inl (cI, 60, .inl (fun _ => 0))), ((u 17), .inl (cI, 61, .inl (fun _ => 0))), ((u 18), .inr (3, [.ref (u 0), .ref (u 19), .int 0, .ref (u 20), .ref (u 21), .ref (u 22)])), ((u 19), .inl (cI, 6, .inl (fun _ => 0))), ((u 20), .inl (cI, 6, .inl (fun _ => 0))), ((u 21), .inl (cI, 6, .inl (fun _ => 0))), ((u 22), .inl (cI, 5, .inl (fun _ => 0))), ((u 23), .inr (5, [.ref (u 0), .ref (u 9), .ref (u 13), .ref (u 24), .ref (u 25), .ref (u 26), .ref (u 27), .ref (u 28), .int 0, .int 0, .int 0])), ((u 24), .inl (cI, 61, .inl (fun _ => 0))), ((u 25), .inl (cI, 61, .inl (fun _ => 0))), ((u 26), .inl (cI, 60, .inl (fun _ => 0))), ((u 27), .inl (cI, 60, .inl (fun _ => 0))), ((u 28), .inl (cI, 21, .inl (fun _ => 0))), ((u 29), .inr (2, [.ref (u 0), .ref (u 9), .ref (u 13), .ref (u 30), .long 0, .long 0])), ((u 30), .inl (cI, 60, .inl (fun _ => 0))), ((u 31), .inr (6, [.ref (u 0), .int 0, .int 0, .int 0])), ((u 32), .inl (cK, 2, .inr (.inr (.inr (.inr (va_up (va_up (fun _ => none) 0 (some (u 35))) 1 (some (u 44)))))))), ((u 33), .inl (cZ, 2, .inl (fun _ => 0))), ((u 34), .inl (cI, 4, .inl (fun _ => 0))), ((u 35), .inr (0, [.ref (u 36), .ref (u 37), .ref (u 38), .int (-6), .int 0, .int 0, .ref (u 39), .ref (u 40), .ref (u 41), .int 0, .ref (u 42), .ref (u 43)])), ((u 36), .inl (cI, 5, .inl (upd (fun _ => 0) 0 800))), ((u 37), .inl (cI, 14, .inl (fun _ => 0))), ((u 38), .inl (cZ, 14, .inl (fun _ => 0))), ((u 39), .inl (cI, 6, .inl (fun _ => 0))), ((u 40), .inl (cI, 6, .inl (fun _ => 0))), ((u 41), .inl (cI, 6, .inl (fun _ => 0))), ((u 42), .inl (cI, 8, .inl (fun _ => 0))), ((u 43), .inl (cI, 8, .inl (fun _ => 0))), ((u 44), .inr (0, [.ref (u 45), .ref (u 46), .ref (u 47), .int (-6), .int 0, .int 0, .ref (u 48), .ref (u 49), .ref (u 50), .int 0, .ref (u 51), .ref (u 52)])), ((u 45), .inl (cI, 5, .inl (upd (fun _ => 0) 0 800))), ((u 46), .inl (cI, 14, .inl (fun _ => 0))), ((u 47), .inl (cZ, 14, .inl (fun _ => 0))), ((u 48), .inl (cI, 6, .inl (fun _ => 0))), ((u 49), .inl (cI, 6, .inl (fun _ => 0))), ((u 50), .inl (cI, 6, .inl (fun _ => 0))), ((u 51), .inl (cI, 8, .inl (fun _ => 0))), ((u 52), .inl (cI, 8, .inl (fun _ => 0))), (qn, .inr (8, [.int 800, .int 0, .int 0, .int 0, .int 0, .int 0, .int 0, .ref (v 0), .ref (v 1), .int 0, .ref (v 2), .ref (v 3), .ref (v 4), .ref (v 5), .ref (v 6), .int 0, .ref (v 7), .int 0, .ref (v 8), .ref (v 9), .ref (v 10), .int 0, .int 0, .int 0, .int 0, .int 0, .int 0, .int 0, .int 0, .int 0, .ref (v 11), .ref (v 12), .ref (v 13), .ref (v 14), .int 0, .int 0, .int 0, .int 0, .int 0, .int 0, .int 0, .ref (v 15), .int 0, .ref (v 16), .ref (v 17), .int 0, .int 0, .ref (v 18), .ref (v 19), .ref (v 20), .ref (v 21), .int 0, .int 0])), ((v 0), .inl (cI, 14, .inl (fun _ => 0))), ((v 1), .inl (cI, 14, .inl (fun _ => 0))), ((v 2), .inl (cI, 6, .inl (fun _ => 0))), ((v 3), .inl (cI, 6, .inl (fun _ => 0))), ((v 4), .inl (cI, 6, .inl (fun _ => 0))), ((v 5), .inl (cI, 8, .inl (fun _ => 0))), ((v 6), .inl (cI, 8, .inl (fun _ => 0))), ((v 7), .inl (cI, 60, .inl (fun _ => 0))), ((v 8), .inl (cI, 60, .inl (fun _ => 0))), ((v 9), .inl (cI, 60, .inl (fun _ => 0))), ((v 10), .inl (cI, 60, .inl (fun _ => 0))), ((v 11), .inl (cI, 60, .inl (fun _ => 0))), ((v 12), .inl (cI, 60, .inl (fun _ => 0))), ((v 13), .inl (cI, 14, .inl (fun _ => 0))), ((v 14), .inl (cI, 61, .inl (fun _ => 0))), ((v 15), .inl (cI, 6, .inl (fun _ => 0))), ((v 16), .inl (cI, 6, .inl (fun _ => 0))), ((v 17), .inl (cI, 28, .inl (fun _ => 0))), ((v 18), .inl (cI, 1260, .inl (fun _ => 0))), ((v 19), .inl (cI, 4, .inl (fun _ => 0))), ((v 20), .inl (cI, 160, .inl (fun _ => 0))), ((v 21), .inl (cZ, 2, .inl (fun _ => 0)))] H) (hD : va_D (fun q : Nat => s.heap.size ≤ q) [(qx, .inr (7, [.ref (u 0), .ref (u 9), .ref (u 13), .ref (u 18), .ref (u 23), .ref (u 29), .ref (u 31), .ref (u 32), .ref (u 33), .ref (u 34)])), ((u 0), .inr (0, [.ref (u 1), .ref (u 2), .ref (u 3), .int (-6), .int 0, .int 0, .ref (u 4), .ref (u 5), .ref (u 6), .int 0, .ref (u 7), .ref (u 8)])), ((u 1), .inl (cI, 5, .inl (upd (fun _ => 0) 0 800))), ((u 2), .inl (cI, 14, .inl (fun _ => 0))), ((u 3), .inl (cZ, 14, .inl (fun _ => 0))), ((u 4), .inl (cI, 6, .inl (fun _ => 0))), ((u 5), .inl (cI, 6, .inl (fun _ => 0))), ((u 6), .inl (cI, 6, .inl (fun _ => 0))), ((u 7), .inl (cI, 8, .inl (fun _ => 0))), ((u 8), .inl (cI, 8, .inl (fun _ => 0))), ((u 9), .inr (4, [.ref (u 10), .int 0, .ref (u 11), .ref (u 12), .int 0, .int 0])), ((u 10), .inl (cI, 60, .inl (fun _ => 0))), ((u 11), .inl (cI, 60, .inl (fun _ => 0))), ((u 12), .inl (cI, 60, .inl (fun _ => 0))), ((u 13), .inr (1, [.ref (u 0), .ref (u 9), .ref (u 14), .ref (u 15), .ref (u 16), .ref (u 17), .int 0, .int 0, .int 0, .int 0, .int 0, .int 0, .int 0, .int 0])), ((u 14), .inl (cI, 60, .inl (fun _ => 0))), ((u 15), .inl (cI, 60, .inl (fun _ => 0))), ((u 16), .inl (cI, 60, .inl (fun _ => 0))), ((u 17), .inl (cI, 61, .inl (fun _ => 0))), ((u 18), .inr (3, [.ref (u 0), .ref (u 19), .int 0, .ref (u 20), .ref (u 21), .ref (u 22)])), ((u 19), .inl (cI, 6, .inl (fun _ => 0))), ((u 20), .inl (cI, 6, .inl (fun _ => 0))), ((u 21), .inl (cI, 6, .inl (fun _ => 0))), ((u 22), .inl (cI, 5, .inl (fun _ => 0))), ((u 23), .inr (5, [.ref (u 0), .ref (u 9), .ref (u 13), .ref (u 24), .ref (u 25), .ref (u 26), .ref (u 27), .ref (u 28), .int 0, .int 0, .int 0])), ((u 24), .inl (cI, 61, .inl (fun _ => 0))), ((u 25), .inl (cI, 61, .inl (fun _ => 0))), ((u 26), .inl (cI, 60, .inl (fun _ => 0))), ((u 27), .inl (cI, 60, .inl (fun _ => 0))), ((u 28), .inl (cI, 21, .inl (fun _ => 0))), ((u 29), .inr (2, [.ref (u 0), .ref (u 9), .ref (u 13), .ref (u 30), .long 0, .long 0])), ((u 30), .inl (cI, 60, .inl (fun _ => 0))), ((u 31), .inr (6, [.ref (u 0), .int 0, .int 0, .int 0])), ((u 32), .inl (cK, 2, .inr (.inr (.inr (.inr (va_up (va_up (fun _ => none) 0 (some (u 35))) 1 (some (u 44)))))))), ((u 33), .inl (cZ, 2, .inl (fun _ => 0))), ((u 34), .inl (cI, 4, .inl (fun _ => 0))), ((u 35), .inr (0, [.ref (u 36), .ref (u 37), .ref (u 38), .int (-6), .int 0, .int 0, .ref (u 39), .ref (u 40), .ref (u 41), .int 0, .ref (u 42), .ref (u 43)])), ((u 36), .inl (cI, 5, .inl (upd (fun _ => 0) 0 800))), ((u 37), .inl (cI, 14, .inl (fun _ => 0))), ((u 38), .inl (cZ, 14, .inl (fun _ => 0))), ((u 39), .inl (cI, 6, .inl (fun _ => 0))), ((u 40), .inl (cI, 6, .inl (fun _ => 0))), ((u 41), .inl (cI, 6, .inl (fun _ => 0))), ((u 42), .inl (cI, 8, .inl (fun _ => 0))), ((u 43), .inl (cI, 8, .inl (fun _ => 0))), ((u 44), .inr (0, [.ref (u 45), .ref (u 46), .ref (u 47), .int (-6), .int 0, .int 0, .ref (u 48), .ref (u 49), .ref (u 50), .int 0, .ref (u 51), .ref (u 52)])), ((u 45), .inl (cI, 5, .inl (upd (fun _ => 0) 0 800))), ((u 46), .inl (cI, 14, .inl (fun _ => 0))), ((u 47), .inl (cZ, 14, .inl (fun _ => 0))), ((u 48), .inl (cI, 6, .inl (fun _ => 0))), ((u 49), .inl (cI, 6, .inl (fun _ => 0))), ((u 50), .inl (cI, 6, .inl (fun _ => 0))), ((u 51), .inl (cI, 8, .inl (fun _ => 0))), ((u 52), .inl (cI, 8, .inl (fun _ => 0))), (qn, .inr (8, [.int 800, .int 0, .int 0, .int 0, .int 0, .int 0, .int 0, .ref (v 0), .ref (v 1), .int 0, .ref (v 2), .ref (v 3), .ref (v 4), .ref (v 5), .ref (v 6), .int 0, .ref (v 7), .int 0, .ref (v 8), .ref (v 9), .ref (v 10), .int 0, .int 0, .int 0, .int 0, .int 0, .int 0, .int 0, .int 0, .int 0, .ref (v 11), .ref (v 12), .ref (v 13), .ref (v 14), .int 0, .int 0, .int 0, .int 0, .int 0, .int 0, .int 0, .ref (v 15), .int 0, .ref (v 16), .ref (v 17), .int 0, .int 0, .ref (v 18), .ref (v 19), .ref (v 20), .ref (v 21), .int 0, .int 0])), ((v 0), .inl (cI, 14, .inl (fun _ => 0))), ((v 1), .inl (cI, 14, .inl (fun _ => 0))), ((v 2), .inl (cI, 6, .inl (fun _ => 0))), ((v 3), .inl (cI, 6, .inl (fun _ => 0))), ((v 4), .inl (cI, 6, .inl (fun _ => 0))), ((v 5), .inl (cI, 8, .inl (fun _ => 0))), ((v 6), .inl (cI, 8, .inl (fun _ => 0))), ((v 7), .inl (cI, 60, .inl (fun _ => 0))), ((v 8), .inl (cI, 60, .inl (fun _ => 0))), ((v 9), .inl (cI, 60, .inl (fun _ => 0))), ((v 10), .inl (cI, 60, .inl (fun _ => 0))), ((v 11), .inl (cI, 60, .inl (fun _ => 0))), ((v 12), .inl (cI, 60, .inl (fun _ => 0))), ((v 13), .inl (cI, 14, .inl (fun _ => 0))), ((v 14), .inl (cI, 61, .inl (fun _ => 0))), ((v 15), .inl (cI, 6, .inl (fun _ => 0))), ((v 16), .inl (cI, 6, .inl (fun _ => 0))), ((v 17), .inl (cI, 28, .inl (fun _ => 0))), ((v 18), .inl (cI, 1260, .inl (fun _ => 0))), ((v 19), .inl (cI, 4, .inl (fun _ => 0))), ((v 20), .inl (cI, 160, .inl (fun _ => 0))), ((v 21), .inl (cZ, 2, .inl (fun _ => 0)))]) (hS : va_S (fun q : Nat => s.heap.size ≤ q) s.heap H locs) (ls : Array Slot) (hl : lv_has ls 4 [(3, .int 0), (2, .ref qn), (1, .ref qx), (0, .ref b)]) : W p l e room_1 s m #[Value.ref b] below meth c H locs 77 3085 (lw_Z below #[Value.ref b] s) (F0 m 256 ls []) := by
  obtain ⟨hx, hb, hr, hml, hown, hts, hX, hbl, hlocks, hgv⟩ := C0
  have hts := fun w h => hts w (wsL_law_in w h)
  have hown : s.vm.findClass RL = some m.cls := hown
  have hA : ∀ q : Nat, s.heap.size ≤ q → (fun q : Nat => s.heap.size ≤ q) q := fun _ h => h
  have hbA : ¬ (fun q : Nat => s.heap.size ≤ q) b := Nat.not_le.mpr hbl
  have hK := hKx.1
  replace hP := mx_subP (wc := [(qx, .inr (7, [.ref (u 0), .ref (u 9), .ref (u 13), .ref (u 18), .ref (u 23), .ref (u 29), .ref (u 31), .ref (u 32), .ref (u 33), .ref (u 34)])), ((u 0), .inr (0, [.ref (u 1), .ref (u 2), .ref (u 3), .int (-6), .int 0, .int 0, .ref (u 4), .ref (u 5), .ref (u 6), .int 0, .ref (u 7), .ref (u 8)])), ((u 4), .inl (cI, 6, .inl (fun _ => 0))), ((u 5), .inl (cI, 6, .inl (fun _ => 0))), ((u 6), .inl (cI, 6, .inl (fun _ => 0))), (qn, .inr (8, [.int 800, .int 0, .int 0, .int 0, .int 0, .int 0, .int 0, .ref (v 0), .ref (v 1), .int 0, .ref (v 2), .ref (v 3), .ref (v 4), .ref (v 5), .ref (v 6), .int 0, .ref (v 7), .int 0, .ref (v 8), .ref (v 9), .ref (v 10), .int 0, .int 0, .int 0, .int 0, .int 0, .int 0, .int 0, .int 0, .int 0, .ref (v 11), .ref (v 12), .ref (v 13), .ref (v 14), .int 0, .int 0, .int 0, .int 0, .int 0, .int 0, .int 0, .ref (v 15), .int 0, .ref (v 16), .ref (v 17), .int 0, .int 0, .ref (v 18), .ref (v 19), .ref (v 20), .ref (v 21), .int 0, .int 0])), ((v 2), .inl (cI, 6, .inl (fun _ => 0))), ((v 3), .inl (cI, 6, .inl (fun _ => 0))), ((v 4), .inl (cI, 6, .inl (fun _ => 0)))]) hP [0, 1, 5, 6, 7, 54, 57, 58, 59] rfl
  replace hD := hD.sub (ws' := [(qx, .inr (7, [.ref (u 0), .ref (u 9), .ref (u 13), .ref (u 18), .ref (u 23), .ref (u 29), .ref (u 31), .ref (u 32), .ref (u 33), .ref (u 34)])), ((u 0), .inr (0, [.ref (u 1), .ref (u 2), .ref (u 3), .int (-6), .int 0, .int 0, .ref (u 4), .ref (u 5), .ref (u 6), .int 0, .ref (u 7), .ref (u 8)])), ((u 4), .inl (cI, 6, .inl (fun _ => 0))), ((u 5), .inl (cI, 6, .inl (fun _ => 0))), ((u 6), .inl (cI, 6, .inl (fun _ => 0))), (qn, .inr (8, [.int 800, .int 0, .int 0, .int 0, .int 0, .int 0, .int 0, .ref (v 0), .ref (v 1), .int 0, .ref (v 2), .ref (v 3), .ref (v 4), .ref (v 5), .ref (v 6), .int 0, .ref (v 7), .int 0, .ref (v 8), .ref (v 9), .ref (v 10), .int 0, .int 0, .int 0, .int 0, .int 0, .int 0, .int 0, .int 0, .int 0, .ref (v 11), .ref (v 12), .ref (v 13), .ref (v 14), .int 0, .int 0, .int 0, .int 0, .int 0, .int 0, .int 0, .ref (v 15), .int 0, .ref (v 16), .ref (v 17), .int 0, .int 0, .ref (v 18), .ref (v 19), .ref (v 20), .ref (v 21), .int 0, .int 0])), ((v 2), .inl (cI, 6, .inl (fun _ => 0))), ((v 3), .inl (cI, 6, .inl (fun _ => 0))), ((v 4), .inl (cI, 6, .inl (fun _ => 0)))]) [0, 1, 5, 6, 7, 54, 57, 58, 59] (by decide) rfl
  refine lv_aload_n hx hb dL_law_256 rfl (lv_at hl 2 rfl) ?_
  refine lv_aload_n hx hb dL_law_257 rfl (lv_at hl 3 rfl) ?_
  refine lv_iload_n hx hb dL_law_258 rfl (lv_at hl 0 rfl) ?_
  refine lv_iconst (v := 1) hx hb dL_law_259 (by decide) ?_
  refine lv_iadd hx hb dL_law_260 ?_
  refine lv_topi (fun x1 e1 => ?_)
  obtain rfl : x1 = 1 := e1.trans (by decide)
  refine va_sld hx hb hX hbl hbA hS (vin (by decide) (by decide)) dL_law_261 ?_
  refine lv_topi (fun y2 e2 => ?_)
  obtain rfl : y2 = xs 1 := e2
  refine lv_aload_n hx hb dL_law_262 rfl (lv_at hl 3 rfl) ?_
  refine lv_iload_n hx hb dL_law_263 rfl (lv_at hl 0 rfl) ?_
  refine lv_iconst (v := 2) hx hb dL_law_264 (by decide) ?_
  refine lv_iadd hx hb dL_law_265 ?_
  refine lv_topi (fun x3 e3 => ?_)
  obtain rfl : x3 = 2 := e3.trans (by decide)
  refine va_sld hx hb hX hbl hbA hS (vin (by decide) (by decide)) dL_law_266 ?_
  refine lv_topi (fun y4 e4 => ?_)
  obtain rfl : y4 = xs 2 := e4
  refine lv_aload_n hx hb dL_law_267 rfl (lv_at hl 3 rfl) ?_
  refine lv_iload_n hx hb dL_law_268 rfl (lv_at hl 0 rfl) ?_
  refine lv_iconst (v := 3) hx hb dL_law_269 (by decide) ?_
  refine lv_iadd hx hb dL_law_270 ?_
  refine lv_topi (fun x5 e5 => ?_)
  obtain rfl : x5 = 3 := e5.trans (by decide)
  refine va_sld hx hb hX hbl hbA hS (vin (by decide) (by decide)) dL_law_271 ?_
  refine lv_topi (fun y6 e6 => ?_)
  obtain rfl : y6 = xs 3 := e6
  refine lv_aload_n hx hb dL_law_272 rfl (lv_at hl 3 rfl) ?_
  refine lv_iload_n hx hb dL_law_273 rfl (lv_at hl 0 rfl) ?_
  refine lv_iconst (v := 4) hx hb dL_law_274 (by decide) ?_
  refine lv_iadd hx hb dL_law_275 ?_
  refine lv_topi (fun x7 e7 => ?_)
  obtain rfl : x7 = 4 := e7.trans (by decide)
  refine va_sld hx hb hX hbl hbA hS (vin (by decide) (by decide)) dL_law_276 ?_
  refine lv_topi (fun y8 e8 => ?_)
  obtain rfl : y8 = xs 4 := e8
  refine mx_i (wr := [(qn, .inr (8, [.int 800, .int 0, .int 0, .int 0, .int 0, .int 0, .int 0, .ref (v 0), .ref (v 1), .int 0, .ref (v 2), .ref (v 3), .ref (v 4), .ref (v 5), .ref (v 6), .int 0, .ref (v 7), .int 0, .ref (v 8), .ref (v 9), .ref (v 10), .int 0, .int 0, .int 0, .int 0, .int 0, .int 0, .int 0, .int 0, .int 0, .ref (v 11), .ref (v 12), .ref (v 13), .ref (v 14), .int 0, .int 0, .int 0, .int 0, .int 0, .int 0, .int 0, .ref (v 15), .int 0, .ref (v 16), .ref (v 17), .int 0, .int 0, .ref (v 18), .ref (v 19), .ref (v 20), .ref (v 21), .int 0, .int 0])), ((v 2), .inl (cI, 6, .inl (fun _ => 0))), ((v 3), .inl (cI, 6, .inl (fun _ => 0))), ((v 4), .inl (cI, 6, .inl (fun _ => 0)))]) (va_runV (As := [.int (xs 1), .int (xs 2), .int (xs 3), .int (xs 4)]) (rest := []) ⟨hx, hb, hml, hown, hts⟩ (c_X7_meal l dC dI cI cZ cK tS aK aV qx (u 18) (u 23) (u 29) (u 31) (u 32) (u 33) (u 34) (u 13) (u 0) (u 1) (u 2) (u 3) (u 4) (u 5) (u 6) (u 7) (u 8) (u 9) (xs 1) (xs 2) (xs 3) (xs 4) H.size) (cwV 4 hts (gw_v (fun _ h9 => h9) wm_572 wm_573 wm_574 wm_2 wm_575) rfl rfl rfl (by decide +kernel) ⟨Nat.le_of_ble_eq_true rfl, Nat.le_of_ble_eq_true rfl⟩) (mx_preV (C := RX7) (T := TX7) (N := 10) (ci := 7) hKx hP hD hS hA [0, 1, 2, 3, 4] (by decide) rfl rfl rfl) rfl rfl hl.1 rfl (lv_room (Nat.le_of_ble_eq_true rfl)) dL_law_277 ⟨Nat.le_of_ble_eq_true rfl, Nat.le_of_ble_eq_true rfl⟩) hP hD hS hA [0, 1, 2, 3, 4] [5, 6, 7, 8] rfl rfl (by decide) (by decide) (fun r9 u9 H locs hq9 hP hD hS => ?_)
  replace hP : va_P (dC, dI) vwCl [(qn, .inr (8, [.int 800, .int 0, .int 0, .int 0, .int 0, .int 0, .int 0, .ref (v 0), .ref (v 1), .int 0, .ref (v 2), .ref (v 3), .ref (v 4), .ref (v 5), .ref (v 6), .int 0, .ref (v 7), .int 0, .ref (v 8), .ref (v 9), .ref (v 10), .int 0, .int 0, .int 0, .int 0, .int 0, .int 0, .int 0, .int 0, .int 0, .ref (v 11), .ref (v 12), .ref (v 13), .ref (v 14), .int 0, .int 0, .int 0, .int 0, .int 0, .int 0, .int 0, .ref (v 15), .int 0, .ref (v 16), .ref (v 17), .int 0, .int 0, .ref (v 18), .ref (v 19), .ref (v 20), .ref (v 21), .int 0, .int 0])), ((v 2), .inl (cI, 6, .inl (fun _ => 0))), ((v 3), .inl (cI, 6, .inl (fun _ => 0))), ((v 4), .inl (cI, 6, .inl (fun _ => 0)))] H := hP
  replace hD : va_D (fun q : Nat => s.heap.size ≤ q) [(qn, .inr (8, [.int 800, .int 0, .int 0, .int 0, .int 0, .int 0, .int 0, .ref (v 0), .ref (v 1), .int 0, .ref (v 2), .ref (v 3), .ref (v 4), .ref (v 5), .ref (v 6), .int 0, .ref (v 7), .int 0, .ref (v 8), .ref (v 9), .ref (v 10), .int 0, .int 0, .int 0, .int 0, .int 0, .int 0, .int 0, .int 0, .int 0, .ref (v 11), .ref (v 12), .ref (v 13), .ref (v 14), .int 0, .int 0, .int 0, .int 0, .int 0, .int 0, .int 0, .ref (v 15), .int 0, .ref (v 16), .ref (v 17), .int 0, .int 0, .ref (v 18), .ref (v 19), .ref (v 20), .ref (v 21), .int 0, .int 0])), ((v 2), .inl (cI, 6, .inl (fun _ => 0))), ((v 3), .inl (cI, 6, .inl (fun _ => 0))), ((v 4), .inl (cI, 6, .inl (fun _ => 0)))] := hD
  rcases hq9 with ⟨rfl, hf9⟩ | ⟨rfl, hf9⟩ | ⟨rfl, hf9⟩
  · have hf9 : 0 ≤ (xs 1).toInt ∧ (xs 1).toInt ≤ 5 ∧ 1 ≤ (xs 2).toInt ∧ (xs 2).toInt ≤ 4 ∧ 0 ≤ (xs 3).toInt ∧ (xs 3).toInt ≤ 60 ∧ 1 ≤ (xs 4).toInt ∧ (xs 4).toInt ≤ 100 := hf9
    refine lv_aload_n hx hb dL_law_280 rfl (lv_at hl 1 rfl) ?_
    refine lv_aload_n hx hb dL_law_281 rfl (lv_at hl 3 rfl) ?_
    refine lv_iload_n hx hb dL_law_282 rfl (lv_at hl 0 rfl) ?_
    refine lv_iconst (v := 1) hx hb dL_law_283 (by decide) ?_
    refine lv_iadd hx hb dL_law_284 ?_
    refine lv_topi (fun x10 e10 => ?_)
    obtain rfl : x10 = 1 := e10.trans (by decide)
    refine va_sld hx hb hX hbl hbA hS (vin (by decide) (by decide)) dL_law_285 ?_
    refine lv_topi (fun y11 e11 => ?_)
    obtain rfl : y11 = xs 1 := e11
    refine lv_aload_n hx hb dL_law_286 rfl (lv_at hl 3 rfl) ?_
    refine lv_iload_n hx hb dL_law_287 rfl (lv_at hl 0 rfl) ?_
    refine lv_iconst (v := 2) hx hb dL_law_288 (by decide) ?_
    refine lv_iadd hx hb dL_law_289 ?_
    refine lv_topi (fun x12 e12 => ?_)
    obtain rfl : x12 = 2 := e12.trans (by decide)
    refine va_sld hx hb hX hbl hbA hS (vin (by decide) (by decide)) dL_law_290 ?_
    refine lv_topi (fun y13 e13 => ?_)
    obtain rfl : y13 = xs 2 := e13
    refine lv_aload_n hx hb dL_law_291 rfl (lv_at hl 3 rfl) ?_
    refine lv_iload_n hx hb dL_law_292 rfl (lv_at hl 0 rfl) ?_
    refine lv_iconst (v := 3) hx hb dL_law_293 (by decide) ?_
    refine lv_iadd hx hb dL_law_294 ?_
    refine lv_topi (fun x14 e14 => ?_)
    obtain rfl : x14 = 3 := e14.trans (by decide)
    refine va_sld hx hb hX hbl hbA hS (vin (by decide) (by decide)) dL_law_295 ?_
    refine lv_topi (fun y15 e15 => ?_)
    obtain rfl : y15 = xs 3 := e15
    refine lv_aload_n hx hb dL_law_296 rfl (lv_at hl 3 rfl) ?_
    refine lv_iload_n hx hb dL_law_297 rfl (lv_at hl 0 rfl) ?_
    refine lv_iconst (v := 4) hx hb dL_law_298 (by decide) ?_
    refine lv_iadd hx hb dL_law_299 ?_
    refine lv_topi (fun x16 e16 => ?_)
    obtain rfl : x16 = 4 := e16.trans (by decide)
    refine va_sld hx hb hX hbl hbA hS (vin (by decide) (by decide)) dL_law_300 ?_
    refine lv_topi (fun y17 e17 => ?_)
    obtain rfl : y17 = xs 4 := e17
    refine mx_i (wr := []) (va_runV (As := [.int (xs 1), .int (xs 2), .int (xs 3), .int (xs 4)]) (rest := [.int 1]) ⟨hx, hb, hml, hown, hts⟩ (c_X8_meal l dC dI cI cZ cK tS aK aV qn (v 0) (v 1) (v 2) (v 3) (v 4) (v 5) (v 6) (v 7) (v 8) (v 9) (v 10) (v 11) (v 12) (v 13) (v 14) (v 15) (v 16) (v 17) (v 18) (v 19) (v 20) (v 21) (xs 1) (xs 2) (xs 3) (xs 4) H.size) (cwV 4 hts (gw_v (fun _ h9 => h9) wm_576 wm_577 wm_578 wm_385 wm_579) rfl rfl rfl (by decide +kernel) ⟨Nat.le_of_ble_eq_true rfl, Nat.le_of_ble_eq_true rfl⟩) (mx_preV (C := RX8) (T := TX8) (N := 53) (ci := 8) hKx hP hD hS hA [0, 1, 2, 3] (by decide) rfl rfl rfl) rfl rfl hl.1 rfl (lv_room (Nat.le_of_ble_eq_true rfl)) dL_law_301 ⟨Nat.le_of_ble_eq_true rfl, Nat.le_of_ble_eq_true rfl⟩) hP hD hS hA [0, 1, 2, 3] [] rfl rfl (by decide) (by decide) (fun r18 u18 H locs hq18 hP hD hS => ?_)
    replace hP : va_P (dC, dI) vwCl [] H := hP
    replace hD : va_D (fun q : Nat => s.heap.size ≤ q) [] := hD
    rcases hq18 with ⟨rfl, hf18⟩ | ⟨rfl, hf18⟩ | ⟨rfl, hf18⟩
    · have hf18 : 0 ≤ (xs 1).toInt ∧ (xs 1).toInt ≤ 5 ∧ 1 ≤ (xs 2).toInt ∧ (xs 2).toInt ≤ 4 ∧ 0 ≤ (xs 3).toInt ∧ (xs 3).toInt ≤ 60 ∧ 1 ≤ (xs 4).toInt ∧ (xs 4).toInt ≤ 100 := hf18
      refine lv_icmp_eq (tgt := 998) hx hb dL_law_304 (by decide) (fun c19 => ?_) (fun c19 => absurd c19 (by decide))
      refine lv_iinc (v := 5) (lv' := [(3, .int 5), (2, .ref qn), (1, .ref qx), (0, .ref b)]) hx hb dL_law_998 hl (k := 0) rfl (by decide) (by decide) rfl (fun ls hl => ?_)
      refine lv_goto (tgt := 18) hx hb dL_law_1001 (by decide) ?_
      refine lv_iload_n hx hb dL_law_18 rfl (lv_at hl 0 rfl) ?_
      refine lv_aload_n hx hb dL_law_19 rfl (lv_at hl 3 rfl) ?_
      refine va_slen hx hb hX hbl hbA hS dL_law_20 ?_
      refine lv_topi (fun x20 e20 => ?_)
      obtain rfl : x20 = 5 := e20.trans (by decide)
      refine lv_iconst (v := 5) hx hb dL_law_21 (by decide) ?_
      refine lv_isub hx hb dL_law_22 ?_
      refine lv_topi (fun x21 e21 => ?_)
      obtain rfl : x21 = 0 := e21.trans (by decide)
      refine lv_icmp_gt (tgt := 1004) hx hb dL_law_23 (by decide) (fun c22 => ?_) (fun c22 => absurd c22 (by decide))
      refine lv_iconst (v := 1) hx hb dL_law_1004 (by decide) ?_
      refine va_forget (fun q hq => hS.2.2 q hq) ?_
      refine W.widen (k := 600000) (n := 7302250) (Nat.le_of_ble_eq_true rfl) (Nat.le_of_ble_eq_true rfl) ?_
      exact lw_ret hx hb hr hlocks dL_law_1005
    · have hf18 : (xs 1).toInt < 0 ∨ 5 < (xs 1).toInt := hf18
      refine lv_icmp_eq (tgt := 998) hx hb dL_law_304 (by decide) (fun c23 => absurd c23 (by decide)) (fun c23 => ?_)
      refine lv_iconst (v := 0) hx hb dL_law_307 (by decide) ?_
      exfalso; omega
    · have hf18 : 0 ≤ (xs 1).toInt ∧ (xs 1).toInt ≤ 5 ∧ ((xs 2).toInt < 1 ∨ 4 < (xs 2).toInt ∨ (xs 3).toInt < 0 ∨ 60 < (xs 3).toInt ∨ (xs 4).toInt < 1 ∨ 100 < (xs 4).toInt) := hf18
      refine lv_icmp_eq (tgt := 998) hx hb dL_law_304 (by decide) (fun c24 => absurd c24 (by decide)) (fun c24 => ?_)
      refine lv_iconst (v := 0) hx hb dL_law_307 (by decide) ?_
      exfalso; omega
  · have hf9 : (xs 1).toInt < 0 ∨ 5 < (xs 1).toInt := hf9
    refine lv_aload_n hx hb dL_law_280 rfl (lv_at hl 1 rfl) ?_
    refine lv_aload_n hx hb dL_law_281 rfl (lv_at hl 3 rfl) ?_
    refine lv_iload_n hx hb dL_law_282 rfl (lv_at hl 0 rfl) ?_
    refine lv_iconst (v := 1) hx hb dL_law_283 (by decide) ?_
    refine lv_iadd hx hb dL_law_284 ?_
    refine lv_topi (fun x25 e25 => ?_)
    obtain rfl : x25 = 1 := e25.trans (by decide)
    refine va_sld hx hb hX hbl hbA hS (vin (by decide) (by decide)) dL_law_285 ?_
    refine lv_topi (fun y26 e26 => ?_)
    obtain rfl : y26 = xs 1 := e26
    refine lv_aload_n hx hb dL_law_286 rfl (lv_at hl 3 rfl) ?_
    refine lv_iload_n hx hb dL_law_287 rfl (lv_at hl 0 rfl) ?_
    refine lv_iconst (v := 2) hx hb dL_law_288 (by decide) ?_
    refine lv_iadd hx hb dL_law_289 ?_
    refine lv_topi (fun x27 e27 => ?_)
    obtain rfl : x27 = 2 := e27.trans (by decide)
    refine va_sld hx hb hX hbl hbA hS (vin (by decide) (by decide)) dL_law_290 ?_
    refine lv_topi (fun y28 e28 => ?_)
    obtain rfl : y28 = xs 2 := e28
    refine lv_aload_n hx hb dL_law_291 rfl (lv_at hl 3 rfl) ?_
    refine lv_iload_n hx hb dL_law_292 rfl (lv_at hl 0 rfl) ?_
    refine lv_iconst (v := 3) hx hb dL_law_293 (by decide) ?_
    refine lv_iadd hx hb dL_law_294 ?_
    refine lv_topi (fun x29 e29 => ?_)
    obtain rfl : x29 = 3 := e29.trans (by decide)
    refine va_sld hx hb hX hbl hbA hS (vin (by decide) (by decide)) dL_law_295 ?_
    refine lv_topi (fun y30 e30 => ?_)
    obtain rfl : y30 = xs 3 := e30
    refine lv_aload_n hx hb dL_law_296 rfl (lv_at hl 3 rfl) ?_
    refine lv_iload_n hx hb dL_law_297 rfl (lv_at hl 0 rfl) ?_
    refine lv_iconst (v := 4) hx hb dL_law_298 (by decide) ?_
    refine lv_iadd hx hb dL_law_299 ?_
    refine lv_topi (fun x31 e31 => ?_)
    obtain rfl : x31 = 4 := e31.trans (by decide)
    refine va_sld hx hb hX hbl hbA hS (vin (by decide) (by decide)) dL_law_300 ?_
    refine lv_topi (fun y32 e32 => ?_)
    obtain rfl : y32 = xs 4 := e32
    refine mx_i (wr := []) (va_runV (As := [.int (xs 1), .int (xs 2), .int (xs 3), .int (xs 4)]) (rest := [.int (-1)]) ⟨hx, hb, hml, hown, hts⟩ (c_X8_meal l dC dI cI cZ cK tS aK aV qn (v 0) (v 1) (v 2) (v 3) (v 4) (v 5) (v 6) (v 7) (v 8) (v 9) (v 10) (v 11) (v 12) (v 13) (v 14) (v 15) (v 16) (v 17) (v 18) (v 19) (v 20) (v 21) (xs 1) (xs 2) (xs 3) (xs 4) H.size) (cwV 4 hts (gw_v (fun _ h9 => h9) wm_576 wm_577 wm_578 wm_385 wm_579) rfl rfl rfl (by decide +kernel) ⟨Nat.le_of_ble_eq_true rfl, Nat.le_of_ble_eq_true rfl⟩) (mx_preV (C := RX8) (T := TX8) (N := 53) (ci := 8) hKx hP hD hS hA [0, 1, 2, 3] (by decide) rfl rfl rfl) rfl rfl hl.1 rfl (lv_room (Nat.le_of_ble_eq_true rfl)) dL_law_301 ⟨Nat.le_of_ble_eq_true rfl, Nat.le_of_ble_eq_true rfl⟩) hP hD hS hA [0, 1, 2, 3] [] rfl rfl (by decide) (by decide) (fun r33 u33 H locs hq33 hP hD hS => ?_)
    replace hP : va_P (dC, dI) vwCl [] H := hP
    replace hD : va_D (fun q : Nat => s.heap.size ≤ q) [] := hD
    rcases hq33 with ⟨rfl, hf33⟩ | ⟨rfl, hf33⟩ | ⟨rfl, hf33⟩
    · have hf33 : 0 ≤ (xs 1).toInt ∧ (xs 1).toInt ≤ 5 ∧ 1 ≤ (xs 2).toInt ∧ (xs 2).toInt ≤ 4 ∧ 0 ≤ (xs 3).toInt ∧ (xs 3).toInt ≤ 60 ∧ 1 ≤ (xs 4).toInt ∧ (xs 4).toInt ≤ 100 := hf33
      refine lv_icmp_eq (tgt := 998) hx hb dL_law_304 (by decide) (fun c34 => absurd c34 (by decide)) (fun c34 => ?_)
      refine lv_iconst (v := 0) hx hb dL_law_307 (by decide) ?_
      exfalso; omega
    · have hf33 : (xs 1).toInt < 0 ∨ 5 < (xs 1).toInt := hf33
      refine lv_icmp_eq (tgt := 998) hx hb dL_law_304 (by decide) (fun c35 => ?_) (fun c35 => absurd c35 (by decide))
      refine lv_iinc (v := 5) (lv' := [(3, .int 5), (2, .ref qn), (1, .ref qx), (0, .ref b)]) hx hb dL_law_998 hl (k := 0) rfl (by decide) (by decide) rfl (fun ls hl => ?_)
      refine lv_goto (tgt := 18) hx hb dL_law_1001 (by decide) ?_
      refine lv_iload_n hx hb dL_law_18 rfl (lv_at hl 0 rfl) ?_
      refine lv_aload_n hx hb dL_law_19 rfl (lv_at hl 3 rfl) ?_
      refine va_slen hx hb hX hbl hbA hS dL_law_20 ?_
      refine lv_topi (fun x36 e36 => ?_)
      obtain rfl : x36 = 5 := e36.trans (by decide)
      refine lv_iconst (v := 5) hx hb dL_law_21 (by decide) ?_
      refine lv_isub hx hb dL_law_22 ?_
      refine lv_topi (fun x37 e37 => ?_)
      obtain rfl : x37 = 0 := e37.trans (by decide)
      refine lv_icmp_gt (tgt := 1004) hx hb dL_law_23 (by decide) (fun c38 => ?_) (fun c38 => absurd c38 (by decide))
      refine lv_iconst (v := 1) hx hb dL_law_1004 (by decide) ?_
      refine va_forget (fun q hq => hS.2.2 q hq) ?_
      refine W.widen (k := 600000) (n := 7302250) (Nat.le_of_ble_eq_true rfl) (Nat.le_of_ble_eq_true rfl) ?_
      exact lw_ret hx hb hr hlocks dL_law_1005
    · have hf33 : 0 ≤ (xs 1).toInt ∧ (xs 1).toInt ≤ 5 ∧ ((xs 2).toInt < 1 ∨ 4 < (xs 2).toInt ∨ (xs 3).toInt < 0 ∨ 60 < (xs 3).toInt ∨ (xs 4).toInt < 1 ∨ 100 < (xs 4).toInt) := hf33
      refine lv_icmp_eq (tgt := 998) hx hb dL_law_304 (by decide) (fun c39 => absurd c39 (by decide)) (fun c39 => ?_)
      refine lv_iconst (v := 0) hx hb dL_law_307 (by decide) ?_
      exfalso; omega
  · have hf9 : 0 ≤ (xs 1).toInt ∧ (xs 1).toInt ≤ 5 ∧ ((xs 2).toInt < 1 ∨ 4 < (xs 2).toInt ∨ (xs 3).toInt < 0 ∨ 60 < (xs 3).toInt ∨ (xs 4).toInt < 1 ∨ 100 < (xs 4).toInt) := hf9
    refine lv_aload_n hx hb dL_law_280 rfl (lv_at hl 1 rfl) ?_
    refine lv_aload_n hx hb dL_law_281 rfl (lv_at hl 3 rfl) ?_
    refine lv_iload_n hx hb dL_law_282 rfl (lv_at hl 0 rfl) ?_
    refine lv_iconst (v := 1) hx hb dL_law_283 (by decide) ?_
    refine lv_iadd hx hb dL_law_284 ?_
    refine lv_topi (fun x40 e40 => ?_)
    obtain rfl : x40 = 1 := e40.trans (by decide)
    refine va_sld hx hb hX hbl hbA hS (vin (by decide) (by decide)) dL_law_285 ?_
    refine lv_topi (fun y41 e41 => ?_)
    obtain rfl : y41 = xs 1 := e41
    refine lv_aload_n hx hb dL_law_286 rfl (lv_at hl 3 rfl) ?_
    refine lv_iload_n hx hb dL_law_287 rfl (lv_at hl 0 rfl) ?_
    refine lv_iconst (v := 2) hx hb dL_law_288 (by decide) ?_
    refine lv_iadd hx hb dL_law_289 ?_
    refine lv_topi (fun x42 e42 => ?_)
    obtain rfl : x42 = 2 := e42.trans (by decide)
    refine va_sld hx hb hX hbl hbA hS (vin (by decide) (by decide)) dL_law_290 ?_
    refine lv_topi (fun y43 e43 => ?_)
    obtain rfl : y43 = xs 2 := e43
    refine lv_aload_n hx hb dL_law_291 rfl (lv_at hl 3 rfl) ?_
    refine lv_iload_n hx hb dL_law_292 rfl (lv_at hl 0 rfl) ?_
    refine lv_iconst (v := 3) hx hb dL_law_293 (by decide) ?_
    refine lv_iadd hx hb dL_law_294 ?_
    refine lv_topi (fun x44 e44 => ?_)
    obtain rfl : x44 = 3 := e44.trans (by decide)
    refine va_sld hx hb hX hbl hbA hS (vin (by decide) (by decide)) dL_law_295 ?_
    refine lv_topi (fun y45 e45 => ?_)
    obtain rfl : y45 = xs 3 := e45
    refine lv_aload_n hx hb dL_law_296 rfl (lv_at hl 3 rfl) ?_
    refine lv_iload_n hx hb dL_law_297 rfl (lv_at hl 0 rfl) ?_
    refine lv_iconst (v := 4) hx hb dL_law_298 (by decide) ?_
    refine lv_iadd hx hb dL_law_299 ?_
    refine lv_topi (fun x46 e46 => ?_)
    obtain rfl : x46 = 4 := e46.trans (by decide)
    refine va_sld hx hb hX hbl hbA hS (vin (by decide) (by decide)) dL_law_300 ?_
    refine lv_topi (fun y47 e47 => ?_)
    obtain rfl : y47 = xs 4 := e47
    refine mx_i (wr := []) (va_runV (As := [.int (xs 1), .int (xs 2), .int (xs 3), .int (xs 4)]) (rest := [.int (-2)]) ⟨hx, hb, hml, hown, hts⟩ (c_X8_meal l dC dI cI cZ cK tS aK aV qn (v 0) (v 1) (v 2) (v 3) (v 4) (v 5) (v 6) (v 7) (v 8) (v 9) (v 10) (v 11) (v 12) (v 13) (v 14) (v 15) (v 16) (v 17) (v 18) (v 19) (v 20) (v 21) (xs 1) (xs 2) (xs 3) (xs 4) H.size) (cwV 4 hts (gw_v (fun _ h9 => h9) wm_576 wm_577 wm_578 wm_385 wm_579) rfl rfl rfl (by decide +kernel) ⟨Nat.le_of_ble_eq_true rfl, Nat.le_of_ble_eq_true rfl⟩) (mx_preV (C := RX8) (T := TX8) (N := 53) (ci := 8) hKx hP hD hS hA [0, 1, 2, 3] (by decide) rfl rfl rfl) rfl rfl hl.1 rfl (lv_room (Nat.le_of_ble_eq_true rfl)) dL_law_301 ⟨Nat.le_of_ble_eq_true rfl, Nat.le_of_ble_eq_true rfl⟩) hP hD hS hA [0, 1, 2, 3] [] rfl rfl (by decide) (by decide) (fun r48 u48 H locs hq48 hP hD hS => ?_)
    replace hP : va_P (dC, dI) vwCl [] H := hP
    replace hD : va_D (fun q : Nat => s.heap.size ≤ q) [] := hD
    rcases hq48 with ⟨rfl, hf48⟩ | ⟨rfl, hf48⟩ | ⟨rfl, hf48⟩
    · have hf48 : 0 ≤ (xs 1).toInt ∧ (xs 1).toInt ≤ 5 ∧ 1 ≤ (xs 2).toInt ∧ (xs 2).toInt ≤ 4 ∧ 0 ≤ (xs 3).toInt ∧ (xs 3).toInt ≤ 60 ∧ 1 ≤ (xs 4).toInt ∧ (xs 4).toInt ≤ 100 := hf48
      refine lv_icmp_eq (tgt := 998) hx hb dL_law_304 (by decide) (fun c49 => absurd c49 (by decide)) (fun c49 => ?_)
      refine lv_iconst (v := 0) hx hb dL_law_307 (by decide) ?_
      exfalso; omega
    · have hf48 : (xs 1).toInt < 0 ∨ 5 < (xs 1).toInt := hf48
      refine lv_icmp_eq (tgt := 998) hx hb dL_law_304 (by decide) (fun c50 => absurd c50 (by decide)) (fun c50 => ?_)
      refine lv_iconst (v := 0) hx hb dL_law_307 (by decide) ?_
      exfalso; omega
    · have hf48 : 0 ≤ (xs 1).toInt ∧ (xs 1).toInt ≤ 5 ∧ ((xs 2).toInt < 1 ∨ 4 < (xs 2).toInt ∨ (xs 3).toInt < 0 ∨ 60 < (xs 3).toInt ∨ (xs 4).toInt < 1 ∨ 100 < (xs 4).toInt) := hf48
      refine lv_icmp_eq (tgt := 998) hx hb dL_law_304 (by decide) (fun c51 => ?_) (fun c51 => absurd c51 (by decide))
      refine lv_iinc (v := 5) (lv' := [(3, .int 5), (2, .ref qn), (1, .ref qx), (0, .ref b)]) hx hb dL_law_998 hl (k := 0) rfl (by decide) (by decide) rfl (fun ls hl => ?_)
      refine lv_goto (tgt := 18) hx hb dL_law_1001 (by decide) ?_
      refine lv_iload_n hx hb dL_law_18 rfl (lv_at hl 0 rfl) ?_
      refine lv_aload_n hx hb dL_law_19 rfl (lv_at hl 3 rfl) ?_
      refine va_slen hx hb hX hbl hbA hS dL_law_20 ?_
      refine lv_topi (fun x52 e52 => ?_)
      obtain rfl : x52 = 5 := e52.trans (by decide)
      refine lv_iconst (v := 5) hx hb dL_law_21 (by decide) ?_
      refine lv_isub hx hb dL_law_22 ?_
      refine lv_topi (fun x53 e53 => ?_)
      obtain rfl : x53 = 0 := e53.trans (by decide)
      refine lv_icmp_gt (tgt := 1004) hx hb dL_law_23 (by decide) (fun c54 => ?_) (fun c54 => absurd c54 (by decide))
      refine lv_iconst (v := 1) hx hb dL_law_1004 (by decide) ?_
      refine va_forget (fun q hq => hS.2.2 q hq) ?_
      refine W.widen (k := 600000) (n := 7302250) (Nat.le_of_ble_eq_true rfl) (Nat.le_of_ble_eq_true rfl) ?_
      exact lw_ret hx hb hr hlocks dL_law_1005
set_option maxHeartbeats 4000000 in
set_option maxRecDepth 100000 in
theorem lc_say {p : Program} {e : Env} {s : State} {m : MethodId} {below : List Frame} {meth : Method} {c : Code} (l : Launch) {b : Nat} {xs : Nat → Int32} (C0 : lw_At p s m meth c b 5 xs) (dC : Nat → ClassId) (dI : Nat → Nat → Nat) (cI cZ cK : ClassId) (tS aK aV : Nat) (hKx : kx dC dI cI cZ cK tS aK aV (fun q : Nat => s.heap.size ≤ q) s) (qx qn : Nat) (u v : Nat → Nat) (H : Heap) (locs : List Loc) (hP : va_P (dC, dI) vwCl [(qx, .inr (7, [.ref (u 0), .ref (u 9), .ref (u 13), .ref (u 18), .ref (u 23), .ref (u 29), .ref (u 31), .ref (u 32), .ref (u 33), .ref (u 34)])), ((u 0), .inr (0, [.ref (u 1), .ref (u 2), .ref (u 3), .int (-6), .int 0, .int 0, .ref (u 4), .ref (u 5), .ref (u 6), .int 0, .ref (u 7), .ref (u 8)])), ((u 1), .inl (cI, 5, .inl (upd (fun _ => 0) 0 800))), ((u 2), .inl (cI, 14, .inl (fun _ => 0))), ((u 3), .inl (cZ, 14, .inl (fun _ => 0))), ((u 4), .inl (cI, 6, .inl (fun _ => 0))), ((u 5), .inl (cI, 6, .inl (fun _ => 0))), ((u 6), .inl (cI, 6, .inl (fun _ => 0))), ((u 7), .inl (cI, 8, .inl (fun _ => 0))), ((u 8), .inl (cI, 8, .inl (fun _ => 0))), ((u 9), .inr (4, [.ref (u 10), .int 0, .ref (u 11), .ref (u 12), .int 0, .int 0])), ((u 10), .inl (cI, 60, .inl (fun _ => 0))), ((u 11), .inl (cI, 60, .inl (fun _ => 0))), ((u 12), .inl (cI, 60, .inl (fun _ => 0))), ((u 13), .inr (1, [.ref (u 0), .ref (u 9), .ref (u 14), .ref (u 15), .ref (u 16), .ref (u 17), .int 0, .int 0, .int 0, .int 0, .int 0, .int 0, .int 0, .int 0])), ((u 14), .inl (cI, 60, .inl (fun _ => 0))), ((u 15), .inl (cI, 60, .inl (fun _ => 0))), ((u 16), .inl (cI, 60, .inl (fun _ => 0))), ((u 17), .inl (cI, 61, .inl (fun _ => 0))), ((u 18), .inr (3, [.ref (u 0), .ref (u 19), .int 0, .ref (u 20), .ref (u 21), .ref (u 22)])), ((u 19), .inl (cI, 6, .inl (fun _ => 0))), ((u 20), .inl (cI, 6, .inl (fun _ => 0))), ((u 21), .inl (cI, 6, .inl (fun _ => 0))), ((u 22), .inl (cI, 5, .inl (fun _ => 0))), ((u 23), .inr (5, [.ref (u 0), .ref (u 9), .ref (u 13), .ref (u 24), .ref (u 25), .ref (u 26), .ref (u 27), .ref (u 28), .int 0, .int 0, .int 0])), ((u 24), .inl (cI, 61, .inl (fun _ => 0))), ((u 25), .inl (cI, 61, .inl (fun _ => 0))), ((u 26), .inl (cI, 60, .inl (fun _ => 0))), ((u 27), .inl (cI, 60, .inl (fun _ => 0))), ((u 28), .inl (cI, 21, .inl (fun _ => 0))), ((u 29), .inr (2, [.ref (u 0), .ref (u 9), .ref (u 13), .ref (u 30), .long 0, .long 0])), ((u 30), .inl (cI, 60, .inl (fun _ => 0))), ((u 31), .inr (6, [.ref (u 0), .int 0, .int 0, .int 0])), ((u 32), .inl (cK, 2, .inr (.inr (.inr (.inr (va_up (va_up (fun _ => none) 0 (some (u 35))) 1 (some (u 44)))))))), ((u 33), .inl (cZ, 2, .inl (fun _ => 0))), ((u 34), .inl (cI, 4, .inl (fun _ => 0))), ((u 35), .inr (0, [.ref (u 36), .ref (u 37), .ref (u 38), .int (-6), .int 0, .int 0, .ref (u 39), .ref (u 40), .ref (u 41), .int 0, .ref (u 42), .ref (u 43)])), ((u 36), .inl (cI, 5, .inl (upd (fun _ => 0) 0 800))), ((u 37), .inl (cI, 14, .inl (fun _ => 0))), ((u 38), .inl (cZ, 14, .inl (fun _ => 0))), ((u 39), .inl (cI, 6, .inl (fun _ => 0))), ((u 40), .inl (cI, 6, .inl (fun _ => 0))), ((u 41), .inl (cI, 6, .inl (fun _ => 0))), ((u 42), .inl (cI, 8, .inl (fun _ => 0))), ((u 43), .inl (cI, 8, .inl (fun _ => 0))), ((u 44), .inr (0, [.ref (u 45), .ref (u 46), .ref (u 47), .int (-6), .int 0, .int 0, .ref (u 48), .ref (u 49), .ref (u 50), .int 0, .ref (u 51), .ref (u 52)])), ((u 45), .inl (cI, 5, .inl (upd (fun _ => 0) 0 800))), ((u 46), .inl (cI, 14, .inl (fun _ => 0))), ((u 47), .inl (cZ, 14, .inl (fun _ => 0))), ((u 48), .inl (cI, 6, .inl (fun _ => 0))), ((u 49), .inl (cI, 6, .inl (fun _ => 0))), ((u 50), .inl (cI, 6, .inl (fun _ => 0))), ((u 51), .inl (cI, 8, .inl (fun _ => 0))), ((u 52), .inl (cI, 8, .inl (fun _ => 0))), (qn, .inr (8, [.int 800, .int 0, .int 0, .int 0, .int 0, .int 0, .int 0, .ref (v 0), .ref (v 1), .int 0, .ref (v 2), .ref (v 3), .ref (v 4), .ref (v 5), .ref (v 6), .int 0, .ref (v 7), .int 0, .ref (v 8), .ref (v 9), .ref (v 10), .int 0, .int 0, .int 0, .int 0, .int 0, .int 0, .int 0, .int 0, .int 0, .ref (v 11), .ref (v 12), .ref (v 13), .ref (v 14), .int 0, .int 0, .int 0, .int 0, .int 0, .int 0, .int 0, .ref (v 15), .int 0, .ref (v 16), .ref (v 17), .int 0, .int 0, .ref (v 18), .ref (v 19), .ref (v 20), .ref (v 21), .int 0, .int 0])), ((v 0), .inl (cI, 14, .inl (fun _ => 0))), ((v 1), .inl (cI, 14, .inl (fun _ => 0))), ((v 2), .inl (cI, 6, .inl (fun _ => 0))), ((v 3), .inl (cI, 6, .inl (fun _ => 0))), ((v 4), .inl (cI, 6, .inl (fun _ => 0))), ((v 5), .inl (cI, 8, .inl (fun _ => 0))), ((v 6), .inl (cI, 8, .inl (fun _ => 0))), ((v 7), .inl (cI, 60, .inl (fun _ => 0))), ((v 8), .inl (cI, 60, .inl (fun _ => 0))), ((v 9), .inl (cI, 60, .inl (fun _ => 0))), ((v 10), .inl (cI, 60, .inl (fun _ => 0))), ((v 11), .inl (cI, 60, .inl (fun _ => 0))), ((v 12), .inl (cI, 60, .inl (fun _ => 0))), ((v 13), .inl (cI, 14, .inl (fun _ => 0))), ((v 14), .inl (cI, 61, .inl (fun _ => 0))), ((v 15), .inl (cI, 6, .inl (fun _ => 0))), ((v 16), .inl (cI, 6, .inl (fun _ => 0))), ((v 17), .inl (cI, 28, .inl (fun _ => 0))), ((v 18), .inl (cI, 1260, .inl (fun _ => 0))), ((v 19), .inl (cI, 4, .inl (fun _ => 0))), ((v 20), .inl (cI, 160, .inl (fun _ => 0))), ((v 21), .inl (cZ, 2, .inl (fun _ => 0)))] H) (hD : va_D (fun q : Nat => s.heap.size ≤ q) [(qx, .inr (7, [.ref (u 0), .ref (u 9), .ref (u 13), .ref (u 18), .ref (u 23), .ref (u 29), .ref (u 31), .ref (u 32), .ref (u 33), .ref (u 34)])), ((u 0), .inr (0, [.ref (u 1), .ref (u 2), .ref (u 3), .int (-6), .int 0, .int 0, .ref (u 4), .ref (u 5), .ref (u 6), .int 0, .ref (u 7), .ref (u 8)])), ((u 1), .inl (cI, 5, .inl (upd (fun _ => 0) 0 800))), ((u 2), .inl (cI, 14, .inl (fun _ => 0))), ((u 3), .inl (cZ, 14, .inl (fun _ => 0))), ((u 4), .inl (cI, 6, .inl (fun _ => 0))), ((u 5), .inl (cI, 6, .inl (fun _ => 0))), ((u 6), .inl (cI, 6, .inl (fun _ => 0))), ((u 7), .inl (cI, 8, .inl (fun _ => 0))), ((u 8), .inl (cI, 8, .inl (fun _ => 0))), ((u 9), .inr (4, [.ref (u 10), .int 0, .ref (u 11), .ref (u 12), .int 0, .int 0])), ((u 10), .inl (cI, 60, .inl (fun _ => 0))), ((u 11), .inl (cI, 60, .inl (fun _ => 0))), ((u 12), .inl (cI, 60, .inl (fun _ => 0))), ((u 13), .inr (1, [.ref (u 0), .ref (u 9), .ref (u 14), .ref (u 15), .ref (u 16), .ref (u 17), .int 0, .int 0, .int 0, .int 0, .int 0, .int 0, .int 0, .int 0])), ((u 14), .inl (cI, 60, .inl (fun _ => 0))), ((u 15), .inl (cI, 60, .inl (fun _ => 0))), ((u 16), .inl (cI, 60, .inl (fun _ => 0))), ((u 17), .inl (cI, 61, .inl (fun _ => 0))), ((u 18), .inr (3, [.ref (u 0), .ref (u 19), .int 0, .ref (u 20), .ref (u 21), .ref (u 22)])), ((u 19), .inl (cI, 6, .inl (fun _ => 0))), ((u 20), .inl (cI, 6, .inl (fun _ => 0))), ((u 21), .inl (cI, 6, .inl (fun _ => 0))), ((u 22), .inl (cI, 5, .inl (fun _ => 0))), ((u 23), .inr (5, [.ref (u 0), .ref (u 9), .ref (u 13), .ref (u 24), .ref (u 25), .ref (u 26), .ref (u 27), .ref (u 28), .int 0, .int 0, .int 0])), ((u 24), .inl (cI, 61, .inl (fun _ => 0))), ((u 25), .inl (cI, 61, .inl (fun _ => 0))), ((u 26), .inl (cI, 60, .inl (fun _ => 0))), ((u 27), .inl (cI, 60, .inl (fun _ => 0))), ((u 28), .inl (cI, 21, .inl (fun _ => 0))), ((u 29), .inr (2, [.ref (u 0), .ref (u 9), .ref (u 13), .ref (u 30), .long 0, .long 0])), ((u 30), .inl (cI, 60, .inl (fun _ => 0))), ((u 31), .inr (6, [.ref (u 0), .int 0, .int 0, .int 0])), ((u 32), .inl (cK, 2, .inr (.inr (.inr (.inr (va_up (va_up (fun _ => none) 0 (some (u 35))) 1 (some (u 44)))))))), ((u 33), .inl (cZ, 2, .inl (fun _ => 0))), ((u 34), .inl (cI, 4, .inl (fun _ => 0))), ((u 35), .inr (0, [.ref (u 36), .ref (u 37), .ref (u 38), .int (-6), .int 0, .int 0, .ref (u 39), .ref (u 40), .ref (u 41), .int 0, .ref (u 42), .ref (u 43)])), ((u 36), .inl (cI, 5, .inl (upd (fun _ => 0) 0 800))), ((u 37), .inl (cI, 14, .inl (fun _ => 0))), ((u 38), .inl (cZ, 14, .inl (fun _ => 0))), ((u 39), .inl (cI, 6, .inl (fun _ => 0))), ((u 40), .inl (cI, 6, .inl (fun _ => 0))), ((u 41), .inl (cI, 6, .inl (fun _ => 0))), ((u 42), .inl (cI, 8, .inl (fun _ => 0))), ((u 43), .inl (cI, 8, .inl (fun _ => 0))), ((u 44), .inr (0, [.ref (u 45), .ref (u 46), .ref (u 47), .int (-6), .int 0, .int 0, .ref (u 48), .ref (u 49), .ref (u 50), .int 0, .ref (u 51), .ref (u 52)])), ((u 45), .inl (cI, 5, .inl (upd (fun _ => 0) 0 800))), ((u 46), .inl (cI, 14, .inl (fun _ => 0))), ((u 47), .inl (cZ, 14, .inl (fun _ => 0))), ((u 48), .inl (cI, 6, .inl (fun _ => 0))), ((u 49), .inl (cI, 6, .inl (fun _ => 0))), ((u 50), .inl (cI, 6, .inl (fun _ => 0))), ((u 51), .inl (cI, 8, .inl (fun _ => 0))), ((u 52), .inl (cI, 8, .inl (fun _ => 0))), (qn, .inr (8, [.int 800, .int 0, .int 0, .int 0, .int 0, .int 0, .int 0, .ref (v 0), .ref (v 1), .int 0, .ref (v 2), .ref (v 3), .ref (v 4), .ref (v 5), .ref (v 6), .int 0, .ref (v 7), .int 0, .ref (v 8), .ref (v 9), .ref (v 10), .int 0, .int 0, .int 0, .int 0, .int 0, .int 0, .int 0, .int 0, .int 0, .ref (v 11), .ref (v 12), .ref (v 13), .ref (v 14), .int 0, .int 0, .int 0, .int 0, .int 0, .int 0, .int 0, .ref (v 15), .int 0, .ref (v 16), .ref (v 17), .int 0, .int 0, .ref (v 18), .ref (v 19), .ref (v 20), .ref (v 21), .int 0, .int 0])), ((v 0), .inl (cI, 14, .inl (fun _ => 0))), ((v 1), .inl (cI, 14, .inl (fun _ => 0))), ((v 2), .inl (cI, 6, .inl (fun _ => 0))), ((v 3), .inl (cI, 6, .inl (fun _ => 0))), ((v 4), .inl (cI, 6, .inl (fun _ => 0))), ((v 5), .inl (cI, 8, .inl (fun _ => 0))), ((v 6), .inl (cI, 8, .inl (fun _ => 0))), ((v 7), .inl (cI, 60, .inl (fun _ => 0))), ((v 8), .inl (cI, 60, .inl (fun _ => 0))), ((v 9), .inl (cI, 60, .inl (fun _ => 0))), ((v 10), .inl (cI, 60, .inl (fun _ => 0))), ((v 11), .inl (cI, 60, .inl (fun _ => 0))), ((v 12), .inl (cI, 60, .inl (fun _ => 0))), ((v 13), .inl (cI, 14, .inl (fun _ => 0))), ((v 14), .inl (cI, 61, .inl (fun _ => 0))), ((v 15), .inl (cI, 6, .inl (fun _ => 0))), ((v 16), .inl (cI, 6, .inl (fun _ => 0))), ((v 17), .inl (cI, 28, .inl (fun _ => 0))), ((v 18), .inl (cI, 1260, .inl (fun _ => 0))), ((v 19), .inl (cI, 4, .inl (fun _ => 0))), ((v 20), .inl (cI, 160, .inl (fun _ => 0))), ((v 21), .inl (cZ, 2, .inl (fun _ => 0)))]) (hS : va_S (fun q : Nat => s.heap.size ≤ q) s.heap H locs) (ls : Array Slot) (hl : lv_has ls 4 [(3, .int 0), (2, .ref qn), (1, .ref qx), (0, .ref b)]) : W p l e room_1 s m #[Value.ref b] below meth c H locs 77 3085 (lw_Z below #[Value.ref b] s) (F0 m 309 ls []) := by
  obtain ⟨hx, hb, hr, hml, hown, hts, hX, hbl, hlocks, hgv⟩ := C0
  have hts := fun w h => hts w (wsL_law_in w h)
  have hown : s.vm.findClass RL = some m.cls := hown
  have hA : ∀ q : Nat, s.heap.size ≤ q → (fun q : Nat => s.heap.size ≤ q) q := fun _ h => h
  have hbA : ¬ (fun q : Nat => s.heap.size ≤ q) b := Nat.not_le.mpr hbl
  have hK := hKx.1
  replace hP := mx_subP (wc := [(qx, .inr (7, [.ref (u 0), .ref (u 9), .ref (u 13), .ref (u 18), .ref (u 23), .ref (u 29), .ref (u 31), .ref (u 32), .ref (u 33), .ref (u 34)])), ((u 9), .inr (4, [.ref (u 10), .int 0, .ref (u 11), .ref (u 12), .int 0, .int 0])), ((u 10), .inl (cI, 60, .inl (fun _ => 0))), (qn, .inr (8, [.int 800, .int 0, .int 0, .int 0, .int 0, .int 0, .int 0, .ref (v 0), .ref (v 1), .int 0, .ref (v 2), .ref (v 3), .ref (v 4), .ref (v 5), .ref (v 6), .int 0, .ref (v 7), .int 0, .ref (v 8), .ref (v 9), .ref (v 10), .int 0, .int 0, .int 0, .int 0, .int 0, .int 0, .int 0, .int 0, .int 0, .ref (v 11), .ref (v 12), .ref (v 13), .ref (v 14), .int 0, .int 0, .int 0, .int 0, .int 0, .int 0, .int 0, .ref (v 15), .int 0, .ref (v 16), .ref (v 17), .int 0, .int 0, .ref (v 18), .ref (v 19), .ref (v 20), .ref (v 21), .int 0, .int 0])), ((v 7), .inl (cI, 60, .inl (fun _ => 0)))]) hP [0, 10, 11, 54, 62] rfl
  replace hD := hD.sub (ws' := [(qx, .inr (7, [.ref (u 0), .ref (u 9), .ref (u 13), .ref (u 18), .ref (u 23), .ref (u 29), .ref (u 31), .ref (u 32), .ref (u 33), .ref (u 34)])), ((u 9), .inr (4, [.ref (u 10), .int 0, .ref (u 11), .ref (u 12), .int 0, .int 0])), ((u 10), .inl (cI, 60, .inl (fun _ => 0))), (qn, .inr (8, [.int 800, .int 0, .int 0, .int 0, .int 0, .int 0, .int 0, .ref (v 0), .ref (v 1), .int 0, .ref (v 2), .ref (v 3), .ref (v 4), .ref (v 5), .ref (v 6), .int 0, .ref (v 7), .int 0, .ref (v 8), .ref (v 9), .ref (v 10), .int 0, .int 0, .int 0, .int 0, .int 0, .int 0, .int 0, .int 0, .int 0, .ref (v 11), .ref (v 12), .ref (v 13), .ref (v 14), .int 0, .int 0, .int 0, .int 0, .int 0, .int 0, .int 0, .ref (v 15), .int 0, .ref (v 16), .ref (v 17), .int 0, .int 0, .ref (v 18), .ref (v 19), .ref (v 20), .ref (v 21), .int 0, .int 0])), ((v 7), .inl (cI, 60, .inl (fun _ => 0)))]) [0, 10, 11, 54, 62] (by decide) rfl
  refine lv_aload_n hx hb dL_law_309 rfl (lv_at hl 2 rfl) ?_
  refine lv_aload_n hx hb dL_law_310 rfl (lv_at hl 3 rfl) ?_
  refine lv_iload_n hx hb dL_law_311 rfl (lv_at hl 0 rfl) ?_
  refine lv_iconst (v := 1) hx hb dL_law_312 (by decide) ?_
  refine lv_iadd hx hb dL_law_313 ?_
  refine lv_topi (fun x1 e1 => ?_)
  obtain rfl : x1 = 1 := e1.trans (by decide)
  refine va_sld hx hb hX hbl hbA hS (vin (by decide) (by decide)) dL_law_314 ?_
  refine lv_topi (fun y2 e2 => ?_)
  obtain rfl : y2 = xs 1 := e2
  refine mx_i (wr := [(qn, .inr (8, [.int 800, .int 0, .int 0, .int 0, .int 0, .int 0, .int 0, .ref (v 0), .ref (v 1), .int 0, .ref (v 2), .ref (v 3), .ref (v 4), .ref (v 5), .ref (v 6), .int 0, .ref (v 7), .int 0, .ref (v 8), .ref (v 9), .ref (v 10), .int 0, .int 0, .int 0, .int 0, .int 0, .int 0, .int 0, .int 0, .int 0, .ref (v 11), .ref (v 12), .ref (v 13), .ref (v 14), .int 0, .int 0, .int 0, .int 0, .int 0, .int 0, .int 0, .ref (v 15), .int 0, .ref (v 16), .ref (v 17), .int 0, .int 0, .ref (v 18), .ref (v 19), .ref (v 20), .ref (v 21), .int 0, .int 0])), ((v 7), .inl (cI, 60, .inl (fun _ => 0)))]) (va_runV (As := [.int (xs 1)]) (rest := []) ⟨hx, hb, hml, hown, hts⟩ (c_X7_say l dC dI cI cZ cK tS aK aV qx (u 18) (u 23) (u 29) (u 31) (u 32) (u 33) (u 34) (u 13) (u 0) (u 9) (u 10) (u 11) (u 12) (xs 1) H.size) (cwV 1 hts (gw_v (fun _ h9 => h9) wm_580 wm_581 wm_582 wm_2 wm_583) rfl rfl rfl (by decide +kernel) ⟨Nat.le_of_ble_eq_true rfl, Nat.le_of_ble_eq_true rfl⟩) (mx_preV (C := RX7) (T := TX7) (N := 10) (ci := 7) hKx hP hD hS hA [0, 1, 2] (by decide) rfl rfl rfl) rfl rfl hl.1 rfl (lv_room (Nat.le_of_ble_eq_true rfl)) dL_law_315 ⟨Nat.le_of_ble_eq_true rfl, Nat.le_of_ble_eq_true rfl⟩) hP hD hS hA [0, 1, 2] [3, 4] rfl rfl (by decide) (by decide) (fun r3 u3 H locs hq3 hP hD hS => ?_)
  replace hP : va_P (dC, dI) vwCl [(qn, .inr (8, [.int 800, .int 0, .int 0, .int 0, .int 0, .int 0, .int 0, .ref (v 0), .ref (v 1), .int 0, .ref (v 2), .ref (v 3), .ref (v 4), .ref (v 5), .ref (v 6), .int 0, .ref (v 7), .int 0, .ref (v 8), .ref (v 9), .ref (v 10), .int 0, .int 0, .int 0, .int 0, .int 0, .int 0, .int 0, .int 0, .int 0, .ref (v 11), .ref (v 12), .ref (v 13), .ref (v 14), .int 0, .int 0, .int 0, .int 0, .int 0, .int 0, .int 0, .ref (v 15), .int 0, .ref (v 16), .ref (v 17), .int 0, .int 0, .ref (v 18), .ref (v 19), .ref (v 20), .ref (v 21), .int 0, .int 0])), ((v 7), .inl (cI, 60, .inl (fun _ => 0)))] H := hP
  replace hD : va_D (fun q : Nat => s.heap.size ≤ q) [(qn, .inr (8, [.int 800, .int 0, .int 0, .int 0, .int 0, .int 0, .int 0, .ref (v 0), .ref (v 1), .int 0, .ref (v 2), .ref (v 3), .ref (v 4), .ref (v 5), .ref (v 6), .int 0, .ref (v 7), .int 0, .ref (v 8), .ref (v 9), .ref (v 10), .int 0, .int 0, .int 0, .int 0, .int 0, .int 0, .int 0, .int 0, .int 0, .ref (v 11), .ref (v 12), .ref (v 13), .ref (v 14), .int 0, .int 0, .int 0, .int 0, .int 0, .int 0, .int 0, .ref (v 15), .int 0, .ref (v 16), .ref (v 17), .int 0, .int 0, .ref (v 18), .ref (v 19), .ref (v 20), .ref (v 21), .int 0, .int 0])), ((v 7), .inl (cI, 60, .inl (fun _ => 0)))] := hD
  rcases hq3 with ⟨rfl, hf3⟩ | ⟨rfl, hf3⟩
  · have hf3 : 33 ≤ (xs 1).toInt ∧ (xs 1).toInt ≤ 126 := hf3
    refine lv_aload_n hx hb dL_law_318 rfl (lv_at hl 1 rfl) ?_
    refine lv_aload_n hx hb dL_law_319 rfl (lv_at hl 3 rfl) ?_
    refine lv_iload_n hx hb dL_law_320 rfl (lv_at hl 0 rfl) ?_
    refine lv_iconst (v := 1) hx hb dL_law_321 (by decide) ?_
    refine lv_iadd hx hb dL_law_322 ?_
    refine lv_topi (fun x4 e4 => ?_)
    obtain rfl : x4 = 1 := e4.trans (by decide)
    refine va_sld hx hb hX hbl hbA hS (vin (by decide) (by decide)) dL_law_323 ?_
    refine lv_topi (fun y5 e5 => ?_)
    obtain rfl : y5 = xs 1 := e5
    refine mx_i (wr := []) (va_runV (As := [.int (xs 1)]) (rest := [.int 1]) ⟨hx, hb, hml, hown, hts⟩ (c_X8_say l dC dI cI cZ cK tS aK aV qn (v 0) (v 1) (v 2) (v 3) (v 4) (v 5) (v 6) (v 7) (v 8) (v 9) (v 10) (v 11) (v 12) (v 13) (v 14) (v 15) (v 16) (v 17) (v 18) (v 19) (v 20) (v 21) (xs 1) H.size) (cwV 1 hts (gw_v (fun _ h9 => h9) wm_584 wm_585 wm_586 wm_385 wm_587) rfl rfl rfl (by decide +kernel) ⟨Nat.le_of_ble_eq_true rfl, Nat.le_of_ble_eq_true rfl⟩) (mx_preV (C := RX8) (T := TX8) (N := 53) (ci := 8) hKx hP hD hS hA [0, 1] (by decide) rfl rfl rfl) rfl rfl hl.1 rfl (lv_room (Nat.le_of_ble_eq_true rfl)) dL_law_324 ⟨Nat.le_of_ble_eq_true rfl, Nat.le_of_ble_eq_true rfl⟩) hP hD hS hA [0, 1] [] rfl rfl (by decide) (by decide) (fun r6 u6 H locs hq6 hP hD hS => ?_)
    replace hP : va_P (dC, dI) vwCl [] H := hP
    replace hD : va_D (fun q : Nat => s.heap.size ≤ q) [] := hD
    rcases hq6 with ⟨rfl, hf6⟩ | ⟨rfl, hf6⟩
    · have hf6 : 33 ≤ (xs 1).toInt ∧ (xs 1).toInt ≤ 126 := hf6
      refine lv_icmp_eq (tgt := 998) hx hb dL_law_327 (by decide) (fun c7 => ?_) (fun c7 => absurd c7 (by decide))
      refine lv_iinc (v := 5) (lv' := [(3, .int 5), (2, .ref qn), (1, .ref qx), (0, .ref b)]) hx hb dL_law_998 hl (k := 0) rfl (by decide) (by decide) rfl (fun ls hl => ?_)
      refine lv_goto (tgt := 18) hx hb dL_law_1001 (by decide) ?_
      refine lv_iload_n hx hb dL_law_18 rfl (lv_at hl 0 rfl) ?_
      refine lv_aload_n hx hb dL_law_19 rfl (lv_at hl 3 rfl) ?_
      refine va_slen hx hb hX hbl hbA hS dL_law_20 ?_
      refine lv_topi (fun x8 e8 => ?_)
      obtain rfl : x8 = 5 := e8.trans (by decide)
      refine lv_iconst (v := 5) hx hb dL_law_21 (by decide) ?_
      refine lv_isub hx hb dL_law_22 ?_
      refine lv_topi (fun x9 e9 => ?_)
      obtain rfl : x9 = 0 := e9.trans (by decide)
      refine lv_icmp_gt (tgt := 1004) hx hb dL_law_23 (by decide) (fun c10 => ?_) (fun c10 => absurd c10 (by decide))
      refine lv_iconst (v := 1) hx hb dL_law_1004 (by decide) ?_
      refine va_forget (fun q hq => hS.2.2 q hq) ?_
      refine W.widen (k := 600000) (n := 7302250) (Nat.le_of_ble_eq_true rfl) (Nat.le_of_ble_eq_true rfl) ?_
      exact lw_ret hx hb hr hlocks dL_law_1005
    · have hf6 : (xs 1).toInt < 33 ∨ 126 < (xs 1).toInt := hf6
      refine lv_icmp_eq (tgt := 998) hx hb dL_law_327 (by decide) (fun c11 => absurd c11 (by decide)) (fun c11 => ?_)
      refine lv_iconst (v := 0) hx hb dL_law_330 (by decide) ?_
      exfalso; omega
  · have hf3 : (xs 1).toInt < 33 ∨ 126 < (xs 1).toInt := hf3
    refine lv_aload_n hx hb dL_law_318 rfl (lv_at hl 1 rfl) ?_
    refine lv_aload_n hx hb dL_law_319 rfl (lv_at hl 3 rfl) ?_
    refine lv_iload_n hx hb dL_law_320 rfl (lv_at hl 0 rfl) ?_
    refine lv_iconst (v := 1) hx hb dL_law_321 (by decide) ?_
    refine lv_iadd hx hb dL_law_322 ?_
    refine lv_topi (fun x12 e12 => ?_)
    obtain rfl : x12 = 1 := e12.trans (by decide)
    refine va_sld hx hb hX hbl hbA hS (vin (by decide) (by decide)) dL_law_323 ?_
    refine lv_topi (fun y13 e13 => ?_)
    obtain rfl : y13 = xs 1 := e13
    refine mx_i (wr := []) (va_runV (As := [.int (xs 1)]) (rest := [.int (-2)]) ⟨hx, hb, hml, hown, hts⟩ (c_X8_say l dC dI cI cZ cK tS aK aV qn (v 0) (v 1) (v 2) (v 3) (v 4) (v 5) (v 6) (v 7) (v 8) (v 9) (v 10) (v 11) (v 12) (v 13) (v 14) (v 15) (v 16) (v 17) (v 18) (v 19) (v 20) (v 21) (xs 1) H.size) (cwV 1 hts (gw_v (fun _ h9 => h9) wm_584 wm_585 wm_586 wm_385 wm_587) rfl rfl rfl (by decide +kernel) ⟨Nat.le_of_ble_eq_true rfl, Nat.le_of_ble_eq_true rfl⟩) (mx_preV (C := RX8) (T := TX8) (N := 53) (ci := 8) hKx hP hD hS hA [0, 1] (by decide) rfl rfl rfl) rfl rfl hl.1 rfl (lv_room (Nat.le_of_ble_eq_true rfl)) dL_law_324 ⟨Nat.le_of_ble_eq_true rfl, Nat.le_of_ble_eq_true rfl⟩) hP hD hS hA [0, 1] [] rfl rfl (by decide) (by decide) (fun r14 u14 H locs hq14 hP hD hS => ?_)
    replace hP : va_P (dC, dI) vwCl [] H := hP
    replace hD : va_D (fun q : Nat => s.heap.size ≤ q) [] := hD
    rcases hq14 with ⟨rfl, hf14⟩ | ⟨rfl, hf14⟩
    · have hf14 : 33 ≤ (xs 1).toInt ∧ (xs 1).toInt ≤ 126 := hf14
      refine lv_icmp_eq (tgt := 998) hx hb dL_law_327 (by decide) (fun c15 => absurd c15 (by decide)) (fun c15 => ?_)
      refine lv_iconst (v := 0) hx hb dL_law_330 (by decide) ?_
      exfalso; omega
    · have hf14 : (xs 1).toInt < 33 ∨ 126 < (xs 1).toInt := hf14
      refine lv_icmp_eq (tgt := 998) hx hb dL_law_327 (by decide) (fun c16 => ?_) (fun c16 => absurd c16 (by decide))
      refine lv_iinc (v := 5) (lv' := [(3, .int 5), (2, .ref qn), (1, .ref qx), (0, .ref b)]) hx hb dL_law_998 hl (k := 0) rfl (by decide) (by decide) rfl (fun ls hl => ?_)
      refine lv_goto (tgt := 18) hx hb dL_law_1001 (by decide) ?_
      refine lv_iload_n hx hb dL_law_18 rfl (lv_at hl 0 rfl) ?_
      refine lv_aload_n hx hb dL_law_19 rfl (lv_at hl 3 rfl) ?_
      refine va_slen hx hb hX hbl hbA hS dL_law_20 ?_
      refine lv_topi (fun x17 e17 => ?_)
      obtain rfl : x17 = 5 := e17.trans (by decide)
      refine lv_iconst (v := 5) hx hb dL_law_21 (by decide) ?_
      refine lv_isub hx hb dL_law_22 ?_
      refine lv_topi (fun x18 e18 => ?_)
      obtain rfl : x18 = 0 := e18.trans (by decide)
      refine lv_icmp_gt (tgt := 1004) hx hb dL_law_23 (by decide) (fun c19 => ?_) (fun c19 => absurd c19 (by decide))
      refine lv_iconst (v := 1) hx hb dL_law_1004 (by decide) ?_
      refine va_forget (fun q hq => hS.2.2 q hq) ?_
      refine W.widen (k := 600000) (n := 7302250) (Nat.le_of_ble_eq_true rfl) (Nat.le_of_ble_eq_true rfl) ?_
      exact lw_ret hx hb hr hlocks dL_law_1005
set_option maxHeartbeats 4000000 in
set_option maxRecDepth 100000 in
theorem lc_wipe {p : Program} {e : Env} {s : State} {m : MethodId} {below : List Frame} {meth : Method} {c : Code} (l : Launch) {b : Nat} {xs : Nat → Int32} (C0 : lw_At p s m meth c b 5 xs) (dC : Nat → ClassId) (dI : Nat → Nat → Nat) (cI cZ cK : ClassId) (tS aK aV : Nat) (hKx : kx dC dI cI cZ cK tS aK aV (fun q : Nat => s.heap.size ≤ q) s) (qx qn : Nat) (u v : Nat → Nat) (H : Heap) (locs : List Loc) (hP : va_P (dC, dI) vwCl [(qx, .inr (7, [.ref (u 0), .ref (u 9), .ref (u 13), .ref (u 18), .ref (u 23), .ref (u 29), .ref (u 31), .ref (u 32), .ref (u 33), .ref (u 34)])), ((u 0), .inr (0, [.ref (u 1), .ref (u 2), .ref (u 3), .int (-6), .int 0, .int 0, .ref (u 4), .ref (u 5), .ref (u 6), .int 0, .ref (u 7), .ref (u 8)])), ((u 1), .inl (cI, 5, .inl (upd (fun _ => 0) 0 800))), ((u 2), .inl (cI, 14, .inl (fun _ => 0))), ((u 3), .inl (cZ, 14, .inl (fun _ => 0))), ((u 4), .inl (cI, 6, .inl (fun _ => 0))), ((u 5), .inl (cI, 6, .inl (fun _ => 0))), ((u 6), .inl (cI, 6, .inl (fun _ => 0))), ((u 7), .inl (cI, 8, .inl (fun _ => 0))), ((u 8), .inl (cI, 8, .inl (fun _ => 0))), ((u 9), .inr (4, [.ref (u 10), .int 0, .ref (u 11), .ref (u 12), .int 0, .int 0])), ((u 10), .inl (cI, 60, .inl (fun _ => 0))), ((u 11), .inl (cI, 60, .inl (fun _ => 0))), ((u 12), .inl (cI, 60, .inl (fun _ => 0))), ((u 13), .inr (1, [.ref (u 0), .ref (u 9), .ref (u 14), .ref (u 15), .ref (u 16), .ref (u 17), .int 0, .int 0, .int 0, .int 0, .int 0, .int 0, .int 0, .int 0])), ((u 14), .inl (cI, 60, .inl (fun _ => 0))), ((u 15), .inl (cI, 60, .inl (fun _ => 0))), ((u 16), .inl (cI, 60, .inl (fun _ => 0))), ((u 17), .inl (cI, 61, .inl (fun _ => 0))), ((u 18), .inr (3, [.ref (u 0), .ref (u 19), .int 0, .ref (u 20), .ref (u 21), .ref (u 22)])), ((u 19), .inl (cI, 6, .inl (fun _ => 0))), ((u 20), .inl (cI, 6, .inl (fun _ => 0))), ((u 21), .inl (cI, 6, .inl (fun _ => 0))), ((u 22), .inl (cI, 5, .inl (fun _ => 0))), ((u 23), .inr (5, [.ref (u 0), .ref (u 9), .ref (u 13), .ref (u 24), .ref (u 25), .ref (u 26), .ref (u 27), .ref (u 28), .int 0, .int 0, .int 0])), ((u 24), .inl (cI, 61, .inl (fun _ => 0))), ((u 25), .inl (cI, 61, .inl (fun _ => 0))), ((u 26), .inl (cI, 60, .inl (fun _ => 0))), ((u 27), .inl (cI, 60, .inl (fun _ => 0))), ((u 28), .inl (cI, 21, .inl (fun _ => 0))), ((u 29), .inr (2, [.ref (u 0), .ref (u 9), .ref (u 13), .ref (u 30), .long 0, .long 0])), ((u 30), .inl (cI, 60, .inl (fun _ => 0))), ((u 31), .inr (6, [.ref (u 0), .int 0, .int 0, .int 0])), ((u 32), .inl (cK, 2, .inr (.inr (.inr (.inr (va_up (va_up (fun _ => none) 0 (some (u 35))) 1 (some (u 44)))))))), ((u 33), .inl (cZ, 2, .inl (fun _ => 0))), ((u 34), .inl (cI, 4, .inl (fun _ => 0))), ((u 35), .inr (0, [.ref (u 36), .ref (u 37), .ref (u 38), .int (-6), .int 0, .int 0, .ref (u 39), .ref (u 40), .ref (u 41), .int 0, .ref (u 42), .ref (u 43)])), ((u 36), .inl (cI, 5, .inl (upd (fun _ => 0) 0 800))), ((u 37), .inl (cI, 14, .inl (fun _ => 0))), ((u 38), .inl (cZ, 14, .inl (fun _ => 0))), ((u 39), .inl (cI, 6, .inl (fun _ => 0))), ((u 40), .inl (cI, 6, .inl (fun _ => 0))), ((u 41), .inl (cI, 6, .inl (fun _ => 0))), ((u 42), .inl (cI, 8, .inl (fun _ => 0))), ((u 43), .inl (cI, 8, .inl (fun _ => 0))), ((u 44), .inr (0, [.ref (u 45), .ref (u 46), .ref (u 47), .int (-6), .int 0, .int 0, .ref (u 48), .ref (u 49), .ref (u 50), .int 0, .ref (u 51), .ref (u 52)])), ((u 45), .inl (cI, 5, .inl (upd (fun _ => 0) 0 800))), ((u 46), .inl (cI, 14, .inl (fun _ => 0))), ((u 47), .inl (cZ, 14, .inl (fun _ => 0))), ((u 48), .inl (cI, 6, .inl (fun _ => 0))), ((u 49), .inl (cI, 6, .inl (fun _ => 0))), ((u 50), .inl (cI, 6, .inl (fun _ => 0))), ((u 51), .inl (cI, 8, .inl (fun _ => 0))), ((u 52), .inl (cI, 8, .inl (fun _ => 0))), (qn, .inr (8, [.int 800, .int 0, .int 0, .int 0, .int 0, .int 0, .int 0, .ref (v 0), .ref (v 1), .int 0, .ref (v 2), .ref (v 3), .ref (v 4), .ref (v 5), .ref (v 6), .int 0, .ref (v 7), .int 0, .ref (v 8), .ref (v 9), .ref (v 10), .int 0, .int 0, .int 0, .int 0, .int 0, .int 0, .int 0, .int 0, .int 0, .ref (v 11), .ref (v 12), .ref (v 13), .ref (v 14), .int 0, .int 0, .int 0, .int 0, .int 0, .int 0, .int 0, .ref (v 15), .int 0, .ref (v 16), .ref (v 17), .int 0, .int 0, .ref (v 18), .ref (v 19), .ref (v 20), .ref (v 21), .int 0, .int 0])), ((v 0), .inl (cI, 14, .inl (fun _ => 0))), ((v 1), .inl (cI, 14, .inl (fun _ => 0))), ((v 2), .inl (cI, 6, .inl (fun _ => 0))), ((v 3), .inl (cI, 6, .inl (fun _ => 0))), ((v 4), .inl (cI, 6, .inl (fun _ => 0))), ((v 5), .inl (cI, 8, .inl (fun _ => 0))), ((v 6), .inl (cI, 8, .inl (fun _ => 0))), ((v 7), .inl (cI, 60, .inl (fun _ => 0))), ((v 8), .inl (cI, 60, .inl (fun _ => 0))), ((v 9), .inl (cI, 60, .inl (fun _ => 0))), ((v 10), .inl (cI, 60, .inl (fun _ => 0))), ((v 11), .inl (cI, 60, .inl (fun _ => 0))), ((v 12), .inl (cI, 60, .inl (fun _ => 0))), ((v 13), .inl (cI, 14, .inl (fun _ => 0))), ((v 14), .inl (cI, 61, .inl (fun _ => 0))), ((v 15), .inl (cI, 6, .inl (fun _ => 0))), ((v 16), .inl (cI, 6, .inl (fun _ => 0))), ((v 17), .inl (cI, 28, .inl (fun _ => 0))), ((v 18), .inl (cI, 1260, .inl (fun _ => 0))), ((v 19), .inl (cI, 4, .inl (fun _ => 0))), ((v 20), .inl (cI, 160, .inl (fun _ => 0))), ((v 21), .inl (cZ, 2, .inl (fun _ => 0)))] H) (hD : va_D (fun q : Nat => s.heap.size ≤ q) [(qx, .inr (7, [.ref (u 0), .ref (u 9), .ref (u 13), .ref (u 18), .ref (u 23), .ref (u 29), .ref (u 31), .ref (u 32), .ref (u 33), .ref (u 34)])), ((u 0), .inr (0, [.ref (u 1), .ref (u 2), .ref (u 3), .int (-6), .int 0, .int 0, .ref (u 4), .ref (u 5), .ref (u 6), .int 0, .ref (u 7), .ref (u 8)])), ((u 1), .inl (cI, 5, .inl (upd (fun _ => 0) 0 800))), ((u 2), .inl (cI, 14, .inl (fun _ => 0))), ((u 3), .inl (cZ, 14, .inl (fun _ => 0))), ((u 4), .inl (cI, 6, .inl (fun _ => 0))), ((u 5), .inl (cI, 6, .inl (fun _ => 0))), ((u 6), .inl (cI, 6, .inl (fun _ => 0))), ((u 7), .inl (cI, 8, .inl (fun _ => 0))), ((u 8), .inl (cI, 8, .inl (fun _ => 0))), ((u 9), .inr (4, [.ref (u 10), .int 0, .ref (u 11), .ref (u 12), .int 0, .int 0])), ((u 10), .inl (cI, 60, .inl (fun _ => 0))), ((u 11), .inl (cI, 60, .inl (fun _ => 0))), ((u 12), .inl (cI, 60, .inl (fun _ => 0))), ((u 13), .inr (1, [.ref (u 0), .ref (u 9), .ref (u 14), .ref (u 15), .ref (u 16), .ref (u 17), .int 0, .int 0, .int 0, .int 0, .int 0, .int 0, .int 0, .int 0])), ((u 14), .inl (cI, 60, .inl (fun _ => 0))), ((u 15), .inl (cI, 60, .inl (fun _ => 0))), ((u 16), .inl (cI, 60, .inl (fun _ => 0))), ((u 17), .inl (cI, 61, .inl (fun _ => 0))), ((u 18), .inr (3, [.ref (u 0), .ref (u 19), .int 0, .ref (u 20), .ref (u 21), .ref (u 22)])), ((u 19), .inl (cI, 6, .inl (fun _ => 0))), ((u 20), .inl (cI, 6, .inl (fun _ => 0))), ((u 21), .inl (cI, 6, .inl (fun _ => 0))), ((u 22), .inl (cI, 5, .inl (fun _ => 0))), ((u 23), .inr (5, [.ref (u 0), .ref (u 9), .ref (u 13), .ref (u 24), .ref (u 25), .ref (u 26), .ref (u 27), .ref (u 28), .int 0, .int 0, .int 0])), ((u 24), .inl (cI, 61, .inl (fun _ => 0))), ((u 25), .inl (cI, 61, .inl (fun _ => 0))), ((u 26), .inl (cI, 60, .inl (fun _ => 0))), ((u 27), .inl (cI, 60, .inl (fun _ => 0))), ((u 28), .inl (cI, 21, .inl (fun _ => 0))), ((u 29), .inr (2, [.ref (u 0), .ref (u 9), .ref (u 13), .ref (u 30), .long 0, .long 0])), ((u 30), .inl (cI, 60, .inl (fun _ => 0))), ((u 31), .inr (6, [.ref (u 0), .int 0, .int 0, .int 0])), ((u 32), .inl (cK, 2, .inr (.inr (.inr (.inr (va_up (va_up (fun _ => none) 0 (some (u 35))) 1 (some (u 44)))))))), ((u 33), .inl (cZ, 2, .inl (fun _ => 0))), ((u 34), .inl (cI, 4, .inl (fun _ => 0))), ((u 35), .inr (0, [.ref (u 36), .ref (u 37), .ref (u 38), .int (-6), .int 0, .int 0, .ref (u 39), .ref (u 40), .ref (u 41), .int 0, .ref (u 42), .ref (u 43)])), ((u 36), .inl (cI, 5, .inl (upd (fun _ => 0) 0 800))), ((u 37), .inl (cI, 14, .inl (fun _ => 0))), ((u 38), .inl (cZ, 14, .inl (fun _ => 0))), ((u 39), .inl (cI, 6, .inl (fun _ => 0))), ((u 40), .inl (cI, 6, .inl (fun _ => 0))), ((u 41), .inl (cI, 6, .inl (fun _ => 0))), ((u 42), .inl (cI, 8, .inl (fun _ => 0))), ((u 43), .inl (cI, 8, .inl (fun _ => 0))), ((u 44), .inr (0, [.ref (u 45), .ref (u 46), .ref (u 47), .int (-6), .int 0, .int 0, .ref (u 48), .ref (u 49), .ref (u 50), .int 0, .ref (u 51), .ref (u 52)])), ((u 45), .inl (cI, 5, .inl (upd (fun _ => 0) 0 800))), ((u 46), .inl (cI, 14, .inl (fun _ => 0))), ((u 47), .inl (cZ, 14, .inl (fun _ => 0))), ((u 48), .inl (cI, 6, .inl (fun _ => 0))), ((u 49), .inl (cI, 6, .inl (fun _ => 0))), ((u 50), .inl (cI, 6, .inl (fun _ => 0))), ((u 51), .inl (cI, 8, .inl (fun _ => 0))), ((u 52), .inl (cI, 8, .inl (fun _ => 0))), (qn, .inr (8, [.int 800, .int 0, .int 0, .int 0, .int 0, .int 0, .int 0, .ref (v 0), .ref (v 1), .int 0, .ref (v 2), .ref (v 3), .ref (v 4), .ref (v 5), .ref (v 6), .int 0, .ref (v 7), .int 0, .ref (v 8), .ref (v 9), .ref (v 10), .int 0, .int 0, .int 0, .int 0, .int 0, .int 0, .int 0, .int 0, .int 0, .ref (v 11), .ref (v 12), .ref (v 13), .ref (v 14), .int 0, .int 0, .int 0, .int 0, .int 0, .int 0, .int 0, .ref (v 15), .int 0, .ref (v 16), .ref (v 17), .int 0, .int 0, .ref (v 18), .ref (v 19), .ref (v 20), .ref (v 21), .int 0, .int 0])), ((v 0), .inl (cI, 14, .inl (fun _ => 0))), ((v 1), .inl (cI, 14, .inl (fun _ => 0))), ((v 2), .inl (cI, 6, .inl (fun _ => 0))), ((v 3), .inl (cI, 6, .inl (fun _ => 0))), ((v 4), .inl (cI, 6, .inl (fun _ => 0))), ((v 5), .inl (cI, 8, .inl (fun _ => 0))), ((v 6), .inl (cI, 8, .inl (fun _ => 0))), ((v 7), .inl (cI, 60, .inl (fun _ => 0))), ((v 8), .inl (cI, 60, .inl (fun _ => 0))), ((v 9), .inl (cI, 60, .inl (fun _ => 0))), ((v 10), .inl (cI, 60, .inl (fun _ => 0))), ((v 11), .inl (cI, 60, .inl (fun _ => 0))), ((v 12), .inl (cI, 60, .inl (fun _ => 0))), ((v 13), .inl (cI, 14, .inl (fun _ => 0))), ((v 14), .inl (cI, 61, .inl (fun _ => 0))), ((v 15), .inl (cI, 6, .inl (fun _ => 0))), ((v 16), .inl (cI, 6, .inl (fun _ => 0))), ((v 17), .inl (cI, 28, .inl (fun _ => 0))), ((v 18), .inl (cI, 1260, .inl (fun _ => 0))), ((v 19), .inl (cI, 4, .inl (fun _ => 0))), ((v 20), .inl (cI, 160, .inl (fun _ => 0))), ((v 21), .inl (cZ, 2, .inl (fun _ => 0)))]) (hS : va_S (fun q : Nat => s.heap.size ≤ q) s.heap H locs) (ls : Array Slot) (hl : lv_has ls 4 [(3, .int 0), (2, .ref qn), (1, .ref qx), (0, .ref b)]) : W p l e room_1 s m #[Value.ref b] below meth c H locs 77 3085 (lw_Z below #[Value.ref b] s) (F0 m 332 ls []) := by
  obtain ⟨hx, hb, hr, hml, hown, hts, hX, hbl, hlocks, hgv⟩ := C0
  have hts := fun w h => hts w (wsL_law_in w h)
  have hown : s.vm.findClass RL = some m.cls := hown
  have hA : ∀ q : Nat, s.heap.size ≤ q → (fun q : Nat => s.heap.size ≤ q) q := fun _ h => h
  have hbA : ¬ (fun q : Nat => s.heap.size ≤ q) b := Nat.not_le.mpr hbl
  have hK := hKx.1
  replace hP := mx_subP (wc := [(qx, .inr (7, [.ref (u 0), .ref (u 9), .ref (u 13), .ref (u 18), .ref (u 23), .ref (u 29), .ref (u 31), .ref (u 32), .ref (u 33), .ref (u 34)])), ((u 9), .inr (4, [.ref (u 10), .int 0, .ref (u 11), .ref (u 12), .int 0, .int 0])), (qn, .inr (8, [.int 800, .int 0, .int 0, .int 0, .int 0, .int 0, .int 0, .ref (v 0), .ref (v 1), .int 0, .ref (v 2), .ref (v 3), .ref (v 4), .ref (v 5), .ref (v 6), .int 0, .ref (v 7), .int 0, .ref (v 8), .ref (v 9), .ref (v 10), .int 0, .int 0, .int 0, .int 0, .int 0, .int 0, .int 0, .int 0, .int 0, .ref (v 11), .ref (v 12), .ref (v 13), .ref (v 14), .int 0, .int 0, .int 0, .int 0, .int 0, .int 0, .int 0, .ref (v 15), .int 0, .ref (v 16), .ref (v 17), .int 0, .int 0, .ref (v 18), .ref (v 19), .ref (v 20), .ref (v 21), .int 0, .int 0]))]) hP [0, 10, 54] rfl
  replace hD := hD.sub (ws' := [(qx, .inr (7, [.ref (u 0), .ref (u 9), .ref (u 13), .ref (u 18), .ref (u 23), .ref (u 29), .ref (u 31), .ref (u 32), .ref (u 33), .ref (u 34)])), ((u 9), .inr (4, [.ref (u 10), .int 0, .ref (u 11), .ref (u 12), .int 0, .int 0])), (qn, .inr (8, [.int 800, .int 0, .int 0, .int 0, .int 0, .int 0, .int 0, .ref (v 0), .ref (v 1), .int 0, .ref (v 2), .ref (v 3), .ref (v 4), .ref (v 5), .ref (v 6), .int 0, .ref (v 7), .int 0, .ref (v 8), .ref (v 9), .ref (v 10), .int 0, .int 0, .int 0, .int 0, .int 0, .int 0, .int 0, .int 0, .int 0, .ref (v 11), .ref (v 12), .ref (v 13), .ref (v 14), .int 0, .int 0, .int 0, .int 0, .int 0, .int 0, .int 0, .ref (v 15), .int 0, .ref (v 16), .ref (v 17), .int 0, .int 0, .ref (v 18), .ref (v 19), .ref (v 20), .ref (v 21), .int 0, .int 0]))]) [0, 10, 54] (by decide) rfl
  refine lv_aload_n hx hb dL_law_332 rfl (lv_at hl 2 rfl) ?_
  refine mx_i (wr := [(qn, .inr (8, [.int 800, .int 0, .int 0, .int 0, .int 0, .int 0, .int 0, .ref (v 0), .ref (v 1), .int 0, .ref (v 2), .ref (v 3), .ref (v 4), .ref (v 5), .ref (v 6), .int 0, .ref (v 7), .int 0, .ref (v 8), .ref (v 9), .ref (v 10), .int 0, .int 0, .int 0, .int 0, .int 0, .int 0, .int 0, .int 0, .int 0, .ref (v 11), .ref (v 12), .ref (v 13), .ref (v 14), .int 0, .int 0, .int 0, .int 0, .int 0, .int 0, .int 0, .ref (v 15), .int 0, .ref (v 16), .ref (v 17), .int 0, .int 0, .ref (v 18), .ref (v 19), .ref (v 20), .ref (v 21), .int 0, .int 0]))]) (va_runV (As := []) (rest := []) ⟨hx, hb, hml, hown, hts⟩ (c_X7_wipe l dC dI cI cZ cK tS aK aV qx (u 18) (u 23) (u 29) (u 31) (u 32) (u 33) (u 34) (u 13) (u 0) (u 9) (u 10) (u 11) (u 12) H.size) (cwV 0 hts (gw_v (fun _ h9 => h9) wm_588 wm_589 wm_590 wm_2 wm_591) rfl rfl rfl (by decide +kernel) ⟨Nat.le_of_ble_eq_true rfl, Nat.le_of_ble_eq_true rfl⟩) (mx_preV (C := RX7) (T := TX7) (N := 10) (ci := 7) hKx hP hD hS hA [0, 1] (by decide) rfl rfl rfl) rfl rfl hl.1 rfl (lv_room (Nat.le_of_ble_eq_true rfl)) dL_law_333 ⟨Nat.le_of_ble_eq_true rfl, Nat.le_of_ble_eq_true rfl⟩) hP hD hS hA [0, 1] [2] rfl rfl (by decide) (by decide) (fun r1 u1 H locs hq1 hP hD hS => ?_)
  replace hP : va_P (dC, dI) vwCl [(qn, .inr (8, [.int 800, .int 0, .int 0, .int 0, .int 0, .int 0, .int 0, .ref (v 0), .ref (v 1), .int 0, .ref (v 2), .ref (v 3), .ref (v 4), .ref (v 5), .ref (v 6), .int 0, .ref (v 7), .int 0, .ref (v 8), .ref (v 9), .ref (v 10), .int 0, .int 0, .int 0, .int 0, .int 0, .int 0, .int 0, .int 0, .int 0, .ref (v 11), .ref (v 12), .ref (v 13), .ref (v 14), .int 0, .int 0, .int 0, .int 0, .int 0, .int 0, .int 0, .ref (v 15), .int 0, .ref (v 16), .ref (v 17), .int 0, .int 0, .ref (v 18), .ref (v 19), .ref (v 20), .ref (v 21), .int 0, .int 0]))] H := hP
  replace hD : va_D (fun q : Nat => s.heap.size ≤ q) [(qn, .inr (8, [.int 800, .int 0, .int 0, .int 0, .int 0, .int 0, .int 0, .ref (v 0), .ref (v 1), .int 0, .ref (v 2), .ref (v 3), .ref (v 4), .ref (v 5), .ref (v 6), .int 0, .ref (v 7), .int 0, .ref (v 8), .ref (v 9), .ref (v 10), .int 0, .int 0, .int 0, .int 0, .int 0, .int 0, .int 0, .int 0, .int 0, .ref (v 11), .ref (v 12), .ref (v 13), .ref (v 14), .int 0, .int 0, .int 0, .int 0, .int 0, .int 0, .int 0, .ref (v 15), .int 0, .ref (v 16), .ref (v 17), .int 0, .int 0, .ref (v 18), .ref (v 19), .ref (v 20), .ref (v 21), .int 0, .int 0]))] := hD
  obtain rfl : r1 = 0 := hq1
  refine lv_aload_n hx hb dL_law_336 rfl (lv_at hl 1 rfl) ?_
  refine mx_i (wr := []) (va_runV (As := []) (rest := [.int 0]) ⟨hx, hb, hml, hown, hts⟩ (c_X8_wipe l dC dI cI cZ cK tS aK aV qn (v 0) (v 1) (v 2) (v 3) (v 4) (v 5) (v 6) (v 7) (v 8) (v 9) (v 10) (v 11) (v 12) (v 13) (v 14) (v 15) (v 16) (v 17) (v 18) (v 19) (v 20) (v 21) H.size) (cwV 0 hts (gw_v (fun _ h9 => h9) wm_592 wm_593 wm_594 wm_385 wm_595) rfl rfl rfl (by decide +kernel) ⟨Nat.le_of_ble_eq_true rfl, Nat.le_of_ble_eq_true rfl⟩) (mx_preV (C := RX8) (T := TX8) (N := 53) (ci := 8) hKx hP hD hS hA [0] (by decide) rfl rfl rfl) rfl rfl hl.1 rfl (lv_room (Nat.le_of_ble_eq_true rfl)) dL_law_337 ⟨Nat.le_of_ble_eq_true rfl, Nat.le_of_ble_eq_true rfl⟩) hP hD hS hA [0] [] rfl rfl (by decide) (by decide) (fun r2 u2 H locs hq2 hP hD hS => ?_)
  replace hP : va_P (dC, dI) vwCl [] H := hP
  replace hD : va_D (fun q : Nat => s.heap.size ≤ q) [] := hD
  obtain rfl : r2 = 0 := hq2
  refine lv_icmp_eq (tgt := 998) hx hb dL_law_340 (by decide) (fun c3 => ?_) (fun c3 => absurd c3 (by decide))
  refine lv_iinc (v := 5) (lv' := [(3, .int 5), (2, .ref qn), (1, .ref qx), (0, .ref b)]) hx hb dL_law_998 hl (k := 0) rfl (by decide) (by decide) rfl (fun ls hl => ?_)
  refine lv_goto (tgt := 18) hx hb dL_law_1001 (by decide) ?_
  refine lv_iload_n hx hb dL_law_18 rfl (lv_at hl 0 rfl) ?_
  refine lv_aload_n hx hb dL_law_19 rfl (lv_at hl 3 rfl) ?_
  refine va_slen hx hb hX hbl hbA hS dL_law_20 ?_
  refine lv_topi (fun x4 e4 => ?_)
  obtain rfl : x4 = 5 := e4.trans (by decide)
  refine lv_iconst (v := 5) hx hb dL_law_21 (by decide) ?_
  refine lv_isub hx hb dL_law_22 ?_
  refine lv_topi (fun x5 e5 => ?_)
  obtain rfl : x5 = 0 := e5.trans (by decide)
  refine lv_icmp_gt (tgt := 1004) hx hb dL_law_23 (by decide) (fun c6 => ?_) (fun c6 => absurd c6 (by decide))
  refine lv_iconst (v := 1) hx hb dL_law_1004 (by decide) ?_
  refine va_forget (fun q hq => hS.2.2 q hq) ?_
  refine W.widen (k := 600000) (n := 7302250) (Nat.le_of_ble_eq_true rfl) (Nat.le_of_ble_eq_true rfl) ?_
  exact lw_ret hx hb hr hlocks dL_law_1005
set_option maxHeartbeats 4000000 in
set_option maxRecDepth 100000 in
theorem lc_fault {p : Program} {e : Env} {s : State} {m : MethodId} {below : List Frame} {meth : Method} {c : Code} (l : Launch) {b : Nat} {xs : Nat → Int32} (C0 : lw_At p s m meth c b 5 xs) (dC : Nat → ClassId) (dI : Nat → Nat → Nat) (cI cZ cK : ClassId) (tS aK aV : Nat) (hKx : kx dC dI cI cZ cK tS aK aV (fun q : Nat => s.heap.size ≤ q) s) (qx qn : Nat) (u v : Nat → Nat) (H : Heap) (locs : List Loc) (hP : va_P (dC, dI) vwCl [(qx, .inr (7, [.ref (u 0), .ref (u 9), .ref (u 13), .ref (u 18), .ref (u 23), .ref (u 29), .ref (u 31), .ref (u 32), .ref (u 33), .ref (u 34)])), ((u 0), .inr (0, [.ref (u 1), .ref (u 2), .ref (u 3), .int (-6), .int 0, .int 0, .ref (u 4), .ref (u 5), .ref (u 6), .int 0, .ref (u 7), .ref (u 8)])), ((u 1), .inl (cI, 5, .inl (upd (fun _ => 0) 0 800))), ((u 2), .inl (cI, 14, .inl (fun _ => 0))), ((u 3), .inl (cZ, 14, .inl (fun _ => 0))), ((u 4), .inl (cI, 6, .inl (fun _ => 0))), ((u 5), .inl (cI, 6, .inl (fun _ => 0))), ((u 6), .inl (cI, 6, .inl (fun _ => 0))), ((u 7), .inl (cI, 8, .inl (fun _ => 0))), ((u 8), .inl (cI, 8, .inl (fun _ => 0))), ((u 9), .inr (4, [.ref (u 10), .int 0, .ref (u 11), .ref (u 12), .int 0, .int 0])), ((u 10), .inl (cI, 60, .inl (fun _ => 0))), ((u 11), .inl (cI, 60, .inl (fun _ => 0))), ((u 12), .inl (cI, 60, .inl (fun _ => 0))), ((u 13), .inr (1, [.ref (u 0), .ref (u 9), .ref (u 14), .ref (u 15), .ref (u 16), .ref (u 17), .int 0, .int 0, .int 0, .int 0, .int 0, .int 0, .int 0, .int 0])), ((u 14), .inl (cI, 60, .inl (fun _ => 0))), ((u 15), .inl (cI, 60, .inl (fun _ => 0))), ((u 16), .inl (cI, 60, .inl (fun _ => 0))), ((u 17), .inl (cI, 61, .inl (fun _ => 0))), ((u 18), .inr (3, [.ref (u 0), .ref (u 19), .int 0, .ref (u 20), .ref (u 21), .ref (u 22)])), ((u 19), .inl (cI, 6, .inl (fun _ => 0))), ((u 20), .inl (cI, 6, .inl (fun _ => 0))), ((u 21), .inl (cI, 6, .inl (fun _ => 0))), ((u 22), .inl (cI, 5, .inl (fun _ => 0))), ((u 23), .inr (5, [.ref (u 0), .ref (u 9), .ref (u 13), .ref (u 24), .ref (u 25), .ref (u 26), .ref (u 27), .ref (u 28), .int 0, .int 0, .int 0])), ((u 24), .inl (cI, 61, .inl (fun _ => 0))), ((u 25), .inl (cI, 61, .inl (fun _ => 0))), ((u 26), .inl (cI, 60, .inl (fun _ => 0))), ((u 27), .inl (cI, 60, .inl (fun _ => 0))), ((u 28), .inl (cI, 21, .inl (fun _ => 0))), ((u 29), .inr (2, [.ref (u 0), .ref (u 9), .ref (u 13), .ref (u 30), .long 0, .long 0])), ((u 30), .inl (cI, 60, .inl (fun _ => 0))), ((u 31), .inr (6, [.ref (u 0), .int 0, .int 0, .int 0])), ((u 32), .inl (cK, 2, .inr (.inr (.inr (.inr (va_up (va_up (fun _ => none) 0 (some (u 35))) 1 (some (u 44)))))))), ((u 33), .inl (cZ, 2, .inl (fun _ => 0))), ((u 34), .inl (cI, 4, .inl (fun _ => 0))), ((u 35), .inr (0, [.ref (u 36), .ref (u 37), .ref (u 38), .int (-6), .int 0, .int 0, .ref (u 39), .ref (u 40), .ref (u 41), .int 0, .ref (u 42), .ref (u 43)])), ((u 36), .inl (cI, 5, .inl (upd (fun _ => 0) 0 800))), ((u 37), .inl (cI, 14, .inl (fun _ => 0))), ((u 38), .inl (cZ, 14, .inl (fun _ => 0))), ((u 39), .inl (cI, 6, .inl (fun _ => 0))), ((u 40), .inl (cI, 6, .inl (fun _ => 0))), ((u 41), .inl (cI, 6, .inl (fun _ => 0))), ((u 42), .inl (cI, 8, .inl (fun _ => 0))), ((u 43), .inl (cI, 8, .inl (fun _ => 0))), ((u 44), .inr (0, [.ref (u 45), .ref (u 46), .ref (u 47), .int (-6), .int 0, .int 0, .ref (u 48), .ref (u 49), .ref (u 50), .int 0, .ref (u 51), .ref (u 52)])), ((u 45), .inl (cI, 5, .inl (upd (fun _ => 0) 0 800))), ((u 46), .inl (cI, 14, .inl (fun _ => 0))), ((u 47), .inl (cZ, 14, .inl (fun _ => 0))), ((u 48), .inl (cI, 6, .inl (fun _ => 0))), ((u 49), .inl (cI, 6, .inl (fun _ => 0))), ((u 50), .inl (cI, 6, .inl (fun _ => 0))), ((u 51), .inl (cI, 8, .inl (fun _ => 0))), ((u 52), .inl (cI, 8, .inl (fun _ => 0))), (qn, .inr (8, [.int 800, .int 0, .int 0, .int 0, .int 0, .int 0, .int 0, .ref (v 0), .ref (v 1), .int 0, .ref (v 2), .ref (v 3), .ref (v 4), .ref (v 5), .ref (v 6), .int 0, .ref (v 7), .int 0, .ref (v 8), .ref (v 9), .ref (v 10), .int 0, .int 0, .int 0, .int 0, .int 0, .int 0, .int 0, .int 0, .int 0, .ref (v 11), .ref (v 12), .ref (v 13), .ref (v 14), .int 0, .int 0, .int 0, .int 0, .int 0, .int 0, .int 0, .ref (v 15), .int 0, .ref (v 16), .ref (v 17), .int 0, .int 0, .ref (v 18), .ref (v 19), .ref (v 20), .ref (v 21), .int 0, .int 0])), ((v 0), .inl (cI, 14, .inl (fun _ => 0))), ((v 1), .inl (cI, 14, .inl (fun _ => 0))), ((v 2), .inl (cI, 6, .inl (fun _ => 0))), ((v 3), .inl (cI, 6, .inl (fun _ => 0))), ((v 4), .inl (cI, 6, .inl (fun _ => 0))), ((v 5), .inl (cI, 8, .inl (fun _ => 0))), ((v 6), .inl (cI, 8, .inl (fun _ => 0))), ((v 7), .inl (cI, 60, .inl (fun _ => 0))), ((v 8), .inl (cI, 60, .inl (fun _ => 0))), ((v 9), .inl (cI, 60, .inl (fun _ => 0))), ((v 10), .inl (cI, 60, .inl (fun _ => 0))), ((v 11), .inl (cI, 60, .inl (fun _ => 0))), ((v 12), .inl (cI, 60, .inl (fun _ => 0))), ((v 13), .inl (cI, 14, .inl (fun _ => 0))), ((v 14), .inl (cI, 61, .inl (fun _ => 0))), ((v 15), .inl (cI, 6, .inl (fun _ => 0))), ((v 16), .inl (cI, 6, .inl (fun _ => 0))), ((v 17), .inl (cI, 28, .inl (fun _ => 0))), ((v 18), .inl (cI, 1260, .inl (fun _ => 0))), ((v 19), .inl (cI, 4, .inl (fun _ => 0))), ((v 20), .inl (cI, 160, .inl (fun _ => 0))), ((v 21), .inl (cZ, 2, .inl (fun _ => 0)))] H) (hD : va_D (fun q : Nat => s.heap.size ≤ q) [(qx, .inr (7, [.ref (u 0), .ref (u 9), .ref (u 13), .ref (u 18), .ref (u 23), .ref (u 29), .ref (u 31), .ref (u 32), .ref (u 33), .ref (u 34)])), ((u 0), .inr (0, [.ref (u 1), .ref (u 2), .ref (u 3), .int (-6), .int 0, .int 0, .ref (u 4), .ref (u 5), .ref (u 6), .int 0, .ref (u 7), .ref (u 8)])), ((u 1), .inl (cI, 5, .inl (upd (fun _ => 0) 0 800))), ((u 2), .inl (cI, 14, .inl (fun _ => 0))), ((u 3), .inl (cZ, 14, .inl (fun _ => 0))), ((u 4), .inl (cI, 6, .inl (fun _ => 0))), ((u 5), .inl (cI, 6, .inl (fun _ => 0))), ((u 6), .inl (cI, 6, .inl (fun _ => 0))), ((u 7), .inl (cI, 8, .inl (fun _ => 0))), ((u 8), .inl (cI, 8, .inl (fun _ => 0))), ((u 9), .inr (4, [.ref (u 10), .int 0, .ref (u 11), .ref (u 12), .int 0, .int 0])), ((u 10), .inl (cI, 60, .inl (fun _ => 0))), ((u 11), .inl (cI, 60, .inl (fun _ => 0))), ((u 12), .inl (cI, 60, .inl (fun _ => 0))), ((u 13), .inr (1, [.ref (u 0), .ref (u 9), .ref (u 14), .ref (u 15), .ref (u 16), .ref (u 17), .int 0, .int 0, .int 0, .int 0, .int 0, .int 0, .int 0, .int 0])), ((u 14), .inl (cI, 60, .inl (fun _ => 0))), ((u 15), .inl (cI, 60, .inl (fun _ => 0))), ((u 16), .inl (cI, 60, .inl (fun _ => 0))), ((u 17), .inl (cI, 61, .inl (fun _ => 0))), ((u 18), .inr (3, [.ref (u 0), .ref (u 19), .int 0, .ref (u 20), .ref (u 21), .ref (u 22)])), ((u 19), .inl (cI, 6, .inl (fun _ => 0))), ((u 20), .inl (cI, 6, .inl (fun _ => 0))), ((u 21), .inl (cI, 6, .inl (fun _ => 0))), ((u 22), .inl (cI, 5, .inl (fun _ => 0))), ((u 23), .inr (5, [.ref (u 0), .ref (u 9), .ref (u 13), .ref (u 24), .ref (u 25), .ref (u 26), .ref (u 27), .ref (u 28), .int 0, .int 0, .int 0])), ((u 24), .inl (cI, 61, .inl (fun _ => 0))), ((u 25), .inl (cI, 61, .inl (fun _ => 0))), ((u 26), .inl (cI, 60, .inl (fun _ => 0))), ((u 27), .inl (cI, 60, .inl (fun _ => 0))), ((u 28), .inl (cI, 21, .inl (fun _ => 0))), ((u 29), .inr (2, [.ref (u 0), .ref (u 9), .ref (u 13), .ref (u 30), .long 0, .long 0])), ((u 30), .inl (cI, 60, .inl (fun _ => 0))), ((u 31), .inr (6, [.ref (u 0), .int 0, .int 0, .int 0])), ((u 32), .inl (cK, 2, .inr (.inr (.inr (.inr (va_up (va_up (fun _ => none) 0 (some (u 35))) 1 (some (u 44)))))))), ((u 33), .inl (cZ, 2, .inl (fun _ => 0))), ((u 34), .inl (cI, 4, .inl (fun _ => 0))), ((u 35), .inr (0, [.ref (u 36), .ref (u 37), .ref (u 38), .int (-6), .int 0, .int 0, .ref (u 39), .ref (u 40), .ref (u 41), .int 0, .ref (u 42), .ref (u 43)])), ((u 36), .inl (cI, 5, .inl (upd (fun _ => 0) 0 800))), ((u 37), .inl (cI, 14, .inl (fun _ => 0))), ((u 38), .inl (cZ, 14, .inl (fun _ => 0))), ((u 39), .inl (cI, 6, .inl (fun _ => 0))), ((u 40), .inl (cI, 6, .inl (fun _ => 0))), ((u 41), .inl (cI, 6, .inl (fun _ => 0))), ((u 42), .inl (cI, 8, .inl (fun _ => 0))), ((u 43), .inl (cI, 8, .inl (fun _ => 0))), ((u 44), .inr (0, [.ref (u 45), .ref (u 46), .ref (u 47), .int (-6), .int 0, .int 0, .ref (u 48), .ref (u 49), .ref (u 50), .int 0, .ref (u 51), .ref (u 52)])), ((u 45), .inl (cI, 5, .inl (upd (fun _ => 0) 0 800))), ((u 46), .inl (cI, 14, .inl (fun _ => 0))), ((u 47), .inl (cZ, 14, .inl (fun _ => 0))), ((u 48), .inl (cI, 6, .inl (fun _ => 0))), ((u 49), .inl (cI, 6, .inl (fun _ => 0))), ((u 50), .inl (cI, 6, .inl (fun _ => 0))), ((u 51), .inl (cI, 8, .inl (fun _ => 0))), ((u 52), .inl (cI, 8, .inl (fun _ => 0))), (qn, .inr (8, [.int 800, .int 0, .int 0, .int 0, .int 0, .int 0, .int 0, .ref (v 0), .ref (v 1), .int 0, .ref (v 2), .ref (v 3), .ref (v 4), .ref (v 5), .ref (v 6), .int 0, .ref (v 7), .int 0, .ref (v 8), .ref (v 9), .ref (v 10), .int 0, .int 0, .int 0, .int 0, .int 0, .int 0, .int 0, .int 0, .int 0, .ref (v 11), .ref (v 12), .ref (v 13), .ref (v 14), .int 0, .int 0, .int 0, .int 0, .int 0, .int 0, .int 0, .ref (v 15), .int 0, .ref (v 16), .ref (v 17), .int 0, .int 0, .ref (v 18), .ref (v 19), .ref (v 20), .ref (v 21), .int 0, .int 0])), ((v 0), .inl (cI, 14, .inl (fun _ => 0))), ((v 1), .inl (cI, 14, .inl (fun _ => 0))), ((v 2), .inl (cI, 6, .inl (fun _ => 0))), ((v 3), .inl (cI, 6, .inl (fun _ => 0))), ((v 4), .inl (cI, 6, .inl (fun _ => 0))), ((v 5), .inl (cI, 8, .inl (fun _ => 0))), ((v 6), .inl (cI, 8, .inl (fun _ => 0))), ((v 7), .inl (cI, 60, .inl (fun _ => 0))), ((v 8), .inl (cI, 60, .inl (fun _ => 0))), ((v 9), .inl (cI, 60, .inl (fun _ => 0))), ((v 10), .inl (cI, 60, .inl (fun _ => 0))), ((v 11), .inl (cI, 60, .inl (fun _ => 0))), ((v 12), .inl (cI, 60, .inl (fun _ => 0))), ((v 13), .inl (cI, 14, .inl (fun _ => 0))), ((v 14), .inl (cI, 61, .inl (fun _ => 0))), ((v 15), .inl (cI, 6, .inl (fun _ => 0))), ((v 16), .inl (cI, 6, .inl (fun _ => 0))), ((v 17), .inl (cI, 28, .inl (fun _ => 0))), ((v 18), .inl (cI, 1260, .inl (fun _ => 0))), ((v 19), .inl (cI, 4, .inl (fun _ => 0))), ((v 20), .inl (cI, 160, .inl (fun _ => 0))), ((v 21), .inl (cZ, 2, .inl (fun _ => 0)))]) (hS : va_S (fun q : Nat => s.heap.size ≤ q) s.heap H locs) (ls : Array Slot) (hl : lv_has ls 4 [(3, .int 0), (2, .ref qn), (1, .ref qx), (0, .ref b)]) : W p l e room_1 s m #[Value.ref b] below meth c H locs 77 3085 (lw_Z below #[Value.ref b] s) (F0 m 345 ls []) := by
  obtain ⟨hx, hb, hr, hml, hown, hts, hX, hbl, hlocks, hgv⟩ := C0
  have hts := fun w h => hts w (wsL_law_in w h)
  have hown : s.vm.findClass RL = some m.cls := hown
  have hA : ∀ q : Nat, s.heap.size ≤ q → (fun q : Nat => s.heap.size ≤ q) q := fun _ h => h
  have hbA : ¬ (fun q : Nat => s.heap.size ≤ q) b := Nat.not_le.mpr hbl
  have hK := hKx.1
  replace hP := mx_subP (wc := [(qx, .inr (7, [.ref (u 0), .ref (u 9), .ref (u 13), .ref (u 18), .ref (u 23), .ref (u 29), .ref (u 31), .ref (u 32), .ref (u 33), .ref (u 34)])), ((u 9), .inr (4, [.ref (u 10), .int 0, .ref (u 11), .ref (u 12), .int 0, .int 0])), (qn, .inr (8, [.int 800, .int 0, .int 0, .int 0, .int 0, .int 0, .int 0, .ref (v 0), .ref (v 1), .int 0, .ref (v 2), .ref (v 3), .ref (v 4), .ref (v 5), .ref (v 6), .int 0, .ref (v 7), .int 0, .ref (v 8), .ref (v 9), .ref (v 10), .int 0, .int 0, .int 0, .int 0, .int 0, .int 0, .int 0, .int 0, .int 0, .ref (v 11), .ref (v 12), .ref (v 13), .ref (v 14), .int 0, .int 0, .int 0, .int 0, .int 0, .int 0, .int 0, .ref (v 15), .int 0, .ref (v 16), .ref (v 17), .int 0, .int 0, .ref (v 18), .ref (v 19), .ref (v 20), .ref (v 21), .int 0, .int 0]))]) hP [0, 10, 54] rfl
  replace hD := hD.sub (ws' := [(qx, .inr (7, [.ref (u 0), .ref (u 9), .ref (u 13), .ref (u 18), .ref (u 23), .ref (u 29), .ref (u 31), .ref (u 32), .ref (u 33), .ref (u 34)])), ((u 9), .inr (4, [.ref (u 10), .int 0, .ref (u 11), .ref (u 12), .int 0, .int 0])), (qn, .inr (8, [.int 800, .int 0, .int 0, .int 0, .int 0, .int 0, .int 0, .ref (v 0), .ref (v 1), .int 0, .ref (v 2), .ref (v 3), .ref (v 4), .ref (v 5), .ref (v 6), .int 0, .ref (v 7), .int 0, .ref (v 8), .ref (v 9), .ref (v 10), .int 0, .int 0, .int 0, .int 0, .int 0, .int 0, .int 0, .int 0, .int 0, .ref (v 11), .ref (v 12), .ref (v 13), .ref (v 14), .int 0, .int 0, .int 0, .int 0, .int 0, .int 0, .int 0, .ref (v 15), .int 0, .ref (v 16), .ref (v 17), .int 0, .int 0, .ref (v 18), .ref (v 19), .ref (v 20), .ref (v 21), .int 0, .int 0]))]) [0, 10, 54] (by decide) rfl
  refine lv_aload_n hx hb dL_law_345 rfl (lv_at hl 2 rfl) ?_
  refine mx_i (wr := [(qn, .inr (8, [.int 800, .int 0, .int 0, .int 0, .int 0, .int 0, .int 0, .ref (v 0), .ref (v 1), .int 0, .ref (v 2), .ref (v 3), .ref (v 4), .ref (v 5), .ref (v 6), .int 0, .ref (v 7), .int 0, .ref (v 8), .ref (v 9), .ref (v 10), .int 0, .int 0, .int 0, .int 0, .int 0, .int 0, .int 0, .int 0, .int 0, .ref (v 11), .ref (v 12), .ref (v 13), .ref (v 14), .int 0, .int 0, .int 0, .int 0, .int 0, .int 0, .int 0, .ref (v 15), .int 0, .ref (v 16), .ref (v 17), .int 0, .int 0, .ref (v 18), .ref (v 19), .ref (v 20), .ref (v 21), .int 0, .int 0]))]) (va_runV (As := []) (rest := []) ⟨hx, hb, hml, hown, hts⟩ (c_X7_fault l dC dI cI cZ cK tS aK aV qx (u 18) (u 23) (u 29) (u 31) (u 32) (u 33) (u 34) (u 13) (u 0) (u 9) (u 10) (u 11) (u 12) H.size) (cwV 0 hts (gw_v (fun _ h9 => h9) wm_596 wm_597 wm_598 wm_2 wm_599) rfl rfl rfl (by decide +kernel) ⟨Nat.le_of_ble_eq_true rfl, Nat.le_of_ble_eq_true rfl⟩) (mx_preV (C := RX7) (T := TX7) (N := 10) (ci := 7) hKx hP hD hS hA [0, 1] (by decide) rfl rfl rfl) rfl rfl hl.1 rfl (lv_room (Nat.le_of_ble_eq_true rfl)) dL_law_346 ⟨Nat.le_of_ble_eq_true rfl, Nat.le_of_ble_eq_true rfl⟩) hP hD hS hA [0, 1] [2] rfl rfl (by decide) (by decide) (fun r1 u1 H locs hq1 hP hD hS => ?_)
  replace hP : va_P (dC, dI) vwCl [(qn, .inr (8, [.int 800, .int 0, .int 0, .int 0, .int 0, .int 0, .int 0, .ref (v 0), .ref (v 1), .int 0, .ref (v 2), .ref (v 3), .ref (v 4), .ref (v 5), .ref (v 6), .int 0, .ref (v 7), .int 0, .ref (v 8), .ref (v 9), .ref (v 10), .int 0, .int 0, .int 0, .int 0, .int 0, .int 0, .int 0, .int 0, .int 0, .ref (v 11), .ref (v 12), .ref (v 13), .ref (v 14), .int 0, .int 0, .int 0, .int 0, .int 0, .int 0, .int 0, .ref (v 15), .int 0, .ref (v 16), .ref (v 17), .int 0, .int 0, .ref (v 18), .ref (v 19), .ref (v 20), .ref (v 21), .int 0, .int 0]))] H := hP
  replace hD : va_D (fun q : Nat => s.heap.size ≤ q) [(qn, .inr (8, [.int 800, .int 0, .int 0, .int 0, .int 0, .int 0, .int 0, .ref (v 0), .ref (v 1), .int 0, .ref (v 2), .ref (v 3), .ref (v 4), .ref (v 5), .ref (v 6), .int 0, .ref (v 7), .int 0, .ref (v 8), .ref (v 9), .ref (v 10), .int 0, .int 0, .int 0, .int 0, .int 0, .int 0, .int 0, .int 0, .int 0, .ref (v 11), .ref (v 12), .ref (v 13), .ref (v 14), .int 0, .int 0, .int 0, .int 0, .int 0, .int 0, .int 0, .ref (v 15), .int 0, .ref (v 16), .ref (v 17), .int 0, .int 0, .ref (v 18), .ref (v 19), .ref (v 20), .ref (v 21), .int 0, .int 0]))] := hD
  obtain rfl : r1 = (-6) := hq1
  refine lv_aload_n hx hb dL_law_349 rfl (lv_at hl 1 rfl) ?_
  refine mx_i (wr := []) (va_runV (As := []) (rest := [.int (-6)]) ⟨hx, hb, hml, hown, hts⟩ (c_X8_fault l dC dI cI cZ cK tS aK aV qn (v 0) (v 1) (v 2) (v 3) (v 4) (v 5) (v 6) (v 7) (v 8) (v 9) (v 10) (v 11) (v 12) (v 13) (v 14) (v 15) (v 16) (v 17) (v 18) (v 19) (v 20) (v 21) H.size) (cwV 0 hts (gw_v (fun _ h9 => h9) wm_600 wm_454 wm_455 wm_385 wm_456) rfl rfl rfl (by decide +kernel) ⟨Nat.le_of_ble_eq_true rfl, Nat.le_of_ble_eq_true rfl⟩) (mx_preV (C := RX8) (T := TX8) (N := 53) (ci := 8) hKx hP hD hS hA [0] (by decide) rfl rfl rfl) rfl rfl hl.1 rfl (lv_room (Nat.le_of_ble_eq_true rfl)) dL_law_350 ⟨Nat.le_of_ble_eq_true rfl, Nat.le_of_ble_eq_true rfl⟩) hP hD hS hA [0] [] rfl rfl (by decide) (by decide) (fun r2 u2 H locs hq2 hP hD hS => ?_)
  replace hP : va_P (dC, dI) vwCl [] H := hP
  replace hD : va_D (fun q : Nat => s.heap.size ≤ q) [] := hD
  obtain rfl : r2 = (-6) := hq2
  refine lv_icmp_eq (tgt := 998) hx hb dL_law_353 (by decide) (fun c3 => ?_) (fun c3 => absurd c3 (by decide))
  refine lv_iinc (v := 5) (lv' := [(3, .int 5), (2, .ref qn), (1, .ref qx), (0, .ref b)]) hx hb dL_law_998 hl (k := 0) rfl (by decide) (by decide) rfl (fun ls hl => ?_)
  refine lv_goto (tgt := 18) hx hb dL_law_1001 (by decide) ?_
  refine lv_iload_n hx hb dL_law_18 rfl (lv_at hl 0 rfl) ?_
  refine lv_aload_n hx hb dL_law_19 rfl (lv_at hl 3 rfl) ?_
  refine va_slen hx hb hX hbl hbA hS dL_law_20 ?_
  refine lv_topi (fun x4 e4 => ?_)
  obtain rfl : x4 = 5 := e4.trans (by decide)
  refine lv_iconst (v := 5) hx hb dL_law_21 (by decide) ?_
  refine lv_isub hx hb dL_law_22 ?_
  refine lv_topi (fun x5 e5 => ?_)
  obtain rfl : x5 = 0 := e5.trans (by decide)
  refine lv_icmp_gt (tgt := 1004) hx hb dL_law_23 (by decide) (fun c6 => ?_) (fun c6 => absurd c6 (by decide))
  refine lv_iconst (v := 1) hx hb dL_law_1004 (by decide) ?_
  refine va_forget (fun q hq => hS.2.2 q hq) ?_
  refine W.widen (k := 600000) (n := 7302250) (Nat.le_of_ble_eq_true rfl) (Nat.le_of_ble_eq_true rfl) ?_
  exact lw_ret hx hb hr hlocks dL_law_1005
set_option maxHeartbeats 4000000 in
set_option maxRecDepth 100000 in
theorem lc_judge {p : Program} {e : Env} {s : State} {m : MethodId} {below : List Frame} {meth : Method} {c : Code} (l : Launch) {b : Nat} {xs : Nat → Int32} (C0 : lw_At p s m meth c b 5 xs) (dC : Nat → ClassId) (dI : Nat → Nat → Nat) (cI cZ cK : ClassId) (tS aK aV : Nat) (hKx : kx dC dI cI cZ cK tS aK aV (fun q : Nat => s.heap.size ≤ q) s) (qx qn : Nat) (u v : Nat → Nat) (H : Heap) (locs : List Loc) (hP : va_P (dC, dI) vwCl [(qx, .inr (7, [.ref (u 0), .ref (u 9), .ref (u 13), .ref (u 18), .ref (u 23), .ref (u 29), .ref (u 31), .ref (u 32), .ref (u 33), .ref (u 34)])), ((u 0), .inr (0, [.ref (u 1), .ref (u 2), .ref (u 3), .int (-6), .int 0, .int 0, .ref (u 4), .ref (u 5), .ref (u 6), .int 0, .ref (u 7), .ref (u 8)])), ((u 1), .inl (cI, 5, .inl (upd (fun _ => 0) 0 800))), ((u 2), .inl (cI, 14, .inl (fun _ => 0))), ((u 3), .inl (cZ, 14, .inl (fun _ => 0))), ((u 4), .inl (cI, 6, .inl (fun _ => 0))), ((u 5), .inl (cI, 6, .inl (fun _ => 0))), ((u 6), .inl (cI, 6, .inl (fun _ => 0))), ((u 7), .inl (cI, 8, .inl (fun _ => 0))), ((u 8), .inl (cI, 8, .inl (fun _ => 0))), ((u 9), .inr (4, [.ref (u 10), .int 0, .ref (u 11), .ref (u 12), .int 0, .int 0])), ((u 10), .inl (cI, 60, .inl (fun _ => 0))), ((u 11), .inl (cI, 60, .inl (fun _ => 0))), ((u 12), .inl (cI, 60, .inl (fun _ => 0))), ((u 13), .inr (1, [.ref (u 0), .ref (u 9), .ref (u 14), .ref (u 15), .ref (u 16), .ref (u 17), .int 0, .int 0, .int 0, .int 0, .int 0, .int 0, .int 0, .int 0])), ((u 14), .inl (cI, 60, .inl (fun _ => 0))), ((u 15), .inl (cI, 60, .inl (fun _ => 0))), ((u 16), .inl (cI, 60, .inl (fun _ => 0))), ((u 17), .inl (cI, 61, .inl (fun _ => 0))), ((u 18), .inr (3, [.ref (u 0), .ref (u 19), .int 0, .ref (u 20), .ref (u 21), .ref (u 22)])), ((u 19), .inl (cI, 6, .inl (fun _ => 0))), ((u 20), .inl (cI, 6, .inl (fun _ => 0))), ((u 21), .inl (cI, 6, .inl (fun _ => 0))), ((u 22), .inl (cI, 5, .inl (fun _ => 0))), ((u 23), .inr (5, [.ref (u 0), .ref (u 9), .ref (u 13), .ref (u 24), .ref (u 25), .ref (u 26), .ref (u 27), .ref (u 28), .int 0, .int 0, .int 0])), ((u 24), .inl (cI, 61, .inl (fun _ => 0))), ((u 25), .inl (cI, 61, .inl (fun _ => 0))), ((u 26), .inl (cI, 60, .inl (fun _ => 0))), ((u 27), .inl (cI, 60, .inl (fun _ => 0))), ((u 28), .inl (cI, 21, .inl (fun _ => 0))), ((u 29), .inr (2, [.ref (u 0), .ref (u 9), .ref (u 13), .ref (u 30), .long 0, .long 0])), ((u 30), .inl (cI, 60, .inl (fun _ => 0))), ((u 31), .inr (6, [.ref (u 0), .int 0, .int 0, .int 0])), ((u 32), .inl (cK, 2, .inr (.inr (.inr (.inr (va_up (va_up (fun _ => none) 0 (some (u 35))) 1 (some (u 44)))))))), ((u 33), .inl (cZ, 2, .inl (fun _ => 0))), ((u 34), .inl (cI, 4, .inl (fun _ => 0))), ((u 35), .inr (0, [.ref (u 36), .ref (u 37), .ref (u 38), .int (-6), .int 0, .int 0, .ref (u 39), .ref (u 40), .ref (u 41), .int 0, .ref (u 42), .ref (u 43)])), ((u 36), .inl (cI, 5, .inl (upd (fun _ => 0) 0 800))), ((u 37), .inl (cI, 14, .inl (fun _ => 0))), ((u 38), .inl (cZ, 14, .inl (fun _ => 0))), ((u 39), .inl (cI, 6, .inl (fun _ => 0))), ((u 40), .inl (cI, 6, .inl (fun _ => 0))), ((u 41), .inl (cI, 6, .inl (fun _ => 0))), ((u 42), .inl (cI, 8, .inl (fun _ => 0))), ((u 43), .inl (cI, 8, .inl (fun _ => 0))), ((u 44), .inr (0, [.ref (u 45), .ref (u 46), .ref (u 47), .int (-6), .int 0, .int 0, .ref (u 48), .ref (u 49), .ref (u 50), .int 0, .ref (u 51), .ref (u 52)])), ((u 45), .inl (cI, 5, .inl (upd (fun _ => 0) 0 800))), ((u 46), .inl (cI, 14, .inl (fun _ => 0))), ((u 47), .inl (cZ, 14, .inl (fun _ => 0))), ((u 48), .inl (cI, 6, .inl (fun _ => 0))), ((u 49), .inl (cI, 6, .inl (fun _ => 0))), ((u 50), .inl (cI, 6, .inl (fun _ => 0))), ((u 51), .inl (cI, 8, .inl (fun _ => 0))), ((u 52), .inl (cI, 8, .inl (fun _ => 0))), (qn, .inr (8, [.int 800, .int 0, .int 0, .int 0, .int 0, .int 0, .int 0, .ref (v 0), .ref (v 1), .int 0, .ref (v 2), .ref (v 3), .ref (v 4), .ref (v 5), .ref (v 6), .int 0, .ref (v 7), .int 0, .ref (v 8), .ref (v 9), .ref (v 10), .int 0, .int 0, .int 0, .int 0, .int 0, .int 0, .int 0, .int 0, .int 0, .ref (v 11), .ref (v 12), .ref (v 13), .ref (v 14), .int 0, .int 0, .int 0, .int 0, .int 0, .int 0, .int 0, .ref (v 15), .int 0, .ref (v 16), .ref (v 17), .int 0, .int 0, .ref (v 18), .ref (v 19), .ref (v 20), .ref (v 21), .int 0, .int 0])), ((v 0), .inl (cI, 14, .inl (fun _ => 0))), ((v 1), .inl (cI, 14, .inl (fun _ => 0))), ((v 2), .inl (cI, 6, .inl (fun _ => 0))), ((v 3), .inl (cI, 6, .inl (fun _ => 0))), ((v 4), .inl (cI, 6, .inl (fun _ => 0))), ((v 5), .inl (cI, 8, .inl (fun _ => 0))), ((v 6), .inl (cI, 8, .inl (fun _ => 0))), ((v 7), .inl (cI, 60, .inl (fun _ => 0))), ((v 8), .inl (cI, 60, .inl (fun _ => 0))), ((v 9), .inl (cI, 60, .inl (fun _ => 0))), ((v 10), .inl (cI, 60, .inl (fun _ => 0))), ((v 11), .inl (cI, 60, .inl (fun _ => 0))), ((v 12), .inl (cI, 60, .inl (fun _ => 0))), ((v 13), .inl (cI, 14, .inl (fun _ => 0))), ((v 14), .inl (cI, 61, .inl (fun _ => 0))), ((v 15), .inl (cI, 6, .inl (fun _ => 0))), ((v 16), .inl (cI, 6, .inl (fun _ => 0))), ((v 17), .inl (cI, 28, .inl (fun _ => 0))), ((v 18), .inl (cI, 1260, .inl (fun _ => 0))), ((v 19), .inl (cI, 4, .inl (fun _ => 0))), ((v 20), .inl (cI, 160, .inl (fun _ => 0))), ((v 21), .inl (cZ, 2, .inl (fun _ => 0)))] H) (hD : va_D (fun q : Nat => s.heap.size ≤ q) [(qx, .inr (7, [.ref (u 0), .ref (u 9), .ref (u 13), .ref (u 18), .ref (u 23), .ref (u 29), .ref (u 31), .ref (u 32), .ref (u 33), .ref (u 34)])), ((u 0), .inr (0, [.ref (u 1), .ref (u 2), .ref (u 3), .int (-6), .int 0, .int 0, .ref (u 4), .ref (u 5), .ref (u 6), .int 0, .ref (u 7), .ref (u 8)])), ((u 1), .inl (cI, 5, .inl (upd (fun _ => 0) 0 800))), ((u 2), .inl (cI, 14, .inl (fun _ => 0))), ((u 3), .inl (cZ, 14, .inl (fun _ => 0))), ((u 4), .inl (cI, 6, .inl (fun _ => 0))), ((u 5), .inl (cI, 6, .inl (fun _ => 0))), ((u 6), .inl (cI, 6, .inl (fun _ => 0))), ((u 7), .inl (cI, 8, .inl (fun _ => 0))), ((u 8), .inl (cI, 8, .inl (fun _ => 0))), ((u 9), .inr (4, [.ref (u 10), .int 0, .ref (u 11), .ref (u 12), .int 0, .int 0])), ((u 10), .inl (cI, 60, .inl (fun _ => 0))), ((u 11), .inl (cI, 60, .inl (fun _ => 0))), ((u 12), .inl (cI, 60, .inl (fun _ => 0))), ((u 13), .inr (1, [.ref (u 0), .ref (u 9), .ref (u 14), .ref (u 15), .ref (u 16), .ref (u 17), .int 0, .int 0, .int 0, .int 0, .int 0, .int 0, .int 0, .int 0])), ((u 14), .inl (cI, 60, .inl (fun _ => 0))), ((u 15), .inl (cI, 60, .inl (fun _ => 0))), ((u 16), .inl (cI, 60, .inl (fun _ => 0))), ((u 17), .inl (cI, 61, .inl (fun _ => 0))), ((u 18), .inr (3, [.ref (u 0), .ref (u 19), .int 0, .ref (u 20), .ref (u 21), .ref (u 22)])), ((u 19), .inl (cI, 6, .inl (fun _ => 0))), ((u 20), .inl (cI, 6, .inl (fun _ => 0))), ((u 21), .inl (cI, 6, .inl (fun _ => 0))), ((u 22), .inl (cI, 5, .inl (fun _ => 0))), ((u 23), .inr (5, [.ref (u 0), .ref (u 9), .ref (u 13), .ref (u 24), .ref (u 25), .ref (u 26), .ref (u 27), .ref (u 28), .int 0, .int 0, .int 0])), ((u 24), .inl (cI, 61, .inl (fun _ => 0))), ((u 25), .inl (cI, 61, .inl (fun _ => 0))), ((u 26), .inl (cI, 60, .inl (fun _ => 0))), ((u 27), .inl (cI, 60, .inl (fun _ => 0))), ((u 28), .inl (cI, 21, .inl (fun _ => 0))), ((u 29), .inr (2, [.ref (u 0), .ref (u 9), .ref (u 13), .ref (u 30), .long 0, .long 0])), ((u 30), .inl (cI, 60, .inl (fun _ => 0))), ((u 31), .inr (6, [.ref (u 0), .int 0, .int 0, .int 0])), ((u 32), .inl (cK, 2, .inr (.inr (.inr (.inr (va_up (va_up (fun _ => none) 0 (some (u 35))) 1 (some (u 44)))))))), ((u 33), .inl (cZ, 2, .inl (fun _ => 0))), ((u 34), .inl (cI, 4, .inl (fun _ => 0))), ((u 35), .inr (0, [.ref (u 36), .ref (u 37), .ref (u 38), .int (-6), .int 0, .int 0, .ref (u 39), .ref (u 40), .ref (u 41), .int 0, .ref (u 42), .ref (u 43)])), ((u 36), .inl (cI, 5, .inl (upd (fun _ => 0) 0 800))), ((u 37), .inl (cI, 14, .inl (fun _ => 0))), ((u 38), .inl (cZ, 14, .inl (fun _ => 0))), ((u 39), .inl (cI, 6, .inl (fun _ => 0))), ((u 40), .inl (cI, 6, .inl (fun _ => 0))), ((u 41), .inl (cI, 6, .inl (fun _ => 0))), ((u 42), .inl (cI, 8, .inl (fun _ => 0))), ((u 43), .inl (cI, 8, .inl (fun _ => 0))), ((u 44), .inr (0, [.ref (u 45), .ref (u 46), .ref (u 47), .int (-6), .int 0, .int 0, .ref (u 48), .ref (u 49), .ref (u 50), .int 0, .ref (u 51), .ref (u 52)])), ((u 45), .inl (cI, 5, .inl (upd (fun _ => 0) 0 800))), ((u 46), .inl (cI, 14, .inl (fun _ => 0))), ((u 47), .inl (cZ, 14, .inl (fun _ => 0))), ((u 48), .inl (cI, 6, .inl (fun _ => 0))), ((u 49), .inl (cI, 6, .inl (fun _ => 0))), ((u 50), .inl (cI, 6, .inl (fun _ => 0))), ((u 51), .inl (cI, 8, .inl (fun _ => 0))), ((u 52), .inl (cI, 8, .inl (fun _ => 0))), (qn, .inr (8, [.int 800, .int 0, .int 0, .int 0, .int 0, .int 0, .int 0, .ref (v 0), .ref (v 1), .int 0, .ref (v 2), .ref (v 3), .ref (v 4), .ref (v 5), .ref (v 6), .int 0, .ref (v 7), .int 0, .ref (v 8), .ref (v 9), .ref (v 10), .int 0, .int 0, .int 0, .int 0, .int 0, .int 0, .int 0, .int 0, .int 0, .ref (v 11), .ref (v 12), .ref (v 13), .ref (v 14), .int 0, .int 0, .int 0, .int 0, .int 0, .int 0, .int 0, .ref (v 15), .int 0, .ref (v 16), .ref (v 17), .int 0, .int 0, .ref (v 18), .ref (v 19), .ref (v 20), .ref (v 21), .int 0, .int 0])), ((v 0), .inl (cI, 14, .inl (fun _ => 0))), ((v 1), .inl (cI, 14, .inl (fun _ => 0))), ((v 2), .inl (cI, 6, .inl (fun _ => 0))), ((v 3), .inl (cI, 6, .inl (fun _ => 0))), ((v 4), .inl (cI, 6, .inl (fun _ => 0))), ((v 5), .inl (cI, 8, .inl (fun _ => 0))), ((v 6), .inl (cI, 8, .inl (fun _ => 0))), ((v 7), .inl (cI, 60, .inl (fun _ => 0))), ((v 8), .inl (cI, 60, .inl (fun _ => 0))), ((v 9), .inl (cI, 60, .inl (fun _ => 0))), ((v 10), .inl (cI, 60, .inl (fun _ => 0))), ((v 11), .inl (cI, 60, .inl (fun _ => 0))), ((v 12), .inl (cI, 60, .inl (fun _ => 0))), ((v 13), .inl (cI, 14, .inl (fun _ => 0))), ((v 14), .inl (cI, 61, .inl (fun _ => 0))), ((v 15), .inl (cI, 6, .inl (fun _ => 0))), ((v 16), .inl (cI, 6, .inl (fun _ => 0))), ((v 17), .inl (cI, 28, .inl (fun _ => 0))), ((v 18), .inl (cI, 1260, .inl (fun _ => 0))), ((v 19), .inl (cI, 4, .inl (fun _ => 0))), ((v 20), .inl (cI, 160, .inl (fun _ => 0))), ((v 21), .inl (cZ, 2, .inl (fun _ => 0)))]) (hS : va_S (fun q : Nat => s.heap.size ≤ q) s.heap H locs) (ls : Array Slot) (hl : lv_has ls 4 [(3, .int 0), (2, .ref qn), (1, .ref qx), (0, .ref b)]) : W p l e room_1 s m #[Value.ref b] below meth c H locs 77 3085 (lw_Z below #[Value.ref b] s) (F0 m 358 ls []) := by
  obtain ⟨hx, hb, hr, hml, hown, hts, hX, hbl, hlocks, hgv⟩ := C0
  have hts := fun w h => hts w (wsL_law_in w h)
  have hown : s.vm.findClass RL = some m.cls := hown
  have hA : ∀ q : Nat, s.heap.size ≤ q → (fun q : Nat => s.heap.size ≤ q) q := fun _ h => h
  have hbA : ¬ (fun q : Nat => s.heap.size ≤ q) b := Nat.not_le.mpr hbl
  have hK := hKx.1
  replace hP := mx_subP (wc := [(qx, .inr (7, [.ref (u 0), .ref (u 9), .ref (u 13), .ref (u 18), .ref (u 23), .ref (u 29), .ref (u 31), .ref (u 32), .ref (u 33), .ref (u 34)])), ((u 0), .inr (0, [.ref (u 1), .ref (u 2), .ref (u 3), .int (-6), .int 0, .int 0, .ref (u 4), .ref (u 5), .ref (u 6), .int 0, .ref (u 7), .ref (u 8)])), ((u 1), .inl (cI, 5, .inl (upd (fun _ => 0) 0 800))), ((u 9), .inr (4, [.ref (u 10), .int 0, .ref (u 11), .ref (u 12), .int 0, .int 0])), ((u 13), .inr (1, [.ref (u 0), .ref (u 9), .ref (u 14), .ref (u 15), .ref (u 16), .ref (u 17), .int 0, .int 0, .int 0, .int 0, .int 0, .int 0, .int 0, .int 0])), ((u 17), .inl (cI, 61, .inl (fun _ => 0))), (qn, .inr (8, [.int 800, .int 0, .int 0, .int 0, .int 0, .int 0, .int 0, .ref (v 0), .ref (v 1), .int 0, .ref (v 2), .ref (v 3), .ref (v 4), .ref (v 5), .ref (v 6), .int 0, .ref (v 7), .int 0, .ref (v 8), .ref (v 9), .ref (v 10), .int 0, .int 0, .int 0, .int 0, .int 0, .int 0, .int 0, .int 0, .int 0, .ref (v 11), .ref (v 12), .ref (v 13), .ref (v 14), .int 0, .int 0, .int 0, .int 0, .int 0, .int 0, .int 0, .ref (v 15), .int 0, .ref (v 16), .ref (v 17), .int 0, .int 0, .ref (v 18), .ref (v 19), .ref (v 20), .ref (v 21), .int 0, .int 0])), ((v 1), .inl (cI, 14, .inl (fun _ => 0))), ((v 13), .inl (cI, 14, .inl (fun _ => 0))), ((v 14), .inl (cI, 61, .inl (fun _ => 0)))]) hP [0, 1, 2, 10, 14, 18, 54, 56, 68, 69] rfl
  replace hD := hD.sub (ws' := [(qx, .inr (7, [.ref (u 0), .ref (u 9), .ref (u 13), .ref (u 18), .ref (u 23), .ref (u 29), .ref (u 31), .ref (u 32), .ref (u 33), .ref (u 34)])), ((u 0), .inr (0, [.ref (u 1), .ref (u 2), .ref (u 3), .int (-6), .int 0, .int 0, .ref (u 4), .ref (u 5), .ref (u 6), .int 0, .ref (u 7), .ref (u 8)])), ((u 1), .inl (cI, 5, .inl (upd (fun _ => 0) 0 800))), ((u 9), .inr (4, [.ref (u 10), .int 0, .ref (u 11), .ref (u 12), .int 0, .int 0])), ((u 13), .inr (1, [.ref (u 0), .ref (u 9), .ref (u 14), .ref (u 15), .ref (u 16), .ref (u 17), .int 0, .int 0, .int 0, .int 0, .int 0, .int 0, .int 0, .int 0])), ((u 17), .inl (cI, 61, .inl (fun _ => 0))), (qn, .inr (8, [.int 800, .int 0, .int 0, .int 0, .int 0, .int 0, .int 0, .ref (v 0), .ref (v 1), .int 0, .ref (v 2), .ref (v 3), .ref (v 4), .ref (v 5), .ref (v 6), .int 0, .ref (v 7), .int 0, .ref (v 8), .ref (v 9), .ref (v 10), .int 0, .int 0, .int 0, .int 0, .int 0, .int 0, .int 0, .int 0, .int 0, .ref (v 11), .ref (v 12), .ref (v 13), .ref (v 14), .int 0, .int 0, .int 0, .int 0, .int 0, .int 0, .int 0, .ref (v 15), .int 0, .ref (v 16), .ref (v 17), .int 0, .int 0, .ref (v 18), .ref (v 19), .ref (v 20), .ref (v 21), .int 0, .int 0])), ((v 1), .inl (cI, 14, .inl (fun _ => 0))), ((v 13), .inl (cI, 14, .inl (fun _ => 0))), ((v 14), .inl (cI, 61, .inl (fun _ => 0)))]) [0, 1, 2, 10, 14, 18, 54, 56, 68, 69] (by decide) rfl
  refine lv_aload_n hx hb dL_law_358 rfl (lv_at hl 2 rfl) ?_
  refine lv_aload_n hx hb dL_law_359 rfl (lv_at hl 3 rfl) ?_
  refine lv_iload_n hx hb dL_law_360 rfl (lv_at hl 0 rfl) ?_
  refine lv_iconst (v := 1) hx hb dL_law_361 (by decide) ?_
  refine lv_iadd hx hb dL_law_362 ?_
  refine lv_topi (fun x1 e1 => ?_)
  obtain rfl : x1 = 1 := e1.trans (by decide)
  refine va_sld hx hb hX hbl hbA hS (vin (by decide) (by decide)) dL_law_363 ?_
  refine lv_topi (fun y2 e2 => ?_)
  obtain rfl : y2 = xs 1 := e2
  refine mx_i (wr := [(qn, .inr (8, [.int 800, .int 0, .int 0, .int 0, .int 0, .int 0, .int 0, .ref (v 0), .ref (v 1), .int 0, .ref (v 2), .ref (v 3), .ref (v 4), .ref (v 5), .ref (v 6), .int 0, .ref (v 7), .int 0, .ref (v 8), .ref (v 9), .ref (v 10), .int 0, .int 0, .int 0, .int 0, .int 0, .int 0, .int 0, .int 0, .int 0, .ref (v 11), .ref (v 12), .ref (v 13), .ref (v 14), .int 0, .int 0, .int 0, .int 0, .int 0, .int 0, .int 0, .ref (v 15), .int 0, .ref (v 16), .ref (v 17), .int 0, .int 0, .ref (v 18), .ref (v 19), .ref (v 20), .ref (v 21), .int 0, .int 0])), ((v 1), .inl (cI, 14, .inl (fun _ => 0))), ((v 13), .inl (cI, 14, .inl (fun _ => 0))), ((v 14), .inl (cI, 61, .inl (fun _ => 0)))]) (va_runV (As := [.int (xs 1)]) (rest := []) ⟨hx, hb, hml, hown, hts⟩ (c_X7_judge l dC dI cI cZ cK tS aK aV qx (u 18) (u 23) (u 29) (u 31) (u 32) (u 33) (u 34) (u 13) (u 14) (u 15) (u 16) (u 17) (u 0) (u 1) (u 2) (u 3) (u 4) (u 5) (u 6) (u 7) (u 8) (u 9) (u 10) (u 11) (u 12) (xs 1) H.size) (cwV 1 hts (gw_v (fun _ h9 => h9) wm_601 wm_602 wm_603 wm_2 wm_604) rfl rfl rfl (by decide +kernel) ⟨Nat.le_of_ble_eq_true rfl, Nat.le_of_ble_eq_true rfl⟩) (mx_preV (C := RX7) (T := TX7) (N := 10) (ci := 7) hKx hP hD hS hA [0, 3, 4, 5, 1, 2] (by decide) rfl rfl rfl) rfl rfl hl.1 rfl (lv_room (Nat.le_of_ble_eq_true rfl)) dL_law_364 ⟨Nat.le_of_ble_eq_true rfl, Nat.le_of_ble_eq_true rfl⟩) hP hD hS hA [0, 3, 4, 5, 1, 2] [6, 7, 8, 9] rfl rfl (by decide) (by decide) (fun r3 u3 H locs hq3 hP hD hS => ?_)
  replace hP : va_P (dC, dI) vwCl [(qn, .inr (8, [.int 800, .int 0, .int 0, .int 0, .int 0, .int 0, .int 0, .ref (v 0), .ref (v 1), .int 0, .ref (v 2), .ref (v 3), .ref (v 4), .ref (v 5), .ref (v 6), .int 0, .ref (v 7), .int 0, .ref (v 8), .ref (v 9), .ref (v 10), .int 0, .int 0, .int 0, .int 0, .int 0, .int 0, .int 0, .int 0, .int 0, .ref (v 11), .ref (v 12), .ref (v 13), .ref (v 14), .int 0, .int 0, .int 0, .int 0, .int 0, .int 0, .int 0, .ref (v 15), .int 0, .ref (v 16), .ref (v 17), .int 0, .int 0, .ref (v 18), .ref (v 19), .ref (v 20), .ref (v 21), .int 0, .int 0])), ((v 1), .inl (cI, 14, .inl (fun _ => 0))), ((v 13), .inl (cI, 14, .inl (fun _ => 0))), ((v 14), .inl (cI, 61, .inl (fun _ => 0)))] H := hP
  replace hD : va_D (fun q : Nat => s.heap.size ≤ q) [(qn, .inr (8, [.int 800, .int 0, .int 0, .int 0, .int 0, .int 0, .int 0, .ref (v 0), .ref (v 1), .int 0, .ref (v 2), .ref (v 3), .ref (v 4), .ref (v 5), .ref (v 6), .int 0, .ref (v 7), .int 0, .ref (v 8), .ref (v 9), .ref (v 10), .int 0, .int 0, .int 0, .int 0, .int 0, .int 0, .int 0, .int 0, .int 0, .ref (v 11), .ref (v 12), .ref (v 13), .ref (v 14), .int 0, .int 0, .int 0, .int 0, .int 0, .int 0, .int 0, .ref (v 15), .int 0, .ref (v 16), .ref (v 17), .int 0, .int 0, .ref (v 18), .ref (v 19), .ref (v 20), .ref (v 21), .int 0, .int 0])), ((v 1), .inl (cI, 14, .inl (fun _ => 0))), ((v 13), .inl (cI, 14, .inl (fun _ => 0))), ((v 14), .inl (cI, 61, .inl (fun _ => 0)))] := hD
  rcases hq3 with ⟨rfl, hf3⟩ | ⟨rfl, hf3⟩ | ⟨rfl, hf3⟩
  · have hf3 : (xs 1).toInt = 0 ∨ (xs 1).toInt = 1 := hf3
    refine lv_aload_n hx hb dL_law_367 rfl (lv_at hl 1 rfl) ?_
    refine lv_aload_n hx hb dL_law_368 rfl (lv_at hl 3 rfl) ?_
    refine lv_iload_n hx hb dL_law_369 rfl (lv_at hl 0 rfl) ?_
    refine lv_iconst (v := 1) hx hb dL_law_370 (by decide) ?_
    refine lv_iadd hx hb dL_law_371 ?_
    refine lv_topi (fun x4 e4 => ?_)
    obtain rfl : x4 = 1 := e4.trans (by decide)
    refine va_sld hx hb hX hbl hbA hS (vin (by decide) (by decide)) dL_law_372 ?_
    refine lv_topi (fun y5 e5 => ?_)
    obtain rfl : y5 = xs 1 := e5
    refine mx_i (wr := []) (va_runV (As := [.int (xs 1)]) (rest := [.int (-6)]) ⟨hx, hb, hml, hown, hts⟩ (c_X8_judge l dC dI cI cZ cK tS aK aV qn (v 0) (v 1) (v 2) (v 3) (v 4) (v 5) (v 6) (v 7) (v 8) (v 9) (v 10) (v 11) (v 12) (v 13) (v 14) (v 15) (v 16) (v 17) (v 18) (v 19) (v 20) (v 21) (xs 1) H.size) (cwV 1 hts (gw_v (fun _ h9 => h9) wm_605 wm_606 wm_607 wm_385 wm_608) rfl rfl rfl (by decide +kernel) ⟨Nat.le_of_ble_eq_true rfl, Nat.le_of_ble_eq_true rfl⟩) (mx_preV (C := RX8) (T := TX8) (N := 53) (ci := 8) hKx hP hD hS hA [0, 2, 3, 1] (by decide) rfl rfl rfl) rfl rfl hl.1 rfl (lv_room (Nat.le_of_ble_eq_true rfl)) dL_law_373 ⟨Nat.le_of_ble_eq_true rfl, Nat.le_of_ble_eq_true rfl⟩) hP hD hS hA [0, 2, 3, 1] [] rfl rfl (by decide) (by decide) (fun r6 u6 H locs hq6 hP hD hS => ?_)
    replace hP : va_P (dC, dI) vwCl [] H := hP
    replace hD : va_D (fun q : Nat => s.heap.size ≤ q) [] := hD
    rcases hq6 with ⟨rfl, hf6⟩ | ⟨rfl, hf6⟩ | ⟨rfl, hf6⟩
    · have hf6 : (xs 1).toInt = 0 ∨ (xs 1).toInt = 1 := hf6
      refine lv_icmp_eq (tgt := 998) hx hb dL_law_376 (by decide) (fun c7 => ?_) (fun c7 => absurd c7 (by decide))
      refine lv_iinc (v := 5) (lv' := [(3, .int 5), (2, .ref qn), (1, .ref qx), (0, .ref b)]) hx hb dL_law_998 hl (k := 0) rfl (by decide) (by decide) rfl (fun ls hl => ?_)
      refine lv_goto (tgt := 18) hx hb dL_law_1001 (by decide) ?_
      refine lv_iload_n hx hb dL_law_18 rfl (lv_at hl 0 rfl) ?_
      refine lv_aload_n hx hb dL_law_19 rfl (lv_at hl 3 rfl) ?_
      refine va_slen hx hb hX hbl hbA hS dL_law_20 ?_
      refine lv_topi (fun x8 e8 => ?_)
      obtain rfl : x8 = 5 := e8.trans (by decide)
      refine lv_iconst (v := 5) hx hb dL_law_21 (by decide) ?_
      refine lv_isub hx hb dL_law_22 ?_
      refine lv_topi (fun x9 e9 => ?_)
      obtain rfl : x9 = 0 := e9.trans (by decide)
      refine lv_icmp_gt (tgt := 1004) hx hb dL_law_23 (by decide) (fun c10 => ?_) (fun c10 => absurd c10 (by decide))
      refine lv_iconst (v := 1) hx hb dL_law_1004 (by decide) ?_
      refine va_forget (fun q hq => hS.2.2 q hq) ?_
      refine W.widen (k := 600000) (n := 7302250) (Nat.le_of_ble_eq_true rfl) (Nat.le_of_ble_eq_true rfl) ?_
      exact lw_ret hx hb hr hlocks dL_law_1005
    · have hf6 : (xs 1).toInt = 2 ∨ (xs 1).toInt = 3 := hf6
      refine lv_icmp_eq (tgt := 998) hx hb dL_law_376 (by decide) (fun c11 => absurd c11 (by decide)) (fun c11 => ?_)
      refine lv_iconst (v := 0) hx hb dL_law_379 (by decide) ?_
      exfalso; omega
    · have hf6 : (xs 1).toInt < 0 ∨ 3 < (xs 1).toInt := hf6
      refine lv_icmp_eq (tgt := 998) hx hb dL_law_376 (by decide) (fun c12 => absurd c12 (by decide)) (fun c12 => ?_)
      refine lv_iconst (v := 0) hx hb dL_law_379 (by decide) ?_
      exfalso; omega
  · have hf3 : (xs 1).toInt = 2 ∨ (xs 1).toInt = 3 := hf3
    refine lv_aload_n hx hb dL_law_367 rfl (lv_at hl 1 rfl) ?_
    refine lv_aload_n hx hb dL_law_368 rfl (lv_at hl 3 rfl) ?_
    refine lv_iload_n hx hb dL_law_369 rfl (lv_at hl 0 rfl) ?_
    refine lv_iconst (v := 1) hx hb dL_law_370 (by decide) ?_
    refine lv_iadd hx hb dL_law_371 ?_
    refine lv_topi (fun x13 e13 => ?_)
    obtain rfl : x13 = 1 := e13.trans (by decide)
    refine va_sld hx hb hX hbl hbA hS (vin (by decide) (by decide)) dL_law_372 ?_
    refine lv_topi (fun y14 e14 => ?_)
    obtain rfl : y14 = xs 1 := e14
    refine mx_i (wr := []) (va_runV (As := [.int (xs 1)]) (rest := [.int 0]) ⟨hx, hb, hml, hown, hts⟩ (c_X8_judge l dC dI cI cZ cK tS aK aV qn (v 0) (v 1) (v 2) (v 3) (v 4) (v 5) (v 6) (v 7) (v 8) (v 9) (v 10) (v 11) (v 12) (v 13) (v 14) (v 15) (v 16) (v 17) (v 18) (v 19) (v 20) (v 21) (xs 1) H.size) (cwV 1 hts (gw_v (fun _ h9 => h9) wm_605 wm_606 wm_607 wm_385 wm_608) rfl rfl rfl (by decide +kernel) ⟨Nat.le_of_ble_eq_true rfl, Nat.le_of_ble_eq_true rfl⟩) (mx_preV (C := RX8) (T := TX8) (N := 53) (ci := 8) hKx hP hD hS hA [0, 2, 3, 1] (by decide) rfl rfl rfl) rfl rfl hl.1 rfl (lv_room (Nat.le_of_ble_eq_true rfl)) dL_law_373 ⟨Nat.le_of_ble_eq_true rfl, Nat.le_of_ble_eq_true rfl⟩) hP hD hS hA [0, 2, 3, 1] [] rfl rfl (by decide) (by decide) (fun r15 u15 H locs hq15 hP hD hS => ?_)
    replace hP : va_P (dC, dI) vwCl [] H := hP
    replace hD : va_D (fun q : Nat => s.heap.size ≤ q) [] := hD
    rcases hq15 with ⟨rfl, hf15⟩ | ⟨rfl, hf15⟩ | ⟨rfl, hf15⟩
    · have hf15 : (xs 1).toInt = 0 ∨ (xs 1).toInt = 1 := hf15
      refine lv_icmp_eq (tgt := 998) hx hb dL_law_376 (by decide) (fun c16 => absurd c16 (by decide)) (fun c16 => ?_)
      refine lv_iconst (v := 0) hx hb dL_law_379 (by decide) ?_
      exfalso; omega
    · have hf15 : (xs 1).toInt = 2 ∨ (xs 1).toInt = 3 := hf15
      refine lv_icmp_eq (tgt := 998) hx hb dL_law_376 (by decide) (fun c17 => ?_) (fun c17 => absurd c17 (by decide))
      refine lv_iinc (v := 5) (lv' := [(3, .int 5), (2, .ref qn), (1, .ref qx), (0, .ref b)]) hx hb dL_law_998 hl (k := 0) rfl (by decide) (by decide) rfl (fun ls hl => ?_)
      refine lv_goto (tgt := 18) hx hb dL_law_1001 (by decide) ?_
      refine lv_iload_n hx hb dL_law_18 rfl (lv_at hl 0 rfl) ?_
      refine lv_aload_n hx hb dL_law_19 rfl (lv_at hl 3 rfl) ?_
      refine va_slen hx hb hX hbl hbA hS dL_law_20 ?_
      refine lv_topi (fun x18 e18 => ?_)
      obtain rfl : x18 = 5 := e18.trans (by decide)
      refine lv_iconst (v := 5) hx hb dL_law_21 (by decide) ?_
      refine lv_isub hx hb dL_law_22 ?_
      refine lv_topi (fun x19 e19 => ?_)
      obtain rfl : x19 = 0 := e19.trans (by decide)
      refine lv_icmp_gt (tgt := 1004) hx hb dL_law_23 (by decide) (fun c20 => ?_) (fun c20 => absurd c20 (by decide))
      refine lv_iconst (v := 1) hx hb dL_law_1004 (by decide) ?_
      refine va_forget (fun q hq => hS.2.2 q hq) ?_
      refine W.widen (k := 600000) (n := 7302250) (Nat.le_of_ble_eq_true rfl) (Nat.le_of_ble_eq_true rfl) ?_
      exact lw_ret hx hb hr hlocks dL_law_1005
    · have hf15 : (xs 1).toInt < 0 ∨ 3 < (xs 1).toInt := hf15
      refine lv_icmp_eq (tgt := 998) hx hb dL_law_376 (by decide) (fun c21 => absurd c21 (by decide)) (fun c21 => ?_)
      refine lv_iconst (v := 0) hx hb dL_law_379 (by decide) ?_
      exfalso; omega
  · have hf3 : (xs 1).toInt < 0 ∨ 3 < (xs 1).toInt := hf3
    refine lv_aload_n hx hb dL_law_367 rfl (lv_at hl 1 rfl) ?_
    refine lv_aload_n hx hb dL_law_368 rfl (lv_at hl 3 rfl) ?_
    refine lv_iload_n hx hb dL_law_369 rfl (lv_at hl 0 rfl) ?_
    refine lv_iconst (v := 1) hx hb dL_law_370 (by decide) ?_
    refine lv_iadd hx hb dL_law_371 ?_
    refine lv_topi (fun x22 e22 => ?_)
    obtain rfl : x22 = 1 := e22.trans (by decide)
    refine va_sld hx hb hX hbl hbA hS (vin (by decide) (by decide)) dL_law_372 ?_
    refine lv_topi (fun y23 e23 => ?_)
    obtain rfl : y23 = xs 1 := e23
    refine mx_i (wr := []) (va_runV (As := [.int (xs 1)]) (rest := [.int (-2)]) ⟨hx, hb, hml, hown, hts⟩ (c_X8_judge l dC dI cI cZ cK tS aK aV qn (v 0) (v 1) (v 2) (v 3) (v 4) (v 5) (v 6) (v 7) (v 8) (v 9) (v 10) (v 11) (v 12) (v 13) (v 14) (v 15) (v 16) (v 17) (v 18) (v 19) (v 20) (v 21) (xs 1) H.size) (cwV 1 hts (gw_v (fun _ h9 => h9) wm_605 wm_606 wm_607 wm_385 wm_608) rfl rfl rfl (by decide +kernel) ⟨Nat.le_of_ble_eq_true rfl, Nat.le_of_ble_eq_true rfl⟩) (mx_preV (C := RX8) (T := TX8) (N := 53) (ci := 8) hKx hP hD hS hA [0, 2, 3, 1] (by decide) rfl rfl rfl) rfl rfl hl.1 rfl (lv_room (Nat.le_of_ble_eq_true rfl)) dL_law_373 ⟨Nat.le_of_ble_eq_true rfl, Nat.le_of_ble_eq_true rfl⟩) hP hD hS hA [0, 2, 3, 1] [] rfl rfl (by decide) (by decide) (fun r24 u24 H locs hq24 hP hD hS => ?_)
    replace hP : va_P (dC, dI) vwCl [] H := hP
    replace hD : va_D (fun q : Nat => s.heap.size ≤ q) [] := hD
    rcases hq24 with ⟨rfl, hf24⟩ | ⟨rfl, hf24⟩ | ⟨rfl, hf24⟩
    · have hf24 : (xs 1).toInt = 0 ∨ (xs 1).toInt = 1 := hf24
      refine lv_icmp_eq (tgt := 998) hx hb dL_law_376 (by decide) (fun c25 => absurd c25 (by decide)) (fun c25 => ?_)
      refine lv_iconst (v := 0) hx hb dL_law_379 (by decide) ?_
      exfalso; omega
    · have hf24 : (xs 1).toInt = 2 ∨ (xs 1).toInt = 3 := hf24
      refine lv_icmp_eq (tgt := 998) hx hb dL_law_376 (by decide) (fun c26 => absurd c26 (by decide)) (fun c26 => ?_)
      refine lv_iconst (v := 0) hx hb dL_law_379 (by decide) ?_
      exfalso; omega
    · have hf24 : (xs 1).toInt < 0 ∨ 3 < (xs 1).toInt := hf24
      refine lv_icmp_eq (tgt := 998) hx hb dL_law_376 (by decide) (fun c27 => ?_) (fun c27 => absurd c27 (by decide))
      refine lv_iinc (v := 5) (lv' := [(3, .int 5), (2, .ref qn), (1, .ref qx), (0, .ref b)]) hx hb dL_law_998 hl (k := 0) rfl (by decide) (by decide) rfl (fun ls hl => ?_)
      refine lv_goto (tgt := 18) hx hb dL_law_1001 (by decide) ?_
      refine lv_iload_n hx hb dL_law_18 rfl (lv_at hl 0 rfl) ?_
      refine lv_aload_n hx hb dL_law_19 rfl (lv_at hl 3 rfl) ?_
      refine va_slen hx hb hX hbl hbA hS dL_law_20 ?_
      refine lv_topi (fun x28 e28 => ?_)
      obtain rfl : x28 = 5 := e28.trans (by decide)
      refine lv_iconst (v := 5) hx hb dL_law_21 (by decide) ?_
      refine lv_isub hx hb dL_law_22 ?_
      refine lv_topi (fun x29 e29 => ?_)
      obtain rfl : x29 = 0 := e29.trans (by decide)
      refine lv_icmp_gt (tgt := 1004) hx hb dL_law_23 (by decide) (fun c30 => ?_) (fun c30 => absurd c30 (by decide))
      refine lv_iconst (v := 1) hx hb dL_law_1004 (by decide) ?_
      refine va_forget (fun q hq => hS.2.2 q hq) ?_
      refine W.widen (k := 600000) (n := 7302250) (Nat.le_of_ble_eq_true rfl) (Nat.le_of_ble_eq_true rfl) ?_
      exact lw_ret hx hb hr hlocks dL_law_1005
set_option maxHeartbeats 4000000 in
set_option maxRecDepth 100000 in
theorem lc_behind {p : Program} {e : Env} {s : State} {m : MethodId} {below : List Frame} {meth : Method} {c : Code} (l : Launch) {b : Nat} {xs : Nat → Int32} (C0 : lw_At p s m meth c b 5 xs) (dC : Nat → ClassId) (dI : Nat → Nat → Nat) (cI cZ cK : ClassId) (tS aK aV : Nat) (hKx : kx dC dI cI cZ cK tS aK aV (fun q : Nat => s.heap.size ≤ q) s) (qx qn : Nat) (u v : Nat → Nat) (H : Heap) (locs : List Loc) (hP : va_P (dC, dI) vwCl [(qx, .inr (7, [.ref (u 0), .ref (u 9), .ref (u 13), .ref (u 18), .ref (u 23), .ref (u 29), .ref (u 31), .ref (u 32), .ref (u 33), .ref (u 34)])), ((u 0), .inr (0, [.ref (u 1), .ref (u 2), .ref (u 3), .int (-6), .int 0, .int 0, .ref (u 4), .ref (u 5), .ref (u 6), .int 0, .ref (u 7), .ref (u 8)])), ((u 1), .inl (cI, 5, .inl (upd (fun _ => 0) 0 800))), ((u 2), .inl (cI, 14, .inl (fun _ => 0))), ((u 3), .inl (cZ, 14, .inl (fun _ => 0))), ((u 4), .inl (cI, 6, .inl (fun _ => 0))), ((u 5), .inl (cI, 6, .inl (fun _ => 0))), ((u 6), .inl (cI, 6, .inl (fun _ => 0))), ((u 7), .inl (cI, 8, .inl (fun _ => 0))), ((u 8), .inl (cI, 8, .inl (fun _ => 0))), ((u 9), .inr (4, [.ref (u 10), .int 0, .ref (u 11), .ref (u 12), .int 0, .int 0])), ((u 10), .inl (cI, 60, .inl (fun _ => 0))), ((u 11), .inl (cI, 60, .inl (fun _ => 0))), ((u 12), .inl (cI, 60, .inl (fun _ => 0))), ((u 13), .inr (1, [.ref (u 0), .ref (u 9), .ref (u 14), .ref (u 15), .ref (u 16), .ref (u 17), .int 0, .int 0, .int 0, .int 0, .int 0, .int 0, .int 0, .int 0])), ((u 14), .inl (cI, 60, .inl (fun _ => 0))), ((u 15), .inl (cI, 60, .inl (fun _ => 0))), ((u 16), .inl (cI, 60, .inl (fun _ => 0))), ((u 17), .inl (cI, 61, .inl (fun _ => 0))), ((u 18), .inr (3, [.ref (u 0), .ref (u 19), .int 0, .ref (u 20), .ref (u 21), .ref (u 22)])), ((u 19), .inl (cI, 6, .inl (fun _ => 0))), ((u 20), .inl (cI, 6, .inl (fun _ => 0))), ((u 21), .inl (cI, 6, .inl (fun _ => 0))), ((u 22), .inl (cI, 5, .inl (fun _ => 0))), ((u 23), .inr (5, [.ref (u 0), .ref (u 9), .ref (u 13), .ref (u 24), .ref (u 25), .ref (u 26), .ref (u 27), .ref (u 28), .int 0, .int 0, .int 0])), ((u 24), .inl (cI, 61, .inl (fun _ => 0))), ((u 25), .inl (cI, 61, .inl (fun _ => 0))), ((u 26), .inl (cI, 60, .inl (fun _ => 0))), ((u 27), .inl (cI, 60, .inl (fun _ => 0))), ((u 28), .inl (cI, 21, .inl (fun _ => 0))), ((u 29), .inr (2, [.ref (u 0), .ref (u 9), .ref (u 13), .ref (u 30), .long 0, .long 0])), ((u 30), .inl (cI, 60, .inl (fun _ => 0))), ((u 31), .inr (6, [.ref (u 0), .int 0, .int 0, .int 0])), ((u 32), .inl (cK, 2, .inr (.inr (.inr (.inr (va_up (va_up (fun _ => none) 0 (some (u 35))) 1 (some (u 44)))))))), ((u 33), .inl (cZ, 2, .inl (fun _ => 0))), ((u 34), .inl (cI, 4, .inl (fun _ => 0))), ((u 35), .inr (0, [.ref (u 36), .ref (u 37), .ref (u 38), .int (-6), .int 0, .int 0, .ref (u 39), .ref (u 40), .ref (u 41), .int 0, .ref (u 42), .ref (u 43)])), ((u 36), .inl (cI, 5, .inl (upd (fun _ => 0) 0 800))), ((u 37), .inl (cI, 14, .inl (fun _ => 0))), ((u 38), .inl (cZ, 14, .inl (fun _ => 0))), ((u 39), .inl (cI, 6, .inl (fun _ => 0))), ((u 40), .inl (cI, 6, .inl (fun _ => 0))), ((u 41), .inl (cI, 6, .inl (fun _ => 0))), ((u 42), .inl (cI, 8, .inl (fun _ => 0))), ((u 43), .inl (cI, 8, .inl (fun _ => 0))), ((u 44), .inr (0, [.ref (u 45), .ref (u 46), .ref (u 47), .int (-6), .int 0, .int 0, .ref (u 48), .ref (u 49), .ref (u 50), .int 0, .ref (u 51), .ref (u 52)])), ((u 45), .inl (cI, 5, .inl (upd (fun _ => 0) 0 800))), ((u 46), .inl (cI, 14, .inl (fun _ => 0))), ((u 47), .inl (cZ, 14, .inl (fun _ => 0))), ((u 48), .inl (cI, 6, .inl (fun _ => 0))), ((u 49), .inl (cI, 6, .inl (fun _ => 0))), ((u 50), .inl (cI, 6, .inl (fun _ => 0))), ((u 51), .inl (cI, 8, .inl (fun _ => 0))), ((u 52), .inl (cI, 8, .inl (fun _ => 0))), (qn, .inr (8, [.int 800, .int 0, .int 0, .int 0, .int 0, .int 0, .int 0, .ref (v 0), .ref (v 1), .int 0, .ref (v 2), .ref (v 3), .ref (v 4), .ref (v 5), .ref (v 6), .int 0, .ref (v 7), .int 0, .ref (v 8), .ref (v 9), .ref (v 10), .int 0, .int 0, .int 0, .int 0, .int 0, .int 0, .int 0, .int 0, .int 0, .ref (v 11), .ref (v 12), .ref (v 13), .ref (v 14), .int 0, .int 0, .int 0, .int 0, .int 0, .int 0, .int 0, .ref (v 15), .int 0, .ref (v 16), .ref (v 17), .int 0, .int 0, .ref (v 18), .ref (v 19), .ref (v 20), .ref (v 21), .int 0, .int 0])), ((v 0), .inl (cI, 14, .inl (fun _ => 0))), ((v 1), .inl (cI, 14, .inl (fun _ => 0))), ((v 2), .inl (cI, 6, .inl (fun _ => 0))), ((v 3), .inl (cI, 6, .inl (fun _ => 0))), ((v 4), .inl (cI, 6, .inl (fun _ => 0))), ((v 5), .inl (cI, 8, .inl (fun _ => 0))), ((v 6), .inl (cI, 8, .inl (fun _ => 0))), ((v 7), .inl (cI, 60, .inl (fun _ => 0))), ((v 8), .inl (cI, 60, .inl (fun _ => 0))), ((v 9), .inl (cI, 60, .inl (fun _ => 0))), ((v 10), .inl (cI, 60, .inl (fun _ => 0))), ((v 11), .inl (cI, 60, .inl (fun _ => 0))), ((v 12), .inl (cI, 60, .inl (fun _ => 0))), ((v 13), .inl (cI, 14, .inl (fun _ => 0))), ((v 14), .inl (cI, 61, .inl (fun _ => 0))), ((v 15), .inl (cI, 6, .inl (fun _ => 0))), ((v 16), .inl (cI, 6, .inl (fun _ => 0))), ((v 17), .inl (cI, 28, .inl (fun _ => 0))), ((v 18), .inl (cI, 1260, .inl (fun _ => 0))), ((v 19), .inl (cI, 4, .inl (fun _ => 0))), ((v 20), .inl (cI, 160, .inl (fun _ => 0))), ((v 21), .inl (cZ, 2, .inl (fun _ => 0)))] H) (hD : va_D (fun q : Nat => s.heap.size ≤ q) [(qx, .inr (7, [.ref (u 0), .ref (u 9), .ref (u 13), .ref (u 18), .ref (u 23), .ref (u 29), .ref (u 31), .ref (u 32), .ref (u 33), .ref (u 34)])), ((u 0), .inr (0, [.ref (u 1), .ref (u 2), .ref (u 3), .int (-6), .int 0, .int 0, .ref (u 4), .ref (u 5), .ref (u 6), .int 0, .ref (u 7), .ref (u 8)])), ((u 1), .inl (cI, 5, .inl (upd (fun _ => 0) 0 800))), ((u 2), .inl (cI, 14, .inl (fun _ => 0))), ((u 3), .inl (cZ, 14, .inl (fun _ => 0))), ((u 4), .inl (cI, 6, .inl (fun _ => 0))), ((u 5), .inl (cI, 6, .inl (fun _ => 0))), ((u 6), .inl (cI, 6, .inl (fun _ => 0))), ((u 7), .inl (cI, 8, .inl (fun _ => 0))), ((u 8), .inl (cI, 8, .inl (fun _ => 0))), ((u 9), .inr (4, [.ref (u 10), .int 0, .ref (u 11), .ref (u 12), .int 0, .int 0])), ((u 10), .inl (cI, 60, .inl (fun _ => 0))), ((u 11), .inl (cI, 60, .inl (fun _ => 0))), ((u 12), .inl (cI, 60, .inl (fun _ => 0))), ((u 13), .inr (1, [.ref (u 0), .ref (u 9), .ref (u 14), .ref (u 15), .ref (u 16), .ref (u 17), .int 0, .int 0, .int 0, .int 0, .int 0, .int 0, .int 0, .int 0])), ((u 14), .inl (cI, 60, .inl (fun _ => 0))), ((u 15), .inl (cI, 60, .inl (fun _ => 0))), ((u 16), .inl (cI, 60, .inl (fun _ => 0))), ((u 17), .inl (cI, 61, .inl (fun _ => 0))), ((u 18), .inr (3, [.ref (u 0), .ref (u 19), .int 0, .ref (u 20), .ref (u 21), .ref (u 22)])), ((u 19), .inl (cI, 6, .inl (fun _ => 0))), ((u 20), .inl (cI, 6, .inl (fun _ => 0))), ((u 21), .inl (cI, 6, .inl (fun _ => 0))), ((u 22), .inl (cI, 5, .inl (fun _ => 0))), ((u 23), .inr (5, [.ref (u 0), .ref (u 9), .ref (u 13), .ref (u 24), .ref (u 25), .ref (u 26), .ref (u 27), .ref (u 28), .int 0, .int 0, .int 0])), ((u 24), .inl (cI, 61, .inl (fun _ => 0))), ((u 25), .inl (cI, 61, .inl (fun _ => 0))), ((u 26), .inl (cI, 60, .inl (fun _ => 0))), ((u 27), .inl (cI, 60, .inl (fun _ => 0))), ((u 28), .inl (cI, 21, .inl (fun _ => 0))), ((u 29), .inr (2, [.ref (u 0), .ref (u 9), .ref (u 13), .ref (u 30), .long 0, .long 0])), ((u 30), .inl (cI, 60, .inl (fun _ => 0))), ((u 31), .inr (6, [.ref (u 0), .int 0, .int 0, .int 0])), ((u 32), .inl (cK, 2, .inr (.inr (.inr (.inr (va_up (va_up (fun _ => none) 0 (some (u 35))) 1 (some (u 44)))))))), ((u 33), .inl (cZ, 2, .inl (fun _ => 0))), ((u 34), .inl (cI, 4, .inl (fun _ => 0))), ((u 35), .inr (0, [.ref (u 36), .ref (u 37), .ref (u 38), .int (-6), .int 0, .int 0, .ref (u 39), .ref (u 40), .ref (u 41), .int 0, .ref (u 42), .ref (u 43)])), ((u 36), .inl (cI, 5, .inl (upd (fun _ => 0) 0 800))), ((u 37), .inl (cI, 14, .inl (fun _ => 0))), ((u 38), .inl (cZ, 14, .inl (fun _ => 0))), ((u 39), .inl (cI, 6, .inl (fun _ => 0))), ((u 40), .inl (cI, 6, .inl (fun _ => 0))), ((u 41), .inl (cI, 6, .inl (fun _ => 0))), ((u 42), .inl (cI, 8, .inl (fun _ => 0))), ((u 43), .inl (cI, 8, .inl (fun _ => 0))), ((u 44), .inr (0, [.ref (u 45), .ref (u 46), .ref (u 47), .int (-6), .int 0, .int 0, .ref (u 48), .ref (u 49), .ref (u 50), .int 0, .ref (u 51), .ref (u 52)])), ((u 45), .inl (cI, 5, .inl (upd (fun _ => 0) 0 800))), ((u 46), .inl (cI, 14, .inl (fun _ => 0))), ((u 47), .inl (cZ, 14, .inl (fun _ => 0))), ((u 48), .inl (cI, 6, .inl (fun _ => 0))), ((u 49), .inl (cI, 6, .inl (fun _ => 0))), ((u 50), .inl (cI, 6, .inl (fun _ => 0))), ((u 51), .inl (cI, 8, .inl (fun _ => 0))), ((u 52), .inl (cI, 8, .inl (fun _ => 0))), (qn, .inr (8, [.int 800, .int 0, .int 0, .int 0, .int 0, .int 0, .int 0, .ref (v 0), .ref (v 1), .int 0, .ref (v 2), .ref (v 3), .ref (v 4), .ref (v 5), .ref (v 6), .int 0, .ref (v 7), .int 0, .ref (v 8), .ref (v 9), .ref (v 10), .int 0, .int 0, .int 0, .int 0, .int 0, .int 0, .int 0, .int 0, .int 0, .ref (v 11), .ref (v 12), .ref (v 13), .ref (v 14), .int 0, .int 0, .int 0, .int 0, .int 0, .int 0, .int 0, .ref (v 15), .int 0, .ref (v 16), .ref (v 17), .int 0, .int 0, .ref (v 18), .ref (v 19), .ref (v 20), .ref (v 21), .int 0, .int 0])), ((v 0), .inl (cI, 14, .inl (fun _ => 0))), ((v 1), .inl (cI, 14, .inl (fun _ => 0))), ((v 2), .inl (cI, 6, .inl (fun _ => 0))), ((v 3), .inl (cI, 6, .inl (fun _ => 0))), ((v 4), .inl (cI, 6, .inl (fun _ => 0))), ((v 5), .inl (cI, 8, .inl (fun _ => 0))), ((v 6), .inl (cI, 8, .inl (fun _ => 0))), ((v 7), .inl (cI, 60, .inl (fun _ => 0))), ((v 8), .inl (cI, 60, .inl (fun _ => 0))), ((v 9), .inl (cI, 60, .inl (fun _ => 0))), ((v 10), .inl (cI, 60, .inl (fun _ => 0))), ((v 11), .inl (cI, 60, .inl (fun _ => 0))), ((v 12), .inl (cI, 60, .inl (fun _ => 0))), ((v 13), .inl (cI, 14, .inl (fun _ => 0))), ((v 14), .inl (cI, 61, .inl (fun _ => 0))), ((v 15), .inl (cI, 6, .inl (fun _ => 0))), ((v 16), .inl (cI, 6, .inl (fun _ => 0))), ((v 17), .inl (cI, 28, .inl (fun _ => 0))), ((v 18), .inl (cI, 1260, .inl (fun _ => 0))), ((v 19), .inl (cI, 4, .inl (fun _ => 0))), ((v 20), .inl (cI, 160, .inl (fun _ => 0))), ((v 21), .inl (cZ, 2, .inl (fun _ => 0)))]) (hS : va_S (fun q : Nat => s.heap.size ≤ q) s.heap H locs) (ls : Array Slot) (hl : lv_has ls 4 [(3, .int 0), (2, .ref qn), (1, .ref qx), (0, .ref b)]) : W p l e room_1 s m #[Value.ref b] below meth c H locs 77 3085 (lw_Z below #[Value.ref b] s) (F0 m 381 ls []) := by
  obtain ⟨hx, hb, hr, hml, hown, hts, hX, hbl, hlocks, hgv⟩ := C0
  have hts := fun w h => hts w (wsL_law_in w h)
  have hown : s.vm.findClass RL = some m.cls := hown
  have hA : ∀ q : Nat, s.heap.size ≤ q → (fun q : Nat => s.heap.size ≤ q) q := fun _ h => h
  have hbA : ¬ (fun q : Nat => s.heap.size ≤ q) b := Nat.not_le.mpr hbl
  have hK := hKx.1
  replace hP := mx_subP (wc := [(qx, .inr (7, [.ref (u 0), .ref (u 9), .ref (u 13), .ref (u 18), .ref (u 23), .ref (u 29), .ref (u 31), .ref (u 32), .ref (u 33), .ref (u 34)])), ((u 0), .inr (0, [.ref (u 1), .ref (u 2), .ref (u 3), .int (-6), .int 0, .int 0, .ref (u 4), .ref (u 5), .ref (u 6), .int 0, .ref (u 7), .ref (u 8)])), ((u 1), .inl (cI, 5, .inl (upd (fun _ => 0) 0 800))), ((u 3), .inl (cZ, 14, .inl (fun _ => 0))), ((u 9), .inr (4, [.ref (u 10), .int 0, .ref (u 11), .ref (u 12), .int 0, .int 0])), ((u 13), .inr (1, [.ref (u 0), .ref (u 9), .ref (u 14), .ref (u 15), .ref (u 16), .ref (u 17), .int 0, .int 0, .int 0, .int 0, .int 0, .int 0, .int 0, .int 0])), ((u 17), .inl (cI, 61, .inl (fun _ => 0))), (qn, .inr (8, [.int 800, .int 0, .int 0, .int 0, .int 0, .int 0, .int 0, .ref (v 0), .ref (v 1), .int 0, .ref (v 2), .ref (v 3), .ref (v 4), .ref (v 5), .ref (v 6), .int 0, .ref (v 7), .int 0, .ref (v 8), .ref (v 9), .ref (v 10), .int 0, .int 0, .int 0, .int 0, .int 0, .int 0, .int 0, .int 0, .int 0, .ref (v 11), .ref (v 12), .ref (v 13), .ref (v 14), .int 0, .int 0, .int 0, .int 0, .int 0, .int 0, .int 0, .ref (v 15), .int 0, .ref (v 16), .ref (v 17), .int 0, .int 0, .ref (v 18), .ref (v 19), .ref (v 20), .ref (v 21), .int 0, .int 0])), ((v 1), .inl (cI, 14, .inl (fun _ => 0))), ((v 13), .inl (cI, 14, .inl (fun _ => 0))), ((v 14), .inl (cI, 61, .inl (fun _ => 0)))]) hP [0, 1, 2, 4, 10, 14, 18, 54, 56, 68, 69] rfl
  replace hD := hD.sub (ws' := [(qx, .inr (7, [.ref (u 0), .ref (u 9), .ref (u 13), .ref (u 18), .ref (u 23), .ref (u 29), .ref (u 31), .ref (u 32), .ref (u 33), .ref (u 34)])), ((u 0), .inr (0, [.ref (u 1), .ref (u 2), .ref (u 3), .int (-6), .int 0, .int 0, .ref (u 4), .ref (u 5), .ref (u 6), .int 0, .ref (u 7), .ref (u 8)])), ((u 1), .inl (cI, 5, .inl (upd (fun _ => 0) 0 800))), ((u 3), .inl (cZ, 14, .inl (fun _ => 0))), ((u 9), .inr (4, [.ref (u 10), .int 0, .ref (u 11), .ref (u 12), .int 0, .int 0])), ((u 13), .inr (1, [.ref (u 0), .ref (u 9), .ref (u 14), .ref (u 15), .ref (u 16), .ref (u 17), .int 0, .int 0, .int 0, .int 0, .int 0, .int 0, .int 0, .int 0])), ((u 17), .inl (cI, 61, .inl (fun _ => 0))), (qn, .inr (8, [.int 800, .int 0, .int 0, .int 0, .int 0, .int 0, .int 0, .ref (v 0), .ref (v 1), .int 0, .ref (v 2), .ref (v 3), .ref (v 4), .ref (v 5), .ref (v 6), .int 0, .ref (v 7), .int 0, .ref (v 8), .ref (v 9), .ref (v 10), .int 0, .int 0, .int 0, .int 0, .int 0, .int 0, .int 0, .int 0, .int 0, .ref (v 11), .ref (v 12), .ref (v 13), .ref (v 14), .int 0, .int 0, .int 0, .int 0, .int 0, .int 0, .int 0, .ref (v 15), .int 0, .ref (v 16), .ref (v 17), .int 0, .int 0, .ref (v 18), .ref (v 19), .ref (v 20), .ref (v 21), .int 0, .int 0])), ((v 1), .inl (cI, 14, .inl (fun _ => 0))), ((v 13), .inl (cI, 14, .inl (fun _ => 0))), ((v 14), .inl (cI, 61, .inl (fun _ => 0)))]) [0, 1, 2, 4, 10, 14, 18, 54, 56, 68, 69] (by decide) rfl
  refine lv_aload_n hx hb dL_law_381 rfl (lv_at hl 2 rfl) ?_
  refine lv_aload_n hx hb dL_law_382 rfl (lv_at hl 3 rfl) ?_
  refine lv_iload_n hx hb dL_law_383 rfl (lv_at hl 0 rfl) ?_
  refine lv_iconst (v := 1) hx hb dL_law_384 (by decide) ?_
  refine lv_iadd hx hb dL_law_385 ?_
  refine lv_topi (fun x1 e1 => ?_)
  obtain rfl : x1 = 1 := e1.trans (by decide)
  refine va_sld hx hb hX hbl hbA hS (vin (by decide) (by decide)) dL_law_386 ?_
  refine lv_topi (fun y2 e2 => ?_)
  obtain rfl : y2 = xs 1 := e2
  refine mx_i (wr := [(qn, .inr (8, [.int 800, .int 0, .int 0, .int 0, .int 0, .int 0, .int 0, .ref (v 0), .ref (v 1), .int 0, .ref (v 2), .ref (v 3), .ref (v 4), .ref (v 5), .ref (v 6), .int 0, .ref (v 7), .int 0, .ref (v 8), .ref (v 9), .ref (v 10), .int 0, .int 0, .int 0, .int 0, .int 0, .int 0, .int 0, .int 0, .int 0, .ref (v 11), .ref (v 12), .ref (v 13), .ref (v 14), .int 0, .int 0, .int 0, .int 0, .int 0, .int 0, .int 0, .ref (v 15), .int 0, .ref (v 16), .ref (v 17), .int 0, .int 0, .ref (v 18), .ref (v 19), .ref (v 20), .ref (v 21), .int 0, .int 0])), ((v 1), .inl (cI, 14, .inl (fun _ => 0))), ((v 13), .inl (cI, 14, .inl (fun _ => 0))), ((v 14), .inl (cI, 61, .inl (fun _ => 0)))]) (va_runV (As := [.int (xs 1)]) (rest := []) ⟨hx, hb, hml, hown, hts⟩ (c_X7_behind l dC dI cI cZ cK tS aK aV qx (u 18) (u 23) (u 29) (u 31) (u 32) (u 33) (u 34) (u 13) (u 14) (u 15) (u 16) (u 17) (u 0) (u 1) (u 2) (u 3) (u 4) (u 5) (u 6) (u 7) (u 8) (u 9) (u 10) (u 11) (u 12) (xs 1) H.size) (cwV 1 hts (gw_v (fun _ h9 => h9) wm_609 wm_610 wm_611 wm_2 wm_612) rfl rfl rfl (by decide +kernel) ⟨Nat.le_of_ble_eq_true rfl, Nat.le_of_ble_eq_true rfl⟩) (mx_preV (C := RX7) (T := TX7) (N := 10) (ci := 7) hKx hP hD hS hA [0, 4, 5, 6, 1, 2, 3] (by decide) rfl rfl rfl) rfl rfl hl.1 rfl (lv_room (Nat.le_of_ble_eq_true rfl)) dL_law_387 ⟨Nat.le_of_ble_eq_true rfl, Nat.le_of_ble_eq_true rfl⟩) hP hD hS hA [0, 4, 5, 6, 1, 2, 3] [7, 8, 9, 10] rfl rfl (by decide) (by decide) (fun r3 u3 H locs hq3 hP hD hS => ?_)
  replace hP : va_P (dC, dI) vwCl [(qn, .inr (8, [.int 800, .int 0, .int 0, .int 0, .int 0, .int 0, .int 0, .ref (v 0), .ref (v 1), .int 0, .ref (v 2), .ref (v 3), .ref (v 4), .ref (v 5), .ref (v 6), .int 0, .ref (v 7), .int 0, .ref (v 8), .ref (v 9), .ref (v 10), .int 0, .int 0, .int 0, .int 0, .int 0, .int 0, .int 0, .int 0, .int 0, .ref (v 11), .ref (v 12), .ref (v 13), .ref (v 14), .int 0, .int 0, .int 0, .int 0, .int 0, .int 0, .int 0, .ref (v 15), .int 0, .ref (v 16), .ref (v 17), .int 0, .int 0, .ref (v 18), .ref (v 19), .ref (v 20), .ref (v 21), .int 0, .int 0])), ((v 1), .inl (cI, 14, .inl (fun _ => 0))), ((v 13), .inl (cI, 14, .inl (fun _ => 0))), ((v 14), .inl (cI, 61, .inl (fun _ => 0)))] H := hP
  replace hD : va_D (fun q : Nat => s.heap.size ≤ q) [(qn, .inr (8, [.int 800, .int 0, .int 0, .int 0, .int 0, .int 0, .int 0, .ref (v 0), .ref (v 1), .int 0, .ref (v 2), .ref (v 3), .ref (v 4), .ref (v 5), .ref (v 6), .int 0, .ref (v 7), .int 0, .ref (v 8), .ref (v 9), .ref (v 10), .int 0, .int 0, .int 0, .int 0, .int 0, .int 0, .int 0, .int 0, .int 0, .ref (v 11), .ref (v 12), .ref (v 13), .ref (v 14), .int 0, .int 0, .int 0, .int 0, .int 0, .int 0, .int 0, .ref (v 15), .int 0, .ref (v 16), .ref (v 17), .int 0, .int 0, .ref (v 18), .ref (v 19), .ref (v 20), .ref (v 21), .int 0, .int 0])), ((v 1), .inl (cI, 14, .inl (fun _ => 0))), ((v 13), .inl (cI, 14, .inl (fun _ => 0))), ((v 14), .inl (cI, 61, .inl (fun _ => 0)))] := hD
  rcases hq3 with ⟨rfl, hf3⟩ | ⟨rfl, hf3⟩ | ⟨rfl, hf3⟩
  · have hf3 : (xs 1).toInt = 0 := hf3
    refine lv_aload_n hx hb dL_law_390 rfl (lv_at hl 1 rfl) ?_
    refine lv_aload_n hx hb dL_law_391 rfl (lv_at hl 3 rfl) ?_
    refine lv_iload_n hx hb dL_law_392 rfl (lv_at hl 0 rfl) ?_
    refine lv_iconst (v := 1) hx hb dL_law_393 (by decide) ?_
    refine lv_iadd hx hb dL_law_394 ?_
    refine lv_topi (fun x4 e4 => ?_)
    obtain rfl : x4 = 1 := e4.trans (by decide)
    refine va_sld hx hb hX hbl hbA hS (vin (by decide) (by decide)) dL_law_395 ?_
    refine lv_topi (fun y5 e5 => ?_)
    obtain rfl : y5 = xs 1 := e5
    refine mx_i (wr := []) (va_runV (As := [.int (xs 1)]) (rest := [.int 800]) ⟨hx, hb, hml, hown, hts⟩ (c_X8_behind l dC dI cI cZ cK tS aK aV qn (v 0) (v 1) (v 2) (v 3) (v 4) (v 5) (v 6) (v 7) (v 8) (v 9) (v 10) (v 11) (v 12) (v 13) (v 14) (v 15) (v 16) (v 17) (v 18) (v 19) (v 20) (v 21) (xs 1) H.size) (cwV 1 hts (gw_v (fun _ h9 => h9) wm_613 wm_614 wm_615 wm_385 wm_616) rfl rfl rfl (by decide +kernel) ⟨Nat.le_of_ble_eq_true rfl, Nat.le_of_ble_eq_true rfl⟩) (mx_preV (C := RX8) (T := TX8) (N := 53) (ci := 8) hKx hP hD hS hA [0, 2, 3, 1] (by decide) rfl rfl rfl) rfl rfl hl.1 rfl (lv_room (Nat.le_of_ble_eq_true rfl)) dL_law_396 ⟨Nat.le_of_ble_eq_true rfl, Nat.le_of_ble_eq_true rfl⟩) hP hD hS hA [0, 2, 3, 1] [] rfl rfl (by decide) (by decide) (fun r6 u6 H locs hq6 hP hD hS => ?_)
    replace hP : va_P (dC, dI) vwCl [] H := hP
    replace hD : va_D (fun q : Nat => s.heap.size ≤ q) [] := hD
    rcases hq6 with ⟨rfl, hf6⟩ | ⟨rfl, hf6⟩ | ⟨rfl, hf6⟩
    · have hf6 : (xs 1).toInt = 0 := hf6
      refine lv_icmp_eq (tgt := 998) hx hb dL_law_399 (by decide) (fun c7 => ?_) (fun c7 => absurd c7 (by decide))
      refine lv_iinc (v := 5) (lv' := [(3, .int 5), (2, .ref qn), (1, .ref qx), (0, .ref b)]) hx hb dL_law_998 hl (k := 0) rfl (by decide) (by decide) rfl (fun ls hl => ?_)
      refine lv_goto (tgt := 18) hx hb dL_law_1001 (by decide) ?_
      refine lv_iload_n hx hb dL_law_18 rfl (lv_at hl 0 rfl) ?_
      refine lv_aload_n hx hb dL_law_19 rfl (lv_at hl 3 rfl) ?_
      refine va_slen hx hb hX hbl hbA hS dL_law_20 ?_
      refine lv_topi (fun x8 e8 => ?_)
      obtain rfl : x8 = 5 := e8.trans (by decide)
      refine lv_iconst (v := 5) hx hb dL_law_21 (by decide) ?_
      refine lv_isub hx hb dL_law_22 ?_
      refine lv_topi (fun x9 e9 => ?_)
      obtain rfl : x9 = 0 := e9.trans (by decide)
      refine lv_icmp_gt (tgt := 1004) hx hb dL_law_23 (by decide) (fun c10 => ?_) (fun c10 => absurd c10 (by decide))
      refine lv_iconst (v := 1) hx hb dL_law_1004 (by decide) ?_
      refine va_forget (fun q hq => hS.2.2 q hq) ?_
      refine W.widen (k := 600000) (n := 7302250) (Nat.le_of_ble_eq_true rfl) (Nat.le_of_ble_eq_true rfl) ?_
      exact lw_ret hx hb hr hlocks dL_law_1005
    · have hf6 : (xs 1).toInt = 1 ∨ (xs 1).toInt = 2 := hf6
      refine lv_icmp_eq (tgt := 998) hx hb dL_law_399 (by decide) (fun c11 => absurd c11 (by decide)) (fun c11 => ?_)
      refine lv_iconst (v := 0) hx hb dL_law_402 (by decide) ?_
      exfalso; omega
    · have hf6 : (xs 1).toInt < 0 ∨ 2 < (xs 1).toInt := hf6
      refine lv_icmp_eq (tgt := 998) hx hb dL_law_399 (by decide) (fun c12 => absurd c12 (by decide)) (fun c12 => ?_)
      refine lv_iconst (v := 0) hx hb dL_law_402 (by decide) ?_
      exfalso; omega
  · have hf3 : (xs 1).toInt = 1 ∨ (xs 1).toInt = 2 := hf3
    refine lv_aload_n hx hb dL_law_390 rfl (lv_at hl 1 rfl) ?_
    refine lv_aload_n hx hb dL_law_391 rfl (lv_at hl 3 rfl) ?_
    refine lv_iload_n hx hb dL_law_392 rfl (lv_at hl 0 rfl) ?_
    refine lv_iconst (v := 1) hx hb dL_law_393 (by decide) ?_
    refine lv_iadd hx hb dL_law_394 ?_
    refine lv_topi (fun x13 e13 => ?_)
    obtain rfl : x13 = 1 := e13.trans (by decide)
    refine va_sld hx hb hX hbl hbA hS (vin (by decide) (by decide)) dL_law_395 ?_
    refine lv_topi (fun y14 e14 => ?_)
    obtain rfl : y14 = xs 1 := e14
    refine mx_i (wr := []) (va_runV (As := [.int (xs 1)]) (rest := [.int 0]) ⟨hx, hb, hml, hown, hts⟩ (c_X8_behind l dC dI cI cZ cK tS aK aV qn (v 0) (v 1) (v 2) (v 3) (v 4) (v 5) (v 6) (v 7) (v 8) (v 9) (v 10) (v 11) (v 12) (v 13) (v 14) (v 15) (v 16) (v 17) (v 18) (v 19) (v 20) (v 21) (xs 1) H.size) (cwV 1 hts (gw_v (fun _ h9 => h9) wm_613 wm_614 wm_615 wm_385 wm_616) rfl rfl rfl (by decide +kernel) ⟨Nat.le_of_ble_eq_true rfl, Nat.le_of_ble_eq_true rfl⟩) (mx_preV (C := RX8) (T := TX8) (N := 53) (ci := 8) hKx hP hD hS hA [0, 2, 3, 1] (by decide) rfl rfl rfl) rfl rfl hl.1 rfl (lv_room (Nat.le_of_ble_eq_true rfl)) dL_law_396 ⟨Nat.le_of_ble_eq_true rfl, Nat.le_of_ble_eq_true rfl⟩) hP hD hS hA [0, 2, 3, 1] [] rfl rfl (by decide) (by decide) (fun r15 u15 H locs hq15 hP hD hS => ?_)
    replace hP : va_P (dC, dI) vwCl [] H := hP
    replace hD : va_D (fun q : Nat => s.heap.size ≤ q) [] := hD
    rcases hq15 with ⟨rfl, hf15⟩ | ⟨rfl, hf15⟩ | ⟨rfl, hf15⟩
    · have hf15 : (xs 1).toInt = 0 := hf15
      refine lv_icmp_eq (tgt := 998) hx hb dL_law_399 (by decide) (fun c16 => absurd c16 (by decide)) (fun c16 => ?_)
      refine lv_iconst (v := 0) hx hb dL_law_402 (by decide) ?_
      exfalso; omega
    · have hf15 : (xs 1).toInt = 1 ∨ (xs 1).toInt = 2 := hf15
      refine lv_icmp_eq (tgt := 998) hx hb dL_law_399 (by decide) (fun c17 => ?_) (fun c17 => absurd c17 (by decide))
      refine lv_iinc (v := 5) (lv' := [(3, .int 5), (2, .ref qn), (1, .ref qx), (0, .ref b)]) hx hb dL_law_998 hl (k := 0) rfl (by decide) (by decide) rfl (fun ls hl => ?_)
      refine lv_goto (tgt := 18) hx hb dL_law_1001 (by decide) ?_
      refine lv_iload_n hx hb dL_law_18 rfl (lv_at hl 0 rfl) ?_
      refine lv_aload_n hx hb dL_law_19 rfl (lv_at hl 3 rfl) ?_
      refine va_slen hx hb hX hbl hbA hS dL_law_20 ?_
      refine lv_topi (fun x18 e18 => ?_)
      obtain rfl : x18 = 5 := e18.trans (by decide)
      refine lv_iconst (v := 5) hx hb dL_law_21 (by decide) ?_
      refine lv_isub hx hb dL_law_22 ?_
      refine lv_topi (fun x19 e19 => ?_)
      obtain rfl : x19 = 0 := e19.trans (by decide)
      refine lv_icmp_gt (tgt := 1004) hx hb dL_law_23 (by decide) (fun c20 => ?_) (fun c20 => absurd c20 (by decide))
      refine lv_iconst (v := 1) hx hb dL_law_1004 (by decide) ?_
      refine va_forget (fun q hq => hS.2.2 q hq) ?_
      refine W.widen (k := 600000) (n := 7302250) (Nat.le_of_ble_eq_true rfl) (Nat.le_of_ble_eq_true rfl) ?_
      exact lw_ret hx hb hr hlocks dL_law_1005
    · have hf15 : (xs 1).toInt < 0 ∨ 2 < (xs 1).toInt := hf15
      refine lv_icmp_eq (tgt := 998) hx hb dL_law_399 (by decide) (fun c21 => absurd c21 (by decide)) (fun c21 => ?_)
      refine lv_iconst (v := 0) hx hb dL_law_402 (by decide) ?_
      exfalso; omega
  · have hf3 : (xs 1).toInt < 0 ∨ 2 < (xs 1).toInt := hf3
    refine lv_aload_n hx hb dL_law_390 rfl (lv_at hl 1 rfl) ?_
    refine lv_aload_n hx hb dL_law_391 rfl (lv_at hl 3 rfl) ?_
    refine lv_iload_n hx hb dL_law_392 rfl (lv_at hl 0 rfl) ?_
    refine lv_iconst (v := 1) hx hb dL_law_393 (by decide) ?_
    refine lv_iadd hx hb dL_law_394 ?_
    refine lv_topi (fun x22 e22 => ?_)
    obtain rfl : x22 = 1 := e22.trans (by decide)
    refine va_sld hx hb hX hbl hbA hS (vin (by decide) (by decide)) dL_law_395 ?_
    refine lv_topi (fun y23 e23 => ?_)
    obtain rfl : y23 = xs 1 := e23
    refine mx_i (wr := []) (va_runV (As := [.int (xs 1)]) (rest := [.int (-2)]) ⟨hx, hb, hml, hown, hts⟩ (c_X8_behind l dC dI cI cZ cK tS aK aV qn (v 0) (v 1) (v 2) (v 3) (v 4) (v 5) (v 6) (v 7) (v 8) (v 9) (v 10) (v 11) (v 12) (v 13) (v 14) (v 15) (v 16) (v 17) (v 18) (v 19) (v 20) (v 21) (xs 1) H.size) (cwV 1 hts (gw_v (fun _ h9 => h9) wm_613 wm_614 wm_615 wm_385 wm_616) rfl rfl rfl (by decide +kernel) ⟨Nat.le_of_ble_eq_true rfl, Nat.le_of_ble_eq_true rfl⟩) (mx_preV (C := RX8) (T := TX8) (N := 53) (ci := 8) hKx hP hD hS hA [0, 2, 3, 1] (by decide) rfl rfl rfl) rfl rfl hl.1 rfl (lv_room (Nat.le_of_ble_eq_true rfl)) dL_law_396 ⟨Nat.le_of_ble_eq_true rfl, Nat.le_of_ble_eq_true rfl⟩) hP hD hS hA [0, 2, 3, 1] [] rfl rfl (by decide) (by decide) (fun r24 u24 H locs hq24 hP hD hS => ?_)
    replace hP : va_P (dC, dI) vwCl [] H := hP
    replace hD : va_D (fun q : Nat => s.heap.size ≤ q) [] := hD
    rcases hq24 with ⟨rfl, hf24⟩ | ⟨rfl, hf24⟩ | ⟨rfl, hf24⟩
    · have hf24 : (xs 1).toInt = 0 := hf24
      refine lv_icmp_eq (tgt := 998) hx hb dL_law_399 (by decide) (fun c25 => absurd c25 (by decide)) (fun c25 => ?_)
      refine lv_iconst (v := 0) hx hb dL_law_402 (by decide) ?_
      exfalso; omega
    · have hf24 : (xs 1).toInt = 1 ∨ (xs 1).toInt = 2 := hf24
      refine lv_icmp_eq (tgt := 998) hx hb dL_law_399 (by decide) (fun c26 => absurd c26 (by decide)) (fun c26 => ?_)
      refine lv_iconst (v := 0) hx hb dL_law_402 (by decide) ?_
      exfalso; omega
    · have hf24 : (xs 1).toInt < 0 ∨ 2 < (xs 1).toInt := hf24
      refine lv_icmp_eq (tgt := 998) hx hb dL_law_399 (by decide) (fun c27 => ?_) (fun c27 => absurd c27 (by decide))
      refine lv_iinc (v := 5) (lv' := [(3, .int 5), (2, .ref qn), (1, .ref qx), (0, .ref b)]) hx hb dL_law_998 hl (k := 0) rfl (by decide) (by decide) rfl (fun ls hl => ?_)
      refine lv_goto (tgt := 18) hx hb dL_law_1001 (by decide) ?_
      refine lv_iload_n hx hb dL_law_18 rfl (lv_at hl 0 rfl) ?_
      refine lv_aload_n hx hb dL_law_19 rfl (lv_at hl 3 rfl) ?_
      refine va_slen hx hb hX hbl hbA hS dL_law_20 ?_
      refine lv_topi (fun x28 e28 => ?_)
      obtain rfl : x28 = 5 := e28.trans (by decide)
      refine lv_iconst (v := 5) hx hb dL_law_21 (by decide) ?_
      refine lv_isub hx hb dL_law_22 ?_
      refine lv_topi (fun x29 e29 => ?_)
      obtain rfl : x29 = 0 := e29.trans (by decide)
      refine lv_icmp_gt (tgt := 1004) hx hb dL_law_23 (by decide) (fun c30 => ?_) (fun c30 => absurd c30 (by decide))
      refine lv_iconst (v := 1) hx hb dL_law_1004 (by decide) ?_
      refine va_forget (fun q hq => hS.2.2 q hq) ?_
      refine W.widen (k := 600000) (n := 7302250) (Nat.le_of_ble_eq_true rfl) (Nat.le_of_ble_eq_true rfl) ?_
      exact lw_ret hx hb hr hlocks dL_law_1005
