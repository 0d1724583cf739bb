set_option maxHeartbeats 4000000 in
set_option maxRecDepth 100000 in
theorem lc_set {p : Program} {e : Env} {s : State} {m : MethodId} {below : List Frame} {meth : Method} {c : Code} (l : Launch) {b : Nat} {xs : Nat → Int32} (C0 : lw_At p s m meth c b 5 xs) (dC : Nat → ClassId) (dI : Nat → Nat → Nat) (cI cZ cK : ClassId) (tS aK aV : Nat) (hKx : kx dC dI cI cZ cK tS aK aV (fun q : Nat => s.heap.size ≤ q) s) (qx qn : Nat) (u v : Nat → Nat) (H : Heap) (locs : List Loc) (hP : va_P (dC, dI) vwCl [(qx, .inr (7, [.ref (u 0), .ref (u 9), .ref (u 13), .ref (u 18), .ref (u 23), .ref (u 29), .ref (u 31), .ref (u 32), .ref (u 33), .ref (u 34)])), ((u 0), .inr (0, [.ref (u 1), .ref (u 2), .ref (u 3), .int (-6), .int 0, .int 0, .ref (u 4), .ref (u 5), .ref (u 6), .int 0, .ref (u 7), .ref (u 8)])), ((u 1), .inl (cI, 5, .inl (upd (fun _ => 0) 0 800))), ((u 2), .inl (cI, 14, .inl (fun _ => 0))), ((u 3), .inl (cZ, 14, .inl (fun _ => 0))), ((u 4), .inl (cI, 6, .inl (fun _ => 0))), ((u 5), .inl (cI, 6, .inl (fun _ => 0))), ((u 6), .inl (cI, 6, .inl (fun _ => 0))), ((u 7), .inl (cI, 8, .inl (fun _ => 0))), ((u 8), .inl (cI, 8, .inl (fun _ => 0))), ((u 9), .inr (4, [.ref (u 10), .int 0, .ref (u 11), .ref (u 12), .int 0, .int 0])), ((u 10), .inl (cI, 60, .inl (fun _ => 0))), ((u 11), .inl (cI, 60, .inl (fun _ => 0))), ((u 12), .inl (cI, 60, .inl (fun _ => 0))), ((u 13), .inr (1, [.ref (u 0), .ref (u 9), .ref (u 14), .ref (u 15), .ref (u 16), .ref (u 17), .int 0, .int 0, .int 0, .int 0, .int 0, .int 0, .int 0, .int 0])), ((u 14), .inl (cI, 60, .inl (fun _ => 0))), ((u 15), .inl (cI, 60, .inl (fun _ => 0))), ((u 16), .inl (cI, 60, .inl (fun _ => 0))), ((u 17), .inl (cI, 61, .inl (fun _ => 0))), ((u 18), .inr (3, [.ref (u 0), .ref (u 19), .int 0, .ref (u 20), .ref (u 21), .ref (u 22)])), ((u 19), .inl (cI, 6, .inl (fun _ => 0))), ((u 20), .inl (cI, 6, .inl (fun _ => 0))), ((u 21), .inl (cI, 6, .inl (fun _ => 0))), ((u 22), .inl (cI, 5, .inl (fun _ => 0))), ((u 23), .inr (5, [.ref (u 0), .ref (u 9), .ref (u 13), .ref (u 24), .ref (u 25), .ref (u 26), .ref (u 27), .ref (u 28), .int 0, .int 0, .int 0])), ((u 24), .inl (cI, 61, .inl (fun _ => 0))), ((u 25), .inl (cI, 61, .inl (fun _ => 0))), ((u 26), .inl (cI, 60, .inl (fun _ => 0))), ((u 27), .inl (cI, 60, .inl (fun _ => 0))), ((u 28), .inl (cI, 21, .inl (fun _ => 0))), ((u 29), .inr (2, [.ref (u 0), .ref (u 9), .ref (u 13), .ref (u 30), .long 0, .long 0])), ((u 30), .inl (cI, 60, .inl (fun _ => 0))), ((u 31), .inr (6, [.ref (u 0), .int 0, .int 0, .int 0])), ((u 32), .inl (cK, 2, .inr (.inr (.inr (.inr (va_up (va_up (fun _ => none) 0 (some (u 35))) 1 (some (u 44)))))))), ((u 33), .inl (cZ, 2, .inl (fun _ => 0))), ((u 34), .inl (cI, 4, .inl (fun _ => 0))), ((u 35), .inr (0, [.ref (u 36), .ref (u 37), .ref (u 38), .int (-6), .int 0, .int 0, .ref (u 39), .ref (u 40), .ref (u 41), .int 0, .ref (u 42), .ref (u 43)])), ((u 36), .inl (cI, 5, .inl (upd (fun _ => 0) 0 800))), ((u 37), .inl (cI, 14, .inl (fun _ => 0))), ((u 38), .inl (cZ, 14, .inl (fun _ => 0))), ((u 39), .inl (cI, 6, .inl (fun _ => 0))), ((u 40), .inl (cI, 6, .inl (fun _ => 0))), ((u 41), .inl (cI, 6, .inl (fun _ => 0))), ((u 42), .inl (cI, 8, .inl (fun _ => 0))), ((u 43), .inl (cI, 8, .inl (fun _ => 0))), ((u 44), .inr (0, [.ref (u 45), .ref (u 46), .ref (u 47), .int (-6), .int 0, .int 0, .ref (u 48), .ref (u 49), .ref (u 50), .int 0, .ref (u 51), .ref (u 52)])), ((u 45), .inl (cI, 5, .inl (upd (fun _ => 0) 0 800))), ((u 46), .inl (cI, 14, .inl (fun _ => 0))), ((u 47), .inl (cZ, 14, .inl (fun _ => 0))), ((u 48), .inl (cI, 6, .inl (fun _ => 0))), ((u 49), .inl (cI, 6, .inl (fun _ => 0))), ((u 50), .inl (cI, 6, .inl (fun _ => 0))), ((u 51), .inl (cI, 8, .inl (fun _ => 0))), ((u 52), .inl (cI, 8, .inl (fun _ => 0))), (qn, .inr (8, [.int 800, .int 0, .int 0, .int 0, .int 0, .int 0, .int 0, .ref (v 0), .ref (v 1), .int 0, .ref (v 2), .ref (v 3), .ref (v 4), .ref (v 5), .ref (v 6), .int 0, .ref (v 7), .int 0, .ref (v 8), .ref (v 9), .ref (v 10), .int 0, .int 0, .int 0, .int 0, .int 0, .int 0, .int 0, .int 0, .int 0, .ref (v 11), .ref (v 12), .ref (v 13), .ref (v 14), .int 0, .int 0, .int 0, .int 0, .int 0, .int 0, .int 0, .ref (v 15), .int 0, .ref (v 16), .ref (v 17), .int 0, .int 0, .ref (v 18), .ref (v 19), .ref (v 20), .ref (v 21), .int 0, .int 0])), ((v 0), .inl (cI, 14, .inl (fun _ => 0))), ((v 1), .inl (cI, 14, .inl (fun _ => 0))), ((v 2), .inl (cI, 6, .inl (fun _ => 0))), ((v 3), .inl (cI, 6, .inl (fun _ => 0))), ((v 4), .inl (cI, 6, .inl (fun _ => 0))), ((v 5), .inl (cI, 8, .inl (fun _ => 0))), ((v 6), .inl (cI, 8, .inl (fun _ => 0))), ((v 7), .inl (cI, 60, .inl (fun _ => 0))), ((v 8), .inl (cI, 60, .inl (fun _ => 0))), ((v 9), .inl (cI, 60, .inl (fun _ => 0))), ((v 10), .inl (cI, 60, .inl (fun _ => 0))), ((v 11), .inl (cI, 60, .inl (fun _ => 0))), ((v 12), .inl (cI, 60, .inl (fun _ => 0))), ((v 13), .inl (cI, 14, .inl (fun _ => 0))), ((v 14), .inl (cI, 61, .inl (fun _ => 0))), ((v 15), .inl (cI, 6, .inl (fun _ => 0))), ((v 16), .inl (cI, 6, .inl (fun _ => 0))), ((v 17), .inl (cI, 28, .inl (fun _ => 0))), ((v 18), .inl (cI, 1260, .inl (fun _ => 0))), ((v 19), .inl (cI, 4, .inl (fun _ => 0))), ((v 20), .inl (cI, 160, .inl (fun _ => 0))), ((v 21), .inl (cZ, 2, .inl (fun _ => 0)))] H) (hD : va_D (fun q : Nat => s.heap.size ≤ q) [(qx, .inr (7, [.ref (u 0), .ref (u 9), .ref (u 13), .ref (u 18), .ref (u 23), .ref (u 29), .ref (u 31), .ref (u 32), .ref (u 33), .ref (u 34)])), ((u 0), .inr (0, [.ref (u 1), .ref (u 2), .ref (u 3), .int (-6), .int 0, .int 0, .ref (u 4), .ref (u 5), .ref (u 6), .int 0, .ref (u 7), .ref (u 8)])), ((u 1), .inl (cI, 5, .inl (upd (fun _ => 0) 0 800))), ((u 2), .inl (cI, 14, .inl (fun _ => 0))), ((u 3), .inl (cZ, 14, .inl (fun _ => 0))), ((u 4), .inl (cI, 6, .inl (fun _ => 0))), ((u 5), .inl (cI, 6, .inl (fun _ => 0))), ((u 6), .inl (cI, 6, .inl (fun _ => 0))), ((u 7), .inl (cI, 8, .inl (fun _ => 0))), ((u 8), .inl (cI, 8, .inl (fun _ => 0))), ((u 9), .inr (4, [.ref (u 10), .int 0, .ref (u 11), .ref (u 12), .int 0, .int 0])), ((u 10), .inl (cI, 60, .inl (fun _ => 0))), ((u 11), .inl (cI, 60, .inl (fun _ => 0))), ((u 12), .inl (cI, 60, .inl (fun _ => 0))), ((u 13), .inr (1, [.ref (u 0), .ref (u 9), .ref (u 14), .ref (u 15), .ref (u 16), .ref (u 17), .int 0, .int 0, .int 0, .int 0, .int 0, .int 0, .int 0, .int 0])), ((u 14), .inl (cI, 60, .inl (fun _ => 0))), ((u 15), .inl (cI, 60, .inl (fun _ => 0))), ((u 16), .inl (cI, 60, .inl (fun _ => 0))), ((u 17), .inl (cI, 61, .inl (fun _ => 0))), ((u 18), .inr (3, [.ref (u 0), .ref (u 19), .int 0, .ref (u 20), .ref (u 21), .ref (u 22)])), ((u 19), .inl (cI, 6, .inl (fun _ => 0))), ((u 20), .inl (cI, 6, .inl (fun _ => 0))), ((u 21), .inl (cI, 6, .inl (fun _ => 0))), ((u 22), .inl (cI, 5, .inl (fun _ => 0))), ((u 23), .inr (5, [.ref (u 0), .ref (u 9), .ref (u 13), .ref (u 24), .ref (u 25), .ref (u 26), .ref (u 27), .ref (u 28), .int 0, .int 0, .int 0])), ((u 24), .inl (cI, 61, .inl (fun _ => 0))), ((u 25), .inl (cI, 61, .inl (fun _ => 0))), ((u 26), .inl (cI, 60, .inl (fun _ => 0))), ((u 27), .inl (cI, 60, .inl (fun _ => 0))), ((u 28), .inl (cI, 21, .inl (fun _ => 0))), ((u 29), .inr (2, [.ref (u 0), .ref (u 9), .ref (u 13), .ref (u 30), .long 0, .long 0])), ((u 30), .inl (cI, 60, .inl (fun _ => 0))), ((u 31), .inr (6, [.ref (u 0), .int 0, .int 0, .int 0])), ((u 32), .inl (cK, 2, .inr (.inr (.inr (.inr (va_up (va_up (fun _ => none) 0 (some (u 35))) 1 (some (u 44)))))))), ((u 33), .inl (cZ, 2, .inl (fun _ => 0))), ((u 34), .inl (cI, 4, .inl (fun _ => 0))), ((u 35), .inr (0, [.ref (u 36), .ref (u 37), .ref (u 38), .int (-6), .int 0, .int 0, .ref (u 39), .ref (u 40), .ref (u 41), .int 0, .ref (u 42), .ref (u 43)])), ((u 36), .inl (cI, 5, .inl (upd (fun _ => 0) 0 800))), ((u 37), .inl (cI, 14, .inl (fun _ => 0))), ((u 38), .inl (cZ, 14, .inl (fun _ => 0))), ((u 39), .inl (cI, 6, .inl (fun _ => 0))), ((u 40), .inl (cI, 6, .inl (fun _ => 0))), ((u 41), .inl (cI, 6, .inl (fun _ => 0))), ((u 42), .inl (cI, 8, .inl (fun _ => 0))), ((u 43), .inl (cI, 8, .inl (fun _ => 0))), ((u 44), .inr (0, [.ref (u 45), .ref (u 46), .ref (u 47), .int (-6), .int 0, .int 0, .ref (u 48), .ref (u 49), .ref (u 50), .int 0, .ref (u 51), .ref (u 52)])), ((u 45), .inl (cI, 5, .inl (upd (fun _ => 0) 0 800))), ((u 46), .inl (cI, 14, .inl (fun _ => 0))), ((u 47), .inl (cZ, 14, .inl (fun _ => 0))), ((u 48), .inl (cI, 6, .inl (fun _ => 0))), ((u 49), .inl (cI, 6, .inl (fun _ => 0))), ((u 50), .inl (cI, 6, .inl (fun _ => 0))), ((u 51), .inl (cI, 8, .inl (fun _ => 0))), ((u 52), .inl (cI, 8, .inl (fun _ => 0))), (qn, .inr (8, [.int 800, .int 0, .int 0, .int 0, .int 0, .int 0, .int 0, .ref (v 0), .ref (v 1), .int 0, .ref (v 2), .ref (v 3), .ref (v 4), .ref (v 5), .ref (v 6), .int 0, .ref (v 7), .int 0, .ref (v 8), .ref (v 9), .ref (v 10), .int 0, .int 0, .int 0, .int 0, .int 0, .int 0, .int 0, .int 0, .int 0, .ref (v 11), .ref (v 12), .ref (v 13), .ref (v 14), .int 0, .int 0, .int 0, .int 0, .int 0, .int 0, .int 0, .ref (v 15), .int 0, .ref (v 16), .ref (v 17), .int 0, .int 0, .ref (v 18), .ref (v 19), .ref (v 20), .ref (v 21), .int 0, .int 0])), ((v 0), .inl (cI, 14, .inl (fun _ => 0))), ((v 1), .inl (cI, 14, .inl (fun _ => 0))), ((v 2), .inl (cI, 6, .inl (fun _ => 0))), ((v 3), .inl (cI, 6, .inl (fun _ => 0))), ((v 4), .inl (cI, 6, .inl (fun _ => 0))), ((v 5), .inl (cI, 8, .inl (fun _ => 0))), ((v 6), .inl (cI, 8, .inl (fun _ => 0))), ((v 7), .inl (cI, 60, .inl (fun _ => 0))), ((v 8), .inl (cI, 60, .inl (fun _ => 0))), ((v 9), .inl (cI, 60, .inl (fun _ => 0))), ((v 10), .inl (cI, 60, .inl (fun _ => 0))), ((v 11), .inl (cI, 60, .inl (fun _ => 0))), ((v 12), .inl (cI, 60, .inl (fun _ => 0))), ((v 13), .inl (cI, 14, .inl (fun _ => 0))), ((v 14), .inl (cI, 61, .inl (fun _ => 0))), ((v 15), .inl (cI, 6, .inl (fun _ => 0))), ((v 16), .inl (cI, 6, .inl (fun _ => 0))), ((v 17), .inl (cI, 28, .inl (fun _ => 0))), ((v 18), .inl (cI, 1260, .inl (fun _ => 0))), ((v 19), .inl (cI, 4, .inl (fun _ => 0))), ((v 20), .inl (cI, 160, .inl (fun _ => 0))), ((v 21), .inl (cZ, 2, .inl (fun _ => 0)))]) (hS : va_S (fun q : Nat => s.heap.size ≤ q) s.heap H locs) (ls : Array Slot) (hl : lv_has ls 4 [(3, .int 0), (2, .ref qn), (1, .ref qx), (0, .ref b)]) : W p l e room_1 s m #[Value.ref b] below meth c H locs 77 3085 (lw_Z below #[Value.ref b] s) (F0 m 164 ls []) := by
  obtain ⟨hx, hb, hr, hml, hown, hts, hX, hbl, hlocks, hgv⟩ := C0
  have hts := fun w h => hts w (wsL_law_in w h)
  have hown : s.vm.findClass RL = some m.cls := hown
  have hA : ∀ q : Nat, s.heap.size ≤ q → (fun q : Nat => s.heap.size ≤ q) q := fun _ h => h
  have hbA : ¬ (fun q : Nat => s.heap.size ≤ q) b := Nat.not_le.mpr hbl
  have hK := hKx.1
  replace hP := mx_subP (wc := [(qx, .inr (7, [.ref (u 0), .ref (u 9), .ref (u 13), .ref (u 18), .ref (u 23), .ref (u 29), .ref (u 31), .ref (u 32), .ref (u 33), .ref (u 34)])), ((u 0), .inr (0, [.ref (u 1), .ref (u 2), .ref (u 3), .int (-6), .int 0, .int 0, .ref (u 4), .ref (u 5), .ref (u 6), .int 0, .ref (u 7), .ref (u 8)])), ((u 1), .inl (cI, 5, .inl (upd (fun _ => 0) 0 800))), (qn, .inr (8, [.int 800, .int 0, .int 0, .int 0, .int 0, .int 0, .int 0, .ref (v 0), .ref (v 1), .int 0, .ref (v 2), .ref (v 3), .ref (v 4), .ref (v 5), .ref (v 6), .int 0, .ref (v 7), .int 0, .ref (v 8), .ref (v 9), .ref (v 10), .int 0, .int 0, .int 0, .int 0, .int 0, .int 0, .int 0, .int 0, .int 0, .ref (v 11), .ref (v 12), .ref (v 13), .ref (v 14), .int 0, .int 0, .int 0, .int 0, .int 0, .int 0, .int 0, .ref (v 15), .int 0, .ref (v 16), .ref (v 17), .int 0, .int 0, .ref (v 18), .ref (v 19), .ref (v 20), .ref (v 21), .int 0, .int 0]))]) hP [0, 1, 2, 54] rfl
  replace hD := hD.sub (ws' := [(qx, .inr (7, [.ref (u 0), .ref (u 9), .ref (u 13), .ref (u 18), .ref (u 23), .ref (u 29), .ref (u 31), .ref (u 32), .ref (u 33), .ref (u 34)])), ((u 0), .inr (0, [.ref (u 1), .ref (u 2), .ref (u 3), .int (-6), .int 0, .int 0, .ref (u 4), .ref (u 5), .ref (u 6), .int 0, .ref (u 7), .ref (u 8)])), ((u 1), .inl (cI, 5, .inl (upd (fun _ => 0) 0 800))), (qn, .inr (8, [.int 800, .int 0, .int 0, .int 0, .int 0, .int 0, .int 0, .ref (v 0), .ref (v 1), .int 0, .ref (v 2), .ref (v 3), .ref (v 4), .ref (v 5), .ref (v 6), .int 0, .ref (v 7), .int 0, .ref (v 8), .ref (v 9), .ref (v 10), .int 0, .int 0, .int 0, .int 0, .int 0, .int 0, .int 0, .int 0, .int 0, .ref (v 11), .ref (v 12), .ref (v 13), .ref (v 14), .int 0, .int 0, .int 0, .int 0, .int 0, .int 0, .int 0, .ref (v 15), .int 0, .ref (v 16), .ref (v 17), .int 0, .int 0, .ref (v 18), .ref (v 19), .ref (v 20), .ref (v 21), .int 0, .int 0]))]) [0, 1, 2, 54] (by decide) rfl
  refine lv_aload_n hx hb dL_law_164 rfl (lv_at hl 2 rfl) ?_
  refine lv_aload_n hx hb dL_law_165 rfl (lv_at hl 3 rfl) ?_
  refine lv_iload_n hx hb dL_law_166 rfl (lv_at hl 0 rfl) ?_
  refine lv_iconst (v := 1) hx hb dL_law_167 (by decide) ?_
  refine lv_iadd hx hb dL_law_168 ?_
  refine lv_topi (fun x1 e1 => ?_)
  obtain rfl : x1 = 1 := e1.trans (by decide)
  refine va_sld hx hb hX hbl hbA hS (vin (by decide) (by decide)) dL_law_169 ?_
  refine lv_topi (fun y2 e2 => ?_)
  obtain rfl : y2 = xs 1 := e2
  refine lv_aload_n hx hb dL_law_170 rfl (lv_at hl 3 rfl) ?_
  refine lv_iload_n hx hb dL_law_171 rfl (lv_at hl 0 rfl) ?_
  refine lv_iconst (v := 2) hx hb dL_law_172 (by decide) ?_
  refine lv_iadd hx hb dL_law_173 ?_
  refine lv_topi (fun x3 e3 => ?_)
  obtain rfl : x3 = 2 := e3.trans (by decide)
  refine va_sld hx hb hX hbl hbA hS (vin (by decide) (by decide)) dL_law_174 ?_
  refine lv_topi (fun y4 e4 => ?_)
  obtain rfl : y4 = xs 2 := e4
  refine mx_i (wr := [(qn, .inr (8, [.int 800, .int 0, .int 0, .int 0, .int 0, .int 0, .int 0, .ref (v 0), .ref (v 1), .int 0, .ref (v 2), .ref (v 3), .ref (v 4), .ref (v 5), .ref (v 6), .int 0, .ref (v 7), .int 0, .ref (v 8), .ref (v 9), .ref (v 10), .int 0, .int 0, .int 0, .int 0, .int 0, .int 0, .int 0, .int 0, .int 0, .ref (v 11), .ref (v 12), .ref (v 13), .ref (v 14), .int 0, .int 0, .int 0, .int 0, .int 0, .int 0, .int 0, .ref (v 15), .int 0, .ref (v 16), .ref (v 17), .int 0, .int 0, .ref (v 18), .ref (v 19), .ref (v 20), .ref (v 21), .int 0, .int 0]))]) (va_runV (As := [.int (xs 1), .int (xs 2)]) (rest := []) ⟨hx, hb, hml, hown, hts⟩ (c_X7_set l dC dI cI cZ cK tS aK aV qx (u 18) (u 23) (u 29) (u 31) (u 32) (u 33) (u 34) (u 13) (u 0) (u 1) (u 2) (u 3) (u 4) (u 5) (u 6) (u 7) (u 8) (u 9) (xs 1) (xs 2) H.size) (cwV 2 hts (gw_v (fun _ h9 => h9) wm_556 wm_557 wm_558 wm_2 wm_559) rfl rfl rfl (by decide +kernel) ⟨Nat.le_of_ble_eq_true rfl, Nat.le_of_ble_eq_true rfl⟩) (mx_preV (C := RX7) (T := TX7) (N := 10) (ci := 7) hKx hP hD hS hA [0, 1, 2] (by decide) rfl rfl rfl) rfl rfl hl.1 rfl (lv_room (Nat.le_of_ble_eq_true rfl)) dL_law_175 ⟨Nat.le_of_ble_eq_true rfl, Nat.le_of_ble_eq_true rfl⟩) hP hD hS hA [0, 1, 2] [3] rfl rfl (by decide) (by decide) (fun r5 u5 H locs hq5 hP hD hS => ?_)
  replace hP : va_P (dC, dI) vwCl [(qn, .inr (8, [.int 800, .int 0, .int 0, .int 0, .int 0, .int 0, .int 0, .ref (v 0), .ref (v 1), .int 0, .ref (v 2), .ref (v 3), .ref (v 4), .ref (v 5), .ref (v 6), .int 0, .ref (v 7), .int 0, .ref (v 8), .ref (v 9), .ref (v 10), .int 0, .int 0, .int 0, .int 0, .int 0, .int 0, .int 0, .int 0, .int 0, .ref (v 11), .ref (v 12), .ref (v 13), .ref (v 14), .int 0, .int 0, .int 0, .int 0, .int 0, .int 0, .int 0, .ref (v 15), .int 0, .ref (v 16), .ref (v 17), .int 0, .int 0, .ref (v 18), .ref (v 19), .ref (v 20), .ref (v 21), .int 0, .int 0]))] H := hP
  replace hD : va_D (fun q : Nat => s.heap.size ≤ q) [(qn, .inr (8, [.int 800, .int 0, .int 0, .int 0, .int 0, .int 0, .int 0, .ref (v 0), .ref (v 1), .int 0, .ref (v 2), .ref (v 3), .ref (v 4), .ref (v 5), .ref (v 6), .int 0, .ref (v 7), .int 0, .ref (v 8), .ref (v 9), .ref (v 10), .int 0, .int 0, .int 0, .int 0, .int 0, .int 0, .int 0, .int 0, .int 0, .ref (v 11), .ref (v 12), .ref (v 13), .ref (v 14), .int 0, .int 0, .int 0, .int 0, .int 0, .int 0, .int 0, .ref (v 15), .int 0, .ref (v 16), .ref (v 17), .int 0, .int 0, .ref (v 18), .ref (v 19), .ref (v 20), .ref (v 21), .int 0, .int 0]))] := hD
  rcases hq5 with ⟨rfl, hf5⟩ | ⟨rfl, hf5⟩ | ⟨rfl, hf5⟩
  · have hf5 : (xs 1).toInt = 0 ∧ 0 ≤ (xs 2).toInt ∧ (xs 2).toInt ≤ 4000 := hf5
    refine lv_aload_n hx hb dL_law_178 rfl (lv_at hl 1 rfl) ?_
    refine lv_aload_n hx hb dL_law_179 rfl (lv_at hl 3 rfl) ?_
    refine lv_iload_n hx hb dL_law_180 rfl (lv_at hl 0 rfl) ?_
    refine lv_iconst (v := 1) hx hb dL_law_181 (by decide) ?_
    refine lv_iadd hx hb dL_law_182 ?_
    refine lv_topi (fun x6 e6 => ?_)
    obtain rfl : x6 = 1 := e6.trans (by decide)
    refine va_sld hx hb hX hbl hbA hS (vin (by decide) (by decide)) dL_law_183 ?_
    refine lv_topi (fun y7 e7 => ?_)
    obtain rfl : y7 = xs 1 := e7
    refine lv_aload_n hx hb dL_law_184 rfl (lv_at hl 3 rfl) ?_
    refine lv_iload_n hx hb dL_law_185 rfl (lv_at hl 0 rfl) ?_
    refine lv_iconst (v := 2) hx hb dL_law_186 (by decide) ?_
    refine lv_iadd hx hb dL_law_187 ?_
    refine lv_topi (fun x8 e8 => ?_)
    obtain rfl : x8 = 2 := e8.trans (by decide)
    refine va_sld hx hb hX hbl hbA hS (vin (by decide) (by decide)) dL_law_188 ?_
    refine lv_topi (fun y9 e9 => ?_)
    obtain rfl : y9 = xs 2 := e9
    refine mx_i (wr := []) (va_runV (As := [.int (xs 1), .int (xs 2)]) (rest := [.int 800]) ⟨hx, hb, hml, hown, hts⟩ (c_X8_set l dC dI cI cZ cK tS aK aV qn (v 0) (v 1) (v 2) (v 3) (v 4) (v 5) (v 6) (v 7) (v 8) (v 9) (v 10) (v 11) (v 12) (v 13) (v 14) (v 15) (v 16) (v 17) (v 18) (v 19) (v 20) (v 21) (xs 1) (xs 2) H.size) (cwV 2 hts (gw_v (fun _ h9 => h9) wm_560 wm_561 wm_562 wm_385 wm_563) rfl rfl rfl (by decide +kernel) ⟨Nat.le_of_ble_eq_true rfl, Nat.le_of_ble_eq_true rfl⟩) (mx_preV (C := RX8) (T := TX8) (N := 53) (ci := 8) hKx hP hD hS hA [0] (by decide) rfl rfl rfl) rfl rfl hl.1 rfl (lv_room (Nat.le_of_ble_eq_true rfl)) dL_law_189 ⟨Nat.le_of_ble_eq_true rfl, Nat.le_of_ble_eq_true rfl⟩) hP hD hS hA [0] [] rfl rfl (by decide) (by decide) (fun r10 u10 H locs hq10 hP hD hS => ?_)
    replace hP : va_P (dC, dI) vwCl [] H := hP
    replace hD : va_D (fun q : Nat => s.heap.size ≤ q) [] := hD
    rcases hq10 with ⟨rfl, hf10⟩ | ⟨rfl, hf10⟩ | ⟨rfl, hf10⟩
    · have hf10 : (xs 1).toInt = 0 ∧ 0 ≤ (xs 2).toInt ∧ (xs 2).toInt ≤ 4000 := hf10
      refine lv_icmp_eq (tgt := 998) hx hb dL_law_192 (by decide) (fun c11 => ?_) (fun c11 => absurd c11 (by decide))
      refine lv_iinc (v := 5) (lv' := [(3, .int 5), (2, .ref qn), (1, .ref qx), (0, .ref b)]) hx hb dL_law_998 hl (k := 0) rfl (by decide) (by decide) rfl (fun ls hl => ?_)
      refine lv_goto (tgt := 18) hx hb dL_law_1001 (by decide) ?_
      refine lv_iload_n hx hb dL_law_18 rfl (lv_at hl 0 rfl) ?_
      refine lv_aload_n hx hb dL_law_19 rfl (lv_at hl 3 rfl) ?_
      refine va_slen hx hb hX hbl hbA hS dL_law_20 ?_
      refine lv_topi (fun x12 e12 => ?_)
      obtain rfl : x12 = 5 := e12.trans (by decide)
      refine lv_iconst (v := 5) hx hb dL_law_21 (by decide) ?_
      refine lv_isub hx hb dL_law_22 ?_
      refine lv_topi (fun x13 e13 => ?_)
      obtain rfl : x13 = 0 := e13.trans (by decide)
      refine lv_icmp_gt (tgt := 1004) hx hb dL_law_23 (by decide) (fun c14 => ?_) (fun c14 => absurd c14 (by decide))
      refine lv_iconst (v := 1) hx hb dL_law_1004 (by decide) ?_
      refine va_forget (fun q hq => hS.2.2 q hq) ?_
      refine W.widen (k := 600000) (n := 7302250) (Nat.le_of_ble_eq_true rfl) (Nat.le_of_ble_eq_true rfl) ?_
      exact lw_ret hx hb hr hlocks dL_law_1005
    · have hf10 : ((xs 1).toInt = 1 ∧ 0 ≤ (xs 2).toInt ∧ (xs 2).toInt ≤ 60) ∨ ((xs 1).toInt = 2 ∧ 0 ≤ (xs 2).toInt ∧ (xs 2).toInt ≤ 6) ∨ ((xs 1).toInt = 3 ∧ 0 ≤ (xs 2).toInt ∧ (xs 2).toInt ≤ 1) ∨ ((xs 1).toInt = 4 ∧ 0 ≤ (xs 2).toInt ∧ (xs 2).toInt ≤ 13) := hf10
      refine lv_icmp_eq (tgt := 998) hx hb dL_law_192 (by decide) (fun c15 => absurd c15 (by decide)) (fun c15 => ?_)
      refine lv_iconst (v := 0) hx hb dL_law_195 (by decide) ?_
      exfalso; omega
    · have hf10 : (xs 1).toInt < 0 ∨ 4 < (xs 1).toInt ∨ (xs 2).toInt < 0 ∨ ((xs 1).toInt = 0 ∧ 4000 < (xs 2).toInt) ∨ ((xs 1).toInt = 1 ∧ 60 < (xs 2).toInt) ∨ ((xs 1).toInt = 2 ∧ 6 < (xs 2).toInt) ∨ ((xs 1).toInt = 3 ∧ 1 < (xs 2).toInt) ∨ ((xs 1).toInt = 4 ∧ 13 < (xs 2).toInt) := hf10
      refine lv_icmp_eq (tgt := 998) hx hb dL_law_192 (by decide) (fun c16 => absurd c16 (by decide)) (fun c16 => ?_)
      refine lv_iconst (v := 0) hx hb dL_law_195 (by decide) ?_
      exfalso; omega
  · have hf5 : ((xs 1).toInt = 1 ∧ 0 ≤ (xs 2).toInt ∧ (xs 2).toInt ≤ 60) ∨ ((xs 1).toInt = 2 ∧ 0 ≤ (xs 2).toInt ∧ (xs 2).toInt ≤ 6) ∨ ((xs 1).toInt = 3 ∧ 0 ≤ (xs 2).toInt ∧ (xs 2).toInt ≤ 1) ∨ ((xs 1).toInt = 4 ∧ 0 ≤ (xs 2).toInt ∧ (xs 2).toInt ≤ 13) := hf5
    refine lv_aload_n hx hb dL_law_178 rfl (lv_at hl 1 rfl) ?_
    refine lv_aload_n hx hb dL_law_179 rfl (lv_at hl 3 rfl) ?_
    refine lv_iload_n hx hb dL_law_180 rfl (lv_at hl 0 rfl) ?_
    refine lv_iconst (v := 1) hx hb dL_law_181 (by decide) ?_
    refine lv_iadd hx hb dL_law_182 ?_
    refine lv_topi (fun x17 e17 => ?_)
    obtain rfl : x17 = 1 := e17.trans (by decide)
    refine va_sld hx hb hX hbl hbA hS (vin (by decide) (by decide)) dL_law_183 ?_
    refine lv_topi (fun y18 e18 => ?_)
    obtain rfl : y18 = xs 1 := e18
    refine lv_aload_n hx hb dL_law_184 rfl (lv_at hl 3 rfl) ?_
    refine lv_iload_n hx hb dL_law_185 rfl (lv_at hl 0 rfl) ?_
    refine lv_iconst (v := 2) hx hb dL_law_186 (by decide) ?_
    refine lv_iadd hx hb dL_law_187 ?_
    refine lv_topi (fun x19 e19 => ?_)
    obtain rfl : x19 = 2 := e19.trans (by decide)
    refine va_sld hx hb hX hbl hbA hS (vin (by decide) (by decide)) dL_law_188 ?_
    refine lv_topi (fun y20 e20 => ?_)
    obtain rfl : y20 = xs 2 := e20
    refine mx_i (wr := []) (va_runV (As := [.int (xs 1), .int (xs 2)]) (rest := [.int 0]) ⟨hx, hb, hml, hown, hts⟩ (c_X8_set l dC dI cI cZ cK tS aK aV qn (v 0) (v 1) (v 2) (v 3) (v 4) (v 5) (v 6) (v 7) (v 8) (v 9) (v 10) (v 11) (v 12) (v 13) (v 14) (v 15) (v 16) (v 17) (v 18) (v 19) (v 20) (v 21) (xs 1) (xs 2) H.size) (cwV 2 hts (gw_v (fun _ h9 => h9) wm_560 wm_561 wm_562 wm_385 wm_563) rfl rfl rfl (by decide +kernel) ⟨Nat.le_of_ble_eq_true rfl, Nat.le_of_ble_eq_true rfl⟩) (mx_preV (C := RX8) (T := TX8) (N := 53) (ci := 8) hKx hP hD hS hA [0] (by decide) rfl rfl rfl) rfl rfl hl.1 rfl (lv_room (Nat.le_of_ble_eq_true rfl)) dL_law_189 ⟨Nat.le_of_ble_eq_true rfl, Nat.le_of_ble_eq_true rfl⟩) hP hD hS hA [0] [] rfl rfl (by decide) (by decide) (fun r21 u21 H locs hq21 hP hD hS => ?_)
    replace hP : va_P (dC, dI) vwCl [] H := hP
    replace hD : va_D (fun q : Nat => s.heap.size ≤ q) [] := hD
    rcases hq21 with ⟨rfl, hf21⟩ | ⟨rfl, hf21⟩ | ⟨rfl, hf21⟩
    · have hf21 : (xs 1).toInt = 0 ∧ 0 ≤ (xs 2).toInt ∧ (xs 2).toInt ≤ 4000 := hf21
      refine lv_icmp_eq (tgt := 998) hx hb dL_law_192 (by decide) (fun c22 => absurd c22 (by decide)) (fun c22 => ?_)
      refine lv_iconst (v := 0) hx hb dL_law_195 (by decide) ?_
      exfalso; omega
    · have hf21 : ((xs 1).toInt = 1 ∧ 0 ≤ (xs 2).toInt ∧ (xs 2).toInt ≤ 60) ∨ ((xs 1).toInt = 2 ∧ 0 ≤ (xs 2).toInt ∧ (xs 2).toInt ≤ 6) ∨ ((xs 1).toInt = 3 ∧ 0 ≤ (xs 2).toInt ∧ (xs 2).toInt ≤ 1) ∨ ((xs 1).toInt = 4 ∧ 0 ≤ (xs 2).toInt ∧ (xs 2).toInt ≤ 13) := hf21
      refine lv_icmp_eq (tgt := 998) hx hb dL_law_192 (by decide) (fun c23 => ?_) (fun c23 => absurd c23 (by decide))
      refine lv_iinc (v := 5) (lv' := [(3, .int 5), (2, .ref qn), (1, .ref qx), (0, .ref b)]) hx hb dL_law_998 hl (k := 0) rfl (by decide) (by decide) rfl (fun ls hl => ?_)
      refine lv_goto (tgt := 18) hx hb dL_law_1001 (by decide) ?_
      refine lv_iload_n hx hb dL_law_18 rfl (lv_at hl 0 rfl) ?_
      refine lv_aload_n hx hb dL_law_19 rfl (lv_at hl 3 rfl) ?_
      refine va_slen hx hb hX hbl hbA hS dL_law_20 ?_
      refine lv_topi (fun x24 e24 => ?_)
      obtain rfl : x24 = 5 := e24.trans (by decide)
      refine lv_iconst (v := 5) hx hb dL_law_21 (by decide) ?_
      refine lv_isub hx hb dL_law_22 ?_
      refine lv_topi (fun x25 e25 => ?_)
      obtain rfl : x25 = 0 := e25.trans (by decide)
      refine lv_icmp_gt (tgt := 1004) hx hb dL_law_23 (by decide) (fun c26 => ?_) (fun c26 => absurd c26 (by decide))
      refine lv_iconst (v := 1) hx hb dL_law_1004 (by decide) ?_
      refine va_forget (fun q hq => hS.2.2 q hq) ?_
      refine W.widen (k := 600000) (n := 7302250) (Nat.le_of_ble_eq_true rfl) (Nat.le_of_ble_eq_true rfl) ?_
      exact lw_ret hx hb hr hlocks dL_law_1005
    · have hf21 : (xs 1).toInt < 0 ∨ 4 < (xs 1).toInt ∨ (xs 2).toInt < 0 ∨ ((xs 1).toInt = 0 ∧ 4000 < (xs 2).toInt) ∨ ((xs 1).toInt = 1 ∧ 60 < (xs 2).toInt) ∨ ((xs 1).toInt = 2 ∧ 6 < (xs 2).toInt) ∨ ((xs 1).toInt = 3 ∧ 1 < (xs 2).toInt) ∨ ((xs 1).toInt = 4 ∧ 13 < (xs 2).toInt) := hf21
      refine lv_icmp_eq (tgt := 998) hx hb dL_law_192 (by decide) (fun c27 => absurd c27 (by decide)) (fun c27 => ?_)
      refine lv_iconst (v := 0) hx hb dL_law_195 (by decide) ?_
      exfalso; omega
  · have hf5 : (xs 1).toInt < 0 ∨ 4 < (xs 1).toInt ∨ (xs 2).toInt < 0 ∨ ((xs 1).toInt = 0 ∧ 4000 < (xs 2).toInt) ∨ ((xs 1).toInt = 1 ∧ 60 < (xs 2).toInt) ∨ ((xs 1).toInt = 2 ∧ 6 < (xs 2).toInt) ∨ ((xs 1).toInt = 3 ∧ 1 < (xs 2).toInt) ∨ ((xs 1).toInt = 4 ∧ 13 < (xs 2).toInt) := hf5
    refine lv_aload_n hx hb dL_law_178 rfl (lv_at hl 1 rfl) ?_
    refine lv_aload_n hx hb dL_law_179 rfl (lv_at hl 3 rfl) ?_
    refine lv_iload_n hx hb dL_law_180 rfl (lv_at hl 0 rfl) ?_
    refine lv_iconst (v := 1) hx hb dL_law_181 (by decide) ?_
    refine lv_iadd hx hb dL_law_182 ?_
    refine lv_topi (fun x28 e28 => ?_)
    obtain rfl : x28 = 1 := e28.trans (by decide)
    refine va_sld hx hb hX hbl hbA hS (vin (by decide) (by decide)) dL_law_183 ?_
    refine lv_topi (fun y29 e29 => ?_)
    obtain rfl : y29 = xs 1 := e29
    refine lv_aload_n hx hb dL_law_184 rfl (lv_at hl 3 rfl) ?_
    refine lv_iload_n hx hb dL_law_185 rfl (lv_at hl 0 rfl) ?_
    refine lv_iconst (v := 2) hx hb dL_law_186 (by decide) ?_
    refine lv_iadd hx hb dL_law_187 ?_
    refine lv_topi (fun x30 e30 => ?_)
    obtain rfl : x30 = 2 := e30.trans (by decide)
    refine va_sld hx hb hX hbl hbA hS (vin (by decide) (by decide)) dL_law_188 ?_
    refine lv_topi (fun y31 e31 => ?_)
    obtain rfl : y31 = xs 2 := e31
    refine mx_i (wr := []) (va_runV (As := [.int (xs 1), .int (xs 2)]) (rest := [.int (-2)]) ⟨hx, hb, hml, hown, hts⟩ (c_X8_set l dC dI cI cZ cK tS aK aV qn (v 0) (v 1) (v 2) (v 3) (v 4) (v 5) (v 6) (v 7) (v 8) (v 9) (v 10) (v 11) (v 12) (v 13) (v 14) (v 15) (v 16) (v 17) (v 18) (v 19) (v 20) (v 21) (xs 1) (xs 2) H.size) (cwV 2 hts (gw_v (fun _ h9 => h9) wm_560 wm_561 wm_562 wm_385 wm_563) rfl rfl rfl (by decide +kernel) ⟨Nat.le_of_ble_eq_true rfl, Nat.le_of_ble_eq_true rfl⟩) (mx_preV (C := RX8) (T := TX8) (N := 53) (ci := 8) hKx hP hD hS hA [0] (by decide) rfl rfl rfl) rfl rfl hl.1 rfl (lv_room (Nat.le_of_ble_eq_true rfl)) dL_law_189 ⟨Nat.le_of_ble_eq_true rfl, Nat.le_of_ble_eq_true rfl⟩) hP hD hS hA [0] [] rfl rfl (by decide) (by decide) (fun r32 u32 H locs hq32 hP hD hS => ?_)
    replace hP : va_P (dC, dI) vwCl [] H := hP
    replace hD : va_D (fun q : Nat => s.heap.size ≤ q) [] := hD
    rcases hq32 with ⟨rfl, hf32⟩ | ⟨rfl, hf32⟩ | ⟨rfl, hf32⟩
    · have hf32 : (xs 1).toInt = 0 ∧ 0 ≤ (xs 2).toInt ∧ (xs 2).toInt ≤ 4000 := hf32
      refine lv_icmp_eq (tgt := 998) hx hb dL_law_192 (by decide) (fun c33 => absurd c33 (by decide)) (fun c33 => ?_)
      refine lv_iconst (v := 0) hx hb dL_law_195 (by decide) ?_
      exfalso; omega
    · have hf32 : ((xs 1).toInt = 1 ∧ 0 ≤ (xs 2).toInt ∧ (xs 2).toInt ≤ 60) ∨ ((xs 1).toInt = 2 ∧ 0 ≤ (xs 2).toInt ∧ (xs 2).toInt ≤ 6) ∨ ((xs 1).toInt = 3 ∧ 0 ≤ (xs 2).toInt ∧ (xs 2).toInt ≤ 1) ∨ ((xs 1).toInt = 4 ∧ 0 ≤ (xs 2).toInt ∧ (xs 2).toInt ≤ 13) := hf32
      refine lv_icmp_eq (tgt := 998) hx hb dL_law_192 (by decide) (fun c34 => absurd c34 (by decide)) (fun c34 => ?_)
      refine lv_iconst (v := 0) hx hb dL_law_195 (by decide) ?_
      exfalso; omega
    · have hf32 : (xs 1).toInt < 0 ∨ 4 < (xs 1).toInt ∨ (xs 2).toInt < 0 ∨ ((xs 1).toInt = 0 ∧ 4000 < (xs 2).toInt) ∨ ((xs 1).toInt = 1 ∧ 60 < (xs 2).toInt) ∨ ((xs 1).toInt = 2 ∧ 6 < (xs 2).toInt) ∨ ((xs 1).toInt = 3 ∧ 1 < (xs 2).toInt) ∨ ((xs 1).toInt = 4 ∧ 13 < (xs 2).toInt) := hf32
      refine lv_icmp_eq (tgt := 998) hx hb dL_law_192 (by decide) (fun c35 => ?_) (fun c35 => absurd c35 (by decide))
      refine lv_iinc (v := 5) (lv' := [(3, .int 5), (2, .ref qn), (1, .ref qx), (0, .ref b)]) hx hb dL_law_998 hl (k := 0) rfl (by decide) (by decide) rfl (fun ls hl => ?_)
      refine lv_goto (tgt := 18) hx hb dL_law_1001 (by decide) ?_
      refine lv_iload_n hx hb dL_law_18 rfl (lv_at hl 0 rfl) ?_
      refine lv_aload_n hx hb dL_law_19 rfl (lv_at hl 3 rfl) ?_
      refine va_slen hx hb hX hbl hbA hS dL_law_20 ?_
      refine lv_topi (fun x36 e36 => ?_)
      obtain rfl : x36 = 5 := e36.trans (by decide)
      refine lv_iconst (v := 5) hx hb dL_law_21 (by decide) ?_
      refine lv_isub hx hb dL_law_22 ?_
      refine lv_topi (fun x37 e37 => ?_)
      obtain rfl : x37 = 0 := e37.trans (by decide)
      refine lv_icmp_gt (tgt := 1004) hx hb dL_law_23 (by decide) (fun c38 => ?_) (fun c38 => absurd c38 (by decide))
      refine lv_iconst (v := 1) hx hb dL_law_1004 (by decide) ?_
      refine va_forget (fun q hq => hS.2.2 q hq) ?_
      refine W.widen (k := 600000) (n := 7302250) (Nat.le_of_ble_eq_true rfl) (Nat.le_of_ble_eq_true rfl) ?_
      exact lw_ret hx hb hr hlocks dL_law_1005
set_option maxHeartbeats 4000000 in
set_option maxRecDepth 100000 in
theorem lc_day {p : Program} {e : Env} {s : State} {m : MethodId} {below : List Frame} {meth : Method} {c : Code} (l : Launch) {b : Nat} {xs : Nat → Int32} (C0 : lw_At p s m meth c b 5 xs) (dC : Nat → ClassId) (dI : Nat → Nat → Nat) (cI cZ cK : ClassId) (tS aK aV : Nat) (hKx : kx dC dI cI cZ cK tS aK aV (fun q : Nat => s.heap.size ≤ q) s) (qx qn : Nat) (u v : Nat → Nat) (H : Heap) (locs : List Loc) (hP : va_P (dC, dI) vwCl [(qx, .inr (7, [.ref (u 0), .ref (u 9), .ref (u 13), .ref (u 18), .ref (u 23), .ref (u 29), .ref (u 31), .ref (u 32), .ref (u 33), .ref (u 34)])), ((u 0), .inr (0, [.ref (u 1), .ref (u 2), .ref (u 3), .int (-6), .int 0, .int 0, .ref (u 4), .ref (u 5), .ref (u 6), .int 0, .ref (u 7), .ref (u 8)])), ((u 1), .inl (cI, 5, .inl (upd (fun _ => 0) 0 800))), ((u 2), .inl (cI, 14, .inl (fun _ => 0))), ((u 3), .inl (cZ, 14, .inl (fun _ => 0))), ((u 4), .inl (cI, 6, .inl (fun _ => 0))), ((u 5), .inl (cI, 6, .inl (fun _ => 0))), ((u 6), .inl (cI, 6, .inl (fun _ => 0))), ((u 7), .inl (cI, 8, .inl (fun _ => 0))), ((u 8), .inl (cI, 8, .inl (fun _ => 0))), ((u 9), .inr (4, [.ref (u 10), .int 0, .ref (u 11), .ref (u 12), .int 0, .int 0])), ((u 10), .inl (cI, 60, .inl (fun _ => 0))), ((u 11), .inl (cI, 60, .inl (fun _ => 0))), ((u 12), .inl (cI, 60, .inl (fun _ => 0))), ((u 13), .inr (1, [.ref (u 0), .ref (u 9), .ref (u 14), .ref (u 15), .ref (u 16), .ref (u 17), .int 0, .int 0, .int 0, .int 0, .int 0, .int 0, .int 0, .int 0])), ((u 14), .inl (cI, 60, .inl (fun _ => 0))), ((u 15), .inl (cI, 60, .inl (fun _ => 0))), ((u 16), .inl (cI, 60, .inl (fun _ => 0))), ((u 17), .inl (cI, 61, .inl (fun _ => 0))), ((u 18), .inr (3, [.ref (u 0), .ref (u 19), .int 0, .ref (u 20), .ref (u 21), .ref (u 22)])), ((u 19), .inl (cI, 6, .inl (fun _ => 0))), ((u 20), .inl (cI, 6, .inl (fun _ => 0))), ((u 21), .inl (cI, 6, .inl (fun _ => 0))), ((u 22), .inl (cI, 5, .inl (fun _ => 0))), ((u 23), .inr (5, [.ref (u 0), .ref (u 9), .ref (u 13), .ref (u 24), .ref (u 25), .ref (u 26), .ref (u 27), .ref (u 28), .int 0, .int 0, .int 0])), ((u 24), .inl (cI, 61, .inl (fun _ => 0))), ((u 25), .inl (cI, 61, .inl (fun _ => 0))), ((u 26), .inl (cI, 60, .inl (fun _ => 0))), ((u 27), .inl (cI, 60, .inl (fun _ => 0))), ((u 28), .inl (cI, 21, .inl (fun _ => 0))), ((u 29), .inr (2, [.ref (u 0), .ref (u 9), .ref (u 13), .ref (u 30), .long 0, .long 0])), ((u 30), .inl (cI, 60, .inl (fun _ => 0))), ((u 31), .inr (6, [.ref (u 0), .int 0, .int 0, .int 0])), ((u 32), .inl (cK, 2, .inr (.inr (.inr (.inr (va_up (va_up (fun _ => none) 0 (some (u 35))) 1 (some (u 44)))))))), ((u 33), .inl (cZ, 2, .inl (fun _ => 0))), ((u 34), .inl (cI, 4, .inl (fun _ => 0))), ((u 35), .inr (0, [.ref (u 36), .ref (u 37), .ref (u 38), .int (-6), .int 0, .int 0, .ref (u 39), .ref (u 40), .ref (u 41), .int 0, .ref (u 42), .ref (u 43)])), ((u 36), .inl (cI, 5, .inl (upd (fun _ => 0) 0 800))), ((u 37), .inl (cI, 14, .inl (fun _ => 0))), ((u 38), .inl (cZ, 14, .inl (fun _ => 0))), ((u 39), .inl (cI, 6, .inl (fun _ => 0))), ((u 40), .inl (cI, 6, .inl (fun _ => 0))), ((u 41), .inl (cI, 6, .inl (fun _ => 0))), ((u 42), .inl (cI, 8, .inl (fun _ => 0))), ((u 43), .inl (cI, 8, .inl (fun _ => 0))), ((u 44), .inr (0, [.ref (u 45), .ref (u 46), .ref (u 47), .int (-6), .int 0, .int 0, .ref (u 48), .ref (u 49), .ref (u 50), .int 0, .ref (u 51), .ref (u 52)])), ((u 45), .inl (cI, 5, .inl (upd (fun _ => 0) 0 800))), ((u 46), .inl (cI, 14, .inl (fun _ => 0))), ((u 47), .inl (cZ, 14, .inl (fun _ => 0))), ((u 48), .inl (cI, 6, .inl (fun _ => 0))), ((u 49), .inl (cI, 6, .inl (fun _ => 0))), ((u 50), .inl (cI, 6, .inl (fun _ => 0))), ((u 51), .inl (cI, 8, .inl (fun _ => 0))), ((u 52), .inl (cI, 8, .inl (fun _ => 0))), (qn, .inr (8, [.int 800, .int 0, .int 0, .int 0, .int 0, .int 0, .int 0, .ref (v 0), .ref (v 1), .int 0, .ref (v 2), .ref (v 3), .ref (v 4), .ref (v 5), .ref (v 6), .int 0, .ref (v 7), .int 0, .ref (v 8), .ref (v 9), .ref (v 10), .int 0, .int 0, .int 0, .int 0, .int 0, .int 0, .int 0, .int 0, .int 0, .ref (v 11), .ref (v 12), .ref (v 13), .ref (v 14), .int 0, .int 0, .int 0, .int 0, .int 0, .int 0, .int 0, .ref (v 15), .int 0, .ref (v 16), .ref (v 17), .int 0, .int 0, .ref (v 18), .ref (v 19), .ref (v 20), .ref (v 21), .int 0, .int 0])), ((v 0), .inl (cI, 14, .inl (fun _ => 0))), ((v 1), .inl (cI, 14, .inl (fun _ => 0))), ((v 2), .inl (cI, 6, .inl (fun _ => 0))), ((v 3), .inl (cI, 6, .inl (fun _ => 0))), ((v 4), .inl (cI, 6, .inl (fun _ => 0))), ((v 5), .inl (cI, 8, .inl (fun _ => 0))), ((v 6), .inl (cI, 8, .inl (fun _ => 0))), ((v 7), .inl (cI, 60, .inl (fun _ => 0))), ((v 8), .inl (cI, 60, .inl (fun _ => 0))), ((v 9), .inl (cI, 60, .inl (fun _ => 0))), ((v 10), .inl (cI, 60, .inl (fun _ => 0))), ((v 11), .inl (cI, 60, .inl (fun _ => 0))), ((v 12), .inl (cI, 60, .inl (fun _ => 0))), ((v 13), .inl (cI, 14, .inl (fun _ => 0))), ((v 14), .inl (cI, 61, .inl (fun _ => 0))), ((v 15), .inl (cI, 6, .inl (fun _ => 0))), ((v 16), .inl (cI, 6, .inl (fun _ => 0))), ((v 17), .inl (cI, 28, .inl (fun _ => 0))), ((v 18), .inl (cI, 1260, .inl (fun _ => 0))), ((v 19), .inl (cI, 4, .inl (fun _ => 0))), ((v 20), .inl (cI, 160, .inl (fun _ => 0))), ((v 21), .inl (cZ, 2, .inl (fun _ => 0)))] H) (hD : va_D (fun q : Nat => s.heap.size ≤ q) [(qx, .inr (7, [.ref (u 0), .ref (u 9), .ref (u 13), .ref (u 18), .ref (u 23), .ref (u 29), .ref (u 31), .ref (u 32), .ref (u 33), .ref (u 34)])), ((u 0), .inr (0, [.ref (u 1), .ref (u 2), .ref (u 3), .int (-6), .int 0, .int 0, .ref (u 4), .ref (u 5), .ref (u 6), .int 0, .ref (u 7), .ref (u 8)])), ((u 1), .inl (cI, 5, .inl (upd (fun _ => 0) 0 800))), ((u 2), .inl (cI, 14, .inl (fun _ => 0))), ((u 3), .inl (cZ, 14, .inl (fun _ => 0))), ((u 4), .inl (cI, 6, .inl (fun _ => 0))), ((u 5), .inl (cI, 6, .inl (fun _ => 0))), ((u 6), .inl (cI, 6, .inl (fun _ => 0))), ((u 7), .inl (cI, 8, .inl (fun _ => 0))), ((u 8), .inl (cI, 8, .inl (fun _ => 0))), ((u 9), .inr (4, [.ref (u 10), .int 0, .ref (u 11), .ref (u 12), .int 0, .int 0])), ((u 10), .inl (cI, 60, .inl (fun _ => 0))), ((u 11), .inl (cI, 60, .inl (fun _ => 0))), ((u 12), .inl (cI, 60, .inl (fun _ => 0))), ((u 13), .inr (1, [.ref (u 0), .ref (u 9), .ref (u 14), .ref (u 15), .ref (u 16), .ref (u 17), .int 0, .int 0, .int 0, .int 0, .int 0, .int 0, .int 0, .int 0])), ((u 14), .inl (cI, 60, .inl (fun _ => 0))), ((u 15), .inl (cI, 60, .inl (fun _ => 0))), ((u 16), .inl (cI, 60, .inl (fun _ => 0))), ((u 17), .inl (cI, 61, .inl (fun _ => 0))), ((u 18), .inr (3, [.ref (u 0), .ref (u 19), .int 0, .ref (u 20), .ref (u 21), .ref (u 22)])), ((u 19), .inl (cI, 6, .inl (fun _ => 0))), ((u 20), .inl (cI, 6, .inl (fun _ => 0))), ((u 21), .inl (cI, 6, .inl (fun _ => 0))), ((u 22), .inl (cI, 5, .inl (fun _ => 0))), ((u 23), .inr (5, [.ref (u 0), .ref (u 9), .ref (u 13), .ref (u 24), .ref (u 25), .ref (u 26), .ref (u 27), .ref (u 28), .int 0, .int 0, .int 0])), ((u 24), .inl (cI, 61, .inl (fun _ => 0))), ((u 25), .inl (cI, 61, .inl (fun _ => 0))), ((u 26), .inl (cI, 60, .inl (fun _ => 0))), ((u 27), .inl (cI, 60, .inl (fun _ => 0))), ((u 28), .inl (cI, 21, .inl (fun _ => 0))), ((u 29), .inr (2, [.ref (u 0), .ref (u 9), .ref (u 13), .ref (u 30), .long 0, .long 0])), ((u 30), .inl (cI, 60, .inl (fun _ => 0))), ((u 31), .inr (6, [.ref (u 0), .int 0, .int 0, .int 0])), ((u 32), .inl (cK, 2, .inr (.inr (.inr (.inr (va_up (va_up (fun _ => none) 0 (some (u 35))) 1 (some (u 44)))))))), ((u 33), .inl (cZ, 2, .inl (fun _ => 0))), ((u 34), .inl (cI, 4, .inl (fun _ => 0))), ((u 35), .inr (0, [.ref (u 36), .ref (u 37), .ref (u 38), .int (-6), .int 0, .int 0, .ref (u 39), .ref (u 40), .ref (u 41), .int 0, .ref (u 42), .ref (u 43)])), ((u 36), .inl (cI, 5, .inl (upd (fun _ => 0) 0 800))), ((u 37), .inl (cI, 14, .inl (fun _ => 0))), ((u 38), .inl (cZ, 14, .inl (fun _ => 0))), ((u 39), .inl (cI, 6, .inl (fun _ => 0))), ((u 40), .inl (cI, 6, .inl (fun _ => 0))), ((u 41), .inl (cI, 6, .inl (fun _ => 0))), ((u 42), .inl (cI, 8, .inl (fun _ => 0))), ((u 43), .inl (cI, 8, .inl (fun _ => 0))), ((u 44), .inr (0, [.ref (u 45), .ref (u 46), .ref (u 47), .int (-6), .int 0, .int 0, .ref (u 48), .ref (u 49), .ref (u 50), .int 0, .ref (u 51), .ref (u 52)])), ((u 45), .inl (cI, 5, .inl (upd (fun _ => 0) 0 800))), ((u 46), .inl (cI, 14, .inl (fun _ => 0))), ((u 47), .inl (cZ, 14, .inl (fun _ => 0))), ((u 48), .inl (cI, 6, .inl (fun _ => 0))), ((u 49), .inl (cI, 6, .inl (fun _ => 0))), ((u 50), .inl (cI, 6, .inl (fun _ => 0))), ((u 51), .inl (cI, 8, .inl (fun _ => 0))), ((u 52), .inl (cI, 8, .inl (fun _ => 0))), (qn, .inr (8, [.int 800, .int 0, .int 0, .int 0, .int 0, .int 0, .int 0, .ref (v 0), .ref (v 1), .int 0, .ref (v 2), .ref (v 3), .ref (v 4), .ref (v 5), .ref (v 6), .int 0, .ref (v 7), .int 0, .ref (v 8), .ref (v 9), .ref (v 10), .int 0, .int 0, .int 0, .int 0, .int 0, .int 0, .int 0, .int 0, .int 0, .ref (v 11), .ref (v 12), .ref (v 13), .ref (v 14), .int 0, .int 0, .int 0, .int 0, .int 0, .int 0, .int 0, .ref (v 15), .int 0, .ref (v 16), .ref (v 17), .int 0, .int 0, .ref (v 18), .ref (v 19), .ref (v 20), .ref (v 21), .int 0, .int 0])), ((v 0), .inl (cI, 14, .inl (fun _ => 0))), ((v 1), .inl (cI, 14, .inl (fun _ => 0))), ((v 2), .inl (cI, 6, .inl (fun _ => 0))), ((v 3), .inl (cI, 6, .inl (fun _ => 0))), ((v 4), .inl (cI, 6, .inl (fun _ => 0))), ((v 5), .inl (cI, 8, .inl (fun _ => 0))), ((v 6), .inl (cI, 8, .inl (fun _ => 0))), ((v 7), .inl (cI, 60, .inl (fun _ => 0))), ((v 8), .inl (cI, 60, .inl (fun _ => 0))), ((v 9), .inl (cI, 60, .inl (fun _ => 0))), ((v 10), .inl (cI, 60, .inl (fun _ => 0))), ((v 11), .inl (cI, 60, .inl (fun _ => 0))), ((v 12), .inl (cI, 60, .inl (fun _ => 0))), ((v 13), .inl (cI, 14, .inl (fun _ => 0))), ((v 14), .inl (cI, 61, .inl (fun _ => 0))), ((v 15), .inl (cI, 6, .inl (fun _ => 0))), ((v 16), .inl (cI, 6, .inl (fun _ => 0))), ((v 17), .inl (cI, 28, .inl (fun _ => 0))), ((v 18), .inl (cI, 1260, .inl (fun _ => 0))), ((v 19), .inl (cI, 4, .inl (fun _ => 0))), ((v 20), .inl (cI, 160, .inl (fun _ => 0))), ((v 21), .inl (cZ, 2, .inl (fun _ => 0)))]) (hS : va_S (fun q : Nat => s.heap.size ≤ q) s.heap H locs) (ls : Array Slot) (hl : lv_has ls 4 [(3, .int 0), (2, .ref qn), (1, .ref qx), (0, .ref b)]) : W p l e room_1 s m #[Value.ref b] below meth c H locs 77 3085 (lw_Z below #[Value.ref b] s) (F0 m 197 ls []) := by
  obtain ⟨hx, hb, hr, hml, hown, hts, hX, hbl, hlocks, hgv⟩ := C0
  have hts := fun w h => hts w (wsL_law_in w h)
  have hown : s.vm.findClass RL = some m.cls := hown
  have hA : ∀ q : Nat, s.heap.size ≤ q → (fun q : Nat => s.heap.size ≤ q) q := fun _ h => h
  have hbA : ¬ (fun q : Nat => s.heap.size ≤ q) b := Nat.not_le.mpr hbl
  have hK := hKx.1
  replace hP := mx_subP (wc := [(qx, .inr (7, [.ref (u 0), .ref (u 9), .ref (u 13), .ref (u 18), .ref (u 23), .ref (u 29), .ref (u 31), .ref (u 32), .ref (u 33), .ref (u 34)])), ((u 0), .inr (0, [.ref (u 1), .ref (u 2), .ref (u 3), .int (-6), .int 0, .int 0, .ref (u 4), .ref (u 5), .ref (u 6), .int 0, .ref (u 7), .ref (u 8)])), ((u 2), .inl (cI, 14, .inl (fun _ => 0))), ((u 3), .inl (cZ, 14, .inl (fun _ => 0))), (qn, .inr (8, [.int 800, .int 0, .int 0, .int 0, .int 0, .int 0, .int 0, .ref (v 0), .ref (v 1), .int 0, .ref (v 2), .ref (v 3), .ref (v 4), .ref (v 5), .ref (v 6), .int 0, .ref (v 7), .int 0, .ref (v 8), .ref (v 9), .ref (v 10), .int 0, .int 0, .int 0, .int 0, .int 0, .int 0, .int 0, .int 0, .int 0, .ref (v 11), .ref (v 12), .ref (v 13), .ref (v 14), .int 0, .int 0, .int 0, .int 0, .int 0, .int 0, .int 0, .ref (v 15), .int 0, .ref (v 16), .ref (v 17), .int 0, .int 0, .ref (v 18), .ref (v 19), .ref (v 20), .ref (v 21), .int 0, .int 0])), ((v 0), .inl (cI, 14, .inl (fun _ => 0))), ((v 1), .inl (cI, 14, .inl (fun _ => 0)))]) hP [0, 1, 3, 4, 54, 55, 56] rfl
  replace hD := hD.sub (ws' := [(qx, .inr (7, [.ref (u 0), .ref (u 9), .ref (u 13), .ref (u 18), .ref (u 23), .ref (u 29), .ref (u 31), .ref (u 32), .ref (u 33), .ref (u 34)])), ((u 0), .inr (0, [.ref (u 1), .ref (u 2), .ref (u 3), .int (-6), .int 0, .int 0, .ref (u 4), .ref (u 5), .ref (u 6), .int 0, .ref (u 7), .ref (u 8)])), ((u 2), .inl (cI, 14, .inl (fun _ => 0))), ((u 3), .inl (cZ, 14, .inl (fun _ => 0))), (qn, .inr (8, [.int 800, .int 0, .int 0, .int 0, .int 0, .int 0, .int 0, .ref (v 0), .ref (v 1), .int 0, .ref (v 2), .ref (v 3), .ref (v 4), .ref (v 5), .ref (v 6), .int 0, .ref (v 7), .int 0, .ref (v 8), .ref (v 9), .ref (v 10), .int 0, .int 0, .int 0, .int 0, .int 0, .int 0, .int 0, .int 0, .int 0, .ref (v 11), .ref (v 12), .ref (v 13), .ref (v 14), .int 0, .int 0, .int 0, .int 0, .int 0, .int 0, .int 0, .ref (v 15), .int 0, .ref (v 16), .ref (v 17), .int 0, .int 0, .ref (v 18), .ref (v 19), .ref (v 20), .ref (v 21), .int 0, .int 0])), ((v 0), .inl (cI, 14, .inl (fun _ => 0))), ((v 1), .inl (cI, 14, .inl (fun _ => 0)))]) [0, 1, 3, 4, 54, 55, 56] (by decide) rfl
  refine lv_aload_n hx hb dL_law_197 rfl (lv_at hl 2 rfl) ?_
  refine lv_aload_n hx hb dL_law_198 rfl (lv_at hl 3 rfl) ?_
  refine lv_iload_n hx hb dL_law_199 rfl (lv_at hl 0 rfl) ?_
  refine lv_iconst (v := 1) hx hb dL_law_200 (by decide) ?_
  refine lv_iadd hx hb dL_law_201 ?_
  refine lv_topi (fun x1 e1 => ?_)
  obtain rfl : x1 = 1 := e1.trans (by decide)
  refine va_sld hx hb hX hbl hbA hS (vin (by decide) (by decide)) dL_law_202 ?_
  refine lv_topi (fun y2 e2 => ?_)
  obtain rfl : y2 = xs 1 := e2
  refine lv_aload_n hx hb dL_law_203 rfl (lv_at hl 3 rfl) ?_
  refine lv_iload_n hx hb dL_law_204 rfl (lv_at hl 0 rfl) ?_
  refine lv_iconst (v := 2) hx hb dL_law_205 (by decide) ?_
  refine lv_iadd hx hb dL_law_206 ?_
  refine lv_topi (fun x3 e3 => ?_)
  obtain rfl : x3 = 2 := e3.trans (by decide)
  refine va_sld hx hb hX hbl hbA hS (vin (by decide) (by decide)) dL_law_207 ?_
  refine lv_topi (fun y4 e4 => ?_)
  obtain rfl : y4 = xs 2 := e4
  refine lv_aload_n hx hb dL_law_208 rfl (lv_at hl 3 rfl) ?_
  refine lv_iload_n hx hb dL_law_209 rfl (lv_at hl 0 rfl) ?_
  refine lv_iconst (v := 3) hx hb dL_law_210 (by decide) ?_
  refine lv_iadd hx hb dL_law_211 ?_
  refine lv_topi (fun x5 e5 => ?_)
  obtain rfl : x5 = 3 := e5.trans (by decide)
  refine va_sld hx hb hX hbl hbA hS (vin (by decide) (by decide)) dL_law_212 ?_
  refine lv_topi (fun y6 e6 => ?_)
  obtain rfl : y6 = xs 3 := e6
  refine lv_if_eq (tgt := 220) hx hb dL_law_213 (by decide) (fun c7 => ?_) (fun c7 => ?_)
  · have t7 : (xs 3).toInt = (0 : Int) := (teq c7)
    refine lv_iconst (v := 0) hx hb dL_law_220 (by decide) ?_
    refine mx_i (wr := [(qn, .inr (8, [.int 800, .int 0, .int 0, .int 0, .int 0, .int 0, .int 0, .ref (v 0), .ref (v 1), .int 0, .ref (v 2), .ref (v 3), .ref (v 4), .ref (v 5), .ref (v 6), .int 0, .ref (v 7), .int 0, .ref (v 8), .ref (v 9), .ref (v 10), .int 0, .int 0, .int 0, .int 0, .int 0, .int 0, .int 0, .int 0, .int 0, .ref (v 11), .ref (v 12), .ref (v 13), .ref (v 14), .int 0, .int 0, .int 0, .int 0, .int 0, .int 0, .int 0, .ref (v 15), .int 0, .ref (v 16), .ref (v 17), .int 0, .int 0, .ref (v 18), .ref (v 19), .ref (v 20), .ref (v 21), .int 0, .int 0])), ((v 0), .inl (cI, 14, .inl (fun _ => 0))), ((v 1), .inl (cI, 14, .inl (fun _ => 0)))]) (va_runV (As := [.int (xs 1), .int (xs 2), .int 0]) (rest := []) ⟨hx, hb, hml, hown, hts⟩ (c_X7_day l dC dI cI cZ cK tS aK aV qx (u 18) (u 23) (u 29) (u 31) (u 32) (u 33) (u 34) (u 13) (u 0) (u 1) (u 2) (u 3) (u 4) (u 5) (u 6) (u 7) (u 8) (u 9) (xs 1) (xs 2) 0 H.size) (cwV 3 hts (gw_v (fun _ h9 => h9) wm_564 wm_565 wm_566 wm_2 wm_567) rfl rfl rfl (by decide +kernel) ⟨Nat.le_of_ble_eq_true rfl, Nat.le_of_ble_eq_true rfl⟩) (mx_preV (C := RX7) (T := TX7) (N := 10) (ci := 7) hKx hP hD hS hA [0, 1, 2, 3] (by decide) rfl rfl rfl) rfl rfl hl.1 rfl (lv_room (Nat.le_of_ble_eq_true rfl)) dL_law_221 ⟨Nat.le_of_ble_eq_true rfl, Nat.le_of_ble_eq_true rfl⟩) hP hD hS hA [0, 1, 2, 3] [4, 5, 6] rfl rfl (by decide) (by decide) (fun r8 u8 H locs hq8 hP hD hS => ?_)
    replace hP : va_P (dC, dI) vwCl [(qn, .inr (8, [.int 800, .int 0, .int 0, .int 0, .int 0, .int 0, .int 0, .ref (v 0), .ref (v 1), .int 0, .ref (v 2), .ref (v 3), .ref (v 4), .ref (v 5), .ref (v 6), .int 0, .ref (v 7), .int 0, .ref (v 8), .ref (v 9), .ref (v 10), .int 0, .int 0, .int 0, .int 0, .int 0, .int 0, .int 0, .int 0, .int 0, .ref (v 11), .ref (v 12), .ref (v 13), .ref (v 14), .int 0, .int 0, .int 0, .int 0, .int 0, .int 0, .int 0, .ref (v 15), .int 0, .ref (v 16), .ref (v 17), .int 0, .int 0, .ref (v 18), .ref (v 19), .ref (v 20), .ref (v 21), .int 0, .int 0])), ((v 0), .inl (cI, 14, .inl (fun _ => 0))), ((v 1), .inl (cI, 14, .inl (fun _ => 0)))] H := hP
    replace hD : va_D (fun q : Nat => s.heap.size ≤ q) [(qn, .inr (8, [.int 800, .int 0, .int 0, .int 0, .int 0, .int 0, .int 0, .ref (v 0), .ref (v 1), .int 0, .ref (v 2), .ref (v 3), .ref (v 4), .ref (v 5), .ref (v 6), .int 0, .ref (v 7), .int 0, .ref (v 8), .ref (v 9), .ref (v 10), .int 0, .int 0, .int 0, .int 0, .int 0, .int 0, .int 0, .int 0, .int 0, .ref (v 11), .ref (v 12), .ref (v 13), .ref (v 14), .int 0, .int 0, .int 0, .int 0, .int 0, .int 0, .int 0, .ref (v 15), .int 0, .ref (v 16), .ref (v 17), .int 0, .int 0, .ref (v 18), .ref (v 19), .ref (v 20), .ref (v 21), .int 0, .int 0])), ((v 0), .inl (cI, 14, .inl (fun _ => 0))), ((v 1), .inl (cI, 14, .inl (fun _ => 0)))] := hD
    rcases hq8 with ⟨rfl, hf8⟩ | ⟨rfl, hf8⟩ | ⟨rfl, hf8⟩
    · have hf8 : 0 ≤ (xs 1).toInt ∧ (xs 1).toInt ≤ 13 ∧ 0 ≤ (xs 2).toInt ∧ (xs 2).toInt ≤ 4 := hf8
      refine lv_aload_n hx hb dL_law_224 rfl (lv_at hl 1 rfl) ?_
      refine lv_aload_n hx hb dL_law_225 rfl (lv_at hl 3 rfl) ?_
      refine lv_iload_n hx hb dL_law_226 rfl (lv_at hl 0 rfl) ?_
      refine lv_iconst (v := 1) hx hb dL_law_227 (by decide) ?_
      refine lv_iadd hx hb dL_law_228 ?_
      refine lv_topi (fun x9 e9 => ?_)
      obtain rfl : x9 = 1 := e9.trans (by decide)
      refine va_sld hx hb hX hbl hbA hS (vin (by decide) (by decide)) dL_law_229 ?_
      refine lv_topi (fun y10 e10 => ?_)
      obtain rfl : y10 = xs 1 := e10
      refine lv_aload_n hx hb dL_law_230 rfl (lv_at hl 3 rfl) ?_
      refine lv_iload_n hx hb dL_law_231 rfl (lv_at hl 0 rfl) ?_
      refine lv_iconst (v := 2) hx hb dL_law_232 (by decide) ?_
      refine lv_iadd hx hb dL_law_233 ?_
      refine lv_topi (fun x11 e11 => ?_)
      obtain rfl : x11 = 2 := e11.trans (by decide)
      refine va_sld hx hb hX hbl hbA hS (vin (by decide) (by decide)) dL_law_234 ?_
      refine lv_topi (fun y12 e12 => ?_)
      obtain rfl : y12 = xs 2 := e12
      refine lv_aload_n hx hb dL_law_235 rfl (lv_at hl 3 rfl) ?_
      refine lv_iload_n hx hb dL_law_236 rfl (lv_at hl 0 rfl) ?_
      refine lv_iconst (v := 3) hx hb dL_law_237 (by decide) ?_
      refine lv_iadd hx hb dL_law_238 ?_
      refine lv_topi (fun x13 e13 => ?_)
      obtain rfl : x13 = 3 := e13.trans (by decide)
      refine va_sld hx hb hX hbl hbA hS (vin (by decide) (by decide)) dL_law_239 ?_
      refine lv_topi (fun y14 e14 => ?_)
      obtain rfl : y14 = xs 3 := e14
      refine lv_if_eq (tgt := 247) hx hb dL_law_240 (by decide) (fun c15 => ?_) (fun c15 => by exfalso; have t15 : (xs 3).toInt ≠ (0 : Int) := (tne c15); omega)
      refine lv_iconst (v := 0) hx hb dL_law_247 (by decide) ?_
      refine mx_i (wr := []) (va_runV (As := [.int (xs 1), .int (xs 2), .int 0]) (rest := [.int 0]) ⟨hx, hb, hml, hown, hts⟩ (c_X8_day l dC dI cI cZ cK tS aK aV qn (v 0) (v 1) (v 2) (v 3) (v 4) (v 5) (v 6) (v 7) (v 8) (v 9) (v 10) (v 11) (v 12) (v 13) (v 14) (v 15) (v 16) (v 17) (v 18) (v 19) (v 20) (v 21) (xs 1) (xs 2) 0 H.size) (cwV 3 hts (gw_v (fun _ h9 => h9) wm_568 wm_569 wm_570 wm_385 wm_571) rfl rfl rfl (by decide +kernel) ⟨Nat.le_of_ble_eq_true rfl, Nat.le_of_ble_eq_true rfl⟩) (mx_preV (C := RX8) (T := TX8) (N := 53) (ci := 8) hKx hP hD hS hA [0, 1, 2] (by decide) rfl rfl rfl) rfl rfl hl.1 rfl (lv_room (Nat.le_of_ble_eq_true rfl)) dL_law_248 ⟨Nat.le_of_ble_eq_true rfl, Nat.le_of_ble_eq_true rfl⟩) hP hD hS hA [0, 1, 2] [] rfl rfl (by decide) (by decide) (fun r16 u16 H locs hq16 hP hD hS => ?_)
      replace hP : va_P (dC, dI) vwCl [] H := hP
      replace hD : va_D (fun q : Nat => s.heap.size ≤ q) [] := hD
      rcases hq16 with ⟨rfl, hf16⟩ | ⟨rfl, hf16⟩ | ⟨rfl, hf16⟩
      · have hf16 : 0 ≤ (xs 1).toInt ∧ (xs 1).toInt ≤ 13 ∧ 0 ≤ (xs 2).toInt ∧ (xs 2).toInt ≤ 4 := hf16
        refine lv_icmp_eq (tgt := 998) hx hb dL_law_251 (by decide) (fun c17 => ?_) (fun c17 => absurd c17 (by decide))
        refine lv_iinc (v := 5) (lv' := [(3, .int 5), (2, .ref qn), (1, .ref qx), (0, .ref b)]) hx hb dL_law_998 hl (k := 0) rfl (by decide) (by decide) rfl (fun ls hl => ?_)
        refine lv_goto (tgt := 18) hx hb dL_law_1001 (by decide) ?_
        refine lv_iload_n hx hb dL_law_18 rfl (lv_at hl 0 rfl) ?_
        refine lv_aload_n hx hb dL_law_19 rfl (lv_at hl 3 rfl) ?_
        refine va_slen hx hb hX hbl hbA hS dL_law_20 ?_
        refine lv_topi (fun x18 e18 => ?_)
        obtain rfl : x18 = 5 := e18.trans (by decide)
        refine lv_iconst (v := 5) hx hb dL_law_21 (by decide) ?_
        refine lv_isub hx hb dL_law_22 ?_
        refine lv_topi (fun x19 e19 => ?_)
        obtain rfl : x19 = 0 := e19.trans (by decide)
        refine lv_icmp_gt (tgt := 1004) hx hb dL_law_23 (by decide) (fun c20 => ?_) (fun c20 => absurd c20 (by decide))
        refine lv_iconst (v := 1) hx hb dL_law_1004 (by decide) ?_
        refine va_forget (fun q hq => hS.2.2 q hq) ?_
        refine W.widen (k := 600000) (n := 7302250) (Nat.le_of_ble_eq_true rfl) (Nat.le_of_ble_eq_true rfl) ?_
        exact lw_ret hx hb hr hlocks dL_law_1005
      · have hf16 : (xs 1).toInt < 0 ∨ 13 < (xs 1).toInt := hf16
        refine lv_icmp_eq (tgt := 998) hx hb dL_law_251 (by decide) (fun c21 => absurd c21 (by decide)) (fun c21 => ?_)
        refine lv_iconst (v := 0) hx hb dL_law_254 (by decide) ?_
        exfalso; omega
      · have hf16 : 0 ≤ (xs 1).toInt ∧ (xs 1).toInt ≤ 13 ∧ ((xs 2).toInt < 0 ∨ 4 < (xs 2).toInt) := hf16
        refine lv_icmp_eq (tgt := 998) hx hb dL_law_251 (by decide) (fun c22 => absurd c22 (by decide)) (fun c22 => ?_)
        refine lv_iconst (v := 0) hx hb dL_law_254 (by decide) ?_
        exfalso; omega
    · have hf8 : (xs 1).toInt < 0 ∨ 13 < (xs 1).toInt := hf8
      refine lv_aload_n hx hb dL_law_224 rfl (lv_at hl 1 rfl) ?_
      refine lv_aload_n hx hb dL_law_225 rfl (lv_at hl 3 rfl) ?_
      refine lv_iload_n hx hb dL_law_226 rfl (lv_at hl 0 rfl) ?_
      refine lv_iconst (v := 1) hx hb dL_law_227 (by decide) ?_
      refine lv_iadd hx hb dL_law_228 ?_
      refine lv_topi (fun x23 e23 => ?_)
      obtain rfl : x23 = 1 := e23.trans (by decide)
      refine va_sld hx hb hX hbl hbA hS (vin (by decide) (by decide)) dL_law_229 ?_
      refine lv_topi (fun y24 e24 => ?_)
      obtain rfl : y24 = xs 1 := e24
      refine lv_aload_n hx hb dL_law_230 rfl (lv_at hl 3 rfl) ?_
      refine lv_iload_n hx hb dL_law_231 rfl (lv_at hl 0 rfl) ?_
      refine lv_iconst (v := 2) hx hb dL_law_232 (by decide) ?_
      refine lv_iadd hx hb dL_law_233 ?_
      refine lv_topi (fun x25 e25 => ?_)
      obtain rfl : x25 = 2 := e25.trans (by decide)
      refine va_sld hx hb hX hbl hbA hS (vin (by decide) (by decide)) dL_law_234 ?_
      refine lv_topi (fun y26 e26 => ?_)
      obtain rfl : y26 = xs 2 := e26
      refine lv_aload_n hx hb dL_law_235 rfl (lv_at hl 3 rfl) ?_
      refine lv_iload_n hx hb dL_law_236 rfl (lv_at hl 0 rfl) ?_
      refine lv_iconst (v := 3) hx hb dL_law_237 (by decide) ?_
      refine lv_iadd hx hb dL_law_238 ?_
      refine lv_topi (fun x27 e27 => ?_)
      obtain rfl : x27 = 3 := e27.trans (by decide)
      refine va_sld hx hb hX hbl hbA hS (vin (by decide) (by decide)) dL_law_239 ?_
      refine lv_topi (fun y28 e28 => ?_)
      obtain rfl : y28 = xs 3 := e28
      refine lv_if_eq (tgt := 247) hx hb dL_law_240 (by decide) (fun c29 => ?_) (fun c29 => by exfalso; have t29 : (xs 3).toInt ≠ (0 : Int) := (tne c29); omega)
      refine lv_iconst (v := 0) hx hb dL_law_247 (by decide) ?_
      refine mx_i (wr := []) (va_runV (As := [.int (xs 1), .int (xs 2), .int 0]) (rest := [.int (-1)]) ⟨hx, hb, hml, hown, hts⟩ (c_X8_day l dC dI cI cZ cK tS aK aV qn (v 0) (v 1) (v 2) (v 3) (v 4) (v 5) (v 6) (v 7) (v 8) (v 9) (v 10) (v 11) (v 12) (v 13) (v 14) (v 15) (v 16) (v 17) (v 18) (v 19) (v 20) (v 21) (xs 1) (xs 2) 0 H.size) (cwV 3 hts (gw_v (fun _ h9 => h9) wm_568 wm_569 wm_570 wm_385 wm_571) rfl rfl rfl (by decide +kernel) ⟨Nat.le_of_ble_eq_true rfl, Nat.le_of_ble_eq_true rfl⟩) (mx_preV (C := RX8) (T := TX8) (N := 53) (ci := 8) hKx hP hD hS hA [0, 1, 2] (by decide) rfl rfl rfl) rfl rfl hl.1 rfl (lv_room (Nat.le_of_ble_eq_true rfl)) dL_law_248 ⟨Nat.le_of_ble_eq_true rfl, Nat.le_of_ble_eq_true rfl⟩) hP hD hS hA [0, 1, 2] [] rfl rfl (by decide) (by decide) (fun r30 u30 H locs hq30 hP hD hS => ?_)
      replace hP : va_P (dC, dI) vwCl [] H := hP
      replace hD : va_D (fun q : Nat => s.heap.size ≤ q) [] := hD
      rcases hq30 with ⟨rfl, hf30⟩ | ⟨rfl, hf30⟩ | ⟨rfl, hf30⟩
      · have hf30 : 0 ≤ (xs 1).toInt ∧ (xs 1).toInt ≤ 13 ∧ 0 ≤ (xs 2).toInt ∧ (xs 2).toInt ≤ 4 := hf30
        refine lv_icmp_eq (tgt := 998) hx hb dL_law_251 (by decide) (fun c31 => absurd c31 (by decide)) (fun c31 => ?_)
        refine lv_iconst (v := 0) hx hb dL_law_254 (by decide) ?_
        exfalso; omega
      · have hf30 : (xs 1).toInt < 0 ∨ 13 < (xs 1).toInt := hf30
        refine lv_icmp_eq (tgt := 998) hx hb dL_law_251 (by decide) (fun c32 => ?_) (fun c32 => absurd c32 (by decide))
        refine lv_iinc (v := 5) (lv' := [(3, .int 5), (2, .ref qn), (1, .ref qx), (0, .ref b)]) hx hb dL_law_998 hl (k := 0) rfl (by decide) (by decide) rfl (fun ls hl => ?_)
        refine lv_goto (tgt := 18) hx hb dL_law_1001 (by decide) ?_
        refine lv_iload_n hx hb dL_law_18 rfl (lv_at hl 0 rfl) ?_
        refine lv_aload_n hx hb dL_law_19 rfl (lv_at hl 3 rfl) ?_
        refine va_slen hx hb hX hbl hbA hS dL_law_20 ?_
        refine lv_topi (fun x33 e33 => ?_)
        obtain rfl : x33 = 5 := e33.trans (by decide)
        refine lv_iconst (v := 5) hx hb dL_law_21 (by decide) ?_
        refine lv_isub hx hb dL_law_22 ?_
        refine lv_topi (fun x34 e34 => ?_)
        obtain rfl : x34 = 0 := e34.trans (by decide)
        refine lv_icmp_gt (tgt := 1004) hx hb dL_law_23 (by decide) (fun c35 => ?_) (fun c35 => absurd c35 (by decide))
        refine lv_iconst (v := 1) hx hb dL_law_1004 (by decide) ?_
        refine va_forget (fun q hq => hS.2.2 q hq) ?_
        refine W.widen (k := 600000) (n := 7302250) (Nat.le_of_ble_eq_true rfl) (Nat.le_of_ble_eq_true rfl) ?_
        exact lw_ret hx hb hr hlocks dL_law_1005
      · have hf30 : 0 ≤ (xs 1).toInt ∧ (xs 1).toInt ≤ 13 ∧ ((xs 2).toInt < 0 ∨ 4 < (xs 2).toInt) := hf30
        refine lv_icmp_eq (tgt := 998) hx hb dL_law_251 (by decide) (fun c36 => absurd c36 (by decide)) (fun c36 => ?_)
        refine lv_iconst (v := 0) hx hb dL_law_254 (by decide) ?_
        exfalso; omega
    · have hf8 : 0 ≤ (xs 1).toInt ∧ (xs 1).toInt ≤ 13 ∧ ((xs 2).toInt < 0 ∨ 4 < (xs 2).toInt) := hf8
      refine lv_aload_n hx hb dL_law_224 rfl (lv_at hl 1 rfl) ?_
      refine lv_aload_n hx hb dL_law_225 rfl (lv_at hl 3 rfl) ?_
      refine lv_iload_n hx hb dL_law_226 rfl (lv_at hl 0 rfl) ?_
      refine lv_iconst (v := 1) hx hb dL_law_227 (by decide) ?_
      refine lv_iadd hx hb dL_law_228 ?_
      refine lv_topi (fun x37 e37 => ?_)
      obtain rfl : x37 = 1 := e37.trans (by decide)
      refine va_sld hx hb hX hbl hbA hS (vin (by decide) (by decide)) dL_law_229 ?_
      refine lv_topi (fun y38 e38 => ?_)
      obtain rfl : y38 = xs 1 := e38
      refine lv_aload_n hx hb dL_law_230 rfl (lv_at hl 3 rfl) ?_
      refine lv_iload_n hx hb dL_law_231 rfl (lv_at hl 0 rfl) ?_
      refine lv_iconst (v := 2) hx hb dL_law_232 (by decide) ?_
      refine lv_iadd hx hb dL_law_233 ?_
      refine lv_topi (fun x39 e39 => ?_)
      obtain rfl : x39 = 2 := e39.trans (by decide)
      refine va_sld hx hb hX hbl hbA hS (vin (by decide) (by decide)) dL_law_234 ?_
      refine lv_topi (fun y40 e40 => ?_)
      obtain rfl : y40 = xs 2 := e40
      refine lv_aload_n hx hb dL_law_235 rfl (lv_at hl 3 rfl) ?_
      refine lv_iload_n hx hb dL_law_236 rfl (lv_at hl 0 rfl) ?_
      refine lv_iconst (v := 3) hx hb dL_law_237 (by decide) ?_
      refine lv_iadd hx hb dL_law_238 ?_
      refine lv_topi (fun x41 e41 => ?_)
      obtain rfl : x41 = 3 := e41.trans (by decide)
      refine va_sld hx hb hX hbl hbA hS (vin (by decide) (by decide)) dL_law_239 ?_
      refine lv_topi (fun y42 e42 => ?_)
      obtain rfl : y42 = xs 3 := e42
      refine lv_if_eq (tgt := 247) hx hb dL_law_240 (by decide) (fun c43 => ?_) (fun c43 => by exfalso; have t43 : (xs 3).toInt ≠ (0 : Int) := (tne c43); omega)
      refine lv_iconst (v := 0) hx hb dL_law_247 (by decide) ?_
      refine mx_i (wr := []) (va_runV (As := [.int (xs 1), .int (xs 2), .int 0]) (rest := [.int (-2)]) ⟨hx, hb, hml, hown, hts⟩ (c_X8_day l dC dI cI cZ cK tS aK aV qn (v 0) (v 1) (v 2) (v 3) (v 4) (v 5) (v 6) (v 7) (v 8) (v 9) (v 10) (v 11) (v 12) (v 13) (v 14) (v 15) (v 16) (v 17) (v 18) (v 19) (v 20) (v 21) (xs 1) (xs 2) 0 H.size) (cwV 3 hts (gw_v (fun _ h9 => h9) wm_568 wm_569 wm_570 wm_385 wm_571) rfl rfl rfl (by decide +kernel) ⟨Nat.le_of_ble_eq_true rfl, Nat.le_of_ble_eq_true rfl⟩) (mx_preV (C := RX8) (T := TX8) (N := 53) (ci := 8) hKx hP hD hS hA [0, 1, 2] (by decide) rfl rfl rfl) rfl rfl hl.1 rfl (lv_room (Nat.le_of_ble_eq_true rfl)) dL_law_248 ⟨Nat.le_of_ble_eq_true rfl, Nat.le_of_ble_eq_true rfl⟩) hP hD hS hA [0, 1, 2] [] rfl rfl (by decide) (by decide) (fun r44 u44 H locs hq44 hP hD hS => ?_)
      replace hP : va_P (dC, dI) vwCl [] H := hP
      replace hD : va_D (fun q : Nat => s.heap.size ≤ q) [] := hD
      rcases hq44 with ⟨rfl, hf44⟩ | ⟨rfl, hf44⟩ | ⟨rfl, hf44⟩
      · have hf44 : 0 ≤ (xs 1).toInt ∧ (xs 1).toInt ≤ 13 ∧ 0 ≤ (xs 2).toInt ∧ (xs 2).toInt ≤ 4 := hf44
        refine lv_icmp_eq (tgt := 998) hx hb dL_law_251 (by decide) (fun c45 => absurd c45 (by decide)) (fun c45 => ?_)
        refine lv_iconst (v := 0) hx hb dL_law_254 (by decide) ?_
        exfalso; omega
      · have hf44 : (xs 1).toInt < 0 ∨ 13 < (xs 1).toInt := hf44
        refine lv_icmp_eq (tgt := 998) hx hb dL_law_251 (by decide) (fun c46 => absurd c46 (by decide)) (fun c46 => ?_)
        refine lv_iconst (v := 0) hx hb dL_law_254 (by decide) ?_
        exfalso; omega
      · have hf44 : 0 ≤ (xs 1).toInt ∧ (xs 1).toInt ≤ 13 ∧ ((xs 2).toInt < 0 ∨ 4 < (xs 2).toInt) := hf44
        refine lv_icmp_eq (tgt := 998) hx hb dL_law_251 (by decide) (fun c47 => ?_) (fun c47 => absurd c47 (by decide))
        refine lv_iinc (v := 5) (lv' := [(3, .int 5), (2, .ref qn), (1, .ref qx), (0, .ref b)]) hx hb dL_law_998 hl (k := 0) rfl (by decide) (by decide) rfl (fun ls hl => ?_)
        refine lv_goto (tgt := 18) hx hb dL_law_1001 (by decide) ?_
        refine lv_iload_n hx hb dL_law_18 rfl (lv_at hl 0 rfl) ?_
        refine lv_aload_n hx hb dL_law_19 rfl (lv_at hl 3 rfl) ?_
        refine va_slen hx hb hX hbl hbA hS dL_law_20 ?_
        refine lv_topi (fun x48 e48 => ?_)
        obtain rfl : x48 = 5 := e48.trans (by decide)
        refine lv_iconst (v := 5) hx hb dL_law_21 (by decide) ?_
        refine lv_isub hx hb dL_law_22 ?_
        refine lv_topi (fun x49 e49 => ?_)
        obtain rfl : x49 = 0 := e49.trans (by decide)
        refine lv_icmp_gt (tgt := 1004) hx hb dL_law_23 (by decide) (fun c50 => ?_) (fun c50 => absurd c50 (by decide))
        refine lv_iconst (v := 1) hx hb dL_law_1004 (by decide) ?_
        refine va_forget (fun q hq => hS.2.2 q hq) ?_
        refine W.widen (k := 600000) (n := 7302250) (Nat.le_of_ble_eq_true rfl) (Nat.le_of_ble_eq_true rfl) ?_
        exact lw_ret hx hb hr hlocks dL_law_1005
  · have t7 : (xs 3).toInt ≠ (0 : Int) := (tne c7)
    refine lv_iconst (v := 1) hx hb dL_law_216 (by decide) ?_
    refine lv_goto (tgt := 221) hx hb dL_law_217 (by decide) ?_
    refine mx_i (wr := [(qn, .inr (8, [.int 800, .int 0, .int 0, .int 0, .int 0, .int 0, .int 0, .ref (v 0), .ref (v 1), .int 0, .ref (v 2), .ref (v 3), .ref (v 4), .ref (v 5), .ref (v 6), .int 0, .ref (v 7), .int 0, .ref (v 8), .ref (v 9), .ref (v 10), .int 0, .int 0, .int 0, .int 0, .int 0, .int 0, .int 0, .int 0, .int 0, .ref (v 11), .ref (v 12), .ref (v 13), .ref (v 14), .int 0, .int 0, .int 0, .int 0, .int 0, .int 0, .int 0, .ref (v 15), .int 0, .ref (v 16), .ref (v 17), .int 0, .int 0, .ref (v 18), .ref (v 19), .ref (v 20), .ref (v 21), .int 0, .int 0])), ((v 0), .inl (cI, 14, .inl (fun _ => 0))), ((v 1), .inl (cI, 14, .inl (fun _ => 0)))]) (va_runV (As := [.int (xs 1), .int (xs 2), .int 1]) (rest := []) ⟨hx, hb, hml, hown, hts⟩ (c_X7_day l dC dI cI cZ cK tS aK aV qx (u 18) (u 23) (u 29) (u 31) (u 32) (u 33) (u 34) (u 13) (u 0) (u 1) (u 2) (u 3) (u 4) (u 5) (u 6) (u 7) (u 8) (u 9) (xs 1) (xs 2) 1 H.size) (cwV 3 hts (gw_v (fun _ h9 => h9) wm_564 wm_565 wm_566 wm_2 wm_567) rfl rfl rfl (by decide +kernel) ⟨Nat.le_of_ble_eq_true rfl, Nat.le_of_ble_eq_true rfl⟩) (mx_preV (C := RX7) (T := TX7) (N := 10) (ci := 7) hKx hP hD hS hA [0, 1, 2, 3] (by decide) rfl rfl rfl) rfl rfl hl.1 rfl (lv_room (Nat.le_of_ble_eq_true rfl)) dL_law_221 ⟨Nat.le_of_ble_eq_true rfl, Nat.le_of_ble_eq_true rfl⟩) hP hD hS hA [0, 1, 2, 3] [4, 5, 6] rfl rfl (by decide) (by decide) (fun r51 u51 H locs hq51 hP hD hS => ?_)
    replace hP : va_P (dC, dI) vwCl [(qn, .inr (8, [.int 800, .int 0, .int 0, .int 0, .int 0, .int 0, .int 0, .ref (v 0), .ref (v 1), .int 0, .ref (v 2), .ref (v 3), .ref (v 4), .ref (v 5), .ref (v 6), .int 0, .ref (v 7), .int 0, .ref (v 8), .ref (v 9), .ref (v 10), .int 0, .int 0, .int 0, .int 0, .int 0, .int 0, .int 0, .int 0, .int 0, .ref (v 11), .ref (v 12), .ref (v 13), .ref (v 14), .int 0, .int 0, .int 0, .int 0, .int 0, .int 0, .int 0, .ref (v 15), .int 0, .ref (v 16), .ref (v 17), .int 0, .int 0, .ref (v 18), .ref (v 19), .ref (v 20), .ref (v 21), .int 0, .int 0])), ((v 0), .inl (cI, 14, .inl (fun _ => 0))), ((v 1), .inl (cI, 14, .inl (fun _ => 0)))] H := hP
    replace hD : va_D (fun q : Nat => s.heap.size ≤ q) [(qn, .inr (8, [.int 800, .int 0, .int 0, .int 0, .int 0, .int 0, .int 0, .ref (v 0), .ref (v 1), .int 0, .ref (v 2), .ref (v 3), .ref (v 4), .ref (v 5), .ref (v 6), .int 0, .ref (v 7), .int 0, .ref (v 8), .ref (v 9), .ref (v 10), .int 0, .int 0, .int 0, .int 0, .int 0, .int 0, .int 0, .int 0, .int 0, .ref (v 11), .ref (v 12), .ref (v 13), .ref (v 14), .int 0, .int 0, .int 0, .int 0, .int 0, .int 0, .int 0, .ref (v 15), .int 0, .ref (v 16), .ref (v 17), .int 0, .int 0, .ref (v 18), .ref (v 19), .ref (v 20), .ref (v 21), .int 0, .int 0])), ((v 0), .inl (cI, 14, .inl (fun _ => 0))), ((v 1), .inl (cI, 14, .inl (fun _ => 0)))] := hD
    rcases hq51 with ⟨rfl, hf51⟩ | ⟨rfl, hf51⟩ | ⟨rfl, hf51⟩
    · have hf51 : 0 ≤ (xs 1).toInt ∧ (xs 1).toInt ≤ 13 ∧ 0 ≤ (xs 2).toInt ∧ (xs 2).toInt ≤ 4 := hf51
      refine lv_aload_n hx hb dL_law_224 rfl (lv_at hl 1 rfl) ?_
      refine lv_aload_n hx hb dL_law_225 rfl (lv_at hl 3 rfl) ?_
      refine lv_iload_n hx hb dL_law_226 rfl (lv_at hl 0 rfl) ?_
      refine lv_iconst (v := 1) hx hb dL_law_227 (by decide) ?_
      refine lv_iadd hx hb dL_law_228 ?_
      refine lv_topi (fun x52 e52 => ?_)
      obtain rfl : x52 = 1 := e52.trans (by decide)
      refine va_sld hx hb hX hbl hbA hS (vin (by decide) (by decide)) dL_law_229 ?_
      refine lv_topi (fun y53 e53 => ?_)
      obtain rfl : y53 = xs 1 := e53
      refine lv_aload_n hx hb dL_law_230 rfl (lv_at hl 3 rfl) ?_
      refine lv_iload_n hx hb dL_law_231 rfl (lv_at hl 0 rfl) ?_
      refine lv_iconst (v := 2) hx hb dL_law_232 (by decide) ?_
      refine lv_iadd hx hb dL_law_233 ?_
      refine lv_topi (fun x54 e54 => ?_)
      obtain rfl : x54 = 2 := e54.trans (by decide)
      refine va_sld hx hb hX hbl hbA hS (vin (by decide) (by decide)) dL_law_234 ?_
      refine lv_topi (fun y55 e55 => ?_)
      obtain rfl : y55 = xs 2 := e55
      refine lv_aload_n hx hb dL_law_235 rfl (lv_at hl 3 rfl) ?_
      refine lv_iload_n hx hb dL_law_236 rfl (lv_at hl 0 rfl) ?_
      refine lv_iconst (v := 3) hx hb dL_law_237 (by decide) ?_
      refine lv_iadd hx hb dL_law_238 ?_
      refine lv_topi (fun x56 e56 => ?_)
      obtain rfl : x56 = 3 := e56.trans (by decide)
      refine va_sld hx hb hX hbl hbA hS (vin (by decide) (by decide)) dL_law_239 ?_
      refine lv_topi (fun y57 e57 => ?_)
      obtain rfl : y57 = xs 3 := e57
      refine lv_if_eq (tgt := 247) hx hb dL_law_240 (by decide) (fun c58 => ?_) (fun c58 => ?_)
      · have t58 : (xs 3).toInt = (0 : Int) := (teq c58)
        refine lv_iconst (v := 0) hx hb dL_law_247 (by decide) ?_
        refine mx_i (wr := []) (va_runV (As := [.int (xs 1), .int (xs 2), .int 0]) (rest := [.int 0]) ⟨hx, hb, hml, hown, hts⟩ (c_X8_day l dC dI cI cZ cK tS aK aV qn (v 0) (v 1) (v 2) (v 3) (v 4) (v 5) (v 6) (v 7) (v 8) (v 9) (v 10) (v 11) (v 12) (v 13) (v 14) (v 15) (v 16) (v 17) (v 18) (v 19) (v 20) (v 21) (xs 1) (xs 2) 0 H.size) (cwV 3 hts (gw_v (fun _ h9 => h9) wm_568 wm_569 wm_570 wm_385 wm_571) rfl rfl rfl (by decide +kernel) ⟨Nat.le_of_ble_eq_true rfl, Nat.le_of_ble_eq_true rfl⟩) (mx_preV (C := RX8) (T := TX8) (N := 53) (ci := 8) hKx hP hD hS hA [0, 1, 2] (by decide) rfl rfl rfl) rfl rfl hl.1 rfl (lv_room (Nat.le_of_ble_eq_true rfl)) dL_law_248 ⟨Nat.le_of_ble_eq_true rfl, Nat.le_of_ble_eq_true rfl⟩) hP hD hS hA [0, 1, 2] [] rfl rfl (by decide) (by decide) (fun r59 u59 H locs hq59 hP hD hS => ?_)
        replace hP : va_P (dC, dI) vwCl [] H := hP
        replace hD : va_D (fun q : Nat => s.heap.size ≤ q) [] := hD
        rcases hq59 with ⟨rfl, hf59⟩ | ⟨rfl, hf59⟩ | ⟨rfl, hf59⟩
        · have hf59 : 0 ≤ (xs 1).toInt ∧ (xs 1).toInt ≤ 13 ∧ 0 ≤ (xs 2).toInt ∧ (xs 2).toInt ≤ 4 := hf59
          refine lv_icmp_eq (tgt := 998) hx hb dL_law_251 (by decide) (fun c60 => ?_) (fun c60 => absurd c60 (by decide))
          refine lv_iinc (v := 5) (lv' := [(3, .int 5), (2, .ref qn), (1, .ref qx), (0, .ref b)]) hx hb dL_law_998 hl (k := 0) rfl (by decide) (by decide) rfl (fun ls hl => ?_)
          refine lv_goto (tgt := 18) hx hb dL_law_1001 (by decide) ?_
          refine lv_iload_n hx hb dL_law_18 rfl (lv_at hl 0 rfl) ?_
          refine lv_aload_n hx hb dL_law_19 rfl (lv_at hl 3 rfl) ?_
          refine va_slen hx hb hX hbl hbA hS dL_law_20 ?_
          refine lv_topi (fun x61 e61 => ?_)
          obtain rfl : x61 = 5 := e61.trans (by decide)
          refine lv_iconst (v := 5) hx hb dL_law_21 (by decide) ?_
          refine lv_isub hx hb dL_law_22 ?_
          refine lv_topi (fun x62 e62 => ?_)
          obtain rfl : x62 = 0 := e62.trans (by decide)
          refine lv_icmp_gt (tgt := 1004) hx hb dL_law_23 (by decide) (fun c63 => ?_) (fun c63 => absurd c63 (by decide))
          refine lv_iconst (v := 1) hx hb dL_law_1004 (by decide) ?_
          refine va_forget (fun q hq => hS.2.2 q hq) ?_
          refine W.widen (k := 600000) (n := 7302250) (Nat.le_of_ble_eq_true rfl) (Nat.le_of_ble_eq_true rfl) ?_
          exact lw_ret hx hb hr hlocks dL_law_1005
        · have hf59 : (xs 1).toInt < 0 ∨ 13 < (xs 1).toInt := hf59
          refine lv_icmp_eq (tgt := 998) hx hb dL_law_251 (by decide) (fun c64 => absurd c64 (by decide)) (fun c64 => ?_)
          refine lv_iconst (v := 0) hx hb dL_law_254 (by decide) ?_
          exfalso; omega
        · have hf59 : 0 ≤ (xs 1).toInt ∧ (xs 1).toInt ≤ 13 ∧ ((xs 2).toInt < 0 ∨ 4 < (xs 2).toInt) := hf59
          refine lv_icmp_eq (tgt := 998) hx hb dL_law_251 (by decide) (fun c65 => absurd c65 (by decide)) (fun c65 => ?_)
          refine lv_iconst (v := 0) hx hb dL_law_254 (by decide) ?_
          exfalso; omega
      · have t58 : (xs 3).toInt ≠ (0 : Int) := (tne c58)
        refine lv_iconst (v := 1) hx hb dL_law_243 (by decide) ?_
        refine lv_goto (tgt := 248) hx hb dL_law_244 (by decide) ?_
        refine mx_i (wr := []) (va_runV (As := [.int (xs 1), .int (xs 2), .int 1]) (rest := [.int 0]) ⟨hx, hb, hml, hown, hts⟩ (c_X8_day l dC dI cI cZ cK tS aK aV qn (v 0) (v 1) (v 2) (v 3) (v 4) (v 5) (v 6) (v 7) (v 8) (v 9) (v 10) (v 11) (v 12) (v 13) (v 14) (v 15) (v 16) (v 17) (v 18) (v 19) (v 20) (v 21) (xs 1) (xs 2) 1 H.size) (cwV 3 hts (gw_v (fun _ h9 => h9) wm_568 wm_569 wm_570 wm_385 wm_571) rfl rfl rfl (by decide +kernel) ⟨Nat.le_of_ble_eq_true rfl, Nat.le_of_ble_eq_true rfl⟩) (mx_preV (C := RX8) (T := TX8) (N := 53) (ci := 8) hKx hP hD hS hA [0, 1, 2] (by decide) rfl rfl rfl) rfl rfl hl.1 rfl (lv_room (Nat.le_of_ble_eq_true rfl)) dL_law_248 ⟨Nat.le_of_ble_eq_true rfl, Nat.le_of_ble_eq_true rfl⟩) hP hD hS hA [0, 1, 2] [] rfl rfl (by decide) (by decide) (fun r66 u66 H locs hq66 hP hD hS => ?_)
        replace hP : va_P (dC, dI) vwCl [] H := hP
        replace hD : va_D (fun q : Nat => s.heap.size ≤ q) [] := hD
        rcases hq66 with ⟨rfl, hf66⟩ | ⟨rfl, hf66⟩ | ⟨rfl, hf66⟩
        · have hf66 : 0 ≤ (xs 1).toInt ∧ (xs 1).toInt ≤ 13 ∧ 0 ≤ (xs 2).toInt ∧ (xs 2).toInt ≤ 4 := hf66
          refine lv_icmp_eq (tgt := 998) hx hb dL_law_251 (by decide) (fun c67 => ?_) (fun c67 => absurd c67 (by decide))
          refine lv_iinc (v := 5) (lv' := [(3, .int 5), (2, .ref qn), (1, .ref qx), (0, .ref b)]) hx hb dL_law_998 hl (k := 0) rfl (by decide) (by decide) rfl (fun ls hl => ?_)
          refine lv_goto (tgt := 18) hx hb dL_law_1001 (by decide) ?_
          refine lv_iload_n hx hb dL_law_18 rfl (lv_at hl 0 rfl) ?_
          refine lv_aload_n hx hb dL_law_19 rfl (lv_at hl 3 rfl) ?_
          refine va_slen hx hb hX hbl hbA hS dL_law_20 ?_
          refine lv_topi (fun x68 e68 => ?_)
          obtain rfl : x68 = 5 := e68.trans (by decide)
          refine lv_iconst (v := 5) hx hb dL_law_21 (by decide) ?_
          refine lv_isub hx hb dL_law_22 ?_
          refine lv_topi (fun x69 e69 => ?_)
          obtain rfl : x69 = 0 := e69.trans (by decide)
          refine lv_icmp_gt (tgt := 1004) hx hb dL_law_23 (by decide) (fun c70 => ?_) (fun c70 => absurd c70 (by decide))
          refine lv_iconst (v := 1) hx hb dL_law_1004 (by decide) ?_
          refine va_forget (fun q hq => hS.2.2 q hq) ?_
          refine W.widen (k := 600000) (n := 7302250) (Nat.le_of_ble_eq_true rfl) (Nat.le_of_ble_eq_true rfl) ?_
          exact lw_ret hx hb hr hlocks dL_law_1005
        · have hf66 : (xs 1).toInt < 0 ∨ 13 < (xs 1).toInt := hf66
          refine lv_icmp_eq (tgt := 998) hx hb dL_law_251 (by decide) (fun c71 => absurd c71 (by decide)) (fun c71 => ?_)
          refine lv_iconst (v := 0) hx hb dL_law_254 (by decide) ?_
          exfalso; omega
        · have hf66 : 0 ≤ (xs 1).toInt ∧ (xs 1).toInt ≤ 13 ∧ ((xs 2).toInt < 0 ∨ 4 < (xs 2).toInt) := hf66
          refine lv_icmp_eq (tgt := 998) hx hb dL_law_251 (by decide) (fun c72 => absurd c72 (by decide)) (fun c72 => ?_)
          refine lv_iconst (v := 0) hx hb dL_law_254 (by decide) ?_
          exfalso; omega
    · have hf51 : (xs 1).toInt < 0 ∨ 13 < (xs 1).toInt := hf51
      refine lv_aload_n hx hb dL_law_224 rfl (lv_at hl 1 rfl) ?_
      refine lv_aload_n hx hb dL_law_225 rfl (lv_at hl 3 rfl) ?_
      refine lv_iload_n hx hb dL_law_226 rfl (lv_at hl 0 rfl) ?_
      refine lv_iconst (v := 1) hx hb dL_law_227 (by decide) ?_
      refine lv_iadd hx hb dL_law_228 ?_
      refine lv_topi (fun x73 e73 => ?_)
      obtain rfl : x73 = 1 := e73.trans (by decide)
      refine va_sld hx hb hX hbl hbA hS (vin (by decide) (by decide)) dL_law_229 ?_
      refine lv_topi (fun y74 e74 => ?_)
      obtain rfl : y74 = xs 1 := e74
      refine lv_aload_n hx hb dL_law_230 rfl (lv_at hl 3 rfl) ?_
      refine lv_iload_n hx hb dL_law_231 rfl (lv_at hl 0 rfl) ?_
      refine lv_iconst (v := 2) hx hb dL_law_232 (by decide) ?_
      refine lv_iadd hx hb dL_law_233 ?_
      refine lv_topi (fun x75 e75 => ?_)
      obtain rfl : x75 = 2 := e75.trans (by decide)
      refine va_sld hx hb hX hbl hbA hS (vin (by decide) (by decide)) dL_law_234 ?_
      refine lv_topi (fun y76 e76 => ?_)
      obtain rfl : y76 = xs 2 := e76
      refine lv_aload_n hx hb dL_law_235 rfl (lv_at hl 3 rfl) ?_
      refine lv_iload_n hx hb dL_law_236 rfl (lv_at hl 0 rfl) ?_
      refine lv_iconst (v := 3) hx hb dL_law_237 (by decide) ?_
      refine lv_iadd hx hb dL_law_238 ?_
      refine lv_topi (fun x77 e77 => ?_)
      obtain rfl : x77 = 3 := e77.trans (by decide)
      refine va_sld hx hb hX hbl hbA hS (vin (by decide) (by decide)) dL_law_239 ?_
      refine lv_topi (fun y78 e78 => ?_)
      obtain rfl : y78 = xs 3 := e78
      refine lv_if_eq (tgt := 247) hx hb dL_law_240 (by decide) (fun c79 => ?_) (fun c79 => ?_)
      · have t79 : (xs 3).toInt = (0 : Int) := (teq c79)
        refine lv_iconst (v := 0) hx hb dL_law_247 (by decide) ?_
        refine mx_i (wr := []) (va_runV (As := [.int (xs 1), .int (xs 2), .int 0]) (rest := [.int (-1)]) ⟨hx, hb, hml, hown, hts⟩ (c_X8_day l dC dI cI cZ cK tS aK aV qn (v 0) (v 1) (v 2) (v 3) (v 4) (v 5) (v 6) (v 7) (v 8) (v 9) (v 10) (v 11) (v 12) (v 13) (v 14) (v 15) (v 16) (v 17) (v 18) (v 19) (v 20) (v 21) (xs 1) (xs 2) 0 H.size) (cwV 3 hts (gw_v (fun _ h9 => h9) wm_568 wm_569 wm_570 wm_385 wm_571) rfl rfl rfl (by decide +kernel) ⟨Nat.le_of_ble_eq_true rfl, Nat.le_of_ble_eq_true rfl⟩) (mx_preV (C := RX8) (T := TX8) (N := 53) (ci := 8) hKx hP hD hS hA [0, 1, 2] (by decide) rfl rfl rfl) rfl rfl hl.1 rfl (lv_room (Nat.le_of_ble_eq_true rfl)) dL_law_248 ⟨Nat.le_of_ble_eq_true rfl, Nat.le_of_ble_eq_true rfl⟩) hP hD hS hA [0, 1, 2] [] rfl rfl (by decide) (by decide) (fun r80 u80 H locs hq80 hP hD hS => ?_)
        replace hP : va_P (dC, dI) vwCl [] H := hP
        replace hD : va_D (fun q : Nat => s.heap.size ≤ q) [] := hD
        rcases hq80 with ⟨rfl, hf80⟩ | ⟨rfl, hf80⟩ | ⟨rfl, hf80⟩
        · have hf80 : 0 ≤ (xs 1).toInt ∧ (xs 1).toInt ≤ 13 ∧ 0 ≤ (xs 2).toInt ∧ (xs 2).toInt ≤ 4 := hf80
          refine lv_icmp_eq (tgt := 998) hx hb dL_law_251 (by decide) (fun c81 => absurd c81 (by decide)) (fun c81 => ?_)
          refine lv_iconst (v := 0) hx hb dL_law_254 (by decide) ?_
          exfalso; omega
        · have hf80 : (xs 1).toInt < 0 ∨ 13 < (xs 1).toInt := hf80
          refine lv_icmp_eq (tgt := 998) hx hb dL_law_251 (by decide) (fun c82 => ?_) (fun c82 => absurd c82 (by decide))
          refine lv_iinc (v := 5) (lv' := [(3, .int 5), (2, .ref qn), (1, .ref qx), (0, .ref b)]) hx hb dL_law_998 hl (k := 0) rfl (by decide) (by decide) rfl (fun ls hl => ?_)
          refine lv_goto (tgt := 18) hx hb dL_law_1001 (by decide) ?_
          refine lv_iload_n hx hb dL_law_18 rfl (lv_at hl 0 rfl) ?_
          refine lv_aload_n hx hb dL_law_19 rfl (lv_at hl 3 rfl) ?_
          refine va_slen hx hb hX hbl hbA hS dL_law_20 ?_
          refine lv_topi (fun x83 e83 => ?_)
          obtain rfl : x83 = 5 := e83.trans (by decide)
          refine lv_iconst (v := 5) hx hb dL_law_21 (by decide) ?_
          refine lv_isub hx hb dL_law_22 ?_
          refine lv_topi (fun x84 e84 => ?_)
          obtain rfl : x84 = 0 := e84.trans (by decide)
          refine lv_icmp_gt (tgt := 1004) hx hb dL_law_23 (by decide) (fun c85 => ?_) (fun c85 => absurd c85 (by decide))
          refine lv_iconst (v := 1) hx hb dL_law_1004 (by decide) ?_
          refine va_forget (fun q hq => hS.2.2 q hq) ?_
          refine W.widen (k := 600000) (n := 7302250) (Nat.le_of_ble_eq_true rfl) (Nat.le_of_ble_eq_true rfl) ?_
          exact lw_ret hx hb hr hlocks dL_law_1005
        · have hf80 : 0 ≤ (xs 1).toInt ∧ (xs 1).toInt ≤ 13 ∧ ((xs 2).toInt < 0 ∨ 4 < (xs 2).toInt) := hf80
          refine lv_icmp_eq (tgt := 998) hx hb dL_law_251 (by decide) (fun c86 => absurd c86 (by decide)) (fun c86 => ?_)
          refine lv_iconst (v := 0) hx hb dL_law_254 (by decide) ?_
          exfalso; omega
      · have t79 : (xs 3).toInt ≠ (0 : Int) := (tne c79)
        refine lv_iconst (v := 1) hx hb dL_law_243 (by decide) ?_
        refine lv_goto (tgt := 248) hx hb dL_law_244 (by decide) ?_
        refine mx_i (wr := []) (va_runV (As := [.int (xs 1), .int (xs 2), .int 1]) (rest := [.int (-1)]) ⟨hx, hb, hml, hown, hts⟩ (c_X8_day l dC dI cI cZ cK tS aK aV qn (v 0) (v 1) (v 2) (v 3) (v 4) (v 5) (v 6) (v 7) (v 8) (v 9) (v 10) (v 11) (v 12) (v 13) (v 14) (v 15) (v 16) (v 17) (v 18) (v 19) (v 20) (v 21) (xs 1) (xs 2) 1 H.size) (cwV 3 hts (gw_v (fun _ h9 => h9) wm_568 wm_569 wm_570 wm_385 wm_571) rfl rfl rfl (by decide +kernel) ⟨Nat.le_of_ble_eq_true rfl, Nat.le_of_ble_eq_true rfl⟩) (mx_preV (C := RX8) (T := TX8) (N := 53) (ci := 8) hKx hP hD hS hA [0, 1, 2] (by decide) rfl rfl rfl) rfl rfl hl.1 rfl (lv_room (Nat.le_of_ble_eq_true rfl)) dL_law_248 ⟨Nat.le_of_ble_eq_true rfl, Nat.le_of_ble_eq_true rfl⟩) hP hD hS hA [0, 1, 2] [] rfl rfl (by decide) (by decide) (fun r87 u87 H locs hq87 hP hD hS => ?_)
        replace hP : va_P (dC, dI) vwCl [] H := hP
        replace hD : va_D (fun q : Nat => s.heap.size ≤ q) [] := hD
        rcases hq87 with ⟨rfl, hf87⟩ | ⟨rfl, hf87⟩ | ⟨rfl, hf87⟩
        · have hf87 : 0 ≤ (xs 1).toInt ∧ (xs 1).toInt ≤ 13 ∧ 0 ≤ (xs 2).toInt ∧ (xs 2).toInt ≤ 4 := hf87
          refine lv_icmp_eq (tgt := 998) hx hb dL_law_251 (by decide) (fun c88 => absurd c88 (by decide)) (fun c88 => ?_)
          refine lv_iconst (v := 0) hx hb dL_law_254 (by decide) ?_
          exfalso; omega
        · have hf87 : (xs 1).toInt < 0 ∨ 13 < (xs 1).toInt := hf87
          refine lv_icmp_eq (tgt := 998) hx hb dL_law_251 (by decide) (fun c89 => ?_) (fun c89 => absurd c89 (by decide))
          refine lv_iinc (v := 5) (lv' := [(3, .int 5), (2, .ref qn), (1, .ref qx), (0, .ref b)]) hx hb dL_law_998 hl (k := 0) rfl (by decide) (by decide) rfl (fun ls hl => ?_)
          refine lv_goto (tgt := 18) hx hb dL_law_1001 (by decide) ?_
          refine lv_iload_n hx hb dL_law_18 rfl (lv_at hl 0 rfl) ?_
          refine lv_aload_n hx hb dL_law_19 rfl (lv_at hl 3 rfl) ?_
          refine va_slen hx hb hX hbl hbA hS dL_law_20 ?_
          refine lv_topi (fun x90 e90 => ?_)
          obtain rfl : x90 = 5 := e90.trans (by decide)
          refine lv_iconst (v := 5) hx hb dL_law_21 (by decide) ?_
          refine lv_isub hx hb dL_law_22 ?_
          refine lv_topi (fun x91 e91 => ?_)
          obtain rfl : x91 = 0 := e91.trans (by decide)
          refine lv_icmp_gt (tgt := 1004) hx hb dL_law_23 (by decide) (fun c92 => ?_) (fun c92 => absurd c92 (by decide))
          refine lv_iconst (v := 1) hx hb dL_law_1004 (by decide) ?_
          refine va_forget (fun q hq => hS.2.2 q hq) ?_
          refine W.widen (k := 600000) (n := 7302250) (Nat.le_of_ble_eq_true rfl) (Nat.le_of_ble_eq_true rfl) ?_
          exact lw_ret hx hb hr hlocks dL_law_1005
        · have hf87 : 0 ≤ (xs 1).toInt ∧ (xs 1).toInt ≤ 13 ∧ ((xs 2).toInt < 0 ∨ 4 < (xs 2).toInt) := hf87
          refine lv_icmp_eq (tgt := 998) hx hb dL_law_251 (by decide) (fun c93 => absurd c93 (by decide)) (fun c93 => ?_)
          refine lv_iconst (v := 0) hx hb dL_law_254 (by decide) ?_
          exfalso; omega
    · have hf51 : 0 ≤ (xs 1).toInt ∧ (xs 1).toInt ≤ 13 ∧ ((xs 2).toInt < 0 ∨ 4 < (xs 2).toInt) := hf51
      refine lv_aload_n hx hb dL_law_224 rfl (lv_at hl 1 rfl) ?_
      refine lv_aload_n hx hb dL_law_225 rfl (lv_at hl 3 rfl) ?_
      refine lv_iload_n hx hb dL_law_226 rfl (lv_at hl 0 rfl) ?_
      refine lv_iconst (v := 1) hx hb dL_law_227 (by decide) ?_
      refine lv_iadd hx hb dL_law_228 ?_
      refine lv_topi (fun x94 e94 => ?_)
      obtain rfl : x94 = 1 := e94.trans (by decide)
      refine va_sld hx hb hX hbl hbA hS (vin (by decide) (by decide)) dL_law_229 ?_
      refine lv_topi (fun y95 e95 => ?_)
      obtain rfl : y95 = xs 1 := e95
      refine lv_aload_n hx hb dL_law_230 rfl (lv_at hl 3 rfl) ?_
      refine lv_iload_n hx hb dL_law_231 rfl (lv_at hl 0 rfl) ?_
      refine lv_iconst (v := 2) hx hb dL_law_232 (by decide) ?_
      refine lv_iadd hx hb dL_law_233 ?_
      refine lv_topi (fun x96 e96 => ?_)
      obtain rfl : x96 = 2 := e96.trans (by decide)
      refine va_sld hx hb hX hbl hbA hS (vin (by decide) (by decide)) dL_law_234 ?_
      refine lv_topi (fun y97 e97 => ?_)
      obtain rfl : y97 = xs 2 := e97
      refine lv_aload_n hx hb dL_law_235 rfl (lv_at hl 3 rfl) ?_
      refine lv_iload_n hx hb dL_law_236 rfl (lv_at hl 0 rfl) ?_
      refine lv_iconst (v := 3) hx hb dL_law_237 (by decide) ?_
      refine lv_iadd hx hb dL_law_238 ?_
      refine lv_topi (fun x98 e98 => ?_)
      obtain rfl : x98 = 3 := e98.trans (by decide)
      refine va_sld hx hb hX hbl hbA hS (vin (by decide) (by decide)) dL_law_239 ?_
      refine lv_topi (fun y99 e99 => ?_)
      obtain rfl : y99 = xs 3 := e99
      refine lv_if_eq (tgt := 247) hx hb dL_law_240 (by decide) (fun c100 => ?_) (fun c100 => ?_)
      · have t100 : (xs 3).toInt = (0 : Int) := (teq c100)
        refine lv_iconst (v := 0) hx hb dL_law_247 (by decide) ?_
        refine mx_i (wr := []) (va_runV (As := [.int (xs 1), .int (xs 2), .int 0]) (rest := [.int (-2)]) ⟨hx, hb, hml, hown, hts⟩ (c_X8_day l dC dI cI cZ cK tS aK aV qn (v 0) (v 1) (v 2) (v 3) (v 4) (v 5) (v 6) (v 7) (v 8) (v 9) (v 10) (v 11) (v 12) (v 13) (v 14) (v 15) (v 16) (v 17) (v 18) (v 19) (v 20) (v 21) (xs 1) (xs 2) 0 H.size) (cwV 3 hts (gw_v (fun _ h9 => h9) wm_568 wm_569 wm_570 wm_385 wm_571) rfl rfl rfl (by decide +kernel) ⟨Nat.le_of_ble_eq_true rfl, Nat.le_of_ble_eq_true rfl⟩) (mx_preV (C := RX8) (T := TX8) (N := 53) (ci := 8) hKx hP hD hS hA [0, 1, 2] (by decide) rfl rfl rfl) rfl rfl hl.1 rfl (lv_room (Nat.le_of_ble_eq_true rfl)) dL_law_248 ⟨Nat.le_of_ble_eq_true rfl, Nat.le_of_ble_eq_true rfl⟩) hP hD hS hA [0, 1, 2] [] rfl rfl (by decide) (by decide) (fun r101 u101 H locs hq101 hP hD hS => ?_)
        replace hP : va_P (dC, dI) vwCl [] H := hP
        replace hD : va_D (fun q : Nat => s.heap.size ≤ q) [] := hD
        rcases hq101 with ⟨rfl, hf101⟩ | ⟨rfl, hf101⟩ | ⟨rfl, hf101⟩
        · have hf101 : 0 ≤ (xs 1).toInt ∧ (xs 1).toInt ≤ 13 ∧ 0 ≤ (xs 2).toInt ∧ (xs 2).toInt ≤ 4 := hf101
          refine lv_icmp_eq (tgt := 998) hx hb dL_law_251 (by decide) (fun c102 => absurd c102 (by decide)) (fun c102 => ?_)
          refine lv_iconst (v := 0) hx hb dL_law_254 (by decide) ?_
          exfalso; omega
        · have hf101 : (xs 1).toInt < 0 ∨ 13 < (xs 1).toInt := hf101
          refine lv_icmp_eq (tgt := 998) hx hb dL_law_251 (by decide) (fun c103 => absurd c103 (by decide)) (fun c103 => ?_)
          refine lv_iconst (v := 0) hx hb dL_law_254 (by decide) ?_
          exfalso; omega
        · have hf101 : 0 ≤ (xs 1).toInt ∧ (xs 1).toInt ≤ 13 ∧ ((xs 2).toInt < 0 ∨ 4 < (xs 2).toInt) := hf101
          refine lv_icmp_eq (tgt := 998) hx hb dL_law_251 (by decide) (fun c104 => ?_) (fun c104 => absurd c104 (by decide))
          refine lv_iinc (v := 5) (lv' := [(3, .int 5), (2, .ref qn), (1, .ref qx), (0, .ref b)]) hx hb dL_law_998 hl (k := 0) rfl (by decide) (by decide) rfl (fun ls hl => ?_)
          refine lv_goto (tgt := 18) hx hb dL_law_1001 (by decide) ?_
          refine lv_iload_n hx hb dL_law_18 rfl (lv_at hl 0 rfl) ?_
          refine lv_aload_n hx hb dL_law_19 rfl (lv_at hl 3 rfl) ?_
          refine va_slen hx hb hX hbl hbA hS dL_law_20 ?_
          refine lv_topi (fun x105 e105 => ?_)
          obtain rfl : x105 = 5 := e105.trans (by decide)
          refine lv_iconst (v := 5) hx hb dL_law_21 (by decide) ?_
          refine lv_isub hx hb dL_law_22 ?_
          refine lv_topi (fun x106 e106 => ?_)
          obtain rfl : x106 = 0 := e106.trans (by decide)
          refine lv_icmp_gt (tgt := 1004) hx hb dL_law_23 (by decide) (fun c107 => ?_) (fun c107 => absurd c107 (by decide))
          refine lv_iconst (v := 1) hx hb dL_law_1004 (by decide) ?_
          refine va_forget (fun q hq => hS.2.2 q hq) ?_
          refine W.widen (k := 600000) (n := 7302250) (Nat.le_of_ble_eq_true rfl) (Nat.le_of_ble_eq_true rfl) ?_
          exact lw_ret hx hb hr hlocks dL_law_1005
      · have t100 : (xs 3).toInt ≠ (0 : Int) := (tne c100)
        refine lv_iconst (v := 1) hx hb dL_law_243 (by decide) ?_
        refine lv_goto (tgt := 248) hx hb dL_law_244 (by decide) ?_
        refine mx_i (wr := []) (va_runV (As := [.int (xs 1), .int (xs 2), .int 1]) (rest := [.int (-2)]) ⟨hx, hb, hml, hown, hts⟩ (c_X8_day l dC dI cI cZ cK tS aK aV qn (v 0) (v 1) (v 2) (v 3) (v 4) (v 5) (v 6) (v 7) (v 8) (v 9) (v 10) (v 11) (v 12) (v 13) (v 14) (v 15) (v 16) (v 17) (v 18) (v 19) (v 20) (v 21) (xs 1) (xs 2) 1 H.size) (cwV 3 hts (gw_v (fun _ h9 => h9) wm_568 wm_569 wm_570 wm_385 wm_571) rfl rfl rfl (by decide +kernel) ⟨Nat.le_of_ble_eq_true rfl, Nat.le_of_ble_eq_true rfl⟩) (mx_preV (C := RX8) (T := TX8) (N := 53) (ci := 8) hKx hP hD hS hA [0, 1, 2] (by decide) rfl rfl rfl) rfl rfl hl.1 rfl (lv_room (Nat.le_of_ble_eq_true rfl)) dL_law_248 ⟨Nat.le_of_ble_eq_true rfl, Nat.le_of_ble_eq_true rfl⟩) hP hD hS hA [0, 1, 2] [] rfl rfl (by decide) (by decide) (fun r108 u108 H locs hq108 hP hD hS => ?_)
        replace hP : va_P (dC, dI) vwCl [] H := hP
        replace hD : va_D (fun q : Nat => s.heap.size ≤ q) [] := hD
        rcases hq108 with ⟨rfl, hf108⟩ | ⟨rfl, hf108⟩ | ⟨rfl, hf108⟩
        · have hf108 : 0 ≤ (xs 1).toInt ∧ (xs 1).toInt ≤ 13 ∧ 0 ≤ (xs 2).toInt ∧ (xs 2).toInt ≤ 4 := hf108
          refine lv_icmp_eq (tgt := 998) hx hb dL_law_251 (by decide) (fun c109 => absurd c109 (by decide)) (fun c109 => ?_)
          refine lv_iconst (v := 0) hx hb dL_law_254 (by decide) ?_
          exfalso; omega
        · have hf108 : (xs 1).toInt < 0 ∨ 13 < (xs 1).toInt := hf108
          refine lv_icmp_eq (tgt := 998) hx hb dL_law_251 (by decide) (fun c110 => absurd c110 (by decide)) (fun c110 => ?_)
          refine lv_iconst (v := 0) hx hb dL_law_254 (by decide) ?_
          exfalso; omega
        · have hf108 : 0 ≤ (xs 1).toInt ∧ (xs 1).toInt ≤ 13 ∧ ((xs 2).toInt < 0 ∨ 4 < (xs 2).toInt) := hf108
          refine lv_icmp_eq (tgt := 998) hx hb dL_law_251 (by decide) (fun c111 => ?_) (fun c111 => absurd c111 (by decide))
          refine lv_iinc (v := 5) (lv' := [(3, .int 5), (2, .ref qn), (1, .ref qx), (0, .ref b)]) hx hb dL_law_998 hl (k := 0) rfl (by decide) (by decide) rfl (fun ls hl => ?_)
          refine lv_goto (tgt := 18) hx hb dL_law_1001 (by decide) ?_
          refine lv_iload_n hx hb dL_law_18 rfl (lv_at hl 0 rfl) ?_
          refine lv_aload_n hx hb dL_law_19 rfl (lv_at hl 3 rfl) ?_
          refine va_slen hx hb hX hbl hbA hS dL_law_20 ?_
          refine lv_topi (fun x112 e112 => ?_)
          obtain rfl : x112 = 5 := e112.trans (by decide)
          refine lv_iconst (v := 5) hx hb dL_law_21 (by decide) ?_
          refine lv_isub hx hb dL_law_22 ?_
          refine lv_topi (fun x113 e113 => ?_)
          obtain rfl : x113 = 0 := e113.trans (by decide)
          refine lv_icmp_gt (tgt := 1004) hx hb dL_law_23 (by decide) (fun c114 => ?_) (fun c114 => absurd c114 (by decide))
          refine lv_iconst (v := 1) hx hb dL_law_1004 (by decide) ?_
          refine va_forget (fun q hq => hS.2.2 q hq) ?_
          refine W.widen (k := 600000) (n := 7302250) (Nat.le_of_ble_eq_true rfl) (Nat.le_of_ble_eq_true rfl) ?_
          exact lw_ret hx hb hr hlocks dL_law_1005
