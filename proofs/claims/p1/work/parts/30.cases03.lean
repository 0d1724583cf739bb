set_option maxHeartbeats 4000000 in
set_option maxRecDepth 100000 in
theorem lc_most {p : Program} {e : Env} {s : State} {m : MethodId} {below : List Frame} {meth : Method} {c : Code} (l : Launch) {b : Nat} {xs : Nat → Int32} (C0 : lw_At p s m meth c b 5 xs) (dC : Nat → ClassId) (dI : Nat → Nat → Nat) (cI cZ cK : ClassId) (tS aK aV : Nat) (hKx : kx dC dI cI cZ cK tS aK aV (fun q : Nat => s.heap.size ≤ q) s) (qx qn : Nat) (u v : Nat → Nat) (H : Heap) (locs : List Loc) (hP : va_P (dC, dI) vwCl [(qx, .inr (7, [.ref (u 0), .ref (u 9), .ref (u 13), .ref (u 18), .ref (u 23), .ref (u 29), .ref (u 31), .ref (u 32), .ref (u 33), .ref (u 34)])), ((u 0), .inr (0, [.ref (u 1), .ref (u 2), .ref (u 3), .int (-6), .int 0, .int 0, .ref (u 4), .ref (u 5), .ref (u 6), .int 0, .ref (u 7), .ref (u 8)])), ((u 1), .inl (cI, 5, .inl (upd (fun _ => 0) 0 800))), ((u 2), .inl (cI, 14, .inl (fun _ => 0))), ((u 3), .inl (cZ, 14, .inl (fun _ => 0))), ((u 4), .inl (cI, 6, .inl (fun _ => 0))), ((u 5), .inl (cI, 6, .inl (fun _ => 0))), ((u 6), .inl (cI, 6, .inl (fun _ => 0))), ((u 7), .inl (cI, 8, .inl (fun _ => 0))), ((u 8), .inl (cI, 8, .inl (fun _ => 0))), ((u 9), .inr (4, [.ref (u 10), .int 0, .ref (u 11), .ref (u 12), .int 0, .int 0])), ((u 10), .inl (cI, 60, .inl (fun _ => 0))), ((u 11), .inl (cI, 60, .inl (fun _ => 0))), ((u 12), .inl (cI, 60, .inl (fun _ => 0))), ((u 13), .inr (1, [.ref (u 0), .ref (u 9), .ref (u 14), .ref (u 15), .ref (u 16), .ref (u 17), .int 0, .int 0, .int 0, .int 0, .int 0, .int 0, .int 0, .int 0])), ((u 14), .inl (cI, 60, .inl (fun _ => 0))), ((u 15), .inl (cI, 60, .inl (fun _ => 0))), ((u 16), .inl (cI, 60, .inl (fun _ => 0))), ((u 17), .inl (cI, 61, .inl (fun _ => 0))), ((u 18), .inr (3, [.ref (u 0), .ref (u 19), .int 0, .ref (u 20), .ref (u 21), .ref (u 22)])), ((u 19), .inl (cI, 6, .inl (fun _ => 0))), ((u 20), .inl (cI, 6, .inl (fun _ => 0))), ((u 21), .inl (cI, 6, .inl (fun _ => 0))), ((u 22), .inl (cI, 5, .inl (fun _ => 0))), ((u 23), .inr (5, [.ref (u 0), .ref (u 9), .ref (u 13), .ref (u 24), .ref (u 25), .ref (u 26), .ref (u 27), .ref (u 28), .int 0, .int 0, .int 0])), ((u 24), .inl (cI, 61, .inl (fun _ => 0))), ((u 25), .inl (cI, 61, .inl (fun _ => 0))), ((u 26), .inl (cI, 60, .inl (fun _ => 0))), ((u 27), .inl (cI, 60, .inl (fun _ => 0))), ((u 28), .inl (cI, 21, .inl (fun _ => 0))), ((u 29), .inr (2, [.ref (u 0), .ref (u 9), .ref (u 13), .ref (u 30), .long 0, .long 0])), ((u 30), .inl (cI, 60, .inl (fun _ => 0))), ((u 31), .inr (6, [.ref (u 0), .int 0, .int 0, .int 0])), ((u 32), .inl (cK, 2, .inr (.inr (.inr (.inr (va_up (va_up (fun _ => none) 0 (some (u 35))) 1 (some (u 44)))))))), ((u 33), .inl (cZ, 2, .inl (fun _ => 0))), ((u 34), .inl (cI, 4, .inl (fun _ => 0))), ((u 35), .inr (0, [.ref (u 36), .ref (u 37), .ref (u 38), .int (-6), .int 0, .int 0, .ref (u 39), .ref (u 40), .ref (u 41), .int 0, .ref (u 42), .ref (u 43)])), ((u 36), .inl (cI, 5, .inl (upd (fun _ => 0) 0 800))), ((u 37), .inl (cI, 14, .inl (fun _ => 0))), ((u 38), .inl (cZ, 14, .inl (fun _ => 0))), ((u 39), .inl (cI, 6, .inl (fun _ => 0))), ((u 40), .inl (cI, 6, .inl (fun _ => 0))), ((u 41), .inl (cI, 6, .inl (fun _ => 0))), ((u 42), .inl (cI, 8, .inl (fun _ => 0))), ((u 43), .inl (cI, 8, .inl (fun _ => 0))), ((u 44), .inr (0, [.ref (u 45), .ref (u 46), .ref (u 47), .int (-6), .int 0, .int 0, .ref (u 48), .ref (u 49), .ref (u 50), .int 0, .ref (u 51), .ref (u 52)])), ((u 45), .inl (cI, 5, .inl (upd (fun _ => 0) 0 800))), ((u 46), .inl (cI, 14, .inl (fun _ => 0))), ((u 47), .inl (cZ, 14, .inl (fun _ => 0))), ((u 48), .inl (cI, 6, .inl (fun _ => 0))), ((u 49), .inl (cI, 6, .inl (fun _ => 0))), ((u 50), .inl (cI, 6, .inl (fun _ => 0))), ((u 51), .inl (cI, 8, .inl (fun _ => 0))), ((u 52), .inl (cI, 8, .inl (fun _ => 0))), (qn, .inr (8, [.int 800, .int 0, .int 0, .int 0, .int 0, .int 0, .int 0, .ref (v 0), .ref (v 1), .int 0, .ref (v 2), .ref (v 3), .ref (v 4), .ref (v 5), .ref (v 6), .int 0, .ref (v 7), .int 0, .ref (v 8), .ref (v 9), .ref (v 10), .int 0, .int 0, .int 0, .int 0, .int 0, .int 0, .int 0, .int 0, .int 0, .ref (v 11), .ref (v 12), .ref (v 13), .ref (v 14), .int 0, .int 0, .int 0, .int 0, .int 0, .int 0, .int 0, .ref (v 15), .int 0, .ref (v 16), .ref (v 17), .int 0, .int 0, .ref (v 18), .ref (v 19), .ref (v 20), .ref (v 21), .int 0, .int 0])), ((v 0), .inl (cI, 14, .inl (fun _ => 0))), ((v 1), .inl (cI, 14, .inl (fun _ => 0))), ((v 2), .inl (cI, 6, .inl (fun _ => 0))), ((v 3), .inl (cI, 6, .inl (fun _ => 0))), ((v 4), .inl (cI, 6, .inl (fun _ => 0))), ((v 5), .inl (cI, 8, .inl (fun _ => 0))), ((v 6), .inl (cI, 8, .inl (fun _ => 0))), ((v 7), .inl (cI, 60, .inl (fun _ => 0))), ((v 8), .inl (cI, 60, .inl (fun _ => 0))), ((v 9), .inl (cI, 60, .inl (fun _ => 0))), ((v 10), .inl (cI, 60, .inl (fun _ => 0))), ((v 11), .inl (cI, 60, .inl (fun _ => 0))), ((v 12), .inl (cI, 60, .inl (fun _ => 0))), ((v 13), .inl (cI, 14, .inl (fun _ => 0))), ((v 14), .inl (cI, 61, .inl (fun _ => 0))), ((v 15), .inl (cI, 6, .inl (fun _ => 0))), ((v 16), .inl (cI, 6, .inl (fun _ => 0))), ((v 17), .inl (cI, 28, .inl (fun _ => 0))), ((v 18), .inl (cI, 1260, .inl (fun _ => 0))), ((v 19), .inl (cI, 4, .inl (fun _ => 0))), ((v 20), .inl (cI, 160, .inl (fun _ => 0))), ((v 21), .inl (cZ, 2, .inl (fun _ => 0)))] H) (hD : va_D (fun q : Nat => s.heap.size ≤ q) [(qx, .inr (7, [.ref (u 0), .ref (u 9), .ref (u 13), .ref (u 18), .ref (u 23), .ref (u 29), .ref (u 31), .ref (u 32), .ref (u 33), .ref (u 34)])), ((u 0), .inr (0, [.ref (u 1), .ref (u 2), .ref (u 3), .int (-6), .int 0, .int 0, .ref (u 4), .ref (u 5), .ref (u 6), .int 0, .ref (u 7), .ref (u 8)])), ((u 1), .inl (cI, 5, .inl (upd (fun _ => 0) 0 800))), ((u 2), .inl (cI, 14, .inl (fun _ => 0))), ((u 3), .inl (cZ, 14, .inl (fun _ => 0))), ((u 4), .inl (cI, 6, .inl (fun _ => 0))), ((u 5), .inl (cI, 6, .inl (fun _ => 0))), ((u 6), .inl (cI, 6, .inl (fun _ => 0))), ((u 7), .inl (cI, 8, .inl (fun _ => 0))), ((u 8), .inl (cI, 8, .inl (fun _ => 0))), ((u 9), .inr (4, [.ref (u 10), .int 0, .ref (u 11), .ref (u 12), .int 0, .int 0])), ((u 10), .inl (cI, 60, .inl (fun _ => 0))), ((u 11), .inl (cI, 60, .inl (fun _ => 0))), ((u 12), .inl (cI, 60, .inl (fun _ => 0))), ((u 13), .inr (1, [.ref (u 0), .ref (u 9), .ref (u 14), .ref (u 15), .ref (u 16), .ref (u 17), .int 0, .int 0, .int 0, .int 0, .int 0, .int 0, .int 0, .int 0])), ((u 14), .inl (cI, 60, .inl (fun _ => 0))), ((u 15), .inl (cI, 60, .inl (fun _ => 0))), ((u 16), .inl (cI, 60, .inl (fun _ => 0))), ((u 17), .inl (cI, 61, .inl (fun _ => 0))), ((u 18), .inr (3, [.ref (u 0), .ref (u 19), .int 0, .ref (u 20), .ref (u 21), .ref (u 22)])), ((u 19), .inl (cI, 6, .inl (fun _ => 0))), ((u 20), .inl (cI, 6, .inl (fun _ => 0))), ((u 21), .inl (cI, 6, .inl (fun _ => 0))), ((u 22), .inl (cI, 5, .inl (fun _ => 0))), ((u 23), .inr (5, [.ref (u 0), .ref (u 9), .ref (u 13), .ref (u 24), .ref (u 25), .ref (u 26), .ref (u 27), .ref (u 28), .int 0, .int 0, .int 0])), ((u 24), .inl (cI, 61, .inl (fun _ => 0))), ((u 25), .inl (cI, 61, .inl (fun _ => 0))), ((u 26), .inl (cI, 60, .inl (fun _ => 0))), ((u 27), .inl (cI, 60, .inl (fun _ => 0))), ((u 28), .inl (cI, 21, .inl (fun _ => 0))), ((u 29), .inr (2, [.ref (u 0), .ref (u 9), .ref (u 13), .ref (u 30), .long 0, .long 0])), ((u 30), .inl (cI, 60, .inl (fun _ => 0))), ((u 31), .inr (6, [.ref (u 0), .int 0, .int 0, .int 0])), ((u 32), .inl (cK, 2, .inr (.inr (.inr (.inr (va_up (va_up (fun _ => none) 0 (some (u 35))) 1 (some (u 44)))))))), ((u 33), .inl (cZ, 2, .inl (fun _ => 0))), ((u 34), .inl (cI, 4, .inl (fun _ => 0))), ((u 35), .inr (0, [.ref (u 36), .ref (u 37), .ref (u 38), .int (-6), .int 0, .int 0, .ref (u 39), .ref (u 40), .ref (u 41), .int 0, .ref (u 42), .ref (u 43)])), ((u 36), .inl (cI, 5, .inl (upd (fun _ => 0) 0 800))), ((u 37), .inl (cI, 14, .inl (fun _ => 0))), ((u 38), .inl (cZ, 14, .inl (fun _ => 0))), ((u 39), .inl (cI, 6, .inl (fun _ => 0))), ((u 40), .inl (cI, 6, .inl (fun _ => 0))), ((u 41), .inl (cI, 6, .inl (fun _ => 0))), ((u 42), .inl (cI, 8, .inl (fun _ => 0))), ((u 43), .inl (cI, 8, .inl (fun _ => 0))), ((u 44), .inr (0, [.ref (u 45), .ref (u 46), .ref (u 47), .int (-6), .int 0, .int 0, .ref (u 48), .ref (u 49), .ref (u 50), .int 0, .ref (u 51), .ref (u 52)])), ((u 45), .inl (cI, 5, .inl (upd (fun _ => 0) 0 800))), ((u 46), .inl (cI, 14, .inl (fun _ => 0))), ((u 47), .inl (cZ, 14, .inl (fun _ => 0))), ((u 48), .inl (cI, 6, .inl (fun _ => 0))), ((u 49), .inl (cI, 6, .inl (fun _ => 0))), ((u 50), .inl (cI, 6, .inl (fun _ => 0))), ((u 51), .inl (cI, 8, .inl (fun _ => 0))), ((u 52), .inl (cI, 8, .inl (fun _ => 0))), (qn, .inr (8, [.int 800, .int 0, .int 0, .int 0, .int 0, .int 0, .int 0, .ref (v 0), .ref (v 1), .int 0, .ref (v 2), .ref (v 3), .ref (v 4), .ref (v 5), .ref (v 6), .int 0, .ref (v 7), .int 0, .ref (v 8), .ref (v 9), .ref (v 10), .int 0, .int 0, .int 0, .int 0, .int 0, .int 0, .int 0, .int 0, .int 0, .ref (v 11), .ref (v 12), .ref (v 13), .ref (v 14), .int 0, .int 0, .int 0, .int 0, .int 0, .int 0, .int 0, .ref (v 15), .int 0, .ref (v 16), .ref (v 17), .int 0, .int 0, .ref (v 18), .ref (v 19), .ref (v 20), .ref (v 21), .int 0, .int 0])), ((v 0), .inl (cI, 14, .inl (fun _ => 0))), ((v 1), .inl (cI, 14, .inl (fun _ => 0))), ((v 2), .inl (cI, 6, .inl (fun _ => 0))), ((v 3), .inl (cI, 6, .inl (fun _ => 0))), ((v 4), .inl (cI, 6, .inl (fun _ => 0))), ((v 5), .inl (cI, 8, .inl (fun _ => 0))), ((v 6), .inl (cI, 8, .inl (fun _ => 0))), ((v 7), .inl (cI, 60, .inl (fun _ => 0))), ((v 8), .inl (cI, 60, .inl (fun _ => 0))), ((v 9), .inl (cI, 60, .inl (fun _ => 0))), ((v 10), .inl (cI, 60, .inl (fun _ => 0))), ((v 11), .inl (cI, 60, .inl (fun _ => 0))), ((v 12), .inl (cI, 60, .inl (fun _ => 0))), ((v 13), .inl (cI, 14, .inl (fun _ => 0))), ((v 14), .inl (cI, 61, .inl (fun _ => 0))), ((v 15), .inl (cI, 6, .inl (fun _ => 0))), ((v 16), .inl (cI, 6, .inl (fun _ => 0))), ((v 17), .inl (cI, 28, .inl (fun _ => 0))), ((v 18), .inl (cI, 1260, .inl (fun _ => 0))), ((v 19), .inl (cI, 4, .inl (fun _ => 0))), ((v 20), .inl (cI, 160, .inl (fun _ => 0))), ((v 21), .inl (cZ, 2, .inl (fun _ => 0)))]) (hS : va_S (fun q : Nat => s.heap.size ≤ q) s.heap H locs) (ls : Array Slot) (hl : lv_has ls 4 [(3, .int 0), (2, .ref qn), (1, .ref qx), (0, .ref b)]) : W p l e room_1 s m #[Value.ref b] below meth c H locs 77 3085 (lw_Z below #[Value.ref b] s) (F0 m 549 ls []) := by
  obtain ⟨hx, hb, hr, hml, hown, hts, hX, hbl, hlocks, hgv⟩ := C0
  have hts := fun w h => hts w (wsL_law_in w h)
  have hown : s.vm.findClass RL = some m.cls := hown
  have hA : ∀ q : Nat, s.heap.size ≤ q → (fun q : Nat => s.heap.size ≤ q) q := fun _ h => h
  have hbA : ¬ (fun q : Nat => s.heap.size ≤ q) b := Nat.not_le.mpr hbl
  have hK := hKx.1
  replace hP := mx_subP (wc := [(qx, .inr (7, [.ref (u 0), .ref (u 9), .ref (u 13), .ref (u 18), .ref (u 23), .ref (u 29), .ref (u 31), .ref (u 32), .ref (u 33), .ref (u 34)])), ((u 0), .inr (0, [.ref (u 1), .ref (u 2), .ref (u 3), .int (-6), .int 0, .int 0, .ref (u 4), .ref (u 5), .ref (u 6), .int 0, .ref (u 7), .ref (u 8)])), ((u 1), .inl (cI, 5, .inl (upd (fun _ => 0) 0 800))), ((u 2), .inl (cI, 14, .inl (fun _ => 0))), ((u 4), .inl (cI, 6, .inl (fun _ => 0))), ((u 5), .inl (cI, 6, .inl (fun _ => 0))), ((u 6), .inl (cI, 6, .inl (fun _ => 0))), ((u 18), .inr (3, [.ref (u 0), .ref (u 19), .int 0, .ref (u 20), .ref (u 21), .ref (u 22)])), ((u 19), .inl (cI, 6, .inl (fun _ => 0))), ((u 20), .inl (cI, 6, .inl (fun _ => 0))), ((u 21), .inl (cI, 6, .inl (fun _ => 0))), (qn, .inr (8, [.int 800, .int 0, .int 0, .int 0, .int 0, .int 0, .int 0, .ref (v 0), .ref (v 1), .int 0, .ref (v 2), .ref (v 3), .ref (v 4), .ref (v 5), .ref (v 6), .int 0, .ref (v 7), .int 0, .ref (v 8), .ref (v 9), .ref (v 10), .int 0, .int 0, .int 0, .int 0, .int 0, .int 0, .int 0, .int 0, .int 0, .ref (v 11), .ref (v 12), .ref (v 13), .ref (v 14), .int 0, .int 0, .int 0, .int 0, .int 0, .int 0, .int 0, .ref (v 15), .int 0, .ref (v 16), .ref (v 17), .int 0, .int 0, .ref (v 18), .ref (v 19), .ref (v 20), .ref (v 21), .int 0, .int 0])), ((v 0), .inl (cI, 14, .inl (fun _ => 0))), ((v 15), .inl (cI, 6, .inl (fun _ => 0))), ((v 16), .inl (cI, 6, .inl (fun _ => 0)))]) hP [0, 1, 2, 3, 5, 6, 7, 19, 20, 21, 22, 54, 55, 70, 71] rfl
  replace hD := hD.sub (ws' := [(qx, .inr (7, [.ref (u 0), .ref (u 9), .ref (u 13), .ref (u 18), .ref (u 23), .ref (u 29), .ref (u 31), .ref (u 32), .ref (u 33), .ref (u 34)])), ((u 0), .inr (0, [.ref (u 1), .ref (u 2), .ref (u 3), .int (-6), .int 0, .int 0, .ref (u 4), .ref (u 5), .ref (u 6), .int 0, .ref (u 7), .ref (u 8)])), ((u 1), .inl (cI, 5, .inl (upd (fun _ => 0) 0 800))), ((u 2), .inl (cI, 14, .inl (fun _ => 0))), ((u 4), .inl (cI, 6, .inl (fun _ => 0))), ((u 5), .inl (cI, 6, .inl (fun _ => 0))), ((u 6), .inl (cI, 6, .inl (fun _ => 0))), ((u 18), .inr (3, [.ref (u 0), .ref (u 19), .int 0, .ref (u 20), .ref (u 21), .ref (u 22)])), ((u 19), .inl (cI, 6, .inl (fun _ => 0))), ((u 20), .inl (cI, 6, .inl (fun _ => 0))), ((u 21), .inl (cI, 6, .inl (fun _ => 0))), (qn, .inr (8, [.int 800, .int 0, .int 0, .int 0, .int 0, .int 0, .int 0, .ref (v 0), .ref (v 1), .int 0, .ref (v 2), .ref (v 3), .ref (v 4), .ref (v 5), .ref (v 6), .int 0, .ref (v 7), .int 0, .ref (v 8), .ref (v 9), .ref (v 10), .int 0, .int 0, .int 0, .int 0, .int 0, .int 0, .int 0, .int 0, .int 0, .ref (v 11), .ref (v 12), .ref (v 13), .ref (v 14), .int 0, .int 0, .int 0, .int 0, .int 0, .int 0, .int 0, .ref (v 15), .int 0, .ref (v 16), .ref (v 17), .int 0, .int 0, .ref (v 18), .ref (v 19), .ref (v 20), .ref (v 21), .int 0, .int 0])), ((v 0), .inl (cI, 14, .inl (fun _ => 0))), ((v 15), .inl (cI, 6, .inl (fun _ => 0))), ((v 16), .inl (cI, 6, .inl (fun _ => 0)))]) [0, 1, 2, 3, 5, 6, 7, 19, 20, 21, 22, 54, 55, 70, 71] (by decide) rfl
  by_cases hz : xs 1 = 0
  · have hz0 : (xs 1).toInt = 0 := teq hz
    refine lv_aload_n hx hb dL_law_549 rfl (lv_at hl 2 rfl) ?_
    refine lv_aload_n hx hb dL_law_550 rfl (lv_at hl 3 rfl) ?_
    refine lv_iload_n hx hb dL_law_551 rfl (lv_at hl 0 rfl) ?_
    refine lv_iconst (v := 1) hx hb dL_law_552 (by decide) ?_
    refine lv_iadd hx hb dL_law_553 ?_
    refine lv_topi (fun x1 e1 => ?_)
    obtain rfl : x1 = 1 := e1.trans (by decide)
    refine va_sld hx hb hX hbl hbA hS (vin (by decide) (by decide)) dL_law_554 ?_
    refine lv_topi (fun y2 e2 => ?_)
    obtain rfl : y2 = 0 := e2.trans hz
    refine lv_aload_n hx hb dL_law_555 rfl (lv_at hl 3 rfl) ?_
    refine lv_iload_n hx hb dL_law_556 rfl (lv_at hl 0 rfl) ?_
    refine lv_iconst (v := 2) hx hb dL_law_557 (by decide) ?_
    refine lv_iadd hx hb dL_law_558 ?_
    refine lv_topi (fun x3 e3 => ?_)
    obtain rfl : x3 = 2 := e3.trans (by decide)
    refine va_sld hx hb hX hbl hbA hS (vin (by decide) (by decide)) dL_law_559 ?_
    refine lv_topi (fun y4 e4 => ?_)
    obtain rfl : y4 = xs 2 := e4
    refine lv_aload_n hx hb dL_law_560 rfl (lv_at hl 3 rfl) ?_
    refine lv_iload_n hx hb dL_law_561 rfl (lv_at hl 0 rfl) ?_
    refine lv_iconst (v := 3) hx hb dL_law_562 (by decide) ?_
    refine lv_iadd hx hb dL_law_563 ?_
    refine lv_topi (fun x5 e5 => ?_)
    obtain rfl : x5 = 3 := e5.trans (by decide)
    refine va_sld hx hb hX hbl hbA hS (vin (by decide) (by decide)) dL_law_564 ?_
    refine lv_topi (fun y6 e6 => ?_)
    obtain rfl : y6 = xs 3 := e6
    refine mx_i (wr := [(qn, .inr (8, [.int 800, .int 0, .int 0, .int 0, .int 0, .int 0, .int 0, .ref (v 0), .ref (v 1), .int 0, .ref (v 2), .ref (v 3), .ref (v 4), .ref (v 5), .ref (v 6), .int 0, .ref (v 7), .int 0, .ref (v 8), .ref (v 9), .ref (v 10), .int 0, .int 0, .int 0, .int 0, .int 0, .int 0, .int 0, .int 0, .int 0, .ref (v 11), .ref (v 12), .ref (v 13), .ref (v 14), .int 0, .int 0, .int 0, .int 0, .int 0, .int 0, .int 0, .ref (v 15), .int 0, .ref (v 16), .ref (v 17), .int 0, .int 0, .ref (v 18), .ref (v 19), .ref (v 20), .ref (v 21), .int 0, .int 0])), ((v 0), .inl (cI, 14, .inl (fun _ => 0))), ((v 15), .inl (cI, 6, .inl (fun _ => 0))), ((v 16), .inl (cI, 6, .inl (fun _ => 0)))]) (va_runV (As := [.int 0, .int (xs 2), .int (xs 3)]) (rest := []) ⟨hx, hb, hml, hown, hts⟩ (c_X7_most0 l dC dI cI cZ cK tS aK aV qx (u 18) (u 23) (u 29) (u 31) (u 32) (u 33) (u 34) (u 13) (u 0) (u 1) (u 2) (u 3) (u 4) (u 5) (u 6) (u 7) (u 8) (u 9) (u 19) (u 20) (u 21) (u 22) (xs 2) (xs 3) H.size) (cwV 3 hts (gw_v (fun _ h9 => h9) wm_657 wm_658 wm_659 wm_2 wm_660) rfl rfl rfl (by decide +kernel) ⟨Nat.le_of_ble_eq_true rfl, Nat.le_of_ble_eq_true rfl⟩) (mx_preV (C := RX7) (T := TX7) (N := 10) (ci := 7) hKx hP hD hS hA [0, 7, 8, 9, 10, 1, 2, 3, 4, 5, 6] (by decide) rfl rfl rfl) rfl rfl hl.1 rfl (lv_room (Nat.le_of_ble_eq_true rfl)) dL_law_565 ⟨Nat.le_of_ble_eq_true rfl, Nat.le_of_ble_eq_true rfl⟩) hP hD hS hA [0, 7, 8, 9, 10, 1, 2, 3, 4, 5, 6] [11, 12, 13, 14] rfl rfl (by decide) (by decide) (fun r7 u7 H locs hq7 hP hD hS => ?_)
    replace hP : va_P (dC, dI) vwCl [(qn, .inr (8, [.int 800, .int 0, .int 0, .int 0, .int 0, .int 0, .int 0, .ref (v 0), .ref (v 1), .int 0, .ref (v 2), .ref (v 3), .ref (v 4), .ref (v 5), .ref (v 6), .int 0, .ref (v 7), .int 0, .ref (v 8), .ref (v 9), .ref (v 10), .int 0, .int 0, .int 0, .int 0, .int 0, .int 0, .int 0, .int 0, .int 0, .ref (v 11), .ref (v 12), .ref (v 13), .ref (v 14), .int 0, .int 0, .int 0, .int 0, .int 0, .int 0, .int 0, .ref (v 15), .int 0, .ref (v 16), .ref (v 17), .int 0, .int 0, .ref (v 18), .ref (v 19), .ref (v 20), .ref (v 21), .int 0, .int 0])), ((v 0), .inl (cI, 14, .inl (fun _ => 0))), ((v 15), .inl (cI, 6, .inl (fun _ => 0))), ((v 16), .inl (cI, 6, .inl (fun _ => 0)))] H := hP
    replace hD : va_D (fun q : Nat => s.heap.size ≤ q) [(qn, .inr (8, [.int 800, .int 0, .int 0, .int 0, .int 0, .int 0, .int 0, .ref (v 0), .ref (v 1), .int 0, .ref (v 2), .ref (v 3), .ref (v 4), .ref (v 5), .ref (v 6), .int 0, .ref (v 7), .int 0, .ref (v 8), .ref (v 9), .ref (v 10), .int 0, .int 0, .int 0, .int 0, .int 0, .int 0, .int 0, .int 0, .int 0, .ref (v 11), .ref (v 12), .ref (v 13), .ref (v 14), .int 0, .int 0, .int 0, .int 0, .int 0, .int 0, .int 0, .ref (v 15), .int 0, .ref (v 16), .ref (v 17), .int 0, .int 0, .ref (v 18), .ref (v 19), .ref (v 20), .ref (v 21), .int 0, .int 0])), ((v 0), .inl (cI, 14, .inl (fun _ => 0))), ((v 15), .inl (cI, 6, .inl (fun _ => 0))), ((v 16), .inl (cI, 6, .inl (fun _ => 0)))] := hD
    rcases hq7 with ⟨rfl, hf7⟩ | ⟨rfl, hf7⟩ | ⟨rfl, hf7⟩
    · have hf7 : 0 ≤ (xs 3).toInt ∧ (xs 3).toInt ≤ 1 ∧ 0 ≤ (xs 2).toInt ∧ (xs 2).toInt ≤ 13 := hf7
      refine lv_aload_n hx hb dL_law_568 rfl (lv_at hl 1 rfl) ?_
      refine lv_aload_n hx hb dL_law_569 rfl (lv_at hl 3 rfl) ?_
      refine lv_iload_n hx hb dL_law_570 rfl (lv_at hl 0 rfl) ?_
      refine lv_iconst (v := 1) hx hb dL_law_571 (by decide) ?_
      refine lv_iadd hx hb dL_law_572 ?_
      refine lv_topi (fun x8 e8 => ?_)
      obtain rfl : x8 = 1 := e8.trans (by decide)
      refine va_sld hx hb hX hbl hbA hS (vin (by decide) (by decide)) dL_law_573 ?_
      refine lv_topi (fun y9 e9 => ?_)
      obtain rfl : y9 = 0 := e9.trans hz
      refine lv_aload_n hx hb dL_law_574 rfl (lv_at hl 3 rfl) ?_
      refine lv_iload_n hx hb dL_law_575 rfl (lv_at hl 0 rfl) ?_
      refine lv_iconst (v := 2) hx hb dL_law_576 (by decide) ?_
      refine lv_iadd hx hb dL_law_577 ?_
      refine lv_topi (fun x10 e10 => ?_)
      obtain rfl : x10 = 2 := e10.trans (by decide)
      refine va_sld hx hb hX hbl hbA hS (vin (by decide) (by decide)) dL_law_578 ?_
      refine lv_topi (fun y11 e11 => ?_)
      obtain rfl : y11 = xs 2 := e11
      refine lv_aload_n hx hb dL_law_579 rfl (lv_at hl 3 rfl) ?_
      refine lv_iload_n hx hb dL_law_580 rfl (lv_at hl 0 rfl) ?_
      refine lv_iconst (v := 3) hx hb dL_law_581 (by decide) ?_
      refine lv_iadd hx hb dL_law_582 ?_
      refine lv_topi (fun x12 e12 => ?_)
      obtain rfl : x12 = 3 := e12.trans (by decide)
      refine va_sld hx hb hX hbl hbA hS (vin (by decide) (by decide)) dL_law_583 ?_
      refine lv_topi (fun y13 e13 => ?_)
      obtain rfl : y13 = xs 3 := e13
      refine mx_i (wr := []) (va_runV (As := [.int 0, .int (xs 2), .int (xs 3)]) (rest := [.int 0]) ⟨hx, hb, hml, hown, hts⟩ (c_X8_most0 l dC dI cI cZ cK tS aK aV qn (v 0) (v 1) (v 2) (v 3) (v 4) (v 5) (v 6) (v 7) (v 8) (v 9) (v 10) (v 11) (v 12) (v 13) (v 14) (v 15) (v 16) (v 17) (v 18) (v 19) (v 20) (v 21) (xs 2) (xs 3) H.size) (cwV 3 hts (gw_v (fun _ h9 => h9) wm_661 wm_662 wm_663 wm_385 wm_664) rfl rfl rfl (by decide +kernel) ⟨Nat.le_of_ble_eq_true rfl, Nat.le_of_ble_eq_true rfl⟩) (mx_preV (C := RX8) (T := TX8) (N := 53) (ci := 8) hKx hP hD hS hA [0, 2, 3, 1] (by decide) rfl rfl rfl) rfl rfl hl.1 rfl (lv_room (Nat.le_of_ble_eq_true rfl)) dL_law_584 ⟨Nat.le_of_ble_eq_true rfl, Nat.le_of_ble_eq_true rfl⟩) hP hD hS hA [0, 2, 3, 1] [] rfl rfl (by decide) (by decide) (fun r14 u14 H locs hq14 hP hD hS => ?_)
      replace hP : va_P (dC, dI) vwCl [] H := hP
      replace hD : va_D (fun q : Nat => s.heap.size ≤ q) [] := hD
      rcases hq14 with ⟨rfl, hf14⟩ | ⟨rfl, hf14⟩ | ⟨rfl, hf14⟩
      · have hf14 : 0 ≤ (xs 3).toInt ∧ (xs 3).toInt ≤ 1 ∧ 0 ≤ (xs 2).toInt ∧ (xs 2).toInt ≤ 13 := hf14
        refine lv_icmp_eq (tgt := 998) hx hb dL_law_587 (by decide) (fun c15 => ?_) (fun c15 => absurd c15 (by decide))
        refine lv_iinc (v := 5) (lv' := [(3, .int 5), (2, .ref qn), (1, .ref qx), (0, .ref b)]) hx hb dL_law_998 hl (k := 0) rfl (by decide) (by decide) rfl (fun ls hl => ?_)
        refine lv_goto (tgt := 18) hx hb dL_law_1001 (by decide) ?_
        refine lv_iload_n hx hb dL_law_18 rfl (lv_at hl 0 rfl) ?_
        refine lv_aload_n hx hb dL_law_19 rfl (lv_at hl 3 rfl) ?_
        refine va_slen hx hb hX hbl hbA hS dL_law_20 ?_
        refine lv_topi (fun x16 e16 => ?_)
        obtain rfl : x16 = 5 := e16.trans (by decide)
        refine lv_iconst (v := 5) hx hb dL_law_21 (by decide) ?_
        refine lv_isub hx hb dL_law_22 ?_
        refine lv_topi (fun x17 e17 => ?_)
        obtain rfl : x17 = 0 := e17.trans (by decide)
        refine lv_icmp_gt (tgt := 1004) hx hb dL_law_23 (by decide) (fun c18 => ?_) (fun c18 => absurd c18 (by decide))
        refine lv_iconst (v := 1) hx hb dL_law_1004 (by decide) ?_
        refine va_forget (fun q hq => hS.2.2 q hq) ?_
        refine W.widen (k := 600000) (n := 7302250) (Nat.le_of_ble_eq_true rfl) (Nat.le_of_ble_eq_true rfl) ?_
        exact lw_ret hx hb hr hlocks dL_law_1005
      · have hf14 : 0 ≤ (xs 3).toInt ∧ (xs 3).toInt ≤ 1 ∧ ((xs 2).toInt < 0 ∨ 13 < (xs 2).toInt) := hf14
        refine lv_icmp_eq (tgt := 998) hx hb dL_law_587 (by decide) (fun c19 => absurd c19 (by decide)) (fun c19 => ?_)
        refine lv_iconst (v := 0) hx hb dL_law_590 (by decide) ?_
        exfalso; omega
      · have hf14 : (xs 3).toInt < 0 ∨ 1 < (xs 3).toInt := hf14
        refine lv_icmp_eq (tgt := 998) hx hb dL_law_587 (by decide) (fun c20 => absurd c20 (by decide)) (fun c20 => ?_)
        refine lv_iconst (v := 0) hx hb dL_law_590 (by decide) ?_
        exfalso; omega
    · have hf7 : 0 ≤ (xs 3).toInt ∧ (xs 3).toInt ≤ 1 ∧ ((xs 2).toInt < 0 ∨ 13 < (xs 2).toInt) := hf7
      refine lv_aload_n hx hb dL_law_568 rfl (lv_at hl 1 rfl) ?_
      refine lv_aload_n hx hb dL_law_569 rfl (lv_at hl 3 rfl) ?_
      refine lv_iload_n hx hb dL_law_570 rfl (lv_at hl 0 rfl) ?_
      refine lv_iconst (v := 1) hx hb dL_law_571 (by decide) ?_
      refine lv_iadd hx hb dL_law_572 ?_
      refine lv_topi (fun x21 e21 => ?_)
      obtain rfl : x21 = 1 := e21.trans (by decide)
      refine va_sld hx hb hX hbl hbA hS (vin (by decide) (by decide)) dL_law_573 ?_
      refine lv_topi (fun y22 e22 => ?_)
      obtain rfl : y22 = 0 := e22.trans hz
      refine lv_aload_n hx hb dL_law_574 rfl (lv_at hl 3 rfl) ?_
      refine lv_iload_n hx hb dL_law_575 rfl (lv_at hl 0 rfl) ?_
      refine lv_iconst (v := 2) hx hb dL_law_576 (by decide) ?_
      refine lv_iadd hx hb dL_law_577 ?_
      refine lv_topi (fun x23 e23 => ?_)
      obtain rfl : x23 = 2 := e23.trans (by decide)
      refine va_sld hx hb hX hbl hbA hS (vin (by decide) (by decide)) dL_law_578 ?_
      refine lv_topi (fun y24 e24 => ?_)
      obtain rfl : y24 = xs 2 := e24
      refine lv_aload_n hx hb dL_law_579 rfl (lv_at hl 3 rfl) ?_
      refine lv_iload_n hx hb dL_law_580 rfl (lv_at hl 0 rfl) ?_
      refine lv_iconst (v := 3) hx hb dL_law_581 (by decide) ?_
      refine lv_iadd hx hb dL_law_582 ?_
      refine lv_topi (fun x25 e25 => ?_)
      obtain rfl : x25 = 3 := e25.trans (by decide)
      refine va_sld hx hb hX hbl hbA hS (vin (by decide) (by decide)) dL_law_583 ?_
      refine lv_topi (fun y26 e26 => ?_)
      obtain rfl : y26 = xs 3 := e26
      refine mx_i (wr := []) (va_runV (As := [.int 0, .int (xs 2), .int (xs 3)]) (rest := [.int (-1)]) ⟨hx, hb, hml, hown, hts⟩ (c_X8_most0 l dC dI cI cZ cK tS aK aV qn (v 0) (v 1) (v 2) (v 3) (v 4) (v 5) (v 6) (v 7) (v 8) (v 9) (v 10) (v 11) (v 12) (v 13) (v 14) (v 15) (v 16) (v 17) (v 18) (v 19) (v 20) (v 21) (xs 2) (xs 3) H.size) (cwV 3 hts (gw_v (fun _ h9 => h9) wm_661 wm_662 wm_663 wm_385 wm_664) rfl rfl rfl (by decide +kernel) ⟨Nat.le_of_ble_eq_true rfl, Nat.le_of_ble_eq_true rfl⟩) (mx_preV (C := RX8) (T := TX8) (N := 53) (ci := 8) hKx hP hD hS hA [0, 2, 3, 1] (by decide) rfl rfl rfl) rfl rfl hl.1 rfl (lv_room (Nat.le_of_ble_eq_true rfl)) dL_law_584 ⟨Nat.le_of_ble_eq_true rfl, Nat.le_of_ble_eq_true rfl⟩) hP hD hS hA [0, 2, 3, 1] [] rfl rfl (by decide) (by decide) (fun r27 u27 H locs hq27 hP hD hS => ?_)
      replace hP : va_P (dC, dI) vwCl [] H := hP
      replace hD : va_D (fun q : Nat => s.heap.size ≤ q) [] := hD
      rcases hq27 with ⟨rfl, hf27⟩ | ⟨rfl, hf27⟩ | ⟨rfl, hf27⟩
      · have hf27 : 0 ≤ (xs 3).toInt ∧ (xs 3).toInt ≤ 1 ∧ 0 ≤ (xs 2).toInt ∧ (xs 2).toInt ≤ 13 := hf27
        refine lv_icmp_eq (tgt := 998) hx hb dL_law_587 (by decide) (fun c28 => absurd c28 (by decide)) (fun c28 => ?_)
        refine lv_iconst (v := 0) hx hb dL_law_590 (by decide) ?_
        exfalso; omega
      · have hf27 : 0 ≤ (xs 3).toInt ∧ (xs 3).toInt ≤ 1 ∧ ((xs 2).toInt < 0 ∨ 13 < (xs 2).toInt) := hf27
        refine lv_icmp_eq (tgt := 998) hx hb dL_law_587 (by decide) (fun c29 => ?_) (fun c29 => absurd c29 (by decide))
        refine lv_iinc (v := 5) (lv' := [(3, .int 5), (2, .ref qn), (1, .ref qx), (0, .ref b)]) hx hb dL_law_998 hl (k := 0) rfl (by decide) (by decide) rfl (fun ls hl => ?_)
        refine lv_goto (tgt := 18) hx hb dL_law_1001 (by decide) ?_
        refine lv_iload_n hx hb dL_law_18 rfl (lv_at hl 0 rfl) ?_
        refine lv_aload_n hx hb dL_law_19 rfl (lv_at hl 3 rfl) ?_
        refine va_slen hx hb hX hbl hbA hS dL_law_20 ?_
        refine lv_topi (fun x30 e30 => ?_)
        obtain rfl : x30 = 5 := e30.trans (by decide)
        refine lv_iconst (v := 5) hx hb dL_law_21 (by decide) ?_
        refine lv_isub hx hb dL_law_22 ?_
        refine lv_topi (fun x31 e31 => ?_)
        obtain rfl : x31 = 0 := e31.trans (by decide)
        refine lv_icmp_gt (tgt := 1004) hx hb dL_law_23 (by decide) (fun c32 => ?_) (fun c32 => absurd c32 (by decide))
        refine lv_iconst (v := 1) hx hb dL_law_1004 (by decide) ?_
        refine va_forget (fun q hq => hS.2.2 q hq) ?_
        refine W.widen (k := 600000) (n := 7302250) (Nat.le_of_ble_eq_true rfl) (Nat.le_of_ble_eq_true rfl) ?_
        exact lw_ret hx hb hr hlocks dL_law_1005
      · have hf27 : (xs 3).toInt < 0 ∨ 1 < (xs 3).toInt := hf27
        refine lv_icmp_eq (tgt := 998) hx hb dL_law_587 (by decide) (fun c33 => absurd c33 (by decide)) (fun c33 => ?_)
        refine lv_iconst (v := 0) hx hb dL_law_590 (by decide) ?_
        exfalso; omega
    · have hf7 : (xs 3).toInt < 0 ∨ 1 < (xs 3).toInt := hf7
      refine lv_aload_n hx hb dL_law_568 rfl (lv_at hl 1 rfl) ?_
      refine lv_aload_n hx hb dL_law_569 rfl (lv_at hl 3 rfl) ?_
      refine lv_iload_n hx hb dL_law_570 rfl (lv_at hl 0 rfl) ?_
      refine lv_iconst (v := 1) hx hb dL_law_571 (by decide) ?_
      refine lv_iadd hx hb dL_law_572 ?_
      refine lv_topi (fun x34 e34 => ?_)
      obtain rfl : x34 = 1 := e34.trans (by decide)
      refine va_sld hx hb hX hbl hbA hS (vin (by decide) (by decide)) dL_law_573 ?_
      refine lv_topi (fun y35 e35 => ?_)
      obtain rfl : y35 = 0 := e35.trans hz
      refine lv_aload_n hx hb dL_law_574 rfl (lv_at hl 3 rfl) ?_
      refine lv_iload_n hx hb dL_law_575 rfl (lv_at hl 0 rfl) ?_
      refine lv_iconst (v := 2) hx hb dL_law_576 (by decide) ?_
      refine lv_iadd hx hb dL_law_577 ?_
      refine lv_topi (fun x36 e36 => ?_)
      obtain rfl : x36 = 2 := e36.trans (by decide)
      refine va_sld hx hb hX hbl hbA hS (vin (by decide) (by decide)) dL_law_578 ?_
      refine lv_topi (fun y37 e37 => ?_)
      obtain rfl : y37 = xs 2 := e37
      refine lv_aload_n hx hb dL_law_579 rfl (lv_at hl 3 rfl) ?_
      refine lv_iload_n hx hb dL_law_580 rfl (lv_at hl 0 rfl) ?_
      refine lv_iconst (v := 3) hx hb dL_law_581 (by decide) ?_
      refine lv_iadd hx hb dL_law_582 ?_
      refine lv_topi (fun x38 e38 => ?_)
      obtain rfl : x38 = 3 := e38.trans (by decide)
      refine va_sld hx hb hX hbl hbA hS (vin (by decide) (by decide)) dL_law_583 ?_
      refine lv_topi (fun y39 e39 => ?_)
      obtain rfl : y39 = xs 3 := e39
      refine mx_i (wr := []) (va_runV (As := [.int 0, .int (xs 2), .int (xs 3)]) (rest := [.int (-2)]) ⟨hx, hb, hml, hown, hts⟩ (c_X8_most0 l dC dI cI cZ cK tS aK aV qn (v 0) (v 1) (v 2) (v 3) (v 4) (v 5) (v 6) (v 7) (v 8) (v 9) (v 10) (v 11) (v 12) (v 13) (v 14) (v 15) (v 16) (v 17) (v 18) (v 19) (v 20) (v 21) (xs 2) (xs 3) H.size) (cwV 3 hts (gw_v (fun _ h9 => h9) wm_661 wm_662 wm_663 wm_385 wm_664) rfl rfl rfl (by decide +kernel) ⟨Nat.le_of_ble_eq_true rfl, Nat.le_of_ble_eq_true rfl⟩) (mx_preV (C := RX8) (T := TX8) (N := 53) (ci := 8) hKx hP hD hS hA [0, 2, 3, 1] (by decide) rfl rfl rfl) rfl rfl hl.1 rfl (lv_room (Nat.le_of_ble_eq_true rfl)) dL_law_584 ⟨Nat.le_of_ble_eq_true rfl, Nat.le_of_ble_eq_true rfl⟩) hP hD hS hA [0, 2, 3, 1] [] rfl rfl (by decide) (by decide) (fun r40 u40 H locs hq40 hP hD hS => ?_)
      replace hP : va_P (dC, dI) vwCl [] H := hP
      replace hD : va_D (fun q : Nat => s.heap.size ≤ q) [] := hD
      rcases hq40 with ⟨rfl, hf40⟩ | ⟨rfl, hf40⟩ | ⟨rfl, hf40⟩
      · have hf40 : 0 ≤ (xs 3).toInt ∧ (xs 3).toInt ≤ 1 ∧ 0 ≤ (xs 2).toInt ∧ (xs 2).toInt ≤ 13 := hf40
        refine lv_icmp_eq (tgt := 998) hx hb dL_law_587 (by decide) (fun c41 => absurd c41 (by decide)) (fun c41 => ?_)
        refine lv_iconst (v := 0) hx hb dL_law_590 (by decide) ?_
        exfalso; omega
      · have hf40 : 0 ≤ (xs 3).toInt ∧ (xs 3).toInt ≤ 1 ∧ ((xs 2).toInt < 0 ∨ 13 < (xs 2).toInt) := hf40
        refine lv_icmp_eq (tgt := 998) hx hb dL_law_587 (by decide) (fun c42 => absurd c42 (by decide)) (fun c42 => ?_)
        refine lv_iconst (v := 0) hx hb dL_law_590 (by decide) ?_
        exfalso; omega
      · have hf40 : (xs 3).toInt < 0 ∨ 1 < (xs 3).toInt := hf40
        refine lv_icmp_eq (tgt := 998) hx hb dL_law_587 (by decide) (fun c43 => ?_) (fun c43 => absurd c43 (by decide))
        refine lv_iinc (v := 5) (lv' := [(3, .int 5), (2, .ref qn), (1, .ref qx), (0, .ref b)]) hx hb dL_law_998 hl (k := 0) rfl (by decide) (by decide) rfl (fun ls hl => ?_)
        refine lv_goto (tgt := 18) hx hb dL_law_1001 (by decide) ?_
        refine lv_iload_n hx hb dL_law_18 rfl (lv_at hl 0 rfl) ?_
        refine lv_aload_n hx hb dL_law_19 rfl (lv_at hl 3 rfl) ?_
        refine va_slen hx hb hX hbl hbA hS dL_law_20 ?_
        refine lv_topi (fun x44 e44 => ?_)
        obtain rfl : x44 = 5 := e44.trans (by decide)
        refine lv_iconst (v := 5) hx hb dL_law_21 (by decide) ?_
        refine lv_isub hx hb dL_law_22 ?_
        refine lv_topi (fun x45 e45 => ?_)
        obtain rfl : x45 = 0 := e45.trans (by decide)
        refine lv_icmp_gt (tgt := 1004) hx hb dL_law_23 (by decide) (fun c46 => ?_) (fun c46 => absurd c46 (by decide))
        refine lv_iconst (v := 1) hx hb dL_law_1004 (by decide) ?_
        refine va_forget (fun q hq => hS.2.2 q hq) ?_
        refine W.widen (k := 600000) (n := 7302250) (Nat.le_of_ble_eq_true rfl) (Nat.le_of_ble_eq_true rfl) ?_
        exact lw_ret hx hb hr hlocks dL_law_1005
  · have hz0 : (xs 1).toInt ≠ 0 := tne hz
    refine lv_aload_n hx hb dL_law_549 rfl (lv_at hl 2 rfl) ?_
    refine lv_aload_n hx hb dL_law_550 rfl (lv_at hl 3 rfl) ?_
    refine lv_iload_n hx hb dL_law_551 rfl (lv_at hl 0 rfl) ?_
    refine lv_iconst (v := 1) hx hb dL_law_552 (by decide) ?_
    refine lv_iadd hx hb dL_law_553 ?_
    refine lv_topi (fun x47 e47 => ?_)
    obtain rfl : x47 = 1 := e47.trans (by decide)
    refine va_sld hx hb hX hbl hbA hS (vin (by decide) (by decide)) dL_law_554 ?_
    refine lv_topi (fun y48 e48 => ?_)
    obtain rfl : y48 = xs 1 := e48
    refine lv_aload_n hx hb dL_law_555 rfl (lv_at hl 3 rfl) ?_
    refine lv_iload_n hx hb dL_law_556 rfl (lv_at hl 0 rfl) ?_
    refine lv_iconst (v := 2) hx hb dL_law_557 (by decide) ?_
    refine lv_iadd hx hb dL_law_558 ?_
    refine lv_topi (fun x49 e49 => ?_)
    obtain rfl : x49 = 2 := e49.trans (by decide)
    refine va_sld hx hb hX hbl hbA hS (vin (by decide) (by decide)) dL_law_559 ?_
    refine lv_topi (fun y50 e50 => ?_)
    obtain rfl : y50 = xs 2 := e50
    refine lv_aload_n hx hb dL_law_560 rfl (lv_at hl 3 rfl) ?_
    refine lv_iload_n hx hb dL_law_561 rfl (lv_at hl 0 rfl) ?_
    refine lv_iconst (v := 3) hx hb dL_law_562 (by decide) ?_
    refine lv_iadd hx hb dL_law_563 ?_
    refine lv_topi (fun x51 e51 => ?_)
    obtain rfl : x51 = 3 := e51.trans (by decide)
    refine va_sld hx hb hX hbl hbA hS (vin (by decide) (by decide)) dL_law_564 ?_
    refine lv_topi (fun y52 e52 => ?_)
    obtain rfl : y52 = xs 3 := e52
    refine mx_i (wr := [((u 1), .inl (cI, 5, .inl (upd (fun _ => 0) 0 800))), ((u 2), .inl (cI, 14, .inl (fun _ => 0))), ((u 4), .inl (cI, 6, .inl (fun _ => 0))), ((u 5), .inl (cI, 6, .inl (fun _ => 0))), ((u 6), .inl (cI, 6, .inl (fun _ => 0))), ((u 20), .inl (cI, 6, .inl (fun _ => 0))), ((u 21), .inl (cI, 6, .inl (fun _ => 0))), (qn, .inr (8, [.int 800, .int 0, .int 0, .int 0, .int 0, .int 0, .int 0, .ref (v 0), .ref (v 1), .int 0, .ref (v 2), .ref (v 3), .ref (v 4), .ref (v 5), .ref (v 6), .int 0, .ref (v 7), .int 0, .ref (v 8), .ref (v 9), .ref (v 10), .int 0, .int 0, .int 0, .int 0, .int 0, .int 0, .int 0, .int 0, .int 0, .ref (v 11), .ref (v 12), .ref (v 13), .ref (v 14), .int 0, .int 0, .int 0, .int 0, .int 0, .int 0, .int 0, .ref (v 15), .int 0, .ref (v 16), .ref (v 17), .int 0, .int 0, .ref (v 18), .ref (v 19), .ref (v 20), .ref (v 21), .int 0, .int 0])), ((v 0), .inl (cI, 14, .inl (fun _ => 0))), ((v 15), .inl (cI, 6, .inl (fun _ => 0))), ((v 16), .inl (cI, 6, .inl (fun _ => 0)))]) (va_runV (As := [.int (xs 1), .int (xs 2), .int (xs 3)]) (rest := []) ⟨hx, hb, hml, hown, hts⟩ (c_X7_mostN l dC dI cI cZ cK tS aK aV qx (u 18) (u 23) (u 29) (u 31) (u 32) (u 33) (u 34) (u 13) (u 0) (u 1) (u 2) (u 3) (u 4) (u 5) (u 6) (u 7) (u 8) (u 9) (u 19) (u 20) (u 21) (u 22) (xs 1) (xs 2) (xs 3) H.size (by first | omega | decide | assumption | trivial)) (cwV 3 hts (gw_v (fun _ h9 => h9) wm_657 wm_658 wm_659 wm_2 wm_660) rfl rfl rfl (by decide +kernel) ⟨Nat.le_of_ble_eq_true rfl, Nat.le_of_ble_eq_true rfl⟩) (mx_preV (C := RX7) (T := TX7) (N := 10) (ci := 7) hKx hP hD hS hA [0, 7, 8, 1] (by decide) rfl rfl rfl) rfl rfl hl.1 rfl (lv_room (Nat.le_of_ble_eq_true rfl)) dL_law_565 ⟨Nat.le_of_ble_eq_true rfl, Nat.le_of_ble_eq_true rfl⟩) hP hD hS hA [0, 7, 8, 1] [2, 3, 4, 5, 6, 9, 10, 11, 12, 13, 14] rfl rfl (by decide) (by decide) (fun r53 u53 H locs hq53 hP hD hS => ?_)
    replace hP : va_P (dC, dI) vwCl [((u 1), .inl (cI, 5, .inl (upd (fun _ => 0) 0 800))), ((u 2), .inl (cI, 14, .inl (fun _ => 0))), ((u 4), .inl (cI, 6, .inl (fun _ => 0))), ((u 5), .inl (cI, 6, .inl (fun _ => 0))), ((u 6), .inl (cI, 6, .inl (fun _ => 0))), ((u 20), .inl (cI, 6, .inl (fun _ => 0))), ((u 21), .inl (cI, 6, .inl (fun _ => 0))), (qn, .inr (8, [.int 800, .int 0, .int 0, .int 0, .int 0, .int 0, .int 0, .ref (v 0), .ref (v 1), .int 0, .ref (v 2), .ref (v 3), .ref (v 4), .ref (v 5), .ref (v 6), .int 0, .ref (v 7), .int 0, .ref (v 8), .ref (v 9), .ref (v 10), .int 0, .int 0, .int 0, .int 0, .int 0, .int 0, .int 0, .int 0, .int 0, .ref (v 11), .ref (v 12), .ref (v 13), .ref (v 14), .int 0, .int 0, .int 0, .int 0, .int 0, .int 0, .int 0, .ref (v 15), .int 0, .ref (v 16), .ref (v 17), .int 0, .int 0, .ref (v 18), .ref (v 19), .ref (v 20), .ref (v 21), .int 0, .int 0])), ((v 0), .inl (cI, 14, .inl (fun _ => 0))), ((v 15), .inl (cI, 6, .inl (fun _ => 0))), ((v 16), .inl (cI, 6, .inl (fun _ => 0)))] H := hP
    replace hD : va_D (fun q : Nat => s.heap.size ≤ q) [((u 1), .inl (cI, 5, .inl (upd (fun _ => 0) 0 800))), ((u 2), .inl (cI, 14, .inl (fun _ => 0))), ((u 4), .inl (cI, 6, .inl (fun _ => 0))), ((u 5), .inl (cI, 6, .inl (fun _ => 0))), ((u 6), .inl (cI, 6, .inl (fun _ => 0))), ((u 20), .inl (cI, 6, .inl (fun _ => 0))), ((u 21), .inl (cI, 6, .inl (fun _ => 0))), (qn, .inr (8, [.int 800, .int 0, .int 0, .int 0, .int 0, .int 0, .int 0, .ref (v 0), .ref (v 1), .int 0, .ref (v 2), .ref (v 3), .ref (v 4), .ref (v 5), .ref (v 6), .int 0, .ref (v 7), .int 0, .ref (v 8), .ref (v 9), .ref (v 10), .int 0, .int 0, .int 0, .int 0, .int 0, .int 0, .int 0, .int 0, .int 0, .ref (v 11), .ref (v 12), .ref (v 13), .ref (v 14), .int 0, .int 0, .int 0, .int 0, .int 0, .int 0, .int 0, .ref (v 15), .int 0, .ref (v 16), .ref (v 17), .int 0, .int 0, .ref (v 18), .ref (v 19), .ref (v 20), .ref (v 21), .int 0, .int 0])), ((v 0), .inl (cI, 14, .inl (fun _ => 0))), ((v 15), .inl (cI, 6, .inl (fun _ => 0))), ((v 16), .inl (cI, 6, .inl (fun _ => 0)))] := hD
    rcases hq53 with ⟨rfl, hf53⟩ | ⟨rfl, hf53⟩
    · have hf53 : 0 ≤ (xs 1).toInt ∧ (xs 1).toInt ≤ 999999 ∧ 0 ≤ (xs 3).toInt ∧ (xs 3).toInt ≤ 1 := hf53
      refine lv_aload_n hx hb dL_law_568 rfl (lv_at hl 1 rfl) ?_
      refine lv_aload_n hx hb dL_law_569 rfl (lv_at hl 3 rfl) ?_
      refine lv_iload_n hx hb dL_law_570 rfl (lv_at hl 0 rfl) ?_
      refine lv_iconst (v := 1) hx hb dL_law_571 (by decide) ?_
      refine lv_iadd hx hb dL_law_572 ?_
      refine lv_topi (fun x54 e54 => ?_)
      obtain rfl : x54 = 1 := e54.trans (by decide)
      refine va_sld hx hb hX hbl hbA hS (vin (by decide) (by decide)) dL_law_573 ?_
      refine lv_topi (fun y55 e55 => ?_)
      obtain rfl : y55 = xs 1 := e55
      refine lv_aload_n hx hb dL_law_574 rfl (lv_at hl 3 rfl) ?_
      refine lv_iload_n hx hb dL_law_575 rfl (lv_at hl 0 rfl) ?_
      refine lv_iconst (v := 2) hx hb dL_law_576 (by decide) ?_
      refine lv_iadd hx hb dL_law_577 ?_
      refine lv_topi (fun x56 e56 => ?_)
      obtain rfl : x56 = 2 := e56.trans (by decide)
      refine va_sld hx hb hX hbl hbA hS (vin (by decide) (by decide)) dL_law_578 ?_
      refine lv_topi (fun y57 e57 => ?_)
      obtain rfl : y57 = xs 2 := e57
      refine lv_aload_n hx hb dL_law_579 rfl (lv_at hl 3 rfl) ?_
      refine lv_iload_n hx hb dL_law_580 rfl (lv_at hl 0 rfl) ?_
      refine lv_iconst (v := 3) hx hb dL_law_581 (by decide) ?_
      refine lv_iadd hx hb dL_law_582 ?_
      refine lv_topi (fun x58 e58 => ?_)
      obtain rfl : x58 = 3 := e58.trans (by decide)
      refine va_sld hx hb hX hbl hbA hS (vin (by decide) (by decide)) dL_law_583 ?_
      refine lv_topi (fun y59 e59 => ?_)
      obtain rfl : y59 = xs 3 := e59
      refine mx_i (wr := [((u 1), .inl (cI, 5, .inl (upd (fun _ => 0) 0 800))), ((u 2), .inl (cI, 14, .inl (fun _ => 0))), ((u 4), .inl (cI, 6, .inl (fun _ => 0))), ((u 5), .inl (cI, 6, .inl (fun _ => 0))), ((u 6), .inl (cI, 6, .inl (fun _ => 0))), ((u 20), .inl (cI, 6, .inl (fun _ => 0))), ((u 21), .inl (cI, 6, .inl (fun _ => 0))), ((v 0), .inl (cI, 14, .inl (fun _ => 0))), ((v 16), .inl (cI, 6, .inl (fun _ => 0)))]) (va_runV (As := [.int (xs 1), .int (xs 2), .int (xs 3)]) (rest := [.int (-1)]) ⟨hx, hb, hml, hown, hts⟩ (c_X8_mostN l dC dI cI cZ cK tS aK aV qn (v 0) (v 1) (v 2) (v 3) (v 4) (v 5) (v 6) (v 7) (v 8) (v 9) (v 10) (v 11) (v 12) (v 13) (v 14) (v 15) (v 16) (v 17) (v 18) (v 19) (v 20) (v 21) (xs 1) (xs 2) (xs 3) H.size (by first | omega | decide | assumption | trivial)) (cwV 3 hts (gw_v (fun _ h9 => h9) wm_661 wm_662 wm_663 wm_385 wm_664) rfl rfl rfl (by decide +kernel) ⟨Nat.le_of_ble_eq_true rfl, Nat.le_of_ble_eq_true rfl⟩) (mx_preV (C := RX8) (T := TX8) (N := 53) (ci := 8) hKx hP hD hS hA [7, 9] (by decide) rfl rfl rfl) rfl rfl hl.1 rfl (lv_room (Nat.le_of_ble_eq_true rfl)) dL_law_584 ⟨Nat.le_of_ble_eq_true rfl, Nat.le_of_ble_eq_true rfl⟩) hP hD hS hA [7, 9] [0, 1, 2, 3, 4, 5, 6, 8, 10] rfl rfl (by decide) (by decide) (fun r60 u60 H locs hq60 hP hD hS => ?_)
      replace hP : va_P (dC, dI) vwCl [((u 1), .inl (cI, 5, .inl (upd (fun _ => 0) 0 800))), ((u 2), .inl (cI, 14, .inl (fun _ => 0))), ((u 4), .inl (cI, 6, .inl (fun _ => 0))), ((u 5), .inl (cI, 6, .inl (fun _ => 0))), ((u 6), .inl (cI, 6, .inl (fun _ => 0))), ((u 20), .inl (cI, 6, .inl (fun _ => 0))), ((u 21), .inl (cI, 6, .inl (fun _ => 0))), ((v 0), .inl (cI, 14, .inl (fun _ => 0))), ((v 16), .inl (cI, 6, .inl (fun _ => 0)))] H := hP
      replace hD : va_D (fun q : Nat => s.heap.size ≤ q) [((u 1), .inl (cI, 5, .inl (upd (fun _ => 0) 0 800))), ((u 2), .inl (cI, 14, .inl (fun _ => 0))), ((u 4), .inl (cI, 6, .inl (fun _ => 0))), ((u 5), .inl (cI, 6, .inl (fun _ => 0))), ((u 6), .inl (cI, 6, .inl (fun _ => 0))), ((u 20), .inl (cI, 6, .inl (fun _ => 0))), ((u 21), .inl (cI, 6, .inl (fun _ => 0))), ((v 0), .inl (cI, 14, .inl (fun _ => 0))), ((v 16), .inl (cI, 6, .inl (fun _ => 0)))] := hD
      rcases hq60 with ⟨rfl, hf60⟩ | ⟨rfl, hf60⟩
      · have hf60 : 0 ≤ (xs 1).toInt ∧ (xs 1).toInt ≤ 999999 ∧ 0 ≤ (xs 3).toInt ∧ (xs 3).toInt ≤ 1 := hf60
        refine lv_icmp_eq (tgt := 998) hx hb dL_law_587 (by decide) (fun c61 => ?_) (fun c61 => absurd c61 (by decide))
        refine lv_iinc (v := 5) (lv' := [(3, .int 5), (2, .ref qn), (1, .ref qx), (0, .ref b)]) hx hb dL_law_998 hl (k := 0) rfl (by decide) (by decide) rfl (fun ls hl => ?_)
        refine lv_goto (tgt := 18) hx hb dL_law_1001 (by decide) ?_
        refine lv_iload_n hx hb dL_law_18 rfl (lv_at hl 0 rfl) ?_
        refine lv_aload_n hx hb dL_law_19 rfl (lv_at hl 3 rfl) ?_
        refine va_slen hx hb hX hbl hbA hS dL_law_20 ?_
        refine lv_topi (fun x62 e62 => ?_)
        obtain rfl : x62 = 5 := e62.trans (by decide)
        refine lv_iconst (v := 5) hx hb dL_law_21 (by decide) ?_
        refine lv_isub hx hb dL_law_22 ?_
        refine lv_topi (fun x63 e63 => ?_)
        obtain rfl : x63 = 0 := e63.trans (by decide)
        refine lv_icmp_gt (tgt := 1004) hx hb dL_law_23 (by decide) (fun c64 => ?_) (fun c64 => absurd c64 (by decide))
        refine lv_iconst (v := 1) hx hb dL_law_1004 (by decide) ?_
        refine va_forget (fun q hq => hS.2.2 q hq) ?_
        refine W.widen (k := 600000) (n := 7302250) (Nat.le_of_ble_eq_true rfl) (Nat.le_of_ble_eq_true rfl) ?_
        exact lw_ret hx hb hr hlocks dL_law_1005
      · have hf60 : (xs 1).toInt < 0 ∨ 999999 < (xs 1).toInt ∨ (xs 3).toInt < 0 ∨ 1 < (xs 3).toInt := hf60
        refine lv_icmp_eq (tgt := 998) hx hb dL_law_587 (by decide) (fun c65 => absurd c65 (by decide)) (fun c65 => ?_)
        refine lv_iconst (v := 0) hx hb dL_law_590 (by decide) ?_
        exfalso; omega
    · have hf53 : (xs 1).toInt < 0 ∨ 999999 < (xs 1).toInt ∨ (xs 3).toInt < 0 ∨ 1 < (xs 3).toInt := hf53
      refine lv_aload_n hx hb dL_law_568 rfl (lv_at hl 1 rfl) ?_
      refine lv_aload_n hx hb dL_law_569 rfl (lv_at hl 3 rfl) ?_
      refine lv_iload_n hx hb dL_law_570 rfl (lv_at hl 0 rfl) ?_
      refine lv_iconst (v := 1) hx hb dL_law_571 (by decide) ?_
      refine lv_iadd hx hb dL_law_572 ?_
      refine lv_topi (fun x66 e66 => ?_)
      obtain rfl : x66 = 1 := e66.trans (by decide)
      refine va_sld hx hb hX hbl hbA hS (vin (by decide) (by decide)) dL_law_573 ?_
      refine lv_topi (fun y67 e67 => ?_)
      obtain rfl : y67 = xs 1 := e67
      refine lv_aload_n hx hb dL_law_574 rfl (lv_at hl 3 rfl) ?_
      refine lv_iload_n hx hb dL_law_575 rfl (lv_at hl 0 rfl) ?_
      refine lv_iconst (v := 2) hx hb dL_law_576 (by decide) ?_
      refine lv_iadd hx hb dL_law_577 ?_
      refine lv_topi (fun x68 e68 => ?_)
      obtain rfl : x68 = 2 := e68.trans (by decide)
      refine va_sld hx hb hX hbl hbA hS (vin (by decide) (by decide)) dL_law_578 ?_
      refine lv_topi (fun y69 e69 => ?_)
      obtain rfl : y69 = xs 2 := e69
      refine lv_aload_n hx hb dL_law_579 rfl (lv_at hl 3 rfl) ?_
      refine lv_iload_n hx hb dL_law_580 rfl (lv_at hl 0 rfl) ?_
      refine lv_iconst (v := 3) hx hb dL_law_581 (by decide) ?_
      refine lv_iadd hx hb dL_law_582 ?_
      refine lv_topi (fun x70 e70 => ?_)
      obtain rfl : x70 = 3 := e70.trans (by decide)
      refine va_sld hx hb hX hbl hbA hS (vin (by decide) (by decide)) dL_law_583 ?_
      refine lv_topi (fun y71 e71 => ?_)
      obtain rfl : y71 = xs 3 := e71
      refine mx_i (wr := [((u 1), .inl (cI, 5, .inl (upd (fun _ => 0) 0 800))), ((u 2), .inl (cI, 14, .inl (fun _ => 0))), ((u 4), .inl (cI, 6, .inl (fun _ => 0))), ((u 5), .inl (cI, 6, .inl (fun _ => 0))), ((u 6), .inl (cI, 6, .inl (fun _ => 0))), ((u 20), .inl (cI, 6, .inl (fun _ => 0))), ((u 21), .inl (cI, 6, .inl (fun _ => 0))), ((v 0), .inl (cI, 14, .inl (fun _ => 0))), ((v 16), .inl (cI, 6, .inl (fun _ => 0)))]) (va_runV (As := [.int (xs 1), .int (xs 2), .int (xs 3)]) (rest := [.int (-2)]) ⟨hx, hb, hml, hown, hts⟩ (c_X8_mostN l dC dI cI cZ cK tS aK aV qn (v 0) (v 1) (v 2) (v 3) (v 4) (v 5) (v 6) (v 7) (v 8) (v 9) (v 10) (v 11) (v 12) (v 13) (v 14) (v 15) (v 16) (v 17) (v 18) (v 19) (v 20) (v 21) (xs 1) (xs 2) (xs 3) H.size (by first | omega | decide | assumption | trivial)) (cwV 3 hts (gw_v (fun _ h9 => h9) wm_661 wm_662 wm_663 wm_385 wm_664) rfl rfl rfl (by decide +kernel) ⟨Nat.le_of_ble_eq_true rfl, Nat.le_of_ble_eq_true rfl⟩) (mx_preV (C := RX8) (T := TX8) (N := 53) (ci := 8) hKx hP hD hS hA [7, 9] (by decide) rfl rfl rfl) rfl rfl hl.1 rfl (lv_room (Nat.le_of_ble_eq_true rfl)) dL_law_584 ⟨Nat.le_of_ble_eq_true rfl, Nat.le_of_ble_eq_true rfl⟩) hP hD hS hA [7, 9] [0, 1, 2, 3, 4, 5, 6, 8, 10] rfl rfl (by decide) (by decide) (fun r72 u72 H locs hq72 hP hD hS => ?_)
      replace hP : va_P (dC, dI) vwCl [((u 1), .inl (cI, 5, .inl (upd (fun _ => 0) 0 800))), ((u 2), .inl (cI, 14, .inl (fun _ => 0))), ((u 4), .inl (cI, 6, .inl (fun _ => 0))), ((u 5), .inl (cI, 6, .inl (fun _ => 0))), ((u 6), .inl (cI, 6, .inl (fun _ => 0))), ((u 20), .inl (cI, 6, .inl (fun _ => 0))), ((u 21), .inl (cI, 6, .inl (fun _ => 0))), ((v 0), .inl (cI, 14, .inl (fun _ => 0))), ((v 16), .inl (cI, 6, .inl (fun _ => 0)))] H := hP
      replace hD : va_D (fun q : Nat => s.heap.size ≤ q) [((u 1), .inl (cI, 5, .inl (upd (fun _ => 0) 0 800))), ((u 2), .inl (cI, 14, .inl (fun _ => 0))), ((u 4), .inl (cI, 6, .inl (fun _ => 0))), ((u 5), .inl (cI, 6, .inl (fun _ => 0))), ((u 6), .inl (cI, 6, .inl (fun _ => 0))), ((u 20), .inl (cI, 6, .inl (fun _ => 0))), ((u 21), .inl (cI, 6, .inl (fun _ => 0))), ((v 0), .inl (cI, 14, .inl (fun _ => 0))), ((v 16), .inl (cI, 6, .inl (fun _ => 0)))] := hD
      rcases hq72 with ⟨rfl, hf72⟩ | ⟨rfl, hf72⟩
      · have hf72 : 0 ≤ (xs 1).toInt ∧ (xs 1).toInt ≤ 999999 ∧ 0 ≤ (xs 3).toInt ∧ (xs 3).toInt ≤ 1 := hf72
        refine lv_icmp_eq (tgt := 998) hx hb dL_law_587 (by decide) (fun c73 => absurd c73 (by decide)) (fun c73 => ?_)
        refine lv_iconst (v := 0) hx hb dL_law_590 (by decide) ?_
        exfalso; omega
      · have hf72 : (xs 1).toInt < 0 ∨ 999999 < (xs 1).toInt ∨ (xs 3).toInt < 0 ∨ 1 < (xs 3).toInt := hf72
        refine lv_icmp_eq (tgt := 998) hx hb dL_law_587 (by decide) (fun c74 => ?_) (fun c74 => absurd c74 (by decide))
        refine lv_iinc (v := 5) (lv' := [(3, .int 5), (2, .ref qn), (1, .ref qx), (0, .ref b)]) hx hb dL_law_998 hl (k := 0) rfl (by decide) (by decide) rfl (fun ls hl => ?_)
        refine lv_goto (tgt := 18) hx hb dL_law_1001 (by decide) ?_
        refine lv_iload_n hx hb dL_law_18 rfl (lv_at hl 0 rfl) ?_
        refine lv_aload_n hx hb dL_law_19 rfl (lv_at hl 3 rfl) ?_
        refine va_slen hx hb hX hbl hbA hS dL_law_20 ?_
        refine lv_topi (fun x75 e75 => ?_)
        obtain rfl : x75 = 5 := e75.trans (by decide)
        refine lv_iconst (v := 5) hx hb dL_law_21 (by decide) ?_
        refine lv_isub hx hb dL_law_22 ?_
        refine lv_topi (fun x76 e76 => ?_)
        obtain rfl : x76 = 0 := e76.trans (by decide)
        refine lv_icmp_gt (tgt := 1004) hx hb dL_law_23 (by decide) (fun c77 => ?_) (fun c77 => absurd c77 (by decide))
        refine lv_iconst (v := 1) hx hb dL_law_1004 (by decide) ?_
        refine va_forget (fun q hq => hS.2.2 q hq) ?_
        refine W.widen (k := 600000) (n := 7302250) (Nat.le_of_ble_eq_true rfl) (Nat.le_of_ble_eq_true rfl) ?_
        exact lw_ret hx hb hr hlocks dL_law_1005
set_option maxHeartbeats 4000000 in
set_option maxRecDepth 100000 in
theorem lc_least {p : Program} {e : Env} {s : State} {m : MethodId} {below : List Frame} {meth : Method} {c : Code} (l : Launch) {b : Nat} {xs : Nat → Int32} (C0 : lw_At p s m meth c b 5 xs) (dC : Nat → ClassId) (dI : Nat → Nat → Nat) (cI cZ cK : ClassId) (tS aK aV : Nat) (hKx : kx dC dI cI cZ cK tS aK aV (fun q : Nat => s.heap.size ≤ q) s) (qx qn : Nat) (u v : Nat → Nat) (H : Heap) (locs : List Loc) (hP : va_P (dC, dI) vwCl [(qx, .inr (7, [.ref (u 0), .ref (u 9), .ref (u 13), .ref (u 18), .ref (u 23), .ref (u 29), .ref (u 31), .ref (u 32), .ref (u 33), .ref (u 34)])), ((u 0), .inr (0, [.ref (u 1), .ref (u 2), .ref (u 3), .int (-6), .int 0, .int 0, .ref (u 4), .ref (u 5), .ref (u 6), .int 0, .ref (u 7), .ref (u 8)])), ((u 1), .inl (cI, 5, .inl (upd (fun _ => 0) 0 800))), ((u 2), .inl (cI, 14, .inl (fun _ => 0))), ((u 3), .inl (cZ, 14, .inl (fun _ => 0))), ((u 4), .inl (cI, 6, .inl (fun _ => 0))), ((u 5), .inl (cI, 6, .inl (fun _ => 0))), ((u 6), .inl (cI, 6, .inl (fun _ => 0))), ((u 7), .inl (cI, 8, .inl (fun _ => 0))), ((u 8), .inl (cI, 8, .inl (fun _ => 0))), ((u 9), .inr (4, [.ref (u 10), .int 0, .ref (u 11), .ref (u 12), .int 0, .int 0])), ((u 10), .inl (cI, 60, .inl (fun _ => 0))), ((u 11), .inl (cI, 60, .inl (fun _ => 0))), ((u 12), .inl (cI, 60, .inl (fun _ => 0))), ((u 13), .inr (1, [.ref (u 0), .ref (u 9), .ref (u 14), .ref (u 15), .ref (u 16), .ref (u 17), .int 0, .int 0, .int 0, .int 0, .int 0, .int 0, .int 0, .int 0])), ((u 14), .inl (cI, 60, .inl (fun _ => 0))), ((u 15), .inl (cI, 60, .inl (fun _ => 0))), ((u 16), .inl (cI, 60, .inl (fun _ => 0))), ((u 17), .inl (cI, 61, .inl (fun _ => 0))), ((u 18), .inr (3, [.ref (u 0), .ref (u 19), .int 0, .ref (u 20), .ref (u 21), .ref (u 22)])), ((u 19), .inl (cI, 6, .inl (fun _ => 0))), ((u 20), .inl (cI, 6, .inl (fun _ => 0))), ((u 21), .inl (cI, 6, .inl (fun _ => 0))), ((u 22), .inl (cI, 5, .inl (fun _ => 0))), ((u 23), .inr (5, [.ref (u 0), .ref (u 9), .ref (u 13), .ref (u 24), .ref (u 25), .ref (u 26), .ref (u 27), .ref (u 28), .int 0, .int 0, .int 0])), ((u 24), .inl (cI, 61, .inl (fun _ => 0))), ((u 25), .inl (cI, 61, .inl (fun _ => 0))), ((u 26), .inl (cI, 60, .inl (fun _ => 0))), ((u 27), .inl (cI, 60, .inl (fun _ => 0))), ((u 28), .inl (cI, 21, .inl (fun _ => 0))), ((u 29), .inr (2, [.ref (u 0), .ref (u 9), .ref (u 13), .ref (u 30), .long 0, .long 0])), ((u 30), .inl (cI, 60, .inl (fun _ => 0))), ((u 31), .inr (6, [.ref (u 0), .int 0, .int 0, .int 0])), ((u 32), .inl (cK, 2, .inr (.inr (.inr (.inr (va_up (va_up (fun _ => none) 0 (some (u 35))) 1 (some (u 44)))))))), ((u 33), .inl (cZ, 2, .inl (fun _ => 0))), ((u 34), .inl (cI, 4, .inl (fun _ => 0))), ((u 35), .inr (0, [.ref (u 36), .ref (u 37), .ref (u 38), .int (-6), .int 0, .int 0, .ref (u 39), .ref (u 40), .ref (u 41), .int 0, .ref (u 42), .ref (u 43)])), ((u 36), .inl (cI, 5, .inl (upd (fun _ => 0) 0 800))), ((u 37), .inl (cI, 14, .inl (fun _ => 0))), ((u 38), .inl (cZ, 14, .inl (fun _ => 0))), ((u 39), .inl (cI, 6, .inl (fun _ => 0))), ((u 40), .inl (cI, 6, .inl (fun _ => 0))), ((u 41), .inl (cI, 6, .inl (fun _ => 0))), ((u 42), .inl (cI, 8, .inl (fun _ => 0))), ((u 43), .inl (cI, 8, .inl (fun _ => 0))), ((u 44), .inr (0, [.ref (u 45), .ref (u 46), .ref (u 47), .int (-6), .int 0, .int 0, .ref (u 48), .ref (u 49), .ref (u 50), .int 0, .ref (u 51), .ref (u 52)])), ((u 45), .inl (cI, 5, .inl (upd (fun _ => 0) 0 800))), ((u 46), .inl (cI, 14, .inl (fun _ => 0))), ((u 47), .inl (cZ, 14, .inl (fun _ => 0))), ((u 48), .inl (cI, 6, .inl (fun _ => 0))), ((u 49), .inl (cI, 6, .inl (fun _ => 0))), ((u 50), .inl (cI, 6, .inl (fun _ => 0))), ((u 51), .inl (cI, 8, .inl (fun _ => 0))), ((u 52), .inl (cI, 8, .inl (fun _ => 0))), (qn, .inr (8, [.int 800, .int 0, .int 0, .int 0, .int 0, .int 0, .int 0, .ref (v 0), .ref (v 1), .int 0, .ref (v 2), .ref (v 3), .ref (v 4), .ref (v 5), .ref (v 6), .int 0, .ref (v 7), .int 0, .ref (v 8), .ref (v 9), .ref (v 10), .int 0, .int 0, .int 0, .int 0, .int 0, .int 0, .int 0, .int 0, .int 0, .ref (v 11), .ref (v 12), .ref (v 13), .ref (v 14), .int 0, .int 0, .int 0, .int 0, .int 0, .int 0, .int 0, .ref (v 15), .int 0, .ref (v 16), .ref (v 17), .int 0, .int 0, .ref (v 18), .ref (v 19), .ref (v 20), .ref (v 21), .int 0, .int 0])), ((v 0), .inl (cI, 14, .inl (fun _ => 0))), ((v 1), .inl (cI, 14, .inl (fun _ => 0))), ((v 2), .inl (cI, 6, .inl (fun _ => 0))), ((v 3), .inl (cI, 6, .inl (fun _ => 0))), ((v 4), .inl (cI, 6, .inl (fun _ => 0))), ((v 5), .inl (cI, 8, .inl (fun _ => 0))), ((v 6), .inl (cI, 8, .inl (fun _ => 0))), ((v 7), .inl (cI, 60, .inl (fun _ => 0))), ((v 8), .inl (cI, 60, .inl (fun _ => 0))), ((v 9), .inl (cI, 60, .inl (fun _ => 0))), ((v 10), .inl (cI, 60, .inl (fun _ => 0))), ((v 11), .inl (cI, 60, .inl (fun _ => 0))), ((v 12), .inl (cI, 60, .inl (fun _ => 0))), ((v 13), .inl (cI, 14, .inl (fun _ => 0))), ((v 14), .inl (cI, 61, .inl (fun _ => 0))), ((v 15), .inl (cI, 6, .inl (fun _ => 0))), ((v 16), .inl (cI, 6, .inl (fun _ => 0))), ((v 17), .inl (cI, 28, .inl (fun _ => 0))), ((v 18), .inl (cI, 1260, .inl (fun _ => 0))), ((v 19), .inl (cI, 4, .inl (fun _ => 0))), ((v 20), .inl (cI, 160, .inl (fun _ => 0))), ((v 21), .inl (cZ, 2, .inl (fun _ => 0)))] H) (hD : va_D (fun q : Nat => s.heap.size ≤ q) [(qx, .inr (7, [.ref (u 0), .ref (u 9), .ref (u 13), .ref (u 18), .ref (u 23), .ref (u 29), .ref (u 31), .ref (u 32), .ref (u 33), .ref (u 34)])), ((u 0), .inr (0, [.ref (u 1), .ref (u 2), .ref (u 3), .int (-6), .int 0, .int 0, .ref (u 4), .ref (u 5), .ref (u 6), .int 0, .ref (u 7), .ref (u 8)])), ((u 1), .inl (cI, 5, .inl (upd (fun _ => 0) 0 800))), ((u 2), .inl (cI, 14, .inl (fun _ => 0))), ((u 3), .inl (cZ, 14, .inl (fun _ => 0))), ((u 4), .inl (cI, 6, .inl (fun _ => 0))), ((u 5), .inl (cI, 6, .inl (fun _ => 0))), ((u 6), .inl (cI, 6, .inl (fun _ => 0))), ((u 7), .inl (cI, 8, .inl (fun _ => 0))), ((u 8), .inl (cI, 8, .inl (fun _ => 0))), ((u 9), .inr (4, [.ref (u 10), .int 0, .ref (u 11), .ref (u 12), .int 0, .int 0])), ((u 10), .inl (cI, 60, .inl (fun _ => 0))), ((u 11), .inl (cI, 60, .inl (fun _ => 0))), ((u 12), .inl (cI, 60, .inl (fun _ => 0))), ((u 13), .inr (1, [.ref (u 0), .ref (u 9), .ref (u 14), .ref (u 15), .ref (u 16), .ref (u 17), .int 0, .int 0, .int 0, .int 0, .int 0, .int 0, .int 0, .int 0])), ((u 14), .inl (cI, 60, .inl (fun _ => 0))), ((u 15), .inl (cI, 60, .inl (fun _ => 0))), ((u 16), .inl (cI, 60, .inl (fun _ => 0))), ((u 17), .inl (cI, 61, .inl (fun _ => 0))), ((u 18), .inr (3, [.ref (u 0), .ref (u 19), .int 0, .ref (u 20), .ref (u 21), .ref (u 22)])), ((u 19), .inl (cI, 6, .inl (fun _ => 0))), ((u 20), .inl (cI, 6, .inl (fun _ => 0))), ((u 21), .inl (cI, 6, .inl (fun _ => 0))), ((u 22), .inl (cI, 5, .inl (fun _ => 0))), ((u 23), .inr (5, [.ref (u 0), .ref (u 9), .ref (u 13), .ref (u 24), .ref (u 25), .ref (u 26), .ref (u 27), .ref (u 28), .int 0, .int 0, .int 0])), ((u 24), .inl (cI, 61, .inl (fun _ => 0))), ((u 25), .inl (cI, 61, .inl (fun _ => 0))), ((u 26), .inl (cI, 60, .inl (fun _ => 0))), ((u 27), .inl (cI, 60, .inl (fun _ => 0))), ((u 28), .inl (cI, 21, .inl (fun _ => 0))), ((u 29), .inr (2, [.ref (u 0), .ref (u 9), .ref (u 13), .ref (u 30), .long 0, .long 0])), ((u 30), .inl (cI, 60, .inl (fun _ => 0))), ((u 31), .inr (6, [.ref (u 0), .int 0, .int 0, .int 0])), ((u 32), .inl (cK, 2, .inr (.inr (.inr (.inr (va_up (va_up (fun _ => none) 0 (some (u 35))) 1 (some (u 44)))))))), ((u 33), .inl (cZ, 2, .inl (fun _ => 0))), ((u 34), .inl (cI, 4, .inl (fun _ => 0))), ((u 35), .inr (0, [.ref (u 36), .ref (u 37), .ref (u 38), .int (-6), .int 0, .int 0, .ref (u 39), .ref (u 40), .ref (u 41), .int 0, .ref (u 42), .ref (u 43)])), ((u 36), .inl (cI, 5, .inl (upd (fun _ => 0) 0 800))), ((u 37), .inl (cI, 14, .inl (fun _ => 0))), ((u 38), .inl (cZ, 14, .inl (fun _ => 0))), ((u 39), .inl (cI, 6, .inl (fun _ => 0))), ((u 40), .inl (cI, 6, .inl (fun _ => 0))), ((u 41), .inl (cI, 6, .inl (fun _ => 0))), ((u 42), .inl (cI, 8, .inl (fun _ => 0))), ((u 43), .inl (cI, 8, .inl (fun _ => 0))), ((u 44), .inr (0, [.ref (u 45), .ref (u 46), .ref (u 47), .int (-6), .int 0, .int 0, .ref (u 48), .ref (u 49), .ref (u 50), .int 0, .ref (u 51), .ref (u 52)])), ((u 45), .inl (cI, 5, .inl (upd (fun _ => 0) 0 800))), ((u 46), .inl (cI, 14, .inl (fun _ => 0))), ((u 47), .inl (cZ, 14, .inl (fun _ => 0))), ((u 48), .inl (cI, 6, .inl (fun _ => 0))), ((u 49), .inl (cI, 6, .inl (fun _ => 0))), ((u 50), .inl (cI, 6, .inl (fun _ => 0))), ((u 51), .inl (cI, 8, .inl (fun _ => 0))), ((u 52), .inl (cI, 8, .inl (fun _ => 0))), (qn, .inr (8, [.int 800, .int 0, .int 0, .int 0, .int 0, .int 0, .int 0, .ref (v 0), .ref (v 1), .int 0, .ref (v 2), .ref (v 3), .ref (v 4), .ref (v 5), .ref (v 6), .int 0, .ref (v 7), .int 0, .ref (v 8), .ref (v 9), .ref (v 10), .int 0, .int 0, .int 0, .int 0, .int 0, .int 0, .int 0, .int 0, .int 0, .ref (v 11), .ref (v 12), .ref (v 13), .ref (v 14), .int 0, .int 0, .int 0, .int 0, .int 0, .int 0, .int 0, .ref (v 15), .int 0, .ref (v 16), .ref (v 17), .int 0, .int 0, .ref (v 18), .ref (v 19), .ref (v 20), .ref (v 21), .int 0, .int 0])), ((v 0), .inl (cI, 14, .inl (fun _ => 0))), ((v 1), .inl (cI, 14, .inl (fun _ => 0))), ((v 2), .inl (cI, 6, .inl (fun _ => 0))), ((v 3), .inl (cI, 6, .inl (fun _ => 0))), ((v 4), .inl (cI, 6, .inl (fun _ => 0))), ((v 5), .inl (cI, 8, .inl (fun _ => 0))), ((v 6), .inl (cI, 8, .inl (fun _ => 0))), ((v 7), .inl (cI, 60, .inl (fun _ => 0))), ((v 8), .inl (cI, 60, .inl (fun _ => 0))), ((v 9), .inl (cI, 60, .inl (fun _ => 0))), ((v 10), .inl (cI, 60, .inl (fun _ => 0))), ((v 11), .inl (cI, 60, .inl (fun _ => 0))), ((v 12), .inl (cI, 60, .inl (fun _ => 0))), ((v 13), .inl (cI, 14, .inl (fun _ => 0))), ((v 14), .inl (cI, 61, .inl (fun _ => 0))), ((v 15), .inl (cI, 6, .inl (fun _ => 0))), ((v 16), .inl (cI, 6, .inl (fun _ => 0))), ((v 17), .inl (cI, 28, .inl (fun _ => 0))), ((v 18), .inl (cI, 1260, .inl (fun _ => 0))), ((v 19), .inl (cI, 4, .inl (fun _ => 0))), ((v 20), .inl (cI, 160, .inl (fun _ => 0))), ((v 21), .inl (cZ, 2, .inl (fun _ => 0)))]) (hS : va_S (fun q : Nat => s.heap.size ≤ q) s.heap H locs) (ls : Array Slot) (hl : lv_has ls 4 [(3, .int 0), (2, .ref qn), (1, .ref qx), (0, .ref b)]) : W p l e room_1 s m #[Value.ref b] below meth c H locs 77 3085 (lw_Z below #[Value.ref b] s) (F0 m 592 ls []) := by
  obtain ⟨hx, hb, hr, hml, hown, hts, hX, hbl, hlocks, hgv⟩ := C0
  have hts := fun w h => hts w (wsL_law_in w h)
  have hown : s.vm.findClass RL = some m.cls := hown
  have hA : ∀ q : Nat, s.heap.size ≤ q → (fun q : Nat => s.heap.size ≤ q) q := fun _ h => h
  have hbA : ¬ (fun q : Nat => s.heap.size ≤ q) b := Nat.not_le.mpr hbl
  have hK := hKx.1
  replace hP := mx_subP (wc := [(qx, .inr (7, [.ref (u 0), .ref (u 9), .ref (u 13), .ref (u 18), .ref (u 23), .ref (u 29), .ref (u 31), .ref (u 32), .ref (u 33), .ref (u 34)])), ((u 0), .inr (0, [.ref (u 1), .ref (u 2), .ref (u 3), .int (-6), .int 0, .int 0, .ref (u 4), .ref (u 5), .ref (u 6), .int 0, .ref (u 7), .ref (u 8)])), ((u 1), .inl (cI, 5, .inl (upd (fun _ => 0) 0 800))), ((u 2), .inl (cI, 14, .inl (fun _ => 0))), ((u 4), .inl (cI, 6, .inl (fun _ => 0))), ((u 5), .inl (cI, 6, .inl (fun _ => 0))), ((u 18), .inr (3, [.ref (u 0), .ref (u 19), .int 0, .ref (u 20), .ref (u 21), .ref (u 22)])), ((u 19), .inl (cI, 6, .inl (fun _ => 0))), ((u 22), .inl (cI, 5, .inl (fun _ => 0))), (qn, .inr (8, [.int 800, .int 0, .int 0, .int 0, .int 0, .int 0, .int 0, .ref (v 0), .ref (v 1), .int 0, .ref (v 2), .ref (v 3), .ref (v 4), .ref (v 5), .ref (v 6), .int 0, .ref (v 7), .int 0, .ref (v 8), .ref (v 9), .ref (v 10), .int 0, .int 0, .int 0, .int 0, .int 0, .int 0, .int 0, .int 0, .int 0, .ref (v 11), .ref (v 12), .ref (v 13), .ref (v 14), .int 0, .int 0, .int 0, .int 0, .int 0, .int 0, .int 0, .ref (v 15), .int 0, .ref (v 16), .ref (v 17), .int 0, .int 0, .ref (v 18), .ref (v 19), .ref (v 20), .ref (v 21), .int 0, .int 0])), ((v 0), .inl (cI, 14, .inl (fun _ => 0))), ((v 15), .inl (cI, 6, .inl (fun _ => 0))), ((v 17), .inl (cI, 28, .inl (fun _ => 0)))]) hP [0, 1, 2, 3, 5, 6, 19, 20, 23, 54, 55, 70, 72] rfl
  replace hD := hD.sub (ws' := [(qx, .inr (7, [.ref (u 0), .ref (u 9), .ref (u 13), .ref (u 18), .ref (u 23), .ref (u 29), .ref (u 31), .ref (u 32), .ref (u 33), .ref (u 34)])), ((u 0), .inr (0, [.ref (u 1), .ref (u 2), .ref (u 3), .int (-6), .int 0, .int 0, .ref (u 4), .ref (u 5), .ref (u 6), .int 0, .ref (u 7), .ref (u 8)])), ((u 1), .inl (cI, 5, .inl (upd (fun _ => 0) 0 800))), ((u 2), .inl (cI, 14, .inl (fun _ => 0))), ((u 4), .inl (cI, 6, .inl (fun _ => 0))), ((u 5), .inl (cI, 6, .inl (fun _ => 0))), ((u 18), .inr (3, [.ref (u 0), .ref (u 19), .int 0, .ref (u 20), .ref (u 21), .ref (u 22)])), ((u 19), .inl (cI, 6, .inl (fun _ => 0))), ((u 22), .inl (cI, 5, .inl (fun _ => 0))), (qn, .inr (8, [.int 800, .int 0, .int 0, .int 0, .int 0, .int 0, .int 0, .ref (v 0), .ref (v 1), .int 0, .ref (v 2), .ref (v 3), .ref (v 4), .ref (v 5), .ref (v 6), .int 0, .ref (v 7), .int 0, .ref (v 8), .ref (v 9), .ref (v 10), .int 0, .int 0, .int 0, .int 0, .int 0, .int 0, .int 0, .int 0, .int 0, .ref (v 11), .ref (v 12), .ref (v 13), .ref (v 14), .int 0, .int 0, .int 0, .int 0, .int 0, .int 0, .int 0, .ref (v 15), .int 0, .ref (v 16), .ref (v 17), .int 0, .int 0, .ref (v 18), .ref (v 19), .ref (v 20), .ref (v 21), .int 0, .int 0])), ((v 0), .inl (cI, 14, .inl (fun _ => 0))), ((v 15), .inl (cI, 6, .inl (fun _ => 0))), ((v 17), .inl (cI, 28, .inl (fun _ => 0)))]) [0, 1, 2, 3, 5, 6, 19, 20, 23, 54, 55, 70, 72] (by decide) rfl
  by_cases hz : xs 1 = 0
  · have hz0 : (xs 1).toInt = 0 := teq hz
    refine lv_aload_n hx hb dL_law_592 rfl (lv_at hl 2 rfl) ?_
    refine lv_aload_n hx hb dL_law_593 rfl (lv_at hl 3 rfl) ?_
    refine lv_iload_n hx hb dL_law_594 rfl (lv_at hl 0 rfl) ?_
    refine lv_iconst (v := 1) hx hb dL_law_595 (by decide) ?_
    refine lv_iadd hx hb dL_law_596 ?_
    refine lv_topi (fun x1 e1 => ?_)
    obtain rfl : x1 = 1 := e1.trans (by decide)
    refine va_sld hx hb hX hbl hbA hS (vin (by decide) (by decide)) dL_law_597 ?_
    refine lv_topi (fun y2 e2 => ?_)
    obtain rfl : y2 = 0 := e2.trans hz
    refine lv_aload_n hx hb dL_law_598 rfl (lv_at hl 3 rfl) ?_
    refine lv_iload_n hx hb dL_law_599 rfl (lv_at hl 0 rfl) ?_
    refine lv_iconst (v := 2) hx hb dL_law_600 (by decide) ?_
    refine lv_iadd hx hb dL_law_601 ?_
    refine lv_topi (fun x3 e3 => ?_)
    obtain rfl : x3 = 2 := e3.trans (by decide)
    refine va_sld hx hb hX hbl hbA hS (vin (by decide) (by decide)) dL_law_602 ?_
    refine lv_topi (fun y4 e4 => ?_)
    obtain rfl : y4 = xs 2 := e4
    refine mx_i (wr := [(qn, .inr (8, [.int 800, .int 0, .int 0, .int 0, .int 0, .int 0, .int 0, .ref (v 0), .ref (v 1), .int 0, .ref (v 2), .ref (v 3), .ref (v 4), .ref (v 5), .ref (v 6), .int 0, .ref (v 7), .int 0, .ref (v 8), .ref (v 9), .ref (v 10), .int 0, .int 0, .int 0, .int 0, .int 0, .int 0, .int 0, .int 0, .int 0, .ref (v 11), .ref (v 12), .ref (v 13), .ref (v 14), .int 0, .int 0, .int 0, .int 0, .int 0, .int 0, .int 0, .ref (v 15), .int 0, .ref (v 16), .ref (v 17), .int 0, .int 0, .ref (v 18), .ref (v 19), .ref (v 20), .ref (v 21), .int 0, .int 0])), ((v 0), .inl (cI, 14, .inl (fun _ => 0))), ((v 15), .inl (cI, 6, .inl (fun _ => 0))), ((v 17), .inl (cI, 28, .inl (fun _ => 0)))]) (va_runV (As := [.int 0, .int (xs 2)]) (rest := []) ⟨hx, hb, hml, hown, hts⟩ (c_X7_least0 l dC dI cI cZ cK tS aK aV qx (u 18) (u 23) (u 29) (u 31) (u 32) (u 33) (u 34) (u 13) (u 0) (u 1) (u 2) (u 3) (u 4) (u 5) (u 6) (u 7) (u 8) (u 9) (u 19) (u 20) (u 21) (u 22) (xs 2) H.size) (cwV 2 hts (gw_v (fun _ h9 => h9) wm_665 wm_666 wm_667 wm_2 wm_668) rfl rfl rfl (by decide +kernel) ⟨Nat.le_of_ble_eq_true rfl, Nat.le_of_ble_eq_true rfl⟩) (mx_preV (C := RX7) (T := TX7) (N := 10) (ci := 7) hKx hP hD hS hA [0, 6, 7, 8, 1, 2, 3, 4, 5] (by decide) rfl rfl rfl) rfl rfl hl.1 rfl (lv_room (Nat.le_of_ble_eq_true rfl)) dL_law_603 ⟨Nat.le_of_ble_eq_true rfl, Nat.le_of_ble_eq_true rfl⟩) hP hD hS hA [0, 6, 7, 8, 1, 2, 3, 4, 5] [9, 10, 11, 12] rfl rfl (by decide) (by decide) (fun r5 u5 H locs hq5 hP hD hS => ?_)
    replace hP : va_P (dC, dI) vwCl [(qn, .inr (8, [.int 800, .int 0, .int 0, .int 0, .int 0, .int 0, .int 0, .ref (v 0), .ref (v 1), .int 0, .ref (v 2), .ref (v 3), .ref (v 4), .ref (v 5), .ref (v 6), .int 0, .ref (v 7), .int 0, .ref (v 8), .ref (v 9), .ref (v 10), .int 0, .int 0, .int 0, .int 0, .int 0, .int 0, .int 0, .int 0, .int 0, .ref (v 11), .ref (v 12), .ref (v 13), .ref (v 14), .int 0, .int 0, .int 0, .int 0, .int 0, .int 0, .int 0, .ref (v 15), .int 0, .ref (v 16), .ref (v 17), .int 0, .int 0, .ref (v 18), .ref (v 19), .ref (v 20), .ref (v 21), .int 0, .int 0])), ((v 0), .inl (cI, 14, .inl (fun _ => 0))), ((v 15), .inl (cI, 6, .inl (fun _ => 0))), ((v 17), .inl (cI, 28, .inl (fun _ => 0)))] H := hP
    replace hD : va_D (fun q : Nat => s.heap.size ≤ q) [(qn, .inr (8, [.int 800, .int 0, .int 0, .int 0, .int 0, .int 0, .int 0, .ref (v 0), .ref (v 1), .int 0, .ref (v 2), .ref (v 3), .ref (v 4), .ref (v 5), .ref (v 6), .int 0, .ref (v 7), .int 0, .ref (v 8), .ref (v 9), .ref (v 10), .int 0, .int 0, .int 0, .int 0, .int 0, .int 0, .int 0, .int 0, .int 0, .ref (v 11), .ref (v 12), .ref (v 13), .ref (v 14), .int 0, .int 0, .int 0, .int 0, .int 0, .int 0, .int 0, .ref (v 15), .int 0, .ref (v 16), .ref (v 17), .int 0, .int 0, .ref (v 18), .ref (v 19), .ref (v 20), .ref (v 21), .int 0, .int 0])), ((v 0), .inl (cI, 14, .inl (fun _ => 0))), ((v 15), .inl (cI, 6, .inl (fun _ => 0))), ((v 17), .inl (cI, 28, .inl (fun _ => 0)))] := hD
    rcases hq5 with ⟨rfl, hf5⟩ | ⟨rfl, hf5⟩
    · have hf5 : 0 ≤ (xs 2).toInt ∧ (xs 2).toInt ≤ 13 := hf5
      refine lv_aload_n hx hb dL_law_606 rfl (lv_at hl 1 rfl) ?_
      refine lv_aload_n hx hb dL_law_607 rfl (lv_at hl 3 rfl) ?_
      refine lv_iload_n hx hb dL_law_608 rfl (lv_at hl 0 rfl) ?_
      refine lv_iconst (v := 1) hx hb dL_law_609 (by decide) ?_
      refine lv_iadd hx hb dL_law_610 ?_
      refine lv_topi (fun x6 e6 => ?_)
      obtain rfl : x6 = 1 := e6.trans (by decide)
      refine va_sld hx hb hX hbl hbA hS (vin (by decide) (by decide)) dL_law_611 ?_
      refine lv_topi (fun y7 e7 => ?_)
      obtain rfl : y7 = 0 := e7.trans hz
      refine lv_aload_n hx hb dL_law_612 rfl (lv_at hl 3 rfl) ?_
      refine lv_iload_n hx hb dL_law_613 rfl (lv_at hl 0 rfl) ?_
      refine lv_iconst (v := 2) hx hb dL_law_614 (by decide) ?_
      refine lv_iadd hx hb dL_law_615 ?_
      refine lv_topi (fun x8 e8 => ?_)
      obtain rfl : x8 = 2 := e8.trans (by decide)
      refine va_sld hx hb hX hbl hbA hS (vin (by decide) (by decide)) dL_law_616 ?_
      refine lv_topi (fun y9 e9 => ?_)
      obtain rfl : y9 = xs 2 := e9
      refine mx_i (wr := []) (va_runV (As := [.int 0, .int (xs 2)]) (rest := [.int 0]) ⟨hx, hb, hml, hown, hts⟩ (c_X8_least0 l dC dI cI cZ cK tS aK aV qn (v 0) (v 1) (v 2) (v 3) (v 4) (v 5) (v 6) (v 7) (v 8) (v 9) (v 10) (v 11) (v 12) (v 13) (v 14) (v 15) (v 16) (v 17) (v 18) (v 19) (v 20) (v 21) (xs 2) H.size) (cwV 2 hts (gw_v (fun _ h9 => h9) wm_669 wm_670 wm_671 wm_385 wm_672) rfl rfl rfl (by decide +kernel) ⟨Nat.le_of_ble_eq_true rfl, Nat.le_of_ble_eq_true rfl⟩) (mx_preV (C := RX8) (T := TX8) (N := 53) (ci := 8) hKx hP hD hS hA [0, 2, 1, 3] (by decide) rfl rfl rfl) rfl rfl hl.1 rfl (lv_room (Nat.le_of_ble_eq_true rfl)) dL_law_617 ⟨Nat.le_of_ble_eq_true rfl, Nat.le_of_ble_eq_true rfl⟩) hP hD hS hA [0, 2, 1, 3] [] rfl rfl (by decide) (by decide) (fun r10 u10 H locs hq10 hP hD hS => ?_)
      replace hP : va_P (dC, dI) vwCl [] H := hP
      replace hD : va_D (fun q : Nat => s.heap.size ≤ q) [] := hD
      rcases hq10 with ⟨rfl, hf10⟩ | ⟨rfl, hf10⟩
      · have hf10 : 0 ≤ (xs 2).toInt ∧ (xs 2).toInt ≤ 13 := hf10
        refine lv_icmp_eq (tgt := 998) hx hb dL_law_620 (by decide) (fun c11 => ?_) (fun c11 => absurd c11 (by decide))
        refine lv_iinc (v := 5) (lv' := [(3, .int 5), (2, .ref qn), (1, .ref qx), (0, .ref b)]) hx hb dL_law_998 hl (k := 0) rfl (by decide) (by decide) rfl (fun ls hl => ?_)
        refine lv_goto (tgt := 18) hx hb dL_law_1001 (by decide) ?_
        refine lv_iload_n hx hb dL_law_18 rfl (lv_at hl 0 rfl) ?_
        refine lv_aload_n hx hb dL_law_19 rfl (lv_at hl 3 rfl) ?_
        refine va_slen hx hb hX hbl hbA hS dL_law_20 ?_
        refine lv_topi (fun x12 e12 => ?_)
        obtain rfl : x12 = 5 := e12.trans (by decide)
        refine lv_iconst (v := 5) hx hb dL_law_21 (by decide) ?_
        refine lv_isub hx hb dL_law_22 ?_
        refine lv_topi (fun x13 e13 => ?_)
        obtain rfl : x13 = 0 := e13.trans (by decide)
        refine lv_icmp_gt (tgt := 1004) hx hb dL_law_23 (by decide) (fun c14 => ?_) (fun c14 => absurd c14 (by decide))
        refine lv_iconst (v := 1) hx hb dL_law_1004 (by decide) ?_
        refine va_forget (fun q hq => hS.2.2 q hq) ?_
        refine W.widen (k := 600000) (n := 7302250) (Nat.le_of_ble_eq_true rfl) (Nat.le_of_ble_eq_true rfl) ?_
        exact lw_ret hx hb hr hlocks dL_law_1005
      · have hf10 : (xs 2).toInt < 0 ∨ 13 < (xs 2).toInt := hf10
        refine lv_icmp_eq (tgt := 998) hx hb dL_law_620 (by decide) (fun c15 => absurd c15 (by decide)) (fun c15 => ?_)
        refine lv_iconst (v := 0) hx hb dL_law_623 (by decide) ?_
        exfalso; omega
    · have hf5 : (xs 2).toInt < 0 ∨ 13 < (xs 2).toInt := hf5
      refine lv_aload_n hx hb dL_law_606 rfl (lv_at hl 1 rfl) ?_
      refine lv_aload_n hx hb dL_law_607 rfl (lv_at hl 3 rfl) ?_
      refine lv_iload_n hx hb dL_law_608 rfl (lv_at hl 0 rfl) ?_
      refine lv_iconst (v := 1) hx hb dL_law_609 (by decide) ?_
      refine lv_iadd hx hb dL_law_610 ?_
      refine lv_topi (fun x16 e16 => ?_)
      obtain rfl : x16 = 1 := e16.trans (by decide)
      refine va_sld hx hb hX hbl hbA hS (vin (by decide) (by decide)) dL_law_611 ?_
      refine lv_topi (fun y17 e17 => ?_)
      obtain rfl : y17 = 0 := e17.trans hz
      refine lv_aload_n hx hb dL_law_612 rfl (lv_at hl 3 rfl) ?_
      refine lv_iload_n hx hb dL_law_613 rfl (lv_at hl 0 rfl) ?_
      refine lv_iconst (v := 2) hx hb dL_law_614 (by decide) ?_
      refine lv_iadd hx hb dL_law_615 ?_
      refine lv_topi (fun x18 e18 => ?_)
      obtain rfl : x18 = 2 := e18.trans (by decide)
      refine va_sld hx hb hX hbl hbA hS (vin (by decide) (by decide)) dL_law_616 ?_
      refine lv_topi (fun y19 e19 => ?_)
      obtain rfl : y19 = xs 2 := e19
      refine mx_i (wr := []) (va_runV (As := [.int 0, .int (xs 2)]) (rest := [.int (-1)]) ⟨hx, hb, hml, hown, hts⟩ (c_X8_least0 l dC dI cI cZ cK tS aK aV qn (v 0) (v 1) (v 2) (v 3) (v 4) (v 5) (v 6) (v 7) (v 8) (v 9) (v 10) (v 11) (v 12) (v 13) (v 14) (v 15) (v 16) (v 17) (v 18) (v 19) (v 20) (v 21) (xs 2) H.size) (cwV 2 hts (gw_v (fun _ h9 => h9) wm_669 wm_670 wm_671 wm_385 wm_672) rfl rfl rfl (by decide +kernel) ⟨Nat.le_of_ble_eq_true rfl, Nat.le_of_ble_eq_true rfl⟩) (mx_preV (C := RX8) (T := TX8) (N := 53) (ci := 8) hKx hP hD hS hA [0, 2, 1, 3] (by decide) rfl rfl rfl) rfl rfl hl.1 rfl (lv_room (Nat.le_of_ble_eq_true rfl)) dL_law_617 ⟨Nat.le_of_ble_eq_true rfl, Nat.le_of_ble_eq_true rfl⟩) hP hD hS hA [0, 2, 1, 3] [] rfl rfl (by decide) (by decide) (fun r20 u20 H locs hq20 hP hD hS => ?_)
      replace hP : va_P (dC, dI) vwCl [] H := hP
      replace hD : va_D (fun q : Nat => s.heap.size ≤ q) [] := hD
      rcases hq20 with ⟨rfl, hf20⟩ | ⟨rfl, hf20⟩
      · have hf20 : 0 ≤ (xs 2).toInt ∧ (xs 2).toInt ≤ 13 := hf20
        refine lv_icmp_eq (tgt := 998) hx hb dL_law_620 (by decide) (fun c21 => absurd c21 (by decide)) (fun c21 => ?_)
        refine lv_iconst (v := 0) hx hb dL_law_623 (by decide) ?_
        exfalso; omega
      · have hf20 : (xs 2).toInt < 0 ∨ 13 < (xs 2).toInt := hf20
        refine lv_icmp_eq (tgt := 998) hx hb dL_law_620 (by decide) (fun c22 => ?_) (fun c22 => absurd c22 (by decide))
        refine lv_iinc (v := 5) (lv' := [(3, .int 5), (2, .ref qn), (1, .ref qx), (0, .ref b)]) hx hb dL_law_998 hl (k := 0) rfl (by decide) (by decide) rfl (fun ls hl => ?_)
        refine lv_goto (tgt := 18) hx hb dL_law_1001 (by decide) ?_
        refine lv_iload_n hx hb dL_law_18 rfl (lv_at hl 0 rfl) ?_
        refine lv_aload_n hx hb dL_law_19 rfl (lv_at hl 3 rfl) ?_
        refine va_slen hx hb hX hbl hbA hS dL_law_20 ?_
        refine lv_topi (fun x23 e23 => ?_)
        obtain rfl : x23 = 5 := e23.trans (by decide)
        refine lv_iconst (v := 5) hx hb dL_law_21 (by decide) ?_
        refine lv_isub hx hb dL_law_22 ?_
        refine lv_topi (fun x24 e24 => ?_)
        obtain rfl : x24 = 0 := e24.trans (by decide)
        refine lv_icmp_gt (tgt := 1004) hx hb dL_law_23 (by decide) (fun c25 => ?_) (fun c25 => absurd c25 (by decide))
        refine lv_iconst (v := 1) hx hb dL_law_1004 (by decide) ?_
        refine va_forget (fun q hq => hS.2.2 q hq) ?_
        refine W.widen (k := 600000) (n := 7302250) (Nat.le_of_ble_eq_true rfl) (Nat.le_of_ble_eq_true rfl) ?_
        exact lw_ret hx hb hr hlocks dL_law_1005
  · have hz0 : (xs 1).toInt ≠ 0 := tne hz
    refine lv_aload_n hx hb dL_law_592 rfl (lv_at hl 2 rfl) ?_
    refine lv_aload_n hx hb dL_law_593 rfl (lv_at hl 3 rfl) ?_
    refine lv_iload_n hx hb dL_law_594 rfl (lv_at hl 0 rfl) ?_
    refine lv_iconst (v := 1) hx hb dL_law_595 (by decide) ?_
    refine lv_iadd hx hb dL_law_596 ?_
    refine lv_topi (fun x26 e26 => ?_)
    obtain rfl : x26 = 1 := e26.trans (by decide)
    refine va_sld hx hb hX hbl hbA hS (vin (by decide) (by decide)) dL_law_597 ?_
    refine lv_topi (fun y27 e27 => ?_)
    obtain rfl : y27 = xs 1 := e27
    refine lv_aload_n hx hb dL_law_598 rfl (lv_at hl 3 rfl) ?_
    refine lv_iload_n hx hb dL_law_599 rfl (lv_at hl 0 rfl) ?_
    refine lv_iconst (v := 2) hx hb dL_law_600 (by decide) ?_
    refine lv_iadd hx hb dL_law_601 ?_
    refine lv_topi (fun x28 e28 => ?_)
    obtain rfl : x28 = 2 := e28.trans (by decide)
    refine va_sld hx hb hX hbl hbA hS (vin (by decide) (by decide)) dL_law_602 ?_
    refine lv_topi (fun y29 e29 => ?_)
    obtain rfl : y29 = xs 2 := e29
    refine mx_i (wr := [((u 1), .inl (cI, 5, .inl (upd (fun _ => 0) 0 800))), ((u 2), .inl (cI, 14, .inl (fun _ => 0))), ((u 4), .inl (cI, 6, .inl (fun _ => 0))), ((u 5), .inl (cI, 6, .inl (fun _ => 0))), ((u 22), .inl (cI, 5, .inl (fun _ => 0))), (qn, .inr (8, [.int 800, .int 0, .int 0, .int 0, .int 0, .int 0, .int 0, .ref (v 0), .ref (v 1), .int 0, .ref (v 2), .ref (v 3), .ref (v 4), .ref (v 5), .ref (v 6), .int 0, .ref (v 7), .int 0, .ref (v 8), .ref (v 9), .ref (v 10), .int 0, .int 0, .int 0, .int 0, .int 0, .int 0, .int 0, .int 0, .int 0, .ref (v 11), .ref (v 12), .ref (v 13), .ref (v 14), .int 0, .int 0, .int 0, .int 0, .int 0, .int 0, .int 0, .ref (v 15), .int 0, .ref (v 16), .ref (v 17), .int 0, .int 0, .ref (v 18), .ref (v 19), .ref (v 20), .ref (v 21), .int 0, .int 0])), ((v 0), .inl (cI, 14, .inl (fun _ => 0))), ((v 15), .inl (cI, 6, .inl (fun _ => 0))), ((v 17), .inl (cI, 28, .inl (fun _ => 0)))]) (va_runV (As := [.int (xs 1), .int (xs 2)]) (rest := []) ⟨hx, hb, hml, hown, hts⟩ (c_X7_leastN l dC dI cI cZ cK tS aK aV qx (u 18) (u 23) (u 29) (u 31) (u 32) (u 33) (u 34) (u 13) (u 0) (u 1) (u 2) (u 3) (u 4) (u 5) (u 6) (u 7) (u 8) (u 9) (u 19) (u 20) (u 21) (u 22) (xs 1) (xs 2) H.size (by first | omega | decide | assumption | trivial)) (cwV 2 hts (gw_v (fun _ h9 => h9) wm_665 wm_666 wm_667 wm_2 wm_668) rfl rfl rfl (by decide +kernel) ⟨Nat.le_of_ble_eq_true rfl, Nat.le_of_ble_eq_true rfl⟩) (mx_preV (C := RX7) (T := TX7) (N := 10) (ci := 7) hKx hP hD hS hA [0, 6, 7, 1] (by decide) rfl rfl rfl) rfl rfl hl.1 rfl (lv_room (Nat.le_of_ble_eq_true rfl)) dL_law_603 ⟨Nat.le_of_ble_eq_true rfl, Nat.le_of_ble_eq_true rfl⟩) hP hD hS hA [0, 6, 7, 1] [2, 3, 4, 5, 8, 9, 10, 11, 12] rfl rfl (by decide) (by decide) (fun r30 u30 H locs hq30 hP hD hS => ?_)
    replace hP : va_P (dC, dI) vwCl [((u 1), .inl (cI, 5, .inl (upd (fun _ => 0) 0 800))), ((u 2), .inl (cI, 14, .inl (fun _ => 0))), ((u 4), .inl (cI, 6, .inl (fun _ => 0))), ((u 5), .inl (cI, 6, .inl (fun _ => 0))), ((u 22), .inl (cI, 5, .inl (fun _ => 0))), (qn, .inr (8, [.int 800, .int 0, .int 0, .int 0, .int 0, .int 0, .int 0, .ref (v 0), .ref (v 1), .int 0, .ref (v 2), .ref (v 3), .ref (v 4), .ref (v 5), .ref (v 6), .int 0, .ref (v 7), .int 0, .ref (v 8), .ref (v 9), .ref (v 10), .int 0, .int 0, .int 0, .int 0, .int 0, .int 0, .int 0, .int 0, .int 0, .ref (v 11), .ref (v 12), .ref (v 13), .ref (v 14), .int 0, .int 0, .int 0, .int 0, .int 0, .int 0, .int 0, .ref (v 15), .int 0, .ref (v 16), .ref (v 17), .int 0, .int 0, .ref (v 18), .ref (v 19), .ref (v 20), .ref (v 21), .int 0, .int 0])), ((v 0), .inl (cI, 14, .inl (fun _ => 0))), ((v 15), .inl (cI, 6, .inl (fun _ => 0))), ((v 17), .inl (cI, 28, .inl (fun _ => 0)))] H := hP
    replace hD : va_D (fun q : Nat => s.heap.size ≤ q) [((u 1), .inl (cI, 5, .inl (upd (fun _ => 0) 0 800))), ((u 2), .inl (cI, 14, .inl (fun _ => 0))), ((u 4), .inl (cI, 6, .inl (fun _ => 0))), ((u 5), .inl (cI, 6, .inl (fun _ => 0))), ((u 22), .inl (cI, 5, .inl (fun _ => 0))), (qn, .inr (8, [.int 800, .int 0, .int 0, .int 0, .int 0, .int 0, .int 0, .ref (v 0), .ref (v 1), .int 0, .ref (v 2), .ref (v 3), .ref (v 4), .ref (v 5), .ref (v 6), .int 0, .ref (v 7), .int 0, .ref (v 8), .ref (v 9), .ref (v 10), .int 0, .int 0, .int 0, .int 0, .int 0, .int 0, .int 0, .int 0, .int 0, .ref (v 11), .ref (v 12), .ref (v 13), .ref (v 14), .int 0, .int 0, .int 0, .int 0, .int 0, .int 0, .int 0, .ref (v 15), .int 0, .ref (v 16), .ref (v 17), .int 0, .int 0, .ref (v 18), .ref (v 19), .ref (v 20), .ref (v 21), .int 0, .int 0])), ((v 0), .inl (cI, 14, .inl (fun _ => 0))), ((v 15), .inl (cI, 6, .inl (fun _ => 0))), ((v 17), .inl (cI, 28, .inl (fun _ => 0)))] := hD
    rcases hq30 with ⟨rfl, hf30⟩ | ⟨rfl, hf30⟩
    · have hf30 : 0 ≤ (xs 1).toInt ∧ (xs 1).toInt ≤ 999999 := hf30
      refine lv_aload_n hx hb dL_law_606 rfl (lv_at hl 1 rfl) ?_
      refine lv_aload_n hx hb dL_law_607 rfl (lv_at hl 3 rfl) ?_
      refine lv_iload_n hx hb dL_law_608 rfl (lv_at hl 0 rfl) ?_
      refine lv_iconst (v := 1) hx hb dL_law_609 (by decide) ?_
      refine lv_iadd hx hb dL_law_610 ?_
      refine lv_topi (fun x31 e31 => ?_)
      obtain rfl : x31 = 1 := e31.trans (by decide)
      refine va_sld hx hb hX hbl hbA hS (vin (by decide) (by decide)) dL_law_611 ?_
      refine lv_topi (fun y32 e32 => ?_)
      obtain rfl : y32 = xs 1 := e32
      refine lv_aload_n hx hb dL_law_612 rfl (lv_at hl 3 rfl) ?_
      refine lv_iload_n hx hb dL_law_613 rfl (lv_at hl 0 rfl) ?_
      refine lv_iconst (v := 2) hx hb dL_law_614 (by decide) ?_
      refine lv_iadd hx hb dL_law_615 ?_
      refine lv_topi (fun x33 e33 => ?_)
      obtain rfl : x33 = 2 := e33.trans (by decide)
      refine va_sld hx hb hX hbl hbA hS (vin (by decide) (by decide)) dL_law_616 ?_
      refine lv_topi (fun y34 e34 => ?_)
      obtain rfl : y34 = xs 2 := e34
      refine mx_i (wr := [((u 1), .inl (cI, 5, .inl (upd (fun _ => 0) 0 800))), ((u 2), .inl (cI, 14, .inl (fun _ => 0))), ((u 4), .inl (cI, 6, .inl (fun _ => 0))), ((u 5), .inl (cI, 6, .inl (fun _ => 0))), ((u 22), .inl (cI, 5, .inl (fun _ => 0))), ((v 0), .inl (cI, 14, .inl (fun _ => 0))), ((v 17), .inl (cI, 28, .inl (fun _ => 0)))]) (va_runV (As := [.int (xs 1), .int (xs 2)]) (rest := [.int (-1)]) ⟨hx, hb, hml, hown, hts⟩ (c_X8_leastN l dC dI cI cZ cK tS aK aV qn (v 0) (v 1) (v 2) (v 3) (v 4) (v 5) (v 6) (v 7) (v 8) (v 9) (v 10) (v 11) (v 12) (v 13) (v 14) (v 15) (v 16) (v 17) (v 18) (v 19) (v 20) (v 21) (xs 1) (xs 2) H.size (by first | omega | decide | assumption | trivial)) (cwV 2 hts (gw_v (fun _ h9 => h9) wm_669 wm_670 wm_671 wm_385 wm_672) rfl rfl rfl (by decide +kernel) ⟨Nat.le_of_ble_eq_true rfl, Nat.le_of_ble_eq_true rfl⟩) (mx_preV (C := RX8) (T := TX8) (N := 53) (ci := 8) hKx hP hD hS hA [5, 7] (by decide) rfl rfl rfl) rfl rfl hl.1 rfl (lv_room (Nat.le_of_ble_eq_true rfl)) dL_law_617 ⟨Nat.le_of_ble_eq_true rfl, Nat.le_of_ble_eq_true rfl⟩) hP hD hS hA [5, 7] [0, 1, 2, 3, 4, 6, 8] rfl rfl (by decide) (by decide) (fun r35 u35 H locs hq35 hP hD hS => ?_)
      replace hP : va_P (dC, dI) vwCl [((u 1), .inl (cI, 5, .inl (upd (fun _ => 0) 0 800))), ((u 2), .inl (cI, 14, .inl (fun _ => 0))), ((u 4), .inl (cI, 6, .inl (fun _ => 0))), ((u 5), .inl (cI, 6, .inl (fun _ => 0))), ((u 22), .inl (cI, 5, .inl (fun _ => 0))), ((v 0), .inl (cI, 14, .inl (fun _ => 0))), ((v 17), .inl (cI, 28, .inl (fun _ => 0)))] H := hP
      replace hD : va_D (fun q : Nat => s.heap.size ≤ q) [((u 1), .inl (cI, 5, .inl (upd (fun _ => 0) 0 800))), ((u 2), .inl (cI, 14, .inl (fun _ => 0))), ((u 4), .inl (cI, 6, .inl (fun _ => 0))), ((u 5), .inl (cI, 6, .inl (fun _ => 0))), ((u 22), .inl (cI, 5, .inl (fun _ => 0))), ((v 0), .inl (cI, 14, .inl (fun _ => 0))), ((v 17), .inl (cI, 28, .inl (fun _ => 0)))] := hD
      rcases hq35 with ⟨rfl, hf35⟩ | ⟨rfl, hf35⟩
      · have hf35 : 0 ≤ (xs 1).toInt ∧ (xs 1).toInt ≤ 999999 := hf35
        refine lv_icmp_eq (tgt := 998) hx hb dL_law_620 (by decide) (fun c36 => ?_) (fun c36 => absurd c36 (by decide))
        refine lv_iinc (v := 5) (lv' := [(3, .int 5), (2, .ref qn), (1, .ref qx), (0, .ref b)]) hx hb dL_law_998 hl (k := 0) rfl (by decide) (by decide) rfl (fun ls hl => ?_)
        refine lv_goto (tgt := 18) hx hb dL_law_1001 (by decide) ?_
        refine lv_iload_n hx hb dL_law_18 rfl (lv_at hl 0 rfl) ?_
        refine lv_aload_n hx hb dL_law_19 rfl (lv_at hl 3 rfl) ?_
        refine va_slen hx hb hX hbl hbA hS dL_law_20 ?_
        refine lv_topi (fun x37 e37 => ?_)
        obtain rfl : x37 = 5 := e37.trans (by decide)
        refine lv_iconst (v := 5) hx hb dL_law_21 (by decide) ?_
        refine lv_isub hx hb dL_law_22 ?_
        refine lv_topi (fun x38 e38 => ?_)
        obtain rfl : x38 = 0 := e38.trans (by decide)
        refine lv_icmp_gt (tgt := 1004) hx hb dL_law_23 (by decide) (fun c39 => ?_) (fun c39 => absurd c39 (by decide))
        refine lv_iconst (v := 1) hx hb dL_law_1004 (by decide) ?_
        refine va_forget (fun q hq => hS.2.2 q hq) ?_
        refine W.widen (k := 600000) (n := 7302250) (Nat.le_of_ble_eq_true rfl) (Nat.le_of_ble_eq_true rfl) ?_
        exact lw_ret hx hb hr hlocks dL_law_1005
      · have hf35 : (xs 1).toInt < 0 ∨ 999999 < (xs 1).toInt := hf35
        refine lv_icmp_eq (tgt := 998) hx hb dL_law_620 (by decide) (fun c40 => absurd c40 (by decide)) (fun c40 => ?_)
        refine lv_iconst (v := 0) hx hb dL_law_623 (by decide) ?_
        exfalso; omega
    · have hf30 : (xs 1).toInt < 0 ∨ 999999 < (xs 1).toInt := hf30
      refine lv_aload_n hx hb dL_law_606 rfl (lv_at hl 1 rfl) ?_
      refine lv_aload_n hx hb dL_law_607 rfl (lv_at hl 3 rfl) ?_
      refine lv_iload_n hx hb dL_law_608 rfl (lv_at hl 0 rfl) ?_
      refine lv_iconst (v := 1) hx hb dL_law_609 (by decide) ?_
      refine lv_iadd hx hb dL_law_610 ?_
      refine lv_topi (fun x41 e41 => ?_)
      obtain rfl : x41 = 1 := e41.trans (by decide)
      refine va_sld hx hb hX hbl hbA hS (vin (by decide) (by decide)) dL_law_611 ?_
      refine lv_topi (fun y42 e42 => ?_)
      obtain rfl : y42 = xs 1 := e42
      refine lv_aload_n hx hb dL_law_612 rfl (lv_at hl 3 rfl) ?_
      refine lv_iload_n hx hb dL_law_613 rfl (lv_at hl 0 rfl) ?_
      refine lv_iconst (v := 2) hx hb dL_law_614 (by decide) ?_
      refine lv_iadd hx hb dL_law_615 ?_
      refine lv_topi (fun x43 e43 => ?_)
      obtain rfl : x43 = 2 := e43.trans (by decide)
      refine va_sld hx hb hX hbl hbA hS (vin (by decide) (by decide)) dL_law_616 ?_
      refine lv_topi (fun y44 e44 => ?_)
      obtain rfl : y44 = xs 2 := e44
      refine mx_i (wr := [((u 1), .inl (cI, 5, .inl (upd (fun _ => 0) 0 800))), ((u 2), .inl (cI, 14, .inl (fun _ => 0))), ((u 4), .inl (cI, 6, .inl (fun _ => 0))), ((u 5), .inl (cI, 6, .inl (fun _ => 0))), ((u 22), .inl (cI, 5, .inl (fun _ => 0))), ((v 0), .inl (cI, 14, .inl (fun _ => 0))), ((v 17), .inl (cI, 28, .inl (fun _ => 0)))]) (va_runV (As := [.int (xs 1), .int (xs 2)]) (rest := [.int (-2)]) ⟨hx, hb, hml, hown, hts⟩ (c_X8_leastN l dC dI cI cZ cK tS aK aV qn (v 0) (v 1) (v 2) (v 3) (v 4) (v 5) (v 6) (v 7) (v 8) (v 9) (v 10) (v 11) (v 12) (v 13) (v 14) (v 15) (v 16) (v 17) (v 18) (v 19) (v 20) (v 21) (xs 1) (xs 2) H.size (by first | omega | decide | assumption | trivial)) (cwV 2 hts (gw_v (fun _ h9 => h9) wm_669 wm_670 wm_671 wm_385 wm_672) rfl rfl rfl (by decide +kernel) ⟨Nat.le_of_ble_eq_true rfl, Nat.le_of_ble_eq_true rfl⟩) (mx_preV (C := RX8) (T := TX8) (N := 53) (ci := 8) hKx hP hD hS hA [5, 7] (by decide) rfl rfl rfl) rfl rfl hl.1 rfl (lv_room (Nat.le_of_ble_eq_true rfl)) dL_law_617 ⟨Nat.le_of_ble_eq_true rfl, Nat.le_of_ble_eq_true rfl⟩) hP hD hS hA [5, 7] [0, 1, 2, 3, 4, 6, 8] rfl rfl (by decide) (by decide) (fun r45 u45 H locs hq45 hP hD hS => ?_)
      replace hP : va_P (dC, dI) vwCl [((u 1), .inl (cI, 5, .inl (upd (fun _ => 0) 0 800))), ((u 2), .inl (cI, 14, .inl (fun _ => 0))), ((u 4), .inl (cI, 6, .inl (fun _ => 0))), ((u 5), .inl (cI, 6, .inl (fun _ => 0))), ((u 22), .inl (cI, 5, .inl (fun _ => 0))), ((v 0), .inl (cI, 14, .inl (fun _ => 0))), ((v 17), .inl (cI, 28, .inl (fun _ => 0)))] H := hP
      replace hD : va_D (fun q : Nat => s.heap.size ≤ q) [((u 1), .inl (cI, 5, .inl (upd (fun _ => 0) 0 800))), ((u 2), .inl (cI, 14, .inl (fun _ => 0))), ((u 4), .inl (cI, 6, .inl (fun _ => 0))), ((u 5), .inl (cI, 6, .inl (fun _ => 0))), ((u 22), .inl (cI, 5, .inl (fun _ => 0))), ((v 0), .inl (cI, 14, .inl (fun _ => 0))), ((v 17), .inl (cI, 28, .inl (fun _ => 0)))] := hD
      rcases hq45 with ⟨rfl, hf45⟩ | ⟨rfl, hf45⟩
      · have hf45 : 0 ≤ (xs 1).toInt ∧ (xs 1).toInt ≤ 999999 := hf45
        refine lv_icmp_eq (tgt := 998) hx hb dL_law_620 (by decide) (fun c46 => absurd c46 (by decide)) (fun c46 => ?_)
        refine lv_iconst (v := 0) hx hb dL_law_623 (by decide) ?_
        exfalso; omega
      · have hf45 : (xs 1).toInt < 0 ∨ 999999 < (xs 1).toInt := hf45
        refine lv_icmp_eq (tgt := 998) hx hb dL_law_620 (by decide) (fun c47 => ?_) (fun c47 => absurd c47 (by decide))
        refine lv_iinc (v := 5) (lv' := [(3, .int 5), (2, .ref qn), (1, .ref qx), (0, .ref b)]) hx hb dL_law_998 hl (k := 0) rfl (by decide) (by decide) rfl (fun ls hl => ?_)
        refine lv_goto (tgt := 18) hx hb dL_law_1001 (by decide) ?_
        refine lv_iload_n hx hb dL_law_18 rfl (lv_at hl 0 rfl) ?_
        refine lv_aload_n hx hb dL_law_19 rfl (lv_at hl 3 rfl) ?_
        refine va_slen hx hb hX hbl hbA hS dL_law_20 ?_
        refine lv_topi (fun x48 e48 => ?_)
        obtain rfl : x48 = 5 := e48.trans (by decide)
        refine lv_iconst (v := 5) hx hb dL_law_21 (by decide) ?_
        refine lv_isub hx hb dL_law_22 ?_
        refine lv_topi (fun x49 e49 => ?_)
        obtain rfl : x49 = 0 := e49.trans (by decide)
        refine lv_icmp_gt (tgt := 1004) hx hb dL_law_23 (by decide) (fun c50 => ?_) (fun c50 => absurd c50 (by decide))
        refine lv_iconst (v := 1) hx hb dL_law_1004 (by decide) ?_
        refine va_forget (fun q hq => hS.2.2 q hq) ?_
        refine W.widen (k := 600000) (n := 7302250) (Nat.le_of_ble_eq_true rfl) (Nat.le_of_ble_eq_true rfl) ?_
        exact lw_ret hx hb hr hlocks dL_law_1005
set_option maxHeartbeats 4000000 in
set_option maxRecDepth 100000 in
theorem lc_ends {p : Program} {e : Env} {s : State} {m : MethodId} {below : List Frame} {meth : Method} {c : Code} (l : Launch) {b : Nat} {xs : Nat → Int32} (C0 : lw_At p s m meth c b 5 xs) (dC : Nat → ClassId) (dI : Nat → Nat → Nat) (cI cZ cK : ClassId) (tS aK aV : Nat) (hKx : kx dC dI cI cZ cK tS aK aV (fun q : Nat => s.heap.size ≤ q) s) (qx qn : Nat) (u v : Nat → Nat) (H : Heap) (locs : List Loc) (hP : va_P (dC, dI) vwCl [(qx, .inr (7, [.ref (u 0), .ref (u 9), .ref (u 13), .ref (u 18), .ref (u 23), .ref (u 29), .ref (u 31), .ref (u 32), .ref (u 33), .ref (u 34)])), ((u 0), .inr (0, [.ref (u 1), .ref (u 2), .ref (u 3), .int (-6), .int 0, .int 0, .ref (u 4), .ref (u 5), .ref (u 6), .int 0, .ref (u 7), .ref (u 8)])), ((u 1), .inl (cI, 5, .inl (upd (fun _ => 0) 0 800))), ((u 2), .inl (cI, 14, .inl (fun _ => 0))), ((u 3), .inl (cZ, 14, .inl (fun _ => 0))), ((u 4), .inl (cI, 6, .inl (fun _ => 0))), ((u 5), .inl (cI, 6, .inl (fun _ => 0))), ((u 6), .inl (cI, 6, .inl (fun _ => 0))), ((u 7), .inl (cI, 8, .inl (fun _ => 0))), ((u 8), .inl (cI, 8, .inl (fun _ => 0))), ((u 9), .inr (4, [.ref (u 10), .int 0, .ref (u 11), .ref (u 12), .int 0, .int 0])), ((u 10), .inl (cI, 60, .inl (fun _ => 0))), ((u 11), .inl (cI, 60, .inl (fun _ => 0))), ((u 12), .inl (cI, 60, .inl (fun _ => 0))), ((u 13), .inr (1, [.ref (u 0), .ref (u 9), .ref (u 14), .ref (u 15), .ref (u 16), .ref (u 17), .int 0, .int 0, .int 0, .int 0, .int 0, .int 0, .int 0, .int 0])), ((u 14), .inl (cI, 60, .inl (fun _ => 0))), ((u 15), .inl (cI, 60, .inl (fun _ => 0))), ((u 16), .inl (cI, 60, .inl (fun _ => 0))), ((u 17), .inl (cI, 61, .inl (fun _ => 0))), ((u 18), .inr (3, [.ref (u 0), .ref (u 19), .int 0, .ref (u 20), .ref (u 21), .ref (u 22)])), ((u 19), .inl (cI, 6, .inl (fun _ => 0))), ((u 20), .inl (cI, 6, .inl (fun _ => 0))), ((u 21), .inl (cI, 6, .inl (fun _ => 0))), ((u 22), .inl (cI, 5, .inl (fun _ => 0))), ((u 23), .inr (5, [.ref (u 0), .ref (u 9), .ref (u 13), .ref (u 24), .ref (u 25), .ref (u 26), .ref (u 27), .ref (u 28), .int 0, .int 0, .int 0])), ((u 24), .inl (cI, 61, .inl (fun _ => 0))), ((u 25), .inl (cI, 61, .inl (fun _ => 0))), ((u 26), .inl (cI, 60, .inl (fun _ => 0))), ((u 27), .inl (cI, 60, .inl (fun _ => 0))), ((u 28), .inl (cI, 21, .inl (fun _ => 0))), ((u 29), .inr (2, [.ref (u 0), .ref (u 9), .ref (u 13), .ref (u 30), .long 0, .long 0])), ((u 30), .inl (cI, 60, .inl (fun _ => 0))), ((u 31), .inr (6, [.ref (u 0), .int 0, .int 0, .int 0])), ((u 32), .inl (cK, 2, .inr (.inr (.inr (.inr (va_up (va_up (fun _ => none) 0 (some (u 35))) 1 (some (u 44)))))))), ((u 33), .inl (cZ, 2, .inl (fun _ => 0))), ((u 34), .inl (cI, 4, .inl (fun _ => 0))), ((u 35), .inr (0, [.ref (u 36), .ref (u 37), .ref (u 38), .int (-6), .int 0, .int 0, .ref (u 39), .ref (u 40), .ref (u 41), .int 0, .ref (u 42), .ref (u 43)])), ((u 36), .inl (cI, 5, .inl (upd (fun _ => 0) 0 800))), ((u 37), .inl (cI, 14, .inl (fun _ => 0))), ((u 38), .inl (cZ, 14, .inl (fun _ => 0))), ((u 39), .inl (cI, 6, .inl (fun _ => 0))), ((u 40), .inl (cI, 6, .inl (fun _ => 0))), ((u 41), .inl (cI, 6, .inl (fun _ => 0))), ((u 42), .inl (cI, 8, .inl (fun _ => 0))), ((u 43), .inl (cI, 8, .inl (fun _ => 0))), ((u 44), .inr (0, [.ref (u 45), .ref (u 46), .ref (u 47), .int (-6), .int 0, .int 0, .ref (u 48), .ref (u 49), .ref (u 50), .int 0, .ref (u 51), .ref (u 52)])), ((u 45), .inl (cI, 5, .inl (upd (fun _ => 0) 0 800))), ((u 46), .inl (cI, 14, .inl (fun _ => 0))), ((u 47), .inl (cZ, 14, .inl (fun _ => 0))), ((u 48), .inl (cI, 6, .inl (fun _ => 0))), ((u 49), .inl (cI, 6, .inl (fun _ => 0))), ((u 50), .inl (cI, 6, .inl (fun _ => 0))), ((u 51), .inl (cI, 8, .inl (fun _ => 0))), ((u 52), .inl (cI, 8, .inl (fun _ => 0))), (qn, .inr (8, [.int 800, .int 0, .int 0, .int 0, .int 0, .int 0, .int 0, .ref (v 0), .ref (v 1), .int 0, .ref (v 2), .ref (v 3), .ref (v 4), .ref (v 5), .ref (v 6), .int 0, .ref (v 7), .int 0, .ref (v 8), .ref (v 9), .ref (v 10), .int 0, .int 0, .int 0, .int 0, .int 0, .int 0, .int 0, .int 0, .int 0, .ref (v 11), .ref (v 12), .ref (v 13), .ref (v 14), .int 0, .int 0, .int 0, .int 0, .int 0, .int 0, .int 0, .ref (v 15), .int 0, .ref (v 16), .ref (v 17), .int 0, .int 0, .ref (v 18), .ref (v 19), .ref (v 20), .ref (v 21), .int 0, .int 0])), ((v 0), .inl (cI, 14, .inl (fun _ => 0))), ((v 1), .inl (cI, 14, .inl (fun _ => 0))), ((v 2), .inl (cI, 6, .inl (fun _ => 0))), ((v 3), .inl (cI, 6, .inl (fun _ => 0))), ((v 4), .inl (cI, 6, .inl (fun _ => 0))), ((v 5), .inl (cI, 8, .inl (fun _ => 0))), ((v 6), .inl (cI, 8, .inl (fun _ => 0))), ((v 7), .inl (cI, 60, .inl (fun _ => 0))), ((v 8), .inl (cI, 60, .inl (fun _ => 0))), ((v 9), .inl (cI, 60, .inl (fun _ => 0))), ((v 10), .inl (cI, 60, .inl (fun _ => 0))), ((v 11), .inl (cI, 60, .inl (fun _ => 0))), ((v 12), .inl (cI, 60, .inl (fun _ => 0))), ((v 13), .inl (cI, 14, .inl (fun _ => 0))), ((v 14), .inl (cI, 61, .inl (fun _ => 0))), ((v 15), .inl (cI, 6, .inl (fun _ => 0))), ((v 16), .inl (cI, 6, .inl (fun _ => 0))), ((v 17), .inl (cI, 28, .inl (fun _ => 0))), ((v 18), .inl (cI, 1260, .inl (fun _ => 0))), ((v 19), .inl (cI, 4, .inl (fun _ => 0))), ((v 20), .inl (cI, 160, .inl (fun _ => 0))), ((v 21), .inl (cZ, 2, .inl (fun _ => 0)))] H) (hD : va_D (fun q : Nat => s.heap.size ≤ q) [(qx, .inr (7, [.ref (u 0), .ref (u 9), .ref (u 13), .ref (u 18), .ref (u 23), .ref (u 29), .ref (u 31), .ref (u 32), .ref (u 33), .ref (u 34)])), ((u 0), .inr (0, [.ref (u 1), .ref (u 2), .ref (u 3), .int (-6), .int 0, .int 0, .ref (u 4), .ref (u 5), .ref (u 6), .int 0, .ref (u 7), .ref (u 8)])), ((u 1), .inl (cI, 5, .inl (upd (fun _ => 0) 0 800))), ((u 2), .inl (cI, 14, .inl (fun _ => 0))), ((u 3), .inl (cZ, 14, .inl (fun _ => 0))), ((u 4), .inl (cI, 6, .inl (fun _ => 0))), ((u 5), .inl (cI, 6, .inl (fun _ => 0))), ((u 6), .inl (cI, 6, .inl (fun _ => 0))), ((u 7), .inl (cI, 8, .inl (fun _ => 0))), ((u 8), .inl (cI, 8, .inl (fun _ => 0))), ((u 9), .inr (4, [.ref (u 10), .int 0, .ref (u 11), .ref (u 12), .int 0, .int 0])), ((u 10), .inl (cI, 60, .inl (fun _ => 0))), ((u 11), .inl (cI, 60, .inl (fun _ => 0))), ((u 12), .inl (cI, 60, .inl (fun _ => 0))), ((u 13), .inr (1, [.ref (u 0), .ref (u 9), .ref (u 14), .ref (u 15), .ref (u 16), .ref (u 17), .int 0, .int 0, .int 0, .int 0, .int 0, .int 0, .int 0, .int 0])), ((u 14), .inl (cI, 60, .inl (fun _ => 0))), ((u 15), .inl (cI, 60, .inl (fun _ => 0))), ((u 16), .inl (cI, 60, .inl (fun _ => 0))), ((u 17), .inl (cI, 61, .inl (fun _ => 0))), ((u 18), .inr (3, [.ref (u 0), .ref (u 19), .int 0, .ref (u 20), .ref (u 21), .ref (u 22)])), ((u 19), .inl (cI, 6, .inl (fun _ => 0))), ((u 20), .inl (cI, 6, .inl (fun _ => 0))), ((u 21), .inl (cI, 6, .inl (fun _ => 0))), ((u 22), .inl (cI, 5, .inl (fun _ => 0))), ((u 23), .inr (5, [.ref (u 0), .ref (u 9), .ref (u 13), .ref (u 24), .ref (u 25), .ref (u 26), .ref (u 27), .ref (u 28), .int 0, .int 0, .int 0])), ((u 24), .inl (cI, 61, .inl (fun _ => 0))), ((u 25), .inl (cI, 61, .inl (fun _ => 0))), ((u 26), .inl (cI, 60, .inl (fun _ => 0))), ((u 27), .inl (cI, 60, .inl (fun _ => 0))), ((u 28), .inl (cI, 21, .inl (fun _ => 0))), ((u 29), .inr (2, [.ref (u 0), .ref (u 9), .ref (u 13), .ref (u 30), .long 0, .long 0])), ((u 30), .inl (cI, 60, .inl (fun _ => 0))), ((u 31), .inr (6, [.ref (u 0), .int 0, .int 0, .int 0])), ((u 32), .inl (cK, 2, .inr (.inr (.inr (.inr (va_up (va_up (fun _ => none) 0 (some (u 35))) 1 (some (u 44)))))))), ((u 33), .inl (cZ, 2, .inl (fun _ => 0))), ((u 34), .inl (cI, 4, .inl (fun _ => 0))), ((u 35), .inr (0, [.ref (u 36), .ref (u 37), .ref (u 38), .int (-6), .int 0, .int 0, .ref (u 39), .ref (u 40), .ref (u 41), .int 0, .ref (u 42), .ref (u 43)])), ((u 36), .inl (cI, 5, .inl (upd (fun _ => 0) 0 800))), ((u 37), .inl (cI, 14, .inl (fun _ => 0))), ((u 38), .inl (cZ, 14, .inl (fun _ => 0))), ((u 39), .inl (cI, 6, .inl (fun _ => 0))), ((u 40), .inl (cI, 6, .inl (fun _ => 0))), ((u 41), .inl (cI, 6, .inl (fun _ => 0))), ((u 42), .inl (cI, 8, .inl (fun _ => 0))), ((u 43), .inl (cI, 8, .inl (fun _ => 0))), ((u 44), .inr (0, [.ref (u 45), .ref (u 46), .ref (u 47), .int (-6), .int 0, .int 0, .ref (u 48), .ref (u 49), .ref (u 50), .int 0, .ref (u 51), .ref (u 52)])), ((u 45), .inl (cI, 5, .inl (upd (fun _ => 0) 0 800))), ((u 46), .inl (cI, 14, .inl (fun _ => 0))), ((u 47), .inl (cZ, 14, .inl (fun _ => 0))), ((u 48), .inl (cI, 6, .inl (fun _ => 0))), ((u 49), .inl (cI, 6, .inl (fun _ => 0))), ((u 50), .inl (cI, 6, .inl (fun _ => 0))), ((u 51), .inl (cI, 8, .inl (fun _ => 0))), ((u 52), .inl (cI, 8, .inl (fun _ => 0))), (qn, .inr (8, [.int 800, .int 0, .int 0, .int 0, .int 0, .int 0, .int 0, .ref (v 0), .ref (v 1), .int 0, .ref (v 2), .ref (v 3), .ref (v 4), .ref (v 5), .ref (v 6), .int 0, .ref (v 7), .int 0, .ref (v 8), .ref (v 9), .ref (v 10), .int 0, .int 0, .int 0, .int 0, .int 0, .int 0, .int 0, .int 0, .int 0, .ref (v 11), .ref (v 12), .ref (v 13), .ref (v 14), .int 0, .int 0, .int 0, .int 0, .int 0, .int 0, .int 0, .ref (v 15), .int 0, .ref (v 16), .ref (v 17), .int 0, .int 0, .ref (v 18), .ref (v 19), .ref (v 20), .ref (v 21), .int 0, .int 0])), ((v 0), .inl (cI, 14, .inl (fun _ => 0))), ((v 1), .inl (cI, 14, .inl (fun _ => 0))), ((v 2), .inl (cI, 6, .inl (fun _ => 0))), ((v 3), .inl (cI, 6, .inl (fun _ => 0))), ((v 4), .inl (cI, 6, .inl (fun _ => 0))), ((v 5), .inl (cI, 8, .inl (fun _ => 0))), ((v 6), .inl (cI, 8, .inl (fun _ => 0))), ((v 7), .inl (cI, 60, .inl (fun _ => 0))), ((v 8), .inl (cI, 60, .inl (fun _ => 0))), ((v 9), .inl (cI, 60, .inl (fun _ => 0))), ((v 10), .inl (cI, 60, .inl (fun _ => 0))), ((v 11), .inl (cI, 60, .inl (fun _ => 0))), ((v 12), .inl (cI, 60, .inl (fun _ => 0))), ((v 13), .inl (cI, 14, .inl (fun _ => 0))), ((v 14), .inl (cI, 61, .inl (fun _ => 0))), ((v 15), .inl (cI, 6, .inl (fun _ => 0))), ((v 16), .inl (cI, 6, .inl (fun _ => 0))), ((v 17), .inl (cI, 28, .inl (fun _ => 0))), ((v 18), .inl (cI, 1260, .inl (fun _ => 0))), ((v 19), .inl (cI, 4, .inl (fun _ => 0))), ((v 20), .inl (cI, 160, .inl (fun _ => 0))), ((v 21), .inl (cZ, 2, .inl (fun _ => 0)))]) (hS : va_S (fun q : Nat => s.heap.size ≤ q) s.heap H locs) (ls : Array Slot) (hl : lv_has ls 4 [(3, .int 0), (2, .ref qn), (1, .ref qx), (0, .ref b)]) : W p l e room_1 s m #[Value.ref b] below meth c H locs 77 3085 (lw_Z below #[Value.ref b] s) (F0 m 625 ls []) := by
  obtain ⟨hx, hb, hr, hml, hown, hts, hX, hbl, hlocks, hgv⟩ := C0
  have hts := fun w h => hts w (wsL_law_in w h)
  have hown : s.vm.findClass RL = some m.cls := hown
  have hA : ∀ q : Nat, s.heap.size ≤ q → (fun q : Nat => s.heap.size ≤ q) q := fun _ h => h
  have hbA : ¬ (fun q : Nat => s.heap.size ≤ q) b := Nat.not_le.mpr hbl
  have hK := hKx.1
  replace hP := mx_subP (wc := [(qx, .inr (7, [.ref (u 0), .ref (u 9), .ref (u 13), .ref (u 18), .ref (u 23), .ref (u 29), .ref (u 31), .ref (u 32), .ref (u 33), .ref (u 34)])), ((u 0), .inr (0, [.ref (u 1), .ref (u 2), .ref (u 3), .int (-6), .int 0, .int 0, .ref (u 4), .ref (u 5), .ref (u 6), .int 0, .ref (u 7), .ref (u 8)])), (qn, .inr (8, [.int 800, .int 0, .int 0, .int 0, .int 0, .int 0, .int 0, .ref (v 0), .ref (v 1), .int 0, .ref (v 2), .ref (v 3), .ref (v 4), .ref (v 5), .ref (v 6), .int 0, .ref (v 7), .int 0, .ref (v 8), .ref (v 9), .ref (v 10), .int 0, .int 0, .int 0, .int 0, .int 0, .int 0, .int 0, .int 0, .int 0, .ref (v 11), .ref (v 12), .ref (v 13), .ref (v 14), .int 0, .int 0, .int 0, .int 0, .int 0, .int 0, .int 0, .ref (v 15), .int 0, .ref (v 16), .ref (v 17), .int 0, .int 0, .ref (v 18), .ref (v 19), .ref (v 20), .ref (v 21), .int 0, .int 0]))]) hP [0, 1, 54] rfl
  replace hD := hD.sub (ws' := [(qx, .inr (7, [.ref (u 0), .ref (u 9), .ref (u 13), .ref (u 18), .ref (u 23), .ref (u 29), .ref (u 31), .ref (u 32), .ref (u 33), .ref (u 34)])), ((u 0), .inr (0, [.ref (u 1), .ref (u 2), .ref (u 3), .int (-6), .int 0, .int 0, .ref (u 4), .ref (u 5), .ref (u 6), .int 0, .ref (u 7), .ref (u 8)])), (qn, .inr (8, [.int 800, .int 0, .int 0, .int 0, .int 0, .int 0, .int 0, .ref (v 0), .ref (v 1), .int 0, .ref (v 2), .ref (v 3), .ref (v 4), .ref (v 5), .ref (v 6), .int 0, .ref (v 7), .int 0, .ref (v 8), .ref (v 9), .ref (v 10), .int 0, .int 0, .int 0, .int 0, .int 0, .int 0, .int 0, .int 0, .int 0, .ref (v 11), .ref (v 12), .ref (v 13), .ref (v 14), .int 0, .int 0, .int 0, .int 0, .int 0, .int 0, .int 0, .ref (v 15), .int 0, .ref (v 16), .ref (v 17), .int 0, .int 0, .ref (v 18), .ref (v 19), .ref (v 20), .ref (v 21), .int 0, .int 0]))]) [0, 1, 54] (by decide) rfl
  refine lv_aload_n hx hb dL_law_625 rfl (lv_at hl 2 rfl) ?_
  refine lv_aload_n hx hb dL_law_626 rfl (lv_at hl 3 rfl) ?_
  refine lv_iload_n hx hb dL_law_627 rfl (lv_at hl 0 rfl) ?_
  refine lv_iconst (v := 1) hx hb dL_law_628 (by decide) ?_
  refine lv_iadd hx hb dL_law_629 ?_
  refine lv_topi (fun x1 e1 => ?_)
  obtain rfl : x1 = 1 := e1.trans (by decide)
  refine va_sld hx hb hX hbl hbA hS (vin (by decide) (by decide)) dL_law_630 ?_
  refine lv_topi (fun y2 e2 => ?_)
  obtain rfl : y2 = xs 1 := e2
  refine mx_i (wr := [(qn, .inr (8, [.int 800, .int 0, .int 0, .int 0, .int 0, .int 0, .int 0, .ref (v 0), .ref (v 1), .int 0, .ref (v 2), .ref (v 3), .ref (v 4), .ref (v 5), .ref (v 6), .int 0, .ref (v 7), .int 0, .ref (v 8), .ref (v 9), .ref (v 10), .int 0, .int 0, .int 0, .int 0, .int 0, .int 0, .int 0, .int 0, .int 0, .ref (v 11), .ref (v 12), .ref (v 13), .ref (v 14), .int 0, .int 0, .int 0, .int 0, .int 0, .int 0, .int 0, .ref (v 15), .int 0, .ref (v 16), .ref (v 17), .int 0, .int 0, .ref (v 18), .ref (v 19), .ref (v 20), .ref (v 21), .int 0, .int 0]))]) (va_runV (As := [.int (xs 1)]) (rest := []) ⟨hx, hb, hml, hown, hts⟩ (c_X7_ends l dC dI cI cZ cK tS aK aV qx (u 18) (u 23) (u 29) (u 31) (u 32) (u 33) (u 34) (u 13) (u 0) (u 1) (u 2) (u 3) (u 4) (u 5) (u 6) (u 7) (u 8) (u 9) (xs 1) H.size) (cwV 1 hts (gw_v (fun _ h9 => h9) wm_673 wm_674 wm_675 wm_2 wm_676) rfl rfl rfl (by decide +kernel) ⟨Nat.le_of_ble_eq_true rfl, Nat.le_of_ble_eq_true rfl⟩) (mx_preV (C := RX7) (T := TX7) (N := 10) (ci := 7) hKx hP hD hS hA [0, 1] (by decide) rfl rfl rfl) rfl rfl hl.1 rfl (lv_room (Nat.le_of_ble_eq_true rfl)) dL_law_631 ⟨Nat.le_of_ble_eq_true rfl, Nat.le_of_ble_eq_true rfl⟩) hP hD hS hA [0, 1] [2] rfl rfl (by decide) (by decide) (fun r3 u3 H locs hq3 hP hD hS => ?_)
  replace hP : va_P (dC, dI) vwCl [(qn, .inr (8, [.int 800, .int 0, .int 0, .int 0, .int 0, .int 0, .int 0, .ref (v 0), .ref (v 1), .int 0, .ref (v 2), .ref (v 3), .ref (v 4), .ref (v 5), .ref (v 6), .int 0, .ref (v 7), .int 0, .ref (v 8), .ref (v 9), .ref (v 10), .int 0, .int 0, .int 0, .int 0, .int 0, .int 0, .int 0, .int 0, .int 0, .ref (v 11), .ref (v 12), .ref (v 13), .ref (v 14), .int 0, .int 0, .int 0, .int 0, .int 0, .int 0, .int 0, .ref (v 15), .int 0, .ref (v 16), .ref (v 17), .int 0, .int 0, .ref (v 18), .ref (v 19), .ref (v 20), .ref (v 21), .int 0, .int 0]))] H := hP
  replace hD : va_D (fun q : Nat => s.heap.size ≤ q) [(qn, .inr (8, [.int 800, .int 0, .int 0, .int 0, .int 0, .int 0, .int 0, .ref (v 0), .ref (v 1), .int 0, .ref (v 2), .ref (v 3), .ref (v 4), .ref (v 5), .ref (v 6), .int 0, .ref (v 7), .int 0, .ref (v 8), .ref (v 9), .ref (v 10), .int 0, .int 0, .int 0, .int 0, .int 0, .int 0, .int 0, .int 0, .int 0, .ref (v 11), .ref (v 12), .ref (v 13), .ref (v 14), .int 0, .int 0, .int 0, .int 0, .int 0, .int 0, .int 0, .ref (v 15), .int 0, .ref (v 16), .ref (v 17), .int 0, .int 0, .ref (v 18), .ref (v 19), .ref (v 20), .ref (v 21), .int 0, .int 0]))] := hD
  obtain rfl : r3 = (-1) := hq3
  refine lv_aload_n hx hb dL_law_634 rfl (lv_at hl 1 rfl) ?_
  refine lv_aload_n hx hb dL_law_635 rfl (lv_at hl 3 rfl) ?_
  refine lv_iload_n hx hb dL_law_636 rfl (lv_at hl 0 rfl) ?_
  refine lv_iconst (v := 1) hx hb dL_law_637 (by decide) ?_
  refine lv_iadd hx hb dL_law_638 ?_
  refine lv_topi (fun x4 e4 => ?_)
  obtain rfl : x4 = 1 := e4.trans (by decide)
  refine va_sld hx hb hX hbl hbA hS (vin (by decide) (by decide)) dL_law_639 ?_
  refine lv_topi (fun y5 e5 => ?_)
  obtain rfl : y5 = xs 1 := e5
  refine mx_i (wr := []) (va_runV (As := [.int (xs 1)]) (rest := [.int (-1)]) ⟨hx, hb, hml, hown, hts⟩ (c_X8_ends l dC dI cI cZ cK tS aK aV qn (v 0) (v 1) (v 2) (v 3) (v 4) (v 5) (v 6) (v 7) (v 8) (v 9) (v 10) (v 11) (v 12) (v 13) (v 14) (v 15) (v 16) (v 17) (v 18) (v 19) (v 20) (v 21) (xs 1) H.size) (cwV 1 hts (gw_v (fun _ h9 => h9) wm_677 wm_678 wm_679 wm_385 wm_680) rfl rfl rfl (by decide +kernel) ⟨Nat.le_of_ble_eq_true rfl, Nat.le_of_ble_eq_true rfl⟩) (mx_preV (C := RX8) (T := TX8) (N := 53) (ci := 8) hKx hP hD hS hA [0] (by decide) rfl rfl rfl) rfl rfl hl.1 rfl (lv_room (Nat.le_of_ble_eq_true rfl)) dL_law_640 ⟨Nat.le_of_ble_eq_true rfl, Nat.le_of_ble_eq_true rfl⟩) hP hD hS hA [0] [] rfl rfl (by decide) (by decide) (fun r6 u6 H locs hq6 hP hD hS => ?_)
  replace hP : va_P (dC, dI) vwCl [] H := hP
  replace hD : va_D (fun q : Nat => s.heap.size ≤ q) [] := hD
  obtain rfl : r6 = (-1) := hq6
  refine lv_icmp_eq (tgt := 998) hx hb dL_law_643 (by decide) (fun c7 => ?_) (fun c7 => absurd c7 (by decide))
  refine lv_iinc (v := 5) (lv' := [(3, .int 5), (2, .ref qn), (1, .ref qx), (0, .ref b)]) hx hb dL_law_998 hl (k := 0) rfl (by decide) (by decide) rfl (fun ls hl => ?_)
  refine lv_goto (tgt := 18) hx hb dL_law_1001 (by decide) ?_
  refine lv_iload_n hx hb dL_law_18 rfl (lv_at hl 0 rfl) ?_
  refine lv_aload_n hx hb dL_law_19 rfl (lv_at hl 3 rfl) ?_
  refine va_slen hx hb hX hbl hbA hS dL_law_20 ?_
  refine lv_topi (fun x8 e8 => ?_)
  obtain rfl : x8 = 5 := e8.trans (by decide)
  refine lv_iconst (v := 5) hx hb dL_law_21 (by decide) ?_
  refine lv_isub hx hb dL_law_22 ?_
  refine lv_topi (fun x9 e9 => ?_)
  obtain rfl : x9 = 0 := e9.trans (by decide)
  refine lv_icmp_gt (tgt := 1004) hx hb dL_law_23 (by decide) (fun c10 => ?_) (fun c10 => absurd c10 (by decide))
  refine lv_iconst (v := 1) hx hb dL_law_1004 (by decide) ?_
  refine va_forget (fun q hq => hS.2.2 q hq) ?_
  refine W.widen (k := 600000) (n := 7302250) (Nat.le_of_ble_eq_true rfl) (Nat.le_of_ble_eq_true rfl) ?_
  exact lw_ret hx hb hr hlocks dL_law_1005
set_option maxHeartbeats 4000000 in
set_option maxRecDepth 100000 in
theorem lc_mark {p : Program} {e : Env} {s : State} {m : MethodId} {below : List Frame} {meth : Method} {c : Code} (l : Launch) {b : Nat} {xs : Nat → Int32} (C0 : lw_At p s m meth c b 5 xs) (dC : Nat → ClassId) (dI : Nat → Nat → Nat) (cI cZ cK : ClassId) (tS aK aV : Nat) (hKx : kx dC dI cI cZ cK tS aK aV (fun q : Nat => s.heap.size ≤ q) s) (qx qn : Nat) (u v : Nat → Nat) (H : Heap) (locs : List Loc) (hP : va_P (dC, dI) vwCl [(qx, .inr (7, [.ref (u 0), .ref (u 9), .ref (u 13), .ref (u 18), .ref (u 23), .ref (u 29), .ref (u 31), .ref (u 32), .ref (u 33), .ref (u 34)])), ((u 0), .inr (0, [.ref (u 1), .ref (u 2), .ref (u 3), .int (-6), .int 0, .int 0, .ref (u 4), .ref (u 5), .ref (u 6), .int 0, .ref (u 7), .ref (u 8)])), ((u 1), .inl (cI, 5, .inl (upd (fun _ => 0) 0 800))), ((u 2), .inl (cI, 14, .inl (fun _ => 0))), ((u 3), .inl (cZ, 14, .inl (fun _ => 0))), ((u 4), .inl (cI, 6, .inl (fun _ => 0))), ((u 5), .inl (cI, 6, .inl (fun _ => 0))), ((u 6), .inl (cI, 6, .inl (fun _ => 0))), ((u 7), .inl (cI, 8, .inl (fun _ => 0))), ((u 8), .inl (cI, 8, .inl (fun _ => 0))), ((u 9), .inr (4, [.ref (u 10), .int 0, .ref (u 11), .ref (u 12), .int 0, .int 0])), ((u 10), .inl (cI, 60, .inl (fun _ => 0))), ((u 11), .inl (cI, 60, .inl (fun _ => 0))), ((u 12), .inl (cI, 60, .inl (fun _ => 0))), ((u 13), .inr (1, [.ref (u 0), .ref (u 9), .ref (u 14), .ref (u 15), .ref (u 16), .ref (u 17), .int 0, .int 0, .int 0, .int 0, .int 0, .int 0, .int 0, .int 0])), ((u 14), .inl (cI, 60, .inl (fun _ => 0))), ((u 15), .inl (cI, 60, .inl (fun _ => 0))), ((u 16), .inl (cI, 60, .inl (fun _ => 0))), ((u 17), .inl (cI, 61, .inl (fun _ => 0))), ((u 18), .inr (3, [.ref (u 0), .ref (u 19), .int 0, .ref (u 20), .ref (u 21), .ref (u 22)])), ((u 19), .inl (cI, 6, .inl (fun _ => 0))), ((u 20), .inl (cI, 6, .inl (fun _ => 0))), ((u 21), .inl (cI, 6, .inl (fun _ => 0))), ((u 22), .inl (cI, 5, .inl (fun _ => 0))), ((u 23), .inr (5, [.ref (u 0), .ref (u 9), .ref (u 13), .ref (u 24), .ref (u 25), .ref (u 26), .ref (u 27), .ref (u 28), .int 0, .int 0, .int 0])), ((u 24), .inl (cI, 61, .inl (fun _ => 0))), ((u 25), .inl (cI, 61, .inl (fun _ => 0))), ((u 26), .inl (cI, 60, .inl (fun _ => 0))), ((u 27), .inl (cI, 60, .inl (fun _ => 0))), ((u 28), .inl (cI, 21, .inl (fun _ => 0))), ((u 29), .inr (2, [.ref (u 0), .ref (u 9), .ref (u 13), .ref (u 30), .long 0, .long 0])), ((u 30), .inl (cI, 60, .inl (fun _ => 0))), ((u 31), .inr (6, [.ref (u 0), .int 0, .int 0, .int 0])), ((u 32), .inl (cK, 2, .inr (.inr (.inr (.inr (va_up (va_up (fun _ => none) 0 (some (u 35))) 1 (some (u 44)))))))), ((u 33), .inl (cZ, 2, .inl (fun _ => 0))), ((u 34), .inl (cI, 4, .inl (fun _ => 0))), ((u 35), .inr (0, [.ref (u 36), .ref (u 37), .ref (u 38), .int (-6), .int 0, .int 0, .ref (u 39), .ref (u 40), .ref (u 41), .int 0, .ref (u 42), .ref (u 43)])), ((u 36), .inl (cI, 5, .inl (upd (fun _ => 0) 0 800))), ((u 37), .inl (cI, 14, .inl (fun _ => 0))), ((u 38), .inl (cZ, 14, .inl (fun _ => 0))), ((u 39), .inl (cI, 6, .inl (fun _ => 0))), ((u 40), .inl (cI, 6, .inl (fun _ => 0))), ((u 41), .inl (cI, 6, .inl (fun _ => 0))), ((u 42), .inl (cI, 8, .inl (fun _ => 0))), ((u 43), .inl (cI, 8, .inl (fun _ => 0))), ((u 44), .inr (0, [.ref (u 45), .ref (u 46), .ref (u 47), .int (-6), .int 0, .int 0, .ref (u 48), .ref (u 49), .ref (u 50), .int 0, .ref (u 51), .ref (u 52)])), ((u 45), .inl (cI, 5, .inl (upd (fun _ => 0) 0 800))), ((u 46), .inl (cI, 14, .inl (fun _ => 0))), ((u 47), .inl (cZ, 14, .inl (fun _ => 0))), ((u 48), .inl (cI, 6, .inl (fun _ => 0))), ((u 49), .inl (cI, 6, .inl (fun _ => 0))), ((u 50), .inl (cI, 6, .inl (fun _ => 0))), ((u 51), .inl (cI, 8, .inl (fun _ => 0))), ((u 52), .inl (cI, 8, .inl (fun _ => 0))), (qn, .inr (8, [.int 800, .int 0, .int 0, .int 0, .int 0, .int 0, .int 0, .ref (v 0), .ref (v 1), .int 0, .ref (v 2), .ref (v 3), .ref (v 4), .ref (v 5), .ref (v 6), .int 0, .ref (v 7), .int 0, .ref (v 8), .ref (v 9), .ref (v 10), .int 0, .int 0, .int 0, .int 0, .int 0, .int 0, .int 0, .int 0, .int 0, .ref (v 11), .ref (v 12), .ref (v 13), .ref (v 14), .int 0, .int 0, .int 0, .int 0, .int 0, .int 0, .int 0, .ref (v 15), .int 0, .ref (v 16), .ref (v 17), .int 0, .int 0, .ref (v 18), .ref (v 19), .ref (v 20), .ref (v 21), .int 0, .int 0])), ((v 0), .inl (cI, 14, .inl (fun _ => 0))), ((v 1), .inl (cI, 14, .inl (fun _ => 0))), ((v 2), .inl (cI, 6, .inl (fun _ => 0))), ((v 3), .inl (cI, 6, .inl (fun _ => 0))), ((v 4), .inl (cI, 6, .inl (fun _ => 0))), ((v 5), .inl (cI, 8, .inl (fun _ => 0))), ((v 6), .inl (cI, 8, .inl (fun _ => 0))), ((v 7), .inl (cI, 60, .inl (fun _ => 0))), ((v 8), .inl (cI, 60, .inl (fun _ => 0))), ((v 9), .inl (cI, 60, .inl (fun _ => 0))), ((v 10), .inl (cI, 60, .inl (fun _ => 0))), ((v 11), .inl (cI, 60, .inl (fun _ => 0))), ((v 12), .inl (cI, 60, .inl (fun _ => 0))), ((v 13), .inl (cI, 14, .inl (fun _ => 0))), ((v 14), .inl (cI, 61, .inl (fun _ => 0))), ((v 15), .inl (cI, 6, .inl (fun _ => 0))), ((v 16), .inl (cI, 6, .inl (fun _ => 0))), ((v 17), .inl (cI, 28, .inl (fun _ => 0))), ((v 18), .inl (cI, 1260, .inl (fun _ => 0))), ((v 19), .inl (cI, 4, .inl (fun _ => 0))), ((v 20), .inl (cI, 160, .inl (fun _ => 0))), ((v 21), .inl (cZ, 2, .inl (fun _ => 0)))] H) (hD : va_D (fun q : Nat => s.heap.size ≤ q) [(qx, .inr (7, [.ref (u 0), .ref (u 9), .ref (u 13), .ref (u 18), .ref (u 23), .ref (u 29), .ref (u 31), .ref (u 32), .ref (u 33), .ref (u 34)])), ((u 0), .inr (0, [.ref (u 1), .ref (u 2), .ref (u 3), .int (-6), .int 0, .int 0, .ref (u 4), .ref (u 5), .ref (u 6), .int 0, .ref (u 7), .ref (u 8)])), ((u 1), .inl (cI, 5, .inl (upd (fun _ => 0) 0 800))), ((u 2), .inl (cI, 14, .inl (fun _ => 0))), ((u 3), .inl (cZ, 14, .inl (fun _ => 0))), ((u 4), .inl (cI, 6, .inl (fun _ => 0))), ((u 5), .inl (cI, 6, .inl (fun _ => 0))), ((u 6), .inl (cI, 6, .inl (fun _ => 0))), ((u 7), .inl (cI, 8, .inl (fun _ => 0))), ((u 8), .inl (cI, 8, .inl (fun _ => 0))), ((u 9), .inr (4, [.ref (u 10), .int 0, .ref (u 11), .ref (u 12), .int 0, .int 0])), ((u 10), .inl (cI, 60, .inl (fun _ => 0))), ((u 11), .inl (cI, 60, .inl (fun _ => 0))), ((u 12), .inl (cI, 60, .inl (fun _ => 0))), ((u 13), .inr (1, [.ref (u 0), .ref (u 9), .ref (u 14), .ref (u 15), .ref (u 16), .ref (u 17), .int 0, .int 0, .int 0, .int 0, .int 0, .int 0, .int 0, .int 0])), ((u 14), .inl (cI, 60, .inl (fun _ => 0))), ((u 15), .inl (cI, 60, .inl (fun _ => 0))), ((u 16), .inl (cI, 60, .inl (fun _ => 0))), ((u 17), .inl (cI, 61, .inl (fun _ => 0))), ((u 18), .inr (3, [.ref (u 0), .ref (u 19), .int 0, .ref (u 20), .ref (u 21), .ref (u 22)])), ((u 19), .inl (cI, 6, .inl (fun _ => 0))), ((u 20), .inl (cI, 6, .inl (fun _ => 0))), ((u 21), .inl (cI, 6, .inl (fun _ => 0))), ((u 22), .inl (cI, 5, .inl (fun _ => 0))), ((u 23), .inr (5, [.ref (u 0), .ref (u 9), .ref (u 13), .ref (u 24), .ref (u 25), .ref (u 26), .ref (u 27), .ref (u 28), .int 0, .int 0, .int 0])), ((u 24), .inl (cI, 61, .inl (fun _ => 0))), ((u 25), .inl (cI, 61, .inl (fun _ => 0))), ((u 26), .inl (cI, 60, .inl (fun _ => 0))), ((u 27), .inl (cI, 60, .inl (fun _ => 0))), ((u 28), .inl (cI, 21, .inl (fun _ => 0))), ((u 29), .inr (2, [.ref (u 0), .ref (u 9), .ref (u 13), .ref (u 30), .long 0, .long 0])), ((u 30), .inl (cI, 60, .inl (fun _ => 0))), ((u 31), .inr (6, [.ref (u 0), .int 0, .int 0, .int 0])), ((u 32), .inl (cK, 2, .inr (.inr (.inr (.inr (va_up (va_up (fun _ => none) 0 (some (u 35))) 1 (some (u 44)))))))), ((u 33), .inl (cZ, 2, .inl (fun _ => 0))), ((u 34), .inl (cI, 4, .inl (fun _ => 0))), ((u 35), .inr (0, [.ref (u 36), .ref (u 37), .ref (u 38), .int (-6), .int 0, .int 0, .ref (u 39), .ref (u 40), .ref (u 41), .int 0, .ref (u 42), .ref (u 43)])), ((u 36), .inl (cI, 5, .inl (upd (fun _ => 0) 0 800))), ((u 37), .inl (cI, 14, .inl (fun _ => 0))), ((u 38), .inl (cZ, 14, .inl (fun _ => 0))), ((u 39), .inl (cI, 6, .inl (fun _ => 0))), ((u 40), .inl (cI, 6, .inl (fun _ => 0))), ((u 41), .inl (cI, 6, .inl (fun _ => 0))), ((u 42), .inl (cI, 8, .inl (fun _ => 0))), ((u 43), .inl (cI, 8, .inl (fun _ => 0))), ((u 44), .inr (0, [.ref (u 45), .ref (u 46), .ref (u 47), .int (-6), .int 0, .int 0, .ref (u 48), .ref (u 49), .ref (u 50), .int 0, .ref (u 51), .ref (u 52)])), ((u 45), .inl (cI, 5, .inl (upd (fun _ => 0) 0 800))), ((u 46), .inl (cI, 14, .inl (fun _ => 0))), ((u 47), .inl (cZ, 14, .inl (fun _ => 0))), ((u 48), .inl (cI, 6, .inl (fun _ => 0))), ((u 49), .inl (cI, 6, .inl (fun _ => 0))), ((u 50), .inl (cI, 6, .inl (fun _ => 0))), ((u 51), .inl (cI, 8, .inl (fun _ => 0))), ((u 52), .inl (cI, 8, .inl (fun _ => 0))), (qn, .inr (8, [.int 800, .int 0, .int 0, .int 0, .int 0, .int 0, .int 0, .ref (v 0), .ref (v 1), .int 0, .ref (v 2), .ref (v 3), .ref (v 4), .ref (v 5), .ref (v 6), .int 0, .ref (v 7), .int 0, .ref (v 8), .ref (v 9), .ref (v 10), .int 0, .int 0, .int 0, .int 0, .int 0, .int 0, .int 0, .int 0, .int 0, .ref (v 11), .ref (v 12), .ref (v 13), .ref (v 14), .int 0, .int 0, .int 0, .int 0, .int 0, .int 0, .int 0, .ref (v 15), .int 0, .ref (v 16), .ref (v 17), .int 0, .int 0, .ref (v 18), .ref (v 19), .ref (v 20), .ref (v 21), .int 0, .int 0])), ((v 0), .inl (cI, 14, .inl (fun _ => 0))), ((v 1), .inl (cI, 14, .inl (fun _ => 0))), ((v 2), .inl (cI, 6, .inl (fun _ => 0))), ((v 3), .inl (cI, 6, .inl (fun _ => 0))), ((v 4), .inl (cI, 6, .inl (fun _ => 0))), ((v 5), .inl (cI, 8, .inl (fun _ => 0))), ((v 6), .inl (cI, 8, .inl (fun _ => 0))), ((v 7), .inl (cI, 60, .inl (fun _ => 0))), ((v 8), .inl (cI, 60, .inl (fun _ => 0))), ((v 9), .inl (cI, 60, .inl (fun _ => 0))), ((v 10), .inl (cI, 60, .inl (fun _ => 0))), ((v 11), .inl (cI, 60, .inl (fun _ => 0))), ((v 12), .inl (cI, 60, .inl (fun _ => 0))), ((v 13), .inl (cI, 14, .inl (fun _ => 0))), ((v 14), .inl (cI, 61, .inl (fun _ => 0))), ((v 15), .inl (cI, 6, .inl (fun _ => 0))), ((v 16), .inl (cI, 6, .inl (fun _ => 0))), ((v 17), .inl (cI, 28, .inl (fun _ => 0))), ((v 18), .inl (cI, 1260, .inl (fun _ => 0))), ((v 19), .inl (cI, 4, .inl (fun _ => 0))), ((v 20), .inl (cI, 160, .inl (fun _ => 0))), ((v 21), .inl (cZ, 2, .inl (fun _ => 0)))]) (hS : va_S (fun q : Nat => s.heap.size ≤ q) s.heap H locs) (ls : Array Slot) (hl : lv_has ls 4 [(3, .int 0), (2, .ref qn), (1, .ref qx), (0, .ref b)]) : W p l e room_1 s m #[Value.ref b] below meth c H locs 77 3085 (lw_Z below #[Value.ref b] s) (F0 m 648 ls []) := by
  obtain ⟨hx, hb, hr, hml, hown, hts, hX, hbl, hlocks, hgv⟩ := C0
  have hts := fun w h => hts w (wsL_law_in w h)
  have hown : s.vm.findClass RL = some m.cls := hown
  have hA : ∀ q : Nat, s.heap.size ≤ q → (fun q : Nat => s.heap.size ≤ q) q := fun _ h => h
  have hbA : ¬ (fun q : Nat => s.heap.size ≤ q) b := Nat.not_le.mpr hbl
  have hK := hKx.1
  replace hP := mx_subP (wc := [(qx, .inr (7, [.ref (u 0), .ref (u 9), .ref (u 13), .ref (u 18), .ref (u 23), .ref (u 29), .ref (u 31), .ref (u 32), .ref (u 33), .ref (u 34)])), ((u 0), .inr (0, [.ref (u 1), .ref (u 2), .ref (u 3), .int (-6), .int 0, .int 0, .ref (u 4), .ref (u 5), .ref (u 6), .int 0, .ref (u 7), .ref (u 8)])), ((u 1), .inl (cI, 5, .inl (upd (fun _ => 0) 0 800))), (qn, .inr (8, [.int 800, .int 0, .int 0, .int 0, .int 0, .int 0, .int 0, .ref (v 0), .ref (v 1), .int 0, .ref (v 2), .ref (v 3), .ref (v 4), .ref (v 5), .ref (v 6), .int 0, .ref (v 7), .int 0, .ref (v 8), .ref (v 9), .ref (v 10), .int 0, .int 0, .int 0, .int 0, .int 0, .int 0, .int 0, .int 0, .int 0, .ref (v 11), .ref (v 12), .ref (v 13), .ref (v 14), .int 0, .int 0, .int 0, .int 0, .int 0, .int 0, .int 0, .ref (v 15), .int 0, .ref (v 16), .ref (v 17), .int 0, .int 0, .ref (v 18), .ref (v 19), .ref (v 20), .ref (v 21), .int 0, .int 0]))]) hP [0, 1, 2, 54] rfl
  replace hD := hD.sub (ws' := [(qx, .inr (7, [.ref (u 0), .ref (u 9), .ref (u 13), .ref (u 18), .ref (u 23), .ref (u 29), .ref (u 31), .ref (u 32), .ref (u 33), .ref (u 34)])), ((u 0), .inr (0, [.ref (u 1), .ref (u 2), .ref (u 3), .int (-6), .int 0, .int 0, .ref (u 4), .ref (u 5), .ref (u 6), .int 0, .ref (u 7), .ref (u 8)])), ((u 1), .inl (cI, 5, .inl (upd (fun _ => 0) 0 800))), (qn, .inr (8, [.int 800, .int 0, .int 0, .int 0, .int 0, .int 0, .int 0, .ref (v 0), .ref (v 1), .int 0, .ref (v 2), .ref (v 3), .ref (v 4), .ref (v 5), .ref (v 6), .int 0, .ref (v 7), .int 0, .ref (v 8), .ref (v 9), .ref (v 10), .int 0, .int 0, .int 0, .int 0, .int 0, .int 0, .int 0, .int 0, .int 0, .ref (v 11), .ref (v 12), .ref (v 13), .ref (v 14), .int 0, .int 0, .int 0, .int 0, .int 0, .int 0, .int 0, .ref (v 15), .int 0, .ref (v 16), .ref (v 17), .int 0, .int 0, .ref (v 18), .ref (v 19), .ref (v 20), .ref (v 21), .int 0, .int 0]))]) [0, 1, 2, 54] (by decide) rfl
  refine lv_aload_n hx hb dL_law_648 rfl (lv_at hl 2 rfl) ?_
  refine mx_i (wr := [(qn, .inr (8, [.int 800, .int 0, .int 0, .int 0, .int 0, .int 0, .int 0, .ref (v 0), .ref (v 1), .int 0, .ref (v 2), .ref (v 3), .ref (v 4), .ref (v 5), .ref (v 6), .int 0, .ref (v 7), .int 0, .ref (v 8), .ref (v 9), .ref (v 10), .int 0, .int 0, .int 0, .int 0, .int 0, .int 0, .int 0, .int 0, .int 0, .ref (v 11), .ref (v 12), .ref (v 13), .ref (v 14), .int 0, .int 0, .int 0, .int 0, .int 0, .int 0, .int 0, .ref (v 15), .int 0, .ref (v 16), .ref (v 17), .int 0, .int 0, .ref (v 18), .ref (v 19), .ref (v 20), .ref (v 21), .int 0, .int 0]))]) (va_runV (As := []) (rest := []) ⟨hx, hb, hml, hown, hts⟩ (c_X7_mark l dC dI cI cZ cK tS aK aV qx (u 18) (u 23) (u 29) (u 31) (u 32) (u 33) (u 34) (u 13) (u 0) (u 1) (u 2) (u 3) (u 4) (u 5) (u 6) (u 7) (u 8) (u 9) H.size) (cwV 0 hts (gw_v (fun _ h9 => h9) wm_681 wm_682 wm_683 wm_2 wm_684) rfl rfl rfl (by decide +kernel) ⟨Nat.le_of_ble_eq_true rfl, Nat.le_of_ble_eq_true rfl⟩) (mx_preV (C := RX7) (T := TX7) (N := 10) (ci := 7) hKx hP hD hS hA [0, 1, 2] (by decide) rfl rfl rfl) rfl rfl hl.1 rfl (lv_room (Nat.le_of_ble_eq_true rfl)) dL_law_649 ⟨Nat.le_of_ble_eq_true rfl, Nat.le_of_ble_eq_true rfl⟩) hP hD hS hA [0, 1, 2] [3] rfl rfl (by decide) (by decide) (fun r1 u1 H locs hq1 hP hD hS => ?_)
  replace hP : va_P (dC, dI) vwCl [(qn, .inr (8, [.int 800, .int 0, .int 0, .int 0, .int 0, .int 0, .int 0, .ref (v 0), .ref (v 1), .int 0, .ref (v 2), .ref (v 3), .ref (v 4), .ref (v 5), .ref (v 6), .int 0, .ref (v 7), .int 0, .ref (v 8), .ref (v 9), .ref (v 10), .int 0, .int 0, .int 0, .int 0, .int 0, .int 0, .int 0, .int 0, .int 0, .ref (v 11), .ref (v 12), .ref (v 13), .ref (v 14), .int 0, .int 0, .int 0, .int 0, .int 0, .int 0, .int 0, .ref (v 15), .int 0, .ref (v 16), .ref (v 17), .int 0, .int 0, .ref (v 18), .ref (v 19), .ref (v 20), .ref (v 21), .int 0, .int 0]))] H := hP
  replace hD : va_D (fun q : Nat => s.heap.size ≤ q) [(qn, .inr (8, [.int 800, .int 0, .int 0, .int 0, .int 0, .int 0, .int 0, .ref (v 0), .ref (v 1), .int 0, .ref (v 2), .ref (v 3), .ref (v 4), .ref (v 5), .ref (v 6), .int 0, .ref (v 7), .int 0, .ref (v 8), .ref (v 9), .ref (v 10), .int 0, .int 0, .int 0, .int 0, .int 0, .int 0, .int 0, .int 0, .int 0, .ref (v 11), .ref (v 12), .ref (v 13), .ref (v 14), .int 0, .int 0, .int 0, .int 0, .int 0, .int 0, .int 0, .ref (v 15), .int 0, .ref (v 16), .ref (v 17), .int 0, .int 0, .ref (v 18), .ref (v 19), .ref (v 20), .ref (v 21), .int 0, .int 0]))] := hD
  obtain rfl : r1 = 4 := hq1
  refine lv_aload_n hx hb dL_law_652 rfl (lv_at hl 1 rfl) ?_
  refine mx_i (wr := []) (va_runV (As := []) (rest := [.int 4]) ⟨hx, hb, hml, hown, hts⟩ (c_X8_mark l dC dI cI cZ cK tS aK aV qn (v 0) (v 1) (v 2) (v 3) (v 4) (v 5) (v 6) (v 7) (v 8) (v 9) (v 10) (v 11) (v 12) (v 13) (v 14) (v 15) (v 16) (v 17) (v 18) (v 19) (v 20) (v 21) H.size) (cwV 0 hts (gw_v (fun _ h9 => h9) wm_685 wm_686 wm_687 wm_385 wm_688) rfl rfl rfl (by decide +kernel) ⟨Nat.le_of_ble_eq_true rfl, Nat.le_of_ble_eq_true rfl⟩) (mx_preV (C := RX8) (T := TX8) (N := 53) (ci := 8) hKx hP hD hS hA [0] (by decide) rfl rfl rfl) rfl rfl hl.1 rfl (lv_room (Nat.le_of_ble_eq_true rfl)) dL_law_653 ⟨Nat.le_of_ble_eq_true rfl, Nat.le_of_ble_eq_true rfl⟩) hP hD hS hA [0] [] rfl rfl (by decide) (by decide) (fun r2 u2 H locs hq2 hP hD hS => ?_)
  replace hP : va_P (dC, dI) vwCl [] H := hP
  replace hD : va_D (fun q : Nat => s.heap.size ≤ q) [] := hD
  obtain rfl : r2 = 4 := hq2
  refine lv_icmp_eq (tgt := 998) hx hb dL_law_656 (by decide) (fun c3 => ?_) (fun c3 => absurd c3 (by decide))
  refine lv_iinc (v := 5) (lv' := [(3, .int 5), (2, .ref qn), (1, .ref qx), (0, .ref b)]) hx hb dL_law_998 hl (k := 0) rfl (by decide) (by decide) rfl (fun ls hl => ?_)
  refine lv_goto (tgt := 18) hx hb dL_law_1001 (by decide) ?_
  refine lv_iload_n hx hb dL_law_18 rfl (lv_at hl 0 rfl) ?_
  refine lv_aload_n hx hb dL_law_19 rfl (lv_at hl 3 rfl) ?_
  refine va_slen hx hb hX hbl hbA hS dL_law_20 ?_
  refine lv_topi (fun x4 e4 => ?_)
  obtain rfl : x4 = 5 := e4.trans (by decide)
  refine lv_iconst (v := 5) hx hb dL_law_21 (by decide) ?_
  refine lv_isub hx hb dL_law_22 ?_
  refine lv_topi (fun x5 e5 => ?_)
  obtain rfl : x5 = 0 := e5.trans (by decide)
  refine lv_icmp_gt (tgt := 1004) hx hb dL_law_23 (by decide) (fun c6 => ?_) (fun c6 => absurd c6 (by decide))
  refine lv_iconst (v := 1) hx hb dL_law_1004 (by decide) ?_
  refine va_forget (fun q hq => hS.2.2 q hq) ?_
  refine W.widen (k := 600000) (n := 7302250) (Nat.le_of_ble_eq_true rfl) (Nat.le_of_ble_eq_true rfl) ?_
  exact lw_ret hx hb hr hlocks dL_law_1005
set_option maxHeartbeats 4000000 in
set_option maxRecDepth 100000 in
theorem lc_keep {p : Program} {e : Env} {s : State} {m : MethodId} {below : List Frame} {meth : Method} {c : Code} (l : Launch) {b : Nat} {xs : Nat → Int32} (C0 : lw_At p s m meth c b 5 xs) (dC : Nat → ClassId) (dI : Nat → Nat → Nat) (cI cZ cK : ClassId) (tS aK aV : Nat) (hKx : kx dC dI cI cZ cK tS aK aV (fun q : Nat => s.heap.size ≤ q) s) (qx qn : Nat) (u v : Nat → Nat) (H : Heap) (locs : List Loc) (hP : va_P (dC, dI) vwCl [(qx, .inr (7, [.ref (u 0), .ref (u 9), .ref (u 13), .ref (u 18), .ref (u 23), .ref (u 29), .ref (u 31), .ref (u 32), .ref (u 33), .ref (u 34)])), ((u 0), .inr (0, [.ref (u 1), .ref (u 2), .ref (u 3), .int (-6), .int 0, .int 0, .ref (u 4), .ref (u 5), .ref (u 6), .int 0, .ref (u 7), .ref (u 8)])), ((u 1), .inl (cI, 5, .inl (upd (fun _ => 0) 0 800))), ((u 2), .inl (cI, 14, .inl (fun _ => 0))), ((u 3), .inl (cZ, 14, .inl (fun _ => 0))), ((u 4), .inl (cI, 6, .inl (fun _ => 0))), ((u 5), .inl (cI, 6, .inl (fun _ => 0))), ((u 6), .inl (cI, 6, .inl (fun _ => 0))), ((u 7), .inl (cI, 8, .inl (fun _ => 0))), ((u 8), .inl (cI, 8, .inl (fun _ => 0))), ((u 9), .inr (4, [.ref (u 10), .int 0, .ref (u 11), .ref (u 12), .int 0, .int 0])), ((u 10), .inl (cI, 60, .inl (fun _ => 0))), ((u 11), .inl (cI, 60, .inl (fun _ => 0))), ((u 12), .inl (cI, 60, .inl (fun _ => 0))), ((u 13), .inr (1, [.ref (u 0), .ref (u 9), .ref (u 14), .ref (u 15), .ref (u 16), .ref (u 17), .int 0, .int 0, .int 0, .int 0, .int 0, .int 0, .int 0, .int 0])), ((u 14), .inl (cI, 60, .inl (fun _ => 0))), ((u 15), .inl (cI, 60, .inl (fun _ => 0))), ((u 16), .inl (cI, 60, .inl (fun _ => 0))), ((u 17), .inl (cI, 61, .inl (fun _ => 0))), ((u 18), .inr (3, [.ref (u 0), .ref (u 19), .int 0, .ref (u 20), .ref (u 21), .ref (u 22)])), ((u 19), .inl (cI, 6, .inl (fun _ => 0))), ((u 20), .inl (cI, 6, .inl (fun _ => 0))), ((u 21), .inl (cI, 6, .inl (fun _ => 0))), ((u 22), .inl (cI, 5, .inl (fun _ => 0))), ((u 23), .inr (5, [.ref (u 0), .ref (u 9), .ref (u 13), .ref (u 24), .ref (u 25), .ref (u 26), .ref (u 27), .ref (u 28), .int 0, .int 0, .int 0])), ((u 24), .inl (cI, 61, .inl (fun _ => 0))), ((u 25), .inl (cI, 61, .inl (fun _ => 0))), ((u 26), .inl (cI, 60, .inl (fun _ => 0))), ((u 27), .inl (cI, 60, .inl (fun _ => 0))), ((u 28), .inl (cI, 21, .inl (fun _ => 0))), ((u 29), .inr (2, [.ref (u 0), .ref (u 9), .ref (u 13), .ref (u 30), .long 0, .long 0])), ((u 30), .inl (cI, 60, .inl (fun _ => 0))), ((u 31), .inr (6, [.ref (u 0), .int 0, .int 0, .int 0])), ((u 32), .inl (cK, 2, .inr (.inr (.inr (.inr (va_up (va_up (fun _ => none) 0 (some (u 35))) 1 (some (u 44)))))))), ((u 33), .inl (cZ, 2, .inl (fun _ => 0))), ((u 34), .inl (cI, 4, .inl (fun _ => 0))), ((u 35), .inr (0, [.ref (u 36), .ref (u 37), .ref (u 38), .int (-6), .int 0, .int 0, .ref (u 39), .ref (u 40), .ref (u 41), .int 0, .ref (u 42), .ref (u 43)])), ((u 36), .inl (cI, 5, .inl (upd (fun _ => 0) 0 800))), ((u 37), .inl (cI, 14, .inl (fun _ => 0))), ((u 38), .inl (cZ, 14, .inl (fun _ => 0))), ((u 39), .inl (cI, 6, .inl (fun _ => 0))), ((u 40), .inl (cI, 6, .inl (fun _ => 0))), ((u 41), .inl (cI, 6, .inl (fun _ => 0))), ((u 42), .inl (cI, 8, .inl (fun _ => 0))), ((u 43), .inl (cI, 8, .inl (fun _ => 0))), ((u 44), .inr (0, [.ref (u 45), .ref (u 46), .ref (u 47), .int (-6), .int 0, .int 0, .ref (u 48), .ref (u 49), .ref (u 50), .int 0, .ref (u 51), .ref (u 52)])), ((u 45), .inl (cI, 5, .inl (upd (fun _ => 0) 0 800))), ((u 46), .inl (cI, 14, .inl (fun _ => 0))), ((u 47), .inl (cZ, 14, .inl (fun _ => 0))), ((u 48), .inl (cI, 6, .inl (fun _ => 0))), ((u 49), .inl (cI, 6, .inl (fun _ => 0))), ((u 50), .inl (cI, 6, .inl (fun _ => 0))), ((u 51), .inl (cI, 8, .inl (fun _ => 0))), ((u 52), .inl (cI, 8, .inl (fun _ => 0))), (qn, .inr (8, [.int 800, .int 0, .int 0, .int 0, .int 0, .int 0, .int 0, .ref (v 0), .ref (v 1), .int 0, .ref (v 2), .ref (v 3), .ref (v 4), .ref (v 5), .ref (v 6), .int 0, .ref (v 7), .int 0, .ref (v 8), .ref (v 9), .ref (v 10), .int 0, .int 0, .int 0, .int 0, .int 0, .int 0, .int 0, .int 0, .int 0, .ref (v 11), .ref (v 12), .ref (v 13), .ref (v 14), .int 0, .int 0, .int 0, .int 0, .int 0, .int 0, .int 0, .ref (v 15), .int 0, .ref (v 16), .ref (v 17), .int 0, .int 0, .ref (v 18), .ref (v 19), .ref (v 20), .ref (v 21), .int 0, .int 0])), ((v 0), .inl (cI, 14, .inl (fun _ => 0))), ((v 1), .inl (cI, 14, .inl (fun _ => 0))), ((v 2), .inl (cI, 6, .inl (fun _ => 0))), ((v 3), .inl (cI, 6, .inl (fun _ => 0))), ((v 4), .inl (cI, 6, .inl (fun _ => 0))), ((v 5), .inl (cI, 8, .inl (fun _ => 0))), ((v 6), .inl (cI, 8, .inl (fun _ => 0))), ((v 7), .inl (cI, 60, .inl (fun _ => 0))), ((v 8), .inl (cI, 60, .inl (fun _ => 0))), ((v 9), .inl (cI, 60, .inl (fun _ => 0))), ((v 10), .inl (cI, 60, .inl (fun _ => 0))), ((v 11), .inl (cI, 60, .inl (fun _ => 0))), ((v 12), .inl (cI, 60, .inl (fun _ => 0))), ((v 13), .inl (cI, 14, .inl (fun _ => 0))), ((v 14), .inl (cI, 61, .inl (fun _ => 0))), ((v 15), .inl (cI, 6, .inl (fun _ => 0))), ((v 16), .inl (cI, 6, .inl (fun _ => 0))), ((v 17), .inl (cI, 28, .inl (fun _ => 0))), ((v 18), .inl (cI, 1260, .inl (fun _ => 0))), ((v 19), .inl (cI, 4, .inl (fun _ => 0))), ((v 20), .inl (cI, 160, .inl (fun _ => 0))), ((v 21), .inl (cZ, 2, .inl (fun _ => 0)))] H) (hD : va_D (fun q : Nat => s.heap.size ≤ q) [(qx, .inr (7, [.ref (u 0), .ref (u 9), .ref (u 13), .ref (u 18), .ref (u 23), .ref (u 29), .ref (u 31), .ref (u 32), .ref (u 33), .ref (u 34)])), ((u 0), .inr (0, [.ref (u 1), .ref (u 2), .ref (u 3), .int (-6), .int 0, .int 0, .ref (u 4), .ref (u 5), .ref (u 6), .int 0, .ref (u 7), .ref (u 8)])), ((u 1), .inl (cI, 5, .inl (upd (fun _ => 0) 0 800))), ((u 2), .inl (cI, 14, .inl (fun _ => 0))), ((u 3), .inl (cZ, 14, .inl (fun _ => 0))), ((u 4), .inl (cI, 6, .inl (fun _ => 0))), ((u 5), .inl (cI, 6, .inl (fun _ => 0))), ((u 6), .inl (cI, 6, .inl (fun _ => 0))), ((u 7), .inl (cI, 8, .inl (fun _ => 0))), ((u 8), .inl (cI, 8, .inl (fun _ => 0))), ((u 9), .inr (4, [.ref (u 10), .int 0, .ref (u 11), .ref (u 12), .int 0, .int 0])), ((u 10), .inl (cI, 60, .inl (fun _ => 0))), ((u 11), .inl (cI, 60, .inl (fun _ => 0))), ((u 12), .inl (cI, 60, .inl (fun _ => 0))), ((u 13), .inr (1, [.ref (u 0), .ref (u 9), .ref (u 14), .ref (u 15), .ref (u 16), .ref (u 17), .int 0, .int 0, .int 0, .int 0, .int 0, .int 0, .int 0, .int 0])), ((u 14), .inl (cI, 60, .inl (fun _ => 0))), ((u 15), .inl (cI, 60, .inl (fun _ => 0))), ((u 16), .inl (cI, 60, .inl (fun _ => 0))), ((u 17), .inl (cI, 61, .inl (fun _ => 0))), ((u 18), .inr (3, [.ref (u 0), .ref (u 19), .int 0, .ref (u 20), .ref (u 21), .ref (u 22)])), ((u 19), .inl (cI, 6, .inl (fun _ => 0))), ((u 20), .inl (cI, 6, .inl (fun _ => 0))), ((u 21), .inl (cI, 6, .inl (fun _ => 0))), ((u 22), .inl (cI, 5, .inl (fun _ => 0))), ((u 23), .inr (5, [.ref (u 0), .ref (u 9), .ref (u 13), .ref (u 24), .ref (u 25), .ref (u 26), .ref (u 27), .ref (u 28), .int 0, .int 0, .int 0])), ((u 24), .inl (cI, 61, .inl (fun _ => 0))), ((u 25), .inl (cI, 61, .inl (fun _ => 0))), ((u 26), .inl (cI, 60, .inl (fun _ => 0))), ((u 27), .inl (cI, 60, .inl (fun _ => 0))), ((u 28), .inl (cI, 21, .inl (fun _ => 0))), ((u 29), .inr (2, [.ref (u 0), .ref (u 9), .ref (u 13), .ref (u 30), .long 0, .long 0])), ((u 30), .inl (cI, 60, .inl (fun _ => 0))), ((u 31), .inr (6, [.ref (u 0), .int 0, .int 0, .int 0])), ((u 32), .inl (cK, 2, .inr (.inr (.inr (.inr (va_up (va_up (fun _ => none) 0 (some (u 35))) 1 (some (u 44)))))))), ((u 33), .inl (cZ, 2, .inl (fun _ => 0))), ((u 34), .inl (cI, 4, .inl (fun _ => 0))), ((u 35), .inr (0, [.ref (u 36), .ref (u 37), .ref (u 38), .int (-6), .int 0, .int 0, .ref (u 39), .ref (u 40), .ref (u 41), .int 0, .ref (u 42), .ref (u 43)])), ((u 36), .inl (cI, 5, .inl (upd (fun _ => 0) 0 800))), ((u 37), .inl (cI, 14, .inl (fun _ => 0))), ((u 38), .inl (cZ, 14, .inl (fun _ => 0))), ((u 39), .inl (cI, 6, .inl (fun _ => 0))), ((u 40), .inl (cI, 6, .inl (fun _ => 0))), ((u 41), .inl (cI, 6, .inl (fun _ => 0))), ((u 42), .inl (cI, 8, .inl (fun _ => 0))), ((u 43), .inl (cI, 8, .inl (fun _ => 0))), ((u 44), .inr (0, [.ref (u 45), .ref (u 46), .ref (u 47), .int (-6), .int 0, .int 0, .ref (u 48), .ref (u 49), .ref (u 50), .int 0, .ref (u 51), .ref (u 52)])), ((u 45), .inl (cI, 5, .inl (upd (fun _ => 0) 0 800))), ((u 46), .inl (cI, 14, .inl (fun _ => 0))), ((u 47), .inl (cZ, 14, .inl (fun _ => 0))), ((u 48), .inl (cI, 6, .inl (fun _ => 0))), ((u 49), .inl (cI, 6, .inl (fun _ => 0))), ((u 50), .inl (cI, 6, .inl (fun _ => 0))), ((u 51), .inl (cI, 8, .inl (fun _ => 0))), ((u 52), .inl (cI, 8, .inl (fun _ => 0))), (qn, .inr (8, [.int 800, .int 0, .int 0, .int 0, .int 0, .int 0, .int 0, .ref (v 0), .ref (v 1), .int 0, .ref (v 2), .ref (v 3), .ref (v 4), .ref (v 5), .ref (v 6), .int 0, .ref (v 7), .int 0, .ref (v 8), .ref (v 9), .ref (v 10), .int 0, .int 0, .int 0, .int 0, .int 0, .int 0, .int 0, .int 0, .int 0, .ref (v 11), .ref (v 12), .ref (v 13), .ref (v 14), .int 0, .int 0, .int 0, .int 0, .int 0, .int 0, .int 0, .ref (v 15), .int 0, .ref (v 16), .ref (v 17), .int 0, .int 0, .ref (v 18), .ref (v 19), .ref (v 20), .ref (v 21), .int 0, .int 0])), ((v 0), .inl (cI, 14, .inl (fun _ => 0))), ((v 1), .inl (cI, 14, .inl (fun _ => 0))), ((v 2), .inl (cI, 6, .inl (fun _ => 0))), ((v 3), .inl (cI, 6, .inl (fun _ => 0))), ((v 4), .inl (cI, 6, .inl (fun _ => 0))), ((v 5), .inl (cI, 8, .inl (fun _ => 0))), ((v 6), .inl (cI, 8, .inl (fun _ => 0))), ((v 7), .inl (cI, 60, .inl (fun _ => 0))), ((v 8), .inl (cI, 60, .inl (fun _ => 0))), ((v 9), .inl (cI, 60, .inl (fun _ => 0))), ((v 10), .inl (cI, 60, .inl (fun _ => 0))), ((v 11), .inl (cI, 60, .inl (fun _ => 0))), ((v 12), .inl (cI, 60, .inl (fun _ => 0))), ((v 13), .inl (cI, 14, .inl (fun _ => 0))), ((v 14), .inl (cI, 61, .inl (fun _ => 0))), ((v 15), .inl (cI, 6, .inl (fun _ => 0))), ((v 16), .inl (cI, 6, .inl (fun _ => 0))), ((v 17), .inl (cI, 28, .inl (fun _ => 0))), ((v 18), .inl (cI, 1260, .inl (fun _ => 0))), ((v 19), .inl (cI, 4, .inl (fun _ => 0))), ((v 20), .inl (cI, 160, .inl (fun _ => 0))), ((v 21), .inl (cZ, 2, .inl (fun _ => 0)))]) (hS : va_S (fun q : Nat => s.heap.size ≤ q) s.heap H locs) (ls : Array Slot) (hl : lv_has ls 4 [(3, .int 0), (2, .ref qn), (1, .ref qx), (0, .ref b)]) : W p l e room_1 s m #[Value.ref b] below meth c H locs 77 3085 (lw_Z below #[Value.ref b] s) (F0 m 661 ls []) := by
  obtain ⟨hx, hb, hr, hml, hown, hts, hX, hbl, hlocks, hgv⟩ := C0
  have hts := fun w h => hts w (wsL_law_in w h)
  have hown : s.vm.findClass RL = some m.cls := hown
  have hA : ∀ q : Nat, s.heap.size ≤ q → (fun q : Nat => s.heap.size ≤ q) q := fun _ h => h
  have hbA : ¬ (fun q : Nat => s.heap.size ≤ q) b := Nat.not_le.mpr hbl
  have hK := hKx.1
  replace hP := mx_subP (wc := [(qx, .inr (7, [.ref (u 0), .ref (u 9), .ref (u 13), .ref (u 18), .ref (u 23), .ref (u 29), .ref (u 31), .ref (u 32), .ref (u 33), .ref (u 34)])), ((u 0), .inr (0, [.ref (u 1), .ref (u 2), .ref (u 3), .int (-6), .int 0, .int 0, .ref (u 4), .ref (u 5), .ref (u 6), .int 0, .ref (u 7), .ref (u 8)])), (qn, .inr (8, [.int 800, .int 0, .int 0, .int 0, .int 0, .int 0, .int 0, .ref (v 0), .ref (v 1), .int 0, .ref (v 2), .ref (v 3), .ref (v 4), .ref (v 5), .ref (v 6), .int 0, .ref (v 7), .int 0, .ref (v 8), .ref (v 9), .ref (v 10), .int 0, .int 0, .int 0, .int 0, .int 0, .int 0, .int 0, .int 0, .int 0, .ref (v 11), .ref (v 12), .ref (v 13), .ref (v 14), .int 0, .int 0, .int 0, .int 0, .int 0, .int 0, .int 0, .ref (v 15), .int 0, .ref (v 16), .ref (v 17), .int 0, .int 0, .ref (v 18), .ref (v 19), .ref (v 20), .ref (v 21), .int 0, .int 0]))]) hP [0, 1, 54] rfl
  replace hD := hD.sub (ws' := [(qx, .inr (7, [.ref (u 0), .ref (u 9), .ref (u 13), .ref (u 18), .ref (u 23), .ref (u 29), .ref (u 31), .ref (u 32), .ref (u 33), .ref (u 34)])), ((u 0), .inr (0, [.ref (u 1), .ref (u 2), .ref (u 3), .int (-6), .int 0, .int 0, .ref (u 4), .ref (u 5), .ref (u 6), .int 0, .ref (u 7), .ref (u 8)])), (qn, .inr (8, [.int 800, .int 0, .int 0, .int 0, .int 0, .int 0, .int 0, .ref (v 0), .ref (v 1), .int 0, .ref (v 2), .ref (v 3), .ref (v 4), .ref (v 5), .ref (v 6), .int 0, .ref (v 7), .int 0, .ref (v 8), .ref (v 9), .ref (v 10), .int 0, .int 0, .int 0, .int 0, .int 0, .int 0, .int 0, .int 0, .int 0, .ref (v 11), .ref (v 12), .ref (v 13), .ref (v 14), .int 0, .int 0, .int 0, .int 0, .int 0, .int 0, .int 0, .ref (v 15), .int 0, .ref (v 16), .ref (v 17), .int 0, .int 0, .ref (v 18), .ref (v 19), .ref (v 20), .ref (v 21), .int 0, .int 0]))]) [0, 1, 54] (by decide) rfl
  refine lv_aload_n hx hb dL_law_661 rfl (lv_at hl 2 rfl) ?_
  refine lv_aload_n hx hb dL_law_662 rfl (lv_at hl 3 rfl) ?_
  refine lv_iload_n hx hb dL_law_663 rfl (lv_at hl 0 rfl) ?_
  refine lv_iconst (v := 1) hx hb dL_law_664 (by decide) ?_
  refine lv_iadd hx hb dL_law_665 ?_
  refine lv_topi (fun x1 e1 => ?_)
  obtain rfl : x1 = 1 := e1.trans (by decide)
  refine va_sld hx hb hX hbl hbA hS (vin (by decide) (by decide)) dL_law_666 ?_
  refine lv_topi (fun y2 e2 => ?_)
  obtain rfl : y2 = xs 1 := e2
  refine lv_aload_n hx hb dL_law_667 rfl (lv_at hl 3 rfl) ?_
  refine lv_iload_n hx hb dL_law_668 rfl (lv_at hl 0 rfl) ?_
  refine lv_iconst (v := 2) hx hb dL_law_669 (by decide) ?_
  refine lv_iadd hx hb dL_law_670 ?_
  refine lv_topi (fun x3 e3 => ?_)
  obtain rfl : x3 = 2 := e3.trans (by decide)
  refine va_sld hx hb hX hbl hbA hS (vin (by decide) (by decide)) dL_law_671 ?_
  refine lv_topi (fun y4 e4 => ?_)
  obtain rfl : y4 = xs 2 := e4
  refine mx_i (wr := [(qn, .inr (8, [.int 800, .int 0, .int 0, .int 0, .int 0, .int 0, .int 0, .ref (v 0), .ref (v 1), .int 0, .ref (v 2), .ref (v 3), .ref (v 4), .ref (v 5), .ref (v 6), .int 0, .ref (v 7), .int 0, .ref (v 8), .ref (v 9), .ref (v 10), .int 0, .int 0, .int 0, .int 0, .int 0, .int 0, .int 0, .int 0, .int 0, .ref (v 11), .ref (v 12), .ref (v 13), .ref (v 14), .int 0, .int 0, .int 0, .int 0, .int 0, .int 0, .int 0, .ref (v 15), .int 0, .ref (v 16), .ref (v 17), .int 0, .int 0, .ref (v 18), .ref (v 19), .ref (v 20), .ref (v 21), .int 0, .int 0]))]) (va_runV (As := [.int (xs 1), .int (xs 2)]) (rest := []) ⟨hx, hb, hml, hown, hts⟩ (c_X7_keep l dC dI cI cZ cK tS aK aV qx (u 18) (u 23) (u 29) (u 31) (u 32) (u 33) (u 34) (u 13) (u 0) (u 1) (u 2) (u 3) (u 4) (u 5) (u 6) (u 7) (u 8) (u 9) (xs 1) (xs 2) H.size) (cwV 2 hts (gw_v (fun _ h9 => h9) wm_689 wm_690 wm_691 wm_2 wm_692) rfl rfl rfl (by decide +kernel) ⟨Nat.le_of_ble_eq_true rfl, Nat.le_of_ble_eq_true rfl⟩) (mx_preV (C := RX7) (T := TX7) (N := 10) (ci := 7) hKx hP hD hS hA [0, 1] (by decide) rfl rfl rfl) rfl rfl hl.1 rfl (lv_room (Nat.le_of_ble_eq_true rfl)) dL_law_672 ⟨Nat.le_of_ble_eq_true rfl, Nat.le_of_ble_eq_true rfl⟩) hP hD hS hA [0, 1] [2] rfl rfl (by decide) (by decide) (fun r5 u5 H locs hq5 hP hD hS => ?_)
  replace hP : va_P (dC, dI) vwCl [(qn, .inr (8, [.int 800, .int 0, .int 0, .int 0, .int 0, .int 0, .int 0, .ref (v 0), .ref (v 1), .int 0, .ref (v 2), .ref (v 3), .ref (v 4), .ref (v 5), .ref (v 6), .int 0, .ref (v 7), .int 0, .ref (v 8), .ref (v 9), .ref (v 10), .int 0, .int 0, .int 0, .int 0, .int 0, .int 0, .int 0, .int 0, .int 0, .ref (v 11), .ref (v 12), .ref (v 13), .ref (v 14), .int 0, .int 0, .int 0, .int 0, .int 0, .int 0, .int 0, .ref (v 15), .int 0, .ref (v 16), .ref (v 17), .int 0, .int 0, .ref (v 18), .ref (v 19), .ref (v 20), .ref (v 21), .int 0, .int 0]))] H := hP
  replace hD : va_D (fun q : Nat => s.heap.size ≤ q) [(qn, .inr (8, [.int 800, .int 0, .int 0, .int 0, .int 0, .int 0, .int 0, .ref (v 0), .ref (v 1), .int 0, .ref (v 2), .ref (v 3), .ref (v 4), .ref (v 5), .ref (v 6), .int 0, .ref (v 7), .int 0, .ref (v 8), .ref (v 9), .ref (v 10), .int 0, .int 0, .int 0, .int 0, .int 0, .int 0, .int 0, .int 0, .int 0, .ref (v 11), .ref (v 12), .ref (v 13), .ref (v 14), .int 0, .int 0, .int 0, .int 0, .int 0, .int 0, .int 0, .ref (v 15), .int 0, .ref (v 16), .ref (v 17), .int 0, .int 0, .ref (v 18), .ref (v 19), .ref (v 20), .ref (v 21), .int 0, .int 0]))] := hD
  obtain rfl : r5 = (-1) := hq5
  refine lv_aload_n hx hb dL_law_675 rfl (lv_at hl 1 rfl) ?_
  refine lv_aload_n hx hb dL_law_676 rfl (lv_at hl 3 rfl) ?_
  refine lv_iload_n hx hb dL_law_677 rfl (lv_at hl 0 rfl) ?_
  refine lv_iconst (v := 1) hx hb dL_law_678 (by decide) ?_
  refine lv_iadd hx hb dL_law_679 ?_
  refine lv_topi (fun x6 e6 => ?_)
  obtain rfl : x6 = 1 := e6.trans (by decide)
  refine va_sld hx hb hX hbl hbA hS (vin (by decide) (by decide)) dL_law_680 ?_
  refine lv_topi (fun y7 e7 => ?_)
  obtain rfl : y7 = xs 1 := e7
  refine lv_aload_n hx hb dL_law_681 rfl (lv_at hl 3 rfl) ?_
  refine lv_iload_n hx hb dL_law_682 rfl (lv_at hl 0 rfl) ?_
  refine lv_iconst (v := 2) hx hb dL_law_683 (by decide) ?_
  refine lv_iadd hx hb dL_law_684 ?_
  refine lv_topi (fun x8 e8 => ?_)
  obtain rfl : x8 = 2 := e8.trans (by decide)
  refine va_sld hx hb hX hbl hbA hS (vin (by decide) (by decide)) dL_law_685 ?_
  refine lv_topi (fun y9 e9 => ?_)
  obtain rfl : y9 = xs 2 := e9
  refine mx_i (wr := []) (va_runV (As := [.int (xs 1), .int (xs 2)]) (rest := [.int (-1)]) ⟨hx, hb, hml, hown, hts⟩ (c_X8_keep l dC dI cI cZ cK tS aK aV qn (v 0) (v 1) (v 2) (v 3) (v 4) (v 5) (v 6) (v 7) (v 8) (v 9) (v 10) (v 11) (v 12) (v 13) (v 14) (v 15) (v 16) (v 17) (v 18) (v 19) (v 20) (v 21) (xs 1) (xs 2) H.size) (cwV 2 hts (gw_v (fun _ h9 => h9) wm_693 wm_694 wm_695 wm_385 wm_696) rfl rfl rfl (by decide +kernel) ⟨Nat.le_of_ble_eq_true rfl, Nat.le_of_ble_eq_true rfl⟩) (mx_preV (C := RX8) (T := TX8) (N := 53) (ci := 8) hKx hP hD hS hA [0] (by decide) rfl rfl rfl) rfl rfl hl.1 rfl (lv_room (Nat.le_of_ble_eq_true rfl)) dL_law_686 ⟨Nat.le_of_ble_eq_true rfl, Nat.le_of_ble_eq_true rfl⟩) hP hD hS hA [0] [] rfl rfl (by decide) (by decide) (fun r10 u10 H locs hq10 hP hD hS => ?_)
  replace hP : va_P (dC, dI) vwCl [] H := hP
  replace hD : va_D (fun q : Nat => s.heap.size ≤ q) [] := hD
  obtain rfl : r10 = (-1) := hq10
  refine lv_icmp_eq (tgt := 998) hx hb dL_law_689 (by decide) (fun c11 => ?_) (fun c11 => absurd c11 (by decide))
  refine lv_iinc (v := 5) (lv' := [(3, .int 5), (2, .ref qn), (1, .ref qx), (0, .ref b)]) hx hb dL_law_998 hl (k := 0) rfl (by decide) (by decide) rfl (fun ls hl => ?_)
  refine lv_goto (tgt := 18) hx hb dL_law_1001 (by decide) ?_
  refine lv_iload_n hx hb dL_law_18 rfl (lv_at hl 0 rfl) ?_
  refine lv_aload_n hx hb dL_law_19 rfl (lv_at hl 3 rfl) ?_
  refine va_slen hx hb hX hbl hbA hS dL_law_20 ?_
  refine lv_topi (fun x12 e12 => ?_)
  obtain rfl : x12 = 5 := e12.trans (by decide)
  refine lv_iconst (v := 5) hx hb dL_law_21 (by decide) ?_
  refine lv_isub hx hb dL_law_22 ?_
  refine lv_topi (fun x13 e13 => ?_)
  obtain rfl : x13 = 0 := e13.trans (by decide)
  refine lv_icmp_gt (tgt := 1004) hx hb dL_law_23 (by decide) (fun c14 => ?_) (fun c14 => absurd c14 (by decide))
  refine lv_iconst (v := 1) hx hb dL_law_1004 (by decide) ?_
  refine va_forget (fun q hq => hS.2.2 q hq) ?_
  refine W.widen (k := 600000) (n := 7302250) (Nat.le_of_ble_eq_true rfl) (Nat.le_of_ble_eq_true rfl) ?_
  exact lw_ret hx hb hr hlocks dL_law_1005
