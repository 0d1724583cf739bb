set_option maxHeartbeats 4000000 in
set_option maxRecDepth 100000 in
theorem lc_image {p : Program} {e : Env} {s : State} {m : MethodId} {below : List Frame} {meth : Method} {c : Code} (l : Launch) {b : Nat} {xs : Nat → Int32} (C0 : lw_At p s m meth c b 5 xs) (dC : Nat → ClassId) (dI : Nat → Nat → Nat) (cI cZ cK : ClassId) (tS aK aV : Nat) (hKx : kx dC dI cI cZ cK tS aK aV (fun q : Nat => s.heap.size ≤ q) s) (qx qn : Nat) (u v : Nat → Nat) (H : Heap) (locs : List Loc) (hP : va_P (dC, dI) vwCl [(qx, .inr (7, [.ref (u 0), .ref (u 9), .ref (u 13), .ref (u 18), .ref (u 23), .ref (u 29), .ref (u 31), .ref (u 32), .ref (u 33), .ref (u 34)])), ((u 0), .inr (0, [.ref (u 1), .ref (u 2), .ref (u 3), .int (-6), .int 0, .int 0, .ref (u 4), .ref (u 5), .ref (u 6), .int 0, .ref (u 7), .ref (u 8)])), ((u 1), .inl (cI, 5, .inl (upd (fun _ => 0) 0 800))), ((u 2), .inl (cI, 14, .inl (fun _ => 0))), ((u 3), .inl (cZ, 14, .inl (fun _ => 0))), ((u 4), .inl (cI, 6, .inl (fun _ => 0))), ((u 5), .inl (cI, 6, .inl (fun _ => 0))), ((u 6), .inl (cI, 6, .inl (fun _ => 0))), ((u 7), .inl (cI, 8, .inl (fun _ => 0))), ((u 8), .inl (cI, 8, .inl (fun _ => 0))), ((u 9), .inr (4, [.ref (u 10), .int 0, .ref (u 11), .ref (u 12), .int 0, .int 0])), ((u 10), .inl (cI, 60, .inl (fun _ => 0))), ((u 11), .inl (cI, 60, .inl (fun _ => 0))), ((u 12), .inl (cI, 60, .inl (fun _ => 0))), ((u 13), .inr (1, [.ref (u 0), .ref (u 9), .ref (u 14), .ref (u 15), .ref (u 16), .ref (u 17), .int 0, .int 0, .int 0, .int 0, .int 0, .int 0, .int 0, .int 0])), ((u 14), .inl (cI, 60, .inl (fun _ => 0))), ((u 15), .inl (cI, 60, .inl (fun _ => 0))), ((u 16), .inl (cI, 60, .inl (fun _ => 0))), ((u 17), .inl (cI, 61, .inl (fun _ => 0))), ((u 18), .inr (3, [.ref (u 0), .ref (u 19), .int 0, .ref (u 20), .ref (u 21), .ref (u 22)])), ((u 19), .inl (cI, 6, .inl (fun _ => 0))), ((u 20), .inl (cI, 6, .inl (fun _ => 0))), ((u 21), .inl (cI, 6, .inl (fun _ => 0))), ((u 22), .inl (cI, 5, .inl (fun _ => 0))), ((u 23), .inr (5, [.ref (u 0), .ref (u 9), .ref (u 13), .ref (u 24), .ref (u 25), .ref (u 26), .ref (u 27), .ref (u 28), .int 0, .int 0, .int 0])), ((u 24), .inl (cI, 61, .inl (fun _ => 0))), ((u 25), .inl (cI, 61, .inl (fun _ => 0))), ((u 26), .inl (cI, 60, .inl (fun _ => 0))), ((u 27), .inl (cI, 60, .inl (fun _ => 0))), ((u 28), .inl (cI, 21, .inl (fun _ => 0))), ((u 29), .inr (2, [.ref (u 0), .ref (u 9), .ref (u 13), .ref (u 30), .long 0, .long 0])), ((u 30), .inl (cI, 60, .inl (fun _ => 0))), ((u 31), .inr (6, [.ref (u 0), .int 0, .int 0, .int 0])), ((u 32), .inl (cK, 2, .inr (.inr (.inr (.inr (va_up (va_up (fun _ => none) 0 (some (u 35))) 1 (some (u 44)))))))), ((u 33), .inl (cZ, 2, .inl (fun _ => 0))), ((u 34), .inl (cI, 4, .inl (fun _ => 0))), ((u 35), .inr (0, [.ref (u 36), .ref (u 37), .ref (u 38), .int (-6), .int 0, .int 0, .ref (u 39), .ref (u 40), .ref (u 41), .int 0, .ref (u 42), .ref (u 43)])), ((u 36), .inl (cI, 5, .inl (upd (fun _ => 0) 0 800))), ((u 37), .inl (cI, 14, .inl (fun _ => 0))), ((u 38), .inl (cZ, 14, .inl (fun _ => 0))), ((u 39), .inl (cI, 6, .inl (fun _ => 0))), ((u 40), .inl (cI, 6, .inl (fun _ => 0))), ((u 41), .inl (cI, 6, .inl (fun _ => 0))), ((u 42), .inl (cI, 8, .inl (fun _ => 0))), ((u 43), .inl (cI, 8, .inl (fun _ => 0))), ((u 44), .inr (0, [.ref (u 45), .ref (u 46), .ref (u 47), .int (-6), .int 0, .int 0, .ref (u 48), .ref (u 49), .ref (u 50), .int 0, .ref (u 51), .ref (u 52)])), ((u 45), .inl (cI, 5, .inl (upd (fun _ => 0) 0 800))), ((u 46), .inl (cI, 14, .inl (fun _ => 0))), ((u 47), .inl (cZ, 14, .inl (fun _ => 0))), ((u 48), .inl (cI, 6, .inl (fun _ => 0))), ((u 49), .inl (cI, 6, .inl (fun _ => 0))), ((u 50), .inl (cI, 6, .inl (fun _ => 0))), ((u 51), .inl (cI, 8, .inl (fun _ => 0))), ((u 52), .inl (cI, 8, .inl (fun _ => 0))), (qn, .inr (8, [.int 800, .int 0, .int 0, .int 0, .int 0, .int 0, .int 0, .ref (v 0), .ref (v 1), .int 0, .ref (v 2), .ref (v 3), .ref (v 4), .ref (v 5), .ref (v 6), .int 0, .ref (v 7), .int 0, .ref (v 8), .ref (v 9), .ref (v 10), .int 0, .int 0, .int 0, .int 0, .int 0, .int 0, .int 0, .int 0, .int 0, .ref (v 11), .ref (v 12), .ref (v 13), .ref (v 14), .int 0, .int 0, .int 0, .int 0, .int 0, .int 0, .int 0, .ref (v 15), .int 0, .ref (v 16), .ref (v 17), .int 0, .int 0, .ref (v 18), .ref (v 19), .ref (v 20), .ref (v 21), .int 0, .int 0])), ((v 0), .inl (cI, 14, .inl (fun _ => 0))), ((v 1), .inl (cI, 14, .inl (fun _ => 0))), ((v 2), .inl (cI, 6, .inl (fun _ => 0))), ((v 3), .inl (cI, 6, .inl (fun _ => 0))), ((v 4), .inl (cI, 6, .inl (fun _ => 0))), ((v 5), .inl (cI, 8, .inl (fun _ => 0))), ((v 6), .inl (cI, 8, .inl (fun _ => 0))), ((v 7), .inl (cI, 60, .inl (fun _ => 0))), ((v 8), .inl (cI, 60, .inl (fun _ => 0))), ((v 9), .inl (cI, 60, .inl (fun _ => 0))), ((v 10), .inl (cI, 60, .inl (fun _ => 0))), ((v 11), .inl (cI, 60, .inl (fun _ => 0))), ((v 12), .inl (cI, 60, .inl (fun _ => 0))), ((v 13), .inl (cI, 14, .inl (fun _ => 0))), ((v 14), .inl (cI, 61, .inl (fun _ => 0))), ((v 15), .inl (cI, 6, .inl (fun _ => 0))), ((v 16), .inl (cI, 6, .inl (fun _ => 0))), ((v 17), .inl (cI, 28, .inl (fun _ => 0))), ((v 18), .inl (cI, 1260, .inl (fun _ => 0))), ((v 19), .inl (cI, 4, .inl (fun _ => 0))), ((v 20), .inl (cI, 160, .inl (fun _ => 0))), ((v 21), .inl (cZ, 2, .inl (fun _ => 0)))] H) (hD : va_D (fun q : Nat => s.heap.size ≤ q) [(qx, .inr (7, [.ref (u 0), .ref (u 9), .ref (u 13), .ref (u 18), .ref (u 23), .ref (u 29), .ref (u 31), .ref (u 32), .ref (u 33), .ref (u 34)])), ((u 0), .inr (0, [.ref (u 1), .ref (u 2), .ref (u 3), .int (-6), .int 0, .int 0, .ref (u 4), .ref (u 5), .ref (u 6), .int 0, .ref (u 7), .ref (u 8)])), ((u 1), .inl (cI, 5, .inl (upd (fun _ => 0) 0 800))), ((u 2), .inl (cI, 14, .inl (fun _ => 0))), ((u 3), .inl (cZ, 14, .inl (fun _ => 0))), ((u 4), .inl (cI, 6, .inl (fun _ => 0))), ((u 5), .inl (cI, 6, .inl (fun _ => 0))), ((u 6), .inl (cI, 6, .inl (fun _ => 0))), ((u 7), .inl (cI, 8, .inl (fun _ => 0))), ((u 8), .inl (cI, 8, .inl (fun _ => 0))), ((u 9), .inr (4, [.ref (u 10), .int 0, .ref (u 11), .ref (u 12), .int 0, .int 0])), ((u 10), .inl (cI, 60, .inl (fun _ => 0))), ((u 11), .inl (cI, 60, .inl (fun _ => 0))), ((u 12), .inl (cI, 60, .inl (fun _ => 0))), ((u 13), .inr (1, [.ref (u 0), .ref (u 9), .ref (u 14), .ref (u 15), .ref (u 16), .ref (u 17), .int 0, .int 0, .int 0, .int 0, .int 0, .int 0, .int 0, .int 0])), ((u 14), .inl (cI, 60, .inl (fun _ => 0))), ((u 15), .inl (cI, 60, .inl (fun _ => 0))), ((u 16), .inl (cI, 60, .inl (fun _ => 0))), ((u 17), .inl (cI, 61, .inl (fun _ => 0))), ((u 18), .inr (3, [.ref (u 0), .ref (u 19), .int 0, .ref (u 20), .ref (u 21), .ref (u 22)])), ((u 19), .inl (cI, 6, .inl (fun _ => 0))), ((u 20), .inl (cI, 6, .inl (fun _ => 0))), ((u 21), .inl (cI, 6, .inl (fun _ => 0))), ((u 22), .inl (cI, 5, .inl (fun _ => 0))), ((u 23), .inr (5, [.ref (u 0), .ref (u 9), .ref (u 13), .ref (u 24), .ref (u 25), .ref (u 26), .ref (u 27), .ref (u 28), .int 0, .int 0, .int 0])), ((u 24), .inl (cI, 61, .inl (fun _ => 0))), ((u 25), .inl (cI, 61, .inl (fun _ => 0))), ((u 26), .inl (cI, 60, .inl (fun _ => 0))), ((u 27), .inl (cI, 60, .inl (fun _ => 0))), ((u 28), .inl (cI, 21, .inl (fun _ => 0))), ((u 29), .inr (2, [.ref (u 0), .ref (u 9), .ref (u 13), .ref (u 30), .long 0, .long 0])), ((u 30), .inl (cI, 60, .inl (fun _ => 0))), ((u 31), .inr (6, [.ref (u 0), .int 0, .int 0, .int 0])), ((u 32), .inl (cK, 2, .inr (.inr (.inr (.inr (va_up (va_up (fun _ => none) 0 (some (u 35))) 1 (some (u 44)))))))), ((u 33), .inl (cZ, 2, .inl (fun _ => 0))), ((u 34), .inl (cI, 4, .inl (fun _ => 0))), ((u 35), .inr (0, [.ref (u 36), .ref (u 37), .ref (u 38), .int (-6), .int 0, .int 0, .ref (u 39), .ref (u 40), .ref (u 41), .int 0, .ref (u 42), .ref (u 43)])), ((u 36), .inl (cI, 5, .inl (upd (fun _ => 0) 0 800))), ((u 37), .inl (cI, 14, .inl (fun _ => 0))), ((u 38), .inl (cZ, 14, .inl (fun _ => 0))), ((u 39), .inl (cI, 6, .inl (fun _ => 0))), ((u 40), .inl (cI, 6, .inl (fun _ => 0))), ((u 41), .inl (cI, 6, .inl (fun _ => 0))), ((u 42), .inl (cI, 8, .inl (fun _ => 0))), ((u 43), .inl (cI, 8, .inl (fun _ => 0))), ((u 44), .inr (0, [.ref (u 45), .ref (u 46), .ref (u 47), .int (-6), .int 0, .int 0, .ref (u 48), .ref (u 49), .ref (u 50), .int 0, .ref (u 51), .ref (u 52)])), ((u 45), .inl (cI, 5, .inl (upd (fun _ => 0) 0 800))), ((u 46), .inl (cI, 14, .inl (fun _ => 0))), ((u 47), .inl (cZ, 14, .inl (fun _ => 0))), ((u 48), .inl (cI, 6, .inl (fun _ => 0))), ((u 49), .inl (cI, 6, .inl (fun _ => 0))), ((u 50), .inl (cI, 6, .inl (fun _ => 0))), ((u 51), .inl (cI, 8, .inl (fun _ => 0))), ((u 52), .inl (cI, 8, .inl (fun _ => 0))), (qn, .inr (8, [.int 800, .int 0, .int 0, .int 0, .int 0, .int 0, .int 0, .ref (v 0), .ref (v 1), .int 0, .ref (v 2), .ref (v 3), .ref (v 4), .ref (v 5), .ref (v 6), .int 0, .ref (v 7), .int 0, .ref (v 8), .ref (v 9), .ref (v 10), .int 0, .int 0, .int 0, .int 0, .int 0, .int 0, .int 0, .int 0, .int 0, .ref (v 11), .ref (v 12), .ref (v 13), .ref (v 14), .int 0, .int 0, .int 0, .int 0, .int 0, .int 0, .int 0, .ref (v 15), .int 0, .ref (v 16), .ref (v 17), .int 0, .int 0, .ref (v 18), .ref (v 19), .ref (v 20), .ref (v 21), .int 0, .int 0])), ((v 0), .inl (cI, 14, .inl (fun _ => 0))), ((v 1), .inl (cI, 14, .inl (fun _ => 0))), ((v 2), .inl (cI, 6, .inl (fun _ => 0))), ((v 3), .inl (cI, 6, .inl (fun _ => 0))), ((v 4), .inl (cI, 6, .inl (fun _ => 0))), ((v 5), .inl (cI, 8, .inl (fun _ => 0))), ((v 6), .inl (cI, 8, .inl (fun _ => 0))), ((v 7), .inl (cI, 60, .inl (fun _ => 0))), ((v 8), .inl (cI, 60, .inl (fun _ => 0))), ((v 9), .inl (cI, 60, .inl (fun _ => 0))), ((v 10), .inl (cI, 60, .inl (fun _ => 0))), ((v 11), .inl (cI, 60, .inl (fun _ => 0))), ((v 12), .inl (cI, 60, .inl (fun _ => 0))), ((v 13), .inl (cI, 14, .inl (fun _ => 0))), ((v 14), .inl (cI, 61, .inl (fun _ => 0))), ((v 15), .inl (cI, 6, .inl (fun _ => 0))), ((v 16), .inl (cI, 6, .inl (fun _ => 0))), ((v 17), .inl (cI, 28, .inl (fun _ => 0))), ((v 18), .inl (cI, 1260, .inl (fun _ => 0))), ((v 19), .inl (cI, 4, .inl (fun _ => 0))), ((v 20), .inl (cI, 160, .inl (fun _ => 0))), ((v 21), .inl (cZ, 2, .inl (fun _ => 0)))]) (hS : va_S (fun q : Nat => s.heap.size ≤ q) s.heap H locs) (ls : Array Slot) (hl : lv_has ls 4 [(3, .int 0), (2, .ref qn), (1, .ref qx), (0, .ref b)]) : W p l e room_1 s m #[Value.ref b] below meth c H locs 77 3085 (lw_Z below #[Value.ref b] s) (F0 m 929 ls []) := by
  obtain ⟨hx, hb, hr, hml, hown, hts, hX, hbl, hlocks, hgv⟩ := C0
  have hts := fun w h => hts w (wsL_law_in w h)
  have hown : s.vm.findClass RL = some m.cls := hown
  have hA : ∀ q : Nat, s.heap.size ≤ q → (fun q : Nat => s.heap.size ≤ q) q := fun _ h => h
  have hbA : ¬ (fun q : Nat => s.heap.size ≤ q) b := Nat.not_le.mpr hbl
  have hK := hKx.1
  replace hP := mx_subP (wc := [(qx, .inr (7, [.ref (u 0), .ref (u 9), .ref (u 13), .ref (u 18), .ref (u 23), .ref (u 29), .ref (u 31), .ref (u 32), .ref (u 33), .ref (u 34)])), ((u 0), .inr (0, [.ref (u 1), .ref (u 2), .ref (u 3), .int (-6), .int 0, .int 0, .ref (u 4), .ref (u 5), .ref (u 6), .int 0, .ref (u 7), .ref (u 8)])), ((u 1), .inl (cI, 5, .inl (upd (fun _ => 0) 0 800))), ((u 2), .inl (cI, 14, .inl (fun _ => 0))), ((u 3), .inl (cZ, 14, .inl (fun _ => 0))), ((u 4), .inl (cI, 6, .inl (fun _ => 0))), ((u 5), .inl (cI, 6, .inl (fun _ => 0))), ((u 6), .inl (cI, 6, .inl (fun _ => 0))), ((u 7), .inl (cI, 8, .inl (fun _ => 0))), ((u 8), .inl (cI, 8, .inl (fun _ => 0))), ((u 32), .inl (cK, 2, .inr (.inr (.inr (.inr (va_up (va_up (fun _ => none) 0 (some (u 35))) 1 (some (u 44)))))))), ((u 33), .inl (cZ, 2, .inl (fun _ => 0))), ((u 35), .inr (0, [.ref (u 36), .ref (u 37), .ref (u 38), .int (-6), .int 0, .int 0, .ref (u 39), .ref (u 40), .ref (u 41), .int 0, .ref (u 42), .ref (u 43)])), ((u 36), .inl (cI, 5, .inl (upd (fun _ => 0) 0 800))), ((u 37), .inl (cI, 14, .inl (fun _ => 0))), ((u 38), .inl (cZ, 14, .inl (fun _ => 0))), ((u 39), .inl (cI, 6, .inl (fun _ => 0))), ((u 40), .inl (cI, 6, .inl (fun _ => 0))), ((u 41), .inl (cI, 6, .inl (fun _ => 0))), ((u 42), .inl (cI, 8, .inl (fun _ => 0))), ((u 43), .inl (cI, 8, .inl (fun _ => 0))), ((u 44), .inr (0, [.ref (u 45), .ref (u 46), .ref (u 47), .int (-6), .int 0, .int 0, .ref (u 48), .ref (u 49), .ref (u 50), .int 0, .ref (u 51), .ref (u 52)])), ((u 45), .inl (cI, 5, .inl (upd (fun _ => 0) 0 800))), ((u 46), .inl (cI, 14, .inl (fun _ => 0))), ((u 47), .inl (cZ, 14, .inl (fun _ => 0))), ((u 48), .inl (cI, 6, .inl (fun _ => 0))), ((u 49), .inl (cI, 6, .inl (fun _ => 0))), ((u 50), .inl (cI, 6, .inl (fun _ => 0))), ((u 51), .inl (cI, 8, .inl (fun _ => 0))), ((u 52), .inl (cI, 8, .inl (fun _ => 0))), (qn, .inr (8, [.int 800, .int 0, .int 0, .int 0, .int 0, .int 0, .int 0, .ref (v 0), .ref (v 1), .int 0, .ref (v 2), .ref (v 3), .ref (v 4), .ref (v 5), .ref (v 6), .int 0, .ref (v 7), .int 0, .ref (v 8), .ref (v 9), .ref (v 10), .int 0, .int 0, .int 0, .int 0, .int 0, .int 0, .int 0, .int 0, .int 0, .ref (v 11), .ref (v 12), .ref (v 13), .ref (v 14), .int 0, .int 0, .int 0, .int 0, .int 0, .int 0, .int 0, .ref (v 15), .int 0, .ref (v 16), .ref (v 17), .int 0, .int 0, .ref (v 18), .ref (v 19), .ref (v 20), .ref (v 21), .int 0, .int 0])), ((v 0), .inl (cI, 14, .inl (fun _ => 0))), ((v 1), .inl (cI, 14, .inl (fun _ => 0))), ((v 2), .inl (cI, 6, .inl (fun _ => 0))), ((v 3), .inl (cI, 6, .inl (fun _ => 0))), ((v 4), .inl (cI, 6, .inl (fun _ => 0))), ((v 5), .inl (cI, 8, .inl (fun _ => 0))), ((v 6), .inl (cI, 8, .inl (fun _ => 0))), ((v 20), .inl (cI, 160, .inl (fun _ => 0))), ((v 21), .inl (cZ, 2, .inl (fun _ => 0)))]) hP [0, 1, 2, 3, 4, 5, 6, 7, 8, 9, 33, 34, 36, 37, 38, 39, 40, 41, 42, 43, 44, 45, 46, 47, 48, 49, 50, 51, 52, 53, 54, 55, 56, 57, 58, 59, 60, 61, 75, 76] rfl
  replace hD := hD.sub (ws' := [(qx, .inr (7, [.ref (u 0), .ref (u 9), .ref (u 13), .ref (u 18), .ref (u 23), .ref (u 29), .ref (u 31), .ref (u 32), .ref (u 33), .ref (u 34)])), ((u 0), .inr (0, [.ref (u 1), .ref (u 2), .ref (u 3), .int (-6), .int 0, .int 0, .ref (u 4), .ref (u 5), .ref (u 6), .int 0, .ref (u 7), .ref (u 8)])), ((u 1), .inl (cI, 5, .inl (upd (fun _ => 0) 0 800))), ((u 2), .inl (cI, 14, .inl (fun _ => 0))), ((u 3), .inl (cZ, 14, .inl (fun _ => 0))), ((u 4), .inl (cI, 6, .inl (fun _ => 0))), ((u 5), .inl (cI, 6, .inl (fun _ => 0))), ((u 6), .inl (cI, 6, .inl (fun _ => 0))), ((u 7), .inl (cI, 8, .inl (fun _ => 0))), ((u 8), .inl (cI, 8, .inl (fun _ => 0))), ((u 32), .inl (cK, 2, .inr (.inr (.inr (.inr (va_up (va_up (fun _ => none) 0 (some (u 35))) 1 (some (u 44)))))))), ((u 33), .inl (cZ, 2, .inl (fun _ => 0))), ((u 35), .inr (0, [.ref (u 36), .ref (u 37), .ref (u 38), .int (-6), .int 0, .int 0, .ref (u 39), .ref (u 40), .ref (u 41), .int 0, .ref (u 42), .ref (u 43)])), ((u 36), .inl (cI, 5, .inl (upd (fun _ => 0) 0 800))), ((u 37), .inl (cI, 14, .inl (fun _ => 0))), ((u 38), .inl (cZ, 14, .inl (fun _ => 0))), ((u 39), .inl (cI, 6, .inl (fun _ => 0))), ((u 40), .inl (cI, 6, .inl (fun _ => 0))), ((u 41), .inl (cI, 6, .inl (fun _ => 0))), ((u 42), .inl (cI, 8, .inl (fun _ => 0))), ((u 43), .inl (cI, 8, .inl (fun _ => 0))), ((u 44), .inr (0, [.ref (u 45), .ref (u 46), .ref (u 47), .int (-6), .int 0, .int 0, .ref (u 48), .ref (u 49), .ref (u 50), .int 0, .ref (u 51), .ref (u 52)])), ((u 45), .inl (cI, 5, .inl (upd (fun _ => 0) 0 800))), ((u 46), .inl (cI, 14, .inl (fun _ => 0))), ((u 47), .inl (cZ, 14, .inl (fun _ => 0))), ((u 48), .inl (cI, 6, .inl (fun _ => 0))), ((u 49), .inl (cI, 6, .inl (fun _ => 0))), ((u 50), .inl (cI, 6, .inl (fun _ => 0))), ((u 51), .inl (cI, 8, .inl (fun _ => 0))), ((u 52), .inl (cI, 8, .inl (fun _ => 0))), (qn, .inr (8, [.int 800, .int 0, .int 0, .int 0, .int 0, .int 0, .int 0, .ref (v 0), .ref (v 1), .int 0, .ref (v 2), .ref (v 3), .ref (v 4), .ref (v 5), .ref (v 6), .int 0, .ref (v 7), .int 0, .ref (v 8), .ref (v 9), .ref (v 10), .int 0, .int 0, .int 0, .int 0, .int 0, .int 0, .int 0, .int 0, .int 0, .ref (v 11), .ref (v 12), .ref (v 13), .ref (v 14), .int 0, .int 0, .int 0, .int 0, .int 0, .int 0, .int 0, .ref (v 15), .int 0, .ref (v 16), .ref (v 17), .int 0, .int 0, .ref (v 18), .ref (v 19), .ref (v 20), .ref (v 21), .int 0, .int 0])), ((v 0), .inl (cI, 14, .inl (fun _ => 0))), ((v 1), .inl (cI, 14, .inl (fun _ => 0))), ((v 2), .inl (cI, 6, .inl (fun _ => 0))), ((v 3), .inl (cI, 6, .inl (fun _ => 0))), ((v 4), .inl (cI, 6, .inl (fun _ => 0))), ((v 5), .inl (cI, 8, .inl (fun _ => 0))), ((v 6), .inl (cI, 8, .inl (fun _ => 0))), ((v 20), .inl (cI, 160, .inl (fun _ => 0))), ((v 21), .inl (cZ, 2, .inl (fun _ => 0)))]) [0, 1, 2, 3, 4, 5, 6, 7, 8, 9, 33, 34, 36, 37, 38, 39, 40, 41, 42, 43, 44, 45, 46, 47, 48, 49, 50, 51, 52, 53, 54, 55, 56, 57, 58, 59, 60, 61, 75, 76] (by decide) rfl
  refine lv_aload_n hx hb dL_law_929 rfl (lv_at hl 2 rfl) ?_
  refine lv_aload_n hx hb dL_law_930 rfl (lv_at hl 3 rfl) ?_
  refine lv_iload_n hx hb dL_law_931 rfl (lv_at hl 0 rfl) ?_
  refine lv_iconst (v := 1) hx hb dL_law_932 (by decide) ?_
  refine lv_iadd hx hb dL_law_933 ?_
  refine lv_topi (fun x1 e1 => ?_)
  obtain rfl : x1 = 1 := e1.trans (by decide)
  refine va_sld hx hb hX hbl hbA hS (vin (by decide) (by decide)) dL_law_934 ?_
  refine lv_topi (fun y2 e2 => ?_)
  obtain rfl : y2 = xs 1 := e2
  refine mx_i (wr := [(qn, .inr (8, [.int 800, .int 0, .int 0, .int 0, .int 0, .int 0, .int 0, .ref (v 0), .ref (v 1), .int 0, .ref (v 2), .ref (v 3), .ref (v 4), .ref (v 5), .ref (v 6), .int 0, .ref (v 7), .int 0, .ref (v 8), .ref (v 9), .ref (v 10), .int 0, .int 0, .int 0, .int 0, .int 0, .int 0, .int 0, .int 0, .int 0, .ref (v 11), .ref (v 12), .ref (v 13), .ref (v 14), .int 0, .int 0, .int 0, .int 0, .int 0, .int 0, .int 0, .ref (v 15), .int 0, .ref (v 16), .ref (v 17), .int 0, .int 0, .ref (v 18), .ref (v 19), .ref (v 20), .ref (v 21), .int 0, .int 0])), ((v 0), .inl (cI, 14, .inl (fun _ => 0))), ((v 1), .inl (cI, 14, .inl (fun _ => 0))), ((v 2), .inl (cI, 6, .inl (fun _ => 0))), ((v 3), .inl (cI, 6, .inl (fun _ => 0))), ((v 4), .inl (cI, 6, .inl (fun _ => 0))), ((v 5), .inl (cI, 8, .inl (fun _ => 0))), ((v 6), .inl (cI, 8, .inl (fun _ => 0))), ((v 20), .inl (cI, 160, .inl (fun _ => 0))), ((v 21), .inl (cZ, 2, .inl (fun _ => 0)))]) (va_runV (As := [.int (xs 1)]) (rest := []) ⟨hx, hb, hml, hown, hts⟩ (c_X7_image l dC dI cI cZ cK tS aK aV qx (u 18) (u 23) (u 29) (u 31) (u 32) (u 33) (u 34) (u 13) (u 0) (u 1) (u 2) (u 3) (u 4) (u 5) (u 6) (u 7) (u 8) (u 9) (u 35) (u 36) (u 37) (u 38) (u 39) (u 40) (u 41) (u 42) (u 43) (u 44) (u 45) (u 46) (u 47) (u 48) (u 49) (u 50) (u 51) (u 52) (xs 1) H.size) (cwV 1 hts (gw_v (fun _ h9 => h9) wm_761 wm_762 wm_763 wm_2 wm_764) rfl rfl rfl (by decide +kernel) ⟨Nat.le_of_ble_eq_true rfl, Nat.le_of_ble_eq_true rfl⟩) (mx_preV (C := RX7) (T := TX7) (N := 10) (ci := 7) hKx hP hD hS hA [0, 1, 2, 3, 4, 5, 6, 7, 8, 9, 10, 11, 12, 13, 14, 15, 16, 17, 18, 19, 20, 21, 22, 23, 24, 25, 26, 27, 28, 29] (by decide) rfl rfl rfl) rfl rfl hl.1 rfl (lv_room (Nat.le_of_ble_eq_true rfl)) dL_law_935 ⟨Nat.le_of_ble_eq_true rfl, Nat.le_of_ble_eq_true rfl⟩) hP hD hS hA [0, 1, 2, 3, 4, 5, 6, 7, 8, 9, 10, 11, 12, 13, 14, 15, 16, 17, 18, 19, 20, 21, 22, 23, 24, 25, 26, 27, 28, 29] [30, 31, 32, 33, 34, 35, 36, 37, 38, 39] rfl rfl (by decide) (by decide) (fun r3 u3 H locs hq3 hP hD hS => ?_)
  replace hP : va_P (dC, dI) vwCl [(qn, .inr (8, [.int 800, .int 0, .int 0, .int 0, .int 0, .int 0, .int 0, .ref (v 0), .ref (v 1), .int 0, .ref (v 2), .ref (v 3), .ref (v 4), .ref (v 5), .ref (v 6), .int 0, .ref (v 7), .int 0, .ref (v 8), .ref (v 9), .ref (v 10), .int 0, .int 0, .int 0, .int 0, .int 0, .int 0, .int 0, .int 0, .int 0, .ref (v 11), .ref (v 12), .ref (v 13), .ref (v 14), .int 0, .int 0, .int 0, .int 0, .int 0, .int 0, .int 0, .ref (v 15), .int 0, .ref (v 16), .ref (v 17), .int 0, .int 0, .ref (v 18), .ref (v 19), .ref (v 20), .ref (v 21), .int 0, .int 0])), ((v 0), .inl (cI, 14, .inl (fun _ => 0))), ((v 1), .inl (cI, 14, .inl (fun _ => 0))), ((v 2), .inl (cI, 6, .inl (fun _ => 0))), ((v 3), .inl (cI, 6, .inl (fun _ => 0))), ((v 4), .inl (cI, 6, .inl (fun _ => 0))), ((v 5), .inl (cI, 8, .inl (fun _ => 0))), ((v 6), .inl (cI, 8, .inl (fun _ => 0))), ((v 20), .inl (cI, 160, .inl (fun _ => 0))), ((v 21), .inl (cZ, 2, .inl (fun _ => 0)))] H := hP
  replace hD : va_D (fun q : Nat => s.heap.size ≤ q) [(qn, .inr (8, [.int 800, .int 0, .int 0, .int 0, .int 0, .int 0, .int 0, .ref (v 0), .ref (v 1), .int 0, .ref (v 2), .ref (v 3), .ref (v 4), .ref (v 5), .ref (v 6), .int 0, .ref (v 7), .int 0, .ref (v 8), .ref (v 9), .ref (v 10), .int 0, .int 0, .int 0, .int 0, .int 0, .int 0, .int 0, .int 0, .int 0, .ref (v 11), .ref (v 12), .ref (v 13), .ref (v 14), .int 0, .int 0, .int 0, .int 0, .int 0, .int 0, .int 0, .ref (v 15), .int 0, .ref (v 16), .ref (v 17), .int 0, .int 0, .ref (v 18), .ref (v 19), .ref (v 20), .ref (v 21), .int 0, .int 0])), ((v 0), .inl (cI, 14, .inl (fun _ => 0))), ((v 1), .inl (cI, 14, .inl (fun _ => 0))), ((v 2), .inl (cI, 6, .inl (fun _ => 0))), ((v 3), .inl (cI, 6, .inl (fun _ => 0))), ((v 4), .inl (cI, 6, .inl (fun _ => 0))), ((v 5), .inl (cI, 8, .inl (fun _ => 0))), ((v 6), .inl (cI, 8, .inl (fun _ => 0))), ((v 20), .inl (cI, 160, .inl (fun _ => 0))), ((v 21), .inl (cZ, 2, .inl (fun _ => 0)))] := hD
  rcases hq3 with ⟨rfl, hf3⟩ | ⟨rfl, hf3⟩
  · have hf3 : 0 ≤ (xs 1).toInt ∧ (xs 1).toInt ≤ 1 := hf3
    refine lv_aload_n hx hb dL_law_938 rfl (lv_at hl 1 rfl) ?_
    refine lv_aload_n hx hb dL_law_939 rfl (lv_at hl 3 rfl) ?_
    refine lv_iload_n hx hb dL_law_940 rfl (lv_at hl 0 rfl) ?_
    refine lv_iconst (v := 1) hx hb dL_law_941 (by decide) ?_
    refine lv_iadd hx hb dL_law_942 ?_
    refine lv_topi (fun x4 e4 => ?_)
    obtain rfl : x4 = 1 := e4.trans (by decide)
    refine va_sld hx hb hX hbl hbA hS (vin (by decide) (by decide)) dL_law_943 ?_
    refine lv_topi (fun y5 e5 => ?_)
    obtain rfl : y5 = xs 1 := e5
    refine mx_i (wr := []) (va_runV (As := [.int (xs 1)]) (rest := [.int 1]) ⟨hx, hb, hml, hown, hts⟩ (c_X8_image l dC dI cI cZ cK tS aK aV qn (v 0) (v 1) (v 2) (v 3) (v 4) (v 5) (v 6) (v 7) (v 8) (v 9) (v 10) (v 11) (v 12) (v 13) (v 14) (v 15) (v 16) (v 17) (v 18) (v 19) (v 20) (v 21) (xs 1) H.size) (cwV 1 hts (gw_v (fun _ h9 => h9) wm_765 wm_766 wm_767 wm_385 wm_768) rfl rfl rfl (by decide +kernel) ⟨Nat.le_of_ble_eq_true rfl, Nat.le_of_ble_eq_true rfl⟩) (mx_preV (C := RX8) (T := TX8) (N := 53) (ci := 8) hKx hP hD hS hA [0, 8, 1, 2, 3, 4, 5, 6, 7, 9] (by decide) rfl rfl rfl) rfl rfl hl.1 rfl (lv_room (Nat.le_of_ble_eq_true rfl)) dL_law_944 ⟨Nat.le_of_ble_eq_true rfl, Nat.le_of_ble_eq_true rfl⟩) hP hD hS hA [0, 8, 1, 2, 3, 4, 5, 6, 7, 9] [] rfl rfl (by decide) (by decide) (fun r6 u6 H locs hq6 hP hD hS => ?_)
    replace hP : va_P (dC, dI) vwCl [] H := hP
    replace hD : va_D (fun q : Nat => s.heap.size ≤ q) [] := hD
    rcases hq6 with ⟨rfl, hf6⟩ | ⟨rfl, hf6⟩
    · have hf6 : 0 ≤ (xs 1).toInt ∧ (xs 1).toInt ≤ 1 := hf6
      refine lv_icmp_eq (tgt := 998) hx hb dL_law_947 (by decide) (fun c7 => ?_) (fun c7 => absurd c7 (by decide))
      refine lv_iinc (v := 5) (lv' := [(3, .int 5), (2, .ref qn), (1, .ref qx), (0, .ref b)]) hx hb dL_law_998 hl (k := 0) rfl (by decide) (by decide) rfl (fun ls hl => ?_)
      refine lv_goto (tgt := 18) hx hb dL_law_1001 (by decide) ?_
      refine lv_iload_n hx hb dL_law_18 rfl (lv_at hl 0 rfl) ?_
      refine lv_aload_n hx hb dL_law_19 rfl (lv_at hl 3 rfl) ?_
      refine va_slen hx hb hX hbl hbA hS dL_law_20 ?_
      refine lv_topi (fun x8 e8 => ?_)
      obtain rfl : x8 = 5 := e8.trans (by decide)
      refine lv_iconst (v := 5) hx hb dL_law_21 (by decide) ?_
      refine lv_isub hx hb dL_law_22 ?_
      refine lv_topi (fun x9 e9 => ?_)
      obtain rfl : x9 = 0 := e9.trans (by decide)
      refine lv_icmp_gt (tgt := 1004) hx hb dL_law_23 (by decide) (fun c10 => ?_) (fun c10 => absurd c10 (by decide))
      refine lv_iconst (v := 1) hx hb dL_law_1004 (by decide) ?_
      refine va_forget (fun q hq => hS.2.2 q hq) ?_
      refine W.widen (k := 600000) (n := 7302250) (Nat.le_of_ble_eq_true rfl) (Nat.le_of_ble_eq_true rfl) ?_
      exact lw_ret hx hb hr hlocks dL_law_1005
    · have hf6 : (xs 1).toInt < 0 ∨ 1 < (xs 1).toInt := hf6
      refine lv_icmp_eq (tgt := 998) hx hb dL_law_947 (by decide) (fun c11 => absurd c11 (by decide)) (fun c11 => ?_)
      refine lv_iconst (v := 0) hx hb dL_law_950 (by decide) ?_
      exfalso; omega
  · have hf3 : (xs 1).toInt < 0 ∨ 1 < (xs 1).toInt := hf3
    refine lv_aload_n hx hb dL_law_938 rfl (lv_at hl 1 rfl) ?_
    refine lv_aload_n hx hb dL_law_939 rfl (lv_at hl 3 rfl) ?_
    refine lv_iload_n hx hb dL_law_940 rfl (lv_at hl 0 rfl) ?_
    refine lv_iconst (v := 1) hx hb dL_law_941 (by decide) ?_
    refine lv_iadd hx hb dL_law_942 ?_
    refine lv_topi (fun x12 e12 => ?_)
    obtain rfl : x12 = 1 := e12.trans (by decide)
    refine va_sld hx hb hX hbl hbA hS (vin (by decide) (by decide)) dL_law_943 ?_
    refine lv_topi (fun y13 e13 => ?_)
    obtain rfl : y13 = xs 1 := e13
    refine mx_i (wr := []) (va_runV (As := [.int (xs 1)]) (rest := [.int (-2)]) ⟨hx, hb, hml, hown, hts⟩ (c_X8_image l dC dI cI cZ cK tS aK aV qn (v 0) (v 1) (v 2) (v 3) (v 4) (v 5) (v 6) (v 7) (v 8) (v 9) (v 10) (v 11) (v 12) (v 13) (v 14) (v 15) (v 16) (v 17) (v 18) (v 19) (v 20) (v 21) (xs 1) H.size) (cwV 1 hts (gw_v (fun _ h9 => h9) wm_765 wm_766 wm_767 wm_385 wm_768) rfl rfl rfl (by decide +kernel) ⟨Nat.le_of_ble_eq_true rfl, Nat.le_of_ble_eq_true rfl⟩) (mx_preV (C := RX8) (T := TX8) (N := 53) (ci := 8) hKx hP hD hS hA [0, 8, 1, 2, 3, 4, 5, 6, 7, 9] (by decide) rfl rfl rfl) rfl rfl hl.1 rfl (lv_room (Nat.le_of_ble_eq_true rfl)) dL_law_944 ⟨Nat.le_of_ble_eq_true rfl, Nat.le_of_ble_eq_true rfl⟩) hP hD hS hA [0, 8, 1, 2, 3, 4, 5, 6, 7, 9] [] rfl rfl (by decide) (by decide) (fun r14 u14 H locs hq14 hP hD hS => ?_)
    replace hP : va_P (dC, dI) vwCl [] H := hP
    replace hD : va_D (fun q : Nat => s.heap.size ≤ q) [] := hD
    rcases hq14 with ⟨rfl, hf14⟩ | ⟨rfl, hf14⟩
    · have hf14 : 0 ≤ (xs 1).toInt ∧ (xs 1).toInt ≤ 1 := hf14
      refine lv_icmp_eq (tgt := 998) hx hb dL_law_947 (by decide) (fun c15 => absurd c15 (by decide)) (fun c15 => ?_)
      refine lv_iconst (v := 0) hx hb dL_law_950 (by decide) ?_
      exfalso; omega
    · have hf14 : (xs 1).toInt < 0 ∨ 1 < (xs 1).toInt := hf14
      refine lv_icmp_eq (tgt := 998) hx hb dL_law_947 (by decide) (fun c16 => ?_) (fun c16 => absurd c16 (by decide))
      refine lv_iinc (v := 5) (lv' := [(3, .int 5), (2, .ref qn), (1, .ref qx), (0, .ref b)]) hx hb dL_law_998 hl (k := 0) rfl (by decide) (by decide) rfl (fun ls hl => ?_)
      refine lv_goto (tgt := 18) hx hb dL_law_1001 (by decide) ?_
      refine lv_iload_n hx hb dL_law_18 rfl (lv_at hl 0 rfl) ?_
      refine lv_aload_n hx hb dL_law_19 rfl (lv_at hl 3 rfl) ?_
      refine va_slen hx hb hX hbl hbA hS dL_law_20 ?_
      refine lv_topi (fun x17 e17 => ?_)
      obtain rfl : x17 = 5 := e17.trans (by decide)
      refine lv_iconst (v := 5) hx hb dL_law_21 (by decide) ?_
      refine lv_isub hx hb dL_law_22 ?_
      refine lv_topi (fun x18 e18 => ?_)
      obtain rfl : x18 = 0 := e18.trans (by decide)
      refine lv_icmp_gt (tgt := 1004) hx hb dL_law_23 (by decide) (fun c19 => ?_) (fun c19 => absurd c19 (by decide))
      refine lv_iconst (v := 1) hx hb dL_law_1004 (by decide) ?_
      refine va_forget (fun q hq => hS.2.2 q hq) ?_
      refine W.widen (k := 600000) (n := 7302250) (Nat.le_of_ble_eq_true rfl) (Nat.le_of_ble_eq_true rfl) ?_
      exact lw_ret hx hb hr hlocks dL_law_1005
set_option maxHeartbeats 4000000 in
set_option maxRecDepth 100000 in
theorem lc_restore {p : Program} {e : Env} {s : State} {m : MethodId} {below : List Frame} {meth : Method} {c : Code} (l : Launch) {b : Nat} {xs : Nat → Int32} (C0 : lw_At p s m meth c b 5 xs) (dC : Nat → ClassId) (dI : Nat → Nat → Nat) (cI cZ cK : ClassId) (tS aK aV : Nat) (hKx : kx dC dI cI cZ cK tS aK aV (fun q : Nat => s.heap.size ≤ q) s) (qx qn : Nat) (u v : Nat → Nat) (H : Heap) (locs : List Loc) (hP : va_P (dC, dI) vwCl [(qx, .inr (7, [.ref (u 0), .ref (u 9), .ref (u 13), .ref (u 18), .ref (u 23), .ref (u 29), .ref (u 31), .ref (u 32), .ref (u 33), .ref (u 34)])), ((u 0), .inr (0, [.ref (u 1), .ref (u 2), .ref (u 3), .int (-6), .int 0, .int 0, .ref (u 4), .ref (u 5), .ref (u 6), .int 0, .ref (u 7), .ref (u 8)])), ((u 1), .inl (cI, 5, .inl (upd (fun _ => 0) 0 800))), ((u 2), .inl (cI, 14, .inl (fun _ => 0))), ((u 3), .inl (cZ, 14, .inl (fun _ => 0))), ((u 4), .inl (cI, 6, .inl (fun _ => 0))), ((u 5), .inl (cI, 6, .inl (fun _ => 0))), ((u 6), .inl (cI, 6, .inl (fun _ => 0))), ((u 7), .inl (cI, 8, .inl (fun _ => 0))), ((u 8), .inl (cI, 8, .inl (fun _ => 0))), ((u 9), .inr (4, [.ref (u 10), .int 0, .ref (u 11), .ref (u 12), .int 0, .int 0])), ((u 10), .inl (cI, 60, .inl (fun _ => 0))), ((u 11), .inl (cI, 60, .inl (fun _ => 0))), ((u 12), .inl (cI, 60, .inl (fun _ => 0))), ((u 13), .inr (1, [.ref (u 0), .ref (u 9), .ref (u 14), .ref (u 15), .ref (u 16), .ref (u 17), .int 0, .int 0, .int 0, .int 0, .int 0, .int 0, .int 0, .int 0])), ((u 14), .inl (cI, 60, .inl (fun _ => 0))), ((u 15), .inl (cI, 60, .inl (fun _ => 0))), ((u 16), .inl (cI, 60, .inl (fun _ => 0))), ((u 17), .inl (cI, 61, .inl (fun _ => 0))), ((u 18), .inr (3, [.ref (u 0), .ref (u 19), .int 0, .ref (u 20), .ref (u 21), .ref (u 22)])), ((u 19), .inl (cI, 6, .inl (fun _ => 0))), ((u 20), .inl (cI, 6, .inl (fun _ => 0))), ((u 21), .inl (cI, 6, .inl (fun _ => 0))), ((u 22), .inl (cI, 5, .inl (fun _ => 0))), ((u 23), .inr (5, [.ref (u 0), .ref (u 9), .ref (u 13), .ref (u 24), .ref (u 25), .ref (u 26), .ref (u 27), .ref (u 28), .int 0, .int 0, .int 0])), ((u 24), .inl (cI, 61, .inl (fun _ => 0))), ((u 25), .inl (cI, 61, .inl (fun _ => 0))), ((u 26), .inl (cI, 60, .inl (fun _ => 0))), ((u 27), .inl (cI, 60, .inl (fun _ => 0))), ((u 28), .inl (cI, 21, .inl (fun _ => 0))), ((u 29), .inr (2, [.ref (u 0), .ref (u 9), .ref (u 13), .ref (u 30), .long 0, .long 0])), ((u 30), .inl (cI, 60, .inl (fun _ => 0))), ((u 31), .inr (6, [.ref (u 0), .int 0, .int 0, .int 0])), ((u 32), .inl (cK, 2, .inr (.inr (.inr (.inr (va_up (va_up (fun _ => none) 0 (some (u 35))) 1 (some (u 44)))))))), ((u 33), .inl (cZ, 2, .inl (fun _ => 0))), ((u 34), .inl (cI, 4, .inl (fun _ => 0))), ((u 35), .inr (0, [.ref (u 36), .ref (u 37), .ref (u 38), .int (-6), .int 0, .int 0, .ref (u 39), .ref (u 40), .ref (u 41), .int 0, .ref (u 42), .ref (u 43)])), ((u 36), .inl (cI, 5, .inl (upd (fun _ => 0) 0 800))), ((u 37), .inl (cI, 14, .inl (fun _ => 0))), ((u 38), .inl (cZ, 14, .inl (fun _ => 0))), ((u 39), .inl (cI, 6, .inl (fun _ => 0))), ((u 40), .inl (cI, 6, .inl (fun _ => 0))), ((u 41), .inl (cI, 6, .inl (fun _ => 0))), ((u 42), .inl (cI, 8, .inl (fun _ => 0))), ((u 43), .inl (cI, 8, .inl (fun _ => 0))), ((u 44), .inr (0, [.ref (u 45), .ref (u 46), .ref (u 47), .int (-6), .int 0, .int 0, .ref (u 48), .ref (u 49), .ref (u 50), .int 0, .ref (u 51), .ref (u 52)])), ((u 45), .inl (cI, 5, .inl (upd (fun _ => 0) 0 800))), ((u 46), .inl (cI, 14, .inl (fun _ => 0))), ((u 47), .inl (cZ, 14, .inl (fun _ => 0))), ((u 48), .inl (cI, 6, .inl (fun _ => 0))), ((u 49), .inl (cI, 6, .inl (fun _ => 0))), ((u 50), .inl (cI, 6, .inl (fun _ => 0))), ((u 51), .inl (cI, 8, .inl (fun _ => 0))), ((u 52), .inl (cI, 8, .inl (fun _ => 0))), (qn, .inr (8, [.int 800, .int 0, .int 0, .int 0, .int 0, .int 0, .int 0, .ref (v 0), .ref (v 1), .int 0, .ref (v 2), .ref (v 3), .ref (v 4), .ref (v 5), .ref (v 6), .int 0, .ref (v 7), .int 0, .ref (v 8), .ref (v 9), .ref (v 10), .int 0, .int 0, .int 0, .int 0, .int 0, .int 0, .int 0, .int 0, .int 0, .ref (v 11), .ref (v 12), .ref (v 13), .ref (v 14), .int 0, .int 0, .int 0, .int 0, .int 0, .int 0, .int 0, .ref (v 15), .int 0, .ref (v 16), .ref (v 17), .int 0, .int 0, .ref (v 18), .ref (v 19), .ref (v 20), .ref (v 21), .int 0, .int 0])), ((v 0), .inl (cI, 14, .inl (fun _ => 0))), ((v 1), .inl (cI, 14, .inl (fun _ => 0))), ((v 2), .inl (cI, 6, .inl (fun _ => 0))), ((v 3), .inl (cI, 6, .inl (fun _ => 0))), ((v 4), .inl (cI, 6, .inl (fun _ => 0))), ((v 5), .inl (cI, 8, .inl (fun _ => 0))), ((v 6), .inl (cI, 8, .inl (fun _ => 0))), ((v 7), .inl (cI, 60, .inl (fun _ => 0))), ((v 8), .inl (cI, 60, .inl (fun _ => 0))), ((v 9), .inl (cI, 60, .inl (fun _ => 0))), ((v 10), .inl (cI, 60, .inl (fun _ => 0))), ((v 11), .inl (cI, 60, .inl (fun _ => 0))), ((v 12), .inl (cI, 60, .inl (fun _ => 0))), ((v 13), .inl (cI, 14, .inl (fun _ => 0))), ((v 14), .inl (cI, 61, .inl (fun _ => 0))), ((v 15), .inl (cI, 6, .inl (fun _ => 0))), ((v 16), .inl (cI, 6, .inl (fun _ => 0))), ((v 17), .inl (cI, 28, .inl (fun _ => 0))), ((v 18), .inl (cI, 1260, .inl (fun _ => 0))), ((v 19), .inl (cI, 4, .inl (fun _ => 0))), ((v 20), .inl (cI, 160, .inl (fun _ => 0))), ((v 21), .inl (cZ, 2, .inl (fun _ => 0)))] H) (hD : va_D (fun q : Nat => s.heap.size ≤ q) [(qx, .inr (7, [.ref (u 0), .ref (u 9), .ref (u 13), .ref (u 18), .ref (u 23), .ref (u 29), .ref (u 31), .ref (u 32), .ref (u 33), .ref (u 34)])), ((u 0), .inr (0, [.ref (u 1), .ref (u 2), .ref (u 3), .int (-6), .int 0, .int 0, .ref (u 4), .ref (u 5), .ref (u 6), .int 0, .ref (u 7), .ref (u 8)])), ((u 1), .inl (cI, 5, .inl (upd (fun _ => 0) 0 800))), ((u 2), .inl (cI, 14, .inl (fun _ => 0))), ((u 3), .inl (cZ, 14, .inl (fun _ => 0))), ((u 4), .inl (cI, 6, .inl (fun _ => 0))), ((u 5), .inl (cI, 6, .inl (fun _ => 0))), ((u 6), .inl (cI, 6, .inl (fun _ => 0))), ((u 7), .inl (cI, 8, .inl (fun _ => 0))), ((u 8), .inl (cI, 8, .inl (fun _ => 0))), ((u 9), .inr (4, [.ref (u 10), .int 0, .ref (u 11), .ref (u 12), .int 0, .int 0])), ((u 10), .inl (cI, 60, .inl (fun _ => 0))), ((u 11), .inl (cI, 60, .inl (fun _ => 0))), ((u 12), .inl (cI, 60, .inl (fun _ => 0))), ((u 13), .inr (1, [.ref (u 0), .ref (u 9), .ref (u 14), .ref (u 15), .ref (u 16), .ref (u 17), .int 0, .int 0, .int 0, .int 0, .int 0, .int 0, .int 0, .int 0])), ((u 14), .inl (cI, 60, .inl (fun _ => 0))), ((u 15), .inl (cI, 60, .inl (fun _ => 0))), ((u 16), .inl (cI, 60, .inl (fun _ => 0))), ((u 17), .inl (cI, 61, .inl (fun _ => 0))), ((u 18), .inr (3, [.ref (u 0), .ref (u 19), .int 0, .ref (u 20), .ref (u 21), .ref (u 22)])), ((u 19), .inl (cI, 6, .inl (fun _ => 0))), ((u 20), .inl (cI, 6, .inl (fun _ => 0))), ((u 21), .inl (cI, 6, .inl (fun _ => 0))), ((u 22), .inl (cI, 5, .inl (fun _ => 0))), ((u 23), .inr (5, [.ref (u 0), .ref (u 9), .ref (u 13), .ref (u 24), .ref (u 25), .ref (u 26), .ref (u 27), .ref (u 28), .int 0, .int 0, .int 0])), ((u 24), .inl (cI, 61, .inl (fun _ => 0))), ((u 25), .inl (cI, 61, .inl (fun _ => 0))), ((u 26), .inl (cI, 60, .inl (fun _ => 0))), ((u 27), .inl (cI, 60, .inl (fun _ => 0))), ((u 28), .inl (cI, 21, .inl (fun _ => 0))), ((u 29), .inr (2, [.ref (u 0), .ref (u 9), .ref (u 13), .ref (u 30), .long 0, .long 0])), ((u 30), .inl (cI, 60, .inl (fun _ => 0))), ((u 31), .inr (6, [.ref (u 0), .int 0, .int 0, .int 0])), ((u 32), .inl (cK, 2, .inr (.inr (.inr (.inr (va_up (va_up (fun _ => none) 0 (some (u 35))) 1 (some (u 44)))))))), ((u 33), .inl (cZ, 2, .inl (fun _ => 0))), ((u 34), .inl (cI, 4, .inl (fun _ => 0))), ((u 35), .inr (0, [.ref (u 36), .ref (u 37), .ref (u 38), .int (-6), .int 0, .int 0, .ref (u 39), .ref (u 40), .ref (u 41), .int 0, .ref (u 42), .ref (u 43)])), ((u 36), .inl (cI, 5, .inl (upd (fun _ => 0) 0 800))), ((u 37), .inl (cI, 14, .inl (fun _ => 0))), ((u 38), .inl (cZ, 14, .inl (fun _ => 0))), ((u 39), .inl (cI, 6, .inl (fun _ => 0))), ((u 40), .inl (cI, 6, .inl (fun _ => 0))), ((u 41), .inl (cI, 6, .inl (fun _ => 0))), ((u 42), .inl (cI, 8, .inl (fun _ => 0))), ((u 43), .inl (cI, 8, .inl (fun _ => 0))), ((u 44), .inr (0, [.ref (u 45), .ref (u 46), .ref (u 47), .int (-6), .int 0, .int 0, .ref (u 48), .ref (u 49), .ref (u 50), .int 0, .ref (u 51), .ref (u 52)])), ((u 45), .inl (cI, 5, .inl (upd (fun _ => 0) 0 800))), ((u 46), .inl (cI, 14, .inl (fun _ => 0))), ((u 47), .inl (cZ, 14, .inl (fun _ => 0))), ((u 48), .inl (cI, 6, .inl (fun _ => 0))), ((u 49), .inl (cI, 6, .inl (fun _ => 0))), ((u 50), .inl (cI, 6, .inl (fun _ => 0))), ((u 51), .inl (cI, 8, .inl (fun _ => 0))), ((u 52), .inl (cI, 8, .inl (fun _ => 0))), (qn, .inr (8, [.int 800, .int 0, .int 0, .int 0, .int 0, .int 0, .int 0, .ref (v 0), .ref (v 1), .int 0, .ref (v 2), .ref (v 3), .ref (v 4), .ref (v 5), .ref (v 6), .int 0, .ref (v 7), .int 0, .ref (v 8), .ref (v 9), .ref (v 10), .int 0, .int 0, .int 0, .int 0, .int 0, .int 0, .int 0, .int 0, .int 0, .ref (v 11), .ref (v 12), .ref (v 13), .ref (v 14), .int 0, .int 0, .int 0, .int 0, .int 0, .int 0, .int 0, .ref (v 15), .int 0, .ref (v 16), .ref (v 17), .int 0, .int 0, .ref (v 18), .ref (v 19), .ref (v 20), .ref (v 21), .int 0, .int 0])), ((v 0), .inl (cI, 14, .inl (fun _ => 0))), ((v 1), .inl (cI, 14, .inl (fun _ => 0))), ((v 2), .inl (cI, 6, .inl (fun _ => 0))), ((v 3), .inl (cI, 6, .inl (fun _ => 0))), ((v 4), .inl (cI, 6, .inl (fun _ => 0))), ((v 5), .inl (cI, 8, .inl (fun _ => 0))), ((v 6), .inl (cI, 8, .inl (fun _ => 0))), ((v 7), .inl (cI, 60, .inl (fun _ => 0))), ((v 8), .inl (cI, 60, .inl (fun _ => 0))), ((v 9), .inl (cI, 60, .inl (fun _ => 0))), ((v 10), .inl (cI, 60, .inl (fun _ => 0))), ((v 11), .inl (cI, 60, .inl (fun _ => 0))), ((v 12), .inl (cI, 60, .inl (fun _ => 0))), ((v 13), .inl (cI, 14, .inl (fun _ => 0))), ((v 14), .inl (cI, 61, .inl (fun _ => 0))), ((v 15), .inl (cI, 6, .inl (fun _ => 0))), ((v 16), .inl (cI, 6, .inl (fun _ => 0))), ((v 17), .inl (cI, 28, .inl (fun _ => 0))), ((v 18), .inl (cI, 1260, .inl (fun _ => 0))), ((v 19), .inl (cI, 4, .inl (fun _ => 0))), ((v 20), .inl (cI, 160, .inl (fun _ => 0))), ((v 21), .inl (cZ, 2, .inl (fun _ => 0)))]) (hS : va_S (fun q : Nat => s.heap.size ≤ q) s.heap H locs) (ls : Array Slot) (hl : lv_has ls 4 [(3, .int 0), (2, .ref qn), (1, .ref qx), (0, .ref b)]) : W p l e room_1 s m #[Value.ref b] below meth c H locs 77 3085 (lw_Z below #[Value.ref b] s) (F0 m 952 ls []) := by
  obtain ⟨hx, hb, hr, hml, hown, hts, hX, hbl, hlocks, hgv⟩ := C0
  have hts := fun w h => hts w (wsL_law_in w h)
  have hown : s.vm.findClass RL = some m.cls := hown
  have hA : ∀ q : Nat, s.heap.size ≤ q → (fun q : Nat => s.heap.size ≤ q) q := fun _ h => h
  have hbA : ¬ (fun q : Nat => s.heap.size ≤ q) b := Nat.not_le.mpr hbl
  have hK := hKx.1
  replace hP := mx_subP (wc := [(qx, .inr (7, [.ref (u 0), .ref (u 9), .ref (u 13), .ref (u 18), .ref (u 23), .ref (u 29), .ref (u 31), .ref (u 32), .ref (u 33), .ref (u 34)])), ((u 33), .inl (cZ, 2, .inl (fun _ => 0))), (qn, .inr (8, [.int 800, .int 0, .int 0, .int 0, .int 0, .int 0, .int 0, .ref (v 0), .ref (v 1), .int 0, .ref (v 2), .ref (v 3), .ref (v 4), .ref (v 5), .ref (v 6), .int 0, .ref (v 7), .int 0, .ref (v 8), .ref (v 9), .ref (v 10), .int 0, .int 0, .int 0, .int 0, .int 0, .int 0, .int 0, .int 0, .int 0, .ref (v 11), .ref (v 12), .ref (v 13), .ref (v 14), .int 0, .int 0, .int 0, .int 0, .int 0, .int 0, .int 0, .ref (v 15), .int 0, .ref (v 16), .ref (v 17), .int 0, .int 0, .ref (v 18), .ref (v 19), .ref (v 20), .ref (v 21), .int 0, .int 0])), ((v 21), .inl (cZ, 2, .inl (fun _ => 0)))]) hP [0, 34, 54, 76] rfl
  replace hD := hD.sub (ws' := [(qx, .inr (7, [.ref (u 0), .ref (u 9), .ref (u 13), .ref (u 18), .ref (u 23), .ref (u 29), .ref (u 31), .ref (u 32), .ref (u 33), .ref (u 34)])), ((u 33), .inl (cZ, 2, .inl (fun _ => 0))), (qn, .inr (8, [.int 800, .int 0, .int 0, .int 0, .int 0, .int 0, .int 0, .ref (v 0), .ref (v 1), .int 0, .ref (v 2), .ref (v 3), .ref (v 4), .ref (v 5), .ref (v 6), .int 0, .ref (v 7), .int 0, .ref (v 8), .ref (v 9), .ref (v 10), .int 0, .int 0, .int 0, .int 0, .int 0, .int 0, .int 0, .int 0, .int 0, .ref (v 11), .ref (v 12), .ref (v 13), .ref (v 14), .int 0, .int 0, .int 0, .int 0, .int 0, .int 0, .int 0, .ref (v 15), .int 0, .ref (v 16), .ref (v 17), .int 0, .int 0, .ref (v 18), .ref (v 19), .ref (v 20), .ref (v 21), .int 0, .int 0])), ((v 21), .inl (cZ, 2, .inl (fun _ => 0)))]) [0, 34, 54, 76] (by decide) rfl
  refine lv_aload_n hx hb dL_law_952 rfl (lv_at hl 2 rfl) ?_
  refine lv_aload_n hx hb dL_law_953 rfl (lv_at hl 3 rfl) ?_
  refine lv_iload_n hx hb dL_law_954 rfl (lv_at hl 0 rfl) ?_
  refine lv_iconst (v := 1) hx hb dL_law_955 (by decide) ?_
  refine lv_iadd hx hb dL_law_956 ?_
  refine lv_topi (fun x1 e1 => ?_)
  obtain rfl : x1 = 1 := e1.trans (by decide)
  refine va_sld hx hb hX hbl hbA hS (vin (by decide) (by decide)) dL_law_957 ?_
  refine lv_topi (fun y2 e2 => ?_)
  obtain rfl : y2 = xs 1 := e2
  refine mx_i (wr := [(qn, .inr (8, [.int 800, .int 0, .int 0, .int 0, .int 0, .int 0, .int 0, .ref (v 0), .ref (v 1), .int 0, .ref (v 2), .ref (v 3), .ref (v 4), .ref (v 5), .ref (v 6), .int 0, .ref (v 7), .int 0, .ref (v 8), .ref (v 9), .ref (v 10), .int 0, .int 0, .int 0, .int 0, .int 0, .int 0, .int 0, .int 0, .int 0, .ref (v 11), .ref (v 12), .ref (v 13), .ref (v 14), .int 0, .int 0, .int 0, .int 0, .int 0, .int 0, .int 0, .ref (v 15), .int 0, .ref (v 16), .ref (v 17), .int 0, .int 0, .ref (v 18), .ref (v 19), .ref (v 20), .ref (v 21), .int 0, .int 0])), ((v 21), .inl (cZ, 2, .inl (fun _ => 0)))]) (va_runV (As := [.int (xs 1)]) (rest := []) ⟨hx, hb, hml, hown, hts⟩ (c_X7_restore l dC dI cI cZ cK tS aK aV qx (u 18) (u 23) (u 29) (u 31) (u 32) (u 33) (u 34) (u 13) (u 0) (u 9) (xs 1) H.size) (cwV 1 hts (gw_v (fun _ h9 => h9) wm_769 wm_770 wm_771 wm_2 wm_772) rfl rfl rfl (by decide +kernel) ⟨Nat.le_of_ble_eq_true rfl, Nat.le_of_ble_eq_true rfl⟩) (mx_preV (C := RX7) (T := TX7) (N := 10) (ci := 7) hKx hP hD hS hA [0, 1] (by decide) rfl rfl rfl) rfl rfl hl.1 rfl (lv_room (Nat.le_of_ble_eq_true rfl)) dL_law_958 ⟨Nat.le_of_ble_eq_true rfl, Nat.le_of_ble_eq_true rfl⟩) hP hD hS hA [0, 1] [2, 3] rfl rfl (by decide) (by decide) (fun r3 u3 H locs hq3 hP hD hS => ?_)
  replace hP : va_P (dC, dI) vwCl [(qn, .inr (8, [.int 800, .int 0, .int 0, .int 0, .int 0, .int 0, .int 0, .ref (v 0), .ref (v 1), .int 0, .ref (v 2), .ref (v 3), .ref (v 4), .ref (v 5), .ref (v 6), .int 0, .ref (v 7), .int 0, .ref (v 8), .ref (v 9), .ref (v 10), .int 0, .int 0, .int 0, .int 0, .int 0, .int 0, .int 0, .int 0, .int 0, .ref (v 11), .ref (v 12), .ref (v 13), .ref (v 14), .int 0, .int 0, .int 0, .int 0, .int 0, .int 0, .int 0, .ref (v 15), .int 0, .ref (v 16), .ref (v 17), .int 0, .int 0, .ref (v 18), .ref (v 19), .ref (v 20), .ref (v 21), .int 0, .int 0])), ((v 21), .inl (cZ, 2, .inl (fun _ => 0)))] H := hP
  replace hD : va_D (fun q : Nat => s.heap.size ≤ q) [(qn, .inr (8, [.int 800, .int 0, .int 0, .int 0, .int 0, .int 0, .int 0, .ref (v 0), .ref (v 1), .int 0, .ref (v 2), .ref (v 3), .ref (v 4), .ref (v 5), .ref (v 6), .int 0, .ref (v 7), .int 0, .ref (v 8), .ref (v 9), .ref (v 10), .int 0, .int 0, .int 0, .int 0, .int 0, .int 0, .int 0, .int 0, .int 0, .ref (v 11), .ref (v 12), .ref (v 13), .ref (v 14), .int 0, .int 0, .int 0, .int 0, .int 0, .int 0, .int 0, .ref (v 15), .int 0, .ref (v 16), .ref (v 17), .int 0, .int 0, .ref (v 18), .ref (v 19), .ref (v 20), .ref (v 21), .int 0, .int 0])), ((v 21), .inl (cZ, 2, .inl (fun _ => 0)))] := hD
  rcases hq3 with ⟨rfl, hf3⟩ | ⟨rfl, hf3⟩
  · have hf3 : 0 ≤ (xs 1).toInt ∧ (xs 1).toInt ≤ 1 := hf3
    refine lv_aload_n hx hb dL_law_961 rfl (lv_at hl 1 rfl) ?_
    refine lv_aload_n hx hb dL_law_962 rfl (lv_at hl 3 rfl) ?_
    refine lv_iload_n hx hb dL_law_963 rfl (lv_at hl 0 rfl) ?_
    refine lv_iconst (v := 1) hx hb dL_law_964 (by decide) ?_
    refine lv_iadd hx hb dL_law_965 ?_
    refine lv_topi (fun x4 e4 => ?_)
    obtain rfl : x4 = 1 := e4.trans (by decide)
    refine va_sld hx hb hX hbl hbA hS (vin (by decide) (by decide)) dL_law_966 ?_
    refine lv_topi (fun y5 e5 => ?_)
    obtain rfl : y5 = xs 1 := e5
    refine mx_i (wr := []) (va_runV (As := [.int (xs 1)]) (rest := [.int (-3)]) ⟨hx, hb, hml, hown, hts⟩ (c_X8_restore l dC dI cI cZ cK tS aK aV qn (v 0) (v 1) (v 2) (v 3) (v 4) (v 5) (v 6) (v 7) (v 8) (v 9) (v 10) (v 11) (v 12) (v 13) (v 14) (v 15) (v 16) (v 17) (v 18) (v 19) (v 20) (v 21) (xs 1) H.size) (cwV 1 hts (gw_v (fun _ h9 => h9) wm_773 wm_774 wm_775 wm_385 wm_776) rfl rfl rfl (by decide +kernel) ⟨Nat.le_of_ble_eq_true rfl, Nat.le_of_ble_eq_true rfl⟩) (mx_preV (C := RX8) (T := TX8) (N := 53) (ci := 8) hKx hP hD hS hA [0, 1] (by decide) rfl rfl rfl) rfl rfl hl.1 rfl (lv_room (Nat.le_of_ble_eq_true rfl)) dL_law_967 ⟨Nat.le_of_ble_eq_true rfl, Nat.le_of_ble_eq_true rfl⟩) hP hD hS hA [0, 1] [] rfl rfl (by decide) (by decide) (fun r6 u6 H locs hq6 hP hD hS => ?_)
    replace hP : va_P (dC, dI) vwCl [] H := hP
    replace hD : va_D (fun q : Nat => s.heap.size ≤ q) [] := hD
    rcases hq6 with ⟨rfl, hf6⟩ | ⟨rfl, hf6⟩
    · have hf6 : 0 ≤ (xs 1).toInt ∧ (xs 1).toInt ≤ 1 := hf6
      refine lv_icmp_eq (tgt := 998) hx hb dL_law_970 (by decide) (fun c7 => ?_) (fun c7 => absurd c7 (by decide))
      refine lv_iinc (v := 5) (lv' := [(3, .int 5), (2, .ref qn), (1, .ref qx), (0, .ref b)]) hx hb dL_law_998 hl (k := 0) rfl (by decide) (by decide) rfl (fun ls hl => ?_)
      refine lv_goto (tgt := 18) hx hb dL_law_1001 (by decide) ?_
      refine lv_iload_n hx hb dL_law_18 rfl (lv_at hl 0 rfl) ?_
      refine lv_aload_n hx hb dL_law_19 rfl (lv_at hl 3 rfl) ?_
      refine va_slen hx hb hX hbl hbA hS dL_law_20 ?_
      refine lv_topi (fun x8 e8 => ?_)
      obtain rfl : x8 = 5 := e8.trans (by decide)
      refine lv_iconst (v := 5) hx hb dL_law_21 (by decide) ?_
      refine lv_isub hx hb dL_law_22 ?_
      refine lv_topi (fun x9 e9 => ?_)
      obtain rfl : x9 = 0 := e9.trans (by decide)
      refine lv_icmp_gt (tgt := 1004) hx hb dL_law_23 (by decide) (fun c10 => ?_) (fun c10 => absurd c10 (by decide))
      refine lv_iconst (v := 1) hx hb dL_law_1004 (by decide) ?_
      refine va_forget (fun q hq => hS.2.2 q hq) ?_
      refine W.widen (k := 600000) (n := 7302250) (Nat.le_of_ble_eq_true rfl) (Nat.le_of_ble_eq_true rfl) ?_
      exact lw_ret hx hb hr hlocks dL_law_1005
    · have hf6 : (xs 1).toInt < 0 ∨ 1 < (xs 1).toInt := hf6
      refine lv_icmp_eq (tgt := 998) hx hb dL_law_970 (by decide) (fun c11 => absurd c11 (by decide)) (fun c11 => ?_)
      refine lv_iconst (v := 0) hx hb dL_law_973 (by decide) ?_
      exfalso; omega
  · have hf3 : (xs 1).toInt < 0 ∨ 1 < (xs 1).toInt := hf3
    refine lv_aload_n hx hb dL_law_961 rfl (lv_at hl 1 rfl) ?_
    refine lv_aload_n hx hb dL_law_962 rfl (lv_at hl 3 rfl) ?_
    refine lv_iload_n hx hb dL_law_963 rfl (lv_at hl 0 rfl) ?_
    refine lv_iconst (v := 1) hx hb dL_law_964 (by decide) ?_
    refine lv_iadd hx hb dL_law_965 ?_
    refine lv_topi (fun x12 e12 => ?_)
    obtain rfl : x12 = 1 := e12.trans (by decide)
    refine va_sld hx hb hX hbl hbA hS (vin (by decide) (by decide)) dL_law_966 ?_
    refine lv_topi (fun y13 e13 => ?_)
    obtain rfl : y13 = xs 1 := e13
    refine mx_i (wr := []) (va_runV (As := [.int (xs 1)]) (rest := [.int (-2)]) ⟨hx, hb, hml, hown, hts⟩ (c_X8_restore l dC dI cI cZ cK tS aK aV qn (v 0) (v 1) (v 2) (v 3) (v 4) (v 5) (v 6) (v 7) (v 8) (v 9) (v 10) (v 11) (v 12) (v 13) (v 14) (v 15) (v 16) (v 17) (v 18) (v 19) (v 20) (v 21) (xs 1) H.size) (cwV 1 hts (gw_v (fun _ h9 => h9) wm_773 wm_774 wm_775 wm_385 wm_776) rfl rfl rfl (by decide +kernel) ⟨Nat.le_of_ble_eq_true rfl, Nat.le_of_ble_eq_true rfl⟩) (mx_preV (C := RX8) (T := TX8) (N := 53) (ci := 8) hKx hP hD hS hA [0, 1] (by decide) rfl rfl rfl) rfl rfl hl.1 rfl (lv_room (Nat.le_of_ble_eq_true rfl)) dL_law_967 ⟨Nat.le_of_ble_eq_true rfl, Nat.le_of_ble_eq_true rfl⟩) hP hD hS hA [0, 1] [] rfl rfl (by decide) (by decide) (fun r14 u14 H locs hq14 hP hD hS => ?_)
    replace hP : va_P (dC, dI) vwCl [] H := hP
    replace hD : va_D (fun q : Nat => s.heap.size ≤ q) [] := hD
    rcases hq14 with ⟨rfl, hf14⟩ | ⟨rfl, hf14⟩
    · have hf14 : 0 ≤ (xs 1).toInt ∧ (xs 1).toInt ≤ 1 := hf14
      refine lv_icmp_eq (tgt := 998) hx hb dL_law_970 (by decide) (fun c15 => absurd c15 (by decide)) (fun c15 => ?_)
      refine lv_iconst (v := 0) hx hb dL_law_973 (by decide) ?_
      exfalso; omega
    · have hf14 : (xs 1).toInt < 0 ∨ 1 < (xs 1).toInt := hf14
      refine lv_icmp_eq (tgt := 998) hx hb dL_law_970 (by decide) (fun c16 => ?_) (fun c16 => absurd c16 (by decide))
      refine lv_iinc (v := 5) (lv' := [(3, .int 5), (2, .ref qn), (1, .ref qx), (0, .ref b)]) hx hb dL_law_998 hl (k := 0) rfl (by decide) (by decide) rfl (fun ls hl => ?_)
      refine lv_goto (tgt := 18) hx hb dL_law_1001 (by decide) ?_
      refine lv_iload_n hx hb dL_law_18 rfl (lv_at hl 0 rfl) ?_
      refine lv_aload_n hx hb dL_law_19 rfl (lv_at hl 3 rfl) ?_
      refine va_slen hx hb hX hbl hbA hS dL_law_20 ?_
      refine lv_topi (fun x17 e17 => ?_)
      obtain rfl : x17 = 5 := e17.trans (by decide)
      refine lv_iconst (v := 5) hx hb dL_law_21 (by decide) ?_
      refine lv_isub hx hb dL_law_22 ?_
      refine lv_topi (fun x18 e18 => ?_)
      obtain rfl : x18 = 0 := e18.trans (by decide)
      refine lv_icmp_gt (tgt := 1004) hx hb dL_law_23 (by decide) (fun c19 => ?_) (fun c19 => absurd c19 (by decide))
      refine lv_iconst (v := 1) hx hb dL_law_1004 (by decide) ?_
      refine va_forget (fun q hq => hS.2.2 q hq) ?_
      refine W.widen (k := 600000) (n := 7302250) (Nat.le_of_ble_eq_true rfl) (Nat.le_of_ble_eq_true rfl) ?_
      exact lw_ret hx hb hr hlocks dL_law_1005
set_option maxHeartbeats 4000000 in
set_option maxRecDepth 100000 in
theorem lc_told {p : Program} {e : Env} {s : State} {m : MethodId} {below : List Frame} {meth : Method} {c : Code} (l : Launch) {b : Nat} {xs : Nat → Int32} (C0 : lw_At p s m meth c b 5 xs) (dC : Nat → ClassId) (dI : Nat → Nat → Nat) (cI cZ cK : ClassId) (tS aK aV : Nat) (hKx : kx dC dI cI cZ cK tS aK aV (fun q : Nat => s.heap.size ≤ q) s) (qx qn : Nat) (u v : Nat → Nat) (H : Heap) (locs : List Loc) (hP : va_P (dC, dI) vwCl [(qx, .inr (7, [.ref (u 0), .ref (u 9), .ref (u 13), .ref (u 18), .ref (u 23), .ref (u 29), .ref (u 31), .ref (u 32), .ref (u 33), .ref (u 34)])), ((u 0), .inr (0, [.ref (u 1), .ref (u 2), .ref (u 3), .int (-6), .int 0, .int 0, .ref (u 4), .ref (u 5), .ref (u 6), .int 0, .ref (u 7), .ref (u 8)])), ((u 1), .inl (cI, 5, .inl (upd (fun _ => 0) 0 800))), ((u 2), .inl (cI, 14, .inl (fun _ => 0))), ((u 3), .inl (cZ, 14, .inl (fun _ => 0))), ((u 4), .inl (cI, 6, .inl (fun _ => 0))), ((u 5), .inl (cI, 6, .inl (fun _ => 0))), ((u 6), .inl (cI, 6, .inl (fun _ => 0))), ((u 7), .inl (cI, 8, .inl (fun _ => 0))), ((u 8), .inl (cI, 8, .inl (fun _ => 0))), ((u 9), .inr (4, [.ref (u 10), .int 0, .ref (u 11), .ref (u 12), .int 0, .int 0])), ((u 10), .inl (cI, 60, .inl (fun _ => 0))), ((u 11), .inl (cI, 60, .inl (fun _ => 0))), ((u 12), .inl (cI, 60, .inl (fun _ => 0))), ((u 13), .inr (1, [.ref (u 0), .ref (u 9), .ref (u 14), .ref (u 15), .ref (u 16), .ref (u 17), .int 0, .int 0, .int 0, .int 0, .int 0, .int 0, .int 0, .int 0])), ((u 14), .inl (cI, 60, .inl (fun _ => 0))), ((u 15), .inl (cI, 60, .inl (fun _ => 0))), ((u 16), .inl (cI, 60, .inl (fun _ => 0))), ((u 17), .inl (cI, 61, .inl (fun _ => 0))), ((u 18), .inr (3, [.ref (u 0), .ref (u 19), .int 0, .ref (u 20), .ref (u 21), .ref (u 22)])), ((u 19), .inl (cI, 6, .inl (fun _ => 0))), ((u 20), .inl (cI, 6, .inl (fun _ => 0))), ((u 21), .inl (cI, 6, .inl (fun _ => 0))), ((u 22), .inl (cI, 5, .inl (fun _ => 0))), ((u 23), .inr (5, [.ref (u 0), .ref (u 9), .ref (u 13), .ref (u 24), .ref (u 25), .ref (u 26), .ref (u 27), .ref (u 28), .int 0, .int 0, .int 0])), ((u 24), .inl (cI, 61, .inl (fun _ => 0))), ((u 25), .inl (cI, 61, .inl (fun _ => 0))), ((u 26), .inl (cI, 60, .inl (fun _ => 0))), ((u 27), .inl (cI, 60, .inl (fun _ => 0))), ((u 28), .inl (cI, 21, .inl (fun _ => 0))), ((u 29), .inr (2, [.ref (u 0), .ref (u 9), .ref (u 13), .ref (u 30), .long 0, .long 0])), ((u 30), .inl (cI, 60, .inl (fun _ => 0))), ((u 31), .inr (6, [.ref (u 0), .int 0, .int 0, .int 0])), ((u 32), .inl (cK, 2, .inr (.inr (.inr (.inr (va_up (va_up (fun _ => none) 0 (some (u 35))) 1 (some (u 44)))))))), ((u 33), .inl (cZ, 2, .inl (fun _ => 0))), ((u 34), .inl (cI, 4, .inl (fun _ => 0))), ((u 35), .inr (0, [.ref (u 36), .ref (u 37), .ref (u 38), .int (-6), .int 0, .int 0, .ref (u 39), .ref (u 40), .ref (u 41), .int 0, .ref (u 42), .ref (u 43)])), ((u 36), .inl (cI, 5, .inl (upd (fun _ => 0) 0 800))), ((u 37), .inl (cI, 14, .inl (fun _ => 0))), ((u 38), .inl (cZ, 14, .inl (fun _ => 0))), ((u 39), .inl (cI, 6, .inl (fun _ => 0))), ((u 40), .inl (cI, 6, .inl (fun _ => 0))), ((u 41), .inl (cI, 6, .inl (fun _ => 0))), ((u 42), .inl (cI, 8, .inl (fun _ => 0))), ((u 43), .inl (cI, 8, .inl (fun _ => 0))), ((u 44), .inr (0, [.ref (u 45), .ref (u 46), .ref (u 47), .int (-6), .int 0, .int 0, .ref (u 48), .ref (u 49), .ref (u 50), .int 0, .ref (u 51), .ref (u 52)])), ((u 45), .inl (cI, 5, .inl (upd (fun _ => 0) 0 800))), ((u 46), .inl (cI, 14, .inl (fun _ => 0))), ((u 47), .inl (cZ, 14, .inl (fun _ => 0))), ((u 48), .inl (cI, 6, .inl (fun _ => 0))), ((u 49), .inl (cI, 6, .inl (fun _ => 0))), ((u 50), .inl (cI, 6, .inl (fun _ => 0))), ((u 51), .inl (cI, 8, .inl (fun _ => 0))), ((u 52), .inl (cI, 8, .inl (fun _ => 0))), (qn, .inr (8, [.int 800, .int 0, .int 0, .int 0, .int 0, .int 0, .int 0, .ref (v 0), .ref (v 1), .int 0, .ref (v 2), .ref (v 3), .ref (v 4), .ref (v 5), .ref (v 6), .int 0, .ref (v 7), .int 0, .ref (v 8), .ref (v 9), .ref (v 10), .int 0, .int 0, .int 0, .int 0, .int 0, .int 0, .int 0, .int 0, .int 0, .ref (v 11), .ref (v 12), .ref (v 13), .ref (v 14), .int 0, .int 0, .int 0, .int 0, .int 0, .int 0, .int 0, .ref (v 15), .int 0, .ref (v 16), .ref (v 17), .int 0, .int 0, .ref (v 18), .ref (v 19), .ref (v 20), .ref (v 21), .int 0, .int 0])), ((v 0), .inl (cI, 14, .inl (fun _ => 0))), ((v 1), .inl (cI, 14, .inl (fun _ => 0))), ((v 2), .inl (cI, 6, .inl (fun _ => 0))), ((v 3), .inl (cI, 6, .inl (fun _ => 0))), ((v 4), .inl (cI, 6, .inl (fun _ => 0))), ((v 5), .inl (cI, 8, .inl (fun _ => 0))), ((v 6), .inl (cI, 8, .inl (fun _ => 0))), ((v 7), .inl (cI, 60, .inl (fun _ => 0))), ((v 8), .inl (cI, 60, .inl (fun _ => 0))), ((v 9), .inl (cI, 60, .inl (fun _ => 0))), ((v 10), .inl (cI, 60, .inl (fun _ => 0))), ((v 11), .inl (cI, 60, .inl (fun _ => 0))), ((v 12), .inl (cI, 60, .inl (fun _ => 0))), ((v 13), .inl (cI, 14, .inl (fun _ => 0))), ((v 14), .inl (cI, 61, .inl (fun _ => 0))), ((v 15), .inl (cI, 6, .inl (fun _ => 0))), ((v 16), .inl (cI, 6, .inl (fun _ => 0))), ((v 17), .inl (cI, 28, .inl (fun _ => 0))), ((v 18), .inl (cI, 1260, .inl (fun _ => 0))), ((v 19), .inl (cI, 4, .inl (fun _ => 0))), ((v 20), .inl (cI, 160, .inl (fun _ => 0))), ((v 21), .inl (cZ, 2, .inl (fun _ => 0)))] H) (hD : va_D (fun q : Nat => s.heap.size ≤ q) [(qx, .inr (7, [.ref (u 0), .ref (u 9), .ref (u 13), .ref (u 18), .ref (u 23), .ref (u 29), .ref (u 31), .ref (u 32), .ref (u 33), .ref (u 34)])), ((u 0), .inr (0, [.ref (u 1), .ref (u 2), .ref (u 3), .int (-6), .int 0, .int 0, .ref (u 4), .ref (u 5), .ref (u 6), .int 0, .ref (u 7), .ref (u 8)])), ((u 1), .inl (cI, 5, .inl (upd (fun _ => 0) 0 800))), ((u 2), .inl (cI, 14, .inl (fun _ => 0))), ((u 3), .inl (cZ, 14, .inl (fun _ => 0))), ((u 4), .inl (cI, 6, .inl (fun _ => 0))), ((u 5), .inl (cI, 6, .inl (fun _ => 0))), ((u 6), .inl (cI, 6, .inl (fun _ => 0))), ((u 7), .inl (cI, 8, .inl (fun _ => 0))), ((u 8), .inl (cI, 8, .inl (fun _ => 0))), ((u 9), .inr (4, [.ref (u 10), .int 0, .ref (u 11), .ref (u 12), .int 0, .int 0])), ((u 10), .inl (cI, 60, .inl (fun _ => 0))), ((u 11), .inl (cI, 60, .inl (fun _ => 0))), ((u 12), .inl (cI, 60, .inl (fun _ => 0))), ((u 13), .inr (1, [.ref (u 0), .ref (u 9), .ref (u 14), .ref (u 15), .ref (u 16), .ref (u 17), .int 0, .int 0, .int 0, .int 0, .int 0, .int 0, .int 0, .int 0])), ((u 14), .inl (cI, 60, .inl (fun _ => 0))), ((u 15), .inl (cI, 60, .inl (fun _ => 0))), ((u 16), .inl (cI, 60, .inl (fun _ => 0))), ((u 17), .inl (cI, 61, .inl (fun _ => 0))), ((u 18), .inr (3, [.ref (u 0), .ref (u 19), .int 0, .ref (u 20), .ref (u 21), .ref (u 22)])), ((u 19), .inl (cI, 6, .inl (fun _ => 0))), ((u 20), .inl (cI, 6, .inl (fun _ => 0))), ((u 21), .inl (cI, 6, .inl (fun _ => 0))), ((u 22), .inl (cI, 5, .inl (fun _ => 0))), ((u 23), .inr (5, [.ref (u 0), .ref (u 9), .ref (u 13), .ref (u 24), .ref (u 25), .ref (u 26), .ref (u 27), .ref (u 28), .int 0, .int 0, .int 0])), ((u 24), .inl (cI, 61, .inl (fun _ => 0))), ((u 25), .inl (cI, 61, .inl (fun _ => 0))), ((u 26), .inl (cI, 60, .inl (fun _ => 0))), ((u 27), .inl (cI, 60, .inl (fun _ => 0))), ((u 28), .inl (cI, 21, .inl (fun _ => 0))), ((u 29), .inr (2, [.ref (u 0), .ref (u 9), .ref (u 13), .ref (u 30), .long 0, .long 0])), ((u 30), .inl (cI, 60, .inl (fun _ => 0))), ((u 31), .inr (6, [.ref (u 0), .int 0, .int 0, .int 0])), ((u 32), .inl (cK, 2, .inr (.inr (.inr (.inr (va_up (va_up (fun _ => none) 0 (some (u 35))) 1 (some (u 44)))))))), ((u 33), .inl (cZ, 2, .inl (fun _ => 0))), ((u 34), .inl (cI, 4, .inl (fun _ => 0))), ((u 35), .inr (0, [.ref (u 36), .ref (u 37), .ref (u 38), .int (-6), .int 0, .int 0, .ref (u 39), .ref (u 40), .ref (u 41), .int 0, .ref (u 42), .ref (u 43)])), ((u 36), .inl (cI, 5, .inl (upd (fun _ => 0) 0 800))), ((u 37), .inl (cI, 14, .inl (fun _ => 0))), ((u 38), .inl (cZ, 14, .inl (fun _ => 0))), ((u 39), .inl (cI, 6, .inl (fun _ => 0))), ((u 40), .inl (cI, 6, .inl (fun _ => 0))), ((u 41), .inl (cI, 6, .inl (fun _ => 0))), ((u 42), .inl (cI, 8, .inl (fun _ => 0))), ((u 43), .inl (cI, 8, .inl (fun _ => 0))), ((u 44), .inr (0, [.ref (u 45), .ref (u 46), .ref (u 47), .int (-6), .int 0, .int 0, .ref (u 48), .ref (u 49), .ref (u 50), .int 0, .ref (u 51), .ref (u 52)])), ((u 45), .inl (cI, 5, .inl (upd (fun _ => 0) 0 800))), ((u 46), .inl (cI, 14, .inl (fun _ => 0))), ((u 47), .inl (cZ, 14, .inl (fun _ => 0))), ((u 48), .inl (cI, 6, .inl (fun _ => 0))), ((u 49), .inl (cI, 6, .inl (fun _ => 0))), ((u 50), .inl (cI, 6, .inl (fun _ => 0))), ((u 51), .inl (cI, 8, .inl (fun _ => 0))), ((u 52), .inl (cI, 8, .inl (fun _ => 0))), (qn, .inr (8, [.int 800, .int 0, .int 0, .int 0, .int 0, .int 0, .int 0, .ref (v 0), .ref (v 1), .int 0, .ref (v 2), .ref (v 3), .ref (v 4), .ref (v 5), .ref (v 6), .int 0, .ref (v 7), .int 0, .ref (v 8), .ref (v 9), .ref (v 10), .int 0, .int 0, .int 0, .int 0, .int 0, .int 0, .int 0, .int 0, .int 0, .ref (v 11), .ref (v 12), .ref (v 13), .ref (v 14), .int 0, .int 0, .int 0, .int 0, .int 0, .int 0, .int 0, .ref (v 15), .int 0, .ref (v 16), .ref (v 17), .int 0, .int 0, .ref (v 18), .ref (v 19), .ref (v 20), .ref (v 21), .int 0, .int 0])), ((v 0), .inl (cI, 14, .inl (fun _ => 0))), ((v 1), .inl (cI, 14, .inl (fun _ => 0))), ((v 2), .inl (cI, 6, .inl (fun _ => 0))), ((v 3), .inl (cI, 6, .inl (fun _ => 0))), ((v 4), .inl (cI, 6, .inl (fun _ => 0))), ((v 5), .inl (cI, 8, .inl (fun _ => 0))), ((v 6), .inl (cI, 8, .inl (fun _ => 0))), ((v 7), .inl (cI, 60, .inl (fun _ => 0))), ((v 8), .inl (cI, 60, .inl (fun _ => 0))), ((v 9), .inl (cI, 60, .inl (fun _ => 0))), ((v 10), .inl (cI, 60, .inl (fun _ => 0))), ((v 11), .inl (cI, 60, .inl (fun _ => 0))), ((v 12), .inl (cI, 60, .inl (fun _ => 0))), ((v 13), .inl (cI, 14, .inl (fun _ => 0))), ((v 14), .inl (cI, 61, .inl (fun _ => 0))), ((v 15), .inl (cI, 6, .inl (fun _ => 0))), ((v 16), .inl (cI, 6, .inl (fun _ => 0))), ((v 17), .inl (cI, 28, .inl (fun _ => 0))), ((v 18), .inl (cI, 1260, .inl (fun _ => 0))), ((v 19), .inl (cI, 4, .inl (fun _ => 0))), ((v 20), .inl (cI, 160, .inl (fun _ => 0))), ((v 21), .inl (cZ, 2, .inl (fun _ => 0)))]) (hS : va_S (fun q : Nat => s.heap.size ≤ q) s.heap H locs) (ls : Array Slot) (hl : lv_has ls 4 [(3, .int 0), (2, .ref qn), (1, .ref qx), (0, .ref b)]) : W p l e room_1 s m #[Value.ref b] below meth c H locs 77 3085 (lw_Z below #[Value.ref b] s) (F0 m 975 ls []) := by
  obtain ⟨hx, hb, hr, hml, hown, hts, hX, hbl, hlocks, hgv⟩ := C0
  have hts := fun w h => hts w (wsL_law_in w h)
  have hown : s.vm.findClass RL = some m.cls := hown
  have hA : ∀ q : Nat, s.heap.size ≤ q → (fun q : Nat => s.heap.size ≤ q) q := fun _ h => h
  have hbA : ¬ (fun q : Nat => s.heap.size ≤ q) b := Nat.not_le.mpr hbl
  have hK := hKx.1
  replace hP := mx_subP (wc := [(qx, .inr (7, [.ref (u 0), .ref (u 9), .ref (u 13), .ref (u 18), .ref (u 23), .ref (u 29), .ref (u 31), .ref (u 32), .ref (u 33), .ref (u 34)])), ((u 0), .inr (0, [.ref (u 1), .ref (u 2), .ref (u 3), .int (-6), .int 0, .int 0, .ref (u 4), .ref (u 5), .ref (u 6), .int 0, .ref (u 7), .ref (u 8)])), ((u 1), .inl (cI, 5, .inl (upd (fun _ => 0) 0 800))), ((u 2), .inl (cI, 14, .inl (fun _ => 0))), ((u 3), .inl (cZ, 14, .inl (fun _ => 0))), ((u 9), .inr (4, [.ref (u 10), .int 0, .ref (u 11), .ref (u 12), .int 0, .int 0])), (qn, .inr (8, [.int 800, .int 0, .int 0, .int 0, .int 0, .int 0, .int 0, .ref (v 0), .ref (v 1), .int 0, .ref (v 2), .ref (v 3), .ref (v 4), .ref (v 5), .ref (v 6), .int 0, .ref (v 7), .int 0, .ref (v 8), .ref (v 9), .ref (v 10), .int 0, .int 0, .int 0, .int 0, .int 0, .int 0, .int 0, .int 0, .int 0, .ref (v 11), .ref (v 12), .ref (v 13), .ref (v 14), .int 0, .int 0, .int 0, .int 0, .int 0, .int 0, .int 0, .ref (v 15), .int 0, .ref (v 16), .ref (v 17), .int 0, .int 0, .ref (v 18), .ref (v 19), .ref (v 20), .ref (v 21), .int 0, .int 0])), ((v 0), .inl (cI, 14, .inl (fun _ => 0))), ((v 1), .inl (cI, 14, .inl (fun _ => 0)))]) hP [0, 1, 2, 3, 4, 10, 54, 55, 56] rfl
  replace hD := hD.sub (ws' := [(qx, .inr (7, [.ref (u 0), .ref (u 9), .ref (u 13), .ref (u 18), .ref (u 23), .ref (u 29), .ref (u 31), .ref (u 32), .ref (u 33), .ref (u 34)])), ((u 0), .inr (0, [.ref (u 1), .ref (u 2), .ref (u 3), .int (-6), .int 0, .int 0, .ref (u 4), .ref (u 5), .ref (u 6), .int 0, .ref (u 7), .ref (u 8)])), ((u 1), .inl (cI, 5, .inl (upd (fun _ => 0) 0 800))), ((u 2), .inl (cI, 14, .inl (fun _ => 0))), ((u 3), .inl (cZ, 14, .inl (fun _ => 0))), ((u 9), .inr (4, [.ref (u 10), .int 0, .ref (u 11), .ref (u 12), .int 0, .int 0])), (qn, .inr (8, [.int 800, .int 0, .int 0, .int 0, .int 0, .int 0, .int 0, .ref (v 0), .ref (v 1), .int 0, .ref (v 2), .ref (v 3), .ref (v 4), .ref (v 5), .ref (v 6), .int 0, .ref (v 7), .int 0, .ref (v 8), .ref (v 9), .ref (v 10), .int 0, .int 0, .int 0, .int 0, .int 0, .int 0, .int 0, .int 0, .int 0, .ref (v 11), .ref (v 12), .ref (v 13), .ref (v 14), .int 0, .int 0, .int 0, .int 0, .int 0, .int 0, .int 0, .ref (v 15), .int 0, .ref (v 16), .ref (v 17), .int 0, .int 0, .ref (v 18), .ref (v 19), .ref (v 20), .ref (v 21), .int 0, .int 0])), ((v 0), .inl (cI, 14, .inl (fun _ => 0))), ((v 1), .inl (cI, 14, .inl (fun _ => 0)))]) [0, 1, 2, 3, 4, 10, 54, 55, 56] (by decide) rfl
  refine lv_aload_n hx hb dL_law_975 rfl (lv_at hl 2 rfl) ?_
  refine lv_aload_n hx hb dL_law_976 rfl (lv_at hl 3 rfl) ?_
  refine lv_iload_n hx hb dL_law_977 rfl (lv_at hl 0 rfl) ?_
  refine lv_iconst (v := 1) hx hb dL_law_978 (by decide) ?_
  refine lv_iadd hx hb dL_law_979 ?_
  refine lv_topi (fun x1 e1 => ?_)
  obtain rfl : x1 = 1 := e1.trans (by decide)
  refine va_sld hx hb hX hbl hbA hS (vin (by decide) (by decide)) dL_law_980 ?_
  refine lv_topi (fun y2 e2 => ?_)
  obtain rfl : y2 = xs 1 := e2
  refine mx_i (wr := [(qn, .inr (8, [.int 800, .int 0, .int 0, .int 0, .int 0, .int 0, .int 0, .ref (v 0), .ref (v 1), .int 0, .ref (v 2), .ref (v 3), .ref (v 4), .ref (v 5), .ref (v 6), .int 0, .ref (v 7), .int 0, .ref (v 8), .ref (v 9), .ref (v 10), .int 0, .int 0, .int 0, .int 0, .int 0, .int 0, .int 0, .int 0, .int 0, .ref (v 11), .ref (v 12), .ref (v 13), .ref (v 14), .int 0, .int 0, .int 0, .int 0, .int 0, .int 0, .int 0, .ref (v 15), .int 0, .ref (v 16), .ref (v 17), .int 0, .int 0, .ref (v 18), .ref (v 19), .ref (v 20), .ref (v 21), .int 0, .int 0])), ((v 0), .inl (cI, 14, .inl (fun _ => 0))), ((v 1), .inl (cI, 14, .inl (fun _ => 0)))]) (va_runV (As := [.int (xs 1)]) (rest := []) ⟨hx, hb, hml, hown, hts⟩ (c_X7_told l dC dI cI cZ cK tS aK aV qx (u 18) (u 23) (u 29) (u 31) (u 32) (u 33) (u 34) (u 13) (u 0) (u 1) (u 2) (u 3) (u 4) (u 5) (u 6) (u 7) (u 8) (u 9) (u 10) (u 11) (u 12) (xs 1) H.size) (cwV 1 hts (gw_v (fun _ h9 => h9) wm_777 wm_778 wm_779 wm_2 wm_780) rfl rfl rfl (by decide +kernel) ⟨Nat.le_of_ble_eq_true rfl, Nat.le_of_ble_eq_true rfl⟩) (mx_preV (C := RX7) (T := TX7) (N := 10) (ci := 7) hKx hP hD hS hA [0, 5, 1, 2, 3, 4] (by decide) rfl rfl rfl) rfl rfl hl.1 rfl (lv_room (Nat.le_of_ble_eq_true rfl)) dL_law_981 ⟨Nat.le_of_ble_eq_true rfl, Nat.le_of_ble_eq_true rfl⟩) hP hD hS hA [0, 5, 1, 2, 3, 4] [6, 7, 8] rfl rfl (by decide) (by decide) (fun r3 u3 H locs hq3 hP hD hS => ?_)
  replace hP : va_P (dC, dI) vwCl [(qn, .inr (8, [.int 800, .int 0, .int 0, .int 0, .int 0, .int 0, .int 0, .ref (v 0), .ref (v 1), .int 0, .ref (v 2), .ref (v 3), .ref (v 4), .ref (v 5), .ref (v 6), .int 0, .ref (v 7), .int 0, .ref (v 8), .ref (v 9), .ref (v 10), .int 0, .int 0, .int 0, .int 0, .int 0, .int 0, .int 0, .int 0, .int 0, .ref (v 11), .ref (v 12), .ref (v 13), .ref (v 14), .int 0, .int 0, .int 0, .int 0, .int 0, .int 0, .int 0, .ref (v 15), .int 0, .ref (v 16), .ref (v 17), .int 0, .int 0, .ref (v 18), .ref (v 19), .ref (v 20), .ref (v 21), .int 0, .int 0])), ((v 0), .inl (cI, 14, .inl (fun _ => 0))), ((v 1), .inl (cI, 14, .inl (fun _ => 0)))] H := hP
  replace hD : va_D (fun q : Nat => s.heap.size ≤ q) [(qn, .inr (8, [.int 800, .int 0, .int 0, .int 0, .int 0, .int 0, .int 0, .ref (v 0), .ref (v 1), .int 0, .ref (v 2), .ref (v 3), .ref (v 4), .ref (v 5), .ref (v 6), .int 0, .ref (v 7), .int 0, .ref (v 8), .ref (v 9), .ref (v 10), .int 0, .int 0, .int 0, .int 0, .int 0, .int 0, .int 0, .int 0, .int 0, .ref (v 11), .ref (v 12), .ref (v 13), .ref (v 14), .int 0, .int 0, .int 0, .int 0, .int 0, .int 0, .int 0, .ref (v 15), .int 0, .ref (v 16), .ref (v 17), .int 0, .int 0, .ref (v 18), .ref (v 19), .ref (v 20), .ref (v 21), .int 0, .int 0])), ((v 0), .inl (cI, 14, .inl (fun _ => 0))), ((v 1), .inl (cI, 14, .inl (fun _ => 0)))] := hD
  rcases hq3 with ⟨rfl, hf3⟩ | ⟨rfl, hf3⟩ | ⟨rfl, hf3⟩ | ⟨rfl, hf3⟩
  · have hf3 : (xs 1).toInt = 1 := hf3
    refine lv_aload_n hx hb dL_law_984 rfl (lv_at hl 1 rfl) ?_
    refine lv_aload_n hx hb dL_law_985 rfl (lv_at hl 3 rfl) ?_
    refine lv_iload_n hx hb dL_law_986 rfl (lv_at hl 0 rfl) ?_
    refine lv_iconst (v := 1) hx hb dL_law_987 (by decide) ?_
    refine lv_iadd hx hb dL_law_988 ?_
    refine lv_topi (fun x4 e4 => ?_)
    obtain rfl : x4 = 1 := e4.trans (by decide)
    refine va_sld hx hb hX hbl hbA hS (vin (by decide) (by decide)) dL_law_989 ?_
    refine lv_topi (fun y5 e5 => ?_)
    obtain rfl : y5 = xs 1 := e5
    refine mx_i (wr := []) (va_runV (As := [.int (xs 1)]) (rest := [.int 800]) ⟨hx, hb, hml, hown, hts⟩ (c_X8_told l dC dI cI cZ cK tS aK aV qn (v 0) (v 1) (v 2) (v 3) (v 4) (v 5) (v 6) (v 7) (v 8) (v 9) (v 10) (v 11) (v 12) (v 13) (v 14) (v 15) (v 16) (v 17) (v 18) (v 19) (v 20) (v 21) (xs 1) H.size) (cwV 1 hts (gw_v (fun _ h9 => h9) wm_781 wm_782 wm_783 wm_385 wm_784) rfl rfl rfl (by decide +kernel) ⟨Nat.le_of_ble_eq_true rfl, Nat.le_of_ble_eq_true rfl⟩) (mx_preV (C := RX8) (T := TX8) (N := 53) (ci := 8) hKx hP hD hS hA [0, 1, 2] (by decide) rfl rfl rfl) rfl rfl hl.1 rfl (lv_room (Nat.le_of_ble_eq_true rfl)) dL_law_990 ⟨Nat.le_of_ble_eq_true rfl, Nat.le_of_ble_eq_true rfl⟩) hP hD hS hA [0, 1, 2] [] rfl rfl (by decide) (by decide) (fun r6 u6 H locs hq6 hP hD hS => ?_)
    replace hP : va_P (dC, dI) vwCl [] H := hP
    replace hD : va_D (fun q : Nat => s.heap.size ≤ q) [] := hD
    rcases hq6 with ⟨rfl, hf6⟩ | ⟨rfl, hf6⟩ | ⟨rfl, hf6⟩ | ⟨rfl, hf6⟩
    · have hf6 : (xs 1).toInt = 1 := hf6
      refine lv_icmp_eq (tgt := 998) hx hb dL_law_993 (by decide) (fun c7 => ?_) (fun c7 => absurd c7 (by decide))
      refine lv_iinc (v := 5) (lv' := [(3, .int 5), (2, .ref qn), (1, .ref qx), (0, .ref b)]) hx hb dL_law_998 hl (k := 0) rfl (by decide) (by decide) rfl (fun ls hl => ?_)
      refine lv_goto (tgt := 18) hx hb dL_law_1001 (by decide) ?_
      refine lv_iload_n hx hb dL_law_18 rfl (lv_at hl 0 rfl) ?_
      refine lv_aload_n hx hb dL_law_19 rfl (lv_at hl 3 rfl) ?_
      refine va_slen hx hb hX hbl hbA hS dL_law_20 ?_
      refine lv_topi (fun x8 e8 => ?_)
      obtain rfl : x8 = 5 := e8.trans (by decide)
      refine lv_iconst (v := 5) hx hb dL_law_21 (by decide) ?_
      refine lv_isub hx hb dL_law_22 ?_
      refine lv_topi (fun x9 e9 => ?_)
      obtain rfl : x9 = 0 := e9.trans (by decide)
      refine lv_icmp_gt (tgt := 1004) hx hb dL_law_23 (by decide) (fun c10 => ?_) (fun c10 => absurd c10 (by decide))
      refine lv_iconst (v := 1) hx hb dL_law_1004 (by decide) ?_
      refine va_forget (fun q hq => hS.2.2 q hq) ?_
      refine W.widen (k := 600000) (n := 7302250) (Nat.le_of_ble_eq_true rfl) (Nat.le_of_ble_eq_true rfl) ?_
      exact lw_ret hx hb hr hlocks dL_law_1005
    · have hf6 : (xs 1).toInt = 8 := hf6
      refine lv_icmp_eq (tgt := 998) hx hb dL_law_993 (by decide) (fun c11 => absurd c11 (by decide)) (fun c11 => ?_)
      refine lv_iconst (v := 0) hx hb dL_law_996 (by decide) ?_
      exfalso; omega
    · have hf6 : (xs 1).toInt = 0 ∨ (2 ≤ (xs 1).toInt ∧ (xs 1).toInt ≤ 7) ∨ (20 ≤ (xs 1).toInt ∧ (xs 1).toInt ≤ 33) := hf6
      refine lv_icmp_eq (tgt := 998) hx hb dL_law_993 (by decide) (fun c12 => absurd c12 (by decide)) (fun c12 => ?_)
      refine lv_iconst (v := 0) hx hb dL_law_996 (by decide) ?_
      exfalso; omega
    · have hf6 : (xs 1).toInt < 0 ∨ (9 ≤ (xs 1).toInt ∧ (xs 1).toInt ≤ 19) ∨ 34 ≤ (xs 1).toInt := hf6
      refine lv_icmp_eq (tgt := 998) hx hb dL_law_993 (by decide) (fun c13 => absurd c13 (by decide)) (fun c13 => ?_)
      refine lv_iconst (v := 0) hx hb dL_law_996 (by decide) ?_
      exfalso; omega
  · have hf3 : (xs 1).toInt = 8 := hf3
    refine lv_aload_n hx hb dL_law_984 rfl (lv_at hl 1 rfl) ?_
    refine lv_aload_n hx hb dL_law_985 rfl (lv_at hl 3 rfl) ?_
    refine lv_iload_n hx hb dL_law_986 rfl (lv_at hl 0 rfl) ?_
    refine lv_iconst (v := 1) hx hb dL_law_987 (by decide) ?_
    refine lv_iadd hx hb dL_law_988 ?_
    refine lv_topi (fun x14 e14 => ?_)
    obtain rfl : x14 = 1 := e14.trans (by decide)
    refine va_sld hx hb hX hbl hbA hS (vin (by decide) (by decide)) dL_law_989 ?_
    refine lv_topi (fun y15 e15 => ?_)
    obtain rfl : y15 = xs 1 := e15
    refine mx_i (wr := []) (va_runV (As := [.int (xs 1)]) (rest := [.int 100]) ⟨hx, hb, hml, hown, hts⟩ (c_X8_told l dC dI cI cZ cK tS aK aV qn (v 0) (v 1) (v 2) (v 3) (v 4) (v 5) (v 6) (v 7) (v 8) (v 9) (v 10) (v 11) (v 12) (v 13) (v 14) (v 15) (v 16) (v 17) (v 18) (v 19) (v 20) (v 21) (xs 1) H.size) (cwV 1 hts (gw_v (fun _ h9 => h9) wm_781 wm_782 wm_783 wm_385 wm_784) rfl rfl rfl (by decide +kernel) ⟨Nat.le_of_ble_eq_true rfl, Nat.le_of_ble_eq_true rfl⟩) (mx_preV (C := RX8) (T := TX8) (N := 53) (ci := 8) hKx hP hD hS hA [0, 1, 2] (by decide) rfl rfl rfl) rfl rfl hl.1 rfl (lv_room (Nat.le_of_ble_eq_true rfl)) dL_law_990 ⟨Nat.le_of_ble_eq_true rfl, Nat.le_of_ble_eq_true rfl⟩) hP hD hS hA [0, 1, 2] [] rfl rfl (by decide) (by decide) (fun r16 u16 H locs hq16 hP hD hS => ?_)
    replace hP : va_P (dC, dI) vwCl [] H := hP
    replace hD : va_D (fun q : Nat => s.heap.size ≤ q) [] := hD
    rcases hq16 with ⟨rfl, hf16⟩ | ⟨rfl, hf16⟩ | ⟨rfl, hf16⟩ | ⟨rfl, hf16⟩
    · have hf16 : (xs 1).toInt = 1 := hf16
      refine lv_icmp_eq (tgt := 998) hx hb dL_law_993 (by decide) (fun c17 => absurd c17 (by decide)) (fun c17 => ?_)
      refine lv_iconst (v := 0) hx hb dL_law_996 (by decide) ?_
      exfalso; omega
    · have hf16 : (xs 1).toInt = 8 := hf16
      refine lv_icmp_eq (tgt := 998) hx hb dL_law_993 (by decide) (fun c18 => ?_) (fun c18 => absurd c18 (by decide))
      refine lv_iinc (v := 5) (lv' := [(3, .int 5), (2, .ref qn), (1, .ref qx), (0, .ref b)]) hx hb dL_law_998 hl (k := 0) rfl (by decide) (by decide) rfl (fun ls hl => ?_)
      refine lv_goto (tgt := 18) hx hb dL_law_1001 (by decide) ?_
      refine lv_iload_n hx hb dL_law_18 rfl (lv_at hl 0 rfl) ?_
      refine lv_aload_n hx hb dL_law_19 rfl (lv_at hl 3 rfl) ?_
      refine va_slen hx hb hX hbl hbA hS dL_law_20 ?_
      refine lv_topi (fun x19 e19 => ?_)
      obtain rfl : x19 = 5 := e19.trans (by decide)
      refine lv_iconst (v := 5) hx hb dL_law_21 (by decide) ?_
      refine lv_isub hx hb dL_law_22 ?_
      refine lv_topi (fun x20 e20 => ?_)
      obtain rfl : x20 = 0 := e20.trans (by decide)
      refine lv_icmp_gt (tgt := 1004) hx hb dL_law_23 (by decide) (fun c21 => ?_) (fun c21 => absurd c21 (by decide))
      refine lv_iconst (v := 1) hx hb dL_law_1004 (by decide) ?_
      refine va_forget (fun q hq => hS.2.2 q hq) ?_
      refine W.widen (k := 600000) (n := 7302250) (Nat.le_of_ble_eq_true rfl) (Nat.le_of_ble_eq_true rfl) ?_
      exact lw_ret hx hb hr hlocks dL_law_1005
    · have hf16 : (xs 1).toInt = 0 ∨ (2 ≤ (xs 1).toInt ∧ (xs 1).toInt ≤ 7) ∨ (20 ≤ (xs 1).toInt ∧ (xs 1).toInt ≤ 33) := hf16
      refine lv_icmp_eq (tgt := 998) hx hb dL_law_993 (by decide) (fun c22 => absurd c22 (by decide)) (fun c22 => ?_)
      refine lv_iconst (v := 0) hx hb dL_law_996 (by decide) ?_
      exfalso; omega
    · have hf16 : (xs 1).toInt < 0 ∨ (9 ≤ (xs 1).toInt ∧ (xs 1).toInt ≤ 19) ∨ 34 ≤ (xs 1).toInt := hf16
      refine lv_icmp_eq (tgt := 998) hx hb dL_law_993 (by decide) (fun c23 => absurd c23 (by decide)) (fun c23 => ?_)
      refine lv_iconst (v := 0) hx hb dL_law_996 (by decide) ?_
      exfalso; omega
  · have hf3 : (xs 1).toInt = 0 ∨ (2 ≤ (xs 1).toInt ∧ (xs 1).toInt ≤ 7) ∨ (20 ≤ (xs 1).toInt ∧ (xs 1).toInt ≤ 33) := hf3
    refine lv_aload_n hx hb dL_law_984 rfl (lv_at hl 1 rfl) ?_
    refine lv_aload_n hx hb dL_law_985 rfl (lv_at hl 3 rfl) ?_
    refine lv_iload_n hx hb dL_law_986 rfl (lv_at hl 0 rfl) ?_
    refine lv_iconst (v := 1) hx hb dL_law_987 (by decide) ?_
    refine lv_iadd hx hb dL_law_988 ?_
    refine lv_topi (fun x24 e24 => ?_)
    obtain rfl : x24 = 1 := e24.trans (by decide)
    refine va_sld hx hb hX hbl hbA hS (vin (by decide) (by decide)) dL_law_989 ?_
    refine lv_topi (fun y25 e25 => ?_)
    obtain rfl : y25 = xs 1 := e25
    refine mx_i (wr := []) (va_runV (As := [.int (xs 1)]) (rest := [.int 0]) ⟨hx, hb, hml, hown, hts⟩ (c_X8_told l dC dI cI cZ cK tS aK aV qn (v 0) (v 1) (v 2) (v 3) (v 4) (v 5) (v 6) (v 7) (v 8) (v 9) (v 10) (v 11) (v 12) (v 13) (v 14) (v 15) (v 16) (v 17) (v 18) (v 19) (v 20) (v 21) (xs 1) H.size) (cwV 1 hts (gw_v (fun _ h9 => h9) wm_781 wm_782 wm_783 wm_385 wm_784) rfl rfl rfl (by decide +kernel) ⟨Nat.le_of_ble_eq_true rfl, Nat.le_of_ble_eq_true rfl⟩) (mx_preV (C := RX8) (T := TX8) (N := 53) (ci := 8) hKx hP hD hS hA [0, 1, 2] (by decide) rfl rfl rfl) rfl rfl hl.1 rfl (lv_room (Nat.le_of_ble_eq_true rfl)) dL_law_990 ⟨Nat.le_of_ble_eq_true rfl, Nat.le_of_ble_eq_true rfl⟩) hP hD hS hA [0, 1, 2] [] rfl rfl (by decide) (by decide) (fun r26 u26 H locs hq26 hP hD hS => ?_)
    replace hP : va_P (dC, dI) vwCl [] H := hP
    replace hD : va_D (fun q : Nat => s.heap.size ≤ q) [] := hD
    rcases hq26 with ⟨rfl, hf26⟩ | ⟨rfl, hf26⟩ | ⟨rfl, hf26⟩ | ⟨rfl, hf26⟩
    · have hf26 : (xs 1).toInt = 1 := hf26
      refine lv_icmp_eq (tgt := 998) hx hb dL_law_993 (by decide) (fun c27 => absurd c27 (by decide)) (fun c27 => ?_)
      refine lv_iconst (v := 0) hx hb dL_law_996 (by decide) ?_
      exfalso; omega
    · have hf26 : (xs 1).toInt = 8 := hf26
      refine lv_icmp_eq (tgt := 998) hx hb dL_law_993 (by decide) (fun c28 => absurd c28 (by decide)) (fun c28 => ?_)
      refine lv_iconst (v := 0) hx hb dL_law_996 (by decide) ?_
      exfalso; omega
    · have hf26 : (xs 1).toInt = 0 ∨ (2 ≤ (xs 1).toInt ∧ (xs 1).toInt ≤ 7) ∨ (20 ≤ (xs 1).toInt ∧ (xs 1).toInt ≤ 33) := hf26
      refine lv_icmp_eq (tgt := 998) hx hb dL_law_993 (by decide) (fun c29 => ?_) (fun c29 => absurd c29 (by decide))
      refine lv_iinc (v := 5) (lv' := [(3, .int 5), (2, .ref qn), (1, .ref qx), (0, .ref b)]) hx hb dL_law_998 hl (k := 0) rfl (by decide) (by decide) rfl (fun ls hl => ?_)
      refine lv_goto (tgt := 18) hx hb dL_law_1001 (by decide) ?_
      refine lv_iload_n hx hb dL_law_18 rfl (lv_at hl 0 rfl) ?_
      refine lv_aload_n hx hb dL_law_19 rfl (lv_at hl 3 rfl) ?_
      refine va_slen hx hb hX hbl hbA hS dL_law_20 ?_
      refine lv_topi (fun x30 e30 => ?_)
      obtain rfl : x30 = 5 := e30.trans (by decide)
      refine lv_iconst (v := 5) hx hb dL_law_21 (by decide) ?_
      refine lv_isub hx hb dL_law_22 ?_
      refine lv_topi (fun x31 e31 => ?_)
      obtain rfl : x31 = 0 := e31.trans (by decide)
      refine lv_icmp_gt (tgt := 1004) hx hb dL_law_23 (by decide) (fun c32 => ?_) (fun c32 => absurd c32 (by decide))
      refine lv_iconst (v := 1) hx hb dL_law_1004 (by decide) ?_
      refine va_forget (fun q hq => hS.2.2 q hq) ?_
      refine W.widen (k := 600000) (n := 7302250) (Nat.le_of_ble_eq_true rfl) (Nat.le_of_ble_eq_true rfl) ?_
      exact lw_ret hx hb hr hlocks dL_law_1005
    · have hf26 : (xs 1).toInt < 0 ∨ (9 ≤ (xs 1).toInt ∧ (xs 1).toInt ≤ 19) ∨ 34 ≤ (xs 1).toInt := hf26
      refine lv_icmp_eq (tgt := 998) hx hb dL_law_993 (by decide) (fun c33 => absurd c33 (by decide)) (fun c33 => ?_)
      refine lv_iconst (v := 0) hx hb dL_law_996 (by decide) ?_
      exfalso; omega
  · have hf3 : (xs 1).toInt < 0 ∨ (9 ≤ (xs 1).toInt ∧ (xs 1).toInt ≤ 19) ∨ 34 ≤ (xs 1).toInt := hf3
    refine lv_aload_n hx hb dL_law_984 rfl (lv_at hl 1 rfl) ?_
    refine lv_aload_n hx hb dL_law_985 rfl (lv_at hl 3 rfl) ?_
    refine lv_iload_n hx hb dL_law_986 rfl (lv_at hl 0 rfl) ?_
    refine lv_iconst (v := 1) hx hb dL_law_987 (by decide) ?_
    refine lv_iadd hx hb dL_law_988 ?_
    refine lv_topi (fun x34 e34 => ?_)
    obtain rfl : x34 = 1 := e34.trans (by decide)
    refine va_sld hx hb hX hbl hbA hS (vin (by decide) (by decide)) dL_law_989 ?_
    refine lv_topi (fun y35 e35 => ?_)
    obtain rfl : y35 = xs 1 := e35
    refine mx_i (wr := []) (va_runV (As := [.int (xs 1)]) (rest := [.int (-2)]) ⟨hx, hb, hml, hown, hts⟩ (c_X8_told l dC dI cI cZ cK tS aK aV qn (v 0) (v 1) (v 2) (v 3) (v 4) (v 5) (v 6) (v 7) (v 8) (v 9) (v 10) (v 11) (v 12) (v 13) (v 14) (v 15) (v 16) (v 17) (v 18) (v 19) (v 20) (v 21) (xs 1) H.size) (cwV 1 hts (gw_v (fun _ h9 => h9) wm_781 wm_782 wm_783 wm_385 wm_784) rfl rfl rfl (by decide +kernel) ⟨Nat.le_of_ble_eq_true rfl, Nat.le_of_ble_eq_true rfl⟩) (mx_preV (C := RX8) (T := TX8) (N := 53) (ci := 8) hKx hP hD hS hA [0, 1, 2] (by decide) rfl rfl rfl) rfl rfl hl.1 rfl (lv_room (Nat.le_of_ble_eq_true rfl)) dL_law_990 ⟨Nat.le_of_ble_eq_true rfl, Nat.le_of_ble_eq_true rfl⟩) hP hD hS hA [0, 1, 2] [] rfl rfl (by decide) (by decide) (fun r36 u36 H locs hq36 hP hD hS => ?_)
    replace hP : va_P (dC, dI) vwCl [] H := hP
    replace hD : va_D (fun q : Nat => s.heap.size ≤ q) [] := hD
    rcases hq36 with ⟨rfl, hf36⟩ | ⟨rfl, hf36⟩ | ⟨rfl, hf36⟩ | ⟨rfl, hf36⟩
    · have hf36 : (xs 1).toInt = 1 := hf36
      refine lv_icmp_eq (tgt := 998) hx hb dL_law_993 (by decide) (fun c37 => absurd c37 (by decide)) (fun c37 => ?_)
      refine lv_iconst (v := 0) hx hb dL_law_996 (by decide) ?_
      exfalso; omega
    · have hf36 : (xs 1).toInt = 8 := hf36
      refine lv_icmp_eq (tgt := 998) hx hb dL_law_993 (by decide) (fun c38 => absurd c38 (by decide)) (fun c38 => ?_)
      refine lv_iconst (v := 0) hx hb dL_law_996 (by decide) ?_
      exfalso; omega
    · have hf36 : (xs 1).toInt = 0 ∨ (2 ≤ (xs 1).toInt ∧ (xs 1).toInt ≤ 7) ∨ (20 ≤ (xs 1).toInt ∧ (xs 1).toInt ≤ 33) := hf36
      refine lv_icmp_eq (tgt := 998) hx hb dL_law_993 (by decide) (fun c39 => absurd c39 (by decide)) (fun c39 => ?_)
      refine lv_iconst (v := 0) hx hb dL_law_996 (by decide) ?_
      exfalso; omega
    · have hf36 : (xs 1).toInt < 0 ∨ (9 ≤ (xs 1).toInt ∧ (xs 1).toInt ≤ 19) ∨ 34 ≤ (xs 1).toInt := hf36
      refine lv_icmp_eq (tgt := 998) hx hb dL_law_993 (by decide) (fun c40 => ?_) (fun c40 => absurd c40 (by decide))
      refine lv_iinc (v := 5) (lv' := [(3, .int 5), (2, .ref qn), (1, .ref qx), (0, .ref b)]) hx hb dL_law_998 hl (k := 0) rfl (by decide) (by decide) rfl (fun ls hl => ?_)
      refine lv_goto (tgt := 18) hx hb dL_law_1001 (by decide) ?_
      refine lv_iload_n hx hb dL_law_18 rfl (lv_at hl 0 rfl) ?_
      refine lv_aload_n hx hb dL_law_19 rfl (lv_at hl 3 rfl) ?_
      refine va_slen hx hb hX hbl hbA hS dL_law_20 ?_
      refine lv_topi (fun x41 e41 => ?_)
      obtain rfl : x41 = 5 := e41.trans (by decide)
      refine lv_iconst (v := 5) hx hb dL_law_21 (by decide) ?_
      refine lv_isub hx hb dL_law_22 ?_
      refine lv_topi (fun x42 e42 => ?_)
      obtain rfl : x42 = 0 := e42.trans (by decide)
      refine lv_icmp_gt (tgt := 1004) hx hb dL_law_23 (by decide) (fun c43 => ?_) (fun c43 => absurd c43 (by decide))
      refine lv_iconst (v := 1) hx hb dL_law_1004 (by decide) ?_
      refine va_forget (fun q hq => hS.2.2 q hq) ?_
      refine W.widen (k := 600000) (n := 7302250) (Nat.le_of_ble_eq_true rfl) (Nat.le_of_ble_eq_true rfl) ?_
      exact lw_ret hx hb hr hlocks dL_law_1005
