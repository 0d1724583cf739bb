set_option maxHeartbeats 4000000 in
set_option maxRecDepth 100000 in
theorem lc_gust {p : Program} {e : Env} {s : State} {m : MethodId} {below : List Frame} {meth : Method} {c : Code} (l : Launch) {b : Nat} {xs : Nat → Int32} (C0 : lw_At p s m meth c b 5 xs) (dC : Nat → ClassId) (dI : Nat → Nat → Nat) (cI cZ cK : ClassId) (tS aK aV : Nat) (hKx : kx dC dI cI cZ cK tS aK aV (fun q : Nat => s.heap.size ≤ q) s) (qx qn : Nat) (u v : Nat → Nat) (H : Heap) (locs : List Loc) (hP : va_P (dC, dI) vwCl [(qx, .inr (7, [.ref (u 0), .ref (u 9), .ref (u 13), .ref (u 18), .ref (u 23), .ref (u 29), .ref (u 31), .ref (u 32), .ref (u 33), .ref (u 34)])), ((u 0), .inr (0, [.ref (u 1), .ref (u 2), .ref (u 3), .int (-6), .int 0, .int 0, .ref (u 4), .ref (u 5), .ref (u 6), .int 0, .ref (u 7), .ref (u 8)])), ((u 1), .inl (cI, 5, .inl (upd (fun _ => 0) 0 800))), ((u 2), .inl (cI, 14, .inl (fun _ => 0))), ((u 3), .inl (cZ, 14, .inl (fun _ => 0))), ((u 4), .inl (cI, 6, .inl (fun _ => 0))), ((u 5), .inl (cI, 6, .inl (fun _ => 0))), ((u 6), .inl (cI, 6, .inl (fun _ => 0))), ((u 7), .inl (cI, 8, .inl (fun _ => 0))), ((u 8), .inl (cI, 8, .inl (fun _ => 0))), ((u 9), .inr (4, [.ref (u 10), .int 0, .ref (u 11), .ref (u 12), .int 0, .int 0])), ((u 10), .inl (cI, 60, .inl (fun _ => 0))), ((u 11), .inl (cI, 60, .inl (fun _ => 0))), ((u 12), .inl (cI, 60, .inl (fun _ => 0))), ((u 13), .inr (1, [.ref (u 0), .ref (u 9), .ref (u 14), .ref (u 15), .ref (u 16), .ref (u 17), .int 0, .int 0, .int 0, .int 0, .int 0, .int 0, .int 0, .int 0])), ((u 14), .inl (cI, 60, .inl (fun _ => 0))), ((u 15), .inl (cI, 60, .inl (fun _ => 0))), ((u 16), .inl (cI, 60, .inl (fun _ => 0))), ((u 17), .inl (cI, 61, .inl (fun _ => 0))), ((u 18), .inr (3, [.ref (u 0), .ref (u 19), .int 0, .ref (u 20), .ref (u 21), .ref (u 22)])), ((u 19), .inl (cI, 6, .inl (fun _ => 0))), ((u 20), .inl (cI, 6, .inl (fun _ => 0))), ((u 21), .inl (cI, 6, .inl (fun _ => 0))), ((u 22), .inl (cI, 5, .inl (fun _ => 0))), ((u 23), .inr (5, [.ref (u 0), .ref (u 9), .ref (u 13), .ref (u 24), .ref (u 25), .ref (u 26), .ref (u 27), .ref (u 28), .int 0, .int 0, .int 0])), ((u 24), .inl (cI, 61, .inl (fun _ => 0))), ((u 25), .inl (cI, 61, .inl (fun _ => 0))), ((u 26), .inl (cI, 60, .inl (fun _ => 0))), ((u 27), .inl (cI, 60, .inl (fun _ => 0))), ((u 28), .inl (cI, 21, .inl (fun _ => 0))), ((u 29), .inr (2, [.ref (u 0), .ref (u 9), .ref (u 13), .ref (u 30), .long 0, .long 0])), ((u 30), .inl (cI, 60, .inl (fun _ => 0))), ((u 31), .inr (6, [.ref (u 0), .int 0, .int 0, .int 0])), ((u 32), .inl (cK, 2, .inr (.inr (.inr (.inr (va_up (va_up (fun _ => none) 0 (some (u 35))) 1 (some (u 44)))))))), ((u 33), .inl (cZ, 2, .inl (fun _ => 0))), ((u 34), .inl (cI, 4, .inl (fun _ => 0))), ((u 35), .inr (0, [.ref (u 36), .ref (u 37), .ref (u 38), .int (-6), .int 0, .int 0, .ref (u 39), .ref (u 40), .ref (u 41), .int 0, .ref (u 42), .ref (u 43)])), ((u 36), .inl (cI, 5, .inl (upd (fun _ => 0) 0 800))), ((u 37), .inl (cI, 14, .inl (fun _ => 0))), ((u 38), .inl (cZ, 14, .inl (fun _ => 0))), ((u 39), .inl (cI, 6, .inl (fun _ => 0))), ((u 40), .inl (cI, 6, .inl (fun _ => 0))), ((u 41), .inl (cI, 6, .inl (fun _ => 0))), ((u 42), .inl (cI, 8, .inl (fun _ => 0))), ((u 43), .inl (cI, 8, .inl (fun _ => 0))), ((u 44), .inr (0, [.ref (u 45), .ref (u 46), .ref (u 47), .int (-6), .int 0, .int 0, .ref (u 48), .ref (u 49), .ref (u 50), .int 0, .ref (u 51), .ref (u 52)])), ((u 45), .inl (cI, 5, .inl (upd (fun _ => 0) 0 800))), ((u 46), .inl (cI, 14, .inl (fun _ => 0))), ((u 47), .inl (cZ, 14, .inl (fun _ => 0))), ((u 48), .inl (cI, 6, .inl (fun _ => 0))), ((u 49), .inl (cI, 6, .inl (fun _ => 0))), ((u 50), .inl (cI, 6, .inl (fun _ => 0))), ((u 51), .inl (cI, 8, .inl (fun _ => 0))), ((u 52), .inl (cI, 8, .inl (fun _ => 0))), (qn, .inr (8, [.int 800, .int 0, .int 0, .int 0, .int 0, .int 0, .int 0, .ref (v 0), .ref (v 1), .int 0, .ref (v 2), .ref (v 3), .ref (v 4), .ref (v 5), .ref (v 6), .int 0, .ref (v 7), .int 0, .ref (v 8), .ref (v 9), .ref (v 10), .int 0, .int 0, .int 0, .int 0, .int 0, .int 0, .int 0, .int 0, .int 0, .ref (v 11), .ref (v 12), .ref (v 13), .ref (v 14), .int 0, .int 0, .int 0, .int 0, .int 0, .int 0, .int 0, .ref (v 15), .int 0, .ref (v 16), .ref (v 17), .int 0, .int 0, .ref (v 18), .ref (v 19), .ref (v 20), .ref (v 21), .int 0, .int 0])), ((v 0), .inl (cI, 14, .inl (fun _ => 0))), ((v 1), .inl (cI, 14, .inl (fun _ => 0))), ((v 2), .inl (cI, 6, .inl (fun _ => 0))), ((v 3), .inl (cI, 6, .inl (fun _ => 0))), ((v 4), .inl (cI, 6, .inl (fun _ => 0))), ((v 5), .inl (cI, 8, .inl (fun _ => 0))), ((v 6), .inl (cI, 8, .inl (fun _ => 0))), ((v 7), .inl (cI, 60, .inl (fun _ => 0))), ((v 8), .inl (cI, 60, .inl (fun _ => 0))), ((v 9), .inl (cI, 60, .inl (fun _ => 0))), ((v 10), .inl (cI, 60, .inl (fun _ => 0))), ((v 11), .inl (cI, 60, .inl (fun _ => 0))), ((v 12), .inl (cI, 60, .inl (fun _ => 0))), ((v 13), .inl (cI, 14, .inl (fun _ => 0))), ((v 14), .inl (cI, 61, .inl (fun _ => 0))), ((v 15), .inl (cI, 6, .inl (fun _ => 0))), ((v 16), .inl (cI, 6, .inl (fun _ => 0))), ((v 17), .inl (cI, 28, .inl (fun _ => 0))), ((v 18), .inl (cI, 1260, .inl (fun _ => 0))), ((v 19), .inl (cI, 4, .inl (fun _ => 0))), ((v 20), .inl (cI, 160, .inl (fun _ => 0))), ((v 21), .inl (cZ, 2, .inl (fun _ => 0)))] H) (hD : va_D (fun q : Nat => s.heap.size ≤ q) [(qx, .inr (7, [.ref (u 0), .ref (u 9), .ref (u 13), .ref (u 18), .ref (u 23), .ref (u 29), .ref (u 31), .ref (u 32), .ref (u 33), .ref (u 34)])), ((u 0), .inr (0, [.ref (u 1), .ref (u 2), .ref (u 3), .int (-6), .int 0, .int 0, .ref (u 4), .ref (u 5), .ref (u 6), .int 0, .ref (u 7), .ref (u 8)])), ((u 1), .inl (cI, 5, .inl (upd (fun _ => 0) 0 800))), ((u 2), .inl (cI, 14, .inl (fun _ => 0))), ((u 3), .inl (cZ, 14, .inl (fun _ => 0))), ((u 4), .inl (cI, 6, .inl (fun _ => 0))), ((u 5), .inl (cI, 6, .inl (fun _ => 0))), ((u 6), .inl (cI, 6, .inl (fun _ => 0))), ((u 7), .inl (cI, 8, .inl (fun _ => 0))), ((u 8), .inl (cI, 8, .inl (fun _ => 0))), ((u 9), .inr (4, [.ref (u 10), .int 0, .ref (u 11), .ref (u 12), .int 0, .int 0])), ((u 10), .inl (cI, 60, .inl (fun _ => 0))), ((u 11), .inl (cI, 60, .inl (fun _ => 0))), ((u 12), .inl (cI, 60, .inl (fun _ => 0))), ((u 13), .inr (1, [.ref (u 0), .ref (u 9), .ref (u 14), .ref (u 15), .ref (u 16), .ref (u 17), .int 0, .int 0, .int 0, .int 0, .int 0, .int 0, .int 0, .int 0])), ((u 14), .inl (cI, 60, .inl (fun _ => 0))), ((u 15), .inl (cI, 60, .inl (fun _ => 0))), ((u 16), .inl (cI, 60, .inl (fun _ => 0))), ((u 17), .inl (cI, 61, .inl (fun _ => 0))), ((u 18), .inr (3, [.ref (u 0), .ref (u 19), .int 0, .ref (u 20), .ref (u 21), .ref (u 22)])), ((u 19), .inl (cI, 6, .inl (fun _ => 0))), ((u 20), .inl (cI, 6, .inl (fun _ => 0))), ((u 21), .inl (cI, 6, .inl (fun _ => 0))), ((u 22), .inl (cI, 5, .inl (fun _ => 0))), ((u 23), .inr (5, [.ref (u 0), .ref (u 9), .ref (u 13), .ref (u 24), .ref (u 25), .ref (u 26), .ref (u 27), .ref (u 28), .int 0, .int 0, .int 0])), ((u 24), .inl (cI, 61, .inl (fun _ => 0))), ((u 25), .inl (cI, 61, .inl (fun _ => 0))), ((u 26), .inl (cI, 60, .inl (fun _ => 0))), ((u 27), .inl (cI, 60, .inl (fun _ => 0))), ((u 28), .inl (cI, 21, .inl (fun _ => 0))), ((u 29), .inr (2, [.ref (u 0), .ref (u 9), .ref (u 13), .ref (u 30), .long 0, .long 0])), ((u 30), .inl (cI, 60, .inl (fun _ => 0))), ((u 31), .inr (6, [.ref (u 0), .int 0, .int 0, .int 0])), ((u 32), .inl (cK, 2, .inr (.inr (.inr (.inr (va_up (va_up (fun _ => none) 0 (some (u 35))) 1 (some (u 44)))))))), ((u 33), .inl (cZ, 2, .inl (fun _ => 0))), ((u 34), .inl (cI, 4, .inl (fun _ => 0))), ((u 35), .inr (0, [.ref (u 36), .ref (u 37), .ref (u 38), .int (-6), .int 0, .int 0, .ref (u 39), .ref (u 40), .ref (u 41), .int 0, .ref (u 42), .ref (u 43)])), ((u 36), .inl (cI, 5, .inl (upd (fun _ => 0) 0 800))), ((u 37), .inl (cI, 14, .inl (fun _ => 0))), ((u 38), .inl (cZ, 14, .inl (fun _ => 0))), ((u 39), .inl (cI, 6, .inl (fun _ => 0))), ((u 40), .inl (cI, 6, .inl (fun _ => 0))), ((u 41), .inl (cI, 6, .inl (fun _ => 0))), ((u 42), .inl (cI, 8, .inl (fun _ => 0))), ((u 43), .inl (cI, 8, .inl (fun _ => 0))), ((u 44), .inr (0, [.ref (u 45), .ref (u 46), .ref (u 47), .int (-6), .int 0, .int 0, .ref (u 48), .ref (u 49), .ref (u 50), .int 0, .ref (u 51), .ref (u 52)])), ((u 45), .inl (cI, 5, .inl (upd (fun _ => 0) 0 800))), ((u 46), .inl (cI, 14, .inl (fun _ => 0))), ((u 47), .inl (cZ, 14, .inl (fun _ => 0))), ((u 48), .inl (cI, 6, .inl (fun _ => 0))), ((u 49), .inl (cI, 6, .inl (fun _ => 0))), ((u 50), .inl (cI, 6, .inl (fun _ => 0))), ((u 51), .inl (cI, 8, .inl (fun _ => 0))), ((u 52), .inl (cI, 8, .inl (fun _ => 0))), (qn, .inr (8, [.int 800, .int 0, .int 0, .int 0, .int 0, .int 0, .int 0, .ref (v 0), .ref (v 1), .int 0, .ref (v 2), .ref (v 3), .ref (v 4), .ref (v 5), .ref (v 6), .int 0, .ref (v 7), .int 0, .ref (v 8), .ref (v 9), .ref (v 10), .int 0, .int 0, .int 0, .int 0, .int 0, .int 0, .int 0, .int 0, .int 0, .ref (v 11), .ref (v 12), .ref (v 13), .ref (v 14), .int 0, .int 0, .int 0, .int 0, .int 0, .int 0, .int 0, .ref (v 15), .int 0, .ref (v 16), .ref (v 17), .int 0, .int 0, .ref (v 18), .ref (v 19), .ref (v 20), .ref (v 21), .int 0, .int 0])), ((v 0), .inl (cI, 14, .inl (fun _ => 0))), ((v 1), .inl (cI, 14, .inl (fun _ => 0))), ((v 2), .inl (cI, 6, .inl (fun _ => 0))), ((v 3), .inl (cI, 6, .inl (fun _ => 0))), ((v 4), .inl (cI, 6, .inl (fun _ => 0))), ((v 5), .inl (cI, 8, .inl (fun _ => 0))), ((v 6), .inl (cI, 8, .inl (fun _ => 0))), ((v 7), .inl (cI, 60, .inl (fun _ => 0))), ((v 8), .inl (cI, 60, .inl (fun _ => 0))), ((v 9), .inl (cI, 60, .inl (fun _ => 0))), ((v 10), .inl (cI, 60, .inl (fun _ => 0))), ((v 11), .inl (cI, 60, .inl (fun _ => 0))), ((v 12), .inl (cI, 60, .inl (fun _ => 0))), ((v 13), .inl (cI, 14, .inl (fun _ => 0))), ((v 14), .inl (cI, 61, .inl (fun _ => 0))), ((v 15), .inl (cI, 6, .inl (fun _ => 0))), ((v 16), .inl (cI, 6, .inl (fun _ => 0))), ((v 17), .inl (cI, 28, .inl (fun _ => 0))), ((v 18), .inl (cI, 1260, .inl (fun _ => 0))), ((v 19), .inl (cI, 4, .inl (fun _ => 0))), ((v 20), .inl (cI, 160, .inl (fun _ => 0))), ((v 21), .inl (cZ, 2, .inl (fun _ => 0)))]) (hS : va_S (fun q : Nat => s.heap.size ≤ q) s.heap H locs) (ls : Array Slot) (hl : lv_has ls 4 [(3, .int 0), (2, .ref qn), (1, .ref qx), (0, .ref b)]) : W p l e room_1 s m #[Value.ref b] below meth c H locs 77 3085 (lw_Z below #[Value.ref b] s) (F0 m 799 ls []) := by
  obtain ⟨hx, hb, hr, hml, hown, hts, hX, hbl, hlocks, hgv⟩ := C0
  have hts := fun w h => hts w (wsL_law_in w h)
  have hown : s.vm.findClass RL = some m.cls := hown
  have hA : ∀ q : Nat, s.heap.size ≤ q → (fun q : Nat => s.heap.size ≤ q) q := fun _ h => h
  have hbA : ¬ (fun q : Nat => s.heap.size ≤ q) b := Nat.not_le.mpr hbl
  have hK := hKx.1
  replace hP := mx_subP (wc := [(qx, .inr (7, [.ref (u 0), .ref (u 9), .ref (u 13), .ref (u 18), .ref (u 23), .ref (u 29), .ref (u 31), .ref (u 32), .ref (u 33), .ref (u 34)])), ((u 0), .inr (0, [.ref (u 1), .ref (u 2), .ref (u 3), .int (-6), .int 0, .int 0, .ref (u 4), .ref (u 5), .ref (u 6), .int 0, .ref (u 7), .ref (u 8)])), ((u 1), .inl (cI, 5, .inl (upd (fun _ => 0) 0 800))), ((u 9), .inr (4, [.ref (u 10), .int 0, .ref (u 11), .ref (u 12), .int 0, .int 0])), ((u 13), .inr (1, [.ref (u 0), .ref (u 9), .ref (u 14), .ref (u 15), .ref (u 16), .ref (u 17), .int 0, .int 0, .int 0, .int 0, .int 0, .int 0, .int 0, .int 0])), ((u 17), .inl (cI, 61, .inl (fun _ => 0))), ((u 29), .inr (2, [.ref (u 0), .ref (u 9), .ref (u 13), .ref (u 30), .long 0, .long 0])), (qn, .inr (8, [.int 800, .int 0, .int 0, .int 0, .int 0, .int 0, .int 0, .ref (v 0), .ref (v 1), .int 0, .ref (v 2), .ref (v 3), .ref (v 4), .ref (v 5), .ref (v 6), .int 0, .ref (v 7), .int 0, .ref (v 8), .ref (v 9), .ref (v 10), .int 0, .int 0, .int 0, .int 0, .int 0, .int 0, .int 0, .int 0, .int 0, .ref (v 11), .ref (v 12), .ref (v 13), .ref (v 14), .int 0, .int 0, .int 0, .int 0, .int 0, .int 0, .int 0, .ref (v 15), .int 0, .ref (v 16), .ref (v 17), .int 0, .int 0, .ref (v 18), .ref (v 19), .ref (v 20), .ref (v 21), .int 0, .int 0])), ((v 13), .inl (cI, 14, .inl (fun _ => 0))), ((v 14), .inl (cI, 61, .inl (fun _ => 0)))]) hP [0, 1, 2, 10, 14, 18, 30, 54, 68, 69] rfl
  replace hD := hD.sub (ws' := [(qx, .inr (7, [.ref (u 0), .ref (u 9), .ref (u 13), .ref (u 18), .ref (u 23), .ref (u 29), .ref (u 31), .ref (u 32), .ref (u 33), .ref (u 34)])), ((u 0), .inr (0, [.ref (u 1), .ref (u 2), .ref (u 3), .int (-6), .int 0, .int 0, .ref (u 4), .ref (u 5), .ref (u 6), .int 0, .ref (u 7), .ref (u 8)])), ((u 1), .inl (cI, 5, .inl (upd (fun _ => 0) 0 800))), ((u 9), .inr (4, [.ref (u 10), .int 0, .ref (u 11), .ref (u 12), .int 0, .int 0])), ((u 13), .inr (1, [.ref (u 0), .ref (u 9), .ref (u 14), .ref (u 15), .ref (u 16), .ref (u 17), .int 0, .int 0, .int 0, .int 0, .int 0, .int 0, .int 0, .int 0])), ((u 17), .inl (cI, 61, .inl (fun _ => 0))), ((u 29), .inr (2, [.ref (u 0), .ref (u 9), .ref (u 13), .ref (u 30), .long 0, .long 0])), (qn, .inr (8, [.int 800, .int 0, .int 0, .int 0, .int 0, .int 0, .int 0, .ref (v 0), .ref (v 1), .int 0, .ref (v 2), .ref (v 3), .ref (v 4), .ref (v 5), .ref (v 6), .int 0, .ref (v 7), .int 0, .ref (v 8), .ref (v 9), .ref (v 10), .int 0, .int 0, .int 0, .int 0, .int 0, .int 0, .int 0, .int 0, .int 0, .ref (v 11), .ref (v 12), .ref (v 13), .ref (v 14), .int 0, .int 0, .int 0, .int 0, .int 0, .int 0, .int 0, .ref (v 15), .int 0, .ref (v 16), .ref (v 17), .int 0, .int 0, .ref (v 18), .ref (v 19), .ref (v 20), .ref (v 21), .int 0, .int 0])), ((v 13), .inl (cI, 14, .inl (fun _ => 0))), ((v 14), .inl (cI, 61, .inl (fun _ => 0)))]) [0, 1, 2, 10, 14, 18, 30, 54, 68, 69] (by decide) rfl
  by_cases hz : 0 ≤ (xs 1).toInt ∧ (xs 1).toInt ≤ 10 ∧ 0 ≤ (xs 2).toInt ∧ (xs 2).toInt ≤ 1 ∧ 0 ≤ (xs 3).toInt ∧ (xs 3).toInt ≤ 1
  · have ha2 : xs 2 = 0 ∨ xs 2 = 1 := (show (xs 2).toInt = 0 ∨ (xs 2).toInt = 1 by omega).imp (fun h => ceq h) (fun h => ceq h)
    have ha3 : xs 3 = 0 ∨ xs 3 = 1 := (show (xs 3).toInt = 0 ∨ (xs 3).toInt = 1 by omega).imp (fun h => ceq h) (fun h => ceq h)
    rcases ha2 with hz2 | hz2 <;> rcases ha3 with hz3 | hz3
    · skip
      refine lv_aload_n hx hb dL_law_799 rfl (lv_at hl 2 rfl) ?_
      refine lv_aload_n hx hb dL_law_800 rfl (lv_at hl 3 rfl) ?_
      refine lv_iload_n hx hb dL_law_801 rfl (lv_at hl 0 rfl) ?_
      refine lv_iconst (v := 1) hx hb dL_law_802 (by decide) ?_
      refine lv_iadd hx hb dL_law_803 ?_
      refine lv_topi (fun x1 e1 => ?_)
      obtain rfl : x1 = 1 := e1.trans (by decide)
      refine va_sld hx hb hX hbl hbA hS (vin (by decide) (by decide)) dL_law_804 ?_
      refine lv_topi (fun y2 e2 => ?_)
      obtain rfl : y2 = xs 1 := e2
      refine lv_aload_n hx hb dL_law_805 rfl (lv_at hl 3 rfl) ?_
      refine lv_iload_n hx hb dL_law_806 rfl (lv_at hl 0 rfl) ?_
      refine lv_iconst (v := 2) hx hb dL_law_807 (by decide) ?_
      refine lv_iadd hx hb dL_law_808 ?_
      refine lv_topi (fun x3 e3 => ?_)
      obtain rfl : x3 = 2 := e3.trans (by decide)
      refine va_sld hx hb hX hbl hbA hS (vin (by decide) (by decide)) dL_law_809 ?_
      refine lv_topi (fun y4 e4 => ?_)
      obtain rfl : y4 = 0 := e4.trans hz2
      refine lv_aload_n hx hb dL_law_810 rfl (lv_at hl 3 rfl) ?_
      refine lv_iload_n hx hb dL_law_811 rfl (lv_at hl 0 rfl) ?_
      refine lv_iconst (v := 3) hx hb dL_law_812 (by decide) ?_
      refine lv_iadd hx hb dL_law_813 ?_
      refine lv_topi (fun x5 e5 => ?_)
      obtain rfl : x5 = 3 := e5.trans (by decide)
      refine va_sld hx hb hX hbl hbA hS (vin (by decide) (by decide)) dL_law_814 ?_
      refine lv_topi (fun y6 e6 => ?_)
      obtain rfl : y6 = 0 := e6.trans hz3
      refine mx_l (wr := [(qn, .inr (8, [.int 800, .int 0, .int 0, .int 0, .int 0, .int 0, .int 0, .ref (v 0), .ref (v 1), .int 0, .ref (v 2), .ref (v 3), .ref (v 4), .ref (v 5), .ref (v 6), .int 0, .ref (v 7), .int 0, .ref (v 8), .ref (v 9), .ref (v 10), .int 0, .int 0, .int 0, .int 0, .int 0, .int 0, .int 0, .int 0, .int 0, .ref (v 11), .ref (v 12), .ref (v 13), .ref (v 14), .int 0, .int 0, .int 0, .int 0, .int 0, .int 0, .int 0, .ref (v 15), .int 0, .ref (v 16), .ref (v 17), .int 0, .int 0, .ref (v 18), .ref (v 19), .ref (v 20), .ref (v 21), .int 0, .int 0])), ((v 13), .inl (cI, 14, .inl (fun _ => 0))), ((v 14), .inl (cI, 61, .inl (fun _ => 0)))]) (va_runV (As := [.int (xs 1), .int 0, .int 0]) (rest := []) ⟨hx, hb, hml, hown, hts⟩ (c_X7_gust_0_0 l dC dI cI cZ cK tS aK aV qx (u 18) (u 23) (u 29) (u 31) (u 32) (u 33) (u 34) (u 13) (u 14) (u 15) (u 16) (u 17) (u 0) (u 1) (u 2) (u 3) (u 4) (u 5) (u 6) (u 7) (u 8) (u 9) (u 10) (u 11) (u 12) (u 30) (xs 1) H.size (by first | omega | decide | assumption | trivial)) (cwV 3 hts (gw_v (fun _ h9 => h9) wm_737 wm_738 wm_739 wm_2 wm_740) rfl rfl rfl (by decide +kernel) ⟨Nat.le_of_ble_eq_true rfl, Nat.le_of_ble_eq_true rfl⟩) (mx_preV (C := RX7) (T := TX7) (N := 10) (ci := 7) hKx hP hD hS hA [0, 3, 4, 5, 1, 2, 6] (by decide) rfl rfl rfl) rfl rfl hl.1 rfl (lv_room (Nat.le_of_ble_eq_true rfl)) dL_law_815 ⟨Nat.le_of_ble_eq_true rfl, Nat.le_of_ble_eq_true rfl⟩) hP hD hS hA [0, 3, 4, 5, 1, 2, 6] [7, 8, 9] rfl rfl (by decide) (by decide) (fun r7 u7 H locs hq7 hP hD hS => ?_)
      replace hP : va_P (dC, dI) vwCl [(qn, .inr (8, [.int 800, .int 0, .int 0, .int 0, .int 0, .int 0, .int 0, .ref (v 0), .ref (v 1), .int 0, .ref (v 2), .ref (v 3), .ref (v 4), .ref (v 5), .ref (v 6), .int 0, .ref (v 7), .int 0, .ref (v 8), .ref (v 9), .ref (v 10), .int 0, .int 0, .int 0, .int 0, .int 0, .int 0, .int 0, .int 0, .int 0, .ref (v 11), .ref (v 12), .ref (v 13), .ref (v 14), .int 0, .int 0, .int 0, .int 0, .int 0, .int 0, .int 0, .ref (v 15), .int 0, .ref (v 16), .ref (v 17), .int 0, .int 0, .ref (v 18), .ref (v 19), .ref (v 20), .ref (v 21), .int 0, .int 0])), ((v 13), .inl (cI, 14, .inl (fun _ => 0))), ((v 14), .inl (cI, 61, .inl (fun _ => 0)))] H := hP
      replace hD : va_D (fun q : Nat => s.heap.size ≤ q) [(qn, .inr (8, [.int 800, .int 0, .int 0, .int 0, .int 0, .int 0, .int 0, .ref (v 0), .ref (v 1), .int 0, .ref (v 2), .ref (v 3), .ref (v 4), .ref (v 5), .ref (v 6), .int 0, .ref (v 7), .int 0, .ref (v 8), .ref (v 9), .ref (v 10), .int 0, .int 0, .int 0, .int 0, .int 0, .int 0, .int 0, .int 0, .int 0, .ref (v 11), .ref (v 12), .ref (v 13), .ref (v 14), .int 0, .int 0, .int 0, .int 0, .int 0, .int 0, .int 0, .ref (v 15), .int 0, .ref (v 16), .ref (v 17), .int 0, .int 0, .ref (v 18), .ref (v 19), .ref (v 20), .ref (v 21), .int 0, .int 0])), ((v 13), .inl (cI, 14, .inl (fun _ => 0))), ((v 14), .inl (cI, 61, .inl (fun _ => 0)))] := hD
      obtain rfl : r7 = 1 := hq7
      refine lv_aload_n hx hb dL_law_818 rfl (lv_at hl 1 rfl) ?_
      refine lv_aload_n hx hb dL_law_819 rfl (lv_at hl 3 rfl) ?_
      refine lv_iload_n hx hb dL_law_820 rfl (lv_at hl 0 rfl) ?_
      refine lv_iconst (v := 1) hx hb dL_law_821 (by decide) ?_
      refine lv_iadd hx hb dL_law_822 ?_
      refine lv_topi (fun x8 e8 => ?_)
      obtain rfl : x8 = 1 := e8.trans (by decide)
      refine va_sld hx hb hX hbl hbA hS (vin (by decide) (by decide)) dL_law_823 ?_
      refine lv_topi (fun y9 e9 => ?_)
      obtain rfl : y9 = xs 1 := e9
      refine lv_aload_n hx hb dL_law_824 rfl (lv_at hl 3 rfl) ?_
      refine lv_iload_n hx hb dL_law_825 rfl (lv_at hl 0 rfl) ?_
      refine lv_iconst (v := 2) hx hb dL_law_826 (by decide) ?_
      refine lv_iadd hx hb dL_law_827 ?_
      refine lv_topi (fun x10 e10 => ?_)
      obtain rfl : x10 = 2 := e10.trans (by decide)
      refine va_sld hx hb hX hbl hbA hS (vin (by decide) (by decide)) dL_law_828 ?_
      refine lv_topi (fun y11 e11 => ?_)
      obtain rfl : y11 = 0 := e11.trans hz2
      refine lv_aload_n hx hb dL_law_829 rfl (lv_at hl 3 rfl) ?_
      refine lv_iload_n hx hb dL_law_830 rfl (lv_at hl 0 rfl) ?_
      refine lv_iconst (v := 3) hx hb dL_law_831 (by decide) ?_
      refine lv_iadd hx hb dL_law_832 ?_
      refine lv_topi (fun x12 e12 => ?_)
      obtain rfl : x12 = 3 := e12.trans (by decide)
      refine va_sld hx hb hX hbl hbA hS (vin (by decide) (by decide)) dL_law_833 ?_
      refine lv_topi (fun y13 e13 => ?_)
      obtain rfl : y13 = 0 := e13.trans hz3
      refine mx_l (wr := []) (va_runV (As := [.int (xs 1), .int 0, .int 0]) (rest := [.long 1]) ⟨hx, hb, hml, hown, hts⟩ (c_X8_gust_0_0 l dC dI cI cZ cK tS aK aV qn (v 0) (v 1) (v 2) (v 3) (v 4) (v 5) (v 6) (v 7) (v 8) (v 9) (v 10) (v 11) (v 12) (v 13) (v 14) (v 15) (v 16) (v 17) (v 18) (v 19) (v 20) (v 21) (xs 1) H.size (by first | omega | decide | assumption | trivial)) (cwV 3 hts (gw_v (fun _ h9 => h9) wm_741 wm_742 wm_743 wm_385 wm_744) rfl rfl rfl (by decide +kernel) ⟨Nat.le_of_ble_eq_true rfl, Nat.le_of_ble_eq_true rfl⟩) (mx_preV (C := RX8) (T := TX8) (N := 53) (ci := 8) hKx hP hD hS hA [0, 1, 2] (by decide) rfl rfl rfl) rfl rfl hl.1 rfl (lv_room (Nat.le_of_ble_eq_true rfl)) dL_law_834 ⟨Nat.le_of_ble_eq_true rfl, Nat.le_of_ble_eq_true rfl⟩) hP hD hS hA [0, 1, 2] [] rfl rfl (by decide) (by decide) (fun r14 u14 H locs hq14 hP hD hS => ?_)
      replace hP : va_P (dC, dI) vwCl [] H := hP
      replace hD : va_D (fun q : Nat => s.heap.size ≤ q) [] := hD
      obtain rfl : r14 = 1 := hq14
      refine W.lcmp hx hb dL_law_837 ?_
      refine lv_topi (fun x15 e15 => ?_)
      obtain rfl : x15 = 0 := e15.trans (by decide)
      refine lv_if_eq (tgt := 998) hx hb dL_law_838 (by decide) (fun c16 => ?_) (fun c16 => absurd c16 (by decide))
      refine lv_iinc (v := 5) (lv' := [(3, .int 5), (2, .ref qn), (1, .ref qx), (0, .ref b)]) hx hb dL_law_998 hl (k := 0) rfl (by decide) (by decide) rfl (fun ls hl => ?_)
      refine lv_goto (tgt := 18) hx hb dL_law_1001 (by decide) ?_
      refine lv_iload_n hx hb dL_law_18 rfl (lv_at hl 0 rfl) ?_
      refine lv_aload_n hx hb dL_law_19 rfl (lv_at hl 3 rfl) ?_
      refine va_slen hx hb hX hbl hbA hS dL_law_20 ?_
      refine lv_topi (fun x17 e17 => ?_)
      obtain rfl : x17 = 5 := e17.trans (by decide)
      refine lv_iconst (v := 5) hx hb dL_law_21 (by decide) ?_
      refine lv_isub hx hb dL_law_22 ?_
      refine lv_topi (fun x18 e18 => ?_)
      obtain rfl : x18 = 0 := e18.trans (by decide)
      refine lv_icmp_gt (tgt := 1004) hx hb dL_law_23 (by decide) (fun c19 => ?_) (fun c19 => absurd c19 (by decide))
      refine lv_iconst (v := 1) hx hb dL_law_1004 (by decide) ?_
      refine va_forget (fun q hq => hS.2.2 q hq) ?_
      refine W.widen (k := 600000) (n := 7302250) (Nat.le_of_ble_eq_true rfl) (Nat.le_of_ble_eq_true rfl) ?_
      exact lw_ret hx hb hr hlocks dL_law_1005
    · skip
      refine lv_aload_n hx hb dL_law_799 rfl (lv_at hl 2 rfl) ?_
      refine lv_aload_n hx hb dL_law_800 rfl (lv_at hl 3 rfl) ?_
      refine lv_iload_n hx hb dL_law_801 rfl (lv_at hl 0 rfl) ?_
      refine lv_iconst (v := 1) hx hb dL_law_802 (by decide) ?_
      refine lv_iadd hx hb dL_law_803 ?_
      refine lv_topi (fun x20 e20 => ?_)
      obtain rfl : x20 = 1 := e20.trans (by decide)
      refine va_sld hx hb hX hbl hbA hS (vin (by decide) (by decide)) dL_law_804 ?_
      refine lv_topi (fun y21 e21 => ?_)
      obtain rfl : y21 = xs 1 := e21
      refine lv_aload_n hx hb dL_law_805 rfl (lv_at hl 3 rfl) ?_
      refine lv_iload_n hx hb dL_law_806 rfl (lv_at hl 0 rfl) ?_
      refine lv_iconst (v := 2) hx hb dL_law_807 (by decide) ?_
      refine lv_iadd hx hb dL_law_808 ?_
      refine lv_topi (fun x22 e22 => ?_)
      obtain rfl : x22 = 2 := e22.trans (by decide)
      refine va_sld hx hb hX hbl hbA hS (vin (by decide) (by decide)) dL_law_809 ?_
      refine lv_topi (fun y23 e23 => ?_)
      obtain rfl : y23 = 0 := e23.trans hz2
      refine lv_aload_n hx hb dL_law_810 rfl (lv_at hl 3 rfl) ?_
      refine lv_iload_n hx hb dL_law_811 rfl (lv_at hl 0 rfl) ?_
      refine lv_iconst (v := 3) hx hb dL_law_812 (by decide) ?_
      refine lv_iadd hx hb dL_law_813 ?_
      refine lv_topi (fun x24 e24 => ?_)
      obtain rfl : x24 = 3 := e24.trans (by decide)
      refine va_sld hx hb hX hbl hbA hS (vin (by decide) (by decide)) dL_law_814 ?_
      refine lv_topi (fun y25 e25 => ?_)
      obtain rfl : y25 = 1 := e25.trans hz3
      refine mx_l (wr := [(qn, .inr (8, [.int 800, .int 0, .int 0, .int 0, .int 0, .int 0, .int 0, .ref (v 0), .ref (v 1), .int 0, .ref (v 2), .ref (v 3), .ref (v 4), .ref (v 5), .ref (v 6), .int 0, .ref (v 7), .int 0, .ref (v 8), .ref (v 9), .ref (v 10), .int 0, .int 0, .int 0, .int 0, .int 0, .int 0, .int 0, .int 0, .int 0, .ref (v 11), .ref (v 12), .ref (v 13), .ref (v 14), .int 0, .int 0, .int 0, .int 0, .int 0, .int 0, .int 0, .ref (v 15), .int 0, .ref (v 16), .ref (v 17), .int 0, .int 0, .ref (v 18), .ref (v 19), .ref (v 20), .ref (v 21), .int 0, .int 0])), ((v 13), .inl (cI, 14, .inl (fun _ => 0))), ((v 14), .inl (cI, 61, .inl (fun _ => 0)))]) (va_runV (As := [.int (xs 1), .int 0, .int 1]) (rest := []) ⟨hx, hb, hml, hown, hts⟩ (c_X7_gust_0_1 l dC dI cI cZ cK tS aK aV qx (u 18) (u 23) (u 29) (u 31) (u 32) (u 33) (u 34) (u 13) (u 14) (u 15) (u 16) (u 17) (u 0) (u 1) (u 2) (u 3) (u 4) (u 5) (u 6) (u 7) (u 8) (u 9) (u 10) (u 11) (u 12) (u 30) (xs 1) H.size (by first | omega | decide | assumption | trivial)) (cwV 3 hts (gw_v (fun _ h9 => h9) wm_737 wm_738 wm_739 wm_2 wm_740) rfl rfl rfl (by decide +kernel) ⟨Nat.le_of_ble_eq_true rfl, Nat.le_of_ble_eq_true rfl⟩) (mx_preV (C := RX7) (T := TX7) (N := 10) (ci := 7) hKx hP hD hS hA [0, 3, 4, 5, 1, 2, 6] (by decide) rfl rfl rfl) rfl rfl hl.1 rfl (lv_room (Nat.le_of_ble_eq_true rfl)) dL_law_815 ⟨Nat.le_of_ble_eq_true rfl, Nat.le_of_ble_eq_true rfl⟩) hP hD hS hA [0, 3, 4, 5, 1, 2, 6] [7, 8, 9] rfl rfl (by decide) (by decide) (fun r26 u26 H locs hq26 hP hD hS => ?_)
      replace hP : va_P (dC, dI) vwCl [(qn, .inr (8, [.int 800, .int 0, .int 0, .int 0, .int 0, .int 0, .int 0, .ref (v 0), .ref (v 1), .int 0, .ref (v 2), .ref (v 3), .ref (v 4), .ref (v 5), .ref (v 6), .int 0, .ref (v 7), .int 0, .ref (v 8), .ref (v 9), .ref (v 10), .int 0, .int 0, .int 0, .int 0, .int 0, .int 0, .int 0, .int 0, .int 0, .ref (v 11), .ref (v 12), .ref (v 13), .ref (v 14), .int 0, .int 0, .int 0, .int 0, .int 0, .int 0, .int 0, .ref (v 15), .int 0, .ref (v 16), .ref (v 17), .int 0, .int 0, .ref (v 18), .ref (v 19), .ref (v 20), .ref (v 21), .int 0, .int 0])), ((v 13), .inl (cI, 14, .inl (fun _ => 0))), ((v 14), .inl (cI, 61, .inl (fun _ => 0)))] H := hP
      replace hD : va_D (fun q : Nat => s.heap.size ≤ q) [(qn, .inr (8, [.int 800, .int 0, .int 0, .int 0, .int 0, .int 0, .int 0, .ref (v 0), .ref (v 1), .int 0, .ref (v 2), .ref (v 3), .ref (v 4), .ref (v 5), .ref (v 6), .int 0, .ref (v 7), .int 0, .ref (v 8), .ref (v 9), .ref (v 10), .int 0, .int 0, .int 0, .int 0, .int 0, .int 0, .int 0, .int 0, .int 0, .ref (v 11), .ref (v 12), .ref (v 13), .ref (v 14), .int 0, .int 0, .int 0, .int 0, .int 0, .int 0, .int 0, .ref (v 15), .int 0, .ref (v 16), .ref (v 17), .int 0, .int 0, .ref (v 18), .ref (v 19), .ref (v 20), .ref (v 21), .int 0, .int 0])), ((v 13), .inl (cI, 14, .inl (fun _ => 0))), ((v 14), .inl (cI, 61, .inl (fun _ => 0)))] := hD
      obtain rfl : r26 = 1 := hq26
      refine lv_aload_n hx hb dL_law_818 rfl (lv_at hl 1 rfl) ?_
      refine lv_aload_n hx hb dL_law_819 rfl (lv_at hl 3 rfl) ?_
      refine lv_iload_n hx hb dL_law_820 rfl (lv_at hl 0 rfl) ?_
      refine lv_iconst (v := 1) hx hb dL_law_821 (by decide) ?_
      refine lv_iadd hx hb dL_law_822 ?_
      refine lv_topi (fun x27 e27 => ?_)
      obtain rfl : x27 = 1 := e27.trans (by decide)
      refine va_sld hx hb hX hbl hbA hS (vin (by decide) (by decide)) dL_law_823 ?_
      refine lv_topi (fun y28 e28 => ?_)
      obtain rfl : y28 = xs 1 := e28
      refine lv_aload_n hx hb dL_law_824 rfl (lv_at hl 3 rfl) ?_
      refine lv_iload_n hx hb dL_law_825 rfl (lv_at hl 0 rfl) ?_
      refine lv_iconst (v := 2) hx hb dL_law_826 (by decide) ?_
      refine lv_iadd hx hb dL_law_827 ?_
      refine lv_topi (fun x29 e29 => ?_)
      obtain rfl : x29 = 2 := e29.trans (by decide)
      refine va_sld hx hb hX hbl hbA hS (vin (by decide) (by decide)) dL_law_828 ?_
      refine lv_topi (fun y30 e30 => ?_)
      obtain rfl : y30 = 0 := e30.trans hz2
      refine lv_aload_n hx hb dL_law_829 rfl (lv_at hl 3 rfl) ?_
      refine lv_iload_n hx hb dL_law_830 rfl (lv_at hl 0 rfl) ?_
      refine lv_iconst (v := 3) hx hb dL_law_831 (by decide) ?_
      refine lv_iadd hx hb dL_law_832 ?_
      refine lv_topi (fun x31 e31 => ?_)
      obtain rfl : x31 = 3 := e31.trans (by decide)
      refine va_sld hx hb hX hbl hbA hS (vin (by decide) (by decide)) dL_law_833 ?_
      refine lv_topi (fun y32 e32 => ?_)
      obtain rfl : y32 = 1 := e32.trans hz3
      refine mx_l (wr := []) (va_runV (As := [.int (xs 1), .int 0, .int 1]) (rest := [.long 1]) ⟨hx, hb, hml, hown, hts⟩ (c_X8_gust_0_1 l dC dI cI cZ cK tS aK aV qn (v 0) (v 1) (v 2) (v 3) (v 4) (v 5) (v 6) (v 7) (v 8) (v 9) (v 10) (v 11) (v 12) (v 13) (v 14) (v 15) (v 16) (v 17) (v 18) (v 19) (v 20) (v 21) (xs 1) H.size (by first | omega | decide | assumption | trivial)) (cwV 3 hts (gw_v (fun _ h9 => h9) wm_741 wm_742 wm_743 wm_385 wm_744) rfl rfl rfl (by decide +kernel) ⟨Nat.le_of_ble_eq_true rfl, Nat.le_of_ble_eq_true rfl⟩) (mx_preV (C := RX8) (T := TX8) (N := 53) (ci := 8) hKx hP hD hS hA [0, 1, 2] (by decide) rfl rfl rfl) rfl rfl hl.1 rfl (lv_room (Nat.le_of_ble_eq_true rfl)) dL_law_834 ⟨Nat.le_of_ble_eq_true rfl, Nat.le_of_ble_eq_true rfl⟩) hP hD hS hA [0, 1, 2] [] rfl rfl (by decide) (by decide) (fun r33 u33 H locs hq33 hP hD hS => ?_)
      replace hP : va_P (dC, dI) vwCl [] H := hP
      replace hD : va_D (fun q : Nat => s.heap.size ≤ q) [] := hD
      obtain rfl : r33 = 1 := hq33
      refine W.lcmp hx hb dL_law_837 ?_
      refine lv_topi (fun x34 e34 => ?_)
      obtain rfl : x34 = 0 := e34.trans (by decide)
      refine lv_if_eq (tgt := 998) hx hb dL_law_838 (by decide) (fun c35 => ?_) (fun c35 => absurd c35 (by decide))
      refine lv_iinc (v := 5) (lv' := [(3, .int 5), (2, .ref qn), (1, .ref qx), (0, .ref b)]) hx hb dL_law_998 hl (k := 0) rfl (by decide) (by decide) rfl (fun ls hl => ?_)
      refine lv_goto (tgt := 18) hx hb dL_law_1001 (by decide) ?_
      refine lv_iload_n hx hb dL_law_18 rfl (lv_at hl 0 rfl) ?_
      refine lv_aload_n hx hb dL_law_19 rfl (lv_at hl 3 rfl) ?_
      refine va_slen hx hb hX hbl hbA hS dL_law_20 ?_
      refine lv_topi (fun x36 e36 => ?_)
      obtain rfl : x36 = 5 := e36.trans (by decide)
      refine lv_iconst (v := 5) hx hb dL_law_21 (by decide) ?_
      refine lv_isub hx hb dL_law_22 ?_
      refine lv_topi (fun x37 e37 => ?_)
      obtain rfl : x37 = 0 := e37.trans (by decide)
      refine lv_icmp_gt (tgt := 1004) hx hb dL_law_23 (by decide) (fun c38 => ?_) (fun c38 => absurd c38 (by decide))
      refine lv_iconst (v := 1) hx hb dL_law_1004 (by decide) ?_
      refine va_forget (fun q hq => hS.2.2 q hq) ?_
      refine W.widen (k := 600000) (n := 7302250) (Nat.le_of_ble_eq_true rfl) (Nat.le_of_ble_eq_true rfl) ?_
      exact lw_ret hx hb hr hlocks dL_law_1005
    · skip
      refine lv_aload_n hx hb dL_law_799 rfl (lv_at hl 2 rfl) ?_
      refine lv_aload_n hx hb dL_law_800 rfl (lv_at hl 3 rfl) ?_
      refine lv_iload_n hx hb dL_law_801 rfl (lv_at hl 0 rfl) ?_
      refine lv_iconst (v := 1) hx hb dL_law_802 (by decide) ?_
      refine lv_iadd hx hb dL_law_803 ?_
      refine lv_topi (fun x39 e39 => ?_)
      obtain rfl : x39 = 1 := e39.trans (by decide)
      refine va_sld hx hb hX hbl hbA hS (vin (by decide) (by decide)) dL_law_804 ?_
      refine lv_topi (fun y40 e40 => ?_)
      obtain rfl : y40 = xs 1 := e40
      refine lv_aload_n hx hb dL_law_805 rfl (lv_at hl 3 rfl) ?_
      refine lv_iload_n hx hb dL_law_806 rfl (lv_at hl 0 rfl) ?_
      refine lv_iconst (v := 2) hx hb dL_law_807 (by decide) ?_
      refine lv_iadd hx hb dL_law_808 ?_
      refine lv_topi (fun x41 e41 => ?_)
      obtain rfl : x41 = 2 := e41.trans (by decide)
      refine va_sld hx hb hX hbl hbA hS (vin (by decide) (by decide)) dL_law_809 ?_
      refine lv_topi (fun y42 e42 => ?_)
      obtain rfl : y42 = 1 := e42.trans hz2
      refine lv_aload_n hx hb dL_law_810 rfl (lv_at hl 3 rfl) ?_
      refine lv_iload_n hx hb dL_law_811 rfl (lv_at hl 0 rfl) ?_
      refine lv_iconst (v := 3) hx hb dL_law_812 (by decide) ?_
      refine lv_iadd hx hb dL_law_813 ?_
      refine lv_topi (fun x43 e43 => ?_)
      obtain rfl : x43 = 3 := e43.trans (by decide)
      refine va_sld hx hb hX hbl hbA hS (vin (by decide) (by decide)) dL_law_814 ?_
      refine lv_topi (fun y44 e44 => ?_)
      obtain rfl : y44 = 0 := e44.trans hz3
      refine mx_l (wr := [(qn, .inr (8, [.int 800, .int 0, .int 0, .int 0, .int 0, .int 0, .int 0, .ref (v 0), .ref (v 1), .int 0, .ref (v 2), .ref (v 3), .ref (v 4), .ref (v 5), .ref (v 6), .int 0, .ref (v 7), .int 0, .ref (v 8), .ref (v 9), .ref (v 10), .int 0, .int 0, .int 0, .int 0, .int 0, .int 0, .int 0, .int 0, .int 0, .ref (v 11), .ref (v 12), .ref (v 13), .ref (v 14), .int 0, .int 0, .int 0, .int 0, .int 0, .int 0, .int 0, .ref (v 15), .int 0, .ref (v 16), .ref (v 17), .int 0, .int 0, .ref (v 18), .ref (v 19), .ref (v 20), .ref (v 21), .int 0, .int 0])), ((v 13), .inl (cI, 14, .inl (fun _ => 0))), ((v 14), .inl (cI, 61, .inl (fun _ => 0)))]) (va_runV (As := [.int (xs 1), .int 1, .int 0]) (rest := []) ⟨hx, hb, hml, hown, hts⟩ (c_X7_gust_1_0 l dC dI cI cZ cK tS aK aV qx (u 18) (u 23) (u 29) (u 31) (u 32) (u 33) (u 34) (u 13) (u 14) (u 15) (u 16) (u 17) (u 0) (u 1) (u 2) (u 3) (u 4) (u 5) (u 6) (u 7) (u 8) (u 9) (u 10) (u 11) (u 12) (u 30) (xs 1) H.size (by first | omega | decide | assumption | trivial)) (cwV 3 hts (gw_v (fun _ h9 => h9) wm_737 wm_738 wm_739 wm_2 wm_740) rfl rfl rfl (by decide +kernel) ⟨Nat.le_of_ble_eq_true rfl, Nat.le_of_ble_eq_true rfl⟩) (mx_preV (C := RX7) (T := TX7) (N := 10) (ci := 7) hKx hP hD hS hA [0, 3, 4, 5, 1, 2, 6] (by decide) rfl rfl rfl) rfl rfl hl.1 rfl (lv_room (Nat.le_of_ble_eq_true rfl)) dL_law_815 ⟨Nat.le_of_ble_eq_true rfl, Nat.le_of_ble_eq_true rfl⟩) hP hD hS hA [0, 3, 4, 5, 1, 2, 6] [7, 8, 9] rfl rfl (by decide) (by decide) (fun r45 u45 H locs hq45 hP hD hS => ?_)
      replace hP : va_P (dC, dI) vwCl [(qn, .inr (8, [.int 800, .int 0, .int 0, .int 0, .int 0, .int 0, .int 0, .ref (v 0), .ref (v 1), .int 0, .ref (v 2), .ref (v 3), .ref (v 4), .ref (v 5), .ref (v 6), .int 0, .ref (v 7), .int 0, .ref (v 8), .ref (v 9), .ref (v 10), .int 0, .int 0, .int 0, .int 0, .int 0, .int 0, .int 0, .int 0, .int 0, .ref (v 11), .ref (v 12), .ref (v 13), .ref (v 14), .int 0, .int 0, .int 0, .int 0, .int 0, .int 0, .int 0, .ref (v 15), .int 0, .ref (v 16), .ref (v 17), .int 0, .int 0, .ref (v 18), .ref (v 19), .ref (v 20), .ref (v 21), .int 0, .int 0])), ((v 13), .inl (cI, 14, .inl (fun _ => 0))), ((v 14), .inl (cI, 61, .inl (fun _ => 0)))] H := hP
      replace hD : va_D (fun q : Nat => s.heap.size ≤ q) [(qn, .inr (8, [.int 800, .int 0, .int 0, .int 0, .int 0, .int 0, .int 0, .ref (v 0), .ref (v 1), .int 0, .ref (v 2), .ref (v 3), .ref (v 4), .ref (v 5), .ref (v 6), .int 0, .ref (v 7), .int 0, .ref (v 8), .ref (v 9), .ref (v 10), .int 0, .int 0, .int 0, .int 0, .int 0, .int 0, .int 0, .int 0, .int 0, .ref (v 11), .ref (v 12), .ref (v 13), .ref (v 14), .int 0, .int 0, .int 0, .int 0, .int 0, .int 0, .int 0, .ref (v 15), .int 0, .ref (v 16), .ref (v 17), .int 0, .int 0, .ref (v 18), .ref (v 19), .ref (v 20), .ref (v 21), .int 0, .int 0])), ((v 13), .inl (cI, 14, .inl (fun _ => 0))), ((v 14), .inl (cI, 61, .inl (fun _ => 0)))] := hD
      obtain rfl : r45 = 0 := hq45
      refine lv_aload_n hx hb dL_law_818 rfl (lv_at hl 1 rfl) ?_
      refine lv_aload_n hx hb dL_law_819 rfl (lv_at hl 3 rfl) ?_
      refine lv_iload_n hx hb dL_law_820 rfl (lv_at hl 0 rfl) ?_
      refine lv_iconst (v := 1) hx hb dL_law_821 (by decide) ?_
      refine lv_iadd hx hb dL_law_822 ?_
      refine lv_topi (fun x46 e46 => ?_)
      obtain rfl : x46 = 1 := e46.trans (by decide)
      refine va_sld hx hb hX hbl hbA hS (vin (by decide) (by decide)) dL_law_823 ?_
      refine lv_topi (fun y47 e47 => ?_)
      obtain rfl : y47 = xs 1 := e47
      refine lv_aload_n hx hb dL_law_824 rfl (lv_at hl 3 rfl) ?_
      refine lv_iload_n hx hb dL_law_825 rfl (lv_at hl 0 rfl) ?_
      refine lv_iconst (v := 2) hx hb dL_law_826 (by decide) ?_
      refine lv_iadd hx hb dL_law_827 ?_
      refine lv_topi (fun x48 e48 => ?_)
      obtain rfl : x48 = 2 := e48.trans (by decide)
      refine va_sld hx hb hX hbl hbA hS (vin (by decide) (by decide)) dL_law_828 ?_
      refine lv_topi (fun y49 e49 => ?_)
      obtain rfl : y49 = 1 := e49.trans hz2
      refine lv_aload_n hx hb dL_law_829 rfl (lv_at hl 3 rfl) ?_
      refine lv_iload_n hx hb dL_law_830 rfl (lv_at hl 0 rfl) ?_
      refine lv_iconst (v := 3) hx hb dL_law_831 (by decide) ?_
      refine lv_iadd hx hb dL_law_832 ?_
      refine lv_topi (fun x50 e50 => ?_)
      obtain rfl : x50 = 3 := e50.trans (by decide)
      refine va_sld hx hb hX hbl hbA hS (vin (by decide) (by decide)) dL_law_833 ?_
      refine lv_topi (fun y51 e51 => ?_)
      obtain rfl : y51 = 0 := e51.trans hz3
      refine mx_l (wr := []) (va_runV (As := [.int (xs 1), .int 1, .int 0]) (rest := [.long 0]) ⟨hx, hb, hml, hown, hts⟩ (c_X8_gust_1_0 l dC dI cI cZ cK tS aK aV qn (v 0) (v 1) (v 2) (v 3) (v 4) (v 5) (v 6) (v 7) (v 8) (v 9) (v 10) (v 11) (v 12) (v 13) (v 14) (v 15) (v 16) (v 17) (v 18) (v 19) (v 20) (v 21) (xs 1) H.size (by first | omega | decide | assumption | trivial)) (cwV 3 hts (gw_v (fun _ h9 => h9) wm_741 wm_742 wm_743 wm_385 wm_744) rfl rfl rfl (by decide +kernel) ⟨Nat.le_of_ble_eq_true rfl, Nat.le_of_ble_eq_true rfl⟩) (mx_preV (C := RX8) (T := TX8) (N := 53) (ci := 8) hKx hP hD hS hA [0, 1, 2] (by decide) rfl rfl rfl) rfl rfl hl.1 rfl (lv_room (Nat.le_of_ble_eq_true rfl)) dL_law_834 ⟨Nat.le_of_ble_eq_true rfl, Nat.le_of_ble_eq_true rfl⟩) hP hD hS hA [0, 1, 2] [] rfl rfl (by decide) (by decide) (fun r52 u52 H locs hq52 hP hD hS => ?_)
      replace hP : va_P (dC, dI) vwCl [] H := hP
      replace hD : va_D (fun q : Nat => s.heap.size ≤ q) [] := hD
      obtain rfl : r52 = 0 := hq52
      refine W.lcmp hx hb dL_law_837 ?_
      refine lv_topi (fun x53 e53 => ?_)
      obtain rfl : x53 = 0 := e53.trans (by decide)
      refine lv_if_eq (tgt := 998) hx hb dL_law_838 (by decide) (fun c54 => ?_) (fun c54 => absurd c54 (by decide))
      refine lv_iinc (v := 5) (lv' := [(3, .int 5), (2, .ref qn), (1, .ref qx), (0, .ref b)]) hx hb dL_law_998 hl (k := 0) rfl (by decide) (by decide) rfl (fun ls hl => ?_)
      refine lv_goto (tgt := 18) hx hb dL_law_1001 (by decide) ?_
      refine lv_iload_n hx hb dL_law_18 rfl (lv_at hl 0 rfl) ?_
      refine lv_aload_n hx hb dL_law_19 rfl (lv_at hl 3 rfl) ?_
      refine va_slen hx hb hX hbl hbA hS dL_law_20 ?_
      refine lv_topi (fun x55 e55 => ?_)
      obtain rfl : x55 = 5 := e55.trans (by decide)
      refine lv_iconst (v := 5) hx hb dL_law_21 (by decide) ?_
      refine lv_isub hx hb dL_law_22 ?_
      refine lv_topi (fun x56 e56 => ?_)
      obtain rfl : x56 = 0 := e56.trans (by decide)
      refine lv_icmp_gt (tgt := 1004) hx hb dL_law_23 (by decide) (fun c57 => ?_) (fun c57 => absurd c57 (by decide))
      refine lv_iconst (v := 1) hx hb dL_law_1004 (by decide) ?_
      refine va_forget (fun q hq => hS.2.2 q hq) ?_
      refine W.widen (k := 600000) (n := 7302250) (Nat.le_of_ble_eq_true rfl) (Nat.le_of_ble_eq_true rfl) ?_
      exact lw_ret hx hb hr hlocks dL_law_1005
    · skip
      refine lv_aload_n hx hb dL_law_799 rfl (lv_at hl 2 rfl) ?_
      refine lv_aload_n hx hb dL_law_800 rfl (lv_at hl 3 rfl) ?_
      refine lv_iload_n hx hb dL_law_801 rfl (lv_at hl 0 rfl) ?_
      refine lv_iconst (v := 1) hx hb dL_law_802 (by decide) ?_
      refine lv_iadd hx hb dL_law_803 ?_
      refine lv_topi (fun x58 e58 => ?_)
      obtain rfl : x58 = 1 := e58.trans (by decide)
      refine va_sld hx hb hX hbl hbA hS (vin (by decide) (by decide)) dL_law_804 ?_
      refine lv_topi (fun y59 e59 => ?_)
      obtain rfl : y59 = xs 1 := e59
      refine lv_aload_n hx hb dL_law_805 rfl (lv_at hl 3 rfl) ?_
      refine lv_iload_n hx hb dL_law_806 rfl (lv_at hl 0 rfl) ?_
      refine lv_iconst (v := 2) hx hb dL_law_807 (by decide) ?_
      refine lv_iadd hx hb dL_law_808 ?_
      refine lv_topi (fun x60 e60 => ?_)
      obtain rfl : x60 = 2 := e60.trans (by decide)
      refine va_sld hx hb hX hbl hbA hS (vin (by decide) (by decide)) dL_law_809 ?_
      refine lv_topi (fun y61 e61 => ?_)
      obtain rfl : y61 = 1 := e61.trans hz2
      refine lv_aload_n hx hb dL_law_810 rfl (lv_at hl 3 rfl) ?_
      refine lv_iload_n hx hb dL_law_811 rfl (lv_at hl 0 rfl) ?_
      refine lv_iconst (v := 3) hx hb dL_law_812 (by decide) ?_
      refine lv_iadd hx hb dL_law_813 ?_
      refine lv_topi (fun x62 e62 => ?_)
      obtain rfl : x62 = 3 := e62.trans (by decide)
      refine va_sld hx hb hX hbl hbA hS (vin (by decide) (by decide)) dL_law_814 ?_
      refine lv_topi (fun y63 e63 => ?_)
      obtain rfl : y63 = 1 := e63.trans hz3
      refine mx_l (wr := [(qn, .inr (8, [.int 800, .int 0, .int 0, .int 0, .int 0, .int 0, .int 0, .ref (v 0), .ref (v 1), .int 0, .ref (v 2), .ref (v 3), .ref (v 4), .ref (v 5), .ref (v 6), .int 0, .ref (v 7), .int 0, .ref (v 8), .ref (v 9), .ref (v 10), .int 0, .int 0, .int 0, .int 0, .int 0, .int 0, .int 0, .int 0, .int 0, .ref (v 11), .ref (v 12), .ref (v 13), .ref (v 14), .int 0, .int 0, .int 0, .int 0, .int 0, .int 0, .int 0, .ref (v 15), .int 0, .ref (v 16), .ref (v 17), .int 0, .int 0, .ref (v 18), .ref (v 19), .ref (v 20), .ref (v 21), .int 0, .int 0])), ((v 13), .inl (cI, 14, .inl (fun _ => 0))), ((v 14), .inl (cI, 61, .inl (fun _ => 0)))]) (va_runV (As := [.int (xs 1), .int 1, .int 1]) (rest := []) ⟨hx, hb, hml, hown, hts⟩ (c_X7_gust_1_1 l dC dI cI cZ cK tS aK aV qx (u 18) (u 23) (u 29) (u 31) (u 32) (u 33) (u 34) (u 13) (u 14) (u 15) (u 16) (u 17) (u 0) (u 1) (u 2) (u 3) (u 4) (u 5) (u 6) (u 7) (u 8) (u 9) (u 10) (u 11) (u 12) (u 30) (xs 1) H.size (by first | omega | decide | assumption | trivial)) (cwV 3 hts (gw_v (fun _ h9 => h9) wm_737 wm_738 wm_739 wm_2 wm_740) rfl rfl rfl (by decide +kernel) ⟨Nat.le_of_ble_eq_true rfl, Nat.le_of_ble_eq_true rfl⟩) (mx_preV (C := RX7) (T := TX7) (N := 10) (ci := 7) hKx hP hD hS hA [0, 3, 4, 5, 1, 2, 6] (by decide) rfl rfl rfl) rfl rfl hl.1 rfl (lv_room (Nat.le_of_ble_eq_true rfl)) dL_law_815 ⟨Nat.le_of_ble_eq_true rfl, Nat.le_of_ble_eq_true rfl⟩) hP hD hS hA [0, 3, 4, 5, 1, 2, 6] [7, 8, 9] rfl rfl (by decide) (by decide) (fun r64 u64 H locs hq64 hP hD hS => ?_)
      replace hP : va_P (dC, dI) vwCl [(qn, .inr (8, [.int 800, .int 0, .int 0, .int 0, .int 0, .int 0, .int 0, .ref (v 0), .ref (v 1), .int 0, .ref (v 2), .ref (v 3), .ref (v 4), .ref (v 5), .ref (v 6), .int 0, .ref (v 7), .int 0, .ref (v 8), .ref (v 9), .ref (v 10), .int 0, .int 0, .int 0, .int 0, .int 0, .int 0, .int 0, .int 0, .int 0, .ref (v 11), .ref (v 12), .ref (v 13), .ref (v 14), .int 0, .int 0, .int 0, .int 0, .int 0, .int 0, .int 0, .ref (v 15), .int 0, .ref (v 16), .ref (v 17), .int 0, .int 0, .ref (v 18), .ref (v 19), .ref (v 20), .ref (v 21), .int 0, .int 0])), ((v 13), .inl (cI, 14, .inl (fun _ => 0))), ((v 14), .inl (cI, 61, .inl (fun _ => 0)))] H := hP
      replace hD : va_D (fun q : Nat => s.heap.size ≤ q) [(qn, .inr (8, [.int 800, .int 0, .int 0, .int 0, .int 0, .int 0, .int 0, .ref (v 0), .ref (v 1), .int 0, .ref (v 2), .ref (v 3), .ref (v 4), .ref (v 5), .ref (v 6), .int 0, .ref (v 7), .int 0, .ref (v 8), .ref (v 9), .ref (v 10), .int 0, .int 0, .int 0, .int 0, .int 0, .int 0, .int 0, .int 0, .int 0, .ref (v 11), .ref (v 12), .ref (v 13), .ref (v 14), .int 0, .int 0, .int 0, .int 0, .int 0, .int 0, .int 0, .ref (v 15), .int 0, .ref (v 16), .ref (v 17), .int 0, .int 0, .ref (v 18), .ref (v 19), .ref (v 20), .ref (v 21), .int 0, .int 0])), ((v 13), .inl (cI, 14, .inl (fun _ => 0))), ((v 14), .inl (cI, 61, .inl (fun _ => 0)))] := hD
      obtain rfl : r64 = 1 := hq64
      refine lv_aload_n hx hb dL_law_818 rfl (lv_at hl 1 rfl) ?_
      refine lv_aload_n hx hb dL_law_819 rfl (lv_at hl 3 rfl) ?_
      refine lv_iload_n hx hb dL_law_820 rfl (lv_at hl 0 rfl) ?_
      refine lv_iconst (v := 1) hx hb dL_law_821 (by decide) ?_
      refine lv_iadd hx hb dL_law_822 ?_
      refine lv_topi (fun x65 e65 => ?_)
      obtain rfl : x65 = 1 := e65.trans (by decide)
      refine va_sld hx hb hX hbl hbA hS (vin (by decide) (by decide)) dL_law_823 ?_
      refine lv_topi (fun y66 e66 => ?_)
      obtain rfl : y66 = xs 1 := e66
      refine lv_aload_n hx hb dL_law_824 rfl (lv_at hl 3 rfl) ?_
      refine lv_iload_n hx hb dL_law_825 rfl (lv_at hl 0 rfl) ?_
      refine lv_iconst (v := 2) hx hb dL_law_826 (by decide) ?_
      refine lv_iadd hx hb dL_law_827 ?_
      refine lv_topi (fun x67 e67 => ?_)
      obtain rfl : x67 = 2 := e67.trans (by decide)
      refine va_sld hx hb hX hbl hbA hS (vin (by decide) (by decide)) dL_law_828 ?_
      refine lv_topi (fun y68 e68 => ?_)
      obtain rfl : y68 = 1 := e68.trans hz2
      refine lv_aload_n hx hb dL_law_829 rfl (lv_at hl 3 rfl) ?_
      refine lv_iload_n hx hb dL_law_830 rfl (lv_at hl 0 rfl) ?_
      refine lv_iconst (v := 3) hx hb dL_law_831 (by decide) ?_
      refine lv_iadd hx hb dL_law_832 ?_
      refine lv_topi (fun x69 e69 => ?_)
      obtain rfl : x69 = 3 := e69.trans (by decide)
      refine va_sld hx hb hX hbl hbA hS (vin (by decide) (by decide)) dL_law_833 ?_
      refine lv_topi (fun y70 e70 => ?_)
      obtain rfl : y70 = 1 := e70.trans hz3
      refine mx_l (wr := []) (va_runV (As := [.int (xs 1), .int 1, .int 1]) (rest := [.long 1]) ⟨hx, hb, hml, hown, hts⟩ (c_X8_gust_1_1 l dC dI cI cZ cK tS aK aV qn (v 0) (v 1) (v 2) (v 3) (v 4) (v 5) (v 6) (v 7) (v 8) (v 9) (v 10) (v 11) (v 12) (v 13) (v 14) (v 15) (v 16) (v 17) (v 18) (v 19) (v 20) (v 21) (xs 1) H.size (by first | omega | decide | assumption | trivial)) (cwV 3 hts (gw_v (fun _ h9 => h9) wm_741 wm_742 wm_743 wm_385 wm_744) rfl rfl rfl (by decide +kernel) ⟨Nat.le_of_ble_eq_true rfl, Nat.le_of_ble_eq_true rfl⟩) (mx_preV (C := RX8) (T := TX8) (N := 53) (ci := 8) hKx hP hD hS hA [0, 1, 2] (by decide) rfl rfl rfl) rfl rfl hl.1 rfl (lv_room (Nat.le_of_ble_eq_true rfl)) dL_law_834 ⟨Nat.le_of_ble_eq_true rfl, Nat.le_of_ble_eq_true rfl⟩) hP hD hS hA [0, 1, 2] [] rfl rfl (by decide) (by decide) (fun r71 u71 H locs hq71 hP hD hS => ?_)
      replace hP : va_P (dC, dI) vwCl [] H := hP
      replace hD : va_D (fun q : Nat => s.heap.size ≤ q) [] := hD
      obtain rfl : r71 = 1 := hq71
      refine W.lcmp hx hb dL_law_837 ?_
      refine lv_topi (fun x72 e72 => ?_)
      obtain rfl : x72 = 0 := e72.trans (by decide)
      refine lv_if_eq (tgt := 998) hx hb dL_law_838 (by decide) (fun c73 => ?_) (fun c73 => absurd c73 (by decide))
      refine lv_iinc (v := 5) (lv' := [(3, .int 5), (2, .ref qn), (1, .ref qx), (0, .ref b)]) hx hb dL_law_998 hl (k := 0) rfl (by decide) (by decide) rfl (fun ls hl => ?_)
      refine lv_goto (tgt := 18) hx hb dL_law_1001 (by decide) ?_
      refine lv_iload_n hx hb dL_law_18 rfl (lv_at hl 0 rfl) ?_
      refine lv_aload_n hx hb dL_law_19 rfl (lv_at hl 3 rfl) ?_
      refine va_slen hx hb hX hbl hbA hS dL_law_20 ?_
      refine lv_topi (fun x74 e74 => ?_)
      obtain rfl : x74 = 5 := e74.trans (by decide)
      refine lv_iconst (v := 5) hx hb dL_law_21 (by decide) ?_
      refine lv_isub hx hb dL_law_22 ?_
      refine lv_topi (fun x75 e75 => ?_)
      obtain rfl : x75 = 0 := e75.trans (by decide)
      refine lv_icmp_gt (tgt := 1004) hx hb dL_law_23 (by decide) (fun c76 => ?_) (fun c76 => absurd c76 (by decide))
      refine lv_iconst (v := 1) hx hb dL_law_1004 (by decide) ?_
      refine va_forget (fun q hq => hS.2.2 q hq) ?_
      refine W.widen (k := 600000) (n := 7302250) (Nat.le_of_ble_eq_true rfl) (Nat.le_of_ble_eq_true rfl) ?_
      exact lw_ret hx hb hr hlocks dL_law_1005
  · skip
    refine lv_aload_n hx hb dL_law_799 rfl (lv_at hl 2 rfl) ?_
    refine lv_aload_n hx hb dL_law_800 rfl (lv_at hl 3 rfl) ?_
    refine lv_iload_n hx hb dL_law_801 rfl (lv_at hl 0 rfl) ?_
    refine lv_iconst (v := 1) hx hb dL_law_802 (by decide) ?_
    refine lv_iadd hx hb dL_law_803 ?_
    refine lv_topi (fun x77 e77 => ?_)
    obtain rfl : x77 = 1 := e77.trans (by decide)
    refine va_sld hx hb hX hbl hbA hS (vin (by decide) (by decide)) dL_law_804 ?_
    refine lv_topi (fun y78 e78 => ?_)
    obtain rfl : y78 = xs 1 := e78
    refine lv_aload_n hx hb dL_law_805 rfl (lv_at hl 3 rfl) ?_
    refine lv_iload_n hx hb dL_law_806 rfl (lv_at hl 0 rfl) ?_
    refine lv_iconst (v := 2) hx hb dL_law_807 (by decide) ?_
    refine lv_iadd hx hb dL_law_808 ?_
    refine lv_topi (fun x79 e79 => ?_)
    obtain rfl : x79 = 2 := e79.trans (by decide)
    refine va_sld hx hb hX hbl hbA hS (vin (by decide) (by decide)) dL_law_809 ?_
    refine lv_topi (fun y80 e80 => ?_)
    obtain rfl : y80 = xs 2 := e80
    refine lv_aload_n hx hb dL_law_810 rfl (lv_at hl 3 rfl) ?_
    refine lv_iload_n hx hb dL_law_811 rfl (lv_at hl 0 rfl) ?_
    refine lv_iconst (v := 3) hx hb dL_law_812 (by decide) ?_
    refine lv_iadd hx hb dL_law_813 ?_
    refine lv_topi (fun x81 e81 => ?_)
    obtain rfl : x81 = 3 := e81.trans (by decide)
    refine va_sld hx hb hX hbl hbA hS (vin (by decide) (by decide)) dL_law_814 ?_
    refine lv_topi (fun y82 e82 => ?_)
    obtain rfl : y82 = xs 3 := e82
    refine mx_l (wr := [((u 0), .inr (0, [.ref (u 1), .ref (u 2), .ref (u 3), .int (-6), .int 0, .int 0, .ref (u 4), .ref (u 5), .ref (u 6), .int 0, .ref (u 7), .ref (u 8)])), ((u 1), .inl (cI, 5, .inl (upd (fun _ => 0) 0 800))), ((u 9), .inr (4, [.ref (u 10), .int 0, .ref (u 11), .ref (u 12), .int 0, .int 0])), ((u 13), .inr (1, [.ref (u 0), .ref (u 9), .ref (u 14), .ref (u 15), .ref (u 16), .ref (u 17), .int 0, .int 0, .int 0, .int 0, .int 0, .int 0, .int 0, .int 0])), ((u 17), .inl (cI, 61, .inl (fun _ => 0))), ((u 29), .inr (2, [.ref (u 0), .ref (u 9), .ref (u 13), .ref (u 30), .long 0, .long 0])), (qn, .inr (8, [.int 800, .int 0, .int 0, .int 0, .int 0, .int 0, .int 0, .ref (v 0), .ref (v 1), .int 0, .ref (v 2), .ref (v 3), .ref (v 4), .ref (v 5), .ref (v 6), .int 0, .ref (v 7), .int 0, .ref (v 8), .ref (v 9), .ref (v 10), .int 0, .int 0, .int 0, .int 0, .int 0, .int 0, .int 0, .int 0, .int 0, .ref (v 11), .ref (v 12), .ref (v 13), .ref (v 14), .int 0, .int 0, .int 0, .int 0, .int 0, .int 0, .int 0, .ref (v 15), .int 0, .ref (v 16), .ref (v 17), .int 0, .int 0, .ref (v 18), .ref (v 19), .ref (v 20), .ref (v 21), .int 0, .int 0])), ((v 13), .inl (cI, 14, .inl (fun _ => 0))), ((v 14), .inl (cI, 61, .inl (fun _ => 0)))]) (va_runV (As := [.int (xs 1), .int (xs 2), .int (xs 3)]) (rest := []) ⟨hx, hb, hml, hown, hts⟩ (c_X7_gustNo l dC dI cI cZ cK tS aK aV qx (u 18) (u 23) (u 29) (u 31) (u 32) (u 33) (u 34) (u 13) (u 0) (u 9) (xs 1) (xs 2) (xs 3) H.size (by first | omega | decide | assumption | trivial)) (cwV 3 hts (gw_v (fun _ h9 => h9) wm_737 wm_738 wm_739 wm_2 wm_740) rfl rfl rfl (by decide +kernel) ⟨Nat.le_of_ble_eq_true rfl, Nat.le_of_ble_eq_true rfl⟩) (mx_preV (C := RX7) (T := TX7) (N := 10) (ci := 7) hKx hP hD hS hA [0] (by decide) rfl rfl rfl) rfl rfl hl.1 rfl (lv_room (Nat.le_of_ble_eq_true rfl)) dL_law_815 ⟨Nat.le_of_ble_eq_true rfl, Nat.le_of_ble_eq_true rfl⟩) hP hD hS hA [0] [1, 2, 3, 4, 5, 6, 7, 8, 9] rfl rfl (by decide) (by decide) (fun r83 u83 H locs hq83 hP hD hS => ?_)
    replace hP : va_P (dC, dI) vwCl [((u 0), .inr (0, [.ref (u 1), .ref (u 2), .ref (u 3), .int (-6), .int 0, .int 0, .ref (u 4), .ref (u 5), .ref (u 6), .int 0, .ref (u 7), .ref (u 8)])), ((u 1), .inl (cI, 5, .inl (upd (fun _ => 0) 0 800))), ((u 9), .inr (4, [.ref (u 10), .int 0, .ref (u 11), .ref (u 12), .int 0, .int 0])), ((u 13), .inr (1, [.ref (u 0), .ref (u 9), .ref (u 14), .ref (u 15), .ref (u 16), .ref (u 17), .int 0, .int 0, .int 0, .int 0, .int 0, .int 0, .int 0, .int 0])), ((u 17), .inl (cI, 61, .inl (fun _ => 0))), ((u 29), .inr (2, [.ref (u 0), .ref (u 9), .ref (u 13), .ref (u 30), .long 0, .long 0])), (qn, .inr (8, [.int 800, .int 0, .int 0, .int 0, .int 0, .int 0, .int 0, .ref (v 0), .ref (v 1), .int 0, .ref (v 2), .ref (v 3), .ref (v 4), .ref (v 5), .ref (v 6), .int 0, .ref (v 7), .int 0, .ref (v 8), .ref (v 9), .ref (v 10), .int 0, .int 0, .int 0, .int 0, .int 0, .int 0, .int 0, .int 0, .int 0, .ref (v 11), .ref (v 12), .ref (v 13), .ref (v 14), .int 0, .int 0, .int 0, .int 0, .int 0, .int 0, .int 0, .ref (v 15), .int 0, .ref (v 16), .ref (v 17), .int 0, .int 0, .ref (v 18), .ref (v 19), .ref (v 20), .ref (v 21), .int 0, .int 0])), ((v 13), .inl (cI, 14, .inl (fun _ => 0))), ((v 14), .inl (cI, 61, .inl (fun _ => 0)))] H := hP
    replace hD : va_D (fun q : Nat => s.heap.size ≤ q) [((u 0), .inr (0, [.ref (u 1), .ref (u 2), .ref (u 3), .int (-6), .int 0, .int 0, .ref (u 4), .ref (u 5), .ref (u 6), .int 0, .ref (u 7), .ref (u 8)])), ((u 1), .inl (cI, 5, .inl (upd (fun _ => 0) 0 800))), ((u 9), .inr (4, [.ref (u 10), .int 0, .ref (u 11), .ref (u 12), .int 0, .int 0])), ((u 13), .inr (1, [.ref (u 0), .ref (u 9), .ref (u 14), .ref (u 15), .ref (u 16), .ref (u 17), .int 0, .int 0, .int 0, .int 0, .int 0, .int 0, .int 0, .int 0])), ((u 17), .inl (cI, 61, .inl (fun _ => 0))), ((u 29), .inr (2, [.ref (u 0), .ref (u 9), .ref (u 13), .ref (u 30), .long 0, .long 0])), (qn, .inr (8, [.int 800, .int 0, .int 0, .int 0, .int 0, .int 0, .int 0, .ref (v 0), .ref (v 1), .int 0, .ref (v 2), .ref (v 3), .ref (v 4), .ref (v 5), .ref (v 6), .int 0, .ref (v 7), .int 0, .ref (v 8), .ref (v 9), .ref (v 10), .int 0, .int 0, .int 0, .int 0, .int 0, .int 0, .int 0, .int 0, .int 0, .ref (v 11), .ref (v 12), .ref (v 13), .ref (v 14), .int 0, .int 0, .int 0, .int 0, .int 0, .int 0, .int 0, .ref (v 15), .int 0, .ref (v 16), .ref (v 17), .int 0, .int 0, .ref (v 18), .ref (v 19), .ref (v 20), .ref (v 21), .int 0, .int 0])), ((v 13), .inl (cI, 14, .inl (fun _ => 0))), ((v 14), .inl (cI, 61, .inl (fun _ => 0)))] := hD
    obtain rfl : r83 = (-1000000000000000002) := hq83
    refine lv_aload_n hx hb dL_law_818 rfl (lv_at hl 1 rfl) ?_
    refine lv_aload_n hx hb dL_law_819 rfl (lv_at hl 3 rfl) ?_
    refine lv_iload_n hx hb dL_law_820 rfl (lv_at hl 0 rfl) ?_
    refine lv_iconst (v := 1) hx hb dL_law_821 (by decide) ?_
    refine lv_iadd hx hb dL_law_822 ?_
    refine lv_topi (fun x84 e84 => ?_)
    obtain rfl : x84 = 1 := e84.trans (by decide)
    refine va_sld hx hb hX hbl hbA hS (vin (by decide) (by decide)) dL_law_823 ?_
    refine lv_topi (fun y85 e85 => ?_)
    obtain rfl : y85 = xs 1 := e85
    refine lv_aload_n hx hb dL_law_824 rfl (lv_at hl 3 rfl) ?_
    refine lv_iload_n hx hb dL_law_825 rfl (lv_at hl 0 rfl) ?_
    refine lv_iconst (v := 2) hx hb dL_law_826 (by decide) ?_
    refine lv_iadd hx hb dL_law_827 ?_
    refine lv_topi (fun x86 e86 => ?_)
    obtain rfl : x86 = 2 := e86.trans (by decide)
    refine va_sld hx hb hX hbl hbA hS (vin (by decide) (by decide)) dL_law_828 ?_
    refine lv_topi (fun y87 e87 => ?_)
    obtain rfl : y87 = xs 2 := e87
    refine lv_aload_n hx hb dL_law_829 rfl (lv_at hl 3 rfl) ?_
    refine lv_iload_n hx hb dL_law_830 rfl (lv_at hl 0 rfl) ?_
    refine lv_iconst (v := 3) hx hb dL_law_831 (by decide) ?_
    refine lv_iadd hx hb dL_law_832 ?_
    refine lv_topi (fun x88 e88 => ?_)
    obtain rfl : x88 = 3 := e88.trans (by decide)
    refine va_sld hx hb hX hbl hbA hS (vin (by decide) (by decide)) dL_law_833 ?_
    refine lv_topi (fun y89 e89 => ?_)
    obtain rfl : y89 = xs 3 := e89
    refine mx_l (wr := [((u 0), .inr (0, [.ref (u 1), .ref (u 2), .ref (u 3), .int (-6), .int 0, .int 0, .ref (u 4), .ref (u 5), .ref (u 6), .int 0, .ref (u 7), .ref (u 8)])), ((u 1), .inl (cI, 5, .inl (upd (fun _ => 0) 0 800))), ((u 9), .inr (4, [.ref (u 10), .int 0, .ref (u 11), .ref (u 12), .int 0, .int 0])), ((u 13), .inr (1, [.ref (u 0), .ref (u 9), .ref (u 14), .ref (u 15), .ref (u 16), .ref (u 17), .int 0, .int 0, .int 0, .int 0, .int 0, .int 0, .int 0, .int 0])), ((u 17), .inl (cI, 61, .inl (fun _ => 0))), ((u 29), .inr (2, [.ref (u 0), .ref (u 9), .ref (u 13), .ref (u 30), .long 0, .long 0])), ((v 13), .inl (cI, 14, .inl (fun _ => 0))), ((v 14), .inl (cI, 61, .inl (fun _ => 0)))]) (va_runV (As := [.int (xs 1), .int (xs 2), .int (xs 3)]) (rest := [.long (-1000000000000000002)]) ⟨hx, hb, hml, hown, hts⟩ (c_X8_gustNo l dC dI cI cZ cK tS aK aV qn (v 0) (v 1) (v 2) (v 3) (v 4) (v 5) (v 6) (v 7) (v 8) (v 9) (v 10) (v 11) (v 12) (v 13) (v 14) (v 15) (v 16) (v 17) (v 18) (v 19) (v 20) (v 21) (xs 1) (xs 2) (xs 3) H.size (by first | omega | decide | assumption | trivial)) (cwV 3 hts (gw_v (fun _ h9 => h9) wm_741 wm_742 wm_743 wm_385 wm_744) rfl rfl rfl (by decide +kernel) ⟨Nat.le_of_ble_eq_true rfl, Nat.le_of_ble_eq_true rfl⟩) (mx_preV (C := RX8) (T := TX8) (N := 53) (ci := 8) hKx hP hD hS hA [6] (by decide) rfl rfl rfl) rfl rfl hl.1 rfl (lv_room (Nat.le_of_ble_eq_true rfl)) dL_law_834 ⟨Nat.le_of_ble_eq_true rfl, Nat.le_of_ble_eq_true rfl⟩) hP hD hS hA [6] [0, 1, 2, 3, 4, 5, 7, 8] rfl rfl (by decide) (by decide) (fun r90 u90 H locs hq90 hP hD hS => ?_)
    replace hP : va_P (dC, dI) vwCl [((u 0), .inr (0, [.ref (u 1), .ref (u 2), .ref (u 3), .int (-6), .int 0, .int 0, .ref (u 4), .ref (u 5), .ref (u 6), .int 0, .ref (u 7), .ref (u 8)])), ((u 1), .inl (cI, 5, .inl (upd (fun _ => 0) 0 800))), ((u 9), .inr (4, [.ref (u 10), .int 0, .ref (u 11), .ref (u 12), .int 0, .int 0])), ((u 13), .inr (1, [.ref (u 0), .ref (u 9), .ref (u 14), .ref (u 15), .ref (u 16), .ref (u 17), .int 0, .int 0, .int 0, .int 0, .int 0, .int 0, .int 0, .int 0])), ((u 17), .inl (cI, 61, .inl (fun _ => 0))), ((u 29), .inr (2, [.ref (u 0), .ref (u 9), .ref (u 13), .ref (u 30), .long 0, .long 0])), ((v 13), .inl (cI, 14, .inl (fun _ => 0))), ((v 14), .inl (cI, 61, .inl (fun _ => 0)))] H := hP
    replace hD : va_D (fun q : Nat => s.heap.size ≤ q) [((u 0), .inr (0, [.ref (u 1), .ref (u 2), .ref (u 3), .int (-6), .int 0, .int 0, .ref (u 4), .ref (u 5), .ref (u 6), .int 0, .ref (u 7), .ref (u 8)])), ((u 1), .inl (cI, 5, .inl (upd (fun _ => 0) 0 800))), ((u 9), .inr (4, [.ref (u 10), .int 0, .ref (u 11), .ref (u 12), .int 0, .int 0])), ((u 13), .inr (1, [.ref (u 0), .ref (u 9), .ref (u 14), .ref (u 15), .ref (u 16), .ref (u 17), .int 0, .int 0, .int 0, .int 0, .int 0, .int 0, .int 0, .int 0])), ((u 17), .inl (cI, 61, .inl (fun _ => 0))), ((u 29), .inr (2, [.ref (u 0), .ref (u 9), .ref (u 13), .ref (u 30), .long 0, .long 0])), ((v 13), .inl (cI, 14, .inl (fun _ => 0))), ((v 14), .inl (cI, 61, .inl (fun _ => 0)))] := hD
    obtain rfl : r90 = (-1000000000000000002) := hq90
    refine W.lcmp hx hb dL_law_837 ?_
    refine lv_topi (fun x91 e91 => ?_)
    obtain rfl : x91 = 0 := e91.trans (by decide)
    refine lv_if_eq (tgt := 998) hx hb dL_law_838 (by decide) (fun c92 => ?_) (fun c92 => absurd c92 (by decide))
    refine lv_iinc (v := 5) (lv' := [(3, .int 5), (2, .ref qn), (1, .ref qx), (0, .ref b)]) hx hb dL_law_998 hl (k := 0) rfl (by decide) (by decide) rfl (fun ls hl => ?_)
    refine lv_goto (tgt := 18) hx hb dL_law_1001 (by decide) ?_
    refine lv_iload_n hx hb dL_law_18 rfl (lv_at hl 0 rfl) ?_
    refine lv_aload_n hx hb dL_law_19 rfl (lv_at hl 3 rfl) ?_
    refine va_slen hx hb hX hbl hbA hS dL_law_20 ?_
    refine lv_topi (fun x93 e93 => ?_)
    obtain rfl : x93 = 5 := e93.trans (by decide)
    refine lv_iconst (v := 5) hx hb dL_law_21 (by decide) ?_
    refine lv_isub hx hb dL_law_22 ?_
    refine lv_topi (fun x94 e94 => ?_)
    obtain rfl : x94 = 0 := e94.trans (by decide)
    refine lv_icmp_gt (tgt := 1004) hx hb dL_law_23 (by decide) (fun c95 => ?_) (fun c95 => absurd c95 (by decide))
    refine lv_iconst (v := 1) hx hb dL_law_1004 (by decide) ?_
    refine va_forget (fun q hq => hS.2.2 q hq) ?_
    refine W.widen (k := 600000) (n := 7302250) (Nat.le_of_ble_eq_true rfl) (Nat.le_of_ble_eq_true rfl) ?_
    exact lw_ret hx hb hr hlocks dL_law_1005
set_option maxHeartbeats 4000000 in
set_option maxRecDepth 100000 in
theorem lc_shares {p : Program} {e : Env} {s : State} {m : MethodId} {below : List Frame} {meth : Method} {c : Code} (l : Launch) {b : Nat} {xs : Nat → Int32} (C0 : lw_At p s m meth c b 5 xs) (dC : Nat → ClassId) (dI : Nat → Nat → Nat) (cI cZ cK : ClassId) (tS aK aV : Nat) (hKx : kx dC dI cI cZ cK tS aK aV (fun q : Nat => s.heap.size ≤ q) s) (qx qn : Nat) (u v : Nat → Nat) (H : Heap) (locs : List Loc) (hP : va_P (dC, dI) vwCl [(qx, .inr (7, [.ref (u 0), .ref (u 9), .ref (u 13), .ref (u 18), .ref (u 23), .ref (u 29), .ref (u 31), .ref (u 32), .ref (u 33), .ref (u 34)])), ((u 0), .inr (0, [.ref (u 1), .ref (u 2), .ref (u 3), .int (-6), .int 0, .int 0, .ref (u 4), .ref (u 5), .ref (u 6), .int 0, .ref (u 7), .ref (u 8)])), ((u 1), .inl (cI, 5, .inl (upd (fun _ => 0) 0 800))), ((u 2), .inl (cI, 14, .inl (fun _ => 0))), ((u 3), .inl (cZ, 14, .inl (fun _ => 0))), ((u 4), .inl (cI, 6, .inl (fun _ => 0))), ((u 5), .inl (cI, 6, .inl (fun _ => 0))), ((u 6), .inl (cI, 6, .inl (fun _ => 0))), ((u 7), .inl (cI, 8, .inl (fun _ => 0))), ((u 8), .inl (cI, 8, .inl (fun _ => 0))), ((u 9), .inr (4, [.ref (u 10), .int 0, .ref (u 11), .ref (u 12), .int 0, .int 0])), ((u 10), .inl (cI, 60, .inl (fun _ => 0))), ((u 11), .inl (cI, 60, .inl (fun _ => 0))), ((u 12), .inl (cI, 60, .inl (fun _ => 0))), ((u 13), .inr (1, [.ref (u 0), .ref (u 9), .ref (u 14), .ref (u 15), .ref (u 16), .ref (u 17), .int 0, .int 0, .int 0, .int 0, .int 0, .int 0, .int 0, .int 0])), ((u 14), .inl (cI, 60, .inl (fun _ => 0))), ((u 15), .inl (cI, 60, .inl (fun _ => 0))), ((u 16), .inl (cI, 60, .inl (fun _ => 0))), ((u 17), .inl (cI, 61, .inl (fun _ => 0))), ((u 18), .inr (3, [.ref (u 0), .ref (u 19), .int 0, .ref (u 20), .ref (u 21), .ref (u 22)])), ((u 19), .inl (cI, 6, .inl (fun _ => 0))), ((u 20), .inl (cI, 6, .inl (fun _ => 0))), ((u 21), .inl (cI, 6, .inl (fun _ => 0))), ((u 22), .inl (cI, 5, .inl (fun _ => 0))), ((u 23), .inr (5, [.ref (u 0), .ref (u 9), .ref (u 13), .ref (u 24), .ref (u 25), .ref (u 26), .ref (u 27), .ref (u 28), .int 0, .int 0, .int 0])), ((u 24), .inl (cI, 61, .inl (fun _ => 0))), ((u 25), .inl (cI, 61, .inl (fun _ => 0))), ((u 26), .inl (cI, 60, .inl (fun _ => 0))), ((u 27), .inl (cI, 60, .inl (fun _ => 0))), ((u 28), .inl (cI, 21, .inl (fun _ => 0))), ((u 29), .inr (2, [.ref (u 0), .ref (u 9), .ref (u 13), .ref (u 30), .long 0, .long 0])), ((u 30), .inl (cI, 60, .inl (fun _ => 0))), ((u 31), .inr (6, [.ref (u 0), .int 0, .int 0, .int 0])), ((u 32), .inl (cK, 2, .inr (.inr (.inr (.inr (va_up (va_up (fun _ => none) 0 (some (u 35))) 1 (some (u 44)))))))), ((u 33), .inl (cZ, 2, .inl (fun _ => 0))), ((u 34), .inl (cI, 4, .inl (fun _ => 0))), ((u 35), .inr (0, [.ref (u 36), .ref (u 37), .ref (u 38), .int (-6), .int 0, .int 0, .ref (u 39), .ref (u 40), .ref (u 41), .int 0, .ref (u 42), .ref (u 43)])), ((u 36), .inl (cI, 5, .inl (upd (fun _ => 0) 0 800))), ((u 37), .inl (cI, 14, .inl (fun _ => 0))), ((u 38), .inl (cZ, 14, .inl (fun _ => 0))), ((u 39), .inl (cI, 6, .inl (fun _ => 0))), ((u 40), .inl (cI, 6, .inl (fun _ => 0))), ((u 41), .inl (cI, 6, .inl (fun _ => 0))), ((u 42), .inl (cI, 8, .inl (fun _ => 0))), ((u 43), .inl (cI, 8, .inl (fun _ => 0))), ((u 44), .inr (0, [.ref (u 45), .ref (u 46), .ref (u 47), .int (-6), .int 0, .int 0, .ref (u 48), .ref (u 49), .ref (u 50), .int 0, .ref (u 51), .ref (u 52)])), ((u 45), .inl (cI, 5, .inl (upd (fun _ => 0) 0 800))), ((u 46), .inl (cI, 14, .inl (fun _ => 0))), ((u 47), .inl (cZ, 14, .inl (fun _ => 0))), ((u 48), .inl (cI, 6, .inl (fun _ => 0))), ((u 49), .inl (cI, 6, .inl (fun _ => 0))), ((u 50), .inl (cI, 6, .inl (fun _ => 0))), ((u 51), .inl (cI, 8, .inl (fun _ => 0))), ((u 52), .inl (cI, 8, .inl (fun _ => 0))), (qn, .inr (8, [.int 800, .int 0, .int 0, .int 0, .int 0, .int 0, .int 0, .ref (v 0), .ref (v 1), .int 0, .ref (v 2), .ref (v 3), .ref (v 4), .ref (v 5), .ref (v 6), .int 0, .ref (v 7), .int 0, .ref (v 8), .ref (v 9), .ref (v 10), .int 0, .int 0, .int 0, .int 0, .int 0, .int 0, .int 0, .int 0, .int 0, .ref (v 11), .ref (v 12), .ref (v 13), .ref (v 14), .int 0, .int 0, .int 0, .int 0, .int 0, .int 0, .int 0, .ref (v 15), .int 0, .ref (v 16), .ref (v 17), .int 0, .int 0, .ref (v 18), .ref (v 19), .ref (v 20), .ref (v 21), .int 0, .int 0])), ((v 0), .inl (cI, 14, .inl (fun _ => 0))), ((v 1), .inl (cI, 14, .inl (fun _ => 0))), ((v 2), .inl (cI, 6, .inl (fun _ => 0))), ((v 3), .inl (cI, 6, .inl (fun _ => 0))), ((v 4), .inl (cI, 6, .inl (fun _ => 0))), ((v 5), .inl (cI, 8, .inl (fun _ => 0))), ((v 6), .inl (cI, 8, .inl (fun _ => 0))), ((v 7), .inl (cI, 60, .inl (fun _ => 0))), ((v 8), .inl (cI, 60, .inl (fun _ => 0))), ((v 9), .inl (cI, 60, .inl (fun _ => 0))), ((v 10), .inl (cI, 60, .inl (fun _ => 0))), ((v 11), .inl (cI, 60, .inl (fun _ => 0))), ((v 12), .inl (cI, 60, .inl (fun _ => 0))), ((v 13), .inl (cI, 14, .inl (fun _ => 0))), ((v 14), .inl (cI, 61, .inl (fun _ => 0))), ((v 15), .inl (cI, 6, .inl (fun _ => 0))), ((v 16), .inl (cI, 6, .inl (fun _ => 0))), ((v 17), .inl (cI, 28, .inl (fun _ => 0))), ((v 18), .inl (cI, 1260, .inl (fun _ => 0))), ((v 19), .inl (cI, 4, .inl (fun _ => 0))), ((v 20), .inl (cI, 160, .inl (fun _ => 0))), ((v 21), .inl (cZ, 2, .inl (fun _ => 0)))] H) (hD : va_D (fun q : Nat => s.heap.size ≤ q) [(qx, .inr (7, [.ref (u 0), .ref (u 9), .ref (u 13), .ref (u 18), .ref (u 23), .ref (u 29), .ref (u 31), .ref (u 32), .ref (u 33), .ref (u 34)])), ((u 0), .inr (0, [.ref (u 1), .ref (u 2), .ref (u 3), .int (-6), .int 0, .int 0, .ref (u 4), .ref (u 5), .ref (u 6), .int 0, .ref (u 7), .ref (u 8)])), ((u 1), .inl (cI, 5, .inl (upd (fun _ => 0) 0 800))), ((u 2), .inl (cI, 14, .inl (fun _ => 0))), ((u 3), .inl (cZ, 14, .inl (fun _ => 0))), ((u 4), .inl (cI, 6, .inl (fun _ => 0))), ((u 5), .inl (cI, 6, .inl (fun _ => 0))), ((u 6), .inl (cI, 6, .inl (fun _ => 0))), ((u 7), .inl (cI, 8, .inl (fun _ => 0))), ((u 8), .inl (cI, 8, .inl (fun _ => 0))), ((u 9), .inr (4, [.ref (u 10), .int 0, .ref (u 11), .ref (u 12), .int 0, .int 0])), ((u 10), .inl (cI, 60, .inl (fun _ => 0))), ((u 11), .inl (cI, 60, .inl (fun _ => 0))), ((u 12), .inl (cI, 60, .inl (fun _ => 0))), ((u 13), .inr (1, [.ref (u 0), .ref (u 9), .ref (u 14), .ref (u 15), .ref (u 16), .ref (u 17), .int 0, .int 0, .int 0, .int 0, .int 0, .int 0, .int 0, .int 0])), ((u 14), .inl (cI, 60, .inl (fun _ => 0))), ((u 15), .inl (cI, 60, .inl (fun _ => 0))), ((u 16), .inl (cI, 60, .inl (fun _ => 0))), ((u 17), .inl (cI, 61, .inl (fun _ => 0))), ((u 18), .inr (3, [.ref (u 0), .ref (u 19), .int 0, .ref (u 20), .ref (u 21), .ref (u 22)])), ((u 19), .inl (cI, 6, .inl (fun _ => 0))), ((u 20), .inl (cI, 6, .inl (fun _ => 0))), ((u 21), .inl (cI, 6, .inl (fun _ => 0))), ((u 22), .inl (cI, 5, .inl (fun _ => 0))), ((u 23), .inr (5, [.ref (u 0), .ref (u 9), .ref (u 13), .ref (u 24), .ref (u 25), .ref (u 26), .ref (u 27), .ref (u 28), .int 0, .int 0, .int 0])), ((u 24), .inl (cI, 61, .inl (fun _ => 0))), ((u 25), .inl (cI, 61, .inl (fun _ => 0))), ((u 26), .inl (cI, 60, .inl (fun _ => 0))), ((u 27), .inl (cI, 60, .inl (fun _ => 0))), ((u 28), .inl (cI, 21, .inl (fun _ => 0))), ((u 29), .inr (2, [.ref (u 0), .ref (u 9), .ref (u 13), .ref (u 30), .long 0, .long 0])), ((u 30), .inl (cI, 60, .inl (fun _ => 0))), ((u 31), .inr (6, [.ref (u 0), .int 0, .int 0, .int 0])), ((u 32), .inl (cK, 2, .inr (.inr (.inr (.inr (va_up (va_up (fun _ => none) 0 (some (u 35))) 1 (some (u 44)))))))), ((u 33), .inl (cZ, 2, .inl (fun _ => 0))), ((u 34), .inl (cI, 4, .inl (fun _ => 0))), ((u 35), .inr (0, [.ref (u 36), .ref (u 37), .ref (u 38), .int (-6), .int 0, .int 0, .ref (u 39), .ref (u 40), .ref (u 41), .int 0, .ref (u 42), .ref (u 43)])), ((u 36), .inl (cI, 5, .inl (upd (fun _ => 0) 0 800))), ((u 37), .inl (cI, 14, .inl (fun _ => 0))), ((u 38), .inl (cZ, 14, .inl (fun _ => 0))), ((u 39), .inl (cI, 6, .inl (fun _ => 0))), ((u 40), .inl (cI, 6, .inl (fun _ => 0))), ((u 41), .inl (cI, 6, .inl (fun _ => 0))), ((u 42), .inl (cI, 8, .inl (fun _ => 0))), ((u 43), .inl (cI, 8, .inl (fun _ => 0))), ((u 44), .inr (0, [.ref (u 45), .ref (u 46), .ref (u 47), .int (-6), .int 0, .int 0, .ref (u 48), .ref (u 49), .ref (u 50), .int 0, .ref (u 51), .ref (u 52)])), ((u 45), .inl (cI, 5, .inl (upd (fun _ => 0) 0 800))), ((u 46), .inl (cI, 14, .inl (fun _ => 0))), ((u 47), .inl (cZ, 14, .inl (fun _ => 0))), ((u 48), .inl (cI, 6, .inl (fun _ => 0))), ((u 49), .inl (cI, 6, .inl (fun _ => 0))), ((u 50), .inl (cI, 6, .inl (fun _ => 0))), ((u 51), .inl (cI, 8, .inl (fun _ => 0))), ((u 52), .inl (cI, 8, .inl (fun _ => 0))), (qn, .inr (8, [.int 800, .int 0, .int 0, .int 0, .int 0, .int 0, .int 0, .ref (v 0), .ref (v 1), .int 0, .ref (v 2), .ref (v 3), .ref (v 4), .ref (v 5), .ref (v 6), .int 0, .ref (v 7), .int 0, .ref (v 8), .ref (v 9), .ref (v 10), .int 0, .int 0, .int 0, .int 0, .int 0, .int 0, .int 0, .int 0, .int 0, .ref (v 11), .ref (v 12), .ref (v 13), .ref (v 14), .int 0, .int 0, .int 0, .int 0, .int 0, .int 0, .int 0, .ref (v 15), .int 0, .ref (v 16), .ref (v 17), .int 0, .int 0, .ref (v 18), .ref (v 19), .ref (v 20), .ref (v 21), .int 0, .int 0])), ((v 0), .inl (cI, 14, .inl (fun _ => 0))), ((v 1), .inl (cI, 14, .inl (fun _ => 0))), ((v 2), .inl (cI, 6, .inl (fun _ => 0))), ((v 3), .inl (cI, 6, .inl (fun _ => 0))), ((v 4), .inl (cI, 6, .inl (fun _ => 0))), ((v 5), .inl (cI, 8, .inl (fun _ => 0))), ((v 6), .inl (cI, 8, .inl (fun _ => 0))), ((v 7), .inl (cI, 60, .inl (fun _ => 0))), ((v 8), .inl (cI, 60, .inl (fun _ => 0))), ((v 9), .inl (cI, 60, .inl (fun _ => 0))), ((v 10), .inl (cI, 60, .inl (fun _ => 0))), ((v 11), .inl (cI, 60, .inl (fun _ => 0))), ((v 12), .inl (cI, 60, .inl (fun _ => 0))), ((v 13), .inl (cI, 14, .inl (fun _ => 0))), ((v 14), .inl (cI, 61, .inl (fun _ => 0))), ((v 15), .inl (cI, 6, .inl (fun _ => 0))), ((v 16), .inl (cI, 6, .inl (fun _ => 0))), ((v 17), .inl (cI, 28, .inl (fun _ => 0))), ((v 18), .inl (cI, 1260, .inl (fun _ => 0))), ((v 19), .inl (cI, 4, .inl (fun _ => 0))), ((v 20), .inl (cI, 160, .inl (fun _ => 0))), ((v 21), .inl (cZ, 2, .inl (fun _ => 0)))]) (hS : va_S (fun q : Nat => s.heap.size ≤ q) s.heap H locs) (ls : Array Slot) (hl : lv_has ls 4 [(3, .int 0), (2, .ref qn), (1, .ref qx), (0, .ref b)]) : W p l e room_1 s m #[Value.ref b] below meth c H locs 77 3085 (lw_Z below #[Value.ref b] s) (F0 m 843 ls []) := by
  obtain ⟨hx, hb, hr, hml, hown, hts, hX, hbl, hlocks, hgv⟩ := C0
  have hts := fun w h => hts w (wsL_law_in w h)
  have hown : s.vm.findClass RL = some m.cls := hown
  have hA : ∀ q : Nat, s.heap.size ≤ q → (fun q : Nat => s.heap.size ≤ q) q := fun _ h => h
  have hbA : ¬ (fun q : Nat => s.heap.size ≤ q) b := Nat.not_le.mpr hbl
  have hK := hKx.1
  replace hP := mx_subP (wc := [(qx, .inr (7, [.ref (u 0), .ref (u 9), .ref (u 13), .ref (u 18), .ref (u 23), .ref (u 29), .ref (u 31), .ref (u 32), .ref (u 33), .ref (u 34)])), ((u 0), .inr (0, [.ref (u 1), .ref (u 2), .ref (u 3), .int (-6), .int 0, .int 0, .ref (u 4), .ref (u 5), .ref (u 6), .int 0, .ref (u 7), .ref (u 8)])), (qn, .inr (8, [.int 800, .int 0, .int 0, .int 0, .int 0, .int 0, .int 0, .ref (v 0), .ref (v 1), .int 0, .ref (v 2), .ref (v 3), .ref (v 4), .ref (v 5), .ref (v 6), .int 0, .ref (v 7), .int 0, .ref (v 8), .ref (v 9), .ref (v 10), .int 0, .int 0, .int 0, .int 0, .int 0, .int 0, .int 0, .int 0, .int 0, .ref (v 11), .ref (v 12), .ref (v 13), .ref (v 14), .int 0, .int 0, .int 0, .int 0, .int 0, .int 0, .int 0, .ref (v 15), .int 0, .ref (v 16), .ref (v 17), .int 0, .int 0, .ref (v 18), .ref (v 19), .ref (v 20), .ref (v 21), .int 0, .int 0]))]) hP [0, 1, 54] rfl
  replace hD := hD.sub (ws' := [(qx, .inr (7, [.ref (u 0), .ref (u 9), .ref (u 13), .ref (u 18), .ref (u 23), .ref (u 29), .ref (u 31), .ref (u 32), .ref (u 33), .ref (u 34)])), ((u 0), .inr (0, [.ref (u 1), .ref (u 2), .ref (u 3), .int (-6), .int 0, .int 0, .ref (u 4), .ref (u 5), .ref (u 6), .int 0, .ref (u 7), .ref (u 8)])), (qn, .inr (8, [.int 800, .int 0, .int 0, .int 0, .int 0, .int 0, .int 0, .ref (v 0), .ref (v 1), .int 0, .ref (v 2), .ref (v 3), .ref (v 4), .ref (v 5), .ref (v 6), .int 0, .ref (v 7), .int 0, .ref (v 8), .ref (v 9), .ref (v 10), .int 0, .int 0, .int 0, .int 0, .int 0, .int 0, .int 0, .int 0, .int 0, .ref (v 11), .ref (v 12), .ref (v 13), .ref (v 14), .int 0, .int 0, .int 0, .int 0, .int 0, .int 0, .int 0, .ref (v 15), .int 0, .ref (v 16), .ref (v 17), .int 0, .int 0, .ref (v 18), .ref (v 19), .ref (v 20), .ref (v 21), .int 0, .int 0]))]) [0, 1, 54] (by decide) rfl
  refine lv_aload_n hx hb dL_law_843 rfl (lv_at hl 2 rfl) ?_
  refine lv_aload_n hx hb dL_law_844 rfl (lv_at hl 3 rfl) ?_
  refine lv_iload_n hx hb dL_law_845 rfl (lv_at hl 0 rfl) ?_
  refine lv_iconst (v := 1) hx hb dL_law_846 (by decide) ?_
  refine lv_iadd hx hb dL_law_847 ?_
  refine lv_topi (fun x1 e1 => ?_)
  obtain rfl : x1 = 1 := e1.trans (by decide)
  refine va_sld hx hb hX hbl hbA hS (vin (by decide) (by decide)) dL_law_848 ?_
  refine lv_topi (fun y2 e2 => ?_)
  obtain rfl : y2 = xs 1 := e2
  refine lv_aload_n hx hb dL_law_849 rfl (lv_at hl 3 rfl) ?_
  refine lv_iload_n hx hb dL_law_850 rfl (lv_at hl 0 rfl) ?_
  refine lv_iconst (v := 2) hx hb dL_law_851 (by decide) ?_
  refine lv_iadd hx hb dL_law_852 ?_
  refine lv_topi (fun x3 e3 => ?_)
  obtain rfl : x3 = 2 := e3.trans (by decide)
  refine va_sld hx hb hX hbl hbA hS (vin (by decide) (by decide)) dL_law_853 ?_
  refine lv_topi (fun y4 e4 => ?_)
  obtain rfl : y4 = xs 2 := e4
  refine lv_aload_n hx hb dL_law_854 rfl (lv_at hl 3 rfl) ?_
  refine lv_iload_n hx hb dL_law_855 rfl (lv_at hl 0 rfl) ?_
  refine lv_iconst (v := 3) hx hb dL_law_856 (by decide) ?_
  refine lv_iadd hx hb dL_law_857 ?_
  refine lv_topi (fun x5 e5 => ?_)
  obtain rfl : x5 = 3 := e5.trans (by decide)
  refine va_sld hx hb hX hbl hbA hS (vin (by decide) (by decide)) dL_law_858 ?_
  refine lv_topi (fun y6 e6 => ?_)
  obtain rfl : y6 = xs 3 := e6
  refine mx_i (wr := [(qn, .inr (8, [.int 800, .int 0, .int 0, .int 0, .int 0, .int 0, .int 0, .ref (v 0), .ref (v 1), .int 0, .ref (v 2), .ref (v 3), .ref (v 4), .ref (v 5), .ref (v 6), .int 0, .ref (v 7), .int 0, .ref (v 8), .ref (v 9), .ref (v 10), .int 0, .int 0, .int 0, .int 0, .int 0, .int 0, .int 0, .int 0, .int 0, .ref (v 11), .ref (v 12), .ref (v 13), .ref (v 14), .int 0, .int 0, .int 0, .int 0, .int 0, .int 0, .int 0, .ref (v 15), .int 0, .ref (v 16), .ref (v 17), .int 0, .int 0, .ref (v 18), .ref (v 19), .ref (v 20), .ref (v 21), .int 0, .int 0]))]) (va_runV (As := [.int (xs 1), .int (xs 2), .int (xs 3)]) (rest := []) ⟨hx, hb, hml, hown, hts⟩ (c_X7_shares l dC dI cI cZ cK tS aK aV qx (u 18) (u 23) (u 29) (u 31) (u 32) (u 33) (u 34) (u 13) (u 0) (u 1) (u 2) (u 3) (u 4) (u 5) (u 6) (u 7) (u 8) (u 9) (xs 1) (xs 2) (xs 3) H.size) (cwV 3 hts (gw_v (fun _ h9 => h9) wm_745 wm_746 wm_747 wm_2 wm_748) rfl rfl rfl (by decide +kernel) ⟨Nat.le_of_ble_eq_true rfl, Nat.le_of_ble_eq_true rfl⟩) (mx_preV (C := RX7) (T := TX7) (N := 10) (ci := 7) hKx hP hD hS hA [0, 1] (by decide) rfl rfl rfl) rfl rfl hl.1 rfl (lv_room (Nat.le_of_ble_eq_true rfl)) dL_law_859 ⟨Nat.le_of_ble_eq_true rfl, Nat.le_of_ble_eq_true rfl⟩) hP hD hS hA [0, 1] [2] rfl rfl (by decide) (by decide) (fun r7 u7 H locs hq7 hP hD hS => ?_)
  replace hP : va_P (dC, dI) vwCl [(qn, .inr (8, [.int 800, .int 0, .int 0, .int 0, .int 0, .int 0, .int 0, .ref (v 0), .ref (v 1), .int 0, .ref (v 2), .ref (v 3), .ref (v 4), .ref (v 5), .ref (v 6), .int 0, .ref (v 7), .int 0, .ref (v 8), .ref (v 9), .ref (v 10), .int 0, .int 0, .int 0, .int 0, .int 0, .int 0, .int 0, .int 0, .int 0, .ref (v 11), .ref (v 12), .ref (v 13), .ref (v 14), .int 0, .int 0, .int 0, .int 0, .int 0, .int 0, .int 0, .ref (v 15), .int 0, .ref (v 16), .ref (v 17), .int 0, .int 0, .ref (v 18), .ref (v 19), .ref (v 20), .ref (v 21), .int 0, .int 0]))] H := hP
  replace hD : va_D (fun q : Nat => s.heap.size ≤ q) [(qn, .inr (8, [.int 800, .int 0, .int 0, .int 0, .int 0, .int 0, .int 0, .ref (v 0), .ref (v 1), .int 0, .ref (v 2), .ref (v 3), .ref (v 4), .ref (v 5), .ref (v 6), .int 0, .ref (v 7), .int 0, .ref (v 8), .ref (v 9), .ref (v 10), .int 0, .int 0, .int 0, .int 0, .int 0, .int 0, .int 0, .int 0, .int 0, .ref (v 11), .ref (v 12), .ref (v 13), .ref (v 14), .int 0, .int 0, .int 0, .int 0, .int 0, .int 0, .int 0, .ref (v 15), .int 0, .ref (v 16), .ref (v 17), .int 0, .int 0, .ref (v 18), .ref (v 19), .ref (v 20), .ref (v 21), .int 0, .int 0]))] := hD
  obtain rfl : r7 = (-1) := hq7
  refine lv_aload_n hx hb dL_law_862 rfl (lv_at hl 1 rfl) ?_
  refine lv_aload_n hx hb dL_law_863 rfl (lv_at hl 3 rfl) ?_
  refine lv_iload_n hx hb dL_law_864 rfl (lv_at hl 0 rfl) ?_
  refine lv_iconst (v := 1) hx hb dL_law_865 (by decide) ?_
  refine lv_iadd hx hb dL_law_866 ?_
  refine lv_topi (fun x8 e8 => ?_)
  obtain rfl : x8 = 1 := e8.trans (by decide)
  refine va_sld hx hb hX hbl hbA hS (vin (by decide) (by decide)) dL_law_867 ?_
  refine lv_topi (fun y9 e9 => ?_)
  obtain rfl : y9 = xs 1 := e9
  refine lv_aload_n hx hb dL_law_868 rfl (lv_at hl 3 rfl) ?_
  refine lv_iload_n hx hb dL_law_869 rfl (lv_at hl 0 rfl) ?_
  refine lv_iconst (v := 2) hx hb dL_law_870 (by decide) ?_
  refine lv_iadd hx hb dL_law_871 ?_
  refine lv_topi (fun x10 e10 => ?_)
  obtain rfl : x10 = 2 := e10.trans (by decide)
  refine va_sld hx hb hX hbl hbA hS (vin (by decide) (by decide)) dL_law_872 ?_
  refine lv_topi (fun y11 e11 => ?_)
  obtain rfl : y11 = xs 2 := e11
  refine lv_aload_n hx hb dL_law_873 rfl (lv_at hl 3 rfl) ?_
  refine lv_iload_n hx hb dL_law_874 rfl (lv_at hl 0 rfl) ?_
  refine lv_iconst (v := 3) hx hb dL_law_875 (by decide) ?_
  refine lv_iadd hx hb dL_law_876 ?_
  refine lv_topi (fun x12 e12 => ?_)
  obtain rfl : x12 = 3 := e12.trans (by decide)
  refine va_sld hx hb hX hbl hbA hS (vin (by decide) (by decide)) dL_law_877 ?_
  refine lv_topi (fun y13 e13 => ?_)
  obtain rfl : y13 = xs 3 := e13
  refine mx_i (wr := []) (va_runV (As := [.int (xs 1), .int (xs 2), .int (xs 3)]) (rest := [.int (-1)]) ⟨hx, hb, hml, hown, hts⟩ (c_X8_shares l dC dI cI cZ cK tS aK aV qn (v 0) (v 1) (v 2) (v 3) (v 4) (v 5) (v 6) (v 7) (v 8) (v 9) (v 10) (v 11) (v 12) (v 13) (v 14) (v 15) (v 16) (v 17) (v 18) (v 19) (v 20) (v 21) (xs 1) (xs 2) (xs 3) H.size) (cwV 3 hts (gw_v (fun _ h9 => h9) wm_749 wm_750 wm_751 wm_385 wm_752) rfl rfl rfl (by decide +kernel) ⟨Nat.le_of_ble_eq_true rfl, Nat.le_of_ble_eq_true rfl⟩) (mx_preV (C := RX8) (T := TX8) (N := 53) (ci := 8) hKx hP hD hS hA [0] (by decide) rfl rfl rfl) rfl rfl hl.1 rfl (lv_room (Nat.le_of_ble_eq_true rfl)) dL_law_878 ⟨Nat.le_of_ble_eq_true rfl, Nat.le_of_ble_eq_true rfl⟩) hP hD hS hA [0] [] rfl rfl (by decide) (by decide) (fun r14 u14 H locs hq14 hP hD hS => ?_)
  replace hP : va_P (dC, dI) vwCl [] H := hP
  replace hD : va_D (fun q : Nat => s.heap.size ≤ q) [] := hD
  obtain rfl : r14 = (-1) := hq14
  refine lv_icmp_eq (tgt := 998) hx hb dL_law_881 (by decide) (fun c15 => ?_) (fun c15 => absurd c15 (by decide))
  refine lv_iinc (v := 5) (lv' := [(3, .int 5), (2, .ref qn), (1, .ref qx), (0, .ref b)]) hx hb dL_law_998 hl (k := 0) rfl (by decide) (by decide) rfl (fun ls hl => ?_)
  refine lv_goto (tgt := 18) hx hb dL_law_1001 (by decide) ?_
  refine lv_iload_n hx hb dL_law_18 rfl (lv_at hl 0 rfl) ?_
  refine lv_aload_n hx hb dL_law_19 rfl (lv_at hl 3 rfl) ?_
  refine va_slen hx hb hX hbl hbA hS dL_law_20 ?_
  refine lv_topi (fun x16 e16 => ?_)
  obtain rfl : x16 = 5 := e16.trans (by decide)
  refine lv_iconst (v := 5) hx hb dL_law_21 (by decide) ?_
  refine lv_isub hx hb dL_law_22 ?_
  refine lv_topi (fun x17 e17 => ?_)
  obtain rfl : x17 = 0 := e17.trans (by decide)
  refine lv_icmp_gt (tgt := 1004) hx hb dL_law_23 (by decide) (fun c18 => ?_) (fun c18 => absurd c18 (by decide))
  refine lv_iconst (v := 1) hx hb dL_law_1004 (by decide) ?_
  refine va_forget (fun q hq => hS.2.2 q hq) ?_
  refine W.widen (k := 600000) (n := 7302250) (Nat.le_of_ble_eq_true rfl) (Nat.le_of_ble_eq_true rfl) ?_
  exact lw_ret hx hb hr hlocks dL_law_1005
set_option maxHeartbeats 4000000 in
set_option maxRecDepth 100000 in
theorem lc_week {p : Program} {e : Env} {s : State} {m : MethodId} {below : List Frame} {meth : Method} {c : Code} (l : Launch) {b : Nat} {xs : Nat → Int32} (C0 : lw_At p s m meth c b 5 xs) (dC : Nat → ClassId) (dI : Nat → Nat → Nat) (cI cZ cK : ClassId) (tS aK aV : Nat) (hKx : kx dC dI cI cZ cK tS aK aV (fun q : Nat => s.heap.size ≤ q) s) (qx qn : Nat) (u v : Nat → Nat) (H : Heap) (locs : List Loc) (hP : va_P (dC, dI) vwCl [(qx, .inr (7, [.ref (u 0), .ref (u 9), .ref (u 13), .ref (u 18), .ref (u 23), .ref (u 29), .ref (u 31), .ref (u 32), .ref (u 33), .ref (u 34)])), ((u 0), .inr (0, [.ref (u 1), .ref (u 2), .ref (u 3), .int (-6), .int 0, .int 0, .ref (u 4), .ref (u 5), .ref (u 6), .int 0, .ref (u 7), .ref (u 8)])), ((u 1), .inl (cI, 5, .inl (upd (fun _ => 0) 0 800))), ((u 2), .inl (cI, 14, .inl (fun _ => 0))), ((u 3), .inl (cZ, 14, .inl (fun _ => 0))), ((u 4), .inl (cI, 6, .inl (fun _ => 0))), ((u 5), .inl (cI, 6, .inl (fun _ => 0))), ((u 6), .inl (cI, 6, .inl (fun _ => 0))), ((u 7), .inl (cI, 8, .inl (fun _ => 0))), ((u 8), .inl (cI, 8, .inl (fun _ => 0))), ((u 9), .inr (4, [.ref (u 10), .int 0, .ref (u 11), .ref (u 12), .int 0, .int 0])), ((u 10), .inl (cI, 60, .inl (fun _ => 0))), ((u 11), .inl (cI, 60, .inl (fun _ => 0))), ((u 12), .inl (cI, 60, .inl (fun _ => 0))), ((u 13), .inr (1, [.ref (u 0), .ref (u 9), .ref (u 14), .ref (u 15), .ref (u 16), .ref (u 17), .int 0, .int 0, .int 0, .int 0, .int 0, .int 0, .int 0, .int 0])), ((u 14), .inl (cI, 60, .inl (fun _ => 0))), ((u 15), .inl (cI, 60, .inl (fun _ => 0))), ((u 16), .inl (cI, 60, .inl (fun _ => 0))), ((u 17), .inl (cI, 61, .inl (fun _ => 0))), ((u 18), .inr (3, [.ref (u 0), .ref (u 19), .int 0, .ref (u 20), .ref (u 21), .ref (u 22)])), ((u 19), .inl (cI, 6, .inl (fun _ => 0))), ((u 20), .inl (cI, 6, .inl (fun _ => 0))), ((u 21), .inl (cI, 6, .inl (fun _ => 0))), ((u 22), .inl (cI, 5, .inl (fun _ => 0))), ((u 23), .inr (5, [.ref (u 0), .ref (u 9), .ref (u 13), .ref (u 24), .ref (u 25), .ref (u 26), .ref (u 27), .ref (u 28), .int 0, .int 0, .int 0])), ((u 24), .inl (cI, 61, .inl (fun _ => 0))), ((u 25), .inl (cI, 61, .inl (fun _ => 0))), ((u 26), .inl (cI, 60, .inl (fun _ => 0))), ((u 27), .inl (cI, 60, .inl (fun _ => 0))), ((u 28), .inl (cI, 21, .inl (fun _ => 0))), ((u 29), .inr (2, [.ref (u 0), .ref (u 9), .ref (u 13), .ref (u 30), .long 0, .long 0])), ((u 30), .inl (cI, 60, .inl (fun _ => 0))), ((u 31), .inr (6, [.ref (u 0), .int 0, .int 0, .int 0])), ((u 32), .inl (cK, 2, .inr (.inr (.inr (.inr (va_up (va_up (fun _ => none) 0 (some (u 35))) 1 (some (u 44)))))))), ((u 33), .inl (cZ, 2, .inl (fun _ => 0))), ((u 34), .inl (cI, 4, .inl (fun _ => 0))), ((u 35), .inr (0, [.ref (u 36), .ref (u 37), .ref (u 38), .int (-6), .int 0, .int 0, .ref (u 39), .ref (u 40), .ref (u 41), .int 0, .ref (u 42), .ref (u 43)])), ((u 36), .inl (cI, 5, .inl (upd (fun _ => 0) 0 800))), ((u 37), .inl (cI, 14, .inl (fun _ => 0))), ((u 38), .inl (cZ, 14, .inl (fun _ => 0))), ((u 39), .inl (cI, 6, .inl (fun _ => 0))), ((u 40), .inl (cI, 6, .inl (fun _ => 0))), ((u 41), .inl (cI, 6, .inl (fun _ => 0))), ((u 42), .inl (cI, 8, .inl (fun _ => 0))), ((u 43), .inl (cI, 8, .inl (fun _ => 0))), ((u 44), .inr (0, [.ref (u 45), .ref (u 46), .ref (u 47), .int (-6), .int 0, .int 0, .ref (u 48), .ref (u 49), .ref (u 50), .int 0, .ref (u 51), .ref (u 52)])), ((u 45), .inl (cI, 5, .inl (upd (fun _ => 0) 0 800))), ((u 46), .inl (cI, 14, .inl (fun _ => 0))), ((u 47), .inl (cZ, 14, .inl (fun _ => 0))), ((u 48), .inl (cI, 6, .inl (fun _ => 0))), ((u 49), .inl (cI, 6, .inl (fun _ => 0))), ((u 50), .inl (cI, 6, .inl (fun _ => 0))), ((u 51), .inl (cI, 8, .inl (fun _ => 0))), ((u 52), .inl (cI, 8, .inl (fun _ => 0))), (qn, .inr (8, [.int 800, .int 0, .int 0, .int 0, .int 0, .int 0, .int 0, .ref (v 0), .ref (v 1), .int 0, .ref (v 2), .ref (v 3), .ref (v 4), .ref (v 5), .ref (v 6), .int 0, .ref (v 7), .int 0, .ref (v 8), .ref (v 9), .ref (v 10), .int 0, .int 0, .int 0, .int 0, .int 0, .int 0, .int 0, .int 0, .int 0, .ref (v 11), .ref (v 12), .ref (v 13), .ref (v 14), .int 0, .int 0, .int 0, .int 0, .int 0, .int 0, .int 0, .ref (v 15), .int 0, .ref (v 16), .ref (v 17), .int 0, .int 0, .ref (v 18), .ref (v 19), .ref (v 20), .ref (v 21), .int 0, .int 0])), ((v 0), .inl (cI, 14, .inl (fun _ => 0))), ((v 1), .inl (cI, 14, .inl (fun _ => 0))), ((v 2), .inl (cI, 6, .inl (fun _ => 0))), ((v 3), .inl (cI, 6, .inl (fun _ => 0))), ((v 4), .inl (cI, 6, .inl (fun _ => 0))), ((v 5), .inl (cI, 8, .inl (fun _ => 0))), ((v 6), .inl (cI, 8, .inl (fun _ => 0))), ((v 7), .inl (cI, 60, .inl (fun _ => 0))), ((v 8), .inl (cI, 60, .inl (fun _ => 0))), ((v 9), .inl (cI, 60, .inl (fun _ => 0))), ((v 10), .inl (cI, 60, .inl (fun _ => 0))), ((v 11), .inl (cI, 60, .inl (fun _ => 0))), ((v 12), .inl (cI, 60, .inl (fun _ => 0))), ((v 13), .inl (cI, 14, .inl (fun _ => 0))), ((v 14), .inl (cI, 61, .inl (fun _ => 0))), ((v 15), .inl (cI, 6, .inl (fun _ => 0))), ((v 16), .inl (cI, 6, .inl (fun _ => 0))), ((v 17), .inl (cI, 28, .inl (fun _ => 0))), ((v 18), .inl (cI, 1260, .inl (fun _ => 0))), ((v 19), .inl (cI, 4, .inl (fun _ => 0))), ((v 20), .inl (cI, 160, .inl (fun _ => 0))), ((v 21), .inl (cZ, 2, .inl (fun _ => 0)))] H) (hD : va_D (fun q : Nat => s.heap.size ≤ q) [(qx, .inr (7, [.ref (u 0), .ref (u 9), .ref (u 13), .ref (u 18), .ref (u 23), .ref (u 29), .ref (u 31), .ref (u 32), .ref (u 33), .ref (u 34)])), ((u 0), .inr (0, [.ref (u 1), .ref (u 2), .ref (u 3), .int (-6), .int 0, .int 0, .ref (u 4), .ref (u 5), .ref (u 6), .int 0, .ref (u 7), .ref (u 8)])), ((u 1), .inl (cI, 5, .inl (upd (fun _ => 0) 0 800))), ((u 2), .inl (cI, 14, .inl (fun _ => 0))), ((u 3), .inl (cZ, 14, .inl (fun _ => 0))), ((u 4), .inl (cI, 6, .inl (fun _ => 0))), ((u 5), .inl (cI, 6, .inl (fun _ => 0))), ((u 6), .inl (cI, 6, .inl (fun _ => 0))), ((u 7), .inl (cI, 8, .inl (fun _ => 0))), ((u 8), .inl (cI, 8, .inl (fun _ => 0))), ((u 9), .inr (4, [.ref (u 10), .int 0, .ref (u 11), .ref (u 12), .int 0, .int 0])), ((u 10), .inl (cI, 60, .inl (fun _ => 0))), ((u 11), .inl (cI, 60, .inl (fun _ => 0))), ((u 12), .inl (cI, 60, .inl (fun _ => 0))), ((u 13), .inr (1, [.ref (u 0), .ref (u 9), .ref (u 14), .ref (u 15), .ref (u 16), .ref (u 17), .int 0, .int 0, .int 0, .int 0, .int 0, .int 0, .int 0, .int 0])), ((u 14), .inl (cI, 60, .inl (fun _ => 0))), ((u 15), .inl (cI, 60, .inl (fun _ => 0))), ((u 16), .inl (cI, 60, .inl (fun _ => 0))), ((u 17), .inl (cI, 61, .inl (fun _ => 0))), ((u 18), .inr (3, [.ref (u 0), .ref (u 19), .int 0, .ref (u 20), .ref (u 21), .ref (u 22)])), ((u 19), .inl (cI, 6, .inl (fun _ => 0))), ((u 20), .inl (cI, 6, .inl (fun _ => 0))), ((u 21), .inl (cI, 6, .inl (fun _ => 0))), ((u 22), .inl (cI, 5, .inl (fun _ => 0))), ((u 23), .inr (5, [.ref (u 0), .ref (u 9), .ref (u 13), .ref (u 24), .ref (u 25), .ref (u 26), .ref (u 27), .ref (u 28), .int 0, .int 0, .int 0])), ((u 24), .inl (cI, 61, .inl (fun _ => 0))), ((u 25), .inl (cI, 61, .inl (fun _ => 0))), ((u 26), .inl (cI, 60, .inl (fun _ => 0))), ((u 27), .inl (cI, 60, .inl (fun _ => 0))), ((u 28), .inl (cI, 21, .inl (fun _ => 0))), ((u 29), .inr (2, [.ref (u 0), .ref (u 9), .ref (u 13), .ref (u 30), .long 0, .long 0])), ((u 30), .inl (cI, 60, .inl (fun _ => 0))), ((u 31), .inr (6, [.ref (u 0), .int 0, .int 0, .int 0])), ((u 32), .inl (cK, 2, .inr (.inr (.inr (.inr (va_up (va_up (fun _ => none) 0 (some (u 35))) 1 (some (u 44)))))))), ((u 33), .inl (cZ, 2, .inl (fun _ => 0))), ((u 34), .inl (cI, 4, .inl (fun _ => 0))), ((u 35), .inr (0, [.ref (u 36), .ref (u 37), .ref (u 38), .int (-6), .int 0, .int 0, .ref (u 39), .ref (u 40), .ref (u 41), .int 0, .ref (u 42), .ref (u 43)])), ((u 36), .inl (cI, 5, .inl (upd (fun _ => 0) 0 800))), ((u 37), .inl (cI, 14, .inl (fun _ => 0))), ((u 38), .inl (cZ, 14, .inl (fun _ => 0))), ((u 39), .inl (cI, 6, .inl (fun _ => 0))), ((u 40), .inl (cI, 6, .inl (fun _ => 0))), ((u 41), .inl (cI, 6, .inl (fun _ => 0))), ((u 42), .inl (cI, 8, .inl (fun _ => 0))), ((u 43), .inl (cI, 8, .inl (fun _ => 0))), ((u 44), .inr (0, [.ref (u 45), .ref (u 46), .ref (u 47), .int (-6), .int 0, .int 0, .ref (u 48), .ref (u 49), .ref (u 50), .int 0, .ref (u 51), .ref (u 52)])), ((u 45), .inl (cI, 5, .inl (upd (fun _ => 0) 0 800))), ((u 46), .inl (cI, 14, .inl (fun _ => 0))), ((u 47), .inl (cZ, 14, .inl (fun _ => 0))), ((u 48), .inl (cI, 6, .inl (fun _ => 0))), ((u 49), .inl (cI, 6, .inl (fun _ => 0))), ((u 50), .inl (cI, 6, .inl (fun _ => 0))), ((u 51), .inl (cI, 8, .inl (fun _ => 0))), ((u 52), .inl (cI, 8, .inl (fun _ => 0))), (qn, .inr (8, [.int 800, .int 0, .int 0, .int 0, .int 0, .int 0, .int 0, .ref (v 0), .ref (v 1), .int 0, .ref (v 2), .ref (v 3), .ref (v 4), .ref (v 5), .ref (v 6), .int 0, .ref (v 7), .int 0, .ref (v 8), .ref (v 9), .ref (v 10), .int 0, .int 0, .int 0, .int 0, .int 0, .int 0, .int 0, .int 0, .int 0, .ref (v 11), .ref (v 12), .ref (v 13), .ref (v 14), .int 0, .int 0, .int 0, .int 0, .int 0, .int 0, .int 0, .ref (v 15), .int 0, .ref (v 16), .ref (v 17), .int 0, .int 0, .ref (v 18), .ref (v 19), .ref (v 20), .ref (v 21), .int 0, .int 0])), ((v 0), .inl (cI, 14, .inl (fun _ => 0))), ((v 1), .inl (cI, 14, .inl (fun _ => 0))), ((v 2), .inl (cI, 6, .inl (fun _ => 0))), ((v 3), .inl (cI, 6, .inl (fun _ => 0))), ((v 4), .inl (cI, 6, .inl (fun _ => 0))), ((v 5), .inl (cI, 8, .inl (fun _ => 0))), ((v 6), .inl (cI, 8, .inl (fun _ => 0))), ((v 7), .inl (cI, 60, .inl (fun _ => 0))), ((v 8), .inl (cI, 60, .inl (fun _ => 0))), ((v 9), .inl (cI, 60, .inl (fun _ => 0))), ((v 10), .inl (cI, 60, .inl (fun _ => 0))), ((v 11), .inl (cI, 60, .inl (fun _ => 0))), ((v 12), .inl (cI, 60, .inl (fun _ => 0))), ((v 13), .inl (cI, 14, .inl (fun _ => 0))), ((v 14), .inl (cI, 61, .inl (fun _ => 0))), ((v 15), .inl (cI, 6, .inl (fun _ => 0))), ((v 16), .inl (cI, 6, .inl (fun _ => 0))), ((v 17), .inl (cI, 28, .inl (fun _ => 0))), ((v 18), .inl (cI, 1260, .inl (fun _ => 0))), ((v 19), .inl (cI, 4, .inl (fun _ => 0))), ((v 20), .inl (cI, 160, .inl (fun _ => 0))), ((v 21), .inl (cZ, 2, .inl (fun _ => 0)))]) (hS : va_S (fun q : Nat => s.heap.size ≤ q) s.heap H locs) (ls : Array Slot) (hl : lv_has ls 4 [(3, .int 0), (2, .ref qn), (1, .ref qx), (0, .ref b)]) : W p l e room_1 s m #[Value.ref b] below meth c H locs 77 3085 (lw_Z below #[Value.ref b] s) (F0 m 886 ls []) := by
  obtain ⟨hx, hb, hr, hml, hown, hts, hX, hbl, hlocks, hgv⟩ := C0
  have hts := fun w h => hts w (wsL_law_in w h)
  have hown : s.vm.findClass RL = some m.cls := hown
  have hA : ∀ q : Nat, s.heap.size ≤ q → (fun q : Nat => s.heap.size ≤ q) q := fun _ h => h
  have hbA : ¬ (fun q : Nat => s.heap.size ≤ q) b := Nat.not_le.mpr hbl
  have hK := hKx.1
  replace hP := mx_subP (wc := [(qx, .inr (7, [.ref (u 0), .ref (u 9), .ref (u 13), .ref (u 18), .ref (u 23), .ref (u 29), .ref (u 31), .ref (u 32), .ref (u 33), .ref (u 34)])), ((u 0), .inr (0, [.ref (u 1), .ref (u 2), .ref (u 3), .int (-6), .int 0, .int 0, .ref (u 4), .ref (u 5), .ref (u 6), .int 0, .ref (u 7), .ref (u 8)])), ((u 1), .inl (cI, 5, .inl (upd (fun _ => 0) 0 800))), ((u 31), .inr (6, [.ref (u 0), .int 0, .int 0, .int 0])), (qn, .inr (8, [.int 800, .int 0, .int 0, .int 0, .int 0, .int 0, .int 0, .ref (v 0), .ref (v 1), .int 0, .ref (v 2), .ref (v 3), .ref (v 4), .ref (v 5), .ref (v 6), .int 0, .ref (v 7), .int 0, .ref (v 8), .ref (v 9), .ref (v 10), .int 0, .int 0, .int 0, .int 0, .int 0, .int 0, .int 0, .int 0, .int 0, .ref (v 11), .ref (v 12), .ref (v 13), .ref (v 14), .int 0, .int 0, .int 0, .int 0, .int 0, .int 0, .int 0, .ref (v 15), .int 0, .ref (v 16), .ref (v 17), .int 0, .int 0, .ref (v 18), .ref (v 19), .ref (v 20), .ref (v 21), .int 0, .int 0]))]) hP [0, 1, 2, 32, 54] rfl
  replace hD := hD.sub (ws' := [(qx, .inr (7, [.ref (u 0), .ref (u 9), .ref (u 13), .ref (u 18), .ref (u 23), .ref (u 29), .ref (u 31), .ref (u 32), .ref (u 33), .ref (u 34)])), ((u 0), .inr (0, [.ref (u 1), .ref (u 2), .ref (u 3), .int (-6), .int 0, .int 0, .ref (u 4), .ref (u 5), .ref (u 6), .int 0, .ref (u 7), .ref (u 8)])), ((u 1), .inl (cI, 5, .inl (upd (fun _ => 0) 0 800))), ((u 31), .inr (6, [.ref (u 0), .int 0, .int 0, .int 0])), (qn, .inr (8, [.int 800, .int 0, .int 0, .int 0, .int 0, .int 0, .int 0, .ref (v 0), .ref (v 1), .int 0, .ref (v 2), .ref (v 3), .ref (v 4), .ref (v 5), .ref (v 6), .int 0, .ref (v 7), .int 0, .ref (v 8), .ref (v 9), .ref (v 10), .int 0, .int 0, .int 0, .int 0, .int 0, .int 0, .int 0, .int 0, .int 0, .ref (v 11), .ref (v 12), .ref (v 13), .ref (v 14), .int 0, .int 0, .int 0, .int 0, .int 0, .int 0, .int 0, .ref (v 15), .int 0, .ref (v 16), .ref (v 17), .int 0, .int 0, .ref (v 18), .ref (v 19), .ref (v 20), .ref (v 21), .int 0, .int 0]))]) [0, 1, 2, 32, 54] (by decide) rfl
  refine lv_aload_n hx hb dL_law_886 rfl (lv_at hl 2 rfl) ?_
  refine lv_aload_n hx hb dL_law_887 rfl (lv_at hl 3 rfl) ?_
  refine lv_iload_n hx hb dL_law_888 rfl (lv_at hl 0 rfl) ?_
  refine lv_iconst (v := 1) hx hb dL_law_889 (by decide) ?_
  refine lv_iadd hx hb dL_law_890 ?_
  refine lv_topi (fun x1 e1 => ?_)
  obtain rfl : x1 = 1 := e1.trans (by decide)
  refine va_sld hx hb hX hbl hbA hS (vin (by decide) (by decide)) dL_law_891 ?_
  refine lv_topi (fun y2 e2 => ?_)
  obtain rfl : y2 = xs 1 := e2
  refine lv_aload_n hx hb dL_law_892 rfl (lv_at hl 3 rfl) ?_
  refine lv_iload_n hx hb dL_law_893 rfl (lv_at hl 0 rfl) ?_
  refine lv_iconst (v := 2) hx hb dL_law_894 (by decide) ?_
  refine lv_iadd hx hb dL_law_895 ?_
  refine lv_topi (fun x3 e3 => ?_)
  obtain rfl : x3 = 2 := e3.trans (by decide)
  refine va_sld hx hb hX hbl hbA hS (vin (by decide) (by decide)) dL_law_896 ?_
  refine lv_topi (fun y4 e4 => ?_)
  obtain rfl : y4 = xs 2 := e4
  refine lv_aload_n hx hb dL_law_897 rfl (lv_at hl 3 rfl) ?_
  refine lv_iload_n hx hb dL_law_898 rfl (lv_at hl 0 rfl) ?_
  refine lv_iconst (v := 3) hx hb dL_law_899 (by decide) ?_
  refine lv_iadd hx hb dL_law_900 ?_
  refine lv_topi (fun x5 e5 => ?_)
  obtain rfl : x5 = 3 := e5.trans (by decide)
  refine va_sld hx hb hX hbl hbA hS (vin (by decide) (by decide)) dL_law_901 ?_
  refine lv_topi (fun y6 e6 => ?_)
  obtain rfl : y6 = xs 3 := e6
  refine mx_i (wr := [(qn, .inr (8, [.int 800, .int 0, .int 0, .int 0, .int 0, .int 0, .int 0, .ref (v 0), .ref (v 1), .int 0, .ref (v 2), .ref (v 3), .ref (v 4), .ref (v 5), .ref (v 6), .int 0, .ref (v 7), .int 0, .ref (v 8), .ref (v 9), .ref (v 10), .int 0, .int 0, .int 0, .int 0, .int 0, .int 0, .int 0, .int 0, .int 0, .ref (v 11), .ref (v 12), .ref (v 13), .ref (v 14), .int 0, .int 0, .int 0, .int 0, .int 0, .int 0, .int 0, .ref (v 15), .int 0, .ref (v 16), .ref (v 17), .int 0, .int 0, .ref (v 18), .ref (v 19), .ref (v 20), .ref (v 21), .int 0, .int 0]))]) (va_runV (As := [.int (xs 1), .int (xs 2), .int (xs 3)]) (rest := []) ⟨hx, hb, hml, hown, hts⟩ (c_X7_week l dC dI cI cZ cK tS aK aV qx (u 18) (u 23) (u 29) (u 31) (u 32) (u 33) (u 34) (u 13) (u 0) (u 1) (u 2) (u 3) (u 4) (u 5) (u 6) (u 7) (u 8) (u 9) (xs 1) (xs 2) (xs 3) H.size) (cwV 3 hts (gw_v (fun _ h9 => h9) wm_753 wm_754 wm_755 wm_2 wm_756) rfl rfl rfl (by decide +kernel) ⟨Nat.le_of_ble_eq_true rfl, Nat.le_of_ble_eq_true rfl⟩) (mx_preV (C := RX7) (T := TX7) (N := 10) (ci := 7) hKx hP hD hS hA [0, 3, 1, 2] (by decide) rfl rfl rfl) rfl rfl hl.1 rfl (lv_room (Nat.le_of_ble_eq_true rfl)) dL_law_902 ⟨Nat.le_of_ble_eq_true rfl, Nat.le_of_ble_eq_true rfl⟩) hP hD hS hA [0, 3, 1, 2] [4] rfl rfl (by decide) (by decide) (fun r7 u7 H locs hq7 hP hD hS => ?_)
  replace hP : va_P (dC, dI) vwCl [(qn, .inr (8, [.int 800, .int 0, .int 0, .int 0, .int 0, .int 0, .int 0, .ref (v 0), .ref (v 1), .int 0, .ref (v 2), .ref (v 3), .ref (v 4), .ref (v 5), .ref (v 6), .int 0, .ref (v 7), .int 0, .ref (v 8), .ref (v 9), .ref (v 10), .int 0, .int 0, .int 0, .int 0, .int 0, .int 0, .int 0, .int 0, .int 0, .ref (v 11), .ref (v 12), .ref (v 13), .ref (v 14), .int 0, .int 0, .int 0, .int 0, .int 0, .int 0, .int 0, .ref (v 15), .int 0, .ref (v 16), .ref (v 17), .int 0, .int 0, .ref (v 18), .ref (v 19), .ref (v 20), .ref (v 21), .int 0, .int 0]))] H := hP
  replace hD : va_D (fun q : Nat => s.heap.size ≤ q) [(qn, .inr (8, [.int 800, .int 0, .int 0, .int 0, .int 0, .int 0, .int 0, .ref (v 0), .ref (v 1), .int 0, .ref (v 2), .ref (v 3), .ref (v 4), .ref (v 5), .ref (v 6), .int 0, .ref (v 7), .int 0, .ref (v 8), .ref (v 9), .ref (v 10), .int 0, .int 0, .int 0, .int 0, .int 0, .int 0, .int 0, .int 0, .int 0, .ref (v 11), .ref (v 12), .ref (v 13), .ref (v 14), .int 0, .int 0, .int 0, .int 0, .int 0, .int 0, .int 0, .ref (v 15), .int 0, .ref (v 16), .ref (v 17), .int 0, .int 0, .ref (v 18), .ref (v 19), .ref (v 20), .ref (v 21), .int 0, .int 0]))] := hD
  rcases hq7 with ⟨rfl, hf7⟩ | ⟨rfl, hf7⟩ | ⟨rfl, hf7⟩
  · have hf7 : 0 ≤ (xs 1).toInt ∧ (xs 1).toInt ≤ 9999 ∧ 1 ≤ (xs 2).toInt ∧ (xs 2).toInt ≤ 50 ∧ (xs 3).toInt = 0 := hf7
    refine lv_aload_n hx hb dL_law_905 rfl (lv_at hl 1 rfl) ?_
    refine lv_aload_n hx hb dL_law_906 rfl (lv_at hl 3 rfl) ?_
    refine lv_iload_n hx hb dL_law_907 rfl (lv_at hl 0 rfl) ?_
    refine lv_iconst (v := 1) hx hb dL_law_908 (by decide) ?_
    refine lv_iadd hx hb dL_law_909 ?_
    refine lv_topi (fun x8 e8 => ?_)
    obtain rfl : x8 = 1 := e8.trans (by decide)
    refine va_sld hx hb hX hbl hbA hS (vin (by decide) (by decide)) dL_law_910 ?_
    refine lv_topi (fun y9 e9 => ?_)
    obtain rfl : y9 = xs 1 := e9
    refine lv_aload_n hx hb dL_law_911 rfl (lv_at hl 3 rfl) ?_
    refine lv_iload_n hx hb dL_law_912 rfl (lv_at hl 0 rfl) ?_
    refine lv_iconst (v := 2) hx hb dL_law_913 (by decide) ?_
    refine lv_iadd hx hb dL_law_914 ?_
    refine lv_topi (fun x10 e10 => ?_)
    obtain rfl : x10 = 2 := e10.trans (by decide)
    refine va_sld hx hb hX hbl hbA hS (vin (by decide) (by decide)) dL_law_915 ?_
    refine lv_topi (fun y11 e11 => ?_)
    obtain rfl : y11 = xs 2 := e11
    refine lv_aload_n hx hb dL_law_916 rfl (lv_at hl 3 rfl) ?_
    refine lv_iload_n hx hb dL_law_917 rfl (lv_at hl 0 rfl) ?_
    refine lv_iconst (v := 3) hx hb dL_law_918 (by decide) ?_
    refine lv_iadd hx hb dL_law_919 ?_
    refine lv_topi (fun x12 e12 => ?_)
    obtain rfl : x12 = 3 := e12.trans (by decide)
    refine va_sld hx hb hX hbl hbA hS (vin (by decide) (by decide)) dL_law_920 ?_
    refine lv_topi (fun y13 e13 => ?_)
    obtain rfl : y13 = xs 3 := e13
    refine mx_i (wr := []) (va_runV (As := [.int (xs 1), .int (xs 2), .int (xs 3)]) (rest := [.int 800]) ⟨hx, hb, hml, hown, hts⟩ (c_X8_week l dC dI cI cZ cK tS aK aV qn (v 0) (v 1) (v 2) (v 3) (v 4) (v 5) (v 6) (v 7) (v 8) (v 9) (v 10) (v 11) (v 12) (v 13) (v 14) (v 15) (v 16) (v 17) (v 18) (v 19) (v 20) (v 21) (xs 1) (xs 2) (xs 3) H.size) (cwV 3 hts (gw_v (fun _ h9 => h9) wm_757 wm_758 wm_759 wm_385 wm_760) rfl rfl rfl (by decide +kernel) ⟨Nat.le_of_ble_eq_true rfl, Nat.le_of_ble_eq_true rfl⟩) (mx_preV (C := RX8) (T := TX8) (N := 53) (ci := 8) hKx hP hD hS hA [0] (by decide) rfl rfl rfl) rfl rfl hl.1 rfl (lv_room (Nat.le_of_ble_eq_true rfl)) dL_law_921 ⟨Nat.le_of_ble_eq_true rfl, Nat.le_of_ble_eq_true rfl⟩) hP hD hS hA [0] [] rfl rfl (by decide) (by decide) (fun r14 u14 H locs hq14 hP hD hS => ?_)
    replace hP : va_P (dC, dI) vwCl [] H := hP
    replace hD : va_D (fun q : Nat => s.heap.size ≤ q) [] := hD
    rcases hq14 with ⟨rfl, hf14⟩ | ⟨rfl, hf14⟩ | ⟨rfl, hf14⟩
    · have hf14 : 0 ≤ (xs 1).toInt ∧ (xs 1).toInt ≤ 9999 ∧ 1 ≤ (xs 2).toInt ∧ (xs 2).toInt ≤ 50 ∧ (xs 3).toInt = 0 := hf14
      refine lv_icmp_eq (tgt := 998) hx hb dL_law_924 (by decide) (fun c15 => ?_) (fun c15 => absurd c15 (by decide))
      refine lv_iinc (v := 5) (lv' := [(3, .int 5), (2, .ref qn), (1, .ref qx), (0, .ref b)]) hx hb dL_law_998 hl (k := 0) rfl (by decide) (by decide) rfl (fun ls hl => ?_)
      refine lv_goto (tgt := 18) hx hb dL_law_1001 (by decide) ?_
      refine lv_iload_n hx hb dL_law_18 rfl (lv_at hl 0 rfl) ?_
      refine lv_aload_n hx hb dL_law_19 rfl (lv_at hl 3 rfl) ?_
      refine va_slen hx hb hX hbl hbA hS dL_law_20 ?_
      refine lv_topi (fun x16 e16 => ?_)
      obtain rfl : x16 = 5 := e16.trans (by decide)
      refine lv_iconst (v := 5) hx hb dL_law_21 (by decide) ?_
      refine lv_isub hx hb dL_law_22 ?_
      refine lv_topi (fun x17 e17 => ?_)
      obtain rfl : x17 = 0 := e17.trans (by decide)
      refine lv_icmp_gt (tgt := 1004) hx hb dL_law_23 (by decide) (fun c18 => ?_) (fun c18 => absurd c18 (by decide))
      refine lv_iconst (v := 1) hx hb dL_law_1004 (by decide) ?_
      refine va_forget (fun q hq => hS.2.2 q hq) ?_
      refine W.widen (k := 600000) (n := 7302250) (Nat.le_of_ble_eq_true rfl) (Nat.le_of_ble_eq_true rfl) ?_
      exact lw_ret hx hb hr hlocks dL_law_1005
    · have hf14 : 0 ≤ (xs 1).toInt ∧ (xs 1).toInt ≤ 9999 ∧ 1 ≤ (xs 2).toInt ∧ (xs 2).toInt ≤ 50 ∧ 1 ≤ (xs 3).toInt ∧ (xs 3).toInt ≤ 2 := hf14
      refine lv_icmp_eq (tgt := 998) hx hb dL_law_924 (by decide) (fun c19 => absurd c19 (by decide)) (fun c19 => ?_)
      refine lv_iconst (v := 0) hx hb dL_law_927 (by decide) ?_
      exfalso; omega
    · have hf14 : (xs 1).toInt < 0 ∨ 9999 < (xs 1).toInt ∨ (xs 2).toInt < 1 ∨ 50 < (xs 2).toInt ∨ (xs 3).toInt < 0 ∨ 2 < (xs 3).toInt := hf14
      refine lv_icmp_eq (tgt := 998) hx hb dL_law_924 (by decide) (fun c20 => absurd c20 (by decide)) (fun c20 => ?_)
      refine lv_iconst (v := 0) hx hb dL_law_927 (by decide) ?_
      exfalso; omega
  · have hf7 : 0 ≤ (xs 1).toInt ∧ (xs 1).toInt ≤ 9999 ∧ 1 ≤ (xs 2).toInt ∧ (xs 2).toInt ≤ 50 ∧ 1 ≤ (xs 3).toInt ∧ (xs 3).toInt ≤ 2 := hf7
    refine lv_aload_n hx hb dL_law_905 rfl (lv_at hl 1 rfl) ?_
    refine lv_aload_n hx hb dL_law_906 rfl (lv_at hl 3 rfl) ?_
    refine lv_iload_n hx hb dL_law_907 rfl (lv_at hl 0 rfl) ?_
    refine lv_iconst (v := 1) hx hb dL_law_908 (by decide) ?_
    refine lv_iadd hx hb dL_law_909 ?_
    refine lv_topi (fun x21 e21 => ?_)
    obtain rfl : x21 = 1 := e21.trans (by decide)
    refine va_sld hx hb hX hbl hbA hS (vin (by decide) (by decide)) dL_law_910 ?_
    refine lv_topi (fun y22 e22 => ?_)
    obtain rfl : y22 = xs 1 := e22
    refine lv_aload_n hx hb dL_law_911 rfl (lv_at hl 3 rfl) ?_
    refine lv_iload_n hx hb dL_law_912 rfl (lv_at hl 0 rfl) ?_
    refine lv_iconst (v := 2) hx hb dL_law_913 (by decide) ?_
    refine lv_iadd hx hb dL_law_914 ?_
    refine lv_topi (fun x23 e23 => ?_)
    obtain rfl : x23 = 2 := e23.trans (by decide)
    refine va_sld hx hb hX hbl hbA hS (vin (by decide) (by decide)) dL_law_915 ?_
    refine lv_topi (fun y24 e24 => ?_)
    obtain rfl : y24 = xs 2 := e24
    refine lv_aload_n hx hb dL_law_916 rfl (lv_at hl 3 rfl) ?_
    refine lv_iload_n hx hb dL_law_917 rfl (lv_at hl 0 rfl) ?_
    refine lv_iconst (v := 3) hx hb dL_law_918 (by decide) ?_
    refine lv_iadd hx hb dL_law_919 ?_
    refine lv_topi (fun x25 e25 => ?_)
    obtain rfl : x25 = 3 := e25.trans (by decide)
    refine va_sld hx hb hX hbl hbA hS (vin (by decide) (by decide)) dL_law_920 ?_
    refine lv_topi (fun y26 e26 => ?_)
    obtain rfl : y26 = xs 3 := e26
    refine mx_i (wr := []) (va_runV (As := [.int (xs 1), .int (xs 2), .int (xs 3)]) (rest := [.int 0]) ⟨hx, hb, hml, hown, hts⟩ (c_X8_week l dC dI cI cZ cK tS aK aV qn (v 0) (v 1) (v 2) (v 3) (v 4) (v 5) (v 6) (v 7) (v 8) (v 9) (v 10) (v 11) (v 12) (v 13) (v 14) (v 15) (v 16) (v 17) (v 18) (v 19) (v 20) (v 21) (xs 1) (xs 2) (xs 3) H.size) (cwV 3 hts (gw_v (fun _ h9 => h9) wm_757 wm_758 wm_759 wm_385 wm_760) rfl rfl rfl (by decide +kernel) ⟨Nat.le_of_ble_eq_true rfl, Nat.le_of_ble_eq_true rfl⟩) (mx_preV (C := RX8) (T := TX8) (N := 53) (ci := 8) hKx hP hD hS hA [0] (by decide) rfl rfl rfl) rfl rfl hl.1 rfl (lv_room (Nat.le_of_ble_eq_true rfl)) dL_law_921 ⟨Nat.le_of_ble_eq_true rfl, Nat.le_of_ble_eq_true rfl⟩) hP hD hS hA [0] [] rfl rfl (by decide) (by decide) (fun r27 u27 H locs hq27 hP hD hS => ?_)
    replace hP : va_P (dC, dI) vwCl [] H := hP
    replace hD : va_D (fun q : Nat => s.heap.size ≤ q) [] := hD
    rcases hq27 with ⟨rfl, hf27⟩ | ⟨rfl, hf27⟩ | ⟨rfl, hf27⟩
    · have hf27 : 0 ≤ (xs 1).toInt ∧ (xs 1).toInt ≤ 9999 ∧ 1 ≤ (xs 2).toInt ∧ (xs 2).toInt ≤ 50 ∧ (xs 3).toInt = 0 := hf27
      refine lv_icmp_eq (tgt := 998) hx hb dL_law_924 (by decide) (fun c28 => absurd c28 (by decide)) (fun c28 => ?_)
      refine lv_iconst (v := 0) hx hb dL_law_927 (by decide) ?_
      exfalso; omega
    · have hf27 : 0 ≤ (xs 1).toInt ∧ (xs 1).toInt ≤ 9999 ∧ 1 ≤ (xs 2).toInt ∧ (xs 2).toInt ≤ 50 ∧ 1 ≤ (xs 3).toInt ∧ (xs 3).toInt ≤ 2 := hf27
      refine lv_icmp_eq (tgt := 998) hx hb dL_law_924 (by decide) (fun c29 => ?_) (fun c29 => absurd c29 (by decide))
      refine lv_iinc (v := 5) (lv' := [(3, .int 5), (2, .ref qn), (1, .ref qx), (0, .ref b)]) hx hb dL_law_998 hl (k := 0) rfl (by decide) (by decide) rfl (fun ls hl => ?_)
      refine lv_goto (tgt := 18) hx hb dL_law_1001 (by decide) ?_
      refine lv_iload_n hx hb dL_law_18 rfl (lv_at hl 0 rfl) ?_
      refine lv_aload_n hx hb dL_law_19 rfl (lv_at hl 3 rfl) ?_
      refine va_slen hx hb hX hbl hbA hS dL_law_20 ?_
      refine lv_topi (fun x30 e30 => ?_)
      obtain rfl : x30 = 5 := e30.trans (by decide)
      refine lv_iconst (v := 5) hx hb dL_law_21 (by decide) ?_
      refine lv_isub hx hb dL_law_22 ?_
      refine lv_topi (fun x31 e31 => ?_)
      obtain rfl : x31 = 0 := e31.trans (by decide)
      refine lv_icmp_gt (tgt := 1004) hx hb dL_law_23 (by decide) (fun c32 => ?_) (fun c32 => absurd c32 (by decide))
      refine lv_iconst (v := 1) hx hb dL_law_1004 (by decide) ?_
      refine va_forget (fun q hq => hS.2.2 q hq) ?_
      refine W.widen (k := 600000) (n := 7302250) (Nat.le_of_ble_eq_true rfl) (Nat.le_of_ble_eq_true rfl) ?_
      exact lw_ret hx hb hr hlocks dL_law_1005
    · have hf27 : (xs 1).toInt < 0 ∨ 9999 < (xs 1).toInt ∨ (xs 2).toInt < 1 ∨ 50 < (xs 2).toInt ∨ (xs 3).toInt < 0 ∨ 2 < (xs 3).toInt := hf27
      refine lv_icmp_eq (tgt := 998) hx hb dL_law_924 (by decide) (fun c33 => absurd c33 (by decide)) (fun c33 => ?_)
      refine lv_iconst (v := 0) hx hb dL_law_927 (by decide) ?_
      exfalso; omega
  · have hf7 : (xs 1).toInt < 0 ∨ 9999 < (xs 1).toInt ∨ (xs 2).toInt < 1 ∨ 50 < (xs 2).toInt ∨ (xs 3).toInt < 0 ∨ 2 < (xs 3).toInt := hf7
    refine lv_aload_n hx hb dL_law_905 rfl (lv_at hl 1 rfl) ?_
    refine lv_aload_n hx hb dL_law_906 rfl (lv_at hl 3 rfl) ?_
    refine lv_iload_n hx hb dL_law_907 rfl (lv_at hl 0 rfl) ?_
    refine lv_iconst (v := 1) hx hb dL_law_908 (by decide) ?_
    refine lv_iadd hx hb dL_law_909 ?_
    refine lv_topi (fun x34 e34 => ?_)
    obtain rfl : x34 = 1 := e34.trans (by decide)
    refine va_sld hx hb hX hbl hbA hS (vin (by decide) (by decide)) dL_law_910 ?_
    refine lv_topi (fun y35 e35 => ?_)
    obtain rfl : y35 = xs 1 := e35
    refine lv_aload_n hx hb dL_law_911 rfl (lv_at hl 3 rfl) ?_
    refine lv_iload_n hx hb dL_law_912 rfl (lv_at hl 0 rfl) ?_
    refine lv_iconst (v := 2) hx hb dL_law_913 (by decide) ?_
    refine lv_iadd hx hb dL_law_914 ?_
    refine lv_topi (fun x36 e36 => ?_)
    obtain rfl : x36 = 2 := e36.trans (by decide)
    refine va_sld hx hb hX hbl hbA hS (vin (by decide) (by decide)) dL_law_915 ?_
    refine lv_topi (fun y37 e37 => ?_)
    obtain rfl : y37 = xs 2 := e37
    refine lv_aload_n hx hb dL_law_916 rfl (lv_at hl 3 rfl) ?_
    refine lv_iload_n hx hb dL_law_917 rfl (lv_at hl 0 rfl) ?_
    refine lv_iconst (v := 3) hx hb dL_law_918 (by decide) ?_
    refine lv_iadd hx hb dL_law_919 ?_
    refine lv_topi (fun x38 e38 => ?_)
    obtain rfl : x38 = 3 := e38.trans (by decide)
    refine va_sld hx hb hX hbl hbA hS (vin (by decide) (by decide)) dL_law_920 ?_
    refine lv_topi (fun y39 e39 => ?_)
    obtain rfl : y39 = xs 3 := e39
    refine mx_i (wr := []) (va_runV (As := [.int (xs 1), .int (xs 2), .int (xs 3)]) (rest := [.int (-2)]) ⟨hx, hb, hml, hown, hts⟩ (c_X8_week l dC dI cI cZ cK tS aK aV qn (v 0) (v 1) (v 2) (v 3) (v 4) (v 5) (v 6) (v 7) (v 8) (v 9) (v 10) (v 11) (v 12) (v 13) (v 14) (v 15) (v 16) (v 17) (v 18) (v 19) (v 20) (v 21) (xs 1) (xs 2) (xs 3) H.size) (cwV 3 hts (gw_v (fun _ h9 => h9) wm_757 wm_758 wm_759 wm_385 wm_760) rfl rfl rfl (by decide +kernel) ⟨Nat.le_of_ble_eq_true rfl, Nat.le_of_ble_eq_true rfl⟩) (mx_preV (C := RX8) (T := TX8) (N := 53) (ci := 8) hKx hP hD hS hA [0] (by decide) rfl rfl rfl) rfl rfl hl.1 rfl (lv_room (Nat.le_of_ble_eq_true rfl)) dL_law_921 ⟨Nat.le_of_ble_eq_true rfl, Nat.le_of_ble_eq_true rfl⟩) hP hD hS hA [0] [] rfl rfl (by decide) (by decide) (fun r40 u40 H locs hq40 hP hD hS => ?_)
    replace hP : va_P (dC, dI) vwCl [] H := hP
    replace hD : va_D (fun q : Nat => s.heap.size ≤ q) [] := hD
    rcases hq40 with ⟨rfl, hf40⟩ | ⟨rfl, hf40⟩ | ⟨rfl, hf40⟩
    · have hf40 : 0 ≤ (xs 1).toInt ∧ (xs 1).toInt ≤ 9999 ∧ 1 ≤ (xs 2).toInt ∧ (xs 2).toInt ≤ 50 ∧ (xs 3).toInt = 0 := hf40
      refine lv_icmp_eq (tgt := 998) hx hb dL_law_924 (by decide) (fun c41 => absurd c41 (by decide)) (fun c41 => ?_)
      refine lv_iconst (v := 0) hx hb dL_law_927 (by decide) ?_
      exfalso; omega
    · have hf40 : 0 ≤ (xs 1).toInt ∧ (xs 1).toInt ≤ 9999 ∧ 1 ≤ (xs 2).toInt ∧ (xs 2).toInt ≤ 50 ∧ 1 ≤ (xs 3).toInt ∧ (xs 3).toInt ≤ 2 := hf40
      refine lv_icmp_eq (tgt := 998) hx hb dL_law_924 (by decide) (fun c42 => absurd c42 (by decide)) (fun c42 => ?_)
      refine lv_iconst (v := 0) hx hb dL_law_927 (by decide) ?_
      exfalso; omega
    · have hf40 : (xs 1).toInt < 0 ∨ 9999 < (xs 1).toInt ∨ (xs 2).toInt < 1 ∨ 50 < (xs 2).toInt ∨ (xs 3).toInt < 0 ∨ 2 < (xs 3).toInt := hf40
      refine lv_icmp_eq (tgt := 998) hx hb dL_law_924 (by decide) (fun c43 => ?_) (fun c43 => absurd c43 (by decide))
      refine lv_iinc (v := 5) (lv' := [(3, .int 5), (2, .ref qn), (1, .ref qx), (0, .ref b)]) hx hb dL_law_998 hl (k := 0) rfl (by decide) (by decide) rfl (fun ls hl => ?_)
      refine lv_goto (tgt := 18) hx hb dL_law_1001 (by decide) ?_
      refine lv_iload_n hx hb dL_law_18 rfl (lv_at hl 0 rfl) ?_
      refine lv_aload_n hx hb dL_law_19 rfl (lv_at hl 3 rfl) ?_
      refine va_slen hx hb hX hbl hbA hS dL_law_20 ?_
      refine lv_topi (fun x44 e44 => ?_)
      obtain rfl : x44 = 5 := e44.trans (by decide)
      refine lv_iconst (v := 5) hx hb dL_law_21 (by decide) ?_
      refine lv_isub hx hb dL_law_22 ?_
      refine lv_topi (fun x45 e45 => ?_)
      obtain rfl : x45 = 0 := e45.trans (by decide)
      refine lv_icmp_gt (tgt := 1004) hx hb dL_law_23 (by decide) (fun c46 => ?_) (fun c46 => absurd c46 (by decide))
      refine lv_iconst (v := 1) hx hb dL_law_1004 (by decide) ?_
      refine va_forget (fun q hq => hS.2.2 q hq) ?_
      refine W.widen (k := 600000) (n := 7302250) (Nat.le_of_ble_eq_true rfl) (Nat.le_of_ble_eq_true rfl) ?_
      exact lw_ret hx hb hr hlocks dL_law_1005
