/-- every contract here has the same words: all that the law has; its own code first -/
abbrev wq (y : MethodName) (cc : ByteArray) (maxL : Nat) (ret : Option FieldType) : List Cond := Cond.code y cc maxL ret :: wsL_law
theorem gw_in {Ts ws : List Cond} (hT : ∀ w ∈ wsL_law, w ∈ Ts) (h : ∀ w ∈ ws, w ∈ wsL_law) : GoodIn Ts ws := fun w hw => ⟨hT w (h w hw), (wl_all w (h w hw)).2⟩
theorem gw_i {Ts : List Cond} {y : MethodName} {cc : ByteArray} {maxL : Nat} {ret : Option FieldType} (hT : ∀ w ∈ wsL_law, w ∈ Ts) (h5 : Cond.code y cc maxL ret ∈ wsL_law) : GoodIn Ts (wq y cc maxL ret) :=
  gw_in hT (fun w hw => (List.mem_cons.mp hw).elim (fun e => e ▸ h5) id)
theorem gw_v {Ts : List Cond} {own C : String} {idx : Nat} {y : MethodName} {cc : ByteArray} {maxL : Nat} {ret : Option FieldType} (hT : ∀ w ∈ wsL_law, w ∈ Ts) (h1 : Cond.methodLink own idx y ∈ wsL_law) (h2 : Cond.instanceMethod y ∈ wsL_law) (h3 : Cond.selects C y y ∈ wsL_law) (h4 : Cond.initialized C ∈ wsL_law) (h5 : Cond.code y cc maxL ret ∈ wsL_law) : GoodIn Ts (wsV own idx C y (wq y cc maxL ret)) :=
  gw_in hT (fun w hw => by
    rcases List.mem_append.mp hw with h | h
    · simp only [List.mem_cons, List.not_mem_nil, or_false] at h
      rcases h with rfl | rfl | rfl | rfl
      · exact h1
      · exact h2
      · exact h3
      · exact h4
    · exact (List.mem_cons.mp h).elim (fun e => e ▸ h5) id)
theorem gw_s {Ts : List Cond} {own : String} {idx : Nat} {y : MethodName} {cc : ByteArray} {maxL : Nat} {ret : Option FieldType} (hT : ∀ w ∈ wsL_law, w ∈ Ts) (h1 : Cond.methodLink own idx y ∈ wsL_law) (h2 : Cond.static y ∈ wsL_law) (h4 : Cond.initialized y.cls ∈ wsL_law) (h5 : Cond.code y cc maxL ret ∈ wsL_law) : GoodIn Ts (va_wsS own idx y (wq y cc maxL ret)) :=
  gw_in hT (fun w hw => by
    rcases List.mem_append.mp hw with h | h
    · simp only [List.mem_cons, List.not_mem_nil, or_false] at h
      rcases h with rfl | rfl | rfl
      · exact h1
      · exact h2
      · exact h4
    · exact (List.mem_cons.mp h).elim (fun e => e ▸ h5) id)
/-! what every contract here carries: the classes' numbers, the array classes' numbers, three calls of nest mates, the arrays of OneCan$Camp -/
abbrev limS : Nat → Int32 := fun k => if k = 0 then 4000 else if k = 1 then 60 else if k = 2 then 6 else if k = 3 then 1 else 13
/-- statics and the constant text that are read and never written: apart from what may be written (A) -/
def sx (tS : Nat) (aK aV : Nat → Nat) (A : Nat → Prop) (U : State) (H : Heap) : Prop :=
  va_Z RX7 "SETTING_LIMITS" "[I" (.ref tS) A U H ∧ va_T .int tS 5 (fun j => .int (limS j)) A U H ∧ va_Z "java/lang/String" "COMPACT_STRINGS" "Z" (.int 1) A U H ∧ vk_S 2 [4, 9] [[115, 111, 104, 120], [97, 98, 99, 100, 101, 102, 46, 126, 36]] aK aV A U H
theorem sx_kept {tS : Nat} {aK aV : Nat → Nat} {A : Nat → Prop} {U : State} {H H1 : Heap} (h : sx tS aK aV A U H) (hq : ∀ a : Nat, a < H.size → ¬ A a → H1[a]? = H[a]?) : sx tS aK aV A U H1 :=
  ⟨h.1.kept hq, h.2.1.kept hq, h.2.2.1.kept hq, h.2.2.2.kept hq⟩
theorem sx_narrow {tS : Nat} {aK aV : Nat → Nat} {A B : Nat → Prop} {U : State} {H : Heap} (h : sx tS aK aV A U H) (hq : ∀ q, B q → A q) : sx tS aK aV B U H :=
  ⟨h.1.narrow hq, h.2.1.narrow hq, h.2.2.1.narrow hq, h.2.2.2.narrow hq⟩
theorem sx_moved {tS : Nat} {aK aV : Nat → Nat} {A : Nat → Prop} {u U : State} {H : Heap} (hvm : u.vm.Alike U.vm) (h : sx tS aK aV A u H) : sx tS aK aV A U H :=
  ⟨h.1.moved hvm, h.2.1.moved hvm, h.2.2.1.moved hvm, h.2.2.2.moved hvm⟩
def kx (dC : Nat → ClassId) (dI : Nat → Nat → Nat) (cI cZ cK : ClassId) (tS : Nat) (aK aV : Nat → Nat) (A : Nat → Prop) (U : State) : Prop :=
  va_K (dC, dI) vwCl [(cI, .int), (cZ, .boolean), (cK, .object RX0)] U ∧ va_Nw (.methodLinkNest RX0 56 yX7_isIn RX7) U ∧ va_Nw (.methodLinkNest RX5 100 yX7_isIn RX7) U ∧ va_Nw (.methodLinkNest RX7 18 yX4_init RX7) U ∧ va_AO RX0 U ∧ vk_R RX4 28 "sohx" (aK 0) U ∧ vk_R RX4 39 "abcdef.~$" (aK 1) U ∧ sx tS aK aV A U U.heap
theorem kx_warm {dC : Nat → ClassId} {dI : Nat → Nat → Nat} {cI cZ cK : ClassId} {tS : Nat} {aK aV : Nat → Nat} {A B : Nat → Prop} {s U : State} {H : Heap} {locs : List Loc} (hW : s.WarmedH U.vm) (hU : U.heap = H) (hS : va_S A s.heap H locs) (hB : ∀ q, B q → A q) (h : kx dC dI cI cZ cK tS aK aV A s) : kx dC dI cI cZ cK tS aK aV B U := by
  refine ⟨va_K.moved hW.alike h.1, va_Nw.warmM hW h.2.1, va_Nw.warmM hW h.2.2.1, va_Nw.warmM hW h.2.2.2.1, va_AO.moved hW.alike h.2.2.2.2.1, vk_R.warm hW h.2.2.2.2.2.1, vk_R.warm hW h.2.2.2.2.2.2.1, ?_⟩
  rw [hU]
  exact sx_moved hW.alike (sx_narrow (sx_kept h.2.2.2.2.2.2.2 hS.2.1) hB)
theorem kx_calling {dC : Nat → ClassId} {dI : Nat → Nat → Nat} {cI cZ cK : ClassId} {tS : Nat} {aK aV : Nat → Nat} {A : Nat → Prop} {U : State} {g : JFrame} {mk : MethodId} {a : Array Value} (h : kx dC dI cI cZ cK tS aK aV A U) : kx dC dI cI cZ cK tS aK aV A (U.calling g mk a) :=
  ⟨va_K.moved (u := U) (U := U.calling g mk a) (Vm.Alike.refl U.vm) h.1, va_Nw.same rfl (u := U) (U := U.calling g mk a) rfl h.2.1, va_Nw.same rfl (u := U) (U := U.calling g mk a) rfl h.2.2.1, va_Nw.same rfl (u := U) (U := U.calling g mk a) rfl h.2.2.2.1, va_AO.moved (u := U) (U := U.calling g mk a) (Vm.Alike.refl U.vm) h.2.2.2.2.1, vk_R.same (u := U) (U := U.calling g mk a) rfl h.2.2.2.2.2.1, vk_R.same (u := U) (U := U.calling g mk a) rfl h.2.2.2.2.2.2.1, sx_moved (u := U) (U := U.calling g mk a) (Vm.Alike.refl U.vm) h.2.2.2.2.2.2.2⟩
/-- a method's start: its arguments, its world of cells -/
def px (dC : Nat → ClassId) (dI : Nat → Nat → Nat) (cI cZ cK : ClassId) (tS : Nat) (aK aV : Nat → Nat) (av : List Value) (sz : Nat) (W : va_W) : Array Value → State → Prop :=
  va_Pc av (fun U => U.heap.size = sz ∧ va_P (dC, dI) vwCl W U.heap ∧ kx dC dI cI cZ cK tS aK aV (va_A W sz) U ∧ va_D (fun _ => True) W)
theorem px_blind {dC : Nat → ClassId} {dI : Nat → Nat → Nat} {cI cZ cK : ClassId} {tS : Nat} {aK aV : Nat → Nat} {av : List Value} {sz : Nat} {W : va_W} : FrameBlind (px dC dI cI cZ cK tS aK aV av sz W) := fun a U g mk q => by
  obtain ⟨q0, q1, qP, qK, qD⟩ := q
  exact ⟨q0, q1, qP, kx_calling qK, qD⟩
/-- its end: the cells behind it -/
def bx (dC : Nat → ClassId) (dI : Nat → Nat → Nat) {S : Type} (A : Nat → Prop) (W : S → va_W) : S → State → Prop := fun u t => va_P (dC, dI) vwCl (W u) t.heap ∧ va_D A (W u)
abbrev Ci (l : Launch) (y : MethodName) (ws : List Cond) (rm : Room) (dC : Nat → ClassId) (dI : Nat → Nat → Nat) (cI cZ cK : ClassId) (tS : Nat) (aK aV : Nat → Nat) (av : List Value) (sz : Nat) (W : va_W) {S : Type} (post : Int32 → S → Prop) (W1 : S → va_W) : Prop :=
  Met l y ws rm (px dC dI cI cZ cK tS aK aV av sz W) (va_Qi post (bx dC dI (va_A W sz) W1) (va_A W sz)) rm.cells rm.slots (va_A W sz)
abbrev Cl (l : Launch) (y : MethodName) (ws : List Cond) (rm : Room) (dC : Nat → ClassId) (dI : Nat → Nat → Nat) (cI cZ cK : ClassId) (tS : Nat) (aK aV : Nat → Nat) (av : List Value) (sz : Nat) (W : va_W) {S : Type} (post : Int64 → S → Prop) (W1 : S → va_W) : Prop :=
  Met l y ws rm (px dC dI cI cZ cK tS aK aV av sz W) (va_Ql post (bx dC dI (va_A W sz) W1) (va_A W sz)) rm.cells rm.slots (va_A W sz)
abbrev Cv (l : Launch) (y : MethodName) (ws : List Cond) (rm : Room) (dC : Nat → ClassId) (dI : Nat → Nat → Nat) (cI cZ cK : ClassId) (tS : Nat) (aK aV : Nat → Nat) (av : List Value) (sz : Nat) (W : va_W) {S : Type} (post : S → Prop) (W1 : S → va_W) : Prop :=
  Met l y ws rm (px dC dI cI cZ cK tS aK aV av sz W) (va_Qv post (bx dC dI (va_A W sz) W1) (va_A W sz)) rm.cells rm.slots (va_A W sz)
theorem mx_at {ws wc : va_W} (is : List Nat) (hC : is.map (fun i => ws[i]?) = wc.map some) (k : Nat) (q : Nat × va_E) (h : wc[k]? = some q) : ∃ i, is[k]? = some i ∧ ws[i]? = some q := by
  have h1 : (is.map (fun i => ws[i]?))[k]? = some (some q) := by rw [hC, List.getElem?_map, h]; rfl
  rw [List.getElem?_map] at h1
  cases hi : is[k]? with
  | none => rw [hi] at h1; cases h1
  | some i => rw [hi] at h1; exact ⟨i, rfl, Option.some.inj h1⟩
theorem mx_subP {D : va_G} {cl : List vw_C} {ws wc : va_W} {H : Heap} (hP : va_P D cl ws H) (is : List Nat) (hC : is.map (fun i => ws[i]?) = wc.map some) : va_P D cl wc H := fun k q h => by
  obtain ⟨i, -, h2⟩ := mx_at is hC k q h
  exact hP i q h2
/-- a call's start, out of the caller's world -/
theorem mx_preS {dC : Nat → ClassId} {dI : Nat → Nat → Nat} {cI cZ cK : ClassId} {tS : Nat} {aK aV : Nat → Nat} {s : State} {H : Heap} {locs : List Loc} {A0 : Nat → Prop} {ws0 wc : va_W} {As : List Value} (hK : kx dC dI cI cZ cK tS aK aV A0 s) (hP : va_P (dC, dI) vwCl ws0 H) (hD : va_D A0 ws0) (hS : va_S A0 s.heap H locs) (hA : ∀ q, s.heap.size ≤ q → A0 q) (isC : List Nat) (hn : va_nd isC = true) (hC : isC.map (fun i => ws0[i]?) = wc.map some) : PreS s H (px dC dI cI cZ cK tS aK aV As H.size wc) As :=
  ⟨px_blind, fun U hU hW => ⟨rfl, by rw [hU], by rw [hU]; exact mx_subP hP isC hC, kx_warm hW hU hS (va_free (wc := wc) hD hS hA isC hC) hK, (hD.sub isC hn hC).weaken (fun _ _ _ _ => trivial)⟩⟩
theorem mx_preV {dC : Nat → ClassId} {dI : Nat → Nat → Nat} {cI cZ cK : ClassId} {tS : Nat} {aK aV : Nat → Nat} {s : State} {H : Heap} {locs : List Loc} {A0 : Nat → Prop} {ws0 wc : va_W} {As : List Value} {C : String} {T : u_T} {N b ci : Nat} {fs : List Value} (hK : kx dC dI cI cZ cK tS aK aV A0 s) (hP : va_P (dC, dI) vwCl ws0 H) (hD : va_D A0 ws0) (hS : va_S A0 s.heap H locs) (hA : ∀ q, s.heap.size ≤ q → A0 q) (isC : List Nat) (hn : va_nd isC = true) (hC : isC.map (fun i => ws0[i]?) = wc.map some) (hcl : vwCl[ci]? = some (C, T, N)) (hr : wc[0]? = some (b, .inr (ci, fs))) : PreV s H C b (px dC dI cI cZ cK tS aK aV (.ref b :: As) H.size wc) As :=
  ⟨px_blind, va_recv hK.1 (mx_subP hP isC hC) hcl hr, fun U hU hW => ⟨rfl, by rw [hU], by rw [hU]; exact mx_subP hP isC hC, kx_warm hW hU hS (va_free (wc := wc) hD hS hA isC hC) hK, (hD.sub isC hn hC).weaken (fun _ _ _ _ => trivial)⟩⟩
theorem mx_preK {dC : Nat → ClassId} {dI : Nat → Nat → Nat} {cI cZ cK : ClassId} {tS : Nat} {aK aV : Nat → Nat} {s : State} {H : Heap} {locs : List Loc} {A0 : Nat → Prop} {ws0 : va_W} {As : List Value} (i : Nat) (hi : i < 2) (hK : kx dC dI cI cZ cK tS aK aV A0 s) (hP : va_P (dC, dI) vwCl ws0 H) (hD : va_D A0 ws0) (hS : va_S A0 s.heap H locs) (hA : ∀ q, s.heap.size ≤ q → A0 q) : PreV s H "java/lang/String" (aK i) (px dC dI cI cZ cK tS aK aV (.ref (aK i) :: As) H.size []) As :=
  ⟨px_blind, vk_recv (i := i) hK.2.2.2.2.2.2.2.2.2.2 hi hS, fun U hU hW => ⟨rfl, by rw [hU], by rw [hU]; exact mx_subP hP [] rfl, kx_warm hW hU hS (va_free (wc := []) hD hS hA [] rfl) hK, (hD.sub [] rfl rfl).weaken (fun _ _ _ _ => trivial)⟩⟩
section MX
variable {p : Program} {l : Launch} {e : Env} {R : Room} {s : State} {m : MethodId} {args : Array Value} {below : List Frame} {meth : Method} {c : Code} {H : Heap} {locs : List Loc} {cells slots : Nat} {Q : State → Prop}
variable {pc : Nat} {ls : Array Slot} {rest st0 : List Value} {a : Array Value} {A0 : Nat → Prop} {H0 : Heap} {mc ms : Nat} {dC : Nat → ClassId} {dI : Nat → Nat → Nat} {ws0 wc wr : va_W}
/-- behind a call: the rest of the caller's world, and what the callee says of its own -/
theorem mx_i {S : Type} {post : Int32 → S → Prop} {W1 : S → va_W} (hr : va_Run p l e R s m args below meth c H locs cells slots mc ms (F0 m pc ls st0) rest (va_Qi post (bx dC dI (va_A wc H.size) W1) (va_A wc H.size) a) (va_A wc H.size))
    (hP : va_P (dC, dI) vwCl ws0 H) (hD : va_D A0 ws0) (hS : va_S A0 H0 H locs) (hA : ∀ q, H0.size ≤ q → A0 q) (isC isR : List Nat) (hC : isC.map (fun i => ws0[i]?) = wc.map some) (hR : isR.map (fun i => ws0[i]?) = wr.map some) (hn : va_nd isR = true) (hdis : ∀ i ∈ isR, i ∉ isC)
    (kk : ∀ (r : Int32) (u : S) (H1 : Heap) (locs1 : List Loc), post r u → va_P (dC, dI) vwCl (wr ++ W1 u) H1 → va_D A0 (wr ++ W1 u) → va_S A0 H0 H1 locs1 → W p l e R s m args below meth c H1 locs1 (cells + mc) (slots + ms) Q (F0 m (pc + 3) ls (.int r :: rest))) : W p l e R s m args below meth c H locs cells slots Q (F0 m pc ls st0) := by
  have hF := va_free (wc := wc) hD hS hA isC hC
  refine va_calli hr hS (fun q _ h => hF q h) hF (fun r u t H1 locs1 ht hvm hw hB hz1 hk1 hS1 => ?_)
  obtain ⟨hP1, hD1⟩ := hB
  rw [ht] at hP1
  obtain ⟨hP2, hD2⟩ := va_join (wr := wr) (w1 := W1 u) hP hD isC isR hC hR hn hdis hk1 hF hP1 hD1
  exact kk r u H1 locs1 hw hP2 hD2 hS1
theorem mx_l {S : Type} {post : Int64 → S → Prop} {W1 : S → va_W} (hr : va_Run p l e R s m args below meth c H locs cells slots mc ms (F0 m pc ls st0) rest (va_Ql post (bx dC dI (va_A wc H.size) W1) (va_A wc H.size) a) (va_A wc H.size))
    (hP : va_P (dC, dI) vwCl ws0 H) (hD : va_D A0 ws0) (hS : va_S A0 H0 H locs) (hA : ∀ q, H0.size ≤ q → A0 q) (isC isR : List Nat) (hC : isC.map (fun i => ws0[i]?) = wc.map some) (hR : isR.map (fun i => ws0[i]?) = wr.map some) (hn : va_nd isR = true) (hdis : ∀ i ∈ isR, i ∉ isC)
    (kk : ∀ (r : Int64) (u : S) (H1 : Heap) (locs1 : List Loc), post r u → va_P (dC, dI) vwCl (wr ++ W1 u) H1 → va_D A0 (wr ++ W1 u) → va_S A0 H0 H1 locs1 → W p l e R s m args below meth c H1 locs1 (cells + mc) (slots + ms) Q (F0 m (pc + 3) ls (.long r :: rest))) : W p l e R s m args below meth c H locs cells slots Q (F0 m pc ls st0) := by
  have hF := va_free (wc := wc) hD hS hA isC hC
  refine va_calll hr hS (fun q _ h => hF q h) hF (fun r u t H1 locs1 ht hvm hw hB hz1 hk1 hS1 => ?_)
  obtain ⟨hP1, hD1⟩ := hB
  rw [ht] at hP1
  obtain ⟨hP2, hD2⟩ := va_join (wr := wr) (w1 := W1 u) hP hD isC isR hC hR hn hdis hk1 hF hP1 hD1
  exact kk r u H1 locs1 hw hP2 hD2 hS1
theorem mx_v {S : Type} {post : S → Prop} {W1 : S → va_W} (hr : va_Run p l e R s m args below meth c H locs cells slots mc ms (F0 m pc ls st0) rest (va_Qv post (bx dC dI (va_A wc H.size) W1) (va_A wc H.size) a) (va_A wc H.size))
    (hP : va_P (dC, dI) vwCl ws0 H) (hD : va_D A0 ws0) (hS : va_S A0 H0 H locs) (hA : ∀ q, H0.size ≤ q → A0 q) (isC isR : List Nat) (hC : isC.map (fun i => ws0[i]?) = wc.map some) (hR : isR.map (fun i => ws0[i]?) = wr.map some) (hn : va_nd isR = true) (hdis : ∀ i ∈ isR, i ∉ isC)
    (kk : ∀ (u : S) (H1 : Heap) (locs1 : List Loc), post u → va_P (dC, dI) vwCl (wr ++ W1 u) H1 → va_D A0 (wr ++ W1 u) → va_S A0 H0 H1 locs1 → W p l e R s m args below meth c H1 locs1 (cells + mc) (slots + ms) Q (F0 m (pc + 3) ls rest)) : W p l e R s m args below meth c H locs cells slots Q (F0 m pc ls st0) := by
  have hF := va_free (wc := wc) hD hS hA isC hC
  refine va_callv hr hS (fun q _ h => hF q h) hF (fun u t H1 locs1 ht hvm hw hB hz1 hk1 hS1 => ?_)
  obtain ⟨hP1, hD1⟩ := hB
  rw [ht] at hP1
  obtain ⟨hP2, hD2⟩ := va_join (wr := wr) (w1 := W1 u) hP hD isC isR hC hR hn hdis hk1 hF hP1 hD1
  exact kk u H1 locs1 hw hP2 hD2 hS1
end MX
theorem mx_tys {D : va_G} {cl : List vw_C} {tys : List (ClassId × FieldType)} {U : State} {c1 c2 : ClassId} (h : va_K D cl tys U) {i j : Nat} (hi : tys[i]? = some (c1, .int)) (hj : tys[j]? = some (c2, .int)) : c2 = c1 := by
  have h1 : U.vm.findClass _ = some c1 := (h.2 i _ hi).2
  have h2 : U.vm.findClass _ = some c2 := (h.2 j _ hj).2
  exact Option.some.inj (h2.symm.trans h1)
theorem mx_tysZ {D : va_G} {cl : List vw_C} {tys : List (ClassId × FieldType)} {U : State} {c1 c2 : ClassId} (h : va_K D cl tys U) {i j : Nat} (hi : tys[i]? = some (c1, .boolean)) (hj : tys[j]? = some (c2, .boolean)) : c2 = c1 := by
  have h1 : U.vm.findClass _ = some c1 := (h.2 i _ hi).2
  have h2 : U.vm.findClass _ = some c2 := (h.2 j _ hj).2
  exact Option.some.inj (h2.symm.trans h1)
theorem mx_tysO {D : va_G} {cl : List vw_C} {tys : List (ClassId × FieldType)} {U : State} {C : String} {c1 c2 : ClassId} (h : va_K D cl tys U) {i j : Nat} (hi : tys[i]? = some (c1, .object C)) (hj : tys[j]? = some (c2, .object C)) : c2 = c1 := by
  obtain ⟨-, -, -, -, -, h1⟩ := (h.2 i _ hi).2
  obtain ⟨-, -, -, -, -, h2⟩ := (h.2 j _ hj).2
  exact Option.some.inj (h2.symm.trans h1)
theorem tlt {x y : Int32} (h : x < y) : x.toInt < y.toInt := Int32.lt_iff_toInt_lt.mp h
theorem tle {x y : Int32} (h : x ≤ y) : x.toInt ≤ y.toInt := Int32.le_iff_toInt_le.mp h
theorem tnlt {x y : Int32} (h : ¬ x < y) : y.toInt ≤ x.toInt := by
  rw [Int32.lt_iff_toInt_lt] at h; omega
theorem tnle {x y : Int32} (h : ¬ x ≤ y) : y.toInt < x.toInt := by
  rw [Int32.le_iff_toInt_le] at h; omega
theorem teq {x y : Int32} (h : x = y) : x.toInt = y.toInt := by rw [h]
theorem tne {x y : Int32} (h : ¬ x = y) : x.toInt ≠ y.toInt := fun q => h (Int32.toInt_inj.mp q)
theorem ceq {x y : Int32} (h : x.toInt = y.toInt) : x = y := Int32.toInt_inj.mp h
theorem vin {i : Int32} {n : Nat} (h : 0 ≤ i.toInt) (h2 : i.toInt < (n : Int)) : vp_in i n := vp_in_iff.mpr ⟨h, h2⟩
theorem tadd {x y : Int32} (h1 : -2147483648 ≤ x.toInt + y.toInt) (h2 : x.toInt + y.toInt < 2147483648) : (x + y).toInt = x.toInt + y.toInt := by
  rw [Int32.toInt_add]; exact Int.bmod_eq_of_le (by omega) (by omega)
theorem tsub {x y : Int32} (h1 : -2147483648 ≤ x.toInt - y.toInt) (h2 : x.toInt - y.toInt < 2147483648) : (x - y).toInt = x.toInt - y.toInt := by
  rw [Int32.toInt_sub]; exact Int.bmod_eq_of_le (by omega) (by omega)
theorem tmul {x y : Int32} (h1 : -2147483648 ≤ x.toInt * y.toInt) (h2 : x.toInt * y.toInt < 2147483648) : (x * y).toInt = x.toInt * y.toInt := by
  rw [Int32.toInt_mul]; exact Int.bmod_eq_of_le (by omega) (by omega)
section MXN
variable {p : Program} {l : Launch} {e : Env} {R : Room} {s : State} {m : MethodId} {args : Array Value} {below : List Frame} {meth : Method} {c : Code} {H : Heap} {locs : List Loc} {cells slots : Nat} {Q : State → Prop}
variable {cc : ByteArray} {pc : Nat} {ls : Array Slot} {rest : List Value} {D : va_G} {cl : List vw_C} {A : Nat → Prop} {a : Nat} {tys : List (ClassId × FieldType)} {ws : va_W} {H0 : Heap}
theorem mx_newI (hexec : p.tables.exec = Jvm.exec) (hb : c.code = cc) (harr : (Cond.arrayClass .int).before args s = true) (hK : va_K D cl tys s) (hP : va_P D cl ws H) (hD : va_D A ws) (hS : va_S A H0 H locs) (hA : ∀ q, H0.size ≤ q → A q) (t0 : Nat) {cI : ClassId} (ht : tys[t0]? = some (cI, .int))
    {n : Int32} {N' : Nat} (hn : ¬ n < 0) (hN : n.toNatClampNeg = N') (hbytes : N' * componentBytes .int ≤ 536870912) (hcells : cells + 1 ≤ R.cells) (hslots : slots + N' ≤ R.slots) (hdg : decode cc pc = .ok (.newarray .int, 2))
    (kk : ∀ (q : Nat) (H1 : Heap), va_P D cl (ws ++ [(q, .inl (cI, N', .inl (fun _ => 0)))]) H1 → va_D A (ws ++ [(q, .inl (cI, N', .inl (fun _ => 0)))]) → va_S A H0 H1 locs → W p l e R s m args below meth c H1 locs (cells + 1) (slots + N') Q (F0 m (pc + 2) ls (.ref q :: rest))) : W p l e R s m args below meth c H locs cells slots Q (F0 m pc ls (.int n :: rest)) := by
  refine va_newa (atype := .int) (ty := .int) (a0 := (N', .inl (fun _ => 0))) hexec hb harr rfl hK hP hD hS hA (fun _ => rfl) hn hN hbytes hcells hslots hdg (fun q cA H1 hK1 hP1 hD1 hS1 => ?_)
  have hl0 : t0 < tys.length := (List.getElem?_eq_some_iff.mp ht).1
  have hc : cA = cI := mx_tys (i := t0) (j := tys.length) hK1 (by rw [List.getElem?_append_left hl0]; exact ht) (by simp)
  subst hc
  exact kk q H1 hP1 hD1 hS1
theorem mx_newZ (hexec : p.tables.exec = Jvm.exec) (hb : c.code = cc) (harr : (Cond.arrayClass .boolean).before args s = true) (hK : va_K D cl tys s) (hP : va_P D cl ws H) (hD : va_D A ws) (hS : va_S A H0 H locs) (hA : ∀ q, H0.size ≤ q → A q) (t0 : Nat) {cI : ClassId} (ht : tys[t0]? = some (cI, .boolean))
    {n : Int32} {N' : Nat} (hn : ¬ n < 0) (hN : n.toNatClampNeg = N') (hbytes : N' * componentBytes .boolean ≤ 536870912) (hcells : cells + 1 ≤ R.cells) (hslots : slots + N' ≤ R.slots) (hdg : decode cc pc = .ok (.newarray .boolean, 2))
    (kk : ∀ (q : Nat) (H1 : Heap), va_P D cl (ws ++ [(q, .inl (cI, N', .inl (fun _ => 0)))]) H1 → va_D A (ws ++ [(q, .inl (cI, N', .inl (fun _ => 0)))]) → va_S A H0 H1 locs → W p l e R s m args below meth c H1 locs (cells + 1) (slots + N') Q (F0 m (pc + 2) ls (.ref q :: rest))) : W p l e R s m args below meth c H locs cells slots Q (F0 m pc ls (.int n :: rest)) := by
  refine va_newa (atype := .boolean) (ty := .boolean) (a0 := (N', .inl (fun _ => 0))) hexec hb harr rfl hK hP hD hS hA (fun _ => rfl) hn hN hbytes hcells hslots hdg (fun q cA H1 hK1 hP1 hD1 hS1 => ?_)
  have hl0 : t0 < tys.length := (List.getElem?_eq_some_iff.mp ht).1
  have hc : cA = cI := mx_tysZ (i := t0) (j := tys.length) hK1 (by rw [List.getElem?_append_left hl0]; exact ht) (by simp)
  subst hc
  exact kk q H1 hP1 hD1 hS1
theorem mx_newQ (hexec : p.tables.exec = Jvm.exec) (hb : c.code = cc) {own C : String} {index : Nat} (hown : s.vm.findClass own = some m.cls) (hclink : (Cond.classLink own index C).before args s = true) (hover : va_AO C s) (hK : va_K D cl tys s) (hP : va_P D cl ws H) (hD : va_D A ws) (hS : va_S A H0 H locs) (hA : ∀ q, H0.size ≤ q → A q) (t0 : Nat) {cK : ClassId} (ht : tys[t0]? = some (cK, .object C))
    {n : Int32} {N' : Nat} (hn : ¬ n < 0) (hN : n.toNatClampNeg = N') (hbytes : N' * 4 ≤ 536870912) (hcells : cells + 1 ≤ R.cells) (hslots : slots + N' ≤ R.slots) (hdg : decode cc pc = .ok (.anewarray index, 3))
    (kk : ∀ (q : Nat) (H1 : Heap), va_P D cl (ws ++ [(q, .inl (cK, N', .inr (.inr (.inr (.inr (fun _ => none))))))]) H1 → va_D A (ws ++ [(q, .inl (cK, N', .inr (.inr (.inr (.inr (fun _ => none))))))]) → va_S A H0 H1 locs → W p l e R s m args below meth c H1 locs (cells + 1) (slots + N') Q (F0 m (pc + 3) ls (.ref q :: rest))) : W p l e R s m args below meth c H locs cells slots Q (F0 m pc ls (.int n :: rest)) := by
  refine va_newq hexec hb hown hclink hover hK hP hD hS hA hn hN hbytes hcells hslots hdg (fun q cA H1 hK1 hP1 hD1 hS1 => ?_)
  have hl0 : t0 < tys.length := (List.getElem?_eq_some_iff.mp ht).1
  have hc : cA = cK := mx_tysO (C := C) (i := t0) (j := tys.length) hK1 (by rw [List.getElem?_append_left hl0]; exact ht) (by simp)
  subst hc
  exact kk q H1 hP1 hD1 hS1
end MXN
theorem ltlt {x y : Int64} (h : lg_cmp x y < 0) : x.toInt < y.toInt := by
  unfold lg_cmp at h
  simp only [gt_iff_lt, Int64.lt_iff_toInt_lt, ← Int64.toInt_inj] at h
  split at h
  · exact absurd h (by decide)
  · split at h
    · exact absurd h (by decide)
    · omega
theorem ltnlt {x y : Int64} (h : ¬ lg_cmp x y < 0) : y.toInt ≤ x.toInt := by
  unfold lg_cmp at h
  simp only [gt_iff_lt, Int64.lt_iff_toInt_lt, ← Int64.toInt_inj] at h
  split at h
  · omega
  · split at h
    · omega
    · exact absurd (by decide) h
theorem tinc {x : Int32} {b : Int} (hb : (Int32.ofInt b).toInt = b) (h1 : -2147483648 ≤ x.toInt + b) (h2 : x.toInt + b < 2147483648) : (x + Int32.ofInt b).toInt = x.toInt + b := by
  rw [tadd (by rw [hb]; exact h1) (by rw [hb]; exact h2), hb]
theorem mmin1 {x y : Int32} (h : x.toInt ≤ y.toInt) : (if y < x then y else x) = x := by
  rw [if_neg]; intro h2; have := tlt h2; omega
theorem dg_no {n : Int32} (h0 : n.toInt ≠ 0) (h1 : 0 ≤ n.toInt) (h2 : n.toInt ≤ 999999) : ¬ (((((((n / 10) / 10) / 10) / 10) / 10) - (((((n / 10) / 10) / 10) / 10) / 10) / 10 * 10).toInt ≤ 0 ∧ (((((n / 10) / 10) / 10) / 10) - ((((n / 10) / 10) / 10) / 10) / 10 * 10).toInt ≤ 0 ∧ ((((n / 10) / 10) / 10) - (((n / 10) / 10) / 10) / 10 * 10).toInt ≤ 0 ∧ (((n / 10) / 10) - ((n / 10) / 10) / 10 * 10).toInt ≤ 0 ∧ ((n / 10) - (n / 10) / 10 * 10).toInt ≤ 0 ∧ (n - n / 10 * 10).toInt ≤ 0) := by
  obtain ⟨j, hj, rfl⟩ : ∃ j : Nat, j ≤ 999999 ∧ n = nI j := nI_of2 (M := 999999) (by decide) (fun h => by have := tlt h; have z : (0 : Int32).toInt = 0 := rfl; omega) (Int32.le_iff_toInt_le.mpr (by have z : (999999 : Int32).toInt = 999999 := rfl; omega))
  have e10 : (10 : Int32) = nI 10 := rfl
  rw [e10]
  rw [nI_toInt (by omega)] at h0 h1 h2
  rw [pk_div (by omega) (by decide) (by decide), pk_div (by omega) (by decide) (by decide), pk_div (by omega) (by decide) (by decide), pk_div (by omega) (by decide) (by decide), pk_div (by omega) (by decide) (by decide)]
  have key : ∀ a : Nat, a < 2 ^ 31 → nI a - nI (a / 10) * nI 10 = nI (a % 10) := fun a ha => by
    rw [← pk_div ha (by decide) (by decide)]
    exact pk_rem ha (by decide) (by decide)
  rw [pk_rem (by omega) (by decide) (by decide), key (j / 10 / 10 / 10 / 10) (by omega), key (j / 10 / 10 / 10) (by omega), key (j / 10 / 10) (by omega), key (j / 10) (by omega), key j (by omega)]
  rw [nI_toInt (by omega), nI_toInt (by omega), nI_toInt (by omega), nI_toInt (by omega), nI_toInt (by omega), nI_toInt (by omega)]
  omega
theorem and31 (x : Int32) : 0 ≤ (x &&& 31).toInt ∧ (x &&& 31).toInt ≤ 31 := by
  have h1 : (x &&& 31).toBitVec.toNat ≤ 31 := by
    rw [Int32.toBitVec_and, BitVec.toNat_and]
    exact Nat.and_le_right
  have h2 : (x &&& 31).toInt = ((x &&& 31).toBitVec.toNat : Int) := by
    show (x &&& 31).toBitVec.toInt = _
    rw [BitVec.toInt_eq_toNat_cond]
    rw [if_pos (by omega)]
  omega
theorem st_tys {s : State} {args : Array Value} {ty : FieldType} (h : (Cond.arrayClass ty).before args s = true) (hp : ∀ C, ty ≠ .object C) : ∃ c : ClassId, ArrOfT s c ty ∧ va_RA s c ty := by
  obtain ⟨c, k, comp, h1, h2, h3⟩ := Cond.arrayClass_spec (args := args) (first := s) (o := none) (s := s) (idx := []) h
  refine ⟨c, fun n z => ⟨fun k h => (by cases h), k, h2, comp, h3⟩, ?_⟩
  cases ty with
  | object C => exact absurd rfl (hp C)
  | _ => exact h1
theorem st_tyq {s : State} {args : Array Value} {C : String} (h : (Cond.arrayOver (.object C)).before args s = true) : ∃ c : ClassId, ArrOfT s c (.object C) ∧ va_RA s c (.object C) := by
  obtain ⟨comp, c, k, h1, h2, h3, h4, h5⟩ := Cond.arrayOver_spec (args := args) (first := s) (o := none) (s := s) (idx := []) h
  exact ⟨c, fun n z => ⟨fun k h => (by cases h), k, h3, comp, h4⟩, k, comp, h3, h4, h1, h5⟩
/-- every element of an array lies in a range -/
def rg (f : Nat → Int32) (n : Nat) (lo hi : Int) : Prop := ∀ k, k < n → lo ≤ (f k).toInt ∧ (f k).toInt ≤ hi
theorem rgI {f : Nat → Int32} {n : Nat} {lo hi : Int} (h : rg f n lo hi) {i : Int32} (h0 : 0 ≤ i.toInt) (h1 : i.toInt < (n : Int)) : lo ≤ (f i.toNatClampNeg).toInt ∧ (f i.toNatClampNeg).toInt ≤ hi :=
  h _ (by show i.toInt.toNat < n; omega)
theorem rg_upd {f : Nat → Int32} {n : Nat} {lo hi : Int} (h : rg f n lo hi) {k : Nat} {v : Int32} (h0 : lo ≤ v.toInt) (h1 : v.toInt ≤ hi) : rg (upd f k v) n lo hi := by
  intro j hj
  by_cases hk : j = k
  · subst hk; rw [pk_us]; exact ⟨h0, h1⟩
  · rw [pk_un hk]; exact h j hj
theorem rg_zero {n : Nat} {lo hi : Int} (h0 : lo ≤ 0) (h1 : 0 ≤ hi) : rg (fun _ => 0) n lo hi := fun _ _ => ⟨h0, h1⟩
theorem rg_any {f : Nat → Int32} {n : Nat} : rg f n (-2147483648) 2147483647 := fun k _ => ⟨by have := Int32.minValue_le_toInt (f k); simpa using this, by have := Int32.toInt_lt (f k); omega⟩
theorem mmmin_t {x y : Int32} : (if y < x then y else x).toInt ≤ x.toInt ∧ (if y < x then y else x).toInt ≤ y.toInt ∧ ((if y < x then y else x).toInt = x.toInt ∨ (if y < x then y else x).toInt = y.toInt) := by
  by_cases h : y < x
  · rw [if_pos h]; have := tlt h; omega
  · rw [if_neg h]; have := tnlt h; omega
theorem mmmax_t {x y : Int32} : (if x < y then y else x).toInt ≥ x.toInt ∧ (if x < y then y else x).toInt ≥ y.toInt ∧ ((if x < y then y else x).toInt = x.toInt ∨ (if x < y then y else x).toInt = y.toInt) := by
  by_cases h : x < y
  · rw [if_pos h]; have := tlt h; omega
  · rw [if_neg h]; have := tnlt h; omega
theorem tdivc {x c : Int32} (hx : 0 ≤ x.toInt) (hc : 0 < c.toInt) : (x / c).toInt = x.toInt / c.toInt := by
  obtain ⟨j, hj, rfl⟩ := nI_of (x := x) (fun h => by have := tlt h; have z : (0 : Int32).toInt = 0 := rfl; omega)
  obtain ⟨k, hk, rfl⟩ := nI_of (x := c) (fun h => by have := tlt h; have z : (0 : Int32).toInt = 0 := rfl; omega)
  rw [nI_toInt hk] at hc
  have h1 : j / k ≤ j := Nat.div_le_self j k
  rw [pk_div hj (by omega) hk, nI_toInt hj, nI_toInt hk, nI_toInt (by omega)]
  exact Int.natCast_ediv j k
theorem tremc {x c : Int32} (hx : 0 ≤ x.toInt) (hc : 0 < c.toInt) : (x - x / c * c).toInt = x.toInt % c.toInt := by
  obtain ⟨j, hj, rfl⟩ := nI_of (x := x) (fun h => by have := tlt h; have z : (0 : Int32).toInt = 0 := rfl; omega)
  obtain ⟨k, hk, rfl⟩ := nI_of (x := c) (fun h => by have := tlt h; have z : (0 : Int32).toInt = 0 := rfl; omega)
  rw [nI_toInt hk] at hc
  have h1 : j % k ≤ j := Nat.mod_le j k
  rw [pk_rem hj (by omega) hk, nI_toInt hj, nI_toInt hk, nI_toInt (by omega)]
  exact Int.natCast_emod j k
theorem tb (x : Int32) : -2147483648 ≤ x.toInt ∧ x.toInt ≤ 2147483647 := by
  have h1 : -2 ^ 31 ≤ x.toInt := by first | exact Int32.minValue_le_toInt x | exact Int32.le_toInt x
  have h2 : x.toInt < 2 ^ 31 := Int32.toInt_lt x
  omega
theorem nar_z {v : Int32} (h : v.toInt = 0 ∨ v.toInt = 1) : narrow .boolean (.int v) = .int v := by
  rcases h with h | h
  · have e : v = 0 := ceq h
    subst e; rfl
  · have e : v = 1 := ceq h
    subst e; rfl
/-- as Met.ofW, for a method of a class like java/lang/Math, some of whose other methods are run by an entry -/
theorem mx_ofWF {l : Launch} {y : MethodName} {ws ws' : List Cond} {rm : Room} {Pc : Array Value → State → Prop} {Qc : Array Value → State → Outcome → State → Prop} {mc ms : Nat} {free : Addr → Prop} {cc : ByteArray} {maxL : Nat} {ret : Option FieldType}
    (hy : plainFor y = true) (hw : ws = Cond.code y cc maxL ret :: ws')
    (body : ∀ p e s m args below meth c s₁, BodyLoose p l y (headSpec ws rm) cc maxL ret e s m args below meth c s₁ → c.maxLocals = maxL → Pc args s →
      W p l e (headSpec ws rm).room s m args below meth c s.heap [] 0 0 (MQ below Qc args s mc ms free) (entryFrame m args maxL)) : Met l y ws rm Pc Qc mc ms free := by
  refine MetFree.of_bodySF (code := cc) (maxLocals := maxL) (ret := ret) hy ?_ ?_
  · intro args s m h hn
    obtain ⟨meth, c, h1, h2, h3, h4, h5, h6, -, -⟩ := Cond.code_spec hn (atoms_spec (ws := ws) h _ (by rw [hw]; exact List.mem_cons_self))
    exact ⟨meth, c, h1, h2, h3, h4, h5, h6⟩
  · intro p e s m args below meth c s₁ B hml hP _
    have hh0 : s₁.heap = s.heap := by rw [B.state]; rfl
    obtain ⟨t, a1, o, b1, b2, b3⟩ := body p e s m args below meth c s₁ B hml hP s₁ hh0 (Stand.of_body B)
    exact ⟨t, o, a1, b1, b2, ⟨b3.1, b3.2⟩⟩
theorem lc_val (x y : Int64) : (lg_cmp x y = 1 ∧ y.toInt < x.toInt) ∨ (lg_cmp x y = 0 ∧ x.toInt = y.toInt) ∨ (lg_cmp x y = -1 ∧ x.toInt < y.toInt) := by
  unfold lg_cmp
  simp only [gt_iff_lt, Int64.lt_iff_toInt_lt, ← Int64.toInt_inj]
  by_cases h1 : y.toInt < x.toInt
  · rw [if_pos h1]; exact Or.inl ⟨rfl, h1⟩
  · rw [if_neg h1]
    by_cases h2 : x.toInt = y.toInt
    · rw [if_pos h2]; exact Or.inr (Or.inl ⟨rfl, h2⟩)
    · rw [if_neg h2]; exact Or.inr (Or.inr ⟨rfl, by omega⟩)
theorem lltp {x y : Int64} (h : lg_cmp x y < 0) : x.toInt < y.toInt := by
  rcases lc_val x y with ⟨e, q⟩ | ⟨e, q⟩ | ⟨e, q⟩
  · rw [e] at h; exact absurd h (by decide)
  · rw [e] at h; exact absurd h (by decide)
  · exact q
theorem lltn {x y : Int64} (h : ¬ lg_cmp x y < 0) : y.toInt ≤ x.toInt := by
  rcases lc_val x y with ⟨e, q⟩ | ⟨e, q⟩ | ⟨e, q⟩
  · omega
  · omega
  · rw [e] at h; exact absurd (by decide) h
theorem lgtp {x y : Int64} (h : 0 < lg_cmp x y) : y.toInt < x.toInt := by
  rcases lc_val x y with ⟨e, q⟩ | ⟨e, q⟩ | ⟨e, q⟩
  · exact q
  · rw [e] at h; exact absurd h (by decide)
  · rw [e] at h; exact absurd h (by decide)
theorem lgtn {x y : Int64} (h : ¬ 0 < lg_cmp x y) : x.toInt ≤ y.toInt := by
  rcases lc_val x y with ⟨e, q⟩ | ⟨e, q⟩ | ⟨e, q⟩
  · rw [e] at h; exact absurd (by decide) h
  · omega
  · omega
theorem leqp {x y : Int64} (h : lg_cmp x y = 0) : x.toInt = y.toInt := by
  rcases lc_val x y with ⟨e, q⟩ | ⟨e, q⟩ | ⟨e, q⟩
  · rw [e] at h; exact absurd h (by decide)
  · exact q
  · rw [e] at h; exact absurd h (by decide)
theorem leqn {x y : Int64} (h : ¬ lg_cmp x y = 0) : x.toInt ≠ y.toInt := by
  rcases lc_val x y with ⟨e, q⟩ | ⟨e, q⟩ | ⟨e, q⟩
  · omega
  · exact absurd e h
  · omega
