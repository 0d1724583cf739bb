/-! what the class answers, as functions of its numbers -/
theorem oi1 : Int32.ofInt 1 = 1 := by decide
/-- 1: there is such a meal -/
def hsF (me i : Int32) : Int32 := if (0 ≤ i.toInt ∧ i.toInt ≤ 5) ∧ (me >>> (i &&& 31)) &&& 1 = 1 then 1 else 0
theorem hs_1 {me i : Int32} (h0 : 0 ≤ i.toInt ∧ i.toInt ≤ 5) (h : (me >>> (i &&& 31)) &&& 1 = 1) : (1 : Int32) = hsF me i := by
  unfold hsF; rw [if_pos ⟨h0, h⟩]
theorem hs_a {me i : Int32} (h : i.toInt < 0 ∨ 5 < i.toInt) : (0 : Int32) = hsF me i := by
  unfold hsF; rw [if_neg (fun q => by have := q.1; omega)]
theorem hs_b {me i : Int32} (h : ¬ (me >>> (i &&& 31)) &&& 1 = 1) : (0 : Int32) = hsF me i := by
  unfold hsF; rw [if_neg (fun q => h q.2)]
/-- the wind behind the shield -/
def woF (sh v : Int32) : Int32 := if sh.toInt = 1 then (if v.toInt ≤ 2 then 0 else v - 2) else v
theorem wo_of {sh v r i : Int32} (hv : 0 ≤ v.toInt ∧ v.toInt ≤ 4) (h : i.toInt ≠ 0 ∨ (sh.toInt = 1 ∧ v.toInt ≤ 2 ∧ r.toInt = 0) ∨ (sh.toInt = 1 ∧ 2 < v.toInt ∧ r.toInt = v.toInt - 2) ∨ (sh.toInt ≠ 1 ∧ r.toInt = v.toInt)) : i.toInt ≠ 0 ∨ r = woF sh v := by
  have z0 : (0 : Int32).toInt = 0 := rfl
  have z2 : (2 : Int32).toInt = 2 := rfl
  rcases h with h | ⟨h1, h2, h3⟩ | ⟨h1, h2, h3⟩ | ⟨h1, h2⟩
  · exact Or.inl h
  · refine Or.inr (ceq ?_)
    unfold woF; rw [if_pos h1, if_pos h2]; omega
  · refine Or.inr (ceq ?_)
    unfold woF; rw [if_pos h1, if_neg (by omega), tsub (by omega) (by omega)]; omega
  · refine Or.inr (ceq ?_)
    unfold woF; rw [if_neg h1]; exact h2
def waF (q w : Int32) : Int32 := if w &&& 1 = 0 then 11 * q else 2 * (11 * q)
/-- what a meal costs -/
def tbF (q mi wd w : Int32) : Int32 := waF q w * (if w &&& 4 = 0 then (if w &&& 2 = 0 then 4 + wd else 4 + wd + 1) else (if w &&& 2 = 0 then 4 + wd else 4 + wd + 1) + 1) + (if w &&& 8 = 0 then (if w &&& 4 = 0 then 1 else 2) else 0) * mi
/-- plain -/
def plC (me : Int32) (q m w : Nat → Int32) (sh i d ws : Int32) : Int32 := if hsF me i = 1 ∧ 0 ≤ d.toInt ∧ d.toInt ≤ 13 then (if 0 ≤ ws.toInt ∧ ws.toInt ≤ 15 then tbF (q i.toNatClampNeg) (m i.toNatClampNeg) (woF sh (w d.toNatClampNeg)) ws else -2) else -1
theorem hs_n {a : Int32} {P : Prop} {d : Int32} (h : a = 0 ∨ d.toInt < 0 ∨ 13 < d.toInt) : ¬ (a = 1 ∧ 0 ≤ d.toInt ∧ d.toInt ≤ 13) := fun q => by
  rcases h with h | h
  · have := q.1; rw [h] at this; exact absurd this (by decide)
  · omega
theorem plC_1 {me : Int32} {q m w : Nat → Int32} {sh i d ws : Int32} (h : hsF me i = 0 ∨ d.toInt < 0 ∨ 13 < d.toInt) : (-1 : Int32) = plC me q m w sh i d ws := by
  unfold plC; rw [if_neg (hs_n (P := True) h)]
theorem plC_2 {me : Int32} {q m w : Nat → Int32} {sh i d ws : Int32} (h : hsF me i = 1) (hd : 0 ≤ d.toInt ∧ d.toInt ≤ 13) (hw : ws.toInt < 0 ∨ 15 < ws.toInt) : (-2 : Int32) = plC me q m w sh i d ws := by
  unfold plC; rw [if_pos ⟨h, hd⟩, if_neg (by omega)]
theorem plC_3 {me r : Int32} {q m w : Nat → Int32} {sh i d ws : Int32} (h : hsF me i = 1) (hd : 0 ≤ d.toInt ∧ d.toInt ≤ 13) (hw : 0 ≤ ws.toInt ∧ ws.toInt ≤ 15) (hr : r = tbF (q i.toNatClampNeg) (m i.toNatClampNeg) (woF sh (w d.toNatClampNeg)) ws) : r = plC me q m w sh i d ws := by
  unfold plC; rw [if_pos ⟨h, hd⟩, if_pos hw]; exact hr
/-! sums -/
def smF (f : Nat → Int32) (a : Nat) : Nat → Int32
  | 0 => 0
  | n + 1 => smF f a n + f (a + n)
theorem sm_0 {f : Nat → Int32} {a n : Nat} (h : n = 0) : (0 : Int32) = smF f a n := by subst h; rfl
theorem sm_s {f : Nat → Int32} {a n m k : Nat} {s r s2 : Int32} (h : s = smF f a n) (e : s2 = s + r) (hr : r = f k) (hk : a + n = k) (hm : m = n + 1) : s2 = smF f a m := by
  subst hm; subst hk; rw [e, hr, h]; rfl
theorem sm_n {f : Nat → Int32} {a n m k : Nat} {s : Int32} (h : s = smF f a n) (hr : f k = 0) (hk : a + n = k) (hm : m = n + 1) : s = smF f a m :=
  sm_s (r := 0) h (by simp) hr.symm hk hm
theorem sm_c {f g : Nat → Int32} {a : Nat} : ∀ n, (∀ k, a ≤ k → k < a + n → f k = g k) → smF f a n = smF g a n
  | 0, _ => rfl
  | n + 1, h => by
    show smF f a n + f (a + n) = smF g a n + g (a + n)
    rw [sm_c n (fun k h1 h2 => h k h1 (by omega)), h (a + n) (by omega) (by omega)]
/-- keep -/
def kpC (me : Int32) (q m w : Nat → Int32) (sh i d : Int32) : Int32 := if hsF me i = 1 ∧ 0 ≤ d.toInt ∧ d.toInt ≤ 13 then smF (fun d9 => tbF (q i.toNatClampNeg) (m i.toNatClampNeg) (woF sh (w d9)) 1) (d.toInt.toNat + 1) (13 - d.toInt.toNat) else -1
theorem kpC_1 {me : Int32} {q m w : Nat → Int32} {sh i d : Int32} (h : hsF me i = 0 ∨ d.toInt < 0 ∨ 13 < d.toInt) : (-1 : Int32) = kpC me q m w sh i d := by
  unfold kpC; rw [if_neg (hs_n (P := True) h)]
theorem kpC_3 {me r : Int32} {q m w : Nat → Int32} {sh i d : Int32} {n : Nat} (h : hsF me i = 1) (hd : 0 ≤ d.toInt ∧ d.toInt ≤ 13) (hr : r = smF (fun d9 => tbF (q i.toNatClampNeg) (m i.toNatClampNeg) (woF sh (w d9)) 1) (d.toInt.toNat + 1) n) (hn : n = 13 - d.toInt.toNat) : r = kpC me q m w sh i d := by
  subst hn; unfold kpC; rw [if_pos ⟨h, hd⟩]; exact hr
/-! portions -/
def dvN (n : Int) : Nat → Int
  | 0 => n
  | k + 1 => dvN n k / 10
def dgP (n : Int) (f : Nat → Int32) : Prop := ∀ j : Nat, j < 6 → (f j).toInt = dvN n (5 - j) % 10
theorem dg_mk {n : Int} {f : Nat → Int32} (h0 : (f 0).toInt = n / 10 / 10 / 10 / 10 / 10 % 10) (h1 : (f 1).toInt = n / 10 / 10 / 10 / 10 % 10) (h2 : (f 2).toInt = n / 10 / 10 / 10 % 10) (h3 : (f 3).toInt = n / 10 / 10 % 10) (h4 : (f 4).toInt = n / 10 % 10) (h5 : (f 5).toInt = n % 10) : dgP n f := by
  intro j hj
  rcases (show j = 0 ∨ j = 1 ∨ j = 2 ∨ j = 3 ∨ j = 4 ∨ j = 5 by omega) with rfl | rfl | rfl | rfl | rfl | rfl
  · exact h0
  · exact h1
  · exact h2
  · exact h3
  · exact h4
  · exact h5
theorem dg_eq {n : Int} {f g : Nat → Int32} (h : dgP n f) (k : dgP n g) : eqN 6 f g := fun j hj => ceq ((h j hj).trans (k j hj).symm)
/-- of all portions there are the meals -/
def alP (me : Int32) (f : Nat → Int32) : Prop := ∀ j : Int32, 0 ≤ j.toInt → j.toInt ≤ 5 → (f j.toNatClampNeg).toInt ≠ 0 → hsF me j = 1
def alR (me : Int32) (f : Nat → Int32) (k : Int32) : Prop := ∀ j : Int32, 0 ≤ j.toInt → j.toInt < k.toInt → (f j.toNatClampNeg).toInt ≠ 0 → hsF me j = 1
theorem alR_0 {me : Int32} {f : Nat → Int32} {k : Int32} (h : k.toInt = 0) : alR me f k := fun j h0 h1 => by exfalso; omega
theorem alR_s {me : Int32} {f : Nat → Int32} {k k2 : Int32} (h : alR me f k) (e : k2.toInt = k.toInt + 1) (hv : (f k.toNatClampNeg).toInt = 0 ∨ hsF me k = 1) : alR me f k2 := by
  intro j h0 h1 h2
  by_cases q : j.toInt = k.toInt
  · have e2 : j = k := ceq q
    subst e2
    rcases hv with hv | hv
    · exact absurd hv h2
    · exact hv
  · exact h j h0 (by omega) h2
theorem alR_e {me : Int32} {f : Nat → Int32} {k : Int32} (h : alR me f k) (e : k.toInt = 6) : alP me f := fun j h0 h1 h2 => h j h0 (by omega) h2
theorem al_no {me : Int32} {f : Nat → Int32} {k : Int32} (h0 : 0 ≤ k.toInt) (h5 : k.toInt ≤ 5) (hv : (f k.toNatClampNeg).toInt ≠ 0) (h : hsF me k = 0) : ¬ alP me f := fun q => by
  have := q k h0 h5 hv
  rw [h] at this
  exact absurd this (by decide)
theorem al_eq {me : Int32} {f g : Nat → Int32} (e : eqN 6 f g) (h : alP me f) : alP me g := fun j h0 h5 hv => h j h0 h5 (by rw [e.at h0 (by omega)]; exact hv)
/-- from the highest on -/
def alQ (me : Int32) (f : Nat → Int32) (k : Int32) : Prop := ∀ j : Int32, k.toInt < j.toInt → j.toInt ≤ 5 → (f j.toNatClampNeg).toInt ≠ 0 → hsF me j = 1
theorem alQ_0 {me : Int32} {f : Nat → Int32} {k : Int32} (h : k.toInt = 5) : alQ me f k := fun j h0 h1 => by exfalso; omega
theorem nn9 {j k : Int32} (h : k.toInt < j.toInt) (h0 : 0 ≤ k.toInt) : j.toNatClampNeg ≠ k.toNatClampNeg := by
  show j.toInt.toNat ≠ k.toInt.toNat
  omega
theorem alQ_s {me v : Int32} {f : Nat → Int32} {k k2 : Int32} (h : alQ me f k) (h0 : 0 ≤ k.toInt) (e : k2.toInt = k.toInt - 1) (hv : v.toInt = 0 ∨ hsF me k = 1) : alQ me (upd f k.toNatClampNeg v) k2 := by
  intro j h1 h2 h3
  by_cases q : j.toInt = k.toInt
  · have e2 : j = k := ceq q
    subst e2
    rw [pk_us] at h3
    rcases hv with hv | hv
    · exact absurd hv h3
    · exact hv
  · rw [pk_un (nn9 (by omega) h0)] at h3
    exact h j (by omega) h2 h3
theorem alQ_b {me v : Int32} {f : Nat → Int32} {k k2 : Int32} (h : ¬ alQ me f k) (h0 : 0 ≤ k.toInt) (e : k2.toInt = k.toInt - 1) : ¬ alQ me (upd f k.toNatClampNeg v) k2 := fun q => h (fun j h1 h2 h3 => q j (by omega) h2 (by rw [pk_un (nn9 h1 h0)]; exact h3))
theorem alQ_n {me v : Int32} {f : Nat → Int32} {k k2 : Int32} (h0 : 0 ≤ k.toInt) (h5 : k.toInt ≤ 5) (e : k2.toInt = k.toInt - 1) (hv : v.toInt ≠ 0) (h : hsF me k = 0) : ¬ alQ me (upd f k.toNatClampNeg v) k2 := fun q => by
  have := q k (by omega) h5 (by rw [pk_us]; exact hv)
  rw [h] at this
  exact absurd this (by decide)
theorem alQ_e {me : Int32} {f : Nat → Int32} {k : Int32} (e : k.toInt = -1) : alQ me f k ↔ alP me f := ⟨fun h j h0 h1 h2 => h j (by omega) h1 h2, fun h j h0 h1 h2 => h j (by omega) h1 h2⟩
/-- pots for portions of a meal -/
def ptC (p q : Int32) : Int32 := (p + 4 / (if q < 1 then 1 else q) - 1) / (if 4 / (if q < 1 then 1 else q) < 1 then 1 else 4 / (if q < 1 then 1 else q))
def shC (p q mi wd : Int32) : Int32 := if p.toInt ≤ 0 then 0 else tbF q mi wd 8 * p + ptC p q * mi
theorem shC_0 {p q mi wd : Int32} (h : p.toInt ≤ 0) : shC p q mi wd = 0 := if_pos h
theorem shC_1 {p q mi wd : Int32} (h : 0 < p.toInt) : shC p q mi wd = tbF q mi wd 8 * p + ptC p q * mi := if_neg (by omega)
def orP (n d me r : Int32) (f : Nat → Int32) : Prop := (r.toInt = -2 ∧ (n.toInt < 0 ∨ 999999 < n.toInt)) ∨ ((0 ≤ n.toInt ∧ n.toInt ≤ 999999) ∧ r.toInt = -1 ∧ (d.toInt < 0 ∨ 13 < d.toInt)) ∨ ((0 ≤ n.toInt ∧ n.toInt ≤ 999999) ∧ r.toInt = -1 ∧ (0 ≤ d.toInt ∧ d.toInt ≤ 13) ∧ dgP n.toInt f ∧ ¬ alP me f) ∨ ((0 ≤ n.toInt ∧ n.toInt ≤ 999999) ∧ r.toInt = 0 ∧ (0 ≤ d.toInt ∧ d.toInt ≤ 13) ∧ dgP n.toInt f ∧ alP me f)
/-- shared -/
def shP (n d me r : Int32) (f : Nat → Int32) (S : Int32) : Prop := (r.toInt = -2 ∧ (n.toInt < 0 ∨ 999999 < n.toInt)) ∨ ((0 ≤ n.toInt ∧ n.toInt ≤ 999999) ∧ r.toInt = -1 ∧ (d.toInt < 0 ∨ 13 < d.toInt)) ∨ ((0 ≤ n.toInt ∧ n.toInt ≤ 999999) ∧ r.toInt = -1 ∧ (0 ≤ d.toInt ∧ d.toInt ≤ 13) ∧ dgP n.toInt f ∧ ¬ alP me f) ∨ ((0 ≤ n.toInt ∧ n.toInt ≤ 999999) ∧ (0 ≤ d.toInt ∧ d.toInt ≤ 13) ∧ dgP n.toInt f ∧ alP me f ∧ r = S)
theorem sh_or {n d me r : Int32} {f : Nat → Int32} {S : Int32} (h : orP n d me r f) (hr : r.toInt ≠ 0) : shP n d me r f S := by
  rcases h with h | h | h | h
  · exact Or.inl h
  · exact Or.inr (Or.inl h)
  · exact Or.inr (Or.inr (Or.inl h))
  · exact absurd h.2.1 hr
theorem sh_ok {n d me r0 r : Int32} {f : Nat → Int32} {S : Int32} (h : orP n d me r0 f) (h0 : r0.toInt = 0) (hr : r = S) : shP n d me r f S := by
  rcases h with h | h | h | h
  · exfalso; omega
  · exfalso; omega
  · exfalso; omega
  · exact Or.inr (Or.inr (Or.inr ⟨h.1, h.2.2.1, h.2.2.2.1, h.2.2.2.2, hr⟩))
/-! how many meals -/
def bc1 (x : Int32) : Int32 := x - ((x.toUInt32 >>> ((1 : Int32).toUInt32 &&& Int32.toUInt32 31)).toInt32 &&& 1431655765)
def bc2 (x : Int32) : Int32 := (x &&& 858993459) + ((x.toUInt32 >>> ((2 : Int32).toUInt32 &&& Int32.toUInt32 31)).toInt32 &&& 858993459)
def bc3 (x : Int32) : Int32 := (x + (x.toUInt32 >>> ((4 : Int32).toUInt32 &&& Int32.toUInt32 31)).toInt32) &&& 252645135
def bc4 (x : Int32) : Int32 := x + (x.toUInt32 >>> ((8 : Int32).toUInt32 &&& Int32.toUInt32 31)).toInt32
def bc5 (x : Int32) : Int32 := x + (x.toUInt32 >>> ((16 : Int32).toUInt32 &&& Int32.toUInt32 31)).toInt32
def bcF (x : Int32) : Int32 := bc5 (bc4 (bc3 (bc2 (bc1 x)))) &&& 63
/-- meal's answer -/
def maP (a b c d r me2 : Int32) : Prop := ((0 ≤ a.toInt ∧ a.toInt ≤ 5 ∧ 1 ≤ b.toInt ∧ b.toInt ≤ 4 ∧ 0 ≤ c.toInt ∧ c.toInt ≤ 60 ∧ 1 ≤ d.toInt ∧ d.toInt ≤ 100) ∧ r = bcF me2) ∨ ((a.toInt < 0 ∨ 5 < a.toInt) ∧ r.toInt = -1) ∨ ((0 ≤ a.toInt ∧ a.toInt ≤ 5) ∧ (b.toInt < 1 ∨ 4 < b.toInt ∨ c.toInt < 0 ∨ 60 < c.toInt ∨ d.toInt < 1 ∨ 100 < d.toInt) ∧ r.toInt = -2)
theorem or_r0 : ∀ (a : Fin 64) (b : Fin 6), 0 ≤ ((Int32.ofNat a.val) ||| ((1 : Int32) <<< ((Int32.ofNat b.val) &&& 31))).toInt ∧ ((Int32.ofNat a.val) ||| ((1 : Int32) <<< ((Int32.ofNat b.val) &&& 31))).toInt ≤ 63 := by decide +kernel
theorem on9 {x : Int32} (h0 : 0 ≤ x.toInt) : x = Int32.ofNat x.toInt.toNat := by
  have h := tb x
  refine ceq ?_
  rw [show (Int32.ofNat x.toInt.toNat).toInt = (x.toInt.toNat : Int) from nI_toInt (n := x.toInt.toNat) (by omega)]
  omega
theorem or_rng {me i : Int32} (h0 : 0 ≤ me.toInt) (h1 : me.toInt ≤ 63) (k0 : 0 ≤ i.toInt) (k1 : i.toInt ≤ 5) : 0 ≤ (me ||| ((1 : Int32) <<< (i &&& 31))).toInt ∧ (me ||| ((1 : Int32) <<< (i &&& 31))).toInt ≤ 63 := by
  have h := or_r0 ⟨me.toInt.toNat, by omega⟩ ⟨i.toInt.toNat, by omega⟩
  rw [← on9 h0, ← on9 k0] at h
  exact h
