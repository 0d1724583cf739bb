def psF (O : Nat → Int32) : Nat → Int
  | 0 => 0
  | c + 1 => psF O c + (O (5 - c)).toInt
theorem psF_upd {O : Nat → Int32} {k : Nat} {v : Int32} : ∀ c, c + k ≤ 5 → psF (upd O k v) c = psF O c
  | 0, _ => rfl
  | c + 1, h => by
    have e := psF_upd (O := O) (k := k) (v := v) c (by omega)
    unfold psF
    rw [e, pk_un (by omega)]
theorem psF_step {O : Nat → Int32} {i j v : Int32} (h0 : 0 ≤ i.toInt) (h5 : i.toInt ≤ 5) (ej : j.toInt = i.toInt - 1) : psF (upd O i.toNatClampNeg v) (5 - j.toInt).toNat = psF O (5 - i.toInt).toNat + v.toInt := by
  have e1 : (5 - j.toInt).toNat = (5 - i.toInt).toNat + 1 := by omega
  have e2 : i.toNatClampNeg = i.toInt.toNat := rfl
  rw [e1, e2]
  have e3 := psF_upd (O := O) (k := i.toInt.toNat) (v := v) (5 - i.toInt).toNat (by omega)
  have e4 : 5 - (5 - i.toInt).toNat = i.toInt.toNat := by omega
  show psF (upd O i.toInt.toNat v) (5 - i.toInt).toNat + (upd O i.toInt.toNat v (5 - (5 - i.toInt).toNat)).toInt = _
  rw [e3, e4, pk_us]
theorem tot_ps {O : Nat → Int32} (hO : rg O 6 0 9) : (totF (fun j => (O j).toInt.toNat) 6 : Int) = psF O 6 := by
  have b0 := hO 0 (by decide); have b1 := hO 1 (by decide); have b2 := hO 2 (by decide); have b3 := hO 3 (by decide); have b4 := hO 4 (by decide); have b5 := hO 5 (by decide)
  show ((0 + (O 0).toInt.toNat + (O 1).toInt.toNat + (O 2).toInt.toNat + (O 3).toInt.toNat + (O 4).toInt.toNat + (O 5).toInt.toNat : Nat) : Int) = 0 + (O 5).toInt + (O 4).toInt + (O 3).toInt + (O 2).toInt + (O 1).toInt + (O 0).toInt
  omega
theorem tk_mk {T O : Nat → Int32} (h0 : 0 ≤ (T 0).toInt ∧ (T 0).toInt ≤ (O 0).toInt) (h1 : 0 ≤ (T 1).toInt ∧ (T 1).toInt ≤ (O 1).toInt) (h2 : 0 ≤ (T 2).toInt ∧ (T 2).toInt ≤ (O 2).toInt) (h3 : 0 ≤ (T 3).toInt ∧ (T 3).toInt ≤ (O 3).toInt) (h4 : 0 ≤ (T 4).toInt ∧ (T 4).toInt ≤ (O 4).toInt) (h5 : 0 ≤ (T 5).toInt ∧ (T 5).toInt ≤ (O 5).toInt) : tkOK T O := by
  intro j hj
  rcases (show j = 0 ∨ j = 1 ∨ j = 2 ∨ j = 3 ∨ j = 4 ∨ j = 5 by omega) with rfl | rfl | rfl | rfl | rfl | rfl
  · exact h0
  · exact h1
  · exact h2
  · exact h3
  · exact h4
  · exact h5
/-! gusts -/
def p2 (d : Int32) : Int := ((2 ^ d.toInt.toNat : Nat) : Int)
def p10 (d : Int32) : Int := ((10 ^ d.toInt.toNat : Nat) : Int)
theorem d8 {d : Int32} (h : 1 ≤ d.toInt ∧ d.toInt ≤ 8) : d = 1 ∨ d = 2 ∨ d = 3 ∨ d = 4 ∨ d = 5 ∨ d = 6 ∨ d = 7 ∨ d = 8 := by
  rcases (show d.toInt = 1 ∨ d.toInt = 2 ∨ d.toInt = 3 ∨ d.toInt = 4 ∨ d.toInt = 5 ∨ d.toInt = 6 ∨ d.toInt = 7 ∨ d.toInt = 8 by omega) with h | h | h | h | h | h | h | h
  · exact Or.inl (ceq h)
  · exact Or.inr (Or.inl (ceq h))
  · exact Or.inr (Or.inr (Or.inl (ceq h)))
  · exact Or.inr (Or.inr (Or.inr (Or.inl (ceq h))))
  · exact Or.inr (Or.inr (Or.inr (Or.inr (Or.inl (ceq h)))))
  · exact Or.inr (Or.inr (Or.inr (Or.inr (Or.inr (Or.inl (ceq h))))))
  · exact Or.inr (Or.inr (Or.inr (Or.inr (Or.inr (Or.inr (Or.inl (ceq h)))))))
  · exact Or.inr (Or.inr (Or.inr (Or.inr (Or.inr (Or.inr (Or.inr (ceq h)))))))
theorem shl_p2 {d : Int32} (h : 1 ≤ d.toInt ∧ d.toInt ≤ 8) : ((1 : Int32) <<< (d &&& 31)).toInt = p2 d ∧ 2 ≤ p2 d ∧ p2 d ≤ 256 := by
  rcases d8 h with rfl | rfl | rfl | rfl | rfl | rfl | rfl | rfl <;> exact ⟨by decide, by decide, by decide⟩
theorem p10_0 : p10 0 = 1 := rfl
theorem p10_r {d : Int32} (h0 : 0 ≤ d.toInt) (h : d.toInt ≤ 8) : 1 ≤ p10 d ∧ p10 d ≤ 100000000 := by
  by_cases q : d.toInt = 0
  · have e : d = 0 := ceq q
    subst e; exact ⟨by decide, by decide⟩
  · rcases d8 ⟨by omega, h⟩ with rfl | rfl | rfl | rfl | rfl | rfl | rfl | rfl <;> exact ⟨by decide, by decide⟩
theorem p10_s {d d2 : Int32} (h0 : 0 ≤ d.toInt) (e : d2.toInt = d.toInt + 1) : p10 d2 = p10 d * 10 := by
  unfold p10
  have e1 : d2.toInt.toNat = d.toInt.toNat + 1 := by omega
  rw [e1, Nat.pow_succ]
  omega
theorem tladd {x y : Int64} (h1 : -9223372036854775808 ≤ x.toInt + y.toInt) (h2 : x.toInt + y.toInt < 9223372036854775808) : (x + y).toInt = x.toInt + y.toInt := by
  rw [Int64.toInt_add]; exact Int.bmod_eq_of_le (by omega) (by omega)
theorem tlmul {x y : Int64} (h1 : -9223372036854775808 ≤ x.toInt * y.toInt) (h2 : x.toInt * y.toInt < 9223372036854775808) : (x * y).toInt = x.toInt * y.toInt := by
  rw [Int64.toInt_mul]; exact Int.bmod_eq_of_le (by omega) (by omega)
theorem wstep {w w2 : Int64} {c d d2 : Int32} (e : w2 = w * c.toInt64) (hd : 0 ≤ d.toInt) (hd8 : d.toInt ≤ 7) (ed : d2.toInt = d.toInt + 1) (hw : 0 ≤ w.toInt) (hw2 : w.toInt ≤ p10 d) (hc : 0 ≤ c.toInt) (hc2 : c.toInt ≤ 10) :
    0 ≤ w2.toInt ∧ w2.toInt ≤ p10 d2 ∧ (w.toInt < 1 ∨ c.toInt < 1 ∨ 1 ≤ w2.toInt) := by
  have hp := p10_r hd (by omega)
  have hs := p10_s hd ed
  have h1 : 0 ≤ w.toInt * c.toInt := Int.mul_nonneg hw hc
  have h2 : w.toInt * c.toInt ≤ p10 d * 10 := Int.mul_le_mul hw2 hc2 hc (by omega)
  have hcc : c.toInt64.toInt = c.toInt := Int32.toInt_toInt64 c
  have h3 : w2.toInt = w.toInt * c.toInt := by
    rw [e, tlmul (by rw [hcc]; omega) (by rw [hcc]; omega), hcc]
  refine ⟨by omega, by omega, ?_⟩
  by_cases q1 : w.toInt < 1
  · exact Or.inl q1
  · by_cases q2 : c.toInt < 1
    · exact Or.inr (Or.inl q2)
    · have h4 : 0 < w.toInt * c.toInt := Int.mul_pos (by omega) (by omega)
      exact Or.inr (Or.inr (by omega))
theorem bit_0 {x d : Int32} (hx : x.toInt = 0) (h0 : 0 ≤ d.toInt) (h : d.toInt ≤ 8) : ¬ (x >>> (d &&& 31)) &&& 1 = 1 := by
  have e : x = 0 := ceq hx
  subst e
  by_cases q : d.toInt = 0
  · have e : d = 0 := ceq q
    subst e; decide
  · rcases d8 ⟨by omega, h⟩ with rfl | rfl | rfl | rfl | rfl | rfl | rfl | rfl <;> decide
theorem bit_l0 : ∀ D d : Fin 9, d.val < D.val → ((nI (2 ^ D.val - 1)) >>> (nI d.val &&& 31)) &&& 1 = 1 := by decide +kernel
theorem bit_l {x d D : Int32} (hD : 1 ≤ D.toInt ∧ D.toInt ≤ 8) (hx : x.toInt + 1 = p2 D) (h0 : 0 ≤ d.toInt) (h : d.toInt < D.toInt) : (x >>> (d &&& 31)) &&& 1 = 1 := by
  obtain ⟨j, hj, rfl, e1, -⟩ := tnI h0
  obtain ⟨k, hk, rfl, e2, -⟩ := tnI (i := D) (by omega)
  have hp := shl_p2 hD
  obtain ⟨i, hi, rfl, e3, -⟩ := tnI (i := x) (by omega)
  have h5 : i = 2 ^ k - 1 := by
    unfold p2 at hx hp
    have e4 : (nI k).toInt.toNat = k := by omega
    rw [e4] at hx hp
    omega
  rw [h5]
  exact bit_l0 ⟨k, by omega⟩ ⟨j, by omega⟩ (show j < k by omega)
theorem tm_lt (a b : Int) (hb : b ≠ 0) : (a.tmod b).natAbs < b.natAbs := by
  have h : (a.tmod b).natAbs = a.natAbs % b.natAbs := by
    cases a with
    | ofNat m =>
      cases b with
      | ofNat n => rfl
      | negSucc n => rfl
    | negSucc m =>
      cases b with
      | ofNat n =>
        show (-(Int.ofNat (Nat.succ m % n))).natAbs = Nat.succ m % n
        rw [Int.natAbs_neg]; rfl
      | negSucc n =>
        show (-(Int.ofNat (Nat.succ m % Nat.succ n))).natAbs = Nat.succ m % Nat.succ n
        rw [Int.natAbs_neg]; rfl
  rw [h]
  exact Nat.mod_lt _ (by omega)
theorem lrem_lt {a b c : Int64} (e : c = a - a / b * b) (hb : b.toInt ≠ 0) : (c.toInt.natAbs : Int) + 1 ≤ (b.toInt.natAbs : Int) := by
  have h1 := tm_lt a.toInt b.toInt hb
  have hbl : -9223372036854775808 ≤ b.toInt := by have := Int64.le_toInt b; simpa using this
  have hbu : b.toInt < 9223372036854775808 := by have := Int64.toInt_lt b; simpa using this
  have h2 : c.toInt = a.toInt.tmod b.toInt := by
    rw [e, Int64.toInt_sub, Int64.toInt_mul, Int64.toInt_div, Int.bmod_mul_bmod, Int.sub_bmod_bmod, Int.tmod_def, Int.mul_comm b.toInt]
    rw [Int.tmod_def, Int.mul_comm b.toInt] at h1
    exact Int.bmod_eq_of_le (by omega) (by omega)
  rw [h2]
  omega
/-! images -/
theorem us9 {f : Nat → Int32} {x : Int32} {v : Int32} {j : Nat} (h : j = x.toInt.toNat) : upd f x.toNatClampNeg v j = v := by
  subst h; exact pk_us
theorem un9 {f : Nat → Int32} {x : Int32} {v : Int32} {j : Nat} (h : j ≠ x.toInt.toNat) : upd f x.toNatClampNeg v j = f j := pk_un h
def kpOK (f : Nat → Int32) (o : Nat) : Prop :=
  (0 ≤ (f o).toInt ∧ (f o).toInt ≤ 4000) ∧ (0 ≤ (f (o + 3)).toInt ∧ (f (o + 3)).toInt ≤ 1) ∧ (0 ≤ (f (o + 4)).toInt ∧ (f (o + 4)).toInt ≤ 13) ∧ (0 ≤ (f (o + 8)).toInt ∧ (f (o + 8)).toInt ≤ 8) ∧
  (∀ d, d < 14 → 0 ≤ (f (o + 9 + 2 * d)).toInt ∧ (f (o + 9 + 2 * d)).toInt ≤ 4) ∧
  (∀ m, m < 6 → (0 ≤ (f (o + 37 + 3 * m)).toInt ∧ (f (o + 37 + 3 * m)).toInt ≤ 4) ∧ (0 ≤ (f (o + 38 + 3 * m)).toInt ∧ (f (o + 38 + 3 * m)).toInt ≤ 60) ∧ (bt (f (o + 7)) m = true → 1 ≤ (f (o + 37 + 3 * m)).toInt)) ∧
  (∀ k, k < 8 → 0 ≤ (f (o + 55 + 2 * k)).toInt ∧ (f (o + 55 + 2 * k)).toInt ≤ 60)
theorem kp_0 {o : Nat} : kpOK (fun _ => 0) o := by
  have h0 : ∀ n : Int, 0 ≤ n → 0 ≤ (0 : Int32).toInt ∧ (0 : Int32).toInt ≤ n := fun n h => ⟨by decide, by have z : (0 : Int32).toInt = 0 := rfl; omega⟩
  refine ⟨h0 _ (by decide), h0 _ (by decide), h0 _ (by decide), h0 _ (by decide), fun _ _ => h0 _ (by decide), fun m _ => ⟨h0 _ (by decide), h0 _ (by decide), fun h => ?_⟩, fun _ _ => h0 _ (by decide)⟩
  rw [b_0] at h; cases h
theorem kp_same {f g : Nat → Int32} {o : Nat} (h : kpOK f o) (e : ∀ p, o ≤ p → p < o + 71 → g p = f p) : kpOK g o := by
  obtain ⟨h0, h1, h2, h3, h4, h5, h6⟩ := h
  refine ⟨?_, ?_, ?_, ?_, fun d hd => ?_, fun m hm => ?_, fun k hk => ?_⟩
  · rw [e o (by omega) (by omega)]; exact h0
  · rw [e (o + 3) (by omega) (by omega)]; exact h1
  · rw [e (o + 4) (by omega) (by omega)]; exact h2
  · rw [e (o + 8) (by omega) (by omega)]; exact h3
  · rw [e (o + 9 + 2 * d) (by omega) (by omega)]; exact h4 d hd
  · rw [e (o + 37 + 3 * m) (by omega) (by omega), e (o + 38 + 3 * m) (by omega) (by omega), e (o + 7) (by omega) (by omega)]; exact h5 m hm
  · rw [e (o + 55 + 2 * k) (by omega) (by omega)]; exact h6 k hk
