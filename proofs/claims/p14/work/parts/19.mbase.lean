/-! numbers of the reference -/
theorem b_one : ∀ n, n < 32 → bt 1 n = decide (n = 0) := by decide +kernel
theorem tnI {i : Int32} (h0 : 0 ≤ i.toInt) : ∃ j : Nat, j < 2 ^ 31 ∧ i = nI j ∧ i.toInt = (j : Int) ∧ i.toNatClampNeg = j := by
  obtain ⟨j, hj, rfl⟩ := nI_of (x := i) (fun q => by have := tlt q; have z : (0 : Int32).toInt = 0 := rfl; omega)
  refine ⟨j, hj, rfl, nI_toInt hj, ?_⟩
  show (nI j).toInt.toNat = j
  rw [nI_toInt hj]; omega
theorem bt_of {x i : Int32} (h0 : 0 ≤ i.toInt) (h5 : i.toInt ≤ 31) (h : (x >>> (i &&& 31)) &&& 1 = 1) : bt x i.toNatClampNeg = true := by
  obtain ⟨j, hj, rfl, e1, e⟩ := tnI h0
  rw [e1] at h5
  rw [e]
  have h1 : bt ((x >>> (nI j &&& 31)) &&& 1) 0 = true := by rw [h]; rfl
  rw [b_and, b_sshr j (by omega) x (by omega), b_one 0 (by decide), if_pos (by omega)] at h1
  simpa using h1
theorem bt_set {x i : Int32} {k : Nat} (h0 : 0 ≤ i.toInt) (h5 : i.toInt ≤ 31) (hk : k < 32) (hne : k ≠ i.toNatClampNeg) (h : bt (x ||| ((1 : Int32) <<< (i &&& 31))) k = true) : bt x k = true := by
  obtain ⟨j, hj, rfl, e1, e⟩ := tnI h0
  rw [e1] at h5
  rw [e] at hne
  rw [b_or, b_shl j (by omega) 1 hk] at h
  have h1 : (decide (j ≤ k) && bt 1 (k - j)) = false := by
    by_cases q : j ≤ k
    · have q2 : ¬ (k - j = 0) := by omega
      rw [b_one (k - j) (by omega)]; simp [q2]
    · simp [q]
  rw [h1, Bool.or_false] at h
  exact h
theorem ones_lt {x : Int32} (h : x.toInt ≠ 0) : (x &&& (x - 1)).toBitVec.toNat < x.toBitVec.toNat := by
  have h0 : x.toBitVec.toNat ≠ 0 := fun q => h (by
    have e : x = 0 := Int32.toBitVec_inj.mp (BitVec.eq_of_toNat_eq (by rw [q]; rfl))
    rw [e]; rfl)
  have h1 : (x &&& (x - 1)).toBitVec.toNat ≤ (x - 1).toBitVec.toNat := by
    rw [Int32.toBitVec_and, BitVec.toNat_and]; exact Nat.and_le_right
  have h2 : (x - 1).toBitVec.toNat = x.toBitVec.toNat - 1 := by
    rw [Int32.toBitVec_sub, BitVec.toNat_sub]
    have h3 : (1 : Int32).toBitVec.toNat = 1 := rfl
    have h4 := x.toBitVec.isLt
    rw [h3]; omega
  omega
def on (x : Int32) : Int := x.toBitVec.toNat
theorem on_lt {x y z : Int32} (h : x.toInt ≠ 0) (ey : y = x - 1) (ez : z = x &&& y) : on z + 1 ≤ on x := by
  subst ey; subst ez
  have := ones_lt h
  unfold on; omega
theorem on_0 {x : Int32} : 0 ≤ on x := by unfold on; omega
theorem on_z {x : Int32} (h : on x ≤ 0) : x.toInt = 0 := by
  have e : x = 0 := Int32.toBitVec_inj.mp (BitVec.eq_of_toNat_eq (by unfold on at h; have z : (0 : Int32).toBitVec.toNat = 0 := rfl; omega))
  rw [e]; rfl
/-! what a meal costs -/
def blF (sh v : Int32) : Int32 := if v ≤ 2 * sh then 0 else v - 2 * sh
def cbF (q mi sh v w : Int32) : Int32 :=
  11 * q * (4 + blF sh v + (if w &&& 2 ≤ 0 then 0 else 1) + (if w &&& 4 ≤ 0 then 0 else 1)) * (if w &&& 1 ≤ 0 then 1 else 2) + (if w &&& 8 ≤ 0 then mi * (if w &&& 4 ≤ 0 then 1 else 2) else 0)
def wnF (g wd d : Int32) : Int32 := if (g >>> (d &&& 31)) &&& 1 = 1 then (if wd + 2 ≤ 4 then wd + 2 else 4) else wd
def acF (E F G Q M W : Nat → Int32) (sh g td k : Int32) : Int32 :=
  if E k.toNatClampNeg = 0 then cbF (Q (F k.toNatClampNeg).toNatClampNeg) (M (F k.toNatClampNeg).toNatClampNeg) sh (wnF g (W td.toNatClampNeg) td) (G k.toNatClampNeg) else 0
theorem i01 (x : Int32) : 0 ≤ (if x ≤ 0 then (0 : Int32) else 1).toInt ∧ (if x ≤ 0 then (0 : Int32) else 1).toInt ≤ 1 := by
  split
  · exact ⟨by decide, by decide⟩
  · exact ⟨by decide, by decide⟩
theorem i12 (x : Int32) : 1 ≤ (if x ≤ 0 then (1 : Int32) else 2).toInt ∧ (if x ≤ 0 then (1 : Int32) else 2).toInt ≤ 2 := by
  split
  · exact ⟨by decide, by decide⟩
  · exact ⟨by decide, by decide⟩
theorem blF_rng {sh v : Int32} (hs : 0 ≤ sh.toInt ∧ sh.toInt ≤ 1) (hv : 0 ≤ v.toInt ∧ v.toInt ≤ 4) : 0 ≤ (blF sh v).toInt ∧ (blF sh v).toInt ≤ 4 := by
  have z2 : (2 : Int32).toInt = 2 := rfl
  have e2 : (2 * sh).toInt = 2 * sh.toInt := by
    rw [tmul (by rw [z2]; omega) (by rw [z2]; omega), z2]
  unfold blF
  split
  · exact ⟨by decide, by decide⟩
  · rename_i h
    have h1 := tnle h
    rw [tsub (by omega) (by omega)]
    omega
theorem wnF_rng {g wd d : Int32} (hw : 0 ≤ wd.toInt ∧ wd.toInt ≤ 4) : 0 ≤ (wnF g wd d).toInt ∧ (wnF g wd d).toInt ≤ 4 := by
  have z2 : (2 : Int32).toInt = 2 := rfl
  have z4 : (4 : Int32).toInt = 4 := rfl
  have e2 : (wd + 2).toInt = wd.toInt + 2 := by rw [tadd (by omega) (by omega), z2]
  unfold wnF
  split
  · split
    · rename_i h
      have h1 := tle h
      omega
    · exact ⟨by decide, by decide⟩
  · exact hw
theorem mul_rng {x y : Int32} {a b : Int} (hx : 0 ≤ x.toInt ∧ x.toInt ≤ a) (hy : 0 ≤ y.toInt ∧ y.toInt ≤ b) (hb : a * b < 2147483648) : (x * y).toInt = x.toInt * y.toInt ∧ 0 ≤ x.toInt * y.toInt ∧ x.toInt * y.toInt ≤ a * b := by
  have h1 : 0 ≤ x.toInt * y.toInt := Int.mul_nonneg hx.1 hy.1
  have h2 : x.toInt * y.toInt ≤ a * b := Int.mul_le_mul hx.2 hy.2 hy.1 (by omega)
  exact ⟨tmul (by omega) (by omega), h1, h2⟩
theorem cbF_rng {q mi sh v w : Int32} (hq : 0 ≤ q.toInt ∧ q.toInt ≤ 4) (hm : 0 ≤ mi.toInt ∧ mi.toInt ≤ 60) (hs : 0 ≤ sh.toInt ∧ sh.toInt ≤ 1) (hv : 0 ≤ v.toInt ∧ v.toInt ≤ 4) :
    0 ≤ (cbF q mi sh v w).toInt ∧ (cbF q mi sh v w).toInt ≤ 1000 ∧ (1 ≤ q.toInt → 1 ≤ (cbF q mi sh v w).toInt) := by
  have hb := blF_rng hs hv
  unfold cbF
  have ha := i01 (w &&& 2)
  have hc := i01 (w &&& 4)
  have he := i12 (w &&& 1)
  have hg := i12 (w &&& 4)
  generalize (if w &&& 2 ≤ 0 then (0 : Int32) else 1) = a at *
  generalize (if w &&& 4 ≤ 0 then (0 : Int32) else 1) = c at *
  generalize (if w &&& 1 ≤ 0 then (1 : Int32) else 2) = e at *
  generalize (if w &&& 4 ≤ 0 then (1 : Int32) else 2) = g at *
  generalize blF sh v = bl at *
  have z4 : (4 : Int32).toInt = 4 := rfl
  have z11 : (11 : Int32).toInt = 11 := rfl
  have e1 : (4 + bl).toInt = 4 + bl.toInt := by rw [tadd (by omega) (by omega), z4]
  have e2 : (4 + bl + a).toInt = 4 + bl.toInt + a.toInt := by rw [tadd (by omega) (by omega), e1]
  have e3 : (4 + bl + a + c).toInt = 4 + bl.toInt + a.toInt + c.toInt := by rw [tadd (by omega) (by omega), e2]
  have e4 : (11 * q).toInt = 11 * q.toInt := by rw [tmul (by rw [z11]; omega) (by rw [z11]; omega), z11]
  have m1 := mul_rng (x := 11 * q) (y := 4 + bl + a + c) (a := 44) (b := 10) (by omega) (by omega) (by decide)
  have m2 := mul_rng (x := 11 * q * (4 + bl + a + c)) (y := e) (a := 440) (b := 2) (by omega) (by omega) (by decide)
  have hmg : 0 ≤ (if w &&& 8 ≤ 0 then mi * g else 0).toInt ∧ (if w &&& 8 ≤ 0 then mi * g else 0).toInt ≤ 120 := by
    split
    · have m3 := mul_rng (x := mi) (y := g) (a := 60) (b := 2) (by omega) (by omega) (by decide)
      omega
    · exact ⟨by decide, by decide⟩
  generalize (if w &&& 8 ≤ 0 then mi * g else 0) = s at *
  have e5 : (11 * q * (4 + bl + a + c) * e + s).toInt = (11 * q * (4 + bl + a + c) * e).toInt + s.toInt := tadd (by omega) (by omega)
  refine ⟨by omega, by omega, fun h1 => ?_⟩
  have p1 : 1 ≤ (11 * q).toInt * (4 + bl + a + c).toInt := Int.mul_pos (by omega) (by omega)
  have p2 : 1 ≤ (11 * q * (4 + bl + a + c)).toInt * e.toInt := Int.mul_pos (by omega) (by omega)
  omega
theorem acF_rng {E F G Q M W : Nat → Int32} {sh g td k : Int32} (hQ : rg Q 6 0 4) (hM : rg M 6 0 60) (hW : rg W 14 0 4) (hs : 0 ≤ sh.toInt ∧ sh.toInt ≤ 1) (ht : 0 ≤ td.toInt ∧ td.toInt ≤ 13) (hF : (E k.toNatClampNeg).toInt ≠ 0 ∨ (0 ≤ (F k.toNatClampNeg).toInt ∧ (F k.toNatClampNeg).toInt ≤ 5)) : 0 ≤ (acF E F G Q M W sh g td k).toInt ∧ (acF E F G Q M W sh g td k).toInt ≤ 1000 := by
  unfold acF
  split
  · rename_i h
    have h0 : (E k.toNatClampNeg).toInt = 0 := by rw [h]; rfl
    have h2 := hF.resolve_left (fun q => q h0)
    have h3 := cbF_rng (w := G k.toNatClampNeg) (rgI hQ (i := F k.toNatClampNeg) h2.1 (by omega)) (rgI hM (i := F k.toNatClampNeg) h2.1 (by omega)) hs (wnF_rng (g := g) (d := td) (rgI hW ht.1 (by omega)))
    exact ⟨h3.1, h3.2.1⟩
  · exact ⟨by decide, by decide⟩
theorem acF_0 {E F G Q M W : Nat → Int32} {sh g td k : Int32} (h : (E k.toNatClampNeg).toInt ≠ 0) : acF E F G Q M W sh g td k = 0 := by
  unfold acF; rw [if_neg]; intro q; exact h (by rw [q]; rfl)
theorem acF_1 {E F G Q M W : Nat → Int32} {sh g td k : Int32} (h : (E k.toNatClampNeg).toInt = 0) : acF E F G Q M W sh g td k = cbF (Q (F k.toNatClampNeg).toNatClampNeg) (M (F k.toNatClampNeg).toNatClampNeg) sh (wnF g (W td.toNatClampNeg) td) (G k.toNatClampNeg) := by
  unfold acF; rw [if_pos]; exact ceq h
theorem rg_push {f : Nat → Int32} {i i2 j v : Int32} {lo hi : Int} (h : rg f (i.toInt.toNat + 1) lo hi) (h0 : 0 ≤ i.toInt) (e : i2.toInt = i.toInt + 1) (ej : j.toInt = i.toInt + 1) (h1 : lo ≤ v.toInt ∧ v.toInt ≤ hi) : rg (upd f i2.toNatClampNeg v) (j.toInt.toNat + 1) lo hi := by
  intro k hk
  have e2 : i2.toNatClampNeg = i.toInt.toNat + 1 := by show i2.toInt.toNat = _; omega
  by_cases q : k = i2.toNatClampNeg
  · subst q; rw [pk_us]; exact h1
  · rw [pk_un q]; exact h k (by omega)
theorem rg_n {f : Nat → Int32} {n m : Nat} {lo hi : Int} (h : rg f n lo hi) (e : m ≤ n) : rg f m lo hi := fun k hk => h k (by omega)
/-- each meal that is has its quarts -/
def mqOK (me : Int32) (Q : Nat → Int32) : Prop := ∀ j, j < 6 → bt me j = true → 1 ≤ (Q j).toInt
theorem mq_set {me i v : Int32} {Q : Nat → Int32} (h : mqOK me Q) (h0 : 0 ≤ i.toInt) (h5 : i.toInt ≤ 5) (hv : 1 ≤ v.toInt) : mqOK (me ||| ((1 : Int32) <<< (i &&& 31))) (upd Q i.toNatClampNeg v) := by
  intro j hj hb
  by_cases q : j = i.toNatClampNeg
  · subst q; rw [pk_us]; exact hv
  · rw [pk_un q]; exact h j hj (bt_set h0 (by omega) (by omega) q hb)
theorem mq_0 {Q : Nat → Int32} : mqOK 0 Q := fun j _ h => by rw [b_0] at h; cases h
theorem d4 {q : Int32} (h : 1 ≤ q.toInt ∧ q.toInt ≤ 4) : 1 ≤ ((4 : Int32) / q).toInt ∧ ((4 : Int32) / q).toInt ≤ 4 := by
  rcases (show q = 1 ∨ q = 2 ∨ q = 3 ∨ q = 4 from by
    rcases (show q.toInt = 1 ∨ q.toInt = 2 ∨ q.toInt = 3 ∨ q.toInt = 4 by omega) with h | h | h | h
    · exact Or.inl (ceq h)
    · exact Or.inr (Or.inl (ceq h))
    · exact Or.inr (Or.inr (Or.inl (ceq h)))
    · exact Or.inr (Or.inr (Or.inr (ceq h)))) with rfl | rfl | rfl | rfl <;> exact ⟨by decide, by decide⟩
theorem upd_self {f : Nat → Int32} {k : Nat} : upd f k (f k) = f := by
  funext j
  by_cases q : j = k
  · subst q; exact pk_us
  · exact pk_un q
/-! sums by keys -/
def cntF (key : Nat → Int) (wt : Nat → Nat) (v : Int) (m : Nat) : Nat → Nat
  | 0 => 0
  | n + 1 => cntF key wt v m n + (if key n < v ∨ (key n = v ∧ n < m) then wt n else 0)
def totF (wt : Nat → Nat) : Nat → Nat
  | 0 => 0
  | n + 1 => totF wt n + wt n
theorem cnt_le {key : Nat → Int} {wt : Nat → Nat} {v : Int} {m : Nat} : ∀ n, cntF key wt v m n ≤ totF wt n
  | 0 => Nat.le_refl _
  | n + 1 => by
    have := cnt_le (key := key) (wt := wt) (v := v) (m := m) n
    unfold cntF totF
    split <;> omega
theorem cnt_mono {key : Nat → Int} {wt : Nat → Nat} {v : Int} {m m2 : Nat} (h : m ≤ m2) : ∀ n, cntF key wt v m n ≤ cntF key wt v m2 n
  | 0 => Nat.le_refl _
  | n + 1 => by
    have := cnt_mono (key := key) (wt := wt) (v := v) h n
    unfold cntF
    split
    · rename_i q
      rw [if_pos (q.imp id (fun q2 => ⟨q2.1, by omega⟩))]; omega
    · split <;> omega
theorem cnt_same {key : Nat → Int} {wt : Nat → Nat} {v : Int} {m : Nat} : ∀ n, n ≤ m → cntF key wt v (m + 1) n = cntF key wt v m n
  | 0, _ => rfl
  | n + 1, h => by
    have e := cnt_same (key := key) (wt := wt) (v := v) (m := m) n (by omega)
    unfold cntF
    rw [e]
    congr 1
    by_cases q : key n < v ∨ (key n = v ∧ n < m)
    · rw [if_pos q, if_pos (q.imp id (fun q2 => ⟨q2.1, by omega⟩))]
    · rw [if_neg q, if_neg (fun q2 => q (q2.imp id (fun q3 => ⟨q3.1, by omega⟩)))]
theorem cnt_step {key : Nat → Int} {wt : Nat → Nat} {v : Int} {m : Nat} (hk : key m = v) : ∀ n, m < n → cntF key wt v m n + wt m ≤ cntF key wt v (m + 1) n
  | 0, h => by omega
  | n + 1, h => by
    by_cases q : m = n
    · subst q
      have e := cnt_same (key := key) (wt := wt) (v := v) (m := m) m (by omega)
      unfold cntF
      rw [e, if_neg (by omega), if_pos (by omega)]; omega
    · have e := cnt_step (wt := wt) hk n (by omega)
      unfold cntF
      by_cases q2 : key n < v ∨ (key n = v ∧ n < m)
      · rw [if_pos q2, if_pos (q2.imp id (fun q3 => ⟨q3.1, by omega⟩))]; omega
      · rw [if_neg q2]; split <;> omega
theorem cnt_next {key : Nat → Int} {wt : Nat → Nat} {v : Int} {m : Nat} : ∀ n, n ≤ m → cntF key wt v m n ≤ cntF key wt (v + 1) 0 n
  | 0, _ => Nat.le_refl _
  | n + 1, h => by
    have e := cnt_next (key := key) (wt := wt) (v := v) (m := m) n (by omega)
    unfold cntF
    split
    · rw [if_pos (by omega)]; omega
    · split <;> omega
theorem tot_2 : ∀ n, totF (fun _ => 2) n = 2 * n
  | 0 => rfl
  | n + 1 => by unfold totF; rw [tot_2 n]; omega
/-! portions taken -/
def tkOK (T O : Nat → Int32) : Prop := ∀ j, j < 6 → 0 ≤ (T j).toInt ∧ (T j).toInt ≤ (O j).toInt
def tval (T : Nat → Int32) : Int := (T 0).toInt + 10 * (T 1).toInt + 100 * (T 2).toInt + 1000 * (T 3).toInt + 10000 * (T 4).toInt + 100000 * (T 5).toInt
theorem tv_rng {T O : Nat → Int32} (h : tkOK T O) (hO : rg O 6 0 9) : 0 ≤ tval T ∧ tval T ≤ 999999 := by
  have a0 := h 0 (by decide); have a1 := h 1 (by decide); have a2 := h 2 (by decide); have a3 := h 3 (by decide); have a4 := h 4 (by decide); have a5 := h 5 (by decide)
  have b0 := hO 0 (by decide); have b1 := hO 1 (by decide); have b2 := hO 2 (by decide); have b3 := hO 3 (by decide); have b4 := hO 4 (by decide); have b5 := hO 5 (by decide)
  unfold tval
  omega
theorem tk_0 {T O : Nat → Int32} (h : ∀ j, j < 6 → (T j).toInt = 0) (hO : rg O 6 0 9) : tkOK T O := fun j hj => by
  have := h j hj; have := hO j hj; omega
/-! what the reference answers, as functions of its numbers -/
def plM (me : Int32) (q m w : Nat → Int32) (sh i d ws : Int32) : Int32 := if hsF me i = 1 ∧ 0 ≤ d.toInt ∧ d.toInt ≤ 13 then (if 0 ≤ ws.toInt ∧ ws.toInt ≤ 15 then cbF (q i.toNatClampNeg) (m i.toNatClampNeg) sh (w d.toNatClampNeg) ws else -2) else -1
theorem plM_1 {me : Int32} {q m w : Nat → Int32} {sh i d ws : Int32} (h : hsF me i = 0 ∨ d.toInt < 0 ∨ 13 < d.toInt) : (-1 : Int32) = plM me q m w sh i d ws := by
  unfold plM; rw [if_neg (hs_n (P := True) h)]
theorem plM_2 {me : Int32} {q m w : Nat → Int32} {sh i d ws : Int32} (h : hsF me i = 1) (hd : 0 ≤ d.toInt ∧ d.toInt ≤ 13) (hw : ws.toInt < 0 ∨ 15 < ws.toInt) : (-2 : Int32) = plM me q m w sh i d ws := by
  unfold plM; rw [if_pos ⟨h, hd⟩, if_neg (by omega)]
theorem plM_3 {me r : Int32} {q m w : Nat → Int32} {sh i d ws : Int32} (h : hsF me i = 1) (hd : 0 ≤ d.toInt ∧ d.toInt ≤ 13) (hw : 0 ≤ ws.toInt ∧ ws.toInt ≤ 15) (hr : r = cbF (q i.toNatClampNeg) (m i.toNatClampNeg) sh (w d.toNatClampNeg) ws) : r = plM me q m w sh i d ws := by
  unfold plM; rw [if_pos ⟨h, hd⟩, if_pos hw]; exact hr
def kpM (me : Int32) (q m w : Nat → Int32) (sh i d : Int32) : Int32 := if hsF me i = 1 ∧ 0 ≤ d.toInt ∧ d.toInt ≤ 13 then smF (fun d9 => cbF (q i.toNatClampNeg) (m i.toNatClampNeg) sh (w d9) 1) (d.toInt.toNat + 1) (13 - d.toInt.toNat) else -1
theorem kpM_1 {me : Int32} {q m w : Nat → Int32} {sh i d : Int32} (h : hsF me i = 0 ∨ d.toInt < 0 ∨ 13 < d.toInt) : (-1 : Int32) = kpM me q m w sh i d := by
  unfold kpM; rw [if_neg (hs_n (P := True) h)]
theorem kpM_3 {me r : Int32} {q m w : Nat → Int32} {sh i d : Int32} {n : Nat} (h : hsF me i = 1) (hd : 0 ≤ d.toInt ∧ d.toInt ≤ 13) (hr : r = smF (fun d9 => cbF (q i.toNatClampNeg) (m i.toNatClampNeg) sh (w d9) 1) (d.toInt.toNat + 1) n) (hn : n = 13 - d.toInt.toNat) : r = kpM me q m w sh i d := by
  subst hn; unfold kpM; rw [if_pos ⟨h, hd⟩]; exact hr
def ptM (p q : Int32) : Int32 := (p + 4 / q - 1) / (4 / q)
def shM (p q mi sh v : Int32) : Int32 := if p.toInt = 0 then 0 else p * cbF q mi sh v 8 + ptM p q * mi
theorem shM_0 {p q mi sh v : Int32} (h : p.toInt = 0) : shM p q mi sh v = 0 := if_pos h
theorem shM_1 {p q mi sh v : Int32} (h : p.toInt ≠ 0) : shM p q mi sh v = p * cbF q mi sh v 8 + ptM p q * mi := if_neg h
/-! how many meals -/
theorem bc_r0 : ∀ a : Fin 64, 0 ≤ (bcF (Int32.ofNat a.val)).toInt ∧ (bcF (Int32.ofNat a.val)).toInt ≤ 6 := by decide +kernel
theorem bc_rng {x : Int32} (h0 : 0 ≤ x.toInt) (h1 : x.toInt ≤ 63) : 0 ≤ (bcF x).toInt ∧ (bcF x).toInt ≤ 6 := by
  have h := bc_r0 ⟨x.toInt.toNat, by omega⟩
  rw [← on9 h0] at h
  exact h
theorem bc_z {x : Int32} (h : x.toInt = 0) : (bcF x).toInt = 0 := by
  have e : x = 0 := ceq h
  subst e; decide
theorem on_r0 : ∀ a : Fin 64, a.val ≠ 0 → 0 ≤ ((Int32.ofNat a.val) &&& ((Int32.ofNat a.val) - 1)).toInt ∧ ((Int32.ofNat a.val) &&& ((Int32.ofNat a.val) - 1)).toInt < (Int32.ofNat a.val).toInt ∧ (bcF ((Int32.ofNat a.val) &&& ((Int32.ofNat a.val) - 1))).toInt + 1 = (bcF (Int32.ofNat a.val)).toInt ∧ 0 ≤ (bcF ((Int32.ofNat a.val) &&& ((Int32.ofNat a.val) - 1))).toInt := by decide +kernel
theorem on64 {x y z : Int32} (h0 : 1 ≤ x.toInt) (h1 : x.toInt ≤ 63) (ey : y = x - 1) (ez : z = x &&& y) : 0 ≤ z.toInt ∧ z.toInt < x.toInt ∧ (bcF z).toInt + 1 = (bcF x).toInt ∧ 0 ≤ (bcF z).toInt := by
  subst ey; subst ez
  have h := on_r0 ⟨x.toInt.toNat, by omega⟩ (by show x.toInt.toNat ≠ 0; omega)
  rw [← on9 (x := x) (by omega)] at h
  exact h
