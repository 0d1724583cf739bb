/-! class and reference side by side -/
theorem w01 {x : Int32} (h : 0 ≤ x.toInt ∧ x.toInt ≤ 1) : x = 0 ∨ x = 1 := by
  rcases (show x.toInt = 0 ∨ x.toInt = 1 by omega) with h | h
  · exact Or.inl (ceq h)
  · exact Or.inr (ceq h)
theorem w04 {x : Int32} (h : 0 ≤ x.toInt ∧ x.toInt ≤ 4) : x = 0 ∨ x = 1 ∨ x = 2 ∨ x = 3 ∨ x = 4 := by
  rcases (show x.toInt = 0 ∨ x.toInt = 1 ∨ x.toInt = 2 ∨ x.toInt = 3 ∨ x.toInt = 4 by omega) with h | h | h | h | h
  · exact Or.inl (ceq h)
  · exact Or.inr (Or.inl (ceq h))
  · exact Or.inr (Or.inr (Or.inl (ceq h)))
  · exact Or.inr (Or.inr (Or.inr (Or.inl (ceq h))))
  · exact Or.inr (Or.inr (Or.inr (Or.inr (ceq h))))
theorem wo_bl {sh v : Int32} (hs : 0 ≤ sh.toInt ∧ sh.toInt ≤ 1) (hv : 0 ≤ v.toInt ∧ v.toInt ≤ 4) : woF sh v = blF sh v := by
  rcases w01 hs with rfl | rfl <;> rcases w04 hv with rfl | rfl | rfl | rfl | rfl <;> decide
theorem and_r0 : ∀ a : Fin 16, ((Int32.ofNat a.val) &&& 1 ≤ 0 ↔ (Int32.ofNat a.val) &&& 1 = 0) ∧ ((Int32.ofNat a.val) &&& 2 ≤ 0 ↔ (Int32.ofNat a.val) &&& 2 = 0) ∧ ((Int32.ofNat a.val) &&& 4 ≤ 0 ↔ (Int32.ofNat a.val) &&& 4 = 0) ∧ ((Int32.ofNat a.val) &&& 8 ≤ 0 ↔ (Int32.ofNat a.val) &&& 8 = 0) := by decide +kernel
theorem and_r {w : Int32} (h : 0 ≤ w.toInt ∧ w.toInt ≤ 15) : (w &&& 1 ≤ 0 ↔ w &&& 1 = 0) ∧ (w &&& 2 ≤ 0 ↔ w &&& 2 = 0) ∧ (w &&& 4 ≤ 0 ↔ w &&& 4 = 0) ∧ (w &&& 8 ≤ 0 ↔ w &&& 8 = 0) := by
  have k := and_r0 ⟨w.toInt.toNat, by omega⟩
  rw [← on9 h.1] at k
  exact k
theorem tb_cb {q mi sh v w : Int32} (hs : 0 ≤ sh.toInt ∧ sh.toInt ≤ 1) (hv : 0 ≤ v.toInt ∧ v.toInt ≤ 4) (hw : 0 ≤ w.toInt ∧ w.toInt ≤ 15) : tbF q mi (woF sh v) w = cbF q mi sh v w := by
  obtain ⟨h1, h2, h4, h8⟩ := and_r hw
  rw [wo_bl hs hv]
  unfold tbF cbF waF
  simp only [h1, h2, h4, h8]
  generalize blF sh v = b
  by_cases c1 : w &&& 1 = 0 <;> by_cases c2 : w &&& 2 = 0 <;> by_cases c4 : w &&& 4 = 0 <;> by_cases c8 : w &&& 8 = 0 <;>
    simp only [c1, c2, c4, c8, if_true, if_false, Int32.add_zero, Int32.zero_mul, Int32.one_mul, Int32.mul_one] <;> first | done | ac_rfl
theorem hs_i {me i : Int32} (h : hsF me i = 1) : (0 ≤ i.toInt ∧ i.toInt ≤ 5) ∧ (me >>> (i &&& 31)) &&& 1 = 1 := by
  unfold hsF at h
  by_cases q : (0 ≤ i.toInt ∧ i.toInt ≤ 5) ∧ (me >>> (i &&& 31)) &&& 1 = 1
  · exact q
  · rw [if_neg q] at h; exact absurd h (by decide)
section CP
variable {w w2 q q2 m m2 d d2 : Nat → Int32} {me me2 si si2 s1 t1 s3 t3 : Int32}
theorem pl_eq (h : ce (w, me, q, m, d, si, s1, s3) (w2, me2, q2, m2, d2, si2, t1, t3)) (hs : 0 ≤ t3.toInt ∧ t3.toInt ≤ 1) (hw : rg w2 14 0 4) {i dd ws : Int32} : plC me q m w s3 i dd ws = plM me2 q2 m2 w2 t3 i dd ws := by
  obtain ⟨e1, e2, e3, e4, e5, e6, e7, e8⟩ := h
  have e2 : me = me2 := e2
  have e8 : s3 = t3 := e8
  subst e2; subst e8
  unfold plC plM
  by_cases c : hsF me i = 1 ∧ 0 ≤ dd.toInt ∧ dd.toInt ≤ 13
  · rw [if_pos c, if_pos c]
    by_cases c2 : 0 ≤ ws.toInt ∧ ws.toInt ≤ 15
    · rw [if_pos c2, if_pos c2]
      have hi := (hs_i c.1).1
      rw [show q i.toNatClampNeg = q2 i.toNatClampNeg from eqN.at e3 hi.1 (by omega), show m i.toNatClampNeg = m2 i.toNatClampNeg from eqN.at e4 hi.1 (by omega), show w dd.toNatClampNeg = w2 dd.toNatClampNeg from eqN.at e1 c.2.1 (by omega)]
      exact tb_cb hs (rgI hw c.2.1 (by omega)) c2
    · rw [if_neg c2, if_neg c2]
  · rw [if_neg c, if_neg c]
theorem kp_eq (h : ce (w, me, q, m, d, si, s1, s3) (w2, me2, q2, m2, d2, si2, t1, t3)) (hs : 0 ≤ t3.toInt ∧ t3.toInt ≤ 1) (hw : rg w2 14 0 4) {i dd : Int32} : kpC me q m w s3 i dd = kpM me2 q2 m2 w2 t3 i dd := by
  obtain ⟨e1, e2, e3, e4, e5, e6, e7, e8⟩ := h
  have e2 : me = me2 := e2
  have e8 : s3 = t3 := e8
  subst e2; subst e8
  unfold kpC kpM
  by_cases c : hsF me i = 1 ∧ 0 ≤ dd.toInt ∧ dd.toInt ≤ 13
  · rw [if_pos c, if_pos c]
    have hi := (hs_i c.1).1
    refine sm_c _ (fun k h1 h2 => ?_)
    have hk : k < 14 := by omega
    show tbF (q i.toNatClampNeg) (m i.toNatClampNeg) (woF s3 (w k)) 1 = cbF (q2 i.toNatClampNeg) (m2 i.toNatClampNeg) s3 (w2 k) 1
    rw [show q i.toNatClampNeg = q2 i.toNatClampNeg from eqN.at e3 hi.1 (by omega), show m i.toNatClampNeg = m2 i.toNatClampNeg from eqN.at e4 hi.1 (by omega), show w k = w2 k from e1 k hk]
    exact tb_cb hs (hw k hk) (by decide)
  · rw [if_neg c, if_neg c]
theorem pt_eq {p q : Int32} (hp : 0 ≤ p.toInt ∧ p.toInt ≤ 9) (hq : 1 ≤ q.toInt ∧ q.toInt ≤ 4) : ptC p q = ptM p q := by
  have h : ∀ (a : Fin 10) (b : Fin 5), b.val ≠ 0 → ptC (Int32.ofNat a.val) (Int32.ofNat b.val) = ptM (Int32.ofNat a.val) (Int32.ofNat b.val) := by decide +kernel
  have k := h ⟨p.toInt.toNat, by omega⟩ ⟨q.toInt.toNat, by omega⟩ (by show q.toInt.toNat ≠ 0; omega)
  rw [← on9 hp.1, ← on9 (x := q) (by omega)] at k
  exact k
theorem shs_eq {p q mi sh v : Int32} (hs : 0 ≤ sh.toInt ∧ sh.toInt ≤ 1) (hv : 0 ≤ v.toInt ∧ v.toInt ≤ 4) (hp : 0 ≤ p.toInt ∧ p.toInt ≤ 9) (hq : p.toInt ≠ 0 → 1 ≤ q.toInt ∧ q.toInt ≤ 4) : shC p q mi (woF sh v) = shM p q mi sh v := by
  by_cases c : p.toInt = 0
  · rw [shC_0 (by omega), shM_0 c]
  · rw [shC_1 (by omega), shM_1 c, tb_cb hs hv (by decide), pt_eq hp (hq c)]
    ac_rfl
theorem sh_eq (h : ce (w, me, q, m, d, si, s1, s3) (w2, me2, q2, m2, d2, si2, t1, t3)) (hmq : mqOK me2 q2) (hs : 0 ≤ t3.toInt ∧ t3.toInt ≤ 1) (hw : rg w2 14 0 4) (hQ : rg q2 6 0 4) {n dd r r2 : Int32} {f f2 : Nat → Int32} (hA : shP n dd me r f (smF (fun j9 => shC (f j9) (q j9) (m j9) (woF s3 (w dd.toNatClampNeg))) 0 6)) (hB : shP n dd me2 r2 f2 (smF (fun j9 => shM (f2 j9) (q2 j9) (m2 j9) t3 (w2 dd.toNatClampNeg)) 0 6)) : r.toInt = r2.toInt := by
  obtain ⟨e1, e2, e3, e4, e5, e6, e7, e8⟩ := h
  have e2 : me = me2 := e2
  have e8 : s3 = t3 := e8
  subst e2; subst e8
  rcases hA with ⟨a1, a2⟩ | ⟨a1, a2, a3⟩ | ⟨a1, a2, a3, a4, a5⟩ | ⟨a1, a2, a3, a4, a5⟩ <;> rcases hB with ⟨b1, b2⟩ | ⟨b1, b2, b3⟩ | ⟨b1, b2, b3, b4, b5⟩ | ⟨b1, b2, b3, b4, b5⟩ <;> first | omega | skip
  · exact absurd (al_eq (dg_eq b3 a4) b4) a5
  · exact absurd (al_eq (dg_eq a3 b4) a4) b5
  · rw [a5, b5]
    congr 1
    refine sm_c _ (fun k h1 h2 => ?_)
    have hk : k < 6 := by omega
    show shC (f k) (q k) (m k) (woF s3 (w dd.toNatClampNeg)) = shM (f2 k) (q2 k) (m2 k) s3 (w2 dd.toNatClampNeg)
    rw [show f k = f2 k from dg_eq a3 b3 k hk, show q k = q2 k from e3 k hk, show m k = m2 k from e4 k hk, show w dd.toNatClampNeg = w2 dd.toNatClampNeg from eqN.at e1 a2.1 (by omega)]
    have hd := b3 k hk
    refine shs_eq hs (rgI hw a2.1 (by omega)) (by omega) (fun hp => ?_)
    have hk2 : (Int32.ofNat k).toInt = (k : Int) := nI_toInt (n := k) (by omega)
    have hk3 : (Int32.ofNat k).toNatClampNeg = k := by
      show (Int32.ofNat k).toInt.toNat = k
      omega
    have hh := b4 (Int32.ofNat k) (by omega) (by omega) (by rw [hk3]; exact hp)
    have hb := (hs_i hh).2
    have hbt := bt_of (by omega) (by omega) hb
    rw [hk3] at hbt
    have := hQ k hk
    exact ⟨hmq k hk hbt, this.2⟩
theorem ma_eq {a b c d r r2 me me2 : Int32} (hA : maP a b c d r me) (hB : maP a b c d r2 me2) (e : me = me2) : r.toInt = r2.toInt := by
  subst e
  rcases hA with ⟨a1, a2⟩ | ⟨a1, a2⟩ | ⟨a1, a2, a3⟩ <;> rcases hB with ⟨b1, b2⟩ | ⟨b1, b2⟩ | ⟨b1, b2, b3⟩ <;> first | omega | skip
  rw [a2, b2]
end CP
