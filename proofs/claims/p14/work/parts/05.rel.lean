theorem kp_step {i : Int32} {f f2 g g2 : Nat → Int32} (e : ∀ j9 : Nat, j9 < 2 → f j9 = g j9) (h : (i.toInt = 0 ∧ f2 = upd f 0 1) ∨ (i.toInt = 1 ∧ f2 = upd f 1 1) ∨ ((i.toInt < 0 ∨ 1 < i.toInt) ∧ f2 = f)) (k : (i.toInt = 0 ∧ g2 = upd g 0 1) ∨ (i.toInt = 1 ∧ g2 = upd g 1 1) ∨ ((i.toInt < 0 ∨ 1 < i.toInt) ∧ g2 = g)) : ∀ j9 : Nat, j9 < 2 → f2 j9 = g2 j9 := by
  intro j hj
  rcases h with ⟨h1, rfl⟩ | ⟨h1, rfl⟩ | ⟨h1, rfl⟩ <;> rcases k with ⟨k1, rfl⟩ | ⟨k1, rfl⟩ | ⟨k1, rfl⟩ <;> first | (exfalso; omega) | skip
  · by_cases q : j = 0
    · subst q; rw [pk_us, pk_us]
    · rw [pk_un q, pk_un q]; exact e j hj
  · by_cases q : j = 1
    · subst q; rw [pk_us, pk_us]
    · rw [pk_un q, pk_un q]; exact e j hj
  · exact e j hj
/-- two arrays are the same as far as they go -/
def eqN (n : Nat) (f g : Nat → Int32) : Prop := ∀ j9 : Nat, j9 < n → f j9 = g j9
theorem eqN.rf {n : Nat} {f : Nat → Int32} : eqN n f f := fun _ _ => rfl
theorem eqN.eq {n : Nat} {f g : Nat → Int32} (h : f = g) : eqN n f g := by rw [h]; exact eqN.rf
theorem eqN.sy {n : Nat} {f g : Nat → Int32} (h : eqN n f g) : eqN n g f := fun j hj => (h j hj).symm
theorem eqN.tr {n : Nat} {f g k : Nat → Int32} (h : eqN n f g) (h2 : eqN n g k) : eqN n f k := fun j hj => (h j hj).trans (h2 j hj)
theorem eqN.up {n : Nat} {f g : Nat → Int32} (h : eqN n f g) {k : Nat} {v : Int32} : eqN n (upd f k v) (upd g k v) := by
  intro j hj
  by_cases q : j = k
  · subst q; rw [pk_us, pk_us]
  · rw [pk_un q, pk_un q]; exact h j hj
theorem eqN.cpy {n : Nat} {f g : Nat → Int32} : eqN n (va_cpy f g 0 0 n) f := by
  intro k hk
  unfold va_cpy
  rw [if_pos (by omega)]
  congr 1
  omega
theorem eqN.at {n : Nat} {f g : Nat → Int32} (h : eqN n f g) {i : Int32} (h0 : 0 ≤ i.toInt) (h1 : i.toInt < (n : Int)) : f i.toNatClampNeg = g i.toNatClampNeg :=
  h _ (by show i.toInt.toNat < n; omega)
/-- what both sides hold alike: winds, which meals there are, quarts, minutes, degrees, sights, height, shield -/
abbrev CV := (Nat → Int32) × Int32 × (Nat → Int32) × (Nat → Int32) × (Nat → Int32) × Int32 × Int32 × Int32
def ce (a b : CV) : Prop := eqN 14 a.1 b.1 ∧ a.2.1 = b.2.1 ∧ eqN 6 a.2.2.1 b.2.2.1 ∧ eqN 6 a.2.2.2.1 b.2.2.2.1 ∧ eqN 6 a.2.2.2.2.1 b.2.2.2.2.1 ∧ a.2.2.2.2.2.1 = b.2.2.2.2.2.1 ∧ a.2.2.2.2.2.2.1 = b.2.2.2.2.2.2.1 ∧ a.2.2.2.2.2.2.2 = b.2.2.2.2.2.2.2
theorem ce.rf {a : CV} : ce a a := ⟨eqN.rf, rfl, eqN.rf, eqN.rf, eqN.rf, rfl, rfl, rfl⟩
theorem ce.sy {a b : CV} (h : ce a b) : ce b a := ⟨h.1.sy, h.2.1.symm, h.2.2.1.sy, h.2.2.2.1.sy, h.2.2.2.2.1.sy, h.2.2.2.2.2.1.symm, h.2.2.2.2.2.2.1.symm, h.2.2.2.2.2.2.2.symm⟩
theorem ce.tr {a b c : CV} (h : ce a b) (k : ce b c) : ce a c := ⟨h.1.tr k.1, h.2.1.trans k.2.1, h.2.2.1.tr k.2.2.1, h.2.2.2.1.tr k.2.2.2.1, h.2.2.2.2.1.tr k.2.2.2.2.1, h.2.2.2.2.2.1.trans k.2.2.2.2.2.1, h.2.2.2.2.2.2.1.trans k.2.2.2.2.2.2.1, h.2.2.2.2.2.2.2.trans k.2.2.2.2.2.2.2⟩
theorem ce.mk {w w2 q q2 m m2 d d2 : Nat → Int32} {me me2 si si2 s1 t1 s3 t3 : Int32} (h1 : eqN 14 w w2) (h2 : me = me2) (h3 : eqN 6 q q2) (h4 : eqN 6 m m2) (h5 : eqN 6 d d2) (h6 : si = si2) (h7 : s1 = t1) (h8 : s3 = t3) : ce (w, me, q, m, d, si, s1, s3) (w2, me2, q2, m2, d2, si2, t1, t3) := ⟨h1, h2, h3, h4, h5, h6, h7, h8⟩
/-- the view of an image that the reference keeps at o -/
def kv (Y : Nat → Int32) (o : Nat) : CV := (fun d => Y (o + 9 + 2 * d), Y (o + 7), fun m => Y (o + 37 + 3 * m), fun m => Y (o + 38 + 3 * m), fun m => Y (o + 39 + 3 * m), Y (o + 8), Y (o + 1), Y (o + 3))
theorem kv_same {Y Z : Nat → Int32} {o : Nat} (h : ∀ p, o ≤ p → p < o + 71 → Y p = Z p) : ce (kv Y o) (kv Z o) :=
  ⟨fun j hj => h _ (by omega) (by omega), h _ (by omega) (by omega), fun j hj => h _ (by omega) (by omega), fun j hj => h _ (by omega) (by omega), fun j hj => h _ (by omega) (by omega), h _ (by omega) (by omega), h _ (by omega) (by omega), h _ (by omega) (by omega)⟩
/-- set -/
abbrev setP (a b s1 t1 s3 t3 : Int32) : Prop := (t1 = if a.toInt = 1 ∧ 0 ≤ b.toInt ∧ b.toInt ≤ 60 then b else s1) ∧ (t3 = if a.toInt = 3 ∧ 0 ≤ b.toInt ∧ b.toInt ≤ 1 then b else s3)
theorem ce_set {w w2 q q2 m m2 d d2 : Nat → Int32} {me me2 si si2 s1 t1 s3 t3 s1' t1' s3' t3' a b : Int32} (h : ce (w, me, q, m, d, si, s1, s3) (w2, me2, q2, m2, d2, si2, t1, t3)) (k : setP a b s1 s1' s3 s3') (l : setP a b t1 t1' t3 t3') : ce (w, me, q, m, d, si, s1', s3') (w2, me2, q2, m2, d2, si2, t1', t3') :=
  ⟨h.1, h.2.1, h.2.2.1, h.2.2.2.1, h.2.2.2.2.1, h.2.2.2.2.2.1, by
    have e : s1 = t1 := h.2.2.2.2.2.2.1
    show s1' = t1'; rw [k.1, l.1, e], by
    have e : s3 = t3 := h.2.2.2.2.2.2.2
    show s3' = t3'; rw [k.2, l.2, e]⟩
theorem ce_s {w w2 q q2 m m2 d d2 : Nat → Int32} {me me2 si si2 s1 t1 s3 t3 s1' s3' : Int32} (h : ce (w, me, q, m, d, si, s1, s3) (w2, me2, q2, m2, d2, si2, t1, t3)) (k : s1' = s1 ∧ s3' = s3) : ce (w, me, q, m, d, si, s1', s3') (w2, me2, q2, m2, d2, si2, t1, t3) :=
  ⟨h.1, h.2.1, h.2.2.1, h.2.2.2.1, h.2.2.2.2.1, h.2.2.2.2.2.1, k.1.trans h.2.2.2.2.2.2.1, k.2.trans h.2.2.2.2.2.2.2⟩
theorem ce_si {w w2 q q2 m m2 d d2 : Nat → Int32} {me me2 si si2 s1 t1 s3 t3 si' si2' : Int32} (h : ce (w, me, q, m, d, si, s1, s3) (w2, me2, q2, m2, d2, si2, t1, t3)) (k : si'.toInt = si2'.toInt) : ce (w, me, q, m, d, si', s1, s3) (w2, me2, q2, m2, d2, si2', t1, t3) :=
  ⟨h.1, h.2.1, h.2.2.1, h.2.2.2.1, h.2.2.2.2.1, ceq k, h.2.2.2.2.2.2.1, h.2.2.2.2.2.2.2⟩
/-- day -/
abbrev dayP (a b r : Int32) (f g : Nat → Int32) : Prop := (0 ≤ a.toInt ∧ a.toInt ≤ 13 ∧ 0 ≤ b.toInt ∧ b.toInt ≤ 4 ∧ r = f a.toNatClampNeg ∧ g = upd f a.toNatClampNeg b) ∨ ((a.toInt < 0 ∨ 13 < a.toInt) ∧ r.toInt = -1 ∧ g = f) ∨ (0 ≤ a.toInt ∧ a.toInt ≤ 13 ∧ (b.toInt < 0 ∨ 4 < b.toInt) ∧ r.toInt = -2 ∧ g = f)
theorem day_step {a b r r2 : Int32} {f g f2 g2 : Nat → Int32} (e : eqN 14 f g) (h : dayP a b r f f2) (k : dayP a b r2 g g2) : r.toInt = r2.toInt ∧ eqN 14 f2 g2 := by
  rcases h with ⟨h1, h2, h3, h4, h5, rfl⟩ | ⟨h1, h2, rfl⟩ | ⟨h1, h2, h3, h4, rfl⟩ <;> rcases k with ⟨k1, k2, k3, k4, k5, rfl⟩ | ⟨k1, k2, rfl⟩ | ⟨k1, k2, k3, k4, rfl⟩ <;> first | (exfalso; omega) | skip
  · exact ⟨by rw [h5, k5, e.at h1 (by omega)], e.up⟩
  · exact ⟨by omega, e⟩
  · exact ⟨by omega, e⟩
theorem ce_day {w w2 q q2 m m2 d d2 : Nat → Int32} {me me2 si si2 s1 t1 s3 t3 : Int32} {v v2 : Nat → Int32} (h : ce (w, me, q, m, d, si, s1, s3) (w2, me2, q2, m2, d2, si2, t1, t3)) (k : eqN 14 v v2) : ce (v, me, q, m, d, si, s1, s3) (v2, me2, q2, m2, d2, si2, t1, t3) := ⟨k, h.2⟩
/-- meal -/
abbrev mlP (a b c d me me2 : Int32) (q q2 m m2 e e2 : Nat → Int32) : Prop := ((0 ≤ a.toInt ∧ a.toInt ≤ 5 ∧ 1 ≤ b.toInt ∧ b.toInt ≤ 4 ∧ 0 ≤ c.toInt ∧ c.toInt ≤ 60 ∧ 1 ≤ d.toInt ∧ d.toInt ≤ 100) ∧ me2 = me ||| ((1 : Int32) <<< (a &&& 31)) ∧ q2 = upd q a.toNatClampNeg b ∧ m2 = upd m a.toNatClampNeg c ∧ e2 = upd e a.toNatClampNeg d) ∨ ((a.toInt < 0 ∨ 5 < a.toInt ∨ b.toInt < 1 ∨ 4 < b.toInt ∨ c.toInt < 0 ∨ 60 < c.toInt ∨ d.toInt < 1 ∨ 100 < d.toInt) ∧ me2 = me ∧ q2 = q ∧ m2 = m ∧ e2 = e)
theorem ce_meal {w w2 q q2 m m2 d d2 : Nat → Int32} {me me2 si si2 s1 t1 s3 t3 : Int32} {a b c x : Int32} {q' q2' m' m2' d' d2' : Nat → Int32} {me' me2' : Int32} (h : ce (w, me, q, m, d, si, s1, s3) (w2, me2, q2, m2, d2, si2, t1, t3)) (k : mlP a b c x me me' q q' m m' d d') (l : mlP a b c x me2 me2' q2 q2' m2 m2' d2 d2') : ce (w, me', q', m', d', si, s1, s3) (w2, me2', q2', m2', d2', si2, t1, t3) := by
  have e : me = me2 := h.2.1
  rcases k with ⟨k0, k1, k2, k3, k4⟩ | ⟨k0, k1, k2, k3, k4⟩ <;> rcases l with ⟨l0, l1, l2, l3, l4⟩ | ⟨l0, l1, l2, l3, l4⟩ <;> first | (exfalso; omega) | skip
  · subst k2 l2 k3 l3 k4 l4
    exact ⟨h.1, by show me' = me2'; rw [k1, l1, e], h.2.2.1.up, h.2.2.2.1.up, h.2.2.2.2.1.up, h.2.2.2.2.2⟩
  · subst k2 l2 k3 l3 k4 l4
    exact ⟨h.1, by show me' = me2'; rw [k1, l1, e], h.2.2⟩
/-- images -/
abbrev imP (i : Int32) (c y z y2 z2 : CV) : Prop := (i.toInt = 0 ∧ ce y2 c ∧ ce z2 z) ∨ (i.toInt = 1 ∧ ce y2 y ∧ ce z2 c) ∨ ((i.toInt < 0 ∨ 1 < i.toInt) ∧ ce y2 y ∧ ce z2 z)
abbrev reP (i : Int32) (f : Nat → Int32) (c y z c2 : CV) : Prop := (i.toInt = 0 ∧ ((f 0).toInt ≠ 0 ∧ ce c2 y ∨ (f 0).toInt = 0 ∧ ce c2 c)) ∨ (i.toInt = 1 ∧ ((f 1).toInt ≠ 0 ∧ ce c2 z ∨ (f 1).toInt = 0 ∧ ce c2 c)) ∨ ((i.toInt < 0 ∨ 1 < i.toInt) ∧ ce c2 c)
theorem im_0 {i : Int32} {c y z y2 z2 m n o n2 o2 : CV} {g g2 : Nat → Int32} (h : ce c m) (k : imP i c y z y2 z2) (l : imP i m n o n2 o2) (t : (i.toInt = 0 ∧ g2 = upd g 0 1) ∨ (i.toInt = 1 ∧ g2 = upd g 1 1) ∨ ((i.toInt < 0 ∨ 1 < i.toInt) ∧ g2 = g)) (h0 : (g 0).toInt ≠ 0 → ce y n) : (g2 0).toInt ≠ 0 → ce y2 n2 := by
  intro hg
  rcases k with ⟨k1, k2, k3⟩ | ⟨k1, k2, k3⟩ | ⟨k1, k2, k3⟩ <;> rcases l with ⟨l1, l2, l3⟩ | ⟨l1, l2, l3⟩ | ⟨l1, l2, l3⟩ <;> rcases t with ⟨t1, rfl⟩ | ⟨t1, rfl⟩ | ⟨t1, rfl⟩ <;> first | (exfalso; omega) | skip
  · exact (k2.tr h).tr l2.sy
  · exact (k2.tr (h0 (by rw [pk_un (by decide)] at hg; exact hg))).tr l2.sy
  · exact (k2.tr (h0 hg)).tr l2.sy
theorem im_1 {i : Int32} {c y z y2 z2 m n o n2 o2 : CV} {g g2 : Nat → Int32} (h : ce c m) (k : imP i c y z y2 z2) (l : imP i m n o n2 o2) (t : (i.toInt = 0 ∧ g2 = upd g 0 1) ∨ (i.toInt = 1 ∧ g2 = upd g 1 1) ∨ ((i.toInt < 0 ∨ 1 < i.toInt) ∧ g2 = g)) (h0 : (g 1).toInt ≠ 0 → ce z o) : (g2 1).toInt ≠ 0 → ce z2 o2 := by
  intro hg
  rcases k with ⟨k1, k2, k3⟩ | ⟨k1, k2, k3⟩ | ⟨k1, k2, k3⟩ <;> rcases l with ⟨l1, l2, l3⟩ | ⟨l1, l2, l3⟩ | ⟨l1, l2, l3⟩ <;> rcases t with ⟨t1, rfl⟩ | ⟨t1, rfl⟩ | ⟨t1, rfl⟩ <;> first | (exfalso; omega) | skip
  · exact (k3.tr (h0 (by rw [pk_un (by decide)] at hg; exact hg))).tr l3.sy
  · exact (k3.tr h).tr l3.sy
  · exact (k3.tr (h0 hg)).tr l3.sy
theorem re_c {i : Int32} {c y z c2 m n o m2 : CV} {f g : Nat → Int32} (h : ce c m) (e : ∀ j9 : Nat, j9 < 2 → f j9 = g j9) (k : reP i f c y z c2) (l : reP i g m n o m2) (h0 : (g 0).toInt ≠ 0 → ce y n) (h1 : (g 1).toInt ≠ 0 → ce z o) : ce c2 m2 := by
  have e0 : (f 0).toInt = (g 0).toInt := congrArg Int32.toInt (e 0 (by decide))
  have e1 : (f 1).toInt = (g 1).toInt := congrArg Int32.toInt (e 1 (by decide))
  rcases k with ⟨k1, ⟨k2, k3⟩ | ⟨k2, k3⟩⟩ | ⟨k1, ⟨k2, k3⟩ | ⟨k2, k3⟩⟩ | ⟨k1, k3⟩ <;> rcases l with ⟨l1, ⟨l2, l3⟩ | ⟨l2, l3⟩⟩ | ⟨l1, ⟨l2, l3⟩ | ⟨l2, l3⟩⟩ | ⟨l1, l3⟩ <;> first | (exfalso; omega) | skip
  · exact (k3.tr (h0 l2)).tr l3.sy
  · exact (k3.tr h).tr l3.sy
  · exact (k3.tr (h1 l2)).tr l3.sy
  · exact (k3.tr h).tr l3.sy
  · exact (k3.tr h).tr l3.sy
