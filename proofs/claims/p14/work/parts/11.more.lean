theorem rg_cpy {f g : Nat → Int32} {n : Nat} {lo hi : Int} (h : rg f n lo hi) : rg (va_cpy f g 0 0 n) n lo hi := by
  intro k hk
  have e : va_cpy f g 0 0 n k = f k := by
    unfold va_cpy
    rw [if_pos (by omega)]
    congr 1
    omega
  rw [e]
  exact h k hk
