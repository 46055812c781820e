/-! LAYER 2: singles: what lies between two numbers rounds like the middle -/
theorem ln_unique {n L : Nat} (h1 : 2 ^ L ≤ n) (h2 : n < 2 ^ (L + 1)) : ln n = L + 1 := by
  have n0 : ¬ n = 0 := fun e => by have := Nat.two_pow_pos L; omega
  obtain ⟨a1, a2, a3⟩ := ln_lo n0
  have b1 : L < ln n := (Nat.pow_lt_pow_iff_right (a := 2) (by decide)).mp (Nat.lt_of_le_of_lt h1 a2)
  have b2 : ln n - 1 < L + 1 := (Nat.pow_lt_pow_iff_right (a := 2) (by decide)).mp (Nat.lt_of_le_of_lt a1 h2)
  omega
theorem ln_between {n g r : Nat} (h : ¬ n = 0) (hr : r < 2 ^ g) : ln (n * 2 ^ g + r) = ln n + g := by
  obtain ⟨a1, a2, a3⟩ := ln_lo h
  have e : ln n + g = (ln n - 1 + g) + 1 := by omega
  rw [e]
  refine ln_unique ?_ ?_
  · rw [Nat.pow_add]
    exact Nat.le_trans (Nat.mul_le_mul_right _ a1) (Nat.le_add_right _ _)
  · rw [show ln n - 1 + g + 1 = ln n + g by omega, Nat.pow_add]
    have : (n + 1) * 2 ^ g ≤ 2 ^ ln n * 2 ^ g := Nat.mul_le_mul_right _ a2
    rw [Nat.add_mul] at this
    omega
