/-! LAYER 2: singles: the digit that stands for all that fell off -/
theorem sticky_near {n g r x : Nat} (h0 : 0 < r) (hr : r < 2 ^ g) (hx : 1 ≤ x) : FP.Core.nearest (n * 2 ^ g + r) (2 ^ (x + g)) = FP.Core.nearest (2 * n + 1) (2 ^ (x + 1)) := by
  have hg := Nat.two_pow_pos g
  have hxp := Nat.two_pow_pos x
  have hpx : (2 ^ x : Nat) = 2 * 2 ^ (x - 1) := by
    have : (2 ^ x : Nat) = 2 ^ ((x - 1) + 1) := by rw [show x - 1 + 1 = x by omega]
    rw [this, Nat.pow_succ]; omega
  have hdm := Nat.div_add_mod n (2 ^ x)
  have hml : n % 2 ^ x < 2 ^ x := Nat.mod_lt _ hxp
  have key : ∀ (w t : Nat), 0 < t → t < w → 0 < w → (n * w + t) / (2 ^ x * w) = n / 2 ^ x ∧ (n * w + t) % (2 ^ x * w) = (n % 2 ^ x) * w + t := by
    intro w t t0 tw w0
    have e : n * w + t = (2 ^ x * w) * (n / 2 ^ x) + ((n % 2 ^ x) * w + t) := by
      have : n * w = (2 ^ x * (n / 2 ^ x) + n % 2 ^ x) * w := by rw [hdm]
      rw [this, Nat.add_mul, Nat.add_assoc]
      congr 1
      rw [Nat.mul_assoc, Nat.mul_assoc, Nat.mul_comm (n / 2 ^ x)]
    have hb : (n % 2 ^ x) * w + t < 2 ^ x * w := by
      have : (n % 2 ^ x + 1) * w ≤ 2 ^ x * w := Nat.mul_le_mul_right _ hml
      rw [Nat.add_mul] at this
      omega
    rw [e]
    exact ⟨by rw [Nat.mul_add_div (by exact Nat.mul_pos hxp w0), Nat.div_eq_of_lt hb, Nat.add_zero], by rw [Nat.mul_add_mod, Nat.mod_eq_of_lt hb]⟩
  obtain ⟨k1, k2⟩ := key (2 ^ g) r h0 hr hg
  obtain ⟨j1, j2⟩ := key 2 1 (by decide) (by decide) (by decide)
  rw [show (2 ^ (x + g) : Nat) = 2 ^ x * 2 ^ g from Nat.pow_add _ _ _, show (2 ^ (x + 1) : Nat) = 2 ^ x * 2 from Nat.pow_succ .., show 2 * n + 1 = n * 2 + 1 by omega]
  by_cases c : 2 ^ (x - 1) ≤ n % 2 ^ x
  · have m1 : 2 ^ (x - 1) * 2 ^ g ≤ n % 2 ^ x * 2 ^ g := Nat.mul_le_mul_right _ c
    have m2 : 2 ^ x * 2 ^ g = 2 * (2 ^ (x - 1) * 2 ^ g) := by rw [hpx, Nat.mul_assoc]
    rw [nr_up (by rw [k2]; omega), nr_up (by rw [j2]; omega), k1, j1]
  · have m1 : (n % 2 ^ x + 1) * 2 ^ g ≤ 2 ^ (x - 1) * 2 ^ g := Nat.mul_le_mul_right _ (by omega)
    rw [Nat.add_mul] at m1
    have m2 : 2 ^ x * 2 ^ g = 2 * (2 ^ (x - 1) * 2 ^ g) := by rw [hpx, Nat.mul_assoc]
    rw [nr_dn (by rw [k2]; omega), nr_dn (by rw [j2]; omega), k1, j1]
