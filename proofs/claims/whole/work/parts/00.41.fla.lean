/-! LAYER 2: singles by their values -/
theorem fm_core (a b : UInt32) : FP.fmul a b = FP.Core.fmul a b := rfl
theorem fa_core (a b : UInt32) : FP.fadd a b = FP.Core.fadd a b := rfl
theorem fs_core (a b : UInt32) : FP.fsub a b = FP.Core.fsub a b := rfl
theorem fi_core (a : Int32) : FP.i2f a = FP.Core.i2f a := rfl
theorem ff_core (a : UInt32) : FP.f2i a = FP.Core.f2i a := rfl
theorem fc_core (a b : UInt32) : FP.fcmp a b = FP.Core.fcmp a b := rfl
/-- the single is the number n times 2 to the k -/
def Rp (z : UInt32) (s : Bool) (n : Nat) (k : Int) : Prop := FP.Core.val32 z = FP.Core.round FP.Core.b32 (.fin s n k)
theorem n32_iff (r : UInt32) : vf_n32 r ↔ FP.Core.val32 r ≠ .nan := by
  rw [FP.Core.ne_nan32]
  unfold vf_n32
  rw [UInt32.le_iff_toNat_le, UInt32.toNat_and]
  have e : r.toNat &&& (2147483647 : UInt32).toNat = r.toNat % 2 ^ 31 := Nat.and_two_pow_sub_one_eq_mod r.toNat 31
  rw [e]
  rfl
theorem Rp_n32 {z : UInt32} {s : Bool} {n : Nat} {k : Int} (h : Rp z s n k) : vf_n32 z := by
  rw [n32_iff]
  intro e
  unfold Rp at h
  rw [h] at e
  exact FP.Core.roundRatio_ne_nan _ _ _ _ _ e
theorem p_24 : FP.Core.b32.p = 24 := rfl
theorem qx_104 : FP.Core.b32.qmax = 104 := by decide
/-- exact: what the datum is -/
theorem Rp_exact {z : UInt32} {s : Bool} {n : Nat} {k : Int} (h : Rp z s n k) (hn : n < 16777216) (h1 : -149 ≤ k) (h2 : k ≤ 104) : ∃ (c : Nat) (q : Int), FP.Core.val32 z = .fin s c q ∧ -149 ≤ q ∧ c * 2 ^ (q + 149).toNat = n * 2 ^ (k + 149).toNat := by
  obtain ⟨c, q, e1, e2⟩ := FP.Core.round_exact FP.Core.good_b32 s (c := n) (q := k) (by rw [p_24]; exact hn) (by rw [FP.Core.qmin_b32]; exact h1) (by rw [qx_104]; exact h2)
  have hf := FP.Core.round_fits FP.Core.good_b32 (.fin s n k)
  rw [e1] at hf
  have hq : FP.Core.b32.qmin ≤ q := hf.2.1
  rw [FP.Core.qmin_b32] at hq
  refine ⟨c, q, h.trans e1, hq, ?_⟩
  unfold FP.Core.inUnits at e2
  rw [FP.Core.qmin_b32] at e2
  rw [show q + 149 = q - -149 by omega, show k + 149 = k - -149 by omega]
  exact e2
theorem pw_cross {A B : Nat} {x y : Int} {M : Int} (hx : 0 ≤ x + M) (hy : 0 ≤ y + M) (h : A * 2 ^ (x + M).toNat = B * 2 ^ (y + M).toNat) : A * 2 ^ (x - y).toNat = B * 2 ^ (y - x).toNat := by
  by_cases c : x ≤ y
  · rw [show (x - y).toNat = 0 by omega]
    rw [show (y + M).toNat = (y - x).toNat + (x + M).toNat by omega, Nat.pow_add, ← Nat.mul_assoc] at h
    have := Nat.eq_of_mul_eq_mul_right (Nat.two_pow_pos _) h
    omega
  · rw [show (y - x).toNat = 0 by omega]
    rw [show (x + M).toNat = (x - y).toNat + (y + M).toNat by omega, Nat.pow_add, ← Nat.mul_assoc] at h
    have := Nat.eq_of_mul_eq_mul_right (Nat.two_pow_pos _) h
    omega
theorem Rp_mul {z w : UInt32} {s t : Bool} {n m : Nat} {k j : Int} (hz : Rp z s n k) (hw : Rp w t m j) (hn : n < 16777216) (h1 : -149 ≤ k) (h2 : k ≤ 104) (hm : m < 16777216) (g1 : -149 ≤ j) (g2 : j ≤ 104) : Rp (FP.fmul z w) (s != t) (n * m) (k + j) := by
  obtain ⟨c, q, a1, a2, a3⟩ := Rp_exact hz hn h1 h2
  obtain ⟨d, r, b1, b2, b3⟩ := Rp_exact hw hm g1 g2
  unfold Rp
  rw [fm_core, FP.Core.val32_fmul, a1, b1]
  show FP.Core.roundRatio FP.Core.b32 (s != t) (c * d) 1 (q + r) = FP.Core.roundRatio FP.Core.b32 (s != t) (n * m) 1 (k + j)
  refine FP.Core.roundRatio_congr (by decide) (by decide) ?_
  rw [Nat.mul_one, Nat.mul_one]
  refine pw_cross (M := 298) (by omega) (by omega) ?_
  rw [show (q + r + 298).toNat = (q + 149).toNat + (r + 149).toNat by omega, show (k + j + 298).toNat = (k + 149).toNat + (j + 149).toNat by omega, Nat.pow_add, Nat.pow_add]
  rw [show c * d * (2 ^ (q + 149).toNat * 2 ^ (r + 149).toNat) = (c * 2 ^ (q + 149).toNat) * (d * 2 ^ (r + 149).toNat) by rw [Nat.mul_mul_mul_comm], a3, b3, Nat.mul_mul_mul_comm]
/-- times a power of two -/
theorem Rp_pow {z w : UInt32} {s : Bool} {n : Nat} {k j : Int} (hz : Rp z s n k) (hw : Rp w false 1 j) (hn : n < 16777216) (h1 : -149 ≤ k) (h2 : k ≤ 104) (g1 : -149 ≤ j) (g2 : j ≤ 104) : Rp (FP.fmul z w) s n (k + j) := by
  have := Rp_mul hz hw hn h1 h2 (by decide) g1 g2
  rw [Nat.mul_one, Bool.bne_false] at this
  exact this
theorem Rp_int {n : Nat} (h : n < 16777216) : Rp (FP.i2f (Int32.ofNat n)) false n 0 := by
  unfold Rp
  rw [fi_core, FP.Core.val32_i2f, i_ofNat (by omega)]
  unfold FP.Core.ofInt
  rw [show decide ((n : Int) < 0) = false by simp, show ((n : Int)).natAbs = n by omega]
theorem Rp_f2i {z : UInt32} {n : Nat} (h : Rp z false n 0) (hn : n < 16777216) : FP.f2i z = Int32.ofNat n := by
  have : FP.Core.FInt ((Int32.ofNat n).toInt) z := by
    unfold FP.Core.FInt
    rw [h, i_ofNat (by omega)]
    refine FP.Core.whole_round FP.Core.good_b32 FP.Core.wide_b32 (by rw [p_24]; omega) ?_
    have := FP.Core.whole_ofInt (n : Int)
    unfold FP.Core.ofInt at this
    rw [show decide ((n : Int) < 0) = false by simp, show ((n : Int)).natAbs = n by omega] at this
    exact this
  rw [ff_core]
  exact FP.Core.f2i_int this
