/-! LAYER 2: singles: to whole numbers, both -/
theorem big_cl (s : Bool) {m : Nat} (h : 4294967296 ≤ m) : clB s m = clB s 4294967296 := by
  cases s
  · exact (show clB false m = 2147483647 from if_neg (show ¬ m ≤ 2147483647 by omega)).trans (show clB false 4294967296 = 2147483647 by decide +kernel).symm
  · exact (show clB true m = -2147483648 from if_neg (show ¬ m ≤ 2147483648 by omega)).trans (show clB true 4294967296 = -2147483648 by decide +kernel).symm
/-- the whole part -/
def wh (a : Int32) : Nat := if 0 ≤ fP a then fS a * 2 ^ (fP a).toNat else fS a / 2 ^ (-(fP a)).toNat
theorem toInt_model {a : Int32} (ha : finB a) (Q : Int32 → Unit → Prop) (q : Q (clB (fN a) (wh a)) ()) : wp_X8_toInt () a Q := by
  have s1 := fS_lt a
  have p1 := fP_lo a
  have p2 := fP_hi ha
  unfold wp_X8_toInt
  refine fraction_model a _ (place_model a _ (fun r hr => ?_))
  unfold wh at q
  by_cases c : 0 ≤ fP a
  · rw [if_pos c] at q
    show wp_X8_toInt_L13 Q (1999 + 1) a (L6 (fS a)) r 0 ()
    unfold wp_X8_toInt_L13
    refine ⟨fun _ => ?_, fun d => absurd (i_le.mpr (by rw [hr, show (0 : Int32).toInt = 0 from rfl]; exact c)) d⟩
    exact ti_up (P := (fP a).toNat) (by rw [hr]; omega) (by omega) Q (fP a).toNat 0 2000 (fS a) (by omega) (by omega) (by omega) (fun h => by rw [big_cl _ h] at q; exact q) (fun _ => q)
  · rw [if_neg c] at q
    exact ti_down (P := (-(fP a)).toNat) (by rw [hr]; omega) (by omega) Q (-(fP a)).toNat 0 2000 (fS a) (by omega) (by omega) s1 q
theorem clB_int (s : Bool) {m : Nat} (hm : m < 9223372036854775808) : (clB s m).toInt = max (-2 ^ 31) (min (2 ^ 31 - 1) (FP.Core.signed s m)) := by
  cases s
  · show (clB false m).toInt = max (-2147483648) (min 2147483647 (m : Int))
    by_cases c : m ≤ 2147483647
    · have e : clB false m = Int64.toInt32 (L6 m) := if_pos c
      rw [e, l_i32 (by omega), i_ofNat (by omega)]
      omega
    · have e : clB false m = 2147483647 := if_neg c
      rw [e, show (2147483647 : Int32).toInt = 2147483647 from rfl]
      omega
  · show (clB true m).toInt = max (-2147483648) (min 2147483647 (-(m : Int)))
    by_cases c : m ≤ 2147483648
    · have e : clB true m = Int64.toInt32 (-(L6 m)) := if_pos c
      have hneg : (-(L6 m)).toInt = -(m : Int) := by
        rw [Int64.toInt_neg, l_int hm]
        exact Int.bmod_eq_of_le (by simp; omega) (by simp; omega)
      rw [e, Int64.toInt_toInt32, hneg, Int.bmod_eq_of_le (by simp; omega) (by simp; omega)]
      omega
    · have e : clB true m = -2147483648 := if_neg c
      rw [e, show (-2147483648 : Int32).toInt = -2147483648 from rfl]
      omega
theorem wh_units {a : Int32} : fS a * 2 ^ (fP a + 149).toNat / 2 ^ 149 = wh a := by
  have p1 := fP_lo a
  unfold wh
  by_cases c : 0 ≤ fP a
  · rw [if_pos c, show (fP a + 149).toNat = (fP a).toNat + 149 by omega, Nat.pow_add, ← Nat.mul_assoc]
    exact Nat.mul_div_cancel _ (Nat.two_pow_pos _)
  · rw [if_neg c]
    have e : (2 ^ 149 : Nat) = 2 ^ (-(fP a)).toNat * 2 ^ (fP a + 149).toNat := by
      rw [← Nat.pow_add, show (-(fP a)).toNat + (fP a + 149).toNat = 149 by omega]
    rw [e]
    exact Nat.mul_div_mul_right _ _ (Nat.two_pow_pos _)
theorem f23_pair' {a : Int32} (ha : finB a) : ∃ (z : UInt32) (v : Int32), (∀ Q : UInt32 → Unit → Prop, Q z () → wp_X4_valueOf () a Q) ∧ FP.f2i z = v ∧ (∀ Q : Int32 → Unit → Prop, Q v () → wp_X8_toInt () a Q) := by
  have s1 := fS_lt a
  have p1 := fP_lo a
  have p2 := fP_hi ha
  refine ⟨vOf a, clB (fN a) (wh a), fun Q q => value_class ha Q q, ?_, fun Q q => toInt_model ha Q q⟩
  by_cases c0 : fS a = 0
  · have e1 : vOf a = 0 := if_pos c0
    have e2 : wh a = 0 := by
      unfold wh
      split
      · rw [c0, Nat.zero_mul]
      · rw [c0, Nat.zero_div]
    rw [e1, e2]
    cases fN a <;> decide +kernel
  · have e1 : vOf a = uB a := if_neg c0
    rw [e1]
    show Int32.ofInt (FP.Core.toInt (-2 ^ 31) (2 ^ 31 - 1) (FP.Core.val32 (uB a))) = _
    have hv := uB_val ha
    have hf := FP.Core.val32_fits (uB a)
    rw [hv] at hf ⊢
    rw [FP.Core.toInt_zmag FP.Core.good_b32 hf (by intro z; cases z) (by decide +kernel) (by decide +kernel) (by decide)]
    have ez : FP.Core.zmag FP.Core.b32 (.fin (fN a) (fS a) (fP a)) / 2 ^ (-FP.Core.b32.qmin).toNat = wh a := by
      show fS a * 2 ^ (fP a - FP.Core.b32.qmin).toNat / 2 ^ (-FP.Core.b32.qmin).toNat = wh a
      rw [FP.Core.qmin_b32, show fP a - -149 = fP a + 149 by omega]
      exact wh_units
    rw [ez]
    have hw : wh a < 9223372036854775808 ∨ 9223372036854775808 ≤ wh a := by omega
    have key : max (-2 ^ 31) (min (2 ^ 31 - 1) (FP.Core.signed (fN a) (wh a))) = (clB (fN a) (wh a)).toInt := by
      rcases hw with w | w
      · exact (clB_int _ w).symm
      · rw [big_cl _ (by omega), clB_int _ (by decide)]
        cases fN a
        · show max (-2147483648) (min 2147483647 ((wh a : Nat) : Int)) = max (-2147483648) (min 2147483647 ((4294967296 : Nat) : Int))
          omega
        · show max (-2147483648) (min 2147483647 (-((wh a : Nat) : Int))) = max (-2147483648) (min 2147483647 (-((4294967296 : Nat) : Int)))
          omega
    show Int32.ofInt (max (-2 ^ 31) (min (2 ^ 31 - 1) (FP.Core.signed (fN a) (wh a)))) = _
    rw [key, Int32.ofInt_toInt]
