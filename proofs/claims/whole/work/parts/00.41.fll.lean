/-! LAYER 2: singles: finite bits; whole numbers -/
theorem e_bit : ∀ E : Nat, E < 255 → ∃ i : Nat, i < 8 ∧ ∀ j : Nat, j < 32 → j = 23 + i → (Int32.ofNat E <<< ((23 : Int32) &&& 31)).toBitVec.getLsbD j = false := by decide +kernel
theorem sg_bit (s : Bool) : ∀ j : Nat, j < 31 → (sgB s).toBitVec.getLsbD j = false := by cases s <;> decide +kernel
theorem t_bit {t j : Nat} (h : t < 8388608) (hj : 23 ≤ j) : (Int32.ofNat t).toBitVec.getLsbD j = false := by
  show (BitVec.ofNat 32 t).getLsbD j = false
  rw [BitVec.getLsbD_ofNat, Nat.testBit_lt_two_pow (Nat.lt_of_lt_of_le h (show (8388608 : Nat) ≤ 2 ^ j from Nat.pow_le_pow_right (n := 2) (by decide) hj))]
  exact Bool.and_false _
theorem fin_bit {v : Int32} {j : Nat} (h1 : 23 ≤ j) (h2 : j < 31) (h : v.toBitVec.getLsbD j = false) : finB v := by
  intro e
  have hb := congrArg (fun z : Int32 => z.toBitVec.getLsbD j) e
  have hm : ∀ i : Nat, i < 31 → 23 ≤ i → (2139095040 : Int32).toBitVec.getLsbD i = true := by decide +kernel
  simp only [Int32.toBitVec_and, BitVec.getLsbD_and, h, Bool.false_and] at hb
  rw [hm j h2 h1] at hb
  exact absurd hb (by decide)
theorem ofN_sub {c : Nat} (h0 : 8388608 ≤ c) (h : c < 16777216) : Int32.ofNat c - 8388608 = Int32.ofNat (c - 8388608) := by
  refine i_eq.mpr ?_
  have z : (8388608 : Int32).toInt = 8388608 := rfl
  rw [i_sub (by rw [i_ofNat (by omega), z]; omega) (by rw [i_ofNat (by omega), z]; omega), i_ofNat (by omega), z, i_ofNat (by omega)]
  omega
theorem fin_maB {s : Bool} {c : Nat} {q : Int} (hc : c < 16777216) (h1 : -149 ≤ q) (h2 : q ≤ 104) : finB (maB (sgB s) c q) := by
  unfold maB
  by_cases c23 : 8388608 ≤ c
  · rw [if_pos c23]
    unfold nrB
    obtain ⟨i, hi, hb⟩ := e_bit (q + 150).toNat (by omega)
    refine fin_bit (j := 23 + i) (by omega) (by omega) ?_
    rw [ofN_sub c23 hc, Int32.toBitVec_or, BitVec.getLsbD_or, Int32.toBitVec_or, BitVec.getLsbD_or, sg_bit s _ (by omega), hb _ (by omega) rfl, t_bit (by omega) (by omega)]
    rfl
  · rw [if_neg c23]
    refine fin_bit (j := 23) (by decide) (by decide) ?_
    rw [Int32.toBitVec_or, BitVec.getLsbD_or, sg_bit s _ (by decide), t_bit (by omega) (by decide)]
    rfl
/-- a single that is no zero: both ways of naming its bits -/
theorem dB_same {d : FP.Core.Datum} (h : ∀ s q, ¬ d = .fin s 0 q) : dB d = dBs d := by
  cases d with
  | nan => rfl
  | inf s => rfl
  | fin s c q =>
    have c0 : ¬ c = 0 := fun e => h s q (by rw [e])
    show (if c = 0 then 0 else maB (sgB s) c q) = maB (sgB s) c q
    rw [if_neg c0]
theorem fin_dB {z : UInt32} (h : FP.Core.FFin z) : finB (dB (FP.Core.val32 z)) := by
  obtain ⟨s, c, q, e⟩ := h
  have hf := FP.Core.val32_fits z
  rw [e] at hf ⊢
  obtain ⟨f1, f2, f3, f4⟩ := hf
  rw [FP.Core.qmin_b32] at f2
  rw [qx_104] at f3
  show finB (if c = 0 then 0 else maB (sgB s) c q)
  by_cases c0 : c = 0
  · rw [if_pos c0]; exact (show ¬ ((0 : Int32) &&& 2139095040) = 2139095040 by decide)
  · rw [if_neg c0]; exact fin_maB f1 f2 f3
theorem rr_dbl {s : Bool} {n : Nat} {p : Int} : FP.Core.roundRatio FP.Core.b32 s (2 * n + 0) 1 (p - 1) = FP.Core.roundRatio FP.Core.b32 s n 1 p := by
  refine FP.Core.roundRatio_congr (by decide) (by decide) ?_
  rw [show (p - 1 - p).toNat = 0 by omega, show (p - (p - 1)).toNat = 1 by omega]
  omega
theorem f24_pair' (i : Int32) : ∃ v : Int32, finB v ∧ (∀ Q : Int32 → Unit → Prop, Q v () → wp_X4_bitsOf () (FP.i2f i) Q) ∧ (∀ Q : Int32 → Unit → Prop, Q v () → wp_X8_ofInt () i Q) := by
  by_cases c0 : i = 0
  · subst c0
    have e : FP.i2f 0 = 0 := by decide +kernel
    refine ⟨0, (show ¬ ((0 : Int32) &&& 2139095040) = 2139095040 by decide), fun Q q => by rw [e]; exact bits_0 Q q, fun Q q => ?_⟩
    unfold wp_X8_ofInt
    exact ⟨fun c => absurd rfl c, fun _ => q⟩
  · have hfin := FP.Core.i2f_fin i
    have hnz := FP.Core.i2f_ne_zero c0
    have hv : FP.Core.val32 (FP.Core.i2f i) = FP.Core.roundRatio FP.Core.b32 (decide (i.toInt < 0)) i.toInt.natAbs 1 0 := FP.Core.val32_i2f i
    have hsame : dB (FP.Core.val32 (FP.Core.i2f i)) = dBs (FP.Core.val32 (FP.Core.i2f i)) := dB_same (fun s q e => hnz ((FP.Core.zero_bits232 _).mp ⟨s, q, e⟩))
    have hlo := i_lo i
    have hhi := i_hi i
    have z0 : (0 : Int32).toInt = 0 := rfl
    have hi0 : ¬ i.toInt = 0 := fun e => c0 (i_eq.mpr (by rw [e, z0]))
    refine ⟨dB (FP.Core.val32 (FP.Core.i2f i)), fin_dB hfin, fun Q q => bits_datum hfin.ne_nan Q q, fun Q q => ?_⟩
    rw [hsame, hv] at q
    unfold wp_X8_ofInt
    refine ⟨fun _ => ⟨fun c x3 e3 => ⟨fun _ => ?_, fun d => absurd c d⟩, fun c x9 e9 => ⟨fun d => absurd d c, fun _ => ?_⟩⟩, fun d => absurd d c0⟩
    · rw [i_le, z0] at c
      have e : x3 = L6 i.toInt.natAbs := by
        rw [e3]
        refine l_eq.mpr ?_
        rw [Int32.toInt_toInt64, l_int (by omega)]
        omega
      subst e
      rw [decide_eq_false (by omega)] at q
      refine rounded_model (s := false) (lit := 0) (p := 0) (Or.inl ⟨rfl, rfl⟩) (by omega) (by omega) z0 (by decide) (by decide) (Or.inr (by decide)) (Or.inl ⟨rfl, rfl⟩) _ ?_
      rw [rr_dbl]
      exact q
    · rw [i_le, z0] at c
      have e : x9 = L6 i.toInt.natAbs := by
        rw [e9]
        refine l_eq.mpr ?_
        rw [Int64.toInt_neg, Int32.toInt_toInt64, l_int (by omega), Int.bmod_eq_of_le (by simp; omega) (by simp; omega)]
        omega
      subst e
      rw [decide_eq_true (by omega)] at q
      refine rounded_model (s := true) (lit := 0) (p := 0) (Or.inr ⟨by decide, rfl⟩) (by omega) (by omega) z0 (by decide) (by decide) (Or.inr (by decide)) (Or.inl ⟨rfl, rfl⟩) _ ?_
      rw [rr_dbl]
      exact q
