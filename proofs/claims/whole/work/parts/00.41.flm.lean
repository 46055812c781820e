/-! LAYER 2: singles: sixteenths, products -/
theorem Rp_m4 : Rp 1031798784 false 1 (-4) := by unfold Rp; decide +kernel
theorem Rp_ff {z : UInt32} {s : Bool} {n : Nat} {k : Int} (h : Rp z s n k) (hn : n < 16777216) (h1 : -149 ≤ k) (h2 : k ≤ 104) : FP.Core.FFin z ∧ (¬ n = 0 → ∀ s' q, ¬ FP.Core.val32 z = .fin s' 0 q) := by
  obtain ⟨c, q, a1, a2, a3⟩ := Rp_exact h hn h1 h2
  refine ⟨⟨s, c, q, a1⟩, fun n0 s' q' e => ?_⟩
  rw [a1] at e
  injection e with e1 e2 e3
  rw [e2, Nat.zero_mul] at a3
  rcases Nat.mul_eq_zero.mp a3.symm with w | w
  · exact n0 w
  · exact absurd w (Nat.ne_of_gt (Nat.two_pow_pos _))
theorem f20_pair' {y : Int32} (h0 : 0 ≤ y.toInt) (h1 : y.toInt < 256) : ∃ v : Int32, finB v ∧ vf_n32 (FP.fmul (FP.i2f y) 1031798784) ∧ (∀ Q : Int32 → Unit → Prop, Q v () → wp_X4_bitsOf () (FP.fmul (FP.i2f y) 1031798784) Q) ∧ (y = 0 → v = 0) ∧ (¬ y = 0 → ∀ Q : Int32 → Unit → Prop, Q v () → wp_X8_rounded () 0 (Int32.toInt64 y) (-4) 0 Q) := by
  obtain ⟨k, hk, e⟩ := byte_of h0 h1
  subst e
  have hr := Rp_pow (Rp_int (n := k) (by omega)) Rp_m4 (by omega) (by decide) (by decide) (by decide) (by decide)
  have hr' : Rp (FP.fmul (FP.i2f (Int32.ofNat k)) 1031798784) false k (-4) := hr
  have hf := Rp_ff hr' (by omega) (by decide) (by decide)
  refine ⟨dB (FP.Core.val32 (FP.fmul (FP.i2f (Int32.ofNat k)) 1031798784)), fin_dB hf.1, Rp_n32 hr', fun Q q => bits_datum hf.1.ne_nan Q q, fun z => ?_, fun z Q q => ?_⟩
  · have k0 : k = 0 := by
      rw [i_eq, i_ofNat (by omega), show (0 : Int32).toInt = 0 from rfl] at z
      omega
    subst k0
    rw [hr']
    rfl
  · have k0 : ¬ k = 0 := fun e => z (by rw [e]; rfl)
    rw [dB_same (hf.2 k0), hr'] at q
    rw [l_of32 (by omega)]
    refine rounded_model (s := false) (lit := 0) (p := -4) (Or.inl ⟨rfl, rfl⟩) k0 (by omega) rfl (by decide) (by decide) (Or.inr (by decide)) (Or.inl ⟨rfl, rfl⟩) _ ?_
    rw [rr_dbl]
    exact q
theorem maB_or (y1 : Int32) (n : Nat) (k : Int) : y1 ||| maB 0 n k = maB y1 n k := by
  unfold maB
  by_cases c : 8388608 ≤ n
  · rw [if_pos c, if_pos c]
    unfold nrB
    rw [Int32.zero_or, Int32.or_assoc]
  · rw [if_neg c, if_neg c, Int32.zero_or]
theorem sg_dB {s : Bool} {N : Nat} {e : Int} (h : ¬ N = 0) : sgB s ||| dB (FP.Core.roundRatio FP.Core.b32 false N 1 e) = dBs (FP.Core.roundRatio FP.Core.b32 s N 1 e) := by
  rw [rr_settle h rfl, rr_settle h rfl]
  have key : ∀ (c : Nat) (q : Int), sgB s ||| dB (FP.Core.bound FP.Core.b32 false c q) = dBs (FP.Core.bound FP.Core.b32 s c q) := by
    intro c q
    unfold FP.Core.bound
    by_cases w : q ≤ FP.Core.b32.qmax
    · rw [if_pos w, if_pos w]
      show sgB s ||| (if c = 0 then 0 else maB 0 c q) = maB (sgB s) c q
      by_cases c0 : c = 0
      · rw [if_pos c0, c0]
        rfl
      · rw [if_neg c0]
        exact maB_or _ _ _
    · rw [if_neg w, if_neg w]
      show sgB s ||| (0 ||| 2139095040) = sgB s ||| 2139095040
      rw [Int32.zero_or]
  unfold FP.Core.settle
  split
  · exact key _ _
  · exact key _ _
