/-! LAYER 2: singles: the class's bitsOf, whole -/
theorem Rp_pos {y : UInt32} {n : Nat} {k : Int} (h : Rp y true n k) (hn : n < 16777216) (h1 : -149 ≤ k) (h2 : k ≤ 104) (h0 : ¬ n = 0) : Rp (FP.fsub 0 y) false n k := by
  obtain ⟨c, q, a1, a2, a3⟩ := Rp_exact h hn h1 h2
  have hc : ¬ c = 0 := fun e => by
    rw [e, Nat.zero_mul] at a3
    rcases Nat.mul_eq_zero.mp a3.symm with z | z
    · exact h0 z
    · exact absurd z (Nat.ne_of_gt (Nat.two_pow_pos _))
  unfold Rp
  rw [fs_core, FP.Core.val32_fsub, a1, val_0]
  have hu : FP.Core.sumUnits false 0 (-149) (!true) c q (min (-149) q) = ((c * 2 ^ (q + 149).toNat : Nat) : Int) := by
    unfold FP.Core.sumUnits FP.Core.signed FP.Core.inUnits
    rw [show min (-149) q = -149 by omega, show q - -149 = q + 149 by omega]
    simp
  have hpos : 0 < c * 2 ^ (q + 149).toNat := Nat.mul_pos (by omega) (Nat.two_pow_pos _)
  show FP.Core.roundRatio FP.Core.b32 (FP.Core.sumSign false (!true) (FP.Core.sumUnits false 0 (-149) (!true) c q (min (-149) q))) (FP.Core.sumUnits false 0 (-149) (!true) c q (min (-149) q)).natAbs 1 (min (-149) q) = FP.Core.roundRatio FP.Core.b32 false n 1 k
  rw [hu]
  have e1 : FP.Core.sumSign false (!true) ((c * 2 ^ (q + 149).toNat : Nat) : Int) = false := by
    unfold FP.Core.sumSign
    rw [if_neg (by omega)]
    exact decide_eq_false (by omega)
  rw [e1, show min (-149) q = -149 by omega]
  refine FP.Core.roundRatio_congr (by decide) (by decide) ?_
  rw [Nat.mul_one, Nat.mul_one]
  refine pw_cross (M := 149) (by omega) (by omega) ?_
  rw [show ((-149 : Int) + 149).toNat = 0 by omega, Nat.pow_zero, Nat.mul_one, ← a3]
  omega
/-- the bits of a number, its sign apart -/
def maB (y1 : Int32) (n : Nat) (k : Int) : Int32 := if 8388608 ≤ n then nrB y1 n k else y1 ||| Int32.ofNat n
/-- behind the sign -/
theorem b_abs {n : Nat} {k : Int} {y1 : Int32} {x : UInt32} (h : Rp x false n k) (hn : n < 16777216) (h1 : -149 ≤ k) (h2 : k ≤ 104) (hc : 8388608 ≤ n ∨ k = -149) (Q : Int32 → Unit → Prop) (q : Q (maB y1 n k) ()) : ((Op.cmpValue (FP.fcmp x 2139095039) CmpOp.l) ≤ 0 → ((0 ≤ (Op.cmpValue (FP.fcmp x 8388608) CmpOp.g) → wp_X4_bitsOf_L64 Q 2000 y1 x 150 0 ()) ∧ (¬ 0 ≤ (Op.cmpValue (FP.fcmp x 8388608) CmpOp.g) → vf_n32 (FP.fmul x 1694498816) ∧ vf_n32 (FP.fmul (FP.fmul x 1694498816) 1686110208) ∧ Q (y1 ||| (FP.f2i (FP.fmul (FP.fmul x 1694498816) 1686110208))) ()))) ∧ (¬ (Op.cmpValue (FP.fcmp x 2139095039) CmpOp.l) ≤ 0 → Q (y1 ||| 2139095040) ()) := by
  have hmx : Op.cmpValue (FP.fcmp x 2139095039) CmpOp.l ≤ 0 := by
    rw [Rp_cmp h Rp_mx hn h1 h2 (by decide) (by decide) (by decide), cv_le]
    show ((n * 2 ^ (k + 149).toNat : Nat) : Int) ≤ ((16777215 * 2 ^ ((104 : Int) + 149).toNat : Nat) : Int)
    exact Int.ofNat_le.mpr (Nat.mul_le_mul (by omega) (Nat.pow_le_pow_right (by decide) (by omega)))
  refine ⟨fun _ => ?_, fun c => absurd hmx c⟩
  unfold maB at q
  by_cases c : 8388608 ≤ n
  · rw [if_pos c] at q
    refine ⟨fun _ => ?_, fun d => absurd ((cmp_g h Rp_mn c hn h1 h2 (by decide) (by decide)).mpr (by omega)) d⟩
    exact b64 c hn h1 h2 8 2000 k x 150 0 (by omega) h1 h2 (by decide) h (by rw [show (150 : Int32).toInt = 150 from rfl]; omega) (by decide) (by decide) Q q
  · rw [if_neg c] at q
    have hk := hc.resolve_left c
    subst hk
    refine ⟨fun d => ?_, fun _ => ?_⟩
    · rw [Rp_cmp h Rp_mn hn h1 h2 (by decide) (by decide) (by decide), cv_g] at d
      have d' : ((1 * 2 ^ ((-126 : Int) + 149).toNat : Nat) : Int) ≤ ((n * 2 ^ ((-149 : Int) + 149).toNat : Nat) : Int) := d
      rw [show ((-126 : Int) + 149).toNat = 23 by decide, show ((-149 : Int) + 149).toNat = 0 by decide] at d'
      omega
    · have r1 := Rp_pow h Rp_75 hn h1 h2 (by decide) (by decide)
      have r2 := Rp_pow r1 Rp_74 hn (by decide) (by decide) (by decide) (by decide)
      have r3 : Rp (FP.fmul (FP.fmul x 1694498816) 1686110208) false n 0 := r2
      refine ⟨Rp_n32 r1, Rp_n32 r3, ?_⟩
      rw [Rp_f2i r3 hn]
      exact q
/-- a number that is not 0 -/
theorem bits_fin {n : Nat} {k : Int} {s : Bool} {z : UInt32} (h : Rp z s n k) (hn : n < 16777216) (h1 : -149 ≤ k) (h2 : k ≤ 104) (hc : 8388608 ≤ n ∨ k = -149) (h0 : ¬ n = 0) (Q : Int32 → Unit → Prop) (q : Q (maB (if s = true then -2147483648 else 0) n k) ()) : wp_X4_bitsOf () z Q := by
  have hpos : 0 < n * 2 ^ (k + 149).toNat := Nat.mul_pos (by omega) (Nat.two_pow_pos _)
  have hcm : (0 ≤ Op.cmpValue (FP.fcmp z 0) CmpOp.g) ↔ s = false := by
    rw [Rp_cmp h Rp_0 hn h1 h2 (by decide) (by decide) (by decide), cv_g]
    rw [Nat.zero_mul]
    cases s
    · exact ⟨fun _ => rfl, fun _ => by show ((0 : Nat) : Int) ≤ ((n * 2 ^ (k + 149).toNat : Nat) : Int); omega⟩
    · refine ⟨fun c => ?_, fun c => absurd c (by decide)⟩
      have c' : ((0 : Nat) : Int) ≤ -((n * 2 ^ (k + 149).toNat : Nat) : Int) := c
      omega
  unfold wp_X4_bitsOf
  cases hs : s
  · rw [hs] at q h
    have hp := hcm.mpr hs
    have hb := b_abs h hn h1 h2 hc Q q
    refine ⟨fun _ => ?_, fun c => absurd hp c⟩
    unfold wp_X4_bitsOf_L12
    exact ⟨fun _ => hb, fun c => absurd hp c⟩
  · rw [hs] at q h
    have hp : ¬ 0 ≤ Op.cmpValue (FP.fcmp z 0) CmpOp.g := fun c => by have := hcm.mp c; rw [hs] at this; exact absurd this (by decide)
    have hr := Rp_pos h hn h1 h2 h0
    have hb := b_abs hr hn h1 h2 hc Q q
    refine ⟨fun c => absurd c hp, fun _ => ?_⟩
    unfold wp_X4_bitsOf_L12
    refine ⟨fun c => absurd c hp, fun _ => ⟨Rp_n32 hr, fun _ e => ?_⟩⟩
    subst e
    exact hb
theorem bits_0 (Q : Int32 → Unit → Prop) (q : Q 0 ()) : wp_X4_bitsOf () 0 Q := by
  have hp : 0 ≤ Op.cmpValue (FP.fcmp 0 0) CmpOp.g := by decide +kernel
  have hb := b_abs (y1 := 0) Rp_0 (by decide) (by decide) (by decide) (Or.inr rfl) Q q
  unfold wp_X4_bitsOf
  refine ⟨fun _ => ?_, fun c => absurd hp c⟩
  unfold wp_X4_bitsOf_L12
  exact ⟨fun _ => hb, fun c => absurd hp c⟩
theorem bits_m0 (Q : Int32 → Unit → Prop) (q : Q 0 ()) : wp_X4_bitsOf () 2147483648 Q := by
  have hp : 0 ≤ Op.cmpValue (FP.fcmp 2147483648 0) CmpOp.g := by decide +kernel
  unfold wp_X4_bitsOf
  refine ⟨fun _ => ?_, fun c => absurd hp c⟩
  unfold wp_X4_bitsOf_L12
  refine ⟨fun _ => ⟨fun _ => ⟨fun c => absurd c (by decide +kernel), fun _ => ⟨?_, ?_, ?_⟩⟩, fun c => absurd (by decide +kernel) c⟩, fun c => absurd hp c⟩
  · show FP.fmul 2147483648 1694498816 &&& 0x7fffffff ≤ 0x7f800000
    decide +kernel
  · show FP.fmul (FP.fmul 2147483648 1694498816) 1686110208 &&& 0x7fffffff ≤ 0x7f800000
    decide +kernel
  · have e : (0 : Int32) ||| FP.f2i (FP.fmul (FP.fmul 2147483648 1694498816) 1686110208) = 0 := by decide +kernel
    rw [e]; exact q
theorem bits_pi (Q : Int32 → Unit → Prop) (q : Q 2139095040 ()) : wp_X4_bitsOf () 2139095040 Q := by
  have hp : 0 ≤ Op.cmpValue (FP.fcmp 2139095040 0) CmpOp.g := by decide +kernel
  unfold wp_X4_bitsOf
  refine ⟨fun _ => ?_, fun c => absurd hp c⟩
  unfold wp_X4_bitsOf_L12
  exact ⟨fun _ => ⟨fun c => absurd c (by decide +kernel), fun _ => q⟩, fun c => absurd hp c⟩
theorem bits_mi (Q : Int32 → Unit → Prop) (q : Q (-8388608) ()) : wp_X4_bitsOf () 4286578688 Q := by
  have hp : ¬ 0 ≤ Op.cmpValue (FP.fcmp 4286578688 0) CmpOp.g := by decide +kernel
  have ex : FP.fsub 0 4286578688 = 2139095040 := by decide +kernel
  unfold wp_X4_bitsOf
  refine ⟨fun c => absurd c hp, fun _ => ?_⟩
  unfold wp_X4_bitsOf_L12
  refine ⟨fun c => absurd c hp, fun _ => ⟨?_, fun _ e => ?_⟩⟩
  · show FP.fsub 0 4286578688 &&& 0x7fffffff ≤ 0x7f800000
    decide +kernel
  · rw [ex] at e
    subst e
    exact ⟨fun c => absurd c (by decide +kernel), fun _ => q⟩
