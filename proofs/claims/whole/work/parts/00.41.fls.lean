/-! LAYER 2: singles: sums, what they need -/
theorem sticky {s : Bool} {n g r : Nat} {e : Int} (h0 : 0 < r) (hr : r < 2 ^ g) (hn : 16777216 ≤ n) : FP.Core.roundRatio FP.Core.b32 s (n * 2 ^ g + r) 1 e = FP.Core.roundRatio FP.Core.b32 s (2 * n + 1) 1 (e + (g : Int) - 1) := by
  have n0 : ¬ n = 0 := by omega
  have l25 : 25 ≤ ln n := by
    obtain ⟨_, a2, _⟩ := ln_lo n0
    by_cases c : 25 ≤ ln n
    · exact c
    · exfalso
      have : 2 ^ ln n ≤ 2 ^ 24 := Nat.pow_le_pow_right (by decide) (by omega)
      omega
  have lb := ln_between n0 hr
  have lt : ln (2 * n + 1) = ln n + 1 := by rw [ln_half (by omega), show (2 * n + 1) / 2 = n by omega]
  have q1 : FP.Core.quantum FP.Core.b32 (n * 2 ^ g + r) 1 e = max (-149) ((ln n : Int) + (g : Int) + e - 24) := by
    rw [quantum_ln (by omega), lb]
    congr 1
  have q2 : FP.Core.quantum FP.Core.b32 (2 * n + 1) 1 (e + (g : Int) - 1) = max (-149) ((ln n : Int) + (g : Int) + e - 24) := by
    rw [quantum_ln (by omega), lt]
    congr 1
    omega
  obtain ⟨x, hx1, hx⟩ : ∃ x : Nat, 1 ≤ x ∧ max (-149) ((ln n : Int) + (g : Int) + e - 24) = e + (g : Int) + (x : Int) := ⟨(max (-149) ((ln n : Int) + (g : Int) + e - 24) - e - (g : Int)).toNat, by omega, by omega⟩
  rw [rr_settle (by omega) q1, rr_settle (by omega) q2, hx]
  rw [show (e - (e + (g : Int) + (x : Int))).toNat = 0 by omega, show (e + (g : Int) + (x : Int) - e).toNat = x + g by omega, show (e + (g : Int) - 1 - (e + (g : Int) + (x : Int))).toNat = 0 by omega, show (e + (g : Int) + (x : Int) - (e + (g : Int) - 1)).toNat = x + 1 by omega, Nat.pow_zero, Nat.mul_one, Nat.mul_one, Nat.one_mul, Nat.one_mul, sticky_near h0 hr hx1]
/-- what is no zero stays none -/
theorem rr_nz {s : Bool} {N : Nat} {e : Int} (h : ¬ N = 0) (he : -149 ≤ e) : ∀ s' q', ¬ FP.Core.roundRatio FP.Core.b32 s N 1 e = .fin s' 0 q' := by
  intro s' q' w
  obtain ⟨l1, l2, l3⟩ := ln_lo h
  have hq := quantum_ln (n := N) (p := e) h
  obtain ⟨q, hqe⟩ : ∃ q : Int, q = max (-149) ((ln N : Int) + e - 24) := ⟨_, rfl⟩
  rw [← hqe] at hq
  have hc : 0 < FP.Core.nearest (N * 2 ^ (e - q).toNat) (1 * 2 ^ (q - e).toNat) := by
    by_cases c : q ≤ e
    · rw [show (q - e).toNat = 0 by omega, Nat.pow_zero]
      refine FP.Core.nearest_ge (by decide) ?_
      have := Nat.mul_pos (show 0 < N by omega) (Nat.two_pow_pos (e - q).toNat)
      omega
    · rw [show (e - q).toNat = 0 by omega, Nat.pow_zero, Nat.mul_one, Nat.one_mul]
      refine FP.Core.nearest_ge (Nat.two_pow_pos _) ?_
      have : 2 ^ (q - e).toNat ≤ 2 ^ (ln N - 1) := Nat.pow_le_pow_right (by decide) (by omega)
      omega
  rw [rr_settle h hq] at w
  have key : ∀ (c : Nat) (k : Int), 0 < c → ¬ FP.Core.bound FP.Core.b32 s c k = .fin s' 0 q' := by
    intro c k c0 v
    unfold FP.Core.bound at v
    by_cases d : k ≤ FP.Core.b32.qmax
    · rw [if_pos d] at v
      injection v with _ v2 _
      omega
    · rw [if_neg d] at v
      exact FP.Core.Datum.noConfusion v
  unfold FP.Core.settle at w
  by_cases d : FP.Core.nearest (N * 2 ^ (e - q).toNat) (1 * 2 ^ (q - e).toNat) < 2 ^ FP.Core.b32.p
  · rw [if_pos d] at w
    exact key _ _ hc w
  · rw [if_neg d] at w
    exact key _ _ (by decide) w
theorem fN_bit (x : Int32) : x.toBitVec.getLsbD 31 = fN x := by
  show Nat.testBit x.toBitVec.toNat 31 = decide (2147483648 ≤ nb x)
  rw [Nat.testBit_eq_decide_div_mod_eq]
  have hl := nb_lt x
  unfold nb at hl ⊢
  by_cases c : 2147483648 ≤ x.toBitVec.toNat
  · rw [decide_eq_true c, decide_eq_true (by omega)]
  · rw [decide_eq_false c, decide_eq_false (by omega)]
theorem fN_xor (a b : Int32) : fN (a ^^^ b) = (fN a ^^ fN b) := by
  rw [← fN_bit, Int32.toBitVec_xor, BitVec.getLsbD_xor, fN_bit, fN_bit]
theorem fN_lt (x : Int32) : x < 0 ↔ fN x = true := by
  have h := fl_neg x
  rw [i_le] at h
  rw [i_lt]
  cases hb : fN x
  · rw [hb] at h
    have := h.mpr rfl
    exact ⟨fun w => by omega, fun w => absurd w (by decide)⟩
  · rw [hb] at h
    refine ⟨fun _ => rfl, fun _ => ?_⟩
    by_cases c : x.toInt < (0 : Int32).toInt
    · exact c
    · exact absurd (h.mp (by omega)) (by decide)
theorem nb_sg (s : Bool) : nb (sgB s) = if s = true then 2147483648 else 0 := by cases s <;> decide
theorem fS_0 {a : Int32} (h : fS a = 0) : fE a = 0 ∧ fF a = 0 := by
  unfold fS at h
  by_cases c : fE a = 0
  · rw [if_pos c] at h; exact ⟨c, h⟩
  · rw [if_neg c] at h; omega
/-- a zero is its sign -/
theorem zero_sg {a : Int32} (h : fS a = 0) : a = sgB (fN a) := by
  obtain ⟨h1, h2⟩ := fS_0 h
  refine nb_inj ?_
  rw [nb_sg, fl_sum a, h1, h2, Nat.zero_mul, Nat.add_zero]
theorem sh_E : ∀ E : Nat, E < 256 → (Int32.ofNat E <<< ((23 : Int32) &&& 31)).toBitVec.toNat = E * 8388608 := by decide +kernel
theorem nb_or (a b : Int32) : nb (a ||| b) = nb a ||| nb b := by
  show (a ||| b).toBitVec.toNat = a.toBitVec.toNat ||| b.toBitVec.toNat
  rw [Int32.toBitVec_or, BitVec.toNat_or]
/-- a single's bits out of its fields -/
theorem maB_self {a : Int32} (_h : finB a) : maB (sgB (fN a)) (fS a) (fP a) = a := by
  have hF := fF_lt a
  have hE := fE_lt a
  have hsum := fl_sum a
  refine nb_inj ?_
  have top : ∀ t : Nat, t < 2147483648 → (if fN a = true then 2147483648 else 0) ||| t = (if fN a = true then 2147483648 else 0) + t := by
    intro t ht
    cases fN a
    · show 0 ||| t = 0 + t
      rw [Nat.zero_or, Nat.zero_add]
    · have := Nat.two_pow_add_eq_or_of_lt (show t < 2 ^ 31 by omega) 1
      show 2147483648 ||| t = 2147483648 + t
      rw [Nat.mul_one] at this
      exact this.symm
  unfold maB
  by_cases c : fE a = 0
  · have eS : fS a = fF a := if_pos c
    rw [eS, if_neg (by omega), nb_or, nb_sg, nb_ofNat (by omega), top _ (by omega), hsum, c]
    omega
  · have eS : fS a = fF a + 8388608 := if_neg c
    have eP : fP a = (fE a : Int) - 150 := if_neg c
    rw [eS, if_pos (by omega)]
    unfold nrB
    rw [eP, show ((fE a : Int) - 150 + 150).toNat = fE a by omega, ofN_sub (by omega) (by omega), nb_or, nb_or, nb_sg, nb_ofNat (by omega), show fF a + 8388608 - 8388608 = fF a by omega]
    have e1 : nb (Int32.ofNat (fE a) <<< ((23 : Int32) &&& 31)) = fE a * 8388608 := sh_E _ hE
    have e2 := Nat.two_pow_add_eq_or_of_lt (show fF a < 2 ^ 23 by omega) (fE a)
    rw [e1, Nat.or_assoc, show fE a * 8388608 = 2 ^ 23 * fE a by omega, ← e2, top _ (by omega), hsum]
    omega
