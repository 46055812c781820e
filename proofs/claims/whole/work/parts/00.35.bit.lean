/-! LAYER 2: masks and rests as numbers -/
theorem tn_cond (x : Int32) : x.toInt = if 2 * x.toBitVec.toNat < 4294967296 then (x.toBitVec.toNat : Int) else (x.toBitVec.toNat : Int) - 4294967296 := BitVec.toInt_eq_toNat_cond x.toBitVec
theorem mask_nat {x m : Int32} {k : Nat} (hm : m.toBitVec.toNat = 2 ^ k - 1) : (x &&& m).toBitVec.toNat = x.toBitVec.toNat % 2 ^ k := by
  rw [Int32.toBitVec_and, BitVec.toNat_and, hm, Nat.and_two_pow_sub_one_eq_mod]
theorem mask_1 (x : Int32) : (x &&& 1).toInt = x.toInt % 2 := by
  have a := mask_nat (x := x) (m := 1) (k := 1) rfl
  have b := tn_cond x
  have c := tn_cond (x &&& 1)
  have d := x.toBitVec.isLt
  rw [a] at c
  by_cases h : 2 * x.toBitVec.toNat < 4294967296
  · rw [if_pos h] at b
    rw [if_pos (by omega)] at c
    omega
  · rw [if_neg h] at b
    rw [if_pos (by omega)] at c
    omega
theorem mask_3 (x : Int32) : (x &&& 3).toInt = x.toInt % 4 := by
  have a := mask_nat (x := x) (m := 3) (k := 2) rfl
  have b := tn_cond x
  have c := tn_cond (x &&& 3)
  have d := x.toBitVec.isLt
  rw [a] at c
  by_cases h : 2 * x.toBitVec.toNat < 4294967296
  · rw [if_pos h] at b
    rw [if_pos (by omega)] at c
    omega
  · rw [if_neg h] at b
    rw [if_pos (by omega)] at c
    omega
theorem mask_7 (x : Int32) : (x &&& 7).toInt = x.toInt % 8 := by
  have a := mask_nat (x := x) (m := 7) (k := 3) rfl
  have b := tn_cond x
  have c := tn_cond (x &&& 7)
  have d := x.toBitVec.isLt
  rw [a] at c
  by_cases h : 2 * x.toBitVec.toNat < 4294967296
  · rw [if_pos h] at b
    rw [if_pos (by omega)] at c
    omega
  · rw [if_neg h] at b
    rw [if_pos (by omega)] at c
    omega
theorem mask_15 (x : Int32) : (x &&& 15).toInt = x.toInt % 16 := by
  have a := mask_nat (x := x) (m := 15) (k := 4) rfl
  have b := tn_cond x
  have c := tn_cond (x &&& 15)
  have d := x.toBitVec.isLt
  rw [a] at c
  by_cases h : 2 * x.toBitVec.toNat < 4294967296
  · rw [if_pos h] at b
    rw [if_pos (by omega)] at c
    omega
  · rw [if_neg h] at b
    rw [if_pos (by omega)] at c
    omega
theorem mask_31 (x : Int32) : (x &&& 31).toInt = x.toInt % 32 := by
  have a := mask_nat (x := x) (m := 31) (k := 5) rfl
  have b := tn_cond x
  have c := tn_cond (x &&& 31)
  have d := x.toBitVec.isLt
  rw [a] at c
  by_cases h : 2 * x.toBitVec.toNat < 4294967296
  · rw [if_pos h] at b
    rw [if_pos (by omega)] at c
    omega
  · rw [if_neg h] at b
    rw [if_pos (by omega)] at c
    omega
theorem mask_63 (x : Int32) : (x &&& 63).toInt = x.toInt % 64 := by
  have a := mask_nat (x := x) (m := 63) (k := 6) rfl
  have b := tn_cond x
  have c := tn_cond (x &&& 63)
  have d := x.toBitVec.isLt
  rw [a] at c
  by_cases h : 2 * x.toBitVec.toNat < 4294967296
  · rw [if_pos h] at b
    rw [if_pos (by omega)] at c
    omega
  · rw [if_neg h] at b
    rw [if_pos (by omega)] at c
    omega
theorem mask_255 (x : Int32) : (x &&& 255).toInt = x.toInt % 256 := by
  have a := mask_nat (x := x) (m := 255) (k := 8) rfl
  have b := tn_cond x
  have c := tn_cond (x &&& 255)
  have d := x.toBitVec.isLt
  rw [a] at c
  by_cases h : 2 * x.toBitVec.toNat < 4294967296
  · rw [if_pos h] at b
    rw [if_pos (by omega)] at c
    omega
  · rw [if_neg h] at b
    rw [if_pos (by omega)] at c
    omega
theorem mask_511 (x : Int32) : (x &&& 511).toInt = x.toInt % 512 := by
  have a := mask_nat (x := x) (m := 511) (k := 9) rfl
  have b := tn_cond x
  have c := tn_cond (x &&& 511)
  have d := x.toBitVec.isLt
  rw [a] at c
  by_cases h : 2 * x.toBitVec.toNat < 4294967296
  · rw [if_pos h] at b
    rw [if_pos (by omega)] at c
    omega
  · rw [if_neg h] at b
    rw [if_pos (by omega)] at c
    omega
theorem ok_7 (x : Int32) : okI (x &&& 7) 8 := ok_iff.mpr (by rw [mask_7]; omega)
theorem ok_3 (x : Int32) : okI (x &&& 3) 4 := ok_iff.mpr (by rw [mask_3]; omega)
theorem ok_15 (x : Int32) : okI (x &&& 15) 16 := ok_iff.mpr (by rw [mask_15]; omega)
theorem ok_511 (x : Int32) : okI (x &&& 511) 512 := ok_iff.mpr (by rw [mask_511]; omega)
theorem isB_1 (x : Int32) : isB (x &&& 1) := by
  have h := mask_1 x
  rcases (show x.toInt % 2 = 0 ∨ x.toInt % 2 = 1 by omega) with e | e
  · exact Or.inl (i_eq.mpr (by rw [h, e]; rfl))
  · exact Or.inr (i_eq.mpr (by rw [h, e]; rfl))
theorem mod_256 (x : Int32) : (((x - x / 256 * 256) + 256) - ((x - x / 256 * 256) + 256) / 256 * 256).toInt = x.toInt % 256 := by
  have hx := i_hi x
  have hx0 := i_lo x
  have em : (256 : Int32).toInt = 256 := rfl
  have hd : (x / 256).toInt = if 0 ≤ x.toInt then x.toInt / 256 else -((-x.toInt) / 256) := by
    rw [Int32.toInt_div, em]
    have e : 0 ≤ x.toInt ∨ x.toInt.tdiv 256 = -((-x.toInt) / 256) := by
      by_cases h : 0 ≤ x.toInt
      · exact Or.inl h
      · have h2 := Int.neg_tdiv (-x.toInt) 256
        rw [Int.neg_neg] at h2
        exact Or.inr (by rw [h2, Int.tdiv_eq_ediv_of_nonneg (by omega)])
    by_cases h : 0 ≤ x.toInt
    · rw [if_pos h, Int.tdiv_eq_ediv_of_nonneg h]
      exact Int.bmod_eq_of_le (by simp; omega) (by simp; omega)
    · rw [if_neg h, e.resolve_left h]
      exact Int.bmod_eq_of_le (by simp; omega) (by simp; omega)
  have hq : (x / 256 * 256).toInt = (x / 256).toInt * 256 := by
    by_cases h : 0 ≤ x.toInt
    · rw [if_pos h] at hd
      rw [i_mul (by rw [em]; omega) (by rw [em]; omega), em]
    · rw [if_neg h] at hd
      rw [i_mul (by rw [em]; omega) (by rw [em]; omega), em]
  have ht : (x - x / 256 * 256).toInt = x.toInt - (x / 256).toInt * 256 ∧ -256 < x.toInt - (x / 256).toInt * 256 ∧ x.toInt - (x / 256).toInt * 256 < 256 := by
    by_cases h : 0 ≤ x.toInt
    · rw [if_pos h] at hd
      refine ⟨?_, by omega, by omega⟩
      rw [i_sub (by omega) (by omega), hq]
    · rw [if_neg h] at hd
      refine ⟨?_, by omega, by omega⟩
      rw [i_sub (by omega) (by omega), hq]
  have h2 : ((x - x / 256 * 256) + 256).toInt = x.toInt - (x / 256).toInt * 256 + 256 := by rw [i_add (by omega) (by omega), ht.1, em]
  rw [i_rem (by omega) (by omega), h2, em]
  omega
theorem mod_512 (x : Int32) : (((x - x / 512 * 512) + 512) - ((x - x / 512 * 512) + 512) / 512 * 512).toInt = x.toInt % 512 := by
  have hx := i_hi x
  have hx0 := i_lo x
  have em : (512 : Int32).toInt = 512 := rfl
  have hd : (x / 512).toInt = if 0 ≤ x.toInt then x.toInt / 512 else -((-x.toInt) / 512) := by
    rw [Int32.toInt_div, em]
    have e : 0 ≤ x.toInt ∨ x.toInt.tdiv 512 = -((-x.toInt) / 512) := by
      by_cases h : 0 ≤ x.toInt
      · exact Or.inl h
      · have h2 := Int.neg_tdiv (-x.toInt) 512
        rw [Int.neg_neg] at h2
        exact Or.inr (by rw [h2, Int.tdiv_eq_ediv_of_nonneg (by omega)])
    by_cases h : 0 ≤ x.toInt
    · rw [if_pos h, Int.tdiv_eq_ediv_of_nonneg h]
      exact Int.bmod_eq_of_le (by simp; omega) (by simp; omega)
    · rw [if_neg h, e.resolve_left h]
      exact Int.bmod_eq_of_le (by simp; omega) (by simp; omega)
  have hq : (x / 512 * 512).toInt = (x / 512).toInt * 512 := by
    by_cases h : 0 ≤ x.toInt
    · rw [if_pos h] at hd
      rw [i_mul (by rw [em]; omega) (by rw [em]; omega), em]
    · rw [if_neg h] at hd
      rw [i_mul (by rw [em]; omega) (by rw [em]; omega), em]
  have ht : (x - x / 512 * 512).toInt = x.toInt - (x / 512).toInt * 512 ∧ -512 < x.toInt - (x / 512).toInt * 512 ∧ x.toInt - (x / 512).toInt * 512 < 512 := by
    by_cases h : 0 ≤ x.toInt
    · rw [if_pos h] at hd
      refine ⟨?_, by omega, by omega⟩
      rw [i_sub (by omega) (by omega), hq]
    · rw [if_neg h] at hd
      refine ⟨?_, by omega, by omega⟩
      rw [i_sub (by omega) (by omega), hq]
  have h2 : ((x - x / 512 * 512) + 512).toInt = x.toInt - (x / 512).toInt * 512 + 512 := by rw [i_add (by omega) (by omega), ht.1, em]
  rw [i_rem (by omega) (by omega), h2, em]
  omega
theorem div_m1 (x : Int32) : x / (-1) = -x := by
  have e : (-1 : Int32).toInt = -1 := rfl
  have h2 := Int.tdiv_neg x.toInt 1
  rw [Int.tdiv_one] at h2
  rw [i_eq, Int32.toInt_div, e, h2, Int32.toInt_neg]
/-- a byte -/
theorem byte_of {y : Int32} (h0 : 0 ≤ y.toInt) (h1 : y.toInt < 256) : ∃ k : Nat, k < 256 ∧ y = Int32.ofNat k := ⟨y.toInt.toNat, by omega, i_eq.mpr (by rw [i_ofNat (by omega)]; omega)⟩
theorem sh_bit : ∀ k : Nat, k < 256 → ((Int32.ofNat k &&& 32 = 0 ∧ ¬ (32 : Int32) ≤ Int32.ofNat k &&& 63 ∧ (Int32.ofNat k &&& 63) &&& 31 = (Int32.ofNat k &&& 31) &&& 31) ∨ (¬ Int32.ofNat k &&& 32 = 0 ∧ (32 : Int32) ≤ Int32.ofNat k &&& 63 ∧ ((Int32.ofNat k &&& 63) - 32) &&& 31 = (Int32.ofNat k &&& 31) &&& 31)) := by decide +kernel
theorem mark_bit : ∀ k : Nat, k < 8 → ((Int32.ofNat (23040 + k) &&& 4 = 0 ↔ Int32.ofNat (23040 + k) - 23040 ≤ 3) ∧ Int32.ofNat (23040 + k) &&& 1 = (Int32.ofNat (23040 + k) - 23040) &&& 1 ∧ (Int32.ofNat (23040 + k) >>> ((1 : Int32) &&& 31)) &&& 1 = ((Int32.ofNat (23040 + k) - 23040) >>> ((1 : Int32) &&& 31)) &&& 1) := by decide +kernel
/-- finite bits, as the class and as the reference look at them -/
theorem bt_shr {x : Int32} : ((x >>> ((23 : Int32) &&& 31)) &&& 255 = 255) ↔ (x &&& 2139095040 = 2139095040) := by
  have h1 : ∀ i : Nat, i < 32 → (255 : Int32).toBitVec.getLsbD i = decide (i < 8) := by decide +kernel
  have h2 : ∀ i : Nat, i < 32 → (2139095040 : Int32).toBitVec.getLsbD i = (decide (23 ≤ i) && decide (i < 31)) := by decide +kernel
  have hs : ∀ i : Nat, i < 8 → (x >>> ((23 : Int32) &&& 31)).toBitVec.getLsbD i = x.toBitVec.getLsbD (23 + i) := by
    intro i hi
    have e : (x >>> ((23 : Int32) &&& 31)).toBitVec = x.toBitVec.sshiftRight 23 := by
      rw [Int32.toBitVec_shiftRight]
      rfl
    rw [e, BitVec.getLsbD_sshiftRight]
    rw [if_pos (by omega)]
    have : decide (32 ≤ i) = false := decide_eq_false (by omega)
    rw [this]
    rfl
  constructor
  · intro h
    refine Int32.toBitVec_inj.mp (BitVec.eq_of_getLsbD_eq fun i hi => ?_)
    rw [Int32.toBitVec_and, BitVec.getLsbD_and, h2 i hi]
    by_cases c : 23 ≤ i ∧ i < 31
    · have hb := congrArg (fun z : Int32 => z.toBitVec.getLsbD (i - 23)) h
      simp only [Int32.toBitVec_and, BitVec.getLsbD_and] at hb
      rw [hs _ (by omega), h1 _ (by omega), decide_eq_true (show i - 23 < 8 by omega), Bool.and_true, show 23 + (i - 23) = i by omega] at hb
      rw [hb, Bool.true_and]
    · rw [show (decide (23 ≤ i) && decide (i < 31)) = false by simp; omega, Bool.and_false]
  · intro h
    refine Int32.toBitVec_inj.mp (BitVec.eq_of_getLsbD_eq fun i hi => ?_)
    rw [Int32.toBitVec_and, BitVec.getLsbD_and, h1 i hi]
    by_cases c : i < 8
    · have hb := congrArg (fun z : Int32 => z.toBitVec.getLsbD (23 + i)) h
      simp only [Int32.toBitVec_and, BitVec.getLsbD_and] at hb
      rw [h2 _ (by omega), show (decide (23 ≤ 23 + i) && decide (23 + i < 31)) = true by simp; omega, Bool.and_true] at hb
      rw [hs i c, hb, Bool.true_and]
    · rw [decide_eq_false c, Bool.and_false]
