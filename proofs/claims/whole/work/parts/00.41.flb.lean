/-! LAYER 2: singles: the fields of their bits -/
theorem fl_sh (x : Int32) {i : Nat} (hi : i < 32) : (x >>> ((23 : Int32) &&& 31)).toBitVec.getLsbD i = if 23 + i < 32 then x.toBitVec.getLsbD (23 + i) else x.toBitVec.getLsbD 31 := by
  have e : (x >>> ((23 : Int32) &&& 31)).toBitVec = x.toBitVec.sshiftRight 23 := by
    rw [Int32.toBitVec_shiftRight]
    rfl
  rw [e, BitVec.getLsbD_sshiftRight]
  have h1 : decide (32 ≤ i) = false := decide_eq_false (by omega)
  rw [h1]
  by_cases c : 23 + i < 32
  · rw [if_pos c, if_pos c]; rfl
  · rw [if_neg c, if_neg c]; rfl
theorem fl_swap (a : Int32) : (a &&& 2139095040) >>> ((23 : Int32) &&& 31) = (a >>> ((23 : Int32) &&& 31)) &&& 255 := by
  have h1 : ∀ i : Nat, i < 32 → (255 : Int32).toBitVec.getLsbD i = decide (i < 8) := by decide +kernel
  have h2 : ∀ i : Nat, i < 32 → (2139095040 : Int32).toBitVec.getLsbD i = (decide (23 ≤ i) && decide (i < 31)) := by decide +kernel
  refine Int32.toBitVec_inj.mp (BitVec.eq_of_getLsbD_eq fun i hi => ?_)
  have hr : ((a >>> ((23 : Int32) &&& 31)) &&& 255).toBitVec.getLsbD i = ((a >>> ((23 : Int32) &&& 31)).toBitVec.getLsbD i && decide (i < 8)) := by
    rw [Int32.toBitVec_and, BitVec.getLsbD_and, h1 i hi]
  have hm : ∀ j, j < 32 → (a &&& 2139095040).toBitVec.getLsbD j = (a.toBitVec.getLsbD j && (decide (23 ≤ j) && decide (j < 31))) := fun j hj => by
    rw [Int32.toBitVec_and, BitVec.getLsbD_and, h2 j hj]
  rw [hr, fl_sh _ hi, fl_sh _ hi]
  by_cases c : 23 + i < 32
  · rw [if_pos c, if_pos c, hm _ c]
    by_cases d : i < 8
    · rw [decide_eq_true d, decide_eq_true (show 23 ≤ 23 + i by omega), decide_eq_true (show 23 + i < 31 by omega)]; rfl
    · rw [decide_eq_false d, decide_eq_false (show ¬ 23 + i < 31 by omega)]; simp
  · rw [if_neg c, if_neg c, hm 31 (by decide), decide_eq_false (show ¬ i < 8 by omega)]
    simp
/-- the bits as a number -/
def nb (a : Int32) : Nat := a.toBitVec.toNat
theorem nb_lt (a : Int32) : nb a < 4294967296 := a.toBitVec.isLt
theorem nb_int (a : Int32) : a.toInt = if nb a < 2147483648 then (nb a : Int) else (nb a : Int) - 4294967296 := by
  have h := tn_cond a
  have hl := nb_lt a
  unfold nb at hl ⊢
  rw [h]
  split <;> split <;> omega
theorem nb_inj {a b : Int32} (h : nb a = nb b) : a = b := i_eq.mpr (by rw [nb_int, nb_int, h])
theorem nb_ofNat {n : Nat} (h : n < 4294967296) : nb (Int32.ofNat n) = n := by
  show (BitVec.ofNat 32 n).toNat = n
  rw [BitVec.toNat_ofNat]
  exact Nat.mod_eq_of_lt h
def fE (a : Int32) : Nat := nb a / 8388608 % 256
def fF (a : Int32) : Nat := nb a % 8388608
def fN (a : Int32) : Bool := decide (2147483648 ≤ nb a)
theorem fE_lt (a : Int32) : fE a < 256 := Nat.mod_lt _ (by decide)
theorem fF_lt (a : Int32) : fF a < 8388608 := Nat.mod_lt _ (by decide)
theorem fl_sum (a : Int32) : nb a = (if fN a = true then 2147483648 else 0) + fE a * 8388608 + fF a := by
  have h := nb_lt a
  unfold fE fF fN
  by_cases c : 2147483648 ≤ nb a
  · rw [decide_eq_true c, if_pos rfl]; omega
  · rw [decide_eq_false c, if_neg (by decide)]; omega
theorem fl_e (a : Int32) : (a >>> ((23 : Int32) &&& 31)) &&& 255 = Int32.ofNat (fE a) := by
  refine i_eq.mpr ?_
  have hE := fE_lt a
  rw [mask_255, i_ofNat (by omega)]
  have e : (a >>> ((23 : Int32) &&& 31)).toInt = a.toInt / 8388608 := by
    have e1 : (a >>> ((23 : Int32) &&& 31)).toBitVec = a.toBitVec.sshiftRight 23 := by
      rw [Int32.toBitVec_shiftRight]
      rfl
    show (a >>> ((23 : Int32) &&& 31)).toBitVec.toInt = _
    rw [e1, BitVec.toInt_sshiftRight, Int.shiftRight_eq_div_pow]
    rfl
  rw [e, nb_int a]
  have hl := nb_lt a
  unfold fE
  split <;> omega
theorem fl_f (a : Int32) : a &&& 8388607 = Int32.ofNat (fF a) := by
  refine nb_inj ?_
  have hF := fF_lt a
  rw [nb_ofNat (by omega)]
  exact mask_nat (k := 23) (by decide)
theorem fl_fin {a : Int32} (h : finB a) : fE a < 255 := by
  have h1 := fE_lt a
  have h2 : ¬ fE a = 255 := fun e => h (bt_shr.mp (by rw [fl_e, e]; rfl))
  omega
theorem fl_neg (a : Int32) : 0 ≤ a ↔ fN a = false := by
  rw [i_le, show (0 : Int32).toInt = 0 from rfl, nb_int a]
  unfold fN
  have hl := nb_lt a
  by_cases c : 2147483648 ≤ nb a
  · rw [decide_eq_true c, if_neg (by omega)]
    constructor
    · intro h; omega
    · intro h; exact absurd h (by decide)
  · rw [decide_eq_false c, if_pos (by omega)]
    exact ⟨fun _ => rfl, fun _ => by omega⟩
/-- the significand and the place of its last digit -/
def fS (a : Int32) : Nat := if fE a = 0 then fF a else fF a + 8388608
def fP (a : Int32) : Int := if fE a = 0 then -149 else (fE a : Int) - 150
theorem fS_lt (a : Int32) : fS a < 16777216 := by
  have := fF_lt a
  unfold fS
  split <;> omega
theorem fP_lo (a : Int32) : -149 ≤ fP a := by unfold fP; split <;> omega
theorem fP_hi {a : Int32} (h : finB a) : fP a ≤ 104 := by
  have := fl_fin h
  unfold fP; split <;> omega
/-- the same bits as a single -/
def uB (a : Int32) : UInt32 := UInt32.ofNat (nb a)
theorem uB_n (a : Int32) : (uB a).toNat = nb a := by
  show nb a % 4294967296 = nb a
  exact Nat.mod_eq_of_lt (nb_lt a)
theorem uB_val {a : Int32} (h : finB a) : FP.Core.val32 (uB a) = .fin (fN a) (fS a) (fP a) := by
  have hE := fl_fin h
  have hl := nb_lt a
  unfold FP.Core.val32 FP.Core.decode
  rw [uB_n]
  have e1 : FP.Core.fieldE FP.Core.b32 (nb a) = fE a := rfl
  have e2 : FP.Core.fieldT FP.Core.b32 (nb a) = fF a := rfl
  have e3 : FP.Core.fieldS FP.Core.b32 (nb a) = fN a := by
    show (nb a / 8388608 / 256 % 2 == 1) = decide (2147483648 ≤ nb a)
    by_cases c : 2147483648 ≤ nb a
    · rw [decide_eq_true c, show nb a / 8388608 / 256 % 2 = 1 by omega]; rfl
    · rw [decide_eq_false c, show nb a / 8388608 / 256 % 2 = 0 by omega]; rfl
  rw [e1, e2, e3, FP.Core.qmin_b32, FP.Core.exps_b32, FP.Core.tails_b32, if_neg (by omega)]
  unfold fS fP
  by_cases c : fE a = 0
  · rw [if_pos c, if_pos c, if_pos c]
  · rw [if_neg c, if_neg c, if_neg c]
    rw [show (2 : Nat) ^ 23 + fF a = fF a + 8388608 by omega, show (-149 : Int) + ((fE a : Int) - 1) = (fE a : Int) - 150 by omega]
theorem uB_Rp {a : Int32} (h : finB a) : Rp (uB a) (fN a) (fS a) (fP a) := by
  unfold Rp
  rw [uB_val h, FP.Core.round_of_fits FP.Core.good_b32]
  have := FP.Core.val32_fits (uB a)
  rw [uB_val h] at this
  exact this
/-- a single is known by what it is -/
theorem Rp_inj {z w : UInt32} {s : Bool} {n : Nat} {k : Int} (hz : Rp z s n k) (hw : Rp w s n k) : z = w := by
  refine FP.Core.val32_inj ?_ (hz.trans hw.symm)
  exact (n32_iff z).mp (Rp_n32 hz)
