/-! LAYER 2: load -/
def bte (w : Int64) (k : Nat) : Int32 := (Int64.toInt32 (((Int64.toUInt64 w) >>> ((Int32.toInt64 (56 - (8 * Int32.ofNat k))).toUInt64 &&& Int64.toUInt64 63)).toInt64)) &&& 255
theorem bt_cnt : ∀ k : Nat, k < 8 → ((Int32.toInt64 (56 - (8 * Int32.ofNat k))).toUInt64 &&& Int64.toUInt64 63) = UInt64.ofNat (56 - 8 * k) := by decide +kernel
theorem bt_255 : ∀ i : Nat, i < 32 → (255 : Int32).toBitVec.getLsbD i = decide (i < 8) := by decide +kernel
theorem bt_255l : ∀ i : Nat, i < 64 → (255 : Int64).toBitVec.getLsbD i = decide (i < 8) := by decide +kernel
theorem l32_bit (x : Int64) {i : Nat} (hi : i < 32) : (Int64.toInt32 x).toBitVec.getLsbD i = x.toBitVec.getLsbD i := by
  show (x.toBitVec.signExtend 32).getLsbD i = _
  rw [BitVec.signExtend_eq_setWidth_of_le _ (by decide), BitVec.getLsbD_setWidth, decide_eq_true hi, Bool.true_and]
theorem ush_bit (w : Int64) {s i : Nat} (hs : s < 64) : ((Int64.toUInt64 w) >>> UInt64.ofNat s).toInt64.toBitVec.getLsbD i = w.toBitVec.getLsbD (s + i) := by
  show ((Int64.toUInt64 w) >>> UInt64.ofNat s).toBitVec.getLsbD i = _
  have e : ((Int64.toUInt64 w) >>> UInt64.ofNat s).toBitVec.toNat = w.toBitVec.toNat >>> s := by
    show ((Int64.toUInt64 w) >>> UInt64.ofNat s).toNat = _
    rw [UInt64.toNat_shiftRight]
    have h1 : (UInt64.ofNat s).toNat = s := by
      show (BitVec.ofNat 64 s).toNat = s
      rw [BitVec.toNat_ofNat, Nat.mod_eq_of_lt (by omega)]
    rw [h1, Nat.mod_eq_of_lt hs]
    rfl
  unfold BitVec.getLsbD
  rw [e, Nat.testBit_shiftRight]
theorem bte_bit (w : Int64) {k i : Nat} (hk : k < 8) (hi : i < 32) : (bte w k).toBitVec.getLsbD i = (w.toBitVec.getLsbD (56 - 8 * k + i) && decide (i < 8)) := by
  unfold bte
  rw [Int32.toBitVec_and, BitVec.getLsbD_and, bt_255 i hi, bt_cnt k hk, l32_bit _ hi, ush_bit w (by omega)]
theorem shr8_bit (w : Int64) {i : Nat} (hi : i + 8 < 64) : (w >>> ((Int32.toInt64 8) &&& 63)).toBitVec.getLsbD i = w.toBitVec.getLsbD (i + 8) := by
  have e : (w >>> ((Int32.toInt64 8) &&& 63)).toBitVec = w.toBitVec.sshiftRight 8 := by
    rw [Int64.toBitVec_shiftRight]
    rfl
  rw [e, BitVec.getLsbD_sshiftRight, decide_eq_false (by omega), if_pos (by omega), Nat.add_comm 8 i]
  rfl
def shj (w : Int64) : Nat → Int64
  | 0 => w
  | j + 1 => shj w j >>> ((Int32.toInt64 8) &&& 63)
theorem shj_bit (w : Int64) : ∀ (j i : Nat), i + 8 * j < 64 → (shj w j).toBitVec.getLsbD i = w.toBitVec.getLsbD (i + 8 * j) := by
  intro j
  induction j with
  | zero => intro i hi; rfl
  | succ j ih =>
    intro i hi
    show (shj w j >>> ((Int32.toInt64 8) &&& 63)).toBitVec.getLsbD i = _
    rw [shr8_bit _ (by omega), ih (i + 8) (by omega), show i + 8 + 8 * j = i + 8 * (j + 1) by omega]
theorem bte_model (w : Int64) {k : Nat} (hk : k < 8) : Int64.toInt32 (shj w (7 - k) &&& 255) = bte w k := by
  refine Int32.toBitVec_inj.mp (BitVec.eq_of_getLsbD_eq fun i hi => ?_)
  rw [bte_bit w hk hi, l32_bit _ hi, Int64.toBitVec_and, BitVec.getLsbD_and, bt_255l i (by omega)]
  by_cases c : i < 8
  · rw [shj_bit w (7 - k) i (by omega), show i + 8 * (7 - k) = 56 - 8 * k + i by omega]
  · rw [decide_eq_false c, Bool.and_false, Bool.and_false]
theorem bte_rng (w : Int64) (k : Nat) : 0 ≤ (bte w k).toInt ∧ (bte w k).toInt < 256 := by
  unfold bte
  rw [mask_255]
  omega
/-- eight bytes from a place on: those below n, those from n on -/
def ldB (f : Nat → Int32) (a n : Nat) (w : Int64) : Nat → Int32 := fun k => if a ≤ k ∧ k < a + n then bte w (k - a) else f k
def hdB (f : Nat → Int32) (a n : Nat) (w : Int64) : Nat → Int32 := fun k => if a + n ≤ k ∧ k < a + 8 then bte w (k - a) else f k
theorem ld_step {f : Nat → Int32} {a n : Nat} {w : Int64} : upd (ldB f a n w) (a + n) (bte w n) = ldB f a (n + 1) w := by
  funext k
  by_cases c : k = a + n
  · subst c
    rw [up_eq]
    unfold ldB
    rw [if_pos (by omega), show a + n - a = n by omega]
  · rw [up_ne c]
    unfold ldB
    by_cases d : a ≤ k ∧ k < a + n
    · rw [if_pos d, if_pos (by omega)]
    · rw [if_neg d, if_neg (by omega)]
theorem hd_step {f : Nat → Int32} {a n : Nat} {w : Int64} (hn : n < 8) : upd (hdB f a (n + 1) w) (a + n) (bte w n) = hdB f a n w := by
  funext k
  by_cases c : k = a + n
  · subst c
    rw [up_eq]
    unfold hdB
    rw [if_pos (by omega), show a + n - a = n by omega]
  · rw [up_ne c]
    unfold hdB
    by_cases d : a + (n + 1) ≤ k ∧ k < a + 8
    · rw [if_pos d, if_pos (by omega)]
    · rw [if_neg d, if_neg (by omega)]
theorem ld_class {B K K2 : Nat → Int32} {S A J C S2 A2 J2 C2 Y : Ob} {p : Int32} {w : Int64} {a : Nat} {Q : Int32 → TR7 → Prop} (hp : p.toInt = (a : Int)) (ha : a ≤ 504) (hQ : Q 1 (ldB B a 8 w, K, S, A, J, C, K2, S2, A2, J2, C2, Y)) : ∀ (m i n : Nat), i + m = 8 → m < n → wp_X7_load_L16 Q n p w (Int32.ofNat i) (ldB B a i w, K, S, A, J, C, K2, S2, A2, J2, C2, Y) := by
  have l8 : (8 : Int32).toInt = 8 := rfl
  intro m
  induction m with
  | zero =>
    intro i n hi hn
    obtain ⟨n, rfl⟩ : ∃ z, n = z + 1 := ⟨n - 1, by omega⟩
    have e : i = 8 := by omega
    subst e
    unfold wp_X7_load_L16
    exact ⟨fun _ => hQ, fun z => absurd (by decide) z⟩
  | succ m ih =>
    intro i n hi hn
    obtain ⟨n, rfl⟩ : ∃ z, n = z + 1 := ⟨n - 1, by omega⟩
    have hi0 := i_ofNat (k := i) (by omega)
    have his := of_succ (k := i) (by omega)
    have pa : (p + Int32.ofNat i).toInt = (a : Int) + i := by rw [i_add (by omega) (by omega), hp, hi0]
    have pn : Int32.toNatClampNeg (p + Int32.ofNat i) = a + i := by rw [i_nat, pa]; omega
    unfold wp_X7_load_L16
    refine ⟨fun z => absurd (i_le.mp z) (by omega), fun _ => ⟨ok_iff.mpr (by omega), fun T4 e4 x5 e5 => ?_⟩⟩
    have e4 : T4 = ldB B a (i + 1) w := by
      rw [e4, pn]
      exact ld_step
    subst e4
    rw [e5, his]
    exact ih (i + 1) n (by omega) (by omega)
theorem ld_model {M : Ob} {p : Int32} {w : Int64} {a : Nat} {Q : Int32 → Ob → Prop} (hp : p.toInt = (a : Int)) (ha : a ≤ 504) (hQ : Q 1 (sa M 0 (hdB (M.2 0) a 0 w))) : ∀ (m i n : Nat), i + m = 8 → m < n → wp_X8_load_L22 Q n p (shj w i) (Int32.ofInt (7 - (i : Int))) (sa M 0 (hdB (M.2 0) a (8 - i) w)) := by
  have l0 : (0 : Int32).toInt = 0 := rfl
  have lm : (-1 : Int32).toInt = -1 := rfl
  intro m
  induction m with
  | zero =>
    intro i n hi hn
    obtain ⟨n, rfl⟩ : ∃ z, n = z + 1 := ⟨n - 1, by omega⟩
    have e : i = 8 := by omega
    subst e
    unfold wp_X8_load_L22
    exact ⟨fun _ => hQ, fun z => absurd (by decide) z⟩
  | succ m ih =>
    intro i n hi hn
    obtain ⟨n, rfl⟩ : ∃ z, n = z + 1 := ⟨n - 1, by omega⟩
    have e7 : Int32.ofInt (7 - (i : Int)) = Int32.ofNat (7 - i) := by
      rw [show 7 - (i : Int) = ((7 - i : Nat) : Int) by omega]; rfl
    have hk0 := i_ofNat (k := 7 - i) (by omega)
    have e6 : Int32.ofNat (7 - i) + (-1) = Int32.ofInt (7 - ((i + 1 : Nat) : Int)) := by
      have a : (Int32.ofNat (7 - i) + (-1)).toInt = 7 - ((i + 1 : Nat) : Int) := by rw [i_add (by omega) (by omega), hk0, lm]; omega
      rw [← a, Int32.ofInt_toInt]
    have pa : (p + Int32.ofNat (7 - i)).toInt = (a : Int) + (7 - i : Nat) := by rw [i_add (by omega) (by omega), hp, hk0]
    have pn : Int32.toNatClampNeg (p + Int32.ofNat (7 - i)) = a + (7 - i) := by rw [i_nat, pa]; omega
    rw [e7]
    unfold wp_X8_load_L22
    refine ⟨fun z => absurd (i_lt.mp z) (by omega), fun _ => ⟨ok_iff.mpr (by omega), fun T6 f6 x7 f7 x8 f8 => ?_⟩⟩
    have hb := bte_model w (k := 7 - i) (by omega)
    rw [show 7 - (7 - i) = i by omega] at hb
    have f6 : T6 = sa M 0 (hdB (M.2 0) a (8 - (i + 1)) w) := by
      rw [f6, sa_self, sa_sa, pn, hb, show 8 - i = (7 - i) + 1 by omega, hd_step (by omega), show 8 - (i + 1) = 7 - i by omega]
    have f7 : x7 = shj w (i + 1) := f7
    subst f6
    subst f7
    rw [f8, e6]
    exact ih (i + 1) n (by omega) (by omega)
theorem call_load {N T : Int} {B K K2 : Nat → Int32} {S A J C S2 A2 J2 C2 Y M : Ob} (h : REL N T B K S A J C J2 M) (p : Int32) (w : Int64) : FACE N T (fun Q => wp_X7_load (B, K, S, A, J, C, K2, S2, A2, J2, C2, Y) p w Q) (fun Q => wp_X8_load M p w Q) := by
  have l0 : (0 : Int32).toInt = 0 := rfl
  have l504 : (504 : Int32).toInt = 504 := rfl
  by_cases c : 0 ≤ p.toInt ∧ p.toInt ≤ 504
  · obtain ⟨a, ha⟩ : ∃ a : Nat, p.toInt = (a : Int) := ⟨p.toInt.toNat, by omega⟩
    obtain ⟨hS, hA, hJ, hC, hB, hK, hp, hP, hJ2⟩ := id h
    have e8 : hdB (M.2 0) a 0 w = ldB (M.2 0) a 8 w := by funext k; rfl
    have h1 : REL N T (ldB B a 8 w) K S A J C J2 (sa (si M 17 0) 0 (hdB (M.2 0) a 0 w)) := by
      refine ⟨rS_fr hS (fun _ _ => rfl) rfl rfl rfl rfl rfl rfl, hA, rJ_fr hJ (Int.le_refl _) (fun _ _ _ _ _ => rfl) rfl rfl rfl rfl rfl rfl, rC_fr hC (fun _ _ => rfl) rfl, fun k hk => ?_, hK, hp, hP, hJ2⟩
      rw [sa_self, e8]
      unfold ldB
      by_cases d : a ≤ k ∧ k < a + 8
      · rw [if_pos d, if_pos d]; exact ⟨rfl, bte_rng w _⟩
      · rw [if_neg d, if_neg d]; exact hB k hk
    refine ⟨1, _, _, _, _, _, _, K2, S2, A2, J2, C2, Y, _, fun Q hQ => ?_, fun Q hQ => ?_, REL_up h1⟩
    · unfold wp_X7_load
      have := ld_class (w := w) ha (by omega) hQ 8 0 2000 (by omega) (by omega)
      have e0 : ldB B a 0 w = B := by
        funext k
        exact if_neg (by omega)
      rw [e0] at this
      exact ⟨fun z => absurd (i_lt.mp z) (by omega), fun _ => ⟨fun _ => this, fun z => absurd (i_le.mpr (by omega)) z⟩⟩
    · unfold wp_X8_load
      intro T1 e1
      subst e1
      refine b_within ?_
      rw [if_pos (by omega)]
      have := ld_model (M := si M 17 0) (w := w) ha (by omega) hQ 8 0 2000 (by omega) (by omega)
      have e0 : hdB ((si M 17 0).2 0) a (8 - 0) w = (si M 17 0).2 0 := by
        funext k
        exact if_neg (by omega)
      rw [e0, sa_same] at this
      exact ⟨fun _ => this, fun z => absurd z (by decide)⟩
  · refine FACE_get (K2 := K2) (S2 := S2) (A2 := A2) (C2 := C2) (Y := Y) h (v := 0) (fun Q hQ => ?_) (fun Q hQ => ?_)
    · unfold wp_X7_load
      refine ⟨fun _ => hQ, fun z => ⟨fun y => ?_, fun _ => hQ⟩⟩
      rw [i_lt] at z
      rw [i_le] at y
      exact absurd ⟨by omega, by omega⟩ c
    · unfold wp_X8_load
      intro T1 e1
      subst e1
      refine b_within ?_
      rw [if_neg (by omega)]
      exact ⟨fun z => absurd rfl z, fun _ => hQ⟩
