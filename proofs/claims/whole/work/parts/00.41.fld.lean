/-! LAYER 2: singles: the class's bitsOf -/
theorem Rp_z {z : UInt32} {s : Bool} {n : Nat} {k : Int} (h : Rp z s n k) (hn : n < 16777216) (h1 : -149 ≤ k) (h2 : k ≤ 104) : FP.Core.zval FP.Core.b32 (FP.Core.val32 z) = FP.Core.signed s (n * 2 ^ (k + 149).toNat) := by
  obtain ⟨c, q, a1, a2, a3⟩ := Rp_exact h hn h1 h2
  rw [a1]
  show FP.Core.signed s (FP.Core.inUnits c q FP.Core.b32.qmin) = _
  unfold FP.Core.inUnits
  rw [FP.Core.qmin_b32, show q - -149 = q + 149 by omega, a3]
theorem cv_g {x y : Int} : (0 ≤ Op.cmpValue (some (compare x y)) CmpOp.g) ↔ y ≤ x := by
  rcases Int.lt_trichotomy x y with h | h | h
  · rw [(FP.Core.compare_lt_iff x y).mpr h]
    exact ⟨fun c => absurd c (by decide), fun c => by omega⟩
  · rw [(FP.Core.compare_eq_iff x y).mpr h]
    exact ⟨fun _ => by omega, fun _ => by decide⟩
  · rw [(FP.Core.compare_gt_iff x y).mpr h]
    exact ⟨fun _ => by omega, fun _ => by decide⟩
theorem cv_l {x y : Int} : (Op.cmpValue (some (compare x y)) CmpOp.l < 0) ↔ x < y := by
  rcases Int.lt_trichotomy x y with h | h | h
  · rw [(FP.Core.compare_lt_iff x y).mpr h]
    exact ⟨fun _ => h, fun _ => by decide⟩
  · rw [(FP.Core.compare_eq_iff x y).mpr h]
    exact ⟨fun c => absurd c (by decide), fun _ => by omega⟩
  · rw [(FP.Core.compare_gt_iff x y).mpr h]
    exact ⟨fun c => absurd c (by decide), fun _ => by omega⟩
theorem cv_le {x y : Int} : (Op.cmpValue (some (compare x y)) CmpOp.l ≤ 0) ↔ x ≤ y := by
  rcases Int.lt_trichotomy x y with h | h | h
  · rw [(FP.Core.compare_lt_iff x y).mpr h]
    exact ⟨fun _ => by omega, fun _ => by decide⟩
  · rw [(FP.Core.compare_eq_iff x y).mpr h]
    exact ⟨fun _ => by omega, fun _ => by decide⟩
  · rw [(FP.Core.compare_gt_iff x y).mpr h]
    exact ⟨fun c => absurd c (by decide), fun _ => by omega⟩
theorem Rp_cmp {z w : UInt32} {s t : Bool} {n m : Nat} {k j : Int} (hz : Rp z s n k) (hw : Rp w t m j) (hn : n < 16777216) (h1 : -149 ≤ k) (h2 : k ≤ 104) (hm : m < 16777216) (g1 : -149 ≤ j) (g2 : j ≤ 104) : FP.fcmp z w = some (compare (FP.Core.signed s (n * 2 ^ (k + 149).toNat)) (FP.Core.signed t (m * 2 ^ (j + 149).toNat))) := by
  rw [fc_core, FP.Core.fcmp_zval ((n32_iff z).mp (Rp_n32 hz)) ((n32_iff w).mp (Rp_n32 hw)), Rp_z hz hn h1 h2, Rp_z hw hm g1 g2]
/-- a number of 24 digits beside a power of two -/
theorem pw_cmp {n : Nat} {k j : Int} (hn0 : 8388608 ≤ n) (hn : n < 16777216) (h1 : -149 ≤ k) (g1 : -149 ≤ j) : (2 ^ (j + 149).toNat ≤ n * 2 ^ (k + 149).toNat) ↔ j ≤ k + 23 := by
  have hp := Nat.two_pow_pos (k + 149).toNat
  constructor
  · intro h
    by_cases c : j ≤ k + 23
    · exact c
    · exfalso
      have e1 : 2 ^ ((k + 149).toNat + 24) ≤ 2 ^ (j + 149).toNat := Nat.pow_le_pow_right (by decide) (by omega)
      rw [Nat.pow_add] at e1
      have e2 : n * 2 ^ (k + 149).toNat < 16777216 * 2 ^ (k + 149).toNat := Nat.mul_lt_mul_of_pos_right hn hp
      have e3 : 2 ^ (k + 149).toNat * 2 ^ 24 = 16777216 * 2 ^ (k + 149).toNat := Nat.mul_comm _ _
      omega
  · intro h
    have e1 : 2 ^ (j + 149).toNat ≤ 2 ^ ((k + 149).toNat + 23) := Nat.pow_le_pow_right (by decide) (by omega)
    rw [Nat.pow_add] at e1
    have e2 : 8388608 * 2 ^ (k + 149).toNat ≤ n * 2 ^ (k + 149).toNat := Nat.mul_le_mul_right _ hn0
    have e3 : 2 ^ (k + 149).toNat * 2 ^ 23 = 8388608 * 2 ^ (k + 149).toNat := Nat.mul_comm _ _
    omega
theorem cmp_g {z w : UInt32} {n : Nat} {k j : Int} (hz : Rp z false n k) (hw : Rp w false 1 j) (hn0 : 8388608 ≤ n) (hn : n < 16777216) (h1 : -149 ≤ k) (h2 : k ≤ 104) (g1 : -149 ≤ j) (g2 : j ≤ 104) : (0 ≤ Op.cmpValue (FP.fcmp z w) CmpOp.g) ↔ j ≤ k + 23 := by
  rw [Rp_cmp hz hw hn h1 h2 (by decide) g1 g2, cv_g, ← pw_cmp hn0 hn h1 g1]
  show ((1 * 2 ^ (j + 149).toNat : Nat) : Int) ≤ ((n * 2 ^ (k + 149).toNat : Nat) : Int) ↔ _
  rw [Nat.one_mul]
  exact Int.ofNat_le
theorem cmp_l {z w : UInt32} {n : Nat} {k j : Int} (hz : Rp z false n k) (hw : Rp w false 1 j) (hn0 : 8388608 ≤ n) (hn : n < 16777216) (h1 : -149 ≤ k) (h2 : k ≤ 104) (g1 : -149 ≤ j) (g2 : j ≤ 104) : (Op.cmpValue (FP.fcmp z w) CmpOp.l < 0) ↔ k + 23 < j := by
  rw [Rp_cmp hz hw hn h1 h2 (by decide) g1 g2, cv_l]
  show ((n * 2 ^ (k + 149).toNat : Nat) : Int) < ((1 * 2 ^ (j + 149).toNat : Nat) : Int) ↔ _
  rw [Nat.one_mul]
  have := pw_cmp hn0 hn h1 g1
  omega
theorem Rp_40 : Rp 1400897536 false 1 40 := by unfold Rp; decide +kernel
theorem Rp_m16 : Rp 931135488 false 1 (-16) := by unfold Rp; decide +kernel
theorem Rp_7 : Rp 1124073472 false 1 7 := by unfold Rp; decide +kernel
theorem Rp_16 : Rp 1199570944 false 1 16 := by unfold Rp; decide +kernel
theorem Rp_24 : Rp 1266679808 false 1 24 := by unfold Rp; decide +kernel
theorem Rp_23 : Rp 1258291200 false 1 23 := by unfold Rp; decide +kernel
theorem Rp_75 : Rp 1694498816 false 1 75 := by unfold Rp; decide +kernel
theorem Rp_74 : Rp 1686110208 false 1 74 := by unfold Rp; decide +kernel
theorem Rp_mn : Rp 8388608 false 1 (-126) := by unfold Rp; decide +kernel
theorem Rp_mx : Rp 2139095039 false 16777215 104 := by unfold Rp; decide +kernel
theorem Rp_0 : Rp 0 false 0 (-149) := by unfold Rp; decide +kernel
/-- the bits of a number of 24 digits -/
def nrB (y1 : Int32) (n : Nat) (k : Int) : Int32 := (y1 ||| (Int32.ofNat (k + 150).toNat <<< (23 &&& 31))) ||| (Int32.ofNat n - 8388608)
theorem y3_eq {y3 : Int32} {k e : Int} (h : y3.toInt = 150 + e - k) (hk : k = 0) (he : -149 ≤ e) (he2 : e ≤ 104) : y3 = Int32.ofNat (e + 150).toNat := i_eq.mpr (by rw [h, i_ofNat (by omega)]; omega)
theorem b157 {n : Nat} {e : Int} {y1 : Int32} (hn0 : 8388608 ≤ n) (hn : n < 16777216) (he : -149 ≤ e) (he2 : e ≤ 104) : ∀ (m f : Nat) (y2 : UInt32) (y3 y4 : Int32), m < f → Rp y2 false n (-(m : Int)) → y3.toInt = 150 + e + (m : Int) → 0 ≤ y4.toInt → y4.toInt + (m : Int) ≤ 16 → ∀ Q : Int32 → Unit → Prop, Q (nrB y1 n e) () → wp_X4_bitsOf_L157 Q f y1 y2 y3 y4 () := by
  intro m
  induction m with
  | zero =>
    intro f y2 y3 y4 hf h2 h3 h40 h4 Q q
    obtain ⟨f, rfl⟩ : ∃ f', f = f' + 1 := ⟨f - 1, by omega⟩
    have h2' : Rp y2 false n 0 := h2
    have e3 : y3 = Int32.ofNat (e + 150).toNat := i_eq.mpr (by rw [h3, i_ofNat (by omega)]; omega)
    have ans : Q ((y1 ||| (y3 <<< (23 &&& 31))) ||| (FP.f2i y2 - 8388608)) () := by
      rw [e3, Rp_f2i h2' hn]
      exact q
    unfold wp_X4_bitsOf_L157
    exact ⟨fun _ => ans, fun _ => ⟨fun _ => ans, fun c => absurd ((cmp_g h2' Rp_23 hn0 hn (by decide) (by decide) (by decide) (by decide)).mpr (by omega)) c⟩⟩
  | succ m ih =>
    intro f y2 y3 y4 hf h2 h3 h40 h4 Q q
    obtain ⟨f, rfl⟩ : ∃ f', f = f' + 1 := ⟨f - 1, by omega⟩
    have hr := Rp_pow h2 Rp_2 hn (by omega) (by omega) (by decide) (by decide)
    rw [show -((m + 1 : Nat) : Int) + 1 = -(m : Int) by omega] at hr
    unfold wp_X4_bitsOf_L157
    refine ⟨fun c => ?_, fun _ => ⟨fun c => ?_, fun _ => ⟨Rp_n32 hr, fun _ e1 _ e2 _ e3 => ?_⟩⟩⟩
    · rw [i_le, show (16 : Int32).toInt = 16 from rfl] at c; omega
    · have := (cmp_g h2 Rp_23 hn0 hn (by omega) (by omega) (by decide) (by decide)).mp c
      omega
    · subst e1
      subst e2
      subst e3
      refine ih f _ _ _ (by omega) hr ?_ ?_ ?_ Q q
      · rw [i_add (by rw [h3, show (-1 : Int32).toInt = -1 from rfl]; omega) (by rw [h3, show (-1 : Int32).toInt = -1 from rfl]; omega), h3, show (-1 : Int32).toInt = -1 from rfl]; omega
      · rw [i_add (by rw [show (1 : Int32).toInt = 1 from rfl]; omega) (by rw [show (1 : Int32).toInt = 1 from rfl]; omega), show (1 : Int32).toInt = 1 from rfl]; omega
      · rw [i_add (by rw [show (1 : Int32).toInt = 1 from rfl]; omega) (by rw [show (1 : Int32).toInt = 1 from rfl]; omega), show (1 : Int32).toInt = 1 from rfl]; omega
theorem b126 {n : Nat} {e : Int} {y1 : Int32} (hn0 : 8388608 ≤ n) (hn : n < 16777216) (he : -149 ≤ e) (he2 : e ≤ 104) : ∀ (m f : Nat) (k : Int) (y2 : UInt32) (y3 y4 : Int32), k ≤ (m : Int) → -16 ≤ k → m < f → Rp y2 false n k → y3.toInt = 150 + e - k → 0 ≤ y4.toInt → y4.toInt + (m : Int) ≤ 16 → ∀ Q : Int32 → Unit → Prop, Q (nrB y1 n e) () → wp_X4_bitsOf_L126 Q f y1 y2 y3 y4 () := by
  intro m
  have z16 : (16 : Int32).toInt = 16 := rfl
  have z1 : (1 : Int32).toInt = 1 := rfl
  have done : ∀ (f : Nat) (k : Int) (y2 : UInt32) (y3 : Int32), k ≤ 0 → -16 ≤ k → Rp y2 false n k → y3.toInt = 150 + e - k → ∀ Q : Int32 → Unit → Prop, Q (nrB y1 n e) () → wp_X4_bitsOf_L157 Q 2000 y1 y2 y3 0 () := by
    intro f k y2 y3 k0 k16 h2 h3 Q q
    refine b157 hn0 hn he he2 (-k).toNat 2000 y2 y3 0 (by omega) ?_ ?_ (by decide) ?_ Q q
    · rw [show -(((-k).toNat : Nat) : Int) = k by omega]; exact h2
    · omega
    · rw [show (0 : Int32).toInt = 0 from rfl]; omega
  induction m with
  | zero =>
    intro f k y2 y3 y4 hk k16 hf h2 h3 h40 h4 Q q
    obtain ⟨f, rfl⟩ : ∃ f', f = f' + 1 := ⟨f - 1, by omega⟩
    have d := done f k y2 y3 (by omega) k16 h2 h3 Q q
    unfold wp_X4_bitsOf_L126
    exact ⟨fun _ => d, fun _ => ⟨fun _ => d, fun c => absurd ((cmp_l h2 Rp_24 hn0 hn (by omega) (by omega) (by decide) (by decide)).mpr (by omega)) c⟩⟩
  | succ m ih =>
    intro f k y2 y3 y4 hk k16 hf h2 h3 h40 h4 Q q
    obtain ⟨f, rfl⟩ : ∃ f', f = f' + 1 := ⟨f - 1, by omega⟩
    unfold wp_X4_bitsOf_L126
    have n16 : ¬ (16 : Int32) ≤ y4 := by rw [i_le, z16]; omega
    by_cases c : k ≤ 0
    · have d := done f k y2 y3 c k16 h2 h3 Q q
      exact ⟨fun w => absurd w n16, fun _ => ⟨fun _ => d, fun w => absurd ((cmp_l h2 Rp_24 hn0 hn (by omega) (by omega) (by decide) (by decide)).mpr (by omega)) w⟩⟩
    · have hr := Rp_pow h2 Rp_h hn (by omega) (by omega) (by decide) (by decide)
      refine ⟨fun w => absurd w n16, fun _ => ⟨fun w => ?_, fun _ => ⟨Rp_n32 hr, fun _ e1 _ e2 _ e3 => ?_⟩⟩⟩
      · have := (cmp_l h2 Rp_24 hn0 hn (by omega) (by omega) (by decide) (by decide)).mp w
        omega
      · subst e1
        subst e2
        subst e3
        refine ih f (k + -1) _ _ _ (by omega) (by omega) (by omega) hr ?_ ?_ ?_ Q q
        · rw [i_add (by rw [h3, z1]; omega) (by rw [h3, z1]; omega), h3, z1]; omega
        · rw [i_add (by rw [z1]; omega) (by rw [z1]; omega), z1]; omega
        · rw [i_add (by rw [z1]; omega) (by rw [z1]; omega), z1]; omega
theorem b95 {n : Nat} {e : Int} {y1 : Int32} (hn0 : 8388608 ≤ n) (hn : n < 16777216) (he : -149 ≤ e) (he2 : e ≤ 104) : ∀ (m f : Nat) (k : Int) (y2 : UInt32) (y3 y4 : Int32), -(16 * (m : Int)) - 16 ≤ k → k ≤ 16 → -149 ≤ k → m < f → Rp y2 false n k → y3.toInt = 150 + e - k → 0 ≤ y4.toInt → y4.toInt + (m : Int) ≤ 9 → ∀ Q : Int32 → Unit → Prop, Q (nrB y1 n e) () → wp_X4_bitsOf_L95 Q f y1 y2 y3 y4 () := by
  intro m
  have z9 : (9 : Int32).toInt = 9 := rfl
  have z1 : (1 : Int32).toInt = 1 := rfl
  have zm : (-16 : Int32).toInt = -16 := rfl
  have done : ∀ (k : Int) (y2 : UInt32) (y3 : Int32), k ≤ 16 → -16 ≤ k → Rp y2 false n k → y3.toInt = 150 + e - k → ∀ Q : Int32 → Unit → Prop, Q (nrB y1 n e) () → wp_X4_bitsOf_L126 Q 2000 y1 y2 y3 0 () := by
    intro k y2 y3 k0 k16 h2 h3 Q q
    exact b126 hn0 hn he he2 16 2000 k y2 y3 0 (by omega) k16 (by decide) h2 h3 (by decide) (by decide) Q q
  induction m with
  | zero =>
    intro f k y2 y3 y4 hk k16 k149 hf h2 h3 h40 h4 Q q
    obtain ⟨f, rfl⟩ : ∃ f', f = f' + 1 := ⟨f - 1, by omega⟩
    have d := done k y2 y3 k16 (by omega) h2 h3 Q q
    unfold wp_X4_bitsOf_L95
    exact ⟨fun _ => d, fun _ => ⟨fun _ => d, fun c => absurd ((cmp_g h2 Rp_7 hn0 hn (by omega) (by omega) (by decide) (by decide)).mpr (by omega)) c⟩⟩
  | succ m ih =>
    intro f k y2 y3 y4 hk k16 k149 hf h2 h3 h40 h4 Q q
    obtain ⟨f, rfl⟩ : ∃ f', f = f' + 1 := ⟨f - 1, by omega⟩
    unfold wp_X4_bitsOf_L95
    have n9 : ¬ (9 : Int32) ≤ y4 := by rw [i_le, z9]; omega
    by_cases c : -16 ≤ k
    · have d := done k y2 y3 k16 c h2 h3 Q q
      exact ⟨fun w => absurd w n9, fun _ => ⟨fun _ => d, fun w => absurd ((cmp_g h2 Rp_7 hn0 hn (by omega) (by omega) (by decide) (by decide)).mpr (by omega)) w⟩⟩
    · have hr := Rp_pow h2 Rp_16 hn (by omega) (by omega) (by decide) (by decide)
      refine ⟨fun w => absurd w n9, fun _ => ⟨fun w => ?_, fun _ => ⟨Rp_n32 hr, fun _ e1 _ e2 _ e3 => ?_⟩⟩⟩
      · have := (cmp_g h2 Rp_7 hn0 hn (by omega) (by omega) (by decide) (by decide)).mp w
        omega
      · subst e1
        subst e2
        subst e3
        refine ih f (k + 16) _ _ _ (by omega) (by omega) (by omega) (by omega) hr ?_ ?_ ?_ Q q
        · rw [i_add (by rw [h3, zm]; omega) (by rw [h3, zm]; omega), h3, zm]; omega
        · rw [i_add (by rw [z1]; omega) (by rw [z1]; omega), z1]; omega
        · rw [i_add (by rw [z1]; omega) (by rw [z1]; omega), z1]; omega
theorem b64 {n : Nat} {e : Int} {y1 : Int32} (hn0 : 8388608 ≤ n) (hn : n < 16777216) (he : -149 ≤ e) (he2 : e ≤ 104) : ∀ (m f : Nat) (k : Int) (y2 : UInt32) (y3 y4 : Int32), k ≤ 16 * (m : Int) + 16 → -149 ≤ k → k ≤ 104 → m < f → Rp y2 false n k → y3.toInt = 150 + e - k → 0 ≤ y4.toInt → y4.toInt + (m : Int) ≤ 8 → ∀ Q : Int32 → Unit → Prop, Q (nrB y1 n e) () → wp_X4_bitsOf_L64 Q f y1 y2 y3 y4 () := by
  intro m
  have z8 : (8 : Int32).toInt = 8 := rfl
  have z1 : (1 : Int32).toInt = 1 := rfl
  have zp : (16 : Int32).toInt = 16 := rfl
  have done : ∀ (k : Int) (y2 : UInt32) (y3 : Int32), k ≤ 16 → -149 ≤ k → Rp y2 false n k → y3.toInt = 150 + e - k → ∀ Q : Int32 → Unit → Prop, Q (nrB y1 n e) () → wp_X4_bitsOf_L95 Q 2000 y1 y2 y3 0 () := by
    intro k y2 y3 k0 k16 h2 h3 Q q
    exact b95 hn0 hn he he2 9 2000 k y2 y3 0 (by omega) k0 k16 (by decide) h2 h3 (by decide) (by decide) Q q
  induction m with
  | zero =>
    intro f k y2 y3 y4 hk k149 k104 hf h2 h3 h40 h4 Q q
    obtain ⟨f, rfl⟩ : ∃ f', f = f' + 1 := ⟨f - 1, by omega⟩
    have d := done k y2 y3 (by omega) k149 h2 h3 Q q
    unfold wp_X4_bitsOf_L64
    exact ⟨fun _ => d, fun _ => ⟨fun _ => d, fun c => absurd ((cmp_l h2 Rp_40 hn0 hn (by omega) (by omega) (by decide) (by decide)).mpr (by omega)) c⟩⟩
  | succ m ih =>
    intro f k y2 y3 y4 hk k149 k104 hf h2 h3 h40 h4 Q q
    obtain ⟨f, rfl⟩ : ∃ f', f = f' + 1 := ⟨f - 1, by omega⟩
    unfold wp_X4_bitsOf_L64
    have n8 : ¬ (8 : Int32) ≤ y4 := by rw [i_le, z8]; omega
    by_cases c : k ≤ 16
    · have d := done k y2 y3 c k149 h2 h3 Q q
      exact ⟨fun w => absurd w n8, fun _ => ⟨fun _ => d, fun w => absurd ((cmp_l h2 Rp_40 hn0 hn (by omega) (by omega) (by decide) (by decide)).mpr (by omega)) w⟩⟩
    · have hr := Rp_pow h2 Rp_m16 hn (by omega) (by omega) (by decide) (by decide)
      refine ⟨fun w => absurd w n8, fun _ => ⟨fun w => ?_, fun _ => ⟨Rp_n32 hr, fun _ e1 _ e2 _ e3 => ?_⟩⟩⟩
      · have := (cmp_l h2 Rp_40 hn0 hn (by omega) (by omega) (by decide) (by decide)).mp w
        omega
      · subst e1
        subst e2
        subst e3
        refine ih f (k + -16) _ _ _ (by omega) (by omega) (by omega) (by omega) hr ?_ ?_ ?_ Q q
        · rw [i_add (by rw [h3, zp]; omega) (by rw [h3, zp]; omega), h3, zp]; omega
        · rw [i_add (by rw [z1]; omega) (by rw [z1]; omega), z1]; omega
        · rw [i_add (by rw [z1]; omega) (by rw [z1]; omega), z1]; omega
