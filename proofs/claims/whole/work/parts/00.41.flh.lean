/-! LAYER 2: the reference's lengthOf -/
theorem lc_le {a b : Nat} (ha : a < 9223372036854775808) (hb : b < 9223372036854775808) : (lg_cmp (L6 a) (L6 b) ≤ 0) ↔ a ≤ b := by
  rw [lg_cmp_le, Int64.le_iff_toInt_le, l_int ha, l_int hb]
  exact Int.ofNat_le
theorem lc_ge {a b : Nat} (ha : a < 9223372036854775808) (hb : b < 9223372036854775808) : (0 ≤ lg_cmp (L6 a) (L6 b)) ↔ b ≤ a := by
  rw [lg_cmp_ge, Int64.le_iff_toInt_le, l_int ha, l_int hb]
  exact Int.ofNat_le
theorem lc_gt {a b : Nat} (ha : a < 9223372036854775808) (hb : b < 9223372036854775808) : (0 < lg_cmp (L6 a) (L6 b)) ↔ b < a := by
  rw [lg_cmp_gt, Int64.lt_iff_toInt_lt, l_int ha, l_int hb]
  exact Int.ofNat_lt
theorem lc_eq {a b : Nat} (ha : a < 9223372036854775808) (hb : b < 9223372036854775808) : (lg_cmp (L6 a) (L6 b) = 0) ↔ a = b := by
  have h1 := lc_le ha hb
  have h2 := lc_ge ha hb
  rw [i_le, show (0 : Int32).toInt = 0 from rfl] at h1 h2
  rw [i_eq, show (0 : Int32).toInt = 0 from rfl]
  omega
/-- how many binary digits -/
def ln (n : Nat) : Nat := if n = 0 then 0 else n.log2 + 1
theorem ln_half {n : Nat} (h : ¬ n = 0) : ln n = ln (n / 2) + 1 := by
  unfold ln
  rw [if_neg h, Nat.log2_def]
  by_cases c : 2 ≤ n
  · rw [if_pos c, if_neg (by omega)]
  · rw [if_neg c, if_pos (by omega)]
theorem len_loop : ∀ (m f n : Nat) (y : Int32), n < 2 ^ m → m < 64 → m < f → 0 ≤ y.toInt → y.toInt + (m : Int) < 1000 → ∀ Q : Int32 → Unit → Prop, (∀ r : Int32, r.toInt = y.toInt + (ln n : Int) → Q r ()) → n < 9223372036854775808 → wp_X8_lengthOf_L4 Q f y (L6 n) () := by
  intro m
  induction m with
  | zero =>
    intro f n y hn _ hf _ _ Q q h63
    obtain ⟨f, rfl⟩ : ∃ f', f = f' + 1 := ⟨f - 1, by omega⟩
    have e : n = 0 := by simpa using hn
    subst e
    unfold wp_X8_lengthOf_L4
    exact ⟨fun _ => q y (by show _ = y.toInt + ((0 : Nat) : Int); omega), fun c => absurd (by decide) c⟩
  | succ m ih =>
    intro f n y hn hm hf y0 yh Q q h63
    obtain ⟨f, rfl⟩ : ∃ f', f = f' + 1 := ⟨f - 1, by omega⟩
    have hc := lc_le (a := n) (b := 0) h63 (by decide)
    unfold wp_X8_lengthOf_L4
    refine ⟨fun c => ?_, fun c x2 e2 x3 e3 => ?_⟩
    · have e : n = 0 := by have := hc.mp c; omega
      subst e
      exact q y (by show _ = y.toInt + ((0 : Nat) : Int); omega)
    · have n0 : ¬ n = 0 := fun e => c (hc.mpr (by omega))
      have e3' : x3 = L6 (n / 2) := e3.trans (l_shr (k := 1) h63 (by decide))
      subst e3'
      subst e2
      have y1 : (y + 1).toInt = y.toInt + 1 := by rw [i_add (by rw [show (1 : Int32).toInt = 1 from rfl]; omega) (by rw [show (1 : Int32).toInt = 1 from rfl]; omega)]; rfl
      refine ih f (n / 2) (y + 1) (by rw [Nat.pow_succ] at hn; omega) (by omega) (by omega) (by omega) (by omega) Q (fun r hr => q r ?_) (by omega)
      rw [hr, y1, ln_half n0]
      omega
theorem length_model {n : Nat} (h63 : n < 9223372036854775808) (Q : Int32 → Unit → Prop) (q : Q (Int32.ofNat (ln n)) ()) : wp_X8_lengthOf () (L6 n) Q := by
  unfold wp_X8_lengthOf
  have hl : ln n ≤ 63 := by
    unfold ln
    by_cases c : n = 0
    · rw [if_pos c]; omega
    · rw [if_neg c]
      have := (Nat.log2_lt c).mpr (show n < 2 ^ 63 by omega)
      omega
  refine len_loop 63 2000 n 0 (by omega) (by decide) (by decide) (by decide) (by decide) Q (fun r hr => ?_) h63
  have e : r = Int32.ofNat (ln n) := i_eq.mpr (by rw [hr, i_ofNat (by omega), show (0 : Int32).toInt = 0 from rfl]; omega)
  rw [e]; exact q
/-- the place of the last digit that is kept -/
theorem quantum_ln {n : Nat} {p : Int} (h : ¬ n = 0) : FP.Core.quantum FP.Core.b32 n 1 p = max (-149) ((ln n : Int) + p - 24) := by
  have hl : FP.Core.leading n 1 = (n.log2 : Int) := by
    unfold FP.Core.leading
    have e : ((n.log2 : Int) - ((1 : Nat).log2 : Int)) = (n.log2 : Int) := by
      have : (1 : Nat).log2 = 0 := by decide
      rw [this]; omega
    simp only [e]
    rw [if_pos]
    rw [show (-(n.log2 : Int)).toNat = 0 by omega, show ((n.log2 : Int)).toNat = n.log2 by omega, Nat.one_mul, Nat.pow_zero, Nat.mul_one]
    exact Nat.log2_self_le h
  unfold FP.Core.quantum
  rw [hl, FP.Core.qmin_b32, p_24]
  unfold ln
  rw [if_neg h]
  congr 1
  omega
