/-! LAYER 2: singles: to whole numbers -/
/-- the end: within what an int holds -/
def clB (s : Bool) (m : Nat) : Int32 := if s = true then (if m ≤ 2147483648 then Int64.toInt32 (-(L6 m)) else -2147483648) else (if m ≤ 2147483647 then Int64.toInt32 (L6 m) else 2147483647)
theorem ti_end {a : Int32} {m : Nat} (hm : m < 9223372036854775808) (Q : Int32 → Unit → Prop) (q : Q (clB (fN a) m) ()) : ((0 ≤ a → (((lg_cmp (L6 m) 2147483647) ≤ 0 → Q (Int64.toInt32 (L6 m)) ()) ∧ (¬ (lg_cmp (L6 m) 2147483647) ≤ 0 → Q 2147483647 ()))) ∧ (¬ 0 ≤ a → (((lg_cmp (L6 m) 2147483648) ≤ 0 → Q (Int64.toInt32 (-(L6 m))) ()) ∧ (¬ (lg_cmp (L6 m) 2147483648) ≤ 0 → Q (-2147483648) ())))) := by
  have h1 := lc_le (a := m) (b := 2147483647) hm (by decide)
  have h2 := lc_le (a := m) (b := 2147483648) hm (by decide)
  refine ⟨fun c => ?_, fun c => ?_⟩
  · rw [(fl_neg a).mp c] at q
    refine ⟨fun d => ?_, fun d => ?_⟩
    · have : clB false m = Int64.toInt32 (L6 m) := if_pos (h1.mp d)
      rw [this] at q; exact q
    · have : clB false m = 2147483647 := if_neg (fun z => d (h1.mpr z))
      rw [this] at q; exact q
  · have hN : fN a = true := by
      cases hb : fN a
      · exact absurd ((fl_neg a).mpr hb) c
      · rfl
    rw [hN] at q
    refine ⟨fun d => ?_, fun d => ?_⟩
    · have : clB true m = Int64.toInt32 (-(L6 m)) := if_pos (h2.mp d)
      rw [this] at q; exact q
    · have : clB true m = -2147483648 := if_neg (fun z => d (h2.mpr z))
      rw [this] at q; exact q
theorem ti_up {a : Int32} {y3 : Int32} {P : Nat} (hP : y3.toInt = (P : Int)) (hP2 : P ≤ 200) (Q : Int32 → Unit → Prop) : ∀ (k i f m : Nat), i + k = P → k < f → m < 8589934592 → (4294967296 ≤ m * 2 ^ k → Q (clB (fN a) 4294967296) ()) → (m * 2 ^ k < 4294967296 → Q (clB (fN a) (m * 2 ^ k)) ()) → wp_X8_toInt_L38 Q f a (L6 m) y3 (Int32.ofNat i) () := by
  have big : ∀ (s : Bool) (m : Nat), 4294967296 ≤ m → clB s m = clB s 4294967296 := fun s m h => by
    cases s
    · exact (show clB false m = 2147483647 from if_neg (show ¬ m ≤ 2147483647 by omega)).trans (show clB false 4294967296 = 2147483647 by decide +kernel).symm
    · exact (show clB true m = -2147483648 from if_neg (show ¬ m ≤ 2147483648 by omega)).trans (show clB true 4294967296 = -2147483648 by decide +kernel).symm
  intro k
  induction k with
  | zero =>
    intro i f m e hf hm q1 q2
    obtain ⟨f, rfl⟩ : ∃ f', f = f' + 1 := ⟨f - 1, by omega⟩
    have xi := i_ofNat (k := i) (by omega)
    unfold wp_X8_toInt_L38
    refine ⟨fun _ => ti_end (by omega) Q ?_, fun c => absurd (i_le.mpr (by omega)) c⟩
    rw [Nat.pow_zero, Nat.mul_one] at q1 q2
    by_cases w : 4294967296 ≤ m
    · rw [big _ _ w]; exact q1 w
    · exact q2 (by omega)
  | succ k ih =>
    intro i f m e hf hm q1 q2
    obtain ⟨f, rfl⟩ : ∃ f', f = f' + 1 := ⟨f - 1, by omega⟩
    have xi := i_ofNat (k := i) (by omega)
    have z1 : (1 : Int32).toInt = 1 := rfl
    have hg := lc_ge (a := m) (b := 4294967296) (by omega) (by decide)
    unfold wp_X8_toInt_L38
    refine ⟨fun c => ?_, fun _ => ⟨fun c => ti_end (by omega) Q ?_, fun c x17 e17 x18 e18 => ?_⟩⟩
    · rw [i_le] at c; omega
    · have w := hg.mp c
      rw [big _ _ w]
      refine q1 ?_
      have : m * 1 ≤ m * 2 ^ (k + 1) := Nat.mul_le_mul_left m (Nat.two_pow_pos _)
      omega
    · have w : m < 4294967296 := by
        by_cases w : 4294967296 ≤ m
        · exact absurd (hg.mpr w) c
        · omega
      have e17' : x17 = L6 (m * 2) := e17.trans (l_shl (n := m) (k := 1) (by decide) (by omega))
      have e18' : x18 = Int32.ofNat (i + 1) := i_eq.mpr (by
        rw [e18, i_add (by rw [xi, z1]; omega) (by rw [xi, z1]; omega), xi, z1, i_ofNat (by omega)]; omega)
      subst e17'
      subst e18'
      have em : m * 2 * 2 ^ k = m * 2 ^ (k + 1) := by rw [Nat.pow_succ, Nat.mul_assoc, Nat.mul_comm 2]
      exact ih (i + 1) f (m * 2) (by omega) (by omega) (by omega) (by rw [em]; exact q1) (by rw [em]; exact q2)
theorem ti_down {a : Int32} {y3 : Int32} {P : Nat} (hP : y3.toInt = -(P : Int)) (hP2 : P ≤ 200) (Q : Int32 → Unit → Prop) : ∀ (k i f m : Nat), i + k = P → k < f → m < 16777216 → Q (clB (fN a) (m / 2 ^ k)) () → wp_X8_toInt_L13 Q f a (L6 m) y3 (-(Int32.ofNat i)) () := by
  have last : ∀ m : Nat, m < 16777216 → Q (clB (fN a) m) () → wp_X8_toInt_L38 Q 2000 a (L6 m) y3 0 () := by
    intro m hm q
    show wp_X8_toInt_L38 Q (1999 + 1) a (L6 m) y3 0 ()
    unfold wp_X8_toInt_L38
    exact ⟨fun _ => ti_end (by omega) Q q, fun c => absurd (i_le.mpr (by rw [hP, show (0 : Int32).toInt = 0 from rfl]; omega)) c⟩
  intro k
  induction k with
  | zero =>
    intro i f m e hf hm q
    obtain ⟨f, rfl⟩ : ∃ f', f = f' + 1 := ⟨f - 1, by omega⟩
    have xi : (-(Int32.ofNat i)).toInt = -(i : Int) := by
      rw [Int32.toInt_neg, i_ofNat (by omega), Int.bmod_eq_of_le (by simp; omega) (by simp; omega)]
    rw [Nat.pow_zero, Nat.div_one] at q
    unfold wp_X8_toInt_L13
    exact ⟨fun _ => last m hm q, fun c => absurd (i_le.mpr (by omega)) c⟩
  | succ k ih =>
    intro i f m e hf hm q
    obtain ⟨f, rfl⟩ : ∃ f', f = f' + 1 := ⟨f - 1, by omega⟩
    have xi : (-(Int32.ofNat i)).toInt = -(i : Int) := by
      rw [Int32.toInt_neg, i_ofNat (by omega), Int.bmod_eq_of_le (by simp; omega) (by simp; omega)]
    have zm : (-1 : Int32).toInt = -1 := rfl
    have hz := lc_le (a := m) (b := 0) (by omega) (by decide)
    unfold wp_X8_toInt_L13
    refine ⟨fun c => ?_, fun _ => ⟨fun c => ?_, fun c x7 e7 x8 e8 => ?_⟩⟩
    · rw [i_le] at c; omega
    · have m0 : m = 0 := by have := hz.mp c; omega
      subst m0
      rw [Nat.zero_div] at q
      exact last 0 (by decide) q
    · have e7' : x7 = L6 (m / 2) := e7.trans (l_shr (n := m) (k := 1) (by omega) (by decide))
      have e8' : x8 = -(Int32.ofNat (i + 1)) := i_eq.mpr (by
        rw [e8, i_add (by rw [xi, zm]; omega) (by rw [xi, zm]; omega), xi, zm, Int32.toInt_neg, i_ofNat (by omega), Int.bmod_eq_of_le (by simp; omega) (by simp; omega)]; omega)
      subst e7'
      subst e8'
      refine ih (i + 1) f (m / 2) (by omega) (by omega) (by omega) ?_
      rw [Nat.div_div_eq_div_mul, show 2 * 2 ^ k = 2 ^ (k + 1) by rw [Nat.pow_succ, Nat.mul_comm]]
      exact q
