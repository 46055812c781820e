/-! LAYER 2: singles: sums, the reference's ends -/
theorem s136 {H L y5 y6 : Int32} {y7 : Int64} {G : Nat} (hG : y5.toInt = (G : Int)) (hG2 : G ≤ 300) (Q : Int32 → Unit → Prop) : ∀ (k i f m : Nat) (y11 : Int32), i + k = G → k < f → m < 16777216 → wp_X8_sum_L174 Q H L y6 y7 (L6 (m / 2 ^ k)) (if m % 2 ^ k = 0 then y11 else 1) () → wp_X8_sum_L136 Q f H L y5 y6 y7 (L6 m) y11 (Int32.ofNat i) () := by
  intro k
  induction k with
  | zero =>
    intro i f m y11 e hf hm q
    obtain ⟨f, rfl⟩ : ∃ f', f = f' + 1 := ⟨f - 1, by omega⟩
    have xi := i_ofNat (k := i) (by omega)
    rw [Nat.pow_zero, Nat.div_one, Nat.mod_one, if_pos rfl] at q
    unfold wp_X8_sum_L136
    exact ⟨fun _ => q, fun c => absurd (i_le.mpr (by omega)) c⟩
  | succ k ih =>
    intro i f m y11 e hf hm q
    obtain ⟨f, rfl⟩ : ∃ f', f = f' + 1 := ⟨f - 1, by omega⟩
    have xi := i_ofNat (k := i) (by omega)
    have z1 : (1 : Int32).toInt = 1 := rfl
    have hz := lc_le (a := m) (b := 0) (by omega) (by decide)
    have hmod : m % 2 ^ (k + 1) = m % 2 + 2 * (m / 2 % 2 ^ k) := by
      rw [show (2 ^ (k + 1) : Nat) = 2 * 2 ^ k by rw [Nat.pow_succ, Nat.mul_comm]]
      exact Nat.mod_mul
    have hdiv : m / 2 ^ (k + 1) = m / 2 / 2 ^ k := by
      rw [Nat.div_div_eq_div_mul, show 2 * 2 ^ k = 2 ^ (k + 1) by rw [Nat.pow_succ, Nat.mul_comm]]
    have e2 : L6 m &&& 1 = L6 (m % 2) := l_mask (n := m) (k := 1) (by decide) (by omega)
    have h1 := lc_eq (a := m % 2) (b := 1) (by omega) (by decide)
    have ei : Int32.ofNat i + 1 = Int32.ofNat (i + 1) := i_eq.mpr (by
      rw [i_add (by rw [xi, z1]; omega) (by rw [xi, z1]; omega), xi, z1, i_ofNat (by omega)]; omega)
    have es : L6 m >>> ((Int32.toInt64 1) &&& 63) = L6 (m / 2) := l_shr (n := m) (k := 1) (by omega) (by decide)
    unfold wp_X8_sum_L136
    refine ⟨fun c => ?_, fun _ => ⟨fun c => ?_, fun _ => ⟨fun c x55 e55 x56 e56 => ?_, fun c x57 e57 x58 e58 => ?_⟩⟩⟩
    · rw [i_le] at c; omega
    · have m0 : m = 0 := by have := hz.mp c; omega
      subst m0
      rw [Nat.zero_div, Nat.zero_mod, if_pos rfl] at q
      exact q
    · rw [es] at e55
      rw [ei] at e56
      subst e55
      subst e56
      rw [e2] at c
      have c' : ¬ m % 2 = 1 := fun w => c (h1.mpr w)
      refine ih (i + 1) f (m / 2) y11 (by omega) (by omega) (by omega) ?_
      rw [hdiv] at q
      by_cases w : m / 2 % 2 ^ k = 0
      · rw [if_pos w]
        rw [if_pos (by omega)] at q
        exact q
      · rw [if_neg w]
        rw [if_neg (by omega)] at q
        exact q
    · rw [es] at e57
      rw [ei] at e58
      subst e57
      subst e58
      rw [e2] at c
      have c' : m % 2 = 1 := h1.mp c
      refine ih (i + 1) f (m / 2) 1 (by omega) (by omega) (by omega) ?_
      rw [hdiv, if_neg (by omega)] at q
      rw [show (if m / 2 % 2 ^ k = 0 then (1 : Int32) else 1) = 1 by split <;> rfl]
      exact q
theorem s174 {H L y6 y11 : Int32} {sh n7 w lit : Nat} (hH : finB H) (h6 : y6.toInt = (sh : Int)) (hsh : sh ≤ 38) (h7 : n7 < 4611686018427387904) (h70 : 0 < n7) (hw : w < 16777216) (hl : (y11 = 0 ∧ lit = 0) ∨ (¬ y11 = 0 ∧ lit = 1 ∧ 67108864 ≤ n7)) (Q : Int32 → Unit → Prop)
    (q1 : fN H = fN L → Q (dBs (FP.Core.roundRatio FP.Core.b32 (fN H) (2 * (n7 + w) + lit) 1 (fP H - (sh : Int) - 1))) ())
    (q2 : ¬ fN H = fN L → lit = 0 → n7 = w → Q 0 ())
    (q3 : ¬ fN H = fN L → lit = 0 → w < n7 → Q (dBs (FP.Core.roundRatio FP.Core.b32 (fN H) (2 * (n7 - w) + 0) 1 (fP H - (sh : Int) - 1))) ())
    (q4 : ¬ fN H = fN L → lit = 0 → n7 < w → Q (dBs (FP.Core.roundRatio FP.Core.b32 (fN L) (2 * (w - n7) + 0) 1 (fP H - (sh : Int) - 1))) ())
    (q5 : ¬ fN H = fN L → lit = 1 → Q (dBs (FP.Core.roundRatio FP.Core.b32 (fN H) (2 * (n7 - w - 1) + 1) 1 (fP H - (sh : Int) - 1))) ()) : wp_X8_sum_L174 Q H L y6 (L6 n7) (L6 w) y11 () := by
  have p1 := fP_lo H
  have p2 := fP_hi hH
  unfold wp_X8_sum_L174
  refine place_model H _ (fun r hr x e => ?_)
  subst e
  have hx : (r - y6).toInt = fP H - (sh : Int) := by
    rw [i_sub (by rw [hr, h6]; omega) (by rw [hr, h6]; omega), hr, h6]
  have neg : ∀ y : Int32, ¬ 0 ≤ y → fN y = true := fun y c => by
    cases hb : fN y
    · exact absurd ((fl_neg y).mpr hb) c
    · rfl
  have R0 : ∀ (y : Int32) (n lt : Nat) (y4 : Int32), 0 ≤ y → ¬ n = 0 → n < 9223372036854775808 → ((y4 = 0 ∧ lt = 0) ∨ (¬ y4 = 0 ∧ lt = 1 ∧ 16777216 ≤ n)) → Q (dBs (FP.Core.roundRatio FP.Core.b32 (fN y) (2 * n + lt) 1 (fP H - (sh : Int) - 1))) () → wp_X8_rounded () 0 (L6 n) (r - y6) y4 (fun r u => Q r ()) := by
    intro y n lt y4 hy n0 n63 hlt g
    rw [(fl_neg y).mp hy] at g
    exact rounded_model (s := false) (Or.inl ⟨rfl, rfl⟩) n0 n63 hx (by omega) (by omega) (Or.inr (by omega)) hlt _ g
  have R1 : ∀ (y : Int32) (n lt : Nat) (y4 : Int32), ¬ 0 ≤ y → ¬ n = 0 → n < 9223372036854775808 → ((y4 = 0 ∧ lt = 0) ∨ (¬ y4 = 0 ∧ lt = 1 ∧ 16777216 ≤ n)) → Q (dBs (FP.Core.roundRatio FP.Core.b32 (fN y) (2 * n + lt) 1 (fP H - (sh : Int) - 1))) () → wp_X8_rounded () 1 (L6 n) (r - y6) y4 (fun r u => Q r ()) := by
    intro y n lt y4 hy n0 n63 hlt g
    rw [neg y hy] at g
    exact rounded_model (s := true) (Or.inr ⟨by decide, rfl⟩) n0 n63 hx (by omega) (by omega) (Or.inr (by omega)) hlt _ g
  have hxor : (H ^^^ L) < 0 ↔ ¬ fN H = fN L := by
    rw [fN_lt, fN_xor]
    cases fN H <;> cases fN L <;> decide
  have ce := lc_eq (a := n7) (b := w) (by omega) (by omega)
  have cl := lc_le (a := n7) (b := w) (by omega) (by omega)
  refine ⟨fun c => ⟨fun d => ⟨fun e => ⟨fun g => ?_, fun g => ?_⟩, fun e => ?_⟩, fun d => ?_⟩, fun c => ?_⟩
  · have c' := hxor.mp c
    have l0 : lit = 0 := by
      rcases hl with ⟨_, z⟩ | ⟨z, _⟩
      · exact z
      · exact absurd d z
    have e' : ¬ n7 = w := fun z => e (ce.mpr z)
    have g' := cl.mp g
    rw [l_sub (a := w) (b := n7) (by omega) (by omega)]
    exact ⟨fun z => R0 L _ 0 0 z (by omega) (by omega) (Or.inl ⟨rfl, rfl⟩) (q4 c' l0 (by omega)), fun z => R1 L _ 0 0 z (by omega) (by omega) (Or.inl ⟨rfl, rfl⟩) (q4 c' l0 (by omega))⟩
  · have c' := hxor.mp c
    have l0 : lit = 0 := by
      rcases hl with ⟨_, z⟩ | ⟨z, _⟩
      · exact z
      · exact absurd d z
    have g' : ¬ n7 ≤ w := fun z => g (cl.mpr z)
    rw [l_sub (a := n7) (b := w) (by omega) (by omega)]
    exact ⟨fun z => R0 H _ 0 0 z (by omega) (by omega) (Or.inl ⟨rfl, rfl⟩) (q3 c' l0 (by omega)), fun z => R1 H _ 0 0 z (by omega) (by omega) (Or.inl ⟨rfl, rfl⟩) (q3 c' l0 (by omega))⟩
  · have l0 : lit = 0 := by
      rcases hl with ⟨_, z⟩ | ⟨z, _⟩
      · exact z
      · exact absurd d z
    exact q2 (hxor.mp c) l0 (ce.mp e)
  · have c' := hxor.mp c
    obtain ⟨l1, hb⟩ : lit = 1 ∧ 67108864 ≤ n7 := by
      rcases hl with ⟨z, _⟩ | ⟨_, z⟩
      · exact absurd z d
      · exact z
    have es : L6 n7 - L6 w - 1 = L6 (n7 - w - 1) := by
      rw [l_sub (a := n7) (b := w) (by omega) (by omega)]
      exact l_sub (a := n7 - w) (b := 1) (by omega) (by omega)
    rw [es]
    exact ⟨fun z => R0 H _ 1 1 z (by omega) (by omega) (Or.inr ⟨by decide, rfl, by omega⟩) (q5 c' l1), fun z => R1 H _ 1 1 z (by omega) (by omega) (Or.inr ⟨by decide, rfl, by omega⟩) (q5 c' l1)⟩
  · have c' : fN H = fN L := Decidable.byContradiction fun z => c (hxor.mpr z)
    have hl' : (y11 = 0 ∧ lit = 0) ∨ (¬ y11 = 0 ∧ lit = 1 ∧ 16777216 ≤ n7 + w) := hl.imp id (fun z => ⟨z.1, z.2.1, by omega⟩)
    rw [l_add (a := n7) (b := w) (by omega)]
    exact ⟨fun z => R0 H _ lit y11 z (by omega) (by omega) hl' (q1 c'), fun z => R1 H _ lit y11 z (by omega) (by omega) hl' (q1 c')⟩
