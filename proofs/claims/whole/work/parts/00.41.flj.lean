/-! LAYER 2: the reference's rounded -/
theorem ln_lo {n : Nat} (h : ¬ n = 0) : 2 ^ (ln n - 1) ≤ n ∧ n < 2 ^ ln n ∧ 1 ≤ ln n := by
  unfold ln
  rw [if_neg h]
  exact ⟨Nat.log2_self_le h, Nat.lt_log2_self, by omega⟩
theorem ln_63 {n : Nat} (h : n < 9223372036854775808) : ln n ≤ 63 := by
  unfold ln
  by_cases c : n = 0
  · rw [if_pos c]; omega
  · rw [if_neg c]
    have := (Nat.log2_lt c).mpr (show n < 2 ^ 63 by omega)
    omega
theorem nr_up {A B : Nat} (h : B < 2 * (A % B)) : FP.Core.nearest A B = A / B + 1 := by
  unfold FP.Core.nearest
  rw [if_neg (by omega), if_pos h]
theorem nr_dn {A B : Nat} (h : 2 * (A % B) < B) : FP.Core.nearest A B = A / B := by
  unfold FP.Core.nearest
  rw [if_pos h]
theorem nr_ti {A B : Nat} (h : 2 * (A % B) = B) : FP.Core.nearest A B = A / B + A / B % 2 := by
  unfold FP.Core.nearest
  rw [if_neg (by omega), if_neg (by omega)]
/-- the digits that fall away -/
theorem cut_model {s : Bool} {n x lit : Nat} {q : Int} {y4 y6 : Int32} (hn : n < 9223372036854775808) (hx0 : 1 ≤ x) (hx : x ≤ 60) (hl : (y4 = 0 ∧ lit = 0) ∨ (¬ y4 = 0 ∧ lit = 1)) (hy : y6.toInt = q) (h1 : -149 ≤ q) (h2 : q ≤ 1000) (hc : FP.Core.nearest (2 * n + lit) (2 ^ (x + 1)) ≤ 16777216) (hq : 8388608 ≤ FP.Core.nearest (2 * n + lit) (2 ^ (x + 1)) ∨ q = -149) (Q : Int32 → Unit → Prop) (g : Q (dBs (FP.Core.settle FP.Core.b32 s (FP.Core.nearest (2 * n + lit) (2 ^ (x + 1))) q)) ()) : ∀ x9 : Int64, x9 = (1 <<< ((Int32.toInt64 (Int32.ofNat x - 1)) &&& 63)) → ∀ x10 : Int64, x10 = (L6 n &&& ((2 * x9) - 1)) → ∀ x11 : Int64, x11 = (L6 n >>> ((Int32.toInt64 (Int32.ofNat x)) &&& 63)) → ((0 < (lg_cmp x10 x9) → ∀ x13 : Int64, x13 = (x11 + 1) → wp_X8_rounded_L132 Q (sgB s) y6 x13 ()) ∧ (¬ 0 < (lg_cmp x10 x9) → ((¬ (lg_cmp x10 x9) = 0 → wp_X8_rounded_L132 Q (sgB s) y6 x11 ()) ∧ ((lg_cmp x10 x9) = 0 → ((¬ y4 = 0 → ∀ x16 : Int64, x16 = (x11 + 1) → wp_X8_rounded_L132 Q (sgB s) y6 x16 ()) ∧ (y4 = 0 → ((¬ (lg_cmp (x11 &&& 1) 1) = 0 → wp_X8_rounded_L132 Q (sgB s) y6 x11 ()) ∧ ((lg_cmp (x11 &&& 1) 1) = 0 → ∀ x18 : Int64, x18 = (x11 + 1) → wp_X8_rounded_L132 Q (sgB s) y6 x18 ())))))))) := by
  have z1 : (1 : Int32).toInt = 1 := rfl
  have ex1 : Int32.ofNat x - 1 = Int32.ofNat (x - 1) := i_eq.mpr (by
    rw [i_sub (by rw [i_ofNat (by omega), z1]; omega) (by rw [i_ofNat (by omega), z1]; omega), i_ofNat (by omega), z1, i_ofNat (by omega)]; omega)
  have hpx : (2 ^ x : Nat) = 2 * 2 ^ (x - 1) := by
    have : (2 ^ x : Nat) = 2 ^ ((x - 1) + 1) := by rw [show x - 1 + 1 = x by omega]
    rw [this, Nat.pow_succ]; omega
  have hpx1 : (2 ^ (x + 1) : Nat) = 2 * 2 ^ x := by rw [Nat.pow_succ]; omega
  have hp60 : (2 ^ x : Nat) ≤ 2 ^ 60 := Nat.pow_le_pow_right (by decide) hx
  have hp0 : 0 < (2 ^ (x - 1) : Nat) := Nat.two_pow_pos _
  intro x9 e9 x10 e10 x11 e11
  have e9' : x9 = L6 (2 ^ (x - 1)) := by
    rw [e9, ex1]
    have := l_shl (n := 1) (k := x - 1) (by omega) (by omega)
    rw [Nat.one_mul] at this
    exact this
  subst e9'
  have e10' : x10 = L6 (n % 2 ^ x) := by
    rw [e10]
    have m1 : (2 : Int64) * L6 (2 ^ (x - 1)) = L6 (2 ^ x) := by
      have := l_mul (a := 2) (b := 2 ^ (x - 1)) (by omega) (by decide) (by omega)
      rw [← hpx] at this
      exact this
    rw [m1]
    have m2 : L6 (2 ^ x) - 1 = L6 (2 ^ x - 1) := l_sub (a := 2 ^ x) (b := 1) (by omega) (by omega)
    rw [m2]
    exact l_mask (by omega) hn
  subst e10'
  have e11' : x11 = L6 (n / 2 ^ x) := e11.trans (l_shr hn (by omega))
  subst e11'
  have hd : n / 2 ^ x ≤ n := Nat.div_le_self _ _
  have hd1 : n / 2 ^ x ≤ n / 2 := Nat.div_le_div_left (show 2 ≤ 2 ^ x by omega) (by decide)
  have hml : n % 2 ^ x < 2 ^ x := Nat.mod_lt _ (by omega)
  have hadd : L6 (n / 2 ^ x) + 1 = L6 (n / 2 ^ x + 1) := l_add (a := n / 2 ^ x) (b := 1) (by omega)
  have lit1 : lit ≤ 1 := by omega
  -- quotient and rest of the doubled number
  have hdm := Nat.div_add_mod n (2 ^ x)
  have hqd : (2 * n + lit) / 2 ^ (x + 1) = n / 2 ^ x := by
    rw [hpx1]
    refine (Nat.div_eq_iff (by omega)).mpr ⟨?_, ?_⟩
    · have : n / 2 ^ x * (2 * 2 ^ x) = 2 * (2 ^ x * (n / 2 ^ x)) := by rw [Nat.mul_comm, Nat.mul_assoc]
      omega
    · have : n / 2 ^ x * (2 * 2 ^ x) = 2 * (2 ^ x * (n / 2 ^ x)) := by rw [Nat.mul_comm, Nat.mul_assoc]
      omega
  have hqm : (2 * n + lit) % 2 ^ (x + 1) = 2 * (n % 2 ^ x) + lit := by
    have := Nat.div_add_mod (2 * n + lit) (2 ^ (x + 1))
    rw [hqd, hpx1] at this
    rw [hpx1]
    have e : 2 * 2 ^ x * (n / 2 ^ x) = 2 * (2 ^ x * (n / 2 ^ x)) := by rw [Nat.mul_assoc]
    omega
  have cg := lc_gt (a := n % 2 ^ x) (b := 2 ^ (x - 1)) (by omega) (by omega)
  have ce := lc_eq (a := n % 2 ^ x) (b := 2 ^ (x - 1)) (by omega) (by omega)
  have up : FP.Core.nearest (2 * n + lit) (2 ^ (x + 1)) = n / 2 ^ x + 1 → wp_X8_rounded_L132 Q (sgB s) y6 (L6 (n / 2 ^ x) + 1) () := fun e => by
    rw [e] at hc hq g
    rw [hadd]
    exact r132 hc hy h1 h2 hq Q g
  have dn : FP.Core.nearest (2 * n + lit) (2 ^ (x + 1)) = n / 2 ^ x → wp_X8_rounded_L132 Q (sgB s) y6 (L6 (n / 2 ^ x)) () := fun e => by
    rw [e] at hc hq g
    exact r132 hc hy h1 h2 hq Q g
  refine ⟨fun c _ e => ?_, fun c => ⟨fun d => ?_, fun d => ⟨fun w _ e => ?_, fun w => ⟨fun v => ?_, fun v _ e => ?_⟩⟩⟩⟩
  · subst e
    have c' := cg.mp c
    exact up ((nr_up (by rw [hqm]; omega)).trans (by rw [hqd]))
  · have c' : ¬ 2 ^ (x - 1) < n % 2 ^ x := fun z => c (cg.mpr z)
    have d' : ¬ n % 2 ^ x = 2 ^ (x - 1) := fun z => d (ce.mpr z)
    exact dn ((nr_dn (by rw [hqm]; omega)).trans hqd)
  · subst e
    have d' := ce.mp d
    rcases hl with ⟨z, _⟩ | ⟨_, z⟩
    · exact absurd z w
    · exact up ((nr_up (by rw [hqm]; omega)).trans (by rw [hqd]))
  · have d' := ce.mp d
    have l0 : lit = 0 := by
      rcases hl with ⟨_, z⟩ | ⟨z, _⟩
      · exact z
      · exact absurd w z
    have e2 : L6 (n / 2 ^ x) &&& 1 = L6 (n / 2 ^ x % 2) := l_mask (n := n / 2 ^ x) (k := 1) (by decide) (by omega)
    rw [e2] at v
    have v' : ¬ n / 2 ^ x % 2 = 1 := fun z => v ((lc_eq (b := 1) (by omega) (by decide)).mpr z)
    exact dn ((nr_ti (by rw [hqm]; omega)).trans (by rw [hqd]; omega))
  · subst e
    have d' := ce.mp d
    have l0 : lit = 0 := by
      rcases hl with ⟨_, z⟩ | ⟨z, _⟩
      · exact z
      · exact absurd w z
    have e2 : L6 (n / 2 ^ x) &&& 1 = L6 (n / 2 ^ x % 2) := l_mask (n := n / 2 ^ x) (k := 1) (by decide) (by omega)
    rw [e2] at v
    have v' : n / 2 ^ x % 2 = 1 := (lc_eq (b := 1) (by omega) (by decide)).mp v
    exact up ((nr_ti (by rw [hqm]; omega)).trans (by rw [hqd]; omega))
