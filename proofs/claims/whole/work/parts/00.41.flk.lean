/-! LAYER 2: the reference's rounded, whole -/
theorem rr_settle {s : Bool} {N : Nat} {e q : Int} (h : ¬ N = 0) (hq : FP.Core.quantum FP.Core.b32 N 1 e = q) : FP.Core.roundRatio FP.Core.b32 s N 1 e = FP.Core.settle FP.Core.b32 s (FP.Core.nearest (N * 2 ^ (e - q).toNat) (1 * 2 ^ (q - e).toNat)) q := by
  unfold FP.Core.roundRatio
  rw [if_neg h, hq]
  rfl
theorem rr_le {N : Nat} {e q : Int} (h : ¬ N = 0) (hq : FP.Core.quantum FP.Core.b32 N 1 e = q) : FP.Core.nearest (N * 2 ^ (e - q).toNat) (1 * 2 ^ (q - e).toNat) ≤ 16777216 := by
  have := FP.Core.nearest_units_le (f := FP.Core.b32) (A := N) (B := 1) (by omega) (by decide) e
  rw [hq] at this
  exact this
theorem r36 {s : Bool} {n lit : Nat} {p q : Int} {y3 y4 y6 : Int32} (hn0 : ¬ n = 0) (hn : n < 9223372036854775808) (hp : y3.toInt = p) (p1 : -400 ≤ p) (p2 : p ≤ 400) (hb : n < 1152921504606846976 ∨ -209 ≤ p) (hl : (y4 = 0 ∧ lit = 0) ∨ (¬ y4 = 0 ∧ lit = 1 ∧ 16777216 ≤ n)) (hy : y6.toInt = q) (hq : q = max (-149) ((ln n : Int) + p - 24)) (Q : Int32 → Unit → Prop) (g : Q (dBs (FP.Core.roundRatio FP.Core.b32 s (2 * n + lit) 1 (p - 1))) ()) : wp_X8_rounded_L36 Q (L6 n) y3 y4 (sgB s) y6 () := by
  have hl63 := ln_63 hn
  obtain ⟨l1, l2, l3⟩ := ln_lo hn0
  have z0 : (0 : Int32).toInt = 0 := rfl
  have lit1 : lit ≤ 1 := by omega
  have lnN : ln (2 * n + lit) = ln n + 1 := by
    rw [ln_half (by omega), show (2 * n + lit) / 2 = n by omega]
  have hqN : FP.Core.quantum FP.Core.b32 (2 * n + lit) 1 (p - 1) = q := by
    rw [quantum_ln (by omega), lnN, hq]
    congr 1
    omega
  have hx6 : (y6 - y3).toInt = q - p := by
    rw [i_sub (by rw [hy, hp]; omega) (by rw [hy, hp]; omega), hy, hp]
  unfold wp_X8_rounded_L36
  intro x6 e6
  subst e6
  by_cases c : 0 < q - p
  · have c' : 0 < y6 - y3 := i_lt.mpr (by rw [hx6, z0]; exact c)
    have ex : y6 - y3 = Int32.ofNat (q - p).toNat := i_eq.mpr (by rw [hx6, i_ofNat (by omega)]; omega)
    have hle := rr_le (N := 2 * n + lit) (e := p - 1) (q := q) (by omega) hqN
    rw [rr_settle (by omega) hqN] at g
    rw [show (p - 1 - q).toNat = 0 by omega, Nat.pow_zero, Nat.mul_one, Nat.one_mul, show (q - (p - 1)).toNat = (q - p).toNat + 1 by omega] at g hle
    refine ⟨fun _ => ⟨fun d => ?_, fun d => ?_⟩, fun d => absurd c' d⟩
    · rw [i_le, hx6, show (60 : Int32).toInt = 60 from rfl] at d
      rw [ex]
      refine cut_model hn (by omega) (by omega) (hl.imp id (fun w => ⟨w.1, w.2.1⟩)) hy (by omega) (by omega) hle ?_ Q g
      by_cases w : q = -149
      · exact Or.inr w
      · left
        have hqe : q = (ln n : Int) + p - 24 := by omega
        refine FP.Core.nearest_ge (Nat.two_pow_pos _) ?_
        have e : 8388608 * 2 ^ ((q - p).toNat + 1) = 2 * 2 ^ (ln n - 1) := by
          rw [show (8388608 : Nat) = 2 ^ 23 by decide, ← Nat.pow_add, show 23 + ((q - p).toNat + 1) = (ln n - 1) + 1 by omega, Nat.pow_succ]
          omega
        omega
    · rw [i_le, hx6, show (60 : Int32).toInt = 60 from rfl] at d
      have hq149 : q = -149 := by omega
      have hn60 : n < 1152921504606846976 := hb.resolve_right (by omega)
      have hp62 : (2 ^ 62 : Nat) ≤ 2 ^ ((q - p).toNat + 1) := Nat.pow_le_pow_right (by decide) (by omega)
      have hlt : 2 * n + lit < 2 ^ ((q - p).toNat + 1) := by omega
      have e0 : FP.Core.nearest (2 * n + lit) (2 ^ ((q - p).toNat + 1)) = 0 := by
        rw [nr_dn (by rw [Nat.mod_eq_of_lt hlt]; omega)]
        exact Nat.div_eq_of_lt hlt
      rw [e0] at g
      exact r132 (c := 0) (by decide) hy (by omega) (by omega) (Or.inr hq149) Q g
  · have c' : ¬ 0 < y6 - y3 := fun z => by rw [i_lt, hx6, z0] at z; exact c z
    have l0 : lit = 0 := by
      rcases hl with ⟨_, z⟩ | ⟨_, _, z⟩
      · exact z
      · exfalso
        have : ¬ ln n ≤ 24 := fun w => by
          have : 2 ^ ln n ≤ 2 ^ 24 := Nat.pow_le_pow_right (by decide) w
          omega
        omega
    subst l0
    have eR : FP.Core.roundRatio FP.Core.b32 s (2 * n + 0) 1 (p - 1) = FP.Core.roundRatio FP.Core.b32 s n 1 p := by
      refine FP.Core.roundRatio_congr (by decide) (by decide) ?_
      rw [show (p - 1 - p).toNat = 0 by omega, show (p - (p - 1)).toNat = 1 by omega]
      omega
    have hqn : FP.Core.quantum FP.Core.b32 n 1 p = q := by rw [quantum_ln hn0, hq]
    rw [eR, rr_settle hn0 hqn, show (q - p).toNat = 0 by omega, Nat.pow_zero, Nat.mul_one] at g
    have en : FP.Core.nearest (n * 2 ^ (p - q).toNat) 1 = n * 2 ^ (p - q).toNat := by
      have := FP.Core.nearest_exact (B := 1) (n * 2 ^ (p - q).toNat) (by decide)
      rw [Nat.mul_one] at this
      exact this
    rw [en] at g
    have hk : (p - q).toNat ≤ 24 - ln n := by omega
    have c24 : n * 2 ^ (p - q).toNat < 16777216 := by
      have h1 : n * 2 ^ (p - q).toNat < 2 ^ ln n * 2 ^ (p - q).toNat := Nat.mul_lt_mul_of_pos_right l2 (Nat.two_pow_pos _)
      rw [← Nat.pow_add] at h1
      have h2 : 2 ^ (ln n + (p - q).toNat) ≤ 2 ^ 24 := Nat.pow_le_pow_right (by decide) (by omega)
      omega
    refine ⟨fun d => absurd d c', fun _ x19 e19 => ?_⟩
    have em : -(y6 - y3) = Int32.ofNat (p - q).toNat := by
      refine i_eq.mpr ?_
      rw [i_ofNat (by omega), Int32.toInt_neg, hx6, Int.bmod_eq_of_le (by simp; omega) (by simp; omega)]
      omega
    rw [em, l_shl (by omega) (by omega)] at e19
    subst e19
    refine r132 (by omega) hy (by omega) (by omega) ?_ Q g
    by_cases w : q = -149
    · exact Or.inr w
    · left
      have hqe : q = (ln n : Int) + p - 24 := by omega
      have h1 : 2 ^ (ln n - 1) * 2 ^ (p - q).toNat ≤ n * 2 ^ (p - q).toNat := Nat.mul_le_mul_right _ l1
      rw [← Nat.pow_add, show ln n - 1 + (p - q).toNat = 23 by omega] at h1
      omega
theorem rounded_model {s : Bool} {n lit : Nat} {p : Int} {m y3 y4 : Int32} (hm : (m = 0 ∧ s = false) ∨ (¬ m = 0 ∧ s = true)) (hn0 : ¬ n = 0) (hn : n < 9223372036854775808) (hp : y3.toInt = p) (p1 : -400 ≤ p) (p2 : p ≤ 400) (hb : n < 1152921504606846976 ∨ -209 ≤ p) (hl : (y4 = 0 ∧ lit = 0) ∨ (¬ y4 = 0 ∧ lit = 1 ∧ 16777216 ≤ n)) (Q : Int32 → Unit → Prop) (g : Q (dBs (FP.Core.roundRatio FP.Core.b32 s (2 * n + lit) 1 (p - 1))) ()) : wp_X8_rounded () m (L6 n) y3 y4 Q := by
  have hl63 := ln_63 hn
  have key : wp_X8_rounded_L10 Q (L6 n) y3 y4 (sgB s) () := by
    unfold wp_X8_rounded_L10
    refine length_model hn _ ?_
    intro x4 e4
    have h4 : x4.toInt = (ln n : Int) + p - 24 := by
      have z24 : (24 : Int32).toInt = 24 := rfl
      have h1 : (Int32.ofNat (ln n) + y3).toInt = (ln n : Int) + p := by
        rw [i_add (by rw [i_ofNat (by omega), hp]; omega) (by rw [i_ofNat (by omega), hp]; omega), i_ofNat (by omega), hp]
      rw [e4, i_sub (by rw [h1, z24]; omega) (by rw [h1, z24]; omega), h1, z24]
    have zm : (-149 : Int32).toInt = -149 := rfl
    refine ⟨fun c => ?_, fun c => ?_⟩
    · rw [i_le, h4, zm] at c
      exact r36 hn0 hn hp p1 p2 hb hl (q := (ln n : Int) + p - 24) h4 (by omega) Q g
    · rw [i_le, h4, zm] at c
      exact r36 hn0 hn hp p1 p2 hb hl (q := -149) zm (by omega) Q g
  unfold wp_X8_rounded
  rcases hm with ⟨h1, h2⟩ | ⟨h1, h2⟩
  · subst h2
    exact ⟨fun _ => key, fun d => absurd h1 d⟩
  · subst h2
    exact ⟨fun d => absurd d h1, fun _ => key⟩
