/-! LAYER 2: singles: sums, the pair -/
theorem nrm_S {a : Int32} (h : -149 < fP a) : 8388608 ≤ fS a := by
  have c : ¬ fE a = 0 := fun z => by
    have : fP a = -149 := if_pos z
    omega
  have eS : fS a = fF a + 8388608 := if_neg c
  omega
theorem sum_core {H L : Int32} (hH : finB H) (hL : finB L) (h1 : ¬ fS H = 0) (hp : fP L ≤ fP H) (Q : Int32 → Unit → Prop) (q : Q (dB (FP.Core.val32 (FP.fadd (uB H) (uB L)))) ()) : wp_X8_place () H (fun r21 u20 => wp_X8_place () L (fun r23 u22 => ∀ x24 : Int32, x24 = (r21 - r23) → ((38 ≤ x24 → wp_X8_fraction () H (fun r27 u26 => ∀ x28 : Int64, x28 = (r27 <<< ((Int32.toInt64 38) &&& 63)) → wp_X8_fraction () L (fun r30 u29 => wp_X8_sum_L136 Q 2000 H L x24 38 x28 r30 0 38 ()))) ∧ (¬ 38 ≤ x24 → wp_X8_fraction () H (fun r32 u31 => ∀ x33 : Int64, x33 = (r32 <<< ((Int32.toInt64 x24) &&& 63)) → wp_X8_fraction () L (fun r35 u34 => wp_X8_sum_L136 Q 2000 H L x24 x24 x33 r35 0 x24 ())))))) := by
  have sH := fS_lt H
  have sL := fS_lt L
  have pL := fP_lo L
  have pH := fP_hi hH
  refine place_model H _ (fun r1 e1 => place_model L _ (fun r2 e2 x e => ?_))
  subst e
  have hx : (r1 - r2).toInt = fP H - fP L := by
    rw [i_sub (by rw [e1, e2]; omega) (by rw [e1, e2]; omega), e1, e2]
  have z38 : (38 : Int32).toInt = 38 := rfl
  refine ⟨fun c => fraction_model H _ (fun x8 e8 => fraction_model L _ ?_), fun c => fraction_model H _ (fun x8 e8 => fraction_model L _ ?_)⟩
  · rw [i_le, hx, z38] at c
    have e8' : x8 = L6 (fS H * 2 ^ 38) := e8.trans (l_shl (n := fS H) (k := 38) (by decide) (by omega))
    subst e8'
    refine s136 (G := (fP H - fP L).toNat) (by rw [hx]; omega) (by omega) Q ((fP H - fP L).toNat - 38) 38 2000 (fS L) 0 (by omega) (by omega) sL ?_
    refine sum_mid (sh := 38) hH hL h1 (by omega) z38 (by decide) ?_ Q q
    exact Or.inr ⟨rfl, nrm_S (by omega)⟩
  · rw [i_le, hx, z38] at c
    have ex : r1 - r2 = Int32.ofNat (fP H - fP L).toNat := i_eq.mpr (by rw [hx, i_ofNat (by omega)]; omega)
    have hb : fS H * 2 ^ (fP H - fP L).toNat < 9223372036854775808 := by
      have a1 : fS H * 2 ^ (fP H - fP L).toNat < 16777216 * 2 ^ (fP H - fP L).toNat := Nat.mul_lt_mul_of_pos_right sH (Nat.two_pow_pos _)
      have a2 : (2 ^ (fP H - fP L).toNat : Nat) ≤ 2 ^ 38 := Nat.pow_le_pow_right (by decide) (by omega)
      omega
    rw [ex] at e8
    have e8' : x8 = L6 (fS H * 2 ^ (fP H - fP L).toNat) := e8.trans (l_shl (by omega) hb)
    subst e8'
    rw [ex]
    refine s136 (G := (fP H - fP L).toNat) (by rw [i_ofNat (by omega)]) (by omega) Q 0 (fP H - fP L).toNat 2000 (fS L) 0 (by omega) (by decide) sL ?_
    exact sum_mid (sh := (fP H - fP L).toNat) (g := 0) hH hL h1 (by omega) (by rw [i_ofNat (by omega)]) (by omega) (Or.inl rfl) Q q
theorem l25 {a b : Int32} (ha : finB a) (hb : finB b) (Q : Int32 → Unit → Prop) (qa : ¬ fS a = 0 → fS b = 0 → Q a ()) (qb : fS a = 0 → Q b ()) (q : ¬ fS a = 0 → ¬ fS b = 0 → Q (dB (FP.Core.val32 (FP.fadd (uB a) (uB b)))) ()) : wp_X8_sum_L25 Q a b () := by
  have sa := fS_lt a
  have sb := fS_lt b
  have za := lc_eq (a := fS a) (b := 0) (by omega) (by decide)
  have zb := lc_eq (a := fS b) (b := 0) (by omega) (by decide)
  unfold wp_X8_sum_L25
  refine fraction_model a _ ⟨fun c => fraction_model b _ ⟨fun d => place_model a _ (fun r1 e1 => place_model b _ (fun r2 e2 => ⟨fun w => ?_, fun w => ?_⟩)), fun d => qa (fun z => c (za.mpr z)) (zb.mp d)⟩, fun c => qb (za.mp c)⟩
  · have c' : ¬ fS a = 0 := fun z => c (za.mpr z)
    have d' : ¬ fS b = 0 := fun z => d (zb.mpr z)
    rw [i_le, e1, e2] at w
    unfold wp_X8_sum_L63
    refine ⟨fun _ => ?_, fun z => absurd rfl z⟩
    unfold wp_X8_sum_L73
    exact ⟨fun _ => sum_core ha hb c' w Q (q c' d'), fun z => absurd rfl z⟩
  · have c' : ¬ fS a = 0 := fun z => c (za.mpr z)
    have d' : ¬ fS b = 0 := fun z => d (zb.mpr z)
    rw [i_le, e1, e2] at w
    have q' := q c' d'
    rw [fa_core, FP.Core.fadd_comm, ← fa_core] at q'
    unfold wp_X8_sum_L63
    refine ⟨fun z => absurd z (by decide), fun _ => ?_⟩
    unfold wp_X8_sum_L73
    exact ⟨fun z => absurd z (by decide), fun _ => sum_core hb ha d' (by omega) Q q'⟩
theorem vOf_fin {a : Int32} (ha : finB a) : ∃ s c q, FP.Core.val32 (vOf a) = .fin s c q := by
  unfold vOf
  split
  · exact ⟨_, _, _, val_0⟩
  · exact ⟨_, _, _, uB_val ha⟩
theorem sum_class {a b : Int32} (ha : finB a) (hb : finB b) (h : ¬ (fS a = 0 ∧ fS b = 0)) (Q : Int32 → Unit → Prop) (q : Q (dB (FP.Core.val32 (FP.fadd (vOf a) (vOf b)))) ()) : wp_X4_sum () a b Q := by
  obtain ⟨s, c, k, e1⟩ := vOf_fin ha
  obtain ⟨t, d, j, e2⟩ := vOf_fin hb
  have hn : FP.Core.val32 (FP.fadd (vOf a) (vOf b)) ≠ .nan := by
    rw [fa_core, FP.Core.val32_fadd, e1, e2]
    exact FP.Core.roundRatio_ne_nan _ _ _ _ _
  unfold wp_X4_sum
  refine ⟨fun _ => value_class ha _ (value_class hb _ ⟨(n32_iff _).mpr hn, bits_datum hn _ q⟩), fun w => absurd ?_ h⟩
  have w2 : nb ((a ||| b) &&& 2147483647) = 0 := by rw [w]; rfl
  rw [abs_f, nb_or] at w2
  have w3 : (nb a ||| nb b) % 2 ^ 31 = 0 := w2
  rw [Nat.or_mod_two_pow] at w3
  obtain ⟨w4, w5⟩ := Nat.or_eq_zero_iff.mp w3
  have key : ∀ x : Int32, nb x % 2 ^ 31 = 0 → fS x = 0 := by
    intro x hx
    have e : fE x = 0 := by unfold fE; omega
    have f : fF x = 0 := by unfold fF; omega
    exact (if_pos e : fS x = fF x).trans f
  exact ⟨key a w4, key b w5⟩
theorem dB_uB {a : Int32} (ha : finB a) (h : ¬ fS a = 0) : dB (FP.Core.val32 (uB a)) = a := by
  rw [uB_val ha]
  exact (if_neg h : dB (.fin (fN a) (fS a) (fP a)) = maB (sgB (fN a)) (fS a) (fP a)).trans (maB_self ha)
theorem add_0 {a : Int32} (ha : finB a) (h : ¬ fS a = 0) : FP.fadd (uB a) 0 = uB a := by
  have hv := uB_val ha
  refine FP.Core.fadd_zero (by rw [hv]; exact fun z => FP.Core.Datum.noConfusion z) (fun z => ?_)
  rw [z, FP.Core.val32_fzeroNeg] at hv
  injection hv with _ h2 _
  exact h h2.symm
theorem fsum_pair' {a b : Int32} (ha : finB a) (hb : finB b) : ∃ v : Int32, (∀ Q : Int32 → Unit → Prop, Q v () → wp_X4_sum () a b Q) ∧ (∀ Q : Int32 → Unit → Prop, Q v () → wp_X8_sum () a b Q) := by
  have sa := fS_lt a
  have sb := fS_lt b
  have za := lc_eq (a := fS a) (b := 0) (by omega) (by decide)
  have zb := lc_eq (a := fS b) (b := 0) (by omega) (by decide)
  by_cases c : fS a = 0
  · by_cases d : fS b = 0
    · refine ⟨a &&& b, fun Q q => ?_, fun Q q => ?_⟩
      · unfold wp_X4_sum
        refine ⟨fun w => absurd ?_ w, fun _ => q⟩
        rw [zero_sg c, zero_sg d]
        cases fN a <;> cases fN b <;> decide
      · unfold wp_X8_sum
        refine fraction_model a _ ⟨fun w => absurd (za.mpr c) w, fun _ => fraction_model b _ ⟨fun w => absurd (zb.mpr d) w, fun _ => ?_⟩⟩
        have e : (a &&& b) &&& (-2147483648) = a &&& b := by
          rw [zero_sg c, zero_sg d]
          cases fN a <;> cases fN b <;> decide
        rw [e]
        exact q
    · refine ⟨b, fun Q q => sum_class ha hb (fun z => d z.2) Q ?_, fun Q q => ?_⟩
      · rw [show vOf a = 0 from if_pos c, show vOf b = uB b from if_neg d, fa_core, FP.Core.fadd_comm, ← fa_core, add_0 hb d, dB_uB hb d]
        exact q
      · unfold wp_X8_sum
        have r := l25 ha hb Q (fun z => absurd c z) (fun _ => q) (fun z => absurd c z)
        exact fraction_model a _ ⟨fun _ => r, fun _ => fraction_model b _ ⟨fun _ => r, fun w => absurd (zb.mp w) d⟩⟩
  · by_cases d : fS b = 0
    · refine ⟨a, fun Q q => sum_class ha hb (fun z => c z.1) Q ?_, fun Q q => ?_⟩
      · rw [show vOf b = 0 from if_pos d, show vOf a = uB a from if_neg c, add_0 ha c, dB_uB ha c]
        exact q
      · unfold wp_X8_sum
        have r := l25 ha hb Q (fun _ _ => q) (fun z => absurd z c) (fun _ z => absurd d z)
        exact fraction_model a _ ⟨fun _ => r, fun w => absurd (za.mp w) c⟩
    · refine ⟨dB (FP.Core.val32 (FP.fadd (uB a) (uB b))), fun Q q => sum_class ha hb (fun z => c z.1) Q ?_, fun Q q => ?_⟩
      · rw [show vOf b = uB b from if_neg d, show vOf a = uB a from if_neg c]
        exact q
      · unfold wp_X8_sum
        have r := l25 ha hb Q (fun _ z => absurd z d) (fun z => absurd z c) (fun _ _ => q)
        exact fraction_model a _ ⟨fun _ => r, fun w => absurd (za.mp w) c⟩
