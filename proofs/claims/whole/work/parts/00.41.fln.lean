/-! LAYER 2: singles: products -/
theorem fraction_model (a : Int32) (Q : Int64 → Unit → Prop) (q : Q (L6 (fS a)) ()) : wp_X8_fraction () a Q := by
  have hF := fF_lt a
  have hE := fE_lt a
  have eE : (Int32.ofNat (fE a) = 0) ↔ fE a = 0 := by
    rw [i_eq, i_ofNat (by omega), show (0 : Int32).toInt = 0 from rfl]; omega
  unfold wp_X8_fraction
  rw [fl_e, fl_f]
  refine ⟨fun c => ?_, fun c => ?_⟩
  · have c' : ¬ fE a = 0 := fun z => c (eE.mpr z)
    have eS : fS a = fF a + 8388608 := if_neg c'
    have e : Int32.ofNat (fF a) ||| 8388608 = Int32.ofNat (fS a) := by
      refine nb_inj ?_
      rw [nb_ofNat (by omega), eS]
      show (Int32.ofNat (fF a) ||| 8388608).toBitVec.toNat = _
      rw [Int32.toBitVec_or, BitVec.toNat_or]
      have h1 : (Int32.ofNat (fF a)).toBitVec.toNat = fF a := nb_ofNat (by omega)
      have h2 : (8388608 : Int32).toBitVec.toNat = 2 ^ 23 := by decide
      have h3 := Nat.two_pow_add_eq_or_of_lt (show fF a < 2 ^ 23 by omega) 1
      rw [Nat.mul_one] at h3
      rw [h1, h2, Nat.or_comm, ← h3]
      omega
    rw [e, l_of32 (by have := fS_lt a; omega)]
    exact q
  · have c' : fE a = 0 := eE.mp c
    have eS : fS a = fF a := if_pos c'
    rw [l_of32 (by omega), ← eS]
    exact q
theorem place_model (a : Int32) (Q : Int32 → Unit → Prop) (q : ∀ r : Int32, r.toInt = fP a → Q r ()) : wp_X8_place () a Q := by
  have hE := fE_lt a
  have eE : (Int32.ofNat (fE a) = 0) ↔ fE a = 0 := by
    rw [i_eq, i_ofNat (by omega), show (0 : Int32).toInt = 0 from rfl]; omega
  unfold wp_X8_place
  rw [fl_e]
  intro x e
  subst e
  have z : (150 : Int32).toInt = 150 := rfl
  refine ⟨fun c => q _ ?_, fun c => q _ ?_⟩
  · have c' : ¬ fE a = 0 := fun z => c (eE.mpr z)
    rw [i_sub (by rw [i_ofNat (by omega), z]; omega) (by rw [i_ofNat (by omega), z]; omega), i_ofNat (by omega), z]
    exact (if_neg c').symm
  · have c' : fE a = 0 := eE.mp c
    exact (if_pos c' : fP a = -149).symm
/-- without its sign -/
theorem abs_f (a : Int32) : nb (a &&& 2147483647) = nb a % 2147483648 := mask_nat (k := 31) (by decide)
theorem abs_E (a : Int32) : fE (a &&& 2147483647) = fE a := by unfold fE; rw [abs_f]; omega
theorem abs_F (a : Int32) : fF (a &&& 2147483647) = fF a := by unfold fF; rw [abs_f]; omega
theorem abs_S (a : Int32) : fS (a &&& 2147483647) = fS a := by unfold fS; rw [abs_E, abs_F]
theorem abs_P (a : Int32) : fP (a &&& 2147483647) = fP a := by unfold fP; rw [abs_E]
theorem abs_N (a : Int32) : fN (a &&& 2147483647) = false := by unfold fN; rw [abs_f]; exact decide_eq_false (by omega)
theorem abs_fin {a : Int32} (h : finB a) : finB (a &&& 2147483647) := by
  unfold finB at h ⊢
  rw [Int32.and_assoc, show (2147483647 : Int32) &&& 2139095040 = 2139095040 by decide]
  exact h
theorem vOf_Rp {a : Int32} (h : finB a) (hN : fN a = false) : Rp (vOf a) false (fS a) (fP a) := by
  unfold vOf
  by_cases c : fS a = 0
  · rw [if_pos c, c]
    unfold Rp
    rw [val_0]
    rfl
  · rw [if_neg c]
    have := uB_Rp h
    rw [hN] at this
    exact this
theorem sg_and (x : Int32) : x &&& (-2147483648) = sgB (fN x) := by
  have h1 : ∀ i : Nat, i < 32 → (-2147483648 : Int32).toBitVec.getLsbD i = decide (i = 31) := by decide +kernel
  have h2 : ∀ (s : Bool) (i : Nat), i < 32 → (sgB s).toBitVec.getLsbD i = (decide (i = 31) && s) := by
    intro s
    cases s <;> decide +kernel
  have hb : x.toBitVec.getLsbD 31 = fN x := by
    show Nat.testBit x.toBitVec.toNat 31 = decide (2147483648 ≤ nb x)
    rw [Nat.testBit_eq_decide_div_mod_eq]
    have hl := nb_lt x
    unfold nb at hl ⊢
    by_cases c : 2147483648 ≤ x.toBitVec.toNat
    · rw [decide_eq_true c, decide_eq_true (by omega)]
    · rw [decide_eq_false c, decide_eq_false (by omega)]
  refine Int32.toBitVec_inj.mp (BitVec.eq_of_getLsbD_eq fun i hi => ?_)
  rw [Int32.toBitVec_and, BitVec.getLsbD_and, h1 i hi, h2 _ i hi]
  by_cases c : i = 31
  · subst c
    rw [hb]
    simp
  · rw [decide_eq_false c]
    simp
theorem fprod_pair' {a b : Int32} (ha : finB a) (hb : finB b) : ∃ v : Int32, (∀ Q : Int32 → Unit → Prop, Q v () → wp_X4_product () a b Q) ∧ (∀ Q : Int32 → Unit → Prop, Q v () → wp_X8_product () a b Q) := by
  have r1 := vOf_Rp (abs_fin ha) (abs_N a)
  have r2 := vOf_Rp (abs_fin hb) (abs_N b)
  rw [abs_S, abs_P] at r1 r2
  have s1 := fS_lt a
  have s2 := fS_lt b
  have p1 := fP_lo a
  have p2 := fP_lo b
  have p3 := fP_hi ha
  have p4 := fP_hi hb
  have hr := Rp_mul r1 r2 s1 p1 p3 s2 p2 p4
  have hr' : Rp (FP.fmul (vOf (a &&& 2147483647)) (vOf (b &&& 2147483647))) false (fS a * fS b) (fP a + fP b) := hr
  have hn := Rp_n32 hr'
  refine ⟨sgB (fN (a ^^^ b)) ||| dB (FP.Core.val32 (FP.fmul (vOf (a &&& 2147483647)) (vOf (b &&& 2147483647)))), fun Q q => ?_, fun Q q => ?_⟩
  · unfold wp_X4_product
    refine value_class (abs_fin ha) _ (value_class (abs_fin hb) _ ⟨hn, bits_datum ((n32_iff _).mp hn) _ ?_⟩)
    rw [sg_and]
    exact q
  · have hs48 : fS a * fS b < 281474976710656 := by
      have h1 : fS a * fS b ≤ 16777215 * 16777215 := Nat.mul_le_mul (by omega) (by omega)
      omega
    have hx : L6 (fS a) * L6 (fS b) = L6 (fS a * fS b) := l_mul (by omega) (by omega) (by omega)
    have h0 := lc_eq (a := fS a * fS b) (b := 0) (by omega) (by decide)
    have hval : FP.Core.val32 (FP.fmul (vOf (a &&& 2147483647)) (vOf (b &&& 2147483647))) = FP.Core.roundRatio FP.Core.b32 false (fS a * fS b) 1 (fP a + fP b) := hr'
    rw [hval] at q
    unfold wp_X8_product
    refine ⟨fun c => fraction_model a _ (fraction_model b _ (fun x e => ?_)), fun c => fraction_model a _ (fraction_model b _ (fun x e => ?_))⟩
    · rw [hx] at e
      subst e
      have hN := (fl_neg _).mp c
      rw [hN] at q
      refine ⟨fun d => place_model a _ (fun x1 e1 => place_model b _ (fun x2 e2 => ?_)), fun d => ⟨fun _ => ?_, fun w => absurd rfl w⟩⟩
      · have n0 : ¬ fS a * fS b = 0 := fun z => d (h0.mpr z)
        rw [sg_dB n0] at q
        refine rounded_model (s := false) (lit := 0) (p := fP a + fP b) (Or.inl ⟨rfl, rfl⟩) n0 (by omega) (by rw [i_add (by rw [e1, e2]; omega) (by rw [e1, e2]; omega), e1, e2]) (by omega) (by omega) (Or.inl (by omega)) (Or.inl ⟨rfl, rfl⟩) _ ?_
        rw [rr_dbl]
        exact q
      · rw [h0.mp d, show dB (FP.Core.roundRatio FP.Core.b32 false 0 1 (fP a + fP b)) = 0 from rfl, show sgB false ||| 0 = 0 by decide] at q
        exact q
    · rw [hx] at e
      subst e
      have hN : fN (a ^^^ b) = true := by
        cases hb : fN (a ^^^ b)
        · exact absurd ((fl_neg _).mpr hb) c
        · rfl
      rw [hN] at q
      refine ⟨fun d => place_model a _ (fun x1 e1 => place_model b _ (fun x2 e2 => ?_)), fun d => ⟨fun w => absurd w (by decide), fun _ => ?_⟩⟩
      · have n0 : ¬ fS a * fS b = 0 := fun z => d (h0.mpr z)
        rw [sg_dB n0] at q
        refine rounded_model (s := true) (lit := 0) (p := fP a + fP b) (Or.inr ⟨by decide, rfl⟩) n0 (by omega) (by rw [i_add (by rw [e1, e2]; omega) (by rw [e1, e2]; omega), e1, e2]) (by omega) (by omega) (Or.inl (by omega)) (Or.inl ⟨rfl, rfl⟩) _ ?_
        rw [rr_dbl]
        exact q
      · rw [h0.mp d, show dB (FP.Core.roundRatio FP.Core.b32 false 0 1 (fP a + fP b)) = 0 from rfl, show sgB true ||| 0 = -2147483648 by decide] at q
        exact q
