/-! LAYER 2: singles: the class's valueOf -/
theorem Rp_2 : Rp 1073741824 false 1 1 := by unfold Rp; decide +kernel
theorem Rp_h : Rp 1056964608 false 1 (-1) := by unfold Rp; decide +kernel
theorem e_shr : ∀ E : Nat, E < 256 → ∀ i : Nat, i < 8 → Int32.ofNat E >>> (Int32.ofNat i &&& 31) = Int32.ofNat (E / 2 ^ i) := by decide +kernel
theorem e_and : ∀ E : Nat, E < 256 → Int32.ofNat E &&& 1 = Int32.ofNat (E % 2) := by decide +kernel
theorem e_i1 : ∀ i : Nat, i < 8 → Int32.ofNat i + 1 = Int32.ofNat (i + 1) ∧ ¬ (8 : Int32) ≤ Int32.ofNat i := by decide +kernel
def vTail (Q : UInt32 → Unit → Prop) (y0 : Int32) (z : UInt32) : Prop := (0 ≤ y0 → Q z ()) ∧ (¬ 0 ≤ y0 → vf_n32 (FP.fsub 0 z) ∧ Q (FP.fsub 0 z) ())
theorem v_loop {n E : Nat} {g : Int} {y0 : Int32} (hn : n < 16777216) (hg : (g = 1 ∧ E ≤ 104) ∨ (g = -1 ∧ E ≤ 149)) : ∀ (m i f : Nat) (y3 y6 : UInt32), i + m = 8 → m < f → Rp y3 false n (g * ((E % 2 ^ i : Nat) : Int)) → Rp y6 false 1 (g * ((2 ^ (i - 1) : Nat) : Int)) → ∃ z : UInt32, Rp z false n (g * (E : Int)) ∧ ∀ Q : UInt32 → Unit → Prop, vTail Q y0 z → wp_X4_valueOf_L74 Q f y0 y3 (Int32.ofNat E) y6 (Int32.ofNat i) () := by
  have hE : E < 256 := by omega
  intro m
  induction m with
  | zero =>
    intro i f y3 y6 e hf h3 _
    obtain ⟨f, rfl⟩ : ∃ f', f = f' + 1 := ⟨f - 1, by omega⟩
    have ei : i = 8 := by omega
    subst ei
    rw [Nat.mod_eq_of_lt (show E < 2 ^ 8 by omega)] at h3
    refine ⟨y3, h3, fun Q q => ?_⟩
    unfold wp_X4_valueOf_L74
    exact ⟨fun _ => q, fun c => absurd (by decide) c⟩
  | succ m ih =>
    intro i f y3 y6 e hf h3 h6
    obtain ⟨f, rfl⟩ : ∃ f', f = f' + 1 := ⟨f - 1, by omega⟩
    have i8 : i < 8 := by omega
    have hi := e_i1 i i8
    have hs := e_shr E hE i i8
    by_cases c0 : E < 2 ^ i
    · rw [Nat.mod_eq_of_lt c0] at h3
      refine ⟨y3, h3, fun Q q => ?_⟩
      unfold wp_X4_valueOf_L74
      refine ⟨fun c => absurd c hi.2, fun _ => ⟨fun _ => q, fun c => absurd ?_ c⟩⟩
      rw [hs, Nat.div_eq_of_lt c0]; rfl
    · have hne : ¬ Int32.ofNat (E / 2 ^ i) = 0 := fun z => by
        have h1 : 0 < E / 2 ^ i := Nat.div_pos (by omega) (Nat.two_pow_pos i)
        have h2 : E / 2 ^ i ≤ E := Nat.div_le_self _ _
        rw [i_eq, i_ofNat (by omega), show (0 : Int32).toInt = 0 from rfl] at z
        omega
      have hd : E / 2 ^ i < 256 := Nat.lt_of_le_of_lt (Nat.div_le_self _ _) hE
      have ha := e_and _ hd
      have hpw : (2 ^ i : Nat) ≤ 128 := Nat.pow_le_pow_right (n := 2) (by decide) (show i ≤ 7 by omega)
      have hpE : (2 ^ i : Nat) ≤ E := by omega
      have hml : E % 2 ^ i < 2 ^ i := Nat.mod_lt _ (Nat.two_pow_pos i)
      have hml2 : E % 2 ^ i ≤ E := Nat.mod_le _ _
      have hsucc : E % 2 ^ (i + 1) = E % 2 ^ i + 2 ^ i * (E / 2 ^ i % 2) := Nat.mod_pow_succ
      -- the base of this place
      have h6' : ∃ y6' : UInt32, Rp y6' false 1 (g * ((2 ^ i : Nat) : Int)) ∧ ∀ Q : UInt32 → Unit → Prop, ((¬ E / 2 ^ i % 2 = 1 → wp_X4_valueOf_L74 Q f y0 y3 (Int32.ofNat E) y6' (Int32.ofNat (i + 1)) ()) ∧ (E / 2 ^ i % 2 = 1 → vf_n32 (FP.fmul y3 y6') ∧ wp_X4_valueOf_L74 Q f y0 (FP.fmul y3 y6') (Int32.ofNat E) y6' (Int32.ofNat (i + 1)) ())) → wp_X4_valueOf_L74 Q (f + 1) y0 y3 (Int32.ofNat E) y6 (Int32.ofNat i) () := by
        have bit : (Int32.ofNat (E / 2 ^ i) &&& 1 = 1) ↔ E / 2 ^ i % 2 = 1 := by
          rw [ha]
          have hm : E / 2 ^ i % 2 < 2 := Nat.mod_lt _ (by decide)
          rw [i_eq, i_ofNat (by omega), show (1 : Int32).toInt = 1 from rfl]
          omega
        by_cases ci : i = 0
        · subst ci
          refine ⟨y6, h6, fun Q q => ?_⟩
          unfold wp_X4_valueOf_L74
          rw [hs]
          refine ⟨fun c => absurd c hi.2, fun _ => ⟨fun c => absurd c hne, fun _ => ⟨fun _ => ⟨fun c _ e1 => ?_, fun c => ⟨(q.2 (bit.mp c)).1, fun _ e1 _ e2 => ?_⟩⟩, fun c => absurd (by decide) c⟩⟩⟩
          · rw [hi.1] at e1
            subst e1
            exact q.1 (fun z => c (bit.mpr z))
          · rw [hi.1] at e2
            subst e1
            subst e2
            exact (q.2 (bit.mp c)).2
        · have e2 : (2 ^ i : Nat) = 2 ^ (i - 1) + 2 ^ (i - 1) := by
            have : (2 ^ i : Nat) = 2 ^ ((i - 1) + 1) := by rw [show i - 1 + 1 = i by omega]
            rw [this, Nat.pow_succ]; omega
          have hr := Rp_pow h6 h6 (by decide) (by rcases hg with ⟨z, _⟩ | ⟨z, _⟩ <;> rw [z] <;> omega) (by rcases hg with ⟨z, _⟩ | ⟨z, _⟩ <;> rw [z] <;> omega) (by rcases hg with ⟨z, _⟩ | ⟨z, _⟩ <;> rw [z] <;> omega) (by rcases hg with ⟨z, _⟩ | ⟨z, _⟩ <;> rw [z] <;> omega)
          rw [show g * ((2 ^ (i - 1) : Nat) : Int) + g * ((2 ^ (i - 1) : Nat) : Int) = g * ((2 ^ i : Nat) : Int) by rw [e2]; rcases hg with ⟨z, _⟩ | ⟨z, _⟩ <;> rw [z] <;> omega] at hr
          refine ⟨FP.fmul y6 y6, hr, fun Q q => ?_⟩
          have n0 : ¬ Int32.ofNat i ≤ 0 := by rw [i_le, i_ofNat (by omega), show (0 : Int32).toInt = 0 from rfl]; omega
          unfold wp_X4_valueOf_L74
          rw [hs]
          refine ⟨fun c => absurd c hi.2, fun _ => ⟨fun c => absurd c hne, fun _ => ⟨fun c => absurd c n0, fun _ => ⟨Rp_n32 hr, fun _ e0 => ?_⟩⟩⟩⟩
          subst e0
          refine ⟨fun c _ e1 => ?_, fun c => ⟨(q.2 (bit.mp c)).1, fun _ e1 _ e2 => ?_⟩⟩
          · rw [hi.1] at e1
            subst e1
            exact q.1 (fun z => c (bit.mpr z))
          · rw [hi.1] at e2
            subst e1
            subst e2
            exact (q.2 (bit.mp c)).2
      obtain ⟨y6', r6, st⟩ := h6'
      by_cases cb : E / 2 ^ i % 2 = 1
      · rw [cb, Nat.mul_one] at hsucc
        have hr := Rp_pow h3 r6 hn (by rcases hg with ⟨z, _⟩ | ⟨z, _⟩ <;> rw [z] <;> omega) (by rcases hg with ⟨z, _⟩ | ⟨z, _⟩ <;> rw [z] <;> omega) (by rcases hg with ⟨z, _⟩ | ⟨z, _⟩ <;> rw [z] <;> omega) (by rcases hg with ⟨z, _⟩ | ⟨z, _⟩ <;> rw [z] <;> omega)
        rw [show g * ((E % 2 ^ i : Nat) : Int) + g * ((2 ^ i : Nat) : Int) = g * ((E % 2 ^ (i + 1) : Nat) : Int) by rw [hsucc]; rcases hg with ⟨z, _⟩ | ⟨z, _⟩ <;> rw [z] <;> omega] at hr
        obtain ⟨z, k1, k2⟩ := ih (i + 1) f _ y6' (by omega) (by omega) hr (by rw [show i + 1 - 1 = i by omega]; exact r6)
        exact ⟨z, k1, fun Q q => st Q ⟨fun c => absurd cb c, fun _ => ⟨Rp_n32 hr, k2 Q q⟩⟩⟩
      · have hm : E / 2 ^ i % 2 < 2 := Nat.mod_lt _ (by decide)
        have hs2 : E % 2 ^ (i + 1) = E % 2 ^ i := by
          have hz : E / 2 ^ i % 2 = 0 := by omega
          rw [hsucc, hz, Nat.mul_zero]; omega
        rw [← hs2] at h3
        obtain ⟨z, k1, k2⟩ := ih (i + 1) f y3 y6' (by omega) (by omega) h3 (by rw [show i + 1 - 1 = i by omega]; exact r6)
        exact ⟨z, k1, fun Q q => st Q ⟨fun _ => k2 Q q, fun c => absurd c cb⟩⟩
theorem val_0 : FP.Core.val32 0 = .fin false 0 (-149) := by decide +kernel
/-- 0 less a number -/
theorem Rp_neg {y : UInt32} {n : Nat} {k : Int} (h : Rp y false n k) (hn : n < 16777216) (h1 : -149 ≤ k) (h2 : k ≤ 104) (h0 : ¬ n = 0) : Rp (FP.fsub 0 y) true n k := by
  obtain ⟨c, q, a1, a2, a3⟩ := Rp_exact h hn h1 h2
  have hc : ¬ c = 0 := fun e => by
    rw [e, Nat.zero_mul] at a3
    rcases Nat.mul_eq_zero.mp a3.symm with z | z
    · exact h0 z
    · exact absurd z (Nat.ne_of_gt (Nat.two_pow_pos _))
  unfold Rp
  rw [fs_core, FP.Core.val32_fsub, a1, val_0]
  have hu : FP.Core.sumUnits false 0 (-149) (!false) c q (min (-149) q) = -((c * 2 ^ (q + 149).toNat : Nat) : Int) := by
    unfold FP.Core.sumUnits FP.Core.signed FP.Core.inUnits
    rw [show min (-149) q = -149 by omega, show q - -149 = q + 149 by omega]
    simp
  have hpos : 0 < c * 2 ^ (q + 149).toNat := Nat.mul_pos (by omega) (Nat.two_pow_pos _)
  show FP.Core.roundRatio FP.Core.b32 (FP.Core.sumSign false (!false) (FP.Core.sumUnits false 0 (-149) (!false) c q (min (-149) q))) (FP.Core.sumUnits false 0 (-149) (!false) c q (min (-149) q)).natAbs 1 (min (-149) q) = FP.Core.roundRatio FP.Core.b32 true n 1 k
  rw [hu]
  have e1 : FP.Core.sumSign false (!false) (-((c * 2 ^ (q + 149).toNat : Nat) : Int)) = true := by
    unfold FP.Core.sumSign
    rw [if_neg (by omega)]
    exact decide_eq_true (by omega)
  rw [e1, show min (-149) q = -149 by omega]
  refine FP.Core.roundRatio_congr (by decide) (by decide) ?_
  rw [Nat.mul_one, Nat.mul_one]
  refine pw_cross (M := 149) (by omega) (by omega) ?_
  rw [show ((-149 : Int) + 149).toNat = 0 by omega, Nat.pow_zero, Nat.mul_one, ← a3]
  omega
theorem neg_zero {y : UInt32} {k : Int} (h : Rp y false 0 k) : FP.fsub 0 y = 0 := by
  have e : y = 0 := by
    refine FP.Core.val32_inj ((n32_iff y).mp (Rp_n32 h)) ?_
    rw [h, val_0]
    rfl
  rw [e]
  decide +kernel
/-- what valueOf answers -/
def vOf (a : Int32) : UInt32 := if fS a = 0 then 0 else uB a
theorem value_class {a : Int32} (ha : finB a) (Q : UInt32 → Unit → Prop) (q : Q (vOf a) ()) : wp_X4_valueOf () a Q := by
  have hE := fl_fin ha
  have hF := fF_lt a
  have hS := fS_lt a
  have hp1 := fP_lo a
  have hp2 := fP_hi ha
  -- from the whole number on
  have key : ∀ (z0 : UInt32) (w : Int32), Rp z0 false (fS a) 0 → w.toInt = fP a + 150 → wp_X4_valueOf_L37 Q a z0 w () := by
    intro z0 w hz hw
    have tail : ∀ z : UInt32, Rp z false (fS a) (fP a) → vTail Q a z := by
      intro z hz
      have hu := uB_Rp ha
      refine ⟨fun c => ?_, fun c => ?_⟩
      · have hN := (fl_neg a).mp c
        rw [hN] at hu
        have e := Rp_inj hz hu
        rw [e]
        unfold vOf at q
        by_cases c0 : fS a = 0
        · rw [if_pos c0] at q
          rw [c0] at hu
          have e0 : uB a = 0 := by
            refine FP.Core.val32_inj ((n32_iff _).mp (Rp_n32 hu)) ?_
            rw [hu, val_0]
            rfl
          rw [e0]; exact q
        · rw [if_neg c0] at q; exact q
      · have hN : fN a = true := by
          cases hb : fN a
          · exact absurd ((fl_neg a).mpr hb) c
          · rfl
        rw [hN] at hu
        unfold vOf at q
        by_cases c0 : fS a = 0
        · rw [if_pos c0] at q
          rw [c0] at hz
          rw [neg_zero hz]
          exact ⟨show (0 : UInt32) &&& 0x7fffffff ≤ 0x7f800000 by decide, q⟩
        · rw [if_neg c0] at q
          have hr := Rp_neg hz hS hp1 hp2 c0
          have e := Rp_inj hr hu
          refine ⟨Rp_n32 hr, ?_⟩
          rw [e]; exact q
    have z0' : (0 : Int32).toInt = 0 := rfl
    have h150 : (w - 150).toInt = fP a := by
      rw [i_sub (by rw [hw, show (150 : Int32).toInt = 150 from rfl]; omega) (by rw [hw, show (150 : Int32).toInt = 150 from rfl]; omega), hw, show (150 : Int32).toInt = 150 from rfl]
      omega
    unfold wp_X4_valueOf_L37
    intro x5 e5
    subst e5
    by_cases c : 0 ≤ fP a
    · have cc : 0 ≤ w - 150 := i_le.mpr (by rw [h150, z0']; exact c)
      have ew : w - 150 = Int32.ofNat (fP a).toNat := i_eq.mpr (by rw [h150, i_ofNat (by omega)]; omega)
      refine ⟨fun _ => ⟨fun _ => ?_, fun d => absurd cc d⟩, fun d => absurd cc d⟩
      rw [ew]
      obtain ⟨z, k1, k2⟩ := v_loop (n := fS a) (E := (fP a).toNat) (g := 1) (y0 := a) hS (Or.inl ⟨rfl, by omega⟩) 8 0 2000 z0 1073741824 rfl (by decide) (by rw [Nat.pow_zero, Nat.mod_one]; exact hz) Rp_2
      rw [show (1 : Int) * ((fP a).toNat : Int) = fP a by omega] at k1
      exact k2 Q (tail z k1)
    · have cc : ¬ 0 ≤ w - 150 := fun z => by rw [i_le, h150, z0'] at z; omega
      have ew : -(w - 150) = Int32.ofNat (-(fP a)).toNat := by
        refine i_eq.mpr ?_
        rw [i_ofNat (by omega), Int32.toInt_neg, h150]
        rw [Int.bmod_eq_of_le (by simp; omega) (by simp; omega)]
        omega
      refine ⟨fun d => absurd d cc, fun _ x8 e8 => ⟨fun d => absurd d cc, fun _ => ?_⟩⟩
      rw [ew] at e8
      subst e8
      obtain ⟨z, k1, k2⟩ := v_loop (n := fS a) (E := (-(fP a)).toNat) (g := -1) (y0 := a) hS (Or.inr ⟨rfl, by omega⟩) 8 0 2000 z0 1056964608 rfl (by decide) (by rw [Nat.pow_zero, Nat.mod_one]; exact hz) Rp_h
      rw [show (-1 : Int) * ((-(fP a)).toNat : Int) = fP a by omega] at k1
      exact k2 Q (tail z k1)
  unfold wp_X4_valueOf
  intro x1 e1 x2 e2
  rw [fl_swap, fl_e] at e1
  rw [fl_f] at e2
  subst e1
  subst e2
  have eE : (Int32.ofNat (fE a) = 0) ↔ fE a = 0 := by
    rw [i_eq, i_ofNat (by omega), show (0 : Int32).toInt = 0 from rfl]; omega
  refine ⟨fun c => ?_, fun c => ?_⟩
  · have c' : ¬ fE a = 0 := fun z => c (eE.mpr z)
    have eS : fS a = fF a + 8388608 := if_neg c'
    have eP : fP a = (fE a : Int) - 150 := if_neg c'
    have e3 : Int32.ofNat (fF a) + 8388608 = Int32.ofNat (fS a) := by
      refine i_eq.mpr ?_
      have h8 : (8388608 : Int32).toInt = 8388608 := rfl
      rw [i_add (by rw [i_ofNat (by omega), h8]; omega) (by rw [i_ofNat (by omega), h8]; omega), i_ofNat (by omega), h8, i_ofNat (by omega), eS]
      omega
    rw [e3]
    unfold wp_X4_valueOf_L27
    refine ⟨fun _ => key _ _ (Rp_int hS) (by rw [i_ofNat (by omega), eP]; omega), fun d => absurd d c⟩
  · have c' : fE a = 0 := eE.mp c
    have eS : fS a = fF a := if_pos c'
    have eP : fP a = -149 := if_pos c'
    rw [← eS]
    unfold wp_X4_valueOf_L27
    refine ⟨fun d => absurd c d, fun _ => key _ _ (Rp_int hS) (by rw [eP]; rfl)⟩
