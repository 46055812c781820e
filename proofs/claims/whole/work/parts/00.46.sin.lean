/-! LAYER 2: instructions 18, 20 to 24 -/
theorem MID_fl {W : Ob} {nw : Bool} {N T : Int} {K B r : Nat → Int32} {S A J C M : Ob} {q : Nat} {v : Int32} (h : MID W nw N T K S A J C B M r) (hq : q < 4) (hv : finB v) : MID W nw N T K S A J (si (sa C 2 (upd (C.2 2) q v)) 12 1) B M (upd (upd r (8 + q) v) 18 1) := by
  have h1 := MID_f h hq hv
  have b := h1.2.2.2.1.2.1
  exact MID_i (s := 12) (i := 18) (v := 1) h1 (by unfold pairC; omega) ⟨b.1, b.2.1, b.2.2.1, b.2.2.2.1, isB1, b.2.2.2.2.2⟩
theorem op_20 {W : Ob} {nw : Bool} {N T : Int} {K B r : Nat → Int32} {S A J C M : Ob} (x y : Int32) (h : MID W nw N T K S A J C B M r) (y0 : 0 ≤ y.toInt) (y1 : y.toInt < 256) : ∃ (C' : Ob) (M' : Ob) (r' : Nat → Int32), (∀ Q : Ob → Prop, Q C' → wp_X1_reckonSingles C 20 x y Q) ∧ (∀ Q : Mod → Prop, Q (M', r') → mTail nw Q 20 x y (0 + (x &&& 7)) (0 + (y &&& 7)) M r) ∧ MID W nw N T K S A J C' B M' r' := by
  obtain ⟨c0, cb, -⟩ := h.2.2.2.1
  obtain ⟨o1, o2, o3, o4, o5⟩ := sng_at c0 x
  obtain ⟨w1, w2, w3, w4, w5⟩ := sng_at c0 y
  obtain ⟨v, v0, v1, v2, v3, v4⟩ := f20_pair y0 y1
  refine ⟨_, _, _, fun Q hQ => ?_, fun Q hQ => ?_, MID_fl h o5 v0⟩
  · unfold wp_X1_reckonSingles
    intro x1 f1 x2 f2
    subst f1
    refine ⟨fun _ => ⟨v1, v2 _ ⟨o1, fun T6 e6 T7 e7 => ?_⟩⟩, fun z => absurd z (by decide), fun z => absurd z (by decide), fun z => absurd z (by decide), fun z => absurd z (by decide), fun z => absurd rfl z⟩
    subst e6
    subst e7
    exact hQ
  · unfold mTail wp_X8_floats
    dsimp only
    rw [o3]
    refine ⟨fun _ => ⟨fun _ => ⟨fun _ => ⟨fun _ => ⟨fun _ => ⟨fun z => absurd z (by decide), fun _ => ⟨fun z => absurd rfl z, fun _ => ⟨fun z => v4 z _ ⟨o2, fun T6 e6 T7 e7 => ?_⟩, fun z => ⟨o2, fun T6 e6 T7 e7 => ?_⟩⟩⟩⟩, fun z => absurd (by decide) z⟩, fun z => absurd (by decide) z⟩, fun z => absurd z (by decide)⟩, fun z => absurd (by decide) z⟩, fun z => absurd z (by decide)⟩
    · subst e6
      subst e7
      exact hQ
    · rw [v3 z] at hQ
      subst e6
      subst e7
      exact hQ
theorem op_21 {W : Ob} {nw : Bool} {N T : Int} {K B r : Nat → Int32} {S A J C M : Ob} (x y : Int32) (h : MID W nw N T K S A J C B M r) (hv : ∃ v : Int32, finB v ∧ (∀ Q : Int32 → Unit → Prop, Q v () → wp_X4_sum () (C.2 2 (Int32.toNatClampNeg (x &&& 3))) (C.2 2 (Int32.toNatClampNeg (y &&& 3))) Q) ∧ (∀ Q : Int32 → Unit → Prop, Q v () → wp_X8_sum () (C.2 2 (Int32.toNatClampNeg (x &&& 3))) (C.2 2 (Int32.toNatClampNeg (y &&& 3))) Q)) : ∃ (C' : Ob) (M' : Ob) (r' : Nat → Int32), (∀ Q : Ob → Prop, Q C' → wp_X1_reckonSingles C 21 x y Q) ∧ (∀ Q : Mod → Prop, Q (M', r') → mTail nw Q 21 x y (0 + (x &&& 7)) (0 + (y &&& 7)) M r) ∧ MID W nw N T K S A J C' B M' r' := by
  obtain ⟨c0, cb, -⟩ := h.2.2.2.1
  obtain ⟨o1, o2, o3, o4, o5⟩ := sng_at c0 x
  obtain ⟨w1, w2, w3, w4, w5⟩ := sng_at c0 y
  obtain ⟨v, v0, v1, v2⟩ := hv
  refine ⟨_, _, _, fun Q hQ => ?_, fun Q hQ => ?_, MID_fl h o5 v0⟩
  · unfold wp_X1_reckonSingles
    intro x1 f1 x2 f2
    subst f1
    subst f2
    refine ⟨fun z => absurd z (by decide), fun _ => ⟨o1, w1, v1 _ ⟨o1, fun T6 e6 T7 e7 => ?_⟩⟩, fun z => absurd z (by decide), fun z => absurd z (by decide), fun z => absurd z (by decide), fun _ z => absurd rfl z⟩
    subst e6
    subst e7
    exact hQ
  · unfold mTail wp_X8_floats
    dsimp only
    rw [o3, o4, w3, w4]
    refine ⟨fun _ => ⟨fun _ => ⟨fun _ => ⟨fun _ => ⟨fun _ => ⟨fun z => absurd z (by decide), fun _ => ⟨fun _ => ⟨fun z => absurd rfl z, fun _ => ⟨o2, w2, v2 _ ⟨o2, fun T6 e6 T7 e7 => ?_⟩⟩⟩, fun z => absurd z (by decide)⟩⟩, fun z => absurd (by decide) z⟩, fun z => absurd (by decide) z⟩, fun z => absurd z (by decide)⟩, fun z => absurd (by decide) z⟩, fun z => absurd z (by decide)⟩
    subst e6
    subst e7
    exact hQ
theorem op_22 {W : Ob} {nw : Bool} {N T : Int} {K B r : Nat → Int32} {S A J C M : Ob} (x y : Int32) (h : MID W nw N T K S A J C B M r) (hv : ∃ v : Int32, finB v ∧ (∀ Q : Int32 → Unit → Prop, Q v () → wp_X4_product () (C.2 2 (Int32.toNatClampNeg (x &&& 3))) (C.2 2 (Int32.toNatClampNeg (y &&& 3))) Q) ∧ (∀ Q : Int32 → Unit → Prop, Q v () → wp_X8_product () (C.2 2 (Int32.toNatClampNeg (x &&& 3))) (C.2 2 (Int32.toNatClampNeg (y &&& 3))) Q)) : ∃ (C' : Ob) (M' : Ob) (r' : Nat → Int32), (∀ Q : Ob → Prop, Q C' → wp_X1_reckonSingles C 22 x y Q) ∧ (∀ Q : Mod → Prop, Q (M', r') → mTail nw Q 22 x y (0 + (x &&& 7)) (0 + (y &&& 7)) M r) ∧ MID W nw N T K S A J C' B M' r' := by
  obtain ⟨c0, cb, -⟩ := h.2.2.2.1
  obtain ⟨o1, o2, o3, o4, o5⟩ := sng_at c0 x
  obtain ⟨w1, w2, w3, w4, w5⟩ := sng_at c0 y
  obtain ⟨v, v0, v1, v2⟩ := hv
  refine ⟨_, _, _, fun Q hQ => ?_, fun Q hQ => ?_, MID_fl h o5 v0⟩
  · unfold wp_X1_reckonSingles
    intro x1 f1 x2 f2
    subst f1
    subst f2
    refine ⟨fun z => absurd z (by decide), fun z => absurd z (by decide), fun _ => ⟨o1, w1, v1 _ ⟨o1, fun T6 e6 T7 e7 => ?_⟩⟩, fun z => absurd z (by decide), fun z => absurd z (by decide), fun _ _ z => absurd rfl z⟩
    subst e6
    subst e7
    exact hQ
  · unfold mTail wp_X8_floats
    dsimp only
    rw [o3, o4, w3, w4]
    refine ⟨fun _ => ⟨fun _ => ⟨fun _ => ⟨fun _ => ⟨fun _ => ⟨fun z => absurd z (by decide), fun _ => ⟨fun _ => ⟨fun _ => ⟨fun z => absurd rfl z, fun _ => ⟨o2, w2, v2 _ ⟨o2, fun T6 e6 T7 e7 => ?_⟩⟩⟩, fun z => absurd z (by decide)⟩, fun z => absurd z (by decide)⟩⟩, fun z => absurd (by decide) z⟩, fun z => absurd (by decide) z⟩, fun z => absurd z (by decide)⟩, fun z => absurd (by decide) z⟩, fun z => absurd z (by decide)⟩
    subst e6
    subst e7
    exact hQ
theorem op_23 {W : Ob} {nw : Bool} {N T : Int} {K B r : Nat → Int32} {S A J C M : Ob} (x y : Int32) (h : MID W nw N T K S A J C B M r) : ∃ (C' : Ob) (M' : Ob) (r' : Nat → Int32), (∀ Q : Ob → Prop, Q C' → wp_X1_reckonSingles C 23 x y Q) ∧ (∀ Q : Mod → Prop, Q (M', r') → mTail nw Q 23 x y (0 + (x &&& 7)) (0 + (y &&& 7)) M r) ∧ MID W nw N T K S A J C' B M' r' := by
  obtain ⟨c0, cb, -⟩ := h.2.2.2.1
  obtain ⟨o1, o2, o3, o4, o5⟩ := reg_at c0 x
  obtain ⟨w1, w2, w3, w4, w5⟩ := sng_at c0 y
  obtain ⟨z, v, v1, v2, v3⟩ := f23_pair (cb.2.2.2.2.2.2.2.2 _ w5)
  have h1 := MID_a (s := 1) (o := 0) (n := 8) (q := Int32.toNatClampNeg (x &&& 7)) (v := v) h (by unfold rowC; omega) o5 cb
  have b := h1.2.2.2.1.2.1
  have h2 := MID_i (s := 12) (i := 18) (v := 1) h1 (by unfold pairC; omega) ⟨b.1, b.2.1, b.2.2.1, b.2.2.2.1, isB1, b.2.2.2.2.2⟩
  refine ⟨_, _, _, fun Q hQ => ?_, fun Q hQ => ?_, h2⟩
  · unfold wp_X1_reckonSingles
    intro x1 f1 x2 f2
    subst f2
    refine ⟨fun z => absurd z (by decide), fun z => absurd z (by decide), fun z => absurd z (by decide), fun _ => ⟨w1, v1 _ ⟨o1, fun T6 e6 T7 e7 => ?_⟩⟩, fun z => absurd z (by decide), fun _ _ _ z => absurd rfl z⟩
    rw [v2] at e6
    subst e6
    subst e7
    exact hQ
  · rw [Nat.zero_add] at hQ
    unfold mTail wp_X8_floats
    dsimp only
    rw [o3, w3, w4]
    refine ⟨fun _ => ⟨fun _ => ⟨fun _ => ⟨fun _ => ⟨fun _ => ⟨fun z => absurd z (by decide), fun _ => ⟨fun _ => ⟨fun _ => ⟨fun _ => ⟨fun z => absurd rfl z, fun _ => ⟨w2, v3 _ ⟨o2, fun T6 e6 T7 e7 => ?_⟩⟩⟩, fun z => absurd z (by decide)⟩, fun z => absurd z (by decide)⟩, fun z => absurd z (by decide)⟩⟩, fun z => absurd (by decide) z⟩, fun z => absurd (by decide) z⟩, fun z => absurd z (by decide)⟩, fun z => absurd (by decide) z⟩, fun z => absurd z (by decide)⟩
    subst e6
    subst e7
    exact hQ
theorem op_24 {W : Ob} {nw : Bool} {N T : Int} {K B r : Nat → Int32} {S A J C M : Ob} (x y : Int32) (h : MID W nw N T K S A J C B M r) : ∃ (C' : Ob) (M' : Ob) (r' : Nat → Int32), (∀ Q : Ob → Prop, Q C' → wp_X1_reckonSingles C 24 x y Q) ∧ (∀ Q : Mod → Prop, Q (M', r') → mTail nw Q 24 x y (0 + (x &&& 7)) (0 + (y &&& 7)) M r) ∧ MID W nw N T K S A J C' B M' r' := by
  obtain ⟨c0, cb, -⟩ := h.2.2.2.1
  obtain ⟨o1, o2, o3, o4, o5⟩ := sng_at c0 x
  obtain ⟨w1, w2, w3, w4, w5⟩ := reg_at c0 y
  obtain ⟨v, v0, v1, v2⟩ := f24_pair (C.2 1 (Int32.toNatClampNeg (y &&& 7)))
  refine ⟨_, _, _, fun Q hQ => ?_, fun Q hQ => ?_, MID_fl h o5 v0⟩
  · unfold wp_X1_reckonSingles
    intro x1 f1 x2 f2
    subst f1
    refine ⟨fun z => absurd z (by decide), fun z => absurd z (by decide), fun z => absurd z (by decide), fun z => absurd z (by decide), fun _ => ⟨w1, v1 _ ⟨o1, fun T6 e6 T7 e7 => ?_⟩⟩, fun _ _ _ _ z => absurd rfl z⟩
    subst e6
    subst e7
    exact hQ
  · unfold mTail wp_X8_floats
    dsimp only
    rw [o3, w3, w4]
    refine ⟨fun _ => ⟨fun _ => ⟨fun _ => ⟨fun _ => ⟨fun _ => ⟨fun z => absurd z (by decide), fun _ => ⟨fun _ => ⟨fun _ => ⟨fun _ => ⟨fun _ => ⟨w2, v2 _ ⟨o2, fun T6 e6 T7 e7 => ?_⟩⟩, fun z => absurd z (by decide)⟩, fun z => absurd z (by decide)⟩, fun z => absurd z (by decide)⟩, fun z => absurd z (by decide)⟩⟩, fun z => absurd (by decide) z⟩, fun z => absurd (by decide) z⟩, fun z => absurd z (by decide)⟩, fun z => absurd (by decide) z⟩, fun z => absurd z (by decide)⟩
    subst e6
    subst e7
    exact hQ
theorem rS_end {nw : Bool} {S M : Ob} {r : Nat → Int32} {q e : Nat} (h : rS nw S M r) (he : (S.1 10).toInt = (e : Int) + 1) (hq : (S.2 9 e).toNatClampNeg = q) : rS nw (si (sa S 4 (upd (S.2 4) q 0)) 10 (S.1 10 - 1)) M (upd (upd r 30 (r 30 - 1)) (300 + q) 0) := by
  obtain ⟨⟨⟨⟨⟨⟨a1, a2, a3⟩, b, cc, d, f⟩, K, P, E, Sp⟩, sh, hd⟩, q1, q2, q3, q4, q5, q6⟩, n, o⟩ := h
  have oe := ok_iff.mp (b e (by omega)).2
  have hq21 : q < 21 := by rw [← hq, i_nat]; omega
  have l1 : (1 : Int32).toInt = 1 := rfl
  have s10 : (S.1 10 - 1).toInt = (e : Int) := by rw [i_sub (by omega) (by omega), l1]; omega
  have hr : ∀ j : Nat, ¬ j = 300 + q → ¬ j = 30 → upd (upd r 30 (r 30 - 1)) (300 + q) 0 j = r j := fun j hj h3 => by rw [up_ne hj, up_ne h3]
  have dist : ∀ i : Nat, i < e → ¬ (S.2 9 i).toNatClampNeg = q := by
    intro i hi z
    have := n.2 i e hi (by omega)
    unfold grp at this
    rw [hq, z] at this
    omega
  have q4' : ∀ k : Nat, k < 21 → (si (sa S 4 (upd (S.2 4) q 0)) 10 (S.1 10 - 1)).2 4 k = upd (upd r 30 (r 30 - 1)) (300 + q) 0 (300 + k) ∧ isB ((si (sa S 4 (upd (S.2 4) q 0)) 10 (S.1 10 - 1)).2 4 k) := by
    intro k hk
    rw [si_2, sa_self]
    by_cases z : k = q
    · subst z; rw [up_eq, up_eq]; exact ⟨rfl, isB0⟩
    · rw [up_ne z, hr (300 + k) (by omega) (by omega)]; exact q4 k hk
  refine ⟨⟨⟨⟨⟨⟨?_, ?_, ?_⟩, fun j hj => ?_, fun j hj => ?_, d, by rw [hr 17 (by omega) (by omega)]; exact f⟩, K, fun j hj => ?_, fun j hj => E j hj, Sp⟩, by rw [hr 16 (by omega) (by omega)]; exact sh, ?_⟩, q1, q2, q3, q4', fun j hj => ?_, q6⟩, ⟨fun i hi => ?_, fun i j hij hj => ?_⟩, fun hn => ?_⟩
  · rw [si_self, up_ne (by omega), up_eq, a1]
  · rw [si_self, s10]; omega
  · rw [si_self, s10]; omega
  · rw [si_self, s10] at hj
    rw [hr (152 + j) (by omega) (by omega)]; exact b j (by omega)
  · rw [hr (173 + j) (by omega) (by omega)]; exact cc j hj
  · rw [hr (194 + j) (by omega) (by omega)]; exact P j hj
  · have := (q4' 20 (by omega)).1
    rw [this]
  · rw [hr (215 + j) (by omega) (by omega)]; exact q5 j hj
  · rw [si_self, s10] at hi
    show (sa S 4 (upd (S.2 4) q 0)).2 4 (S.2 9 i).toNatClampNeg = 1
    rw [sa_self, up_ne (dist i (by omega))]
    exact n.1 i (by omega)
  · rw [si_self, s10] at hj
    exact n.2 i j hij (by omega)
  · obtain ⟨o1, o2, o3, o4, o5⟩ := o hn
    refine ⟨fun j hj hj2 => ?_, fun j hj hj2 => ?_, o3, o4, o5⟩
    · rw [hr (194 + j) (by omega) (by omega)]; exact o1 j hj hj2
    · rw [si_2, sa_self] at hj2
      by_cases z : j = q
      · subst z; rw [up_eq] at hj2; exact absurd hj2 (by decide)
      · rw [up_ne z] at hj2
        rw [hr (321 + j) (by omega) (by omega)]; exact o2 j hj hj2
theorem ends_fin {W : Ob} {nw : Bool} {N T : Int} {K B r : Nat → Int32} {S A J C M : Ob} (h : MID W nw N T K S A (si J 13 (J.1 13 + 1)) C B M r) : PAIR W nw N T B (fun Q => ((¬ (K 11) = 0 → wp_X3_enter (K, S, A, J, C, B) 3 (fun u => Q (u.1, u.2.1, u.2.2.1, si u.2.2.2.1 13 (u.2.2.2.1.1 13 + 1), u.2.2.2.2.1, u.2.2.2.2.2))) ∧ ((K 11) = 0 → wp_X5_next S (fun r9 u8 => ((r9 = (-1) → wp_X3_enter (K, u8, A, J, C, B) 3 (fun u => Q (u.1, u.2.1, u.2.2.1, si u.2.2.2.1 13 (u.2.2.2.1.1 13 + 1), u.2.2.2.2.1, u.2.2.2.2.2))) ∧ (¬ r9 = (-1) → wp_X3_enter (K, u8, A, J, C, B) 2 (fun u => Q (u.1, u.2.1, u.2.2.1, si u.2.2.2.1 13 (u.2.2.2.1.1 13 + 1), u.2.2.2.2.1, u.2.2.2.2.2))))))))
    (fun Q => ((¬ (M.1 15) = 0 → wp_X8_turns nw (M, r) 3 0 Q) ∧ ((M.1 15) = 0 → wp_X8_nextOf_ nw (M, r) (fun r9 u8 => ((r9 < 0 → wp_X8_turns nw u8 3 0 Q) ∧ (¬ r9 < 0 → wp_X8_turns nw u8 2 0 Q)))))) := by
  have ep : K 11 = M.1 15 := h.2.2.2.2.2.2.2.1
  by_cases pl : K 11 = 0
  · have pm : M.1 15 = 0 := by rw [← ep]; exact pl
    rcases next_spec (S := S) (sh := S.1 14) with hn | hn
    · refine ⟨_, _, _, _, _, _, _, fun Q hQ => ⟨fun z => absurd pl z, fun _ => next_own_class (MID_lim h) ⟨fun _ => enter_class hQ, fun z => absurd hn z⟩⟩, fun Q hQ => ⟨fun z => absurd pm z, fun _ => next_own_model (MID_tak h) ⟨fun _ => turns_model hQ, fun z => absurd (by rw [hn]; decide) z⟩⟩, MID_turn (p := 3) (q := 0) h, rP_un rfl rfl⟩
    · have hne : ¬ nextF S (S.1 14) = -1 := fun e => by have := ok_iff.mp hn.1; rw [e] at this; exact absurd this.1 (by decide)
      have hge : ¬ nextF S (S.1 14) < 0 := fun d => by have := ok_iff.mp hn.1; rw [i_lt] at d; exact absurd d (by have e0 : (0 : Int32).toInt = 0 := rfl; omega)
      refine ⟨_, _, _, _, _, _, _, fun Q hQ => ⟨fun z => absurd pl z, fun _ => next_own_class (MID_lim h) ⟨fun z => absurd z hne, fun _ => enter_class hQ⟩⟩, fun Q hQ => ⟨fun z => absurd pm z, fun _ => next_own_model (MID_tak h) ⟨fun z => absurd z hge, fun _ => turns_model hQ⟩⟩, MID_turn (p := 2) (q := 0) h, rP_ch rfl (show 0 ≤ (0 : Int32).toInt ∧ (0 : Int32).toInt < 2 by decide)⟩
  · have pm : ¬ M.1 15 = 0 := by rw [← ep]; exact pl
    exact ⟨_, _, _, _, _, _, _, fun Q hQ => ⟨fun _ => enter_class hQ, fun z => absurd z pl⟩, fun Q hQ => ⟨fun _ => turns_model hQ, fun z => absurd z pm⟩, MID_turn (p := 3) (q := 0) h, rP_un rfl rfl⟩
theorem op_18 {W : Ob} {nw : Bool} {N T : Int} {K B r : Nat → Int32} {S A J C M : Ob} (x y : Int32) (h : MID W nw N T K S A (si J 13 (J.1 13 + 1)) C B M r) (hd : 0 < (S.1 10).toInt) (hT : T < 2000000000) : PAIR W nw N (T + 1) B (fun Q => wp_X3_endInnermost (K, S, A, J, C, B) (fun u => Q (u.1, u.2.1, u.2.2.1, si u.2.2.2.1 13 (u.2.2.2.1.1 13 + 1), u.2.2.2.2.1, u.2.2.2.2.2))) (fun Q => mTail nw Q 18 x y (0 + (x &&& 7)) (0 + (y &&& 7)) M r) := by
  have R := MID_lim h
  have e30 : S.1 10 = r 30 := R.1.1
  have d21 := R.1.2.2
  have ep : K 11 = M.1 15 := h.2.2.2.2.2.2.2.1
  have l1 : (1 : Int32).toInt = 1 := rfl
  have l0 : (0 : Int32).toInt = 0 := rfl
  have l152 : (152 : Int32).toInt = 152 := rfl
  have l300 : (300 : Int32).toInt = 300 := rfl
  have l321 : (321 : Int32).toInt = 321 := rfl
  have l215 : (215 : Int32).toInt = 215 := rfl
  obtain ⟨e, he⟩ : ∃ e : Nat, (S.1 10).toInt = (e : Int) + 1 := ⟨((S.1 10).toInt - 1).toNat, by omega⟩
  have s10 : (S.1 10 - 1).toInt = (e : Int) := by rw [i_sub (by omega) (by omega), l1]; omega
  have s10n : Int32.toNatClampNeg (S.1 10 - 1) = e := by rw [i_nat, s10]; omega
  have hi : inn S = S.2 9 e := by
    unfold inn
    rw [if_neg (by rw [i_le]; omega), s10n]
  obtain ⟨be, bo⟩ := R.2.1 e (by omega)
  generalize hnn : S.2 9 e = n at *
  obtain ⟨n0, n1⟩ := ok_iff.mp bo
  have nne : ¬ n = -1 := fun z => by rw [z] at n0; exact absurd n0 (by decide)
  generalize hq : Int32.toNatClampNeg n = q
  have q21 : q < 21 := by rw [← hq, i_nat]; omega
  have o300 := off (a := 300) (k := n) (by omega) (by omega) (by omega)
  have o321 := off (a := 321) (k := n) (by omega) (by omega) (by omega)
  have o215 := off (a := 215) (k := n) (by omega) (by omega) (by omega)
  have o152 := off (a := 152) (k := S.1 10 - 1) (by omega) (by omega) (by omega)
  rw [hq, show (300 : Int32).toNatClampNeg = 300 from rfl] at o300
  rw [hq, show (321 : Int32).toNatClampNeg = 321 from rfl] at o321
  rw [hq, show (215 : Int32).toNatClampNeg = 215 from rfl] at o215
  rw [s10n, show (152 : Int32).toNatClampNeg = 152 from rfl] at o152
  have hact : S.2 4 q = 1 := by
    have := h.1.2.1.1 e (by omega)
    rw [hnn, hq] at this
    exact this
  have h1 : MID W nw N T K (si (sa S 4 (upd (S.2 4) q 0)) 10 (S.1 10 - 1)) A (si J 13 (J.1 13 + 1)) C B M (upd (upd r 30 (r 30 - 1)) (300 + q) 0) := MID_S0 h (rS_end h.1 he (by rw [hnn]; exact hq)) (fun k hk => by unfold inS at hk; rw [up_ne (by omega), up_ne (by omega)])
  have u25 : upd (upd r 30 (r 30 - 1)) (300 + q) 0 25 = r 25 := by rw [up_ne (by omega), up_ne (by omega)]
  have u321 : upd (upd r 30 (r 30 - 1)) (300 + q) 0 (321 + q) = r (321 + q) := by rw [up_ne (by omega), up_ne (by omega)]
  have u215 : upd (upd r 30 (r 30 - 1)) (300 + q) 0 (215 + q) = S.2 5 q := by rw [up_ne (by omega), up_ne (by omega)]; exact (h.1.1.2.2.2.2.2.1 q q21).1.symm
  have b5 : isB (S.2 5 q) := (h.1.1.2.2.2.2.2.1 q q21).2
  have h2 := MID_note (a := 2) (b := n) (d := K 4 - S.2 7 q) (d' := r 25 - r (321 + q)) h1 hT (fun hn => by rw [h.2.2.2.2.2.1.1.1, (h.1.2.2 hn).2.1 q q21 hact])
  rw [u25] at h2
  have eJ : recJ (si J 13 (J.1 13 + 1)) 2 n (K 4) (K 4 - S.2 7 q) = si (recJ J 2 n (K 4) (K 4 - S.2 7 q)) 13 ((recJ J 2 n (K 4) (K 4 - S.2 7 q)).1 13 + 1) := by
    rw [rec_si (by decide) (by decide), rec_1 (by decide) (by decide)]
  rw [eJ] at h2
  have hcl : ∀ (Q : Mac → Prop), wp_X5_endInnermost S (K 4) (fun u5 => ((¬ (K 11) = 0 → wp_X3_enter (K, u5, A, recJ J 2 n (K 4) (K 4 - S.2 7 q), C, B) 3 Q) ∧ ((K 11) = 0 → wp_X5_next u5 (fun r9 u8 => ((r9 = (-1) → wp_X3_enter (K, u8, A, recJ J 2 n (K 4) (K 4 - S.2 7 q), C, B) 3 Q) ∧ (¬ r9 = (-1) → wp_X3_enter (K, u8, A, recJ J 2 n (K 4) (K 4 - S.2 7 q), C, B) 2 Q)))))) → wp_X3_endInnermost (K, S, A, J, C, B) Q := by
    intro Q hQ
    unfold wp_X3_endInnermost
    refine inn_class R.1.2.1 R.1.2.2 ?_
    rw [hi]
    refine ⟨fun _ => ⟨bo, ?_⟩, fun z => absurd z nne⟩
    rw [hq]
    exact record_class h.2.2.1.1.1.1 h.2.2.1.1.1.2 hQ
  have hen : ∀ Q : Ob → Prop, ((S.2 5 q = 0 → Q (si (sa S 4 (upd (S.2 4) q 0)) 10 (S.1 10 - 1))) ∧ (¬ S.2 5 q = 0 → Q (reqS (si (sa S 4 (upd (S.2 4) q 0)) 10 (S.1 10 - 1)) n (K 4)))) → wp_X5_endInnermost S (K 4) Q := by
    intro Q hQ
    unfold wp_X5_endInnermost
    refine inn_class R.1.2.1 R.1.2.2 ?_
    rw [hi, hq]
    refine ⟨fun _ => ⟨bo, fun T4 e4 T5 e5 => ?_⟩, fun z => absurd z nne⟩
    subst e4
    subst e5
    refine ⟨bo, fun z => hQ.1 z, fun z => request_class bo (hQ.2 z)⟩
  have hmo : ∀ Q : Mod → Prop, ((¬ S.2 5 q = 1 → ((¬ ((notM M (r 25) 2 n (r 25 - r (321 + q))).1 15) = 0 → wp_X8_turns nw (notM M (r 25) 2 n (r 25 - r (321 + q)), upd (upd r 30 (r 30 - 1)) (300 + q) 0) 3 0 Q) ∧ (((notM M (r 25) 2 n (r 25 - r (321 + q))).1 15) = 0 → wp_X8_nextOf_ nw (notM M (r 25) 2 n (r 25 - r (321 + q)), upd (upd r 30 (r 30 - 1)) (300 + q) 0) (fun r9 u8 => ((r9 < 0 → wp_X8_turns nw u8 3 0 Q) ∧ (¬ r9 < 0 → wp_X8_turns nw u8 2 0 Q)))))) ∧ (S.2 5 q = 1 → wp_X8_pends nw (notM M (r 25) 2 n (r 25 - r (321 + q)), upd (upd r 30 (r 30 - 1)) (300 + q) 0) n (fun u13 => ((¬ (u13.1.1 15) = 0 → wp_X8_turns nw u13 3 0 Q) ∧ ((u13.1.1 15) = 0 → wp_X8_nextOf_ nw u13 (fun r17 u16 => ((r17 < 0 → wp_X8_turns nw u16 3 0 Q) ∧ (¬ r17 < 0 → wp_X8_turns nw u16 2 0 Q)))))))) → mTail nw Q 18 x y (0 + (x &&& 7)) (0 + (y &&& 7)) M r := by
    intro Q hQ
    unfold mTail wp_X8_rules wp_X8_ends
    refine ⟨fun _ => ⟨fun _ => ⟨fun _ => ⟨fun _ => ⟨fun z => absurd z (by decide), fun _ => ⟨fun _ => ⟨fun _ => ⟨fun _ => ⟨fun _ => ⟨fun z => absurd rfl z, fun _ T1 e1 => ?_⟩, fun z => absurd z (by decide)⟩, fun z => absurd z (by decide)⟩, fun z => absurd z (by decide)⟩, fun z => absurd z (by decide)⟩⟩, fun z => absurd (by decide) z⟩, fun z => absurd z (by decide)⟩, fun z => absurd (by decide) z⟩, fun z => absurd z (by decide)⟩
    have e1 : T1 = upd r 30 (S.1 10 - 1) := by rw [e1]; show upd r 30 (r 30 - 1) = _; rw [e30]
    have t30 : T1 30 = S.1 10 - 1 := by rw [e1, up_eq]
    have tn : T1 (152 + e) = n := by rw [e1, up_ne (by omega), ← be]
    rw [t30, o152.2, tn]
    refine ⟨o152.1, fun x2 e2 => ?_⟩
    subst e2
    rw [o300.2]
    refine ⟨o300.1, fun T3 e3 => ?_⟩
    rw [e1, e30] at e3
    have e3 : T3 = upd (upd r 30 (r 30 - 1)) (300 + q) 0 := e3
    subst e3
    rw [o321.2, u25, u321]
    refine ⟨o321.1, ?_⟩
    refine notes_model h.2.2.2.2.2.2.2.2 (rJ_ev h.2.2.1) ?_
    dsimp only
    rw [u25, o215.2, u215]
    exact ⟨o215.1, hQ⟩
  by_cases c : S.2 5 q = 0
  · refine PAIR_w (ends_fin h2) (Int.le_refl _) (fun Q hQ => hcl _ (hen _ ⟨fun _ => hQ, fun z => absurd c z⟩)) (fun Q hQ => hmo Q ⟨fun _ => hQ, fun z => absurd (c.symm.trans z) (by decide)⟩)
  · have c1 := isB_ne b5 c
    have h3 := MID_req (k := n) h2 bo
    refine PAIR_w (ends_fin h3) (Int.le_refl _) (fun Q hQ => hcl _ (hen _ ⟨fun z => absurd z c, fun _ => hQ⟩)) (fun Q hQ => hmo Q ⟨fun z => absurd c1 z, fun _ => pends_model bo hQ⟩)
