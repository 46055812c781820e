/-! LAYER 2: instructions 9 to 13, 26, 28, 29 -/
theorem up_same (f : Nat → Int32) (k : Nat) : upd f k (f k) = f := by
  funext j
  by_cases c : j = k
  · subst c; rw [up_eq]
  · rw [up_ne c]
theorem dat_at {C : Ob} {r : Nat → Int32} (c0 : rC0 C r) (x : Int32) : okI (x &&& 15) 16 ∧ okI (40 + (x &&& 15)) 342 ∧ Int32.toNatClampNeg (40 + (x &&& 15)) = 40 + Int32.toNatClampNeg (x &&& 15) ∧ r (40 + Int32.toNatClampNeg (x &&& 15)) = C.2 3 (Int32.toNatClampNeg (x &&& 15)) ∧ Int32.toNatClampNeg (x &&& 15) < 16 := by
  have o := ok_15 x
  have o2 := ok_iff.mp o
  have e40 : (40 : Int32).toInt = 40 := rfl
  have of := off (a := 40) (k := x &&& 15) (by omega) (by omega) (by omega)
  have l : Int32.toNatClampNeg (x &&& 15) < 16 := by rw [i_nat]; omega
  exact ⟨o, of.1, of.2, (c0.2.2.1 _ l).symm, l⟩
theorem op_9 {W : Ob} {nw : Bool} {N T : Int} {K B r : Nat → Int32} {S A J C M : Ob} (x y : Int32) (h : MID W nw N T K S A J C B M r) (hs : (C.1 6).toInt < 96) : ∃ (C' : Ob) (M' : Ob) (r' : Nat → Int32), (∀ Q : Ob → Prop, Q C' → wp_X1_move C 9 x y Q) ∧ (∀ Q : Mod → Prop, Q (M', r') → mTail nw Q 9 x y (0 + (x &&& 7)) (0 + (y &&& 7)) M r) ∧ MID W nw N T K S A J C' B M' r' := by
  obtain ⟨c0, cb, -⟩ := h.2.2.2.1
  obtain ⟨o1, o2, o3, o4, o5⟩ := reg_at c0 x
  have e15 : C.1 6 = r 15 := c0.2.2.2.2.2.2.2.1
  have hsp := cb.2.2.2.1
  have l1 : (1 : Int32).toInt = 1 := rfl
  have l56 : (56 : Int32).toInt = 56 := rfl
  have l96 : (96 : Int32).toInt = 96 := rfl
  have o56 := off (a := 56) (k := C.1 6) (by omega) (by omega) (by omega)
  rw [show (56 : Int32).toNatClampNeg = 56 from rfl] at o56
  have h1 := MID_a (s := 4) (o := 56) (n := 96) (q := (C.1 6).toNatClampNeg) (v := C.2 1 (Int32.toNatClampNeg (x &&& 7))) h (by unfold rowC; omega) (by rw [i_nat]; omega) cb
  have ea : (C.1 6 + 1).toInt = (C.1 6).toInt + 1 := by rw [i_add (by omega) (by omega), l1]
  have h2 := MID_rise (b := 1) h1 (by show 0 ≤ (C.1 6 + 1).toInt ∧ (C.1 6 + 1).toInt ≤ 96; omega)
  refine ⟨_, _, _, fun Q hQ => ?_, fun Q hQ => ?_, h2⟩
  · unfold wp_X1_move wp_X1_push
    intro x1 f1
    refine ⟨fun _ => ⟨o1, fun _ => ⟨ok_iff.mpr (by show 0 ≤ (C.1 6).toInt ∧ (C.1 6).toInt < 96; omega), fun T2 e2 => ?_⟩, fun z => absurd (i_lt.mpr (by omega)) z⟩, fun z => absurd z (by decide), fun z => absurd z (by decide), fun z => absurd z (by decide), fun z => absurd z (by decide), fun z => absurd z (by decide), fun z => absurd z (by decide), fun z => absurd z (by decide), fun z => absurd rfl z⟩
    subst e2
    exact rise_class hQ
  · unfold mTail wp_X8_moves
    dsimp only
    rw [o3, o4, ← e15, o56.2]
    refine ⟨fun _ => ⟨fun _ => ⟨fun _ => ⟨fun z => absurd z (by decide), fun _ => ⟨fun z => absurd rfl z, fun _ => ⟨o2, o56.1, fun T16 e16 => ?_⟩⟩⟩, fun z => absurd z (by decide)⟩, fun z => absurd (by decide) z⟩, fun z => absurd z (by decide)⟩
    subst e16
    exact rises_model hQ
theorem op_10 {W : Ob} {nw : Bool} {N T : Int} {K B r : Nat → Int32} {S A J C M : Ob} (x y : Int32) (h : MID W nw N T K S A J C B M r) (hs : 1 ≤ (C.1 6).toInt) : ∃ (C' : Ob) (M' : Ob) (r' : Nat → Int32), (∀ Q : Ob → Prop, Q C' → wp_X1_move C 10 x y Q) ∧ (∀ Q : Mod → Prop, Q (M', r') → mTail nw Q 10 x y (0 + (x &&& 7)) (0 + (y &&& 7)) M r) ∧ MID W nw N T K S A J C' B M' r' := by
  obtain ⟨c0, cb, -⟩ := h.2.2.2.1
  obtain ⟨o1, o2, o3, o4, o5⟩ := reg_at c0 x
  have e15 : C.1 6 = r 15 := c0.2.2.2.2.2.2.2.1
  have hsp := cb.2.2.2.1
  have l1 : (1 : Int32).toInt = 1 := rfl
  have l56 : (56 : Int32).toInt = 56 := rfl
  have s1 : (C.1 6 - 1).toInt = (C.1 6).toInt - 1 := by rw [i_sub (by omega) (by omega), l1]
  have o56 := off (a := 56) (k := C.1 6 - 1) (by omega) (by omega) (by omega)
  rw [show (56 : Int32).toNatClampNeg = 56 from rfl] at o56
  have ev : C.2 4 (Int32.toNatClampNeg (C.1 6 - 1)) = r (56 + Int32.toNatClampNeg (C.1 6 - 1)) := c0.2.2.2.1 _ (by rw [i_nat]; omega)
  have h1 := MID_i (s := 6) (i := 15) (v := C.1 6 - 1) h (by unfold pairC; omega) ⟨cb.1, cb.2.1, cb.2.2.1, (show 0 ≤ (C.1 6 - 1).toInt ∧ (C.1 6 - 1).toInt ≤ 96 by omega), cb.2.2.2.2⟩
  have h2 := MID_a (s := 1) (o := 0) (n := 8) (q := Int32.toNatClampNeg (x &&& 7)) (v := C.2 4 (Int32.toNatClampNeg (C.1 6 - 1))) h1 (by unfold rowC; omega) o5 h1.2.2.2.1.2.1
  refine ⟨_, _, _, fun Q hQ => ?_, fun Q hQ => ?_, h2⟩
  · unfold wp_X1_move wp_X1_pop
    intro x1 f1
    refine ⟨fun z => absurd z (by decide), fun _ => ⟨fun _ T2 e2 => ?_, fun z => absurd (i_le.mpr (by omega)) z⟩, fun z => absurd z (by decide), fun z => absurd z (by decide), fun z => absurd z (by decide), fun z => absurd z (by decide), fun z => absurd z (by decide), fun z => absurd z (by decide), fun _ z => absurd rfl z⟩
    subst e2
    refine ⟨ok_iff.mpr (by show 0 ≤ (C.1 6 - 1).toInt ∧ (C.1 6 - 1).toInt < 96; omega), o1, fun T7 e7 => ?_⟩
    subst e7
    exact hQ
  · rw [Nat.zero_add] at hQ
    unfold mTail wp_X8_moves
    refine ⟨fun _ => ⟨fun _ => ⟨fun _ => ⟨fun z => absurd z (by decide), fun _ => ⟨fun _ => ⟨fun z => absurd rfl z, fun _ => fun T14 e14 => ?_⟩, fun z => absurd z (by decide)⟩⟩, fun z => absurd z (by decide)⟩, fun z => absurd (by decide) z⟩, fun z => absurd z (by decide)⟩
    dsimp only at e14
    rw [← e15] at e14
    have t15 : T14 15 = C.1 6 - 1 := by rw [e14, up_eq]
    rw [t15, o56.2, o3]
    refine ⟨o56.1, o2, fun T15 f15 => ?_⟩
    have tv : T14 (56 + Int32.toNatClampNeg (C.1 6 - 1)) = C.2 4 (Int32.toNatClampNeg (C.1 6 - 1)) := by rw [e14, up_ne (by omega), ev]
    rw [tv] at f15
    subst f15
    subst e14
    exact hQ
theorem jmp_eq {x y : Int32} (x0 : 0 ≤ x.toInt) (x1 : x.toInt < 256) (y0 : 0 ≤ y.toInt) (y1 : y.toInt < 256) : ((256 * x) + y) &&& 511 = ((256 * x) + y) - ((256 * x) + y) / 512 * 512 := by
  have l : (256 : Int32).toInt = 256 := rfl
  have m : (256 * x).toInt = 256 * x.toInt := by rw [i_mul (by rw [l]; omega) (by rw [l]; omega), l]
  exact idx_eq (by rw [i_add (by omega) (by omega)]; omega)
theorem jmp_rng (x y : Int32) : 0 ≤ (((256 * x) + y) &&& 511).toInt ∧ (((256 * x) + y) &&& 511).toInt < 512 := by
  rw [mask_511]
  omega
theorem op_11 {W : Ob} {nw : Bool} {N T : Int} {K B r : Nat → Int32} {S A J C M : Ob} (x y : Int32) (h : MID W nw N T K S A J C B M r) (x0 : 0 ≤ x.toInt) (x1 : x.toInt < 256) (y0 : 0 ≤ y.toInt) (y1 : y.toInt < 256) : ∃ (C' : Ob) (M' : Ob) (r' : Nat → Int32), (∀ Q : Ob → Prop, Q C' → wp_X1_move C 11 x y Q) ∧ (∀ Q : Mod → Prop, Q (M', r') → mTail nw Q 11 x y (0 + (x &&& 7)) (0 + (y &&& 7)) M r) ∧ MID W nw N T K S A J C' B M' r' := by
  obtain ⟨c0, cb, -⟩ := h.2.2.2.1
  have h1 := MID_i (s := 5) (i := 12) (v := ((256 * x) + y) &&& 511) h (by unfold pairC; omega) ⟨jmp_rng x y, cb.2⟩
  refine ⟨_, _, _, fun Q hQ => ?_, fun Q hQ => ?_, h1⟩
  · unfold wp_X1_move
    intro x1 f1
    subst f1
    refine ⟨fun z => absurd z (by decide), fun z => absurd z (by decide), fun _ => fun T8 e8 => ?_, fun z => absurd z (by decide), fun z => absurd z (by decide), fun z => absurd z (by decide), fun z => absurd z (by decide), fun z => absurd z (by decide), fun _ _ z => absurd rfl z⟩
    subst e8
    exact hQ
  · rw [jmp_eq x0 x1 y0 y1] at hQ
    unfold mTail wp_X8_moves
    refine ⟨fun _ => ⟨fun _ => ⟨fun _ => ⟨fun z => absurd z (by decide), fun _ => ⟨fun _ => ⟨fun _ => ⟨fun _ => fun T8 e8 => ?_, fun z => absurd rfl z⟩, fun z => absurd z (by decide)⟩, fun z => absurd z (by decide)⟩⟩, fun z => absurd z (by decide)⟩, fun z => absurd (by decide) z⟩, fun z => absurd z (by decide)⟩
    subst e8
    exact hQ
theorem op_12 {W : Ob} {nw : Bool} {N T : Int} {K B r : Nat → Int32} {S A J C M : Ob} (x y : Int32) (h : MID W nw N T K S A J C B M r) (x0 : 0 ≤ x.toInt) (x1 : x.toInt < 256) (y0 : 0 ≤ y.toInt) (y1 : y.toInt < 256) : ∃ (C' : Ob) (M' : Ob) (r' : Nat → Int32), (∀ Q : Ob → Prop, Q C' → wp_X1_move C 12 x y Q) ∧ (∀ Q : Mod → Prop, Q (M', r') → mTail nw Q 12 x y (0 + (x &&& 7)) (0 + (y &&& 7)) M r) ∧ MID W nw N T K S A J C' B M' r' := by
  obtain ⟨c0, cb, -⟩ := h.2.2.2.1
  have e12 : C.1 5 = r 12 := c0.2.2.2.2.1
  have ec : C.1 8 = r 13 := c0.2.2.2.2.2.1
  by_cases d : C.1 8 = 1
  · have dm : r 13 = 1 := by rw [← ec]; exact d
    have h1 := MID_i (s := 5) (i := 12) (v := ((256 * x) + y) &&& 511) h (by unfold pairC; omega) ⟨jmp_rng x y, cb.2⟩
    refine ⟨_, _, _, fun Q hQ => ?_, fun Q hQ => ?_, h1⟩
    · unfold wp_X1_move
      intro x1 f1
      subst f1
      refine ⟨fun z => absurd z (by decide), fun z => absurd z (by decide), fun z => absurd z (by decide), fun _ => ⟨fun z => absurd d z, fun _ T10 e10 => ?_⟩, fun z => absurd z (by decide), fun z => absurd z (by decide), fun z => absurd z (by decide), fun z => absurd z (by decide), fun _ _ _ z => absurd rfl z⟩
      subst e10
      exact hQ
    · rw [jmp_eq x0 x1 y0 y1] at hQ
      unfold mTail wp_X8_moves
      refine ⟨fun _ => ⟨fun _ => ⟨fun _ => ⟨fun z => absurd z (by decide), fun _ => ⟨fun _ => ⟨fun _ => ⟨fun z => absurd z (by decide), fun _ => ⟨fun z => absurd rfl z, fun _ => ⟨fun _ T10 e10 => ?_, fun z => absurd dm z⟩⟩⟩, fun z => absurd z (by decide)⟩, fun z => absurd z (by decide)⟩⟩, fun z => absurd z (by decide)⟩, fun z => absurd (by decide) z⟩, fun z => absurd z (by decide)⟩
      subst e10
      exact hQ
  · have dm : ¬ r 13 = 1 := by rw [← ec]; exact d
    have h1 := MID_i (s := 5) (i := 12) (v := C.1 5) h (by unfold pairC; omega) cb
    rw [show upd r 12 (C.1 5) = r by rw [e12]; exact up_same r 12] at h1
    refine ⟨_, _, _, fun Q hQ => ?_, fun Q hQ => ?_, h1⟩
    · unfold wp_X1_move
      intro x1 f1
      subst f1
      refine ⟨fun z => absurd z (by decide), fun z => absurd z (by decide), fun z => absurd z (by decide), fun _ => ⟨fun _ T10 e10 => ?_, fun z => absurd z d⟩, fun z => absurd z (by decide), fun z => absurd z (by decide), fun z => absurd z (by decide), fun z => absurd z (by decide), fun _ _ _ z => absurd rfl z⟩
      subst e10
      exact hQ
    · unfold mTail wp_X8_moves
      exact ⟨fun _ => ⟨fun _ => ⟨fun _ => ⟨fun z => absurd z (by decide), fun _ => ⟨fun _ => ⟨fun _ => ⟨fun z => absurd z (by decide), fun _ => ⟨fun z => absurd rfl z, fun _ => ⟨fun z => absurd z dm, fun _ => ⟨fun _ => hQ, fun z => absurd z (by decide)⟩⟩⟩⟩, fun z => absurd z (by decide)⟩, fun z => absurd z (by decide)⟩⟩, fun z => absurd z (by decide)⟩, fun z => absurd (by decide) z⟩, fun z => absurd z (by decide)⟩
theorem op_13 {W : Ob} {nw : Bool} {N T : Int} {K B r : Nat → Int32} {S A J C M : Ob} (x y : Int32) (h : MID W nw N T K S A J C B M r) (x0 : 0 ≤ x.toInt) (x1 : x.toInt < 256) (y0 : 0 ≤ y.toInt) (y1 : y.toInt < 256) : ∃ (C' : Ob) (M' : Ob) (r' : Nat → Int32), (∀ Q : Ob → Prop, Q C' → wp_X1_move C 13 x y Q) ∧ (∀ Q : Mod → Prop, Q (M', r') → mTail nw Q 13 x y (0 + (x &&& 7)) (0 + (y &&& 7)) M r) ∧ MID W nw N T K S A J C' B M' r' := by
  obtain ⟨c0, cb, -⟩ := h.2.2.2.1
  have e12 : C.1 5 = r 12 := c0.2.2.2.2.1
  have ec : C.1 9 = r 14 := c0.2.2.2.2.2.2.1
  by_cases d : C.1 9 = 1
  · have dm : r 14 = 1 := by rw [← ec]; exact d
    have h1 := MID_i (s := 5) (i := 12) (v := ((256 * x) + y) &&& 511) h (by unfold pairC; omega) ⟨jmp_rng x y, cb.2⟩
    refine ⟨_, _, _, fun Q hQ => ?_, fun Q hQ => ?_, h1⟩
    · unfold wp_X1_move
      intro x1 f1
      subst f1
      refine ⟨fun z => absurd z (by decide), fun z => absurd z (by decide), fun z => absurd z (by decide), fun z => absurd z (by decide), fun _ => ⟨fun z => absurd d z, fun _ T10 e10 => ?_⟩, fun z => absurd z (by decide), fun z => absurd z (by decide), fun z => absurd z (by decide), fun _ _ _ _ z => absurd rfl z⟩
      subst e10
      exact hQ
    · rw [jmp_eq x0 x1 y0 y1] at hQ
      unfold mTail wp_X8_moves
      refine ⟨fun _ => ⟨fun _ => ⟨fun _ => ⟨fun z => absurd z (by decide), fun _ => ⟨fun _ => ⟨fun _ => ⟨fun z => absurd z (by decide), fun _ => ⟨fun _ => ⟨fun z => absurd rfl z, fun _ => ⟨fun z => absurd dm z, fun _ T10 e10 => ?_⟩⟩, fun z => absurd z (by decide)⟩⟩, fun z => absurd z (by decide)⟩, fun z => absurd z (by decide)⟩⟩, fun z => absurd z (by decide)⟩, fun z => absurd (by decide) z⟩, fun z => absurd z (by decide)⟩
      subst e10
      exact hQ
  · have dm : ¬ r 14 = 1 := by rw [← ec]; exact d
    have h1 := MID_i (s := 5) (i := 12) (v := C.1 5) h (by unfold pairC; omega) cb
    rw [show upd r 12 (C.1 5) = r by rw [e12]; exact up_same r 12] at h1
    refine ⟨_, _, _, fun Q hQ => ?_, fun Q hQ => ?_, h1⟩
    · unfold wp_X1_move
      intro x1 f1
      subst f1
      refine ⟨fun z => absurd z (by decide), fun z => absurd z (by decide), fun z => absurd z (by decide), fun z => absurd z (by decide), fun _ => ⟨fun _ T10 e10 => ?_, fun z => absurd z d⟩, fun z => absurd z (by decide), fun z => absurd z (by decide), fun z => absurd z (by decide), fun _ _ _ _ z => absurd rfl z⟩
      subst e10
      exact hQ
    · unfold mTail wp_X8_moves
      exact ⟨fun _ => ⟨fun _ => ⟨fun _ => ⟨fun z => absurd z (by decide), fun _ => ⟨fun _ => ⟨fun _ => ⟨fun z => absurd z (by decide), fun _ => ⟨fun _ => ⟨fun z => absurd rfl z, fun _ => ⟨fun _ => hQ, fun z => absurd z dm⟩⟩, fun z => absurd z (by decide)⟩⟩, fun z => absurd z (by decide)⟩, fun z => absurd z (by decide)⟩⟩, fun z => absurd z (by decide)⟩, fun z => absurd (by decide) z⟩, fun z => absurd z (by decide)⟩
theorem op_26 {W : Ob} {nw : Bool} {N T : Int} {K B r : Nat → Int32} {S A J C M : Ob} (x y : Int32) (h : MID W nw N T K S A J C B M r) (hs : 2 ≤ (C.1 6).toInt) : ∃ (C' : Ob) (M' : Ob) (r' : Nat → Int32), (∀ Q : Ob → Prop, Q C' → wp_X1_move C 26 x y Q) ∧ (∀ Q : Mod → Prop, Q (M', r') → mTail nw Q 26 x y (0 + (x &&& 7)) (0 + (y &&& 7)) M r) ∧ MID W nw N T K S A J C' B M' r' := by
  obtain ⟨c0, cb, -⟩ := h.2.2.2.1
  have e15 : C.1 6 = r 15 := c0.2.2.2.2.2.2.2.1
  have hsp := cb.2.2.2.1
  have l2 : (2 : Int32).toInt = 2 := rfl
  have l56 : (56 : Int32).toInt = 56 := rfl
  have s2 : (C.1 6 - 2).toInt = (C.1 6).toInt - 2 := by rw [i_sub (by omega) (by omega), l2]
  have a56 : (56 + C.1 6).toInt = 56 + (C.1 6).toInt := by rw [i_add (by omega) (by omega), l56]
  have b56 : (56 + C.1 6 - 2).toInt = 54 + (C.1 6).toInt := by rw [i_sub (by omega) (by omega), a56, l2]; omega
  obtain ⟨o1, v1⟩ := cell_at (d := 2) c0 hsp.2 (by omega) (by omega)
  have en : Int32.toNatClampNeg (56 + C.1 6 - 2) = 56 + Int32.toNatClampNeg (C.1 6 - 2) := by rw [i_nat, i_nat, b56, s2]; omega
  have h1 := MID_a (s := 4) (o := 56) (n := 96) (q := Int32.toNatClampNeg (C.1 6 - 2)) (v := (C.2 4 (Int32.toNatClampNeg (C.1 6 - 2)) + x) &&& 511) h (by unfold rowC; omega) (by rw [i_nat]; omega) cb
  refine ⟨_, _, _, fun Q hQ => ?_, fun Q hQ => ?_, h1⟩
  · unfold wp_X1_move wp_X1_shiftReturn
    intro x1 f1
    have ok : okI (C.1 6 - 2) 96 := ok_iff.mpr (by omega)
    refine ⟨fun z => absurd z (by decide), fun z => absurd z (by decide), fun z => absurd z (by decide), fun z => absurd z (by decide), fun z => absurd z (by decide), fun _ => ⟨fun z => absurd z (by rw [i_lt]; omega), fun _ => ⟨ok, ok, fun T2 e2 => ?_⟩⟩, fun z => absurd z (by decide), fun z => absurd z (by decide), fun _ _ _ _ _ z => absurd rfl z⟩
    subst e2
    exact hQ
  · unfold mTail wp_X8_mod
    rw [← e15, v1]
    have ev : (((C.2 4 (Int32.toNatClampNeg (C.1 6 - 2)) + x) - (C.2 4 (Int32.toNatClampNeg (C.1 6 - 2)) + x) / 512 * 512) + 512) - (((C.2 4 (Int32.toNatClampNeg (C.1 6 - 2)) + x) - (C.2 4 (Int32.toNatClampNeg (C.1 6 - 2)) + x) / 512 * 512) + 512) / 512 * 512 = (C.2 4 (Int32.toNatClampNeg (C.1 6 - 2)) + x) &&& 511 := i_eq.mpr (by rw [mod_512, mask_511])
    rw [ev]
    refine ⟨fun _ => ⟨fun _ => ⟨fun _ => ⟨fun _ => ⟨fun _ => ⟨fun _ => ⟨fun _ => ⟨fun z => absurd rfl z, fun _ => ⟨o1, by decide, by decide, o1, fun T35 e35 => ?_⟩⟩, fun z => absurd z (by decide)⟩, fun z => absurd (by decide) z⟩, fun z => absurd (by decide) z⟩, fun z => absurd (by decide) z⟩, fun z => absurd z (by decide)⟩, fun z => absurd (by decide) z⟩, fun z => absurd z (by decide)⟩
    rw [en] at e35
    subst e35
    exact hQ
theorem op_28 {W : Ob} {nw : Bool} {N T : Int} {K B r : Nat → Int32} {S A J C M : Ob} (x y : Int32) (h : MID W nw N T K S A J C B M r) : ∃ (C' : Ob) (M' : Ob) (r' : Nat → Int32), (∀ Q : Ob → Prop, Q C' → wp_X1_move C 28 x y Q) ∧ (∀ Q : Mod → Prop, Q (M', r') → mTail nw Q 28 x y (0 + (x &&& 7)) (0 + (y &&& 7)) M r) ∧ MID W nw N T K S A J C' B M' r' := by
  obtain ⟨c0, cb, -⟩ := h.2.2.2.1
  obtain ⟨o1, o2, o3, o4, o5⟩ := reg_at c0 x
  obtain ⟨w1, w2, w3, w4, w5⟩ := dat_at c0 y
  have h1 := MID_a (s := 1) (o := 0) (n := 8) (q := Int32.toNatClampNeg (x &&& 7)) (v := C.2 3 (Int32.toNatClampNeg (y &&& 15))) h (by unfold rowC; omega) o5 cb
  refine ⟨_, _, _, fun Q hQ => ?_, fun Q hQ => ?_, h1⟩
  · unfold wp_X1_move
    intro x1 f1
    refine ⟨fun z => absurd z (by decide), fun z => absurd z (by decide), fun z => absurd z (by decide), fun z => absurd z (by decide), fun z => absurd z (by decide), fun z => absurd z (by decide), fun _ => ⟨w1, o1, fun T16 e16 => ?_⟩, fun z => absurd z (by decide), fun _ _ _ _ _ _ z => absurd rfl z⟩
    subst e16
    exact hQ
  · rw [Nat.zero_add] at hQ
    unfold mTail
    rw [o3, w3, w4]
    refine ⟨fun _ => ⟨fun _ => ⟨fun _ => ⟨fun _ => ⟨fun _ => ⟨fun _ => ⟨fun _ => ⟨fun _ => ⟨fun _ => ⟨fun z => absurd rfl z, fun _ => ⟨w2, o2, fun T31 e31 => ?_⟩⟩, fun z => absurd z (by decide)⟩, fun z => absurd z (by decide)⟩, fun z => absurd z (by decide)⟩, fun z => absurd (by decide) z⟩, fun z => absurd (by decide) z⟩, fun z => absurd (by decide) z⟩, fun z => absurd z (by decide)⟩, fun z => absurd (by decide) z⟩, fun z => absurd z (by decide)⟩
    subst e31
    exact hQ
theorem op_29 {W : Ob} {nw : Bool} {N T : Int} {K B r : Nat → Int32} {S A J C M : Ob} (x y : Int32) (h : MID W nw N T K S A J C B M r) : ∃ (C' : Ob) (M' : Ob) (r' : Nat → Int32), (∀ Q : Ob → Prop, Q C' → wp_X1_move C 29 x y Q) ∧ (∀ Q : Mod → Prop, Q (M', r') → mTail nw Q 29 x y (0 + (x &&& 7)) (0 + (y &&& 7)) M r) ∧ MID W nw N T K S A J C' B M' r' := by
  obtain ⟨c0, cb, -⟩ := h.2.2.2.1
  obtain ⟨o1, o2, o3, o4, o5⟩ := reg_at c0 x
  obtain ⟨w1, w2, w3, w4, w5⟩ := dat_at c0 y
  have h1 := MID_a (s := 3) (o := 40) (n := 16) (q := Int32.toNatClampNeg (y &&& 15)) (v := C.2 1 (Int32.toNatClampNeg (x &&& 7))) h (by unfold rowC; omega) w5 cb
  refine ⟨_, _, _, fun Q hQ => ?_, fun Q hQ => ?_, h1⟩
  · unfold wp_X1_move
    intro x1 f1
    refine ⟨fun z => absurd z (by decide), fun z => absurd z (by decide), fun z => absurd z (by decide), fun z => absurd z (by decide), fun z => absurd z (by decide), fun z => absurd z (by decide), fun z => absurd z (by decide), fun _ => ⟨o1, w1, fun T16 e16 => ?_⟩, fun _ _ _ _ _ _ _ z => absurd rfl z⟩
    subst e16
    exact hQ
  · unfold mTail
    rw [o3, o4, w3]
    refine ⟨fun _ => ⟨fun _ => ⟨fun _ => ⟨fun _ => ⟨fun _ => ⟨fun _ => ⟨fun _ => ⟨fun _ => ⟨fun _ => ⟨fun _ => ⟨o2, w2, fun T31 e31 => ?_⟩, fun z => absurd z (by decide)⟩, fun z => absurd z (by decide)⟩, fun z => absurd z (by decide)⟩, fun z => absurd z (by decide)⟩, fun z => absurd (by decide) z⟩, fun z => absurd (by decide) z⟩, fun z => absurd (by decide) z⟩, fun z => absurd z (by decide)⟩, fun z => absurd (by decide) z⟩, fun z => absurd z (by decide)⟩
    subst e31
    exact hQ
