/-! LAYER 2: reg, word, data, out, event -/
def FACEX (X : TR7) (M : Ob) (wc : (Int32 → TR7 → Prop) → (TR7 → Prop) → Prop) (wm : (Int32 → Ob → Prop) → Prop) : Prop := (∃ v : Int32, (∀ (Q : Int32 → TR7 → Prop) (Qx : TR7 → Prop), Q v X → wc Q Qx) ∧ (∀ Q : Int32 → Ob → Prop, Q v (si M 17 0) → wm Q)) ∨ ((∀ (Q : Int32 → TR7 → Prop) (Qx : TR7 → Prop), Qx X → wc Q Qx) ∧ (∀ Q : Int32 → Ob → Prop, Q 0 (si M 17 1) → wm Q))
theorem call_word {N T : Int} {B K K2 : Nat → Int32} {S A J C S2 A2 J2 C2 Y M : Ob} (h : REL N T B K S A J C J2 M) (p : Int32) : FACEX (B, K, S, A, J, C, K2, S2, A2, J2, C2, Y) M (fun Q Qx => wp_X7_word (B, K, S, A, J, C, K2, S2, A2, J2, C2, Y) p Q Qx) (fun Q => wp_X8_word M p Q) := by
  obtain ⟨hS, hA, hJ, hC, hB, hK, hp, hP, hJ2⟩ := id h
  have l0 : (0 : Int32).toInt = 0 := rfl
  have l95 : (95 : Int32).toInt = 95 := rfl
  have l96 : (96 : Int32).toInt = 96 := rfl
  by_cases c : 0 ≤ p.toInt ∧ p.toInt < 96
  · obtain ⟨o1, o2⟩ := at_off (r := M.2 4) (o := 56) (n := 56) (m := 96) (p := p) c.1 c.2 rfl (by omega)
    refine Or.inl ⟨C.2 4 p.toNatClampNeg, fun Q Qx hQ => ?_, fun Q hQ => ?_⟩
    · unfold wp_X7_word
      refine b_isBelow ?_
      rw [if_pos (by omega)]
      exact ⟨fun _ => ⟨ok_iff.mpr c, hQ⟩, fun z => absurd z (by decide)⟩
    · unfold wp_X8_word
      refine b_within ?_
      rw [if_pos (by omega)]
      refine ⟨fun z => absurd z (by decide), fun _ T6 e6 => ?_⟩
      subst e6
      refine ⟨fun _ => ⟨o1, ?_⟩, fun z => absurd z (by show ¬ (0 : Int32) = 1; decide)⟩
      rw [hC.1.2.2.2.1 p.toNatClampNeg (by rw [i_nat]; omega), ← o2] at hQ
      exact hQ
  · refine Or.inr ⟨fun Q Qx hQ => ?_, fun Q hQ => ?_⟩
    · unfold wp_X7_word
      refine b_isBelow ?_
      rw [if_neg (by omega)]
      exact ⟨fun z => absurd rfl z, fun _ => hQ⟩
    · unfold wp_X8_word
      refine b_within ?_
      rw [if_neg (by omega)]
      refine ⟨fun _ T4 e4 => ?_, fun z => absurd rfl z⟩
      subst e4
      exact ⟨fun z => absurd rfl z, fun _ => hQ⟩
theorem call_data {N T : Int} {B K K2 : Nat → Int32} {S A J C S2 A2 J2 C2 Y M : Ob} (h : REL N T B K S A J C J2 M) (p : Int32) : FACEX (B, K, S, A, J, C, K2, S2, A2, J2, C2, Y) M (fun Q Qx => wp_X7_data (B, K, S, A, J, C, K2, S2, A2, J2, C2, Y) p Q Qx) (fun Q => wp_X8_data M p Q) := by
  obtain ⟨hS, hA, hJ, hC, hB, hK, hp, hP, hJ2⟩ := id h
  have l0 : (0 : Int32).toInt = 0 := rfl
  have l15 : (15 : Int32).toInt = 15 := rfl
  have l16 : (16 : Int32).toInt = 16 := rfl
  by_cases c : 0 ≤ p.toInt ∧ p.toInt < 16
  · obtain ⟨o1, o2⟩ := at_off (r := M.2 4) (o := 40) (n := 40) (m := 16) (p := p) c.1 c.2 rfl (by omega)
    refine Or.inl ⟨C.2 3 p.toNatClampNeg, fun Q Qx hQ => ?_, fun Q hQ => ?_⟩
    · unfold wp_X7_data
      refine b_isBelow ?_
      rw [if_pos (by omega)]
      exact ⟨fun _ => ⟨ok_iff.mpr c, hQ⟩, fun z => absurd z (by decide)⟩
    · unfold wp_X8_data
      refine b_within ?_
      rw [if_pos (by omega)]
      refine ⟨fun z => absurd z (by decide), fun _ T6 e6 => ?_⟩
      subst e6
      refine ⟨fun _ => ⟨o1, ?_⟩, fun z => absurd z (by show ¬ (0 : Int32) = 1; decide)⟩
      rw [hC.1.2.2.1 p.toNatClampNeg (by rw [i_nat]; omega), ← o2] at hQ
      exact hQ
  · refine Or.inr ⟨fun Q Qx hQ => ?_, fun Q hQ => ?_⟩
    · unfold wp_X7_data
      refine b_isBelow ?_
      rw [if_neg (by omega)]
      exact ⟨fun z => absurd rfl z, fun _ => hQ⟩
    · unfold wp_X8_data
      refine b_within ?_
      rw [if_neg (by omega)]
      refine ⟨fun _ T4 e4 => ?_, fun z => absurd rfl z⟩
      subst e4
      exact ⟨fun z => absurd rfl z, fun _ => hQ⟩
theorem call_reg {N T : Int} {B K K2 : Nat → Int32} {S A J C S2 A2 J2 C2 Y M : Ob} (h : REL N T B K S A J C J2 M) (p : Int32) : FACEX (B, K, S, A, J, C, K2, S2, A2, J2, C2, Y) M (fun Q Qx => wp_X7_reg (B, K, S, A, J, C, K2, S2, A2, J2, C2, Y) p Q Qx) (fun Q => wp_X8_reg M p Q) := by
  obtain ⟨hS, hA, hJ, hC, hB, hK, hp, hP, hJ2⟩ := id h
  have l0 : (0 : Int32).toInt = 0 := rfl
  have l8 : (8 : Int32).toInt = 8 := rfl
  have l11 : (11 : Int32).toInt = 11 := rfl
  have l12 : (12 : Int32).toInt = 12 := rfl
  by_cases c : 0 ≤ p.toInt ∧ p.toInt < 12
  · obtain ⟨o1, o2⟩ := at_off (r := M.2 4) (o := 0) (n := 0) (m := 12) (p := p) c.1 c.2 rfl (by omega)
    rw [Nat.zero_add] at o2
    have hmo : ∀ Q : Int32 → Ob → Prop, Q (M.2 4 p.toNatClampNeg) (si M 17 0) → wp_X8_reg M p Q := by
      intro Q hQ
      unfold wp_X8_reg
      refine b_within ?_
      rw [if_pos (by omega)]
      refine ⟨fun z => absurd z (by decide), fun _ T6 e6 => ?_⟩
      subst e6
      refine ⟨fun _ => ⟨o1, ?_⟩, fun z => absurd z (by show ¬ (0 : Int32) = 1; decide)⟩
      rw [← o2] at hQ
      exact hQ
    refine Or.inl ⟨M.2 4 p.toNatClampNeg, fun Q Qx hQ => ?_, hmo⟩
    unfold wp_X7_reg
    refine b_isBelow ?_
    rw [if_pos (by omega)]
    refine ⟨fun _ => ⟨fun d => ?_, fun d => ?_⟩, fun z => absurd z (by decide)⟩
    · rw [i_le] at d
      have s8 : (p - 8).toInt = p.toInt - 8 := by rw [i_sub (by omega) (by omega), l8]
      refine ⟨ok_iff.mpr (by omega), ?_⟩
      have e := hC.1.2.1 (Int32.toNatClampNeg (p - 8)) (by rw [i_nat]; omega)
      rw [show p.toNatClampNeg = 8 + Int32.toNatClampNeg (p - 8) by rw [i_nat, i_nat, s8]; omega, ← e] at hQ
      exact hQ
    · rw [i_le] at d
      refine ⟨ok_iff.mpr (by omega), ?_⟩
      rw [← hC.1.1 p.toNatClampNeg (by rw [i_nat]; omega)] at hQ
      exact hQ
  · refine Or.inr ⟨fun Q Qx hQ => ?_, fun Q hQ => ?_⟩
    · unfold wp_X7_reg
      refine b_isBelow ?_
      rw [if_neg (by omega)]
      exact ⟨fun z => absurd rfl z, fun _ => hQ⟩
    · unfold wp_X8_reg
      refine b_within ?_
      rw [if_neg (by omega)]
      refine ⟨fun _ T4 e4 => ?_, fun z => absurd rfl z⟩
      subst e4
      exact ⟨fun z => absurd rfl z, fun _ => hQ⟩
theorem call_out {N T : Int} {B K K2 : Nat → Int32} {S A J C S2 A2 J2 C2 Y M : Ob} (h : REL N T B K S A J C J2 M) (p : Int32) : FACEX (B, K, S, A, J, C, K2, S2, A2, J2, C2, Y) M (fun Q Qx => wp_X7_out (B, K, S, A, J, C, K2, S2, A2, J2, C2, Y) p Q Qx) (fun Q => wp_X8_out M p Q) := by
  obtain ⟨hS, hA, hJ, hC, hB, hK, hp, hP, hJ2⟩ := id h
  have l0 : (0 : Int32).toInt = 0 := rfl
  have l63 : (63 : Int32).toInt = 63 := rfl
  have l64 : (64 : Int32).toInt = 64 := rfl
  obtain ⟨e15, ht⟩ := (hJ.2 rfl).2.1
  by_cases c : 0 ≤ p.toInt ∧ p.toInt < 64
  · by_cases d : p < J.1 4
    · have dm : ¬ M.2 6 15 ≤ p := by rw [← e15, i_le]; rw [i_lt] at d; omega
      rw [i_lt] at d
      refine Or.inl ⟨J.2 0 p.toNatClampNeg, fun Q Qx hQ => ?_, fun Q hQ => ?_⟩
      · unfold wp_X7_out
        refine b_isBelow ?_
        rw [if_pos (by omega)]
        exact ⟨fun z => absurd z (by decide), fun _ => ⟨fun _ => ⟨ok_iff.mpr c, hQ⟩, fun z => absurd (i_lt.mpr d) z⟩⟩
      · unfold wp_X8_out
        refine b_within ?_
        rw [if_pos (by omega)]
        refine ⟨fun z => absurd z (by decide), fun _ => ⟨fun z => absurd z dm, fun _ T9 e9 => ?_⟩⟩
        subst e9
        refine ⟨fun _ => ⟨ok_iff.mpr c, ?_⟩, fun z => absurd z (by show ¬ (0 : Int32) = 1; decide)⟩
        rw [ht p.toNatClampNeg (by rw [i_nat]; omega) (by rw [i_nat]; omega)] at hQ
        exact hQ
    · have dm : M.2 6 15 ≤ p := by rw [← e15, i_le]; rw [i_lt] at d; omega
      refine Or.inr ⟨fun Q Qx hQ => ?_, fun Q hQ => ?_⟩
      · unfold wp_X7_out
        refine b_isBelow ?_
        rw [if_pos (by omega)]
        exact ⟨fun z => absurd z (by decide), fun _ => ⟨fun z => absurd z d, fun _ => hQ⟩⟩
      · unfold wp_X8_out
        refine b_within ?_
        rw [if_pos (by omega)]
        refine ⟨fun z => absurd z (by decide), fun _ => ⟨fun _ T7 e7 => ?_, fun z => absurd dm z⟩⟩
        subst e7
        exact ⟨fun z => absurd rfl z, fun _ => hQ⟩
  · refine Or.inr ⟨fun Q Qx hQ => ?_, fun Q hQ => ?_⟩
    · unfold wp_X7_out
      refine b_isBelow ?_
      rw [if_neg (by omega)]
      exact ⟨fun _ => hQ, fun z => absurd rfl z⟩
    · unfold wp_X8_out
      refine b_within ?_
      rw [if_neg (by omega)]
      refine ⟨fun _ T4 e4 => ?_, fun z => absurd rfl z⟩
      subst e4
      exact ⟨fun z => absurd rfl z, fun _ => hQ⟩
theorem call_event {N T : Int} {B K K2 : Nat → Int32} {S A J C S2 A2 J2 C2 Y M : Ob} (h : REL N T B K S A J C J2 M) (p : Int32) (w : Int32) : FACEX (B, K, S, A, J, C, K2, S2, A2, J2, C2, Y) M (fun Q Qx => wp_X7_event (B, K, S, A, J, C, K2, S2, A2, J2, C2, Y) p w Q Qx) (fun Q => wp_X8_event M p w Q) := by
  obtain ⟨hS, hA, hJ, hC, hB, hK, hp, hP, hJ2⟩ := id h
  have l0 : (0 : Int32).toInt = 0 := rfl
  have l1 : (1 : Int32).toInt = 1 := rfl
  have l3 : (3 : Int32).toInt = 3 := rfl
  have l4 : (4 : Int32).toInt = 4 := rfl
  have l24 : (24 : Int32).toInt = 24 := rfl
  obtain ⟨e, e1, e2, e3, e4, e5⟩ := (hJ.2 rfl).2.2
  have eT : (e : Int) < 2000000000 ∨ 2000000000 ≤ (e : Int) := by omega
  have eh := i_hi (M.1 11)
  -- the reference's head
  have hev : ∀ (Q : Int32 → Ob → Prop), (∀ z0 : Int32, z0.toInt = ((min e 24 : Nat) : Int) → wp_X8_event_L18 Q p w z0 M) → wp_X8_event M p w Q := by
    intro Q hQ
    unfold wp_X8_event
    refine ⟨fun z => hQ 24 ?_, fun z => hQ (M.1 11) ?_⟩
    · rw [i_le] at z; omega
    · rw [i_le] at z; omega
  have thr : ∀ (Q : Int32 → Ob → Prop), Q 0 (si M 17 1) → wp_X8_event_L44 Q p w M := by
    intro Q hQ
    unfold wp_X8_event_L44
    intro T14 f14
    subst f14
    exact ⟨fun z => absurd rfl z, fun _ => hQ⟩
  by_cases c : 0 ≤ p.toInt ∧ p.toInt < (J.1 2).toInt
  · by_cases d : 0 ≤ w.toInt ∧ w.toInt < 4
    · obtain ⟨i, hi⟩ : ∃ i : Nat, p.toInt = (i : Int) := ⟨p.toInt.toNat, by omega⟩
      obtain ⟨j, hj⟩ : ∃ j : Nat, e = j + 1 + i := ⟨e - 1 - i, by omega⟩
      obtain ⟨g1, g2, g3, g4⟩ := e5 j (by omega) (by omega)
      -- the class's place
      have a : (J.1 3 - p).toInt = (J.1 3).toInt - i := by rw [i_sub (by omega) (by omega), hi]
      obtain ⟨wn, hw⟩ : ∃ wn : Nat, w.toInt = (wn : Int) := ⟨w.toInt.toNat, by omega⟩
      have hcl : ∀ (Q : Int32 → Ob → Prop), Q (J.2 1 ((j + 1) % 24 * 4 + wn)) J → wp_X2_fieldOf J p w Q := by
        intro Q hQ
        unfold wp_X2_fieldOf
        intro x1 f1
        subst f1
        refine ⟨fun z => ?_, fun z => ?_⟩
        · rw [i_le, a] at z
          have m : ((J.1 3 - p) * 4).toInt = ((J.1 3).toInt - i) * 4 := by rw [i_mul (by rw [a, l4]; omega) (by rw [a, l4]; omega), a, l4]
          have s : ((J.1 3 - p) * 4 + w).toInt = ((J.1 3).toInt - i) * 4 + wn := by rw [i_add (by omega) (by omega), m, hw]
          refine ⟨ok_iff.mpr (by omega), ?_⟩
          rw [show Int32.toNatClampNeg ((J.1 3 - p) * 4 + w) = (j + 1) % 24 * 4 + wn by rw [i_nat, s]; omega]
          exact hQ
        · rw [i_le, a] at z
          have b : (J.1 3 - p + 24).toInt = (J.1 3).toInt - i + 24 := by rw [i_add (by omega) (by omega), a, l24]
          have m : ((J.1 3 - p + 24) * 4).toInt = ((J.1 3).toInt - i + 24) * 4 := by rw [i_mul (by rw [b, l4]; omega) (by rw [b, l4]; omega), b, l4]
          have s : ((J.1 3 - p + 24) * 4 + w).toInt = ((J.1 3).toInt - i + 24) * 4 + wn := by rw [i_add (by omega) (by omega), m, hw]
          refine ⟨ok_iff.mpr (by omega), ?_⟩
          rw [show Int32.toNatClampNeg ((J.1 3 - p + 24) * 4 + w) = (j + 1) % 24 * 4 + wn by rw [i_nat, s]; omega]
          exact hQ
      -- the reference's place
      have b1 : (M.1 11 - 1).toInt = (e : Int) - 1 := by rw [i_sub (by omega) (by omega), e1, l1]
      have b2 : (M.1 11 - 1 - p).toInt = (j : Int) := by rw [i_sub (by omega) (by omega), b1, hi]; omega
      have b3 : ((M.1 11 - 1 - p) - (M.1 11 - 1 - p) / 24 * 24).toInt = ((j % 24 : Nat) : Int) := by rw [i_rem (by omega) (by omega), b2, l24]; omega
      have b4 : Int32.toNatClampNeg ((M.1 11 - 1 - p) - (M.1 11 - 1 - p) / 24 * 24) = j % 24 := by rw [i_nat, b3]; omega
      have ok24 : okI ((M.1 11 - 1 - p) - (M.1 11 - 1 - p) / 24 * 24) 24 := ok_iff.mpr (by omega)
      have hX7 : ∀ (Q : Int32 → TR7 → Prop) (Qx : TR7 → Prop), Q (J.2 1 ((j + 1) % 24 * 4 + wn)) (B, K, S, A, J, C, K2, S2, A2, J2, C2, Y) → wp_X7_event (B, K, S, A, J, C, K2, S2, A2, J2, C2, Y) p w Q Qx := by
        intro Q Qx hQ
        unfold wp_X7_event
        refine b_isBelow ?_
        rw [if_pos c]
        refine ⟨fun z => absurd z (by decide), fun _ => b_isBelow ?_⟩
        rw [if_pos (by omega)]
        exact ⟨fun _ => hcl _ hQ, fun z => absurd z (by decide)⟩
      have hX8 : ∀ (Q : Int32 → Ob → Prop), ((¬ w = 0 → ((¬ w = 1 → ((¬ w = 2 → Q (M.2 10 (j % 24)) (si M 17 0)) ∧ (w = 2 → Q (M.2 9 (j % 24)) (si M 17 0)))) ∧ (w = 1 → Q (M.2 8 (j % 24)) (si M 17 0)))) ∧ (w = 0 → Q (M.2 7 (j % 24)) (si M 17 0))) → wp_X8_event M p w Q := by
        intro Q hQ
        refine hev Q (fun z0 hz => ?_)
        unfold wp_X8_event_L18
        refine b_within ?_
        rw [if_pos (by rw [i_sub (by omega) (by omega), hz]; omega)]
        refine ⟨fun z => absurd z (by decide), fun _ => b_within ?_⟩
        rw [if_pos (by omega)]
        refine ⟨fun z => absurd z (by decide), fun _ T8 f8 => ?_⟩
        subst f8
        refine ⟨fun _ x10 f10 => ?_, fun z => absurd z (by show ¬ (0 : Int32) = 1; decide)⟩
        have f10 : x10 = (M.1 11 - 1 - p) - (M.1 11 - 1 - p) / 24 * 24 := f10
        subst f10
        rw [b4]
        exact ⟨fun z => ⟨fun z1 => ⟨fun z2 => ⟨ok24, ((hQ.1 z).1 z1).1 z2⟩, fun z2 => ⟨ok24, ((hQ.1 z).1 z1).2 z2⟩⟩, fun z1 => ⟨ok24, (hQ.1 z).2 z1⟩⟩, fun z => ⟨ok24, hQ.2 z⟩⟩
      refine Or.inl ⟨J.2 1 ((j + 1) % 24 * 4 + wn), hX7, fun Q hQ => hX8 Q ⟨fun z => ⟨fun z1 => ⟨fun z2 => ?_, fun z2 => ?_⟩, fun z1 => ?_⟩, fun z => ?_⟩⟩
      · have w0 : ¬ w.toInt = 0 := fun y => z (i_eq.mpr y)
        have w1 : ¬ w.toInt = 1 := fun y => z1 (i_eq.mpr y)
        have w2 : ¬ w.toInt = 2 := fun y => z2 (i_eq.mpr y)
        rw [show wn = 3 by omega, g4] at hQ
        exact hQ
      · have l2 : (2 : Int32).toInt = 2 := rfl
        rw [z2] at hw
        rw [show wn = 2 by omega, g3] at hQ
        exact hQ
      · rw [z1] at hw
        rw [show wn = 1 by omega, g2] at hQ
        exact hQ
      · rw [z] at hw
        rw [show wn = 0 by omega, Nat.add_zero, g1] at hQ
        exact hQ
    · refine Or.inr ⟨fun Q Qx hQ => ?_, fun Q hQ => hev Q (fun z0 hz => ?_)⟩
      · unfold wp_X7_event
        refine b_isBelow ?_
        rw [if_pos c]
        refine ⟨fun z => absurd z (by decide), fun _ => b_isBelow ?_⟩
        rw [if_neg (by omega)]
        exact ⟨fun z => absurd rfl z, fun _ => hQ⟩
      · unfold wp_X8_event_L18
        refine b_within ?_
        rw [if_pos (by rw [i_sub (by omega) (by omega), hz]; omega)]
        refine ⟨fun z => absurd z (by decide), fun _ => b_within ?_⟩
        rw [if_neg (by omega)]
        exact ⟨fun _ => thr Q hQ, fun z => absurd rfl z⟩
  · refine Or.inr ⟨fun Q Qx hQ => ?_, fun Q hQ => hev Q (fun z0 hz => ?_)⟩
    · unfold wp_X7_event
      refine b_isBelow ?_
      rw [if_neg c]
      exact ⟨fun _ => hQ, fun z => absurd rfl z⟩
    · unfold wp_X8_event_L18
      refine b_within ?_
      rw [if_neg (by rw [i_sub (by omega) (by omega), hz]; omega)]
      exact ⟨fun _ => thr Q hQ, fun z => absurd rfl z⟩
