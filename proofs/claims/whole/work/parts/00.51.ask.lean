/-! LAYER 2: calls that only ask -/
theorem call_code {N T : Int} {B K K2 : Nat → Int32} {S A J C S2 A2 J2 C2 Y M : Ob} (h : REL N T B K S A J C J2 M) (p : Int32) : FACE N T (fun Q => wp_X7_code (B, K, S, A, J, C, K2, S2, A2, J2, C2, Y) p Q) (fun Q => wp_X8_code M p Q) := by
  obtain ⟨hS, hA, hJ, hC, hB, hK, hp, hP, hJ2⟩ := id h
  have l0 : (0 : Int32).toInt = 0 := rfl
  have l511 : (511 : Int32).toInt = 511 := rfl
  by_cases c : 0 ≤ p.toInt ∧ p.toInt < 512
  · refine FACE_get (K2 := K2) (S2 := S2) (A2 := A2) (C2 := C2) (Y := Y) h (v := B p.toNatClampNeg) (fun Q hQ => ?_) (fun Q hQ => ?_)
    · unfold wp_X7_code
      refine b_isPlace ?_
      rw [if_pos c]
      exact ⟨fun z => absurd z (by decide), fun _ => ⟨ok_iff.mpr c, hQ⟩⟩
    · unfold wp_X8_code
      intro T1 e1
      subst e1
      refine b_within ?_
      rw [if_pos (by omega)]
      refine ⟨fun z => absurd z (by decide), fun _ => ⟨ok_iff.mpr c, ?_⟩⟩
      rw [(hB p.toNatClampNeg (by rw [i_nat]; omega)).1] at hQ
      exact hQ
  · refine FACE_get (K2 := K2) (S2 := S2) (A2 := A2) (C2 := C2) (Y := Y) h (v := -1) (fun Q hQ => ?_) (fun Q hQ => ?_)
    · unfold wp_X7_code
      refine b_isPlace ?_
      rw [if_neg c]
      exact ⟨fun _ => hQ, fun z => absurd rfl z⟩
    · unfold wp_X8_code
      intro T1 e1
      subst e1
      refine b_within ?_
      rw [if_neg (by omega)]
      exact ⟨fun _ => hQ, fun z => absurd rfl z⟩
theorem call_waited {N T : Int} {B K K2 : Nat → Int32} {S A J C S2 A2 J2 C2 Y M : Ob} (h : REL N T B K S A J C J2 M) (p : Int32) : FACE N T (fun Q => wp_X7_waited (B, K, S, A, J, C, K2, S2, A2, J2, C2, Y) p Q) (fun Q => wp_X8_waited M p Q) := by
  obtain ⟨hS, hA, hJ, hC, hB, hK, hp, hP, hJ2⟩ := id h
  have l0 : (0 : Int32).toInt = 0 := rfl
  have l20 : (20 : Int32).toInt = 20 := rfl
  have l21 : (21 : Int32).toInt = 21 := rfl
  by_cases c : 0 ≤ p.toInt ∧ p.toInt < 21
  · refine FACE_get (K2 := K2) (S2 := S2) (A2 := A2) (C2 := C2) (Y := Y) h (v := S.2 8 p.toNatClampNeg) (fun Q hQ => ?_) (fun Q hQ => ?_)
    · unfold wp_X7_waited
      refine b_isBelow ?_
      rw [if_pos (by omega)]
      exact ⟨fun z => absurd z (by decide), fun _ => ⟨ok_iff.mpr c, hQ⟩⟩
    · unfold wp_X8_waited
      intro T1 e1
      subst e1
      refine b_within ?_
      rw [if_pos (by omega)]
      refine ⟨fun z => absurd z (by decide), fun _ => ⟨ok_iff.mpr c, ?_⟩⟩
      rw [(hS.2.2 rfl).2.2.1 p.toNatClampNeg (by rw [i_nat]; omega)] at hQ
      exact hQ
  · refine FACE_get (K2 := K2) (S2 := S2) (A2 := A2) (C2 := C2) (Y := Y) h (v := -1) (fun Q hQ => ?_) (fun Q hQ => ?_)
    · unfold wp_X7_waited
      refine b_isBelow ?_
      rw [if_neg (by omega)]
      exact ⟨fun _ => hQ, fun z => absurd rfl z⟩
    · unfold wp_X8_waited
      intro T1 e1
      subst e1
      refine b_within ?_
      rw [if_neg (by omega)]
      exact ⟨fun _ => hQ, fun z => absurd rfl z⟩
theorem call_nest {N T : Int} {B K K2 : Nat → Int32} {S A J C S2 A2 J2 C2 Y M : Ob} (h : REL N T B K S A J C J2 M) (p : Int32) : FACE N T (fun Q => wp_X7_nest (B, K, S, A, J, C, K2, S2, A2, J2, C2, Y) p Q) (fun Q => wp_X8_nest M p Q) := by
  obtain ⟨hS, hA, hJ, hC, hB, hK, hp, hP, hJ2⟩ := id h
  have l0 : (0 : Int32).toInt = 0 := rfl
  have l1 : (1 : Int32).toInt = 1 := rfl
  have R : limR S (M.2 4) := hS.1.1.1.1
  obtain ⟨⟨a1, a2, a3⟩, b, -⟩ := R
  have s1 : (M.2 4 30 - 1).toInt = (S.1 10).toInt - 1 := by rw [← a1, i_sub (by omega) (by omega), l1]
  by_cases c : 0 ≤ p.toInt ∧ p.toInt < (S.1 10).toInt
  · obtain ⟨o1, o2⟩ := at_off (r := M.2 4) (o := 152) (n := 152) (m := 21) (p := p) c.1 (by omega) rfl (by omega)
    refine FACE_get (K2 := K2) (S2 := S2) (A2 := A2) (C2 := C2) (Y := Y) h (v := S.2 9 p.toNatClampNeg) (fun Q hQ => ?_) (fun Q hQ => ?_)
    · unfold wp_X7_nest
      refine b_isBelow ?_
      rw [if_pos c]
      exact ⟨fun z => absurd z (by decide), fun _ => ⟨ok_iff.mpr (by omega), hQ⟩⟩
    · unfold wp_X8_nest
      intro T1 e1
      subst e1
      refine b_within ?_
      rw [if_pos (by show (0 : Int32).toInt ≤ p.toInt ∧ p.toInt ≤ (M.2 4 30 - 1).toInt; omega)]
      refine ⟨fun z => absurd z (by decide), fun _ => ⟨o1, ?_⟩⟩
      rw [(b p.toNatClampNeg (by rw [i_nat]; omega)).1, ← o2] at hQ
      exact hQ
  · refine FACE_get (K2 := K2) (S2 := S2) (A2 := A2) (C2 := C2) (Y := Y) h (v := -1) (fun Q hQ => ?_) (fun Q hQ => ?_)
    · unfold wp_X7_nest
      refine b_isBelow ?_
      rw [if_neg c]
      exact ⟨fun _ => hQ, fun z => absurd rfl z⟩
    · unfold wp_X8_nest
      intro T1 e1
      subst e1
      refine b_within ?_
      rw [if_neg (by show ¬ ((0 : Int32).toInt ≤ p.toInt ∧ p.toInt ≤ (M.2 4 30 - 1).toInt); omega)]
      exact ⟨fun _ => hQ, fun z => absurd rfl z⟩
theorem mnow_self (T : Ob) : mnow T T (T.2 4) = T := by
  unfold mnow
  refine Prod.ext rfl ?_
  funext j
  show (if j = 4 then T.2 4 else if j = 5 then T.2 5 else if 18 ≤ j then T.2 j else T.2 j) = T.2 j
  by_cases c : j = 4
  · rw [if_pos c, c]
  · rw [if_neg c]
    by_cases d : j = 5
    · rw [if_pos d, d]
    · rw [if_neg d, ite_self]
theorem call_state {N T : Int} {B K K2 : Nat → Int32} {S A J C S2 A2 J2 C2 Y M : Ob} (h : REL N T B K S A J C J2 M) (p : Int32) : FACE N T (fun Q => wp_X7_state (B, K, S, A, J, C, K2, S2, A2, J2, C2, Y) p Q) (fun Q => wp_X8_state M p Q) := by
  obtain ⟨hS, hA, hJ, hC, hB, hK, hp, hP, hJ2⟩ := id h
  have R : limR S (M.2 4) := hS.1.1.1.1
  have b12 : isB (C.1 12) := hC.2.1.2.2.2.2.1
  have b13 : isB (C.1 13) := hC.2.1.2.2.2.2.2.2.2.1
  have b14 : isB (S.1 14) := hS.1.2.1
  by_cases z0 : p = 0
  · subst z0
    refine FACE_get (K2 := K2) (S2 := S2) (A2 := A2) (C2 := C2) (Y := Y) h (v := K 5) (fun Q hQ => ?_) (fun Q hQ => ?_)
    · unfold wp_X7_state
      exact ⟨fun _ => hQ, fun z => absurd z (by decide), fun z => absurd z (by decide), fun z => absurd z (by decide), fun z => absurd z (by decide), fun z => absurd z (by decide), fun z => absurd z (by decide), fun z => absurd z (by decide), fun z => absurd z (by decide), fun z => absurd z (by decide), fun z => absurd z (by decide), fun z => absurd z (by decide), fun z => absurd z (by decide), fun z => absurd z (by decide), fun z => absurd z (by decide), fun z => absurd z (by decide), fun z => absurd rfl z⟩
    · unfold wp_X8_state
      intro T1 e1
      subst e1
      have hv : K 5 = M.2 4 20 := hK.2.1
      rw [hv] at hQ
      exact ⟨fun _ => hQ, fun z => absurd z (by decide), fun z => absurd z (by decide), fun z => absurd z (by decide), fun z => absurd z (by decide), fun z => absurd z (by decide), fun z => absurd z (by decide), fun z => absurd z (by decide), fun z => absurd z (by decide), fun z => absurd z (by decide), fun z => absurd z (by decide), fun z => absurd z (by decide), fun z => absurd z (by decide), fun z => absurd z (by decide), fun z => absurd z (by decide), fun z => absurd z (by decide), fun z => absurd rfl z⟩
  by_cases z1 : p = 1
  · subst z1
    refine FACE_get (K2 := K2) (S2 := S2) (A2 := A2) (C2 := C2) (Y := Y) h (v := K 6) (fun Q hQ => ?_) (fun Q hQ => ?_)
    · unfold wp_X7_state
      exact ⟨fun z => absurd z (by decide), fun _ => hQ, fun z => absurd z (by decide), fun z => absurd z (by decide), fun z => absurd z (by decide), fun z => absurd z (by decide), fun z => absurd z (by decide), fun z => absurd z (by decide), fun z => absurd z (by decide), fun z => absurd z (by decide), fun z => absurd z (by decide), fun z => absurd z (by decide), fun z => absurd z (by decide), fun z => absurd z (by decide), fun z => absurd z (by decide), fun z => absurd z (by decide), fun _ z => absurd rfl z⟩
    · unfold wp_X8_state
      intro T1 e1
      subst e1
      have hv : K 6 = M.2 4 21 := hK.2.2.1
      rw [hv] at hQ
      exact ⟨fun z => absurd z (by decide), fun _ => hQ, fun z => absurd z (by decide), fun z => absurd z (by decide), fun z => absurd z (by decide), fun z => absurd z (by decide), fun z => absurd z (by decide), fun z => absurd z (by decide), fun z => absurd z (by decide), fun z => absurd z (by decide), fun z => absurd z (by decide), fun z => absurd z (by decide), fun z => absurd z (by decide), fun z => absurd z (by decide), fun z => absurd z (by decide), fun z => absurd z (by decide), fun _ z => absurd rfl z⟩
  by_cases z2 : p = 2
  · subst z2
    refine FACE_get (K2 := K2) (S2 := S2) (A2 := A2) (C2 := C2) (Y := Y) h (v := C.1 10) (fun Q hQ => ?_) (fun Q hQ => ?_)
    · unfold wp_X7_state
      exact ⟨fun z => absurd z (by decide), fun z => absurd z (by decide), fun _ => hQ, fun z => absurd z (by decide), fun z => absurd z (by decide), fun z => absurd z (by decide), fun z => absurd z (by decide), fun z => absurd z (by decide), fun z => absurd z (by decide), fun z => absurd z (by decide), fun z => absurd z (by decide), fun z => absurd z (by decide), fun z => absurd z (by decide), fun z => absurd z (by decide), fun z => absurd z (by decide), fun z => absurd z (by decide), fun _ _ z => absurd rfl z⟩
    · unfold wp_X8_state
      intro T1 e1
      subst e1
      have hv : C.1 10 = M.2 4 22 := hC.1.2.2.2.2.2.2.2.2.2.2.1
      rw [hv] at hQ
      exact ⟨fun z => absurd z (by decide), fun z => absurd z (by decide), fun _ => hQ, fun z => absurd z (by decide), fun z => absurd z (by decide), fun z => absurd z (by decide), fun z => absurd z (by decide), fun z => absurd z (by decide), fun z => absurd z (by decide), fun z => absurd z (by decide), fun z => absurd z (by decide), fun z => absurd z (by decide), fun z => absurd z (by decide), fun z => absurd z (by decide), fun z => absurd z (by decide), fun z => absurd z (by decide), fun _ _ z => absurd rfl z⟩
  by_cases z3 : p = 3
  · subst z3
    refine FACE_get (K2 := K2) (S2 := S2) (A2 := A2) (C2 := C2) (Y := Y) h (v := C.1 13) (fun Q hQ => ?_) (fun Q hQ => ?_)
    · unfold wp_X7_state
      refine ⟨fun z => absurd z (by decide), fun z => absurd z (by decide), fun z => absurd z (by decide), fun _ => ⟨fun z => ?_, fun z => ?_⟩, fun z => absurd z (by decide), fun z => absurd z (by decide), fun z => absurd z (by decide), fun z => absurd z (by decide), fun z => absurd z (by decide), fun z => absurd z (by decide), fun z => absurd z (by decide), fun z => absurd z (by decide), fun z => absurd z (by decide), fun z => absurd z (by decide), fun z => absurd z (by decide), fun z => absurd z (by decide), fun _ _ _ z => absurd rfl z⟩
      · have z : C.1 13 = 0 := z
        rw [z] at hQ; exact hQ
      · have z : C.1 13 = 1 := isB_ne b13 z
        rw [z] at hQ; exact hQ
    · unfold wp_X8_state
      intro T1 e1
      subst e1
      have hv : C.1 13 = M.2 4 23 := hC.1.2.2.2.2.2.2.2.2.2.2.2
      rw [hv] at hQ
      exact ⟨fun z => absurd z (by decide), fun z => absurd z (by decide), fun z => absurd z (by decide), fun _ => hQ, fun z => absurd z (by decide), fun z => absurd z (by decide), fun z => absurd z (by decide), fun z => absurd z (by decide), fun z => absurd z (by decide), fun z => absurd z (by decide), fun z => absurd z (by decide), fun z => absurd z (by decide), fun z => absurd z (by decide), fun z => absurd z (by decide), fun z => absurd z (by decide), fun z => absurd z (by decide), fun _ _ _ z => absurd rfl z⟩
  by_cases z4 : p = 4
  · subst z4
    refine FACE_get (K2 := K2) (S2 := S2) (A2 := A2) (C2 := C2) (Y := Y) h (v := C.1 5) (fun Q hQ => ?_) (fun Q hQ => ?_)
    · unfold wp_X7_state
      exact ⟨fun z => absurd z (by decide), fun z => absurd z (by decide), fun z => absurd z (by decide), fun z => absurd z (by decide), fun _ => hQ, fun z => absurd z (by decide), fun z => absurd z (by decide), fun z => absurd z (by decide), fun z => absurd z (by decide), fun z => absurd z (by decide), fun z => absurd z (by decide), fun z => absurd z (by decide), fun z => absurd z (by decide), fun z => absurd z (by decide), fun z => absurd z (by decide), fun z => absurd z (by decide), fun _ _ _ _ z => absurd rfl z⟩
    · unfold wp_X8_state
      intro T1 e1
      subst e1
      have hv : C.1 5 = M.2 4 12 := hC.1.2.2.2.2.1
      rw [hv] at hQ
      exact ⟨fun z => absurd z (by decide), fun z => absurd z (by decide), fun z => absurd z (by decide), fun z => absurd z (by decide), fun _ => hQ, fun z => absurd z (by decide), fun z => absurd z (by decide), fun z => absurd z (by decide), fun z => absurd z (by decide), fun z => absurd z (by decide), fun z => absurd z (by decide), fun z => absurd z (by decide), fun z => absurd z (by decide), fun z => absurd z (by decide), fun z => absurd z (by decide), fun z => absurd z (by decide), fun _ _ _ _ z => absurd rfl z⟩
  by_cases z5 : p = 5
  · subst z5
    refine FACE_get (K2 := K2) (S2 := S2) (A2 := A2) (C2 := C2) (Y := Y) h (v := C.1 6) (fun Q hQ => ?_) (fun Q hQ => ?_)
    · unfold wp_X7_state
      exact ⟨fun z => absurd z (by decide), fun z => absurd z (by decide), fun z => absurd z (by decide), fun z => absurd z (by decide), fun z => absurd z (by decide), fun _ => hQ, fun z => absurd z (by decide), fun z => absurd z (by decide), fun z => absurd z (by decide), fun z => absurd z (by decide), fun z => absurd z (by decide), fun z => absurd z (by decide), fun z => absurd z (by decide), fun z => absurd z (by decide), fun z => absurd z (by decide), fun z => absurd z (by decide), fun _ _ _ _ _ z => absurd rfl z⟩
    · unfold wp_X8_state
      intro T1 e1
      subst e1
      have hv : C.1 6 = M.2 4 15 := hC.1.2.2.2.2.2.2.2.1
      rw [hv] at hQ
      exact ⟨fun z => absurd z (by decide), fun z => absurd z (by decide), fun z => absurd z (by decide), fun z => absurd z (by decide), fun z => absurd z (by decide), fun _ => hQ, fun z => absurd z (by decide), fun z => absurd z (by decide), fun z => absurd z (by decide), fun z => absurd z (by decide), fun z => absurd z (by decide), fun z => absurd z (by decide), fun z => absurd z (by decide), fun z => absurd z (by decide), fun z => absurd z (by decide), fun z => absurd z (by decide), fun _ _ _ _ _ z => absurd rfl z⟩
  by_cases z6 : p = 6
  · subst z6
    refine FACE_get (K2 := K2) (S2 := S2) (A2 := A2) (C2 := C2) (Y := Y) h (v := C.1 8) (fun Q hQ => ?_) (fun Q hQ => ?_)
    · unfold wp_X7_state
      exact ⟨fun z => absurd z (by decide), fun z => absurd z (by decide), fun z => absurd z (by decide), fun z => absurd z (by decide), fun z => absurd z (by decide), fun z => absurd z (by decide), fun _ => hQ, fun z => absurd z (by decide), fun z => absurd z (by decide), fun z => absurd z (by decide), fun z => absurd z (by decide), fun z => absurd z (by decide), fun z => absurd z (by decide), fun z => absurd z (by decide), fun z => absurd z (by decide), fun z => absurd z (by decide), fun _ _ _ _ _ _ z => absurd rfl z⟩
    · unfold wp_X8_state
      intro T1 e1
      subst e1
      have hv : C.1 8 = M.2 4 13 := hC.1.2.2.2.2.2.1
      rw [hv] at hQ
      exact ⟨fun z => absurd z (by decide), fun z => absurd z (by decide), fun z => absurd z (by decide), fun z => absurd z (by decide), fun z => absurd z (by decide), fun z => absurd z (by decide), fun _ => hQ, fun z => absurd z (by decide), fun z => absurd z (by decide), fun z => absurd z (by decide), fun z => absurd z (by decide), fun z => absurd z (by decide), fun z => absurd z (by decide), fun z => absurd z (by decide), fun z => absurd z (by decide), fun z => absurd z (by decide), fun _ _ _ _ _ _ z => absurd rfl z⟩
  by_cases z7 : p = 7
  · subst z7
    refine FACE_get (K2 := K2) (S2 := S2) (A2 := A2) (C2 := C2) (Y := Y) h (v := C.1 9) (fun Q hQ => ?_) (fun Q hQ => ?_)
    · unfold wp_X7_state
      exact ⟨fun z => absurd z (by decide), fun z => absurd z (by decide), fun z => absurd z (by decide), fun z => absurd z (by decide), fun z => absurd z (by decide), fun z => absurd z (by decide), fun z => absurd z (by decide), fun _ => hQ, fun z => absurd z (by decide), fun z => absurd z (by decide), fun z => absurd z (by decide), fun z => absurd z (by decide), fun z => absurd z (by decide), fun z => absurd z (by decide), fun z => absurd z (by decide), fun z => absurd z (by decide), fun _ _ _ _ _ _ _ z => absurd rfl z⟩
    · unfold wp_X8_state
      intro T1 e1
      subst e1
      have hv : C.1 9 = M.2 4 14 := hC.1.2.2.2.2.2.2.1
      rw [hv] at hQ
      exact ⟨fun z => absurd z (by decide), fun z => absurd z (by decide), fun z => absurd z (by decide), fun z => absurd z (by decide), fun z => absurd z (by decide), fun z => absurd z (by decide), fun z => absurd z (by decide), fun _ => hQ, fun z => absurd z (by decide), fun z => absurd z (by decide), fun z => absurd z (by decide), fun z => absurd z (by decide), fun z => absurd z (by decide), fun z => absurd z (by decide), fun z => absurd z (by decide), fun z => absurd z (by decide), fun _ _ _ _ _ _ _ z => absurd rfl z⟩
  by_cases z8 : p = 8
  · subst z8
    refine FACE_get (K2 := K2) (S2 := S2) (A2 := A2) (C2 := C2) (Y := Y) h (v := S.1 14) (fun Q hQ => ?_) (fun Q hQ => ?_)
    · unfold wp_X7_state
      exact ⟨fun z => absurd z (by decide), fun z => absurd z (by decide), fun z => absurd z (by decide), fun z => absurd z (by decide), fun z => absurd z (by decide), fun z => absurd z (by decide), fun z => absurd z (by decide), fun z => absurd z (by decide), fun _ => hQ, fun z => absurd z (by decide), fun z => absurd z (by decide), fun z => absurd z (by decide), fun z => absurd z (by decide), fun z => absurd z (by decide), fun z => absurd z (by decide), fun z => absurd z (by decide), fun _ _ _ _ _ _ _ _ z => absurd rfl z⟩
    · unfold wp_X8_state
      intro T1 e1
      subst e1
      have hv : S.1 14 = M.2 4 16 := hS.1.1.2.1
      rw [hv] at hQ
      exact ⟨fun z => absurd z (by decide), fun z => absurd z (by decide), fun z => absurd z (by decide), fun z => absurd z (by decide), fun z => absurd z (by decide), fun z => absurd z (by decide), fun z => absurd z (by decide), fun z => absurd z (by decide), fun _ => hQ, fun z => absurd z (by decide), fun z => absurd z (by decide), fun z => absurd z (by decide), fun z => absurd z (by decide), fun z => absurd z (by decide), fun z => absurd z (by decide), fun z => absurd z (by decide), fun _ _ _ _ _ _ _ _ z => absurd rfl z⟩
  by_cases z9 : p = 9
  · subst z9
    refine FACE_get (K2 := K2) (S2 := S2) (A2 := A2) (C2 := C2) (Y := Y) h (v := S.1 13) (fun Q hQ => ?_) (fun Q hQ => ?_)
    · unfold wp_X7_state
      exact ⟨fun z => absurd z (by decide), fun z => absurd z (by decide), fun z => absurd z (by decide), fun z => absurd z (by decide), fun z => absurd z (by decide), fun z => absurd z (by decide), fun z => absurd z (by decide), fun z => absurd z (by decide), fun z => absurd z (by decide), fun _ => hQ, fun z => absurd z (by decide), fun z => absurd z (by decide), fun z => absurd z (by decide), fun z => absurd z (by decide), fun z => absurd z (by decide), fun z => absurd z (by decide), fun _ _ _ _ _ _ _ _ _ z => absurd rfl z⟩
    · unfold wp_X8_state
      intro T1 e1
      subst e1
      have hv : S.1 13 = M.2 4 17 := hS.1.1.1.1.2.2.2.2
      rw [hv] at hQ
      exact ⟨fun z => absurd z (by decide), fun z => absurd z (by decide), fun z => absurd z (by decide), fun z => absurd z (by decide), fun z => absurd z (by decide), fun z => absurd z (by decide), fun z => absurd z (by decide), fun z => absurd z (by decide), fun z => absurd z (by decide), fun _ => hQ, fun z => absurd z (by decide), fun z => absurd z (by decide), fun z => absurd z (by decide), fun z => absurd z (by decide), fun z => absurd z (by decide), fun z => absurd z (by decide), fun _ _ _ _ _ _ _ _ _ z => absurd rfl z⟩
  by_cases z10 : p = 10
  · subst z10
    refine FACE_get (K2 := K2) (S2 := S2) (A2 := A2) (C2 := C2) (Y := Y) h (v := C.1 12) (fun Q hQ => ?_) (fun Q hQ => ?_)
    · unfold wp_X7_state
      refine ⟨fun z => absurd z (by decide), fun z => absurd z (by decide), fun z => absurd z (by decide), fun z => absurd z (by decide), fun z => absurd z (by decide), fun z => absurd z (by decide), fun z => absurd z (by decide), fun z => absurd z (by decide), fun z => absurd z (by decide), fun z => absurd z (by decide), fun _ => ⟨fun z => ?_, fun z => ?_⟩, fun z => absurd z (by decide), fun z => absurd z (by decide), fun z => absurd z (by decide), fun z => absurd z (by decide), fun z => absurd z (by decide), fun _ _ _ _ _ _ _ _ _ _ z => absurd rfl z⟩
      · have z : C.1 12 = 0 := z
        rw [z] at hQ; exact hQ
      · have z : C.1 12 = 1 := isB_ne b12 z
        rw [z] at hQ; exact hQ
    · unfold wp_X8_state
      intro T1 e1
      subst e1
      have hv : C.1 12 = M.2 4 18 := hC.1.2.2.2.2.2.2.2.2.1
      rw [hv] at hQ
      exact ⟨fun z => absurd z (by decide), fun z => absurd z (by decide), fun z => absurd z (by decide), fun z => absurd z (by decide), fun z => absurd z (by decide), fun z => absurd z (by decide), fun z => absurd z (by decide), fun z => absurd z (by decide), fun z => absurd z (by decide), fun z => absurd z (by decide), fun _ => hQ, fun z => absurd z (by decide), fun z => absurd z (by decide), fun z => absurd z (by decide), fun z => absurd z (by decide), fun z => absurd z (by decide), fun _ _ _ _ _ _ _ _ _ _ z => absurd rfl z⟩
  by_cases z11 : p = 11
  · subst z11
    refine FACE_get (K2 := K2) (S2 := S2) (A2 := A2) (C2 := C2) (Y := Y) h (v := C.1 11) (fun Q hQ => ?_) (fun Q hQ => ?_)
    · unfold wp_X7_state
      exact ⟨fun z => absurd z (by decide), fun z => absurd z (by decide), fun z => absurd z (by decide), fun z => absurd z (by decide), fun z => absurd z (by decide), fun z => absurd z (by decide), fun z => absurd z (by decide), fun z => absurd z (by decide), fun z => absurd z (by decide), fun z => absurd z (by decide), fun z => absurd z (by decide), fun _ => hQ, fun z => absurd z (by decide), fun z => absurd z (by decide), fun z => absurd z (by decide), fun z => absurd z (by decide), fun _ _ _ _ _ _ _ _ _ _ _ z => absurd rfl z⟩
    · unfold wp_X8_state
      intro T1 e1
      subst e1
      have hv : C.1 11 = M.2 4 19 := hC.1.2.2.2.2.2.2.2.2.2.1
      rw [hv] at hQ
      exact ⟨fun z => absurd z (by decide), fun z => absurd z (by decide), fun z => absurd z (by decide), fun z => absurd z (by decide), fun z => absurd z (by decide), fun z => absurd z (by decide), fun z => absurd z (by decide), fun z => absurd z (by decide), fun z => absurd z (by decide), fun z => absurd z (by decide), fun z => absurd z (by decide), fun _ => hQ, fun z => absurd z (by decide), fun z => absurd z (by decide), fun z => absurd z (by decide), fun z => absurd z (by decide), fun _ _ _ _ _ _ _ _ _ _ _ z => absurd rfl z⟩
  by_cases z12 : p = 12
  · subst z12
    have Sp := hS.1.1.1.2.2.2.2
    have e16 : S.1 14 = M.2 4 16 := hS.1.1.2.1
    refine FACE_get (K2 := K2) (S2 := S2) (A2 := A2) (C2 := C2) (Y := Y) h (v := limF S (S.1 12) (S.1 14)) (fun Q hQ => ?_) (fun Q hQ => ?_)
    · unfold wp_X7_state wp_X5_limit
      exact ⟨fun z => absurd z (by decide), fun z => absurd z (by decide), fun z => absurd z (by decide), fun z => absurd z (by decide), fun z => absurd z (by decide), fun z => absurd z (by decide), fun z => absurd z (by decide), fun z => absurd z (by decide), fun z => absurd z (by decide), fun z => absurd z (by decide), fun z => absurd z (by decide), fun z => absurd z (by decide), fun _ => lim_class (fun k hk => (R.2.1 k hk).2) R.1.2.1 R.1.2.2 hQ, fun z => absurd z (by decide), fun z => absurd z (by decide), fun z => absurd z (by decide), fun _ _ _ _ _ _ _ _ _ _ _ _ z => absurd rfl z⟩
    · unfold wp_X8_state
      intro T1 e1
      subst e1
      have e3 : (si M 17 0).1 3 = S.1 12 := Sp.1.symm
      rw [e3]
      have eq : sa (si M 17 0) 4 (M.2 4) = si M 17 0 := sa_same (si M 17 0) 4
      refine ⟨fun z => absurd z (by decide), fun z => absurd z (by decide), fun z => absurd z (by decide), fun z => absurd z (by decide), fun z => absurd z (by decide), fun z => absurd z (by decide), fun z => absurd z (by decide), fun z => absurd z (by decide), fun z => absurd z (by decide), fun z => absurd z (by decide), fun z => absurd z (by decide), fun z => absurd z (by decide), fun _ => ⟨fun z => ?_, fun z => ?_⟩, fun z => absurd z (by decide), fun z => absurd z (by decide), fun z => absurd z (by decide), fun _ _ _ _ _ _ _ _ _ _ _ _ z => absurd rfl z⟩
      · have z : ¬ M.2 4 16 = 1 := z
        refine lim_model (shut := S.1 14) R Sp.2.1 Sp.2.2 ⟨fun y => absurd (e16.symm.trans y) z, fun y => absurd rfl y⟩ ?_
        rw [← eq] at hQ
        exact hQ
      · have z : M.2 4 16 = 1 := z
        refine lim_model (shut := S.1 14) R Sp.2.1 Sp.2.2 ⟨fun _ => by decide, fun _ => e16.trans z⟩ ?_
        rw [← eq] at hQ
        exact hQ
  by_cases z13 : p = 13
  · subst z13
    refine FACE_get (K2 := K2) (S2 := S2) (A2 := A2) (C2 := C2) (Y := Y) h (v := nextF S (S.1 14)) (fun Q hQ => ?_) (fun Q hQ => ?_)
    · unfold wp_X7_state
      exact ⟨fun z => absurd z (by decide), fun z => absurd z (by decide), fun z => absurd z (by decide), fun z => absurd z (by decide), fun z => absurd z (by decide), fun z => absurd z (by decide), fun z => absurd z (by decide), fun z => absurd z (by decide), fun z => absurd z (by decide), fun z => absurd z (by decide), fun z => absurd z (by decide), fun z => absurd z (by decide), fun z => absurd z (by decide), fun _ => next_own_class R hQ, fun z => absurd z (by decide), fun z => absurd z (by decide), fun _ _ _ _ _ _ _ _ _ _ _ _ _ z => absurd rfl z⟩
    · unfold wp_X8_state
      intro T1 e1
      subst e1
      refine ⟨fun z => absurd z (by decide), fun z => absurd z (by decide), fun z => absurd z (by decide), fun z => absurd z (by decide), fun z => absurd z (by decide), fun z => absurd z (by decide), fun z => absurd z (by decide), fun z => absurd z (by decide), fun z => absurd z (by decide), fun z => absurd z (by decide), fun z => absurd z (by decide), fun z => absurd z (by decide), fun z => absurd z (by decide), fun _ => next_own_model (S := S) ?_ ?_, fun z => absurd z (by decide), fun z => absurd z (by decide), fun _ _ _ _ _ _ _ _ _ _ _ _ _ z => absurd rfl z⟩
      · exact hS.1.1
      · rw [mnow_self]
        exact hQ
  by_cases z14 : p = 14
  · subst z14
    refine FACE_get (K2 := K2) (S2 := S2) (A2 := A2) (C2 := C2) (Y := Y) h (v := S.1 12) (fun Q hQ => ?_) (fun Q hQ => ?_)
    · unfold wp_X7_state
      exact ⟨fun z => absurd z (by decide), fun z => absurd z (by decide), fun z => absurd z (by decide), fun z => absurd z (by decide), fun z => absurd z (by decide), fun z => absurd z (by decide), fun z => absurd z (by decide), fun z => absurd z (by decide), fun z => absurd z (by decide), fun z => absurd z (by decide), fun z => absurd z (by decide), fun z => absurd z (by decide), fun z => absurd z (by decide), fun z => absurd z (by decide), fun _ => hQ, fun z => absurd z (by decide), fun _ _ _ _ _ _ _ _ _ _ _ _ _ _ z => absurd rfl z⟩
    · unfold wp_X8_state
      intro T1 e1
      subst e1
      have hv : S.1 12 = M.1 3 := hS.1.1.1.2.2.2.2.1
      rw [hv] at hQ
      exact ⟨fun z => absurd z (by decide), fun z => absurd z (by decide), fun z => absurd z (by decide), fun z => absurd z (by decide), fun z => absurd z (by decide), fun z => absurd z (by decide), fun z => absurd z (by decide), fun z => absurd z (by decide), fun z => absurd z (by decide), fun z => absurd z (by decide), fun z => absurd z (by decide), fun z => absurd z (by decide), fun z => absurd z (by decide), fun z => absurd z (by decide), fun _ => hQ, fun z => absurd z (by decide), fun _ _ _ _ _ _ _ _ _ _ _ _ _ _ z => absurd rfl z⟩
  by_cases z15 : p = 15
  · subst z15
    refine FACE_get (K2 := K2) (S2 := S2) (A2 := A2) (C2 := C2) (Y := Y) h (v := A.1 4) (fun Q hQ => ?_) (fun Q hQ => ?_)
    · unfold wp_X7_state
      exact ⟨fun z => absurd z (by decide), fun z => absurd z (by decide), fun z => absurd z (by decide), fun z => absurd z (by decide), fun z => absurd z (by decide), fun z => absurd z (by decide), fun z => absurd z (by decide), fun z => absurd z (by decide), fun z => absurd z (by decide), fun z => absurd z (by decide), fun z => absurd z (by decide), fun z => absurd z (by decide), fun z => absurd z (by decide), fun z => absurd z (by decide), fun z => absurd z (by decide), fun _ => hQ, fun _ _ _ _ _ _ _ _ _ _ _ _ _ _ _ z => absurd rfl z⟩
    · unfold wp_X8_state
      intro T1 e1
      subst e1
      have hv : A.1 4 = M.2 4 27 := hA.2.2.2
      rw [hv] at hQ
      exact ⟨fun z => absurd z (by decide), fun z => absurd z (by decide), fun z => absurd z (by decide), fun z => absurd z (by decide), fun z => absurd z (by decide), fun z => absurd z (by decide), fun z => absurd z (by decide), fun z => absurd z (by decide), fun z => absurd z (by decide), fun z => absurd z (by decide), fun z => absurd z (by decide), fun z => absurd z (by decide), fun z => absurd z (by decide), fun z => absurd z (by decide), fun z => absurd z (by decide), fun _ => hQ, fun _ _ _ _ _ _ _ _ _ _ _ _ _ _ _ z => absurd rfl z⟩
  refine FACE_get (K2 := K2) (S2 := S2) (A2 := A2) (C2 := C2) (Y := Y) h (v := -2) (fun Q hQ => ?_) (fun Q hQ => ?_)
  · unfold wp_X7_state
    exact ⟨fun z => absurd z z0, fun z => absurd z z1, fun z => absurd z z2, fun z => absurd z z3, fun z => absurd z z4, fun z => absurd z z5, fun z => absurd z z6, fun z => absurd z z7, fun z => absurd z z8, fun z => absurd z z9, fun z => absurd z z10, fun z => absurd z z11, fun z => absurd z z12, fun z => absurd z z13, fun z => absurd z z14, fun z => absurd z z15, fun _ _ _ _ _ _ _ _ _ _ _ _ _ _ _ _ => hQ⟩
  · unfold wp_X8_state
    intro T1 e1
    subst e1
    exact ⟨fun z => absurd z z0, fun z => absurd z z1, fun z => absurd z z2, fun z => absurd z z3, fun z => absurd z z4, fun z => absurd z z5, fun z => absurd z z6, fun z => absurd z z7, fun z => absurd z z8, fun z => absurd z z9, fun z => absurd z z10, fun z => absurd z z11, fun z => absurd z z12, fun z => absurd z z13, fun z => absurd z z14, fun z => absurd z z15, fun _ _ _ _ _ _ _ _ _ _ _ _ _ _ _ _ => hQ⟩
theorem call_count {N T : Int} {B K K2 : Nat → Int32} {S A J C S2 A2 J2 C2 Y M : Ob} (h : REL N T B K S A J C J2 M) (p : Int32) : FACE N T (fun Q => wp_X7_count (B, K, S, A, J, C, K2, S2, A2, J2, C2, Y) p Q) (fun Q => wp_X8_count M p Q) := by
  obtain ⟨hS, hA, hJ, hC, hB, hK, hp, hP, hJ2⟩ := id h
  have l0 : (0 : Int32).toInt = 0 := rfl
  have l16 : (16 : Int32).toInt = 16 := rfl
  by_cases z0 : p = 0
  · subst z0
    refine FACE_get (K2 := K2) (S2 := S2) (A2 := A2) (C2 := C2) (Y := Y) h (v := K 4) (fun Q hQ => ?_) (fun Q hQ => ?_)
    · unfold wp_X7_count
      exact ⟨fun _ => hQ, fun z => absurd z (by decide), fun z => absurd z (by decide), fun z => absurd z (by decide), fun z => absurd z (by decide), fun z => absurd z (by decide), fun z => absurd z (by decide), fun z => absurd z (by decide), fun z => absurd z (by decide), fun z => absurd z (by decide), fun z => absurd z (by decide), fun z => absurd z (by decide), fun z => absurd z (by decide), fun z => absurd z (by decide), fun z => absurd z (by decide), fun z => absurd z (by decide), fun z => absurd z (by decide), fun z => absurd rfl z⟩
    · unfold wp_X8_count
      intro T1 f1
      subst f1
      have hv : K 4 = M.2 4 25 := hK.1.1
      rw [hv] at hQ
      refine b_within ?_
      rw [if_pos (by decide)]
      exact ⟨fun _ => ⟨fun z => absurd rfl z, fun _ => hQ⟩, fun z => absurd z (by decide)⟩
  by_cases z1 : p = 1
  · subst z1
    refine FACE_get (K2 := K2) (S2 := S2) (A2 := A2) (C2 := C2) (Y := Y) h (v := J.1 5) (fun Q hQ => ?_) (fun Q hQ => ?_)
    · unfold wp_X7_count
      exact ⟨fun z => absurd z (by decide), fun _ => hQ, fun z => absurd z (by decide), fun z => absurd z (by decide), fun z => absurd z (by decide), fun z => absurd z (by decide), fun z => absurd z (by decide), fun z => absurd z (by decide), fun z => absurd z (by decide), fun z => absurd z (by decide), fun z => absurd z (by decide), fun z => absurd z (by decide), fun z => absurd z (by decide), fun z => absurd z (by decide), fun z => absurd z (by decide), fun z => absurd z (by decide), fun z => absurd z (by decide), fun _ z => absurd rfl z⟩
    · unfold wp_X8_count
      intro T1 f1
      subst f1
      have hv : J.1 5 = M.2 6 1 := (hJ.2 rfl).1.1
      rw [hv] at hQ
      refine b_within ?_
      rw [if_pos (by decide)]
      exact ⟨fun _ => ⟨fun _ => ⟨fun _ => ⟨fun _ => ⟨fun _ => ⟨okLit (by decide), hQ⟩, fun z => absurd z (by decide)⟩, fun z => absurd z (by decide)⟩, fun z => absurd z (by decide)⟩, fun z => absurd z (by decide)⟩, fun z => absurd z (by decide)⟩
  by_cases z2 : p = 2
  · subst z2
    refine FACE_get (K2 := K2) (S2 := S2) (A2 := A2) (C2 := C2) (Y := Y) h (v := J.1 6) (fun Q hQ => ?_) (fun Q hQ => ?_)
    · unfold wp_X7_count
      exact ⟨fun z => absurd z (by decide), fun z => absurd z (by decide), fun _ => hQ, fun z => absurd z (by decide), fun z => absurd z (by decide), fun z => absurd z (by decide), fun z => absurd z (by decide), fun z => absurd z (by decide), fun z => absurd z (by decide), fun z => absurd z (by decide), fun z => absurd z (by decide), fun z => absurd z (by decide), fun z => absurd z (by decide), fun z => absurd z (by decide), fun z => absurd z (by decide), fun z => absurd z (by decide), fun z => absurd z (by decide), fun _ _ z => absurd rfl z⟩
    · unfold wp_X8_count
      intro T1 f1
      subst f1
      have hv : J.1 6 = M.2 6 2 := (hJ.2 rfl).1.2.1
      rw [hv] at hQ
      refine b_within ?_
      rw [if_pos (by decide)]
      exact ⟨fun _ => ⟨fun _ => ⟨fun _ => ⟨fun _ => ⟨fun _ => ⟨okLit (by decide), hQ⟩, fun z => absurd z (by decide)⟩, fun z => absurd z (by decide)⟩, fun z => absurd z (by decide)⟩, fun z => absurd z (by decide)⟩, fun z => absurd z (by decide)⟩
  by_cases z3 : p = 3
  · subst z3
    refine FACE_get (K2 := K2) (S2 := S2) (A2 := A2) (C2 := C2) (Y := Y) h (v := J.1 7) (fun Q hQ => ?_) (fun Q hQ => ?_)
    · unfold wp_X7_count
      exact ⟨fun z => absurd z (by decide), fun z => absurd z (by decide), fun z => absurd z (by decide), fun _ => hQ, fun z => absurd z (by decide), fun z => absurd z (by decide), fun z => absurd z (by decide), fun z => absurd z (by decide), fun z => absurd z (by decide), fun z => absurd z (by decide), fun z => absurd z (by decide), fun z => absurd z (by decide), fun z => absurd z (by decide), fun z => absurd z (by decide), fun z => absurd z (by decide), fun z => absurd z (by decide), fun z => absurd z (by decide), fun _ _ _ z => absurd rfl z⟩
    · unfold wp_X8_count
      intro T1 f1
      subst f1
      have hv : J.1 7 = M.2 6 3 := (hJ.2 rfl).1.2.2.1
      rw [hv] at hQ
      refine b_within ?_
      rw [if_pos (by decide)]
      exact ⟨fun _ => ⟨fun _ => ⟨fun _ => ⟨fun _ => ⟨fun _ => ⟨okLit (by decide), hQ⟩, fun z => absurd z (by decide)⟩, fun z => absurd z (by decide)⟩, fun z => absurd z (by decide)⟩, fun z => absurd z (by decide)⟩, fun z => absurd z (by decide)⟩
  by_cases z4 : p = 4
  · subst z4
    refine FACE_get (K2 := K2) (S2 := S2) (A2 := A2) (C2 := C2) (Y := Y) h (v := J.1 8) (fun Q hQ => ?_) (fun Q hQ => ?_)
    · unfold wp_X7_count
      exact ⟨fun z => absurd z (by decide), fun z => absurd z (by decide), fun z => absurd z (by decide), fun z => absurd z (by decide), fun _ => hQ, fun z => absurd z (by decide), fun z => absurd z (by decide), fun z => absurd z (by decide), fun z => absurd z (by decide), fun z => absurd z (by decide), fun z => absurd z (by decide), fun z => absurd z (by decide), fun z => absurd z (by decide), fun z => absurd z (by decide), fun z => absurd z (by decide), fun z => absurd z (by decide), fun z => absurd z (by decide), fun _ _ _ _ z => absurd rfl z⟩
    · unfold wp_X8_count
      intro T1 f1
      subst f1
      have hv : J.1 8 = M.2 6 4 := (hJ.2 rfl).1.2.2.2.1
      rw [hv] at hQ
      refine b_within ?_
      rw [if_pos (by decide)]
      exact ⟨fun _ => ⟨fun _ => ⟨fun _ => ⟨fun _ => ⟨fun _ => ⟨okLit (by decide), hQ⟩, fun z => absurd z (by decide)⟩, fun z => absurd z (by decide)⟩, fun z => absurd z (by decide)⟩, fun z => absurd z (by decide)⟩, fun z => absurd z (by decide)⟩
  by_cases z5 : p = 5
  · subst z5
    refine FACE_get (K2 := K2) (S2 := S2) (A2 := A2) (C2 := C2) (Y := Y) h (v := J.1 9) (fun Q hQ => ?_) (fun Q hQ => ?_)
    · unfold wp_X7_count
      exact ⟨fun z => absurd z (by decide), fun z => absurd z (by decide), fun z => absurd z (by decide), fun z => absurd z (by decide), fun z => absurd z (by decide), fun _ => hQ, fun z => absurd z (by decide), fun z => absurd z (by decide), fun z => absurd z (by decide), fun z => absurd z (by decide), fun z => absurd z (by decide), fun z => absurd z (by decide), fun z => absurd z (by decide), fun z => absurd z (by decide), fun z => absurd z (by decide), fun z => absurd z (by decide), fun z => absurd z (by decide), fun _ _ _ _ _ z => absurd rfl z⟩
    · unfold wp_X8_count
      intro T1 f1
      subst f1
      have hv : J.1 9 = M.2 6 5 := (hJ.2 rfl).1.2.2.2.2.1
      rw [hv] at hQ
      refine b_within ?_
      rw [if_pos (by decide)]
      exact ⟨fun _ => ⟨fun _ => ⟨fun _ => ⟨fun _ => ⟨fun _ => ⟨okLit (by decide), hQ⟩, fun z => absurd z (by decide)⟩, fun z => absurd z (by decide)⟩, fun z => absurd z (by decide)⟩, fun z => absurd z (by decide)⟩, fun z => absurd z (by decide)⟩
  by_cases z6 : p = 6
  · subst z6
    refine FACE_get (K2 := K2) (S2 := S2) (A2 := A2) (C2 := C2) (Y := Y) h (v := J.1 10) (fun Q hQ => ?_) (fun Q hQ => ?_)
    · unfold wp_X7_count
      exact ⟨fun z => absurd z (by decide), fun z => absurd z (by decide), fun z => absurd z (by decide), fun z => absurd z (by decide), fun z => absurd z (by decide), fun z => absurd z (by decide), fun _ => hQ, fun z => absurd z (by decide), fun z => absurd z (by decide), fun z => absurd z (by decide), fun z => absurd z (by decide), fun z => absurd z (by decide), fun z => absurd z (by decide), fun z => absurd z (by decide), fun z => absurd z (by decide), fun z => absurd z (by decide), fun z => absurd z (by decide), fun _ _ _ _ _ _ z => absurd rfl z⟩
    · unfold wp_X8_count
      intro T1 f1
      subst f1
      have hv : J.1 10 = M.2 6 6 := (hJ.2 rfl).1.2.2.2.2.2.1
      rw [hv] at hQ
      refine b_within ?_
      rw [if_pos (by decide)]
      exact ⟨fun _ => ⟨fun _ => ⟨fun _ => ⟨fun _ => ⟨fun _ => ⟨okLit (by decide), hQ⟩, fun z => absurd z (by decide)⟩, fun z => absurd z (by decide)⟩, fun z => absurd z (by decide)⟩, fun z => absurd z (by decide)⟩, fun z => absurd z (by decide)⟩
  by_cases z7 : p = 7
  · subst z7
    refine FACE_get (K2 := K2) (S2 := S2) (A2 := A2) (C2 := C2) (Y := Y) h (v := J.1 11) (fun Q hQ => ?_) (fun Q hQ => ?_)
    · unfold wp_X7_count
      exact ⟨fun z => absurd z (by decide), fun z => absurd z (by decide), fun z => absurd z (by decide), fun z => absurd z (by decide), fun z => absurd z (by decide), fun z => absurd z (by decide), fun z => absurd z (by decide), fun _ => hQ, fun z => absurd z (by decide), fun z => absurd z (by decide), fun z => absurd z (by decide), fun z => absurd z (by decide), fun z => absurd z (by decide), fun z => absurd z (by decide), fun z => absurd z (by decide), fun z => absurd z (by decide), fun z => absurd z (by decide), fun _ _ _ _ _ _ _ z => absurd rfl z⟩
    · unfold wp_X8_count
      intro T1 f1
      subst f1
      have hv : J.1 11 = M.2 6 7 := (hJ.2 rfl).1.2.2.2.2.2.2.1
      rw [hv] at hQ
      refine b_within ?_
      rw [if_pos (by decide)]
      exact ⟨fun _ => ⟨fun _ => ⟨fun _ => ⟨fun _ => ⟨fun _ => ⟨okLit (by decide), hQ⟩, fun z => absurd z (by decide)⟩, fun z => absurd z (by decide)⟩, fun z => absurd z (by decide)⟩, fun z => absurd z (by decide)⟩, fun z => absurd z (by decide)⟩
  by_cases z8 : p = 8
  · subst z8
    refine FACE_get (K2 := K2) (S2 := S2) (A2 := A2) (C2 := C2) (Y := Y) h (v := J.1 12) (fun Q hQ => ?_) (fun Q hQ => ?_)
    · unfold wp_X7_count
      exact ⟨fun z => absurd z (by decide), fun z => absurd z (by decide), fun z => absurd z (by decide), fun z => absurd z (by decide), fun z => absurd z (by decide), fun z => absurd z (by decide), fun z => absurd z (by decide), fun z => absurd z (by decide), fun _ => hQ, fun z => absurd z (by decide), fun z => absurd z (by decide), fun z => absurd z (by decide), fun z => absurd z (by decide), fun z => absurd z (by decide), fun z => absurd z (by decide), fun z => absurd z (by decide), fun z => absurd z (by decide), fun _ _ _ _ _ _ _ _ z => absurd rfl z⟩
    · unfold wp_X8_count
      intro T1 f1
      subst f1
      have hv : J.1 12 = M.2 6 8 := (hJ.2 rfl).1.2.2.2.2.2.2.2.1
      rw [hv] at hQ
      refine b_within ?_
      rw [if_pos (by decide)]
      exact ⟨fun _ => ⟨fun _ => ⟨fun _ => ⟨fun _ => ⟨fun _ => ⟨okLit (by decide), hQ⟩, fun z => absurd z (by decide)⟩, fun z => absurd z (by decide)⟩, fun z => absurd z (by decide)⟩, fun z => absurd z (by decide)⟩, fun z => absurd z (by decide)⟩
  by_cases z9 : p = 9
  · subst z9
    refine FACE_get (K2 := K2) (S2 := S2) (A2 := A2) (C2 := C2) (Y := Y) h (v := S.1 15) (fun Q hQ => ?_) (fun Q hQ => ?_)
    · unfold wp_X7_count
      exact ⟨fun z => absurd z (by decide), fun z => absurd z (by decide), fun z => absurd z (by decide), fun z => absurd z (by decide), fun z => absurd z (by decide), fun z => absurd z (by decide), fun z => absurd z (by decide), fun z => absurd z (by decide), fun z => absurd z (by decide), fun _ => hQ, fun z => absurd z (by decide), fun z => absurd z (by decide), fun z => absurd z (by decide), fun z => absurd z (by decide), fun z => absurd z (by decide), fun z => absurd z (by decide), fun z => absurd z (by decide), fun _ _ _ _ _ _ _ _ _ z => absurd rfl z⟩
    · unfold wp_X8_count
      intro T1 f1
      subst f1
      have hv : S.1 15 = M.2 6 9 := (hS.2.2 rfl).2.2.2.2
      rw [hv] at hQ
      refine b_within ?_
      rw [if_pos (by decide)]
      exact ⟨fun _ => ⟨fun _ => ⟨fun _ => ⟨fun _ => ⟨fun _ => ⟨okLit (by decide), hQ⟩, fun z => absurd z (by decide)⟩, fun z => absurd z (by decide)⟩, fun z => absurd z (by decide)⟩, fun z => absurd z (by decide)⟩, fun z => absurd z (by decide)⟩
  by_cases z10 : p = 10
  · subst z10
    refine FACE_get (K2 := K2) (S2 := S2) (A2 := A2) (C2 := C2) (Y := Y) h (v := J.1 13) (fun Q hQ => ?_) (fun Q hQ => ?_)
    · unfold wp_X7_count
      exact ⟨fun z => absurd z (by decide), fun z => absurd z (by decide), fun z => absurd z (by decide), fun z => absurd z (by decide), fun z => absurd z (by decide), fun z => absurd z (by decide), fun z => absurd z (by decide), fun z => absurd z (by decide), fun z => absurd z (by decide), fun z => absurd z (by decide), fun _ => hQ, fun z => absurd z (by decide), fun z => absurd z (by decide), fun z => absurd z (by decide), fun z => absurd z (by decide), fun z => absurd z (by decide), fun z => absurd z (by decide), fun _ _ _ _ _ _ _ _ _ _ z => absurd rfl z⟩
    · unfold wp_X8_count
      intro T1 f1
      subst f1
      have hv : J.1 13 = M.2 6 10 := (hJ.2 rfl).1.2.2.2.2.2.2.2.2
      rw [hv] at hQ
      refine b_within ?_
      rw [if_pos (by decide)]
      exact ⟨fun _ => ⟨fun _ => ⟨fun _ => ⟨fun _ => ⟨fun _ => ⟨okLit (by decide), hQ⟩, fun z => absurd z (by decide)⟩, fun z => absurd z (by decide)⟩, fun z => absurd z (by decide)⟩, fun z => absurd z (by decide)⟩, fun z => absurd z (by decide)⟩
  by_cases z11 : p = 11
  · subst z11
    refine FACE_get (K2 := K2) (S2 := S2) (A2 := A2) (C2 := C2) (Y := Y) h (v := S.1 10) (fun Q hQ => ?_) (fun Q hQ => ?_)
    · unfold wp_X7_count
      exact ⟨fun z => absurd z (by decide), fun z => absurd z (by decide), fun z => absurd z (by decide), fun z => absurd z (by decide), fun z => absurd z (by decide), fun z => absurd z (by decide), fun z => absurd z (by decide), fun z => absurd z (by decide), fun z => absurd z (by decide), fun z => absurd z (by decide), fun z => absurd z (by decide), fun _ => hQ, fun z => absurd z (by decide), fun z => absurd z (by decide), fun z => absurd z (by decide), fun z => absurd z (by decide), fun z => absurd z (by decide), fun _ _ _ _ _ _ _ _ _ _ _ z => absurd rfl z⟩
    · unfold wp_X8_count
      intro T1 f1
      subst f1
      have hv : S.1 10 = M.2 4 30 := hS.1.1.1.1.1.1
      rw [hv] at hQ
      refine b_within ?_
      rw [if_pos (by decide)]
      exact ⟨fun _ => ⟨fun _ => ⟨fun z => absurd rfl z, fun _ => hQ⟩, fun z => absurd z (by decide)⟩, fun z => absurd z (by decide)⟩
  by_cases z12 : p = 12
  · subst z12
    refine FACE_get (K2 := K2) (S2 := S2) (A2 := A2) (C2 := C2) (Y := Y) h (v := S.1 11) (fun Q hQ => ?_) (fun Q hQ => ?_)
    · unfold wp_X7_count
      exact ⟨fun z => absurd z (by decide), fun z => absurd z (by decide), fun z => absurd z (by decide), fun z => absurd z (by decide), fun z => absurd z (by decide), fun z => absurd z (by decide), fun z => absurd z (by decide), fun z => absurd z (by decide), fun z => absurd z (by decide), fun z => absurd z (by decide), fun z => absurd z (by decide), fun z => absurd z (by decide), fun _ => hQ, fun z => absurd z (by decide), fun z => absurd z (by decide), fun z => absurd z (by decide), fun z => absurd z (by decide), fun _ _ _ _ _ _ _ _ _ _ _ _ z => absurd rfl z⟩
    · unfold wp_X8_count
      intro T1 f1
      subst f1
      have hv : S.1 11 = M.2 6 12 := (hS.2.2 rfl).2.2.2.1
      rw [hv] at hQ
      refine b_within ?_
      rw [if_pos (by decide)]
      exact ⟨fun _ => ⟨fun _ => ⟨fun _ => ⟨fun _ => ⟨fun _ => ⟨okLit (by decide), hQ⟩, fun z => absurd z (by decide)⟩, fun z => absurd z (by decide)⟩, fun z => absurd z (by decide)⟩, fun z => absurd z (by decide)⟩, fun z => absurd z (by decide)⟩
  by_cases z13 : p = 13
  · subst z13
    refine FACE_get (K2 := K2) (S2 := S2) (A2 := A2) (C2 := C2) (Y := Y) h (v := C.1 7) (fun Q hQ => ?_) (fun Q hQ => ?_)
    · unfold wp_X7_count
      exact ⟨fun z => absurd z (by decide), fun z => absurd z (by decide), fun z => absurd z (by decide), fun z => absurd z (by decide), fun z => absurd z (by decide), fun z => absurd z (by decide), fun z => absurd z (by decide), fun z => absurd z (by decide), fun z => absurd z (by decide), fun z => absurd z (by decide), fun z => absurd z (by decide), fun z => absurd z (by decide), fun z => absurd z (by decide), fun _ => hQ, fun z => absurd z (by decide), fun z => absurd z (by decide), fun z => absurd z (by decide), fun _ _ _ _ _ _ _ _ _ _ _ _ _ z => absurd rfl z⟩
    · unfold wp_X8_count
      intro T1 f1
      subst f1
      have hv : C.1 7 = M.2 6 13 := hC.2.2 rfl
      rw [hv] at hQ
      refine b_within ?_
      rw [if_pos (by decide)]
      exact ⟨fun _ => ⟨fun _ => ⟨fun _ => ⟨fun _ => ⟨fun _ => ⟨okLit (by decide), hQ⟩, fun z => absurd z (by decide)⟩, fun z => absurd z (by decide)⟩, fun z => absurd z (by decide)⟩, fun z => absurd z (by decide)⟩, fun z => absurd z (by decide)⟩
  by_cases z14 : p = 14
  · subst z14
    refine FACE_get (K2 := K2) (S2 := S2) (A2 := A2) (C2 := C2) (Y := Y) h (v := A.1 2) (fun Q hQ => ?_) (fun Q hQ => ?_)
    · unfold wp_X7_count
      exact ⟨fun z => absurd z (by decide), fun z => absurd z (by decide), fun z => absurd z (by decide), fun z => absurd z (by decide), fun z => absurd z (by decide), fun z => absurd z (by decide), fun z => absurd z (by decide), fun z => absurd z (by decide), fun z => absurd z (by decide), fun z => absurd z (by decide), fun z => absurd z (by decide), fun z => absurd z (by decide), fun z => absurd z (by decide), fun z => absurd z (by decide), fun _ => hQ, fun z => absurd z (by decide), fun z => absurd z (by decide), fun _ _ _ _ _ _ _ _ _ _ _ _ _ _ z => absurd rfl z⟩
    · unfold wp_X8_count
      intro T1 f1
      subst f1
      have hv : A.1 2 = M.2 4 31 := hA.1.1
      rw [hv] at hQ
      refine b_within ?_
      rw [if_pos (by decide)]
      exact ⟨fun _ => ⟨fun _ => ⟨fun _ => ⟨fun z => absurd rfl z, fun _ => hQ⟩, fun z => absurd z (by decide)⟩, fun z => absurd z (by decide)⟩, fun z => absurd z (by decide)⟩
  by_cases z15 : p = 15
  · subst z15
    refine FACE_get (K2 := K2) (S2 := S2) (A2 := A2) (C2 := C2) (Y := Y) h (v := J.1 4) (fun Q hQ => ?_) (fun Q hQ => ?_)
    · unfold wp_X7_count
      exact ⟨fun z => absurd z (by decide), fun z => absurd z (by decide), fun z => absurd z (by decide), fun z => absurd z (by decide), fun z => absurd z (by decide), fun z => absurd z (by decide), fun z => absurd z (by decide), fun z => absurd z (by decide), fun z => absurd z (by decide), fun z => absurd z (by decide), fun z => absurd z (by decide), fun z => absurd z (by decide), fun z => absurd z (by decide), fun z => absurd z (by decide), fun z => absurd z (by decide), fun _ => hQ, fun z => absurd z (by decide), fun _ _ _ _ _ _ _ _ _ _ _ _ _ _ _ z => absurd rfl z⟩
    · unfold wp_X8_count
      intro T1 f1
      subst f1
      have hv : J.1 4 = M.2 6 15 := (hJ.2 rfl).2.1.1
      rw [hv] at hQ
      refine b_within ?_
      rw [if_pos (by decide)]
      exact ⟨fun _ => ⟨fun _ => ⟨fun _ => ⟨fun _ => ⟨fun _ => ⟨okLit (by decide), hQ⟩, fun z => absurd z (by decide)⟩, fun z => absurd z (by decide)⟩, fun z => absurd z (by decide)⟩, fun z => absurd z (by decide)⟩, fun z => absurd z (by decide)⟩
  by_cases z16 : p = 16
  · subst z16
    obtain ⟨e, e1, e2, e3, e4, e5⟩ := (hJ.2 rfl).2.2
    have l24 : (24 : Int32).toInt = 24 := rfl
    refine FACE_get (K2 := K2) (S2 := S2) (A2 := A2) (C2 := C2) (Y := Y) h (v := J.1 2) (fun Q hQ => ?_) (fun Q hQ => ?_)
    · unfold wp_X7_count
      exact ⟨fun z => absurd z (by decide), fun z => absurd z (by decide), fun z => absurd z (by decide), fun z => absurd z (by decide), fun z => absurd z (by decide), fun z => absurd z (by decide), fun z => absurd z (by decide), fun z => absurd z (by decide), fun z => absurd z (by decide), fun z => absurd z (by decide), fun z => absurd z (by decide), fun z => absurd z (by decide), fun z => absurd z (by decide), fun z => absurd z (by decide), fun z => absurd z (by decide), fun z => absurd z (by decide), fun _ => hQ, fun _ _ _ _ _ _ _ _ _ _ _ _ _ _ _ _ z => absurd rfl z⟩
    · unfold wp_X8_count
      intro T1 f1
      subst f1
      refine b_within ?_
      rw [if_pos (by decide)]
      refine ⟨fun _ => ⟨fun _ => ⟨fun _ => ⟨fun _ => ⟨fun z => absurd rfl z, fun _ => ⟨fun z => ?_, fun z => ?_⟩⟩, fun z => absurd z (by decide)⟩, fun z => absurd z (by decide)⟩, fun z => absurd z (by decide)⟩, fun z => absurd z (by decide)⟩
      · have z : 24 ≤ M.1 11 := z
        rw [i_le] at z
        have ev : J.1 2 = 24 := i_eq.mpr (by omega)
        rw [ev] at hQ
        exact hQ
      · have z : ¬ 24 ≤ M.1 11 := z
        rw [i_le] at z
        have ev : J.1 2 = M.1 11 := i_eq.mpr (by omega)
        rw [ev] at hQ
        exact hQ
  have nr : ¬ ((0 : Int32).toInt ≤ p.toInt ∧ p.toInt ≤ (16 : Int32).toInt) := by
    have w0 : ¬ p.toInt = 0 := fun z => z0 (i_eq.mpr z)
    have w1 : ¬ p.toInt = 1 := fun z => z1 (i_eq.mpr z)
    have w2 : ¬ p.toInt = 2 := fun z => z2 (i_eq.mpr z)
    have w3 : ¬ p.toInt = 3 := fun z => z3 (i_eq.mpr z)
    have w4 : ¬ p.toInt = 4 := fun z => z4 (i_eq.mpr z)
    have w5 : ¬ p.toInt = 5 := fun z => z5 (i_eq.mpr z)
    have w6 : ¬ p.toInt = 6 := fun z => z6 (i_eq.mpr z)
    have w7 : ¬ p.toInt = 7 := fun z => z7 (i_eq.mpr z)
    have w8 : ¬ p.toInt = 8 := fun z => z8 (i_eq.mpr z)
    have w9 : ¬ p.toInt = 9 := fun z => z9 (i_eq.mpr z)
    have w10 : ¬ p.toInt = 10 := fun z => z10 (i_eq.mpr z)
    have w11 : ¬ p.toInt = 11 := fun z => z11 (i_eq.mpr z)
    have w12 : ¬ p.toInt = 12 := fun z => z12 (i_eq.mpr z)
    have w13 : ¬ p.toInt = 13 := fun z => z13 (i_eq.mpr z)
    have w14 : ¬ p.toInt = 14 := fun z => z14 (i_eq.mpr z)
    have w15 : ¬ p.toInt = 15 := fun z => z15 (i_eq.mpr z)
    have w16 : ¬ p.toInt = 16 := fun z => z16 (i_eq.mpr z)
    omega
  refine FACE_get (K2 := K2) (S2 := S2) (A2 := A2) (C2 := C2) (Y := Y) h (v := -1) (fun Q hQ => ?_) (fun Q hQ => ?_)
  · unfold wp_X7_count
    exact ⟨fun z => absurd z z0, fun z => absurd z z1, fun z => absurd z z2, fun z => absurd z z3, fun z => absurd z z4, fun z => absurd z z5, fun z => absurd z z6, fun z => absurd z z7, fun z => absurd z z8, fun z => absurd z z9, fun z => absurd z z10, fun z => absurd z z11, fun z => absurd z z12, fun z => absurd z z13, fun z => absurd z z14, fun z => absurd z z15, fun z => absurd z z16, fun _ _ _ _ _ _ _ _ _ _ _ _ _ _ _ _ _ => hQ⟩
  · unfold wp_X8_count
    intro T1 e1
    subst e1
    refine b_within ?_
    rw [if_neg nr]
    exact ⟨fun z => absurd rfl z, fun _ => hQ⟩
