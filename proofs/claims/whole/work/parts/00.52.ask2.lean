/-! LAYER 2: source, ahead, splits, escalates; reg, word, data, out, event -/
theorem sub_eq {S : Ob} {r : Nat → Int32} {b k : Int32} (R : limR S r) (K : rkOK S) (hk : okI k 21) (b0 : 0 ≤ b.toInt) (b7 : b.toInt ≤ 7) (h : ¬ k = 20) : S.2 0 k.toNatClampNeg &&& ((1 <<< (b &&& 31)) - 1) = subF S b k := by
  obtain ⟨h0, h1⟩ := ok_iff.mp hk
  have ne : ¬ k.toInt = 20 := fun z => h (i_eq.mpr z)
  have kk := K k.toNatClampNeg (by rw [i_nat]; omega)
  unfold subF
  rw [if_neg h, i_eq, (shr_r kk.1 kk.2 b0 b7).2.2, sub_r kk.1 kk.2 b0 b7]
theorem call_source {N T : Int} {B K K2 : Nat → Int32} {S A J C S2 A2 J2 C2 Y M : Ob} (h : REL N T B K S A J C J2 M) (p : Int32) (w : Int32) : FACE N T (fun Q => wp_X7_source (B, K, S, A, J, C, K2, S2, A2, J2, C2, Y) p w Q) (fun Q => wp_X8_source M p w Q) := by
  obtain ⟨hS, hA, hJ, hC, hB, hK, hp, hP, hJ2⟩ := id h
  have l0 : (0 : Int32).toInt = 0 := rfl
  have l20 : (20 : Int32).toInt = 20 := rfl
  have l21 : (21 : Int32).toInt = 21 := rfl
  have R : limR S (M.2 4) := hS.1.1.1.1
  have KK : rkOK S := hS.1.1.1.2.1
  have Sp := hS.1.1.1.2.2.2.2
  have eq : sa (si M 17 0) 4 (M.2 4) = si M 17 0 := sa_same (si M 17 0) 4
  by_cases c : 0 ≤ p.toInt ∧ p.toInt < 21
  · have ok : okI p 21 := ok_iff.mpr c
    have pn : p.toNatClampNeg < 21 := by rw [i_nat]; omega
    have hcl : ∀ Q : Int32 → TR7 → Prop, ((w = 0 → okI p 21 ∧ Q (S.2 0 p.toNatClampNeg) (B, K, S, A, J, C, K2, S2, A2, J2, C2, Y)) ∧ (w = 1 → okI p 21 ∧ Q (S.2 1 p.toNatClampNeg) (B, K, S, A, J, C, K2, S2, A2, J2, C2, Y)) ∧ (w = 2 → okI p 21 ∧ ((S.2 2 p.toNatClampNeg = 0 → Q 0 (B, K, S, A, J, C, K2, S2, A2, J2, C2, Y)) ∧ (¬ S.2 2 p.toNatClampNeg = 0 → Q 1 (B, K, S, A, J, C, K2, S2, A2, J2, C2, Y)))) ∧ (w = 3 → okI p 21 ∧ ((S.2 3 p.toNatClampNeg = 0 → Q 0 (B, K, S, A, J, C, K2, S2, A2, J2, C2, Y)) ∧ (¬ S.2 3 p.toNatClampNeg = 0 → Q 1 (B, K, S, A, J, C, K2, S2, A2, J2, C2, Y)))) ∧ (w = 4 → okI p 21 ∧ ((S.2 4 p.toNatClampNeg = 0 → Q 0 (B, K, S, A, J, C, K2, S2, A2, J2, C2, Y)) ∧ (¬ S.2 4 p.toNatClampNeg = 0 → Q 1 (B, K, S, A, J, C, K2, S2, A2, J2, C2, Y)))) ∧ (w = 5 → okI p 21 ∧ ((S.2 5 p.toNatClampNeg = 0 → Q 0 (B, K, S, A, J, C, K2, S2, A2, J2, C2, Y)) ∧ (¬ S.2 5 p.toNatClampNeg = 0 → Q 1 (B, K, S, A, J, C, K2, S2, A2, J2, C2, Y)))) ∧ (w = 6 → wp_X5_groupBy S p (S.1 12) (fun r10 u9 => Q r10 (B, K, u9, A, J, C, K2, S2, A2, J2, C2, Y))) ∧ (w = 7 → wp_X5_subOf S p (fun r12 u11 => Q r12 (B, K, u11, A, J, C, K2, S2, A2, J2, C2, Y))) ∧ (¬ w = 0 → ¬ w = 1 → ¬ w = 2 → ¬ w = 3 → ¬ w = 4 → ¬ w = 5 → ¬ w = 6 → ¬ w = 7 → Q (-2) (B, K, S, A, J, C, K2, S2, A2, J2, C2, Y))) → wp_X7_source (B, K, S, A, J, C, K2, S2, A2, J2, C2, Y) p w Q := by
      intro Q hQ
      unfold wp_X7_source
      refine b_isBelow ?_
      rw [if_pos (by omega)]
      exact ⟨fun _ => hQ, fun z => absurd z (by decide)⟩
    have hmo : ∀ Q : Int32 → Ob → Prop, ((w = 0 → ((¬ p = 20 → okI (173 + p) 342 ∧ Q (M.2 4 (Int32.toNatClampNeg (173 + p))) (si M 17 0)) ∧ (p = 20 → Q (-1) (si M 17 0)))) ∧ (w = 1 → okI p 21 ∧ Q (M.2 1 p.toNatClampNeg) (si M 17 0)) ∧ (w = 2 → okI p 21 ∧ ((M.2 2 p.toNatClampNeg = 0 → Q 0 (si M 17 0)) ∧ (¬ M.2 2 p.toNatClampNeg = 0 → Q 1 (si M 17 0)))) ∧ (w = 3 → okI (194 + p) 342 ∧ ((M.2 4 (Int32.toNatClampNeg (194 + p)) < 0 → Q 0 (si M 17 0)) ∧ (¬ M.2 4 (Int32.toNatClampNeg (194 + p)) < 0 → Q 1 (si M 17 0)))) ∧ (w = 4 → okI (300 + p) 342 ∧ Q (M.2 4 (Int32.toNatClampNeg (300 + p))) (si M 17 0)) ∧ (w = 5 → okI (215 + p) 342 ∧ Q (M.2 4 (Int32.toNatClampNeg (215 + p))) (si M 17 0)) ∧ (w = 6 → wp_X8_groupOf (M.2 4) p (M.1 3) (fun r10 u9 => Q r10 (sa (si M 17 0) 4 u9))) ∧ (w = 7 → wp_X8_subOf (M.2 4) p (M.1 3) (fun r12 u11 => Q r12 (sa (si M 17 0) 4 u11))) ∧ (¬ w = 0 → ¬ w = 1 → ¬ w = 2 → ¬ w = 3 → ¬ w = 4 → ¬ w = 5 → ¬ w = 6 → ¬ w = 7 → Q (-2) (si M 17 0))) → wp_X8_source M p w Q := by
      intro Q hQ
      unfold wp_X8_source
      intro T1 e1
      subst e1
      refine b_within ?_
      rw [if_pos (by omega)]
      exact ⟨fun _ => hQ, fun z => absurd z (by decide)⟩
    obtain ⟨o173, v173⟩ := at_off (r := M.2 4) (o := 173) (n := 173) (m := 21) (p := p) c.1 c.2 rfl (by omega)
    obtain ⟨o194, v194⟩ := at_off (r := M.2 4) (o := 194) (n := 194) (m := 21) (p := p) c.1 c.2 rfl (by omega)
    obtain ⟨o300, v300⟩ := at_off (r := M.2 4) (o := 300) (n := 300) (m := 21) (p := p) c.1 c.2 rfl (by omega)
    obtain ⟨o215, v215⟩ := at_off (r := M.2 4) (o := 215) (n := 215) (m := 21) (p := p) c.1 c.2 rfl (by omega)
    rw [v173, v194, v300, v215] at hmo
    by_cases z0 : w = 0
    · subst z0
      refine FACE_get (K2 := K2) (S2 := S2) (A2 := A2) (C2 := C2) (Y := Y) h (v := S.2 0 p.toNatClampNeg) (fun Q hQ => hcl Q ⟨fun _ => ⟨ok, hQ⟩, fun z => absurd z (by decide), fun z => absurd z (by decide), fun z => absurd z (by decide), fun z => absurd z (by decide), fun z => absurd z (by decide), fun z => absurd z (by decide), fun z => absurd z (by decide), fun z => absurd rfl z⟩) (fun Q hQ => hmo Q ⟨fun _ => ⟨fun z => ⟨o173, ?_⟩, fun z => ?_⟩, fun z => absurd z (by decide), fun z => absurd z (by decide), fun z => absurd z (by decide), fun z => absurd z (by decide), fun z => absurd z (by decide), fun z => absurd z (by decide), fun z => absurd z (by decide), fun z => absurd rfl z⟩)
      · have ne : ¬ p.toInt = 20 := fun y => z (i_eq.mpr y)
        rw [R.2.2.1 p.toNatClampNeg (by rw [i_nat]; omega)] at hQ
        exact hQ
      · rw [z] at hQ
        have e : S.2 0 (Int32.toNatClampNeg 20) = -1 := R.2.2.2.1
        rw [e] at hQ
        exact hQ
    by_cases z1 : w = 1
    · subst z1
      refine FACE_get (K2 := K2) (S2 := S2) (A2 := A2) (C2 := C2) (Y := Y) h (v := S.2 1 p.toNatClampNeg) (fun Q hQ => hcl Q ⟨fun z => absurd z (by decide), fun _ => ⟨ok, hQ⟩, fun z => absurd z (by decide), fun z => absurd z (by decide), fun z => absurd z (by decide), fun z => absurd z (by decide), fun z => absurd z (by decide), fun z => absurd z (by decide), fun _ z => absurd rfl z⟩) (fun Q hQ => hmo Q ⟨fun z => absurd z (by decide), fun _ => ⟨ok, ?_⟩, fun z => absurd z (by decide), fun z => absurd z (by decide), fun z => absurd z (by decide), fun z => absurd z (by decide), fun z => absurd z (by decide), fun z => absurd z (by decide), fun _ z => absurd rfl z⟩)
      rw [(hS.1.2.2.2.2.2.2 _ pn).1] at hQ
      exact hQ
    by_cases z2 : w = 2
    · subst z2
      have E := hS.1.1.1.2.2.2.1 _ pn
      by_cases d : S.2 2 p.toNatClampNeg = 0
      · exact FACE_get (K2 := K2) (S2 := S2) (A2 := A2) (C2 := C2) (Y := Y) h (v := 0) (fun Q hQ => hcl Q ⟨fun z => absurd z (by decide), fun z => absurd z (by decide), fun _ => ⟨ok, fun _ => hQ, fun z => absurd d z⟩, fun z => absurd z (by decide), fun z => absurd z (by decide), fun z => absurd z (by decide), fun z => absurd z (by decide), fun z => absurd z (by decide), fun _ _ z => absurd rfl z⟩) (fun Q hQ => hmo Q ⟨fun z => absurd z (by decide), fun z => absurd z (by decide), fun _ => ⟨ok, fun _ => hQ, fun z => absurd (E.symm.trans d) z⟩, fun z => absurd z (by decide), fun z => absurd z (by decide), fun z => absurd z (by decide), fun z => absurd z (by decide), fun z => absurd z (by decide), fun _ _ z => absurd rfl z⟩)
      · exact FACE_get (K2 := K2) (S2 := S2) (A2 := A2) (C2 := C2) (Y := Y) h (v := 1) (fun Q hQ => hcl Q ⟨fun z => absurd z (by decide), fun z => absurd z (by decide), fun _ => ⟨ok, fun z => absurd z d, fun _ => hQ⟩, fun z => absurd z (by decide), fun z => absurd z (by decide), fun z => absurd z (by decide), fun z => absurd z (by decide), fun z => absurd z (by decide), fun _ _ z => absurd rfl z⟩) (fun Q hQ => hmo Q ⟨fun z => absurd z (by decide), fun z => absurd z (by decide), fun _ => ⟨ok, fun z => absurd (E.trans z) d, fun _ => hQ⟩, fun z => absurd z (by decide), fun z => absurd z (by decide), fun z => absurd z (by decide), fun z => absurd z (by decide), fun z => absurd z (by decide), fun _ _ z => absurd rfl z⟩)
    by_cases z3 : w = 3
    · subst z3
      have E := hS.1.1.1.2.2.1 _ pn
      by_cases d : S.2 3 p.toNatClampNeg = 0
      · exact FACE_get (K2 := K2) (S2 := S2) (A2 := A2) (C2 := C2) (Y := Y) h (v := 0) (fun Q hQ => hcl Q ⟨fun z => absurd z (by decide), fun z => absurd z (by decide), fun z => absurd z (by decide), fun _ => ⟨ok, fun _ => hQ, fun z => absurd d z⟩, fun z => absurd z (by decide), fun z => absurd z (by decide), fun z => absurd z (by decide), fun z => absurd z (by decide), fun _ _ _ z => absurd rfl z⟩) (fun Q hQ => hmo Q ⟨fun z => absurd z (by decide), fun z => absurd z (by decide), fun z => absurd z (by decide), fun _ => ⟨o194, fun _ => hQ, fun z => absurd (E.mp d) z⟩, fun z => absurd z (by decide), fun z => absurd z (by decide), fun z => absurd z (by decide), fun z => absurd z (by decide), fun _ _ _ z => absurd rfl z⟩)
      · exact FACE_get (K2 := K2) (S2 := S2) (A2 := A2) (C2 := C2) (Y := Y) h (v := 1) (fun Q hQ => hcl Q ⟨fun z => absurd z (by decide), fun z => absurd z (by decide), fun z => absurd z (by decide), fun _ => ⟨ok, fun z => absurd z d, fun _ => hQ⟩, fun z => absurd z (by decide), fun z => absurd z (by decide), fun z => absurd z (by decide), fun z => absurd z (by decide), fun _ _ _ z => absurd rfl z⟩) (fun Q hQ => hmo Q ⟨fun z => absurd z (by decide), fun z => absurd z (by decide), fun z => absurd z (by decide), fun _ => ⟨o194, fun z => absurd (E.mpr z) d, fun _ => hQ⟩, fun z => absurd z (by decide), fun z => absurd z (by decide), fun z => absurd z (by decide), fun z => absurd z (by decide), fun _ _ _ z => absurd rfl z⟩)
    by_cases z4 : w = 4
    · subst z4
      obtain ⟨E, Eb⟩ := hS.1.2.2.2.2.1 _ pn
      refine FACE_get (K2 := K2) (S2 := S2) (A2 := A2) (C2 := C2) (Y := Y) h (v := S.2 4 p.toNatClampNeg) (fun Q hQ => hcl Q ⟨fun z => absurd z (by decide), fun z => absurd z (by decide), fun z => absurd z (by decide), fun z => absurd z (by decide), fun _ => ⟨ok, fun z => ?_, fun z => ?_⟩, fun z => absurd z (by decide), fun z => absurd z (by decide), fun z => absurd z (by decide), fun _ _ _ _ z => absurd rfl z⟩) (fun Q hQ => hmo Q ⟨fun z => absurd z (by decide), fun z => absurd z (by decide), fun z => absurd z (by decide), fun z => absurd z (by decide), fun _ => ⟨o300, ?_⟩, fun z => absurd z (by decide), fun z => absurd z (by decide), fun z => absurd z (by decide), fun _ _ _ _ z => absurd rfl z⟩)
      · rw [z] at hQ; exact hQ
      · rw [isB_ne Eb z] at hQ; exact hQ
      · rw [E] at hQ; exact hQ
    by_cases z5 : w = 5
    · subst z5
      obtain ⟨E, Eb⟩ := hS.1.2.2.2.2.2.1 _ pn
      refine FACE_get (K2 := K2) (S2 := S2) (A2 := A2) (C2 := C2) (Y := Y) h (v := S.2 5 p.toNatClampNeg) (fun Q hQ => hcl Q ⟨fun z => absurd z (by decide), fun z => absurd z (by decide), fun z => absurd z (by decide), fun z => absurd z (by decide), fun z => absurd z (by decide), fun _ => ⟨ok, fun z => ?_, fun z => ?_⟩, fun z => absurd z (by decide), fun z => absurd z (by decide), fun _ _ _ _ _ z => absurd rfl z⟩) (fun Q hQ => hmo Q ⟨fun z => absurd z (by decide), fun z => absurd z (by decide), fun z => absurd z (by decide), fun z => absurd z (by decide), fun z => absurd z (by decide), fun _ => ⟨o215, ?_⟩, fun z => absurd z (by decide), fun z => absurd z (by decide), fun _ _ _ _ _ z => absurd rfl z⟩)
      · rw [z] at hQ; exact hQ
      · rw [isB_ne Eb z] at hQ; exact hQ
      · rw [E] at hQ; exact hQ
    have e3 : M.1 3 = S.1 12 := Sp.1.symm
    rw [e3] at hmo
    by_cases z6 : w = 6
    · subst z6
      refine FACE_get (K2 := K2) (S2 := S2) (A2 := A2) (C2 := C2) (Y := Y) h (v := S.2 0 p.toNatClampNeg >>> (S.1 12 &&& 31)) (fun Q hQ => hcl Q ⟨fun z => absurd z (by decide), fun z => absurd z (by decide), fun z => absurd z (by decide), fun z => absurd z (by decide), fun z => absurd z (by decide), fun z => absurd z (by decide), fun _ => ⟨ok, hQ⟩, fun z => absurd z (by decide), fun _ _ _ _ _ _ z => absurd rfl z⟩) (fun Q hQ => hmo Q ⟨fun z => absurd z (by decide), fun z => absurd z (by decide), fun z => absurd z (by decide), fun z => absurd z (by decide), fun z => absurd z (by decide), fun z => absurd z (by decide), fun _ => b_group R ok Sp.2.1 Sp.2.2 ?_, fun z => absurd z (by decide), fun _ _ _ _ _ _ z => absurd rfl z⟩)
      rw [eq]
      exact hQ
    by_cases z7 : w = 7
    · subst z7
      refine FACE_get (K2 := K2) (S2 := S2) (A2 := A2) (C2 := C2) (Y := Y) h (v := subF S (S.1 12) p) (fun Q hQ => hcl Q ⟨fun z => absurd z (by decide), fun z => absurd z (by decide), fun z => absurd z (by decide), fun z => absurd z (by decide), fun z => absurd z (by decide), fun z => absurd z (by decide), fun z => absurd z (by decide), fun _ => ⟨fun z => ⟨ok, ?_⟩, fun z => ?_⟩, fun _ _ _ _ _ _ _ z => absurd rfl z⟩) (fun Q hQ => hmo Q ⟨fun z => absurd z (by decide), fun z => absurd z (by decide), fun z => absurd z (by decide), fun z => absurd z (by decide), fun z => absurd z (by decide), fun z => absurd z (by decide), fun z => absurd z (by decide), fun _ => b_sub R ok ?_, fun _ _ _ _ _ _ _ z => absurd rfl z⟩)
      · rw [← sub_eq R KK ok Sp.2.1 Sp.2.2 z] at hQ
        exact hQ
      · unfold subF at hQ
        rw [if_pos z] at hQ
        exact hQ
      · rw [eq]
        exact hQ
    exact FACE_get (K2 := K2) (S2 := S2) (A2 := A2) (C2 := C2) (Y := Y) h (v := -2) (fun Q hQ => hcl Q ⟨fun z => absurd z z0, fun z => absurd z z1, fun z => absurd z z2, fun z => absurd z z3, fun z => absurd z z4, fun z => absurd z z5, fun z => absurd z z6, fun z => absurd z z7, fun _ _ _ _ _ _ _ _ => hQ⟩) (fun Q hQ => hmo Q ⟨fun z => absurd z z0, fun z => absurd z z1, fun z => absurd z z2, fun z => absurd z z3, fun z => absurd z z4, fun z => absurd z z5, fun z => absurd z z6, fun z => absurd z z7, fun _ _ _ _ _ _ _ _ => hQ⟩)
  · refine FACE_get (K2 := K2) (S2 := S2) (A2 := A2) (C2 := C2) (Y := Y) h (v := -2) (fun Q hQ => ?_) (fun Q hQ => ?_)
    · unfold wp_X7_source
      refine b_isBelow ?_
      rw [if_neg (by omega)]
      exact ⟨fun z => absurd rfl z, fun _ => hQ⟩
    · unfold wp_X8_source
      intro T1 e1
      subst e1
      refine b_within ?_
      rw [if_neg (by omega)]
      exact ⟨fun z => absurd rfl z, fun _ => hQ⟩
theorem call_ahead {N T : Int} {B K K2 : Nat → Int32} {S A J C S2 A2 J2 C2 Y M : Ob} (h : REL N T B K S A J C J2 M) (p : Int32) (q : Int32) : FACE N T (fun Q => wp_X7_ahead (B, K, S, A, J, C, K2, S2, A2, J2, C2, Y) p q Q) (fun Q => wp_X8_ahead M p q Q) := by
  obtain ⟨hS, hA, hJ, hC, hB, hK, hp, hP, hJ2⟩ := id h
  have l0 : (0 : Int32).toInt = 0 := rfl
  have l20 : (20 : Int32).toInt = 20 := rfl
  have l21 : (21 : Int32).toInt = 21 := rfl
  have R : limR S (M.2 4) := hS.1.1.1.1
  have KK : rkOK S := hS.1.1.1.2.1
  have Sp := hS.1.1.1.2.2.2.2
  by_cases c : 0 ≤ p.toInt ∧ p.toInt < 21
  · by_cases d : 0 ≤ q.toInt ∧ q.toInt < 21
    · have okp : okI p 21 := ok_iff.mpr c
      have okq : okI q 21 := ok_iff.mpr d
      have hcl : ∀ Q : Int32 → TR7 → Prop, ((p = q → Q 0 (B, K, S, A, J, C, K2, S2, A2, J2, C2, Y)) ∧ (¬ p = q → ((precF S p q = 0 → Q 0 (B, K, S, A, J, C, K2, S2, A2, J2, C2, Y)) ∧ (¬ precF S p q = 0 → Q 1 (B, K, S, A, J, C, K2, S2, A2, J2, C2, Y))))) → wp_X7_ahead (B, K, S, A, J, C, K2, S2, A2, J2, C2, Y) p q Q := by
        intro Q hQ
        unfold wp_X7_ahead
        refine b_isBelow ?_
        rw [if_pos (by omega)]
        refine ⟨fun z => absurd z (by decide), fun _ => b_isBelow ?_⟩
        rw [if_pos (by omega)]
        exact ⟨fun z => absurd z (by decide), fun _ => ⟨hQ.1, fun z => prec_class okp okq (hQ.2 z)⟩⟩
      have hmo : ∀ Q : Int32 → Ob → Prop, ((p = q → Q 0 (si M 17 0)) ∧ (¬ p = q → ((precF S p q = 0 → Q 0 (si M 17 0)) ∧ (¬ precF S p q = 0 → Q 1 (si M 17 0))))) → wp_X8_ahead M p q Q := by
        intro Q hQ
        unfold wp_X8_ahead
        intro T1 e1
        subst e1
        refine b_within ?_
        rw [if_pos (by omega)]
        refine ⟨fun z => absurd z (by decide), fun _ => b_within ?_⟩
        rw [if_pos (by omega)]
        refine ⟨fun z => absurd z (by decide), fun _ => ⟨hQ.1, fun z => less_model (S := S) R KK (by show 0 ≤ (M.1 3).toInt; rw [← Sp.1]; exact Sp.2.1) (by show (M.1 3).toInt ≤ 7; rw [← Sp.1]; exact Sp.2.2) okp okq ?_⟩⟩
        rw [mnow_self]
        exact hQ.2 z
      by_cases e : p = q
      · exact FACE_get (K2 := K2) (S2 := S2) (A2 := A2) (C2 := C2) (Y := Y) h (v := 0) (fun Q hQ => hcl Q ⟨fun _ => hQ, fun z => absurd e z⟩) (fun Q hQ => hmo Q ⟨fun _ => hQ, fun z => absurd e z⟩)
      · by_cases f : precF S p q = 0
        · exact FACE_get (K2 := K2) (S2 := S2) (A2 := A2) (C2 := C2) (Y := Y) h (v := 0) (fun Q hQ => hcl Q ⟨fun z => absurd z e, fun _ => ⟨fun _ => hQ, fun z => absurd f z⟩⟩) (fun Q hQ => hmo Q ⟨fun z => absurd z e, fun _ => ⟨fun _ => hQ, fun z => absurd f z⟩⟩)
        · exact FACE_get (K2 := K2) (S2 := S2) (A2 := A2) (C2 := C2) (Y := Y) h (v := 1) (fun Q hQ => hcl Q ⟨fun z => absurd z e, fun _ => ⟨fun z => absurd z f, fun _ => hQ⟩⟩) (fun Q hQ => hmo Q ⟨fun z => absurd z e, fun _ => ⟨fun z => absurd z f, fun _ => hQ⟩⟩)
    · refine FACE_get (K2 := K2) (S2 := S2) (A2 := A2) (C2 := C2) (Y := Y) h (v := 0) (fun Q hQ => ?_) (fun Q hQ => ?_)
      · unfold wp_X7_ahead
        refine b_isBelow ?_
        rw [if_pos (by omega)]
        refine ⟨fun z => absurd z (by decide), fun _ => b_isBelow ?_⟩
        rw [if_neg (by omega)]
        exact ⟨fun _ => hQ, fun z => absurd rfl z⟩
      · unfold wp_X8_ahead
        intro T1 e1
        subst e1
        refine b_within ?_
        rw [if_pos (by omega)]
        refine ⟨fun z => absurd z (by decide), fun _ => b_within ?_⟩
        rw [if_neg (by omega)]
        exact ⟨fun _ => hQ, fun z => absurd rfl z⟩
  · refine FACE_get (K2 := K2) (S2 := S2) (A2 := A2) (C2 := C2) (Y := Y) h (v := 0) (fun Q hQ => ?_) (fun Q hQ => ?_)
    · unfold wp_X7_ahead
      refine b_isBelow ?_
      rw [if_neg (by omega)]
      exact ⟨fun _ => hQ, fun z => absurd rfl z⟩
    · unfold wp_X8_ahead
      intro T1 e1
      subst e1
      refine b_within ?_
      rw [if_neg (by omega)]
      exact ⟨fun _ => hQ, fun z => absurd rfl z⟩
theorem call_escalates {N T : Int} {B K K2 : Nat → Int32} {S A J C S2 A2 J2 C2 Y M : Ob} (h : REL N T B K S A J C J2 M) (p : Int32) : FACE N T (fun Q => wp_X7_escalates (B, K, S, A, J, C, K2, S2, A2, J2, C2, Y) p Q) (fun Q => wp_X8_escalates M p Q) := by
  obtain ⟨hS, hA, hJ, hC, hB, hK, hp, hP, hJ2⟩ := id h
  have R : limR S (M.2 4) := hS.1.1.1.1
  have e20 : K 5 = M.2 4 20 := hK.2.1
  by_cases z18 : p = 18
  · subst z18
    have okp : okI (18 : Int32) 21 := okLit (by decide)
    have hok := taker_ok (S := S) okp
    by_cases d : K 5 = 5
    · have dm : M.2 4 20 = 5 := e20.symm.trans d
      refine FACE_get (K2 := K2) (S2 := S2) (A2 := A2) (C2 := C2) (Y := Y) h (v := -2) (fun Q hQ => ?_) (fun Q hQ => ?_)
      · unfold wp_X7_escalates
        exact ⟨fun _ => ⟨fun z => absurd d z, fun _ => ⟨fun z => absurd rfl z, fun _ => hQ⟩⟩, fun z => absurd rfl z⟩
      · unfold wp_X8_escalates
        intro T1 e1
        subst e1
        exact ⟨fun _ => ⟨fun z => absurd dm z, fun _ => ⟨fun z => absurd z (by decide), fun _ => hQ⟩⟩, fun z => absurd rfl z⟩
    · have dm : ¬ M.2 4 20 = 5 := fun z => d (e20.trans z)
      by_cases t : takerF S 18 = -1
      · refine FACE_get (K2 := K2) (S2 := S2) (A2 := A2) (C2 := C2) (Y := Y) h (v := -2) (fun Q hQ => ?_) (fun Q hQ => ?_)
        · unfold wp_X7_escalates
          exact ⟨fun _ => ⟨fun _ => taker_class R okp ⟨fun z => absurd t z, fun _ => hQ⟩, fun z => absurd z d⟩, fun z => absurd rfl z⟩
        · unfold wp_X8_escalates
          intro T1 e1
          subst e1
          refine ⟨fun _ => ⟨fun _ => target_model (S := S) hS.1.1 okp ?_, fun z => absurd z dm⟩, fun z => absurd rfl z⟩
          rw [mnow_self, t]
          exact ⟨fun z => absurd z (by decide), fun _ => hQ⟩
      · refine FACE_get (K2 := K2) (S2 := S2) (A2 := A2) (C2 := C2) (Y := Y) h (v := takerF S 18) (fun Q hQ => ?_) (fun Q hQ => ?_)
        · unfold wp_X7_escalates
          exact ⟨fun _ => ⟨fun _ => taker_class R okp ⟨fun _ => hQ, fun z => absurd z t⟩, fun z => absurd z d⟩, fun z => absurd rfl z⟩
        · unfold wp_X8_escalates
          intro T1 e1
          subst e1
          refine ⟨fun _ => ⟨fun _ => target_model (S := S) hS.1.1 okp ?_, fun z => absurd z dm⟩, fun z => absurd rfl z⟩
          rw [mnow_self]
          exact ⟨fun _ => hQ, fun z => absurd ((okB_le hok).mpr t) z⟩
  by_cases z19 : p = 19
  · subst z19
    have okp : okI (19 : Int32) 21 := okLit (by decide)
    have hok := taker_ok (S := S) okp
    by_cases d : K 5 = 5
    · have dm : M.2 4 20 = 5 := e20.symm.trans d
      refine FACE_get (K2 := K2) (S2 := S2) (A2 := A2) (C2 := C2) (Y := Y) h (v := -2) (fun Q hQ => ?_) (fun Q hQ => ?_)
      · unfold wp_X7_escalates
        exact ⟨fun z => absurd z (by decide), fun _ => ⟨fun _ => ⟨fun z => absurd d z, fun _ => ⟨fun z => absurd rfl z, fun _ => hQ⟩⟩, fun z => absurd rfl z⟩⟩
      · unfold wp_X8_escalates
        intro T1 e1
        subst e1
        exact ⟨fun z => absurd z (by decide), fun _ => ⟨fun _ => ⟨fun z => absurd dm z, fun _ => ⟨fun z => absurd z (by decide), fun _ => hQ⟩⟩, fun z => absurd rfl z⟩⟩
    · have dm : ¬ M.2 4 20 = 5 := fun z => d (e20.trans z)
      by_cases t : takerF S 19 = -1
      · refine FACE_get (K2 := K2) (S2 := S2) (A2 := A2) (C2 := C2) (Y := Y) h (v := -2) (fun Q hQ => ?_) (fun Q hQ => ?_)
        · unfold wp_X7_escalates
          exact ⟨fun z => absurd z (by decide), fun _ => ⟨fun _ => ⟨fun _ => taker_class R okp ⟨fun z => absurd t z, fun _ => hQ⟩, fun z => absurd z d⟩, fun z => absurd rfl z⟩⟩
        · unfold wp_X8_escalates
          intro T1 e1
          subst e1
          refine ⟨fun z => absurd z (by decide), fun _ => ⟨fun _ => ⟨fun _ => target_model (S := S) hS.1.1 okp ?_, fun z => absurd z dm⟩, fun z => absurd rfl z⟩⟩
          rw [mnow_self, t]
          exact ⟨fun z => absurd z (by decide), fun _ => hQ⟩
      · refine FACE_get (K2 := K2) (S2 := S2) (A2 := A2) (C2 := C2) (Y := Y) h (v := takerF S 19) (fun Q hQ => ?_) (fun Q hQ => ?_)
        · unfold wp_X7_escalates
          exact ⟨fun z => absurd z (by decide), fun _ => ⟨fun _ => ⟨fun _ => taker_class R okp ⟨fun _ => hQ, fun z => absurd z t⟩, fun z => absurd z d⟩, fun z => absurd rfl z⟩⟩
        · unfold wp_X8_escalates
          intro T1 e1
          subst e1
          refine ⟨fun z => absurd z (by decide), fun _ => ⟨fun _ => ⟨fun _ => target_model (S := S) hS.1.1 okp ?_, fun z => absurd z dm⟩, fun z => absurd rfl z⟩⟩
          rw [mnow_self]
          exact ⟨fun _ => hQ, fun z => absurd ((okB_le hok).mpr t) z⟩
  refine FACE_get (K2 := K2) (S2 := S2) (A2 := A2) (C2 := C2) (Y := Y) h (v := -1) (fun Q hQ => ?_) (fun Q hQ => ?_)
  · unfold wp_X7_escalates
    exact ⟨fun z => absurd z z18, fun _ => ⟨fun z => absurd z z19, fun _ => hQ⟩⟩
  · unfold wp_X8_escalates
    intro T1 e1
    subst e1
    exact ⟨fun z => absurd z z18, fun _ => ⟨fun z => absurd z z19, fun _ => hQ⟩⟩
def loN (b : Nat → Nat) : Nat → Nat
  | 0 => 0
  | k + 1 => loN b k + b k * 2 ^ k
def hiN (b : Nat → Nat) : Nat → Nat
  | 0 => 0
  | m + 1 => 2 * hiN b m + b (7 - m)
theorem or_bit : ∀ k : Nat, k < 8 → ∀ a : Nat, a < 256 → a < 2 ^ k → (Int32.ofNat a ||| (1 <<< (Int32.ofNat k &&& 31))) = Int32.ofNat (a + 2 ^ k) := by decide +kernel
theorem dbl_bit : ∀ a : Nat, a < 128 → (2 * Int32.ofNat a + 0 = Int32.ofNat (2 * a)) ∧ (2 * Int32.ofNat a + 1 = Int32.ofNat (2 * a + 1)) := by decide +kernel
theorem lo_lt (b : Nat → Nat) (hb : ∀ k, b k ≤ 1) : ∀ k, loN b k < 2 ^ k := by
  intro k
  induction k with
  | zero => exact (by decide : 0 < 1)
  | succ k ih =>
    unfold loN
    have h1 := hb k
    have e : 2 ^ (k + 1) = 2 * 2 ^ k := by rw [Nat.pow_succ]; omega
    rcases (show b k = 0 ∨ b k = 1 by omega) with z | z
    · rw [z, e]; omega
    · rw [z, e]; omega
theorem hi_lt (b : Nat → Nat) (hb : ∀ k, b k ≤ 1) : ∀ m, hiN b m < 2 ^ m := by
  intro m
  induction m with
  | zero => exact (by decide : 0 < 1)
  | succ m ih =>
    unfold hiN
    have h1 := hb (7 - m)
    have e : 2 ^ (m + 1) = 2 * 2 ^ m := by rw [Nat.pow_succ]; omega
    rw [e]
    omega
theorem lo_hi (b : Nat → Nat) : loN b 8 = hiN b 8 := by
  simp only [loN, hiN]
  rw [show 7 - 0 = 7 from rfl, show 7 - 1 = 6 from rfl, show 7 - 2 = 5 from rfl, show 7 - 3 = 4 from rfl, show 7 - 4 = 3 from rfl, show 7 - 5 = 2 from rfl, show 7 - 6 = 1 from rfl, show 7 - 7 = 0 from rfl]
  omega
/-- whether a source would break in by a split, as a digit -/
def spB (S : Ob) (p : Int32) (k : Nat) : Nat := if limF S (Int32.ofNat k) (S.1 14) ≤ S.2 0 p.toNatClampNeg >>> (Int32.ofNat k &&& 31) then 0 else 1
theorem spB_le (S : Ob) (p : Int32) (k : Nat) : spB S p k ≤ 1 := by
  unfold spB
  split <;> decide
theorem spl_class {B K K2 : Nat → Int32} {S A J C S2 A2 J2 C2 Y : Ob} {r : Nat → Int32} {p : Int32} {Q : Int32 → TR7 → Prop} (R : limR S r) (ok : okI p 21) (hQ : Q (Int32.ofNat (loN (spB S p) 8)) (B, K, S, A, J, C, K2, S2, A2, J2, C2, Y)) : ∀ (m k n : Nat), k + m = 8 → m < n → wp_X7_splits_L15 Q n p (Int32.ofNat (loN (spB S p) k)) (Int32.ofNat k) (B, K, S, A, J, C, K2, S2, A2, J2, C2, Y) := by
  intro m
  induction m with
  | zero =>
    intro k n hk hn
    obtain ⟨n, rfl⟩ : ∃ z, n = z + 1 := ⟨n - 1, by omega⟩
    have k8 : k = 8 := by omega
    subst k8
    unfold wp_X7_splits_L15
    exact ⟨fun _ => hQ, fun z => absurd (by decide) z⟩
  | succ m ih =>
    intro k n hk hn
    obtain ⟨n, rfl⟩ : ∃ z, n = z + 1 := ⟨n - 1, by omega⟩
    have hk0 := i_ofNat (k := k) (by omega)
    have hks := of_succ (k := k) (by omega)
    have l7 : (7 : Int32).toInt = 7 := rfl
    have hl := lo_lt (spB S p) (spB_le S p) k
    have hl8 : loN (spB S p) k < 256 := Nat.lt_of_lt_of_le hl (Nat.pow_le_pow_right (by decide) (show k ≤ 8 by omega))
    have st := ih (k + 1) n (by omega) (by omega)
    have hd : spB S p k = if limF S (Int32.ofNat k) (S.1 14) ≤ S.2 0 p.toNatClampNeg >>> (Int32.ofNat k &&& 31) then 0 else 1 := rfl
    unfold wp_X7_splits_L15
    refine ⟨fun z => absurd (i_lt.mp z) (by omega), fun _ => ⟨ok, lim_class (fun k hk => (R.2.1 k hk).2) R.1.2.1 R.1.2.2 ⟨fun z x10 e10 => ?_, fun z x11 e11 x12 e12 => ?_⟩⟩⟩
    · rw [if_pos z] at hd
      rw [e10, hks]
      have e : loN (spB S p) (k + 1) = loN (spB S p) k := by show loN (spB S p) k + spB S p k * 2 ^ k = _; rw [hd]; omega
      rw [e] at st
      exact st
    · rw [if_neg z] at hd
      rw [e11, e12, hks, or_bit k (by omega) _ hl8 hl]
      have e : loN (spB S p) (k + 1) = loN (spB S p) k + 2 ^ k := by show loN (spB S p) k + spB S p k * 2 ^ k = _; rw [hd]; omega
      rw [e] at st
      exact st
theorem spl_model {S M : Ob} {p : Int32} {Q : Int32 → Ob → Prop} (R : limR S (M.2 4)) (e16 : S.1 14 = M.2 4 16) (ok : okI p 21) (hQ : Q (Int32.ofNat (hiN (spB S p) 8)) M) : ∀ (m k n : Nat), k + m = 8 → m < n → wp_X8_splits_L22 Q n p (Int32.ofNat (hiN (spB S p) k)) (Int32.ofInt (7 - (k : Int))) M := by
  have eq : sa (sa M 4 (M.2 4)) 4 (M.2 4) = M := by rw [sa_same, sa_same]
  intro m
  induction m with
  | zero =>
    intro k n hk hn
    obtain ⟨n, rfl⟩ : ∃ z, n = z + 1 := ⟨n - 1, by omega⟩
    have k8 : k = 8 := by omega
    subst k8
    unfold wp_X8_splits_L22
    exact ⟨fun _ => hQ, fun z => absurd (by decide) z⟩
  | succ m ih =>
    intro k n hk hn
    obtain ⟨n, rfl⟩ : ∃ z, n = z + 1 := ⟨n - 1, by omega⟩
    have k7 : k ≤ 7 := by omega
    have e7 : Int32.ofInt (7 - (k : Int)) = Int32.ofNat (7 - k) := by
      rw [show 7 - (k : Int) = ((7 - k : Nat) : Int) by omega]; rfl
    have hk0 := i_ofNat (k := 7 - k) (by omega)
    have l0 : (0 : Int32).toInt = 0 := rfl
    have lm : (-1 : Int32).toInt = -1 := rfl
    have e6 : Int32.ofNat (7 - k) + (-1) = Int32.ofInt (7 - ((k + 1 : Nat) : Int)) := by
      have a : (Int32.ofNat (7 - k) + (-1)).toInt = 7 - ((k + 1 : Nat) : Int) := by rw [i_add (by omega) (by omega), hk0, lm]; omega
      rw [← a, Int32.ofInt_toInt]
    have hl := hi_lt (spB S p) (spB_le S p) k
    have hl8 : hiN (spB S p) k < 128 := Nat.lt_of_lt_of_le hl (Nat.pow_le_pow_right (by decide) (show k ≤ 7 by omega))
    obtain ⟨db0, db1⟩ := dbl_bit _ hl8
    have st := ih (k + 1) n (by omega) (by omega)
    have hd : spB S p (7 - k) = if limF S (Int32.ofNat (7 - k)) (S.1 14) ≤ S.2 0 p.toNatClampNeg >>> (Int32.ofNat (7 - k) &&& 31) then 0 else 1 := rfl
    have fin : ∀ v : Int32, v = (if limF S (Int32.ofNat (7 - k)) (S.1 14) ≤ S.2 0 p.toNatClampNeg >>> (Int32.ofNat (7 - k) &&& 31) then 2 * Int32.ofNat (hiN (spB S p) k) + 0 else 2 * Int32.ofNat (hiN (spB S p) k) + 1) → wp_X8_splits_L22 Q n p v (Int32.ofNat (7 - k) + (-1)) M := by
      intro v hv
      have e : hiN (spB S p) (k + 1) = 2 * hiN (spB S p) k + spB S p (7 - k) := rfl
      rw [e6, hv]
      by_cases z : limF S (Int32.ofNat (7 - k)) (S.1 14) ≤ S.2 0 p.toNatClampNeg >>> (Int32.ofNat (7 - k) &&& 31)
      · rw [if_pos z, db0]
        rw [if_pos z] at hd
        rw [e, hd, Nat.add_zero] at st
        exact st
      · rw [if_neg z, db1]
        rw [if_neg z] at hd
        rw [e, hd] at st
        exact st
    rw [e7]
    unfold wp_X8_splits_L22
    refine ⟨fun z => absurd (i_lt.mp z) (by omega), fun _ => b_group R ok (by omega) (by omega) ⟨fun z => ?_, fun z => ?_⟩⟩
    · refine lim_model (shut := S.1 14) R (by omega) (by omega) ⟨fun y => absurd (e16.symm.trans y) z, fun y => absurd rfl y⟩ ?_
      rw [eq]
      refine ⟨fun y x12 e12 x13 e13 => ?_, fun y x12 e12 x13 e13 => ?_⟩
      · rw [e13]; exact fin x12 (by rw [if_pos y]; exact e12)
      · rw [e13]; exact fin x12 (by rw [if_neg y]; exact e12)
    · refine lim_model (shut := S.1 14) R (by omega) (by omega) ⟨fun _ => by decide, fun _ => e16.trans z⟩ ?_
      rw [eq]
      refine ⟨fun y x12 e12 x13 e13 => ?_, fun y x12 e12 x13 e13 => ?_⟩
      · rw [e13]; exact fin x12 (by rw [if_pos y]; exact e12)
      · rw [e13]; exact fin x12 (by rw [if_neg y]; exact e12)
theorem call_splits {N T : Int} {B K K2 : Nat → Int32} {S A J C S2 A2 J2 C2 Y M : Ob} (h : REL N T B K S A J C J2 M) (p : Int32) : FACE N T (fun Q => wp_X7_splits (B, K, S, A, J, C, K2, S2, A2, J2, C2, Y) p Q) (fun Q => wp_X8_splits M p Q) := by
  obtain ⟨hS, hA, hJ, hC, hB, hK, hp, hP, hJ2⟩ := id h
  have l0 : (0 : Int32).toInt = 0 := rfl
  have l20 : (20 : Int32).toInt = 20 := rfl
  have l21 : (21 : Int32).toInt = 21 := rfl
  have R : limR S (M.2 4) := hS.1.1.1.1
  have e16 : S.1 14 = M.2 4 16 := hS.1.1.2.1
  by_cases c : 0 ≤ p.toInt ∧ p.toInt < 21
  · have ok : okI p 21 := ok_iff.mpr c
    refine FACE_get (K2 := K2) (S2 := S2) (A2 := A2) (C2 := C2) (Y := Y) h (v := Int32.ofNat (loN (spB S p) 8)) (fun Q hQ => ?_) (fun Q hQ => ?_)
    · unfold wp_X7_splits
      refine b_isBelow ?_
      rw [if_pos (by omega)]
      exact ⟨fun _ => spl_class R ok hQ 8 0 2000 (by omega) (by omega), fun z => absurd z (by decide)⟩
    · unfold wp_X8_splits
      intro T1 e1
      subst e1
      refine b_within ?_
      rw [if_pos (by omega)]
      rw [lo_hi] at hQ
      exact ⟨fun _ => spl_model (M := si M 17 0) R e16 ok hQ 8 0 2000 (by omega) (by omega), fun z => absurd z (by decide)⟩
  · refine FACE_get (K2 := K2) (S2 := S2) (A2 := A2) (C2 := C2) (Y := Y) h (v := -1) (fun Q hQ => ?_) (fun Q hQ => ?_)
    · unfold wp_X7_splits
      refine b_isBelow ?_
      rw [if_neg (by omega)]
      exact ⟨fun z => absurd rfl z, fun _ => hQ⟩
    · unfold wp_X8_splits
      intro T1 e1
      subst e1
      refine b_within ?_
      rw [if_neg (by omega)]
      exact ⟨fun z => absurd rfl z, fun _ => hQ⟩
