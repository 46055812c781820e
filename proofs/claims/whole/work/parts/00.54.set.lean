/-! LAYER 2: calls that set -/
theorem rS_en {nw : Bool} {S M : Ob} {r : Nat → Int32} {q : Nat} {v : Int32} (h : rS nw S M r) (hv : isB v) : rS nw (sa S 2 (upd (S.2 2) q v)) (sa M 2 (upd (M.2 2) q v)) r := by
  obtain ⟨⟨⟨⟨⟨⟨a1, a2⟩, b, cc, d, f⟩, K, P, E, Sp⟩, sh, hd⟩, q1, q2, q3, q4, q5, q6⟩, n, o⟩ := h
  refine ⟨⟨⟨⟨⟨⟨a1, a2⟩, b, cc, d, f⟩, K, P, fun j hj => ?_, Sp⟩, sh, hd⟩, q1, fun j hj => ?_, q3, q4, q5, q6⟩, n, o⟩
  · rw [sa_self, sa_self]
    by_cases z : j = q
    · subst z; rw [up_eq, up_eq]
    · rw [up_ne z, up_ne z]; exact E j hj
  · rw [sa_self]
    by_cases z : j = q
    · subst z; rw [up_eq]; exact hv
    · rw [up_ne z]; exact q2 j hj
theorem rS_vec {nw : Bool} {S M : Ob} {r : Nat → Int32} {q : Nat} {v : Int32} (h : rS nw S M r) (hv : 0 ≤ v.toInt ∧ v.toInt < 512) : rS nw (sa S 1 (upd (S.2 1) q v)) (sa M 1 (upd (M.2 1) q v)) r := by
  obtain ⟨⟨⟨⟨⟨⟨a1, a2⟩, b, cc, d, f⟩, K, P, E, Sp⟩, sh, hd⟩, q1, q2, q3, q4, q5, q6⟩, n, o⟩ := h
  refine ⟨⟨⟨⟨⟨⟨a1, a2⟩, b, cc, d, f⟩, K, P, E, Sp⟩, sh, hd⟩, q1, q2, q3, q4, q5, fun j hj => ?_⟩, n, o⟩
  rw [sa_self, sa_self]
  by_cases z : j = q
  · subst z; rw [up_eq, up_eq]; exact ⟨rfl, hv⟩
  · rw [up_ne z, up_ne z]; exact q6 j hj
theorem rS_spl {nw : Bool} {S M : Ob} {r : Nat → Int32} {v : Int32} (h : rS nw S M r) (hv : 0 ≤ v.toInt ∧ v.toInt ≤ 7) (hz : (S.1 10).toInt = 0) : rS nw (si S 12 v) (si M 3 v) r := by
  obtain ⟨⟨⟨⟨⟨⟨a1, a2⟩, b, cc, d, f⟩, K, P, E, Sp⟩, sh, hd⟩, q1, q2, q3, q4, q5, q6⟩, n, o⟩ := h
  refine ⟨⟨⟨⟨⟨⟨a1, a2⟩, b, cc, d, f⟩, K, P, E, ?_, hv⟩, sh, hd⟩, q1, q2, q3, q4, q5, q6⟩, ⟨n.1, fun i j hij hj => ?_⟩, o⟩
  · rw [si_self, si_self]
  · have hj : (j : Int) < (S.1 10).toInt := hj
    omega
theorem rS_hld {nw : Bool} {S M : Ob} {r : Nat → Int32} {q : Nat} {v : Int32} (h : rS nw S M r) (hq : q < 21) (hv : isB v) : rS nw (sa S 5 (upd (S.2 5) q v)) M (upd r (215 + q) v) := by
  obtain ⟨⟨⟨⟨⟨⟨a1, a2⟩, b, cc, d, f⟩, K, P, E, Sp⟩, sh, hd⟩, q1, q2, q3, q4, q5, q6⟩, n, o⟩ := h
  have hr : ∀ j : Nat, ¬ j = 215 + q → upd r (215 + q) v j = r j := fun j hj => up_ne hj
  refine ⟨⟨⟨⟨⟨⟨by rw [hr 30 (by omega)]; exact a1, a2⟩, fun j hj => ?_, fun j hj => ?_, d, by rw [hr 17 (by omega)]; exact f⟩, K, fun j hj => ?_, E, Sp⟩, by rw [hr 16 (by omega)]; exact sh, by rw [hr 320 (by omega)]; exact hd⟩, q1, q2, q3, fun j hj => ?_, fun j hj => ?_, q6⟩, n, fun hn => ?_⟩
  · have a2' : (S.1 10).toInt ≤ 21 := a2.2
    have hj : (j : Int) < (S.1 10).toInt := hj
    rw [hr (152 + j) (by omega)]; exact b j hj
  · rw [hr (173 + j) (by omega)]; exact cc j hj
  · rw [hr (194 + j) (by omega)]; exact P j hj
  · rw [hr (300 + j) (by omega)]; exact q4 j hj
  · rw [sa_self]
    by_cases z : j = q
    · subst z; rw [up_eq, up_eq]; exact ⟨rfl, hv⟩
    · rw [up_ne z, hr (215 + j) (by omega)]; exact q5 j hj
  · obtain ⟨o1, o2, o3, o4, o5⟩ := o hn
    refine ⟨fun j hj hj2 => ?_, fun j hj hj2 => ?_, o3, o4, o5⟩
    · rw [hr (194 + j) (by omega)]; exact o1 j hj hj2
    · rw [hr (321 + j) (by omega)]; exact o2 j hj hj2
/-- other sources, other rows 1, 2, 4 of the reference -/
theorem REL_S {N T : Int} {B K : Nat → Int32} {S S' A J C J2 M M' : Ob} (h : REL N T B K S A J C J2 M) (hS : rS true S' M' (M'.2 4)) (hr : ∀ k, ¬ inS k → M'.2 4 k = M.2 4 k) (m11 : M'.1 11 = M.1 11) (m2 : ∀ j, (j = 0 ∨ (6 ≤ j ∧ j < 13)) → M'.2 j = M.2 j) : REL N T B K S' A J C J2 M' := by
  obtain ⟨-, hA, hJ, hC, hB, hK, hp, hP, hJ2⟩ := h
  have e6 : M'.2 6 = M.2 6 := m2 6 (by omega)
  refine ⟨hS, rA_fr hA (fun j hj => hr j (by unfold inS; unfold inA at hj; omega)), rJ_fr hJ (Int.le_refl _) (fun _ _ _ _ _ => by rw [e6]) m11 (m2 7 (by omega)) (m2 8 (by omega)) (m2 9 (by omega)) (m2 10 (by omega)) (m2 12 (by omega)), rC_fr hC (fun j hj => hr j (by unfold inS; unfold inC at hj; omega)) (by rw [e6]), rB_fr hB (m2 0 (by omega)), rK_fr hK (hr 20 (by unfold inS; omega)) (hr 21 (by unfold inS; omega)) (hr 25 (by unfold inS; omega)), hp, rP_fr hP rfl rfl rfl rfl rfl (fun k hk => hr k (by unfold inS; unfold inP at hk; omega)), hJ2⟩
theorem call_rank {N T : Int} {B K K2 : Nat → Int32} {S A J C S2 A2 J2 C2 Y M : Ob} (h : REL N T B K S A J C J2 M) (p : Int32) (v : Int32) : FACE N T (fun Q => wp_X7_rank (B, K, S, A, J, C, K2, S2, A2, J2, C2, Y) p v Q) (fun Q => wp_X8_rank M p v Q) := by
  obtain ⟨hS, hA, hJ, hC, hB, hK, hp, hP, hJ2⟩ := id h
  have l0 : (0 : Int32).toInt = 0 := rfl
  have l19 : (19 : Int32).toInt = 19 := rfl
  have l20 : (20 : Int32).toInt = 20 := rfl
  have l255 : (255 : Int32).toInt = 255 := rfl
  by_cases c : 0 ≤ p.toInt ∧ p.toInt < 20
  · have pn : p.toNatClampNeg < 20 := by rw [i_nat]; omega
    by_cases d : 0 ≤ v.toInt ∧ v.toInt ≤ 255
    · obtain ⟨o300, v300⟩ := at_off (r := M.2 4) (o := 300) (n := 300) (m := 21) (p := p) c.1 (by omega) rfl (by omega)
      obtain ⟨o173, -⟩ := at_off (r := M.2 4) (o := 173) (n := 173) (m := 21) (p := p) c.1 (by omega) rfl (by omega)
      have n173 : Int32.toNatClampNeg (173 + p) = 173 + p.toNatClampNeg := (off (a := 173) (k := p) (by decide) c.1 (by have l : (173 : Int32).toInt = 173 := rfl; omega)).2
      obtain ⟨E, Eb⟩ := hS.1.2.2.2.2.1 p.toNatClampNeg (by omega)
      have ok21 : okI p 21 := ok_iff.mpr (by omega)
      have hcl : ∀ Q : Int32 → TR7 → Prop, ((S.2 4 p.toNatClampNeg = 0 → Q 1 (B, K, sa S 0 (upd (S.2 0) p.toNatClampNeg v), A, J, C, K2, S2, A2, J2, C2, Y)) ∧ (¬ S.2 4 p.toNatClampNeg = 0 → Q 0 (B, K, S, A, J, C, K2, S2, A2, J2, C2, Y))) → wp_X7_rank (B, K, S, A, J, C, K2, S2, A2, J2, C2, Y) p v Q := by
        intro Q hQ
        unfold wp_X7_rank
        refine b_isBelow ?_
        rw [if_pos (by omega)]
        refine ⟨fun z => absurd z (by decide), fun _ => ⟨fun z => absurd (i_lt.mp z) (by omega), fun _ => ⟨fun z => absurd (i_lt.mp z) (by omega), fun _ => ⟨ok21, fun z => ⟨ok21, fun T7 e7 => ?_⟩, fun z => hQ.2 z⟩⟩⟩⟩
        subst e7
        exact hQ.1 z
      have hmo : ∀ Q : Int32 → Ob → Prop, ((S.2 4 p.toNatClampNeg = 0 → Q 1 (sa (si M 17 0) 4 (upd (M.2 4) (173 + p.toNatClampNeg) v))) ∧ (¬ S.2 4 p.toNatClampNeg = 0 → Q 0 (si M 17 0))) → wp_X8_rank M p v Q := by
        intro Q hQ
        unfold wp_X8_rank
        intro T1 e1
        subst e1
        refine b_within ?_
        rw [if_pos (by omega)]
        refine ⟨fun z => absurd z (by decide), fun _ => b_within ?_⟩
        rw [if_pos (by omega)]
        refine ⟨fun z => absurd z (by decide), fun _ => ⟨o300, fun z => ⟨o173, fun T9 e9 => ?_⟩, fun z => hQ.2 ?_⟩⟩
        · have z : ¬ M.2 4 (Int32.toNatClampNeg (300 + p)) = 1 := z
          rw [v300, ← E] at z
          rw [n173] at e9
          subst e9
          exact hQ.1 (isB_n1 Eb z)
        · have z : M.2 4 (Int32.toNatClampNeg (300 + p)) = 1 := z
          rw [v300, ← E] at z
          rw [z]; decide
      by_cases f : S.2 4 p.toNatClampNeg = 0
      · refine ⟨1, _, _, _, _, _, _, K2, S2, A2, J2, C2, Y, _, fun Q hQ => hcl Q ⟨fun _ => hQ, fun z => absurd f z⟩, fun Q hQ => hmo Q ⟨fun _ => hQ, fun z => absurd f z⟩, REL_up (REL_S h ?_ ?_ rfl ?_)⟩
        · rw [sa_self]
          exact rS_fr (rS_rank hS pn f d) (fun _ _ => rfl) rfl rfl rfl rfl rfl rfl
        · intro k hk
          rw [sa_self]
          exact up_ne (by unfold inS at hk; omega)
        · intro j hj
          exact sa_ne (by omega)
      · exact FACE_get (K2 := K2) (S2 := S2) (A2 := A2) (C2 := C2) (Y := Y) h (v := 0) (fun Q hQ => hcl Q ⟨fun z => absurd z f, fun _ => hQ⟩) (fun Q hQ => hmo Q ⟨fun z => absurd z f, fun _ => hQ⟩)
    · refine FACE_get (K2 := K2) (S2 := S2) (A2 := A2) (C2 := C2) (Y := Y) h (v := 0) (fun Q hQ => ?_) (fun Q hQ => ?_)
      · unfold wp_X7_rank
        refine b_isBelow ?_
        rw [if_pos (by omega)]
        refine ⟨fun z => absurd z (by decide), fun _ => ⟨fun _ => hQ, fun z => ⟨fun _ => hQ, fun y => ?_⟩⟩⟩
        rw [i_lt] at z y
        exact absurd ⟨by omega, by omega⟩ d
      · unfold wp_X8_rank
        intro T1 e1
        subst e1
        refine b_within ?_
        rw [if_pos (by omega)]
        refine ⟨fun z => absurd z (by decide), fun _ => b_within ?_⟩
        rw [if_neg (by omega)]
        exact ⟨fun _ => hQ, fun z => absurd rfl z⟩
  · refine FACE_get (K2 := K2) (S2 := S2) (A2 := A2) (C2 := C2) (Y := Y) h (v := 0) (fun Q hQ => ?_) (fun Q hQ => ?_)
    · unfold wp_X7_rank
      refine b_isBelow ?_
      rw [if_neg (by omega)]
      exact ⟨fun _ => hQ, fun z => absurd rfl z⟩
    · unfold wp_X8_rank
      intro T1 e1
      subst e1
      refine b_within ?_
      rw [if_neg (by omega)]
      exact ⟨fun _ => hQ, fun z => absurd rfl z⟩
theorem call_enable {N T : Int} {B K K2 : Nat → Int32} {S A J C S2 A2 J2 C2 Y M : Ob} (h : REL N T B K S A J C J2 M) (p : Int32) (v : Int32) (hv : isB v) : FACE N T (fun Q => wp_X7_enable (B, K, S, A, J, C, K2, S2, A2, J2, C2, Y) p v Q) (fun Q => wp_X8_enable M p v Q) := by
  obtain ⟨hS, hA, hJ, hC, hB, hK, hp, hP, hJ2⟩ := id h
  have l0 : (0 : Int32).toInt = 0 := rfl
  have l19 : (19 : Int32).toInt = 19 := rfl
  have l20 : (20 : Int32).toInt = 20 := rfl
  by_cases c : 0 ≤ p.toInt ∧ p.toInt < 20
  · have ok21 : okI p 21 := ok_iff.mpr (by omega)
    refine ⟨1, _, _, _, _, _, _, K2, S2, A2, J2, C2, Y, sa (si M 17 0) 2 (upd (M.2 2) p.toNatClampNeg v), fun Q hQ => ?_, fun Q hQ => ?_, REL_up (REL_S h (rS_fr (rS_en (q := p.toNatClampNeg) hS hv) (fun _ _ => rfl) rfl rfl rfl rfl rfl rfl) (fun _ _ => rfl) rfl (fun j hj => sa_ne (by omega)))⟩
    · unfold wp_X7_enable
      refine b_isBelow ?_
      rw [if_pos (by omega)]
      refine ⟨fun _ => ⟨hv, ok21, fun T4 e4 => ?_⟩, fun z => absurd z (by decide)⟩
      subst e4
      exact hQ
    · unfold wp_X8_enable
      intro T1 e1
      subst e1
      refine b_within ?_
      rw [if_pos (by omega)]
      refine ⟨fun _ => ⟨hv, ok21, fun T5 e5 => ?_⟩, fun z => absurd z (by decide)⟩
      subst e5
      exact hQ
  · refine FACE_get (K2 := K2) (S2 := S2) (A2 := A2) (C2 := C2) (Y := Y) h (v := 0) (fun Q hQ => ?_) (fun Q hQ => ?_)
    · unfold wp_X7_enable
      refine b_isBelow ?_
      rw [if_neg (by omega)]
      exact ⟨fun z => absurd rfl z, fun _ => hQ⟩
    · unfold wp_X8_enable
      intro T1 e1
      subst e1
      refine b_within ?_
      rw [if_neg (by omega)]
      exact ⟨fun z => absurd rfl z, fun _ => hQ⟩
theorem call_vector {N T : Int} {B K K2 : Nat → Int32} {S A J C S2 A2 J2 C2 Y M : Ob} (h : REL N T B K S A J C J2 M) (p : Int32) (v : Int32) : FACE N T (fun Q => wp_X7_vector (B, K, S, A, J, C, K2, S2, A2, J2, C2, Y) p v Q) (fun Q => wp_X8_vector M p v Q) := by
  obtain ⟨hS, hA, hJ, hC, hB, hK, hp, hP, hJ2⟩ := id h
  have l0 : (0 : Int32).toInt = 0 := rfl
  have l20 : (20 : Int32).toInt = 20 := rfl
  have l21 : (21 : Int32).toInt = 21 := rfl
  have l511 : (511 : Int32).toInt = 511 := rfl
  by_cases c : 0 ≤ p.toInt ∧ p.toInt < 21
  · have ok21 : okI p 21 := ok_iff.mpr c
    by_cases d : 0 ≤ v.toInt ∧ v.toInt < 512
    · refine ⟨1, _, _, _, _, _, _, K2, S2, A2, J2, C2, Y, sa (si M 17 0) 1 (upd (M.2 1) p.toNatClampNeg v), fun Q hQ => ?_, fun Q hQ => ?_, REL_up (REL_S h (rS_fr (rS_vec (q := p.toNatClampNeg) hS d) (fun _ _ => rfl) rfl rfl rfl rfl rfl rfl) (fun _ _ => rfl) rfl (fun j hj => sa_ne (by omega)))⟩
      · unfold wp_X7_vector
        refine b_isBelow ?_
        rw [if_pos (by omega)]
        refine ⟨fun z => absurd z (by decide), fun _ => b_isPlace ?_⟩
        rw [if_pos d]
        refine ⟨fun _ => ⟨ok21, fun T4 e4 => ?_⟩, fun z => absurd z (by decide)⟩
        subst e4
        exact hQ
      · unfold wp_X8_vector
        intro T1 e1
        subst e1
        refine b_within ?_
        rw [if_pos (by omega)]
        refine ⟨fun z => absurd z (by decide), fun _ => b_within ?_⟩
        rw [if_pos (by omega)]
        refine ⟨fun _ => ⟨ok21, fun T5 e5 => ?_⟩, fun z => absurd z (by decide)⟩
        subst e5
        exact hQ
    · refine FACE_get (K2 := K2) (S2 := S2) (A2 := A2) (C2 := C2) (Y := Y) h (v := 0) (fun Q hQ => ?_) (fun Q hQ => ?_)
      · unfold wp_X7_vector
        refine b_isBelow ?_
        rw [if_pos (by omega)]
        refine ⟨fun z => absurd z (by decide), fun _ => b_isPlace ?_⟩
        rw [if_neg d]
        exact ⟨fun z => absurd rfl z, fun _ => hQ⟩
      · unfold wp_X8_vector
        intro T1 e1
        subst e1
        refine b_within ?_
        rw [if_pos (by omega)]
        refine ⟨fun z => absurd z (by decide), fun _ => b_within ?_⟩
        rw [if_neg (by omega)]
        exact ⟨fun z => absurd rfl z, fun _ => hQ⟩
  · refine FACE_get (K2 := K2) (S2 := S2) (A2 := A2) (C2 := C2) (Y := Y) h (v := 0) (fun Q hQ => ?_) (fun Q hQ => ?_)
    · unfold wp_X7_vector
      refine b_isBelow ?_
      rw [if_neg (by omega)]
      exact ⟨fun _ => hQ, fun z => absurd rfl z⟩
    · unfold wp_X8_vector
      intro T1 e1
      subst e1
      refine b_within ?_
      rw [if_neg (by omega)]
      exact ⟨fun _ => hQ, fun z => absurd rfl z⟩
theorem call_split {N T : Int} {B K K2 : Nat → Int32} {S A J C S2 A2 J2 C2 Y M : Ob} (h : REL N T B K S A J C J2 M) (p : Int32) : FACE N T (fun Q => wp_X7_split (B, K, S, A, J, C, K2, S2, A2, J2, C2, Y) p Q) (fun Q => wp_X8_split M p Q) := by
  obtain ⟨hS, hA, hJ, hC, hB, hK, hp, hP, hJ2⟩ := id h
  have l0 : (0 : Int32).toInt = 0 := rfl
  have l7 : (7 : Int32).toInt = 7 := rfl
  have R : limR S (M.2 4) := hS.1.1.1.1
  have e30 : S.1 10 = M.2 4 30 := R.1.1
  have d0 : 0 ≤ (S.1 10).toInt := R.1.2.1
  by_cases c : 0 ≤ p.toInt ∧ p.toInt ≤ 7
  · by_cases d : S.1 10 ≤ 0
    · have dm : M.2 4 30 ≤ 0 := by rw [← e30]; exact d
      have dz : (S.1 10).toInt = 0 := by rw [i_le] at d; omega
      refine ⟨1, _, _, _, _, _, _, K2, S2, A2, J2, C2, Y, si (si M 17 0) 3 p, fun Q hQ => ?_, fun Q hQ => ?_, REL_up (REL_S h (rS_fr (rS_spl hS c dz) (fun _ _ => rfl) rfl rfl rfl rfl rfl rfl) (fun _ _ => rfl) rfl (fun j hj => rfl))⟩
      · unfold wp_X7_split
        refine ⟨fun z => absurd (i_lt.mp z) (by omega), fun _ => ⟨fun z => absurd (i_lt.mp z) (by omega), fun _ => ⟨fun _ T4 e4 => ?_, fun z => absurd d z⟩⟩⟩
        subst e4
        exact hQ
      · unfold wp_X8_split
        intro T1 e1
        subst e1
        refine b_within ?_
        rw [if_pos (by omega)]
        refine ⟨fun z => absurd z (by decide), fun _ => ⟨fun _ T6 e6 => ?_, fun z => absurd dm z⟩⟩
        subst e6
        exact hQ
    · have dm : ¬ M.2 4 30 ≤ 0 := by rw [← e30]; exact d
      refine FACE_get (K2 := K2) (S2 := S2) (A2 := A2) (C2 := C2) (Y := Y) h (v := 0) (fun Q hQ => ?_) (fun Q hQ => ?_)
      · unfold wp_X7_split
        exact ⟨fun z => absurd (i_lt.mp z) (by omega), fun _ => ⟨fun z => absurd (i_lt.mp z) (by omega), fun _ => ⟨fun z => absurd z d, fun _ => hQ⟩⟩⟩
      · unfold wp_X8_split
        intro T1 e1
        subst e1
        refine b_within ?_
        rw [if_pos (by omega)]
        exact ⟨fun z => absurd z (by decide), fun _ => ⟨fun z => absurd z dm, fun _ => hQ⟩⟩
  · refine FACE_get (K2 := K2) (S2 := S2) (A2 := A2) (C2 := C2) (Y := Y) h (v := 0) (fun Q hQ => ?_) (fun Q hQ => ?_)
    · unfold wp_X7_split
      refine ⟨fun _ => hQ, fun z => ⟨fun _ => hQ, fun y => ?_⟩⟩
      rw [i_lt] at z y
      exact absurd ⟨by omega, by omega⟩ c
    · unfold wp_X8_split
      intro T1 e1
      subst e1
      refine b_within ?_
      rw [if_neg (by omega)]
      exact ⟨fun _ => hQ, fun z => absurd rfl z⟩
theorem call_clear {N T : Int} {B K K2 : Nat → Int32} {S A J C S2 A2 J2 C2 Y M : Ob} (h : REL N T B K S A J C J2 M) (p : Int32) : FACE N T (fun Q => wp_X7_clear (B, K, S, A, J, C, K2, S2, A2, J2, C2, Y) p Q) (fun Q => wp_X8_clear M p Q) := by
  obtain ⟨hS, hA, hJ, hC, hB, hK, hp, hP, hJ2⟩ := id h
  have l0 : (0 : Int32).toInt = 0 := rfl
  have l20 : (20 : Int32).toInt = 20 := rfl
  have l21 : (21 : Int32).toInt = 21 := rfl
  by_cases c : 0 ≤ p.toInt ∧ p.toInt < 21
  · have ok21 : okI p 21 := ok_iff.mpr c
    have pn : p.toNatClampNeg < 21 := by rw [i_nat]; omega
    obtain ⟨o194, v194⟩ := at_off (r := M.2 4) (o := 194) (n := 194) (m := 21) (p := p) c.1 c.2 rfl (by omega)
    have n194 : Int32.toNatClampNeg (194 + p) = 194 + p.toNatClampNeg := (off (a := 194) (k := p) (by decide) c.1 (by have l : (194 : Int32).toInt = 194 := rfl; omega)).2
    obtain ⟨o215, v215⟩ := at_off (r := M.2 4) (o := 215) (n := 215) (m := 21) (p := p) c.1 c.2 rfl (by omega)
    have P := hS.1.1.1.2.2.1 _ pn
    obtain ⟨E, Eb⟩ := hS.1.2.2.2.2.2.1 _ pn
    have hcl : ∀ Q : Int32 → TR7 → Prop, (((if S.2 3 p.toNatClampNeg = 0 then (0 : Int32) else if S.2 5 p.toNatClampNeg = 0 then 1 else 0) = 0 → Q 0 (B, K, wdrS S p, A, J, C, K2, S2, A2, J2, C2, Y)) ∧ (¬ (if S.2 3 p.toNatClampNeg = 0 then (0 : Int32) else if S.2 5 p.toNatClampNeg = 0 then 1 else 0) = 0 → Q 1 (B, K, wdrS S p, A, J, C, K2, S2, A2, J2, C2, Y))) → wp_X7_clear (B, K, S, A, J, C, K2, S2, A2, J2, C2, Y) p Q := by
      intro Q hQ
      unfold wp_X7_clear
      refine b_isBelow ?_
      rw [if_pos (by omega)]
      exact ⟨fun z => absurd z (by decide), fun _ => withdraw_class ok21 hQ⟩
    have hmo : ∀ Q : Int32 → Ob → Prop, ((M.2 4 (194 + p.toNatClampNeg) < 0 → Q 0 (si M 17 0)) ∧ (¬ M.2 4 (194 + p.toNatClampNeg) < 0 → ((¬ S.2 5 p.toNatClampNeg = 1 → Q 1 (sa (si M 17 0) 4 (upd (M.2 4) (194 + p.toNatClampNeg) (-1)))) ∧ (S.2 5 p.toNatClampNeg = 1 → Q 0 (si M 17 0))))) → wp_X8_clear M p Q := by
      intro Q hQ
      unfold wp_X8_clear
      intro T1 e1
      subst e1
      refine b_within ?_
      rw [if_pos (by omega)]
      refine ⟨fun z => absurd z (by decide), fun _ => ⟨o194, fun z => ?_, fun z => ⟨o215, fun y => ⟨o194, fun T7 e7 => ?_⟩, fun y => ?_⟩⟩⟩
      · have z : M.2 4 (Int32.toNatClampNeg (194 + p)) < 0 := z
        rw [v194] at z
        exact hQ.1 z
      · have z : ¬ M.2 4 (Int32.toNatClampNeg (194 + p)) < 0 := z
        have y : ¬ M.2 4 (Int32.toNatClampNeg (215 + p)) = 1 := y
        rw [v194] at z
        rw [v215, ← E] at y
        rw [n194] at e7
        subst e7
        exact (hQ.2 z).1 y
      · have z : ¬ M.2 4 (Int32.toNatClampNeg (194 + p)) < 0 := z
        have y : M.2 4 (Int32.toNatClampNeg (215 + p)) = 1 := y
        rw [v194] at z
        rw [v215, ← E] at y
        exact (hQ.2 z).2 y
    have same : S.2 3 p.toNatClampNeg = 0 ∨ ¬ S.2 5 p.toNatClampNeg = 0 → wdrS S p = S := by
      intro w
      unfold wdrS
      by_cases z : S.2 3 p.toNatClampNeg = 0
      · rw [if_pos z]
      · rw [if_neg z, if_neg (w.resolve_left z)]
    by_cases z : S.2 3 p.toNatClampNeg = 0
    · refine FACE_get (K2 := K2) (S2 := S2) (A2 := A2) (C2 := C2) (Y := Y) h (v := 0) (fun Q hQ => hcl Q ⟨fun _ => by rw [same (Or.inl z)]; exact hQ, fun y => absurd (by rw [if_pos z]) y⟩) (fun Q hQ => hmo Q ⟨fun _ => hQ, fun y => absurd (P.mp z) y⟩)
    · have zm : ¬ M.2 4 (194 + p.toNatClampNeg) < 0 := fun y => z (P.mpr y)
      by_cases y : S.2 5 p.toNatClampNeg = 0
      · have eS : wdrS S p = sa S 3 (upd (S.2 3) p.toNatClampNeg 0) := by unfold wdrS; rw [if_neg z, if_pos y]
        refine ⟨1, _, _, _, _, _, _, K2, S2, A2, J2, C2, Y, _, fun Q hQ => hcl Q ⟨fun w => absurd w (by rw [if_neg z, if_pos y]; decide), fun _ => by rw [eS]; exact hQ⟩, fun Q hQ => hmo Q ⟨fun w => absurd w zm, fun _ => ⟨fun _ => hQ, fun w => absurd (y.symm.trans w) (by decide)⟩⟩, REL_up (REL_S h ?_ ?_ rfl ?_)⟩
        · rw [sa_self]
          exact rS_fr (rS_wdr hS pn) (fun _ _ => rfl) rfl rfl rfl rfl rfl rfl
        · intro k hk
          rw [sa_self]
          exact up_ne (by unfold inS at hk; omega)
        · intro j hj
          exact sa_ne (by omega)
      · have y1 := isB_ne Eb y
        refine FACE_get (K2 := K2) (S2 := S2) (A2 := A2) (C2 := C2) (Y := Y) h (v := 0) (fun Q hQ => hcl Q ⟨fun _ => by rw [same (Or.inr y)]; exact hQ, fun w => absurd (by rw [if_neg z, if_neg y]) w⟩) (fun Q hQ => hmo Q ⟨fun _ => hQ, fun _ => ⟨fun w => absurd y1 w, fun _ => hQ⟩⟩)
  · refine FACE_get (K2 := K2) (S2 := S2) (A2 := A2) (C2 := C2) (Y := Y) h (v := 0) (fun Q hQ => ?_) (fun Q hQ => ?_)
    · unfold wp_X7_clear
      refine b_isBelow ?_
      rw [if_neg (by omega)]
      exact ⟨fun _ => hQ, fun z => absurd rfl z⟩
    · unfold wp_X8_clear
      intro T1 e1
      subst e1
      refine b_within ?_
      rw [if_neg (by omega)]
      exact ⟨fun _ => hQ, fun z => absurd rfl z⟩
