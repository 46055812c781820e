/-! LAYER 2: timer, arrive, hold, pend -/
theorem REL_A {N T : Int} {B K : Nat → Int32} {S A A' J C J2 M M' : Ob} (h : REL N T B K S A J C J2 M) (hA : rA A' (M'.2 4)) (hr : ∀ k, ¬ inA k → M'.2 4 k = M.2 4 k) (m1 : M'.1 3 = M.1 3 ∧ M'.1 11 = M.1 11) (m2 : ∀ j, ¬ j = 4 → M'.2 j = M.2 j) : REL N T B K S A' J C J2 M' := by
  obtain ⟨hS, -, hJ, hC, hB, hK, hp, hP, hJ2⟩ := h
  have e6 : M'.2 6 = M.2 6 := m2 6 (by omega)
  refine ⟨rS_fr hS (fun j hj => hr j (by unfold inA; unfold inS at hj; omega)) m1.1 (m2 1 (by omega)) (m2 2 (by omega)) (m2 13 (by omega)) (by rw [e6]) (by rw [e6]), hA, rJ_fr hJ (Int.le_refl _) (fun _ _ _ _ _ => by rw [e6]) m1.2 (m2 7 (by omega)) (m2 8 (by omega)) (m2 9 (by omega)) (m2 10 (by omega)) (m2 12 (by omega)), rC_fr hC (fun j hj => hr j (by unfold inA; unfold inC at hj; omega)) (by rw [e6]), rB_fr hB (m2 0 (by omega)), rK_fr hK (hr 20 (by unfold inA; omega)) (hr 21 (by unfold inA; omega)) (hr 25 (by unfold inA; omega)), hp, rP_fr hP rfl rfl rfl rfl rfl (fun k hk => hr k (by unfold inA; unfold inP at hk; omega)), hJ2⟩
theorem call_timer {N T : Int} {B K K2 : Nat → Int32} {S A J C S2 A2 J2 C2 Y M : Ob} (h : REL N T B K S A J C J2 M) (p : Int32) : FACE N T (fun Q => wp_X7_timer (B, K, S, A, J, C, K2, S2, A2, J2, C2, Y) p Q) (fun Q => wp_X8_timer M p Q) := by
  obtain ⟨hS, hA, hJ, hC, hB, hK, hp, hP, hJ2⟩ := id h
  have l0 : (0 : Int32).toInt = 0 := rfl
  have l999 : (999 : Int32).toInt = 999 := rfl
  by_cases c : 0 ≤ p.toInt ∧ p.toInt ≤ 999
  · obtain ⟨⟨a1, a2, a3⟩, b, -, -⟩ := hA
    refine ⟨1, _, _, _, _, _, _, K2, S2, A2, J2, C2, Y, sa (si M 17 0) 4 (upd (upd (M.2 4) 26 p) 27 p), fun Q hQ => ?_, fun Q hQ => ?_, REL_up (REL_A (A' := si (si A 3 p) 4 p) h ?_ ?_ ⟨rfl, rfl⟩ (fun j hj => sa_ne hj))⟩
    · unfold wp_X7_timer
      refine ⟨fun z => absurd (i_lt.mp z) (by omega), fun _ => ⟨fun _ T3 e3 T4 e4 => ?_, fun z => absurd (i_le.mpr (by omega)) z⟩⟩
      subst e3
      subst e4
      exact hQ
    · unfold wp_X8_timer
      intro T1 e1
      subst e1
      refine b_within ?_
      rw [if_pos (by omega)]
      refine ⟨fun _ T5 e5 T6 e6 => ?_, fun z => absurd z (by decide)⟩
      have e6 : T6 = sa (si M 17 0) 4 (upd (upd (M.2 4) 26 p) 27 p) := by rw [e6, e5, sa_self, sa_sa]; rfl
      subst e6
      exact hQ
    · rw [sa_self]
      refine ⟨⟨?_, a2, a3⟩, fun k hk => ?_, ?_, ?_⟩
      · rw [up_ne (by decide), up_ne (by decide)]; exact a1
      · rw [up_ne (by omega), up_ne (by omega), up_ne (by omega), up_ne (by omega)]; exact b k hk
      · rw [up_ne (by decide), up_eq]; rfl
      · rw [up_eq]; rfl
    · intro k hk
      rw [sa_self]
      unfold inA at hk
      rw [up_ne (by omega), up_ne (by omega)]
  · refine FACE_get (K2 := K2) (S2 := S2) (A2 := A2) (C2 := C2) (Y := Y) h (v := 0) (fun Q hQ => ?_) (fun Q hQ => ?_)
    · unfold wp_X7_timer
      refine ⟨fun _ => hQ, fun z => ⟨fun y => ?_, fun _ => hQ⟩⟩
      rw [i_lt] at z
      rw [i_le] at y
      exact absurd ⟨by omega, by omega⟩ c
    · unfold wp_X8_timer
      intro T1 e1
      subst e1
      refine b_within ?_
      rw [if_neg (by omega)]
      exact ⟨fun z => absurd rfl z, fun _ => hQ⟩
theorem call_arrive {N T : Int} {B K K2 : Nat → Int32} {S A J C S2 A2 J2 C2 Y M : Ob} (h : REL N T B K S A J C J2 M) (p : Int32) (v : Int32) : FACE N T (fun Q => wp_X7_arrive (B, K, S, A, J, C, K2, S2, A2, J2, C2, Y) p v Q) (fun Q => wp_X8_arrive M p v Q) := by
  obtain ⟨hS, hA, hJ, hC, hB, hK, hp, hP, hJ2⟩ := id h
  have l0 : (0 : Int32).toInt = 0 := rfl
  have l1 : (1 : Int32).toInt = 1 := rfl
  have l17 : (17 : Int32).toInt = 17 := rfl
  have l18 : (18 : Int32).toInt = 18 := rfl
  have l32 : (32 : Int32).toInt = 32 := rfl
  have l999 : (999 : Int32).toInt = 999 := rfl
  obtain ⟨⟨a1, a2, a3⟩, b, ac, ad⟩ := hA
  have e25 : K 4 = M.2 4 25 := hK.1.1
  by_cases c : 0 ≤ p.toInt ∧ p.toInt < 18
  · by_cases d : 1 ≤ v.toInt ∧ v.toInt ≤ 999
    · have hcl : ∀ Q : Int32 → TR7 → Prop, wp_X0_note A p (K 4 + v) (fun r7 u6 => isB r7 ∧ Q r7 (B, K, S, u6, J, C, K2, S2, A2, J2, C2, Y)) → wp_X7_arrive (B, K, S, A, J, C, K2, S2, A2, J2, C2, Y) p v Q := by
        intro Q hQ
        unfold wp_X7_arrive
        refine b_isBelow ?_
        rw [if_pos (by omega)]
        exact ⟨fun z => absurd z (by decide), fun _ => ⟨fun z => absurd (i_lt.mp z) (by omega), fun _ => ⟨fun _ => hQ, fun z => absurd (i_le.mpr (by omega)) z⟩⟩⟩
      by_cases f : A.1 2 < 32
      · have fm : ¬ M.2 4 31 = 32 := fun z => by rw [← a1] at z; rw [z] at f; exact absurd f (by decide)
        rw [i_lt] at f
        obtain ⟨s, hs⟩ : ∃ s : Nat, (A.1 2).toInt = (s : Int) := ⟨(A.1 2).toInt.toNat, by omega⟩
        have sn : Int32.toNatClampNeg (A.1 2) = s := by rw [i_nat, hs]; omega
        have l236 : (236 : Int32).toInt = 236 := rfl
        have l268 : (268 : Int32).toInt = 268 := rfl
        have o236 := off (a := 236) (k := A.1 2) (by omega) (by omega) (by omega)
        have o268 := off (a := 268) (k := A.1 2) (by omega) (by omega) (by omega)
        rw [sn, show (236 : Int32).toNatClampNeg = 236 from rfl] at o236
        rw [sn, show (268 : Int32).toNatClampNeg = 268 from rfl] at o268
        have ok32 : okI (A.1 2) 32 := ok_iff.mpr (by omega)
        have ea : (A.1 2 + 1).toInt = (s : Int) + 1 := by rw [i_add (by omega) (by omega), hs, l1]
        refine ⟨1, _, _, _, _, _, _, K2, S2, A2, J2, C2, Y, sa (si M 17 0) 4 (upd (upd (upd (M.2 4) (236 + s) p) (268 + s) (K 4 + v)) 31 (A.1 2 + 1)), fun Q hQ => hcl Q ?_, fun Q hQ => ?_, REL_up (REL_A (A' := si (sa (sa A 0 (upd (A.2 0) s p)) 1 (upd (A.2 1) s (K 4 + v))) 2 (A.1 2 + 1)) h ?_ ?_ ⟨rfl, rfl⟩ (fun j hj => sa_ne hj))⟩
        · unfold wp_X0_note
          refine ⟨fun _ => ⟨ok32, fun T2 f2 => ⟨?_, fun T3 f3 T4 f4 => ?_⟩⟩, fun z => absurd (i_lt.mpr (by omega)) z⟩
          · subst f2; exact ok32
          · have f4 : T4 = si (sa (sa A 0 (upd (A.2 0) s p)) 1 (upd (A.2 1) s (K 4 + v))) 2 (A.1 2 + 1) := by
              rw [f4, f3, f2, sa_ne (by decide)]
              show si (sa (sa A 0 (upd (A.2 0) (Int32.toNatClampNeg (A.1 2)) p)) 1 (upd (A.2 1) (Int32.toNatClampNeg (A.1 2)) (K 4 + v))) 2 (A.1 2 + 1) = _
              rw [sn]
            subst f4
            exact ⟨isB1, hQ⟩
        · unfold wp_X8_arrive
          intro T1 f1
          subst f1
          refine b_within ?_
          rw [if_pos (by omega)]
          refine ⟨fun z => absurd z (by decide), fun _ => b_within ?_⟩
          rw [if_pos (by omega)]
          refine ⟨fun z => absurd z (by decide), fun _ => ⟨fun _ => ?_, fun z => absurd z fm⟩⟩
          have x31 : (si M 17 0).2 4 31 = A.1 2 := a1.symm
          rw [x31]
          refine ⟨o236.1, fun T9 f9 => ?_⟩
          rw [o236.2] at f9
          have t9 : T9.2 4 = upd (M.2 4) (236 + s) p := by rw [f9, sa_self]; rfl
          have t31 : T9.2 4 31 = A.1 2 := by rw [t9, up_ne (by omega)]; exact a1.symm
          rw [t31]
          refine ⟨o268.1, fun T10 f10 T11 f11 => ?_⟩
          have t25 : T9.2 4 25 = K 4 := by rw [t9, up_ne (by omega)]; exact e25.symm
          rw [o268.2, t25, t9, f9, sa_sa] at f10
          have t10 : T10.2 4 = upd (upd (M.2 4) (236 + s) p) (268 + s) (K 4 + v) := by rw [f10, sa_self]
          have u31 : T10.2 4 31 = A.1 2 := by rw [t10, up_ne (by omega), up_ne (by omega)]; exact a1.symm
          rw [u31, t10, f10, sa_sa] at f11
          subst f11
          exact hQ
        · rw [sa_self]
          refine ⟨⟨?_, ?_, ?_⟩, fun k hk => ?_, ?_, ?_⟩
          · rw [si_self, up_eq]
          · rw [si_self, ea]; omega
          · rw [si_self, ea]; omega
          · rw [si_self, ea] at hk
            show (sa (sa A 0 (upd (A.2 0) s p)) 1 (upd (A.2 1) s (K 4 + v))).2 0 k = _ ∧ (sa (sa A 0 (upd (A.2 0) s p)) 1 (upd (A.2 1) s (K 4 + v))).2 1 k = _ ∧ okI ((sa (sa A 0 (upd (A.2 0) s p)) 1 (upd (A.2 1) s (K 4 + v))).2 0 k) 18
            rw [sa_ne (by decide), sa_self, sa_self]
            by_cases z : k = s
            · subst z
              rw [up_eq, up_eq, up_ne (by omega), up_ne (by omega), up_eq, up_ne (by omega), up_eq]
              exact ⟨rfl, rfl, ok_iff.mpr c⟩
            · rw [up_ne z, up_ne z, up_ne (by omega), up_ne (by omega), up_ne (by omega), up_ne (by omega), up_ne (by omega), up_ne (by omega)]
              exact b k (by omega)
          · rw [up_ne (by omega), up_ne (by omega), up_ne (by omega)]; exact ac
          · rw [up_ne (by omega), up_ne (by omega), up_ne (by omega)]; exact ad
        · intro k hk
          rw [sa_self]
          unfold inA at hk
          rw [up_ne (by omega), up_ne (by omega), up_ne (by omega)]
      · have fm : M.2 4 31 = 32 := by rw [← a1]; exact i_eq.mpr (by rw [i_lt] at f; omega)
        refine FACE_get (K2 := K2) (S2 := S2) (A2 := A2) (C2 := C2) (Y := Y) h (v := 0) (fun Q hQ => hcl Q ?_) (fun Q hQ => ?_)
        · unfold wp_X0_note
          exact ⟨fun z => absurd z f, fun _ => ⟨isB0, hQ⟩⟩
        · unfold wp_X8_arrive
          intro T1 f1
          subst f1
          refine b_within ?_
          rw [if_pos (by omega)]
          refine ⟨fun z => absurd z (by decide), fun _ => b_within ?_⟩
          rw [if_pos (by omega)]
          exact ⟨fun z => absurd z (by decide), fun _ => ⟨fun z => absurd fm z, fun _ => hQ⟩⟩
    · refine FACE_get (K2 := K2) (S2 := S2) (A2 := A2) (C2 := C2) (Y := Y) h (v := 0) (fun Q hQ => ?_) (fun Q hQ => ?_)
      · unfold wp_X7_arrive
        refine b_isBelow ?_
        rw [if_pos (by omega)]
        refine ⟨fun z => absurd z (by decide), fun _ => ⟨fun _ => hQ, fun z => ⟨fun y => ?_, fun _ => hQ⟩⟩⟩
        rw [i_lt] at z
        rw [i_le] at y
        exact absurd ⟨by omega, by omega⟩ d
      · unfold wp_X8_arrive
        intro T1 f1
        subst f1
        refine b_within ?_
        rw [if_pos (by omega)]
        refine ⟨fun z => absurd z (by decide), fun _ => b_within ?_⟩
        rw [if_neg (by omega)]
        exact ⟨fun _ => hQ, fun z => absurd rfl z⟩
  · refine FACE_get (K2 := K2) (S2 := S2) (A2 := A2) (C2 := C2) (Y := Y) h (v := 0) (fun Q hQ => ?_) (fun Q hQ => ?_)
    · unfold wp_X7_arrive
      refine b_isBelow ?_
      rw [if_neg (by omega)]
      exact ⟨fun _ => hQ, fun z => absurd rfl z⟩
    · unfold wp_X8_arrive
      intro T1 f1
      subst f1
      refine b_within ?_
      rw [if_neg (by omega)]
      exact ⟨fun _ => hQ, fun z => absurd rfl z⟩
theorem pnd_16 {M : Ob} {r : Nat → Int32} {k v : Int32} : pndM (si M 16 v) r k = (si (pndM M r k).1 16 v, (pndM M r k).2) := by
  have e14 : (si M 16 v).1 14 = M.1 14 := si_ne (by decide)
  unfold pndM cntM
  rw [e14]
  by_cases c : r (194 + k.toNatClampNeg) < 0
  · rw [if_pos c, if_pos c]
  · rw [if_neg c, if_neg c]
    by_cases d : M.1 14 = 0
    · rw [if_pos d, if_pos d]
    · rw [if_neg d, if_neg d]; rfl
/-- a request by hand: the reference's flags may stand as they like but for 14 -/
theorem REL_req {N T : Int} {B K : Nat → Int32} {S A J C J2 M Mx : Ob} {p : Int32} (h : REL N T B K S A J C J2 M) (m3 : Mx.1 3 = M.1 3) (m11 : Mx.1 11 = M.1 11) (m14 : Mx.1 14 = 1) (m2 : ∀ j, ¬ j = 5 → j < 18 → Mx.2 j = M.2 j) (ok : okI p 21) : REL N T B K (reqS S p (K 4)) A J C J2 (mnow Mx (pndM Mx (Mx.2 4) p).1 (pndM Mx (Mx.2 4) p).2) := by
  have hP := h.2.2.2.2.2.2.2.1
  have e4 : Mx.2 4 = M.2 4 := m2 4 (by decide) (by decide)
  have h1 := MID_req (REL_MID Mx h m3 m11 m14 m2 rfl) ok
  have ok2 := ok_iff.mp ok
  rw [e4]
  rw [pnd_16] at h1
  refine MID_REL h1 rfl rfl rfl (fun j h4 h5 h18 => ?_) rfl rfl rfl rfl rfl h.2.2.2.2.2.2.1 (rP_fr hP rfl rfl rfl rfl rfl (fun k hk => pnd_r (by unfold inP at hk; rw [i_nat]; omega))) h.2.2.2.2.2.2.2.2
  show (if j = 4 then _ else if j = 5 then _ else if 18 ≤ j then _ else (pndM Mx (M.2 4) p).1.2 j) = _
  rw [if_neg h4, if_neg h5, if_neg (by omega)]
  rfl
theorem call_pend {N T : Int} {B K K2 : Nat → Int32} {S A J C S2 A2 J2 C2 Y M : Ob} (h : REL N T B K S A J C J2 M) (p : Int32) : FACE N T (fun Q => wp_X7_pend (B, K, S, A, J, C, K2, S2, A2, J2, C2, Y) p Q) (fun Q => wp_X8_pend M p Q) := by
  obtain ⟨hS, hA, hJ, hC, hB, hK, hp, hP, hJ2⟩ := id h
  have l0 : (0 : Int32).toInt = 0 := rfl
  have l19 : (19 : Int32).toInt = 19 := rfl
  have l20 : (20 : Int32).toInt = 20 := rfl
  by_cases c : 0 ≤ p.toInt ∧ p.toInt < 20
  · have ok21 : okI p 21 := ok_iff.mpr (by omega)
    have pn : p.toNatClampNeg < 21 := by rw [i_nat]; omega
    obtain ⟨o194, v194⟩ := at_off (r := M.2 4) (o := 194) (n := 194) (m := 21) (p := p) c.1 (by omega) rfl (by omega)
    have P := hS.1.1.1.2.2.1 _ pn
    have h1 : REL N T B K (reqS S p (K 4)) A J C J2 (mnow (si (si M 17 0) 14 1) (pndM (si (si M 17 0) 14 1) ((si (si M 17 0) 14 1).2 4) p).1 (pndM (si (si M 17 0) 14 1) ((si (si M 17 0) 14 1).2 4) p).2) := REL_req h rfl rfl rfl (fun _ _ _ => rfl) ok21
    have hcl : ∀ Q : Int32 → TR7 → Prop, (((if S.2 3 p.toNatClampNeg = 0 then (1 : Int32) else 0) = 0 → Q 0 (B, K, reqS S p (K 4), A, J, C, K2, S2, A2, J2, C2, Y)) ∧ (¬ (if S.2 3 p.toNatClampNeg = 0 then (1 : Int32) else 0) = 0 → Q 1 (B, K, reqS S p (K 4), A, J, C, K2, S2, A2, J2, C2, Y))) → wp_X7_pend (B, K, S, A, J, C, K2, S2, A2, J2, C2, Y) p Q := by
      intro Q hQ
      unfold wp_X7_pend
      refine b_isBelow ?_
      rw [if_pos (by omega)]
      exact ⟨fun z => absurd z (by decide), fun _ => request_class ok21 hQ⟩
    have hmo : ∀ Q : Int32 → Ob → Prop, ((0 ≤ M.2 4 (194 + p.toNatClampNeg) → Q 0 (mnow (si (si M 17 0) 14 1) (pndM (si (si M 17 0) 14 1) ((si (si M 17 0) 14 1).2 4) p).1 (pndM (si (si M 17 0) 14 1) ((si (si M 17 0) 14 1).2 4) p).2)) ∧ (¬ 0 ≤ M.2 4 (194 + p.toNatClampNeg) → Q 1 (mnow (si (si M 17 0) 14 1) (pndM (si (si M 17 0) 14 1) ((si (si M 17 0) 14 1).2 4) p).1 (pndM (si (si M 17 0) 14 1) ((si (si M 17 0) 14 1).2 4) p).2))) → wp_X8_pend M p Q := by
      intro Q hQ
      unfold wp_X8_pend
      intro T1 e1
      subst e1
      refine b_within ?_
      rw [if_pos (by omega)]
      refine ⟨fun _ => ⟨o194, fun z T6 e6 => ?_, fun z T6 e6 => ?_⟩, fun z => absurd z (by decide)⟩
      · have z : 0 ≤ M.2 4 (Int32.toNatClampNeg (194 + p)) := z
        rw [v194] at z
        subst e6
        exact pends_model ok21 (hQ.1 z)
      · have z : ¬ 0 ≤ M.2 4 (Int32.toNatClampNeg (194 + p)) := z
        rw [v194] at z
        subst e6
        exact pends_model ok21 (hQ.2 z)
    by_cases z : S.2 3 p.toNatClampNeg = 0
    · have zm : ¬ 0 ≤ M.2 4 (194 + p.toNatClampNeg) := by
        have := P.mp z
        rw [i_lt] at this
        rw [i_le]
        omega
      exact ⟨1, _, _, _, _, _, _, K2, S2, A2, J2, C2, Y, _, fun Q hQ => hcl Q ⟨fun y => absurd y (by rw [if_pos z]; decide), fun _ => hQ⟩, fun Q hQ => hmo Q ⟨fun y => absurd y zm, fun _ => hQ⟩, REL_up h1⟩
    · have zm : 0 ≤ M.2 4 (194 + p.toNatClampNeg) := by
        have : ¬ M.2 4 (194 + p.toNatClampNeg) < 0 := fun y => z (P.mpr y)
        rw [i_lt] at this
        rw [i_le]
        omega
      exact ⟨0, _, _, _, _, _, _, K2, S2, A2, J2, C2, Y, _, fun Q hQ => hcl Q ⟨fun _ => hQ, fun y => absurd (by rw [if_neg z]) y⟩, fun Q hQ => hmo Q ⟨fun _ => hQ, fun y => absurd zm y⟩, REL_up h1⟩
  · refine FACE_get (K2 := K2) (S2 := S2) (A2 := A2) (C2 := C2) (Y := Y) h (v := 0) (fun Q hQ => ?_) (fun Q hQ => ?_)
    · unfold wp_X7_pend
      refine b_isBelow ?_
      rw [if_neg (by omega)]
      exact ⟨fun _ => hQ, fun z => absurd rfl z⟩
    · unfold wp_X8_pend
      intro T1 e1
      subst e1
      refine b_within ?_
      rw [if_neg (by omega)]
      exact ⟨fun z => absurd rfl z, fun _ => hQ⟩
theorem call_hold {N T : Int} {B K K2 : Nat → Int32} {S A J C S2 A2 J2 C2 Y M : Ob} (h : REL N T B K S A J C J2 M) (p : Int32) (v : Int32) (hv : isB v) : FACE N T (fun Q => wp_X7_hold (B, K, S, A, J, C, K2, S2, A2, J2, C2, Y) p v Q) (fun Q => wp_X8_hold M p v Q) := by
  obtain ⟨hS, hA, hJ, hC, hB, hK, hp, hP, hJ2⟩ := id h
  have l8 : (8 : Int32).toInt = 8 := rfl
  have l15 : (15 : Int32).toInt = 15 := rfl
  by_cases c : 8 ≤ p.toInt ∧ p.toInt ≤ 15
  · have ok21 : okI p 21 := ok_iff.mpr (by omega)
    have pn : p.toNatClampNeg < 21 := by rw [i_nat]; omega
    obtain ⟨o215, v215⟩ := at_off (r := M.2 4) (o := 215) (n := 215) (m := 21) (p := p) (by omega) (by omega) rfl (by omega)
    have n215 : Int32.toNatClampNeg (215 + p) = 215 + p.toNatClampNeg := (off (a := 215) (k := p) (by decide) (by omega) (by have l : (215 : Int32).toInt = 215 := rfl; omega)).2
    obtain ⟨E, Eb⟩ := hS.1.2.2.2.2.2.1 _ pn
    have hcl : ∀ Q : Int32 → TR7 → Prop, ((¬ S.2 5 p.toNatClampNeg = v → isB v ∧ okI p 21 ∧ ∀ T4 : Ob, T4 = (sa S 5 (upd (S.2 5) p.toNatClampNeg v)) → ((v = 0 → Q 1 (B, K, T4, A, J, C, K2, S2, A2, J2, C2, Y)) ∧ (¬ v = 0 → wp_X5_request T4 p (K 4) (fun r7 u6 => Q 1 (B, K, u6, A, J, C, K2, S2, A2, J2, C2, Y))))) ∧ (S.2 5 p.toNatClampNeg = v → Q 0 (B, K, S, A, J, C, K2, S2, A2, J2, C2, Y))) → wp_X7_hold (B, K, S, A, J, C, K2, S2, A2, J2, C2, Y) p v Q := by
      intro Q hQ
      unfold wp_X7_hold
      exact ⟨fun z => absurd (i_lt.mp z) (by omega), fun _ => ⟨fun z => absurd (i_lt.mp z) (by omega), fun _ => ⟨ok21, hQ⟩⟩⟩
    have hmo : ∀ Q : Int32 → Ob → Prop, wp_X8_hold_L35 Q p v (S.2 5 p.toNatClampNeg) (si M 17 0) → wp_X8_hold M p v Q := by
      intro Q hQ
      unfold wp_X8_hold
      intro T1 e1
      subst e1
      refine b_within ?_
      rw [if_pos (by omega)]
      refine ⟨fun z => absurd z (by decide), fun _ => ⟨o215, fun z => ?_, fun z => ?_⟩⟩
      · have z : ¬ M.2 4 (Int32.toNatClampNeg (215 + p)) = 1 := z
        rw [v215, ← E] at z
        rw [isB_n1 Eb z] at hQ
        exact hQ
      · have z : M.2 4 (Int32.toNatClampNeg (215 + p)) = 1 := z
        rw [v215, ← E] at z
        rw [z] at hQ
        exact hQ
    by_cases d : S.2 5 p.toNatClampNeg = v
    · refine FACE_get (K2 := K2) (S2 := S2) (A2 := A2) (C2 := C2) (Y := Y) h (v := 0) (fun Q hQ => hcl Q ⟨fun z => absurd d z, fun _ => hQ⟩) (fun Q hQ => hmo Q ?_)
      unfold wp_X8_hold_L35
      exact ⟨fun z => absurd d z, fun _ => hQ⟩
    · -- held anew, or held no more
      have h1 : REL N T B K (sa S 5 (upd (S.2 5) p.toNatClampNeg v)) A J C J2 (si (sa (si M 17 0) 4 (upd (M.2 4) (215 + p.toNatClampNeg) v)) 14 1) := by
        refine REL_S h ?_ ?_ rfl ?_
        · show rS true _ _ ((sa (si M 17 0) 4 (upd (M.2 4) (215 + p.toNatClampNeg) v)).2 4)
          rw [sa_self]
          exact rS_fr (rS_hld hS pn hv) (fun _ _ => rfl) rfl rfl rfl rfl rfl rfl
        · intro k hk
          show (sa (si M 17 0) 4 (upd (M.2 4) (215 + p.toNatClampNeg) v)).2 4 k = _
          rw [sa_self]
          exact up_ne (by unfold inS at hk; omega)
        · intro j hj
          show (sa (si M 17 0) 4 (upd (M.2 4) (215 + p.toNatClampNeg) v)).2 j = _
          exact sa_ne (by omega)
      by_cases v0 : v = 0
      · refine ⟨1, _, _, _, _, _, _, K2, S2, A2, J2, C2, Y, _, fun Q hQ => hcl Q ⟨fun _ => ⟨hv, ok21, fun T4 e4 => ⟨fun _ => ?_, fun z => absurd v0 z⟩⟩, fun z => absurd z d⟩, fun Q hQ => hmo Q ?_, REL_up h1⟩
        · subst e4
          exact hQ
        · unfold wp_X8_hold_L35
          refine ⟨fun _ => ⟨fun _ => ⟨o215, fun T8 e8 T9 e9 => ⟨fun _ => ?_, fun z => absurd v0 z⟩⟩, fun z => absurd v0 z⟩, fun z => absurd z d⟩
          rw [n215] at e8
          rw [v0] at hQ
          subst e8
          subst e9
          exact hQ
      · have v1 := isB_ne hv v0
        have h2 := REL_req (Mx := si (sa (si M 17 0) 4 (upd (M.2 4) (215 + p.toNatClampNeg) v)) 14 1) (p := p) h1 rfl rfl rfl (fun _ _ _ => rfl) ok21
        refine ⟨1, _, _, _, _, _, _, K2, S2, A2, J2, C2, Y, _, fun Q hQ => hcl Q ⟨fun _ => ⟨hv, ok21, fun T4 e4 => ⟨fun z => absurd z v0, fun _ => ?_⟩⟩, fun z => absurd z d⟩, fun Q hQ => hmo Q ?_, REL_up h2⟩
        · subst e4
          exact request_class ok21 hQ
        · unfold wp_X8_hold_L35
          refine ⟨fun _ => ⟨fun z => absurd z v0, fun _ => ⟨o215, fun T8 e8 T9 e9 => ⟨fun z => absurd z v0, fun _ => ?_⟩⟩⟩, fun z => absurd z d⟩
          rw [n215] at e8
          rw [v1] at hQ
          subst e8
          subst e9
          exact pends_model ok21 hQ
  · refine FACE_get (K2 := K2) (S2 := S2) (A2 := A2) (C2 := C2) (Y := Y) h (v := 0) (fun Q hQ => ?_) (fun Q hQ => ?_)
    · unfold wp_X7_hold
      refine ⟨fun _ => hQ, fun z => ⟨fun _ => hQ, fun y => ?_⟩⟩
      rw [i_lt] at z y
      exact absurd ⟨by omega, by omega⟩ c
    · unfold wp_X8_hold
      intro T1 e1
      subst e1
      refine b_within ?_
      rw [if_neg (by omega)]
      exact ⟨fun _ => hQ, fun z => absurd rfl z⟩
