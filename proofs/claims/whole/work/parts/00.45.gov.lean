/-! LAYER 2: instructions 14 to 17, 19, 25, 27 -/
theorem rS_wdr {nw : Bool} {S M : Ob} {r : Nat → Int32} {q : Nat} (h : rS nw S M r) (hq : q < 21) : rS nw (sa S 3 (upd (S.2 3) q 0)) M (upd r (194 + q) (-1)) := by
  obtain ⟨⟨⟨⟨⟨⟨a1, a2⟩, b, cc, d, f⟩, K, P, E, Sp⟩, sh, hd⟩, q1, q2, q3, q4, q5, q6⟩, n, o⟩ := h
  have hr : ∀ j : Nat, ¬ j = 194 + q → upd r (194 + q) (-1) j = r j := fun j hj => up_ne hj
  refine ⟨⟨⟨⟨⟨⟨by rw [hr 30 (by omega)]; exact a1, a2⟩, fun j hj => ?_, fun j hj => ?_, d, by rw [hr 17 (by omega)]; exact f⟩, K, fun j hj => ?_, fun j hj => E j hj, Sp⟩, by rw [hr 16 (by omega)]; exact sh, by rw [hr 320 (by omega)]; exact hd⟩, q1, q2, fun j hj => ?_, fun j hj => ?_, fun j hj => ?_, q6⟩, n, fun hn => ?_⟩
  · have a2' : (S.1 10).toInt ≤ 21 := a2.2
    have hj : (j : Int) < (S.1 10).toInt := hj
    rw [hr (152 + j) (by omega)]; exact b j hj
  · rw [hr (173 + j) (by omega)]; exact cc j hj
  · rw [sa_self]
    by_cases z : j = q
    · subst z
      rw [up_eq, up_eq]
      exact ⟨fun _ => by decide, fun _ => rfl⟩
    · rw [up_ne z, hr (194 + j) (by omega)]
      exact P j hj
  · rw [sa_self]
    by_cases z : j = q
    · subst z; rw [up_eq]; exact isB0
    · rw [up_ne z]; exact q3 j hj
  · rw [hr (300 + j) (by omega)]; exact q4 j hj
  · rw [hr (215 + j) (by omega)]; exact q5 j hj
  · obtain ⟨o1, o2, o3, o4, o5⟩ := o hn
    refine ⟨fun j hj hj2 => ?_, fun j hj hj2 => ?_, o3, o4, o5⟩
    · rw [sa_self] at hj2
      by_cases z : j = q
      · subst z; rw [up_eq] at hj2; exact absurd hj2 (by decide)
      · rw [up_ne z] at hj2
        rw [hr (194 + j) (by omega)]
        exact o1 j hj hj2
    · rw [hr (321 + j) (by omega)]; exact o2 j hj hj2
theorem rS_shut {nw : Bool} {S M : Ob} {r : Nat → Int32} {v : Int32} (h : rS nw S M r) (hv : isB v) : rS nw (si S 14 v) M (upd r 16 v) := by
  obtain ⟨⟨⟨⟨⟨⟨a1, a2⟩, b, cc, d, f⟩, K, P, E, Sp⟩, sh, hd⟩, q1, q2, q3, q4, q5, q6⟩, n, o⟩ := h
  have hr : ∀ j : Nat, ¬ j = 16 → upd r 16 v j = r j := fun j hj => up_ne hj
  refine ⟨⟨⟨⟨⟨⟨by rw [hr 30 (by omega)]; exact a1, a2⟩, fun j hj => ?_, fun j hj => ?_, d, by rw [hr 17 (by omega)]; exact f⟩, K, fun j hj => ?_, fun j hj => E j hj, Sp⟩, by rw [up_eq]; rfl, by rw [hr 320 (by omega)]; exact hd⟩, hv, q2, q3, fun j hj => ?_, fun j hj => ?_, q6⟩, n, fun hn => ?_⟩
  · rw [hr (152 + j) (by omega)]; exact b j hj
  · rw [hr (173 + j) (by omega)]; exact cc j hj
  · rw [hr (194 + j) (by omega)]; exact P j hj
  · rw [hr (300 + j) (by omega)]; exact q4 j hj
  · rw [hr (215 + j) (by omega)]; exact q5 j hj
  · obtain ⟨o1, o2, o3, o4, o5⟩ := o hn
    refine ⟨fun j hj hj2 => ?_, fun j hj hj2 => ?_, o3, o4, o5⟩
    · rw [hr (194 + j) (by omega)]; exact o1 j hj hj2
    · rw [hr (321 + j) (by omega)]; exact o2 j hj hj2
theorem rS_base {nw : Bool} {S M : Ob} {r : Nat → Int32} {v : Int32} (h : rS nw S M r) : rS nw (si S 13 v) M (upd r 17 v) := by
  obtain ⟨⟨⟨⟨⟨⟨a1, a2⟩, b, cc, d, f⟩, K, P, E, Sp⟩, sh, hd⟩, q1, q2, q3, q4, q5, q6⟩, n, o⟩ := h
  have hr : ∀ j : Nat, ¬ j = 17 → upd r 17 v j = r j := fun j hj => up_ne hj
  refine ⟨⟨⟨⟨⟨⟨by rw [hr 30 (by omega)]; exact a1, a2⟩, fun j hj => ?_, fun j hj => ?_, d, by rw [up_eq]; rfl⟩, K, fun j hj => ?_, fun j hj => E j hj, Sp⟩, by rw [hr 16 (by omega)]; exact sh, by rw [hr 320 (by omega)]; exact hd⟩, q1, q2, q3, fun j hj => ?_, fun j hj => ?_, q6⟩, n, fun hn => ?_⟩
  · rw [hr (152 + j) (by omega)]; exact b j hj
  · rw [hr (173 + j) (by omega)]; exact cc j hj
  · rw [hr (194 + j) (by omega)]; exact P j hj
  · rw [hr (300 + j) (by omega)]; exact q4 j hj
  · rw [hr (215 + j) (by omega)]; exact q5 j hj
  · obtain ⟨o1, o2, o3, o4, o5⟩ := o hn
    refine ⟨fun j hj hj2 => ?_, fun j hj hj2 => ?_, o3, o4, o5⟩
    · rw [hr (194 + j) (by omega)]; exact o1 j hj hj2
    · rw [hr (321 + j) (by omega)]; exact o2 j hj hj2
theorem rS_rank {nw : Bool} {S M : Ob} {r : Nat → Int32} {q : Nat} {v : Int32} (h : rS nw S M r) (hq : q < 20) (ha : S.2 4 q = 0) (hv : 0 ≤ v.toInt ∧ v.toInt ≤ 255) : rS nw (sa S 0 (upd (S.2 0) q v)) M (upd r (173 + q) v) := by
  obtain ⟨⟨⟨⟨⟨⟨a1, a2⟩, b, cc, d, f⟩, K, P, E, Sp⟩, sh, hd⟩, q1, q2, q3, q4, q5, q6⟩, n, o⟩ := h
  have hr : ∀ j : Nat, ¬ j = 173 + q → upd r (173 + q) v j = r j := fun j hj => up_ne hj
  refine ⟨⟨⟨⟨⟨⟨by rw [hr 30 (by omega)]; exact a1, a2⟩, fun j hj => ?_, fun j hj => ?_, ?_, by rw [hr 17 (by omega)]; exact f⟩, fun j hj => ?_, fun j hj => ?_, fun j hj => E j hj, Sp⟩, by rw [hr 16 (by omega)]; exact sh, by rw [hr 320 (by omega)]; exact hd⟩, q1, q2, q3, fun j hj => ?_, fun j hj => ?_, q6⟩, ⟨n.1, fun i j hij hj => ?_⟩, fun hn => ?_⟩
  · have a2' : (S.1 10).toInt ≤ 21 := a2.2
    have hj : (j : Int) < (S.1 10).toInt := hj
    rw [hr (152 + j) (by omega)]; exact b j hj
  · rw [sa_self]
    by_cases z : j = q
    · subst z; rw [up_eq, up_eq]
    · rw [up_ne z, hr (173 + j) (by omega)]; exact cc j hj
  · rw [sa_self, up_ne (by omega)]; exact d
  · rw [sa_self]
    by_cases z : j = q
    · subst z; rw [up_eq]; exact hv
    · rw [up_ne z]; exact K j hj
  · rw [hr (194 + j) (by omega)]; exact P j hj
  · rw [hr (300 + j) (by omega)]; exact q4 j hj
  · rw [hr (215 + j) (by omega)]; exact q5 j hj
  · have hj : (j : Int) < (S.1 10).toInt := hj
    have go : ∀ i : Nat, (i : Int) < (S.1 10).toInt → grp (sa S 0 (upd (S.2 0) q v)) (S.2 9 i) = grp S (S.2 9 i) := by
      intro i hi
      have z : ¬ (S.2 9 i).toNatClampNeg = q := fun z => by
        have := n.1 i hi
        rw [z, ha] at this
        exact absurd this (by decide)
      unfold grp
      rw [sa_self, up_ne z]
      rfl
    show grp (sa S 0 (upd (S.2 0) q v)) (S.2 9 j) < grp (sa S 0 (upd (S.2 0) q v)) (S.2 9 i)
    rw [go j hj, go i (by omega)]
    exact n.2 i j hij hj
  · obtain ⟨o1, o2, o3, o4, o5⟩ := o hn
    refine ⟨fun j hj hj2 => ?_, fun j hj hj2 => ?_, o3, o4, o5⟩
    · rw [hr (194 + j) (by omega)]; exact o1 j hj hj2
    · rw [hr (321 + j) (by omega)]; exact o2 j hj hj2
theorem MID_S0 {W : Ob} {nw : Bool} {N T : Int} {K B r : Nat → Int32} {S A J C M : Ob} {S' : Ob} {r' : Nat → Int32} (h : MID W nw N T K S A J C B M r) (hS : rS nw S' M r') (hr : ∀ k, ¬ inS k → r' k = r k) : MID W nw N T K S' A J C B M r' := MID_S h hS hr rfl (fun _ _ _ => rfl) (fun _ _ _ => rfl) (fun _ => rfl)
theorem hld_at {W : Ob} {nw : Bool} {N T : Int} {K B r : Nat → Int32} {S A J C M : Ob} {k : Int32} (h : MID W nw N T K S A J C B M r) (hk : okI k 21) : okI (215 + k) 342 ∧ r (Int32.toNatClampNeg (215 + k)) = S.2 5 k.toNatClampNeg ∧ isB (S.2 5 k.toNatClampNeg) := by
  obtain ⟨h0, h1⟩ := ok_iff.mp hk
  have e : (215 : Int32).toInt = 215 := rfl
  have o := off (a := 215) (k := k) (by omega) (by omega) (by omega)
  have q := h.1.1.2.2.2.2.2.1 k.toNatClampNeg (by rw [i_nat]; omega)
  refine ⟨o.1, ?_, q.2⟩
  rw [o.2, show (215 : Int32).toNatClampNeg = 215 from rfl]
  exact q.1.symm
theorem sa_same (S : Ob) (k : Nat) : sa S k (S.2 k) = S := by
  unfold sa
  refine Prod.ext rfl ?_
  funext j
  show va_up S.2 k (S.2 k) j = S.2 j
  by_cases c : j = k
  · subst c; rw [va_up_self]
  · rw [va_up_ne _ _ c]
theorem op_14 {W : Ob} {nw : Bool} {N T : Int} {K B r : Nat → Int32} {S A J C M : Ob} (x y : Int32) (h : MID W nw N T K S A J C B M r) (x0 : 0 ≤ x.toInt) : ∃ (S' C' M' : Ob) (r' : Nat → Int32), (∀ (J0 : Ob) (Q : Mac → Prop), Q (K, S', A, J0, C', B) → wp_X1_move C 14 x y (fun u24 => wp_X3_govern (K, S, A, J0, u24, B) 14 x y Q)) ∧ (∀ Q : Mod → Prop, Q (M', r') → mTail nw Q 14 x y (0 + (x &&& 7)) (0 + (y &&& 7)) M r) ∧ MID W nw N T K S' A J C' B M' r' := by
  have rr := rem18 x0
  have ok : okI (x - x / 18 * 18) 21 := ok_iff.mpr (by omega)
  have h1 := MID_req h ok
  refine ⟨_, _, _, _, fun J0 Q hQ => ?_, fun Q hQ => ?_, h1⟩
  · unfold wp_X1_move wp_X3_govern
    intro x1 f1
    refine ⟨fun z => absurd z (by decide), fun z => absurd z (by decide), fun z => absurd z (by decide), fun z => absurd z (by decide), fun z => absurd z (by decide), fun z => absurd z (by decide), fun z => absurd z (by decide), fun z => absurd z (by decide), fun _ _ _ _ _ _ _ _ => ⟨fun _ => request_class ok hQ, fun z => absurd z (by decide), fun z => absurd z (by decide), fun z => absurd z (by decide), fun z => absurd z (by decide), fun z => absurd z (by decide), fun z => absurd z (by decide), fun z => absurd rfl z⟩⟩
  · unfold mTail wp_X8_rules
    refine ⟨fun _ => ⟨fun _ => ⟨fun _ => ⟨fun _ => ⟨fun z => absurd z (by decide), fun _ => ⟨fun z => absurd rfl z, fun _ => pends_model ok hQ⟩⟩, fun z => absurd (by decide) z⟩, fun z => absurd z (by decide)⟩, fun z => absurd (by decide) z⟩, fun z => absurd z (by decide)⟩
theorem op_15 {W : Ob} {nw : Bool} {N T : Int} {K B r : Nat → Int32} {S A J C M : Ob} (x y : Int32) (h : MID W nw N T K S A J C B M r) (x0 : 0 ≤ x.toInt) : ∃ (S' C' M' : Ob) (r' : Nat → Int32), (∀ (J0 : Ob) (Q : Mac → Prop), Q (K, S', A, J0, C', B) → wp_X1_move C 15 x y (fun u24 => wp_X3_govern (K, S, A, J0, u24, B) 15 x y Q)) ∧ (∀ Q : Mod → Prop, Q (M', r') → mTail nw Q 15 x y (0 + (x &&& 7)) (0 + (y &&& 7)) M r) ∧ MID W nw N T K S' A J C' B M' r' := by
  have rr := rem18 x0
  have ok : okI (x - x / 18 * 18) 21 := ok_iff.mpr (by omega)
  obtain ⟨o1, o2, o3⟩ := hld_at h ok
  obtain ⟨p1, p2⟩ := pend_iff h ok
  have l194 : (194 : Int32).toInt = 194 := rfl
  have of := off (a := 194) (k := x - x / 18 * 18) (by omega) (by omega) (by omega)
  rw [show (194 : Int32).toNatClampNeg = 194 from rfl] at of
  have hq : Int32.toNatClampNeg (x - x / 18 * 18) < 21 := by rw [i_nat]; omega
  by_cases d : S.2 5 (Int32.toNatClampNeg (x - x / 18 * 18)) = 0
  · have h1 := MID_S0 h (rS_wdr h.1 hq) (fun k hk => up_ne (by unfold inS at hk; omega))
    have eS : wdrS S (x - x / 18 * 18) = sa S 3 (upd (S.2 3) (Int32.toNatClampNeg (x - x / 18 * 18)) 0) := by
      unfold wdrS
      by_cases c : S.2 3 (Int32.toNatClampNeg (x - x / 18 * 18)) = 0
      · rw [if_pos c]
        have := up_same (S.2 3) (Int32.toNatClampNeg (x - x / 18 * 18))
        rw [c] at this
        rw [this, sa_same]
      · rw [if_neg c, if_pos d]
    refine ⟨_, _, _, _, fun J0 Q hQ => ?_, fun Q hQ => ?_, h1⟩
    · rw [← eS] at hQ
      unfold wp_X1_move wp_X3_govern
      intro x1 f1
      refine ⟨fun z => absurd z (by decide), fun z => absurd z (by decide), fun z => absurd z (by decide), fun z => absurd z (by decide), fun z => absurd z (by decide), fun z => absurd z (by decide), fun z => absurd z (by decide), fun z => absurd z (by decide), fun _ _ _ _ _ _ _ _ => ⟨fun z => absurd z (by decide), fun _ => withdraw_class ok hQ, fun z => absurd z (by decide), fun z => absurd z (by decide), fun z => absurd z (by decide), fun z => absurd z (by decide), fun z => absurd z (by decide), fun _ z => absurd rfl z⟩⟩
    · unfold mTail wp_X8_rules
      dsimp only
      rw [o2]
      refine ⟨fun _ => ⟨fun _ => ⟨fun _ => ⟨fun _ => ⟨fun z => absurd z (by decide), fun _ => ⟨fun _ => ⟨fun z => absurd rfl z, fun _ => ⟨o1, fun _ => ⟨p1, fun T11 e11 => ?_⟩, fun z => absurd (d.symm.trans z) (by decide)⟩⟩, fun z => absurd z (by decide)⟩⟩, fun z => absurd (by decide) z⟩, fun z => absurd z (by decide)⟩, fun z => absurd (by decide) z⟩, fun z => absurd z (by decide)⟩
      rw [of.2] at e11
      subst e11
      exact hQ
  · have d1 := isB_ne o3 d
    have eS : wdrS S (x - x / 18 * 18) = S := by
      unfold wdrS
      by_cases c : S.2 3 (Int32.toNatClampNeg (x - x / 18 * 18)) = 0
      · rw [if_pos c]
      · rw [if_neg c, if_neg d]
    refine ⟨_, _, _, _, fun J0 Q hQ => ?_, fun Q hQ => ?_, h⟩
    · have hQ : Q (K, wdrS S (x - x / 18 * 18), A, J0, C, B) := by rw [eS]; exact hQ
      unfold wp_X1_move wp_X3_govern
      intro x1 f1
      refine ⟨fun z => absurd z (by decide), fun z => absurd z (by decide), fun z => absurd z (by decide), fun z => absurd z (by decide), fun z => absurd z (by decide), fun z => absurd z (by decide), fun z => absurd z (by decide), fun z => absurd z (by decide), fun _ _ _ _ _ _ _ _ => ⟨fun z => absurd z (by decide), fun _ => withdraw_class ok hQ, fun z => absurd z (by decide), fun z => absurd z (by decide), fun z => absurd z (by decide), fun z => absurd z (by decide), fun z => absurd z (by decide), fun _ z => absurd rfl z⟩⟩
    · unfold mTail wp_X8_rules
      dsimp only
      rw [o2]
      refine ⟨fun _ => ⟨fun _ => ⟨fun _ => ⟨fun _ => ⟨fun z => absurd z (by decide), fun _ => ⟨fun _ => ⟨fun z => absurd rfl z, fun _ => ⟨o1, fun z => absurd d1 z, fun _ => ⟨p1, p1, fun T11 e11 => ?_⟩⟩⟩, fun z => absurd z (by decide)⟩⟩, fun z => absurd (by decide) z⟩, fun z => absurd z (by decide)⟩, fun z => absurd (by decide) z⟩, fun z => absurd z (by decide)⟩
      rw [up_same] at e11
      subst e11
      exact hQ
theorem op_16 {W : Ob} {nw : Bool} {N T : Int} {K B r : Nat → Int32} {S A J C M : Ob} (x y : Int32) (h : MID W nw N T K S A J C B M r) : ∃ (S' C' M' : Ob) (r' : Nat → Int32), (∀ (J0 : Ob) (Q : Mac → Prop), Q (K, S', A, J0, C', B) → wp_X1_move C 16 x y (fun u24 => wp_X3_govern (K, S, A, J0, u24, B) 16 x y Q)) ∧ (∀ Q : Mod → Prop, Q (M', r') → mTail nw Q 16 x y (0 + (x &&& 7)) (0 + (y &&& 7)) M r) ∧ MID W nw N T K S' A J C' B M' r' := by
  have h1 := MID_S0 h (rS_shut h.1 (isB_1 x)) (fun k hk => up_ne (by unfold inS at hk; omega))
  refine ⟨_, _, _, _, fun J0 Q hQ => ?_, fun Q hQ => ?_, h1⟩
  · unfold wp_X1_move wp_X3_govern
    intro x1 f1
    refine ⟨fun z => absurd z (by decide), fun z => absurd z (by decide), fun z => absurd z (by decide), fun z => absurd z (by decide), fun z => absurd z (by decide), fun z => absurd z (by decide), fun z => absurd z (by decide), fun z => absurd z (by decide), fun _ _ _ _ _ _ _ _ => ⟨fun z => absurd z (by decide), fun z => absurd z (by decide), fun _ => fun T6 e6 => ?_, fun z => absurd z (by decide), fun z => absurd z (by decide), fun z => absurd z (by decide), fun z => absurd z (by decide), fun _ _ z => absurd rfl z⟩⟩
    subst e6
    exact hQ
  · unfold mTail wp_X8_rules
    refine ⟨fun _ => ⟨fun _ => ⟨fun _ => ⟨fun _ => ⟨fun z => absurd z (by decide), fun _ => ⟨fun _ => ⟨fun _ => ⟨fun z => absurd rfl z, fun _ => fun T6 e6 => ?_⟩, fun z => absurd z (by decide)⟩, fun z => absurd z (by decide)⟩⟩, fun z => absurd (by decide) z⟩, fun z => absurd z (by decide)⟩, fun z => absurd (by decide) z⟩, fun z => absurd z (by decide)⟩
    subst e6
    exact hQ
theorem op_17 {W : Ob} {nw : Bool} {N T : Int} {K B r : Nat → Int32} {S A J C M : Ob} (x y : Int32) (h : MID W nw N T K S A J C B M r) : ∃ (S' C' M' : Ob) (r' : Nat → Int32), (∀ (J0 : Ob) (Q : Mac → Prop), Q (K, S', A, J0, C', B) → wp_X1_move C 17 x y (fun u24 => wp_X3_govern (K, S, A, J0, u24, B) 17 x y Q)) ∧ (∀ Q : Mod → Prop, Q (M', r') → mTail nw Q 17 x y (0 + (x &&& 7)) (0 + (y &&& 7)) M r) ∧ MID W nw N T K S' A J C' B M' r' := by
  have h1 := MID_S0 h (rS_base (v := x) h.1) (fun k hk => up_ne (by unfold inS at hk; omega))
  refine ⟨_, _, _, _, fun J0 Q hQ => ?_, fun Q hQ => ?_, h1⟩
  · unfold wp_X1_move wp_X3_govern
    intro x1 f1
    refine ⟨fun z => absurd z (by decide), fun z => absurd z (by decide), fun z => absurd z (by decide), fun z => absurd z (by decide), fun z => absurd z (by decide), fun z => absurd z (by decide), fun z => absurd z (by decide), fun z => absurd z (by decide), fun _ _ _ _ _ _ _ _ => ⟨fun z => absurd z (by decide), fun z => absurd z (by decide), fun z => absurd z (by decide), fun _ => fun T6 e6 => ?_, fun z => absurd z (by decide), fun z => absurd z (by decide), fun z => absurd z (by decide), fun _ _ _ z => absurd rfl z⟩⟩
    subst e6
    exact hQ
  · unfold mTail wp_X8_rules
    refine ⟨fun _ => ⟨fun _ => ⟨fun _ => ⟨fun _ => ⟨fun z => absurd z (by decide), fun _ => ⟨fun _ => ⟨fun _ => ⟨fun _ => ⟨fun z => absurd rfl z, fun _ => fun T6 e6 => ?_⟩, fun z => absurd z (by decide)⟩, fun z => absurd z (by decide)⟩, fun z => absurd z (by decide)⟩⟩, fun z => absurd (by decide) z⟩, fun z => absurd z (by decide)⟩, fun z => absurd (by decide) z⟩, fun z => absurd z (by decide)⟩
    subst e6
    exact hQ
theorem op_19 {W : Ob} {nw : Bool} {N T : Int} {K B r : Nat → Int32} {S A J C M : Ob} (x y : Int32) (h : MID W nw N T K S A J C B M r) : ∃ (S' C' M' : Ob) (r' : Nat → Int32), (∀ (J0 : Ob) (Q : Mac → Prop), Q (K, S', A, J0, C', B) → wp_X1_move C 19 x y (fun u24 => wp_X3_govern (K, S, A, J0, u24, B) 19 x y Q)) ∧ (∀ Q : Mod → Prop, Q (M', r') → mTail nw Q 19 x y (0 + (x &&& 7)) (0 + (y &&& 7)) M r) ∧ MID W nw N T K S' A J C' B M' r' := by
  obtain ⟨c0, cb, -⟩ := h.2.2.2.1
  have h1 := MID_i (s := 13) (i := 23) (v := 1) h (by unfold pairC; omega) ⟨cb.1, cb.2.1, cb.2.2.1, cb.2.2.2.1, cb.2.2.2.2.1, cb.2.2.2.2.2.1, cb.2.2.2.2.2.2.1, isB1, cb.2.2.2.2.2.2.2.2⟩
  refine ⟨_, _, _, _, fun J0 Q hQ => ?_, fun Q hQ => ?_, h1⟩
  · unfold wp_X1_move wp_X3_govern
    intro x1 f1
    refine ⟨fun z => absurd z (by decide), fun z => absurd z (by decide), fun z => absurd z (by decide), fun z => absurd z (by decide), fun z => absurd z (by decide), fun z => absurd z (by decide), fun z => absurd z (by decide), fun z => absurd z (by decide), fun _ _ _ _ _ _ _ _ => ⟨fun z => absurd z (by decide), fun z => absurd z (by decide), fun z => absurd z (by decide), fun z => absurd z (by decide), fun _ => fun T6 e6 => ?_, fun z => absurd z (by decide), fun z => absurd z (by decide), fun _ _ _ _ z => absurd rfl z⟩⟩
    subst e6
    exact hQ
  · unfold mTail wp_X8_rules
    refine ⟨fun _ => ⟨fun _ => ⟨fun _ => ⟨fun _ => ⟨fun z => absurd z (by decide), fun _ => ⟨fun _ => ⟨fun _ => ⟨fun _ => ⟨fun _ => ⟨fun _ => fun T6 e6 => ?_, fun z => absurd z (by decide)⟩, fun z => absurd z (by decide)⟩, fun z => absurd z (by decide)⟩, fun z => absurd z (by decide)⟩, fun z => absurd z (by decide)⟩⟩, fun z => absurd (by decide) z⟩, fun z => absurd z (by decide)⟩, fun z => absurd (by decide) z⟩, fun z => absurd z (by decide)⟩
    subst e6
    exact hQ
theorem op_25 {W : Ob} {nw : Bool} {N T : Int} {K B r : Nat → Int32} {S A J C M : Ob} (x y : Int32) (h : MID W nw N T K S A J C B M r) (x0 : 0 ≤ x.toInt) (ha : S.2 4 (Int32.toNatClampNeg (x - x / 20 * 20)) = 0) : ∃ (S' C' M' : Ob) (r' : Nat → Int32), (∀ (J0 : Ob) (Q : Mac → Prop), Q (K, S', A, J0, C', B) → wp_X1_move C 25 x y (fun u24 => wp_X3_govern (K, S, A, J0, u24, B) 25 x y Q)) ∧ (∀ Q : Mod → Prop, Q (M', r') → mTail nw Q 25 x y (0 + (x &&& 7)) (0 + (y &&& 7)) M r) ∧ MID W nw N T K S' A J C' B M' r' := by
  obtain ⟨c0, cb, -⟩ := h.2.2.2.1
  obtain ⟨w1, w2, w3, w4, w5⟩ := reg_at c0 y
  have rr := rem20 x0
  have ok : okI (x - x / 20 * 20) 21 := ok_iff.mpr (by omega)
  have l173 : (173 : Int32).toInt = 173 := rfl
  have of := off (a := 173) (k := x - x / 20 * 20) (by omega) (by omega) (by omega)
  rw [show (173 : Int32).toNatClampNeg = 173 from rfl] at of
  have hq : Int32.toNatClampNeg (x - x / 20 * 20) < 20 := by rw [i_nat]; omega
  have mk := mask_255 (C.2 1 (Int32.toNatClampNeg (y &&& 7)))
  have ev : (((C.2 1 (Int32.toNatClampNeg (y &&& 7)) - C.2 1 (Int32.toNatClampNeg (y &&& 7)) / 256 * 256) + 256) - ((C.2 1 (Int32.toNatClampNeg (y &&& 7)) - C.2 1 (Int32.toNatClampNeg (y &&& 7)) / 256 * 256) + 256) / 256 * 256) = C.2 1 (Int32.toNatClampNeg (y &&& 7)) &&& 255 := i_eq.mpr (by rw [mod_256, mask_255])
  have h1 := MID_S0 h (rS_rank (v := C.2 1 (Int32.toNatClampNeg (y &&& 7)) &&& 255) h.1 hq ha (by omega)) (fun k hk => up_ne (by unfold inS at hk; omega))
  refine ⟨_, _, _, _, fun J0 Q hQ => ?_, fun Q hQ => ?_, h1⟩
  · unfold wp_X1_move wp_X3_govern
    intro x1 f1
    refine ⟨fun z => absurd z (by decide), fun z => absurd z (by decide), fun z => absurd z (by decide), fun z => absurd z (by decide), fun z => absurd z (by decide), fun z => absurd z (by decide), fun z => absurd z (by decide), fun z => absurd z (by decide), fun _ _ _ _ _ _ _ _ => ⟨fun z => absurd z (by decide), fun z => absurd z (by decide), fun z => absurd z (by decide), fun z => absurd z (by decide), fun z => absurd z (by decide), fun _ => ⟨w1, ok, fun T9 e9 => ?_⟩, fun z => absurd z (by decide), fun _ _ _ _ _ z => absurd rfl z⟩⟩
    subst e9
    exact hQ
  · unfold mTail wp_X8_mod
    rw [w3, w4, ev]
    refine ⟨fun _ => ⟨fun _ => ⟨fun _ => ⟨fun _ => ⟨fun _ => ⟨fun _ => ⟨fun z => absurd rfl z, fun _ => ⟨w2, by decide, by decide, of.1, fun T38 e38 => ?_⟩⟩, fun z => absurd (by decide) z⟩, fun z => absurd (by decide) z⟩, fun z => absurd (by decide) z⟩, fun z => absurd z (by decide)⟩, fun z => absurd (by decide) z⟩, fun z => absurd z (by decide)⟩
    rw [of.2] at e38
    subst e38
    exact hQ
def telJ (J : Ob) (v : Int32) : Ob := if 64 ≤ J.1 4 then si J 4 (J.1 4 + 1) else si (sa J 0 (upd (J.2 0) (Int32.toNatClampNeg (J.1 4)) v)) 4 (J.1 4 + 1)
theorem tell_class {J : Ob} {v : Int32} {Q : Ob → Prop} (h0 : 0 ≤ (J.1 4).toInt) (h : Q (telJ J v)) : wp_X2_tell J v Q := by
  have l64 : (64 : Int32).toInt = 64 := rfl
  unfold telJ at h
  unfold wp_X2_tell
  refine ⟨fun c T2 e2 => ?_, fun c => ⟨ok_iff.mpr (by rw [i_le] at c; omega), fun T3 e3 T4 e4 => ?_⟩⟩
  · rw [if_pos c] at h; subst e2; exact h
  · rw [if_neg c] at h; subst e3; subst e4; exact h
theorem tel_si {J : Ob} {v w : Int32} : telJ (si J 13 w) v = si (telJ J v) 13 w := by
  have e : (si J 13 w).1 4 = J.1 4 := si_ne (by decide)
  unfold telJ
  rw [e]
  by_cases c : 64 ≤ J.1 4
  · rw [if_pos c, if_pos c]; exact si_comm (by decide)
  · rw [if_neg c, if_neg c]; exact Prod.ext (up_comm (by decide)) rfl
theorem tel_13 {J : Ob} {v : Int32} : (telJ J v).1 13 = J.1 13 := by
  unfold telJ
  split
  · exact si_ne (by decide)
  · rw [si_ne (by decide)]; rfl
def telM (M : Ob) (v : Int32) : Ob := if M.1 14 = 0 then M else if 64 ≤ M.2 6 15 then sa M 6 (upd (M.2 6) 15 (M.2 6 15 + 1)) else sa (sa M 12 (upd (M.2 12) (Int32.toNatClampNeg (M.2 6 15)) v)) 6 (upd (M.2 6) 15 (M.2 6 15 + 1))
theorem tells_model {nw : Bool} {M : Ob} {r : Nat → Int32} {v : Int32} {Q : Mod → Prop} (h0 : nw = true → 0 ≤ (M.2 6 15).toInt) (hnw : M.1 14 = if nw = true then 1 else 0) (h : Q (telM M v, r)) : wp_X8_tells nw (M, r) v Q := by
  have l64 : (64 : Int32).toInt = 64 := rfl
  unfold telM at h
  unfold wp_X8_tells
  refine ⟨fun c => ?_, fun c => ?_⟩
  · have c : ¬ M.1 14 = 0 := c
    have hn : nw = true := by
      cases nw
      · exact absurd hnw c
      · rfl
    rw [if_neg c] at h
    refine ⟨fun d T3 e3 => ?_, fun d => ⟨?_, fun T4 e4 T5 e5 => ?_⟩⟩
    · have d : 64 ≤ M.2 6 15 := d
      rw [if_pos d] at h; subst e3; exact h
    · have d : ¬ 64 ≤ M.2 6 15 := d
      have := h0 hn
      rw [i_le] at d
      exact ok_iff.mpr ⟨this, by show (M.2 6 15).toInt < 64; omega⟩
    · have d : ¬ 64 ≤ M.2 6 15 := d
      rw [if_neg d] at h
      subst e4
      subst e5
      exact h
  · have c : M.1 14 = 0 := c
    rw [if_pos c] at h; exact h
theorem tel_off {M : Ob} {v : Int32} (h : M.1 14 = 0) : telM M v = M := by unfold telM; rw [if_pos h]
theorem tM_1 (M : Ob) (v : Int32) : (telM M v).1 = M.1 := by
  unfold telM
  repeat' split
  all_goals rfl
theorem tM_2 {M : Ob} {v : Int32} {j : Nat} (h6 : ¬ j = 6) (h12 : ¬ j = 12) : (telM M v).2 j = M.2 j := by
  unfold telM
  repeat' split
  · rfl
  · exact sa_ne h6
  · rw [sa_ne h6, sa_ne h12]
theorem tM_6 {M : Ob} {v : Int32} {j : Nat} (h : ¬ j = 15) : (telM M v).2 6 j = M.2 6 j := by
  unfold telM
  repeat' split
  · rfl
  · rw [sa_self, up_ne h]
  · rw [sa_self, up_ne h]
theorem MID_tel {W : Ob} {nw : Bool} {N T : Int} {K B r : Nat → Int32} {S A J C M : Ob} {v : Int32} (h : MID W nw N T K S A J C B M r) (hT : T < 2000000000) : MID W nw N (T + 1) K S A (telJ J v) C B (telM M v) r := by
  obtain ⟨hS, hA, hJ, hC, hB, hK, hF⟩ := h
  refine ⟨rS_fr hS (fun _ _ => rfl) (by rw [tM_1]) (tM_2 (by decide) (by decide)) (tM_2 (by decide) (by decide)) (tM_2 (by decide) (by decide)) (tM_6 (by decide)) (tM_6 (by decide)), hA, ?_, rC_fr hC (fun _ _ => rfl) (tM_6 (by decide)), rB_fr hB (tM_2 (by decide) (by decide)), hK, rF_fr hF rfl rfl (by rw [tM_1]) (by rw [tM_1]) (by rw [tM_1]) (fun hn => tel_off (by rw [hF.2.2, hn]; rfl))⟩
  obtain ⟨⟨b1, b3, b4⟩, hJ⟩ := hJ
  have l1 : (1 : Int32).toInt = 1 := rfl
  have l64 : (64 : Int32).toInt = 64 := rfl
  have ea : (J.1 4 + 1).toInt = (J.1 4).toInt + 1 := by rw [i_add (by omega) (by omega), l1]
  have t4 : (telJ J v).1 4 = J.1 4 + 1 := by unfold telJ; split <;> exact si_self _ _ _
  have tj : ∀ j : Nat, ¬ j = 4 → (telJ J v).1 j = J.1 j := by
    intro j hj
    unfold telJ
    split
    · exact si_ne hj
    · rw [si_ne hj]; rfl
  have t1 : (telJ J v).2 1 = J.2 1 := by
    unfold telJ
    split
    · rfl
    · rw [si_2, sa_ne (by decide)]
  refine ⟨⟨by rw [tj 3 (by decide)]; exact b1, by rw [t4]; omega, by rw [t4]; omega⟩, fun hn => ?_⟩
  obtain ⟨hc, ⟨ho1, ho2⟩, he⟩ := hJ hn
  have hM : ¬ M.1 14 = 0 := by rw [hF.2.2, hn]; decide
  have m15 : (telM M v).2 6 15 = M.2 6 15 + 1 := by
    unfold telM
    rw [if_neg hM]
    split
    · rw [sa_self, up_eq]
    · rw [sa_self, up_eq]
  refine ⟨?_, ⟨by rw [t4, m15, ho1], fun k hk hk2 => ?_⟩, rJe_fr he (by omega) (tj 3 (by decide)) (tj 2 (by decide)) t1 (by rw [tM_1]) (tM_2 (by decide) (by decide)) (tM_2 (by decide) (by decide)) (tM_2 (by decide) (by decide)) (tM_2 (by decide) (by decide))⟩
  · unfold rJc
    rw [tj 5 (by decide), tj 6 (by decide), tj 7 (by decide), tj 8 (by decide), tj 9 (by decide), tj 10 (by decide), tj 11 (by decide), tj 12 (by decide), tj 13 (by decide), tM_6 (by decide), tM_6 (by decide), tM_6 (by decide), tM_6 (by decide), tM_6 (by decide), tM_6 (by decide), tM_6 (by decide), tM_6 (by decide), tM_6 (by decide)]
    exact hc
  · rw [t4, ea] at hk2
    unfold telJ telM
    rw [if_neg hM, ← ho1]
    by_cases c : 64 ≤ J.1 4
    · rw [if_pos c, if_pos c]
      rw [i_le] at c
      rw [si_2, sa_ne (by decide)]
      exact ho2 k hk (by omega)
    · rw [if_neg c, if_neg c]
      rw [i_le] at c
      rw [si_2, sa_self, sa_ne (by decide), sa_self]
      by_cases z : k = Int32.toNatClampNeg (J.1 4)
      · subst z; rw [up_eq, up_eq]
      · rw [up_ne z, up_ne z]
        rw [i_nat] at z
        exact ho2 k hk (by omega)
theorem op_27 {W : Ob} {nw : Bool} {N T : Int} {K B r : Nat → Int32} {S A J C M : Ob} (x y : Int32) (h : MID W nw N T K S A (si J 13 (J.1 13 + 1)) C B M r) (hT : T < 2000000000) : ∃ (J' M' : Ob), (∀ Q : Mac → Prop, Q (K, S, A, J', C, B) → wp_X1_move C 27 x y (fun u24 => wp_X3_govern (K, S, A, J, u24, B) 27 x y (fun u => Q (u.1, u.2.1, u.2.2.1, si u.2.2.2.1 13 (u.2.2.2.1.1 13 + 1), u.2.2.2.2.1, u.2.2.2.2.2)))) ∧ (∀ Q : Mod → Prop, Q (M', r) → mTail nw Q 27 x y (0 + (x &&& 7)) (0 + (y &&& 7)) M r) ∧ MID W nw N (T + 1) K S A J' C B M' r := by
  obtain ⟨c0, cb, -⟩ := h.2.2.2.1
  obtain ⟨o1, o2, o3, o4, o5⟩ := reg_at c0 x
  have h1 := MID_tel (v := C.2 1 (Int32.toNatClampNeg (x &&& 7))) h hT
  have b4 : 0 ≤ (J.1 4).toInt := h.2.2.1.1.2.1
  refine ⟨_, _, fun Q hQ => ?_, fun Q hQ => ?_, h1⟩
  · rw [tel_si] at hQ
    unfold wp_X1_move wp_X3_govern
    intro x1 f1
    refine ⟨fun z => absurd z (by decide), fun z => absurd z (by decide), fun z => absurd z (by decide), fun z => absurd z (by decide), fun z => absurd z (by decide), fun z => absurd z (by decide), fun z => absurd z (by decide), fun z => absurd z (by decide), fun _ _ _ _ _ _ _ _ => ⟨fun z => absurd z (by decide), fun z => absurd z (by decide), fun z => absurd z (by decide), fun z => absurd z (by decide), fun z => absurd z (by decide), fun z => absurd z (by decide), fun _ => ⟨o1, tell_class b4 ?_⟩, fun _ _ _ _ _ _ z => absurd rfl z⟩⟩
    show Q (K, S, A, si (telJ J _) 13 ((telJ J _).1 13 + 1), C, B)
    rw [tel_13]
    exact hQ
  · unfold mTail
    rw [o3, o4]
    refine ⟨fun _ => ⟨fun _ => ⟨fun _ => ⟨fun _ => ⟨fun _ => ⟨fun _ => ⟨fun _ => ⟨fun _ => ⟨fun z => absurd rfl z, fun _ => ⟨o2, tells_model (fun hn => ?_) h.2.2.2.2.2.2.2.2 hQ⟩⟩, fun z => absurd z (by decide)⟩, fun z => absurd z (by decide)⟩, fun z => absurd (by decide) z⟩, fun z => absurd (by decide) z⟩, fun z => absurd (by decide) z⟩, fun z => absurd z (by decide)⟩, fun z => absurd (by decide) z⟩, fun z => absurd z (by decide)⟩
    rw [← ((h.2.2.1.2 hn).2.1).1]
    exact b4
