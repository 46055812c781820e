/-! LAYER 2: ways through the code: both sides together -/
theorem bad_good {B : Nat → Int32} {s : Nat} {D : Nat → Prop} {c u : Nat → Int} (hB : okC B) (hs : s < 512) (hb : bad B s) (hg : good B s D c u) : False := by
  obtain ⟨r, T', _, _, h1, h2⟩ := walks_model (T := ((fun _ => 0), fun _ => B)) (x := Int32.ofNat s) hB (fun _ _ => rfl) ⟨i_ofNat (by omega), hs⟩
  have e1 := h1 hb
  have e2 := (h2 D c u hg).1
  rw [e1] at e2
  exact absurd e2 (by decide)
/-- nobody knows how far it goes -/
def opW (B : Nat → Int32) (x : Int32) : Prop := (∀ X : Ob, ∃ X' : Ob, (∀ Q : Int32 → (Ob × (Nat → Int32)) → Prop, Q 0 (X', B) → wp_X6_survey (X, B) x Q) ∧ X'.2 3 = X.2 3) ∧ ∀ T : Ob, codeM B T → ∃ T' : Ob, (∀ Q : Int32 → Ob → Prop, Q 0 T' → wp_X8_walks T x Q) ∧ frM T T'
def clW (B : Nat → Int32) (x cv uv : Int32) : Prop := (∀ X : Ob, ∃ X' : Ob, (∀ Q : Int32 → (Ob × (Nat → Int32)) → Prop, Q 1 (X', B) → wp_X6_survey (X, B) x Q) ∧ X'.2 3 = X.2 3 ∧ X'.2 5 x.toNatClampNeg = cv ∧ X'.2 6 x.toNatClampNeg = uv) ∧ ∀ T : Ob, codeM B T → ∃ T' : Ob, (∀ Q : Int32 → Ob → Prop, Q 1 T' → wp_X8_walks T x Q) ∧ frM T T' ∧ T'.1 23 = cv ∧ T'.1 24 = uv
theorem ways_dich {B : Nat → Int32} {x : Int32} {s : Nat} (hB : okC B) (hx : pv x s) : (bad B s ∧ opW B x) ∨ (¬ bad B s ∧ ∃ cv uv : Int32, clW B x cv uv) := by
  obtain ⟨r0, X0, _, h0, _⟩ := survey_class (X := ((fun _ => 0), fun _ _ => 0)) hB hx
  rcases h0 with ⟨_, hb⟩ | ⟨_, hg⟩
  · refine Or.inl ⟨hb, fun X => ?_, fun T hT => ?_⟩
    · obtain ⟨r, X', g1, g2, g3⟩ := survey_class (X := X) hB hx
      rcases g2 with ⟨e, _⟩ | ⟨_, hg⟩
      · subst e; exact ⟨X', g1, g3⟩
      · exact absurd hg (fun hg => bad_good hB hx.2 hb hg)
    · obtain ⟨r, T', g1, g2, g3, _⟩ := walks_model hB hT hx
      have e := g3 hb
      subst e
      exact ⟨T', g1, g2⟩
  · have uq : ∀ X' : Ob, good B s (mk2 X') (cst X') (ris X') → X'.2 5 s = X0.2 5 s ∧ X'.2 6 s = X0.2 6 s := fun X' hg' => by
      obtain ⟨r, T', _, _, _, h2⟩ := walks_model (T := ((fun _ => 0), fun _ => B)) hB (fun _ _ => rfl) hx
      have e1 := h2 _ _ _ hg
      have e2 := h2 _ _ _ hg'
      exact ⟨i_eq.mpr (e2.2.1.symm.trans e1.2.1), i_eq.mpr (e2.2.2.symm.trans e1.2.2)⟩
    refine Or.inr ⟨fun hb => bad_good hB hx.2 hb hg, X0.2 5 s, X0.2 6 s, fun X => ?_, fun T hT => ?_⟩
    · obtain ⟨r, X', g1, g2, g3⟩ := survey_class (X := X) hB hx
      rcases g2 with ⟨_, hb⟩ | ⟨e, hg'⟩
      · exact absurd hg (fun hg => bad_good hB hx.2 hb hg)
      · subst e
        rw [pv_n hx]
        exact ⟨X', g1, g3, uq X' hg'⟩
    · obtain ⟨r, T', g1, g2, _, g4⟩ := walks_model hB hT hx
      obtain ⟨e, e1, e2⟩ := g4 _ _ _ hg
      subst e
      exact ⟨T', g1, g2, i_eq.mpr e1, i_eq.mpr e2⟩
theorem REL_fr {N T : Int} {B K : Nat → Int32} {S A J C J2 M M' : Ob} (h : REL N T B K S A J C J2 M) (f : frM M M') : REL N T B K S A J C J2 M' := REL_M h (f.1 3 (by decide) (by decide)) (f.1 11 (by decide) (by decide)) (fun j _ hj => f.2 j hj)
theorem rB_ok {B : Nat → Int32} {M : Ob} (h : rB B M) : okC B ∧ codeM B M := ⟨fun k hk => (h k hk).2, fun k hk => (h k hk).1.symm⟩
theorem call_cost {N T : Int} {B K K2 : Nat → Int32} {S A J C S2 A2 J2 C2 Y M : Ob} (h : REL N T B K S A J C J2 M) (p : Int32) : FACE N T (fun Q => wp_X7_cost (B, K, S, A, J, C, K2, S2, A2, J2, C2, Y) p Q) (fun Q => wp_X8_cost M p Q) := by
  obtain ⟨hB, hT⟩ := rB_ok h.2.2.2.2.1
  have z21 : (21 : Int32).toInt = 21 := rfl
  have z20 : (20 : Int32).toInt = 20 := rfl
  have z0 : (0 : Int32).toInt = 0 := rfl
  by_cases c : 0 ≤ p.toInt ∧ p.toInt < 21
  · have hok : okI p 21 := ok_iff.mpr c
    have h1 := h.1.1.2.2.2.2.2.2 p.toNatClampNeg (by rw [i_nat]; omega)
    have hx : pv (S.2 1 p.toNatClampNeg) (S.2 1 p.toNatClampNeg).toNatClampNeg := pv_self (ok_iff.mpr h1.2)
    rcases ways_dich hB hx with ⟨_, o1, o2⟩ | ⟨_, cv, uv, o1, o2⟩
    · obtain ⟨X', g1, _⟩ := o1 Y
      obtain ⟨T', k1, k2⟩ := o2 (si M 17 0) hT
      refine ⟨-1, B, K, S, A, J, C, K2, S2, A2, J2, C2, X', T', fun Q q => ?_, fun Q q => ?_, REL_up (REL_fr (REL_17 (v := 0) h) k2)⟩
      · unfold wp_X7_cost
        refine b_isBelow ?_
        rw [if_pos (by rw [z21]; exact c)]
        refine ⟨fun _ => ⟨hok, fun _ e => ?_⟩, fun d => absurd d (by decide)⟩
        subst e
        exact g1 _ ⟨fun _ => q, fun d => absurd rfl d⟩
      · unfold wp_X8_cost
        intro _ e
        subst e
        refine b_within ?_
        rw [if_pos (by rw [z20, z0]; omega)]
        refine ⟨fun d => absurd d (by decide), fun _ => ⟨hok, ?_⟩⟩
        show wp_X8_walks (si M 17 0) (M.2 1 p.toNatClampNeg) _
        rw [← h1.1]
        exact k1 _ ⟨fun _ => q, fun d => absurd rfl d⟩
    · obtain ⟨X', g1, _, g3, g4⟩ := o1 Y
      obtain ⟨T', k1, k2, k3, k4⟩ := o2 (si M 17 0) hT
      refine ⟨cv, B, K, S, A, J, C, K2, S2, A2, J2, C2, X', T', fun Q q => ?_, fun Q q => ?_, REL_up (REL_fr (REL_17 (v := 0) h) k2)⟩
      · unfold wp_X7_cost
        refine b_isBelow ?_
        rw [if_pos (by rw [z21]; exact c)]
        refine ⟨fun _ => ⟨hok, fun _ e => ?_⟩, fun d => absurd d (by decide)⟩
        subst e
        refine g1 _ ⟨fun d => absurd d (by decide), fun _ => ⟨pv_ok hx, ?_⟩⟩
        show Q (X'.2 5 (S.2 1 p.toNatClampNeg).toNatClampNeg) _
        rw [g3]
        exact q
      · unfold wp_X8_cost
        intro _ e
        subst e
        refine b_within ?_
        rw [if_pos (by rw [z20, z0]; omega)]
        refine ⟨fun d => absurd d (by decide), fun _ => ⟨hok, ?_⟩⟩
        show wp_X8_walks (si M 17 0) (M.2 1 p.toNatClampNeg) _
        rw [← h1.1]
        refine k1 _ ⟨fun d => absurd d (by decide), fun _ => ?_⟩
        rw [k3]
        exact q
  · refine ⟨-1, B, K, S, A, J, C, K2, S2, A2, J2, C2, Y, si M 17 0, fun Q q => ?_, fun Q q => ?_, REL_up (REL_17 h)⟩
    · unfold wp_X7_cost
      refine b_isBelow ?_
      rw [if_neg (by rw [z21]; exact c)]
      exact ⟨fun d => absurd rfl d, fun _ => q⟩
    · unfold wp_X8_cost
      intro _ e
      subst e
      refine b_within ?_
      rw [if_neg (by rw [z20, z0]; omega)]
      exact ⟨fun _ => q, fun d => absurd rfl d⟩
theorem call_pushes {N T : Int} {B K K2 : Nat → Int32} {S A J C S2 A2 J2 C2 Y M : Ob} (h : REL N T B K S A J C J2 M) (p : Int32) : FACE N T (fun Q => wp_X7_pushes (B, K, S, A, J, C, K2, S2, A2, J2, C2, Y) p Q) (fun Q => wp_X8_pushes M p Q) := by
  obtain ⟨hB, hT⟩ := rB_ok h.2.2.2.2.1
  have z21 : (21 : Int32).toInt = 21 := rfl
  have z20 : (20 : Int32).toInt = 20 := rfl
  have z0 : (0 : Int32).toInt = 0 := rfl
  by_cases c : 0 ≤ p.toInt ∧ p.toInt < 21
  · have hok : okI p 21 := ok_iff.mpr c
    have h1 := h.1.1.2.2.2.2.2.2 p.toNatClampNeg (by rw [i_nat]; omega)
    have hx : pv (S.2 1 p.toNatClampNeg) (S.2 1 p.toNatClampNeg).toNatClampNeg := pv_self (ok_iff.mpr h1.2)
    rcases ways_dich hB hx with ⟨_, o1, o2⟩ | ⟨_, cv, uv, o1, o2⟩
    · obtain ⟨X', g1, _⟩ := o1 Y
      obtain ⟨T', k1, k2⟩ := o2 (si M 17 0) hT
      refine ⟨-1, B, K, S, A, J, C, K2, S2, A2, J2, C2, X', T', fun Q q => ?_, fun Q q => ?_, REL_up (REL_fr (REL_17 (v := 0) h) k2)⟩
      · unfold wp_X7_pushes
        refine b_isBelow ?_
        rw [if_pos (by rw [z21]; exact c)]
        refine ⟨fun _ => ⟨hok, fun _ e => ?_⟩, fun d => absurd d (by decide)⟩
        subst e
        exact g1 _ ⟨fun _ => q, fun d => absurd rfl d⟩
      · unfold wp_X8_pushes
        intro _ e
        subst e
        refine b_within ?_
        rw [if_pos (by rw [z20, z0]; omega)]
        refine ⟨fun d => absurd d (by decide), fun _ => ⟨hok, ?_⟩⟩
        show wp_X8_walks (si M 17 0) (M.2 1 p.toNatClampNeg) _
        rw [← h1.1]
        exact k1 _ ⟨fun _ => q, fun d => absurd rfl d⟩
    · obtain ⟨X', g1, _, g3, g4⟩ := o1 Y
      obtain ⟨T', k1, k2, k3, k4⟩ := o2 (si M 17 0) hT
      refine ⟨uv, B, K, S, A, J, C, K2, S2, A2, J2, C2, X', T', fun Q q => ?_, fun Q q => ?_, REL_up (REL_fr (REL_17 (v := 0) h) k2)⟩
      · unfold wp_X7_pushes
        refine b_isBelow ?_
        rw [if_pos (by rw [z21]; exact c)]
        refine ⟨fun _ => ⟨hok, fun _ e => ?_⟩, fun d => absurd d (by decide)⟩
        subst e
        refine g1 _ ⟨fun d => absurd d (by decide), fun _ => ⟨pv_ok hx, ?_⟩⟩
        show Q (X'.2 6 (S.2 1 p.toNatClampNeg).toNatClampNeg) _
        rw [g4]
        exact q
      · unfold wp_X8_pushes
        intro _ e
        subst e
        refine b_within ?_
        rw [if_pos (by rw [z20, z0]; omega)]
        refine ⟨fun d => absurd d (by decide), fun _ => ⟨hok, ?_⟩⟩
        show wp_X8_walks (si M 17 0) (M.2 1 p.toNatClampNeg) _
        rw [← h1.1]
        refine k1 _ ⟨fun d => absurd d (by decide), fun _ => ?_⟩
        rw [k4]
        exact q
  · refine ⟨-1, B, K, S, A, J, C, K2, S2, A2, J2, C2, Y, si M 17 0, fun Q q => ?_, fun Q q => ?_, REL_up (REL_17 h)⟩
    · unfold wp_X7_pushes
      refine b_isBelow ?_
      rw [if_neg (by rw [z21]; exact c)]
      exact ⟨fun d => absurd rfl d, fun _ => q⟩
    · unfold wp_X8_pushes
      intro _ e
      subst e
      refine b_within ?_
      rw [if_neg (by rw [z20, z0]; omega)]
      exact ⟨fun _ => q, fun d => absurd rfl d⟩
