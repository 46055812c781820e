/-! LAYER 2: unstacking as a whole -/
theorem up_up (f : Nat → Int32) (k : Nat) (a b : Int32) : upd (upd f k a) k b = upd f k b := by
  funext j
  by_cases c : j = k
  · subst c; rw [up_eq, up_eq]
  · rw [up_ne c, up_ne c, up_ne c]
theorem frF_rng (C : Ob) : frF C = -1 ∨ frF C = 18 ∨ frF C = 19 := by
  unfold frF
  repeat' split
  all_goals first | exact Or.inl rfl | exact Or.inr (Or.inl rfl) | exact Or.inr (Or.inr rfl)
theorem frS_rng (C : Ob) : frS C = 6 ∨ frS C = 10 := by
  unfold frS
  repeat' split
  all_goals first | exact Or.inl rfl | exact Or.inr rfl
theorem unst0_pair {W : Ob} {nw : Bool} {N T : Int} {K B r : Nat → Int32} {S A J C M : Ob} (h : MID W nw N T K S A J C B M r) (hT : T < 2000000000) (hp : K 5 = 3) (h6 : 0 ≤ (K 6).toInt ∧ (K 6).toInt < 10) (hst : ¬ K 6 = 0 → frF C = -1 ∧ r 32 = frS C ∧ (K 6).toInt < (frS C).toInt) : PAIR W nw N (T + 1) B (fun Q => wp_X3_unstacking (K, S, A, J, C, B) Q) (fun Q => wp_X8_unstacks_L16 nw Q (-1) (M, r)) := by
  obtain ⟨c0, cb, -⟩ := h.2.2.2.1
  have hsp := cb.2.2.2.1
  have e15 : C.1 6 = r 15 := c0.2.2.2.2.2.2.2.1
  have e19 : C.1 11 = r 19 := c0.2.2.2.2.2.2.2.2.2.1
  have e6 : K 6 = r 21 := h.2.2.2.2.2.1.2.2.1
  have e20 : K 5 = r 20 := h.2.2.2.2.2.1.2.1
  have e1 : (1 : Int32).toInt = 1 := rfl
  have l6 : (6 : Int32).toInt = 6 := rfl
  have l10 : (10 : Int32).toInt = 10 := rfl
  have ea : (K 6 + 1).toInt = (K 6).toInt + 1 := by rw [i_add (by omega) (by omega), e1]
  by_cases f : frF C = -1
  · obtain ⟨hs6, hm, hpl, h10⟩ := frF_ok f
    have hlt : (K 6).toInt < (frS C).toInt := by
      by_cases z : K 6 = 0
      · rw [z]; rcases frS_rng C with y | y <;> rw [y] <;> decide
      · exact (hst z).2.2
    -- the row, once the steps are known
    obtain ⟨r0, hr0, h0, h032, h0k⟩ : ∃ r0 : Nat → Int32, (r 21 = 0 → r0 = upd r 32 (frS C)) ∧ MID W nw N T K S A J C B M r0 ∧ r0 32 = frS C ∧ (¬ r 21 = 0 → r0 = r) := by
      by_cases z : r 21 = 0
      · exact ⟨upd r 32 (frS C), fun _ => rfl, MID_r h (by omega), up_eq _ _ _, fun y => absurd z y⟩
      · exact ⟨r, fun y => absurd y z, h, (hst (by rw [e6]; exact z)).2.1, fun _ => rfl⟩
    have h021 : r0 21 = K 6 := h0.2.2.2.2.2.1.2.2.1.symm
    have h1 := MID_21 (p := K 6 + 1) h0
    have t32 : upd r0 21 (K 6 + 1) 32 = frS C := by rw [up_ne (by decide)]; exact h032
    -- the class's head
    have hcl : ∀ Q : Mac → Prop, (K 6 + 1 < frS C → Q (upd K 6 (K 6 + 1), S, A, J, C, B)) ∧ (¬ K 6 + 1 < frS C → wp_X3_takeBack (upd K 6 (K 6 + 1), S, A, J, C, B) Q) → wp_X3_unstacking (K, S, A, J, C, B) Q := by
      intro Q hQ
      unfold wp_X3_unstacking
      refine frF_class hsp ?_
      refine ⟨fun _ T4 f4 => ?_, fun z => absurd f z⟩
      subst f4
      refine frS_class ⟨by show 1 ≤ (C.1 6).toInt; omega, hsp.2⟩ ?_
      exact hQ
    -- the reference's head
    have hmo : ∀ Q : Mod → Prop, (¬ K 6 + 1 = frS C → Q (M, upd r0 21 (K 6 + 1))) ∧ (K 6 + 1 = frS C → wp_X8_returns nw (M, upd r0 21 (K 6 + 1)) Q) → wp_X8_unstacks_L16 nw Q (-1) (M, r) := by
      intro Q hQ
      unfold wp_X8_unstacks_L16
      refine ⟨fun _ => ⟨fun z => ?_, fun z => ?_⟩, fun d => absurd (by decide) d⟩
      · have er : r0 = r := h0k z
        subst er
        intro T6 f6
        have f6 : T6 = upd r0 21 (K 6 + 1) := by rw [f6, ← h021]
        subst f6
        dsimp only
        rw [up_eq, t32]
        exact hQ
      · have z : r 21 = 0 := z
        have er := hr0 z
        have hgo : ∀ v : Int32, v = frS C → ∀ T13 : Nat → Int32, T13 = upd r 32 v → ∀ T14 : Nat → Int32, T14 = upd T13 21 (T13 21 + 1) → ((¬ T14 21 = T14 32 → Q (M, T14)) ∧ (T14 21 = T14 32 → wp_X8_returns nw (M, T14) (fun u16 => Q u16))) := by
          intro v hv T13 f13 T14 f14
          rw [hv, ← er] at f13
          rw [f13, h021] at f14
          subst f14
          rw [up_eq, t32]
          exact hQ
        refine frF_model c0 hsp ?_
        rw [f]
        refine ⟨fun _ => ?_, fun d => absurd (by decide) d⟩
        obtain ⟨o1, v1⟩ := cell_at (d := 1) c0 hsp.2 (by omega) (by omega)
        obtain ⟨m, hm1, hm2⟩ := mOK_k hm
        have mb := (mark_bit m hm1).1
        rw [← hm2] at mb
        dsimp only
        rw [← e15, ← e19]
        rw [v1]
        refine ⟨o1, fun g => hgo 6 ?_, fun g => ⟨fun k => hgo 6 ?_, fun k => hgo 10 ?_⟩⟩
        · unfold frS; rw [if_pos (mb.mpr g)]
        · unfold frS; rw [if_neg (fun y => g (mb.mp y)), if_pos k]
        · unfold frS; rw [if_neg (fun y => g (mb.mp y)), if_neg k]
    by_cases d : K 6 + 1 < frS C
    · refine ⟨_, _, _, _, _, _, _, fun Q hQ => hcl Q ⟨fun _ => hQ, fun z => absurd d z⟩, fun Q hQ => hmo Q ⟨fun _ => hQ, fun z => absurd d (by rw [z, i_lt]; omega)⟩, MID_mono h1 (Int.le_refl _) (by omega), ?_⟩
      have nz : ¬ K 6 + 1 = 0 := fun z => by
        have := i_eq.mp z
        have e0 : (0 : Int32).toInt = 0 := rfl
        omega
      unfold rP
      rw [show upd K 6 (K 6 + 1) 5 = 3 from hp, up_eq, t32]
      rw [i_lt] at d
      have hf10 : (frS C).toInt ≤ 10 := by rcases frS_rng C with y | y <;> rw [y] <;> decide
      exact ⟨fun c => absurd c (by decide), fun c => absurd c (by decide), fun _ => ⟨⟨by omega, by omega⟩, fun _ => ⟨f, rfl, by omega⟩⟩, fun c => absurd c (by decide), by decide, by decide⟩
    · have eq : K 6 + 1 = frS C := i_eq.mpr (by rw [i_lt] at d; omega)
      exact PAIR_w (back_pair h1 hT f t32) (Int.le_refl _) (fun Q hQ => hcl Q ⟨fun z => absurd z d, fun _ => hQ⟩) (fun Q hQ => hmo Q ⟨fun z => absurd eq z, fun _ => hQ⟩)
  · have z6 : K 6 = 0 := Classical.byContradiction fun z => f (hst z).1
    have hok : okI (frF C) 21 := by
      rcases frF_rng C with y | y | y
      · exact absurd y f
      · rw [y]; exact okLit (by decide)
      · rw [y]; exact okLit (by decide)
    have hge : ¬ frF C < 0 := by
      rcases frF_rng C with y | y | y
      · exact absurd y f
      · rw [y]; decide
      · rw [y]; decide
    obtain ⟨S', J', M', r', w1, w2, h1, hr⟩ := raise_pair (f := frF C) h hok hT
    have hcl : ∀ Q : Mac → Prop, ((raiK K (takerF S (frF C)) 5 = 5 → Q (raiK K (takerF S (frF C)), S', A, J', C, B)) ∧ (¬ raiK K (takerF S (frF C)) 5 = 5 → wp_X3_enter (raiK K (takerF S (frF C)), S', A, J', C, B) 2 Q)) → wp_X3_unstacking (K, S, A, J, C, B) Q := by
      intro Q hQ
      unfold wp_X3_unstacking
      refine frF_class hsp ?_
      refine ⟨fun z => absurd z f, fun _ => w1 _ hQ⟩
    have hmo : ∀ Q : Mod → Prop, ((¬ (if takerF S (frF C) = -1 then (1 : Int32) else 0) = 0 → Q (M', r')) ∧ ((if takerF S (frF C) = -1 then (1 : Int32) else 0) = 0 → wp_X8_turns nw (M', r') 2 0 Q)) → wp_X8_unstacks_L16 nw Q (-1) (M, r) := by
      intro Q hQ
      unfold wp_X8_unstacks_L16
      refine ⟨fun _ => ⟨fun z => absurd (e6.symm.trans z6) z, fun _ => ?_⟩, fun d => absurd (by decide) d⟩
      refine frF_model c0 hsp ?_
      exact ⟨fun d => absurd d hge, fun _ => w2 _ hQ⟩
    by_cases t : takerF S (frF C) = -1
    · have hk : raiK K (takerF S (frF C)) 5 = 5 := by unfold raiK; rw [if_pos t]; rfl
      refine ⟨_, _, _, _, _, _, _, fun Q hQ => hcl Q ⟨fun _ => hQ, fun z => absurd hk z⟩, fun Q hQ => hmo Q ⟨fun _ => hQ, fun z => absurd z (by rw [if_pos t]; decide)⟩, h1, rP_lock hk⟩
    · have hk : raiK K (takerF S (frF C)) = K := by unfold raiK; rw [if_neg t]
      have h2 := MID_turn (p := 2) (q := 0) h1
      refine ⟨_, _, _, _, _, _, _, fun Q hQ => hcl Q ⟨fun z => absurd z (by rw [hk, hp]; decide), fun _ => enter_class hQ⟩, fun Q hQ => hmo Q ⟨fun z => absurd (by rw [if_neg t]) z, fun _ => turns_model hQ⟩, h2, rP_ch rfl (show 0 ≤ (0 : Int32).toInt ∧ (0 : Int32).toInt < 2 by decide)⟩
/-- the phases' switch in a cycle -/
def swc (Q : Mac → Prop) (u5 : Mac) : Prop := (((u5.1 5) = 0 → wp_X3_running u5 (fun u7 => Q u7)) ∧ ((u5.1 5) = 1 → wp_X3_stacking u5 (fun u8 => Q u8)) ∧ ((u5.1 5) = 2 → wp_X3_chaining u5 (fun u9 => Q u9)) ∧ ((u5.1 5) = 3 → wp_X3_unstacking u5 (fun u10 => Q u10)) ∧ ((u5.1 5) = 4 → wp_X3_saving u5 (fun u11 => Q u11)) ∧ (¬ (u5.1 5) = 0 → ¬ (u5.1 5) = 1 → ¬ (u5.1 5) = 2 → ¬ (u5.1 5) = 3 → ¬ (u5.1 5) = 4 → Q u5))
theorem swc_0 {Q : Mac → Prop} {K B : Nat → Int32} {S A J C : Ob} (e : K 5 = 0) (h : wp_X3_running (K, S, A, J, C, B) Q) : swc Q (K, S, A, J, C, B) :=
  ⟨fun _ => h, fun z => absurd (e.symm.trans z) (by decide), fun z => absurd (e.symm.trans z) (by decide), fun z => absurd (e.symm.trans z) (by decide), fun z => absurd (e.symm.trans z) (by decide), fun z => absurd e z⟩
theorem swc_1 {Q : Mac → Prop} {K B : Nat → Int32} {S A J C : Ob} (e : K 5 = 1) (h : wp_X3_stacking (K, S, A, J, C, B) Q) : swc Q (K, S, A, J, C, B) :=
  ⟨fun z => absurd (e.symm.trans z) (by decide), fun _ => h, fun z => absurd (e.symm.trans z) (by decide), fun z => absurd (e.symm.trans z) (by decide), fun z => absurd (e.symm.trans z) (by decide), fun _ z => absurd e z⟩
theorem swc_2 {Q : Mac → Prop} {K B : Nat → Int32} {S A J C : Ob} (e : K 5 = 2) (h : wp_X3_chaining (K, S, A, J, C, B) Q) : swc Q (K, S, A, J, C, B) :=
  ⟨fun z => absurd (e.symm.trans z) (by decide), fun z => absurd (e.symm.trans z) (by decide), fun _ => h, fun z => absurd (e.symm.trans z) (by decide), fun z => absurd (e.symm.trans z) (by decide), fun _ _ z => absurd e z⟩
theorem swc_3 {Q : Mac → Prop} {K B : Nat → Int32} {S A J C : Ob} (e : K 5 = 3) (h : wp_X3_unstacking (K, S, A, J, C, B) Q) : swc Q (K, S, A, J, C, B) :=
  ⟨fun z => absurd (e.symm.trans z) (by decide), fun z => absurd (e.symm.trans z) (by decide), fun z => absurd (e.symm.trans z) (by decide), fun _ => h, fun z => absurd (e.symm.trans z) (by decide), fun _ _ _ z => absurd e z⟩
theorem swc_4 {Q : Mac → Prop} {K B : Nat → Int32} {S A J C : Ob} (e : K 5 = 4) (h : wp_X3_saving (K, S, A, J, C, B) Q) : swc Q (K, S, A, J, C, B) :=
  ⟨fun z => absurd (e.symm.trans z) (by decide), fun z => absurd (e.symm.trans z) (by decide), fun z => absurd (e.symm.trans z) (by decide), fun z => absurd (e.symm.trans z) (by decide), fun _ => h, fun _ _ _ _ z => absurd e z⟩
theorem swc_5 {Q : Mac → Prop} {K B : Nat → Int32} {S A J C : Ob} (e : K 5 = 5) (h : Q (K, S, A, J, C, B)) : swc Q (K, S, A, J, C, B) :=
  ⟨fun z => absurd (e.symm.trans z) (by decide), fun z => absurd (e.symm.trans z) (by decide), fun z => absurd (e.symm.trans z) (by decide), fun z => absurd (e.symm.trans z) (by decide), fun z => absurd (e.symm.trans z) (by decide), fun _ _ _ _ _ => h⟩
theorem unst_pair {W : Ob} {nw : Bool} {N T : Int} {K B r : Nat → Int32} {S A J C M : Ob} (h : MID W nw N T K S A J C B M r) (hT : T < 2000000000) (hp : K 5 = 3) (h6 : 0 ≤ (K 6).toInt ∧ (K 6).toInt < 10) (hst : ¬ K 6 = 0 → frF C = -1 ∧ r 32 = frS C ∧ (K 6).toInt < (frS C).toInt) : PAIR W nw N (T + 1) B (fun Q => wp_X3_turn (K, S, A, J, C, B) (swc Q)) (fun Q => wp_X8_unstacks nw (M, r) Q) := by
  have ep : K 11 = M.1 15 := h.2.2.2.2.2.2.2.1
  have e6 : K 6 = r 21 := h.2.2.2.2.2.1.2.2.1
  have hn0 : ¬ K 5 = 0 := by rw [hp]; decide
  by_cases pl : K 11 = 0
  · have pm : M.1 15 = 0 := by rw [← ep]; exact pl
    rcases next_spec (S := S) (sh := S.1 14) with hn | hn
    · refine PAIR_w (unst0_pair h hT hp h6 hst) (Int.le_refl _) (fun Q hQ => ?_) (fun Q hQ => ?_)
      · unfold wp_X3_turn
        refine ⟨fun _ => ⟨fun z => absurd hp z, fun _ => ⟨fun z => absurd pl z, fun _ => ?_⟩⟩, fun z => absurd z hn0⟩
        unfold wp_X3_abandon
        refine next_own_class (MID_lim h) ?_
        exact ⟨fun _ => swc_3 hp hQ, fun z => absurd hn z⟩
      · unfold wp_X8_unstacks
        refine ⟨fun _ => next_own_model (MID_tak h) ?_, fun z => absurd pm z⟩
        rw [hn]
        exact hQ
    · have hok := hn.1
      have hne : ¬ nextF S (S.1 14) = -1 := fun e => by have := ok_iff.mp hok; rw [e] at this; exact absurd this.1 (by decide)
      have hge : ¬ nextF S (S.1 14) < 0 := fun d => by have := ok_iff.mp hok; rw [i_lt] at d; exact absurd d (by have e0 : (0 : Int32).toInt = 0 := rfl; omega)
      have h1 := MID_cnt (s := 8) (t := 4) h (by omega)
      have h2 := MID_note (a := 4) (b := nextF S (S.1 14)) (d := K 6) (d' := r 21) h1 hT (fun _ => e6)
      have h3 := MID_turn (p := 2) (q := 1) h2
      refine ⟨_, _, _, _, _, _, _, fun Q hQ => ?_, fun Q hQ => ?_, h3, rP_ch rfl (show 0 ≤ (1 : Int32).toInt ∧ (1 : Int32).toInt < 2 by decide)⟩
      · unfold wp_X3_turn
        refine ⟨fun _ => ⟨fun z => absurd hp z, fun _ => ⟨fun z => absurd pl z, fun _ => ?_⟩⟩, fun z => absurd z hn0⟩
        unfold wp_X3_abandon
        refine next_own_class (MID_lim h) ?_
        refine ⟨fun z => absurd z hne, fun _ T4 f4 => ?_⟩
        subst f4
        refine MID_rec h1 ?_
        refine enter_class ?_
        refine swc_2 rfl ?_
        unfold wp_X3_chaining
        intro T1 f1
        have f1 : T1 = upd (upd K 5 2) 6 1 := by
          rw [f1]
          show upd (upd (upd K 5 2) 6 0) 6 (upd (upd K 5 2) 6 0 6 + 1) = _
          rw [up_up, up_eq]
          rfl
        subst f1
        exact ⟨fun _ => hQ, fun z => absurd (by show (1 : Int32) < 2; decide) z⟩
      · unfold wp_X8_unstacks
        refine ⟨fun _ => next_own_model (MID_tak h) ?_, fun z => absurd pm z⟩
        unfold wp_X8_unstacks_L16
        refine ⟨fun z => absurd z hge, fun _ => ?_⟩
        refine counts_model (okLit (by decide)) ?_
        refine MID_not h1 ?_
        exact turns_model hQ
  · have pm : ¬ M.1 15 = 0 := by rw [← ep]; exact pl
    refine PAIR_w (unst0_pair h hT hp h6 hst) (Int.le_refl _) (fun Q hQ => ?_) (fun Q hQ => ?_)
    · unfold wp_X3_turn
      exact ⟨fun _ => ⟨fun z => absurd hp z, fun _ => ⟨fun _ => swc_3 hp hQ, fun z => absurd z pl⟩⟩, fun z => absurd z hn0⟩
    · unfold wp_X8_unstacks
      exact ⟨fun z => absurd z pm, fun _ => hQ⟩
