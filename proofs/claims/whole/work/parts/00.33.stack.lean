/-! LAYER 2: stacking, chaining, saving -/
/-- the class's frameFault and frameSteps, as functions -/
def mk (C : Ob) : Int32 := C.2 4 (Int32.toNatClampNeg (C.1 6 - 1))
def frF (C : Ob) : Int32 := if 6 ≤ C.1 6 then (if mk C < 23040 then 18 else if mk C ≤ 23047 then (if mk C &&& 4 = 0 then (if 0 ≤ (C.2 4 (Int32.toNatClampNeg (C.1 6 - 2))).toInt ∧ (C.2 4 (Int32.toNatClampNeg (C.1 6 - 2))).toInt < 512 then -1 else 18) else if 10 ≤ C.1 6 then (if 0 ≤ (C.2 4 (Int32.toNatClampNeg (C.1 6 - 2))).toInt ∧ (C.2 4 (Int32.toNatClampNeg (C.1 6 - 2))).toInt < 512 then -1 else 18) else 19) else 18) else 19
def frS (C : Ob) : Int32 := if mk C &&& 4 = 0 then 6 else if C.1 11 = C.1 6 - 10 then 6 else 10
/-- what holds by phase, between cycles -/
def rP (K : Nat → Int32) (C : Ob) (r : Nat → Int32) : Prop := (K 5 = 1 → (K 8 = r 24 ∧ okI (K 8) 21 ∧ K 9 = r 28 ∧ K 10 = r 29) ∧ 1 ≤ (K 6).toInt ∧ (K 6).toInt < 6) ∧ (K 5 = 2 → 0 ≤ (K 6).toInt ∧ (K 6).toInt < 2) ∧ (K 5 = 3 → (0 ≤ (K 6).toInt ∧ (K 6).toInt < 10) ∧ (¬ K 6 = 0 → frF C = -1 ∧ r 32 = frS C ∧ (K 6).toInt < (frS C).toInt)) ∧ (K 5 = 4 → (0 ≤ (K 6).toInt ∧ (K 6).toInt < 4) ∧ 0 ≤ (C.1 11).toInt) ∧ 0 ≤ (K 5).toInt ∧ (K 5).toInt ≤ 5
theorem rP_run {K : Nat → Int32} {C : Ob} {r : Nat → Int32} (h : K 5 = 0) : rP K C r := by
  unfold rP
  rw [h]
  exact ⟨fun c => absurd c (by decide), fun c => absurd c (by decide), fun c => absurd c (by decide), fun c => absurd c (by decide), by decide, by decide⟩
theorem rP_lock {K : Nat → Int32} {C : Ob} {r : Nat → Int32} (h : K 5 = 5) : rP K C r := by
  unfold rP
  rw [h]
  exact ⟨fun c => absurd c (by decide), fun c => absurd c (by decide), fun c => absurd c (by decide), fun c => absurd c (by decide), by decide, by decide⟩
theorem rP_un {K : Nat → Int32} {C : Ob} {r : Nat → Int32} (h : K 5 = 3) (h6 : K 6 = 0) : rP K C r := by
  unfold rP
  rw [h, h6]
  exact ⟨fun c => absurd c (by decide), fun c => absurd c (by decide), fun _ => ⟨⟨by decide, by decide⟩, fun c => absurd rfl c⟩, fun c => absurd c (by decide), by decide, by decide⟩
theorem rP_ch {K : Nat → Int32} {C : Ob} {r : Nat → Int32} (h : K 5 = 2) (h6 : 0 ≤ (K 6).toInt ∧ (K 6).toInt < 2) : rP K C r := by
  unfold rP
  rw [h]
  exact ⟨fun c => absurd c (by decide), fun _ => h6, fun c => absurd c (by decide), fun c => absurd c (by decide), by decide, by decide⟩
theorem rP_sv {K : Nat → Int32} {C : Ob} {r : Nat → Int32} (h : K 5 = 4) (h6 : (0 ≤ (K 6).toInt ∧ (K 6).toInt < 4) ∧ 0 ≤ (C.1 11).toInt) : rP K C r := by
  unfold rP
  rw [h]
  exact ⟨fun c => absurd c (by decide), fun c => absurd c (by decide), fun c => absurd c (by decide), fun _ => h6, by decide, by decide⟩
theorem rP_st {K : Nat → Int32} {C : Ob} {r : Nat → Int32} (h : K 5 = 1) (h6 : (K 8 = r 24 ∧ okI (K 8) 21 ∧ K 9 = r 28 ∧ K 10 = r 29) ∧ 1 ≤ (K 6).toInt ∧ (K 6).toInt < 6) : rP K C r := by
  unfold rP
  rw [h]
  exact ⟨fun _ => h6, fun c => absurd c (by decide), fun c => absurd c (by decide), fun c => absurd c (by decide), by decide, by decide⟩
/-- the class goes to one state, the reference to one, and they are related -/
def PAIR (W : Ob) (nw : Bool) (N T : Int) (B : Nat → Int32) (wc : (Mac → Prop) → Prop) (wm : (Mod → Prop) → Prop) : Prop := ∃ (K' : Nat → Int32) (S' A' J' C' M' : Ob) (r' : Nat → Int32), (∀ Q : Mac → Prop, Q (K', S', A', J', C', B) → wc Q) ∧ (∀ Q : Mod → Prop, Q (M', r') → wm Q) ∧ MID W nw N T K' S' A' J' C' B M' r' ∧ rP K' C' r'
theorem si_comm {S : Ob} {i j : Nat} {a b : Int32} (h : ¬ i = j) : si (si S i a) j b = si (si S j b) i a := Prod.ext (up_comm h) rfl
theorem enter_class {K B : Nat → Int32} {S A J C : Ob} {p : Int32} {Q : Mac → Prop} (h : Q (upd (upd K 5 p) 6 0, S, A, J, C, B)) : wp_X3_enter (K, S, A, J, C, B) p Q := by
  unfold wp_X3_enter
  intro T1 e1 T2 e2
  subst e1
  subst e2
  exact h
theorem turns_model {nw : Bool} {M : Ob} {r : Nat → Int32} {p q : Int32} {Q : Mod → Prop} (h : Q (M, upd (upd r 20 p) 21 q)) : wp_X8_turns nw (M, r) p q Q := by
  unfold wp_X8_turns
  intro T1 e1 T2 e2
  subst e1
  subst e2
  exact h
/-- begin, not by a chain -/
theorem begin0_pair {W : Ob} {nw : Bool} {N T : Int} {K B r : Nat → Int32} {S A J C M : Ob} {n : Int32} (h : MID W nw N T K S A J C B M r) (hn : mayIn S n) (hf : K 8 = r 24) (hT : T < 2000000000) : PAIR W nw N (T + 1) B (fun Q => wp_X3_beginOrUnstack (K, S, A, J, C, B) n 0 Q) (fun Q => (n = r 24 → wp_X8_begins nw (M, r) n 0 Q) ∧ (¬ n = r 24 → wp_X8_counts nw (M, r) 3 (fun u => wp_X8_begins nw u n 0 Q))) := by
  have hne : ¬ n = -1 := fun e => by have := ok_iff.mp hn.1; rw [e] at this; exact absurd this.1 (by decide)
  have hd := depth_room h.1 hn
  have hd0 : 0 ≤ (S.1 10).toInt := h.1.1.1.1.1.1.2.1
  have e30 : S.1 10 = r 30 := h.1.1.1.1.1.1.1
  have hl := h.2.2.1.1.1
  by_cases c : n = r 24
  · refine ⟨_, _, _, _, _, _, _, fun Q hQ => ?_, fun Q hQ => ⟨fun _ => ?_, fun d => absurd c d⟩, begin_rel (kind := 0) h hn hT, rP_run rfl⟩
    · refine begin_class hn.1 hne hd0 hd hl.1 hl.2 ?_
      unfold bgJ
      rw [if_neg (by decide)] at hQ
      rw [if_neg (by decide), if_pos (by rw [hf]; exact c)]
      exact hQ
    · exact begin_model hn.1 (by rw [← e30]; exact hd0) (by rw [← e30]; exact hd) h.2.2.2.2.2.2.2.2 (rJ_ev h.2.2.1) hQ
  · have h1 := MID_cnt (s := 7) (t := 3) h (by omega)
    refine ⟨_, _, _, _, _, _, _, fun Q hQ => ?_, fun Q hQ => ⟨fun d => absurd d c, fun _ => ?_⟩, begin_rel (kind := 0) h1 hn hT, rP_run rfl⟩
    · refine begin_class hn.1 hne hd0 hd hl.1 hl.2 ?_
      unfold bgJ
      rw [if_neg (by decide)] at hQ
      rw [if_neg (by decide), if_neg (by rw [hf]; exact c), si_comm (by decide)]
      exact hQ
    · refine counts_model (okLit (by decide)) ?_
      exact begin_model hn.1 (by rw [← e30]; exact hd0) (by rw [← e30]; exact hd) h1.2.2.2.2.2.2.2.2 (rJ_ev h1.2.2.1) hQ
theorem begin1_pair {W : Ob} {nw : Bool} {N T : Int} {K B r : Nat → Int32} {S A J C M : Ob} {n : Int32} (h : MID W nw N T K S A J C B M r) (hn : mayIn S n) (hT : T < 2000000000) : PAIR W nw N (T + 1) B (fun Q => wp_X3_beginOrUnstack (K, S, A, J, C, B) n 1 Q) (fun Q => wp_X8_begins nw (M, r) n 1 Q) := by
  have hne : ¬ n = -1 := fun e => by have := ok_iff.mp hn.1; rw [e] at this; exact absurd this.1 (by decide)
  have hd := depth_room h.1 hn
  have hd0 : 0 ≤ (S.1 10).toInt := h.1.1.1.1.1.1.2.1
  have e30 : S.1 10 = r 30 := h.1.1.1.1.1.1.1
  have hl := h.2.2.1.1.1
  refine ⟨_, _, _, _, _, _, _, fun Q hQ => ?_, fun Q hQ => ?_, begin_rel (kind := 1) h hn hT, rP_run rfl⟩
  · refine begin_class hn.1 hne hd0 hd hl.1 hl.2 ?_
    unfold bgJ
    rw [if_pos rfl] at hQ
    rw [if_pos rfl]
    exact hQ
  · exact begin_model hn.1 (by rw [← e30]; exact hd0) (by rw [← e30]; exact hd) h.2.2.2.2.2.2.2.2 (rJ_ev h.2.2.1) hQ
theorem unst_class {K B : Nat → Int32} {S A J C : Ob} {kind : Int32} {Q : Mac → Prop} (h : Q (upd (upd K 5 3) 6 0, S, A, J, C, B)) : wp_X3_beginOrUnstack (K, S, A, J, C, B) (-1) kind Q := by
  unfold wp_X3_beginOrUnstack
  exact ⟨fun c => absurd rfl c, fun _ => enter_class h⟩
theorem PAIR_w {W : Ob} {nw : Bool} {N T T' : Int} {B : Nat → Int32} {wc wc' : (Mac → Prop) → Prop} {wm wm' : (Mod → Prop) → Prop} (h : PAIR W nw N T B wc wm) (hT : T ≤ T') (hc : ∀ Q, wc Q → wc' Q) (hm : ∀ Q, wm Q → wm' Q) : PAIR W nw N T' B wc' wm' := by
  obtain ⟨K', S', A', J', C', M', r', h1, h2, h3, h4⟩ := h
  exact ⟨K', S', A', J', C', M', r', fun Q q => hc Q (h1 Q q), fun Q q => hm Q (h2 Q q), MID_mono h3 (Int.le_refl _) hT, h4⟩
theorem chain_pair {W : Ob} {nw : Bool} {N T : Int} {K B r : Nat → Int32} {S A J C M : Ob} (h : MID W nw N T K S A J C B M r) (hp : K 5 = 2) (h6 : 0 ≤ (K 6).toInt ∧ (K 6).toInt < 2) (hT : T < 2000000000) : PAIR W nw N (T + 1) B (fun Q => wp_X3_chaining (K, S, A, J, C, B) Q) (fun Q => wp_X8_chains nw (M, r) Q) := by
  have e6 : K 6 = r 21 := h.2.2.2.2.2.1.2.2.1
  have e1 : (1 : Int32).toInt = 1 := rfl
  have e2 : (2 : Int32).toInt = 2 := rfl
  have ea : (K 6 + 1).toInt = (K 6).toInt + 1 := by rw [i_add (by omega) (by omega), e1]
  have h1 := MID_21 (p := K 6 + 1) h
  by_cases c : K 6 + 1 < 2
  · have c2 : ¬ (2 : Int32) ≤ K 6 + 1 := fun d => by rw [i_le] at d; rw [i_lt] at c; omega
    refine ⟨_, _, _, _, _, _, _, fun Q hQ => ?_, fun Q hQ => ?_, MID_mono h1 (Int.le_refl _) (by omega), rP_ch hp ?_⟩
    · unfold wp_X3_chaining
      intro T1 e1
      subst e1
      exact ⟨fun _ => hQ, fun d => absurd c d⟩
    · unfold wp_X8_chains
      rw [e6] at hQ c2
      intro T1 e1
      subst e1
      exact ⟨fun d => absurd d c2, fun _ => hQ⟩
    · show 0 ≤ (K 6 + 1).toInt ∧ (K 6 + 1).toInt < 2
      rw [i_lt] at c
      omega
  · have c2 : (2 : Int32) ≤ K 6 + 1 := by rw [i_le]; rw [i_lt] at c; omega
    rcases next_spec (S := S) (sh := S.1 14) with hn | hn
    · have h2 := MID_turn (p := 3) (q := 0) h1
      refine ⟨_, _, _, _, _, _, _, fun Q hQ => ?_, fun Q hQ => ?_, MID_mono h2 (Int.le_refl _) (by omega), rP_un rfl rfl⟩
      · unfold wp_X3_chaining
        intro T1 e1
        subst e1
        refine ⟨fun d => absurd d c, fun _ => next_own_class (MID_lim h) ?_⟩
        rw [hn]
        exact unst_class hQ
      · unfold wp_X8_chains
        intro T1 e1
        subst e1
        rw [e6] at c2 hQ h1
        refine ⟨fun _ => next_own_model (MID_tak h1) ?_, fun d => absurd c2 d⟩
        rw [hn]
        exact ⟨fun _ => turns_model hQ, fun d => absurd (by decide) d⟩
    · refine PAIR_w (begin1_pair h1 hn hT) (Int.le_refl _) (fun Q hQ => ?_) (fun Q hQ => ?_)
      · unfold wp_X3_chaining
        intro T1 e1
        subst e1
        refine ⟨fun d => absurd d c, fun _ => next_own_class (MID_lim h) ?_⟩
        exact hQ
      · unfold wp_X8_chains
        intro T1 e1
        subst e1
        rw [e6] at c2 hQ h1
        refine ⟨fun _ => next_own_model (MID_tak h1) ?_, fun d => absurd c2 d⟩
        have hno : ¬ nextF S (S.1 14) < 0 := fun d => by have := ok_iff.mp hn.1; rw [i_lt] at d; exact absurd d (by have e0 : (0 : Int32).toInt = 0 := rfl; omega)
        exact ⟨fun d => absurd d hno, fun _ => hQ⟩
/-- saving a single -/
theorem save_pair {W : Ob} {nw : Bool} {N T : Int} {K B r : Nat → Int32} {S A J C M : Ob} (h : MID W nw N T K S A J C B M r) (hp : K 5 = 4) (h6 : 0 ≤ (K 6).toInt ∧ (K 6).toInt < 4) (hl : 0 ≤ (C.1 11).toInt) : PAIR W nw N T B (fun Q => wp_X3_saving (K, S, A, J, C, B) Q) (fun Q => wp_X8_saves nw (M, r) Q) := by
  have e6 : K 6 = r 21 := h.2.2.2.2.2.1.2.2.1
  have e11 : C.1 11 = r 19 := h.2.2.2.1.1.2.2.2.2.2.2.2.2.2.1
  have hb := h.2.2.2.1.2.1
  have hl2 : (C.1 11).toInt ≤ 92 := hb.2.2.2.2.2.1.2
  have e0 : (0 : Int32).toInt = 0 := rfl
  have e1 : (1 : Int32).toInt = 1 := rfl
  have e4 : (4 : Int32).toInt = 4 := rfl
  have e8 : (8 : Int32).toInt = 8 := rfl
  have e56 : (56 : Int32).toInt = 56 := rfl
  have e96 : (96 : Int32).toInt = 96 := rfl
  have ea : (K 6 + 1).toInt = (K 6).toInt + 1 := by rw [i_add (by omega) (by omega), e1]
  have ei : (C.1 11 + K 6).toInt = (C.1 11).toInt + (K 6).toInt := i_add (by omega) (by omega)
  have en : (C.1 11 + K 6).toNatClampNeg = (C.1 11).toInt.toNat + (K 6).toInt.toNat := by rw [i_nat, ei]; omega
  have o8 := off (a := 8) (k := K 6) (by omega) (by omega) (by omega)
  have o56 := off (a := 56) (k := C.1 11) (by omega) (by omega) (by omega)
  have ob : (56 + C.1 11).toInt = 56 + (C.1 11).toInt := by rw [i_add (by omega) (by omega), e56]
  have ob2 := off (a := 56 + C.1 11) (k := K 6) (by omega) (by omega) (by omega)
  rw [show (8 : Int32).toNatClampNeg = 8 from rfl] at o8
  rw [o56.2, show (56 : Int32).toNatClampNeg = 56 from rfl] at ob2
  have ev : C.2 2 (K 6).toNatClampNeg = r (8 + (K 6).toNatClampNeg) := h.2.2.2.1.1.2.1 _ (by rw [i_nat]; omega)
  have h1 := MID_a (s := 4) (o := 56) (n := 96) (q := (C.1 11).toNatClampNeg + (K 6).toNatClampNeg) (v := C.2 2 (K 6).toNatClampNeg) h (by unfold rowC; omega) (by rw [i_nat, i_nat]; omega) hb
  have h2 := MID_21 (p := K 6 + 1) h1
  have hr : ∀ j : Nat, j < 56 → upd r (56 + ((C.1 11).toNatClampNeg + (K 6).toNatClampNeg)) (C.2 2 (K 6).toNatClampNeg) j = r j := fun j hj => up_ne (by omega)
  have hcl : ∀ Q : Ob → Prop, Q (sa C 4 (upd (C.2 4) ((C.1 11).toNatClampNeg + (K 6).toNatClampNeg) (C.2 2 (K 6).toNatClampNeg))) → wp_X1_saveSingle C (K 6) Q := by
    intro Q hQ
    unfold wp_X1_saveSingle
    refine ⟨fun d => absurd d (fun d => by rw [i_lt] at d; omega), fun _ => ⟨fun d => absurd d (fun d => by rw [i_le] at d; omega), fun _ => ⟨ok_iff.mpr (by omega), ok_iff.mpr (by omega), fun T3 e3 => ?_⟩⟩⟩
    subst e3
    rw [en, ← i_nat, ← i_nat]
    exact hQ
  by_cases c : K 6 + 1 < 4
  · have c2 : ¬ (4 : Int32) ≤ K 6 + 1 := fun d => by rw [i_le] at d; rw [i_lt] at c; omega
    refine ⟨_, _, _, _, _, _, _, fun Q hQ => ?_, fun Q hQ => ?_, h2, rP_sv hp ⟨?_, hl⟩⟩
    · unfold wp_X3_saving
      refine hcl _ ?_
      intro T2 e2
      subst e2
      exact ⟨fun _ => hQ, fun d => absurd c d⟩
    · unfold wp_X8_saves
      dsimp only
      rw [← e6, ← e11, ob2.2, o8.2, ← ev]
      refine ⟨o8.1, ob2.1, fun T1 f1 T2 f2 => ?_⟩
      have t1 : T1 21 = K 6 := by rw [f1, Nat.add_assoc, hr 21 (by omega), e6]
      rw [t1] at f2
      rw [Nat.add_assoc] at f1
      subst f1
      subst f2
      exact ⟨fun d => absurd d c2, fun _ => hQ⟩
    · show 0 ≤ (K 6 + 1).toInt ∧ (K 6 + 1).toInt < 4
      rw [i_lt] at c
      omega
  · have c2 : (4 : Int32) ≤ K 6 + 1 := by rw [i_le]; rw [i_lt] at c; omega
    have h3 := MID_i (s := 11) (i := 19) (v := -1) h2 (by unfold pairC; omega) ⟨hb.1, hb.2.1, hb.2.2.1, hb.2.2.2.1, hb.2.2.2.2.1, (show -1 ≤ (-1 : Int32).toInt ∧ (-1 : Int32).toInt ≤ 92 by decide), hb.2.2.2.2.2.2⟩
    have h4 := MID_cnt (s := 9) (t := 5) h3 (by omega)
    have h5 := MID_turn (p := 0) (q := 0) h4
    refine ⟨_, _, _, _, _, _, _, fun Q hQ => ?_, fun Q hQ => ?_, h5, rP_run rfl⟩
    · unfold wp_X3_saving
      refine hcl _ ?_
      intro T2 e2
      subst e2
      refine ⟨fun d => absurd d c, fun _ T4 f4 T5 f5 => ?_⟩
      subst f4
      subst f5
      exact enter_class hQ
    · unfold wp_X8_saves
      dsimp only
      rw [← e6, ← e11, ob2.2, o8.2, ← ev]
      refine ⟨o8.1, ob2.1, fun T1 f1 T2 f2 => ?_⟩
      have t1 : T1 21 = K 6 := by rw [f1, Nat.add_assoc, hr 21 (by omega), e6]
      rw [t1] at f2
      rw [Nat.add_assoc] at f1
      subst f1
      subst f2
      refine ⟨fun _ T4 f4 => ?_, fun d => absurd c2 d⟩
      subst f4
      refine counts_model (okLit (by decide)) ?_
      exact turns_model hQ
