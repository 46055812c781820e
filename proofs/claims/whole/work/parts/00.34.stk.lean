/-! LAYER 2: stacking -/
def risC (C : Ob) (b : Int32) : Ob := si (si C 6 (C.1 6 + b)) 7 (if C.1 7 < C.1 6 + b then C.1 6 + b else C.1 7)
def risM (M : Ob) (r : Nat → Int32) (b : Int32) : Ob := if M.1 14 = 0 then M else if r 15 + b ≤ M.2 6 13 then M else sa M 6 (upd (M.2 6) 13 (r 15 + b))
theorem rise_class {C : Ob} {b : Int32} {Q : Ob → Prop} (h : Q (risC C b)) : wp_X1_rise C b Q := by
  unfold wp_X1_rise
  intro T1 e1 x2 e2 T3 e3
  subst e1
  subst e2
  subst e3
  exact h
theorem rises_model {nw : Bool} {M : Ob} {r : Nat → Int32} {b : Int32} {Q : Mod → Prop} (h : Q (risM M r b, upd r 15 (r 15 + b))) : wp_X8_rises nw (M, r) b Q := by
  unfold risM at h
  unfold wp_X8_rises
  intro T1 e1
  have e : T1 15 = r 15 + b := by rw [e1]; exact up_eq _ _ _
  rw [e]
  subst e1
  refine ⟨fun c => ?_, fun c => ⟨fun d => ?_, fun d T4 e4 => ?_⟩⟩
  · rw [if_pos c] at h; exact h
  · rw [if_neg c, if_pos d] at h; exact h
  · rw [if_neg c, if_neg d] at h; subst e4; exact h
theorem ris_off {M : Ob} {r : Nat → Int32} {b : Int32} (h : M.1 14 = 0) : risM M r b = M := by unfold risM; rw [if_pos h]
theorem ris_1 (M : Ob) (r : Nat → Int32) (b : Int32) : (risM M r b).1 = M.1 := by
  unfold risM
  repeat' split
  all_goals rfl
theorem ris_2 {M : Ob} {r : Nat → Int32} {b : Int32} {j : Nat} (h : ¬ j = 6) : (risM M r b).2 j = M.2 j := by
  unfold risM
  repeat' split
  all_goals first | rfl | (rw [sa_ne h]; done)
theorem ris_6 {M : Ob} {r : Nat → Int32} {b : Int32} {j : Nat} (h : ¬ j = 13) : (risM M r b).2 6 j = M.2 6 j := by
  unfold risM
  repeat' split
  all_goals first | rfl | (rw [sa_self, up_ne h]; done)
theorem ris_13 {M : Ob} {r : Nat → Int32} {b : Int32} (h : M.1 14 = 1) : (risM M r b).2 6 13 = if r 15 + b ≤ M.2 6 13 then M.2 6 13 else r 15 + b := by
  unfold risM
  rw [if_neg (by rw [h]; decide)]
  by_cases c : r 15 + b ≤ M.2 6 13
  · rw [if_pos c, if_pos c]
  · rw [if_neg c, if_neg c, sa_self, up_eq]
theorem MID_rise {W : Ob} {nw : Bool} {N T : Int} {K B r : Nat → Int32} {S A J C M : Ob} {b : Int32} (h : MID W nw N T K S A J C B M r) (hb : 0 ≤ (C.1 6 + b).toInt ∧ (C.1 6 + b).toInt ≤ 96) : MID W nw N T K S A J (risC C b) B (risM M r b) (upd r 15 (r 15 + b)) := by
  obtain ⟨c0, cb, ch⟩ := h.2.2.2.1
  have e15 : C.1 6 = r 15 := c0.2.2.2.2.2.2.2.1
  have hc0 : rC0 (risC C b) (upd r 15 (r 15 + b)) := by
    have := rC0_i (s := 6) (i := 15) (v := C.1 6 + b) c0 (by unfold pairC; omega)
    rw [← e15]
    exact this
  refine MID_C h ⟨hc0, ⟨cb.1, cb.2.1, cb.2.2.1, hb, cb.2.2.2.2⟩, fun hn => ?_⟩ (fun k hk => up_ne (by unfold inC at hk; omega)) (ris_1 _ _ _) (fun j hj => ris_2 hj) (fun j hj => ris_6 hj) (fun hn => ris_off (by rw [h.2.2.2.2.2.2.2.2, hn]; rfl))
  have hM : M.1 14 = 1 := by rw [h.2.2.2.2.2.2.2.2, hn]; rfl
  rw [ris_13 hM, ← e15, ← ch hn]
  show (if C.1 7 < C.1 6 + b then C.1 6 + b else C.1 7) = _
  by_cases y : C.1 7 < C.1 6 + b
  · rw [if_pos y, if_neg (by rw [i_lt] at y; rw [i_le]; omega)]
  · rw [if_neg y, if_pos (by rw [i_lt] at y; rw [i_le]; omega)]
/-- what holds while the frame is laid -/
def stf (K r : Nat → Int32) (y : Int32) : Prop := K 5 = 1 ∧ (K 8 = r 24 ∧ okI (K 8) 21 ∧ K 9 = r 28 ∧ K 10 = r 29) ∧ y = K 6 ∧ 0 ≤ y.toInt ∧ y.toInt < 6
theorem pend_iff {W : Ob} {nw : Bool} {N T : Int} {K B r : Nat → Int32} {S A J C M : Ob} {k : Int32} (h : MID W nw N T K S A J C B M r) (hk : okI k 21) : okI (194 + k) 342 ∧ (r (Int32.toNatClampNeg (194 + k)) < 0 ↔ S.2 3 k.toNatClampNeg = 0) := by
  obtain ⟨h0, h1⟩ := ok_iff.mp hk
  have e194 : (194 : Int32).toInt = 194 := rfl
  have o := off (a := 194) (k := k) (by omega) (by omega) (by omega)
  refine ⟨o.1, ?_⟩
  rw [o.2, show (194 : Int32).toNatClampNeg = 194 from rfl]
  exact (h.1.1.1.1.2.2.1 k.toNatClampNeg (by rw [i_nat]; omega)).symm
theorem stk89_pair {W : Ob} {nw : Bool} {N T : Int} {K B r : Nat → Int32} {S A J C M : Ob} {y : Int32} (h : MID W nw N T K S A J C B M r) (hs : stf K r y ∨ K 5 = 5) (hT : T < 2000000000) : PAIR W nw N (T + 1) B (fun Q => wp_X3_stacking_L89 Q (K, S, A, J, C, B)) (fun Q => wp_X8_stacks_L125 nw Q y (M, r)) := by
  have e20 : K 5 = r 20 := h.2.2.2.2.2.1.2.1
  have e6 : K 6 = r 21 := h.2.2.2.2.2.1.2.2.1
  have ep : K 11 = M.1 15 := h.2.2.2.2.2.2.2.1
  rcases hs with ⟨p1, ⟨p2, p3, p4, p5⟩, rfl, p6, p7⟩ | p5
  · have np : ¬ K 5 = 5 := by rw [p1]; decide
    have nr : ¬ r 20 = 5 := by rw [← e20]; exact np
    have e1 : (1 : Int32).toInt = 1 := rfl
    have e5 : (5 : Int32).toInt = 5 := rfl
    have e66 : (6 : Int32).toInt = 6 := rfl
    have ea : (K 6 + 1).toInt = (K 6).toInt + 1 := by rw [i_add (by omega) (by omega), e1]
    have h1 := MID_21 (p := K 6 + 1) h
    by_cases c : (5 : Int32) ≤ K 6
    · have c2 : ¬ K 6 + 1 < 6 := fun d => by rw [i_lt] at d; rw [i_le] at c; omega
      -- whoever it is
      have fin : ∀ n : Int32, (n = -1 ∨ mayIn S n) → PAIR W nw N (T + 1) B (fun Q => wp_X3_beginOrUnstack (upd K 6 (K 6 + 1), S, A, J, C, B) n 0 Q) (fun Q => (0 ≤ n → ((n = r 24 → wp_X8_begins nw (M, upd r 21 (K 6 + 1)) n 0 Q) ∧ (¬ n = r 24 → wp_X8_counts nw (M, upd r 21 (K 6 + 1)) 3 (fun u => wp_X8_begins nw u n 0 Q)))) ∧ (¬ 0 ≤ n → wp_X8_turns nw (M, upd r 21 (K 6 + 1)) 3 0 Q)) := by
        intro n hn
        rcases hn with rfl | hn
        · refine ⟨_, _, _, _, _, _, _, fun Q hQ => unst_class hQ, fun Q hQ => ⟨fun d => absurd d (by decide), fun _ => turns_model hQ⟩, MID_mono (MID_turn (p := 3) (q := 0) h1) (Int.le_refl _) (by omega), rP_un rfl rfl⟩
        · have hge : 0 ≤ n := by have := ok_iff.mp hn.1; rw [i_le]; exact this.1
          exact PAIR_w (begin0_pair h1 hn p2 hT) (Int.le_refl _) (fun Q q => q) (fun Q q => ⟨fun _ => q, fun d => absurd hge d⟩)
      have hcl : ∀ (n : Int32) (Q : Mac → Prop), (K 11 = 0 → n = nextF S (S.1 14)) → (¬ K 11 = 0 → n = if canF S (K 8) = 0 then nextF S (S.1 14) else K 8) → wp_X3_beginOrUnstack (upd K 6 (K 6 + 1), S, A, J, C, B) n 0 Q → wp_X3_stacking_L89 Q (K, S, A, J, C, B) := by
        intro n Q hn1 hn2 hQ
        unfold wp_X3_stacking_L89
        refine ⟨fun _ T22 f22 => ?_, fun d => absurd d np⟩
        subst f22
        refine ⟨fun d => absurd d c2, fun _ => ⟨fun d => ?_, fun d => ?_⟩⟩
        · refine next_own_class (MID_lim h) ?_
          rw [hn1 d] at hQ
          exact hQ
        · refine can_class (M := M) (MID_lim h) p3 ?_
          have hn2 := hn2 d
          refine ⟨fun g => next_own_class (MID_lim h) ?_, fun g => ?_⟩
          · have g : canF S (K 8) = 0 := g
            rw [if_pos g] at hn2
            rw [hn2] at hQ
            exact hQ
          · have g : ¬ canF S (K 8) = 0 := g
            rw [if_neg g] at hn2
            rw [hn2] at hQ
            exact hQ
      have hmo : ∀ (n : Int32) (Q : Mod → Prop), (K 11 = 0 → n = nextF S (S.1 14)) → (¬ K 11 = 0 → n = if canF S (K 8) = 0 then nextF S (S.1 14) else K 8) → ((0 ≤ n → ((n = r 24 → wp_X8_begins nw (M, upd r 21 (K 6 + 1)) n 0 Q) ∧ (¬ n = r 24 → wp_X8_counts nw (M, upd r 21 (K 6 + 1)) 3 (fun u => wp_X8_begins nw u n 0 Q)))) ∧ (¬ 0 ≤ n → wp_X8_turns nw (M, upd r 21 (K 6 + 1)) 3 0 Q)) → wp_X8_stacks_L125 nw Q (K 6) (M, r) := by
        intro n Q hn1 hn2 hQ
        unfold wp_X8_stacks_L125
        refine ⟨fun _ T19 f19 => ?_, fun d => absurd d nr⟩
        subst f19
        refine ⟨fun _ => next_own_model (MID_tak h1) ?_, fun d => absurd c d⟩
        refine ⟨fun d => ?_, fun d => ?_⟩
        · have d : M.1 15 = 0 := d
          rw [hn1 (by rw [ep]; exact d)] at hQ
          exact hQ
        · have d : ¬ M.1 15 = 0 := d
          have hn2 := hn2 (by rw [ep]; exact d)
          obtain ⟨o1, o2⟩ := pend_iff h1 p3
          show okI (194 + r 24) 342 ∧ ((upd r 21 (K 6 + 1) (Int32.toNatClampNeg (194 + r 24)) < 0 → _) ∧ (¬ upd r 21 (K 6 + 1) (Int32.toNatClampNeg (194 + r 24)) < 0 → wp_X8_could nw (M, upd r 21 (K 6 + 1)) (r 24) _))
          rw [← p2]
          refine ⟨o1, fun g => ?_, fun g => ?_⟩
          · have g := o2.mp g
            have hcan : canF S (K 8) = 0 := by unfold canF; rw [if_pos g]
            rw [if_pos hcan] at hn2
            rw [hn2] at hQ
            exact hQ
          · have g : ¬ S.2 3 (K 8).toNatClampNeg = 0 := fun q => g (o2.mpr q)
            have hcan : canF S (K 8) = couldF S (K 8) := by unfold canF; rw [if_neg g]
            refine could_model (MID_tak h1) p3 ⟨fun q => ?_, fun q x46 f46 => ?_⟩
            · rw [hcan, if_pos q] at hn2
              rw [hn2] at hQ
              exact hQ
            · rw [hcan, if_neg q] at hn2
              have f46 : x46 = r 24 := f46
              rw [f46, ← p2]
              rw [hn2] at hQ
              exact hQ
      by_cases d : K 11 = 0
      · exact PAIR_w (fin (nextF S (S.1 14)) next_spec) (Int.le_refl _) (fun Q q => hcl _ Q (fun _ => rfl) (fun z => absurd d z) q) (fun Q q => hmo _ Q (fun _ => rfl) (fun z => absurd d z) q)
      · by_cases g : canF S (K 8) = 0
        · exact PAIR_w (fin (nextF S (S.1 14)) next_spec) (Int.le_refl _) (fun Q q => hcl _ Q (fun _ => rfl) (fun _ => by rw [if_pos g]) q) (fun Q q => hmo _ Q (fun _ => rfl) (fun _ => by rw [if_pos g]) q)
        · exact PAIR_w (fin (K 8) (Or.inr (can_spec p3 g))) (Int.le_refl _) (fun Q q => hcl _ Q (fun z => absurd z d) (fun _ => by rw [if_neg g]) q) (fun Q q => hmo _ Q (fun z => absurd z d) (fun _ => by rw [if_neg g]) q)
    · have c2 : K 6 + 1 < 6 := by rw [i_lt]; rw [i_le] at c; omega
      refine ⟨_, _, _, _, _, _, _, fun Q hQ => ?_, fun Q hQ => ?_, MID_mono h1 (Int.le_refl _) (by omega), rP_st p1 ⟨⟨p2, p3, p4, p5⟩, ?_⟩⟩
      · unfold wp_X3_stacking_L89
        refine ⟨fun _ T22 f22 => ?_, fun d => absurd d np⟩
        subst f22
        exact ⟨fun _ => hQ, fun d => absurd c2 d⟩
      · unfold wp_X8_stacks_L125
        refine ⟨fun _ T19 f19 => ?_, fun d => absurd d nr⟩
        subst f19
        exact ⟨fun d => absurd d c, fun _ => hQ⟩
      · show 1 ≤ (K 6 + 1).toInt ∧ (K 6 + 1).toInt < 6
        rw [i_lt] at c2
        omega
  · refine ⟨_, _, _, _, _, _, _, fun Q hQ => ?_, fun Q hQ => ?_, MID_mono h (Int.le_refl _) (by omega), rP_lock p5⟩
    · unfold wp_X3_stacking_L89
      exact ⟨fun d => absurd p5 d, fun _ => hQ⟩
    · unfold wp_X8_stacks_L125
      exact ⟨fun d => absurd (e20.symm.trans p5) d, fun _ => hQ⟩
theorem rai_5 {K : Nat → Int32} {t : Int32} {r' r : Nat → Int32} {y : Int32} (hs : stf K r y) (hr : ∀ k : Nat, k = 24 ∨ k = 28 ∨ k = 29 ∨ k = 32 → r' k = r k) : stf (raiK K t) r' y ∨ (raiK K t 5 = 5 ∧ raiK K t 9 = K 9) := by
  unfold raiK
  by_cases c : t = -1
  · rw [if_pos c]; exact Or.inr ⟨rfl, rfl⟩
  · rw [if_neg c]
    unfold stf
    rw [hr 24 (by omega), hr 28 (by omega), hr 29 (by omega)]
    exact Or.inl hs
/-- the word that is laid -/
def frW (K : Nat → Int32) (C : Ob) : Int32 := if 4 ≤ K 6 then (if K 6 = 4 then C.1 5 else (if K 10 = 0 then 23040 + C.1 8 + 2 * C.1 9 + 0 else 23040 + C.1 8 + 2 * C.1 9 + 4)) else C.2 1 (K 6).toNatClampNeg
theorem frW_class {K B : Nat → Int32} {S A J C : Ob} {Q : Int32 → Mac → Prop} (h0 : 0 ≤ (K 6).toInt) (h : Q (frW K C) (K, S, A, J, C, B)) : wp_X3_frameWord (K, S, A, J, C, B) Q := by
  unfold frW at h
  unfold wp_X3_frameWord
  refine ⟨fun c => ⟨fun d => ⟨fun e => ?_, fun e => ?_⟩, fun d => ?_⟩, fun c => ⟨?_, ?_⟩⟩
  · rw [if_pos c, if_neg d, if_pos e] at h; exact h
  · rw [if_pos c, if_neg d, if_neg e] at h; exact h
  · rw [if_pos c, if_pos d] at h; exact h
  · have c : ¬ (4 : Int32) ≤ K 6 := c
    have e4 : (4 : Int32).toInt = 4 := rfl
    rw [i_le] at c
    exact ok_iff.mpr ⟨h0, by show (K 6).toInt < 8; omega⟩
  · rw [if_neg c] at h; exact h
theorem stk57_pair {W : Ob} {nw : Bool} {N T : Int} {K B r : Nat → Int32} {S A J C M : Ob} {y : Int32} (h : MID W nw N T K S A J C B M r) (hs : stf K r y ∨ (K 5 = 5 ∧ ¬ K 9 = 0)) (hT : T < 1999999999) : PAIR W nw N (T + 2) B (fun Q => wp_X3_stacking_L57 Q (K, S, A, J, C, B)) (fun Q => wp_X8_stacks_L45 nw Q y (M, r)) := by
  have e20 : K 5 = r 20 := h.2.2.2.2.2.1.2.1
  rcases hs with hs | ⟨p5, p9⟩
  · obtain ⟨p1, ⟨p2, p3, p4, p5⟩, hy, p6, p7⟩ := id hs
    have nr : ¬ r 20 = 5 := by rw [← e20, p1]; decide
    have b9 : isB (K 9) := h.2.2.2.2.2.1.2.2.2.1
    have b10 : isB (K 10) := h.2.2.2.2.2.1.2.2.2.2
    obtain ⟨c0, cb, ch⟩ := h.2.2.2.1
    have e15 : C.1 6 = r 15 := c0.2.2.2.2.2.2.2.1
    have hsp := cb.2.2.2.1
    have e1 : (1 : Int32).toInt = 1 := rfl
    have e96 : (96 : Int32).toInt = 96 := rfl
    have e56 : (56 : Int32).toInt = 56 := rfl
    have ea : (C.1 6 + 1).toInt = (C.1 6).toInt + 1 := by rw [i_add (by omega) (by omega), e1]
    by_cases q9 : K 9 = 0
    · have n28 : ¬ r 28 = 1 := by rw [← p4, q9]; decide
      by_cases c : C.1 6 < 96
      · have c2 : ¬ 96 < r 15 + 1 := fun d => by rw [i_lt, ← e15] at d; rw [i_lt] at c; omega
        rw [i_lt] at c
        have o56 := off (a := 56) (k := C.1 6) (by omega) (by omega) (by omega)
        rw [show (56 : Int32).toNatClampNeg = 56 from rfl] at o56
        have h1 := MID_a (s := 4) (o := 56) (n := 96) (q := (C.1 6).toNatClampNeg) (v := frW K C) h (by unfold rowC; omega) (by rw [i_nat]; omega) cb
        have h2 := MID_rise (b := 1) h1 (by show 0 ≤ (C.1 6 + 1).toInt ∧ (C.1 6 + 1).toInt ≤ 96; omega)
        have hs2 : stf K (upd (upd r (56 + (C.1 6).toNatClampNeg) (frW K C)) 15 (upd r (56 + (C.1 6).toNatClampNeg) (frW K C) 15 + 1)) y := by
          unfold stf
          rw [up_ne (by omega), up_ne (by omega), up_ne (by omega), up_ne (by omega), up_ne (by omega), up_ne (by omega)]
          exact hs
        refine PAIR_w (stk89_pair h2 (Or.inl hs2) (by omega)) (by omega) (fun Q hQ => ?_) (fun Q hQ => ?_)
        · unfold wp_X3_stacking_L57
          refine ⟨fun d => absurd q9 d, fun _ => ?_⟩
          refine frW_class (by rw [← hy]; exact p6) ?_
          unfold wp_X1_push
          refine ⟨fun _ => ⟨ok_iff.mpr (by show 0 ≤ (C.1 6).toInt ∧ (C.1 6).toInt < 96; omega), fun T2 e2 => ?_⟩, fun d => absurd (i_lt.mpr (by rw [e96]; exact c)) d⟩
          subst e2
          refine rise_class ?_
          exact ⟨fun _ => hQ, fun d => absurd d (by decide)⟩
        · unfold wp_X8_stacks_L45
          refine ⟨fun _ => ?_, fun d => absurd d nr⟩
          unfold wp_X8_hasRoom
          refine ⟨fun _ => ⟨fun d => absurd d c2, fun _ => ?_⟩, fun d => absurd d n28⟩
          have go : ∀ z0 : Int32, z0 = frW K C → wp_X8_stacks_L118 nw Q y z0 (56 + r 15) (M, r) := by
            intro z0 ez
            unfold wp_X8_stacks_L118
            rw [← e15, ez]
            refine ⟨o56.1, fun T16 e16 => ?_⟩
            rw [o56.2] at e16
            subst e16
            exact rises_model hQ
          refine ⟨fun d => absurd d (by decide), fun _ => ⟨fun d => ⟨fun f => go _ ?_, fun f => go _ ?_⟩, fun d => ⟨?_, go _ ?_⟩⟩⟩
          · unfold frW
            rw [← hy, if_pos d, if_neg f]
            show 23040 + r 13 + 2 * r 14 + 4 * r 29 = _
            rw [← p5, c0.2.2.2.2.2.1, c0.2.2.2.2.2.2.1]
            rcases b10 with z | z
            · rw [z, if_pos rfl]; rfl
            · rw [z, if_neg (by decide)]; rfl
          · unfold frW
            rw [← hy, if_pos d, if_pos f]
            exact c0.2.2.2.2.1.symm
          · have d : ¬ (4 : Int32) ≤ y := d
            rw [i_le] at d
            have e4 : (4 : Int32).toInt = 4 := rfl
            exact (off (a := 0) (k := y) (by decide) p6 (by have e0 : (0 : Int32).toInt = 0 := rfl; omega)).1
          · unfold frW
            have d : ¬ (4 : Int32) ≤ y := d
            rw [← hy, if_neg d]
            rw [i_le] at d
            have e4 : (4 : Int32).toInt = 4 := rfl
            have e0 : (0 : Int32).toInt = 0 := rfl
            have o := (off (a := 0) (k := y) (by decide) p6 (by omega)).2
            show r (Int32.toNatClampNeg (0 + y)) = _
            rw [o, show (0 : Int32).toNatClampNeg = 0 from rfl, Nat.zero_add]
            exact (c0.1 y.toNatClampNeg (by rw [i_nat]; omega)).symm
      · have c2 : 96 < r 15 + 1 := by rw [i_lt, ← e15]; rw [i_lt] at c; omega
        have h1 := MID_r (i := 28) (v := 1) (MID_k9 (v := 1) h isB1) (by omega)
        have hs1 : stf (upd K 9 1) (upd r 28 1) y := ⟨p1, ⟨p2, p3, rfl, p5⟩, hy, p6, p7⟩
        obtain ⟨S', J', M', r', w1, w2, h2, hr⟩ := raise_pair (f := 19) h1 (okLit (by decide)) (by omega)
        have hs2 : stf (raiK (upd K 9 1) (takerF S 19)) r' y ∨ raiK (upd K 9 1) (takerF S 19) 5 = 5 := (rai_5 hs1 hr).imp id (fun z => z.1)
        refine PAIR_w (stk89_pair h2 hs2 (by omega)) (by omega) (fun Q hQ => ?_) (fun Q hQ => ?_)
        · unfold wp_X3_stacking_L57
          refine ⟨fun d => absurd q9 d, fun _ => ?_⟩
          refine frW_class (by rw [← hy]; exact p6) ?_
          unfold wp_X1_push
          refine ⟨fun d => absurd d c, fun _ => ?_⟩
          refine ⟨fun d => absurd rfl d, fun _ T19 e19 => ?_⟩
          subst e19
          exact w1 _ hQ
        · unfold wp_X8_stacks_L45
          refine ⟨fun _ => ?_, fun d => absurd d nr⟩
          unfold wp_X8_hasRoom
          refine ⟨fun _ => ⟨fun _ T3 e3 => ?_, fun d => absurd c2 d⟩, fun d => absurd d n28⟩
          subst e3
          refine w2 _ ?_
          exact ⟨fun _ => hQ, fun d => absurd rfl d⟩
    · have q1 : K 9 = 1 := isB_ne b9 q9
      refine PAIR_w (stk89_pair h (Or.inl hs) (by omega)) (by omega) (fun Q hQ => ?_) (fun Q hQ => ?_)
      · unfold wp_X3_stacking_L57
        exact ⟨fun _ => hQ, fun d => absurd d q9⟩
      · unfold wp_X8_stacks_L45
        refine ⟨fun _ => ?_, fun d => absurd d nr⟩
        unfold wp_X8_hasRoom
        refine ⟨fun d => absurd (p4.symm.trans q1) d, fun _ => ?_⟩
        exact ⟨fun _ => hQ, fun d => absurd rfl d⟩
  · refine ⟨_, _, _, _, _, _, _, fun Q hQ => ?_, fun Q hQ => ?_, MID_mono h (Int.le_refl _) (by omega), rP_lock p5⟩
    · unfold wp_X3_stacking_L57
      refine ⟨fun _ => ?_, fun d => absurd d p9⟩
      unfold wp_X3_stacking_L89
      exact ⟨fun d => absurd p5 d, fun _ => hQ⟩
    · unfold wp_X8_stacks_L45
      exact ⟨fun d => absurd (e20.symm.trans p5) d, fun _ => hQ⟩
theorem stack_pair {W : Ob} {nw : Bool} {N T : Int} {K B r : Nat → Int32} {S A J C M : Ob} (h : MID W nw N T K S A J C B M r) (hs : stf K r (K 6)) (hz : K 6 = 0 → K 9 = 0 ∧ K 10 = 0) (hT : T < 1999999998) : PAIR W nw N (T + 3) B (fun Q => wp_X3_stacking (K, S, A, J, C, B) Q) (fun Q => wp_X8_stacks nw (M, r) Q) := by
  obtain ⟨p1, ⟨p2, p3, p4, p5⟩, hy, p6, p7⟩ := id hs
  have e6 : K 6 = r 21 := h.2.2.2.2.2.1.2.2.1
  obtain ⟨c0, cb, ch⟩ := h.2.2.2.1
  have e18 : C.1 12 = r 18 := c0.2.2.2.2.2.2.2.2.1
  have b12 : isB (C.1 12) := cb.2.2.2.2.1
  have e15 : C.1 6 = r 15 := c0.2.2.2.2.2.2.2.1
  have hsp := cb.2.2.2.1
  have e4 : (4 : Int32).toInt = 4 := rfl
  have e92 : (92 : Int32).toInt = 92 := rfl
  have e96 : (96 : Int32).toInt = 96 := rfl
  have ea : (C.1 6 + 4).toInt = (C.1 6).toInt + 4 := by rw [i_add (by omega) (by omega), e4]
  by_cases z6 : K 6 = 0
  · obtain ⟨z9, z10⟩ := hz z6
    by_cases z12 : C.1 12 = 0
    · refine PAIR_w (stk57_pair h (Or.inl hs) (by omega)) (by omega) (fun Q hQ => ?_) (fun Q hQ => ?_)
      · unfold wp_X3_stacking
        exact ⟨fun d => absurd z6 d, fun _ => ⟨fun _ => hQ, fun d => absurd z12 d⟩⟩
      · unfold wp_X8_stacks
        intro x1 e1
        have e1 : x1 = K 6 := e1.trans e6.symm
        subst e1
        exact ⟨fun d => absurd z6 d, fun _ => ⟨fun _ => hQ, fun d => absurd (e18.trans d) (by rw [z12]; decide)⟩⟩
    · have o12 : r 18 = 1 := by rw [← e18]; exact isB_ne b12 z12
      have n28 : ¬ r 28 = 1 := by rw [← p4, z9]; decide
      by_cases c : C.1 6 ≤ 92
      · have c2 : ¬ 96 < r 15 + 4 := fun d => by rw [i_lt, ← e15] at d; rw [i_le] at c; omega
        rw [i_le] at c
        have h1 := MID_i (s := 11) (i := 19) (v := C.1 6) h (by unfold pairC; omega) ⟨cb.1, cb.2.1, cb.2.2.1, cb.2.2.2.1, cb.2.2.2.2.1, (show -1 ≤ (C.1 6).toInt ∧ (C.1 6).toInt ≤ 92 by omega), cb.2.2.2.2.2.2⟩
        have h2 := MID_r (i := 29) (v := 1) (MID_k9 (v := 0) (MID_k10 (v := 1) h1 isB1) isB0) (by omega)
        have h3 := MID_rise (b := 4) h2 (by show 0 ≤ (C.1 6 + 4).toInt ∧ (C.1 6 + 4).toInt ≤ 96; omega)
        have hs3 : stf (upd (upd K 10 1) 9 0) (upd (upd (upd r 19 (C.1 6)) 29 1) 15 (upd (upd r 19 (C.1 6)) 29 1 15 + 4)) (K 6) := ⟨p1, ⟨p2, p3, (show 0 = r 28 by rw [← p4, z9]), rfl⟩, rfl, p6, p7⟩
        refine PAIR_w (stk57_pair h3 (Or.inl hs3) (by omega)) (by omega) (fun Q hQ => ?_) (fun Q hQ => ?_)
        · unfold wp_X3_stacking
          refine ⟨fun d => absurd z6 d, fun _ => ⟨fun d => absurd d z12, fun _ => ?_⟩⟩
          unfold wp_X1_pushFours
          refine ⟨fun _ T2 e2 => ?_, fun d => absurd (i_le.mpr (by rw [e92]; exact c)) d⟩
          subst e2
          refine rise_class ?_
          refine ⟨isB1, fun T5 e5 => ?_⟩
          subst e5
          refine ⟨fun _ T7 e7 => ?_, fun d => absurd d (by show ¬ (1 : Int32) = 0; decide)⟩
          subst e7
          exact ⟨fun _ => hQ, fun d => absurd rfl d⟩
        · unfold wp_X8_stacks
          intro x1 e1
          have e1 : x1 = K 6 := e1.trans e6.symm
          subst e1
          refine ⟨fun d => absurd z6 d, fun _ => ⟨fun d => absurd o12 d, fun _ => ?_⟩⟩
          unfold wp_X8_hasRoom
          refine ⟨fun _ => ⟨fun d => absurd d c2, fun _ => ?_⟩, fun d => absurd d n28⟩
          refine ⟨fun d => absurd d (by decide), fun _ T7 e7 T8 e8 => ?_⟩
          subst e7
          subst e8
          refine rises_model ?_
          rw [e15] at hQ
          exact hQ
      · have c2 : 96 < r 15 + 4 := by rw [i_lt, ← e15]; rw [i_le] at c; omega
        have h1 := MID_r (i := 28) (v := 1) (MID_k9 (v := 1) (MID_k10 (v := 0) h isB0) isB1) (by omega)
        have hs1 : stf (upd (upd K 10 0) 9 1) (upd r 28 1) (K 6) := ⟨p1, ⟨p2, p3, rfl, (show 0 = r 29 by rw [← p5, z10])⟩, rfl, p6, p7⟩
        obtain ⟨S', J', M', r', w1, w2, h2, hr⟩ := raise_pair (f := 19) h1 (okLit (by decide)) (by omega)
        have hs2 : stf (raiK (upd (upd K 10 0) 9 1) (takerF S 19)) r' (K 6) ∨ (raiK (upd (upd K 10 0) 9 1) (takerF S 19) 5 = 5 ∧ ¬ raiK (upd (upd K 10 0) 9 1) (takerF S 19) 9 = 0) := (rai_5 hs1 hr).imp id (fun z => ⟨z.1, by rw [z.2]; show ¬ (1 : Int32) = 0; decide⟩)
        refine PAIR_w (stk57_pair h2 hs2 (by omega)) (by omega) (fun Q hQ => ?_) (fun Q hQ => ?_)
        · unfold wp_X3_stacking
          refine ⟨fun d => absurd z6 d, fun _ => ⟨fun d => absurd d z12, fun _ => ?_⟩⟩
          unfold wp_X1_pushFours
          refine ⟨fun d => absurd d c, fun _ => ?_⟩
          refine ⟨isB0, fun T5 e5 => ?_⟩
          subst e5
          refine ⟨fun d => absurd rfl d, fun _ T10 e10 => ?_⟩
          subst e10
          exact ⟨fun d => absurd d (by show ¬ (1 : Int32) = 0; decide), fun _ => w1 _ hQ⟩
        · unfold wp_X8_stacks
          intro x1 e1
          have e1 : x1 = K 6 := e1.trans e6.symm
          subst e1
          refine ⟨fun d => absurd z6 d, fun _ => ⟨fun d => absurd o12 d, fun _ => ?_⟩⟩
          unfold wp_X8_hasRoom
          refine ⟨fun _ => ⟨fun _ T3 e3 => ?_, fun d => absurd c2 d⟩, fun d => absurd d n28⟩
          subst e3
          refine w2 _ ?_
          exact ⟨fun _ => hQ, fun d => absurd rfl d⟩
  · refine PAIR_w (stk57_pair h (Or.inl hs) (by omega)) (by omega) (fun Q hQ => ?_) (fun Q hQ => ?_)
    · unfold wp_X3_stacking
      exact ⟨fun _ => hQ, fun d => absurd d z6⟩
    · unfold wp_X8_stacks
      intro x1 e1
      have e1 : x1 = K 6 := e1.trans e6.symm
      subst e1
      exact ⟨fun _ => hQ, fun d => absurd d z6⟩
