/-! LAYER 2: returns and unstacking, both sides -/
theorem tb_class {K B : Nat → Int32} {S A J C : Ob} {Q : Mac → Prop} (h0 : 0 ≤ (S.1 10).toInt) (h21 : (S.1 10).toInt ≤ 21) (l0 : 0 ≤ (J.1 3).toInt) (l1 : (J.1 3).toInt < 24) (h : Q (upd (upd K 5 0) 6 0, S, A, recJ J 5 (inn S) (K 4) (C.1 6), C, B)) : wp_X3_enter (K, S, A, J, C, B) 0 (fun u4 => wp_X5_innermost u4.2.1 (fun r6 u5 => wp_X2_record u4.2.2.2.1 5 r6 (u4.1 4) (u4.2.2.2.2.1.1 6) (fun u7 => Q (u4.1, u5, u4.2.2.1, u7, u4.2.2.2.2.1, u4.2.2.2.2.2)))) := by
  refine enter_class ?_
  refine inn_class h0 h21 ?_
  exact record_class l0 l1 h
theorem ret_tail {W : Ob} {nw : Bool} {N T : Int} {K B r : Nat → Int32} {S A J C M : Ob} {f y : Int32} {p : Nat} (h : MID W nw N T K S A J C B M r) (hT : T < 2000000000) (bf : isB f) (hy : isB y) (hm : mOK C) (hpl : plc C) (hp : (C.1 6).toInt + 50 = (p : Int)) (h6 : 6 ≤ (C.1 6).toInt) (h10 : ¬ f = 0 → 10 ≤ (C.1 6).toInt) (hf : f = 0 ↔ mk C - 23040 ≤ 3) : ∃ (K' : Nat → Int32) (J' C' M' : Ob) (r' : Nat → Int32), (∀ Q : Int32 → Ob → Prop, Q y C' → wp_X1_popFrame_L37 Q f y C) ∧ (∀ Q : Mac → Prop, Q (K', S, A, J', C', B) → wp_X3_enter (K, S, A, J, C', B) 0 (fun u4 => wp_X5_innermost u4.2.1 (fun r6 u5 => wp_X2_record u4.2.2.2.1 5 r6 (u4.1 4) (u4.2.2.2.2.1.1 6) (fun u7 => Q (u4.1, u5, u4.2.2.1, u7, u4.2.2.2.2.1, u4.2.2.2.2.2))))) ∧ (∀ Q : Mod → Prop, Q (M', r') → wp_X8_returns_L113 nw Q 2000 (56 + r 15) (mk C - 23040) 0 (M, upd r 18 f)) ∧ MID W nw N (T + 1) K' S A J' C' B M' r' ∧ K' 5 = 0 ∧ C' = popC C f := by
  obtain ⟨c0, cb, -⟩ := h.2.2.2.1
  have hsp := cb.2.2.2.1
  have e15 : C.1 6 = r 15 := c0.2.2.2.2.2.2.2.1
  have R := MID_lim h
  have e56 : (56 : Int32).toInt = 56 := rfl
  have a56 : (56 + r 15).toInt = (p : Int) + 6 := by rw [i_add (by rw [← e15]; omega) (by rw [← e15]; omega), e56, ← e15]; omega
  have h1 := MID_pop h bf hm hpl hp h6 h10
  have h2 := MID_turn (p := 0) (q := 0) h1
  have w15 : (popC C f).1 6 = if f = 0 then C.1 6 - 6 else C.1 6 - 10 := rfl
  have h3 := MID_note (a := 5) (b := inn S) (d := (popC C f).1 6) (d' := (popC C f).1 6) h2 hT (fun _ => rfl)
  refine ⟨_, _, _, _, _, fun Q hQ => pop_class h6 hsp.2 bf hy hQ, fun Q hQ => tb_class R.1.2.1 R.1.2.2 h.2.2.1.1.1.1 h.2.2.1.1.1.2 hQ, fun Q hQ => ?_, h3, rfl, rfl⟩
  have u15 : upd r 18 f 15 = r 15 := up_ne (by decide)
  have u30 : upd r 18 f 30 = r 30 := up_ne (by decide)
  have uk : upd r 18 f (Int32.toNatClampNeg (152 + r 30 - 1)) = r (Int32.toNatClampNeg (152 + r 30 - 1)) ∨ r 30 = 0 := by
    by_cases c : r 30 = 0
    · exact Or.inr c
    · refine Or.inl (up_ne ?_)
      have e1 : (1 : Int32).toInt = 1 := rfl
      have e152 : (152 : Int32).toInt = 152 := rfl
      have d0 : 0 ≤ (r 30).toInt := by rw [← R.1.1]; exact R.1.2.1
      have d1 : (r 30).toInt ≤ 21 := by rw [← R.1.1]; exact R.1.2.2
      have a : (152 + r 30).toInt = 152 + (r 30).toInt := by rw [i_add (by omega) (by omega), e152]
      rw [i_nat, i_sub (by omega) (by omega), a, e1]
      omega
  refine ret_model (p := p) a56 (by omega) (by omega) (by rw [u15, Int32.sub_eq_add_neg]; exact (show r 15 = 56 + r 15 + -56 by rw [Int32.add_comm 56, Int32.add_assoc]; exact (Int32.add_zero _).symm)) (by rw [u30, ← R.1.1]; exact R.1.2.1) (by rw [u30, ← R.1.1]; exact R.1.2.2) ?_
  have ei : (if upd r 18 f 30 = 0 then (-1 : Int32) else upd r 18 f (Int32.toNatClampNeg (152 + upd r 18 f 30 - 1))) = inn S := by
    rw [inn_eq R, u30]
    rcases uk with z | z
    · rw [z]
    · rw [if_pos z, if_pos z]
  have ew : (if mk C - 23040 ≤ 3 then upd r 18 f 15 - 6 else upd r 18 f 15 - 10) = (popC C f).1 6 := by
    rw [w15, u15, ← e15]
    by_cases c : f = 0
    · rw [if_pos c, if_pos (hf.mp c)]
    · rw [if_neg c, if_neg (fun z => c (hf.mpr z))]
  rw [ei, ew]
  exact MID_not h2 hQ
theorem back_pair {W : Ob} {nw : Bool} {N T : Int} {K B r : Nat → Int32} {S A J C M : Ob} (h : MID W nw N T K S A J C B M r) (hT : T < 2000000000) (hok : frF C = -1) (h32 : r 32 = frS C) : PAIR W nw N (T + 1) B (fun Q => wp_X3_takeBack (K, S, A, J, C, B) Q) (fun Q => wp_X8_returns nw (M, r) Q) := by
  obtain ⟨h6, hm, hpl, h10⟩ := frF_ok hok
  obtain ⟨c0, cb, -⟩ := h.2.2.2.1
  have hsp := cb.2.2.2.1
  have e15 : C.1 6 = r 15 := c0.2.2.2.2.2.2.2.1
  have e11 : C.1 11 = r 19 := c0.2.2.2.2.2.2.2.2.2.1
  have e1 : (1 : Int32).toInt = 1 := rfl
  obtain ⟨o1, v1⟩ := cell_at (d := 1) c0 hsp.2 (by omega) (by omega)
  obtain ⟨m, hm1, hm2⟩ := mOK_k hm
  have mb := (mark_bit m hm1).1
  rw [← hm2] at mb
  obtain ⟨p, hp⟩ : ∃ p : Nat, (C.1 6).toInt + 50 = (p : Int) := ⟨((C.1 6).toInt + 50).toNat, by omega⟩
  unfold frS at h32
  by_cases g : mk C &&& 4 = 0
  · rw [if_pos g] at h32
    obtain ⟨K', J', C', M', r', w1, w2, w3, h1, hK, hC⟩ := ret_tail (f := 0) (y := 0) h hT isB0 isB0 hm hpl hp h6 (fun z => absurd rfl z) ⟨fun _ => mb.mp g, fun _ => rfl⟩
    refine ⟨K', S, A, J', C', M', r', fun Q hQ => ?_, fun Q hQ => ?_, h1, rP_run hK⟩
    · unfold wp_X3_takeBack
      refine popFrame_class h6 hsp.2 ⟨fun _ => ?_, fun z => absurd g z⟩
      rw [← hC]
      exact ⟨fun _ => w2 _ hQ, fun z => absurd rfl z⟩
    · unfold wp_X8_returns
      intro x1 f1
      have f1 : x1 = 56 + r 15 := f1
      subst f1
      rw [e15] at o1 v1
      refine ⟨o1, fun x2 f2 => ?_⟩
      have f2 : x2 = mk C - 23040 := by rw [f2]; show r _ - _ = _; rw [v1, ← e15]; rfl
      subst f2
      refine ⟨fun _ => ⟨fun _ => ⟨fun _ T6 f6 => ?_, fun z => absurd (mb.mp g) z⟩, fun z => absurd (mb.mp g) z⟩, fun z => absurd (h32.symm.trans z) (by decide)⟩
      subst f6
      exact w3 _ hQ
  · rw [if_neg g] at h32
    have g3 : ¬ mk C - 23040 ≤ 3 := fun z => g (mb.mpr z)
    have h10 := h10 g
    by_cases k : C.1 11 = C.1 6 - 10
    · rw [if_pos k] at h32
      have hl := MID_i (s := 11) (i := 19) (v := -1) h (by unfold pairC; omega) ⟨cb.1, cb.2.1, cb.2.2.1, cb.2.2.2.1, cb.2.2.2.2.1, (show -1 ≤ (-1 : Int32).toInt ∧ (-1 : Int32).toInt ≤ 92 by decide), cb.2.2.2.2.2.2⟩
      have hl2 := MID_cnt (s := 10) (t := 6) hl (by omega)
      obtain ⟨K', J', C', M', r', w1, w2, w3, h1, hK, hC⟩ := ret_tail (f := 1) (y := 1) hl2 hT isB1 isB1 hm hpl hp h6 (fun _ => h10) ⟨fun z => absurd z (by decide), fun z => absurd z g3⟩
      refine ⟨K', S, A, J', C', M', r', fun Q hQ => ?_, fun Q hQ => ?_, h1, rP_run hK⟩
      · unfold wp_X3_takeBack
        refine popFrame_class h6 hsp.2 ⟨fun z => absurd z g, fun _ => ⟨fun _ => ?_, fun z => absurd k z⟩⟩
        rw [← hC]
        refine ⟨fun z => absurd z (by decide), fun _ T8 e8 => ?_⟩
        subst e8
        exact w2 _ hQ
      · unfold wp_X8_returns
        intro x1 f1
        have f1 : x1 = 56 + r 15 := f1
        subst f1
        rw [e15] at o1 v1
        refine ⟨o1, fun x2 f2 => ?_⟩
        have f2 : x2 = mk C - 23040 := by rw [f2]; show r _ - _ = _; rw [v1, ← e15]; rfl
        subst f2
        refine ⟨fun _ => ⟨fun z => absurd z g3, fun _ T8 f8 => ?_⟩, fun z => absurd (h32.symm.trans z) (by decide)⟩
        subst f8
        refine counts_model (okLit (by decide)) ?_
        refine ⟨fun z => absurd z g3, fun _ T12 f12 => ?_⟩
        subst f12
        exact w3 _ hQ
    · rw [if_neg k] at h32
      have e10 : (10 : Int32).toInt = 10 := rfl
      have e56 : (56 : Int32).toInt = 56 := rfl
      have s10 : (C.1 6 - 10).toInt = (C.1 6).toInt - 10 := by rw [i_sub (by omega) (by omega), e10]
      obtain ⟨q, hq⟩ : ∃ q : Nat, (C.1 6).toInt - 10 = (q : Int) := ⟨((C.1 6).toInt - 10).toNat, by omega⟩
      have t10 : (56 + r 15 - 10).toInt = ((56 + q : Nat) : Int) := by
        have a : (56 + r 15).toInt = 56 + (r 15).toInt := by rw [i_add (by rw [← e15]; omega) (by rw [← e15]; omega), e56]
        rw [i_sub (by rw [a, ← e15]; omega) (by rw [a, ← e15]; omega), a, ← e15, e10]
        omega
      have vq : ∀ j : Nat, j < 4 → C.2 4 (q + j) = r (56 + q + j) := fun j hj => by
        have := c0.2.2.2.1 (q + j) (by omega)
        rw [this, Nat.add_assoc]
      have k1 := MID_f (q := 0) (v := fv (C.2 4 (q + 0))) h (by omega) (fv_fin _)
      have k2 := MID_f (q := 1) (v := fv (C.2 4 (q + 1))) k1 (by omega) (fv_fin _)
      have k3 := MID_f (q := 2) (v := fv (C.2 4 (q + 2))) k2 (by omega) (fv_fin _)
      have k4 := MID_f (q := 3) (v := fv (C.2 4 (q + 3))) k3 (by omega) (fv_fin _)
      obtain ⟨K', J', C', M', r', w1, w2, w3, h1, hK, hC⟩ := ret_tail (f := 1) (y := 0) k4 hT isB1 isB0 hm hpl hp h6 (fun _ => h10) ⟨fun z => absurd z (by decide), fun z => absurd z g3⟩
      refine ⟨K', S, A, J', C', M', r', fun Q hQ => ?_, fun Q hQ => ?_, h1, rP_run hK⟩
      · unfold wp_X3_takeBack
        refine popFrame_class h6 hsp.2 ⟨fun z => absurd z g, fun _ => ⟨fun z => absurd z k, fun _ => ?_⟩⟩
        unfold wp_X1_takeSingles
        refine sing_class (n := 1999) (k := 0) (p := q) (by omega) (by rw [s10]; exact hq) (by omega) ?_
        refine sing_class (n := 1998) (k := 1) (p := q) (by omega) (by rw [s10]; exact hq) (by omega) ?_
        refine sing_class (n := 1997) (k := 2) (p := q) (by omega) (by rw [s10]; exact hq) (by omega) ?_
        refine sing_class (n := 1996) (k := 3) (p := q) (by omega) (by rw [s10]; exact hq) (by omega) ?_
        show wp_X1_takeSingles_L2 _ (1995 + 1) _ _ _
        unfold wp_X1_takeSingles_L2
        refine ⟨fun _ => w1 _ ⟨fun _ => w2 _ hQ, fun z => absurd rfl z⟩, fun z => absurd (by decide) z⟩
      · unfold wp_X8_returns
        intro x1 f1
        have f1 : x1 = 56 + r 15 := f1
        subst f1
        rw [e15] at o1 v1
        refine ⟨o1, fun x2 f2 => ?_⟩
        have f2 : x2 = mk C - 23040 := by rw [f2]; show r _ - _ = _; rw [v1, ← e15]; rfl
        subst f2
        refine ⟨fun z => absurd h32 z, fun _ => ?_⟩
        refine sing_model (n := 1999) (k := 0) (p := 56 + q) (by omega) t10 (by omega) ?_
        refine sing_model (n := 1998) (k := 1) (p := 56 + q) (by omega) t10 (by omega) ?_
        refine sing_model (n := 1997) (k := 2) (p := 56 + q) (by omega) t10 (by omega) ?_
        refine sing_model (n := 1996) (k := 3) (p := 56 + q) (by omega) t10 (by omega) ?_
        rw [up_ne (show ¬ 56 + q + 1 = 8 + 0 by omega), up_ne (show ¬ 56 + q + 2 = 8 + 1 by omega), up_ne (show ¬ 56 + q + 2 = 8 + 0 by omega), up_ne (show ¬ 56 + q + 3 = 8 + 2 by omega), up_ne (show ¬ 56 + q + 3 = 8 + 1 by omega), up_ne (show ¬ 56 + q + 3 = 8 + 0 by omega), ← vq 0 (by omega), ← vq 1 (by omega), ← vq 2 (by omega), ← vq 3 (by omega)]
        show wp_X8_returns_L30 _ _ (1995 + 1) _ _ _ _
        unfold wp_X8_returns_L30
        refine ⟨fun _ => ⟨fun z => absurd z g3, fun _ T16 f16 => ?_⟩, fun z => absurd (by decide) z⟩
        subst f16
        exact w3 _ hQ
