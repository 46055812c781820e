/-! LAYER 2: an instruction; the phase RUN -/
theorem gov_id {Q : Mac → Prop} {u : Mac} {op x y : Int32} (n14 : ¬ op = 14) (n15 : ¬ op = 15) (n16 : ¬ op = 16) (n17 : ¬ op = 17) (n19 : ¬ op = 19) (n25 : ¬ op = 25) (n27 : ¬ op = 27) (h : Q u) : wp_X3_govern u op x y Q := by
  unfold wp_X3_govern
  exact ⟨fun z => absurd z n14, fun z => absurd z n15, fun z => absurd z n16, fun z => absurd z n17, fun z => absurd z n19, fun z => absurd z n25, fun z => absurd z n27, fun _ _ _ _ _ _ _ => h⟩
theorem exec_pair {W : Ob} {nw : Bool} {N T : Int} {K B r : Nat → Int32} {S A J C M : Ob} {op x y : Int32} (h : MID W nw N T K S A J C B M r) (hK : K 5 = 0) (hn : noF S C op x y) (x0 : 0 ≤ x.toInt) (x1 : x.toInt < 256) (y0 : 0 ≤ y.toInt) (y1 : y.toInt < 256) (hT : T < 2000000000) : PAIR W nw N (T + 1) B (fun Q => wp_X3_running_L91 Q op x y (-1) (K, S, A, J, C, B)) (fun Q => mTail nw Q op x y (0 + (x &&& 7)) (0 + (y &&& 7)) (cntM M 10) (nxR r op)) := by
  obtain ⟨q1, q29, f5, f9, f10, f18, f25, f26, f21, f22⟩ := hn
  have h2 := MID_nx (op := op) (MID_cnt (s := 13) (t := 10) h (by omega)) q1 q29
  by_cases z1 : op = 1
  · subst z1
    obtain ⟨C', M', r', g1, g2, g3⟩ := op_1 x y h2
    exact ⟨_, _, _, _, _, _, _, fun Q hQ => cl_low (by decide) (by decide) (by decide) (g1 _ hQ), fun Q hQ => g2 Q hQ, MID_mono g3 (Int.le_refl _) (by omega), rP_run hK⟩
  by_cases z2 : op = 2
  · subst z2
    obtain ⟨C', M', r', g1, g2, g3⟩ := op_2 x y h2
    exact ⟨_, _, _, _, _, _, _, fun Q hQ => cl_low (by decide) (by decide) (by decide) (g1 _ hQ), fun Q hQ => g2 Q hQ, MID_mono g3 (Int.le_refl _) (by omega), rP_run hK⟩
  by_cases z3 : op = 3
  · subst z3
    obtain ⟨C', M', r', g1, g2, g3⟩ := op_3 x y h2
    exact ⟨_, _, _, _, _, _, _, fun Q hQ => cl_low (by decide) (by decide) (by decide) (g1 _ hQ), fun Q hQ => g2 Q hQ, MID_mono g3 (Int.le_refl _) (by omega), rP_run hK⟩
  by_cases z4 : op = 4
  · subst z4
    obtain ⟨C', M', r', g1, g2, g3⟩ := op_4 x y h2
    exact ⟨_, _, _, _, _, _, _, fun Q hQ => cl_low (by decide) (by decide) (by decide) (g1 _ hQ), fun Q hQ => g2 Q hQ, MID_mono g3 (Int.le_refl _) (by omega), rP_run hK⟩
  by_cases z5 : op = 5
  · subst z5
    obtain ⟨C', M', r', g1, g2, g3⟩ := op_5 x y h2 (f5 rfl)
    exact ⟨_, _, _, _, _, _, _, fun Q hQ => cl_low (by decide) (by decide) (by decide) (g1 _ hQ), fun Q hQ => g2 Q hQ, MID_mono g3 (Int.le_refl _) (by omega), rP_run hK⟩
  by_cases z6 : op = 6
  · subst z6
    obtain ⟨C', M', r', g1, g2, g3⟩ := op_6 x y h2
    exact ⟨_, _, _, _, _, _, _, fun Q hQ => cl_low (by decide) (by decide) (by decide) (g1 _ hQ), fun Q hQ => g2 Q hQ, MID_mono g3 (Int.le_refl _) (by omega), rP_run hK⟩
  by_cases z7 : op = 7
  · subst z7
    obtain ⟨C', M', r', g1, g2, g3⟩ := op_7 x y h2 y0 y1
    exact ⟨_, _, _, _, _, _, _, fun Q hQ => cl_low (by decide) (by decide) (by decide) (g1 _ hQ), fun Q hQ => g2 Q hQ, MID_mono g3 (Int.le_refl _) (by omega), rP_run hK⟩
  by_cases z8 : op = 8
  · subst z8
    obtain ⟨C', M', r', g1, g2, g3⟩ := op_8 x y h2
    exact ⟨_, _, _, _, _, _, _, fun Q hQ => cl_low (by decide) (by decide) (by decide) (g1 _ hQ), fun Q hQ => g2 Q hQ, MID_mono g3 (Int.le_refl _) (by omega), rP_run hK⟩
  by_cases z9 : op = 9
  · subst z9
    obtain ⟨C', M', r', g1, g2, g3⟩ := op_9 x y h2 (f9 rfl)
    exact ⟨_, _, _, _, _, _, _, fun Q hQ => cl_mv (by decide) (by decide) (by decide) (by decide) (g1 _ (gov_id (by decide) (by decide) (by decide) (by decide) (by decide) (by decide) (by decide) hQ)), fun Q hQ => g2 Q hQ, MID_mono g3 (Int.le_refl _) (by omega), rP_run hK⟩
  by_cases z10 : op = 10
  · subst z10
    obtain ⟨C', M', r', g1, g2, g3⟩ := op_10 x y h2 (f10 rfl)
    exact ⟨_, _, _, _, _, _, _, fun Q hQ => cl_mv (by decide) (by decide) (by decide) (by decide) (g1 _ (gov_id (by decide) (by decide) (by decide) (by decide) (by decide) (by decide) (by decide) hQ)), fun Q hQ => g2 Q hQ, MID_mono g3 (Int.le_refl _) (by omega), rP_run hK⟩
  by_cases z11 : op = 11
  · subst z11
    obtain ⟨C', M', r', g1, g2, g3⟩ := op_11 x y h2 x0 x1 y0 y1
    exact ⟨_, _, _, _, _, _, _, fun Q hQ => cl_mv (by decide) (by decide) (by decide) (by decide) (g1 _ (gov_id (by decide) (by decide) (by decide) (by decide) (by decide) (by decide) (by decide) hQ)), fun Q hQ => g2 Q hQ, MID_mono g3 (Int.le_refl _) (by omega), rP_run hK⟩
  by_cases z12 : op = 12
  · subst z12
    obtain ⟨C', M', r', g1, g2, g3⟩ := op_12 x y h2 x0 x1 y0 y1
    exact ⟨_, _, _, _, _, _, _, fun Q hQ => cl_mv (by decide) (by decide) (by decide) (by decide) (g1 _ (gov_id (by decide) (by decide) (by decide) (by decide) (by decide) (by decide) (by decide) hQ)), fun Q hQ => g2 Q hQ, MID_mono g3 (Int.le_refl _) (by omega), rP_run hK⟩
  by_cases z13 : op = 13
  · subst z13
    obtain ⟨C', M', r', g1, g2, g3⟩ := op_13 x y h2 x0 x1 y0 y1
    exact ⟨_, _, _, _, _, _, _, fun Q hQ => cl_mv (by decide) (by decide) (by decide) (by decide) (g1 _ (gov_id (by decide) (by decide) (by decide) (by decide) (by decide) (by decide) (by decide) hQ)), fun Q hQ => g2 Q hQ, MID_mono g3 (Int.le_refl _) (by omega), rP_run hK⟩
  by_cases z14 : op = 14
  · subst z14
    obtain ⟨S', C', M', r', g1, g2, g3⟩ := op_14 x y h2 x0
    exact ⟨_, _, _, _, _, _, _, fun Q hQ => cl_mv (by decide) (by decide) (by decide) (by decide) (g1 J _ hQ), fun Q hQ => g2 Q hQ, MID_mono g3 (Int.le_refl _) (by omega), rP_run hK⟩
  by_cases z15 : op = 15
  · subst z15
    obtain ⟨S', C', M', r', g1, g2, g3⟩ := op_15 x y h2 x0
    exact ⟨_, _, _, _, _, _, _, fun Q hQ => cl_mv (by decide) (by decide) (by decide) (by decide) (g1 J _ hQ), fun Q hQ => g2 Q hQ, MID_mono g3 (Int.le_refl _) (by omega), rP_run hK⟩
  by_cases z16 : op = 16
  · subst z16
    obtain ⟨S', C', M', r', g1, g2, g3⟩ := op_16 x y h2
    exact ⟨_, _, _, _, _, _, _, fun Q hQ => cl_mv (by decide) (by decide) (by decide) (by decide) (g1 J _ hQ), fun Q hQ => g2 Q hQ, MID_mono g3 (Int.le_refl _) (by omega), rP_run hK⟩
  by_cases z17 : op = 17
  · subst z17
    obtain ⟨S', C', M', r', g1, g2, g3⟩ := op_17 x y h2
    exact ⟨_, _, _, _, _, _, _, fun Q hQ => cl_mv (by decide) (by decide) (by decide) (by decide) (g1 J _ hQ), fun Q hQ => g2 Q hQ, MID_mono g3 (Int.le_refl _) (by omega), rP_run hK⟩
  by_cases z18 : op = 18
  · subst z18
    exact PAIR_w (op_18 x y h2 (f18 rfl) hT) (Int.le_refl _) (fun Q hQ => cl_18 hQ) (fun Q hQ => hQ)
  by_cases z19 : op = 19
  · subst z19
    obtain ⟨S', C', M', r', g1, g2, g3⟩ := op_19 x y h2
    exact ⟨_, _, _, _, _, _, _, fun Q hQ => cl_mv (by decide) (by decide) (by decide) (by decide) (g1 J _ hQ), fun Q hQ => g2 Q hQ, MID_mono g3 (Int.le_refl _) (by omega), rP_run hK⟩
  by_cases z20 : op = 20
  · subst z20
    obtain ⟨C', M', r', g1, g2, g3⟩ := op_20 x y h2 y0 y1
    exact ⟨_, _, _, _, _, _, _, fun Q hQ => cl_sing (by decide) (by decide) (g1 _ hQ), fun Q hQ => g2 Q hQ, MID_mono g3 (Int.le_refl _) (by omega), rP_run hK⟩
  by_cases z21 : op = 21
  · subst z21
    obtain ⟨C', M', r', g1, g2, g3⟩ := op_21 x y h2 (f21 rfl)
    exact ⟨_, _, _, _, _, _, _, fun Q hQ => cl_sing (by decide) (by decide) (g1 _ hQ), fun Q hQ => g2 Q hQ, MID_mono g3 (Int.le_refl _) (by omega), rP_run hK⟩
  by_cases z22 : op = 22
  · subst z22
    obtain ⟨C', M', r', g1, g2, g3⟩ := op_22 x y h2 (f22 rfl)
    exact ⟨_, _, _, _, _, _, _, fun Q hQ => cl_sing (by decide) (by decide) (g1 _ hQ), fun Q hQ => g2 Q hQ, MID_mono g3 (Int.le_refl _) (by omega), rP_run hK⟩
  by_cases z23 : op = 23
  · subst z23
    obtain ⟨C', M', r', g1, g2, g3⟩ := op_23 x y h2
    exact ⟨_, _, _, _, _, _, _, fun Q hQ => cl_sing (by decide) (by decide) (g1 _ hQ), fun Q hQ => g2 Q hQ, MID_mono g3 (Int.le_refl _) (by omega), rP_run hK⟩
  by_cases z24 : op = 24
  · subst z24
    obtain ⟨C', M', r', g1, g2, g3⟩ := op_24 x y h2
    exact ⟨_, _, _, _, _, _, _, fun Q hQ => cl_sing (by decide) (by decide) (g1 _ hQ), fun Q hQ => g2 Q hQ, MID_mono g3 (Int.le_refl _) (by omega), rP_run hK⟩
  by_cases z25 : op = 25
  · subst z25
    obtain ⟨S', C', M', r', g1, g2, g3⟩ := op_25 x y h2 x0 (f25 rfl)
    exact ⟨_, _, _, _, _, _, _, fun Q hQ => cl_mv (by decide) (by decide) (by decide) (by decide) (g1 J _ hQ), fun Q hQ => g2 Q hQ, MID_mono g3 (Int.le_refl _) (by omega), rP_run hK⟩
  by_cases z26 : op = 26
  · subst z26
    obtain ⟨C', M', r', g1, g2, g3⟩ := op_26 x y h2 (f26 rfl)
    exact ⟨_, _, _, _, _, _, _, fun Q hQ => cl_mv (by decide) (by decide) (by decide) (by decide) (g1 _ (gov_id (by decide) (by decide) (by decide) (by decide) (by decide) (by decide) (by decide) hQ)), fun Q hQ => g2 Q hQ, MID_mono g3 (Int.le_refl _) (by omega), rP_run hK⟩
  by_cases z27 : op = 27
  · subst z27
    obtain ⟨J', M', g1, g2, g3⟩ := op_27 x y h2 hT
    exact ⟨_, _, _, _, _, _, _, fun Q hQ => cl_mv (by decide) (by decide) (by decide) (by decide) (g1 Q hQ), fun Q hQ => g2 Q hQ, g3, rP_run hK⟩
  by_cases z28 : op = 28
  · subst z28
    obtain ⟨C', M', r', g1, g2, g3⟩ := op_28 x y h2
    exact ⟨_, _, _, _, _, _, _, fun Q hQ => cl_mv (by decide) (by decide) (by decide) (by decide) (g1 _ (gov_id (by decide) (by decide) (by decide) (by decide) (by decide) (by decide) (by decide) hQ)), fun Q hQ => g2 Q hQ, MID_mono g3 (Int.le_refl _) (by omega), rP_run hK⟩
  by_cases z29 : op = 29
  · subst z29
    obtain ⟨C', M', r', g1, g2, g3⟩ := op_29 x y h2
    exact ⟨_, _, _, _, _, _, _, fun Q hQ => cl_mv (by decide) (by decide) (by decide) (by decide) (g1 _ (gov_id (by decide) (by decide) (by decide) (by decide) (by decide) (by decide) (by decide) hQ)), fun Q hQ => g2 Q hQ, MID_mono g3 (Int.le_refl _) (by omega), rP_run hK⟩
  exfalso
  have w1 : ¬ op.toInt = 1 := fun z => z1 (i_eq.mpr z)
  have w2 : ¬ op.toInt = 2 := fun z => z2 (i_eq.mpr z)
  have w3 : ¬ op.toInt = 3 := fun z => z3 (i_eq.mpr z)
  have w4 : ¬ op.toInt = 4 := fun z => z4 (i_eq.mpr z)
  have w5 : ¬ op.toInt = 5 := fun z => z5 (i_eq.mpr z)
  have w6 : ¬ op.toInt = 6 := fun z => z6 (i_eq.mpr z)
  have w7 : ¬ op.toInt = 7 := fun z => z7 (i_eq.mpr z)
  have w8 : ¬ op.toInt = 8 := fun z => z8 (i_eq.mpr z)
  have w9 : ¬ op.toInt = 9 := fun z => z9 (i_eq.mpr z)
  have w10 : ¬ op.toInt = 10 := fun z => z10 (i_eq.mpr z)
  have w11 : ¬ op.toInt = 11 := fun z => z11 (i_eq.mpr z)
  have w12 : ¬ op.toInt = 12 := fun z => z12 (i_eq.mpr z)
  have w13 : ¬ op.toInt = 13 := fun z => z13 (i_eq.mpr z)
  have w14 : ¬ op.toInt = 14 := fun z => z14 (i_eq.mpr z)
  have w15 : ¬ op.toInt = 15 := fun z => z15 (i_eq.mpr z)
  have w16 : ¬ op.toInt = 16 := fun z => z16 (i_eq.mpr z)
  have w17 : ¬ op.toInt = 17 := fun z => z17 (i_eq.mpr z)
  have w18 : ¬ op.toInt = 18 := fun z => z18 (i_eq.mpr z)
  have w19 : ¬ op.toInt = 19 := fun z => z19 (i_eq.mpr z)
  have w20 : ¬ op.toInt = 20 := fun z => z20 (i_eq.mpr z)
  have w21 : ¬ op.toInt = 21 := fun z => z21 (i_eq.mpr z)
  have w22 : ¬ op.toInt = 22 := fun z => z22 (i_eq.mpr z)
  have w23 : ¬ op.toInt = 23 := fun z => z23 (i_eq.mpr z)
  have w24 : ¬ op.toInt = 24 := fun z => z24 (i_eq.mpr z)
  have w25 : ¬ op.toInt = 25 := fun z => z25 (i_eq.mpr z)
  have w26 : ¬ op.toInt = 26 := fun z => z26 (i_eq.mpr z)
  have w27 : ¬ op.toInt = 27 := fun z => z27 (i_eq.mpr z)
  have w28 : ¬ op.toInt = 28 := fun z => z28 (i_eq.mpr z)
  have w29 : ¬ op.toInt = 29 := fun z => z29 (i_eq.mpr z)
  omega
theorem l72_model {nw : Bool} {M : Ob} {r : Nat → Int32} {op x y f : Int32} {Q : Mod → Prop} (hf : ∀ Q : Int32 → Mod → Prop, Q f (M, r) → wp_X8_faultOf nw (M, r) op x y Q) (h1 : f = -1 → okI op 30 ∧ mTail nw Q op x y (0 + (x &&& 7)) (0 + (y &&& 7)) (cntM M 10) (nxR r op)) (h2 : ¬ f = -1 → wp_X8_raises nw (M, r) f (fun _ u => Q u)) (hb : f = -1 ∨ 0 ≤ f.toInt) : wp_X8_instructs_L72 nw Q (r 12) op x y (M, r) := by
  unfold wp_X8_instructs_L72
  refine hf _ ⟨fun c => ?_, fun c => ?_⟩
  · have e0 : (0 : Int32).toInt = 0 := rfl
    rw [i_lt] at c
    have ef : f = -1 := hb.resolve_right (by omega)
    obtain ⟨ok, h1⟩ := h1 ef
    refine counts_model (okLit (by decide)) ?_
    refine ⟨ok, fun T15 e15 => ⟨ok, fun T17 e17 x18 e18 x19 e19 => ?_⟩⟩
    have e : T17 = nxR r op := by rw [e17, e15]; rfl
    subst e
    subst e18
    subst e19
    exact h1
  · refine h2 (fun z => c (by rw [z]; decide))
theorem raise_run {W : Ob} {nw : Bool} {N T : Int} {K B r : Nat → Int32} {S A J C M : Ob} {f : Int32} (h : MID W nw N T K S A J C B M r) (hK : K 5 = 0) (hf : okI f 21) (hT : T < 2000000000) : PAIR W nw N (T + 1) B (fun Q => wp_X3_raise (K, S, A, J, C, B) f Q) (fun Q => wp_X8_raises nw (M, r) f (fun _ u => Q u)) := by
  obtain ⟨S', J', M', r', w1, w2, h1, -⟩ := raise_pair (f := f) h hf hT
  refine ⟨_, _, _, _, _, _, _, fun Q hQ => w1 _ hQ, fun Q hQ => w2 _ hQ, h1, ?_⟩
  unfold raiK
  by_cases c : takerF S f = -1
  · rw [if_pos c]; exact rP_lock rfl
  · rw [if_neg c]; exact rP_run hK
/-- the bytes at hand, both sides -/
theorem code_at {W : Ob} {nw : Bool} {N T : Int} {K B r : Nat → Int32} {S A J C M : Ob} {k : Int32} (h : MID W nw N T K S A J C B M r) (hk : 0 ≤ k.toInt) (hk2 : k.toInt ≤ 2) : okI ((C.1 5 + k) &&& 511) 512 ∧ ((r 12 + k) - (r 12 + k) / 512 * 512) = (C.1 5 + k) &&& 511 ∧ M.2 0 (Int32.toNatClampNeg ((C.1 5 + k) &&& 511)) = B (Int32.toNatClampNeg ((C.1 5 + k) &&& 511)) ∧ 0 ≤ (B (Int32.toNatClampNeg ((C.1 5 + k) &&& 511))).toInt ∧ (B (Int32.toNatClampNeg ((C.1 5 + k) &&& 511))).toInt < 256 := by
  obtain ⟨c0, cb, -⟩ := h.2.2.2.1
  have pc := cb.1
  have e12 : C.1 5 = r 12 := c0.2.2.2.2.1
  have o := ok_511 (C.1 5 + k)
  have o2 := ok_iff.mp o
  have rb := h.2.2.2.2.1 (Int32.toNatClampNeg ((C.1 5 + k) &&& 511)) (by rw [i_nat]; omega)
  refine ⟨o, ?_, rb.1.symm, rb.2.1, rb.2.2⟩
  rw [← e12]
  exact (idx_eq (by rw [i_add (by omega) (by omega)]; omega)).symm
theorem instr_pair {W : Ob} {nw : Bool} {N T : Int} {K B r : Nat → Int32} {S A J C M : Ob} (h : MID W nw N T K S A J C B M r) (hK : K 5 = 0) (h10 : C.1 10 = 0) (h13 : C.1 13 = 0) (hT : T < 2000000000) : PAIR W nw N (T + 1) B (fun Q => wp_X3_running (K, S, A, J, C, B) Q) (fun Q => wp_X8_instructs_L72 nw Q (r 12) (B (Int32.toNatClampNeg ((C.1 5 + 0) &&& 511))) (B (Int32.toNatClampNeg ((C.1 5 + 1) &&& 511))) (B (Int32.toNatClampNeg ((C.1 5 + 2) &&& 511))) (M, r)) := by
  obtain ⟨k0, -, -, op0, op1⟩ := code_at (k := 0) h (by decide) (by decide)
  obtain ⟨k1, -, -, x0, x1⟩ := code_at (k := 1) h (by decide) (by decide)
  obtain ⟨k2, -, -, y0, y1⟩ := code_at (k := 2) h (by decide) (by decide)
  have b13 : isB (C.1 13) := by rw [h13]; exact isB0
  have hcl : ∀ Q : Mac → Prop, cFl Q K B S A J C (B (Int32.toNatClampNeg ((C.1 5 + 0) &&& 511))) (B (Int32.toNatClampNeg ((C.1 5 + 1) &&& 511))) (B (Int32.toNatClampNeg ((C.1 5 + 2) &&& 511))) → wp_X3_running (K, S, A, J, C, B) Q := by
    intro Q hQ
    unfold wp_X3_running wp_X1_passes wp_X1_byteBehind
    refine ⟨fun _ => ⟨b13, fun _ => ⟨k0, k1, k2, hQ⟩, fun z => absurd h13 z⟩, fun z => absurd (by show C.1 10 ≤ 0; rw [h10]; decide) z⟩
  generalize B (Int32.toNatClampNeg ((C.1 5 + 0) &&& 511)) = op at *
  generalize B (Int32.toNatClampNeg ((C.1 5 + 1) &&& 511)) = x at *
  generalize B (Int32.toNatClampNeg ((C.1 5 + 2) &&& 511)) = y at *
  obtain ⟨f, fr, fc, fm, fn⟩ := fault_pair (x := x) (y := y) h op0 x0
  have fb : f = -1 ∨ 0 ≤ f.toInt := by
    rcases fr with e | e | e
    · exact Or.inl e
    · exact Or.inr (by rw [e]; decide)
    · exact Or.inr (by rw [e]; decide)
  by_cases c : f = -1
  · have hn := fn c
    refine PAIR_w (exec_pair h hK hn x0 x1 y0 y1 hT) (Int.le_refl _) (fun Q hQ => hcl Q (fc Q (by rw [c]; exact hQ))) (fun Q hQ => l72_model fm (fun _ => ⟨(op_k hn.1 hn.2.1).1, hQ⟩) (fun z => absurd c z) fb)
  · have hf : okI f 21 := by
      rcases fr with e | e | e
      · exact absurd e c
      · rw [e]; exact okLit (by decide)
      · rw [e]; exact okLit (by decide)
    refine PAIR_w (raise_run h hK hf hT) (Int.le_refl _) (fun Q hQ => hcl Q (fc Q ?_)) (fun Q hQ => l72_model fm (fun z => absurd z c) (fun _ => hQ) fb)
    unfold wp_X3_running_L91
    exact ⟨fun z => absurd z c, fun _ => hQ⟩
/-- awake: an instruction, or singles that must be saved first -/
theorem awake_pair {W : Ob} {nw : Bool} {N T : Int} {K B r : Nat → Int32} {S A J C M : Ob} (h : MID W nw N T K S A J C B M r) (hK : K 5 = 0) (h10 : C.1 10 = 0) (h13 : C.1 13 = 0) (hT : T < 2000000000) : PAIR W nw N (T + 1) B (fun Q => wp_X1_mustSave (C, B) (fun r7 u6 => ((r7 = 0 → swc Q (K, S, A, J, u6.1, u6.2)) ∧ (¬ r7 = 0 → wp_X3_enter (K, S, A, J, u6.1, u6.2) 4 (fun u9 => swc Q u9))))) (fun Q => wp_X8_instructs nw (M, r) Q) := by
  obtain ⟨c0, cb, -⟩ := h.2.2.2.1
  have e12 : C.1 5 = r 12 := c0.2.2.2.2.1
  have e19 : C.1 11 = r 19 := c0.2.2.2.2.2.2.2.2.2.1
  have hlz := cb.2.2.2.2.2.1
  have l0 : (0 : Int32).toInt = 0 := rfl
  have lm : (-1 : Int32).toInt = -1 := rfl
  obtain ⟨k0, i0, v0, op0, op1⟩ := code_at (k := 0) h (by decide) (by decide)
  obtain ⟨k1, i1, v1, x0, x1⟩ := code_at (k := 1) h (by decide) (by decide)
  obtain ⟨k2, i2, v2, y0, y1⟩ := code_at (k := 2) h (by decide) (by decide)
  have p0 : (C.1 5 + 0) &&& 511 = C.1 5 := by
    rw [Int32.add_zero, i_eq, mask_511]
    have := cb.1
    omega
  have pk : okI (r 12) 512 := by rw [← e12]; exact ok_iff.mpr cb.1
  -- the reference's head
  have hmo : ∀ Q : Mod → Prop, ((B (Int32.toNatClampNeg ((C.1 5 + 0) &&& 511)) < 20 → wp_X8_instructs_L72 nw Q (r 12) (B (Int32.toNatClampNeg ((C.1 5 + 0) &&& 511))) (B (Int32.toNatClampNeg ((C.1 5 + 1) &&& 511))) (B (Int32.toNatClampNeg ((C.1 5 + 2) &&& 511))) (M, r)) ∧ (¬ B (Int32.toNatClampNeg ((C.1 5 + 0) &&& 511)) < 20 → ((24 < B (Int32.toNatClampNeg ((C.1 5 + 0) &&& 511)) → wp_X8_instructs_L72 nw Q (r 12) (B (Int32.toNatClampNeg ((C.1 5 + 0) &&& 511))) (B (Int32.toNatClampNeg ((C.1 5 + 1) &&& 511))) (B (Int32.toNatClampNeg ((C.1 5 + 2) &&& 511))) (M, r)) ∧ (¬ 24 < B (Int32.toNatClampNeg ((C.1 5 + 0) &&& 511)) → ((r 19 < 0 → wp_X8_instructs_L72 nw Q (r 12) (B (Int32.toNatClampNeg ((C.1 5 + 0) &&& 511))) (B (Int32.toNatClampNeg ((C.1 5 + 1) &&& 511))) (B (Int32.toNatClampNeg ((C.1 5 + 2) &&& 511))) (M, r)) ∧ (¬ r 19 < 0 → wp_X8_turns nw (M, r) 4 0 (fun u8 => wp_X8_saves nw u8 (fun u9 => Q u9)))))))) → wp_X8_instructs nw (M, r) Q := by
    intro Q hQ
    unfold wp_X8_instructs
    intro q1 f1
    have f1 : q1 = r 12 := f1
    subst f1
    refine ⟨pk, fun q2 f2 => ⟨by rw [i1]; exact k1, fun q3 f3 => ⟨by rw [i2]; exact k2, fun q4 f4 => ?_⟩⟩⟩
    have f2 : q2 = B (Int32.toNatClampNeg ((C.1 5 + 0) &&& 511)) := by rw [f2, ← v0, p0, e12]
    have f3 : q3 = B (Int32.toNatClampNeg ((C.1 5 + 1) &&& 511)) := by rw [f3, ← v1, i1]
    have f4 : q4 = B (Int32.toNatClampNeg ((C.1 5 + 2) &&& 511)) := by rw [f4, ← v2, i2]
    subst f2
    subst f3
    subst f4
    exact hQ
  have hin := instr_pair h hK h10 h13 hT
  by_cases c : C.1 11 = -1
  · have cm : r 19 < 0 := by rw [← e19, c]; decide
    refine PAIR_w hin (Int.le_refl _) (fun Q hQ => ?_) (fun Q hQ => hmo Q ⟨fun _ => hQ, fun _ => ⟨fun _ => hQ, fun _ => ⟨fun _ => hQ, fun z => absurd cm z⟩⟩⟩)
    unfold wp_X1_mustSave
    exact ⟨fun _ => ⟨fun _ => swc_0 hK hQ, fun z => absurd rfl z⟩, fun z => absurd c z⟩
  · have hl0 : 0 ≤ (C.1 11).toInt := by
      have : ¬ (C.1 11).toInt = -1 := fun z => c (i_eq.mpr z)
      omega
    have cm : ¬ r 19 < 0 := by rw [← e19, i_lt]; omega
    by_cases a20 : B (Int32.toNatClampNeg ((C.1 5 + 0) &&& 511)) < 20
    · refine PAIR_w hin (Int.le_refl _) (fun Q hQ => ?_) (fun Q hQ => hmo Q ⟨fun _ => hQ, fun z => absurd a20 z⟩)
      unfold wp_X1_mustSave wp_X1_byteBehind wp_X4_isFor
      exact ⟨fun z => absurd z c, fun _ => ⟨k0, fun _ => ⟨fun _ => ⟨fun _ => swc_0 hK hQ, fun z => absurd rfl z⟩, fun z => absurd rfl z⟩, fun z => absurd a20 z⟩⟩
    · by_cases a24 : 24 < B (Int32.toNatClampNeg ((C.1 5 + 0) &&& 511))
      · refine PAIR_w hin (Int.le_refl _) (fun Q hQ => ?_) (fun Q hQ => hmo Q ⟨fun z => absurd z a20, fun _ => ⟨fun _ => hQ, fun z => absurd a24 z⟩⟩)
        unfold wp_X1_mustSave wp_X1_byteBehind wp_X4_isFor
        exact ⟨fun z => absurd z c, fun _ => ⟨k0, fun z => absurd z a20, fun _ => ⟨fun _ => ⟨fun _ => ⟨fun _ => swc_0 hK hQ, fun z => absurd rfl z⟩, fun z => absurd rfl z⟩, fun z => absurd a24 z⟩⟩⟩
      · have h1 := MID_turn (p := 4) (q := 0) h
        refine PAIR_w (save_pair h1 rfl (show 0 ≤ (0 : Int32).toInt ∧ (0 : Int32).toInt < 4 by decide) hl0) (by omega) (fun Q hQ => ?_) (fun Q hQ => hmo Q ⟨fun z => absurd z a20, fun _ => ⟨fun z => absurd z a24, fun _ => ⟨fun z => absurd z cm, fun _ => turns_model hQ⟩⟩⟩)
        unfold wp_X1_mustSave wp_X1_byteBehind wp_X4_isFor
        exact ⟨fun z => absurd z c, fun _ => ⟨k0, fun z => absurd z a20, fun _ => ⟨fun z => absurd z a24, fun _ => ⟨fun z => absurd z (by decide), fun _ => ⟨fun z => absurd z (by decide), fun _ => enter_class (swc_4 rfl hQ)⟩⟩⟩⟩⟩
theorem runs_pair {W : Ob} {nw : Bool} {N T : Int} {K B r : Nat → Int32} {S A J C M : Ob} (h : MID W nw N T K S A J C B M r) (hK : K 5 = 0) (hT : T < 1999999990) : PAIR W nw N (T + 3) B (fun Q => wp_X3_turn (K, S, A, J, C, B) (swc Q)) (fun Q => wp_X8_runs nw (M, r) Q) := by
  obtain ⟨c0, cb, -⟩ := h.2.2.2.1
  have e22 : C.1 10 = r 22 := c0.2.2.2.2.2.2.2.2.2.2.1
  have e23 : C.1 13 = r 23 := c0.2.2.2.2.2.2.2.2.2.2.2
  have hst := cb.2.2.2.2.2.2.1
  have b13 := cb.2.2.2.2.2.2.2.1
  have l0 : (0 : Int32).toInt = 0 := rfl
  have l1 : (1 : Int32).toInt = 1 := rfl
  have n3 : ¬ K 5 = 3 := by rw [hK]; decide
  by_cases c : C.1 10 = 0
  · have cm : r 22 ≤ 0 := by rw [← e22, c]; decide
    have R := MID_lim h
    have hcl : ∀ Q : Mac → Prop, wp_X3_leaveRun (K, S, A, J, C, B) (fun u9 => swc Q u9) → wp_X3_turn (K, S, A, J, C, B) (swc Q) := by
      intro Q hQ
      unfold wp_X3_turn
      exact ⟨fun z => absurd hK z, fun _ => ⟨fun z => absurd c z, fun _ => hQ⟩⟩
    rcases next_spec (S := S) (sh := S.1 14) with hn | hn
    · -- nobody breaks in
      by_cases a : C.1 13 = 0
      · have am : ¬ r 23 = 1 := by rw [← e23, a]; decide
        have er : upd r 23 0 = r := by
          have := up_same r 23
          rw [← e23, a] at this
          exact this
        refine PAIR_w (awake_pair h hK c a (by omega)) (by omega) (fun Q hQ => hcl Q ?_) (fun Q hQ => ?_)
        · unfold wp_X3_leaveRun
          refine next_own_class R ?_
          exact ⟨fun _ => ⟨fun _ => ⟨fun z => absurd a z, fun _ => hQ⟩, fun z => absurd a z⟩, fun z => absurd hn z⟩
        · unfold wp_X8_runs
          refine ⟨fun _ => next_own_model (MID_tak h) ?_, fun z => absurd cm z⟩
          rw [hn]
          refine ⟨fun _ => ⟨fun _ T6 e6 => ?_, fun z => absurd z am⟩, fun z => absurd (by decide) z⟩
          have e6 : T6 = r := by rw [e6]; exact er
          subst e6
          exact hQ
      · have a1 := isB_ne b13 a
        have am : r 23 = 1 := by rw [← e23]; exact a1
        rcases next_spec (S := S) (sh := 0) with hm | hm
        · refine ⟨_, _, _, _, _, _, _, fun Q hQ => hcl Q ?_, fun Q hQ => ?_, MID_mono h (Int.le_refl _) (by omega), rP_run hK⟩
          · unfold wp_X3_leaveRun
            refine next_own_class R ?_
            refine ⟨fun _ => ⟨fun z => absurd z a, fun _ => next_class (fun k hk => (R.2.1 k hk).2) R.1.2.1 R.1.2.2 ?_⟩, fun z => absurd hn z⟩
            rw [hm]
            refine ⟨fun _ => ⟨fun _ => swc_0 hK ?_, fun z => absurd z a⟩, fun z => absurd rfl z⟩
            unfold wp_X3_running wp_X1_passes
            refine ⟨fun _ => ⟨b13, fun z => absurd z a, fun _ => hQ⟩, fun z => absurd (by show C.1 10 ≤ 0; rw [c]; decide) z⟩
          · unfold wp_X8_runs
            refine ⟨fun _ => next_own_model (MID_tak h) ?_, fun z => absurd cm z⟩
            rw [hn]
            refine ⟨fun _ => ⟨fun z => absurd am z, fun _ => next_model (MID_tak h).1 (shut := 0) ⟨fun z => absurd z (by decide), fun z => absurd rfl z⟩ ?_⟩, fun z => absurd (by decide) z⟩
            rw [hm]
            exact ⟨fun z => absurd z (by decide), fun _ => hQ⟩
        · have hne : ¬ nextF S 0 = -1 := fun e => by have := ok_iff.mp hm.1; rw [e] at this; exact absurd this.1 (by decide)
          have hge : 0 ≤ nextF S 0 := by have := ok_iff.mp hm.1; rw [i_le]; omega
          have h1 := MID_i (s := 13) (i := 23) (v := 0) h (by unfold pairC; omega) ⟨cb.1, cb.2.1, cb.2.2.1, cb.2.2.2.1, cb.2.2.2.2.1, cb.2.2.2.2.2.1, cb.2.2.2.2.2.2.1, isB0, cb.2.2.2.2.2.2.2.2⟩
          refine PAIR_w (awake_pair h1 hK c rfl (by omega)) (by omega) (fun Q hQ => hcl Q ?_) (fun Q hQ => ?_)
          · unfold wp_X3_leaveRun
            refine next_own_class R ?_
            refine ⟨fun _ => ⟨fun z => absurd z a, fun _ => next_class (fun k hk => (R.2.1 k hk).2) R.1.2.1 R.1.2.2 ?_⟩, fun z => absurd hn z⟩
            refine ⟨fun z => absurd z hne, fun _ T18 e18 => ?_⟩
            subst e18
            exact ⟨fun z => absurd rfl z, fun _ => hQ⟩
          · unfold wp_X8_runs
            refine ⟨fun _ => next_own_model (MID_tak h) ?_, fun z => absurd cm z⟩
            rw [hn]
            refine ⟨fun _ => ⟨fun z => absurd am z, fun _ => next_model (MID_tak h).1 (shut := 0) ⟨fun z => absurd z (by decide), fun z => absurd rfl z⟩ ?_⟩, fun z => absurd (by decide) z⟩
            refine ⟨fun _ T11 e11 => ?_, fun z => absurd hge z⟩
            subst e11
            exact hQ
    · have hne : ¬ nextF S (S.1 14) = -1 := fun e => by have := ok_iff.mp hn.1; rw [e] at this; exact absurd this.1 (by decide)
      have hge : ¬ nextF S (S.1 14) < 0 := fun d => by have := ok_iff.mp hn.1; rw [i_lt] at d; omega
      have h1 := MID_i (s := 13) (i := 23) (v := 0) (MID_r (i := 24) (v := nextF S (S.1 14)) h (by omega)) (by unfold pairC; omega) ⟨cb.1, cb.2.1, cb.2.2.1, cb.2.2.2.1, cb.2.2.2.2.1, cb.2.2.2.2.2.1, cb.2.2.2.2.2.2.1, isB0, cb.2.2.2.2.2.2.2.2⟩
      have h2 := MID_r (i := 29) (v := 0) (MID_r (i := 28) (v := 0) h1 (by omega)) (by omega)
      have h3 := MID_k10 (v := 0) (MID_k9 (v := 0) (MID_k8 (v := nextF S (S.1 14)) h2) isB0) isB0
      have h4 := MID_turn (p := 1) (q := 0) h3
      refine PAIR_w (stack_pair h4 ⟨rfl, ⟨rfl, hn.1, rfl, rfl⟩, rfl, (show 0 ≤ (0 : Int32).toInt by decide), (show (0 : Int32).toInt < 6 by decide)⟩ (fun _ => ⟨rfl, rfl⟩) (by omega)) (by omega) (fun Q hQ => hcl Q ?_) (fun Q hQ => ?_)
      · unfold wp_X3_leaveRun
        refine next_own_class R ?_
        refine ⟨fun z => absurd z hne, fun _ T24 e24 T25 e25 T26 e26 T27 e27 => ?_⟩
        subst e24
        subst e25
        subst e26
        subst e27
        refine enter_class ?_
        exact swc_1 rfl hQ
      · unfold wp_X8_runs
        refine ⟨fun _ => next_own_model (MID_tak h) ?_, fun z => absurd cm z⟩
        refine ⟨fun z => absurd z hge, fun _ T13 e13 T14 e14 T15 e15 T16 e16 => ?_⟩
        subst e13
        subst e14
        subst e15
        subst e16
        exact turns_model hQ
  · have c1 : ¬ (C.1 10).toInt = 0 := fun z => c (i_eq.mpr z)
    have cl : ¬ C.1 10 ≤ 0 := fun z => by rw [i_le] at z; omega
    have cm : ¬ r 22 ≤ 0 := by rw [← e22]; exact cl
    have h1 := MID_i (s := 10) (i := 22) (v := C.1 10 - 1) h (by unfold pairC; omega) ⟨cb.1, cb.2.1, cb.2.2.1, cb.2.2.2.1, cb.2.2.2.2.1, cb.2.2.2.2.2.1, (show 0 ≤ (C.1 10 - 1).toInt ∧ (C.1 10 - 1).toInt ≤ 3 by rw [i_sub (by omega) (by omega)]; omega), cb.2.2.2.2.2.2.2⟩
    refine ⟨_, _, _, _, _, _, _, fun Q hQ => ?_, fun Q hQ => ?_, MID_mono h1 (Int.le_refl _) (by omega), rP_run hK⟩
    · unfold wp_X3_turn
      refine ⟨fun z => absurd hK z, fun _ => ⟨fun _ => ⟨fun _ => swc_0 hK ?_, fun z => absurd z n3⟩, fun z => absurd z c⟩⟩
      unfold wp_X3_running wp_X1_passes
      refine ⟨fun z => absurd z cl, fun _ T2 e2 => ?_⟩
      subst e2
      exact ⟨fun z => absurd z (by decide), fun _ => hQ⟩
    · unfold wp_X8_runs
      refine ⟨fun z => absurd z cm, fun _ T19 e19 => ?_⟩
      rw [e22] at hQ
      subst e19
      exact hQ
