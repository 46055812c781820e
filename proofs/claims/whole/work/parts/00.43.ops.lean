/-! LAYER 2: instructions: dispatch, and those that reckon or move -/
def mTail (nw : Bool) (Q : Mod → Prop) (op x y a b : Int32) (M : Ob) (r : Nat → Int32) : Prop := ((¬ op = 1 → ((8 ≤ op → ((¬ op = 8 → ((14 ≤ op → ((20 ≤ op → ((25 ≤ op → ((¬ op = 25 → ((¬ op = 26 → ((¬ op = 27 → ((¬ op = 28 → okI a 342 ∧ okI (40 + (y &&& 15)) 342 ∧ ∀ T30 : (Nat → Int32), T30 = (upd r (Int32.toNatClampNeg (40 + (y &&& 15))) (r (Int32.toNatClampNeg a))) → Q (M, T30)) ∧ (op = 28 → okI (40 + (y &&& 15)) 342 ∧ okI a 342 ∧ ∀ T31 : (Nat → Int32), T31 = (upd r (Int32.toNatClampNeg a) (r (Int32.toNatClampNeg (40 + (y &&& 15))))) → Q (M, T31)))) ∧ (op = 27 → okI a 342 ∧ wp_X8_tells nw (M, r) (r (Int32.toNatClampNeg a)) (fun u32 => Q u32)))) ∧ (op = 26 → okI ((56 + (r 15)) - 2) 342 ∧ wp_X8_mod () ((r (Int32.toNatClampNeg ((56 + (r 15)) - 2))) + x) 512 (fun r34 u33 => okI ((56 + (r 15)) - 2) 342 ∧ ∀ T35 : (Nat → Int32), T35 = (upd r (Int32.toNatClampNeg ((56 + (r 15)) - 2)) r34) → Q (M, T35))))) ∧ (op = 25 → okI b 342 ∧ wp_X8_mod () (r (Int32.toNatClampNeg b)) 256 (fun r37 u36 => okI (173 + (x - x / 20 * 20)) 342 ∧ ∀ T38 : (Nat → Int32), T38 = (upd r (Int32.toNatClampNeg (173 + (x - x / 20 * 20))) r37) → Q (M, T38))))) ∧ (¬ 25 ≤ op → wp_X8_floats nw (M, r) op (x &&& 3) (y &&& 3) a b y (fun u39 => Q u39)))) ∧ (¬ 20 ≤ op → wp_X8_rules nw (M, r) op x (fun u40 => Q u40)))) ∧ (¬ 14 ≤ op → wp_X8_moves nw (M, r) op a (((256 * x) + y) - ((256 * x) + y) / 512 * 512) (fun u41 => Q u41)))) ∧ (op = 8 → okI b 342 ∧ okI a 342 ∧ ∀ T42 : (Nat → Int32), T42 = (upd r (Int32.toNatClampNeg a) (r (Int32.toNatClampNeg b))) → Q (M, T42)))) ∧ (¬ 8 ≤ op → okI a 342 ∧ okI b 342 ∧ wp_X8_made () op (r (Int32.toNatClampNeg a)) (r (Int32.toNatClampNeg b)) y (fun r44 u43 => wp_X8_comes nw (M, r) (x &&& 7) r44 (fun u45 => Q u45))))) ∧ (op = 1 → okI a 342 ∧ ∀ T46 : (Nat → Int32), T46 = (upd r (Int32.toNatClampNeg a) y) → Q (M, T46)))
def nxC (C : Ob) (op : Int32) : Ob := si (si C 10 (tabC (Int32.toNatClampNeg op) - 1)) 5 ((C.1 5 + tabL (Int32.toNatClampNeg op)) &&& 511)
def nxR (r : Nat → Int32) (op : Int32) : Nat → Int32 := upd (upd r 22 (tabC (Int32.toNatClampNeg op) - 1)) 12 ((r 12 + tabL (Int32.toNatClampNeg op)) - (r 12 + tabL (Int32.toNatClampNeg op)) / 512 * 512)
theorem tab_ok : ∀ k : Nat, k < 30 → 1 ≤ k → (0 ≤ (tabC k - 1).toInt ∧ (tabC k - 1).toInt ≤ 3) ∧ 0 ≤ (tabL k).toInt ∧ (tabL k).toInt ≤ 3 := by decide +kernel
theorem op_k {op : Int32} (h1 : 1 ≤ op.toInt) (h2 : op.toInt ≤ 29) : okI op 30 ∧ Int32.toNatClampNeg op < 30 ∧ 1 ≤ Int32.toNatClampNeg op := ⟨ok_iff.mpr (by omega), by rw [i_nat]; omega, by rw [i_nat]; omega⟩
theorem MID_nx {W : Ob} {nw : Bool} {N T : Int} {K B r : Nat → Int32} {S A J C M : Ob} {op : Int32} (h : MID W nw N T K S A J C B M r) (h1 : 1 ≤ op.toInt) (h2 : op.toInt ≤ 29) : MID W nw N T K S A J (nxC C op) B M (nxR r op) := by
  obtain ⟨-, k1, k2⟩ := op_k h1 h2
  obtain ⟨⟨t1, t2⟩, t3, t4⟩ := tab_ok _ k1 k2
  obtain ⟨c0, cb, -⟩ := h.2.2.2.1
  have e12 : C.1 5 = r 12 := c0.2.2.2.2.1
  have pc := cb.1
  have g1 := MID_i (s := 10) (i := 22) (v := tabC (Int32.toNatClampNeg op) - 1) h (by unfold pairC; omega) ⟨cb.1, cb.2.1, cb.2.2.1, cb.2.2.2.1, cb.2.2.2.2.1, cb.2.2.2.2.2.1, (show 0 ≤ (tabC (Int32.toNatClampNeg op) - 1).toInt ∧ (tabC (Int32.toNatClampNeg op) - 1).toInt ≤ 3 from ⟨t1, t2⟩), cb.2.2.2.2.2.2.2⟩
  have b1 := g1.2.2.2.1.2.1
  have mk := mask_511 (C.1 5 + tabL (Int32.toNatClampNeg op))
  have g2 := MID_i (s := 5) (i := 12) (v := (C.1 5 + tabL (Int32.toNatClampNeg op)) &&& 511) g1 (by unfold pairC; omega) ⟨(show 0 ≤ ((C.1 5 + tabL (Int32.toNatClampNeg op)) &&& 511).toInt ∧ ((C.1 5 + tabL (Int32.toNatClampNeg op)) &&& 511).toInt < 512 by omega), b1.2⟩
  have ix := idx_eq (z := C.1 5 + tabL (Int32.toNatClampNeg op)) (by rw [i_add (by omega) (by omega)]; omega)
  unfold nxR
  rw [← e12, ← ix]
  exact g2
theorem cl_low {Q : Mac → Prop} {K B : Nat → Int32} {S A J C : Ob} {op x y : Int32} (h1 : 1 ≤ op.toInt) (h2 : op.toInt ≤ 29) (h8 : ¬ 8 < op) (h : wp_X1_reckon (nxC C op) op x y (fun u => Q (K, S, A, si J 13 (J.1 13 + 1), u, B))) : wp_X3_running_L91 Q op x y (-1) (K, S, A, J, C, B) := by
  obtain ⟨k0, -⟩ := op_k h1 h2
  unfold wp_X3_running_L91
  refine ⟨fun _ => ⟨k0, fun T16 e16 => ⟨k0, fun T18 e18 => ⟨fun z => absurd z h8, fun _ => ?_⟩⟩⟩, fun z => absurd rfl z⟩
  have e : T18 = nxC C op := by rw [e18, e16]; rfl
  subst e
  have go : (fun u31 : Ob => ∀ T32 : Ob, T32 = si J 13 (J.1 13 + 1) → Q (K, S, A, T32, u31, B)) = (fun u => Q (K, S, A, si J 13 (J.1 13 + 1), u, B)) := by
    funext u
    exact propext ⟨fun g => g _ rfl, fun g T e => by rw [e]; exact g⟩
  show wp_X1_reckon (nxC C op) op x y (fun u31 : Ob => ∀ T32 : Ob, T32 = si J 13 (J.1 13 + 1) → Q (K, S, A, T32, u31, B))
  rw [go]
  exact h
theorem cl_sing {Q : Mac → Prop} {K B : Nat → Int32} {S A J C : Ob} {op x y : Int32} (h1 : 20 ≤ op.toInt) (h2 : op.toInt ≤ 24) (h : wp_X1_reckonSingles (nxC C op) op x y (fun u => Q (K, S, A, si J 13 (J.1 13 + 1), u, B))) : wp_X3_running_L91 Q op x y (-1) (K, S, A, J, C, B) := by
  obtain ⟨k0, -⟩ := op_k (op := op) (by omega) (by omega)
  have l8 : (8 : Int32).toInt = 8 := rfl
  have l20 : (20 : Int32).toInt = 20 := rfl
  have l24 : (24 : Int32).toInt = 24 := rfl
  unfold wp_X3_running_L91 wp_X4_isFor
  refine ⟨fun _ => ⟨k0, fun T16 e16 => ⟨k0, fun T18 e18 => ⟨fun _ => ⟨fun z => absurd z (by rw [i_lt]; omega), fun _ => ⟨fun z => absurd z (by rw [i_lt]; omega), fun _ => ⟨fun z => absurd z (by decide), fun _ => ?_⟩⟩⟩, fun z => absurd (by rw [i_lt]; omega) z⟩⟩⟩, fun z => absurd rfl z⟩
  have e : T18 = nxC C op := by rw [e18, e16]; rfl
  subst e
  have go : (fun u31 : Ob => ∀ T32 : Ob, T32 = si J 13 (J.1 13 + 1) → Q (K, S, A, T32, u31, B)) = (fun u => Q (K, S, A, si J 13 (J.1 13 + 1), u, B)) := by
    funext u
    exact propext ⟨fun g => g _ rfl, fun g T e => by rw [e]; exact g⟩
  show wp_X1_reckonSingles (nxC C op) op x y (fun u31 : Ob => ∀ T32 : Ob, T32 = si J 13 (J.1 13 + 1) → Q (K, S, A, T32, u31, B))
  rw [go]
  exact h
theorem cl_18 {Q : Mac → Prop} {K B : Nat → Int32} {S A J C : Ob} {x y : Int32} (h : wp_X3_endInnermost (K, S, A, J, nxC C 18, B) (fun u => Q (u.1, u.2.1, u.2.2.1, si u.2.2.2.1 13 (u.2.2.2.1.1 13 + 1), u.2.2.2.2.1, u.2.2.2.2.2))) : wp_X3_running_L91 Q 18 x y (-1) (K, S, A, J, C, B) := by
  obtain ⟨k0, -⟩ := op_k (op := 18) (by decide) (by decide)
  unfold wp_X3_running_L91 wp_X4_isFor
  refine ⟨fun _ => ⟨k0, fun T16 e16 => ⟨k0, fun T18 e18 => ⟨fun _ => ⟨fun _ => ⟨fun _ => ⟨fun z => absurd rfl z, fun _ => ?_⟩, fun z => absurd rfl z⟩, fun z => absurd (by decide) z⟩, fun z => absurd (by decide) z⟩⟩⟩, fun z => absurd rfl z⟩
  have e : T18 = nxC C 18 := by rw [e18, e16]; rfl
  subst e
  have go : (fun u27 : Mac => ∀ T28 : Ob, T28 = si u27.2.2.2.1 13 (u27.2.2.2.1.1 13 + 1) → Q (u27.1, u27.2.1, u27.2.2.1, T28, u27.2.2.2.2.1, u27.2.2.2.2.2)) = (fun u => Q (u.1, u.2.1, u.2.2.1, si u.2.2.2.1 13 (u.2.2.2.1.1 13 + 1), u.2.2.2.2.1, u.2.2.2.2.2)) := by
    funext u
    exact propext ⟨fun g => g _ rfl, fun g T e => by rw [e]; exact g⟩
  show wp_X3_endInnermost (K, S, A, J, nxC C 18, B) (fun u27 : Mac => ∀ T28 : Ob, T28 = si u27.2.2.2.1 13 (u27.2.2.2.1.1 13 + 1) → Q (u27.1, u27.2.1, u27.2.2.1, T28, u27.2.2.2.2.1, u27.2.2.2.2.2))
  rw [go]
  exact h
theorem cl_mv {Q : Mac → Prop} {K B : Nat → Int32} {S A J C : Ob} {op x y : Int32} (h1 : 9 ≤ op.toInt) (h2 : op.toInt ≤ 29) (h3 : op.toInt < 20 ∨ 24 < op.toInt) (n18 : ¬ op = 18) (h : wp_X1_move (nxC C op) op x y (fun u24 => wp_X3_govern (K, S, A, J, u24, B) op x y (fun u => Q (u.1, u.2.1, u.2.2.1, si u.2.2.2.1 13 (u.2.2.2.1.1 13 + 1), u.2.2.2.2.1, u.2.2.2.2.2)))) : wp_X3_running_L91 Q op x y (-1) (K, S, A, J, C, B) := by
  obtain ⟨k0, -⟩ := op_k (op := op) (by omega) (by omega)
  have l8 : (8 : Int32).toInt = 8 := rfl
  have l20 : (20 : Int32).toInt = 20 := rfl
  have l24 : (24 : Int32).toInt = 24 := rfl
  have go : (fun u27 : Mac => ∀ T28 : Ob, T28 = si u27.2.2.2.1 13 (u27.2.2.2.1.1 13 + 1) → Q (u27.1, u27.2.1, u27.2.2.1, T28, u27.2.2.2.2.1, u27.2.2.2.2.2)) = (fun u => Q (u.1, u.2.1, u.2.2.1, si u.2.2.2.1 13 (u.2.2.2.1.1 13 + 1), u.2.2.2.2.1, u.2.2.2.2.2)) := by
    funext u
    exact propext ⟨fun g => g _ rfl, fun g T e => by rw [e]; exact g⟩
  unfold wp_X3_running_L91 wp_X4_isFor
  refine ⟨fun _ => ⟨k0, fun T16 e16 => ⟨k0, fun T18 e18 => ⟨fun _ => ?_, fun z => absurd (by rw [i_lt]; omega) z⟩⟩⟩, fun z => absurd rfl z⟩
  have e : T18 = nxC C op := by rw [e18, e16]; rfl
  subst e
  have fin : wp_X1_move (nxC C op) op x y (fun u24 => wp_X3_govern (K, S, A, J, u24, B) op x y (fun u27 : Mac => ∀ T28 : Ob, T28 = si u27.2.2.2.1 13 (u27.2.2.2.1.1 13 + 1) → Q (u27.1, u27.2.1, u27.2.2.1, T28, u27.2.2.2.2.1, u27.2.2.2.2.2))) := by
    rw [go]
    exact h
  rcases h3 with h3 | h3
  · exact ⟨fun _ => ⟨fun _ => ⟨fun _ => fin, fun z => absurd z n18⟩, fun z => absurd rfl z⟩, fun z => absurd (by rw [i_lt]; omega) z⟩
  · exact ⟨fun z => absurd z (by rw [i_lt]; omega), fun _ => ⟨fun _ => ⟨fun _ => ⟨fun _ => fin, fun z => absurd z n18⟩, fun z => absurd rfl z⟩, fun z => absurd (by rw [i_lt]; omega) z⟩⟩
theorem res_pair {W : Ob} {nw : Bool} {N T : Int} {K B r : Nat → Int32} {S A J C M : Ob} {v : Int32} (x : Int32) (h : MID W nw N T K S A J C B M r) : ∃ (C' : Ob) (r' : Nat → Int32), (∀ Q : Ob → Prop, Q C' → wp_X1_result C (x &&& 7) v Q) ∧ (∀ Q : Mod → Prop, Q (M, r') → wp_X8_comes nw (M, r) (x &&& 7) v Q) ∧ MID W nw N T K S A J C' B M r' := by
  obtain ⟨c0, cb, -⟩ := h.2.2.2.1
  obtain ⟨o1, o2, o3, o4, o5⟩ := reg_at c0 x
  have h1 := MID_a (s := 1) (o := 0) (n := 8) (q := Int32.toNatClampNeg (x &&& 7)) (v := v) h (by unfold rowC; omega) o5 cb
  have b1 := h1.2.2.2.1.2.1
  have z : isB (if v = 0 then (1 : Int32) else 0) := by split; exact isB1; exact isB0
  have n : isB (if 0 ≤ v then (0 : Int32) else 1) := by split; exact isB0; exact isB1
  have h2 := MID_i (s := 8) (i := 13) (v := if v = 0 then 1 else 0) h1 (by unfold pairC; omega) ⟨b1.1, z, b1.2.2⟩
  have b2 := h2.2.2.2.1.2.1
  have h3 := MID_i (s := 9) (i := 14) (v := if 0 ≤ v then 0 else 1) h2 (by unfold pairC; omega) ⟨b2.1, b2.2.1, n, b2.2.2.2⟩
  refine ⟨_, _, fun Q hQ => ?_, fun Q hQ => ?_, h3⟩
  · unfold wp_X1_result
    refine ⟨o1, fun T1 e1 => ⟨fun c T3 e3 => ⟨fun d T5 e5 => ?_, fun d T5 e5 => ?_⟩, fun c T3 e3 => ⟨fun d T5 e5 => ?_, fun d T5 e5 => ?_⟩⟩⟩
    all_goals
      subst e1
      subst e3
      subst e5
    · rw [if_neg c, if_pos d] at hQ; exact hQ
    · rw [if_neg c, if_neg d] at hQ; exact hQ
    · rw [if_pos c, if_pos d] at hQ; exact hQ
    · rw [if_pos c, if_neg d] at hQ; exact hQ
  · rw [Nat.zero_add] at hQ
    unfold wp_X8_comes
    rw [o3]
    refine ⟨o2, fun T1 e1 => ⟨fun c T3 e3 => ⟨fun d T5 e5 => ?_, fun d T5 e5 => ?_⟩, fun c T3 e3 => ⟨fun d T5 e5 => ?_, fun d T5 e5 => ?_⟩⟩⟩
    all_goals
      subst e1
      subst e3
      subst e5
    · rw [if_neg c, if_pos d] at hQ; exact hQ
    · rw [if_neg c, if_neg d] at hQ; exact hQ
    · rw [if_pos c, if_pos d] at hQ; exact hQ
    · rw [if_pos c, if_neg d] at hQ; exact hQ
theorem op_1 {W : Ob} {nw : Bool} {N T : Int} {K B r : Nat → Int32} {S A J C M : Ob} (x y : Int32) (h : MID W nw N T K S A J C B M r) : ∃ (C' : Ob) (M' : Ob) (r' : Nat → Int32), (∀ Q : Ob → Prop, Q C' → wp_X1_reckon C 1 x y Q) ∧ (∀ Q : Mod → Prop, Q (M', r') → mTail nw Q 1 x y (0 + (x &&& 7)) (0 + (y &&& 7)) M r) ∧ MID W nw N T K S A J C' B M' r' := by
  obtain ⟨c0, cb, -⟩ := h.2.2.2.1
  obtain ⟨o1, o2, o3, o4, o5⟩ := reg_at c0 x
  obtain ⟨w1, w2, w3, w4, w5⟩ := reg_at c0 y
  have h1 := MID_a (s := 1) (o := 0) (n := 8) (q := Int32.toNatClampNeg (x &&& 7)) (v := y) h (by unfold rowC; omega) o5 cb
  refine ⟨_, _, _, fun Q hQ => ?_, fun Q hQ => ?_, h1⟩
  · unfold wp_X1_reckon
    intro x1 f1
    subst f1
    refine ⟨w1, fun x2 f2 => ⟨fun _ => ⟨o1, fun T4 e4 => ?_⟩, fun z => absurd z (by decide), fun z => absurd z (by decide), fun z => absurd z (by decide), fun z => absurd z (by decide), fun z => absurd z (by decide), fun z => absurd z (by decide), fun z => absurd z (by decide), fun z => absurd rfl z⟩⟩
    subst e4
    exact hQ
  · rw [Nat.zero_add] at hQ
    unfold mTail
    rw [o3]
    refine ⟨fun z => absurd rfl z, fun _ => ⟨o2, fun T46 e46 => ?_⟩⟩
    subst e46
    exact hQ
theorem op_8 {W : Ob} {nw : Bool} {N T : Int} {K B r : Nat → Int32} {S A J C M : Ob} (x y : Int32) (h : MID W nw N T K S A J C B M r) : ∃ (C' : Ob) (M' : Ob) (r' : Nat → Int32), (∀ Q : Ob → Prop, Q C' → wp_X1_reckon C 8 x y Q) ∧ (∀ Q : Mod → Prop, Q (M', r') → mTail nw Q 8 x y (0 + (x &&& 7)) (0 + (y &&& 7)) M r) ∧ MID W nw N T K S A J C' B M' r' := by
  obtain ⟨c0, cb, -⟩ := h.2.2.2.1
  obtain ⟨o1, o2, o3, o4, o5⟩ := reg_at c0 x
  obtain ⟨w1, w2, w3, w4, w5⟩ := reg_at c0 y
  have h1 := MID_a (s := 1) (o := 0) (n := 8) (q := Int32.toNatClampNeg (x &&& 7)) (v := C.2 1 (Int32.toNatClampNeg (y &&& 7))) h (by unfold rowC; omega) o5 cb
  refine ⟨_, _, _, fun Q hQ => ?_, fun Q hQ => ?_, h1⟩
  · unfold wp_X1_reckon
    intro x1 f1
    subst f1
    refine ⟨w1, fun x2 f2 => ⟨fun z => absurd z (by decide), fun z => absurd z (by decide), fun z => absurd z (by decide), fun z => absurd z (by decide), fun z => absurd z (by decide), fun z => absurd z (by decide), fun z => absurd z (by decide), fun _ => ⟨o1, fun T4 e4 => ?_⟩, fun _ _ _ _ _ _ _ z => absurd rfl z⟩⟩
    subst f2
    subst e4
    exact hQ
  · rw [Nat.zero_add] at hQ
    unfold mTail
    rw [o3, w3, w4]
    refine ⟨fun _ => ⟨fun _ => ⟨fun z => absurd rfl z, fun _ => ⟨w2, o2, fun T46 e46 => ?_⟩⟩, fun z => absurd (by decide) z⟩, fun z => absurd z (by decide)⟩
    subst e46
    exact hQ
theorem op_2 {W : Ob} {nw : Bool} {N T : Int} {K B r : Nat → Int32} {S A J C M : Ob} (x y : Int32) (h : MID W nw N T K S A J C B M r) : ∃ (C' : Ob) (M' : Ob) (r' : Nat → Int32), (∀ Q : Ob → Prop, Q C' → wp_X1_reckon C 2 x y Q) ∧ (∀ Q : Mod → Prop, Q (M', r') → mTail nw Q 2 x y (0 + (x &&& 7)) (0 + (y &&& 7)) M r) ∧ MID W nw N T K S A J C' B M' r' := by
  obtain ⟨c0, cb, -⟩ := h.2.2.2.1
  obtain ⟨o1, o2, o3, o4, o5⟩ := reg_at c0 x
  obtain ⟨w1, w2, w3, w4, w5⟩ := reg_at c0 y
  obtain ⟨C', r', g1, g2, g3⟩ := res_pair (v := C.2 1 (Int32.toNatClampNeg (x &&& 7)) + C.2 1 (Int32.toNatClampNeg (y &&& 7))) x h
  refine ⟨C', M, r', fun Q hQ => ?_, fun Q hQ => ?_, g3⟩
  · unfold wp_X1_reckon
    intro x1 f1
    subst f1
    refine ⟨w1, fun x2 f2 => ?_⟩
    subst f2
    exact ⟨fun z => absurd z (by decide), fun _ => ⟨o1, g1 _ hQ⟩, fun z => absurd z (by decide), fun z => absurd z (by decide), fun z => absurd z (by decide), fun z => absurd z (by decide), fun z => absurd z (by decide), fun z => absurd z (by decide), fun _ z => absurd rfl z⟩
  · unfold mTail wp_X8_made
    rw [o3, o4, w3, w4]
    exact ⟨fun _ => ⟨fun z => absurd z (by decide), fun _ => ⟨o2, w2, ⟨fun z => absurd rfl z, fun _ => g2 _ hQ⟩⟩⟩, fun z => absurd z (by decide)⟩
theorem op_3 {W : Ob} {nw : Bool} {N T : Int} {K B r : Nat → Int32} {S A J C M : Ob} (x y : Int32) (h : MID W nw N T K S A J C B M r) : ∃ (C' : Ob) (M' : Ob) (r' : Nat → Int32), (∀ Q : Ob → Prop, Q C' → wp_X1_reckon C 3 x y Q) ∧ (∀ Q : Mod → Prop, Q (M', r') → mTail nw Q 3 x y (0 + (x &&& 7)) (0 + (y &&& 7)) M r) ∧ MID W nw N T K S A J C' B M' r' := by
  obtain ⟨c0, cb, -⟩ := h.2.2.2.1
  obtain ⟨o1, o2, o3, o4, o5⟩ := reg_at c0 x
  obtain ⟨w1, w2, w3, w4, w5⟩ := reg_at c0 y
  obtain ⟨C', r', g1, g2, g3⟩ := res_pair (v := C.2 1 (Int32.toNatClampNeg (x &&& 7)) - C.2 1 (Int32.toNatClampNeg (y &&& 7))) x h
  refine ⟨C', M, r', fun Q hQ => ?_, fun Q hQ => ?_, g3⟩
  · unfold wp_X1_reckon
    intro x1 f1
    subst f1
    refine ⟨w1, fun x2 f2 => ?_⟩
    subst f2
    exact ⟨fun z => absurd z (by decide), fun z => absurd z (by decide), fun _ => ⟨o1, g1 _ hQ⟩, fun z => absurd z (by decide), fun z => absurd z (by decide), fun z => absurd z (by decide), fun z => absurd z (by decide), fun z => absurd z (by decide), fun _ _ z => absurd rfl z⟩
  · unfold mTail wp_X8_made
    rw [o3, o4, w3, w4]
    exact ⟨fun _ => ⟨fun z => absurd z (by decide), fun _ => ⟨o2, w2, ⟨fun _ => ⟨fun z => absurd rfl z, fun _ => g2 _ hQ⟩, fun z => absurd z (by decide)⟩⟩⟩, fun z => absurd z (by decide)⟩
theorem op_4 {W : Ob} {nw : Bool} {N T : Int} {K B r : Nat → Int32} {S A J C M : Ob} (x y : Int32) (h : MID W nw N T K S A J C B M r) : ∃ (C' : Ob) (M' : Ob) (r' : Nat → Int32), (∀ Q : Ob → Prop, Q C' → wp_X1_reckon C 4 x y Q) ∧ (∀ Q : Mod → Prop, Q (M', r') → mTail nw Q 4 x y (0 + (x &&& 7)) (0 + (y &&& 7)) M r) ∧ MID W nw N T K S A J C' B M' r' := by
  obtain ⟨c0, cb, -⟩ := h.2.2.2.1
  obtain ⟨o1, o2, o3, o4, o5⟩ := reg_at c0 x
  obtain ⟨w1, w2, w3, w4, w5⟩ := reg_at c0 y
  obtain ⟨C', r', g1, g2, g3⟩ := res_pair (v := C.2 1 (Int32.toNatClampNeg (x &&& 7)) * C.2 1 (Int32.toNatClampNeg (y &&& 7))) x h
  refine ⟨C', M, r', fun Q hQ => ?_, fun Q hQ => ?_, g3⟩
  · unfold wp_X1_reckon
    intro x1 f1
    subst f1
    refine ⟨w1, fun x2 f2 => ?_⟩
    subst f2
    exact ⟨fun z => absurd z (by decide), fun z => absurd z (by decide), fun z => absurd z (by decide), fun _ => ⟨o1, g1 _ hQ⟩, fun z => absurd z (by decide), fun z => absurd z (by decide), fun z => absurd z (by decide), fun z => absurd z (by decide), fun _ _ _ z => absurd rfl z⟩
  · unfold mTail wp_X8_made
    rw [o3, o4, w3, w4]
    exact ⟨fun _ => ⟨fun z => absurd z (by decide), fun _ => ⟨o2, w2, ⟨fun _ => ⟨fun _ => ⟨fun z => absurd rfl z, fun _ => g2 _ hQ⟩, fun z => absurd z (by decide)⟩, fun z => absurd z (by decide)⟩⟩⟩, fun z => absurd z (by decide)⟩
theorem op_6 {W : Ob} {nw : Bool} {N T : Int} {K B r : Nat → Int32} {S A J C M : Ob} (x y : Int32) (h : MID W nw N T K S A J C B M r) : ∃ (C' : Ob) (M' : Ob) (r' : Nat → Int32), (∀ Q : Ob → Prop, Q C' → wp_X1_reckon C 6 x y Q) ∧ (∀ Q : Mod → Prop, Q (M', r') → mTail nw Q 6 x y (0 + (x &&& 7)) (0 + (y &&& 7)) M r) ∧ MID W nw N T K S A J C' B M' r' := by
  obtain ⟨c0, cb, -⟩ := h.2.2.2.1
  obtain ⟨o1, o2, o3, o4, o5⟩ := reg_at c0 x
  obtain ⟨w1, w2, w3, w4, w5⟩ := reg_at c0 y
  obtain ⟨C', r', g1, g2, g3⟩ := res_pair (v := C.2 1 (Int32.toNatClampNeg (x &&& 7)) ^^^ C.2 1 (Int32.toNatClampNeg (y &&& 7))) x h
  refine ⟨C', M, r', fun Q hQ => ?_, fun Q hQ => ?_, g3⟩
  · unfold wp_X1_reckon
    intro x1 f1
    subst f1
    refine ⟨w1, fun x2 f2 => ?_⟩
    subst f2
    exact ⟨fun z => absurd z (by decide), fun z => absurd z (by decide), fun z => absurd z (by decide), fun z => absurd z (by decide), fun z => absurd z (by decide), fun _ => ⟨o1, g1 _ hQ⟩, fun z => absurd z (by decide), fun z => absurd z (by decide), fun _ _ _ _ _ z => absurd rfl z⟩
  · unfold mTail wp_X8_made
    rw [o3, o4, w3, w4]
    exact ⟨fun _ => ⟨fun z => absurd z (by decide), fun _ => ⟨o2, w2, ⟨fun _ => ⟨fun _ => ⟨fun _ => ⟨fun _ => ⟨fun z => absurd rfl z, fun _ => g2 _ hQ⟩, fun z => absurd z (by decide)⟩, fun z => absurd z (by decide)⟩, fun z => absurd z (by decide)⟩, fun z => absurd z (by decide)⟩⟩⟩, fun z => absurd z (by decide)⟩
theorem op_5 {W : Ob} {nw : Bool} {N T : Int} {K B r : Nat → Int32} {S A J C M : Ob} (x y : Int32) (h : MID W nw N T K S A J C B M r) (hz : ¬ C.2 1 (Int32.toNatClampNeg (y &&& 7)) = 0) : ∃ (C' : Ob) (M' : Ob) (r' : Nat → Int32), (∀ Q : Ob → Prop, Q C' → wp_X1_reckon C 5 x y Q) ∧ (∀ Q : Mod → Prop, Q (M', r') → mTail nw Q 5 x y (0 + (x &&& 7)) (0 + (y &&& 7)) M r) ∧ MID W nw N T K S A J C' B M' r' := by
  obtain ⟨c0, cb, -⟩ := h.2.2.2.1
  obtain ⟨o1, o2, o3, o4, o5⟩ := reg_at c0 x
  obtain ⟨w1, w2, w3, w4, w5⟩ := reg_at c0 y
  obtain ⟨C', r', g1, g2, g3⟩ := res_pair (v := C.2 1 (Int32.toNatClampNeg (x &&& 7)) / C.2 1 (Int32.toNatClampNeg (y &&& 7))) x h
  refine ⟨C', M, r', fun Q hQ => ?_, fun Q hQ => ?_, g3⟩
  · unfold wp_X1_reckon
    intro x1 f1
    subst f1
    refine ⟨w1, fun x2 f2 => ?_⟩
    subst f2
    exact ⟨fun z => absurd z (by decide), fun z => absurd z (by decide), fun z => absurd z (by decide), fun z => absurd z (by decide), fun _ => ⟨fun _ => ⟨o1, hz, g1 _ hQ⟩, fun z => absurd z hz⟩, fun z => absurd z (by decide), fun z => absurd z (by decide), fun z => absurd z (by decide), fun _ _ _ _ z => absurd rfl z⟩
  · unfold mTail wp_X8_made
    rw [o3, o4, w3, w4]
    refine ⟨fun _ => ⟨fun z => absurd z (by decide), fun _ => ⟨o2, w2, ⟨fun _ => ⟨fun _ => ⟨fun _ => ⟨fun z => absurd rfl z, fun _ => ⟨fun _ => ⟨hz, g2 _ hQ⟩, fun z => ?_⟩⟩, fun z => absurd z (by decide)⟩, fun z => absurd z (by decide)⟩, fun z => absurd z (by decide)⟩⟩⟩, fun z => absurd z (by decide)⟩
    rw [z, div_m1] at g2
    exact g2 _ hQ
theorem op_7 {W : Ob} {nw : Bool} {N T : Int} {K B r : Nat → Int32} {S A J C M : Ob} (x y : Int32) (h : MID W nw N T K S A J C B M r) (y0 : 0 ≤ y.toInt) (y1 : y.toInt < 256) : ∃ (C' : Ob) (M' : Ob) (r' : Nat → Int32), (∀ Q : Ob → Prop, Q C' → wp_X1_reckon C 7 x y Q) ∧ (∀ Q : Mod → Prop, Q (M', r') → mTail nw Q 7 x y (0 + (x &&& 7)) (0 + (y &&& 7)) M r) ∧ MID W nw N T K S A J C' B M' r' := by
  obtain ⟨c0, cb, -⟩ := h.2.2.2.1
  obtain ⟨o1, o2, o3, o4, o5⟩ := reg_at c0 x
  obtain ⟨w1, w2, w3, w4, w5⟩ := reg_at c0 y
  obtain ⟨k, hk, ek⟩ := byte_of y0 y1
  rcases sh_bit k hk with ⟨b1, b2, b3⟩ | ⟨b1, b2, b3⟩
  · rw [← ek] at b1 b2 b3
    obtain ⟨C', r', g1, g2, g3⟩ := res_pair (v := C.2 1 (Int32.toNatClampNeg (x &&& 7)) <<< ((y &&& 31) &&& 31)) x h
    refine ⟨C', M, r', fun Q hQ => ?_, fun Q hQ => ?_, g3⟩
    · unfold wp_X1_reckon
      intro x1 f1
      subst f1
      refine ⟨w1, fun x2 f2 => ?_⟩
      exact ⟨fun z => absurd z (by decide), fun z => absurd z (by decide), fun z => absurd z (by decide), fun z => absurd z (by decide), fun z => absurd z (by decide), fun z => absurd z (by decide), fun _ => ⟨fun z => absurd b1 z, fun _ => ⟨o1, g1 _ hQ⟩⟩, fun z => absurd z (by decide), fun _ _ _ _ _ _ z => absurd rfl z⟩
    · unfold mTail wp_X8_made
      rw [o3, o4, w3, w4]
      refine ⟨fun _ => ⟨fun z => absurd z (by decide), fun _ => ⟨o2, w2, ⟨fun _ => ⟨fun _ => ⟨fun _ => ⟨fun _ => ⟨fun _ => fun x6 e6 => ?_, fun z => absurd z (by decide)⟩, fun z => absurd z (by decide)⟩, fun z => absurd z (by decide)⟩, fun z => absurd z (by decide)⟩, fun z => absurd z (by decide)⟩⟩⟩, fun z => absurd z (by decide)⟩
      subst e6
      rw [b3]
      exact ⟨fun z => absurd z b2, fun _ => g2 _ hQ⟩
  · rw [← ek] at b1 b2 b3
    obtain ⟨C', r', g1, g2, g3⟩ := res_pair (v := C.2 1 (Int32.toNatClampNeg (x &&& 7)) >>> ((y &&& 31) &&& 31)) x h
    refine ⟨C', M, r', fun Q hQ => ?_, fun Q hQ => ?_, g3⟩
    · unfold wp_X1_reckon
      intro x1 f1
      subst f1
      refine ⟨w1, fun x2 f2 => ?_⟩
      exact ⟨fun z => absurd z (by decide), fun z => absurd z (by decide), fun z => absurd z (by decide), fun z => absurd z (by decide), fun z => absurd z (by decide), fun z => absurd z (by decide), fun _ => ⟨fun _ => ⟨o1, g1 _ hQ⟩, fun z => absurd z b1⟩, fun z => absurd z (by decide), fun _ _ _ _ _ _ z => absurd rfl z⟩
    · unfold mTail wp_X8_made
      rw [o3, o4, w3, w4]
      refine ⟨fun _ => ⟨fun z => absurd z (by decide), fun _ => ⟨o2, w2, ⟨fun _ => ⟨fun _ => ⟨fun _ => ⟨fun _ => ⟨fun _ => fun x6 e6 => ?_, fun z => absurd z (by decide)⟩, fun z => absurd z (by decide)⟩, fun z => absurd z (by decide)⟩, fun z => absurd z (by decide)⟩, fun z => absurd z (by decide)⟩⟩⟩, fun z => absurd z (by decide)⟩
      subst e6
      rw [b3]
      exact ⟨fun _ => g2 _ hQ, fun z => absurd b2 z⟩
