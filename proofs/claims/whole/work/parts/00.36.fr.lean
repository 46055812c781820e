/-! LAYER 2: the frame on the stack, as both sides look at it -/
def plc (C : Ob) : Prop := 0 ≤ (C.2 4 (Int32.toNatClampNeg (C.1 6 - 2))).toInt ∧ (C.2 4 (Int32.toNatClampNeg (C.1 6 - 2))).toInt < 512
theorem frF_class {C : Ob} {Q : Int32 → Ob → Prop} (h0 : 0 ≤ (C.1 6).toInt ∧ (C.1 6).toInt ≤ 96) (h : Q (frF C) C) : wp_X1_frameFault C Q := by
  unfold frF at h
  unfold wp_X1_frameFault
  have e1 : (1 : Int32).toInt = 1 := rfl
  have e2 : (2 : Int32).toInt = 2 := rfl
  have e6 : (6 : Int32).toInt = 6 := rfl
  refine ⟨fun c => ?_, fun c => ?_⟩
  · rw [if_pos c] at h
    have c2 := i_le.mp c
    have s1 : (C.1 6 - 1).toInt = (C.1 6).toInt - 1 := by rw [i_sub (by omega) (by omega), e1]
    have s2 : (C.1 6 - 2).toInt = (C.1 6).toInt - 2 := by rw [i_sub (by omega) (by omega), e2]
    have o1 : okI (C.1 6 - 1) 96 := ok_iff.mpr (by omega)
    have o2 : okI (C.1 6 - 2) 96 := ok_iff.mpr (by omega)
    refine ⟨o1, fun x2 x2e => ?_⟩
    have x2e : x2 = mk C := x2e
    subst x2e
    refine ⟨fun d => ?_, fun d => ⟨fun f => ?_, fun f => ?_⟩⟩
    · rw [if_pos d] at h; exact h
    · rw [if_neg d, if_pos f] at h
      unfold wp_X1_hasFours
      refine ⟨o1, fun g => ⟨fun _ => ⟨o2, b_isPlace ?_⟩, fun z => absurd rfl z⟩, fun g => ⟨fun z => absurd z (by decide), fun _ => ⟨fun k => ⟨o2, b_isPlace ?_⟩, fun k => ?_⟩⟩⟩
      · have g : mk C &&& 4 = 0 := g
        rw [if_pos g] at h
        by_cases p : 0 ≤ (C.2 4 (Int32.toNatClampNeg (C.1 6 - 2))).toInt ∧ (C.2 4 (Int32.toNatClampNeg (C.1 6 - 2))).toInt < 512
        · rw [if_pos p] at h ⊢; exact ⟨fun z => absurd z (by decide), fun _ => h⟩
        · rw [if_neg p] at h ⊢; exact ⟨fun _ => h, fun z => absurd rfl z⟩
      · have g : ¬ mk C &&& 4 = 0 := g
        rw [if_neg g, if_pos k] at h
        by_cases p : 0 ≤ (C.2 4 (Int32.toNatClampNeg (C.1 6 - 2))).toInt ∧ (C.2 4 (Int32.toNatClampNeg (C.1 6 - 2))).toInt < 512
        · rw [if_pos p] at h ⊢; exact ⟨fun z => absurd z (by decide), fun _ => h⟩
        · rw [if_neg p] at h ⊢; exact ⟨fun _ => h, fun z => absurd rfl z⟩
      · have g : ¬ mk C &&& 4 = 0 := g
        rw [if_neg g, if_neg k] at h
        exact h
    · rw [if_neg d, if_neg f] at h; exact h
  · rw [if_neg c] at h; exact h
/-- the mark is one of eight -/
def mOK (C : Ob) : Prop := ¬ mk C < 23040 ∧ mk C ≤ 23047
theorem mOK_k {C : Ob} (h : mOK C) : ∃ k : Nat, k < 8 ∧ mk C = Int32.ofNat (23040 + k) := by
  obtain ⟨h1, h2⟩ := h
  rw [i_lt] at h1
  rw [i_le] at h2
  have e1 : (23040 : Int32).toInt = 23040 := rfl
  have e2 : (23047 : Int32).toInt = 23047 := rfl
  exact ⟨(mk C).toInt.toNat - 23040, by omega, i_eq.mpr (by rw [i_ofNat (by omega)]; omega)⟩
theorem mOK_iff {C : Ob} : (0 ≤ (mk C - 23040).toInt ∧ (mk C - 23040).toInt ≤ 7) ↔ mOK C := by
  unfold mOK
  rw [i_lt, i_le]
  have e1 : (23040 : Int32).toInt = 23040 := rfl
  have e2 : (23047 : Int32).toInt = 23047 := rfl
  constructor
  · intro h
    have e := i_add (x := mk C - 23040) (y := 23040) (by omega) (by omega)
    rw [Int32.sub_add_cancel, e1] at e
    omega
  · intro h
    rw [i_sub (by omega) (by omega)]
    omega
theorem frF_ok {C : Ob} (h : frF C = -1) : 6 ≤ (C.1 6).toInt ∧ mOK C ∧ plc C ∧ (¬ mk C &&& 4 = 0 → 10 ≤ (C.1 6).toInt) := by
  unfold frF at h
  have e6 : (6 : Int32).toInt = 6 := rfl
  have e10 : (10 : Int32).toInt = 10 := rfl
  by_cases c : 6 ≤ C.1 6
  · rw [if_pos c] at h
    rw [i_le] at c
    by_cases d : mk C < 23040
    · rw [if_pos d] at h; exact absurd h (by decide)
    · rw [if_neg d] at h
      by_cases f : mk C ≤ 23047
      · rw [if_pos f] at h
        by_cases g : mk C &&& 4 = 0
        · rw [if_pos g] at h
          by_cases p : 0 ≤ (C.2 4 (Int32.toNatClampNeg (C.1 6 - 2))).toInt ∧ (C.2 4 (Int32.toNatClampNeg (C.1 6 - 2))).toInt < 512
          · exact ⟨by omega, ⟨d, f⟩, p, fun z => absurd g z⟩
          · rw [if_neg p] at h; exact absurd h (by decide)
        · rw [if_neg g] at h
          by_cases k : 10 ≤ C.1 6
          · rw [if_pos k] at h
            rw [i_le] at k
            by_cases p : 0 ≤ (C.2 4 (Int32.toNatClampNeg (C.1 6 - 2))).toInt ∧ (C.2 4 (Int32.toNatClampNeg (C.1 6 - 2))).toInt < 512
            · exact ⟨by omega, ⟨d, f⟩, p, fun _ => by omega⟩
            · rw [if_neg p] at h; exact absurd h (by decide)
          · rw [if_neg k] at h; exact absurd h (by decide)
      · rw [if_neg f] at h; exact absurd h (by decide)
  · rw [if_neg c] at h; exact absurd h (by decide)
theorem cell_at {C : Ob} {r : Nat → Int32} {d : Int32} (c0 : rC0 C r) (hs : (C.1 6).toInt ≤ 96) (h1 : 0 < d.toInt) (h2 : d.toInt ≤ (C.1 6).toInt) : okI (56 + C.1 6 - d) 342 ∧ r (Int32.toNatClampNeg (56 + C.1 6 - d)) = C.2 4 (Int32.toNatClampNeg (C.1 6 - d)) := by
  have e56 : (56 : Int32).toInt = 56 := rfl
  have a : (56 + C.1 6).toInt = 56 + (C.1 6).toInt := by rw [i_add (by omega) (by omega), e56]
  have b : (56 + C.1 6 - d).toInt = 56 + (C.1 6).toInt - d.toInt := by rw [i_sub (by omega) (by omega), a]
  have s : (C.1 6 - d).toInt = (C.1 6).toInt - d.toInt := i_sub (by omega) (by omega)
  refine ⟨ok_iff.mpr (by omega), ?_⟩
  have en : Int32.toNatClampNeg (56 + C.1 6 - d) = 56 + Int32.toNatClampNeg (C.1 6 - d) := by rw [i_nat, i_nat, b, s]; omega
  rw [en]
  exact (c0.2.2.2.1 _ (by rw [i_nat, s]; omega)).symm
theorem frF_model {nw : Bool} {C M : Ob} {r : Nat → Int32} {Q : Int32 → Mod → Prop} (c0 : rC0 C r) (h0 : 0 ≤ (C.1 6).toInt ∧ (C.1 6).toInt ≤ 96) (h : Q (frF C) (M, r)) : wp_X8_wrongWith nw (M, r) Q := by
  unfold frF at h
  unfold wp_X8_wrongWith
  have e15 : C.1 6 = r 15 := c0.2.2.2.2.2.2.2.1
  have e1 : (1 : Int32).toInt = 1 := rfl
  have e2 : (2 : Int32).toInt = 2 := rfl
  have e0 : (0 : Int32).toInt = 0 := rfl
  have e7 : (7 : Int32).toInt = 7 := rfl
  have e6 : (6 : Int32).toInt = 6 := rfl
  have e511 : (511 : Int32).toInt = 511 := rfl
  dsimp only
  rw [← e15]
  refine ⟨fun c => ?_, fun c => ?_⟩
  · rw [if_pos c] at h
    rw [i_le] at c
    obtain ⟨o1, v1⟩ := cell_at (d := 1) c0 h0.2 (by omega) (by omega)
    obtain ⟨o2, v2⟩ := cell_at (d := 2) c0 h0.2 (by omega) (by omega)
    refine ⟨o1, fun x2 x2e => b_within ?_⟩
    rw [v1] at x2e
    have x2e : x2 = mk C - 23040 := x2e
    subst x2e
    rw [e0, e7]
    by_cases m : mOK C
    · rw [if_pos (mOK_iff.mpr m)]
      obtain ⟨k, hk, ek⟩ := mOK_k m
      have mb := (mark_bit k hk).1
      rw [← ek] at mb
      rw [if_neg m.1, if_pos m.2] at h
      refine ⟨fun _ => ⟨fun g => ⟨o2, b_within ?_⟩, fun g => ⟨fun k => ⟨o2, b_within ?_⟩, fun k => ?_⟩⟩, fun z => absurd z (by decide)⟩
      · rw [v2, e0, e511]
        rw [if_pos (mb.mpr g)] at h
        by_cases p : 0 ≤ (C.2 4 (Int32.toNatClampNeg (C.1 6 - 2))).toInt ∧ (C.2 4 (Int32.toNatClampNeg (C.1 6 - 2))).toInt < 512
        · rw [if_pos p] at h; rw [if_pos (by omega)]; exact ⟨fun z => absurd z (by decide), fun _ => h⟩
        · rw [if_neg p] at h; rw [if_neg (by omega)]; exact ⟨fun _ => h, fun z => absurd rfl z⟩
      · rw [v2, e0, e511]
        rw [if_neg (fun z => g (mb.mp z)), if_pos k] at h
        by_cases p : 0 ≤ (C.2 4 (Int32.toNatClampNeg (C.1 6 - 2))).toInt ∧ (C.2 4 (Int32.toNatClampNeg (C.1 6 - 2))).toInt < 512
        · rw [if_pos p] at h; rw [if_pos (by omega)]; exact ⟨fun z => absurd z (by decide), fun _ => h⟩
        · rw [if_neg p] at h; rw [if_neg (by omega)]; exact ⟨fun _ => h, fun z => absurd rfl z⟩
      · rw [if_neg (fun z => g (mb.mp z)), if_neg k] at h
        exact h
    · rw [if_neg (fun z => m (mOK_iff.mp z))]
      have h2 : Q 18 (M, r) := by
        by_cases d : mk C < 23040
        · rw [if_pos d] at h; exact h
        · rw [if_neg d, if_neg (fun z => m ⟨d, z⟩)] at h; exact h
      exact ⟨fun z => absurd rfl z, fun _ => h2⟩
  · rw [if_neg c] at h; exact h
theorem frS_class {C : Ob} {Q : Int32 → Ob → Prop} (h0 : 1 ≤ (C.1 6).toInt ∧ (C.1 6).toInt ≤ 96) (h : Q (frS C) C) : wp_X1_frameSteps C Q := by
  have e1 : (1 : Int32).toInt = 1 := rfl
  have s1 : (C.1 6 - 1).toInt = (C.1 6).toInt - 1 := by rw [i_sub (by omega) (by omega), e1]
  have o1 : okI (C.1 6 - 1) 96 := ok_iff.mpr (by omega)
  unfold frS at h
  unfold wp_X1_frameSteps wp_X1_isLazyFrame wp_X1_hasFours
  refine ⟨o1, fun g => ⟨fun _ => ?_, fun z => absurd rfl z⟩, fun g => ⟨fun z => absurd z (by decide), fun _ => ⟨o1, fun g2 => absurd g2 g, fun _ => ⟨fun z => absurd z (by decide), fun _ => ⟨fun k => ⟨fun z => absurd rfl z, fun _ => ?_⟩, fun k => ⟨fun _ => ?_, fun z => absurd z (by decide)⟩⟩⟩⟩⟩⟩
  · have g : mk C &&& 4 = 0 := g
    rw [if_pos g] at h; exact h
  · have g : ¬ mk C &&& 4 = 0 := g
    rw [if_neg g, if_neg k] at h; exact h
  · have g : ¬ mk C &&& 4 = 0 := g
    rw [if_neg g, if_pos k] at h; exact h
