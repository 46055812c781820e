/-! LAYER 2: a frame is taken back, both sides -/
def inn (S : Ob) : Int32 := if S.1 10 ≤ 0 then -1 else S.2 9 (Int32.toNatClampNeg (S.1 10 - 1))
theorem inn_class {S : Ob} {Q : Int32 → Ob → Prop} (h0 : 0 ≤ (S.1 10).toInt) (h21 : (S.1 10).toInt ≤ 21) (h : Q (inn S) S) : wp_X5_innermost S Q := by
  unfold inn at h
  unfold wp_X5_innermost
  have e1 : (1 : Int32).toInt = 1 := rfl
  have e0 : (0 : Int32).toInt = 0 := rfl
  refine ⟨fun c => ?_, fun c => ⟨?_, ?_⟩⟩
  · rw [if_pos c] at h; exact h
  · rw [i_le] at c
    exact ok_iff.mpr (by rw [i_sub (by omega) (by omega)]; omega)
  · rw [if_neg c] at h; exact h
theorem inn_eq {S : Ob} {r : Nat → Int32} (R : limR S r) : inn S = if r 30 = 0 then -1 else r (Int32.toNatClampNeg (152 + r 30 - 1)) := by
  obtain ⟨⟨a1, a2, a3⟩, b, -⟩ := R
  unfold inn
  have e1 : (1 : Int32).toInt = 1 := rfl
  have e0 : (0 : Int32).toInt = 0 := rfl
  have e152 : (152 : Int32).toInt = 152 := rfl
  rw [← a1]
  by_cases c : S.1 10 = 0
  · rw [if_pos c, if_pos (by rw [c]; decide)]
  · have c1 : ¬ (S.1 10).toInt = 0 := fun z => c (i_eq.mpr z)
    rw [if_neg c, if_neg (by rw [i_le]; omega)]
    have a : (152 + S.1 10).toInt = 152 + (S.1 10).toInt := by rw [i_add (by omega) (by omega), e152]
    have d : (152 + S.1 10 - 1).toInt = 151 + (S.1 10).toInt := by rw [i_sub (by omega) (by omega), a, e1]; omega
    have s : (S.1 10 - 1).toInt = (S.1 10).toInt - 1 := by rw [i_sub (by omega) (by omega), e1]
    have en : Int32.toNatClampNeg (152 + S.1 10 - 1) = 152 + Int32.toNatClampNeg (S.1 10 - 1) := by rw [i_nat, i_nat, d, s]; omega
    rw [en]
    exact (b _ (by rw [i_nat, s]; omega)).1
theorem inn_ok {S : Ob} {r : Nat → Int32} (R : limR S r) (h : 0 < (S.1 10).toInt) : okI (inn S) 21 := by
  obtain ⟨⟨a1, a2, a3⟩, b, -⟩ := R
  have e1 : (1 : Int32).toInt = 1 := rfl
  have e0 : (0 : Int32).toInt = 0 := rfl
  have s : (S.1 10 - 1).toInt = (S.1 10).toInt - 1 := by rw [i_sub (by omega) (by omega), e1]
  unfold inn
  rw [if_neg (by rw [i_le]; omega)]
  exact (b _ (by rw [i_nat, s]; omega)).2
theorem fin0 : finB 0 := by unfold finB; decide
/-- a single as it comes back -/
def fv (v : Int32) : Int32 := if v &&& 2139095040 = 2139095040 then 0 else v
theorem fv_fin (v : Int32) : finB (fv v) := by
  unfold fv
  split
  · exact fin0
  · assumption
theorem sing_class {C : Ob} {Q : Ob → Prop} {n k p : Nat} {y : Int32} (hk : k < 4) (hp : y.toInt = (p : Int)) (hp2 : p < 90) (h : wp_X1_takeSingles_L2 Q n y (Int32.ofNat (k + 1)) (sa C 2 (upd (C.2 2) k (fv (C.2 4 (p + k)))))) : wp_X1_takeSingles_L2 Q (n + 1) y (Int32.ofNat k) C := by
  have hk0 := i_ofNat (k := k) (by omega)
  have hks := of_succ (k := k) (by omega)
  have hkn := n_of (k := k) (by omega)
  have e4 : (4 : Int32).toInt = 4 := rfl
  have a : (y + Int32.ofNat k).toInt = (p : Int) + k := by rw [i_add (by omega) (by omega), hp, hk0]
  have an : Int32.toNatClampNeg (y + Int32.ofNat k) = p + k := by rw [i_nat, a]; omega
  unfold wp_X1_takeSingles_L2 wp_X4_isFinite
  rw [an, hkn]
  unfold fv at h
  refine ⟨fun c => absurd (i_le.mp c) (by omega), fun _ => ⟨ok_iff.mpr (by omega), fun c => ⟨fun _ => ⟨ok_iff.mpr (by omega), fun T5 e5 x6 e6 => ?_⟩, fun z => absurd rfl z⟩, fun c => ⟨fun z => absurd z (by decide), fun _ => ⟨ok_iff.mpr (by omega), ok_iff.mpr (by omega), fun T7 e7 x8 e8 => ?_⟩⟩⟩⟩
  · rw [if_pos c] at h
    subst e5
    rw [e6, hks]
    exact h
  · rw [if_neg c] at h
    subst e7
    rw [e8, hks]
    exact h
theorem sing_model {nw : Bool} {M : Ob} {r : Nat → Int32} {Q : Mod → Prop} {n k p : Nat} {y2 y3 : Int32} (hk : k < 4) (hp : (y2 - 10).toInt = (p : Int)) (hp2 : p < 300) (h : wp_X8_returns_L30 nw Q n y2 y3 (Int32.ofNat (k + 1)) (M, upd r (8 + k) (fv (r (p + k))))) : wp_X8_returns_L30 nw Q (n + 1) y2 y3 (Int32.ofNat k) (M, r) := by
  have hk0 := i_ofNat (k := k) (by omega)
  have hks := of_succ (k := k) (by omega)
  have e4 : (4 : Int32).toInt = 4 := rfl
  have e8 : (8 : Int32).toInt = 8 := rfl
  have a : (y2 - 10 + Int32.ofNat k).toInt = (p : Int) + k := by rw [i_add (by omega) (by omega), hp, hk0]
  have an : Int32.toNatClampNeg (y2 - 10 + Int32.ofNat k) = p + k := by rw [i_nat, a]; omega
  have b : (8 + Int32.ofNat k).toInt = 8 + (k : Int) := by rw [i_add (by omega) (by omega), hk0, e8]
  have bn : Int32.toNatClampNeg (8 + Int32.ofNat k) = 8 + k := by rw [i_nat, b]; omega
  unfold wp_X8_returns_L30 wp_X8_isFinite
  dsimp only
  rw [an, bn, bt_shr]
  unfold fv at h
  refine ⟨fun c => absurd (i_le.mp c) (by omega), fun _ => ⟨ok_iff.mpr (by omega), fun c => ⟨fun _ => ⟨ok_iff.mpr (by omega), fun T5 e5 x6 e6 => ?_⟩, fun z => absurd rfl z⟩, fun c => ⟨fun z => absurd z (by decide), fun _ => ⟨ok_iff.mpr (by omega), ok_iff.mpr (by omega), fun T7 e7 x8 e8 => ?_⟩⟩⟩⟩
  · rw [if_pos c] at h
    subst e5
    rw [e6, hks]
    exact h
  · rw [if_neg c] at h
    subst e7
    rw [e8, hks]
    exact h
theorem MID_f {W : Ob} {nw : Bool} {N T : Int} {K B r : Nat → Int32} {S A J C M : Ob} {q : Nat} {v : Int32} (h : MID W nw N T K S A J C B M r) (hq : q < 4) (hv : finB v) : MID W nw N T K S A J (sa C 2 (upd (C.2 2) q v)) B M (upd r (8 + q) v) := by
  obtain ⟨b1, b2, b3, b4, b5, b6, b7, b8, b9⟩ := h.2.2.2.1.2.1
  refine MID_a (s := 2) (o := 8) (n := 4) h (by unfold rowC; omega) hq ⟨b1, b2, b3, b4, b5, b6, b7, b8, fun k hk => ?_⟩
  rw [sa_self]
  by_cases c : k = q
  · subst c; rw [up_eq]; exact hv
  · rw [up_ne c]; exact b9 k hk
/-- the relation once the six last words are off -/
theorem MID_pop {W : Ob} {nw : Bool} {N T : Int} {K B r : Nat → Int32} {S A J C M : Ob} {f : Int32} {p : Nat} (h : MID W nw N T K S A J C B M r) (bf : isB f) (hm : mOK C) (hpl : plc C) (hp : (C.1 6).toInt + 50 = (p : Int)) (h6 : 6 ≤ (C.1 6).toInt) (h10 : ¬ f = 0 → 10 ≤ (C.1 6).toInt) : MID W nw N T K S A J (popC C f) B M (popR (upd r 18 f) p (mk C - 23040) (if f = 0 then C.1 6 - 6 else C.1 6 - 10)) := by
  obtain ⟨c0, cb, -⟩ := h.2.2.2.1
  have hsp := cb.2.2.2.1
  have e1 : (1 : Int32).toInt = 1 := rfl
  have e2 : (2 : Int32).toInt = 2 := rfl
  have e4 : (4 : Int32).toInt = 4 := rfl
  have e5 : (5 : Int32).toInt = 5 := rfl
  have e6 : (6 : Int32).toInt = 6 := rfl
  have e10 : (10 : Int32).toInt = 10 := rfl
  have s6 : (C.1 6 - 6).toInt = (C.1 6).toInt - 6 := by rw [i_sub (by omega) (by omega), e6]
  have s4 : (C.1 6 - 6 + 4).toInt = (C.1 6).toInt - 2 := by rw [i_add (by omega) (by omega), s6, e4]; omega
  have s5 : (C.1 6 - 6 + 5).toInt = (C.1 6).toInt - 1 := by rw [i_add (by omega) (by omega), s6, e5]; omega
  have s1 : (C.1 6 - 1).toInt = (C.1 6).toInt - 1 := by rw [i_sub (by omega) (by omega), e1]
  have s2 : (C.1 6 - 2).toInt = (C.1 6).toInt - 2 := by rw [i_sub (by omega) (by omega), e2]
  have z4 : C.1 6 - 6 + 4 = C.1 6 - 2 := i_eq.mpr (by omega)
  have z5 : C.1 6 - 6 + 5 = C.1 6 - 1 := i_eq.mpr (by omega)
  obtain ⟨m, hm1, hm2⟩ := mOK_k hm
  obtain ⟨-, mb2, mb3⟩ := mark_bit m hm1
  rw [← hm2] at mb2 mb3
  have v : ∀ j : Nat, j < 6 → C.2 4 (Int32.toNatClampNeg (C.1 6 - 6) + j) = upd r 18 f (p + j) := by
    intro j hj
    rw [up_ne (by omega)]
    have := c0.2.2.2.1 (Int32.toNatClampNeg (C.1 6 - 6) + j) (by rw [i_nat, s6]; omega)
    rw [this, show 56 + (Int32.toNatClampNeg (C.1 6 - 6) + j) = p + j by rw [i_nat, s6]; omega]
  have v4 : C.2 4 (Int32.toNatClampNeg (C.1 6 - 6 + 4)) = upd r 18 f (p + 4) := by
    rw [← v 4 (by omega), i_nat, i_nat, s4, s6, show ((C.1 6).toInt - 2).toNat = ((C.1 6).toInt - 6).toNat + 4 by omega]
  have h1 := MID_i (s := 12) (i := 18) (v := f) h (by unfold pairC; omega) ⟨cb.1, cb.2.1, cb.2.2.1, cb.2.2.2.1, bf, cb.2.2.2.2.2⟩
  have h2 := MID_a (s := 1) (o := 0) (n := 8) (q := 0) (v := C.2 4 (Int32.toNatClampNeg (C.1 6 - 6) + 0)) h1 (by unfold rowC; omega) (by omega) h1.2.2.2.1.2.1
  have h3 := MID_a (s := 1) (o := 0) (n := 8) (q := 1) (v := C.2 4 (Int32.toNatClampNeg (C.1 6 - 6) + 1)) h2 (by unfold rowC; omega) (by omega) h2.2.2.2.1.2.1
  have h4 := MID_a (s := 1) (o := 0) (n := 8) (q := 2) (v := C.2 4 (Int32.toNatClampNeg (C.1 6 - 6) + 2)) h3 (by unfold rowC; omega) (by omega) h3.2.2.2.1.2.1
  have h5 := MID_a (s := 1) (o := 0) (n := 8) (q := 3) (v := C.2 4 (Int32.toNatClampNeg (C.1 6 - 6) + 3)) h4 (by unfold rowC; omega) (by omega) h4.2.2.2.1.2.1
  have b5 := h5.2.2.2.1.2.1
  have h6' := MID_i (s := 5) (i := 12) (v := C.2 4 (Int32.toNatClampNeg (C.1 6 - 6 + 4))) h5 (by unfold pairC; omega) ⟨by rw [si_self, z4]; exact hpl, b5.2⟩
  have b6 := h6'.2.2.2.1.2.1
  have h7 := MID_i (s := 8) (i := 13) (v := C.2 4 (Int32.toNatClampNeg (C.1 6 - 6 + 5)) &&& 1) h6' (by unfold pairC; omega) ⟨b6.1, by rw [si_self]; exact isB_1 _, b6.2.2⟩
  have b7 := h7.2.2.2.1.2.1
  have h8 := MID_i (s := 9) (i := 14) (v := (C.2 4 (Int32.toNatClampNeg (C.1 6 - 6 + 5)) >>> (1 &&& 31)) &&& 1) h7 (by unfold pairC; omega) ⟨b7.1, b7.2.1, by rw [si_self]; exact isB_1 _, b7.2.2.2⟩
  have b8 := h8.2.2.2.1.2.1
  have h9 := MID_i (s := 6) (i := 15) (v := if f = 0 then C.1 6 - 6 else C.1 6 - 10) h8 (by unfold pairC; omega) ⟨b8.1, b8.2.1, b8.2.2.1, by
    rw [si_self]
    by_cases c : f = 0
    · rw [if_pos c]; omega
    · rw [if_neg c, i_sub (by have := h10 c; omega) (by omega), e10]
      have := h10 c
      omega, b8.2.2.2.2⟩
  have eC : si (si (si (si (sa (sa (sa (sa (si C 12 f) 1 (upd ((si C 12 f).2 1) 0 (C.2 4 (Int32.toNatClampNeg (C.1 6 - 6) + 0)))) 1 (upd ((sa (si C 12 f) 1 (upd ((si C 12 f).2 1) 0 (C.2 4 (Int32.toNatClampNeg (C.1 6 - 6) + 0)))).2 1) 1 (C.2 4 (Int32.toNatClampNeg (C.1 6 - 6) + 1)))) 1 (upd ((sa (sa (si C 12 f) 1 (upd ((si C 12 f).2 1) 0 (C.2 4 (Int32.toNatClampNeg (C.1 6 - 6) + 0)))) 1 (upd ((sa (si C 12 f) 1 (upd ((si C 12 f).2 1) 0 (C.2 4 (Int32.toNatClampNeg (C.1 6 - 6) + 0)))).2 1) 1 (C.2 4 (Int32.toNatClampNeg (C.1 6 - 6) + 1)))).2 1) 2 (C.2 4 (Int32.toNatClampNeg (C.1 6 - 6) + 2)))) 1 (upd ((sa (sa (sa (si C 12 f) 1 (upd ((si C 12 f).2 1) 0 (C.2 4 (Int32.toNatClampNeg (C.1 6 - 6) + 0)))) 1 (upd ((sa (si C 12 f) 1 (upd ((si C 12 f).2 1) 0 (C.2 4 (Int32.toNatClampNeg (C.1 6 - 6) + 0)))).2 1) 1 (C.2 4 (Int32.toNatClampNeg (C.1 6 - 6) + 1)))) 1 (upd ((sa (sa (si C 12 f) 1 (upd ((si C 12 f).2 1) 0 (C.2 4 (Int32.toNatClampNeg (C.1 6 - 6) + 0)))) 1 (upd ((sa (si C 12 f) 1 (upd ((si C 12 f).2 1) 0 (C.2 4 (Int32.toNatClampNeg (C.1 6 - 6) + 0)))).2 1) 1 (C.2 4 (Int32.toNatClampNeg (C.1 6 - 6) + 1)))).2 1) 2 (C.2 4 (Int32.toNatClampNeg (C.1 6 - 6) + 2)))).2 1) 3 (C.2 4 (Int32.toNatClampNeg (C.1 6 - 6) + 3)))) 5 (C.2 4 (Int32.toNatClampNeg (C.1 6 - 6 + 4)))) 8 (C.2 4 (Int32.toNatClampNeg (C.1 6 - 6 + 5)) &&& 1)) 9 ((C.2 4 (Int32.toNatClampNeg (C.1 6 - 6 + 5)) >>> (1 &&& 31)) &&& 1)) 6 (if f = 0 then C.1 6 - 6 else C.1 6 - 10) = popC C f := by
    simp only [sa_self, sa_sa]
    unfold popC
    rw [cpy4]
    refine Prod.ext ?_ rfl
    show upd (upd (upd (upd (upd C.1 12 f) 5 _) 8 _) 9 _) 6 _ = upd (upd (upd (upd (upd C.1 5 _) 8 _) 9 _) 12 f) 6 _
    rw [up_comm (i := 12) (j := 5) (by decide), up_comm (i := 12) (j := 8) (by decide), up_comm (i := 12) (j := 9) (by decide)]
  rw [eC] at h9
  have z5' : C.2 4 (Int32.toNatClampNeg (C.1 6 - 6 + 5)) = mk C := by rw [z5]; rfl
  unfold popR
  rw [z5', mb2, mb3, v4, v 0 (by omega), v 1 (by omega), v 2 (by omega), v 3 (by omega)] at h9
  exact h9
