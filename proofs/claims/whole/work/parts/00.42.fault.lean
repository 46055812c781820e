/-! LAYER 2: the fault of an instruction, both sides -/
theorem isFin_class {v : Int32} {Q : Int32 → Unit → Prop} (h : Q (if v &&& 2139095040 = 2139095040 then 0 else 1) ()) : wp_X4_isFinite () v Q := by
  unfold wp_X4_isFinite
  refine ⟨fun c => ?_, fun c => ?_⟩
  · rw [if_pos c] at h; exact h
  · rw [if_neg c] at h; exact h
theorem isFin_model {v : Int32} {Q : Int32 → Unit → Prop} (h : Q (if v &&& 2139095040 = 2139095040 then 0 else 1) ()) : wp_X8_isFinite () v Q := by
  unfold wp_X8_isFinite
  rw [bt_shr]
  refine ⟨fun c => ?_, fun c => ?_⟩
  · rw [if_pos c] at h; exact h
  · rw [if_neg c] at h; exact h
theorem idx_eq {z : Int32} (h : 0 ≤ z.toInt) : z &&& 511 = z - z / 512 * 512 := by
  have e : (512 : Int32).toInt = 512 := rfl
  rw [i_eq, mask_511, i_rem h (by omega), e]
theorem rem20 {x : Int32} (h0 : 0 ≤ x.toInt) : 0 ≤ (x - x / 20 * 20).toInt ∧ (x - x / 20 * 20).toInt < 20 := by
  have e : (20 : Int32).toInt = 20 := rfl
  rw [i_rem h0 (by omega), e]
  omega
theorem rem18 {x : Int32} (h0 : 0 ≤ x.toInt) : 0 ≤ (x - x / 18 * 18).toInt ∧ (x - x / 18 * 18).toInt < 18 := by
  have e : (18 : Int32).toInt = 18 := rfl
  rw [i_rem h0 (by omega), e]
  omega
/-- what the class asks before an instruction is done -/
def cFl (Q : Mac → Prop) (K B : Nat → Int32) (S A J C : Ob) (op x y : Int32) : Prop := wp_X1_faultOf C op x y (fun r11 u10 => ((¬ op = 18 → wp_X3_running_L66 Q op x y r11 (K, S, A, J, u10, B)) ∧ (op = 18 → ((S.1 10 = 0 → wp_X3_running_L91 Q op x y 18 (K, S, A, J, u10, B)) ∧ (¬ S.1 10 = 0 → wp_X3_running_L66 Q op x y r11 (K, S, A, J, u10, B))))))
theorem l66 {Q : Mac → Prop} {op x y f : Int32} {u : Mac} (n : ¬ op = 25) (h : wp_X3_running_L91 Q op x y f u) : wp_X3_running_L66 Q op x y f u := by
  unfold wp_X3_running_L66
  exact ⟨fun _ => h, fun z => absurd z n⟩
/-- no fault: what an instruction may take for granted -/
def noF (S C : Ob) (op x y : Int32) : Prop := 1 ≤ op.toInt ∧ op.toInt ≤ 29 ∧ (op = 5 → ¬ C.2 1 (Int32.toNatClampNeg (y &&& 7)) = 0) ∧ (op = 9 → (C.1 6).toInt < 96) ∧ (op = 10 → 1 ≤ (C.1 6).toInt) ∧ (op = 18 → 0 < (S.1 10).toInt) ∧ (op = 25 → S.2 4 (Int32.toNatClampNeg (x - x / 20 * 20)) = 0) ∧ (op = 26 → 2 ≤ (C.1 6).toInt) ∧ (op = 21 → ∃ v : Int32, finB v ∧ (∀ Q : Int32 → Unit → Prop, Q v () → wp_X4_sum () (C.2 2 (Int32.toNatClampNeg (x &&& 3))) (C.2 2 (Int32.toNatClampNeg (y &&& 3))) Q) ∧ (∀ Q : Int32 → Unit → Prop, Q v () → wp_X8_sum () (C.2 2 (Int32.toNatClampNeg (x &&& 3))) (C.2 2 (Int32.toNatClampNeg (y &&& 3))) Q)) ∧ (op = 22 → ∃ v : Int32, finB v ∧ (∀ Q : Int32 → Unit → Prop, Q v () → wp_X4_product () (C.2 2 (Int32.toNatClampNeg (x &&& 3))) (C.2 2 (Int32.toNatClampNeg (y &&& 3))) Q) ∧ (∀ Q : Int32 → Unit → Prop, Q v () → wp_X8_product () (C.2 2 (Int32.toNatClampNeg (x &&& 3))) (C.2 2 (Int32.toNatClampNeg (y &&& 3))) Q))
def FP1 (nw : Bool) (K B r : Nat → Int32) (S A J C M : Ob) (op x y : Int32) : Prop := ∃ f : Int32, (f = -1 ∨ f = 18 ∨ f = 19) ∧ (∀ Q : Mac → Prop, wp_X3_running_L91 Q op x y f (K, S, A, J, C, B) → cFl Q K B S A J C op x y) ∧ (∀ Q : Int32 → Mod → Prop, Q f (M, r) → wp_X8_faultOf nw (M, r) op x y Q) ∧ (f = -1 → noF S C op x y)
theorem reg_at {C : Ob} {r : Nat → Int32} (c0 : rC0 C r) (x : Int32) : okI (x &&& 7) 8 ∧ okI (0 + (x &&& 7)) 342 ∧ Int32.toNatClampNeg (0 + (x &&& 7)) = Int32.toNatClampNeg (x &&& 7) ∧ r (Int32.toNatClampNeg (x &&& 7)) = C.2 1 (Int32.toNatClampNeg (x &&& 7)) ∧ Int32.toNatClampNeg (x &&& 7) < 8 := by
  have o := ok_7 x
  have o2 := ok_iff.mp o
  have e : 0 + (x &&& 7) = x &&& 7 := Int32.zero_add _
  have l : Int32.toNatClampNeg (x &&& 7) < 8 := by rw [i_nat]; omega
  refine ⟨o, by rw [e]; exact ok_iff.mpr (by omega), by rw [e], (c0.1 _ l).symm, l⟩
theorem sng_at {C : Ob} {r : Nat → Int32} (c0 : rC0 C r) (x : Int32) : okI (x &&& 3) 4 ∧ okI (8 + (x &&& 3)) 342 ∧ Int32.toNatClampNeg (8 + (x &&& 3)) = 8 + Int32.toNatClampNeg (x &&& 3) ∧ r (8 + Int32.toNatClampNeg (x &&& 3)) = C.2 2 (Int32.toNatClampNeg (x &&& 3)) ∧ Int32.toNatClampNeg (x &&& 3) < 4 := by
  have o := ok_3 x
  have o2 := ok_iff.mp o
  have e8 : (8 : Int32).toInt = 8 := rfl
  have of := off (a := 8) (k := x &&& 3) (by omega) (by omega) (by omega)
  have l : Int32.toNatClampNeg (x &&& 3) < 4 := by rw [i_nat]; omega
  exact ⟨o, of.1, of.2, (c0.2.1 _ l).symm, l⟩
theorem act_at {W : Ob} {nw : Bool} {N T : Int} {K B r : Nat → Int32} {S A J C M : Ob} {k : Int32} (h : MID W nw N T K S A J C B M r) (hk : okI k 21) : okI (300 + k) 342 ∧ r (Int32.toNatClampNeg (300 + k)) = S.2 4 k.toNatClampNeg ∧ isB (S.2 4 k.toNatClampNeg) := by
  obtain ⟨h0, h1⟩ := ok_iff.mp hk
  have e : (300 : Int32).toInt = 300 := rfl
  have o := off (a := 300) (k := k) (by omega) (by omega) (by omega)
  have q := h.1.1.2.2.2.2.1 k.toNatClampNeg (by rw [i_nat]; omega)
  refine ⟨o.1, ?_, q.2⟩
  rw [o.2, show (300 : Int32).toNatClampNeg = 300 from rfl]
  exact q.1.symm
theorem fault_pair {W : Ob} {nw : Bool} {N T : Int} {K B r : Nat → Int32} {S A J C M : Ob} {op x y : Int32} (h : MID W nw N T K S A J C B M r) (ho : 0 ≤ op.toInt) (hx : 0 ≤ x.toInt) : FP1 nw K B r S A J C M op x y := by
  obtain ⟨c0, cb, -⟩ := h.2.2.2.1
  have e15 : C.1 6 = r 15 := c0.2.2.2.2.2.2.2.1
  have hsp := cb.2.2.2.1
  have e30 : S.1 10 = r 30 := (MID_lim h).1.1
  have d0 : 0 ≤ (S.1 10).toInt := (MID_lim h).1.2.1
  have l0 : (0 : Int32).toInt = 0 := rfl
  have l1 : (1 : Int32).toInt = 1 := rfl
  have l2 : (2 : Int32).toInt = 2 := rfl
  have l29 : (29 : Int32).toInt = 29 := rfl
  have l96 : (96 : Int32).toInt = 96 := rfl
  by_cases z0 : op = 0
  · subst z0
    refine ⟨18, Or.inr (Or.inl rfl), fun Q hQ => ?_, fun Q hQ => ?_, fun z => absurd z (by decide)⟩
    · unfold cFl wp_X1_faultOf
      exact ⟨fun _ => ⟨fun _ => l66 (by decide) hQ, fun z => absurd z (by decide)⟩, fun z => absurd (by decide) z⟩
    · unfold wp_X8_faultOf
      exact ⟨fun _ => hQ, fun z => absurd rfl z⟩
  have p1 : ¬ op < 1 := fun z => by
    rw [i_lt] at z
    exact z0 (i_eq.mpr (by omega))
  by_cases z29 : op ≤ 29
  case neg =>
    have n18 : ¬ op = 18 := fun z => z29 (by rw [z]; decide)
    have n25 : ¬ op = 25 := fun z => z29 (by rw [z]; decide)
    refine ⟨18, Or.inr (Or.inl rfl), fun Q hQ => ?_, fun Q hQ => ?_, fun z => absurd z (by decide)⟩
    · unfold cFl wp_X1_faultOf
      exact ⟨fun z => absurd z p1, fun _ => ⟨fun z => absurd z z29, fun _ => ⟨fun _ => l66 n25 hQ, fun z => absurd z n18⟩⟩⟩
    · unfold wp_X8_faultOf
      exact ⟨fun z => absurd z z0, fun _ => ⟨fun z => absurd z z29, fun _ => hQ⟩⟩
  case pos =>
  have q1 : 1 ≤ op.toInt := by rw [i_lt] at p1; omega
  have q29 : op.toInt ≤ 29 := by rw [i_le] at z29; omega
  by_cases z5 : op = 5
  · subst z5
    obtain ⟨o1, o2, o3, o4, -⟩ := reg_at c0 y
    by_cases d : C.2 1 (Int32.toNatClampNeg (y &&& 7)) = 0
    · refine ⟨18, Or.inr (Or.inl rfl), fun Q hQ => ?_, fun Q hQ => ?_, fun z => absurd z (by decide)⟩
      · unfold cFl wp_X1_faultOf
        exact ⟨fun z => absurd z p1, fun _ => ⟨fun _ => ⟨fun _ => ⟨o1, fun z => absurd d z, fun _ => ⟨fun _ => l66 (by decide) hQ, fun z => absurd z (by decide)⟩⟩, fun z => absurd z (by decide), fun z => absurd z (by decide), fun z => absurd z (by decide), fun z => absurd z (by decide), fun z => absurd z (by decide), fun z => absurd rfl z⟩, fun z => absurd z29 z⟩⟩
      · unfold wp_X8_faultOf
        dsimp only
        rw [o3, o4]
        exact ⟨fun z => absurd z z0, fun _ => ⟨fun _ => ⟨fun z => absurd rfl z, fun _ => ⟨o2, fun z => absurd d z, fun _ => hQ⟩⟩, fun z => absurd z29 z⟩⟩
    · refine ⟨-1, Or.inl rfl, fun Q hQ => ?_, fun Q hQ => ?_, fun _ => ⟨q1, q29, fun _ => d, fun z => absurd z (by decide), fun z => absurd z (by decide), fun z => absurd z (by decide), fun z => absurd z (by decide), fun z => absurd z (by decide), fun z => absurd z (by decide), fun z => absurd z (by decide)⟩⟩
      · unfold cFl wp_X1_faultOf
        exact ⟨fun z => absurd z p1, fun _ => ⟨fun _ => ⟨fun _ => ⟨o1, fun _ => ⟨fun _ => l66 (by decide) hQ, fun z => absurd z (by decide)⟩, fun z => absurd z d⟩, fun z => absurd z (by decide), fun z => absurd z (by decide), fun z => absurd z (by decide), fun z => absurd z (by decide), fun z => absurd z (by decide), fun z => absurd rfl z⟩, fun z => absurd z29 z⟩⟩
      · unfold wp_X8_faultOf wp_X8_faultOf_L33 wp_X8_faultOf_L51 wp_X8_faultOf_L67 wp_X8_faultOf_L83 wp_X8_faultOf_L118
        dsimp only
        rw [o3, o4]
        exact ⟨fun z => absurd z z0, fun _ => ⟨fun _ => ⟨fun z => absurd rfl z, fun _ => ⟨o2, fun _ => ⟨fun _ => ⟨fun _ => ⟨fun _ => ⟨fun _ => ⟨fun _ => ⟨fun _ => ⟨fun _ => hQ, fun z => absurd z (by decide)⟩, fun z => absurd z (by decide)⟩, fun z => absurd z (by decide)⟩, fun z => absurd z (by decide)⟩, fun z => absurd z (by decide)⟩, fun z => absurd z (by decide)⟩, fun z => absurd z (by decide)⟩, fun z => absurd z d⟩⟩, fun z => absurd z29 z⟩⟩
  by_cases z9 : op = 9
  · subst z9
    by_cases d : C.1 6 < 96
    · have dm : ¬ r 15 = 96 := fun z => by rw [← e15] at z; rw [z] at d; exact absurd d (by decide)
      refine ⟨-1, Or.inl rfl, fun Q hQ => ?_, fun Q hQ => ?_, fun _ => ⟨q1, q29, fun z => absurd z (by decide), fun _ => by rw [i_lt] at d; omega, fun z => absurd z (by decide), fun z => absurd z (by decide), fun z => absurd z (by decide), fun z => absurd z (by decide), fun z => absurd z (by decide), fun z => absurd z (by decide)⟩⟩
      · unfold cFl wp_X1_faultOf
        exact ⟨fun z => absurd z p1, fun _ => ⟨fun _ => ⟨fun z => absurd z (by decide), fun _ => ⟨fun _ => ⟨fun _ => l66 (by decide) hQ, fun z => absurd z (by decide)⟩, fun z => absurd d z⟩, fun z => absurd z (by decide), fun z => absurd z (by decide), fun z => absurd z (by decide), fun z => absurd z (by decide), fun _ z => absurd rfl z⟩, fun z => absurd z29 z⟩⟩
      · unfold wp_X8_faultOf wp_X8_faultOf_L33 wp_X8_faultOf_L51 wp_X8_faultOf_L67 wp_X8_faultOf_L83 wp_X8_faultOf_L118
        exact ⟨fun z => absurd z z0, fun _ => ⟨fun _ => ⟨fun _ => ⟨fun z => absurd rfl z, fun _ => ⟨fun _ => ⟨fun _ => ⟨fun _ => ⟨fun _ => ⟨fun _ => ⟨fun _ => ⟨fun _ => hQ, fun z => absurd z (by decide)⟩, fun z => absurd z (by decide)⟩, fun z => absurd z (by decide)⟩, fun z => absurd z (by decide)⟩, fun z => absurd z (by decide)⟩, fun z => absurd z (by decide)⟩, fun z => absurd z dm⟩⟩, fun z => absurd z (by decide)⟩, fun z => absurd z29 z⟩⟩
    · have dm : r 15 = 96 := by rw [← e15]; exact i_eq.mpr (by rw [i_lt] at d; omega)
      refine ⟨19, Or.inr (Or.inr rfl), fun Q hQ => ?_, fun Q hQ => ?_, fun z => absurd z (by decide)⟩
      · unfold cFl wp_X1_faultOf
        exact ⟨fun z => absurd z p1, fun _ => ⟨fun _ => ⟨fun z => absurd z (by decide), fun _ => ⟨fun z => absurd z d, fun _ => ⟨fun _ => l66 (by decide) hQ, fun z => absurd z (by decide)⟩⟩, fun z => absurd z (by decide), fun z => absurd z (by decide), fun z => absurd z (by decide), fun z => absurd z (by decide), fun _ z => absurd rfl z⟩, fun z => absurd z29 z⟩⟩
      · unfold wp_X8_faultOf wp_X8_faultOf_L33
        exact ⟨fun z => absurd z z0, fun _ => ⟨fun _ => ⟨fun _ => ⟨fun z => absurd rfl z, fun _ => ⟨fun z => absurd dm z, fun _ => hQ⟩⟩, fun z => absurd z (by decide)⟩, fun z => absurd z29 z⟩⟩
  by_cases z10 : op = 10
  · subst z10
    by_cases d : 1 ≤ C.1 6
    · have dm : ¬ r 15 = 0 := fun z => by rw [← e15] at z; rw [z] at d; exact absurd d (by decide)
      refine ⟨-1, Or.inl rfl, fun Q hQ => ?_, fun Q hQ => ?_, fun _ => ⟨q1, q29, fun z => absurd z (by decide), fun z => absurd z (by decide), fun _ => by rw [i_le] at d; omega, fun z => absurd z (by decide), fun z => absurd z (by decide), fun z => absurd z (by decide), fun z => absurd z (by decide), fun z => absurd z (by decide)⟩⟩
      · unfold cFl wp_X1_faultOf
        exact ⟨fun z => absurd z p1, fun _ => ⟨fun _ => ⟨fun z => absurd z (by decide), fun z => absurd z (by decide), fun _ => ⟨fun _ => ⟨fun _ => l66 (by decide) hQ, fun z => absurd z (by decide)⟩, fun z => absurd d z⟩, fun z => absurd z (by decide), fun z => absurd z (by decide), fun z => absurd z (by decide), fun _ _ z => absurd rfl z⟩, fun z => absurd z29 z⟩⟩
      · unfold wp_X8_faultOf wp_X8_faultOf_L33 wp_X8_faultOf_L51 wp_X8_faultOf_L67 wp_X8_faultOf_L83 wp_X8_faultOf_L118
        exact ⟨fun z => absurd z z0, fun _ => ⟨fun _ => ⟨fun _ => ⟨fun _ => ⟨fun z => absurd rfl z, fun _ => ⟨fun _ => ⟨fun _ => ⟨fun _ => ⟨fun _ => ⟨fun _ => ⟨fun _ => hQ, fun z => absurd z (by decide)⟩, fun z => absurd z (by decide)⟩, fun z => absurd z (by decide)⟩, fun z => absurd z (by decide)⟩, fun z => absurd z (by decide)⟩, fun z => absurd z dm⟩⟩, fun z => absurd z (by decide)⟩, fun z => absurd z (by decide)⟩, fun z => absurd z29 z⟩⟩
    · have dm : r 15 = 0 := by rw [← e15]; exact i_eq.mpr (by rw [i_le] at d; omega)
      refine ⟨19, Or.inr (Or.inr rfl), fun Q hQ => ?_, fun Q hQ => ?_, fun z => absurd z (by decide)⟩
      · unfold cFl wp_X1_faultOf
        exact ⟨fun z => absurd z p1, fun _ => ⟨fun _ => ⟨fun z => absurd z (by decide), fun z => absurd z (by decide), fun _ => ⟨fun z => absurd z d, fun _ => ⟨fun _ => l66 (by decide) hQ, fun z => absurd z (by decide)⟩⟩, fun z => absurd z (by decide), fun z => absurd z (by decide), fun z => absurd z (by decide), fun _ _ z => absurd rfl z⟩, fun z => absurd z29 z⟩⟩
      · unfold wp_X8_faultOf wp_X8_faultOf_L33 wp_X8_faultOf_L51
        exact ⟨fun z => absurd z z0, fun _ => ⟨fun _ => ⟨fun _ => ⟨fun _ => ⟨fun z => absurd rfl z, fun _ => ⟨fun z => absurd dm z, fun _ => hQ⟩⟩, fun z => absurd z (by decide)⟩, fun z => absurd z (by decide)⟩, fun z => absurd z29 z⟩⟩
  by_cases z18 : op = 18
  · subst z18
    by_cases d : S.1 10 = 0
    · have dm : r 30 = 0 := by rw [← e30]; exact d
      refine ⟨18, Or.inr (Or.inl rfl), fun Q hQ => ?_, fun Q hQ => ?_, fun z => absurd z (by decide)⟩
      · unfold cFl wp_X1_faultOf
        exact ⟨fun z => absurd z p1, fun _ => ⟨fun _ => ⟨fun z => absurd z (by decide), fun z => absurd z (by decide), fun z => absurd z (by decide), fun z => absurd z (by decide), fun z => absurd z (by decide), fun z => absurd z (by decide), fun _ _ _ _ _ _ => ⟨fun z => absurd rfl z, fun _ => ⟨fun _ => hQ, fun z => absurd d z⟩⟩⟩, fun z => absurd z29 z⟩⟩
      · unfold wp_X8_faultOf wp_X8_faultOf_L33 wp_X8_faultOf_L51 wp_X8_faultOf_L67
        exact ⟨fun z => absurd z z0, fun _ => ⟨fun _ => ⟨fun _ => ⟨fun _ => ⟨fun _ => ⟨fun z => absurd rfl z, fun _ => ⟨fun z => absurd dm z, fun _ => hQ⟩⟩, fun z => absurd z (by decide)⟩, fun z => absurd z (by decide)⟩, fun z => absurd z (by decide)⟩, fun z => absurd z29 z⟩⟩
    · have dm : ¬ r 30 = 0 := by rw [← e30]; exact d
      have d2 : ¬ (S.1 10).toInt = 0 := fun z => d (i_eq.mpr z)
      refine ⟨-1, Or.inl rfl, fun Q hQ => ?_, fun Q hQ => ?_, fun _ => ⟨q1, q29, fun z => absurd z (by decide), fun z => absurd z (by decide), fun z => absurd z (by decide), fun _ => by omega, fun z => absurd z (by decide), fun z => absurd z (by decide), fun z => absurd z (by decide), fun z => absurd z (by decide)⟩⟩
      · unfold cFl wp_X1_faultOf
        exact ⟨fun z => absurd z p1, fun _ => ⟨fun _ => ⟨fun z => absurd z (by decide), fun z => absurd z (by decide), fun z => absurd z (by decide), fun z => absurd z (by decide), fun z => absurd z (by decide), fun z => absurd z (by decide), fun _ _ _ _ _ _ => ⟨fun z => absurd rfl z, fun _ => ⟨fun z => absurd z d, fun _ => l66 (by decide) hQ⟩⟩⟩, fun z => absurd z29 z⟩⟩
      · unfold wp_X8_faultOf wp_X8_faultOf_L33 wp_X8_faultOf_L51 wp_X8_faultOf_L67 wp_X8_faultOf_L83 wp_X8_faultOf_L118
        exact ⟨fun z => absurd z z0, fun _ => ⟨fun _ => ⟨fun _ => ⟨fun _ => ⟨fun _ => ⟨fun z => absurd rfl z, fun _ => ⟨fun _ => ⟨fun _ => ⟨fun _ => ⟨fun _ => ⟨fun _ => hQ, fun z => absurd z (by decide)⟩, fun z => absurd z (by decide)⟩, fun z => absurd z (by decide)⟩, fun z => absurd z (by decide)⟩, fun z => absurd z dm⟩⟩, fun z => absurd z (by decide)⟩, fun z => absurd z (by decide)⟩, fun z => absurd z (by decide)⟩, fun z => absurd z29 z⟩⟩
  by_cases z21 : op = 21
  · subst z21
    obtain ⟨o1, o2, o3, o4, o5⟩ := sng_at c0 x
    obtain ⟨w1, w2, w3, w4, w5⟩ := sng_at c0 y
    obtain ⟨v, v1, v2⟩ := fsum_pair (cb.2.2.2.2.2.2.2.2 _ o5) (cb.2.2.2.2.2.2.2.2 _ w5)
    by_cases d : v &&& 2139095040 = 2139095040
    · refine ⟨18, Or.inr (Or.inl rfl), fun Q hQ => ?_, fun Q hQ => ?_, fun z => absurd z (by decide)⟩
      · unfold cFl wp_X1_faultOf
        refine ⟨fun z => absurd z p1, fun _ => ⟨fun _ => ⟨fun z => absurd z (by decide), fun z => absurd z (by decide), fun z => absurd z (by decide), fun _ => ⟨o1, w1, v1 _ (isFin_class ?_)⟩, fun z => absurd z (by decide), fun z => absurd z (by decide), fun _ _ _ z => absurd rfl z⟩, fun z => absurd z29 z⟩⟩
        rw [if_pos d]
        exact ⟨fun _ => ⟨fun _ => l66 (by decide) hQ, fun z => absurd z (by decide)⟩, fun z => absurd rfl z⟩
      · unfold wp_X8_faultOf wp_X8_faultOf_L33 wp_X8_faultOf_L51 wp_X8_faultOf_L67 wp_X8_faultOf_L83
        dsimp only
        rw [o3, o4, w3, w4]
        refine ⟨fun z => absurd z z0, fun _ => ⟨fun _ => ⟨fun _ => ⟨fun _ => ⟨fun _ => ⟨fun _ => ⟨fun z => absurd rfl z, fun _ => ⟨o2, w2, v2 _ (isFin_model ?_)⟩⟩, fun z => absurd z (by decide)⟩, fun z => absurd z (by decide)⟩, fun z => absurd z (by decide)⟩, fun z => absurd z (by decide)⟩, fun z => absurd z29 z⟩⟩
        rw [if_pos d]
        exact ⟨fun z => absurd rfl z, fun _ => hQ⟩
    · refine ⟨-1, Or.inl rfl, fun Q hQ => ?_, fun Q hQ => ?_, fun _ => ⟨q1, q29, fun z => absurd z (by decide), fun z => absurd z (by decide), fun z => absurd z (by decide), fun z => absurd z (by decide), fun z => absurd z (by decide), fun z => absurd z (by decide), fun _ => ⟨v, d, v1, v2⟩, fun z => absurd z (by decide)⟩⟩
      · unfold cFl wp_X1_faultOf
        refine ⟨fun z => absurd z p1, fun _ => ⟨fun _ => ⟨fun z => absurd z (by decide), fun z => absurd z (by decide), fun z => absurd z (by decide), fun _ => ⟨o1, w1, v1 _ (isFin_class ?_)⟩, fun z => absurd z (by decide), fun z => absurd z (by decide), fun _ _ _ z => absurd rfl z⟩, fun z => absurd z29 z⟩⟩
        rw [if_neg d]
        exact ⟨fun z => absurd z (by decide), fun _ => ⟨fun _ => l66 (by decide) hQ, fun z => absurd z (by decide)⟩⟩
      · unfold wp_X8_faultOf wp_X8_faultOf_L33 wp_X8_faultOf_L51 wp_X8_faultOf_L67 wp_X8_faultOf_L83 wp_X8_faultOf_L118
        dsimp only
        rw [o3, o4, w3, w4]
        refine ⟨fun z => absurd z z0, fun _ => ⟨fun _ => ⟨fun _ => ⟨fun _ => ⟨fun _ => ⟨fun _ => ⟨fun z => absurd rfl z, fun _ => ⟨o2, w2, v2 _ (isFin_model ?_)⟩⟩, fun z => absurd z (by decide)⟩, fun z => absurd z (by decide)⟩, fun z => absurd z (by decide)⟩, fun z => absurd z (by decide)⟩, fun z => absurd z29 z⟩⟩
        rw [if_neg d]
        exact ⟨fun _ => ⟨fun _ => ⟨fun _ => ⟨fun _ => hQ, fun z => absurd z (by decide)⟩, fun z => absurd z (by decide)⟩, fun z => absurd z (by decide)⟩, fun z => absurd z (by decide)⟩
  by_cases z22 : op = 22
  · subst z22
    obtain ⟨o1, o2, o3, o4, o5⟩ := sng_at c0 x
    obtain ⟨w1, w2, w3, w4, w5⟩ := sng_at c0 y
    obtain ⟨v, v1, v2⟩ := fprod_pair (cb.2.2.2.2.2.2.2.2 _ o5) (cb.2.2.2.2.2.2.2.2 _ w5)
    by_cases d : v &&& 2139095040 = 2139095040
    · refine ⟨18, Or.inr (Or.inl rfl), fun Q hQ => ?_, fun Q hQ => ?_, fun z => absurd z (by decide)⟩
      · unfold cFl wp_X1_faultOf
        refine ⟨fun z => absurd z p1, fun _ => ⟨fun _ => ⟨fun z => absurd z (by decide), fun z => absurd z (by decide), fun z => absurd z (by decide), fun z => absurd z (by decide), fun _ => ⟨o1, w1, v1 _ (isFin_class ?_)⟩, fun z => absurd z (by decide), fun _ _ _ _ z => absurd rfl z⟩, fun z => absurd z29 z⟩⟩
        rw [if_pos d]
        exact ⟨fun _ => ⟨fun _ => l66 (by decide) hQ, fun z => absurd z (by decide)⟩, fun z => absurd rfl z⟩
      · unfold wp_X8_faultOf wp_X8_faultOf_L33 wp_X8_faultOf_L51 wp_X8_faultOf_L67 wp_X8_faultOf_L83 wp_X8_faultOf_L118
        dsimp only
        rw [o3, o4, w3, w4]
        refine ⟨fun z => absurd z z0, fun _ => ⟨fun _ => ⟨fun _ => ⟨fun _ => ⟨fun _ => ⟨fun _ => ⟨fun _ => ⟨fun z => absurd rfl z, fun _ => ⟨o2, w2, v2 _ (isFin_model ?_)⟩⟩, fun z => absurd z (by decide)⟩, fun z => absurd z (by decide)⟩, fun z => absurd z (by decide)⟩, fun z => absurd z (by decide)⟩, fun z => absurd z (by decide)⟩, fun z => absurd z29 z⟩⟩
        rw [if_pos d]
        exact ⟨fun z => absurd rfl z, fun _ => hQ⟩
    · refine ⟨-1, Or.inl rfl, fun Q hQ => ?_, fun Q hQ => ?_, fun _ => ⟨q1, q29, fun z => absurd z (by decide), fun z => absurd z (by decide), fun z => absurd z (by decide), fun z => absurd z (by decide), fun z => absurd z (by decide), fun z => absurd z (by decide), fun z => absurd z (by decide), fun _ => ⟨v, d, v1, v2⟩⟩⟩
      · unfold cFl wp_X1_faultOf
        refine ⟨fun z => absurd z p1, fun _ => ⟨fun _ => ⟨fun z => absurd z (by decide), fun z => absurd z (by decide), fun z => absurd z (by decide), fun z => absurd z (by decide), fun _ => ⟨o1, w1, v1 _ (isFin_class ?_)⟩, fun z => absurd z (by decide), fun _ _ _ _ z => absurd rfl z⟩, fun z => absurd z29 z⟩⟩
        rw [if_neg d]
        exact ⟨fun z => absurd z (by decide), fun _ => ⟨fun _ => l66 (by decide) hQ, fun z => absurd z (by decide)⟩⟩
      · unfold wp_X8_faultOf wp_X8_faultOf_L33 wp_X8_faultOf_L51 wp_X8_faultOf_L67 wp_X8_faultOf_L83 wp_X8_faultOf_L118
        dsimp only
        rw [o3, o4, w3, w4]
        refine ⟨fun z => absurd z z0, fun _ => ⟨fun _ => ⟨fun _ => ⟨fun _ => ⟨fun _ => ⟨fun _ => ⟨fun _ => ⟨fun z => absurd rfl z, fun _ => ⟨o2, w2, v2 _ (isFin_model ?_)⟩⟩, fun z => absurd z (by decide)⟩, fun z => absurd z (by decide)⟩, fun z => absurd z (by decide)⟩, fun z => absurd z (by decide)⟩, fun z => absurd z (by decide)⟩, fun z => absurd z29 z⟩⟩
        rw [if_neg d]
        exact ⟨fun _ => ⟨fun _ => ⟨fun _ => hQ, fun z => absurd z (by decide)⟩, fun z => absurd z (by decide)⟩, fun z => absurd z (by decide)⟩
  by_cases z25 : op = 25
  · subst z25
    have rr := rem20 hx
    have ok : okI (x - x / 20 * 20) 21 := ok_iff.mpr (by omega)
    obtain ⟨o2, o3, o4⟩ := act_at h ok
    by_cases d : S.2 4 (Int32.toNatClampNeg (x - x / 20 * 20)) = 0
    · refine ⟨-1, Or.inl rfl, fun Q hQ => ?_, fun Q hQ => ?_, fun _ => ⟨q1, q29, fun z => absurd z (by decide), fun z => absurd z (by decide), fun z => absurd z (by decide), fun z => absurd z (by decide), fun _ => d, fun z => absurd z (by decide), fun z => absurd z (by decide), fun z => absurd z (by decide)⟩⟩
      · unfold cFl wp_X1_faultOf wp_X3_running_L66
        exact ⟨fun z => absurd z p1, fun _ => ⟨fun _ => ⟨fun z => absurd z (by decide), fun z => absurd z (by decide), fun z => absurd z (by decide), fun z => absurd z (by decide), fun z => absurd z (by decide), fun z => absurd z (by decide), fun _ _ _ _ _ _ => ⟨fun _ => ⟨fun z => absurd rfl z, fun _ => ⟨ok, fun _ => hQ, fun z => absurd d z⟩⟩, fun z => absurd z (by decide)⟩⟩, fun z => absurd z29 z⟩⟩
      · unfold wp_X8_faultOf wp_X8_faultOf_L33 wp_X8_faultOf_L51 wp_X8_faultOf_L67 wp_X8_faultOf_L83 wp_X8_faultOf_L118
        dsimp only
        rw [o3]
        exact ⟨fun z => absurd z z0, fun _ => ⟨fun _ => ⟨fun _ => ⟨fun _ => ⟨fun _ => ⟨fun _ => ⟨fun _ => ⟨fun _ => ⟨fun z => absurd rfl z, fun _ => ⟨o2, fun _ => ⟨fun _ => hQ, fun z => absurd z (by decide)⟩, fun z => absurd (d.symm.trans z) (by decide)⟩⟩, fun z => absurd z (by decide)⟩, fun z => absurd z (by decide)⟩, fun z => absurd z (by decide)⟩, fun z => absurd z (by decide)⟩, fun z => absurd z (by decide)⟩, fun z => absurd z (by decide)⟩, fun z => absurd z29 z⟩⟩
    · have d1 := isB_ne o4 d
      refine ⟨18, Or.inr (Or.inl rfl), fun Q hQ => ?_, fun Q hQ => ?_, fun z => absurd z (by decide)⟩
      · unfold cFl wp_X1_faultOf wp_X3_running_L66
        exact ⟨fun z => absurd z p1, fun _ => ⟨fun _ => ⟨fun z => absurd z (by decide), fun z => absurd z (by decide), fun z => absurd z (by decide), fun z => absurd z (by decide), fun z => absurd z (by decide), fun z => absurd z (by decide), fun _ _ _ _ _ _ => ⟨fun _ => ⟨fun z => absurd rfl z, fun _ => ⟨ok, fun z => absurd z d, fun _ => hQ⟩⟩, fun z => absurd z (by decide)⟩⟩, fun z => absurd z29 z⟩⟩
      · unfold wp_X8_faultOf wp_X8_faultOf_L33 wp_X8_faultOf_L51 wp_X8_faultOf_L67 wp_X8_faultOf_L83 wp_X8_faultOf_L118
        dsimp only
        rw [o3]
        exact ⟨fun z => absurd z z0, fun _ => ⟨fun _ => ⟨fun _ => ⟨fun _ => ⟨fun _ => ⟨fun _ => ⟨fun _ => ⟨fun _ => ⟨fun z => absurd rfl z, fun _ => ⟨o2, fun z => absurd d1 z, fun _ => hQ⟩⟩, fun z => absurd z (by decide)⟩, fun z => absurd z (by decide)⟩, fun z => absurd z (by decide)⟩, fun z => absurd z (by decide)⟩, fun z => absurd z (by decide)⟩, fun z => absurd z (by decide)⟩, fun z => absurd z29 z⟩⟩
  by_cases z26 : op = 26
  · subst z26
    by_cases d : 2 ≤ C.1 6
    · have dm : 2 ≤ r 15 := by rw [← e15]; exact d
      refine ⟨-1, Or.inl rfl, fun Q hQ => ?_, fun Q hQ => ?_, fun _ => ⟨q1, q29, fun z => absurd z (by decide), fun z => absurd z (by decide), fun z => absurd z (by decide), fun z => absurd z (by decide), fun z => absurd z (by decide), fun _ => by rw [i_le] at d; omega, fun z => absurd z (by decide), fun z => absurd z (by decide)⟩⟩
      · unfold cFl wp_X1_faultOf
        exact ⟨fun z => absurd z p1, fun _ => ⟨fun _ => ⟨fun z => absurd z (by decide), fun z => absurd z (by decide), fun z => absurd z (by decide), fun z => absurd z (by decide), fun z => absurd z (by decide), fun _ => ⟨fun _ => ⟨fun _ => l66 (by decide) hQ, fun z => absurd z (by decide)⟩, fun z => absurd d z⟩, fun _ _ _ _ _ z => absurd rfl z⟩, fun z => absurd z29 z⟩⟩
      · unfold wp_X8_faultOf wp_X8_faultOf_L33 wp_X8_faultOf_L51 wp_X8_faultOf_L67 wp_X8_faultOf_L83 wp_X8_faultOf_L118
        exact ⟨fun z => absurd z z0, fun _ => ⟨fun _ => ⟨fun _ => ⟨fun _ => ⟨fun _ => ⟨fun _ => ⟨fun _ => ⟨fun _ => ⟨fun _ => ⟨fun z => absurd rfl z, fun _ => ⟨fun _ => hQ, fun z => absurd dm z⟩⟩, fun z => absurd z (by decide)⟩, fun z => absurd z (by decide)⟩, fun z => absurd z (by decide)⟩, fun z => absurd z (by decide)⟩, fun z => absurd z (by decide)⟩, fun z => absurd z (by decide)⟩, fun z => absurd z (by decide)⟩, fun z => absurd z29 z⟩⟩
    · have dm : ¬ 2 ≤ r 15 := by rw [← e15]; exact d
      refine ⟨19, Or.inr (Or.inr rfl), fun Q hQ => ?_, fun Q hQ => ?_, fun z => absurd z (by decide)⟩
      · unfold cFl wp_X1_faultOf
        exact ⟨fun z => absurd z p1, fun _ => ⟨fun _ => ⟨fun z => absurd z (by decide), fun z => absurd z (by decide), fun z => absurd z (by decide), fun z => absurd z (by decide), fun z => absurd z (by decide), fun _ => ⟨fun z => absurd z d, fun _ => ⟨fun _ => l66 (by decide) hQ, fun z => absurd z (by decide)⟩⟩, fun _ _ _ _ _ z => absurd rfl z⟩, fun z => absurd z29 z⟩⟩
      · unfold wp_X8_faultOf wp_X8_faultOf_L33 wp_X8_faultOf_L51 wp_X8_faultOf_L67 wp_X8_faultOf_L83 wp_X8_faultOf_L118
        exact ⟨fun z => absurd z z0, fun _ => ⟨fun _ => ⟨fun _ => ⟨fun _ => ⟨fun _ => ⟨fun _ => ⟨fun _ => ⟨fun _ => ⟨fun _ => ⟨fun z => absurd rfl z, fun _ => ⟨fun z => absurd z dm, fun _ => hQ⟩⟩, fun z => absurd z (by decide)⟩, fun z => absurd z (by decide)⟩, fun z => absurd z (by decide)⟩, fun z => absurd z (by decide)⟩, fun z => absurd z (by decide)⟩, fun z => absurd z (by decide)⟩, fun z => absurd z (by decide)⟩, fun z => absurd z29 z⟩⟩
  refine ⟨-1, Or.inl rfl, fun Q hQ => ?_, fun Q hQ => ?_, fun _ => ⟨q1, q29, fun z => absurd z z5, fun z => absurd z z9, fun z => absurd z z10, fun z => absurd z z18, fun z => absurd z z25, fun z => absurd z z26, fun z => absurd z z21, fun z => absurd z z22⟩⟩
  · unfold cFl wp_X1_faultOf
    exact ⟨fun z => absurd z p1, fun _ => ⟨fun _ => ⟨fun z => absurd z z5, fun z => absurd z z9, fun z => absurd z z10, fun z => absurd z z21, fun z => absurd z z22, fun z => absurd z z26, fun _ _ _ _ _ _ => ⟨fun _ => l66 z25 hQ, fun z => absurd z z18⟩⟩, fun z => absurd z29 z⟩⟩
  · unfold wp_X8_faultOf wp_X8_faultOf_L33 wp_X8_faultOf_L51 wp_X8_faultOf_L67 wp_X8_faultOf_L83 wp_X8_faultOf_L118
    exact ⟨fun z => absurd z z0, fun _ => ⟨fun _ => ⟨fun _ => ⟨fun _ => ⟨fun _ => ⟨fun _ => ⟨fun _ => ⟨fun _ => ⟨fun _ => ⟨fun _ => hQ, fun z => absurd z z26⟩, fun z => absurd z z25⟩, fun z => absurd z z22⟩, fun z => absurd z z21⟩, fun z => absurd z z18⟩, fun z => absurd z z10⟩, fun z => absurd z z9⟩, fun z => absurd z z5⟩, fun z => absurd z29 z⟩⟩
