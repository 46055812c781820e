/-! LAYER 2: keeps -/
/-- whether what is given back is the same: first and second row -/
def likF (x y : Nat → Int32) : Prop := (∀ k : Nat, k < 4 → x k = y k ∧ x (8 + k) = y (8 + k)) ∧ x 12 = y 12 ∧ x 13 = y 13 ∧ x 14 = y 14 ∧ x 15 = y 15
theorem like_class {D C : Ob} {x y : Nat → Int32} {Q : Int32 → Ob × Ob → Prop} (d : rC0 D x) (c : rC0 C y) (h1 : likF x y → Q 1 (D, C)) (h0 : ¬ likF x y → Q 0 (D, C)) : ∀ (m i n : Nat), i + m = 4 → m < n → (∀ k : Nat, k < i → x k = y k ∧ x (8 + k) = y (8 + k)) → wp_X1_isLike_L2 Q n (Int32.ofNat i) (D, C) := by
  have l4 : (4 : Int32).toInt = 4 := rfl
  have e5 : D.1 5 = C.1 5 ↔ x 12 = y 12 := by rw [d.2.2.2.2.1, c.2.2.2.2.1]
  have e8 : D.1 8 = C.1 8 ↔ x 13 = y 13 := by rw [d.2.2.2.2.2.1, c.2.2.2.2.2.1]
  have e9 : D.1 9 = C.1 9 ↔ x 14 = y 14 := by rw [d.2.2.2.2.2.2.1, c.2.2.2.2.2.2.1]
  have e6 : D.1 6 = C.1 6 ↔ x 15 = y 15 := by rw [d.2.2.2.2.2.2.2.1, c.2.2.2.2.2.2.2.1]
  intro m
  induction m with
  | zero =>
    intro i n hi hn hk
    obtain ⟨n, rfl⟩ : ∃ z, n = z + 1 := ⟨n - 1, by omega⟩
    have e : i = 4 := by omega
    subst e
    unfold wp_X1_isLike_L2
    refine ⟨fun _ => ⟨fun z => h0 (fun w => z (e5.mpr w.2.1)), fun z5 => ⟨fun z => h0 (fun w => z (e8.mpr w.2.2.1)), fun z8 => ⟨fun z => h0 (fun w => z (e9.mpr w.2.2.2.1)), fun z9 => ⟨fun z => h0 (fun w => z (e6.mpr w.2.2.2.2)), fun z6 => h1 ⟨hk, e5.mp z5, e8.mp z8, e9.mp z9, e6.mp z6⟩⟩⟩⟩⟩, fun z => absurd (by decide) z⟩
  | succ m ih =>
    intro i n hi hn hk
    obtain ⟨n, rfl⟩ : ∃ z, n = z + 1 := ⟨n - 1, by omega⟩
    have hi0 := i_ofNat (k := i) (by omega)
    have hin := n_of (k := i) (by omega)
    have his := of_succ (k := i) (by omega)
    have ok8 : okI (Int32.ofNat i) 8 := ok_iff.mpr (by omega)
    have ok4 : okI (Int32.ofNat i) 4 := ok_iff.mpr (by omega)
    have r1 : D.2 1 i = C.2 1 i ↔ x i = y i := by rw [d.1 i (by omega), c.1 i (by omega)]
    have r2 : D.2 2 i = C.2 2 i ↔ x (8 + i) = y (8 + i) := by rw [d.2.1 i (by omega), c.2.1 i (by omega)]
    unfold wp_X1_isLike_L2
    dsimp only
    rw [hin]
    refine ⟨fun z => absurd (i_le.mp z) (by omega), fun _ => ⟨ok8, ok8, fun z => h0 (fun w => z (r1.mpr (w.1 i (by omega)).1)), fun z1 => ⟨ok4, ok4, fun z2 x8 f8 => ?_, fun z => h0 (fun w => z (r2.mpr (w.1 i (by omega)).2))⟩⟩⟩
    rw [f8, his]
    refine ih (i + 1) n (by omega) (by omega) (fun k hk2 => ?_)
    by_cases c : k = i
    · subst c; exact ⟨r1.mp z1, r2.mp z2⟩
    · exact hk k (by omega)
theorem like_model {M : Ob} {Q : Int32 → Ob → Prop} (h1 : likF (M.2 5) (M.2 4) → Q 1 M) (h0 : ¬ likF (M.2 5) (M.2 4) → Q 0 M) : ∀ (m i n : Nat), i + m = 4 → m < n → (∀ k : Nat, k < i → M.2 5 k = M.2 4 k ∧ M.2 5 (8 + k) = M.2 4 (8 + k)) → wp_X8_isLikeNow_L2 Q n (Int32.ofNat i) M := by
  have l4 : (4 : Int32).toInt = 4 := rfl
  have l8 : (8 : Int32).toInt = 8 := rfl
  have l0 : (0 : Int32).toInt = 0 := rfl
  intro m
  induction m with
  | zero =>
    intro i n hi hn hk
    obtain ⟨n, rfl⟩ : ∃ z, n = z + 1 := ⟨n - 1, by omega⟩
    have e : i = 4 := by omega
    subst e
    unfold wp_X8_isLikeNow_L2
    refine ⟨fun _ => ⟨fun z => h0 (fun w => z w.2.1), fun z5 => ⟨fun z => h0 (fun w => z w.2.2.1), fun z8 => ⟨fun z => h0 (fun w => z w.2.2.2.1), fun z9 => ⟨fun z => h0 (fun w => z w.2.2.2.2), fun z6 => h1 ⟨hk, z5, z8, z9, z6⟩⟩⟩⟩⟩, fun z => absurd (by decide) z⟩
  | succ m ih =>
    intro i n hi hn hk
    obtain ⟨n, rfl⟩ : ∃ z, n = z + 1 := ⟨n - 1, by omega⟩
    have hi0 := i_ofNat (k := i) (by omega)
    have hin := n_of (k := i) (by omega)
    have his := of_succ (k := i) (by omega)
    have o0 := off (a := 0) (k := Int32.ofNat i) (by omega) (by omega) (by omega)
    have o8 := off (a := 8) (k := Int32.ofNat i) (by omega) (by omega) (by omega)
    rw [hin, show (0 : Int32).toNatClampNeg = 0 from rfl, Nat.zero_add] at o0
    rw [hin, show (8 : Int32).toNatClampNeg = 8 from rfl] at o8
    unfold wp_X8_isLikeNow_L2
    rw [o0.2, o8.2]
    refine ⟨fun z => absurd (i_le.mp z) (by omega), fun _ => ⟨o0.1, o0.1, fun z => h0 (fun w => z (w.1 i (by omega)).1), fun z1 => ⟨o8.1, o8.1, fun z2 x8 f8 => ?_, fun z => h0 (fun w => z (w.1 i (by omega)).2)⟩⟩⟩
    rw [f8, his]
    refine ih (i + 1) n (by omega) (by omega) (fun k hk2 => ?_)
    by_cases c : k = i
    · subst c; exact ⟨z1, z2⟩
    · exact hk k (by omega)
/-- what the class does behind a cycle of keeps -/
theorem kp_class {Q : Int32 → TR7 → Prop} {n : Nat} {B K K2 : Nat → Int32} {S A J C S2 A2 J2 C2 Y : Ob} {y1 y2 y3 : Int32} (hb : isB y2) (h300 : ¬ 300 ≤ y3) (h5 : ¬ K2 5 = 5) {K' : Nat → Int32} {S' A' J' C' : Ob} (w1 : ∀ Q : Mac → Prop, Q (K', S', A', J', C', B) → wp_X3_cycle (K2, S2, A2, J2, C2, B) Q) (hend : (y2 = 1 ∨ ¬ S'.1 10 ≤ y1) → K' 5 = 0 → S'.1 10 = y1 → wp_X1_isLike (C', C) (fun r20 u19 => ((r20 = 0 → Q 0 (B, K, S, A, J, u19.2, K', S', A', J', u19.1, Y)) ∧ (¬ r20 = 0 → Q 1 (B, K, S, A, J, u19.2, K', S', A', J', u19.1, Y))))) (hgo : ¬ ((y2 = 1 ∨ ¬ S'.1 10 ≤ y1) ∧ K' 5 = 0 ∧ S'.1 10 = y1) → ∀ x14 : Int32, x14 = (y3 + 1) → wp_X7_keeps_L66 Q n y1 (if y2 = 1 ∨ ¬ S'.1 10 ≤ y1 then 1 else 0) x14 (B, K, S, A, J, C, K', S', A', J', C', Y)) : wp_X7_keeps_L66 Q (n + 1) y1 y2 y3 (B, K, S, A, J, C, K2, S2, A2, J2, C2, Y) := by
  have l109 : (y2 = 1 ∨ ¬ S'.1 10 ≤ y1) → wp_X7_keeps_L109 Q (wp_X7_keeps_L66 Q n) y1 y3 (B, K, S, A, J, C, K', S', A', J', C', Y) := by
    intro w
    rw [if_pos w] at hgo
    unfold wp_X7_keeps_L109
    exact ⟨fun z => absurd z (by decide), fun _ => ⟨fun z => hgo (fun v => z v.2.1), fun z5 => ⟨fun z => hgo (fun v => z v.2.2), fun z10 => hend w z5 z10⟩⟩⟩
  unfold wp_X7_keeps_L66
  refine ⟨fun z => absurd z h300, fun _ => ⟨fun z => absurd z h5, fun _ => w1 _ ⟨fun z => l109 (Or.inl (isB_ne hb z)), fun z => ⟨fun y => ⟨fun _ => ?_, fun w => absurd rfl w⟩, fun y => l109 (Or.inr y)⟩⟩⟩⟩
  have nw : ¬ (y2 = 1 ∨ ¬ S'.1 10 ≤ y1) := fun w => by
    rcases w with w | w
    · rw [z] at w; exact absurd w (by decide)
    · exact w y
  rw [if_neg nw] at hgo
  exact hgo (fun v => nw v.1)
theorem kp_model {Q : Int32 → Ob → Prop} {n : Nat} {M M1 : Ob} {r1 : Nat → Int32} {y1 y2 : Int32} (hb : isB y1) (h300 : ¬ 300 ≤ y2) (w2 : ∀ Q : Mod → Prop, Q (M1, r1) → wp_X8_cycle false (M, M.2 5) Q) (hend : (y1 = 1 ∨ ¬ r1 30 ≤ M.2 4 30) → r1 20 = 0 → r1 30 = M.2 4 30 → wp_X8_isLikeNow (mthen M M1 r1) (fun r18 u17 => ((r18 = 0 → Q 0 u17) ∧ (¬ r18 = 0 → Q 1 u17)))) (hgo : ¬ ((y1 = 1 ∨ ¬ r1 30 ≤ M.2 4 30) ∧ r1 20 = 0 ∧ r1 30 = M.2 4 30) → ∀ x12 : Int32, x12 = (y2 + 1) → wp_X8_keeps_L47 Q n (if y1 = 1 ∨ ¬ r1 30 ≤ M.2 4 30 then 1 else 0) x12 (mthen M M1 r1)) : wp_X8_keeps_L47 Q (n + 1) y1 y2 M := by
  unfold wp_X8_keeps_L47
  refine ⟨fun z => absurd z h300, fun _ => w2 _ ⟨fun y => ⟨fun z => ?_, fun z => ?_⟩, fun y => ?_⟩⟩
  · have y : r1 30 ≤ M.2 4 30 := y
    have nw : ¬ (y1 = 1 ∨ ¬ r1 30 ≤ M.2 4 30) := fun w => by
      rcases w with w | w
      · rw [z] at w; exact absurd w (by decide)
      · exact w y
    rw [if_neg nw, ← z] at hgo
    exact hgo (fun v => nw v.1)
  · have z1 := isB_ne hb z
    subst z1
    have w : (1 : Int32) = 1 ∨ ¬ r1 30 ≤ M.2 4 30 := Or.inl rfl
    rw [if_pos w] at hgo
    exact ⟨fun v => hgo (fun u => v u.2.2), fun v => ⟨fun u => hgo (fun t => u t.2.1), fun u => hend w u v⟩⟩
  · have w : y1 = 1 ∨ ¬ r1 30 ≤ M.2 4 30 := Or.inr y
    rw [if_pos w] at hgo
    exact ⟨fun v => absurd v (by decide), fun _ => ⟨fun v => hgo (fun u => v u.2.2), fun v => ⟨fun u => hgo (fun t => u t.2.1), fun u => hend w u v⟩⟩⟩
theorem kp_lock {W : Ob} {B : Nat → Int32} {J2 C2 : Ob} {T : Int} : ∀ (m i : Nat) (y1 : Int32) (N : Int) (K2 : Nat → Int32) (S2 A2 M : Ob), TWIN W N T B K2 S2 A2 J2 C2 M → K2 5 = 5 → isB y1 → i + m = 300 → N + m < 2000000000 → ∃ M' : Ob, (∀ (Q : Int32 → Ob → Prop) (n : Nat), m < n → Q (-1) M' → wp_X8_keeps_L47 Q n y1 (Int32.ofNat i) M) ∧ sameM W M' := by
  have l300 : (300 : Int32).toInt = 300 := rfl
  intro m
  induction m with
  | zero =>
    intro i y1 N K2 S2 A2 M h hl hb hi hN
    have hi0 := i_ofNat (k := i) (by omega)
    refine ⟨M, fun Q n hn hQ => ?_, s16 (TWIN_s h)⟩
    obtain ⟨n, rfl⟩ : ∃ z, n = z + 1 := ⟨n - 1, by omega⟩
    unfold wp_X8_keeps_L47
    exact ⟨fun _ => hQ, fun z => absurd (i_le.mpr (by omega)) z⟩
  | succ m ih =>
    intro i y1 N K2 S2 A2 M h hl hb hi hN
    have hi0 := i_ofNat (k := i) (by omega)
    have his := of_succ (k := i) (by omega)
    obtain ⟨K', S', A', M1, r1, w2, h2, hl2, e16, -, e20⟩ := twin_lock h hl (by omega)
    have hb2 : isB (if y1 = 1 ∨ ¬ r1 30 ≤ M.2 4 30 then (1 : Int32) else 0) := by split; exact isB1; exact isB0
    obtain ⟨M', u2, hs⟩ := ih (i + 1) _ (N + 1) K' S' A' _ h2 hl2 hb2 (by omega) (by omega)
    refine ⟨M', fun Q n hn hQ => ?_, hs⟩
    obtain ⟨n, rfl⟩ : ∃ z, n = z + 1 := ⟨n - 1, by omega⟩
    refine kp_model hb (by rw [i_le]; omega) w2 (fun _ z _ => ?_) (fun _ x12 e12 => ?_)
    · rw [e20] at z
      exact absurd z (by decide)
    · rw [e12, his]
      exact u2 Q n (by omega) hQ
theorem kp_loop {W : Ob} {B K r4 : Nat → Int32} {S A J C Y : Ob} (c0 : rC0 C r4) (w4 : W.2 4 = r4) (y1 : Int32) (e30 : y1 = r4 30) : ∀ (m i : Nat) (y2 : Int32) (N T : Int) (K2 : Nat → Int32) (S2 A2 J2 C2 M : Ob), TWIN W N T B K2 S2 A2 J2 C2 M → isB y2 → i + m = 300 → N + m < 2000000000 → T + 3 * m < 1999999990 → ∃ (v : Int32) (K' : Nat → Int32) (S' A' J' C' M' : Ob), (∀ (Q : Int32 → TR7 → Prop) (n : Nat), m < n → Q v (B, K, S, A, J, C, K', S', A', J', C', Y) → wp_X7_keeps_L66 Q n y1 y2 (Int32.ofNat i) (B, K, S, A, J, C, K2, S2, A2, J2, C2, Y)) ∧ (∀ (Q : Int32 → Ob → Prop) (n : Nat), m < n → Q v M' → wp_X8_keeps_L47 Q n y2 (Int32.ofNat i) M) ∧ sameM W M' ∧ rJb (T + 3 * m) J' := by
  have l300 : (300 : Int32).toInt = 300 := rfl
  intro m
  induction m with
  | zero =>
    intro i y2 N T K2 S2 A2 J2 C2 M h hb hi hN hT
    have hi0 := i_ofNat (k := i) (by omega)
    refine ⟨-1, K2, S2, A2, J2, C2, M, fun Q n hn hQ => ?_, fun Q n hn hQ => ?_, s16 (TWIN_s h), rJb_mono (TWIN_J h) (by omega)⟩
    · obtain ⟨n, rfl⟩ : ∃ z, n = z + 1 := ⟨n - 1, by omega⟩
      unfold wp_X7_keeps_L66
      exact ⟨fun _ => hQ, fun z => absurd (i_le.mpr (by omega)) z⟩
    · obtain ⟨n, rfl⟩ : ∃ z, n = z + 1 := ⟨n - 1, by omega⟩
      unfold wp_X8_keeps_L47
      exact ⟨fun _ => hQ, fun z => absurd (i_le.mpr (by omega)) z⟩
  | succ m ih =>
    intro i y2 N T K2 S2 A2 J2 C2 M h hb hi hN hT
    have hi0 := i_ofNat (k := i) (by omega)
    have his := of_succ (k := i) (by omega)
    have n300 : ¬ 300 ≤ Int32.ofNat i := by rw [i_le]; omega
    have m4 : M.2 4 = r4 := by rw [← w4]; exact (TWIN_s h).1 4 (by decide)
    by_cases c : K2 5 = 5
    · obtain ⟨M', u2, hs⟩ := kp_lock (m + 1) i y2 N K2 S2 A2 M h c hb hi (by omega)
      refine ⟨-1, K2, S2, A2, J2, C2, M', fun Q n hn hQ => ?_, u2, hs, rJb_mono (TWIN_J h) (by omega)⟩
      obtain ⟨n, rfl⟩ : ∃ z, n = z + 1 := ⟨n - 1, by omega⟩
      unfold wp_X7_keeps_L66
      exact ⟨fun _ => hQ, fun _ => ⟨fun _ => hQ, fun z => absurd c z⟩⟩
    · obtain ⟨K', S', A', J', C', M1, r1, w1, w2, h3, e7, ok7, e5, e10⟩ := twin_cycle h (by omega) (by omega)
      have hc1 : rC0 C' r1 := h3.1.2.2.2.1.1
      have eL : (y2 = 1 ∨ ¬ S'.1 10 ≤ y1) ↔ (y2 = 1 ∨ ¬ r1 30 ≤ M.2 4 30) := by rw [e10, e30, m4]
      have eA : ((y2 = 1 ∨ ¬ S'.1 10 ≤ y1) ∧ K' 5 = 0 ∧ S'.1 10 = y1) ↔ ((y2 = 1 ∨ ¬ r1 30 ≤ M.2 4 30) ∧ r1 20 = 0 ∧ r1 30 = M.2 4 30) := by rw [eL, e5, e10, e30, m4]
      by_cases d : (y2 = 1 ∨ ¬ S'.1 10 ≤ y1) ∧ K' 5 = 0 ∧ S'.1 10 = y1
      · have t5 : (mthen M M1 r1).2 5 = r1 := rfl
        have t4 : (mthen M M1 r1).2 4 = r4 := m4
        by_cases lk : likF r1 r4
        · refine ⟨1, K', S', A', J', C', _, fun Q n hn hQ => ?_, fun Q n hn hQ => ?_, s16 (TWIN_s h3), rJb_mono (TWIN_J h3) (by omega)⟩
          · obtain ⟨n, rfl⟩ : ∃ z, n = z + 1 := ⟨n - 1, by omega⟩
            refine kp_class hb n300 c w1 (fun _ _ _ => ?_) (fun z => absurd d z)
            unfold wp_X1_isLike
            exact like_class hc1 c0 (fun _ => ⟨fun z => absurd z (by decide), fun _ => hQ⟩) (fun z => absurd lk z) 4 0 2000 (by omega) (by omega) (fun k hk => absurd hk (by omega))
          · obtain ⟨n, rfl⟩ : ∃ z, n = z + 1 := ⟨n - 1, by omega⟩
            refine kp_model hb n300 w2 (fun _ _ _ => ?_) (fun z => absurd (eA.mp d) z)
            unfold wp_X8_isLikeNow
            refine like_model (fun _ => ⟨fun z => absurd z (by decide), fun _ => hQ⟩) (fun z => ?_) 4 0 2000 (by omega) (by omega) (fun k hk => absurd hk (by omega))
            rw [t5, t4] at z
            exact absurd lk z
        · refine ⟨0, K', S', A', J', C', _, fun Q n hn hQ => ?_, fun Q n hn hQ => ?_, s16 (TWIN_s h3), rJb_mono (TWIN_J h3) (by omega)⟩
          · obtain ⟨n, rfl⟩ : ∃ z, n = z + 1 := ⟨n - 1, by omega⟩
            refine kp_class hb n300 c w1 (fun _ _ _ => ?_) (fun z => absurd d z)
            unfold wp_X1_isLike
            exact like_class hc1 c0 (fun z => absurd z lk) (fun _ => ⟨fun _ => hQ, fun z => absurd rfl z⟩) 4 0 2000 (by omega) (by omega) (fun k hk => absurd hk (by omega))
          · obtain ⟨n, rfl⟩ : ∃ z, n = z + 1 := ⟨n - 1, by omega⟩
            refine kp_model hb n300 w2 (fun _ _ _ => ?_) (fun z => absurd (eA.mp d) z)
            unfold wp_X8_isLikeNow
            refine like_model (fun z => ?_) (fun _ => ⟨fun _ => hQ, fun z => absurd rfl z⟩) 4 0 2000 (by omega) (by omega) (fun k hk => absurd hk (by omega))
            rw [t5, t4] at z
            exact absurd z lk
      · have hb2 : isB (if y2 = 1 ∨ ¬ S'.1 10 ≤ y1 then (1 : Int32) else 0) := by split; exact isB1; exact isB0
        have ei : (if y2 = 1 ∨ ¬ r1 30 ≤ M.2 4 30 then (1 : Int32) else 0) = (if y2 = 1 ∨ ¬ S'.1 10 ≤ y1 then (1 : Int32) else 0) := by
          by_cases z : y2 = 1 ∨ ¬ S'.1 10 ≤ y1
          · rw [if_pos z, if_pos (eL.mp z)]
          · rw [if_neg z, if_neg (fun w => z (eL.mpr w))]
        obtain ⟨v, K'', S'', A'', J'', C'', M'', u1, u2, hs, hj⟩ := ih (i + 1) _ (N + 1) (T + 3) K' S' A' J' C' _ h3 hb2 (by omega) (by omega) (by omega)
        refine ⟨v, K'', S'', A'', J'', C'', M'', fun Q n hn hQ => ?_, fun Q n hn hQ => ?_, hs, rJb_mono hj (by omega)⟩
        · obtain ⟨n, rfl⟩ : ∃ z, n = z + 1 := ⟨n - 1, by omega⟩
          refine kp_class hb n300 c w1 (fun a b e => absurd ⟨a, b, e⟩ d) (fun _ x14 e14 => ?_)
          rw [e14, his]
          exact u1 Q n (by omega) hQ
        · obtain ⟨n, rfl⟩ : ∃ z, n = z + 1 := ⟨n - 1, by omega⟩
          refine kp_model hb n300 w2 (fun a b e => absurd (eA.mpr ⟨a, b, e⟩) d) (fun _ x12 e12 => ?_)
          rw [e12, his, ei]
          exact u2 Q n (by omega) hQ
theorem call_keeps {N T : Int} {B K K2 : Nat → Int32} {S A J C S2 A2 J2 C2 Y M : Ob} (h : REL N T B K S A J C J2 M) (hN : N < 1900000000) (hT : T < 1900000000) : FACE N T (fun Q => wp_X7_keeps (B, K, S, A, J, C, K2, S2, A2, J2, C2, Y) Q) (fun Q => wp_X8_keeps M Q) := by
  obtain ⟨hS, hA, hJ, hC, hB, hK, hp, hP, hJ2⟩ := id h
  have R : limR S (M.2 4) := hS.1.1.1.1
  have e20 : K 5 = M.2 4 20 := hK.2.1
  have e22 : C.1 10 = M.2 4 22 := hC.1.2.2.2.2.2.2.2.2.2.2.1
  have e30 : S.1 10 = M.2 4 30 := R.1.1
  by_cases a : K 5 = 0
  · have am : M.2 4 20 = 0 := e20.symm.trans a
    by_cases b : C.1 10 = 0
    · have bm : M.2 4 22 = 0 := e22.symm.trans b
      have okn : okB (nextF S (S.1 14)) := by
        rcases next_spec (S := S) (sh := S.1 14) with hn | hn
        · exact Or.inl hn
        · exact Or.inr hn.1
      by_cases c : nextF S (S.1 14) = -1
      · refine FACE_get (K2 := K2) (S2 := S2) (A2 := A2) (C2 := C2) (Y := Y) h (v := -1) (fun Q hQ => ?_) (fun Q hQ => ?_)
        · unfold wp_X7_keeps
          exact ⟨fun z => absurd a z, fun _ => ⟨fun z => absurd b z, fun _ => next_own_class R ⟨fun z => absurd c z, fun _ => hQ⟩⟩⟩
        · unfold wp_X8_keeps
          intro T1 e1
          subst e1
          refine ⟨fun z => absurd am z, fun _ => ⟨fun z => absurd bm z, fun _ => next_own_model (S := S) hS.1.1 ?_⟩⟩
          rw [mnow_self]
          exact ⟨fun z => absurd c ((okB_le okn).mp z), fun _ => hQ⟩
      · obtain ⟨K2', S2', A2', C2', M', w1, w2, htw, hr, h5, h4, -⟩ := twin_lay (K2 := K2) (S2 := S2) (A2 := A2) (C2 := C2) (Y := Y) (p := 0) (REL_17 (v := 0) h) isB0
        obtain ⟨v, K'', S'', A'', J'', C'', M'', u1, u2, hs, hj⟩ := kp_loop (K := K) (S := S) (A := A) (J := J) (Y := Y) hC.1 h4 (S.1 10) e30 300 0 0 N T K2' S2' A2' J2 C2' M' htw isB0 (by omega) (by omega) (by omega)
        refine ⟨v, _, _, _, _, _, _, K'', S'', A'', J'', C'', Y, _, fun Q hQ => ?_, fun Q hQ => ?_, REL_mono (REL_back hr hs (by omega) hj) (by omega) (by omega)⟩
        · unfold wp_X7_keeps
          refine ⟨fun z => absurd a z, fun _ => ⟨fun z => absurd b z, fun _ => next_own_class R ⟨fun _ => w1 _ ?_, fun z => absurd z c⟩⟩⟩
          intro x7 e7
          subst e7
          exact u1 Q 2000 (by omega) hQ
        · unfold wp_X8_keeps
          intro T1 e1
          subst e1
          refine ⟨fun z => absurd am z, fun _ => ⟨fun z => absurd bm z, fun _ => next_own_model (S := S) hS.1.1 ?_⟩⟩
          rw [mnow_self]
          exact ⟨fun _ => w2 _ (u2 Q 2000 (by omega) hQ), fun z => absurd ((okB_le okn).mpr c) z⟩
    · have bm : ¬ M.2 4 22 = 0 := fun z => b (e22.trans z)
      refine FACE_get (K2 := K2) (S2 := S2) (A2 := A2) (C2 := C2) (Y := Y) h (v := -1) (fun Q hQ => ?_) (fun Q hQ => ?_)
      · unfold wp_X7_keeps
        exact ⟨fun z => absurd a z, fun _ => ⟨fun _ => hQ, fun z => absurd z b⟩⟩
      · unfold wp_X8_keeps
        intro T1 e1
        subst e1
        exact ⟨fun z => absurd am z, fun _ => ⟨fun _ => hQ, fun z => absurd z bm⟩⟩
  · have am : ¬ M.2 4 20 = 0 := fun z => a (e20.trans z)
    refine FACE_get (K2 := K2) (S2 := S2) (A2 := A2) (C2 := C2) (Y := Y) h (v := -1) (fun Q hQ => ?_) (fun Q hQ => ?_)
    · unfold wp_X7_keeps
      exact ⟨fun _ => hQ, fun z => absurd z a⟩
    · unfold wp_X8_keeps
      intro T1 e1
      subst e1
      exact ⟨fun _ => hQ, fun z => absurd z am⟩
