/-! LAYER 2: what is foretold: soon, order, quiet -/
theorem cyc_K7 {K B : Nat → Int32} {S A J C : Ob} {v : Int32} {Q : Mac → Prop} (h : wp_X3_cycle (upd K 7 v, S, A, J, C, B) Q) : wp_X3_cycle (K, S, A, J, C, B) Q := by
  refine cyc_K (v := v) (w := K 11) rfl ?_
  have e : upd (upd K 7 v) 11 (K 11) = upd K 7 v := up_same (upd K 7 v) 11
  rw [e]
  exact h
/-- the twin goes by, where the reference's row does -/
theorem TWIN_of {W : Ob} {N T : Int} {B K' r1 : Nat → Int32} {S A J C M M1 : Ob} (hm : sameM W (si M 16 (-1))) (h : MID W false N T K' S A J C B M1 r1) (hP : rP K' C r1) : TWIN W N T B K' S A J C (mthen M M1 r1) ∧ sameM W (si (mthen M M1 r1) 16 (-1)) := by
  obtain ⟨hS, hA, hJ, hC, hB, hK, hF⟩ := h
  have hs : sameM W (si (mthen M M1 r1) 16 (-1)) := by
    have h1 := hF.1.2.1 rfl
    refine ⟨fun j hj => ?_, fun j hj => ?_⟩
    · show (if j = 5 then r1 else if j = 4 then M.2 4 else if 18 ≤ j then M.2 j else M1.2 j) = _
      rw [if_neg hj]
      by_cases c4 : j = 4
      · rw [if_pos c4, c4]; exact hm.1 4 (by decide)
      · rw [if_neg c4]
        by_cases c18 : 18 ≤ j
        · rw [if_pos c18]; exact hm.1 j hj
        · rw [if_neg c18]; exact h1.1 j hj
    · rw [si_ne hj]; exact h1.2 j hj
  exact ⟨⟨⟨rS_fr hS (fun _ _ => rfl) rfl rfl rfl rfl rfl rfl, hA, rJ_fr hJ (Int.le_refl _) (fun _ _ _ _ _ => rfl) rfl rfl rfl rfl rfl rfl, rC_fr hC (fun _ _ => rfl) rfl, rB_fr hB rfl, hK, ⟨⟨rfl, fun _ => hs, hF.1.2.2.1, Or.inl rfl⟩, hF.2⟩⟩, hP⟩, hs⟩
theorem twin_cycle {W : Ob} {N T : Int} {B K2 : Nat → Int32} {S2 A2 J2 C2 M : Ob} (h : TWIN W N T B K2 S2 A2 J2 C2 M) (hN : N < 2000000000) (hT : T < 1999999990) : ∃ (K' : Nat → Int32) (S' A' J' C' M1 : Ob) (r1 : Nat → Int32), (∀ Q : Mac → Prop, Q (K', S', A', J', C', B) → wp_X3_cycle (K2, S2, A2, J2, C2, B) Q) ∧ (∀ Q : Mod → Prop, Q (M1, r1) → wp_X8_cycle false (M, M.2 5) Q) ∧ TWIN W (N + 1) (T + 3) B K' S' A' J' C' (mthen M M1 r1) ∧ K' 7 = M1.1 16 ∧ okB (K' 7) ∧ K' 5 = r1 20 ∧ S'.1 10 = r1 30 := by
  obtain ⟨K', S', A', J', C', M1, r1, w1, w2, h2, p2⟩ := cycle_pair h.1 (rP_fr h.2 rfl rfl rfl rfl rfl (fun _ _ => rfl)) hN hT
  have hF := h2.2.2.2.2.2.2
  have hm : sameM W (si M 16 (-1)) := h.1.2.2.2.2.2.2.1.2.1 rfl
  exact ⟨K', S', A', J', C', M1, r1, fun Q hQ => cyc_K7 (w1 Q hQ), fun Q hQ => cyc_16 (w2 Q hQ), (TWIN_of hm h2 p2).1, hF.1.1, by rw [hF.1.1]; exact hF.1.2.2.2, h2.2.2.2.2.2.1.2.1, (MID_lim h2).1.1⟩
/-- locked: the cycles go by, and nobody begins -/
theorem twin_lock {W : Ob} {N T : Int} {B K2 : Nat → Int32} {S2 A2 J2 C2 M : Ob} (h : TWIN W N T B K2 S2 A2 J2 C2 M) (hl : K2 5 = 5) (hN : N < 2000000000) : ∃ (K' : Nat → Int32) (S' A' M1 : Ob) (r1 : Nat → Int32), (∀ Q : Mod → Prop, Q (M1, r1) → wp_X8_cycle false (M, M.2 5) Q) ∧ TWIN W (N + 1) T B K' S' A' J2 C2 (mthen M M1 r1) ∧ K' 5 = 5 ∧ M1.1 16 = -1 ∧ S'.1 10 = r1 30 ∧ r1 20 = 5 := by
  have hm : sameM W (si M 16 (-1)) := h.1.2.2.2.2.2.2.1.2.1 rfl
  have h1 := MID_clk h.1 hN
  have a2 := h.1.2.1.1.2.1
  have a3 := h.1.2.1.1.2.2
  obtain ⟨S1, A1, M1, r1, u1, u2, h2, p2⟩ := adm_pair (A2.1 2).toInt.toNat 0 0 S2 A2 _ _ h1 (by omega) (by omega)
  obtain ⟨S3, A3, M3, r3, v1, v2, h3, p3⟩ := tick_pair h2
  have e20 : r3 20 = 5 := by
    have e := h3.2.2.2.2.2.1.2.1
    rw [← e]
    exact hl
  have hF := h3.2.2.2.2.2.2
  refine ⟨upd (upd (upd K2 7 (-1)) 4 ((upd K2 7 (-1)) 4 + 1)) 7 (-1), S3, A3, M3, r3, fun Q hQ => cyc_16 (v := -1) ?_, (TWIN_of hm h3 (rP_lock hl)).1, hl, hF.1.1.symm, (MID_lim h3).1.1, e20⟩
  unfold wp_X8_cycle
  intro T1 e1 T2 e2
  subst e1
  subst e2
  refine u2 Q 2000 (by omega) (v2 Q ?_)
  unfold mSw
  exact ⟨fun _ => ⟨fun _ => ⟨fun _ => ⟨fun _ => ⟨fun _ => hQ, fun z => absurd (e20.symm.trans z) (by decide)⟩, fun z => absurd (e20.symm.trans z) (by decide)⟩, fun z => absurd (e20.symm.trans z) (by decide)⟩, fun z => absurd (e20.symm.trans z) (by decide)⟩, fun z => absurd (e20.symm.trans z) (by decide)⟩
theorem TWIN_J {W : Ob} {N T : Int} {B K2 : Nat → Int32} {S2 A2 J2 C2 M : Ob} (h : TWIN W N T B K2 S2 A2 J2 C2 M) : rJb T J2 := h.1.2.2.1.1
theorem TWIN_s {W : Ob} {N T : Int} {B K2 : Nat → Int32} {S2 A2 J2 C2 M : Ob} (h : TWIN W N T B K2 S2 A2 J2 C2 M) : sameM W (si M 16 (-1)) := h.1.2.2.2.2.2.2.1.2.1 rfl
theorem TWIN_mono {N' T' : Int} {W : Ob} {N T : Int} {B K2 : Nat → Int32} {S2 A2 J2 C2 M : Ob} (h : TWIN W N T B K2 S2 A2 J2 C2 M) (n : N ≤ N') (t : T ≤ T') : TWIN W N' T' B K2 S2 A2 J2 C2 M := ⟨MID_mono h.1 n t, h.2⟩
theorem s16 {W M : Ob} (h : sameM W (si M 16 (-1))) : sameM W M := ⟨h.1, fun j hj => by rw [← h.2 j hj, si_ne hj]⟩
theorem REL_J2 {N T : Int} {B K : Nat → Int32} {S A J C J2 J2' M : Ob} (h : REL N T B K S A J C J2 M) (hj : rJb T J2') : REL N T B K S A J C J2' M := by
  obtain ⟨hS, hA, hJ, hC, hB, hK, hp, hP, hJ2⟩ := h
  exact ⟨hS, hA, hJ, hC, hB, hK, hp, hP, hj⟩
/-- once all is foretold -/
theorem REL_back {W : Ob} {N T T' : Int} {B K : Nat → Int32} {S A J C J2 J2' M'' : Ob} (hr : ∀ M'' : Ob, sameM W M'' → REL N T B K S A J C J2 M'') (hs : sameM W M'') (t : T ≤ T') (hj : rJb T' J2') : REL N T' B K S A J C J2' M'' := REL_J2 (REL_mono (hr M'' hs) (Int.le_refl _) t) hj
theorem soon_lock {W : Ob} {B : Nat → Int32} {p : Int32} {J2 C2 : Ob} {T : Int} (hp : 0 ≤ p.toInt) : ∀ (m i : Nat) (N : Int) (K2 : Nat → Int32) (S2 A2 M : Ob), TWIN W N T B K2 S2 A2 J2 C2 M → K2 5 = 5 → i + m = 301 → N + m < 2000000000 → ∃ M' : Ob, (∀ (Q : Int32 → Ob → Prop) (n : Nat), m < n → Q (-1) M' → wp_X8_soon_L24 Q n p (Int32.ofNat i) M) ∧ sameM W M' := by
  have l300 : (300 : Int32).toInt = 300 := rfl
  intro m
  induction m with
  | zero =>
    intro i N K2 S2 A2 M h hl hi hN
    have hi0 := i_ofNat (k := i) (by omega)
    refine ⟨M, fun Q n hn hQ => ?_, s16 (TWIN_s h)⟩
    obtain ⟨n, rfl⟩ : ∃ z, n = z + 1 := ⟨n - 1, by omega⟩
    unfold wp_X8_soon_L24
    exact ⟨fun _ => hQ, fun z => absurd (i_lt.mpr (by omega)) z⟩
  | succ m ih =>
    intro i N K2 S2 A2 M h hl hi hN
    have hi0 := i_ofNat (k := i) (by omega)
    have his := of_succ (k := i) (by omega)
    obtain ⟨K', S', A', M1, r1, w2, h2, hl2, e16, -⟩ := twin_lock h hl (by omega)
    obtain ⟨M', u2, hs⟩ := ih (i + 1) (N + 1) K' S' A' _ h2 hl2 (by omega) (by omega)
    refine ⟨M', fun Q n hn hQ => ?_, hs⟩
    obtain ⟨n, rfl⟩ : ∃ z, n = z + 1 := ⟨n - 1, by omega⟩
    unfold wp_X8_soon_L24
    refine ⟨fun z => absurd (i_lt.mp z) (by omega), fun _ => w2 _ ⟨fun _ x9 e9 => ?_, fun z => ?_⟩⟩
    · rw [e9, his]
      exact u2 Q n (by omega) hQ
    · have z : M1.1 16 = p := z
      rw [e16] at z
      rw [← z] at hp
      exact absurd hp (by decide)
theorem soon_loop {W : Ob} {B : Nat → Int32} {p : Int32} (hp : 0 ≤ p.toInt) : ∀ (m i : Nat) (N T : Int) (K2 : Nat → Int32) (S2 A2 J2 C2 M : Ob), TWIN W N T B K2 S2 A2 J2 C2 M → i + m = 301 → N + m < 2000000000 → T + 3 * m < 1999999990 → ∃ (v : Int32) (K' : Nat → Int32) (S' A' J' C' M' : Ob), (∀ (Q : Int32 → Mac → Prop) (n : Nat), m < n → Q v (K', S', A', J', C', B) → wp_X3_cyclesTill_L2 Q n p (Int32.ofNat i) (K2, S2, A2, J2, C2, B)) ∧ (∀ (Q : Int32 → Ob → Prop) (n : Nat), m < n → Q v M' → wp_X8_soon_L24 Q n p (Int32.ofNat i) M) ∧ sameM W M' ∧ rJb (T + 3 * m) J' := by
  have l300 : (300 : Int32).toInt = 300 := rfl
  intro m
  induction m with
  | zero =>
    intro i N T K2 S2 A2 J2 C2 M h hi hN hT
    have hi0 := i_ofNat (k := i) (by omega)
    refine ⟨-1, K2, S2, A2, J2, C2, M, fun Q n hn hQ => ?_, fun Q n hn hQ => ?_, s16 (TWIN_s h), rJb_mono (TWIN_J h) (by omega)⟩
    · obtain ⟨n, rfl⟩ : ∃ z, n = z + 1 := ⟨n - 1, by omega⟩
      unfold wp_X3_cyclesTill_L2
      exact ⟨fun _ => hQ, fun z => absurd (i_lt.mpr (by omega)) z⟩
    · obtain ⟨n, rfl⟩ : ∃ z, n = z + 1 := ⟨n - 1, by omega⟩
      unfold wp_X8_soon_L24
      exact ⟨fun _ => hQ, fun z => absurd (i_lt.mpr (by omega)) z⟩
  | succ m ih =>
    intro i N T K2 S2 A2 J2 C2 M h hi hN hT
    have hi0 := i_ofNat (k := i) (by omega)
    have his := of_succ (k := i) (by omega)
    by_cases c : K2 5 = 5
    · obtain ⟨M', u2, hs⟩ := soon_lock hp (m + 1) i N K2 S2 A2 M h c hi (by omega)
      refine ⟨-1, K2, S2, A2, J2, C2, M', fun Q n hn hQ => ?_, u2, hs, rJb_mono (TWIN_J h) (by omega)⟩
      obtain ⟨n, rfl⟩ : ∃ z, n = z + 1 := ⟨n - 1, by omega⟩
      unfold wp_X3_cyclesTill_L2
      exact ⟨fun _ => hQ, fun _ => ⟨fun _ => hQ, fun z => absurd c z⟩⟩
    · obtain ⟨K', S', A', J', C', M1, r1, w1, w2, h3, e7, -⟩ := twin_cycle h (by omega) (by omega)
      by_cases d : K' 7 = p
      · have dm : M1.1 16 = p := e7.symm.trans d
        refine ⟨Int32.ofNat i, K', S', A', J', C', _, fun Q n hn hQ => ?_, fun Q n hn hQ => ?_, s16 (TWIN_s h3), rJb_mono (TWIN_J h3) (by omega)⟩
        · obtain ⟨n, rfl⟩ : ∃ z, n = z + 1 := ⟨n - 1, by omega⟩
          unfold wp_X3_cyclesTill_L2
          exact ⟨fun z => absurd (i_lt.mp z) (by omega), fun _ => ⟨fun z => absurd z c, fun _ => w1 _ ⟨fun z => absurd d z, fun _ => hQ⟩⟩⟩
        · obtain ⟨n, rfl⟩ : ∃ z, n = z + 1 := ⟨n - 1, by omega⟩
          unfold wp_X8_soon_L24
          exact ⟨fun z => absurd (i_lt.mp z) (by omega), fun _ => w2 _ ⟨fun z => absurd dm z, fun _ => hQ⟩⟩
      · have dm : ¬ M1.1 16 = p := fun z => d (e7.trans z)
        obtain ⟨v, K'', S'', A'', J'', C'', M'', u1, u2, hs, hj⟩ := ih (i + 1) (N + 1) (T + 3) K' S' A' J' C' _ h3 (by omega) (by omega) (by omega)
        refine ⟨v, K'', S'', A'', J'', C'', M'', fun Q n hn hQ => ?_, fun Q n hn hQ => ?_, hs, rJb_mono hj (by omega)⟩
        · obtain ⟨n, rfl⟩ : ∃ z, n = z + 1 := ⟨n - 1, by omega⟩
          unfold wp_X3_cyclesTill_L2
          refine ⟨fun z => absurd (i_lt.mp z) (by omega), fun _ => ⟨fun z => absurd z c, fun _ => w1 _ ⟨fun _ x5 e5 => ?_, fun z => absurd z d⟩⟩⟩
          rw [e5, his]
          exact u1 Q n (by omega) hQ
        · obtain ⟨n, rfl⟩ : ∃ z, n = z + 1 := ⟨n - 1, by omega⟩
          unfold wp_X8_soon_L24
          refine ⟨fun z => absurd (i_lt.mp z) (by omega), fun _ => w2 _ ⟨fun _ x9 e9 => ?_, fun z => absurd z dm⟩⟩
          rw [e9, his]
          exact u2 Q n (by omega) hQ
theorem call_soon {N T : Int} {B K K2 : Nat → Int32} {S A J C S2 A2 J2 C2 Y M : Ob} (h : REL N T B K S A J C J2 M) (hN : N < 1900000000) (hT : T < 1900000000) (p : Int32) : FACE N T (fun Q => wp_X7_soon (B, K, S, A, J, C, K2, S2, A2, J2, C2, Y) p Q) (fun Q => wp_X8_soon M p Q) := by
  have l0 : (0 : Int32).toInt = 0 := rfl
  have l20 : (20 : Int32).toInt = 20 := rfl
  have l21 : (21 : Int32).toInt = 21 := rfl
  by_cases c : 0 ≤ p.toInt ∧ p.toInt < 21
  · obtain ⟨K2', S2', A2', C2', M', w1, w2, htw, hr, -⟩ := twin_lay (K2 := K2) (S2 := S2) (A2 := A2) (C2 := C2) (Y := Y) (p := 0) (REL_17 (v := 0) h) isB0
    obtain ⟨v, K'', S'', A'', J'', C'', M'', u1, u2, hs, hj⟩ := soon_loop (p := p) c.1 300 1 N T K2' S2' A2' J2 C2' M' htw (by omega) (by omega) (by omega)
    refine ⟨v, _, _, _, _, _, _, K'', S'', A'', J'', C'', Y, _, fun Q hQ => ?_, fun Q hQ => ?_, REL_mono (REL_back hr hs (by omega) hj) (by omega) (by omega)⟩
    · unfold wp_X7_soon
      refine b_isBelow ?_
      rw [if_pos (by omega)]
      refine ⟨fun _ => w1 _ ?_, fun z => absurd z (by decide)⟩
      unfold wp_X3_cyclesTill
      exact u1 _ 2000 (by omega) hQ
    · unfold wp_X8_soon
      intro T1 e1
      subst e1
      refine b_within ?_
      rw [if_pos (by omega)]
      exact ⟨fun _ => w2 _ (u2 Q 2000 (by omega) hQ), fun z => absurd z (by decide)⟩
  · refine FACE_get (K2 := K2) (S2 := S2) (A2 := A2) (C2 := C2) (Y := Y) h (v := -1) (fun Q hQ => ?_) (fun Q hQ => ?_)
    · unfold wp_X7_soon
      refine b_isBelow ?_
      rw [if_neg (by omega)]
      exact ⟨fun z => absurd rfl z, fun _ => hQ⟩
    · unfold wp_X8_soon
      intro T1 e1
      subst e1
      refine b_within ?_
      rw [if_neg (by omega)]
      exact ⟨fun z => absurd rfl z, fun _ => hQ⟩
theorem ord_lock {W : Ob} {B : Nat → Int32} {left : Int32} {J2 C2 : Ob} {T : Int} : ∀ (m i : Nat) (N : Int) (K2 : Nat → Int32) (S2 A2 M : Ob), TWIN W N T B K2 S2 A2 J2 C2 M → K2 5 = 5 → i + m = 301 → N + m < 2000000000 → ∃ M' : Ob, (∀ (Q : Int32 → Ob → Prop) (n : Nat), m < n → Q (-1) M' → wp_X8_order_L21 Q n left (Int32.ofNat i) M) ∧ sameM W M' := by
  have l300 : (300 : Int32).toInt = 300 := rfl
  intro m
  induction m with
  | zero =>
    intro i N K2 S2 A2 M h hl hi hN
    have hi0 := i_ofNat (k := i) (by omega)
    refine ⟨M, fun Q n hn hQ => ?_, s16 (TWIN_s h)⟩
    obtain ⟨n, rfl⟩ : ∃ z, n = z + 1 := ⟨n - 1, by omega⟩
    unfold wp_X8_order_L21
    exact ⟨fun _ => hQ, fun z => absurd (i_lt.mpr (by omega)) z⟩
  | succ m ih =>
    intro i N K2 S2 A2 M h hl hi hN
    have hi0 := i_ofNat (k := i) (by omega)
    have his := of_succ (k := i) (by omega)
    obtain ⟨K', S', A', M1, r1, w2, h2, hl2, e16, -⟩ := twin_lock h hl (by omega)
    obtain ⟨M', u2, hs⟩ := ih (i + 1) (N + 1) K' S' A' _ h2 hl2 (by omega) (by omega)
    refine ⟨M', fun Q n hn hQ => ?_, hs⟩
    obtain ⟨n, rfl⟩ : ∃ z, n = z + 1 := ⟨n - 1, by omega⟩
    unfold wp_X8_order_L21
    refine ⟨fun z => absurd (i_lt.mp z) (by omega), fun _ => w2 _ ⟨fun z => ?_, fun _ x10 e10 => ?_⟩⟩
    · have z : 0 ≤ M1.1 16 := z
      rw [e16] at z
      exact absurd z (by decide)
    · rw [e10, his]
      exact u2 Q n (by omega) hQ
theorem ord_loop {W : Ob} {B K : Nat → Int32} {S A J C Y : Ob} {p : Int32} : ∀ (m i : Nat) (seen : Int32) (N T : Int) (K2 : Nat → Int32) (S2 A2 J2 C2 M : Ob), TWIN W N T B K2 S2 A2 J2 C2 M → i + m = 300 → N + m < 2000000000 → T + 3 * m < 1999999990 → ∃ (v : Int32) (K' : Nat → Int32) (S' A' J' C' M' : Ob), (∀ (Q : Int32 → TR7 → Prop) (n : Nat), m < n → Q v (B, K, S, A, J, C, K', S', A', J', C', Y) → wp_X7_order_L23 Q n p seen (Int32.ofNat i) (B, K, S, A, J, C, K2, S2, A2, J2, C2, Y)) ∧ (∀ (Q : Int32 → Ob → Prop) (n : Nat), m < n → Q v M' → wp_X8_order_L21 Q n (p - seen) (Int32.ofNat (i + 1)) M) ∧ sameM W M' ∧ rJb (T + 3 * m) J' := by
  have l300 : (300 : Int32).toInt = 300 := rfl
  intro m
  induction m with
  | zero =>
    intro i seen N T K2 S2 A2 J2 C2 M h hi hN hT
    have hi0 := i_ofNat (k := i) (by omega)
    have hi1 := i_ofNat (k := i + 1) (by omega)
    refine ⟨-1, K2, S2, A2, J2, C2, M, fun Q n hn hQ => ?_, fun Q n hn hQ => ?_, s16 (TWIN_s h), rJb_mono (TWIN_J h) (by omega)⟩
    · obtain ⟨n, rfl⟩ : ∃ z, n = z + 1 := ⟨n - 1, by omega⟩
      unfold wp_X7_order_L23
      exact ⟨fun _ => hQ, fun z => absurd (i_le.mpr (by omega)) z⟩
    · obtain ⟨n, rfl⟩ : ∃ z, n = z + 1 := ⟨n - 1, by omega⟩
      unfold wp_X8_order_L21
      exact ⟨fun _ => hQ, fun z => absurd (i_lt.mpr (by omega)) z⟩
  | succ m ih =>
    intro i seen N T K2 S2 A2 J2 C2 M h hi hN hT
    have hi0 := i_ofNat (k := i) (by omega)
    have his := of_succ (k := i) (by omega)
    have hi1 := i_ofNat (k := i + 1) (by omega)
    have his1 := of_succ (k := i + 1) (by omega)
    by_cases c : K2 5 = 5
    · obtain ⟨M', u2, hs⟩ := ord_lock (left := p - seen) (m + 1) (i + 1) N K2 S2 A2 M h c (by omega) (by omega)
      refine ⟨-1, K2, S2, A2, J2, C2, M', fun Q n hn hQ => ?_, u2, hs, rJb_mono (TWIN_J h) (by omega)⟩
      obtain ⟨n, rfl⟩ : ∃ z, n = z + 1 := ⟨n - 1, by omega⟩
      unfold wp_X7_order_L23
      exact ⟨fun _ => hQ, fun _ => ⟨fun _ => hQ, fun z => absurd c z⟩⟩
    · obtain ⟨K', S', A', J', C', M1, r1, w1, w2, h3, e7, ok7, -⟩ := twin_cycle h (by omega) (by omega)
      by_cases d : K' 7 = -1
      · have dm : ¬ 0 ≤ M1.1 16 := by rw [← e7, d]; decide
        obtain ⟨v, K'', S'', A'', J'', C'', M'', u1, u2, hs, hj⟩ := ih (i + 1) seen (N + 1) (T + 3) K' S' A' J' C' _ h3 (by omega) (by omega) (by omega)
        refine ⟨v, K'', S'', A'', J'', C'', M'', fun Q n hn hQ => ?_, fun Q n hn hQ => ?_, hs, rJb_mono hj (by omega)⟩
        · obtain ⟨n, rfl⟩ : ∃ z, n = z + 1 := ⟨n - 1, by omega⟩
          unfold wp_X7_order_L23
          refine ⟨fun z => absurd (i_le.mp z) (by omega), fun _ => ⟨fun z => absurd z c, fun _ => w1 _ ⟨fun _ x7 e7 => ?_, fun z => absurd d z⟩⟩⟩
          rw [e7, his]
          exact u1 Q n (by omega) hQ
        · obtain ⟨n, rfl⟩ : ∃ z, n = z + 1 := ⟨n - 1, by omega⟩
          unfold wp_X8_order_L21
          refine ⟨fun z => absurd (i_lt.mp z) (by omega), fun _ => w2 _ ⟨fun z => absurd z dm, fun _ x10 e10 => ?_⟩⟩
          rw [e10, his1]
          exact u2 Q n (by omega) hQ
      · have dm : 0 ≤ M1.1 16 := by rw [← e7]; exact (okB_le ok7).mpr d
        by_cases f : seen = p
        · have fm : p - seen = 0 := by rw [f]; exact Int32.sub_self p
          refine ⟨K' 7, K', S', A', J', C', _, fun Q n hn hQ => ?_, fun Q n hn hQ => ?_, s16 (TWIN_s h3), rJb_mono (TWIN_J h3) (by omega)⟩
          · obtain ⟨n, rfl⟩ : ∃ z, n = z + 1 := ⟨n - 1, by omega⟩
            unfold wp_X7_order_L23
            exact ⟨fun z => absurd (i_le.mp z) (by omega), fun _ => ⟨fun z => absurd z c, fun _ => w1 _ ⟨fun z => absurd z d, fun _ => ⟨fun z => absurd f z, fun _ => hQ⟩⟩⟩⟩
          · obtain ⟨n, rfl⟩ : ∃ z, n = z + 1 := ⟨n - 1, by omega⟩
            unfold wp_X8_order_L21
            refine ⟨fun z => absurd (i_lt.mp z) (by omega), fun _ => w2 _ ⟨fun _ => ⟨fun z => absurd fm z, fun _ => ?_⟩, fun z => absurd dm z⟩⟩
            rw [e7] at hQ
            exact hQ
        · have fm : ¬ p - seen = 0 := fun z => f (by
            have := Int32.sub_add_cancel p seen
            rw [z, Int32.zero_add] at this
            exact this)
          have fs : p - seen + (-1) = p - (seen + 1) := by
            rw [Int32.sub_eq_add_neg, Int32.sub_eq_add_neg p (seen + 1), Int32.neg_add, Int32.sub_eq_add_neg, Int32.add_assoc]
          obtain ⟨v, K'', S'', A'', J'', C'', M'', u1, u2, hs, hj⟩ := ih (i + 1) (seen + 1) (N + 1) (T + 3) K' S' A' J' C' _ h3 (by omega) (by omega) (by omega)
          refine ⟨v, K'', S'', A'', J'', C'', M'', fun Q n hn hQ => ?_, fun Q n hn hQ => ?_, hs, rJb_mono hj (by omega)⟩
          · obtain ⟨n, rfl⟩ : ∃ z, n = z + 1 := ⟨n - 1, by omega⟩
            unfold wp_X7_order_L23
            refine ⟨fun z => absurd (i_le.mp z) (by omega), fun _ => ⟨fun z => absurd z c, fun _ => w1 _ ⟨fun z => absurd z d, fun _ => ⟨fun _ x9 e9 x10 e10 => ?_, fun z => absurd z f⟩⟩⟩⟩
            rw [e9, e10, his]
            exact u1 Q n (by omega) hQ
          · obtain ⟨n, rfl⟩ : ∃ z, n = z + 1 := ⟨n - 1, by omega⟩
            unfold wp_X8_order_L21
            refine ⟨fun z => absurd (i_lt.mp z) (by omega), fun _ => w2 _ ⟨fun _ => ⟨fun _ x8 e8 x9 e9 => ?_, fun z => absurd z fm⟩, fun z => absurd dm z⟩⟩
            rw [e8, e9, his1, fs]
            exact u2 Q n (by omega) hQ
theorem call_order {N T : Int} {B K K2 : Nat → Int32} {S A J C S2 A2 J2 C2 Y M : Ob} (h : REL N T B K S A J C J2 M) (hN : N < 1900000000) (hT : T < 1900000000) (p : Int32) (q : Int32) (hq : isB q) : FACE N T (fun Q => wp_X7_order (B, K, S, A, J, C, K2, S2, A2, J2, C2, Y) p q Q) (fun Q => wp_X8_order M p q Q) := by
  by_cases c : 0 ≤ p
  · obtain ⟨K2', S2', A2', C2', M', w1, w2, htw, hr, -⟩ := twin_lay (K2 := K2) (S2 := S2) (A2 := A2) (C2 := C2) (Y := Y) (p := q) (REL_17 (v := 0) h) hq
    obtain ⟨v, K'', S'', A'', J'', C'', M'', u1, u2, hs, hj⟩ := ord_loop (K := K) (S := S) (A := A) (J := J) (C := C) (Y := Y) (p := p) 300 0 0 N T K2' S2' A2' J2 C2' M' htw (by omega) (by omega) (by omega)
    refine ⟨v, _, _, _, _, _, _, K'', S'', A'', J'', C'', Y, _, fun Q hQ => ?_, fun Q hQ => ?_, REL_mono (REL_back hr hs (by omega) hj) (by omega) (by omega)⟩
    · unfold wp_X7_order
      exact ⟨fun _ => w1 _ (u1 Q 2000 (by omega) hQ), fun z => absurd c z⟩
    · unfold wp_X8_order
      intro T1 e1
      subst e1
      have e0 : p - 0 = p := Int32.sub_zero p
      have := u2 Q 2000 (by omega) hQ
      rw [e0] at this
      exact ⟨fun _ => w2 _ this, fun z => absurd c z⟩
  · refine FACE_get (K2 := K2) (S2 := S2) (A2 := A2) (C2 := C2) (Y := Y) h (v := -1) (fun Q hQ => ?_) (fun Q hQ => ?_)
    · unfold wp_X7_order
      exact ⟨fun z => absurd z c, fun _ => hQ⟩
    · unfold wp_X8_order
      intro T1 e1
      subst e1
      exact ⟨fun z => absurd z c, fun _ => hQ⟩
theorem mthen_self (T : Ob) : mthen T T (T.2 5) = T := by
  unfold mthen
  refine Prod.ext rfl ?_
  funext j
  show (if j = 5 then T.2 5 else if j = 4 then T.2 4 else if 18 ≤ j then T.2 j else T.2 j) = T.2 j
  by_cases c : j = 5
  · rw [if_pos c, c]
  · rw [if_neg c]
    by_cases d : j = 4
    · rw [if_pos d, d]
    · rw [if_neg d, ite_self]
/-- what stands before a cycle of the reference's quiet -/
theorem qui_step {S2 M : Ob} {n : Nat} {y2 : Int32} {Q : Int32 → Ob → Prop} (R : takR S2 M (M.2 5)) (h300 : ¬ 300 < y2) (e10 : S2.1 10 = M.2 5 30) (hq : (M.2 5 20 = 0 ∧ S2.1 10 = 0 ∧ nextF S2 (S2.1 14) = -1 → Q y2 M) ∧ (¬ (M.2 5 20 = 0 ∧ S2.1 10 = 0 ∧ nextF S2 (S2.1 14) = -1) → wp_X8_cycle false (M, M.2 5) (fun u5 => ∀ x6 : Int32, x6 = (y2 + 1) → wp_X8_quiet_L12 Q n x6 (mthen M u5.1 u5.2)))) : wp_X8_quiet_L12 Q (n + 1) y2 M := by
  unfold wp_X8_quiet_L12
  refine ⟨fun z => absurd z h300, fun _ => ⟨fun z => hq.2 (fun w => z w.1), fun z => ⟨fun y => hq.2 (fun w => y (e10.symm.trans w.2.1)), fun y => next_own_model (S := S2) R ?_⟩⟩⟩
  rw [mthen_self]
  have ok : okB (nextF S2 (S2.1 14)) := by
    rcases next_spec (S := S2) (sh := S2.1 14) with hn | hn
    · exact Or.inl hn
    · exact Or.inr hn.1
  refine ⟨fun x => hq.2 (fun w => ?_), fun x => hq.1 ⟨z, e10.trans y, ?_⟩⟩
  · exact ((okB_le ok).mp x) w.2.2
  · by_cases w : nextF S2 (S2.1 14) = -1
    · exact w
    · exact absurd ((okB_le ok).mpr w) x
theorem TWIN_k {W : Ob} {N T : Int} {B K2 : Nat → Int32} {S2 A2 J2 C2 M : Ob} (h : TWIN W N T B K2 S2 A2 J2 C2 M) : takR S2 M (M.2 5) ∧ S2.1 10 = M.2 5 30 ∧ K2 5 = M.2 5 20 := ⟨h.1.1.1.1, (MID_lim h.1).1.1, h.1.2.2.2.2.2.1.2.1⟩
theorem qui_lock {W : Ob} {B : Nat → Int32} {J2 C2 : Ob} {T : Int} : ∀ (m i : Nat) (N : Int) (K2 : Nat → Int32) (S2 A2 M : Ob), TWIN W N T B K2 S2 A2 J2 C2 M → K2 5 = 5 → i + m = 301 → N + m < 2000000000 → ∃ M' : Ob, (∀ (Q : Int32 → Ob → Prop) (n : Nat), m < n → Q (-1) M' → wp_X8_quiet_L12 Q n (Int32.ofNat i) M) ∧ sameM W M' := by
  have l300 : (300 : Int32).toInt = 300 := rfl
  intro m
  induction m with
  | zero =>
    intro i N K2 S2 A2 M h hl hi hN
    have hi0 := i_ofNat (k := i) (by omega)
    refine ⟨M, fun Q n hn hQ => ?_, s16 (TWIN_s h)⟩
    obtain ⟨n, rfl⟩ : ∃ z, n = z + 1 := ⟨n - 1, by omega⟩
    unfold wp_X8_quiet_L12
    exact ⟨fun _ => hQ, fun z => absurd (i_lt.mpr (by omega)) z⟩
  | succ m ih =>
    intro i N K2 S2 A2 M h hl hi hN
    have hi0 := i_ofNat (k := i) (by omega)
    have his := of_succ (k := i) (by omega)
    obtain ⟨t1, t2, t3⟩ := TWIN_k h
    obtain ⟨K', S', A', M1, r1, w2, h2, hl2, e16, -⟩ := twin_lock h hl (by omega)
    obtain ⟨M', u2, hs⟩ := ih (i + 1) (N + 1) K' S' A' _ h2 hl2 (by omega) (by omega)
    refine ⟨M', fun Q n hn hQ => ?_, hs⟩
    obtain ⟨n, rfl⟩ : ∃ z, n = z + 1 := ⟨n - 1, by omega⟩
    refine qui_step t1 (by rw [i_lt]; omega) t2 ⟨fun z => ?_, fun _ => w2 _ (fun x6 e6 => ?_)⟩
    · have z1 := z.1
      rw [← t3, hl] at z1
      exact absurd z1 (by decide)
    · rw [e6, his]
      exact u2 Q n (by omega) hQ
theorem qui_loop {W : Ob} {B K : Nat → Int32} {S A J C Y : Ob} : ∀ (m i : Nat) (N T : Int) (K2 : Nat → Int32) (S2 A2 J2 C2 M : Ob), TWIN W N T B K2 S2 A2 J2 C2 M → i + m = 301 → N + m < 2000000000 → T + 3 * m < 1999999990 → ∃ (v : Int32) (K' : Nat → Int32) (S' A' J' C' M' : Ob), (∀ (Q : Int32 → TR7 → Prop) (n : Nat), m < n → Q v (B, K, S, A, J, C, K', S', A', J', C', Y) → wp_X7_quiet_L14 Q n (Int32.ofNat i) (B, K, S, A, J, C, K2, S2, A2, J2, C2, Y)) ∧ (∀ (Q : Int32 → Ob → Prop) (n : Nat), m < n → Q v M' → wp_X8_quiet_L12 Q n (Int32.ofNat i) M) ∧ sameM W M' ∧ rJb (T + 3 * m) J' := by
  have l300 : (300 : Int32).toInt = 300 := rfl
  intro m
  induction m with
  | zero =>
    intro i N T K2 S2 A2 J2 C2 M h hi hN hT
    have hi0 := i_ofNat (k := i) (by omega)
    refine ⟨-1, K2, S2, A2, J2, C2, M, fun Q n hn hQ => ?_, fun Q n hn hQ => ?_, s16 (TWIN_s h), rJb_mono (TWIN_J h) (by omega)⟩
    · obtain ⟨n, rfl⟩ : ∃ z, n = z + 1 := ⟨n - 1, by omega⟩
      unfold wp_X7_quiet_L14
      exact ⟨fun _ => hQ, fun z => absurd (i_lt.mpr (by omega)) z⟩
    · obtain ⟨n, rfl⟩ : ∃ z, n = z + 1 := ⟨n - 1, by omega⟩
      unfold wp_X8_quiet_L12
      exact ⟨fun _ => hQ, fun z => absurd (i_lt.mpr (by omega)) z⟩
  | succ m ih =>
    intro i N T K2 S2 A2 J2 C2 M h hi hN hT
    have hi0 := i_ofNat (k := i) (by omega)
    have his := of_succ (k := i) (by omega)
    obtain ⟨t1, t2, t3⟩ := TWIN_k h
    have n300 : ¬ 300 < Int32.ofNat i := by rw [i_lt]; omega
    by_cases c : K2 5 = 5
    · obtain ⟨M', u2, hs⟩ := qui_lock (m + 1) i N K2 S2 A2 M h c hi (by omega)
      refine ⟨-1, K2, S2, A2, J2, C2, M', fun Q n hn hQ => ?_, u2, hs, rJb_mono (TWIN_J h) (by omega)⟩
      obtain ⟨n, rfl⟩ : ∃ z, n = z + 1 := ⟨n - 1, by omega⟩
      unfold wp_X7_quiet_L14
      exact ⟨fun _ => hQ, fun _ => ⟨fun _ => hQ, fun z => absurd c z⟩⟩
    · by_cases d : M.2 5 20 = 0 ∧ S2.1 10 = 0 ∧ nextF S2 (S2.1 14) = -1
      · refine ⟨Int32.ofNat i, K2, S2, A2, J2, C2, M, fun Q n hn hQ => ?_, fun Q n hn hQ => ?_, s16 (TWIN_s h), rJb_mono (TWIN_J h) (by omega)⟩
        · obtain ⟨n, rfl⟩ : ∃ z, n = z + 1 := ⟨n - 1, by omega⟩
          unfold wp_X7_quiet_L14 wp_X3_isQuiet
          refine ⟨fun z => absurd z n300, fun _ => ⟨fun z => absurd z c, fun _ => ⟨fun z => absurd (t3.trans d.1) z, fun _ => ⟨fun z => absurd d.2.1 z, fun _ => next_own_class t1.1.1 ⟨fun z => absurd d.2.2 z, fun _ => ⟨fun z => absurd z (by decide), fun _ => hQ⟩⟩⟩⟩⟩⟩
        · obtain ⟨n, rfl⟩ : ∃ z, n = z + 1 := ⟨n - 1, by omega⟩
          exact qui_step t1 n300 t2 ⟨fun _ => hQ, fun z => absurd d z⟩
      · obtain ⟨K', S', A', J', C', M1, r1, w1, w2, h3, -⟩ := twin_cycle h (by omega) (by omega)
        obtain ⟨v, K'', S'', A'', J'', C'', M'', u1, u2, hs, hj⟩ := ih (i + 1) (N + 1) (T + 3) K' S' A' J' C' _ h3 (by omega) (by omega) (by omega)
        refine ⟨v, K'', S'', A'', J'', C'', M'', fun Q n hn hQ => ?_, fun Q n hn hQ => ?_, hs, rJb_mono hj (by omega)⟩
        · obtain ⟨n, rfl⟩ : ∃ z, n = z + 1 := ⟨n - 1, by omega⟩
          have go : wp_X3_cycle (K2, S2, A2, J2, C2, B) (fun u7 => ∀ x8 : Int32, x8 = (Int32.ofNat i + 1) → wp_X7_quiet_L14 Q n x8 (u7.2.2.2.2.2, K, S, A, J, C, u7.1, u7.2.1, u7.2.2.1, u7.2.2.2.1, u7.2.2.2.2.1, Y)) := w1 _ (fun x8 e8 => by rw [e8, his]; exact u1 Q n (by omega) hQ)
          unfold wp_X7_quiet_L14 wp_X3_isQuiet
          refine ⟨fun z => absurd z n300, fun _ => ⟨fun z => absurd z c, fun _ => ⟨fun _ => ⟨fun _ => go, fun z => absurd rfl z⟩, fun y => ⟨fun _ => ⟨fun _ => go, fun z => absurd rfl z⟩, fun x => next_own_class t1.1.1 ⟨fun _ => ⟨fun _ => go, fun z => absurd rfl z⟩, fun w => ?_⟩⟩⟩⟩⟩
          exact absurd ⟨t3.symm.trans y, x, w⟩ d
        · obtain ⟨n, rfl⟩ : ∃ z, n = z + 1 := ⟨n - 1, by omega⟩
          refine qui_step t1 n300 t2 ⟨fun z => absurd z d, fun _ => w2 _ (fun x6 e6 => ?_)⟩
          rw [e6, his]
          exact u2 Q n (by omega) hQ
theorem call_quiet {N T : Int} {B K K2 : Nat → Int32} {S A J C S2 A2 J2 C2 Y M : Ob} (h : REL N T B K S A J C J2 M) (hN : N < 1900000000) (hT : T < 1900000000) (q : Int32) (hq : isB q) : FACE N T (fun Q => wp_X7_quiet (B, K, S, A, J, C, K2, S2, A2, J2, C2, Y) q Q) (fun Q => wp_X8_quiet M q Q) := by
  obtain ⟨K2', S2', A2', C2', M', w1, w2, htw, hr, -⟩ := twin_lay (K2 := K2) (S2 := S2) (A2 := A2) (C2 := C2) (Y := Y) (p := q) (REL_17 (v := 0) h) hq
  obtain ⟨v, K'', S'', A'', J'', C'', M'', u1, u2, hs, hj⟩ := qui_loop (K := K) (S := S) (A := A) (J := J) (C := C) (Y := Y) 301 0 N T K2' S2' A2' J2 C2' M' htw (by omega) (by omega) (by omega)
  refine ⟨v, _, _, _, _, _, _, K'', S'', A'', J'', C'', Y, _, fun Q hQ => ?_, fun Q hQ => ?_, REL_mono (REL_back hr hs (by omega) hj) (by omega) (by omega)⟩
  · unfold wp_X7_quiet
    exact w1 _ (u1 Q 2000 (by omega) hQ)
  · unfold wp_X8_quiet
    intro T1 e1
    subst e1
    exact w2 _ (u2 Q 2000 (by omega) hQ)
