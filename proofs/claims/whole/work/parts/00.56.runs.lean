/-! LAYER 2: a cycle of the machine itself; run, till -/
theorem cyc_K {K B : Nat → Int32} {S A J C : Ob} {v w : Int32} {Q : Mac → Prop} (e : K 11 = w) (h : wp_X3_cycle (upd (upd K 7 v) 11 w, S, A, J, C, B) Q) : wp_X3_cycle (K, S, A, J, C, B) Q := by
  have ek : upd (upd (upd (upd K 7 v) 11 w) 4 (K 4 + 1)) 7 (-1) = upd (upd K 4 (K 4 + 1)) 7 (-1) := by
    funext j
    by_cases c7 : j = 7
    · subst c7; rw [up_eq, up_eq]
    · rw [up_ne c7, up_ne c7]
      by_cases c4 : j = 4
      · subst c4; rw [up_eq, up_eq]
      · rw [up_ne c4, up_ne c4]
        by_cases c11 : j = 11
        · subst c11; rw [up_eq, e]
        · rw [up_ne c11, up_ne c7]
  unfold wp_X3_cycle at h ⊢
  intro T1 e1 T2 e2
  subst e1
  subst e2
  have h1 := h _ rfl _ rfl
  dsimp only at h1 ⊢
  rw [show (upd (upd K 7 v) 11 w) 4 = K 4 from rfl, ek] at h1
  exact h1
theorem cyc_16 {nw : Bool} {M : Ob} {r : Nat → Int32} {v : Int32} {Q : Mod → Prop} (h : wp_X8_cycle nw (si M 16 v, r) Q) : wp_X8_cycle nw (M, r) Q := by
  unfold wp_X8_cycle at h ⊢
  intro T1 e1 T2 e2
  have e : si (si M 16 v) 16 (-1) = si M 16 (-1) := Prod.ext (up_up _ _ _ _) rfl
  have h1 := h _ rfl _ rfl
  dsimp only at h1 e1 e2
  rw [e] at h1
  subst e1
  subst e2
  exact h1
theorem main_cycle {N T : Int} {B K : Nat → Int32} {S A J C J2 M : Ob} (h : REL N T B K S A J C J2 M) (hN : N < 2000000000) (hT : T < 1999999990) : ∃ (K' : Nat → Int32) (S' A' J' C' M' : Ob), (∀ Q : Mac → Prop, Q (K', S', A', J', C', B) → wp_X3_cycle (K, S, A, J, C, B) Q) ∧ (∀ Q : Ob → Prop, Q M' → wp_X8_goesOn M Q) ∧ REL (N + 1) (T + 3) B K' S' A' J' C' J2 M' ∧ K' 7 = M'.1 16 := by
  have hp := h.2.2.2.2.2.2.1
  have hP := h.2.2.2.2.2.2.2.1
  have h1 := REL_MID (Mx := si (si M 14 1) 15 0) (si (si M 14 1) 15 0) h rfl rfl rfl (fun _ _ _ => rfl) rfl
  obtain ⟨K', S', A', J', C', M', r', w1, w2, h2, p2⟩ := cycle_pair h1 (rP_fr hP rfl rfl rfl rfl rfl (fun _ _ => rfl)) hN hT
  have hF := h2.2.2.2.2.2.2
  refine ⟨K', S', A', J', C', mnow (si (si M 14 1) 15 0) M' r', fun Q hQ => cyc_K hp (w1 Q hQ), fun Q hQ => ?_, ?_, hF.1.1⟩
  · unfold wp_X8_goesOn
    intro T1 e1 T2 e2
    subst e1
    subst e2
    exact cyc_16 (w2 _ hQ)
  · refine MID_REL h2 rfl rfl rfl (fun j h4 h5 h18 => ?_) rfl rfl rfl rfl rfl (hF.2.1.trans hF.1.2.2.1) p2 (rJb_mono h.2.2.2.2.2.2.2.2 (by omega))
    show (if j = 4 then _ else if j = 5 then _ else if 18 ≤ j then _ else M'.2 j) = _
    rw [if_neg h4, if_neg h5, if_neg (by omega)]
theorem run_loop {p : Int32} {B K2 : Nat → Int32} {S2 A2 J2 C2 Y : Ob} : ∀ (m i : Nat) (N T : Int) (K : Nat → Int32) (S A J C M : Ob), REL N T B K S A J C J2 M → p.toInt = (i : Int) + m → p.toInt ≤ 200 → N + m < 2000000000 → T + 3 * m < 1999999990 → ∃ (v : Int32) (K' : Nat → Int32) (S' A' J' C' M' : Ob), (∀ (Q : Int32 → TR7 → Prop) (n : Nat), m < n → Q v (B, K', S', A', J', C', K2, S2, A2, J2, C2, Y) → wp_X7_run_L16 Q n p (Int32.ofNat i) (B, K, S, A, J, C, K2, S2, A2, J2, C2, Y)) ∧ (∀ (Q : Int32 → Ob → Prop) (n : Nat), m < n → Q v M' → wp_X8_run_L20 Q n p (Int32.ofNat i) M) ∧ REL (N + m) (T + 3 * m) B K' S' A' J' C' J2 M' := by
  intro m
  induction m with
  | zero =>
    intro i N T K S A J C M h hi h2 hN hT
    have hi0 := i_ofNat (k := i) (by omega)
    refine ⟨Int32.ofNat i, K, S, A, J, C, M, fun Q n hn hQ => ?_, fun Q n hn hQ => ?_, REL_mono h (by omega) (by omega)⟩
    · obtain ⟨n, rfl⟩ : ∃ z, n = z + 1 := ⟨n - 1, by omega⟩
      unfold wp_X7_run_L16
      exact ⟨fun _ => hQ, fun z => absurd (i_le.mpr (by omega)) z⟩
    · obtain ⟨n, rfl⟩ : ∃ z, n = z + 1 := ⟨n - 1, by omega⟩
      unfold wp_X8_run_L20
      exact ⟨fun _ => hQ, fun z => absurd (i_le.mpr (by omega)) z⟩
  | succ m ih =>
    intro i N T K S A J C M h hi h2 hN hT
    have hi0 := i_ofNat (k := i) (by omega)
    have his := of_succ (k := i) (by omega)
    have e20 : K 5 = M.2 4 20 := h.2.2.2.2.2.1.2.1
    by_cases c : K 5 = 5
    · have cm : M.2 4 20 = 5 := e20.symm.trans c
      refine ⟨Int32.ofNat i, K, S, A, J, C, M, fun Q n hn hQ => ?_, fun Q n hn hQ => ?_, REL_mono h (by omega) (by omega)⟩
      · obtain ⟨n, rfl⟩ : ∃ z, n = z + 1 := ⟨n - 1, by omega⟩
        unfold wp_X7_run_L16
        exact ⟨fun z => absurd (i_le.mp z) (by omega), fun _ => ⟨fun _ => hQ, fun z => absurd c z⟩⟩
      · obtain ⟨n, rfl⟩ : ∃ z, n = z + 1 := ⟨n - 1, by omega⟩
        unfold wp_X8_run_L20
        exact ⟨fun z => absurd (i_le.mp z) (by omega), fun _ => ⟨fun _ => hQ, fun z => absurd cm z⟩⟩
    · have cm : ¬ M.2 4 20 = 5 := fun z => c (e20.trans z)
      obtain ⟨K', S', A', J', C', M', w1, w2, h3, -⟩ := main_cycle h (by omega) (by omega)
      obtain ⟨v, K'', S'', A'', J'', C'', M'', u1, u2, h4⟩ := ih (i + 1) (N + 1) (T + 3) K' S' A' J' C' M' h3 (by omega) h2 (by omega) (by omega)
      refine ⟨v, K'', S'', A'', J'', C'', M'', fun Q n hn hQ => ?_, fun Q n hn hQ => ?_, REL_mono h4 (by omega) (by omega)⟩
      · obtain ⟨n, rfl⟩ : ∃ z, n = z + 1 := ⟨n - 1, by omega⟩
        unfold wp_X7_run_L16
        refine ⟨fun z => absurd (i_le.mp z) (by omega), fun _ => ⟨fun z => absurd z c, fun _ => w1 _ ?_⟩⟩
        intro x6 e6
        rw [e6, his]
        exact u1 Q n (by omega) hQ
      · obtain ⟨n, rfl⟩ : ∃ z, n = z + 1 := ⟨n - 1, by omega⟩
        unfold wp_X8_run_L20
        refine ⟨fun z => absurd (i_le.mp z) (by omega), fun _ => ⟨fun z => absurd z cm, fun _ => w2 _ ?_⟩⟩
        intro x8 e8
        rw [e8, his]
        exact u2 Q n (by omega) hQ
theorem till_loop {p : Int32} {B : Nat → Int32} {J2 : Ob} : ∀ (m i : Nat) (N T : Int) (K : Nat → Int32) (S A J C M : Ob), REL N T B K S A J C J2 M → i + m = 301 → N + m < 2000000000 → T + 3 * m < 1999999990 → ∃ (v : Int32) (K' : Nat → Int32) (S' A' J' C' M' : Ob), (∀ (Q : Int32 → Mac → Prop) (n : Nat), m < n → Q v (K', S', A', J', C', B) → wp_X3_cyclesTill_L2 Q n p (Int32.ofNat i) (K, S, A, J, C, B)) ∧ (∀ (Q : Int32 → Ob → Prop) (n : Nat), m < n → Q v M' → wp_X8_till_L19 Q n p (Int32.ofNat i) M) ∧ REL (N + m) (T + 3 * m) B K' S' A' J' C' J2 M' := by
  have l300 : (300 : Int32).toInt = 300 := rfl
  intro m
  induction m with
  | zero =>
    intro i N T K S A J C M h hi hN hT
    have hi0 := i_ofNat (k := i) (by omega)
    refine ⟨-1, K, S, A, J, C, M, fun Q n hn hQ => ?_, fun Q n hn hQ => ?_, REL_mono h (by omega) (by omega)⟩
    · obtain ⟨n, rfl⟩ : ∃ z, n = z + 1 := ⟨n - 1, by omega⟩
      unfold wp_X3_cyclesTill_L2
      exact ⟨fun _ => hQ, fun z => absurd (i_lt.mpr (by omega)) z⟩
    · obtain ⟨n, rfl⟩ : ∃ z, n = z + 1 := ⟨n - 1, by omega⟩
      unfold wp_X8_till_L19
      exact ⟨fun _ => hQ, fun z => absurd (i_lt.mpr (by omega)) z⟩
  | succ m ih =>
    intro i N T K S A J C M h hi hN hT
    have hi0 := i_ofNat (k := i) (by omega)
    have his := of_succ (k := i) (by omega)
    have e20 : K 5 = M.2 4 20 := h.2.2.2.2.2.1.2.1
    by_cases c : K 5 = 5
    · have cm : M.2 4 20 = 5 := e20.symm.trans c
      refine ⟨-1, K, S, A, J, C, M, fun Q n hn hQ => ?_, fun Q n hn hQ => ?_, REL_mono h (by omega) (by omega)⟩
      · obtain ⟨n, rfl⟩ : ∃ z, n = z + 1 := ⟨n - 1, by omega⟩
        unfold wp_X3_cyclesTill_L2
        exact ⟨fun _ => hQ, fun _ => ⟨fun _ => hQ, fun z => absurd c z⟩⟩
      · obtain ⟨n, rfl⟩ : ∃ z, n = z + 1 := ⟨n - 1, by omega⟩
        unfold wp_X8_till_L19
        exact ⟨fun _ => hQ, fun _ => ⟨fun _ => hQ, fun z => absurd cm z⟩⟩
    · have cm : ¬ M.2 4 20 = 5 := fun z => c (e20.trans z)
      obtain ⟨K', S', A', J', C', M', w1, w2, h3, e7⟩ := main_cycle h (by omega) (by omega)
      by_cases d : K' 7 = p
      · have dm : M'.1 16 = p := e7.symm.trans d
        refine ⟨Int32.ofNat i, K', S', A', J', C', M', fun Q n hn hQ => ?_, fun Q n hn hQ => ?_, REL_mono h3 (by omega) (by omega)⟩
        · obtain ⟨n, rfl⟩ : ∃ z, n = z + 1 := ⟨n - 1, by omega⟩
          unfold wp_X3_cyclesTill_L2
          exact ⟨fun z => absurd (i_lt.mp z) (by omega), fun _ => ⟨fun z => absurd z c, fun _ => w1 _ ⟨fun z => absurd d z, fun _ => hQ⟩⟩⟩
        · obtain ⟨n, rfl⟩ : ∃ z, n = z + 1 := ⟨n - 1, by omega⟩
          unfold wp_X8_till_L19
          exact ⟨fun z => absurd (i_lt.mp z) (by omega), fun _ => ⟨fun z => absurd z cm, fun _ => w2 _ ⟨fun z => absurd dm z, fun _ => hQ⟩⟩⟩
      · have dm : ¬ M'.1 16 = p := fun z => d (e7.trans z)
        obtain ⟨v, K'', S'', A'', J'', C'', M'', u1, u2, h4⟩ := ih (i + 1) (N + 1) (T + 3) K' S' A' J' C' M' h3 (by omega) (by omega) (by omega)
        refine ⟨v, K'', S'', A'', J'', C'', M'', fun Q n hn hQ => ?_, fun Q n hn hQ => ?_, REL_mono h4 (by omega) (by omega)⟩
        · obtain ⟨n, rfl⟩ : ∃ z, n = z + 1 := ⟨n - 1, by omega⟩
          unfold wp_X3_cyclesTill_L2
          refine ⟨fun z => absurd (i_lt.mp z) (by omega), fun _ => ⟨fun z => absurd z c, fun _ => w1 _ ⟨fun _ x5 e5 => ?_, fun z => absurd z d⟩⟩⟩
          rw [e5, his]
          exact u1 Q n (by omega) hQ
        · obtain ⟨n, rfl⟩ : ∃ z, n = z + 1 := ⟨n - 1, by omega⟩
          unfold wp_X8_till_L19
          refine ⟨fun z => absurd (i_lt.mp z) (by omega), fun _ => ⟨fun z => absurd z cm, fun _ => w2 _ ⟨fun _ x9 e9 => ?_, fun z => absurd z dm⟩⟩⟩
          rw [e9, his]
          exact u2 Q n (by omega) hQ
theorem call_run {N T : Int} {B K K2 : Nat → Int32} {S A J C S2 A2 J2 C2 Y M : Ob} (h : REL N T B K S A J C J2 M) (hN : N < 1900000000) (hT : T < 1900000000) (p : Int32) : FACE N T (fun Q => wp_X7_run (B, K, S, A, J, C, K2, S2, A2, J2, C2, Y) p Q) (fun Q => wp_X8_run M p Q) := by
  have l1 : (1 : Int32).toInt = 1 := rfl
  have l200 : (200 : Int32).toInt = 200 := rfl
  by_cases c : 1 ≤ p.toInt ∧ p.toInt ≤ 200
  · obtain ⟨v, K', S', A', J', C', M', u1, u2, h1⟩ := run_loop (K2 := K2) (S2 := S2) (A2 := A2) (C2 := C2) (Y := Y) (p := p) p.toInt.toNat 0 N T K S A J C (si M 17 0) (REL_17 h) (by omega) (by omega) (by omega) (by omega)
    refine ⟨v, _, _, _, _, _, _, K2, S2, A2, J2, C2, Y, _, fun Q hQ => ?_, fun Q hQ => ?_, REL_mono h1 (by omega) (by omega)⟩
    · unfold wp_X7_run
      exact ⟨fun z => absurd (i_lt.mp z) (by omega), fun _ => ⟨fun _ => u1 Q 2000 (by omega) hQ, fun z => absurd (i_le.mpr (by omega)) z⟩⟩
    · unfold wp_X8_run
      intro T1 e1
      subst e1
      refine b_within ?_
      rw [if_pos (by omega)]
      exact ⟨fun _ => u2 Q 2000 (by omega) hQ, fun z => absurd z (by decide)⟩
  · refine FACE_get (K2 := K2) (S2 := S2) (A2 := A2) (C2 := C2) (Y := Y) h (v := -1) (fun Q hQ => ?_) (fun Q hQ => ?_)
    · unfold wp_X7_run
      refine ⟨fun _ => hQ, fun z => ⟨fun y => ?_, fun _ => hQ⟩⟩
      rw [i_lt] at z
      rw [i_le] at y
      exact absurd ⟨by omega, by omega⟩ c
    · unfold wp_X8_run
      intro T1 e1
      subst e1
      refine b_within ?_
      rw [if_neg (by omega)]
      exact ⟨fun z => absurd rfl z, fun _ => hQ⟩
theorem call_till {N T : Int} {B K K2 : Nat → Int32} {S A J C S2 A2 J2 C2 Y M : Ob} (h : REL N T B K S A J C J2 M) (hN : N < 1900000000) (hT : T < 1900000000) (p : Int32) : FACE N T (fun Q => wp_X7_till (B, K, S, A, J, C, K2, S2, A2, J2, C2, Y) p Q) (fun Q => wp_X8_till M p Q) := by
  have l0 : (0 : Int32).toInt = 0 := rfl
  have l20 : (20 : Int32).toInt = 20 := rfl
  have l21 : (21 : Int32).toInt = 21 := rfl
  by_cases c : 0 ≤ p.toInt ∧ p.toInt < 21
  · obtain ⟨v, K', S', A', J', C', M', u1, u2, h1⟩ := till_loop (p := p) 300 1 N T K S A J C (si M 17 0) (REL_17 h) (by omega) (by omega) (by omega)
    refine ⟨v, _, _, _, _, _, _, K2, S2, A2, J2, C2, Y, _, fun Q hQ => ?_, fun Q hQ => ?_, REL_mono h1 (by omega) (by omega)⟩
    · unfold wp_X7_till wp_X3_cyclesTill
      refine b_isBelow ?_
      rw [if_pos (by omega)]
      exact ⟨fun z => absurd z (by decide), fun _ => u1 _ 2000 (by omega) hQ⟩
    · unfold wp_X8_till
      intro T1 e1
      subst e1
      refine b_within ?_
      rw [if_pos (by omega)]
      exact ⟨fun _ => u2 Q 2000 (by omega) hQ, fun z => absurd z (by decide)⟩
  · refine FACE_get (K2 := K2) (S2 := S2) (A2 := A2) (C2 := C2) (Y := Y) h (v := -1) (fun Q hQ => ?_) (fun Q hQ => ?_)
    · unfold wp_X7_till
      refine b_isBelow ?_
      rw [if_neg (by omega)]
      exact ⟨fun _ => hQ, fun z => absurd rfl z⟩
    · unfold wp_X8_till
      intro T1 e1
      subst e1
      refine b_within ?_
      rw [if_neg (by omega)]
      exact ⟨fun z => absurd rfl z, fun _ => hQ⟩
