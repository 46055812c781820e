/-! LAYER 2: what is foretold: window, keeps -/
theorem twin_req {W : Ob} {N T : Int} {B K2 : Nat → Int32} {S2 A2 J2 C2 M : Ob} {p : Int32} (h : TWIN W N T B K2 S2 A2 J2 C2 M) (ok : okI p 21) : TWIN W N T B K2 (reqS S2 p (K2 4)) A2 J2 C2 (si (mthen M (pndM M (M.2 5) p).1 (pndM M (M.2 5) p).2) 16 (-1)) := by
  have hm : sameM W (si M 16 (-1)) := TWIN_s h
  have ok2 := ok_iff.mp ok
  have h1 := MID_req h.1 ok
  rw [pnd_16] at h1
  have h2 := (TWIN_of hm h1 (rP_fr h.2 rfl rfl rfl rfl rfl (fun k hk => pnd_r (by unfold inP at hk; rw [i_nat]; omega)))).1
  obtain ⟨g1, g2⟩ := h2
  rw [up_up] at g1
  exact ⟨g1, g2⟩
/-- the tests behind the window's last loop -/
def wTst (p y2 y3 v : Int32) (k21 : Int32 → Int32 → Int32 → Ob → Prop) (M : Ob) : Prop := (¬ v = p → ∀ x14 : Int32, x14 = (y3 + 1) → k21 p y2 x14 M) ∧ (v = p → ∀ x15 : Int32, x15 = (y2 ||| (1 <<< (y3 &&& 31))) → ∀ x16 : Int32, x16 = (y3 + 1) → k21 p x15 x16 M)
theorem w72_end {p y2 y3 y4 : Int32} {k21 : Int32 → Int32 → Int32 → Ob → Prop} {Q : Int32 → Ob → Prop} {M : Ob} {n : Nat} (h0 : 0 ≤ M.1 16 ∨ 40 ≤ y4) (h : wTst p y2 y3 (M.1 16) k21 M) : wp_X8_window_L72 Q k21 (n + 1) p y2 y3 y4 M := by
  unfold wp_X8_window_L72
  refine ⟨fun _ => h, fun z => ⟨fun _ => h, fun y => ?_⟩⟩
  rcases h0 with w | w
  · exact absurd w y
  · exact absurd w z
theorem fb_lock {W : Ob} {B : Nat → Int32} {p y2 y3 : Int32} {J2 C2 : Ob} {T : Int} : ∀ (m i : Nat) (N : Int) (K2 : Nat → Int32) (S2 A2 M : Ob), TWIN W N T B K2 S2 A2 J2 C2 M → K2 5 = 5 → M.1 16 = -1 → i + m = 40 → N + m < 2000000000 → ∃ M' : Ob, (∀ (k21 : Int32 → Int32 → Int32 → Ob → Prop) (Q : Int32 → Ob → Prop) (n : Nat), m < n → wTst p y2 y3 (-1) k21 M' → wp_X8_window_L72 Q k21 n p y2 y3 (Int32.ofNat i) M) ∧ sameM W M' := by
  have l40 : (40 : Int32).toInt = 40 := rfl
  intro m
  induction m with
  | zero =>
    intro i N K2 S2 A2 M h hl h16 hi hN
    have hi0 := i_ofNat (k := i) (by omega)
    refine ⟨M, fun k21 Q n hn hQ => ?_, s16 (TWIN_s h)⟩
    obtain ⟨n, rfl⟩ : ∃ z, n = z + 1 := ⟨n - 1, by omega⟩
    exact w72_end (Or.inr (i_le.mpr (by omega))) (by rw [h16]; exact hQ)
  | succ m ih =>
    intro i N K2 S2 A2 M h hl h16 hi hN
    have hi0 := i_ofNat (k := i) (by omega)
    have his := of_succ (k := i) (by omega)
    obtain ⟨K', S', A', M1, r1, w2, h2, hl2, e16, -⟩ := twin_lock h hl (by omega)
    obtain ⟨M', u2, hs⟩ := ih (i + 1) (N + 1) K' S' A' _ h2 hl2 e16 (by omega) (by omega)
    refine ⟨M', fun k21 Q n hn hQ => ?_, hs⟩
    obtain ⟨n, rfl⟩ : ∃ z, n = z + 1 := ⟨n - 1, by omega⟩
    unfold wp_X8_window_L72
    refine ⟨fun z => absurd (i_le.mp z) (by omega), fun _ => ⟨fun z => absurd z (by rw [h16]; decide), fun _ => w2 _ (fun x23 e23 => ?_)⟩⟩
    rw [e23, his]
    exact u2 k21 Q n (by omega) hQ
theorem fb_loop {W : Ob} {B : Nat → Int32} {p y2 y3 : Int32} : ∀ (m i : Nat) (N T : Int) (K2 : Nat → Int32) (S2 A2 J2 C2 M : Ob), TWIN W N T B K2 S2 A2 J2 C2 M → M.1 16 = -1 → i + m = 40 → N + m < 2000000000 → T + 3 * m < 1999999990 → ∃ (v : Int32) (K' : Nat → Int32) (S' A' J' C' M' : Ob), (∀ (Q : Int32 → Mac → Prop) (n : Nat), m < n → Q v (K', S', A', J', C', B) → wp_X3_firstToBegin_L2 Q n 40 (Int32.ofNat i) (K2, S2, A2, J2, C2, B)) ∧ (∀ (k21 : Int32 → Int32 → Int32 → Ob → Prop) (Q : Int32 → Ob → Prop) (n : Nat), m < n → wTst p y2 y3 v k21 M' → wp_X8_window_L72 Q k21 n p y2 y3 (Int32.ofNat i) M) ∧ sameM W M' ∧ rJb (T + 3 * m) J' := by
  have l40 : (40 : Int32).toInt = 40 := rfl
  intro m
  induction m with
  | zero =>
    intro i N T K2 S2 A2 J2 C2 M h h16 hi hN hT
    have hi0 := i_ofNat (k := i) (by omega)
    refine ⟨-1, K2, S2, A2, J2, C2, M, fun Q n hn hQ => ?_, fun k21 Q n hn hQ => ?_, s16 (TWIN_s h), rJb_mono (TWIN_J h) (by omega)⟩
    · obtain ⟨n, rfl⟩ : ∃ z, n = z + 1 := ⟨n - 1, by omega⟩
      unfold wp_X3_firstToBegin_L2
      exact ⟨fun _ => hQ, fun z => absurd (i_le.mpr (by omega)) z⟩
    · obtain ⟨n, rfl⟩ : ∃ z, n = z + 1 := ⟨n - 1, by omega⟩
      exact w72_end (Or.inr (i_le.mpr (by omega))) (by rw [h16]; exact hQ)
  | succ m ih =>
    intro i N T K2 S2 A2 J2 C2 M h h16 hi hN hT
    have hi0 := i_ofNat (k := i) (by omega)
    have his := of_succ (k := i) (by omega)
    by_cases c : K2 5 = 5
    · obtain ⟨M', u2, hs⟩ := fb_lock (p := p) (y2 := y2) (y3 := y3) (m + 1) i N K2 S2 A2 M h c h16 hi (by omega)
      refine ⟨-1, K2, S2, A2, J2, C2, M', fun Q n hn hQ => ?_, u2, hs, rJb_mono (TWIN_J h) (by omega)⟩
      obtain ⟨n, rfl⟩ : ∃ z, n = z + 1 := ⟨n - 1, by omega⟩
      unfold wp_X3_firstToBegin_L2
      exact ⟨fun _ => hQ, fun _ => ⟨fun _ => hQ, fun z => absurd c z⟩⟩
    · obtain ⟨K', S', A', J', C', M1, r1, w1, w2, h3, e7, ok7, -⟩ := twin_cycle h (by omega) (by omega)
      by_cases d : K' 7 = -1
      · have dm : M1.1 16 = -1 := e7.symm.trans d
        obtain ⟨v, K'', S'', A'', J'', C'', M'', u1, u2, hs, hj⟩ := ih (i + 1) (N + 1) (T + 3) K' S' A' J' C' _ h3 dm (by omega) (by omega) (by omega)
        refine ⟨v, K'', S'', A'', J'', C'', M'', fun Q n hn hQ => ?_, fun k21 Q n hn hQ => ?_, hs, rJb_mono hj (by omega)⟩
        · obtain ⟨n, rfl⟩ : ∃ z, n = z + 1 := ⟨n - 1, by omega⟩
          unfold wp_X3_firstToBegin_L2
          refine ⟨fun z => absurd (i_le.mp z) (by omega), fun _ => ⟨fun z => absurd z c, fun _ => w1 _ ⟨fun _ x5 e5 => ?_, fun z => absurd d z⟩⟩⟩
          rw [e5, his]
          exact u1 Q n (by omega) hQ
        · obtain ⟨n, rfl⟩ : ∃ z, n = z + 1 := ⟨n - 1, by omega⟩
          unfold wp_X8_window_L72
          refine ⟨fun z => absurd (i_le.mp z) (by omega), fun _ => ⟨fun z => absurd z (by rw [h16]; decide), fun _ => w2 _ (fun x23 e23 => ?_)⟩⟩
          rw [e23, his]
          exact u2 k21 Q n (by omega) hQ
      · have dm : 0 ≤ M1.1 16 := by rw [← e7]; exact (okB_le ok7).mpr d
        refine ⟨K' 7, K', S', A', J', C', _, fun Q n hn hQ => ?_, fun k21 Q n hn hQ => ?_, s16 (TWIN_s h3), rJb_mono (TWIN_J h3) (by omega)⟩
        · obtain ⟨n, rfl⟩ : ∃ z, n = z + 1 := ⟨n - 1, by omega⟩
          unfold wp_X3_firstToBegin_L2
          exact ⟨fun z => absurd (i_le.mp z) (by omega), fun _ => ⟨fun z => absurd z c, fun _ => w1 _ ⟨fun z => absurd z d, fun _ => hQ⟩⟩⟩
        · obtain ⟨n, rfl⟩ : ∃ z, n = z + 1 := ⟨n - 1, by omega⟩
          unfold wp_X8_window_L72
          refine ⟨fun z => absurd (i_le.mp z) (by omega), fun _ => ⟨fun z => absurd z (by rw [h16]; decide), fun _ => w2 _ (fun x23 e23 => ?_)⟩⟩
          obtain ⟨n, rfl⟩ : ∃ z, n = z + 1 := ⟨n - 1, by omega⟩
          refine w72_end (Or.inl dm) ?_
          rw [e7] at hQ
          exact hQ
theorem wd_loop {W : Ob} {B K : Nat → Int32} {S A J C Y : Ob} {p y2 : Int32} {d : Nat} (hd : d < 20) (ok : okI p 21) : ∀ (m i : Nat) (N T : Int) (K2 : Nat → Int32) (S2 A2 J2 C2 M : Ob), TWIN W N T B K2 S2 A2 J2 C2 M → i + m = d → N + m + 40 < 2000000000 → T + 3 * m + 120 < 1999999990 → ∃ (v : Int32) (K' : Nat → Int32) (S' A' J' C' M' : Ob), (∀ (k15 : Int32 → Int32 → Int32 → TR7 → Prop) (Q : Int32 → TR7 → Prop) (n : Nat), m < n → ((¬ v = p → ∀ x12 : Int32, x12 = (Int32.ofNat d + 1) → k15 p y2 x12 (B, K, S, A, J, C, K', S', A', J', C', Y)) ∧ (v = p → ∀ x13 : Int32, x13 = (y2 ||| (1 <<< (Int32.ofNat d &&& 31))) → ∀ x14 : Int32, x14 = (Int32.ofNat d + 1) → k15 p x13 x14 (B, K, S, A, J, C, K', S', A', J', C', Y))) → wp_X7_window_L36 Q k15 n p y2 (Int32.ofNat d) (Int32.ofNat i) (B, K, S, A, J, C, K2, S2, A2, J2, C2, Y)) ∧ (∀ (k21 : Int32 → Int32 → Int32 → Ob → Prop) (Q : Int32 → Ob → Prop) (n : Nat), m < n → wTst p y2 (Int32.ofNat d) v k21 M' → wp_X8_window_L35 Q k21 n p y2 (Int32.ofNat d) (Int32.ofNat i) M) ∧ sameM W M' ∧ rJb (T + 3 * m + 120) J' := by
  have hd0 := i_ofNat (k := d) (by omega)
  intro m
  induction m with
  | zero =>
    intro i N T K2 S2 A2 J2 C2 M h hi hN hT
    have hi0 := i_ofNat (k := i) (by omega)
    obtain ⟨v, K'', S'', A'', J'', C'', M'', u1, u2, hs, hj⟩ := fb_loop (p := p) (y2 := y2) (y3 := Int32.ofNat d) 40 0 N T K2 _ A2 J2 C2 _ (twin_req h ok) rfl (by omega) (by omega) (by omega)
    refine ⟨v, K'', S'', A'', J'', C'', M'', fun k15 Q n hn hQ => ?_, fun k21 Q n hn hQ => ?_, hs, rJb_mono hj (by omega)⟩
    · obtain ⟨n, rfl⟩ : ∃ z, n = z + 1 := ⟨n - 1, by omega⟩
      unfold wp_X7_window_L36
      refine ⟨fun _ => request_class ok ?_, fun z => absurd (i_le.mpr (by omega)) z⟩
      unfold wp_X3_firstToBegin
      exact u1 _ 2000 (by omega) hQ
    · obtain ⟨n, rfl⟩ : ∃ z, n = z + 1 := ⟨n - 1, by omega⟩
      unfold wp_X8_window_L35
      refine ⟨fun _ => pends_model ok ?_, fun z => absurd (i_le.mpr (by omega)) z⟩
      intro T9 e9
      subst e9
      exact u2 k21 Q 2000 (by omega) hQ
  | succ m ih =>
    intro i N T K2 S2 A2 J2 C2 M h hi hN hT
    have hi0 := i_ofNat (k := i) (by omega)
    have his := of_succ (k := i) (by omega)
    obtain ⟨K', S', A', J', C', M1, r1, w1, w2, h3, -⟩ := twin_cycle h (by omega) (by omega)
    obtain ⟨v, K'', S'', A'', J'', C'', M'', u1, u2, hs, hj⟩ := ih (i + 1) (N + 1) (T + 3) K' S' A' J' C' _ h3 (by omega) (by omega) (by omega)
    refine ⟨v, K'', S'', A'', J'', C'', M'', fun k15 Q n hn hQ => ?_, fun k21 Q n hn hQ => ?_, hs, rJb_mono hj (by omega)⟩
    · obtain ⟨n, rfl⟩ : ∃ z, n = z + 1 := ⟨n - 1, by omega⟩
      unfold wp_X7_window_L36
      refine ⟨fun z => absurd (i_le.mp z) (by omega), fun _ => w1 _ (fun x16 e16 => ?_)⟩
      rw [e16, his]
      exact u1 k15 Q n (by omega) hQ
    · obtain ⟨n, rfl⟩ : ∃ z, n = z + 1 := ⟨n - 1, by omega⟩
      unfold wp_X8_window_L35
      refine ⟨fun z => absurd (i_le.mp z) (by omega), fun _ => w2 _ (fun x11 e11 => ?_)⟩
      rw [e11, his]
      exact u2 k21 Q n (by omega) hQ
theorem win_loop {B K : Nat → Int32} {S A J C Y : Ob} {p : Int32} (ok : okI p 21) : ∀ (m d : Nat) (bits : Int32) (N T : Int) (K2 : Nat → Int32) (S2 A2 J2 C2 M : Ob), REL N T B K S A J C J2 M → d + m = 20 → N < 1900000000 → T + 200 * m < 1950000000 → ∃ (v : Int32) (K' : Nat → Int32) (S' A' J' C' M' : Ob), (∀ (Q : Int32 → TR7 → Prop) (n : Nat), m < n → Q v (B, K, S, A, J, C, K', S', A', J', C', Y) → wp_X7_window_L15 Q n p bits (Int32.ofNat d) (B, K, S, A, J, C, K2, S2, A2, J2, C2, Y)) ∧ (∀ (Q : Int32 → Ob → Prop) (n : Nat), m < n → Q v M' → wp_X8_window_L21 Q n p bits (Int32.ofNat d) M) ∧ REL N (T + 200 * m) B K S A J C J' M' := by
  have l20 : (20 : Int32).toInt = 20 := rfl
  intro m
  induction m with
  | zero =>
    intro d bits N T K2 S2 A2 J2 C2 M h hi hN hT
    have hi0 := i_ofNat (k := d) (by omega)
    refine ⟨bits, K2, S2, A2, J2, C2, M, fun Q n hn hQ => ?_, fun Q n hn hQ => ?_, REL_mono h (Int.le_refl _) (by omega)⟩
    · obtain ⟨n, rfl⟩ : ∃ z, n = z + 1 := ⟨n - 1, by omega⟩
      unfold wp_X7_window_L15
      exact ⟨fun _ => hQ, fun z => absurd (i_le.mpr (by omega)) z⟩
    · obtain ⟨n, rfl⟩ : ∃ z, n = z + 1 := ⟨n - 1, by omega⟩
      unfold wp_X8_window_L21
      exact ⟨fun _ => hQ, fun z => absurd (i_le.mpr (by omega)) z⟩
  | succ m ih =>
    intro d bits N T K2 S2 A2 J2 C2 M h hi hN hT
    have hi0 := i_ofNat (k := d) (by omega)
    have his := of_succ (k := d) (by omega)
    obtain ⟨K2', S2', A2', C2', M', w1, w2, htw, hr, -⟩ := twin_lay (K2 := K2) (S2 := S2) (A2 := A2) (C2 := C2) (Y := Y) (p := 0) h isB0
    obtain ⟨v, K'', S'', A'', J'', C'', M'', u1, u2, hs, hj⟩ := wd_loop (K := K) (S := S) (A := A) (J := J) (C := C) (Y := Y) (p := p) (y2 := bits) (d := d) (by omega) ok d 0 N T K2' S2' A2' J2 C2' M' htw (by omega) (by omega) (by omega)
    have h1 : REL N (T + 200) B K S A J C J'' M'' := REL_back hr hs (by omega) (rJb_mono hj (by omega))
    by_cases c : v = p
    · obtain ⟨x, K3, S3, A3, J3, C3, M3, q1, q2, h2⟩ := ih (d + 1) (bits ||| (1 <<< (Int32.ofNat d &&& 31))) N (T + 200) K'' S'' A'' J'' C'' M'' h1 (by omega) hN (by omega)
      refine ⟨x, K3, S3, A3, J3, C3, M3, fun Q n hn hQ => ?_, fun Q n hn hQ => ?_, REL_mono h2 (Int.le_refl _) (by omega)⟩
      · obtain ⟨n, rfl⟩ : ∃ z, n = z + 1 := ⟨n - 1, by omega⟩
        unfold wp_X7_window_L15
        refine ⟨fun z => absurd (i_le.mp z) (by omega), fun _ => w1 _ (u1 _ Q 2000 (by omega) ⟨fun z => absurd c z, fun _ x13 e13 x14 e14 => ?_⟩)⟩
        rw [e13, e14, his]
        exact q1 Q n (by omega) hQ
      · obtain ⟨n, rfl⟩ : ∃ z, n = z + 1 := ⟨n - 1, by omega⟩
        unfold wp_X8_window_L21
        refine ⟨fun z => absurd (i_le.mp z) (by omega), fun _ => w2 _ (u2 _ Q 2000 (by omega) ⟨fun z => absurd c z, fun _ x13 e13 x14 e14 => ?_⟩)⟩
        rw [e13, e14, his]
        exact q2 Q n (by omega) hQ
    · obtain ⟨x, K3, S3, A3, J3, C3, M3, q1, q2, h2⟩ := ih (d + 1) bits N (T + 200) K'' S'' A'' J'' C'' M'' h1 (by omega) hN (by omega)
      refine ⟨x, K3, S3, A3, J3, C3, M3, fun Q n hn hQ => ?_, fun Q n hn hQ => ?_, REL_mono h2 (Int.le_refl _) (by omega)⟩
      · obtain ⟨n, rfl⟩ : ∃ z, n = z + 1 := ⟨n - 1, by omega⟩
        unfold wp_X7_window_L15
        refine ⟨fun z => absurd (i_le.mp z) (by omega), fun _ => w1 _ (u1 _ Q 2000 (by omega) ⟨fun _ x12 e12 => ?_, fun z => absurd z c⟩)⟩
        rw [e12, his]
        exact q1 Q n (by omega) hQ
      · obtain ⟨n, rfl⟩ : ∃ z, n = z + 1 := ⟨n - 1, by omega⟩
        unfold wp_X8_window_L21
        refine ⟨fun z => absurd (i_le.mp z) (by omega), fun _ => w2 _ (u2 _ Q 2000 (by omega) ⟨fun _ x12 e12 => ?_, fun z => absurd z c⟩)⟩
        rw [e12, his]
        exact q2 Q n (by omega) hQ
theorem call_window {N T : Int} {B K K2 : Nat → Int32} {S A J C S2 A2 J2 C2 Y M : Ob} (h : REL N T B K S A J C J2 M) (hN : N < 1900000000) (hT : T < 1900000000) (p : Int32) : FACE N T (fun Q => wp_X7_window (B, K, S, A, J, C, K2, S2, A2, J2, C2, Y) p Q) (fun Q => wp_X8_window M p Q) := by
  have l0 : (0 : Int32).toInt = 0 := rfl
  have l17 : (17 : Int32).toInt = 17 := rfl
  have l18 : (18 : Int32).toInt = 18 := rfl
  by_cases c : 0 ≤ p.toInt ∧ p.toInt < 18
  · obtain ⟨v, K'', S'', A'', J'', C'', M'', u1, u2, h1⟩ := win_loop (Y := Y) (p := p) (ok_iff.mpr (by omega)) 20 0 0 N T K2 S2 A2 J2 C2 (si M 17 0) (REL_17 h) (by omega) hN (by omega)
    refine ⟨v, _, _, _, _, _, _, K'', S'', A'', J'', C'', Y, _, fun Q hQ => ?_, fun Q hQ => ?_, REL_mono h1 (by omega) (by omega)⟩
    · unfold wp_X7_window
      refine b_isBelow ?_
      rw [if_pos (by omega)]
      exact ⟨fun _ => u1 Q 2000 (by omega) hQ, fun z => absurd z (by decide)⟩
    · unfold wp_X8_window
      intro T1 e1
      subst e1
      refine b_within ?_
      rw [if_pos (by omega)]
      exact ⟨fun _ => u2 Q 2000 (by omega) hQ, fun z => absurd z (by decide)⟩
  · refine FACE_get (K2 := K2) (S2 := S2) (A2 := A2) (C2 := C2) (Y := Y) h (v := -1) (fun Q hQ => ?_) (fun Q hQ => ?_)
    · unfold wp_X7_window
      refine b_isBelow ?_
      rw [if_neg (by omega)]
      exact ⟨fun z => absurd rfl z, fun _ => hQ⟩
    · unfold wp_X8_window
      intro T1 e1
      subst e1
      refine b_within ?_
      rw [if_neg (by omega)]
      exact ⟨fun z => absurd rfl z, fun _ => hQ⟩
