/-! LAYER 2: reset; a new object -/
theorem call_reset {N T : Int} {B K K2 : Nat → Int32} {S A J C S2 A2 J2 C2 Y M : Ob} (h : REL N T B K S A J C J2 M) (hN : 0 ≤ N) (hT : 0 ≤ T) : FACE N T (fun Q => wp_X7_reset (B, K, S, A, J, C, K2, S2, A2, J2, C2, Y) Q) (fun Q => wp_X8_reset M Q) := by
  obtain ⟨hS, hA, hJ, hC, hB, hK, hp, hP, hJ2⟩ := id h
  have R : limR S (M.2 4) := hS.1.1.1.1
  have e30 : S.1 10 = M.2 4 30 := R.1.1
  let C' : Ob := si (si (si (si (si (si (si (si (si (sa (sa (sa (sa C 1 (fill (C.2 1) 0 8 0)) 2 (fill (C.2 2) 0 4 0)) 3 (fill (C.2 3) 0 16 0)) 4 (fill (C.2 4) 0 96 0)) 5 0) 6 0) 7 0) 8 0) 9 0) 10 0) 11 (-1)) 12 0) 13 0
  let J' : Ob := si (si (si (si (si (si (si (si (si (si (si (si J 2 0) 3 0) 4 0) 5 0) 6 0) 7 0) 8 0) 9 0) 10 0) 11 0) 12 0) 13 0
  have hzS : zS (rstS S) := by
    refine ⟨⟨rfl, rfl, rfl, rfl, rfl⟩, fun k hk => ⟨?_, ?_, ?_, ?_⟩⟩
    · show (sa (sa (sa (sa S 3 (fill (S.2 3) 0 21 0)) 4 (fill (S.2 4) 0 21 0)) 5 (fill (S.2 5) 0 21 0)) 8 (fill (S.2 8) 0 21 (-1))).2 3 k = 0
      rw [sa_ne (by decide), sa_ne (by decide), sa_ne (by decide), sa_self, fill_in (by omega)]
    · show (sa (sa (sa (sa S 3 (fill (S.2 3) 0 21 0)) 4 (fill (S.2 4) 0 21 0)) 5 (fill (S.2 5) 0 21 0)) 8 (fill (S.2 8) 0 21 (-1))).2 4 k = 0
      rw [sa_ne (by decide), sa_ne (by decide), sa_self, fill_in (by omega)]
    · show (sa (sa (sa (sa S 3 (fill (S.2 3) 0 21 0)) 4 (fill (S.2 4) 0 21 0)) 5 (fill (S.2 5) 0 21 0)) 8 (fill (S.2 8) 0 21 (-1))).2 5 k = 0
      rw [sa_ne (by decide), sa_self, fill_in (by omega)]
    · show (sa (sa (sa (sa S 3 (fill (S.2 3) 0 21 0)) 4 (fill (S.2 4) 0 21 0)) 5 (fill (S.2 5) 0 21 0)) 8 (fill (S.2 8) 0 21 (-1))).2 8 k = -1
      rw [sa_self, fill_in (by omega)]
  have hzC : zC C' := by
    refine ⟨fun k hk => ?_, fun k hk => ?_, fun k hk => ?_, fun k hk => ?_, rfl, rfl, rfl, rfl, rfl, rfl, rfl, rfl, rfl⟩
    · show (sa (sa (sa (sa C 1 (fill (C.2 1) 0 8 0)) 2 (fill (C.2 2) 0 4 0)) 3 (fill (C.2 3) 0 16 0)) 4 (fill (C.2 4) 0 96 0)).2 1 k = 0
      rw [sa_ne (by decide), sa_ne (by decide), sa_ne (by decide), sa_self, fill_in (by omega)]
    · show (sa (sa (sa (sa C 1 (fill (C.2 1) 0 8 0)) 2 (fill (C.2 2) 0 4 0)) 3 (fill (C.2 3) 0 16 0)) 4 (fill (C.2 4) 0 96 0)).2 2 k = 0
      rw [sa_ne (by decide), sa_ne (by decide), sa_self, fill_in (by omega)]
    · show (sa (sa (sa (sa C 1 (fill (C.2 1) 0 8 0)) 2 (fill (C.2 2) 0 4 0)) 3 (fill (C.2 3) 0 16 0)) 4 (fill (C.2 4) 0 96 0)).2 3 k = 0
      rw [sa_ne (by decide), sa_self, fill_in (by omega)]
    · show (sa (sa (sa (sa C 1 (fill (C.2 1) 0 8 0)) 2 (fill (C.2 2) 0 4 0)) 3 (fill (C.2 3) 0 16 0)) 4 (fill (C.2 4) 0 96 0)).2 4 k = 0
      rw [sa_self, fill_in (by omega)]
  have hzJ : ∀ k : Nat, 2 ≤ k → k ≤ 13 → J'.1 k = 0 := by
    intro k h1 h2
    rcases (show k = 2 ∨ k = 3 ∨ k = 4 ∨ k = 5 ∨ k = 6 ∨ k = 7 ∨ k = 8 ∨ k = 9 ∨ k = 10 ∨ k = 11 ∨ k = 12 ∨ k = 13 by omega) with rfl | rfl | rfl | rfl | rfl | rfl | rfl | rfl | rfl | rfl | rfl | rfl <;> rfl
  have h1 : REL N T B (upd (upd (upd K 4 0) 5 0) 6 0) (rstS S) (si (si A 2 0) 4 (A.1 3)) J' C' J2 (f10 (si M 17 0) ((si M 17 0).2 4 26) 0) := REL_zero (M := si M 17 0) hzS hzC hzJ ⟨rfl, hA.2.2.1, hA.2.2.1⟩ ⟨rfl, rfl, rfl, hK.2.2.2.1, hK.2.2.2.2, hp⟩ R.2.2.1 R.2.2.2.1 hS.1.1.1.2.1 hS.1.1.1.2.2.2.1 hS.1.2.2.1 hS.1.1.1.2.2.2.2 hS.1.2.2.2.2.2.2 (rB_fr hB rfl) hJ2 hN hT
  refine ⟨S.1 10, _, _, _, _, _, _, K2, S2, A2, J2, C2, Y, _, fun Q hQ => ?_, fun Q hQ => ?_, REL_up h1⟩
  · unfold wp_X7_reset wp_X3_restart
    intro x1 e1
    subst e1
    refine restart_S ?_
    unfold wp_X0_restart
    intro T1 e1 T2 e2
    subst e1
    subst e2
    unfold wp_X2_restart
    intro U1 f1 U2 f2 U3 f3 U4 f4 U5 f5 U6 f6 U7 f7 U8 f8 U9 f9 U10 f10' U11 f11 U12 f12
    subst f1; subst f2; subst f3; subst f4; subst f5; subst f6; subst f7; subst f8; subst f9; subst f10'; subst f11; subst f12
    unfold wp_X1_restart
    refine fill_c (by decide) (fill_c (by decide) (fill_c (by decide) (fill_c (by decide) ?_)))
    intro V5 g5 V6 g6 V7 g7 V8 g8 V9 g9 V10 g10 V11 g11 V12 g12 V13 g13
    subst g5; subst g6; subst g7; subst g8; subst g9; subst g10; subst g11; subst g12; subst g13
    intro W5 k5 W6 k6 W7 k7
    subst k5; subst k6; subst k7
    exact hQ
  · unfold wp_X8_reset
    intro T1 e1 x2 e2
    subst e1
    have e2 : x2 = S.1 10 := by rw [e2]; exact e30.symm
    subst e2
    exact fresh_model hQ
def Z0 : Ob := ((fun _ => 0), (fun _ => (fun _ => 0)))
def S00 : Ob := sa (sa (sa Z0 0 (upd (fill (fun _ => 0) 0 21 255) 20 (-1))) 8 (fill (fun _ => 0) 0 21 (-1))) 2 (upd (fun _ => 0) 20 1)
theorem init_S {Q : Ob → Prop} (h : Q S00) : wp_X5_init Q := by
  unfold wp_X5_init
  intro S e
  have e : S = Z0 := e
  subst e
  refine fill_c (by decide) ?_
  intro T2 e2
  rw [sa_sa] at e2
  subst e2
  refine fill_c (by decide) ?_
  intro T4 e4
  have r8 : (sa Z0 0 (upd (fill (Z0.2 0) 0 21 255) 20 (-1))).2 8 = fun _ => 0 := by rw [sa_ne (by decide)]; rfl
  have r2 : (sa Z0 0 (upd (fill (Z0.2 0) 0 21 255) 20 (-1))).2 2 = fun _ => 0 := by rw [sa_ne (by decide)]; rfl
  rw [r8, r2] at e4
  subst e4
  exact h
theorem mi_loop {Q : Ob → Prop} : ∀ (m i n : Nat) (T : Ob), i + m = 21 → m < n → wp_X8_fresh (sa (sa T 4 (fill (T.2 4) (173 + i) 194 255)) 2 (upd (T.2 2) 20 1)) Q → wp_X8_init_L150 Q n (Int32.ofNat i) T := by
  have l21 : (21 : Int32).toInt = 21 := rfl
  have l173 : (173 : Int32).toInt = 173 := rfl
  intro m
  induction m with
  | zero =>
    intro i n T hi hn hQ
    obtain ⟨n, rfl⟩ : ∃ z, n = z + 1 := ⟨n - 1, by omega⟩
    have e : i = 21 := by omega
    subst e
    rw [fill_end, sa_same] at hQ
    unfold wp_X8_init_L150
    refine ⟨fun _ T2 e2 => ?_, fun z => absurd (by decide) z⟩
    subst e2
    exact hQ
  | succ m ih =>
    intro i n T hi hn hQ
    obtain ⟨n, rfl⟩ : ∃ z, n = z + 1 := ⟨n - 1, by omega⟩
    have hi0 := i_ofNat (k := i) (by omega)
    have hin := n_of (k := i) (by omega)
    have his := of_succ (k := i) (by omega)
    have o := off (a := 173) (k := Int32.ofNat i) (by omega) (by omega) (by omega)
    rw [hin, show (173 : Int32).toNatClampNeg = 173 from rfl] at o
    unfold wp_X8_init_L150
    refine ⟨fun z => absurd (i_le.mp z) (by omega), fun _ => ⟨o.1, fun T4 e4 x5 e5 => ?_⟩⟩
    rw [o.2] at e4
    rw [e5, his]
    refine ih (i + 1) n _ (by omega) (by omega) ?_
    subst e4
    rw [sa_self, sa_sa, show 173 + (i + 1) = 173 + i + 1 from rfl, fill_step (by omega), sa_ne (by decide)]
    exact hQ
/-- a new object beside a new reference -/
theorem init_pair {P : TR7 → Ob → Prop} (h : ∀ (B K : Nat → Int32) (S A J C : Ob) (K2 : Nat → Int32) (S2 A2 J2 C2 Y M : Ob), REL 0 0 B K S A J C J2 M → P (B, K, S, A, J, C, K2, S2, A2, J2, C2, Y) M) : wp_X7_init (fun S => wp_X8_init (fun M => P S M)) := by
  have hzS : zS S00 := by
    refine ⟨⟨rfl, rfl, rfl, rfl, rfl⟩, fun k hk => ⟨?_, ?_, ?_, ?_⟩⟩
    · unfold S00; rw [sa_ne (by decide), sa_ne (by decide), sa_ne (by decide)]; rfl
    · unfold S00; rw [sa_ne (by decide), sa_ne (by decide), sa_ne (by decide)]; rfl
    · unfold S00; rw [sa_ne (by decide), sa_ne (by decide), sa_ne (by decide)]; rfl
    · unfold S00; rw [sa_ne (by decide), sa_self, fill_in (by omega)]
  have e0 : S00.2 0 = upd (fill (fun _ => 0) 0 21 255) 20 (-1) := by unfold S00; rw [sa_ne (by decide), sa_ne (by decide), sa_self]
  have e1 : S00.2 1 = fun _ => 0 := by unfold S00; rw [sa_ne (by decide), sa_ne (by decide), sa_ne (by decide)]; rfl
  have e2 : S00.2 2 = upd (fun _ => 0) 20 1 := by unfold S00; rw [sa_self]
  let M0 : Ob := sa (sa Z0 4 (fill (fun _ => 0) 173 194 255)) 2 (upd (fun _ => 0) 20 1)
  have m4 : M0.2 4 = fill (fun _ => 0) 173 194 255 := by
    show (sa (sa Z0 4 (fill (fun _ => 0) 173 194 255)) 2 (upd (fun _ => 0) 20 1)).2 4 = _
    rw [sa_ne (by decide), sa_self]
  have m2 : M0.2 2 = upd (fun _ => 0) 20 1 := sa_self _ _ _
  have m1 : M0.2 1 = fun _ => 0 := by
    show (sa (sa Z0 4 (fill (fun _ => 0) 173 194 255)) 2 (upd (fun _ => 0) 20 1)).2 1 = _
    rw [sa_ne (by decide), sa_ne (by decide)]; rfl
  have m0 : M0.2 0 = fun _ => 0 := by
    show (sa (sa Z0 4 (fill (fun _ => 0) 173 194 255)) 2 (upd (fun _ => 0) 20 1)).2 0 = _
    rw [sa_ne (by decide), sa_ne (by decide)]; rfl
  have p26 : M0.2 4 26 = 0 := by rw [m4, fill_out (by omega)]
  have h1 : REL 0 0 (fun _ => 0) (fun k => if k = 7 then (-1) else if k = 8 then (-1) else 0) S00 Z0 Z0 ((fun k => if k = 11 then (-1) else 0), (fun _ => (fun _ => 0))) Z0 (f10 M0 (M0.2 4 26) 0) := by
    refine REL_zero hzS ⟨fun _ _ => rfl, fun _ _ => rfl, fun _ _ => rfl, fun _ _ => rfl, rfl, rfl, rfl, rfl, rfl, rfl, rfl, rfl, rfl⟩ (fun _ _ _ => rfl) ⟨rfl, p26.symm, p26.symm⟩ ⟨rfl, rfl, rfl, isB0, isB0, rfl⟩ (fun k hk => ?_) ?_ (fun k hk => ?_) (fun k hk => ?_) (fun k hk => ?_) ⟨rfl, by decide, by decide⟩ (fun k hk => ?_) (fun k hk => ?_) ⟨by decide, by decide, by decide⟩ (by decide) (by decide)
    · rw [e0, m4, up_ne (by omega), fill_in (by omega), fill_in (by omega)]
    · rw [e0, up_eq]
    · rw [e0, up_ne (by omega), fill_in (by omega)]; decide
    · rw [e2, m2]
    · rw [e2]
      by_cases c : k = 20
      · rw [c, up_eq]; exact isB1
      · rw [up_ne c]; exact isB0
    · rw [e1, m1]; exact ⟨rfl, (show 0 ≤ (0 : Int32).toInt by decide), (show (0 : Int32).toInt < 512 by decide)⟩
    · rw [m0]; exact ⟨rfl, by decide, by decide⟩
  unfold wp_X7_init wp_X3_init
  refine init_S ?_
  unfold wp_X0_init wp_X2_init wp_X1_init
  intro a0 f0 a1 f1 a2 f2 t21 f3
  refine init_S ?_
  intro b0 g0 b1 g1 b2 g2 t33 g3
  unfold wp_X6_init
  intro y0 g4 S g5
  have f0 : a0 = Z0 := f0
  have f1 : a1 = Z0 := f1
  have g0 : b0 = Z0 := g0
  have g1 : b1 = Z0 := g1
  subst f0; subst f1; subst f2; subst f3; subst g0; subst g1; subst g2; subst g3; subst g5
  unfold wp_X8_init
  intro Z g6
  have g6 : Z = Z0 := g6
  subst g6
  refine mi_loop 21 0 2000 Z0 (by omega) (by omega) ?_
  exact fresh_model (M := M0) (h _ _ _ _ _ _ _ _ _ _ _ _ _ h1)
