/-! LAYER 2: a cycle, both sides -/
def mSw (nw : Bool) (Q : Mod → Prop) (M : Ob) (r : Nat → Int32) : Prop := ((¬ (r 20) = 0 → ((¬ (r 20) = 1 → ((¬ (r 20) = 2 → ((¬ (r 20) = 3 → ((¬ (r 20) = 4 → Q (M, r)) ∧ ((r 20) = 4 → wp_X8_saves nw (M, r) (fun u11 => Q u11)))) ∧ ((r 20) = 3 → wp_X8_unstacks nw (M, r) (fun u12 => Q u12)))) ∧ ((r 20) = 2 → wp_X8_chains nw (M, r) (fun u13 => Q u13)))) ∧ ((r 20) = 1 → wp_X8_stacks nw (M, r) (fun u14 => Q u14)))) ∧ ((r 20) = 0 → wp_X8_runs nw (M, r) (fun u15 => Q u15)))
def mTick (nw : Bool) (Q : Mod → Prop) (M : Ob) (r : Nat → Int32) : Prop := (((r 26) = 0 → mSw nw Q M r) ∧ (¬ (r 26) = 0 → ∀ T16 : (Nat → Int32), T16 = (upd r 27 ((r 27) - 1)) → ((¬ (T16 27) = 0 → mSw nw Q M T16) ∧ ((T16 27) = 0 → wp_X8_pends nw (M, T16) 16 (fun u28 => ∀ T29 : (Nat → Int32), T29 = (upd u28.2 27 (u28.2 26)) → mSw nw Q u28.1 T29)))))
/-- cells that the phases alone read -/
def inP (k : Nat) : Prop := k = 24 ∨ k = 28 ∨ k = 29 ∨ k = 32
theorem adm_pair {W : Ob} {nw : Bool} {N T : Int} {K B : Nat → Int32} {J C : Ob} : ∀ (m i kept : Nat) (S A M : Ob) (r : Nat → Int32), MID W nw N T K S A J C B M r → (A.1 2).toInt = (i : Int) + m → kept ≤ i → ∃ (S' A' M' : Ob) (r' : Nat → Int32), (∀ (Q : Ob × Ob → Prop) (n : Nat), m < n → Q (A', S') → wp_X0_admit_L5 Q n (K 4) (Int32.ofNat kept) (Int32.ofNat i) (A, S)) ∧ (∀ (Q : Mod → Prop) (n : Nat), m < n → mTick nw Q M' r' → wp_X8_cycle_L17 nw Q n (Int32.ofNat kept) (Int32.ofNat i) (M, r)) ∧ MID W nw N T K S' A' J C B M' r' ∧ (∀ k, inP k → r' k = r k) := by
  intro m
  induction m with
  | zero =>
    intro i kept S A M r h hs hk
    obtain ⟨⟨a1, a2, a3⟩, b, c, d⟩ := h.2.1
    have hi0 := i_ofNat (k := i) (by omega)
    have hk0 := i_ofNat (k := kept) (by omega)
    have h1 : MID W nw N T K S (si A 2 (Int32.ofNat kept)) J C B M (upd r 31 (Int32.ofNat kept)) := by
      refine MID_A h ⟨⟨?_, ?_, ?_⟩, fun k hk2 => ?_, ?_, ?_⟩ (fun k hk2 => up_ne (by unfold inA at hk2; omega))
      · rw [si_self, up_eq]
      · rw [si_self, hk0]; omega
      · rw [si_self, hk0]; omega
      · rw [si_self, hk0] at hk2
        rw [up_ne (by omega), up_ne (by omega)]
        exact b k (by omega)
      · rw [up_ne (by omega)]; exact c
      · rw [up_ne (by omega)]; exact d
    refine ⟨_, _, _, _, fun Q n hn hQ => ?_, fun Q n hn hQ => ?_, h1, fun k hk => up_ne (by unfold inP at hk; omega)⟩
    · obtain ⟨n, rfl⟩ : ∃ z, n = z + 1 := ⟨n - 1, by omega⟩
      unfold wp_X0_admit_L5
      dsimp only
      refine ⟨fun _ T2 e2 => ?_, fun z => absurd (i_le.mpr (by omega)) z⟩
      subst e2
      exact hQ
    · obtain ⟨n, rfl⟩ : ∃ z, n = z + 1 := ⟨n - 1, by omega⟩
      unfold wp_X8_cycle_L17
      dsimp only
      refine ⟨fun _ T4 e4 => ?_, fun z => absurd (i_le.mpr (by rw [← a1]; omega)) z⟩
      subst e4
      exact hQ
  | succ m ih =>
    intro i kept S A M r h hs hk
    obtain ⟨⟨a1, a2, a3⟩, b, c, d⟩ := h.2.1
    have hi0 := i_ofNat (k := i) (by omega)
    have hin := n_of (k := i) (by omega)
    have his := of_succ (k := i) (by omega)
    have hk0 := i_ofNat (k := kept) (by omega)
    have hkn := n_of (k := kept) (by omega)
    have hks := of_succ (k := kept) (by omega)
    have l236 : (236 : Int32).toInt = 236 := rfl
    have l268 : (268 : Int32).toInt = 268 := rfl
    have oi1 := off (a := 236) (k := Int32.ofNat i) (by omega) (by omega) (by omega)
    have oi2 := off (a := 268) (k := Int32.ofNat i) (by omega) (by omega) (by omega)
    have ok1 := off (a := 236) (k := Int32.ofNat kept) (by omega) (by omega) (by omega)
    have ok2 := off (a := 268) (k := Int32.ofNat kept) (by omega) (by omega) (by omega)
    rw [hin, show (236 : Int32).toNatClampNeg = 236 from rfl] at oi1
    rw [hin, show (268 : Int32).toNatClampNeg = 268 from rfl] at oi2
    rw [hkn, show (236 : Int32).toNatClampNeg = 236 from rfl] at ok1
    rw [hkn, show (268 : Int32).toNatClampNeg = 268 from rfl] at ok2
    obtain ⟨b1, b2, b3⟩ := b i (by omega)
    have e25 : K 4 = r 25 := h.2.2.2.2.2.1.1.1
    have okI32 : okI (Int32.ofNat i) 32 := ok_iff.mpr (by omega)
    have okK32 : okI (Int32.ofNat kept) 32 := ok_iff.mpr (by omega)
    by_cases q : A.2 1 i = K 4
    · have q2 : r (268 + i) = r 25 := by rw [← b2, ← e25]; exact q
      have ow : okI (A.2 0 i) 21 := ok_iff.mpr (by have := ok_iff.mp b3; omega)
      have h1 := MID_req h ow
      obtain ⟨S', A', M', r', w1, w2, h2, h3⟩ := ih (i + 1) kept _ _ _ _ h1 (by omega) (by omega)
      have oww := ok_iff.mp ow
      refine ⟨S', A', M', r', fun Q n hn hQ => ?_, fun Q n hn hQ => ?_, h2, fun k hk => by rw [h3 k hk]; exact pnd_r (by unfold inP at hk; rw [i_nat]; omega)⟩
      · obtain ⟨n, rfl⟩ : ∃ z, n = z + 1 := ⟨n - 1, by omega⟩
        unfold wp_X0_admit_L5
        dsimp only
        refine ⟨fun z => absurd (i_le.mp z) (by omega), fun _ => ⟨okI32, fun z => absurd (by rw [hin]; exact q) z, fun _ => ⟨okI32, ?_⟩⟩⟩
        rw [hin]
        refine request_class ow ?_
        intro x10 e10
        rw [e10, his]
        exact w1 Q n (by omega) hQ
      · obtain ⟨n, rfl⟩ : ∃ z, n = z + 1 := ⟨n - 1, by omega⟩
        unfold wp_X8_cycle_L17
        dsimp only
        rw [oi2.2, oi1.2]
        refine ⟨fun z => absurd (i_le.mp z) (by rw [← a1]; omega), fun _ => ⟨oi2.1, fun z => absurd q2 z, fun _ => ⟨oi1.1, ?_⟩⟩⟩
        rw [← b1]
        refine pends_model ow ?_
        intro x46 e46
        rw [e46, his]
        exact w2 Q n (by omega) hQ
    · have q2 : ¬ r (268 + i) = r 25 := by rw [← b2, ← e25]; exact q
      have h1 : MID W nw N T K S (sa (sa A 0 (upd (A.2 0) kept (A.2 0 i))) 1 (upd (A.2 1) kept (A.2 1 i))) J C B M (upd (upd r (236 + kept) (r (236 + i))) (268 + kept) (r (268 + i))) := by
        refine MID_A h ⟨⟨?_, a2, a3⟩, fun k hk2 => ?_, ?_, ?_⟩ (fun k hk2 => by unfold inA at hk2; rw [up_ne (by omega), up_ne (by omega)])
        · rw [up_ne (by omega), up_ne (by omega)]; exact a1
        · have hk2 : (k : Int) < (A.1 2).toInt := hk2
          rw [sa_ne (by decide), sa_self, sa_self]
          obtain ⟨c1, c2, c3⟩ := b k hk2
          by_cases z : k = kept
          · subst z
            rw [up_eq, up_eq, up_eq, up_ne (by omega), up_eq]
            exact ⟨b1, b2, b3⟩
          · rw [up_ne z, up_ne z, up_ne (by omega), up_ne (by omega), up_ne (by omega), up_ne (by omega)]
            exact ⟨c1, c2, c3⟩
        · rw [up_ne (by omega), up_ne (by omega)]; exact c
        · rw [up_ne (by omega), up_ne (by omega)]; exact d
      obtain ⟨S', A', M', r', w1, w2, h2, h3⟩ := ih (i + 1) (kept + 1) _ _ _ _ h1 (by show (A.1 2).toInt = _; omega) (by omega)
      refine ⟨S', A', M', r', fun Q n hn hQ => ?_, fun Q n hn hQ => ?_, h2, fun k hk => by rw [h3 k hk]; unfold inP at hk; rw [up_ne (by omega), up_ne (by omega)]⟩
      · obtain ⟨n, rfl⟩ : ∃ z, n = z + 1 := ⟨n - 1, by omega⟩
        unfold wp_X0_admit_L5
        dsimp only
        rw [hin, hkn]
        refine ⟨fun z => absurd (i_le.mp z) (by omega), fun _ => ⟨okI32, fun _ => ⟨okI32, okK32, fun T4 e4 => ⟨okI32, okK32, fun T5 e5 x6 e6 x7 e7 => ?_⟩⟩, fun z => absurd z q⟩⟩
        have e5 : T5 = sa (sa A 0 (upd (A.2 0) kept (A.2 0 i))) 1 (upd (A.2 1) kept (A.2 1 i)) := by
          rw [e5, e4, sa_ne (by decide)]
        subst e5
        rw [e6, e7, hks, his]
        exact w1 Q n (by omega) hQ
      · obtain ⟨n, rfl⟩ : ∃ z, n = z + 1 := ⟨n - 1, by omega⟩
        unfold wp_X8_cycle_L17
        dsimp only
        rw [oi2.2, oi1.2, ok1.2, ok2.2]
        refine ⟨fun z => absurd (i_le.mp z) (by rw [← a1]; omega), fun _ => ⟨oi2.1, fun _ => ⟨oi1.1, ok1.1, fun T41 e41 => ⟨oi2.1, ok2.1, fun T42 e42 x43 e43 x44 e44 => ?_⟩⟩, fun z => absurd z q2⟩⟩
        have e42 : T42 = upd (upd r (236 + kept) (r (236 + i))) (268 + kept) (r (268 + i)) := by
          rw [e42, e41, up_ne (by omega)]
        subst e42
        rw [e43, e44, hks, his]
        exact w2 Q n (by omega) hQ
theorem tick_pair {W : Ob} {nw : Bool} {N T : Int} {K B r : Nat → Int32} {S A J C M : Ob} (h : MID W nw N T K S A J C B M r) : ∃ (S' A' M' : Ob) (r' : Nat → Int32), (∀ (Q : Ob × Ob → Prop), Q (A', S') → wp_X0_tick (A, S) (K 4) Q) ∧ (∀ (Q : Mod → Prop), mSw nw Q M' r' → mTick nw Q M r) ∧ MID W nw N T K S' A' J C B M' r' ∧ (∀ k, inP k → r' k = r k) := by
  obtain ⟨⟨a1, a2, a3⟩, b, c, d⟩ := h.2.1
  have set4 : ∀ (S0 M0 : Ob) (r0 : Nat → Int32) (A0 : Ob) (v : Int32), MID W nw N T K S0 A0 J C B M0 r0 → MID W nw N T K S0 (si A0 4 v) J C B M0 (upd r0 27 v) := by
    intro S0 M0 r0 A0 v g
    obtain ⟨⟨g1, g2, g3⟩, gb, gc, gd⟩ := g.2.1
    refine MID_A g ⟨⟨?_, g2, g3⟩, fun k hk2 => ?_, ?_, ?_⟩ (fun k hk2 => up_ne (by unfold inA at hk2; omega))
    · rw [up_ne (by omega)]; exact g1
    · rw [up_ne (by omega), up_ne (by omega)]
      exact gb k hk2
    · rw [up_ne (by omega)]; exact gc
    · rw [up_eq]; rfl
  by_cases p : A.1 3 = 0
  · have pm : r 26 = 0 := by rw [← c]; exact p
    refine ⟨_, _, _, _, fun Q hQ => ?_, fun Q hQ => ⟨fun _ => hQ, fun z => absurd pm z⟩, h, fun _ _ => rfl⟩
    unfold wp_X0_tick
    exact ⟨fun z => absurd p z, fun _ => hQ⟩
  · have pm : ¬ r 26 = 0 := by rw [← c]; exact p
    have h1 := set4 _ _ _ _ (A.1 4 - 1) h
    by_cases q : A.1 4 - 1 = 0
    · have q2 : r 27 - 1 = 0 := by rw [← d]; exact q
      have h2 := MID_req (k := 16) h1 (okLit (by decide))
      have h3 := set4 _ _ _ _ (A.1 3) h2
      have ep : upd r 27 (A.1 4 - 1) = upd r 27 (r 27 - 1) := by rw [d]
      refine ⟨_, _, _, _, fun Q hQ => ?_, fun Q hQ => ⟨fun z => absurd z pm, fun _ T16 e16 => ?_⟩, h3, fun k hk => ?_⟩
      · unfold wp_X0_tick
        refine ⟨fun _ T2 e2 => ?_, fun z => absurd z p⟩
        subst e2
        refine ⟨fun z => absurd (by rw [si_self]; exact q) z, fun _ => request_class (okLit (by decide)) ?_⟩
        intro T6 e6
        subst e6
        exact hQ
      · rw [← ep] at e16
        subst e16
        refine ⟨fun z => absurd (by rw [up_eq]; exact q) z, fun _ => pends_model (okLit (by decide)) ?_⟩
        intro T29 e29
        have e26 : (pndM M (upd r 27 (A.1 4 - 1)) 16).2 26 = A.1 3 := by
          rw [pnd_r (by decide), up_ne (by decide)]
          exact c.symm
        rw [e26] at e29
        subst e29
        exact hQ
      · unfold inP at hk
        rw [up_ne (by omega), pnd_r (by rw [show Int32.toNatClampNeg 16 = 16 from rfl]; omega), up_ne (by omega)]
    · have q2 : ¬ r 27 - 1 = 0 := by rw [← d]; exact q
      refine ⟨_, _, _, _, fun Q hQ => ?_, fun Q hQ => ⟨fun z => absurd z pm, fun _ T16 e16 => ?_⟩, h1, fun k hk => up_ne (by unfold inP at hk; omega)⟩
      · unfold wp_X0_tick
        refine ⟨fun _ T2 e2 => ?_, fun z => absurd z p⟩
        subst e2
        exact ⟨fun _ => hQ, fun z => absurd (by rw [si_self] at z; exact z) q⟩
      · rw [d] at hQ
        subst e16
        exact ⟨fun _ => hQ, fun z => absurd (by rw [up_eq] at z; exact z) q2⟩
theorem MID_clk {W : Ob} {nw : Bool} {N T : Int} {K B r : Nat → Int32} {S A J C M : Ob} (h : MID W nw N T K S A J C B M r) (hN : N < 2000000000) : MID W nw (N + 1) T (upd (upd K 4 (K 4 + 1)) 7 (-1)) S A J C B (si M 16 (-1)) (upd r 25 (r 25 + 1)) := by
  obtain ⟨hS, hA, hJ, hC, hB, ⟨⟨k1, k2, k3⟩, k4, k5, k6, k7⟩, hF⟩ := h
  have l1 : (1 : Int32).toInt = 1 := rfl
  have ea : (K 4 + 1).toInt = (K 4).toInt + 1 := by rw [i_add (by omega) (by omega), l1]
  refine ⟨rS_fr hS (fun j hj => up_ne (by unfold inS at hj; omega)) rfl rfl rfl rfl rfl rfl, rA_fr hA (fun j hj => up_ne (by unfold inA at hj; omega)), rJ_fr hJ (Int.le_refl _) (fun _ _ _ _ _ => rfl) rfl rfl rfl rfl rfl rfl, rC_fr hC (fun j hj => up_ne (by unfold inC at hj; omega)) rfl, rB_fr hB rfl, ⟨⟨?_, ?_, ?_⟩, ?_, ?_, k6, k7⟩, ⟨⟨rfl, fun hn => sameM_16 (hF.1.2.1 hn), hF.1.2.2.1, Or.inl rfl⟩, hF.2⟩⟩
  · show K 4 + 1 = upd r 25 (r 25 + 1) 25
    rw [up_eq, k1]
  · show 0 ≤ (K 4 + 1).toInt
    omega
  · show (K 4 + 1).toInt ≤ N + 1
    omega
  · rw [up_ne (by decide)]; exact k4
  · rw [up_ne (by decide)]; exact k5
theorem rP_fr {K K' : Nat → Int32} {C : Ob} {r r' : Nat → Int32} (h : rP K C r) (k5 : K' 5 = K 5) (k6 : K' 6 = K 6) (k8 : K' 8 = K 8) (k9 : K' 9 = K 9) (k10 : K' 10 = K 10) (e : ∀ k, inP k → r' k = r k) : rP K' C r' := by
  unfold rP at h ⊢
  rw [k5, k6, k8, k9, k10, e 24 (by unfold inP; omega), e 28 (by unfold inP; omega), e 29 (by unfold inP; omega), e 32 (by unfold inP; omega)]
  exact h
theorem phase_pair {W : Ob} {nw : Bool} {N T : Int} {K B r : Nat → Int32} {S A J C M : Ob} (h : MID W nw N T K S A J C B M r) (hp : rP K C r) (hT : T < 1999999990) : PAIR W nw N (T + 3) B (fun Q => wp_X3_turn (K, S, A, J, C, B) (swc Q)) (fun Q => mSw nw Q M r) := by
  have e20 : K 5 = r 20 := h.2.2.2.2.2.1.2.1
  obtain ⟨p1, p2, p3, p4, p5, p6⟩ := hp
  have tn : ∀ Q : Mac → Prop, ¬ K 5 = 0 → ¬ K 5 = 3 → swc Q (K, S, A, J, C, B) → wp_X3_turn (K, S, A, J, C, B) (swc Q) := by
    intro Q n0 n3 hQ
    unfold wp_X3_turn
    exact ⟨fun _ => ⟨fun _ => hQ, fun z => absurd z n3⟩, fun z => absurd z n0⟩
  by_cases z0 : K 5 = 0
  · refine PAIR_w (runs_pair h z0 hT) (by omega) (fun Q hQ => hQ) (fun Q hQ => ?_)
    have w := e20.symm.trans z0
    exact ⟨fun z => absurd w z, fun _ => hQ⟩
  by_cases z1 : K 5 = 1
  · obtain ⟨⟨q1, q2, q3, q4⟩, q5, q6⟩ := p1 z1
    refine PAIR_w (stack_pair h ⟨z1, ⟨q1, q2, q3, q4⟩, rfl, by omega, by omega⟩ (fun z => by rw [z] at q5; exact absurd q5 (by decide)) (by omega)) (by omega) (fun Q hQ => tn Q z0 (by rw [z1]; decide) (swc_1 z1 hQ)) (fun Q hQ => ?_)
    have w := e20.symm.trans z1
    exact ⟨fun _ => ⟨fun z => absurd w z, fun _ => hQ⟩, fun z => absurd (w.symm.trans z) (by decide)⟩
  by_cases z2 : K 5 = 2
  · refine PAIR_w (chain_pair h z2 (p2 z2) (by omega)) (by omega) (fun Q hQ => tn Q z0 (by rw [z2]; decide) (swc_2 z2 hQ)) (fun Q hQ => ?_)
    have w := e20.symm.trans z2
    exact ⟨fun _ => ⟨fun _ => ⟨fun z => absurd w z, fun _ => hQ⟩, fun z => absurd (w.symm.trans z) (by decide)⟩, fun z => absurd (w.symm.trans z) (by decide)⟩
  by_cases z3 : K 5 = 3
  · refine PAIR_w (unst_pair h (by omega) z3 (p3 z3).1 (p3 z3).2) (by omega) (fun Q hQ => hQ) (fun Q hQ => ?_)
    have w := e20.symm.trans z3
    exact ⟨fun _ => ⟨fun _ => ⟨fun _ => ⟨fun z => absurd w z, fun _ => hQ⟩, fun z => absurd (w.symm.trans z) (by decide)⟩, fun z => absurd (w.symm.trans z) (by decide)⟩, fun z => absurd (w.symm.trans z) (by decide)⟩
  by_cases z4 : K 5 = 4
  · refine PAIR_w (save_pair h z4 (p4 z4).1 (p4 z4).2) (by omega) (fun Q hQ => tn Q z0 z3 (swc_4 z4 hQ)) (fun Q hQ => ?_)
    have w := e20.symm.trans z4
    exact ⟨fun _ => ⟨fun _ => ⟨fun _ => ⟨fun _ => ⟨fun z => absurd w z, fun _ => hQ⟩, fun z => absurd (w.symm.trans z) (by decide)⟩, fun z => absurd (w.symm.trans z) (by decide)⟩, fun z => absurd (w.symm.trans z) (by decide)⟩, fun z => absurd (w.symm.trans z) (by decide)⟩
  · have z5 : K 5 = 5 := by
      have w0 : ¬ (K 5).toInt = 0 := fun z => z0 (i_eq.mpr z)
      have w1 : ¬ (K 5).toInt = 1 := fun z => z1 (i_eq.mpr z)
      have w2 : ¬ (K 5).toInt = 2 := fun z => z2 (i_eq.mpr z)
      have w3 : ¬ (K 5).toInt = 3 := fun z => z3 (i_eq.mpr z)
      have w4 : ¬ (K 5).toInt = 4 := fun z => z4 (i_eq.mpr z)
      have l5 : (5 : Int32).toInt = 5 := rfl
      exact i_eq.mpr (by omega)
    refine ⟨_, _, _, _, _, _, _, fun Q hQ => tn Q z0 z3 (swc_5 z5 hQ), fun Q hQ => ?_, MID_mono h (Int.le_refl _) (by omega), rP_lock z5⟩
    have w := e20.symm.trans z5
    exact ⟨fun _ => ⟨fun _ => ⟨fun _ => ⟨fun _ => ⟨fun _ => hQ, fun z => absurd (w.symm.trans z) (by decide)⟩, fun z => absurd (w.symm.trans z) (by decide)⟩, fun z => absurd (w.symm.trans z) (by decide)⟩, fun z => absurd (w.symm.trans z) (by decide)⟩, fun z => absurd (w.symm.trans z) (by decide)⟩
theorem cycle_pair {W : Ob} {nw : Bool} {N T : Int} {K B r : Nat → Int32} {S A J C M : Ob} (h : MID W nw N T K S A J C B M r) (hp : rP K C r) (hN : N < 2000000000) (hT : T < 1999999990) : PAIR W nw (N + 1) (T + 3) B (fun Q => wp_X3_cycle (K, S, A, J, C, B) Q) (fun Q => wp_X8_cycle nw (M, r) Q) := by
  have h1 := MID_clk h hN
  have a2 := h.2.1.1.2.1
  have a3 := h.2.1.1.2.2
  obtain ⟨S1, A1, M1, r1, u1, u2, h2, p2⟩ := adm_pair (A.1 2).toInt.toNat 0 0 S A (si M 16 (-1)) (upd r 25 (r 25 + 1)) h1 (by omega) (by omega)
  obtain ⟨S2, A2, M2, r2, v1, v2, h3, p3⟩ := tick_pair h2
  have hp2 : rP (upd (upd K 4 (K 4 + 1)) 7 (-1)) C r2 := rP_fr hp rfl rfl rfl rfl rfl (fun k hk => by rw [p3 k hk, p2 k hk, up_ne (by unfold inP at hk; omega)])
  refine PAIR_w (phase_pair h3 hp2 hT) (Int.le_refl _) (fun Q hQ => ?_) (fun Q hQ => ?_)
  · unfold wp_X3_cycle
    intro T1 e1 T2 e2
    subst e1
    subst e2
    unfold wp_X0_admit
    exact u1 _ 2000 (by omega) (v1 _ hQ)
  · unfold wp_X8_cycle
    intro T1 e1 T2 e2
    subst e1
    subst e2
    exact u2 Q 2000 (by omega) (v2 Q hQ)
