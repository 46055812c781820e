/-! LAYER 2: what is foretold: the twin laid down -/
theorem rS_copy {nw : Bool} {S S' M M' : Ob} {r r' : Nat → Int32} (h : rS nw S M r) (i10 : S'.1 10 = S.1 10) (i12 : S'.1 12 = S.1 12) (i13 : S'.1 13 = S.1 13) (i14 : S'.1 14 = S.1 14) (f : ∀ k : Nat, k < 21 → S'.2 0 k = S.2 0 k ∧ S'.2 1 k = S.2 1 k ∧ S'.2 2 k = S.2 2 k ∧ S'.2 3 k = S.2 3 k ∧ S'.2 4 k = S.2 4 k ∧ S'.2 5 k = S.2 5 k ∧ S'.2 9 k = S.2 9 k) (e : ∀ k : Nat, k < 342 → r' k = r k) (m3 : M'.1 3 = M.1 3) (m1 : M'.2 1 = M.2 1) (m2 : M'.2 2 = M.2 2) : rS false S' M' r' := by
  obtain ⟨⟨⟨⟨⟨⟨a1, a2, a3⟩, b, cc, d, ff⟩, K, P, E, Sp⟩, sh, hd⟩, q1, q2, q3, q4, q5, q6⟩, n, o⟩ := h
  have oi : ∀ i : Nat, (i : Int) < (S.1 10).toInt → i < 21 ∧ (S.2 9 i).toNatClampNeg < 21 := by
    intro i hi
    have := ok_iff.mp (b i hi).2
    exact ⟨by omega, by rw [i_nat]; omega⟩
  have gr : ∀ i : Nat, (i : Int) < (S.1 10).toInt → grp S' (S'.2 9 i) = grp S (S.2 9 i) := by
    intro i hi
    obtain ⟨o1, o2⟩ := oi i hi
    unfold grp
    rw [(f i o1).2.2.2.2.2.2, i12, (f _ o2).1]
  refine ⟨⟨⟨⟨⟨⟨?_, ?_, ?_⟩, fun k hk => ?_, fun k hk => ?_, ?_, ?_⟩, fun k hk => ?_, fun k hk => ?_, fun k hk => ?_, ?_, ?_⟩, ?_, ?_⟩, ?_, fun k hk => ?_, fun k hk => ?_, fun k hk => ?_, fun k hk => ?_, fun k hk => ?_⟩, ⟨fun i hi => ?_, fun i j hij hj => ?_⟩, fun z => absurd z (by decide)⟩
  · rw [i10, e 30 (by omega)]; exact a1
  · rw [i10]; exact a2
  · rw [i10]; exact a3
  · rw [i10] at hk
    obtain ⟨o1, o2⟩ := oi k hk
    rw [(f k o1).2.2.2.2.2.2, e (152 + k) (by omega)]; exact b k hk
  · rw [(f k (by omega)).1, e (173 + k) (by omega)]; exact cc k hk
  · rw [(f 20 (by omega)).1]; exact d
  · rw [i13, e 17 (by omega)]; exact ff
  · rw [(f k (by omega)).1]; exact K k hk
  · rw [(f k hk).2.2.2.1, e (194 + k) (by omega)]; exact P k hk
  · rw [(f k hk).2.2.1, m2]; exact E k hk
  · rw [i12, m3]; exact Sp.1
  · rw [i12]; exact Sp.2
  · rw [i14, e 16 (by omega)]; exact sh
  · rw [(f 20 (by omega)).2.2.2.2.1, e 320 (by omega)]; exact hd
  · rw [i14]; exact q1
  · rw [(f k hk).2.2.1]; exact q2 k hk
  · rw [(f k hk).2.2.2.1]; exact q3 k hk
  · rw [(f k hk).2.2.2.2.1, e (300 + k) (by omega)]; exact q4 k hk
  · rw [(f k hk).2.2.2.2.2.1, e (215 + k) (by omega)]; exact q5 k hk
  · rw [(f k hk).2.1, m1]; exact q6 k hk
  · rw [i10] at hi
    obtain ⟨o1, o2⟩ := oi i hi
    rw [(f i o1).2.2.2.2.2.2, (f _ o2).2.2.2.2.1]
    exact n.1 i hi
  · rw [i10] at hj
    rw [gr j hj, gr i (by omega)]
    exact n.2 i j hij hj
theorem cpy_in {f g : Nat → Int32} {n k : Nat} (h : k < n) : va_cpy f g 0 0 n k = f k := by
  unfold va_cpy
  rw [if_pos (by omega), Nat.sub_zero, Nat.zero_add]
/-- the twin beside the reference's second row; W: the reference as it was laid down -/
def TWIN (W : Ob) (N T : Int) (B K2 : Nat → Int32) (S2 A2 J2 C2 M : Ob) : Prop := MID W false N T (upd K2 7 (-1)) S2 A2 J2 C2 B (si M 16 (-1)) (M.2 5) ∧ rP K2 C2 (M.2 5)
theorem like_fun {p : Int32} {Q : Ob → Prop} (hp : isB p) {M : Ob} (hQ : Q (si (si (sa M 5 (fun k => if k < 342 then M.2 4 k else M.2 5 k)) 14 0) 15 p)) : ∀ (m i n : Nat), i + m = 342 → m < n → wp_X8_likeNow_L2 Q n p (Int32.ofNat i) (sa M 5 (fun k => if k < i then M.2 4 k else M.2 5 k)) := by
  have l342 : (342 : Int32).toInt = 342 := rfl
  intro m
  induction m with
  | zero =>
    intro i n hi hn
    obtain ⟨n, rfl⟩ : ∃ z, n = z + 1 := ⟨n - 1, by omega⟩
    have e : i = 342 := by omega
    subst e
    unfold wp_X8_likeNow_L2
    refine ⟨fun _ T2 e2 => ⟨hp, fun T3 e3 => ?_⟩, fun z => absurd (by decide) z⟩
    subst e2
    subst e3
    exact hQ
  | succ m ih =>
    intro i n hi hn
    obtain ⟨n, rfl⟩ : ∃ z, n = z + 1 := ⟨n - 1, by omega⟩
    have hi0 := i_ofNat (k := i) (by omega)
    have hin := n_of (k := i) (by omega)
    have his := of_succ (k := i) (by omega)
    have ok : okI (Int32.ofNat i) 342 := ok_iff.mpr (by omega)
    unfold wp_X8_likeNow_L2
    refine ⟨fun z => absurd (i_le.mp z) (by omega), fun _ => ⟨ok, ok, fun T4 e4 x5 e5 => ?_⟩⟩
    rw [hin, sa_self, sa_ne (by decide), sa_sa] at e4
    have ef : upd (fun k => if k < i then M.2 4 k else M.2 5 k) i (M.2 4 i) = (fun k => if k < i + 1 then M.2 4 k else M.2 5 k) := by
      funext k
      by_cases c : k = i
      · subst c; rw [up_eq]; exact (if_pos (by omega)).symm
      · rw [up_ne c]
        by_cases d : k < i
        · rw [if_pos d, if_pos (by omega)]
        · rw [if_neg d, if_neg (by omega)]
    rw [ef] at e4
    subst e4
    rw [e5, his]
    exact ih (i + 1) n (by omega) (by omega)
/-- the sources' copy, as one state -/
def cpS (S O : Ob) (i : Nat) : Ob := sa (sa (sa (sa (sa (sa (sa S 0 (fun k => if k < i then O.2 0 k else S.2 0 k)) 1 (fun k => if k < i then O.2 1 k else S.2 1 k)) 2 (fun k => if k < i then O.2 2 k else S.2 2 k)) 3 (fun k => if k < i then O.2 3 k else S.2 3 k)) 4 (fun k => if k < i then O.2 4 k else S.2 4 k)) 5 (fun k => if k < i then O.2 5 k else S.2 5 k)) 9 (fun k => if k < i then O.2 9 k else S.2 9 k)
theorem cpS_1 (S O : Ob) (i : Nat) : (cpS S O i).1 = S.1 := rfl
theorem cpS_r (S O : Ob) (i : Nat) : (cpS S O i).2 0 = (fun k => if k < i then O.2 0 k else S.2 0 k) ∧ (cpS S O i).2 1 = (fun k => if k < i then O.2 1 k else S.2 1 k) ∧ (cpS S O i).2 2 = (fun k => if k < i then O.2 2 k else S.2 2 k) ∧ (cpS S O i).2 3 = (fun k => if k < i then O.2 3 k else S.2 3 k) ∧ (cpS S O i).2 4 = (fun k => if k < i then O.2 4 k else S.2 4 k) ∧ (cpS S O i).2 5 = (fun k => if k < i then O.2 5 k else S.2 5 k) ∧ (cpS S O i).2 9 = (fun k => if k < i then O.2 9 k else S.2 9 k) ∧ ∀ j : Nat, ¬ (j = 0 ∨ j = 1 ∨ j = 2 ∨ j = 3 ∨ j = 4 ∨ j = 5 ∨ j = 9) → (cpS S O i).2 j = S.2 j := by
  unfold cpS
  refine ⟨?_, ?_, ?_, ?_, ?_, ?_, ?_, fun j hj => ?_⟩
  · rw [sa_ne (by decide), sa_ne (by decide), sa_ne (by decide), sa_ne (by decide), sa_ne (by decide), sa_ne (by decide), sa_self]
  · rw [sa_ne (by decide), sa_ne (by decide), sa_ne (by decide), sa_ne (by decide), sa_ne (by decide), sa_self]
  · rw [sa_ne (by decide), sa_ne (by decide), sa_ne (by decide), sa_ne (by decide), sa_self]
  · rw [sa_ne (by decide), sa_ne (by decide), sa_ne (by decide), sa_self]
  · rw [sa_ne (by decide), sa_ne (by decide), sa_self]
  · rw [sa_ne (by decide), sa_self]
  · rw [sa_self]
  · rw [sa_ne (by omega), sa_ne (by omega), sa_ne (by omega), sa_ne (by omega), sa_ne (by omega), sa_ne (by omega), sa_ne (by omega)]
theorem st_up {f g : Nat → Int32} {i : Nat} : upd (fun k => if k < i then g k else f k) i (g i) = (fun k => if k < i + 1 then g k else f k) := by
  funext k
  by_cases c : k = i
  · subst c; rw [up_eq]; exact (if_pos (by omega)).symm
  · rw [up_ne c]
    by_cases d : k < i
    · rw [if_pos d, if_pos (by omega)]
    · rw [if_neg d, if_neg (by omega)]
theorem cpy_one {O S : Ob} {Q : Ob × Ob → Prop} (b2 : ∀ k : Nat, k < 21 → isB (O.2 2 k)) (b3 : ∀ k : Nat, k < 21 → isB (O.2 3 k)) (b4 : ∀ k : Nat, k < 21 → isB (O.2 4 k)) (b5 : ∀ k : Nat, k < 21 → isB (O.2 5 k)) (hQ : Q (si (si (si (si (cpS S O 21) 10 (O.1 10)) 12 (O.1 12)) 13 (O.1 13)) 14 (O.1 14), O)) : ∀ (m i n : Nat), i + m = 21 → m < n → wp_X5_copyFrom_L2 Q n (Int32.ofNat i) (cpS S O i, O) := by
  have l21 : (21 : Int32).toInt = 21 := rfl
  intro m
  induction m with
  | zero =>
    intro i n hi hn
    obtain ⟨n, rfl⟩ : ∃ z, n = z + 1 := ⟨n - 1, by omega⟩
    have e : i = 21 := by omega
    subst e
    unfold wp_X5_copyFrom_L2
    refine ⟨fun _ T2 e2 T3 e3 T4 e4 T5 e5 => ?_, fun z => absurd (by decide) z⟩
    subst e2; subst e3; subst e4; subst e5
    exact hQ
  | succ m ih =>
    intro i n hi hn
    obtain ⟨n, rfl⟩ : ∃ z, n = z + 1 := ⟨n - 1, by omega⟩
    have hi0 := i_ofNat (k := i) (by omega)
    have hin := n_of (k := i) (by omega)
    have his := of_succ (k := i) (by omega)
    have ok : okI (Int32.ofNat i) 21 := ok_iff.mpr (by omega)
    obtain ⟨q0, q1, q2, q3, q4, q5, q9, qj⟩ := cpS_r S O i
    unfold wp_X5_copyFrom_L2
    dsimp only
    rw [hin]
    refine ⟨fun z => absurd (i_le.mp z) (by omega), fun _ => ⟨ok, ok, fun T6 e6 => ⟨ok, ok, fun T7 e7 => ⟨ok, b2 i (by omega), ok, fun T8 e8 => ⟨ok, b3 i (by omega), ok, fun T9 e9 => ⟨ok, b4 i (by omega), ok, fun T10 e10 => ⟨ok, b5 i (by omega), ok, fun T11 e11 => ⟨ok, ok, fun T12 e12 x13 e13 => ?_⟩⟩⟩⟩⟩⟩⟩⟩
    rw [e13, his]
    have eT : T12 = cpS S O (i + 1) := by
      obtain ⟨u0, u1, u2, u3, u4, u5, u9, uj⟩ := cpS_r S O (i + 1)
      refine Prod.ext ?_ ?_
      · rw [e12, e11, e10, e9, e8, e7, e6]; rfl
      · funext j
        by_cases c9 : j = 9
        · subst c9
          rw [u9, e12, sa_self, e11, sa_ne (by decide), e10, sa_ne (by decide), e9, sa_ne (by decide), e8, sa_ne (by decide), e7, sa_ne (by decide), e6, sa_ne (by decide), q9, st_up]
        · rw [e12, sa_ne c9]
          by_cases c5 : j = 5
          · subst c5
            rw [u5, e11, sa_self, e10, sa_ne (by decide), e9, sa_ne (by decide), e8, sa_ne (by decide), e7, sa_ne (by decide), e6, sa_ne (by decide), q5, st_up]
          · rw [e11, sa_ne c5]
            by_cases c4 : j = 4
            · subst c4
              rw [u4, e10, sa_self, e9, sa_ne (by decide), e8, sa_ne (by decide), e7, sa_ne (by decide), e6, sa_ne (by decide), q4, st_up]
            · rw [e10, sa_ne c4]
              by_cases c3 : j = 3
              · subst c3
                rw [u3, e9, sa_self, e8, sa_ne (by decide), e7, sa_ne (by decide), e6, sa_ne (by decide), q3, st_up]
              · rw [e9, sa_ne c3]
                by_cases c2 : j = 2
                · subst c2
                  rw [u2, e8, sa_self, e7, sa_ne (by decide), e6, sa_ne (by decide), q2, st_up]
                · rw [e8, sa_ne c2]
                  by_cases c1 : j = 1
                  · subst c1
                    rw [u1, e7, sa_self, e6, sa_ne (by decide), q1, st_up]
                  · rw [e7, sa_ne c1]
                    by_cases c0 : j = 0
                    · subst c0
                      rw [u0, e6, sa_self, q0, st_up]
                    · rw [e6, sa_ne c0, uj j (by omega), qj j (by omega)]
    rw [eT]
    exact ih (i + 1) n (by omega) (by omega)
theorem cpy_fun {O S : Ob} (b2 : ∀ k : Nat, k < 21 → isB (O.2 2 k)) (b3 : ∀ k : Nat, k < 21 → isB (O.2 3 k)) (b4 : ∀ k : Nat, k < 21 → isB (O.2 4 k)) (b5 : ∀ k : Nat, k < 21 → isB (O.2 5 k)) : ∃ S2' : Ob, S2'.1 10 = O.1 10 ∧ S2'.1 12 = O.1 12 ∧ S2'.1 13 = O.1 13 ∧ S2'.1 14 = O.1 14 ∧ (∀ k : Nat, k < 21 → S2'.2 0 k = O.2 0 k ∧ S2'.2 1 k = O.2 1 k ∧ S2'.2 2 k = O.2 2 k ∧ S2'.2 3 k = O.2 3 k ∧ S2'.2 4 k = O.2 4 k ∧ S2'.2 5 k = O.2 5 k ∧ S2'.2 9 k = O.2 9 k) ∧ (∀ Q : Ob × Ob → Prop, Q (S2', O) → wp_X5_copyFrom (S, O) Q) := by
  obtain ⟨u0, u1, u2, u3, u4, u5, u9, uj⟩ := cpS_r S O 21
  refine ⟨si (si (si (si (cpS S O 21) 10 (O.1 10)) 12 (O.1 12)) 13 (O.1 13)) 14 (O.1 14), rfl, rfl, rfl, rfl, fun k hk => ?_, fun Q hQ => ?_⟩
  · show (cpS S O 21).2 0 k = _ ∧ (cpS S O 21).2 1 k = _ ∧ (cpS S O 21).2 2 k = _ ∧ (cpS S O 21).2 3 k = _ ∧ (cpS S O 21).2 4 k = _ ∧ (cpS S O 21).2 5 k = _ ∧ (cpS S O 21).2 9 k = _
    rw [u0, u1, u2, u3, u4, u5, u9]
    exact ⟨if_pos hk, if_pos hk, if_pos hk, if_pos hk, if_pos hk, if_pos hk, if_pos hk⟩
  · unfold wp_X5_copyFrom
    have := cpy_one b2 b3 b4 b5 hQ 21 0 2000 (by omega) (by omega)
    have e : cpS S O 0 = S := by
      obtain ⟨v0, v1, v2, v3, v4, v5, v9, vj⟩ := cpS_r S O 0
      refine Prod.ext rfl ?_
      funext j k
      by_cases c : j = 0 ∨ j = 1 ∨ j = 2 ∨ j = 3 ∨ j = 4 ∨ j = 5 ∨ j = 9
      · rcases c with rfl | rfl | rfl | rfl | rfl | rfl | rfl
        · rw [v0]; exact if_neg (by omega)
        · rw [v1]; exact if_neg (by omega)
        · rw [v2]; exact if_neg (by omega)
        · rw [v3]; exact if_neg (by omega)
        · rw [v4]; exact if_neg (by omega)
        · rw [v5]; exact if_neg (by omega)
        · rw [v9]; exact if_neg (by omega)
      · rw [vj j c]
    rw [e] at this
    exact this
theorem twin_lay {N T : Int} {B K K2 : Nat → Int32} {S A J C S2 A2 J2 C2 Y M : Ob} {p : Int32} (h : REL N T B K S A J C J2 M) (hp1 : isB p) : ∃ (K2' : Nat → Int32) (S2' A2' C2' M' : Ob), (∀ Q : ((Nat → Int32) × Ob × Ob × Ob × Ob × (Nat → Int32) × Ob × Ob × Ob × Ob) → Prop, Q (K2', S2', A2', J2, C2', K, S, A, J, C) → wp_X3_copyFrom (K2, S2, A2, J2, C2, K, S, A, J, C) p Q) ∧ (∀ Q : Ob → Prop, Q M' → wp_X8_likeNow M p Q) ∧ TWIN M' N T B K2' S2' A2' J2 C2' M' ∧ (∀ M'' : Ob, sameM M' M'' → REL N T B K S A J C J2 M'') ∧ (∀ k : Nat, k < 342 → M'.2 5 k = M.2 4 k) ∧ M'.2 4 = M.2 4 ∧ K2' 5 = K 5 ∧ S2'.1 10 = S.1 10 := by
  obtain ⟨hS, hA, hJ, hC, hB, hK, hp, hP, hJ2⟩ := id h
  obtain ⟨c0, cb, -⟩ := hC
  -- the reference's side is a function
  obtain ⟨r5, h5, hmo⟩ : ∃ r5 : Nat → Int32, (∀ k : Nat, k < 342 → r5 k = M.2 4 k) ∧ (∀ Q : Ob → Prop, Q (si (si (sa M 5 r5) 14 0) 15 p) → wp_X8_likeNow M p Q) := by
    refine ⟨fun k => if k < 342 then M.2 4 k else M.2 5 k, fun k hk => if_pos hk, fun Q hQ => ?_⟩
    unfold wp_X8_likeNow
    have := like_fun (p := p) (Q := Q) hp1 (M := M) hQ 342 0 2000 (by omega) (by omega)
    have e : (fun k => if k < 0 then M.2 4 k else M.2 5 k) = M.2 5 := by
      funext k
      exact if_neg (by omega)
    rw [e, sa_same] at this
    exact this
  obtain ⟨S2', s10, s12, s13, s14, sf, hcs⟩ : ∃ S2' : Ob, S2'.1 10 = S.1 10 ∧ S2'.1 12 = S.1 12 ∧ S2'.1 13 = S.1 13 ∧ S2'.1 14 = S.1 14 ∧ (∀ k : Nat, k < 21 → S2'.2 0 k = S.2 0 k ∧ S2'.2 1 k = S.2 1 k ∧ S2'.2 2 k = S.2 2 k ∧ S2'.2 3 k = S.2 3 k ∧ S2'.2 4 k = S.2 4 k ∧ S2'.2 5 k = S.2 5 k ∧ S2'.2 9 k = S.2 9 k) ∧ (∀ Q : Ob × Ob → Prop, Q (S2', S) → wp_X5_copyFrom (S2, S) Q) := cpy_fun (S := S2) hS.1.2.2.1 hS.1.2.2.2.1 (fun k hk => (hS.1.2.2.2.2.1 k hk).2) (fun k hk => (hS.1.2.2.2.2.2.1 k hk).2)
  let A2' : Ob := si (si (si (sa (sa A2 0 (va_cpy (A.2 0) (A2.2 0) 0 0 32)) 1 (va_cpy (A.2 1) (A2.2 1) 0 0 32)) 2 (A.1 2)) 3 (A.1 3)) 4 (A.1 4)
  let C2' : Ob := si (si (si (si (si (si (si (si (sa (sa (sa (sa C2 1 (va_cpy (C.2 1) (C2.2 1) 0 0 8)) 2 (va_cpy (C.2 2) (C2.2 2) 0 0 4)) 3 (va_cpy (C.2 3) (C2.2 3) 0 0 16)) 4 (va_cpy (C.2 4) (C2.2 4) 0 0 96)) 5 (C.1 5)) 6 (C.1 6)) 8 (C.1 8)) 9 (C.1 9)) 10 (C.1 10)) 11 (C.1 11)) 12 (C.1 12)) 13 (C.1 13)
  let K2' : Nat → Int32 := upd (upd (upd (upd (upd (upd (upd K2 4 (K 4)) 5 (K 5)) 6 (K 6)) 8 (K 8)) 9 (K 9)) 10 (K 10)) 11 p
  let M' : Ob := si (si (sa M 5 r5) 14 0) 15 p
  have m5 : M'.2 5 = r5 := sa_self M 5 r5
  have mj : ∀ j : Nat, ¬ j = 5 → M'.2 j = M.2 j := fun j hj => sa_ne hj
  have a0 : A2'.2 0 = va_cpy (A.2 0) (A2.2 0) 0 0 32 := by
    show (sa (sa A2 0 (va_cpy (A.2 0) (A2.2 0) 0 0 32)) 1 (va_cpy (A.2 1) (A2.2 1) 0 0 32)).2 0 = _
    rw [sa_ne (by decide), sa_self]
  have a1 : A2'.2 1 = va_cpy (A.2 1) (A2.2 1) 0 0 32 := sa_self (sa A2 0 (va_cpy (A.2 0) (A2.2 0) 0 0 32)) 1 (va_cpy (A.2 1) (A2.2 1) 0 0 32)
  have c1 : C2'.2 1 = va_cpy (C.2 1) (C2.2 1) 0 0 8 := by
    show (sa (sa (sa (sa C2 1 (va_cpy (C.2 1) (C2.2 1) 0 0 8)) 2 (va_cpy (C.2 2) (C2.2 2) 0 0 4)) 3 (va_cpy (C.2 3) (C2.2 3) 0 0 16)) 4 (va_cpy (C.2 4) (C2.2 4) 0 0 96)).2 1 = _
    rw [sa_ne (by decide), sa_ne (by decide), sa_ne (by decide), sa_self]
  have c2 : C2'.2 2 = va_cpy (C.2 2) (C2.2 2) 0 0 4 := by
    show (sa (sa (sa (sa C2 1 (va_cpy (C.2 1) (C2.2 1) 0 0 8)) 2 (va_cpy (C.2 2) (C2.2 2) 0 0 4)) 3 (va_cpy (C.2 3) (C2.2 3) 0 0 16)) 4 (va_cpy (C.2 4) (C2.2 4) 0 0 96)).2 2 = _
    rw [sa_ne (by decide), sa_ne (by decide), sa_self]
  have c3 : C2'.2 3 = va_cpy (C.2 3) (C2.2 3) 0 0 16 := by
    show (sa (sa (sa (sa C2 1 (va_cpy (C.2 1) (C2.2 1) 0 0 8)) 2 (va_cpy (C.2 2) (C2.2 2) 0 0 4)) 3 (va_cpy (C.2 3) (C2.2 3) 0 0 16)) 4 (va_cpy (C.2 4) (C2.2 4) 0 0 96)).2 3 = _
    rw [sa_ne (by decide), sa_self]
  have c4 : C2'.2 4 = va_cpy (C.2 4) (C2.2 4) 0 0 96 := sa_self (sa (sa (sa C2 1 (va_cpy (C.2 1) (C2.2 1) 0 0 8)) 2 (va_cpy (C.2 2) (C2.2 2) 0 0 4)) 3 (va_cpy (C.2 3) (C2.2 3) 0 0 16)) 4 (va_cpy (C.2 4) (C2.2 4) 0 0 96)
  have hmid : MID M' false N T (upd K2' 7 (-1)) S2' A2' J2 C2' B (si M' 16 (-1)) (M'.2 5) := by
    rw [m5]
    refine ⟨rS_copy hS s10 s12 s13 s14 sf h5 rfl (mj 1 (by decide)) (mj 2 (by decide)), ⟨⟨?_, hA.1.2.1, hA.1.2.2⟩, fun k hk => ?_, ?_, ?_⟩, ⟨hJ2, fun z => absurd z (by decide)⟩, ⟨⟨fun k hk => ?_, fun k hk => ?_, fun k hk => ?_, fun k hk => ?_, ?_, ?_, ?_, ?_, ?_, ?_, ?_, ?_⟩, ⟨cb.1, cb.2.1, cb.2.2.1, cb.2.2.2.1, cb.2.2.2.2.1, cb.2.2.2.2.2.1, cb.2.2.2.2.2.2.1, cb.2.2.2.2.2.2.2.1, fun k hk => ?_⟩, fun z => absurd z (by decide)⟩, rB_fr hB (mj 0 (by decide)), ⟨⟨?_, hK.1.2.1, hK.1.2.2⟩, ?_, ?_, hK.2.2.2.1, hK.2.2.2.2⟩, ⟨⟨rfl, fun _ => ⟨fun _ _ => rfl, fun j hj => si_ne hj⟩, rfl, Or.inl rfl⟩, rfl, rfl⟩⟩
    · rw [h5 31 (by omega)]; exact hA.1.1
    · have hk : (k : Int) < (A.1 2).toInt := hk
      have hk3 := hA.1.2.2
      obtain ⟨b1, b2, b3⟩ := hA.2.1 k hk
      rw [a0, a1, cpy_in (by omega), cpy_in (by omega), h5 (236 + k) (by omega), h5 (268 + k) (by omega)]
      exact ⟨b1, b2, b3⟩
    · rw [h5 26 (by omega)]; exact hA.2.2.1
    · rw [h5 27 (by omega)]; exact hA.2.2.2
    · rw [c1, cpy_in hk, h5 k (by omega)]; exact c0.1 k hk
    · rw [c2, cpy_in hk, h5 (8 + k) (by omega)]; exact c0.2.1 k hk
    · rw [c3, cpy_in hk, h5 (40 + k) (by omega)]; exact c0.2.2.1 k hk
    · rw [c4, cpy_in hk, h5 (56 + k) (by omega)]; exact c0.2.2.2.1 k hk
    · rw [h5 12 (by omega)]; exact c0.2.2.2.2.1
    · rw [h5 13 (by omega)]; exact c0.2.2.2.2.2.1
    · rw [h5 14 (by omega)]; exact c0.2.2.2.2.2.2.1
    · rw [h5 15 (by omega)]; exact c0.2.2.2.2.2.2.2.1
    · rw [h5 18 (by omega)]; exact c0.2.2.2.2.2.2.2.2.1
    · rw [h5 19 (by omega)]; exact c0.2.2.2.2.2.2.2.2.2.1
    · rw [h5 22 (by omega)]; exact c0.2.2.2.2.2.2.2.2.2.2.1
    · rw [h5 23 (by omega)]; exact c0.2.2.2.2.2.2.2.2.2.2.2
    · rw [c2, cpy_in hk]; exact cb.2.2.2.2.2.2.2.2 k hk
    · rw [h5 25 (by omega)]; exact hK.1.1
    · rw [h5 20 (by omega)]; exact hK.2.1
    · rw [h5 21 (by omega)]; exact hK.2.2.1
  have hrp : rP K2' C2' (M'.2 5) := by
    rw [m5]
    have fm : mk C2' = mk C ∨ ¬ (6 ≤ (C.1 6).toInt) := by
      by_cases z : 6 ≤ (C.1 6).toInt
      · left
        unfold mk
        have l1 : (1 : Int32).toInt = 1 := rfl
        have := cb.2.2.2.1
        rw [c4]
        exact cpy_in (by show Int32.toNatClampNeg (C.1 6 - 1) < 96; rw [i_nat, i_sub (by omega) (by omega)]; omega)
      · exact Or.inr z
    have ff : frF C2' = frF C := by
      unfold frF
      show (if 6 ≤ C.1 6 then _ else _) = _
      by_cases z : 6 ≤ C.1 6
      · have z2 := i_le.mp z
        have l6 : (6 : Int32).toInt = 6 := rfl
        have l2 : (2 : Int32).toInt = 2 := rfl
        have := cb.2.2.2.1
        have e1 := fm.resolve_right (fun w => w (by omega))
        have e2 : C2'.2 4 (Int32.toNatClampNeg (C2'.1 6 - 2)) = C.2 4 (Int32.toNatClampNeg (C.1 6 - 2)) := by
          rw [c4]
          exact cpy_in (by show Int32.toNatClampNeg (C.1 6 - 2) < 96; rw [i_nat, i_sub (by omega) (by omega)]; omega)
        rw [if_pos z, if_pos z, e1, e2]
        rfl
      · rw [if_neg z, if_neg z]
    have fs : frF C = -1 → frS C2' = frS C := by
      intro z
      have e1 := fm.resolve_right (fun w => w (frF_ok z).1)
      unfold frS
      rw [e1]
      rfl
    obtain ⟨p1, p2, p3, p4, p5⟩ := hP
    refine ⟨fun z => ?_, fun z => p2 z, fun z => ⟨(p3 z).1, fun w => ?_⟩, fun z => p4 z, p5⟩
    · obtain ⟨⟨q1, q2, q3, q4⟩, q5⟩ := p1 z
      refine ⟨⟨?_, q2, ?_, ?_⟩, q5⟩
      · rw [h5 24 (by omega)]; exact q1
      · rw [h5 28 (by omega)]; exact q3
      · rw [h5 29 (by omega)]; exact q4
    · obtain ⟨q1, q2, q3⟩ := (p3 z).2 w
      rw [ff, fs q1, h5 32 (by omega)]
      exact ⟨q1, q2, q3⟩
  refine ⟨K2', S2', A2', C2', M', fun Q hQ => ?_, hmo, ⟨hmid, hrp⟩, fun M'' hs => ?_, fun k hk => by rw [m5]; exact h5 k hk, mj 4 (by decide), rfl, s10⟩
  · unfold wp_X3_copyFrom
    refine hcs _ ?_
    unfold wp_X0_copyFrom
    intro T1 e1 T2 e2 T3 e3 T4 e4 T5 e5
    have e2 : T2 = sa (sa A2 0 (va_cpy (A.2 0) (A2.2 0) 0 0 32)) 1 (va_cpy (A.2 1) (A2.2 1) 0 0 32) := by rw [e2, e1, sa_ne (by decide)]
    subst e2; subst e3; subst e4; subst e5
    unfold wp_X1_copyFrom
    intro U1 f1 U2 f2 U3 f3 U4 f4 U5 f5 U6 f6 U7 f7 U8 f8 U9 f9 U10 f10'
    have f2 : U2 = sa (sa C2 1 (va_cpy (C.2 1) (C2.2 1) 0 0 8)) 2 (va_cpy (C.2 2) (C2.2 2) 0 0 4) := by rw [f2, f1, sa_ne (by decide)]
    have f3 : U3 = sa (sa (sa C2 1 (va_cpy (C.2 1) (C2.2 1) 0 0 8)) 2 (va_cpy (C.2 2) (C2.2 2) 0 0 4)) 3 (va_cpy (C.2 3) (C2.2 3) 0 0 16) := by rw [f3, f2, sa_ne (by decide), sa_ne (by decide)]
    have f4 : U4 = sa (sa (sa (sa C2 1 (va_cpy (C.2 1) (C2.2 1) 0 0 8)) 2 (va_cpy (C.2 2) (C2.2 2) 0 0 4)) 3 (va_cpy (C.2 3) (C2.2 3) 0 0 16)) 4 (va_cpy (C.2 4) (C2.2 4) 0 0 96) := by rw [f4, f3, sa_ne (by decide), sa_ne (by decide), sa_ne (by decide)]
    subst f4; subst f5; subst f6; subst f7; subst f8; subst f9; subst f10'
    refine ⟨cb.2.2.2.2.1, fun U11 f11 => ⟨cb.2.2.2.2.2.2.2.1, fun U12 f12 => ?_⟩⟩
    subst f11; subst f12
    intro V4 g4 V5 g5 V6 g6 V7 g7
    subst g4; subst g5; subst g6; subst g7
    refine ⟨hK.2.2.2.1, fun V8 g8 => ⟨hK.2.2.2.2, fun V9 g9 => ⟨hp1, fun V10 g10 => ?_⟩⟩⟩
    subst g8; subst g9; subst g10
    exact hQ
  · refine REL_M h ?_ ?_ (fun j h5' h18 => ?_)
    · rw [hs.2 3 (by decide)]; rfl
    · rw [hs.2 11 (by decide)]; rfl
    · rw [hs.1 j h5', mj j h5']
