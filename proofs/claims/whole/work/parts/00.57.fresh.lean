/-! LAYER 2: as at first: reset, and a new object -/
def fill (f : Nat → Int32) (a b : Nat) (v : Int32) : Nat → Int32 := fun k => if a ≤ k ∧ k < b then v else f k
theorem fill_in {f : Nat → Int32} {a b k : Nat} {v : Int32} (h : a ≤ k ∧ k < b) : fill f a b v k = v := if_pos h
theorem fill_out {f : Nat → Int32} {a b k : Nat} {v : Int32} (h : ¬ (a ≤ k ∧ k < b)) : fill f a b v k = f k := if_neg h
theorem fill_end (f : Nat → Int32) (a : Nat) (v : Int32) : fill f a a v = f := by
  funext k
  exact fill_out (by omega)
theorem fill_step {f : Nat → Int32} {a b : Nat} {v : Int32} (h : a < b) : fill (upd f a v) (a + 1) b v = fill f a b v := by
  funext k
  by_cases c : k = a
  · subst c; rw [fill_out (by omega), up_eq, fill_in (by omega)]
  · by_cases d : a ≤ k ∧ k < b
    · rw [fill_in (by omega), fill_in d]
    · rw [fill_out (by omega), fill_out d, up_ne c]
theorem sa_comm {S : Ob} {i j : Nat} {f g : Nat → Int32} (h : ¬ i = j) : sa (sa S i f) j g = sa (sa S j g) i f := by
  unfold sa
  refine Prod.ext rfl ?_
  funext k
  show va_up (va_up S.2 i f) j g k = va_up (va_up S.2 j g) i f k
  by_cases c : k = j
  · subst c
    rw [va_up_self, va_up_ne _ _ (fun e => h e.symm), va_up_self]
  · rw [va_up_ne _ _ c]
    by_cases d : k = i
    · subst d; rw [va_up_self, va_up_self]
    · rw [va_up_ne _ _ d, va_up_ne _ _ d, va_up_ne _ _ c]
/-- Arrays.fill -/
theorem fill_class {N : Nat} {v : Int32} {Q : (Nat → Int32) → Prop} (hN : N < 1000) : ∀ (m i n : Nat) (f : Nat → Int32), i + m = N → m < n → Q (fill f i N v) → wp_J7_fill_53178_L5 N Q n v (Int32.ofNat i) (Int32.ofNat N) f := by
  have hN0 := i_ofNat (k := N) (by omega)
  intro m
  induction m with
  | zero =>
    intro i n f hi hn hQ
    obtain ⟨n, rfl⟩ : ∃ z, n = z + 1 := ⟨n - 1, by omega⟩
    have e : i = N := by omega
    subst e
    rw [fill_end] at hQ
    unfold wp_J7_fill_53178_L5
    exact ⟨fun _ => hQ, fun z => absurd (i_le.mpr (Int.le_refl _)) z⟩
  | succ m ih =>
    intro i n f hi hn hQ
    obtain ⟨n, rfl⟩ : ∃ z, n = z + 1 := ⟨n - 1, by omega⟩
    have hi0 := i_ofNat (k := i) (by omega)
    have hin := n_of (k := i) (by omega)
    have his := of_succ (k := i) (by omega)
    unfold wp_J7_fill_53178_L5
    refine ⟨fun z => absurd (i_le.mp z) (by omega), fun _ => ⟨ok_iff.mpr (by omega), fun T3 e3 x4 e4 => ?_⟩⟩
    rw [hin] at e3
    subst e3
    rw [e4, his]
    exact ih (i + 1) n _ (by omega) (by omega) (by rw [fill_step (by omega)]; exact hQ)
theorem fill_c {N : Nat} {v : Int32} {Q : (Nat → Int32) → Prop} {f : Nat → Int32} (hN : N < 1000) (hQ : Q (fill f 0 N v)) : wp_J7_fill_53178 N f v Q := by
  unfold wp_J7_fill_53178
  intro x1 e1
  subst e1
  exact fill_class hN N 0 2000 f (by omega) (by omega) hQ
/-- the sources as at first -/
def rstS (S : Ob) : Ob := si (si (si (si (si (sa (sa (sa (sa S 3 (fill (S.2 3) 0 21 0)) 4 (fill (S.2 4) 0 21 0)) 5 (fill (S.2 5) 0 21 0)) 8 (fill (S.2 8) 0 21 (-1))) 10 0) 11 0) 13 0) 14 0) 15 0
theorem rst_loop {Q : Ob → Prop} : ∀ (m i n : Nat) (S : Ob), i + m = 21 → m < n → Q (si (si (si (si (si (sa (sa (sa (sa S 3 (fill (S.2 3) i 21 0)) 4 (fill (S.2 4) i 21 0)) 5 (fill (S.2 5) i 21 0)) 8 (fill (S.2 8) i 21 (-1))) 10 0) 11 0) 13 0) 14 0) 15 0) → wp_X5_restart_L2 Q n (Int32.ofNat i) S := by
  have l21 : (21 : Int32).toInt = 21 := rfl
  intro m
  induction m with
  | zero =>
    intro i n S hi hn hQ
    obtain ⟨n, rfl⟩ : ∃ z, n = z + 1 := ⟨n - 1, by omega⟩
    have e : i = 21 := by omega
    subst e
    rw [fill_end, fill_end, fill_end, fill_end, sa_same, sa_same, sa_same, sa_same] at hQ
    unfold wp_X5_restart_L2
    refine ⟨fun _ T2 e2 T3 e3 T4 e4 T5 e5 T6 e6 => ?_, fun z => absurd (by decide) z⟩
    subst e2; subst e3; subst e4; subst e5; subst e6
    exact hQ
  | succ m ih =>
    intro i n S hi hn hQ
    obtain ⟨n, rfl⟩ : ∃ z, n = z + 1 := ⟨n - 1, by omega⟩
    have hi0 := i_ofNat (k := i) (by omega)
    have hin := n_of (k := i) (by omega)
    have his := of_succ (k := i) (by omega)
    have ok : okI (Int32.ofNat i) 21 := ok_iff.mpr (by omega)
    unfold wp_X5_restart_L2
    refine ⟨fun z => absurd (i_le.mp z) (by omega), fun _ => ⟨ok, fun T7 e7 => ⟨ok, fun T8 e8 => ⟨ok, fun T9 e9 => ⟨ok, fun T10 e10 x11 e11 => ?_⟩⟩⟩⟩⟩
    rw [hin] at e7 e8 e9 e10
    have f8 : T8 = sa (sa S 3 (upd (S.2 3) i 0)) 4 (upd (S.2 4) i 0) := by rw [e8, e7, sa_ne (by decide)]
    have f9 : T9 = sa (sa (sa S 3 (upd (S.2 3) i 0)) 4 (upd (S.2 4) i 0)) 5 (upd (S.2 5) i 0) := by rw [e9, f8, sa_ne (by decide), sa_ne (by decide)]
    have f10 : T10 = sa (sa (sa (sa S 3 (upd (S.2 3) i 0)) 4 (upd (S.2 4) i 0)) 5 (upd (S.2 5) i 0)) 8 (upd (S.2 8) i (-1)) := by rw [e10, f9, sa_ne (by decide), sa_ne (by decide), sa_ne (by decide)]
    rw [e11, his]
    refine ih (i + 1) n _ (by omega) (by omega) ?_
    subst f10
    have r3 : (sa (sa (sa (sa S 3 (upd (S.2 3) i 0)) 4 (upd (S.2 4) i 0)) 5 (upd (S.2 5) i 0)) 8 (upd (S.2 8) i (-1))).2 3 = upd (S.2 3) i 0 := by rw [sa_ne (by decide), sa_ne (by decide), sa_ne (by decide), sa_self]
    have r4 : (sa (sa (sa (sa S 3 (upd (S.2 3) i 0)) 4 (upd (S.2 4) i 0)) 5 (upd (S.2 5) i 0)) 8 (upd (S.2 8) i (-1))).2 4 = upd (S.2 4) i 0 := by rw [sa_ne (by decide), sa_ne (by decide), sa_self]
    have r5 : (sa (sa (sa (sa S 3 (upd (S.2 3) i 0)) 4 (upd (S.2 4) i 0)) 5 (upd (S.2 5) i 0)) 8 (upd (S.2 8) i (-1))).2 5 = upd (S.2 5) i 0 := by rw [sa_ne (by decide), sa_self]
    have r8 : (sa (sa (sa (sa S 3 (upd (S.2 3) i 0)) 4 (upd (S.2 4) i 0)) 5 (upd (S.2 5) i 0)) 8 (upd (S.2 8) i (-1))).2 8 = upd (S.2 8) i (-1) := sa_self _ _ _
    rw [r3, r4, r5, r8, fill_step (by omega), fill_step (by omega), fill_step (by omega), fill_step (by omega)]
    rw [sa_comm (i := 8) (j := 3) (by decide), sa_comm (i := 5) (j := 3) (by decide), sa_comm (i := 4) (j := 3) (by decide), sa_sa, sa_comm (i := 8) (j := 4) (by decide), sa_comm (i := 5) (j := 4) (by decide), sa_sa, sa_comm (i := 8) (j := 5) (by decide), sa_sa, sa_sa]
    exact hQ
theorem restart_S {S : Ob} {Q : Ob → Prop} (h : Q (rstS S)) : wp_X5_restart S Q := by
  unfold wp_X5_restart
  exact rst_loop 21 0 2000 S (by omega) (by omega) h
/-- the reference as at first -/
def zer (f : Nat → Int32) (a : Nat) : Nat → Int32 := fun k => if a ≤ k ∧ k < 342 ∧ ¬ (173 ≤ k ∧ k < 194) then 0 else f k
def f78 (T : Ob) (per : Int32) (i : Nat) : Ob := si (sa (sa T 6 (fill (T.2 6) i 17 0)) 4 (upd (upd (upd (T.2 4) 19 (-1)) 26 per) 27 per)) 11 0
def f46 (T : Ob) (per : Int32) (i : Nat) : Ob := f78 (sa (sa T 4 (fill (T.2 4) (194 + i) 215 (-1))) 13 (fill (T.2 13) i 21 (-1))) per 0
def f10 (T : Ob) (per : Int32) (i : Nat) : Ob := f46 (sa T 4 (zer (T.2 4) i)) per 0
theorem l78 {per : Int32} {Q : Ob → Prop} : ∀ (m i n : Nat) (T : Ob), i + m = 17 → m < n → Q (f78 T per i) → wp_X8_fresh_L78 Q n per (Int32.ofNat i) T := by
  have l17 : (17 : Int32).toInt = 17 := rfl
  intro m
  induction m with
  | zero =>
    intro i n T hi hn hQ
    obtain ⟨n, rfl⟩ : ∃ z, n = z + 1 := ⟨n - 1, by omega⟩
    have e : i = 17 := by omega
    subst e
    unfold f78 at hQ
    rw [fill_end, sa_same] at hQ
    unfold wp_X8_fresh_L78
    refine ⟨fun _ T15 e15 T16 e16 T17 e17 T18 e18 => ?_, fun z => absurd (by decide) z⟩
    rw [e15, sa_self, sa_sa] at e16
    rw [e16, sa_self, sa_sa] at e17
    subst e17
    subst e18
    exact hQ
  | succ m ih =>
    intro i n T hi hn hQ
    obtain ⟨n, rfl⟩ : ∃ z, n = z + 1 := ⟨n - 1, by omega⟩
    have hi0 := i_ofNat (k := i) (by omega)
    have hin := n_of (k := i) (by omega)
    have his := of_succ (k := i) (by omega)
    unfold wp_X8_fresh_L78
    refine ⟨fun z => absurd (i_le.mp z) (by omega), fun _ => ⟨ok_iff.mpr (by omega), fun T19 e19 x20 e20 => ?_⟩⟩
    rw [hin] at e19
    rw [e20, his]
    refine ih (i + 1) n _ (by omega) (by omega) ?_
    subst e19
    unfold f78 at hQ ⊢
    rw [sa_self, sa_sa, fill_step (by omega), sa_ne (by decide)]
    exact hQ
theorem l46 {per : Int32} {Q : Ob → Prop} : ∀ (m i n : Nat) (T : Ob), i + m = 21 → m < n → Q (f46 T per i) → wp_X8_fresh_L46 Q n per (Int32.ofNat i) T := by
  have l21 : (21 : Int32).toInt = 21 := rfl
  have l194 : (194 : Int32).toInt = 194 := rfl
  intro m
  induction m with
  | zero =>
    intro i n T hi hn hQ
    obtain ⟨n, rfl⟩ : ∃ z, n = z + 1 := ⟨n - 1, by omega⟩
    have e : i = 21 := by omega
    subst e
    unfold f46 at hQ
    rw [fill_end, fill_end, sa_same, sa_same] at hQ
    unfold wp_X8_fresh_L46
    exact ⟨fun _ => l78 17 0 2000 T (by omega) (by omega) hQ, fun z => absurd (by decide) z⟩
  | succ m ih =>
    intro i n T hi hn hQ
    obtain ⟨n, rfl⟩ : ∃ z, n = z + 1 := ⟨n - 1, by omega⟩
    have hi0 := i_ofNat (k := i) (by omega)
    have hin := n_of (k := i) (by omega)
    have his := of_succ (k := i) (by omega)
    have o := off (a := 194) (k := Int32.ofNat i) (by omega) (by omega) (by omega)
    rw [hin, show (194 : Int32).toNatClampNeg = 194 from rfl] at o
    unfold wp_X8_fresh_L46
    refine ⟨fun z => absurd (i_le.mp z) (by omega), fun _ => ⟨o.1, fun T11 e11 => ⟨ok_iff.mpr (by omega), fun T12 e12 x13 e13 => ?_⟩⟩⟩
    rw [o.2] at e11
    rw [hin, e11, sa_ne (by decide)] at e12
    rw [e13, his]
    refine ih (i + 1) n _ (by omega) (by omega) ?_
    subst e12
    unfold f46 at hQ ⊢
    have r4 : (sa (sa T 4 (upd (T.2 4) (194 + i) (-1))) 13 (upd (T.2 13) i (-1))).2 4 = upd (T.2 4) (194 + i) (-1) := by rw [sa_ne (by decide), sa_self]
    rw [r4, sa_self, fill_step (by omega), show 194 + (i + 1) = 194 + i + 1 from rfl, fill_step (by omega), sa_comm (i := 13) (j := 4) (by decide), sa_sa, sa_sa]
    exact hQ
theorem l10 {per : Int32} {Q : Ob → Prop} : ∀ (m i n : Nat) (T : Ob), i + m = 342 → m < n → Q (f10 T per i) → wp_X8_fresh_L10 Q n per (Int32.ofNat i) T := by
  have l342 : (342 : Int32).toInt = 342 := rfl
  have l173 : (173 : Int32).toInt = 173 := rfl
  have l194 : (194 : Int32).toInt = 194 := rfl
  intro m
  induction m with
  | zero =>
    intro i n T hi hn hQ
    obtain ⟨n, rfl⟩ : ∃ z, n = z + 1 := ⟨n - 1, by omega⟩
    have e : i = 342 := by omega
    subst e
    have ez : zer (T.2 4) 342 = T.2 4 := by
      funext k
      exact if_neg (by omega)
    unfold f10 at hQ
    rw [ez, sa_same] at hQ
    unfold wp_X8_fresh_L10
    exact ⟨fun _ => l46 21 0 2000 T (by omega) (by omega) hQ, fun z => absurd (by decide) z⟩
  | succ m ih =>
    intro i n T hi hn hQ
    obtain ⟨n, rfl⟩ : ∃ z, n = z + 1 := ⟨n - 1, by omega⟩
    have hi0 := i_ofNat (k := i) (by omega)
    have hin := n_of (k := i) (by omega)
    have his := of_succ (k := i) (by omega)
    have ok : okI (Int32.ofNat i) 342 := ok_iff.mpr (by omega)
    have wr : ¬ (173 ≤ i ∧ i < 194) → ∀ T4 : Ob, T4 = sa T 4 (upd (T.2 4) (Int32.toNatClampNeg (Int32.ofNat i)) 0) → ∀ x5 : Int32, x5 = Int32.ofNat i + 1 → wp_X8_fresh_L10 Q n per x5 T4 := by
      intro hc T4 e4 x5 e5
      rw [hin] at e4
      rw [e5, his]
      refine ih (i + 1) n _ (by omega) (by omega) ?_
      subst e4
      unfold f10 at hQ ⊢
      rw [sa_self, sa_sa]
      have ez : zer (upd (T.2 4) i 0) (i + 1) = zer (T.2 4) i := by
        funext k
        unfold zer
        by_cases c : k = i
        · subst c
          rw [if_neg (by omega), up_eq, if_pos (by omega)]
        · by_cases d : i ≤ k ∧ k < 342 ∧ ¬ (173 ≤ k ∧ k < 194)
          · rw [if_pos (by omega), if_pos d]
          · rw [if_neg (by omega), if_neg d, up_ne c]
      rw [ez]
      exact hQ
    unfold wp_X8_fresh_L10
    refine ⟨fun z => absurd (i_le.mp z) (by omega), fun _ => ⟨fun z => ⟨ok, wr (by rw [i_lt] at z; omega)⟩, fun z => ⟨fun y x7 e7 => ?_, fun y => ⟨ok, wr (by rw [i_lt] at z y; omega)⟩⟩⟩⟩
    rw [i_lt] at z y
    rw [e7, his]
    refine ih (i + 1) n _ (by omega) (by omega) ?_
    unfold f10 at hQ ⊢
    have ez : zer (T.2 4) (i + 1) = zer (T.2 4) i := by
      funext k
      unfold zer
      by_cases d : i ≤ k ∧ k < 342 ∧ ¬ (173 ≤ k ∧ k < 194)
      · rw [if_pos (by omega), if_pos d]
      · rw [if_neg (by omega), if_neg d]
    rw [ez]
    exact hQ
theorem fresh_model {M : Ob} {Q : Ob → Prop} (h : Q (f10 M (M.2 4 26) 0)) : wp_X8_fresh M Q := by
  unfold wp_X8_fresh
  intro x1 e1
  subst e1
  exact l10 342 0 2000 M (by omega) (by omega) h
/-- what the reference's row holds then -/
theorem f10_4 (M : Ob) (per : Int32) : (f10 M per 0).2 4 = upd (upd (upd (fill (zer (M.2 4) 0) 194 215 (-1)) 19 (-1)) 26 per) 27 per := by
  unfold f10 f46 f78
  rw [si_2, sa_self, sa_ne (by decide), sa_self, sa_self]
theorem f10_6 (M : Ob) (per : Int32) : ∀ k : Nat, k < 17 → (f10 M per 0).2 6 k = 0 := by
  intro k hk
  unfold f10 f46 f78
  rw [si_2, sa_ne (by decide), sa_self, fill_in (by omega)]
theorem f10_13 (M : Ob) (per : Int32) : ∀ k : Nat, k < 21 → (f10 M per 0).2 13 k = -1 := by
  intro k hk
  unfold f10 f46 f78
  rw [si_2, sa_ne (by decide), sa_ne (by decide), sa_self, fill_in (by omega)]
theorem f10_j (M : Ob) (per : Int32) {j : Nat} (h4 : ¬ j = 4) (h6 : ¬ j = 6) (h13 : ¬ j = 13) : (f10 M per 0).2 j = M.2 j := by
  unfold f10 f46 f78
  rw [si_2, sa_ne h4, sa_ne h6, sa_ne h13, sa_ne h4, sa_ne h4]
theorem f10_1 (M : Ob) (per : Int32) : (f10 M per 0).1 = upd M.1 11 0 := rfl
/-- all that is nothing at first -/
def zS (S : Ob) : Prop := (S.1 10 = 0 ∧ S.1 11 = 0 ∧ S.1 13 = 0 ∧ S.1 14 = 0 ∧ S.1 15 = 0) ∧ ∀ k : Nat, k < 21 → S.2 3 k = 0 ∧ S.2 4 k = 0 ∧ S.2 5 k = 0 ∧ S.2 8 k = -1
def zC (C : Ob) : Prop := (∀ k : Nat, k < 8 → C.2 1 k = 0) ∧ (∀ k : Nat, k < 4 → C.2 2 k = 0) ∧ (∀ k : Nat, k < 16 → C.2 3 k = 0) ∧ (∀ k : Nat, k < 96 → C.2 4 k = 0) ∧ C.1 5 = 0 ∧ C.1 6 = 0 ∧ C.1 7 = 0 ∧ C.1 8 = 0 ∧ C.1 9 = 0 ∧ C.1 10 = 0 ∧ C.1 11 = -1 ∧ C.1 12 = 0 ∧ C.1 13 = 0
theorem REL_zero {N T : Int} {B K : Nat → Int32} {S A J C J2 M : Ob} (hS : zS S) (hC : zC C) (hJ : ∀ k : Nat, 2 ≤ k → k ≤ 13 → J.1 k = 0) (hA : A.1 2 = 0 ∧ A.1 3 = M.2 4 26 ∧ A.1 4 = M.2 4 26) (hK : K 4 = 0 ∧ K 5 = 0 ∧ K 6 = 0 ∧ isB (K 9) ∧ isB (K 10) ∧ K 11 = 0) (rk : ∀ k : Nat, k < 20 → S.2 0 k = M.2 4 (173 + k)) (r20 : S.2 0 20 = -1) (ro : rkOK S) (E : ∀ k : Nat, k < 21 → S.2 2 k = M.2 2 k) (Eb : ∀ k : Nat, k < 21 → isB (S.2 2 k)) (Sp : S.1 12 = M.1 3 ∧ 0 ≤ (S.1 12).toInt ∧ (S.1 12).toInt ≤ 7) (V : ∀ k : Nat, k < 21 → S.2 1 k = M.2 1 k ∧ 0 ≤ (S.2 1 k).toInt ∧ (S.2 1 k).toInt < 512) (hB : rB B M) (hJ2 : rJb T J2) (hN : 0 ≤ N) (hT : 0 ≤ T) : REL N T B K S A J C J2 (f10 M (M.2 4 26) 0) := by
  obtain ⟨⟨s10, s11, s13, s14, s15⟩, sk⟩ := hS
  obtain ⟨c1, c2, c3, c4, c5, c6, c7, c8, c9, c10, c11, c12, c13⟩ := hC
  have l0 : (0 : Int32).toInt = 0 := rfl
  unfold REL
  rw [f10_4]
  generalize hr : upd (upd (upd (fill (zer (M.2 4) 0) 194 215 (-1)) 19 (-1)) 26 (M.2 4 26)) 27 (M.2 4 26) = r
  have g0 : ∀ k : Nat, k < 342 → ¬ k = 19 → ¬ k = 26 → ¬ k = 27 → ¬ (173 ≤ k ∧ k < 215) → r k = 0 := by
    intro k h1 h2 h3 h4 h5
    rw [← hr, up_ne h4, up_ne h3, up_ne h2, fill_out (by omega)]
    exact if_pos (by omega)
  have g173 : ∀ k : Nat, k < 21 → r (173 + k) = M.2 4 (173 + k) := by
    intro k hk
    rw [← hr, up_ne (by omega), up_ne (by omega), up_ne (by omega), fill_out (by omega)]
    exact if_neg (by omega)
  have g194 : ∀ k : Nat, k < 21 → r (194 + k) = -1 := by
    intro k hk
    rw [← hr, up_ne (by omega), up_ne (by omega), up_ne (by omega), fill_in (by omega)]
  have g19 : r 19 = -1 := by rw [← hr, up_ne (by omega), up_ne (by omega), up_eq]
  have g26 : r 26 = M.2 4 26 := by rw [← hr, up_ne (by omega), up_eq]
  have g27 : r 27 = M.2 4 26 := by rw [← hr, up_eq]
  refine ⟨⟨⟨⟨⟨⟨⟨?_, ?_, ?_⟩, fun k hk => ?_, fun k hk => ?_, r20, ?_⟩, ro, fun k hk => ?_, fun k hk => ?_, ?_, Sp.2⟩, ?_, ?_⟩, ?_, Eb, fun k hk => ?_, fun k hk => ?_, fun k hk => ?_, fun k hk => ?_⟩, ⟨fun i hi => ?_, fun i j hij hj => ?_⟩, fun _ => ⟨fun k hk z => ?_, fun k hk z => ?_, fun k hk => ?_, ?_, ?_⟩⟩, ⟨⟨?_, ?_, ?_⟩, fun k hk => ?_, ?_, ?_⟩, ⟨⟨?_, ?_, ?_⟩, fun _ => ⟨?_, ⟨?_, fun k hk z => ?_⟩, 0, ?_, ?_, ?_, ?_, fun j hj => ?_⟩⟩, ⟨⟨fun k hk => ?_, fun k hk => ?_, fun k hk => ?_, fun k hk => ?_, ?_, ?_, ?_, ?_, ?_, ?_, ?_, ?_⟩, ⟨?_, ?_, ?_, ?_, ?_, ?_, ?_, ?_, fun k hk => ?_⟩, fun _ => ?_⟩, rB_fr hB (f10_j _ _ (by decide) (by decide) (by decide)), ⟨⟨?_, ?_, ?_⟩, ?_, ?_, hK.2.2.2.1, hK.2.2.2.2.1⟩, hK.2.2.2.2.2, rP_run hK.2.1, hJ2⟩
  · rw [s10, g0 30 (by omega) (by omega) (by omega) (by omega) (by omega)]
  · rw [s10]; decide
  · rw [s10]; decide
  · rw [s10, l0] at hk; omega
  · rw [g173 k (by omega)]; exact rk k hk
  · rw [s13, g0 17 (by omega) (by omega) (by omega) (by omega) (by omega)]
  · rw [(sk k hk).1, g194 k hk]; exact ⟨fun _ => by decide, fun _ => rfl⟩
  · rw [f10_j _ _ (by decide) (by decide) (by decide)]; exact E k hk
  · rw [f10_1, up_ne (by decide)]; exact Sp.1
  · rw [s14, g0 16 (by omega) (by omega) (by omega) (by omega) (by omega)]
  · rw [(sk 20 (by omega)).2.1, g0 320 (by omega) (by omega) (by omega) (by omega) (by omega)]
  · rw [s14]; exact isB0
  · rw [(sk k hk).1]; exact isB0
  · rw [(sk k hk).2.1, g0 (300 + k) (by omega) (by omega) (by omega) (by omega) (by omega)]; exact ⟨rfl, isB0⟩
  · rw [(sk k hk).2.2.1, g0 (215 + k) (by omega) (by omega) (by omega) (by omega) (by omega)]; exact ⟨rfl, isB0⟩
  · rw [f10_j _ _ (by decide) (by decide) (by decide)]; exact V k hk
  · rw [s10, l0] at hi; omega
  · rw [s10, l0] at hj; omega
  · rw [(sk k hk).1] at z; exact absurd z (by decide)
  · rw [(sk k hk).2.1] at z; exact absurd z (by decide)
  · rw [(sk k hk).2.2.2, f10_13 _ _ k hk]
  · rw [s11, f10_6 _ _ 12 (by omega)]
  · rw [s15, f10_6 _ _ 9 (by omega)]
  · rw [hA.1, g0 31 (by omega) (by omega) (by omega) (by omega) (by omega)]
  · rw [hA.1]; decide
  · rw [hA.1]; decide
  · rw [hA.1, l0] at hk; omega
  · rw [hA.2.1, g26]
  · rw [hA.2.2, g27]
  · rw [hJ 3 (by omega) (by omega)]; decide
  · rw [hJ 4 (by omega) (by omega)]; decide
  · rw [hJ 4 (by omega) (by omega), l0]; exact hT
  · unfold rJc
    rw [hJ 5 (by omega) (by omega), hJ 6 (by omega) (by omega), hJ 7 (by omega) (by omega), hJ 8 (by omega) (by omega), hJ 9 (by omega) (by omega), hJ 10 (by omega) (by omega), hJ 11 (by omega) (by omega), hJ 12 (by omega) (by omega), hJ 13 (by omega) (by omega), f10_6 _ _ 1 (by omega), f10_6 _ _ 2 (by omega), f10_6 _ _ 3 (by omega), f10_6 _ _ 4 (by omega), f10_6 _ _ 5 (by omega), f10_6 _ _ 6 (by omega), f10_6 _ _ 7 (by omega), f10_6 _ _ 8 (by omega), f10_6 _ _ 10 (by omega)]
    exact ⟨rfl, rfl, rfl, rfl, rfl, rfl, rfl, rfl, rfl⟩
  · rw [hJ 4 (by omega) (by omega), f10_6 _ _ 15 (by omega)]
  · rw [hJ 4 (by omega) (by omega), l0] at z; omega
  · rw [f10_1, up_eq]; rfl
  · show (0 : Int) ≤ T
    exact hT
  · rw [hJ 3 (by omega) (by omega)]; rfl
  · rw [hJ 2 (by omega) (by omega)]; rfl
  · omega
  · rw [c1 k hk, g0 k (by omega) (by omega) (by omega) (by omega) (by omega)]
  · rw [c2 k hk, g0 (8 + k) (by omega) (by omega) (by omega) (by omega) (by omega)]
  · rw [c3 k hk, g0 (40 + k) (by omega) (by omega) (by omega) (by omega) (by omega)]
  · rw [c4 k hk, g0 (56 + k) (by omega) (by omega) (by omega) (by omega) (by omega)]
  · rw [c5, g0 12 (by omega) (by omega) (by omega) (by omega) (by omega)]
  · rw [c8, g0 13 (by omega) (by omega) (by omega) (by omega) (by omega)]
  · rw [c9, g0 14 (by omega) (by omega) (by omega) (by omega) (by omega)]
  · rw [c6, g0 15 (by omega) (by omega) (by omega) (by omega) (by omega)]
  · rw [c12, g0 18 (by omega) (by omega) (by omega) (by omega) (by omega)]
  · rw [c11, g19]
  · rw [c10, g0 22 (by omega) (by omega) (by omega) (by omega) (by omega)]
  · rw [c13, g0 23 (by omega) (by omega) (by omega) (by omega) (by omega)]
  · rw [c5]; decide
  · rw [c8]; exact isB0
  · rw [c9]; exact isB0
  · rw [c6]; decide
  · rw [c12]; exact isB0
  · rw [c11]; decide
  · rw [c10]; decide
  · rw [c13]; exact isB0
  · rw [c2 k hk]; exact fin0
  · rw [c7, f10_6 _ _ 13 (by omega)]
  · rw [hK.1, g0 25 (by omega) (by omega) (by omega) (by omega) (by omega)]
  · rw [hK.1]; decide
  · rw [hK.1, l0]; exact hN
  · rw [hK.2.1, g0 20 (by omega) (by omega) (by omega) (by omega) (by omega)]
  · rw [hK.2.2.1, g0 21 (by omega) (by omega) (by omega) (by omega) (by omega)]
