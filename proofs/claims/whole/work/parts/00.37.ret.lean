/-! LAYER 2: unstacking -/
theorem cpy4 (f g : Nat → Int32) (p : Nat) : va_cpy f g p 0 4 = upd (upd (upd (upd g 0 (f p)) 1 (f (p + 1))) 2 (f (p + 2))) 3 (f (p + 3)) := by
  funext k
  unfold va_cpy
  by_cases c3 : k = 3
  · subst c3; rw [if_pos (by omega), up_eq]
  · rw [up_ne c3]
    by_cases c2 : k = 2
    · subst c2; rw [if_pos (by omega), up_eq]
    · rw [up_ne c2]
      by_cases c1 : k = 1
      · subst c1; rw [if_pos (by omega), up_eq]
      · rw [up_ne c1]
        by_cases c0 : k = 0
        · subst c0; rw [if_pos (by omega), up_eq]; rfl
        · rw [up_ne c0, if_neg (by omega)]
/-- the core once the six last words are off; f: with fours -/
def popC (C : Ob) (f : Int32) : Ob := si (si (si (si (si (sa C 1 (va_cpy (C.2 4) (C.2 1) (Int32.toNatClampNeg (C.1 6 - 6)) 0 4)) 5 (C.2 4 (Int32.toNatClampNeg (C.1 6 - 6 + 4)))) 8 (C.2 4 (Int32.toNatClampNeg (C.1 6 - 6 + 5)) &&& 1)) 9 ((C.2 4 (Int32.toNatClampNeg (C.1 6 - 6 + 5)) >>> (1 &&& 31)) &&& 1)) 12 f) 6 (if f = 0 then C.1 6 - 6 else C.1 6 - 10)
theorem pop_class {C : Ob} {f y : Int32} {Q : Int32 → Ob → Prop} (h6 : 6 ≤ (C.1 6).toInt) (h96 : (C.1 6).toInt ≤ 96) (bf : isB f) (by2 : isB y) (h : Q y (popC C f)) : wp_X1_popFrame_L37 Q f y C := by
  have e4 : (4 : Int32).toInt = 4 := rfl
  have e5 : (5 : Int32).toInt = 5 := rfl
  have e6 : (6 : Int32).toInt = 6 := rfl
  have e0 : (0 : Int32).toInt = 0 := rfl
  have s6 : (C.1 6 - 6).toInt = (C.1 6).toInt - 6 := by rw [i_sub (by omega) (by omega), e6]
  have s4 : (C.1 6 - 6 + 4).toInt = (C.1 6).toInt - 2 := by rw [i_add (by omega) (by omega), s6, e4]; omega
  have s5 : (C.1 6 - 6 + 5).toInt = (C.1 6).toInt - 1 := by rw [i_add (by omega) (by omega), s6, e5]; omega
  unfold popC at h
  unfold wp_X1_popFrame_L37
  intro x9 e9
  subst e9
  refine ⟨fun d => by rw [i_lt] at d; omega, by rw [i_nat]; omega, fun T10 e10 => ⟨ok_iff.mpr (by omega), fun T11 e11 => ⟨ok_iff.mpr (by omega), fun T12 e12 => ⟨ok_iff.mpr (by omega), fun T13 e13 => ⟨bf, fun T14 e14 => ?_⟩⟩⟩⟩⟩
  subst e10; subst e11; subst e12; subst e13; subst e14
  refine ⟨fun d T16 e16 => ⟨by2, ?_⟩, fun d T16 e16 => ⟨by2, ?_⟩⟩
  · subst e16
    rw [if_pos d] at h
    exact h
  · subst e16
    rw [if_neg d] at h
    exact h
theorem popFrame_class {C : Ob} {Q : Int32 → Ob → Prop} (h6 : 6 ≤ (C.1 6).toInt) (h96 : (C.1 6).toInt ≤ 96) (h : (mk C &&& 4 = 0 → Q 0 (popC C 0)) ∧ (¬ mk C &&& 4 = 0 → (C.1 11 = C.1 6 - 10 → Q 1 (popC (si C 11 (-1)) 1)) ∧ (¬ C.1 11 = C.1 6 - 10 → wp_X1_takeSingles C (C.1 6 - 10) (fun u7 => wp_X1_popFrame_L37 Q 1 0 u7)))) : wp_X1_popFrame C Q := by
  have e1 : (1 : Int32).toInt = 1 := rfl
  have s1 : (C.1 6 - 1).toInt = (C.1 6).toInt - 1 := by rw [i_sub (by omega) (by omega), e1]
  have o1 : okI (C.1 6 - 1) 96 := ok_iff.mpr (by omega)
  unfold wp_X1_popFrame wp_X1_isLazyFrame wp_X1_hasFours
  refine ⟨o1, fun g => ⟨o1, fun _ => ⟨fun _ => ⟨fun _ => ⟨fun _ => pop_class h6 h96 isB0 isB0 (h.1 g), fun z => absurd rfl z⟩, fun z => absurd rfl z⟩, fun z => absurd rfl z⟩, fun z => absurd g z⟩, fun g => ⟨o1, fun z => absurd z g, fun _ => ⟨fun z => absurd z (by decide), fun _ => ⟨fun k => ⟨fun _ => ⟨fun z => absurd z (by decide), fun _ => (h.2 g).2 k⟩, fun z => absurd rfl z⟩, fun k => ⟨fun z => absurd z (by decide), fun _ T8 e8 => ?_⟩⟩⟩⟩⟩
  subst e8
  exact pop_class (C := si C 11 (-1)) h6 h96 isB1 isB1 ((h.2 g).1 k)
/-- the reference's row once the six last words are off -/
def popR (r : Nat → Int32) (p : Nat) (y3 w : Int32) : Nat → Int32 := upd (upd (upd (upd (upd (upd (upd (upd r 0 (r p)) 1 (r (p + 1))) 2 (r (p + 2))) 3 (r (p + 3))) 12 (r (p + 4))) 13 (y3 &&& 1)) 14 ((y3 >>> (1 &&& 31)) &&& 1)) 15 w
theorem ret_step {nw : Bool} {M : Ob} {r : Nat → Int32} {Q : Mod → Prop} {n k p : Nat} {y2 y3 : Int32} (hk : k < 4) (hp : (y2 - 6).toInt = (p : Int)) (hp2 : p < 300) (h : wp_X8_returns_L113 nw Q n y2 y3 (Int32.ofNat (k + 1)) (M, upd r k (r (p + k)))) : wp_X8_returns_L113 nw Q (n + 1) y2 y3 (Int32.ofNat k) (M, r) := by
  have hk0 := i_ofNat (k := k) (by omega)
  have hks := of_succ (k := k) (by omega)
  have e0 : (0 : Int32).toInt = 0 := rfl
  have e4 : (4 : Int32).toInt = 4 := rfl
  have a : (y2 - 6 + Int32.ofNat k).toInt = (p : Int) + k := by rw [i_add (by omega) (by omega), hp, hk0]
  have b : (0 + Int32.ofNat k).toInt = (k : Int) := by rw [i_add (by omega) (by omega), hk0, e0]; omega
  unfold wp_X8_returns_L113
  refine ⟨fun c => absurd (i_le.mp c) (by omega), fun _ => ⟨ok_iff.mpr (by omega), ok_iff.mpr (by omega), fun T39 e39 x40 e40 => ?_⟩⟩
  rw [i_nat, i_nat, a, b] at e39
  have e39 : T39 = upd r ((k : Int)).toNat (r ((p : Int) + k).toNat) := e39
  rw [show ((k : Int)).toNat = k by omega, show ((p : Int) + k).toNat = p + k by omega] at e39
  subst e39
  rw [e40, hks]
  exact h
theorem ret_model {nw : Bool} {M : Ob} {r : Nat → Int32} {Q : Mod → Prop} {p : Nat} {y2 y3 : Int32} (hp : y2.toInt = (p : Int) + 6) (hp0 : 40 ≤ p) (hp2 : p < 300) (e15 : r 15 = y2 - 56) (hd : 0 ≤ (r 30).toInt) (hd2 : (r 30).toInt ≤ 21) (h : wp_X8_notes nw (M, upd (upd (popR r p y3 (if y3 ≤ 3 then r 15 - 6 else r 15 - 10)) 20 0) 21 0) 5 (if r 30 = 0 then -1 else r (Int32.toNatClampNeg (152 + r 30 - 1))) (if y3 ≤ 3 then r 15 - 6 else r 15 - 10) Q) : wp_X8_returns_L113 nw Q 2000 y2 y3 0 (M, r) := by
  have e6 : (6 : Int32).toInt = 6 := rfl
  have e2 : (2 : Int32).toInt = 2 := rfl
  have e1 : (1 : Int32).toInt = 1 := rfl
  have e152 : (152 : Int32).toInt = 152 := rfl
  have s6 : (y2 - 6).toInt = (p : Int) := by rw [i_sub (by omega) (by omega), hp, e6]; omega
  have s2 : (y2 - 2).toInt = (p : Int) + 4 := by rw [i_sub (by omega) (by omega), hp, e2]; omega
  refine ret_step (n := 1999) (k := 0) (p := p) (by omega) s6 hp2 ?_
  refine ret_step (n := 1998) (k := 1) (p := p) (by omega) s6 hp2 ?_
  refine ret_step (n := 1997) (k := 2) (p := p) (by omega) s6 hp2 ?_
  refine ret_step (n := 1996) (k := 3) (p := p) (by omega) s6 hp2 ?_
  have v1 : upd r 0 (r (p + 0)) (p + 1) = r (p + 1) := up_ne (by omega)
  have v2 : upd (upd r 0 (r (p + 0))) 1 (r (p + 1)) (p + 2) = r (p + 2) := by rw [up_ne (by omega), up_ne (by omega)]
  have v3 : upd (upd (upd r 0 (r (p + 0))) 1 (r (p + 1))) 2 (r (p + 2)) (p + 3) = r (p + 3) := by rw [up_ne (by omega), up_ne (by omega), up_ne (by omega)]
  rw [v1, v2, v3, Nat.add_zero]
  generalize hr4 : upd (upd (upd (upd r 0 (r p)) 1 (r (p + 1))) 2 (r (p + 2))) 3 (r (p + 3)) = r4
  have g : ∀ j : Nat, 4 ≤ j → r4 j = r j := fun j hj => by rw [← hr4, up_ne (by omega), up_ne (by omega), up_ne (by omega), up_ne (by omega)]
  unfold popR at h
  rw [hr4] at h
  show wp_X8_returns_L113 nw Q (1995 + 1) y2 y3 (Int32.ofNat (3 + 1)) (M, r4)
  unfold wp_X8_returns_L113
  refine ⟨fun _ => ⟨ok_iff.mpr (by omega), fun T25 f25 T26 f26 T27 f27 => ?_⟩, fun d => absurd (by decide) d⟩
  have f25 : T25 = upd r4 12 (r (p + 4)) := by
    rw [f25, i_nat, s2]
    show upd r4 12 (r4 ((p : Int) + 4).toNat) = _
    rw [show ((p : Int) + 4).toNat = p + 4 by omega, g _ (by omega)]
  have t15 : T27 15 = r 15 := by rw [f27, f26, f25, up_ne (by omega), up_ne (by omega), up_ne (by omega), g _ (by omega)]
  have t30 : T27 30 = r 30 := by rw [f27, f26, f25, up_ne (by omega), up_ne (by omega), up_ne (by omega), g _ (by omega)]
  have tk : ∀ j : Nat, 30 < j → T27 j = r j := fun j hj => by rw [f27, f26, f25, up_ne (by omega), up_ne (by omega), up_ne (by omega), g _ (by omega)]
  rw [t15]
  have eT : T27 = upd (upd (upd r4 12 (r (p + 4))) 13 (y3 &&& 1)) 14 ((y3 >>> (1 &&& 31)) &&& 1) := by rw [f27, f26, f25]
  rw [← eT] at h
  -- the tail, the same for both widths
  have tail : ∀ w : Int32, wp_X8_notes nw (M, upd (upd (upd T27 15 w) 20 0) 21 0) 5 (if r 30 = 0 then -1 else r (Int32.toNatClampNeg (152 + r 30 - 1))) w Q → ∀ T29 : Nat → Int32, T29 = upd T27 15 w → wp_X8_turns nw (M, T29) 0 0 (fun u30 => ((¬ (u30.2 30) = 0 → okI ((152 + (u30.2 30)) - 1) 342 ∧ wp_X8_notes nw u30 5 (u30.2 (Int32.toNatClampNeg ((152 + (u30.2 30)) - 1))) (u30.2 15) (fun u32 => Q u32)) ∧ ((u30.2 30) = 0 → wp_X8_notes nw u30 5 (-1) (u30.2 15) (fun u33 => Q u33)))) := by
    intro w hw T29 f29
    refine turns_model ?_
    dsimp only
    subst f29
    have u30 : upd (upd (upd T27 15 w) 20 0) 21 0 30 = r 30 := by rw [up_ne (by omega), up_ne (by omega), up_ne (by omega), t30]
    have u15 : upd (upd (upd T27 15 w) 20 0) 21 0 15 = w := by rw [up_ne (by omega), up_ne (by omega), up_eq]
    have uk : ∀ j : Nat, 30 < j → upd (upd (upd T27 15 w) 20 0) 21 0 j = r j := fun j hj => by rw [up_ne (by omega), up_ne (by omega), up_ne (by omega), tk j hj]
    rw [u30, u15]
    refine ⟨fun d => ?_, fun d => ?_⟩
    · rw [if_neg d] at hw
      have d1 : ¬ (r 30).toInt = 0 := fun z => d (i_eq.mpr z)
      have a : (152 + r 30).toInt = 152 + (r 30).toInt := by rw [i_add (by omega) (by omega), e152]
      have b : (152 + r 30 - 1).toInt = 151 + (r 30).toInt := by rw [i_sub (by omega) (by omega), a, e1]; omega
      refine ⟨ok_iff.mpr (by omega), ?_⟩
      rw [uk _ (by rw [i_nat]; omega)]
      exact hw
    · rw [if_pos d] at hw; exact hw
  refine ⟨fun d => ?_, fun d => ?_⟩
  · rw [if_pos d] at h
    exact tail _ h
  · rw [if_neg d] at h
    exact tail _ h
