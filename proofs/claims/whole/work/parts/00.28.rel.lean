/-! LAYER 2: the relation of a machine of the class and the reference's row -/
theorem up_eq (f : Nat → Int32) (k : Nat) (v : Int32) : upd f k v k = v := if_pos rfl
theorem up_ne {f : Nat → Int32} {k j : Nat} {v : Int32} (h : ¬ j = k) : upd f k v j = f j := if_neg h
theorem i_mul {x y : Int32} (h1 : -2147483648 ≤ x.toInt * y.toInt) (h2 : x.toInt * y.toInt < 2147483648) : (x * y).toInt = x.toInt * y.toInt := by
  rw [Int32.toInt_mul]
  exact Int.bmod_eq_of_le (by simpa using h1) (by simpa using h2)
theorem i_div {x m : Int32} (h0 : 0 ≤ x.toInt) (hm : 0 < m.toInt) : (x / m).toInt = x.toInt / m.toInt := by
  have hx := i_hi x
  have h1 : x.toInt / m.toInt ≤ x.toInt := Int.ediv_le_self _ h0
  have h2 : 0 ≤ x.toInt / m.toInt := Int.ediv_nonneg h0 (by omega)
  rw [Int32.toInt_div, Int.tdiv_eq_ediv_of_nonneg h0]
  exact Int.bmod_eq_of_le (by simp; omega) (by simp; omega)
/-- the rest by a number above 0, as Java reckons it -/
theorem i_rem {x m : Int32} (h0 : 0 ≤ x.toInt) (hm : 0 < m.toInt) : (x - x / m * m).toInt = x.toInt % m.toInt := by
  have hx := i_hi x
  have e := Int.emod_def x.toInt m.toInt
  have e1 := Int.emod_nonneg x.toInt (show m.toInt ≠ 0 by omega)
  have e2 := Int.emod_lt_of_pos x.toInt hm
  have h2 : 0 ≤ x.toInt / m.toInt := Int.ediv_nonneg h0 (by omega)
  have h3 : 0 ≤ m.toInt * (x.toInt / m.toInt) := Int.mul_nonneg (by omega) h2
  have hq : (x / m * m).toInt = m.toInt * (x.toInt / m.toInt) := by
    rw [Int.mul_comm] at h3 e
    rw [i_mul (by rw [i_div h0 hm]; omega) (by rw [i_div h0 hm]; omega), i_div h0 hm, Int.mul_comm]
  rw [i_sub (by rw [hq]; omega) (by rw [hq]; omega), hq]
  omega
theorem isB_ne {v : Int32} (h : isB v) (c : ¬ v = 0) : v = 1 := h.resolve_left c
theorem isB_n1 {v : Int32} (h : isB v) (c : ¬ v = 1) : v = 0 := h.resolve_right c
abbrev Mac : Type := (Nat → Int32) × Ob × Ob × Ob × Ob × (Nat → Int32)
abbrev Mod : Type := Ob × (Nat → Int32)
/-- which cells of the row belong to whom -/
def inS (k : Nat) : Prop := k = 16 ∨ k = 17 ∨ k = 30 ∨ (152 ≤ k ∧ k < 236) ∨ (300 ≤ k ∧ k < 342)
def inA (k : Nat) : Prop := k = 26 ∨ k = 27 ∨ k = 31 ∨ (236 ≤ k ∧ k < 300)
def inC (k : Nat) : Prop := k < 16 ∨ k = 18 ∨ k = 19 ∨ k = 22 ∨ k = 23 ∨ (40 ≤ k ∧ k < 152)
def inK (k : Nat) : Prop := k = 20 ∨ k = 21 ∨ k = 24 ∨ k = 25 ∨ k = 28 ∨ k = 29 ∨ k = 32
/-- the sources -/
def rS0 (S M : Ob) (r : Nat → Int32) : Prop := takR S M r ∧ isB (S.1 14) ∧ (∀ k : Nat, k < 21 → isB (S.2 2 k)) ∧ (∀ k : Nat, k < 21 → isB (S.2 3 k)) ∧ (∀ k : Nat, k < 21 → S.2 4 k = r (300 + k) ∧ isB (S.2 4 k)) ∧ (∀ k : Nat, k < 21 → S.2 5 k = r (215 + k) ∧ isB (S.2 5 k)) ∧ (∀ k : Nat, k < 21 → S.2 1 k = M.2 1 k ∧ 0 ≤ (S.2 1 k).toInt ∧ (S.2 1 k).toInt < 512)
/-- a source's group by the split in force, as a number -/
def grp (S : Ob) (k : Int32) : Int := (S.2 0 k.toNatClampNeg >>> (S.1 12 &&& 31)).toInt
/-- those in the nest are active, and each has a lesser group than those before it -/
def rSn (S : Ob) : Prop := (∀ i : Nat, (i : Int) < (S.1 10).toInt → S.2 4 (S.2 9 i).toNatClampNeg = 1) ∧ (∀ i j : Nat, i < j → (j : Int) < (S.1 10).toInt → grp S (S.2 9 j) < grp S (S.2 9 i))
/-- what the machine itself keeps of its sources, not what is foretold -/
def rSo (S M : Ob) (r : Nat → Int32) : Prop := (∀ k : Nat, k < 21 → S.2 3 k = 1 → S.2 6 k = r (194 + k)) ∧ (∀ k : Nat, k < 21 → S.2 4 k = 1 → S.2 7 k = r (321 + k)) ∧ (∀ k : Nat, k < 21 → S.2 8 k = M.2 13 k) ∧ S.1 11 = M.2 6 12 ∧ S.1 15 = M.2 6 9
def rS (nw : Bool) (S M : Ob) (r : Nat → Int32) : Prop := rS0 S M r ∧ rSn S ∧ (nw = true → rSo S M r)
/-- arrivals and the timer -/
def rA (A : Ob) (r : Nat → Int32) : Prop := (A.1 2 = r 31 ∧ 0 ≤ (A.1 2).toInt ∧ (A.1 2).toInt ≤ 32) ∧ (∀ k : Nat, (k : Int) < (A.1 2).toInt → A.2 0 k = r (236 + k) ∧ A.2 1 k = r (268 + k) ∧ okI (A.2 0 k) 18) ∧ A.1 3 = r 26 ∧ A.1 4 = r 27
/-- counts, what was told, events -/
def rJc (J M : Ob) : Prop := J.1 5 = M.2 6 1 ∧ J.1 6 = M.2 6 2 ∧ J.1 7 = M.2 6 3 ∧ J.1 8 = M.2 6 4 ∧ J.1 9 = M.2 6 5 ∧ J.1 10 = M.2 6 6 ∧ J.1 11 = M.2 6 7 ∧ J.1 12 = M.2 6 8 ∧ J.1 13 = M.2 6 10
def rJo (J M : Ob) : Prop := J.1 4 = M.2 6 15 ∧ ∀ k : Nat, k < 64 → (k : Int) < (J.1 4).toInt → J.2 0 k = M.2 12 k
def rJe (T : Int) (J M : Ob) : Prop := ∃ e : Nat, (M.1 11).toInt = (e : Int) ∧ (e : Int) ≤ T ∧ (J.1 3).toInt = ((e % 24 : Nat) : Int) ∧ (J.1 2).toInt = ((min e 24 : Nat) : Int) ∧ ∀ j : Nat, j < e → e ≤ j + 24 → J.2 1 ((j + 1) % 24 * 4) = M.2 7 (j % 24) ∧ J.2 1 ((j + 1) % 24 * 4 + 1) = M.2 8 (j % 24) ∧ J.2 1 ((j + 1) % 24 * 4 + 2) = M.2 9 (j % 24) ∧ J.2 1 ((j + 1) % 24 * 4 + 3) = M.2 10 (j % 24)
def rJb (T : Int) (J : Ob) : Prop := (0 ≤ (J.1 3).toInt ∧ (J.1 3).toInt < 24) ∧ 0 ≤ (J.1 4).toInt ∧ (J.1 4).toInt ≤ T
def rJ (nw : Bool) (T : Int) (J M : Ob) : Prop := rJb T J ∧ (nw = true → rJc J M ∧ rJo J M ∧ rJe T J M)
/-- bits of a number that is finite -/
def finB (b : Int32) : Prop := ¬ (b &&& 2139095040) = 2139095040
/-- registers, data, stack -/
def rC0 (C : Ob) (r : Nat → Int32) : Prop := (∀ k : Nat, k < 8 → C.2 1 k = r k) ∧ (∀ k : Nat, k < 4 → C.2 2 k = r (8 + k)) ∧ (∀ k : Nat, k < 16 → C.2 3 k = r (40 + k)) ∧ (∀ k : Nat, k < 96 → C.2 4 k = r (56 + k)) ∧ C.1 5 = r 12 ∧ C.1 8 = r 13 ∧ C.1 9 = r 14 ∧ C.1 6 = r 15 ∧ C.1 12 = r 18 ∧ C.1 11 = r 19 ∧ C.1 10 = r 22 ∧ C.1 13 = r 23
def rCb (C : Ob) : Prop := (0 ≤ (C.1 5).toInt ∧ (C.1 5).toInt < 512) ∧ isB (C.1 8) ∧ isB (C.1 9) ∧ (0 ≤ (C.1 6).toInt ∧ (C.1 6).toInt ≤ 96) ∧ isB (C.1 12) ∧ (-1 ≤ (C.1 11).toInt ∧ (C.1 11).toInt ≤ 92) ∧ (0 ≤ (C.1 10).toInt ∧ (C.1 10).toInt ≤ 3) ∧ isB (C.1 13) ∧ (∀ k : Nat, k < 4 → finB (C.2 2 k))
def rC (nw : Bool) (C M : Ob) (r : Nat → Int32) : Prop := rC0 C r ∧ rCb C ∧ (nw = true → C.1 7 = M.2 6 13)
/-- the code -/
def rB (B : Nat → Int32) (M : Ob) : Prop := ∀ k : Nat, k < 512 → B k = M.2 0 k ∧ 0 ≤ (B k).toInt ∧ (B k).toInt < 256
/-- clock, phase, steps -/
def rK (N : Int) (K : Nat → Int32) (r : Nat → Int32) : Prop := (K 4 = r 25 ∧ 0 ≤ (K 4).toInt ∧ (K 4).toInt ≤ N) ∧ K 5 = r 20 ∧ K 6 = r 21 ∧ isB (K 9) ∧ isB (K 10)
/-- flags: who begins, plain, own -/
def sameM (W M : Ob) : Prop := (∀ j : Nat, ¬ j = 5 → M.2 j = W.2 j) ∧ ∀ j : Nat, ¬ j = 16 → M.1 j = W.1 j
theorem sameM_16 {W M : Ob} {v : Int32} (h : sameM W M) : sameM W (si M 16 v) := ⟨h.1, fun j hj => by rw [← h.2 j hj]; exact if_neg hj⟩
def rF (W : Ob) (nw : Bool) (K : Nat → Int32) (M : Ob) : Prop := (K 7 = M.1 16 ∧ (nw = false → sameM W M) ∧ M.1 15 = W.1 15 ∧ okB (M.1 16)) ∧ K 11 = M.1 15 ∧ M.1 14 = (if nw = true then 1 else 0)
/-- all of it, in the midst of a cycle -/
def MID (W : Ob) (nw : Bool) (N T : Int) (K : Nat → Int32) (S A J C : Ob) (B : Nat → Int32) (M : Ob) (r : Nat → Int32) : Prop := rS nw S M r ∧ rA A r ∧ rJ nw T J M ∧ rC nw C M r ∧ rB B M ∧ rK N K r ∧ rF W nw K M
theorem rS0_fr {S M M' : Ob} {r r' : Nat → Int32} (h : rS0 S M r) (e : ∀ k, inS k → r' k = r k) (m3 : M'.1 3 = M.1 3) (m1 : M'.2 1 = M.2 1) (m2 : M'.2 2 = M.2 2) : rS0 S M' r' := by
  obtain ⟨⟨⟨⟨⟨a1, a2⟩, b, c, d, f⟩, K, P, E, Sp⟩, sh, hd⟩, q1, q2, q3, q4, q5, q6⟩ := h
  have i16 : r' 16 = r 16 := e 16 (by unfold inS; omega)
  have i17 : r' 17 = r 17 := e 17 (by unfold inS; omega)
  have i30 : r' 30 = r 30 := e 30 (by unfold inS; omega)
  have i320 : r' 320 = r 320 := e 320 (by unfold inS; omega)
  have a3 := a2.2
  refine ⟨⟨⟨⟨⟨by rw [i30]; exact a1, a2⟩, fun k hk => ?_, fun k hk => ?_, d, by rw [i17]; exact f⟩, K, fun k hk => ?_, fun k hk => ?_, by rw [m3]; exact Sp.1, Sp.2⟩, by rw [i16]; exact sh, by rw [i320]; exact hd⟩, q1, q2, q3, fun k hk => ?_, fun k hk => ?_, fun k hk => ?_⟩
  · rw [e (152 + k) (by unfold inS; omega)]; exact b k hk
  · rw [e (173 + k) (by unfold inS; omega)]; exact c k hk
  · rw [e (194 + k) (by unfold inS; omega)]; exact P k hk
  · rw [m2]; exact E k hk
  · rw [e (300 + k) (by unfold inS; omega)]; exact q4 k hk
  · rw [e (215 + k) (by unfold inS; omega)]; exact q5 k hk
  · rw [m1]; exact q6 k hk
theorem rSo_fr {S M M' : Ob} {r r' : Nat → Int32} (h : rSo S M r) (e : ∀ k, inS k → r' k = r k) (m13 : M'.2 13 = M.2 13) (m12 : M'.2 6 12 = M.2 6 12) (m9 : M'.2 6 9 = M.2 6 9) : rSo S M' r' := by
  obtain ⟨o1, o2, o3, o4, o5⟩ := h
  refine ⟨fun k hk hp => ?_, fun k hk hp => ?_, fun k hk => ?_, by rw [m12]; exact o4, by rw [m9]; exact o5⟩
  · rw [e (194 + k) (by unfold inS; omega)]; exact o1 k hk hp
  · rw [e (321 + k) (by unfold inS; omega)]; exact o2 k hk hp
  · rw [m13]; exact o3 k hk
theorem rS_fr {nw : Bool} {S M M' : Ob} {r r' : Nat → Int32} (h : rS nw S M r) (e : ∀ k, inS k → r' k = r k) (m3 : M'.1 3 = M.1 3) (m1 : M'.2 1 = M.2 1) (m2 : M'.2 2 = M.2 2) (m13 : M'.2 13 = M.2 13) (m12 : M'.2 6 12 = M.2 6 12) (m9 : M'.2 6 9 = M.2 6 9) : rS nw S M' r' :=
  ⟨rS0_fr h.1 e m3 m1 m2, h.2.1, fun hn => rSo_fr (h.2.2 hn) e m13 m12 m9⟩
theorem rS0_S {S S' M : Ob} {r : Nat → Int32} (h : rS0 S M r) (e10 : S'.1 10 = S.1 10) (e12 : S'.1 12 = S.1 12) (e13 : S'.1 13 = S.1 13) (e14 : S'.1 14 = S.1 14) (f0 : S'.2 0 = S.2 0) (f1 : S'.2 1 = S.2 1) (f2 : S'.2 2 = S.2 2) (f3 : S'.2 3 = S.2 3) (f4 : S'.2 4 = S.2 4) (f5 : S'.2 5 = S.2 5) (f9 : S'.2 9 = S.2 9) : rS0 S' M r := by
  unfold rS0 takR nextR limR rkOK at h ⊢
  rw [e10, e12, e13, e14, f0, f1, f2, f3, f4, f5, f9]
  exact h
theorem rSn_S {S S' : Ob} (h : rSn S) (e10 : S'.1 10 = S.1 10) (e12 : S'.1 12 = S.1 12) (f0 : S'.2 0 = S.2 0) (f4 : S'.2 4 = S.2 4) (f9 : S'.2 9 = S.2 9) : rSn S' := by
  unfold rSn grp at h ⊢
  rw [e10, e12, f0, f4, f9]
  exact h
theorem rA_fr {A : Ob} {r r' : Nat → Int32} (h : rA A r) (e : ∀ k, inA k → r' k = r k) : rA A r' := by
  obtain ⟨⟨a1, a2, a3⟩, b, c, d⟩ := h
  refine ⟨⟨by rw [e 31 (by unfold inA; omega)]; exact a1, a2, a3⟩, fun k hk => ?_, by rw [e 26 (by unfold inA; omega)]; exact c, by rw [e 27 (by unfold inA; omega)]; exact d⟩
  rw [e (236 + k) (by unfold inA; omega), e (268 + k) (by unfold inA; omega)]
  exact b k hk
theorem rC_fr {nw : Bool} {C M M' : Ob} {r r' : Nat → Int32} (h : rC nw C M r) (e : ∀ k, inC k → r' k = r k) (m13 : M'.2 6 13 = M.2 6 13) : rC nw C M' r' := by
  obtain ⟨⟨a1, a2, a3, a4, a5, a6, a7, a8, a9, a10, a11, a12⟩, b, c⟩ := h
  refine ⟨⟨fun k hk => ?_, fun k hk => ?_, fun k hk => ?_, fun k hk => ?_, ?_, ?_, ?_, ?_, ?_, ?_, ?_, ?_⟩, b, fun hn => by rw [m13]; exact c hn⟩
  · rw [e k (by unfold inC; omega)]; exact a1 k hk
  · rw [e (8 + k) (by unfold inC; omega)]; exact a2 k hk
  · rw [e (40 + k) (by unfold inC; omega)]; exact a3 k hk
  · rw [e (56 + k) (by unfold inC; omega)]; exact a4 k hk
  · rw [e 12 (by unfold inC; omega)]; exact a5
  · rw [e 13 (by unfold inC; omega)]; exact a6
  · rw [e 14 (by unfold inC; omega)]; exact a7
  · rw [e 15 (by unfold inC; omega)]; exact a8
  · rw [e 18 (by unfold inC; omega)]; exact a9
  · rw [e 19 (by unfold inC; omega)]; exact a10
  · rw [e 22 (by unfold inC; omega)]; exact a11
  · rw [e 23 (by unfold inC; omega)]; exact a12
theorem rB_fr {B : Nat → Int32} {M M' : Ob} (h : rB B M) (m0 : M'.2 0 = M.2 0) : rB B M' := fun k hk => by rw [m0]; exact h k hk
theorem rK_fr {N : Int} {K r r' : Nat → Int32} (h : rK N K r) (e20 : r' 20 = r 20) (e21 : r' 21 = r 21) (e25 : r' 25 = r 25) : rK N K r' := by
  unfold rK
  rw [e20, e21, e25]
  exact h
theorem rF_fr {W : Ob} {nw : Bool} {K K' : Nat → Int32} {M M' : Ob} (h : rF W nw K M) (k7 : K' 7 = K 7) (k11 : K' 11 = K 11) (m14 : M'.1 14 = M.1 14) (m15 : M'.1 15 = M.1 15) (m16 : M'.1 16 = M.1 16) (mw : nw = false → M' = M) : rF W nw K' M' := by
  unfold rF
  rw [k7, k11, m14, m15, m16]
  exact ⟨⟨h.1.1, fun hn => by rw [mw hn]; exact h.1.2.1 hn, h.1.2.2⟩, h.2⟩
theorem rJe_fr {T T' : Int} {J J' M M' : Ob} (h : rJe T J M) (t : T ≤ T') (j3 : J'.1 3 = J.1 3) (j2 : J'.1 2 = J.1 2) (j1 : J'.2 1 = J.2 1) (m11 : M'.1 11 = M.1 11) (m7 : M'.2 7 = M.2 7) (m8 : M'.2 8 = M.2 8) (m9 : M'.2 9 = M.2 9) (m10 : M'.2 10 = M.2 10) : rJe T' J' M' := by
  obtain ⟨e, e1, e2, e3, e4, e5⟩ := h
  refine ⟨e, by rw [m11]; exact e1, by omega, by rw [j3]; exact e3, by rw [j2]; exact e4, ?_⟩
  rw [j1, m7, m8, m9, m10]
  exact e5
theorem rJo_fr {J J' M M' : Ob} (h : rJo J M) (j4 : J'.1 4 = J.1 4) (j0 : J'.2 0 = J.2 0) (m15 : M'.2 6 15 = M.2 6 15) (m12 : M'.2 12 = M.2 12) : rJo J' M' := by
  unfold rJo
  rw [j4, j0, m15, m12]
  exact h
theorem rJ_fr {nw : Bool} {T T' : Int} {J M M' : Ob} (h : rJ nw T J M) (t : T ≤ T') (m6 : ∀ k : Nat, k < 16 → ¬ k = 9 → ¬ k = 12 → ¬ k = 13 → M'.2 6 k = M.2 6 k) (m11 : M'.1 11 = M.1 11) (m7 : M'.2 7 = M.2 7) (m8 : M'.2 8 = M.2 8) (m9 : M'.2 9 = M.2 9) (m10 : M'.2 10 = M.2 10) (m12 : M'.2 12 = M.2 12) : rJ nw T' J M' := by
  obtain ⟨⟨b1, b2⟩, h⟩ := h
  refine ⟨⟨b1, b2.1, by omega⟩, fun hn => ?_⟩
  obtain ⟨hc, ho, he⟩ := h hn
  refine ⟨?_, rJo_fr ho rfl rfl (m6 15 (by omega) (by omega) (by omega) (by omega)) m12, rJe_fr he t rfl rfl rfl m11 m7 m8 m9 m10⟩
  unfold rJc
  rw [m6 1 (by omega) (by omega) (by omega) (by omega), m6 2 (by omega) (by omega) (by omega) (by omega), m6 3 (by omega) (by omega) (by omega) (by omega), m6 4 (by omega) (by omega) (by omega) (by omega), m6 5 (by omega) (by omega) (by omega) (by omega), m6 6 (by omega) (by omega) (by omega) (by omega), m6 7 (by omega) (by omega) (by omega) (by omega), m6 8 (by omega) (by omega) (by omega) (by omega), m6 10 (by omega) (by omega) (by omega) (by omega)]
  exact hc
theorem rJ_mono {nw : Bool} {T T' : Int} {J M : Ob} (h : rJ nw T J M) (t : T ≤ T') : rJ nw T' J M := rJ_fr h t (fun _ _ _ _ _ => rfl) rfl rfl rfl rfl rfl rfl
theorem rK_mono {N N' : Int} {K r : Nat → Int32} (h : rK N K r) (t : N ≤ N') : rK N' K r := ⟨⟨h.1.1, h.1.2.1, Int.le_trans h.1.2.2 t⟩, h.2⟩
