/-! LAYER 2: the reference's ways: what is met -/
def frM (M M' : Ob) : Prop := (∀ j, ¬ j = 23 → ¬ j = 24 → M'.1 j = M.1 j) ∧ ∀ j, j < 18 → M'.2 j = M.2 j
theorem frM_r (M : Ob) : frM M M := ⟨fun _ _ _ => rfl, fun _ _ => rfl⟩
theorem frM_t {M M1 M2 : Ob} (h : frM M M1) (g : frM M1 M2) : frM M M2 := ⟨fun j a b => (g.1 j a b).trans (h.1 j a b), fun j a => (g.2 j a).trans (h.2 j a)⟩
theorem frM_a {M : Ob} {j : Nat} {f : Nat → Int32} (h : 18 ≤ j) : frM M (sa M j f) := ⟨fun _ _ _ => rfl, fun k hk => if_neg (by omega)⟩
theorem sa_e (M : Ob) (j : Nat) (f : Nat → Int32) : (sa M j f).2 j = f := if_pos rfl
theorem sa_n (M : Ob) {j k : Nat} (f : Nat → Int32) (h : ¬ k = j) : (sa M j f).2 k = M.2 k := if_neg h
def codeM (B : Nat → Int32) (T : Ob) : Prop := ∀ k : Nat, k < 512 → T.2 0 k = B k
def hp (T : Ob) (i : Nat) : Nat := (T.2 22 i).toNatClampNeg
def MI (B : Nat → Int32) (s : Nat) (T : Ob) (n : Nat) (F : Nat → Nat) : Prop := (∀ i, i < n → okI (T.2 22 i) 512 ∧ ¬ T.2 18 (hp T i) = 0) ∧ (∀ p, p < 512 → ¬ T.2 18 p = 0 → ∃ i, i < n ∧ hp T i = p) ∧ sumN 512 (fun p => if T.2 18 p = 0 then 0 else 1) = n ∧ (s < 512 ∧ ¬ T.2 18 s = 0) ∧ (∀ q, q < 512 → (T.2 19 q).toInt = (F q : Int)) ∧ (∀ q, q < 512 → ¬ T.2 18 q = 0 → q = s ∨ 1 ≤ F q) ∧ (∀ q, q < 512 → T.2 20 q = 0 ∧ T.2 21 q = 0) ∧ (∀ D : Nat → Prop, D s → clo B D → ∀ p, p < 512 → ¬ T.2 18 p = 0 → D p) ∧ (∀ i j, i < j → j < n → ¬ hp T i = hp T j)
def edgeM (u : Ob) (y2 y5 r : Int32) (K : Int32 → Int32 → Ob → Prop) : Prop := okI r 512 ∧ okI r 512 ∧ ∀ T23 : Ob, T23 = (sa u 19 (upd (u.2 19) (Int32.toNatClampNeg r) (((u.2 19) (Int32.toNatClampNeg r)) + 1))) → okI r 512 ∧ ((((T23.2 18) (Int32.toNatClampNeg r)) = 0 → okI r 512 ∧ ∀ T25 : Ob, T25 = (sa T23 18 (upd (T23.2 18) (Int32.toNatClampNeg r) 1)) → okI y2 512 ∧ ∀ T26 : Ob, T26 = (sa T25 22 (upd (T25.2 22) (Int32.toNatClampNeg y2) r)) → ∀ x27 : Int32, x27 = (y2 + 1) → ∀ x28 : Int32, x28 = (y5 + 1) → K x27 x28 T26) ∧ (¬ ((T23.2 18) (Int32.toNatClampNeg r)) = 0 → ∀ x29 : Int32, x29 = (y5 + 1) → K y2 x29 T23))
/-- what a stretch of meeting keeps -/
def metS (T : Ob) (n : Nat) (T' : Ob) (n' : Nat) : Prop := n ≤ n' ∧ (∀ i, i < n → T'.2 22 i = T.2 22 i) ∧ (∀ q, ¬ T.2 18 q = 0 → ¬ T'.2 18 q = 0) ∧ frM T T' ∧ T'.1 = T.1
theorem metS_t {T T1 T2 : Ob} {n n1 n2 : Nat} (h : metS T n T1 n1) (g : metS T1 n1 T2 n2) : metS T n T2 n2 := ⟨Nat.le_trans h.1 g.1, fun i hi => (g.2.1 i (Nat.lt_of_lt_of_le hi h.1)).trans (h.2.1 i hi), fun q hq => g.2.2.1 q (h.2.2.1 q hq), frM_t h.2.2.2.1 g.2.2.2.1, g.2.2.2.2.trans h.2.2.2.2⟩
theorem met_edge {B : Nat → Int32} {s n p : Nat} {T : Ob} {F : Nat → Nat} {y2 r : Int32} (h : MI B s T n F) (hy : y2.toInt = (n : Int)) (hr : pv r p) (hF : F p ≤ 2000) (hD : ∀ D : Nat → Prop, D s → clo B D → D p) : ∃ (n' : Nat) (y2' : Int32) (T' : Ob), y2'.toInt = (n' : Int) ∧ (∀ (y5 : Int32) (K : Int32 → Int32 → Ob → Prop), K y2' (y5 + 1) T' → edgeM T y2 y5 r K) ∧ MI B s T' n' (fun q => F q + if q = p then 1 else 0) ∧ metS T n T' n' ∧ ¬ T'.2 18 p = 0 := by
  obtain ⟨q1, q2, q3, q4, q5, q6, q7, q8, q9⟩ := h
  have z1 : (1 : Int32).toInt = 1 := rfl
  have hp5 := hr.2
  have d5 : (T.2 19 p + 1).toInt = ((F p + 1 : Nat) : Int) := by
    rw [i_add (by rw [q5 p hp5, z1]; omega) (by rw [q5 p hp5, z1]; omega), q5 p hp5, z1]
    omega
  have deg : ∀ q, q < 512 → (upd (T.2 19) p (T.2 19 p + 1) q).toInt = ((F q + if q = p then 1 else 0 : Nat) : Int) := fun q hq => by
    by_cases c : q = p
    · subst c
      rw [up_eq, d5, if_pos rfl]
    · rw [up_ne c, if_neg c, q5 q hq]
      rfl
  by_cases c : T.2 18 p = 0
  · have hn : n < 512 := by
      rw [← q3]
      refine sum_lt (p := p) (fun k _ => ?_) hp5 (by simp [c])
      by_cases d : T.2 18 k = 0
      · simp [d]
      · simp [d]
    have hy1 : (y2 + 1).toInt = ((n + 1 : Nat) : Int) := by
      rw [i_add (by rw [hy, z1]; omega) (by rw [hy, z1]; omega), hy, z1]
      omega
    have hyn : y2.toNatClampNeg = n := by rw [i_nat, hy]; omega
    have e18 : (sa (sa (sa T 19 (upd (T.2 19) p (T.2 19 p + 1))) 18 (upd (T.2 18) p 1)) 22 (upd (T.2 22) n r)).2 18 = upd (T.2 18) p 1 := rfl
    have e19 : (sa (sa (sa T 19 (upd (T.2 19) p (T.2 19 p + 1))) 18 (upd (T.2 18) p 1)) 22 (upd (T.2 22) n r)).2 19 = upd (T.2 19) p (T.2 19 p + 1) := rfl
    have e20 : (sa (sa (sa T 19 (upd (T.2 19) p (T.2 19 p + 1))) 18 (upd (T.2 18) p 1)) 22 (upd (T.2 22) n r)).2 20 = T.2 20 := rfl
    have e21 : (sa (sa (sa T 19 (upd (T.2 19) p (T.2 19 p + 1))) 18 (upd (T.2 18) p 1)) 22 (upd (T.2 22) n r)).2 21 = T.2 21 := rfl
    have e22 : (sa (sa (sa T 19 (upd (T.2 19) p (T.2 19 p + 1))) 18 (upd (T.2 18) p 1)) 22 (upd (T.2 22) n r)).2 22 = upd (T.2 22) n r := rfl
    have eh0 : ∀ i, ¬ i = n → hp (sa (sa (sa T 19 (upd (T.2 19) p (T.2 19 p + 1))) 18 (upd (T.2 18) p 1)) 22 (upd (T.2 22) n r)) i = hp T i := fun i hi => by
      unfold hp
      rw [e22, up_ne hi]
    have eh1 : hp (sa (sa (sa T 19 (upd (T.2 19) p (T.2 19 p + 1))) 18 (upd (T.2 18) p 1)) 22 (upd (T.2 22) n r)) n = p := by
      unfold hp
      rw [e22, up_eq]
      exact pv_n hr
    have mono : ∀ q, ¬ T.2 18 q = 0 → ¬ upd (T.2 18) p 1 q = 0 := fun q hq => by
      by_cases d : q = p
      · rw [d, up_eq]; decide
      · rw [up_ne d]; exact hq
    have back : ∀ q, ¬ upd (T.2 18) p 1 q = 0 → q = p ∨ ¬ T.2 18 q = 0 := fun q hq => by
      by_cases d : q = p
      · exact Or.inl d
      · rw [up_ne d] at hq; exact Or.inr hq
    refine ⟨n + 1, y2 + 1, sa (sa (sa T 19 (upd (T.2 19) p (T.2 19 p + 1))) 18 (upd (T.2 18) p 1)) 22 (upd (T.2 22) n r), hy1, fun y5 K k => ?_, ⟨fun i hi => ?_, fun q hq hm => ?_, ?_, ⟨q4.1, by rw [e18]; exact mono s q4.2⟩, fun q hq => by rw [e19]; exact deg q hq, fun q hq hm => ?_, fun q hq => by rw [e20, e21]; exact q7 q hq, fun D d1 d2 q hq hm => ?_, fun i j hij hj => ?_⟩, ⟨Nat.le_succ _, fun i hi => by rw [e22, up_ne (by omega)], fun q hq => by rw [e18]; exact mono q hq, frM_t (frM_t (frM_a (by decide)) (frM_a (by decide))) (frM_a (by decide)), rfl⟩, by rw [e18, up_eq]; decide⟩
    · refine ⟨pv_ok hr, pv_ok hr, fun _ e => ?_⟩
      rw [pv_n hr] at e
      subst e
      refine ⟨pv_ok hr, fun _ => ⟨pv_ok hr, fun _ e => ?_⟩, fun d => ?_⟩
      · rw [pv_n hr] at e
        subst e
        refine ⟨ok_iff.mpr (by omega), fun _ e => ?_⟩
        rw [hyn] at e
        subst e
        intro _ e _ e2
        subst e
        subst e2
        exact k
      · rw [pv_n hr] at d
        exact absurd c d
    · by_cases d : i = n
      · subst d
        rw [eh1, e18, e22, up_eq, up_eq]
        exact ⟨pv_ok hr, by decide⟩
      · rw [eh0 i d, e18, e22, up_ne d]
        exact ⟨(q1 i (by omega)).1, mono _ (q1 i (by omega)).2⟩
    · rw [e18] at hm
      rcases back q hm with d | d
      · exact ⟨n, by omega, by rw [eh1, d]⟩
      · obtain ⟨i, hi, e⟩ := q2 q hq d
        exact ⟨i, by omega, by rw [eh0 i (by omega)]; exact e⟩
    · have := sum_one (n := 512) (p := p) (f := fun q => if T.2 18 q = 0 then 0 else 1) (g := fun q => if upd (T.2 18) p 1 q = 0 then 0 else 1) (fun k hk => by show (if _ then _ else _) = _; rw [up_ne hk]) hp5
      simp only [c, up_eq] at this
      rw [q3] at this
      simp at this
      rw [e18]
      exact this
    · rw [e18] at hm
      rcases back q hm with d | d
      · right; show 1 ≤ F q + (if q = p then 1 else 0); rw [if_pos d]; omega
      · rcases q6 q hq d with e | e
        · exact Or.inl e
        · right; exact Nat.le_trans e (Nat.le_add_right _ _)
    · rw [e18] at hm
      rcases back q hm with d | d
      · rw [d]; exact hD D d1 d2
      · exact q8 D d1 d2 q hq d
    · by_cases d : j = n
      · subst d
        rw [eh1, eh0 i (by omega)]
        intro e
        exact (q1 i (by omega)).2 (by rw [e]; exact c)
      · rw [eh0 j d, eh0 i (by omega)]
        exact q9 i j hij (by omega)
  · refine ⟨n, y2, sa T 19 (upd (T.2 19) p (T.2 19 p + 1)), hy, fun y5 K k => ?_, ⟨q1, q2, q3, q4, deg, fun q hq hm => ?_, q7, q8, q9⟩, ⟨Nat.le_refl _, fun _ _ => rfl, fun _ hq => hq, frM_a (by decide), rfl⟩, c⟩
    · refine ⟨pv_ok hr, pv_ok hr, fun _ e => ?_⟩
      rw [pv_n hr] at e
      subst e
      refine ⟨pv_ok hr, fun d => ?_, fun _ _ e => ?_⟩
      · rw [pv_n hr] at d
        exact absurd d c
      · subst e
        exact k
    · rcases q6 q hq hm with e | e
      · exact Or.inl e
      · right
        exact Nat.le_trans e (Nat.le_add_right _ _)
theorem br_1 {B : Nat → Int32} {T : Ob} {x : Int32} {p : Nat} (hT : codeM B T) (hx : pv x p) (h : B p = 12 ∨ B p = 13) {Q : Int32 → Ob → Prop} (q : Q 1 T) : wp_X8_branches T x Q := by
  unfold wp_X8_branches
  rw [pv_n hx, hT p hx.2]
  exact ⟨pv_ok hx, fun _ => q, fun c => ⟨pv_ok hx, fun d => absurd (h.resolve_left c) d, fun _ => q⟩⟩
theorem br_0 {B : Nat → Int32} {T : Ob} {x : Int32} {p : Nat} (hT : codeM B T) (hx : pv x p) (h : ¬ (B p = 12 ∨ B p = 13)) {Q : Int32 → Ob → Prop} (q : Q 0 T) : wp_X8_branches T x Q := by
  unfold wp_X8_branches
  rw [pv_n hx, hT p hx.2]
  exact ⟨pv_ok hx, fun c => absurd (Or.inl c) h, fun _ => ⟨pv_ok hx, fun _ => q, fun c => absurd (Or.inr c) h⟩⟩
theorem go_11 {B : Nat → Int32} {T : Ob} {x w : Int32} {p : Nat} (hB : okC B) (hT : codeM B T) (hx : pv x p) (h : B p = 11) : ∃ r : Int32, pv r (tld B p) ∧ ∀ Q : Int32 → Ob → Prop, Q r T → wp_X8_goesTo T x w Q := by
  have t := told_rem (R := T.2 0) hB hT hx
  refine ⟨_, t.2.2, fun Q q => ?_⟩
  unfold wp_X8_goesTo
  rw [pv_n hx, hT p hx.2]
  exact ⟨pv_ok hx, fun _ => ⟨t.1, t.2.1, q⟩, fun c => absurd h c⟩
theorem go_w1 {B : Nat → Int32} {T : Ob} {x : Int32} {p : Nat} (hB : okC B) (hT : codeM B T) (hx : pv x p) (h : ¬ B p = 11) : ∃ r : Int32, pv r (tld B p) ∧ ∀ Q : Int32 → Ob → Prop, Q r T → wp_X8_goesTo T x 1 Q := by
  have t := told_rem (R := T.2 0) hB hT hx
  refine ⟨_, t.2.2, fun Q q => ?_⟩
  unfold wp_X8_goesTo
  rw [pv_n hx, hT p hx.2]
  exact ⟨pv_ok hx, fun c => absurd c h, fun _ => ⟨fun c => absurd rfl c, fun _ => ⟨t.1, t.2.1, q⟩⟩⟩
theorem go_w0 {B : Nat → Int32} {T : Ob} {x : Int32} {p : Nat} (hB : okC B) (hT : codeM B T) (hx : pv x p) (ho : ¬ opn B p) (h : ¬ B p = 11) : ∃ r : Int32, pv r (bhd B p) ∧ ∀ Q : Int32 → Ob → Prop, Q r T → wp_X8_goesTo T x 0 Q := by
  refine ⟨_, behind_rem hB hx ho, fun Q q => ?_⟩
  unfold wp_X8_goesTo
  rw [pv_n hx, hT p hx.2]
  exact ⟨pv_ok hx, fun c => absurd c h, fun _ => ⟨fun _ => ⟨pv_ok hx, (nop hB hx.2 ho).1, q⟩, fun c => absurd c (by decide)⟩⟩
theorem codeM_fr {B : Nat → Int32} {T T' : Ob} (h : codeM B T) (f : frM T T') : codeM B T' := fun k hk => by rw [f.2 0 (by decide)]; exact h k hk
/-- one way on, or two -/
theorem ways_two {B : Nat → Int32} {p : Nat} (h : ¬ B p = 18) : (¬ (B p = 12 ∨ B p = 13) ∧ ∃ r, sc B p = [r] ∧ (B p = 11 ∧ r = tld B p ∨ ¬ B p = 11 ∧ r = bhd B p)) ∨ ((B p = 12 ∨ B p = 13) ∧ ¬ B p = 11 ∧ sc B p = [bhd B p, tld B p]) := by
  unfold sc
  rw [if_neg h]
  by_cases c : B p = 11
  · rw [if_pos c]
    exact Or.inl ⟨by rw [c]; decide, _, rfl, Or.inl ⟨c, rfl⟩⟩
  · rw [if_neg c]
    by_cases d : B p = 12 ∨ B p = 13
    · rw [if_pos d]
      exact Or.inr ⟨d, c, rfl⟩
    · rw [if_neg d]
      exact Or.inl ⟨d, _, rfl, Or.inr ⟨c, rfl⟩⟩
theorem lc_1 (r q : Nat) : [r].count q = if q = r then 1 else 0 := by
  by_cases c : q = r
  · simp [c]
  · rw [if_neg c, List.count_cons_of_ne (fun z => c z.symm)]; rfl
theorem lc_2 (a b q : Nat) : [a, b].count q = (if q = a then 1 else 0) + if q = b then 1 else 0 := by
  by_cases c : q = a
  · subst c
    rw [List.count_cons_self, lc_1, if_pos rfl]; omega
  · rw [List.count_cons_of_ne (fun z => c z.symm), lc_1, if_neg c]; omega
theorem go_0 {B : Nat → Int32} {T : Ob} {x : Int32} {p r : Nat} (hB : okC B) (hT : codeM B T) (hx : pv x p) (ho : ¬ opn B p) (h : B p = 11 ∧ r = tld B p ∨ ¬ B p = 11 ∧ r = bhd B p) : ∃ y : Int32, pv y r ∧ ∀ Q : Int32 → Ob → Prop, Q y T → wp_X8_goesTo T x 0 Q := by
  rcases h with ⟨a, b⟩ | ⟨a, b⟩
  · rw [b]; exact go_11 hB hT hx a
  · rw [b]; exact go_w0 hB hT hx ho a
theorem met_place {B : Nat → Int32} {s n p : Nat} {T : Ob} {F : Nat → Nat} {x y2 y3 : Int32} (hB : okC B) (hT : codeM B T) (h : MI B s T n F) (hy : y2.toInt = (n : Int)) (hx : pv x p) (hm : ¬ T.2 18 p = 0) (ho : ¬ opn B p) (h18 : ¬ B p = 18) (hF : ∀ q, F q ≤ 1500) : ∃ (n' : Nat) (y2' : Int32) (T' : Ob), y2'.toInt = (n' : Int) ∧ (∀ (Q : Int32 → Ob → Prop) (k61 : Int32 → Int32 → Ob → Prop), k61 y2' (y3 + 1) T' → wp_X8_meets_L128 Q k61 2000 y2 y3 x 0 T) ∧ MI B s T' n' (fun q => F q + (sc B p).count q) ∧ metS T n T' n' ∧ ∀ q, q ∈ sc B p → ¬ T'.2 18 q = 0 := by
  have hD : ∀ q, q ∈ sc B p → ∀ D : Nat → Prop, D s → clo B D → D q := fun q hq D d1 d2 => (d2 p (h.2.2.2.2.2.2.2.1 D d1 d2 p hx.2 hm)).2.2 q hq
  rcases ways_two h18 with ⟨nb, r, er, hr⟩ | ⟨nb, n11, er⟩
  · obtain ⟨y, py, gy⟩ := go_0 hB hT hx ho hr
    obtain ⟨n1, z1, T1, a1, a2, a3, a4, a5⟩ := met_edge h hy py (by have := hF r; omega) (hD r (by rw [er]; simp))
    refine ⟨n1, z1, T1, a1, fun Q k q => ?_, ?_, a4, fun v hv => by rw [er] at hv; simp at hv; rw [hv]; exact a5⟩
    · show wp_X8_meets_L128 Q k (1998 + 1 + 1) y2 y3 x 0 T
      unfold wp_X8_meets_L128
      refine br_0 hT hx nb ⟨fun _ => ⟨fun c => absurd c (by decide), fun _ => gy _ (a2 0 (fun a b U => wp_X8_meets_L128 Q k (1998 + 1) a y3 x b U) ?_)⟩, fun c => absurd rfl c⟩
      show wp_X8_meets_L128 Q k (1998 + 1) z1 y3 x (0 + 1) T1
      unfold wp_X8_meets_L128
      refine br_0 (codeM_fr hT a4.2.2.2.1) hx nb ⟨fun _ => ⟨fun _ _ e => ?_, fun c => absurd (by decide) c⟩, fun c => absurd rfl c⟩
      subst e
      exact q
    · have e : (fun q => F q + (sc B p).count q) = (fun q => F q + if q = r then 1 else 0) := funext fun q => by rw [er, lc_1]
      rw [e]
      exact a3
  · obtain ⟨y, py, gy⟩ := go_w0 hB hT hx ho n11
    obtain ⟨n1, z1, T1, a1, a2, a3, a4, a5⟩ := met_edge h hy py (by have := hF (bhd B p); omega) (hD _ (by rw [er]; simp))
    have hT1 := codeM_fr hT a4.2.2.2.1
    obtain ⟨v, pw, gw⟩ := go_w1 hB hT1 hx n11
    obtain ⟨n2, z2, T2, b1, b2, b3, b4, b5⟩ := met_edge a3 a1 pw (by
      have := hF (tld B p)
      show F (tld B p) + (if _ then 1 else 0) ≤ 2000
      split <;> omega) (hD _ (by rw [er]; simp))
    refine ⟨n2, z2, T2, b1, fun Q k q => ?_, ?_, metS_t a4 b4, fun w hw => ?_⟩
    · show wp_X8_meets_L128 Q k (1997 + 1 + 1 + 1) y2 y3 x 0 T
      unfold wp_X8_meets_L128
      refine br_1 hT hx nb ⟨fun c => absurd c (by decide), fun _ => ⟨fun c => absurd c (by decide), fun _ => gy _ (a2 0 (fun a b U => wp_X8_meets_L128 Q k (1997 + 1 + 1) a y3 x b U) ?_)⟩⟩
      show wp_X8_meets_L128 Q k (1997 + 1 + 1) z1 y3 x 1 T1
      unfold wp_X8_meets_L128
      refine br_1 hT1 hx nb ⟨fun c => absurd c (by decide), fun _ => ⟨fun c => absurd c (by decide), fun _ => gw _ (b2 1 (fun a b U => wp_X8_meets_L128 Q k (1997 + 1) a y3 x b U) ?_)⟩⟩
      show wp_X8_meets_L128 Q k (1997 + 1) z2 y3 x 2 T2
      unfold wp_X8_meets_L128
      refine br_1 (codeM_fr hT1 b4.2.2.2.1) hx nb ⟨fun c => absurd c (by decide), fun _ => ⟨fun _ _ e => ?_, fun c => absurd (by decide) c⟩⟩
      subst e
      exact q
    · have e : (fun q => F q + (sc B p).count q) = (fun q => F q + (if q = bhd B p then 1 else 0) + if q = tld B p then 1 else 0) := funext fun q => by rw [er, lc_2]; omega
      rw [e]
      exact b3
    · rw [er] at hw
      simp at hw
      rcases hw with e | e
      · rw [e]; exact b4.2.2.1 _ a5
      · rw [e]; exact b5
