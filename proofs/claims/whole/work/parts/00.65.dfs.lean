/-! LAYER 2: the class's survey -/
theorem oe_y {B : Nat → Int32} {p : Nat} (h : opn B p) {Q : Int32 → Unit → Prop} (q : Q 1 ()) : wp_X6_isOpenEnd () (B p) Q := by
  unfold wp_X6_isOpenEnd
  refine ⟨fun _ => q, fun c1 => ⟨fun _ => q, fun c2 => ⟨fun c3 => ?_, fun _ => q⟩⟩⟩
  rcases h with h | h | h
  · exact absurd (show B p < 1 by rw [h]; decide) c1
  · exact absurd h c3
  · rw [i_lt] at c2
    rw [i_le] at h
    omega
theorem oe_n {B : Nat → Int32} {p : Nat} (hB : okC B) (hp : p < 512) (h : ¬ opn B p) {Q : Int32 → Unit → Prop} (q : Q 0 ()) : wp_X6_isOpenEnd () (B p) Q := by
  unfold wp_X6_isOpenEnd
  have n := nop hB hp h
  exact ⟨fun c => absurd c n.2.2.2.2.1, fun _ => ⟨fun c => absurd c n.2.2.2.2.2, fun _ => ⟨fun _ => q, fun c => absurd (Or.inr (Or.inl c)) h⟩⟩⟩
theorem cls_behind {B : Nat → Int32} {x : Int32} {p : Nat} (hB : okC B) (hx : pv x p) : ∃ a : Int32, (∀ (X : Ob) (Q : Int32 → (Ob × (Nat → Int32)) → Prop), Q a (X, B) → wp_X6_placeBehind (X, B) x Q) ∧ (a = -1 ∨ okI a 512) ∧ (¬ opn B p → (((B p = 11 ∨ B p = 18) ∧ a = -1) ∨ (¬ (B p = 11 ∨ B p = 18) ∧ pv a (bhd B p)))) := by
  by_cases o : opn B p
  · refine ⟨-1, fun X Q q => ?_, Or.inl rfl, fun h => absurd o h⟩
    unfold wp_X6_placeBehind
    refine ⟨pv_ok hx, fun _ e => ?_⟩
    subst e
    rw [pv_n hx]
    exact oe_y o ⟨fun _ => q, fun c => absurd c (by decide)⟩
  · by_cases c1 : B p = 11
    · refine ⟨-1, fun X Q q => ?_, Or.inl rfl, fun _ => Or.inl ⟨Or.inl c1, rfl⟩⟩
      unfold wp_X6_placeBehind
      refine ⟨pv_ok hx, fun _ e => ?_⟩
      subst e
      rw [pv_n hx]
      exact oe_n hB hx.2 o ⟨fun c => absurd rfl c, fun _ => ⟨fun _ => q, fun c => absurd c1 c⟩⟩
    · by_cases c2 : B p = 18
      · refine ⟨-1, fun X Q q => ?_, Or.inl rfl, fun _ => Or.inl ⟨Or.inr c2, rfl⟩⟩
        unfold wp_X6_placeBehind
        refine ⟨pv_ok hx, fun _ e => ?_⟩
        subst e
        rw [pv_n hx]
        exact oe_n hB hx.2 o ⟨fun c => absurd rfl c, fun _ => ⟨fun _ => q, fun _ => ⟨fun c => absurd c2 c, fun _ => q⟩⟩⟩
      · have hb := behind_and hB hx o
        refine ⟨_, fun X Q q => ?_, Or.inr (pv_ok hb), fun _ => Or.inr ⟨fun z => z.elim c1 c2, hb⟩⟩
        unfold wp_X6_placeBehind
        refine ⟨pv_ok hx, fun _ e => ?_⟩
        subst e
        rw [pv_n hx]
        exact oe_n hB hx.2 o ⟨fun c => absurd rfl c, fun _ => ⟨fun c => absurd c c1, fun _ => ⟨fun _ => ⟨(nop hB hx.2 o).1, q⟩, fun c => absurd c c2⟩⟩⟩
theorem cls_told {B : Nat → Int32} {x : Int32} {p : Nat} (hB : okC B) (hx : pv x p) : ∃ a : Int32, (∀ (X : Ob) (Q : Int32 → (Ob × (Nat → Int32)) → Prop), Q a (X, B) → wp_X6_placeTold (X, B) x Q) ∧ (a = -1 ∨ okI a 512) ∧ ((¬ (B p = 11 ∨ B p = 12 ∨ B p = 13) ∧ a = -1) ∨ ((B p = 11 ∨ B p = 12 ∨ B p = 13) ∧ pv a (tld B p))) := by
  by_cases c1 : B p = 11 ∨ B p = 12 ∨ B p = 13
  · have ht := told_and hB hx
    refine ⟨_, fun X Q q => ?_, Or.inr (pv_ok ht.2.2), Or.inr ⟨c1, ht.2.2⟩⟩
    unfold wp_X6_placeTold
    refine ⟨pv_ok hx, ?_⟩
    rw [pv_n hx]
    refine ⟨fun c => ?_, fun _ => ⟨pv_ok hx, fun _ => ⟨ht.1, ht.2.1, q⟩, fun c => ?_⟩⟩
    · exfalso
      revert c
      rcases c1 with h | h | h <;> (show ¬ B p < 11) <;> rw [h] <;> decide
    · exfalso
      revert c
      rcases c1 with h | h | h <;> (show ¬ ¬ B p ≤ 13) <;> rw [h] <;> decide
  · refine ⟨-1, fun X Q q => ?_, Or.inl rfl, Or.inl ⟨c1, rfl⟩⟩
    unfold wp_X6_placeTold
    refine ⟨pv_ok hx, ?_⟩
    rw [pv_n hx]
    refine ⟨fun _ => q, fun c => ⟨pv_ok hx, fun d => ?_, fun _ => q⟩⟩
    exfalso
    apply c1
    have c' : ¬ B p < 11 := c
    have d' : B p ≤ 13 := d
    rw [i_lt, show (11 : Int32).toInt = 11 from rfl] at c'
    rw [i_le, show (13 : Int32).toInt = 13 from rfl] at d'
    rw [i_eq, i_eq, i_eq, show (11 : Int32).toInt = 11 from rfl, show (12 : Int32).toInt = 12 from rfl, show (13 : Int32).toInt = 13 from rfl]
    omega
theorem sc_class {B : Nat → Int32} {a b : Int32} {p : Nat} (ha : ((B p = 11 ∨ B p = 18) ∧ a = -1) ∨ (¬ (B p = 11 ∨ B p = 18) ∧ pv a (bhd B p))) (hb : (¬ (B p = 11 ∨ B p = 12 ∨ B p = 13) ∧ b = -1) ∨ ((B p = 11 ∨ B p = 12 ∨ B p = 13) ∧ pv b (tld B p))) (q : Nat) : q ∈ sc B p ↔ (¬ a = -1 ∧ q = a.toNatClampNeg) ∨ (¬ b = -1 ∧ q = b.toNatClampNeg) := by
  unfold sc
  have l1 : ¬ (11 : Int32) = 18 := by decide
  have l2 : ¬ (12 : Int32) = 18 := by decide
  have l3 : ¬ (13 : Int32) = 18 := by decide
  have l4 : ¬ (12 : Int32) = 11 := by decide
  have l5 : ¬ (13 : Int32) = 11 := by decide
  rcases ha with ⟨h1, h2⟩ | ⟨h1, h2⟩
  · rcases hb with ⟨k1, k2⟩ | ⟨k1, k2⟩
    · have e : B p = 18 := h1.resolve_left (fun z => k1 (Or.inl z))
      rw [if_pos e]
      simp [h2, k2]
    · have e : B p = 11 := by
        rcases h1 with h | h
        · exact h
        · exfalso
          rcases k1 with k | k | k <;> rw [h] at k <;> revert k <;> decide
      rw [if_neg (by rw [e]; exact l1), if_pos e, pv_n k2]
      simp [h2, pv_m1 k2]
  · have n18 : ¬ B p = 18 := fun z => h1 (Or.inr z)
    have n11 : ¬ B p = 11 := fun z => h1 (Or.inl z)
    rw [if_neg n18, if_neg n11, pv_n h2]
    rcases hb with ⟨k1, k2⟩ | ⟨k1, k2⟩
    · rw [if_neg (fun z => k1 (Or.inr z))]
      simp [k2, pv_m1 h2]
    · rw [if_pos (k1.resolve_left n11), pv_n k2]
      simp [pv_m1 h2, pv_m1 k2]
theorem isM1 {X : Ob} {B : Nat → Int32} {a v : Int32} {Q : Int32 → (Ob × (Nat → Int32)) → Prop} (ha : a = -1 ∨ okI a 512) (h1 : ¬ a = -1) (h2 : X.2 1 a.toNatClampNeg = v) (q : Q 1 (X, B)) : wp_X6_isMarked (X, B) a v Q := by
  unfold wp_X6_isMarked
  exact ⟨fun c => absurd c h1, fun _ => ⟨ha.resolve_left h1, fun c => absurd h2 c, fun _ => q⟩⟩
theorem isM0 {X : Ob} {B : Nat → Int32} {a v : Int32} {Q : Int32 → (Ob × (Nat → Int32)) → Prop} (ha : a = -1 ∨ okI a 512) (h2 : ¬ (¬ a = -1 ∧ X.2 1 a.toNatClampNeg = v)) (q : Q 0 (X, B)) : wp_X6_isMarked (X, B) a v Q := by
  unfold wp_X6_isMarked
  exact ⟨fun _ => q, fun c => ⟨ha.resolve_left c, fun _ => q, fun d => absurd ⟨c, d⟩ h2⟩⟩
def msX (X : Ob) (p : Nat) (cv uv : Int32) : Ob := sa (sa (sa X 5 (upd (X.2 5) p cv)) 6 (upd (X.2 6) p uv)) 1 (upd (X.2 1) p 2)
theorem ms66 {X : Ob} {B : Nat → Int32} {x y5 y6 : Int32} {p : Nat} (hB : okC B) (hx : pv x p) (ho : ¬ opn B p) (h5 : 0 ≤ y5.toInt) (h5' : y5.toInt ≤ 4000) (h6 : 0 ≤ y6.toInt) (h6' : y6.toInt ≤ 4000) : ∃ cv uv : Int32, (∀ Q : (Ob × (Nat → Int32)) → Prop, Q (msX X p cv uv, B) → wp_X6_measure_L66 Q x (B p) y5 y6 (X, B)) ∧ cv.toInt = cC B p + y5.toInt ∧ (uv.toInt = dD B p + y6.toInt ∧ 0 ≤ dD B p + y6.toInt ∨ uv.toInt = 0 ∧ dD B p + y6.toInt ≤ 0) := by
  have n := nop hB hx.2 ho
  have hcv : (y5 + tabC (B p).toNatClampNeg).toInt = cC B p + y5.toInt := by
    have e1 : (tabC (B p).toNatClampNeg).toInt = cC B p := rfl
    rw [i_add (by rw [e1]; omega) (by rw [e1]; omega), e1]
    omega
  have z0 : (0 : Int32).toInt = 0 := rfl
  have z1 : (1 : Int32).toInt = 1 := rfl
  have l1 : ¬ (9 : Int32) = 10 := by decide
  have l2 : ¬ (10 : Int32) = 9 := by decide
  have key : ∀ w : Int32, w.toInt = dD B p + y6.toInt → (if 0 < w then w else 0).toInt = dD B p + y6.toInt ∧ 0 ≤ dD B p + y6.toInt ∨ (if 0 < w then w else 0).toInt = 0 ∧ dD B p + y6.toInt ≤ 0 := by
    intro w hw
    by_cases c : 0 < w
    · rw [if_pos c]
      rw [i_lt, z0] at c
      exact Or.inl ⟨hw, by omega⟩
    · rw [if_neg c]
      rw [i_lt, z0] at c
      exact Or.inr ⟨rfl, by omega⟩
  by_cases c9 : B p = 9
  · have hd : dD B p = 1 := if_pos c9
    have a1 : (y6 + 1).toInt = y6.toInt + 1 := by rw [i_add (by rw [z1]; omega) (by rw [z1]; omega), z1]
    have a2 : (y6 + 1 - 0).toInt = dD B p + y6.toInt := by rw [i_sub (by rw [z0]; omega) (by rw [z0]; omega), a1, z0, hd]; omega
    refine ⟨_, _, fun Q q => ?_, hcv, key _ a2⟩
    unfold wp_X6_measure_L66
    refine oe_n hB hx.2 ho ⟨fun _ => ⟨n.1, ?_⟩, fun c => absurd rfl c⟩
    unfold wp_X6_measure_L91
    refine ⟨pv_ok hx, fun _ e => ?_⟩
    subst e
    refine ⟨fun c => absurd c9 c, fun _ => ⟨fun _ _ e => ?_, fun c => absurd (c9.symm.trans c) l1⟩⟩
    subst e
    refine ⟨pv_ok hx, fun _ e => ?_⟩
    subst e
    refine ⟨pv_ok hx, fun _ e => ?_⟩
    subst e
    rw [pv_n hx]
    exact q
  · by_cases c10 : B p = 10
    · have hd : dD B p = -1 := (if_neg c9).trans (if_pos c10)
      have a1 : (y6 + 0).toInt = y6.toInt := by rw [i_add (by rw [z0]; omega) (by rw [z0]; omega), z0]; omega
      have a2 : (y6 + 0 - 1).toInt = dD B p + y6.toInt := by rw [i_sub (by rw [z1]; omega) (by rw [z1]; omega), a1, z1, hd]; omega
      refine ⟨_, _, fun Q q => ?_, hcv, key _ a2⟩
      unfold wp_X6_measure_L66
      refine oe_n hB hx.2 ho ⟨fun _ => ⟨n.1, ?_⟩, fun c => absurd rfl c⟩
      unfold wp_X6_measure_L91
      refine ⟨pv_ok hx, fun _ e => ?_⟩
      subst e
      refine ⟨fun _ => ⟨fun c => absurd c10 c, fun _ _ e => ?_⟩, fun c => absurd c c9⟩
      subst e
      refine ⟨pv_ok hx, fun _ e => ?_⟩
      subst e
      refine ⟨pv_ok hx, fun _ e => ?_⟩
      subst e
      rw [pv_n hx]
      exact q
    · have hd : dD B p = 0 := (if_neg c9).trans (if_neg c10)
      have a1 : (y6 + 0).toInt = y6.toInt := by rw [i_add (by rw [z0]; omega) (by rw [z0]; omega), z0]; omega
      have a2 : (y6 + 0 - 0).toInt = dD B p + y6.toInt := by rw [i_sub (by rw [z0]; omega) (by rw [z0]; omega), a1, z0, hd]; omega
      refine ⟨_, _, fun Q q => ?_, hcv, key _ a2⟩
      unfold wp_X6_measure_L66
      refine oe_n hB hx.2 ho ⟨fun _ => ⟨n.1, ?_⟩, fun c => absurd rfl c⟩
      unfold wp_X6_measure_L91
      refine ⟨pv_ok hx, fun _ e => ?_⟩
      subst e
      refine ⟨fun _ => ⟨fun _ _ e => ?_, fun c => absurd c c10⟩, fun c => absurd c c9⟩
      subst e
      refine ⟨pv_ok hx, fun _ e => ?_⟩
      subst e
      refine ⟨pv_ok hx, fun _ e => ?_⟩
      subst e
      rw [pv_n hx]
      exact q
/-- the greater of two -/
theorem mx_int (y v : Int32) : ∃ w : Int32, (if y < v then v else y) = w ∧ y.toInt ≤ w.toInt ∧ v.toInt ≤ w.toInt ∧ (w = y ∨ w = v) := by
  by_cases c : y < v
  · rw [if_pos c]
    rw [i_lt] at c
    exact ⟨v, rfl, by omega, by omega, Or.inr rfl⟩
  · rw [if_neg c]
    rw [i_lt] at c
    exact ⟨y, rfl, by omega, by omega, Or.inl rfl⟩
theorem ms35 {X : Ob} {B : Nat → Int32} {x b y5 y6 : Int32} {p : Nat} (hb : b = -1 ∨ okI b 512) (hm : ¬ b = -1 → (0 ≤ (X.2 5 b.toNatClampNeg).toInt ∧ (X.2 5 b.toNatClampNeg).toInt ≤ 4000) ∧ 0 ≤ (X.2 6 b.toNatClampNeg).toInt ∧ (X.2 6 b.toNatClampNeg).toInt ≤ 4000) (h5 : 0 ≤ y5.toInt) (h5' : y5.toInt ≤ 4000) (h6 : 0 ≤ y6.toInt) (h6' : y6.toInt ≤ 4000) : ∃ w5 w6 : Int32, (∀ Q : (Ob × (Nat → Int32)) → Prop, wp_X6_measure_L66 Q x (B p) w5 w6 (X, B) → wp_X6_measure_L35 Q x b (B p) y5 y6 (X, B)) ∧ (0 ≤ w5.toInt ∧ w5.toInt ≤ 4000 ∧ 0 ≤ w6.toInt ∧ w6.toInt ≤ 4000) ∧ y5.toInt ≤ w5.toInt ∧ y6.toInt ≤ w6.toInt ∧ (¬ b = -1 → (X.2 5 b.toNatClampNeg).toInt ≤ w5.toInt ∧ (X.2 6 b.toNatClampNeg).toInt ≤ w6.toInt) ∧ (w5 = y5 ∨ (¬ b = -1 ∧ w5 = X.2 5 b.toNatClampNeg)) ∧ (w6 = y6 ∨ (¬ b = -1 ∧ w6 = X.2 6 b.toNatClampNeg)) := by
  by_cases c : b = -1
  · refine ⟨y5, y6, fun Q q => ?_, ⟨h5, h5', h6, h6'⟩, Int.le_refl _, Int.le_refl _, fun z => absurd c z, Or.inl rfl, Or.inl rfl⟩
    unfold wp_X6_measure_L35
    exact ⟨fun _ => q, fun z => absurd c z⟩
  · obtain ⟨w5, e5, a1, a2, a3⟩ := mx_int y5 (X.2 5 b.toNatClampNeg)
    obtain ⟨w6, e6, b1, b2, b3⟩ := mx_int y6 (X.2 6 b.toNatClampNeg)
    have hm := hm c
    have hok := hb.resolve_left c
    refine ⟨w5, w6, fun Q q => ?_, ⟨by omega, ?_, by omega, ?_⟩, a1, b1, fun _ => ⟨a2, b2⟩, a3.imp id (fun z => ⟨c, z⟩), b3.imp id (fun z => ⟨c, z⟩)⟩
    · unfold wp_X6_measure_L35
      refine ⟨fun z => absurd z c, fun _ => ⟨hok, fun _ e => ?_⟩⟩
      have e' := e.trans e5
      subst e'
      refine ⟨hok, fun _ e => ?_⟩
      have e' := e.trans e6
      subst e'
      exact q
    · rcases a3 with z | z <;> rw [z] <;> omega
    · rcases b3 with z | z <;> rw [z] <;> omega
theorem meas {X : Ob} {B : Nat → Int32} {x a b : Int32} {p : Nat} (hB : okC B) (hx : pv x p) (ho : ¬ opn B p) (ha : a = -1 ∨ okI a 512) (hb : b = -1 ∨ okI b 512) (hm : ∀ q, ((¬ a = -1 ∧ q = a.toNatClampNeg) ∨ (¬ b = -1 ∧ q = b.toNatClampNeg)) → (0 ≤ (X.2 5 q).toInt ∧ (X.2 5 q).toInt ≤ 4000) ∧ 0 ≤ (X.2 6 q).toInt ∧ (X.2 6 q).toInt ≤ 4000) : ∃ cv uv w5 w6 : Int32, (∀ Q : (Ob × (Nat → Int32)) → Prop, Q (msX X p cv uv, B) → wp_X6_measure (X, B) x a b Q) ∧ cv.toInt = cC B p + w5.toInt ∧ (uv.toInt = dD B p + w6.toInt ∧ 0 ≤ dD B p + w6.toInt ∨ uv.toInt = 0 ∧ dD B p + w6.toInt ≤ 0) ∧ (0 ≤ w5.toInt ∧ 0 ≤ w6.toInt) ∧ (∀ q, ((¬ a = -1 ∧ q = a.toNatClampNeg) ∨ (¬ b = -1 ∧ q = b.toNatClampNeg)) → (X.2 5 q).toInt ≤ w5.toInt ∧ (X.2 6 q).toInt ≤ w6.toInt) ∧ (w5 = 0 ∨ ∃ q, ((¬ a = -1 ∧ q = a.toNatClampNeg) ∨ (¬ b = -1 ∧ q = b.toNatClampNeg)) ∧ w5 = X.2 5 q) ∧ (w6 = 0 ∨ ∃ q, ((¬ a = -1 ∧ q = a.toNatClampNeg) ∨ (¬ b = -1 ∧ q = b.toNatClampNeg)) ∧ w6 = X.2 6 q) := by
  have hmb := fun c : ¬ b = -1 => hm b.toNatClampNeg (Or.inr ⟨c, rfl⟩)
  have z0 : (0 : Int32).toInt = 0 := rfl
  by_cases c : a = -1
  · obtain ⟨w5, w6, s1, s2, s3, s4, s5, s6, s7⟩ := ms35 (X := X) (B := B) (x := x) (p := p) (y5 := 0) (y6 := 0) hb hmb (by decide) (by decide) (by decide) (by decide)
    obtain ⟨cv, uv, t1, t2, t3⟩ := ms66 (X := X) hB hx ho s2.1 s2.2.1 s2.2.2.1 s2.2.2.2
    refine ⟨cv, uv, w5, w6, fun Q q => ?_, t2, t3, ⟨s2.1, s2.2.2.1⟩, fun q hq => ?_, ?_, ?_⟩
    · unfold wp_X6_measure
      refine ⟨pv_ok hx, fun _ e => ?_⟩
      subst e
      refine ⟨fun _ => ?_, fun z => absurd c z⟩
      have := s1 Q (t1 Q q)
      rw [pv_n hx]
      exact this
    · rcases hq with hq | hq
      · exact absurd c hq.1
      · rw [hq.2]; exact s5 hq.1
    · exact s6.imp id (fun z => ⟨_, Or.inr ⟨z.1, rfl⟩, z.2⟩)
    · exact s7.imp id (fun z => ⟨_, Or.inr ⟨z.1, rfl⟩, z.2⟩)
  · have hma := hm a.toNatClampNeg (Or.inl ⟨c, rfl⟩)
    obtain ⟨w5, w6, s1, s2, s3, s4, s5, s6, s7⟩ := ms35 (X := X) (B := B) (x := x) (p := p) (y5 := X.2 5 a.toNatClampNeg) (y6 := X.2 6 a.toNatClampNeg) hb hmb hma.1.1 hma.1.2 hma.2.1 hma.2.2
    obtain ⟨cv, uv, t1, t2, t3⟩ := ms66 (X := X) hB hx ho s2.1 s2.2.1 s2.2.2.1 s2.2.2.2
    have hok := ha.resolve_left c
    refine ⟨cv, uv, w5, w6, fun Q q => ?_, t2, t3, ⟨s2.1, s2.2.2.1⟩, fun q hq => ?_, ?_, ?_⟩
    · unfold wp_X6_measure
      refine ⟨pv_ok hx, fun _ e => ?_⟩
      subst e
      refine ⟨fun z => absurd z c, fun _ => ⟨hok, fun _ e => ?_⟩⟩
      subst e
      refine ⟨hok, fun _ e => ?_⟩
      subst e
      have := s1 Q (t1 Q q)
      rw [pv_n hx]
      exact this
    · rcases hq with hq | hq
      · rw [hq.2]; exact ⟨s3, s4⟩
      · rw [hq.2]; exact s5 hq.1
    · exact Or.inr (s6.elim (fun z => ⟨_, Or.inl ⟨c, rfl⟩, z⟩) (fun z => ⟨_, Or.inr ⟨z.1, rfl⟩, z.2⟩))
    · exact Or.inr (s7.elim (fun z => ⟨_, Or.inl ⟨c, rfl⟩, z⟩) (fun z => ⟨_, Or.inr ⟨z.1, rfl⟩, z.2⟩))
