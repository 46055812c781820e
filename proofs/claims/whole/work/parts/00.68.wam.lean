/-! LAYER 2: the reference's ways: a place of its walk -/
theorem dD_lo (B : Nat → Int32) (p : Nat) : -1 ≤ dD B p ∧ dD B p ≤ 1 := by
  unfold dD
  split
  · decide
  · split <;> decide
theorem KI_E {B : Nat → Int32} {s n : Nat} {T : Ob} {F : Nat → Nat} {E E' : Nat → Nat → Prop} {I : Nat → Prop} (h : KI B s T n F E I) (he : ∀ a b, E' a b → E a b) : KI B s T n F E' I := by
  obtain ⟨a1, a2, a3, a4, a5, a6, a7, a8⟩ := h
  refine ⟨a1, a2, a3, a4, a5, a6, a7, fun D c u hg => ?_⟩
  obtain ⟨v1, v2, v3, v4, v5⟩ := a8 D c u hg
  exact ⟨v1, v2, v3, fun a b hab => v4 a b (he a b hab), v5⟩
theorem KI_I {B : Nat → Int32} {s n : Nat} {T : Ob} {F : Nat → Nat} {E : Nat → Nat → Prop} {I I' : Nat → Prop} (h : KI B s T n F E I) (he : ∀ a, I' a → I a) : KI B s T n F E I' := by
  obtain ⟨a1, a2, a3, a4, a5, a6, a7, a8⟩ := h
  refine ⟨a1, a2, a3, a4, a5, a6, a7, fun D c u hg => ?_⟩
  obtain ⟨v1, v2, v3, v4, v5, v6⟩ := a8 D c u hg
  exact ⟨v1, v2, v3, v4, fun a ha => v5 a (he a ha), v6⟩
/-- what is known of a place of the queue -/
theorem KV_at {B : Nat → Int32} {s n i p : Nat} {T : Ob} {E : Nat → Nat → Prop} {I : Nat → Prop} {D : Nat → Prop} {c u : Nat → Int} (hB : okC B) (hgo : good B s D c u) (h : KV B s T n E I c u) (hi : i < n) (e : hp T i = p) (hD : D p) : dr T p + c p ≤ c s ∧ hg T p + u p ≤ u s ∧ 0 ≤ dr T p ∧ 0 ≤ dr T p + hg T p ∧ c s ≤ 4000 ∧ u s ≤ 4000 ∧ cC B p ≤ c p ∧ dD B p ≤ u p ∧ 0 ≤ u p ∧ 1 ≤ cC B p ∧ cC B p < 5 := by
  obtain ⟨v1, v2, v3, v4, v5, v6, v7, v8, v9⟩ := h
  have hm := hgo.2 p hD
  have hms := hgo.2 s hgo.1
  have n := nop hB hm.1 hm.2.1
  have x1 := hms.2.2.2.2.2.2.2.2.1
  have x2 := hms.2.2.2.2.2.2.2.2.2
  have rest : c s ≤ 4000 ∧ u s ≤ 4000 ∧ cC B p ≤ c p ∧ dD B p ≤ u p ∧ 0 ≤ u p ∧ 1 ≤ cC B p ∧ cC B p < 5 := ⟨x1, by omega, hm.2.2.2.1, hm.2.2.2.2.2.1, hm.2.2.2.2.1, n.2.2.1, n.2.2.2.1⟩
  rcases v3 i hi with w | w
  · rw [e] at w
    subst w
    have x1 : dr T p = 0 := by unfold dr; rw [v1.1]; rfl
    have x2 : hg T p = 0 := by unfold hg; rw [v1.2]; rfl
    rw [x1, x2]
    exact ⟨by omega, by omega, by omega, by omega, rest⟩
  · rw [e] at w
    have := v2 p hm.1 w
    exact ⟨this.2.1, this.2.2.1, by omega, this.2.2.2.2, rest⟩
/-- the two numbers that are kept of all -/
def intT (T : Ob) (y6 y7 : Int32) : Ob := (upd (upd T.1 23 (if y6 ≤ T.1 23 then T.1 23 else y6)) 24 (if y7 ≤ T.1 24 then T.1 24 else y7), T.2)
theorem up_id (f : Nat → Int32) (k : Nat) : upd f k (f k) = f := funext fun j => by
  by_cases c : j = k
  · subst c; rw [up_eq]
  · rw [up_ne c]
theorem l146 {T : Ob} {Q : Int32 → Ob → Prop} {k70 : Int32 → Int32 → Int32 → Ob → Prop} {y2 y3 y4 y5 y6 z0 z1 : Int32} (g : okI y5 512 ∧ ((¬ T.2 0 y5.toNatClampNeg = 18 → wp_X8_walks_L200 Q k70 2000 (y2 + (-1)) y3 y4 y5 y6 (z1 + z0) 0 (intT T y6 (z1 + z0))) ∧ (T.2 0 y5.toNatClampNeg = 18 → k70 (y2 + (-1)) y3 (y4 + 1) (intT T y6 (z1 + z0))))) : wp_X8_walks_L146 Q k70 y2 y3 y4 y5 y6 z0 z1 T := by
  unfold wp_X8_walks_L146
  intro x e
  subst e
  have hid := up_id
  refine ⟨fun c1 => ⟨fun c2 => ?_, fun c2 => ?_⟩, fun c1 => ?_⟩
  · have ei : intT T y6 (z1 + z0) = T := by
      unfold intT
      rw [if_pos c1, if_pos c2, hid]
      show (upd T.1 24 (T.1 24), T.2) = T
      rw [hid]
    rw [ei] at g
    intro _ e
    subst e
    exact ⟨g.1, g.2.1, fun c _ e => by subst e; exact g.2.2 c⟩
  · have ei : intT T y6 (z1 + z0) = si T 24 (z1 + z0) := by
      unfold intT
      rw [if_pos c1, if_neg c2, hid]
      rfl
    rw [ei] at g
    intro _ e
    subst e
    intro _ e
    subst e
    exact ⟨g.1, g.2.1, fun c _ e => by subst e; exact g.2.2 c⟩
  · intro _ e
    subst e
    refine ⟨fun c2 => ?_, fun c2 => ?_⟩
    · have c2' : z1 + z0 ≤ T.1 24 := c2
      have ei : intT T y6 (z1 + z0) = si T 23 y6 := by
        unfold intT
        rw [if_neg c1, if_pos c2']
        have := hid (upd T.1 23 y6) 24
        exact congrArg (fun f => (f, T.2)) this
      rw [ei] at g
      intro _ e
      subst e
      exact ⟨g.1, g.2.1, fun c _ e => by subst e; exact g.2.2 c⟩
    · have c2' : ¬ z1 + z0 ≤ T.1 24 := c2
      have ei : intT T y6 (z1 + z0) = si (si T 23 y6) 24 (z1 + z0) := by
        unfold intT
        rw [if_neg c1, if_neg c2']
        rfl
      rw [ei] at g
      intro _ e
      subst e
      intro _ e
      subst e
      exact ⟨g.1, g.2.1, fun c _ e => by subst e; exact g.2.2 c⟩
theorem intT_23 (T : Ob) (y6 y7 : Int32) : (intT T y6 y7).1 23 = if y6 ≤ T.1 23 then T.1 23 else y6 := rfl
theorem intT_24 (T : Ob) (y6 y7 : Int32) : (intT T y6 y7).1 24 = if y7 ≤ T.1 24 then T.1 24 else y7 := rfl
theorem intT_fr (T : Ob) (y6 y7 : Int32) : frM T (intT T y6 y7) := ⟨fun j a b => by
  show upd (upd T.1 23 _) 24 _ j = _
  rw [up_ne b, up_ne a], fun _ _ => rfl⟩
theorem mx32 (y v : Int32) : v.toInt ≤ (if y ≤ v then v else y).toInt ∧ y.toInt ≤ (if y ≤ v then v else y).toInt ∧ ((if y ≤ v then v else y) = v ∨ (if y ≤ v then v else y) = y) := by
  by_cases c : y ≤ v
  · rw [if_pos c]
    rw [i_le] at c
    exact ⟨by omega, by omega, Or.inl rfl⟩
  · rw [if_neg c]
    rw [i_le] at c
    exact ⟨by omega, by omega, Or.inr rfl⟩
theorem KI_int {B : Nat → Int32} {s n i p0 : Nat} {T : Ob} {F : Nat → Nat} {E : Nat → Nat → Prop} {I : Nat → Prop} {y6 y7 : Int32} (hB : okC B) (h : KI B s T n F E I) (hi : i < n) (ei : hp T i = p0) (hgd : ∀ D c u, good B s D c u → D p0 ∧ y6.toInt = dr T p0 + cC B p0 ∧ y7.toInt = hg T p0 + dD B p0) : KI B s (intT T y6 y7) n F E (fun a => I a ∨ a = p0) := by
  obtain ⟨a1, a2, a3, a4, a5, a6, a7, a8⟩ := h
  refine ⟨a1, a2, a3, a4, a5, a6, a7, fun D c u hgo => ?_⟩
  obtain ⟨k1, k2, k3⟩ := hgd D c u hgo
  have kat := KV_at hB hgo (a8 D c u hgo) hi ei k1
  obtain ⟨v1, v2, v3, v4, v5, v6, v7, v8, v9⟩ := a8 D c u hgo
  have m1 := mx32 y6 (T.1 23)
  have m2 := mx32 y7 (T.1 24)
  rw [← intT_23 T y6 y7] at m1
  rw [← intT_24 T y6 y7] at m2
  refine ⟨v1, fun q hq w => ?_, v3, v4, fun a ha => ?_, by omega, ?_, by omega, ?_⟩
  · have := v2 q hq w
    exact ⟨this.1, this.2.1, this.2.2.1, Int.le_trans this.2.2.2.1 m2.1, this.2.2.2.2⟩
  · rcases ha with ha | ha
    · have := v5 a ha
      exact ⟨this.1, Int.le_trans this.2.1 m1.1, Int.le_trans this.2.2 m2.1⟩
    · subst ha
      refine ⟨⟨i, hi, ei⟩, ?_, ?_⟩
      · show dr T a + _ ≤ _; omega
      · show hg T a + _ ≤ _; omega
  · rcases m1.2.2 with e | e
    · rw [e]; exact v7
    · rw [e, k2]; omega
  · rcases m2.2.2 with e | e
    · rw [e]; exact v9
    · rw [e, k3]; omega
/-- all ways from a place -/
theorem walk_ways {B : Nat → Int32} {s n i p0 : Nat} {T : Ob} {un un' : Nat → Nat} {E : Nat → Nat → Prop} {I : Nat → Prop} {x y3 y6 y7 : Int32} (hB : okC B) (hT : codeM B T) (h : KI B s T n (deg B un) E I) (hy3 : y3.toInt = (n : Int)) (hx : pv x p0) (hi : i < n) (ei : hp T i = p0) (ho : ¬ opn B p0) (h18 : ¬ B p0 = 18) (hm : ∀ q, q ∈ sc B p0 → metP T q) (u1 : ∀ p, un' p ≤ 1) (ud : ∀ q, deg B un q = deg B un' q + (sc B p0).count q) (uz : ∀ z, metP T z → un' z = 0 → ∃ i, i < n ∧ hp T i = z) (hgd : ∀ D c u, good B s D c u → D p0 ∧ y6.toInt = dr T p0 + cC B p0 ∧ y7.toInt = hg T p0 + dD B p0 ∧ y7.toInt ≤ (T.1 24).toInt) : ∃ (n' : Nat) (y3' : Int32) (T' : Ob), y3'.toInt = (n' : Int) ∧ (∀ (Q : Int32 → Ob → Prop) (k70 : Int32 → Int32 → Int32 → Ob → Prop) (y2 y4 : Int32), k70 y2 y3' (y4 + 1) T' → wp_X8_walks_L200 Q k70 2000 y2 y3 y4 x y6 y7 0 T) ∧ KI B s T' n' (deg B un') (fun a b => E a b ∨ (a = p0 ∧ b ∈ sc B p0)) I ∧ frM T T' ∧ T'.1 = T.1 ∧ T'.2 18 = T.2 18 ∧ n ≤ n' ∧ (∀ i, i < n → T'.2 22 i = T.2 22 i) := by
  have hZ0 : ∀ Z : Nat → Prop, zed B T Z → ∀ p, deg B un' p = 0 → ¬ Z p := fun Z hz p hd hzp => by
    obtain ⟨_, z, z1, z2⟩ := hz p hzp
    have zm := (hz z z1).1
    by_cases w : un' z = 0
    · obtain ⟨i, hi, e⟩ := uz z zm w
      exact h.2.2.2.2.2.1 Z hz i hi (by rw [e]; exact z1)
    · exact deg_0 hd zm.1 w z2
  have dl := fun q => deg_le (B := B) u1 q
  rcases ways_two h18 with ⟨nb, r, er, hr⟩ | ⟨nb, n11, er⟩
  · obtain ⟨y, py, gy⟩ := go_0 hB hT hx ho hr
    have rin : r ∈ sc B p0 := by rw [er]; simp
    have h' : KI B s T n (fun q => deg B un' q + if q = r then 1 else 0) E I := by
      have e : deg B un = (fun q => deg B un' q + if q = r then 1 else 0) := funext fun q => by rw [ud q, er, lc_1]
      rw [← e]; exact h
    obtain ⟨n1, z1, T1, b1, b2, b3, b4, b5, b6, b7, b8, b9⟩ := walk_edge hB h' py (hm r rin) hy3 (by have := dl r; omega) ⟨i, hi, ei⟩ rin hgd (fun Z hz hd => hZ0 Z hz r hd)
    refine ⟨n1, z1, T1, b1, fun Q k70 y2 y4 k => ?_, KI_E b3 (fun a b hab => hab.imp id (fun ⟨w1, w2⟩ => ⟨w1, by rw [er] at w2; simpa using w2⟩)), b4, b5, b6, b7, b8⟩
    show wp_X8_walks_L200 Q k70 (1998 + 1 + 1) y2 y3 y4 x y6 y7 0 T
    unfold wp_X8_walks_L200
    refine br_0 hT hx nb ⟨fun _ => ?_, fun c => absurd rfl c⟩
    unfold wp_X8_walks_L216
    refine ⟨fun c => absurd c (by decide), fun _ => gy _ (b2 Q k70 (wp_X8_walks_L200 Q k70 (1998 + 1)) y2 y4 x 0 ?_)⟩
    show wp_X8_walks_L200 Q k70 (1998 + 1) y2 z1 y4 x y6 y7 1 T1
    unfold wp_X8_walks_L200
    refine br_0 (codeM_fr hT b4) hx nb ⟨fun _ => ?_, fun c => absurd rfl c⟩
    unfold wp_X8_walks_L216
    exact ⟨fun _ _ e => by subst e; exact k, fun c => absurd (by decide) c⟩
  · obtain ⟨y, py, gy⟩ := go_w0 hB hT hx ho n11
    have rin : bhd B p0 ∈ sc B p0 := by rw [er]; simp
    have tin : tld B p0 ∈ sc B p0 := by rw [er]; simp
    have h' : KI B s T n (fun q => (fun q => deg B un' q + if q = tld B p0 then 1 else 0) q + if q = bhd B p0 then 1 else 0) E I := by
      have e : deg B un = (fun q => (fun q => deg B un' q + if q = tld B p0 then 1 else 0) q + if q = bhd B p0 then 1 else 0) := funext fun q => by rw [ud q, er, lc_2]; simp only []; omega
      rw [← e]; exact h
    obtain ⟨n1, z1, T1, b1, b2, b3, b4, b5, b6, b7, b8, b9, b10⟩ := walk_edge hB h' py (hm _ rin) hy3 (by
      have := dl (bhd B p0)
      show deg B un' (bhd B p0) + (if _ then 1 else 0) ≤ 2000
      split <;> omega) ⟨i, hi, ei⟩ rin hgd (fun Z hz hd => hZ0 Z hz _ (by
      have hd' : deg B un' (bhd B p0) + (if bhd B p0 = tld B p0 then 1 else 0) = 0 := hd
      omega))
    have hT1 := codeM_fr hT b4
    have mE : metP T1 = metP T := funext fun q => by unfold metP; rw [b6]
    obtain ⟨v, pw, gw⟩ := go_w1 hB hT1 hx n11
    have ei1 : hp T1 i = p0 := by unfold hp; rw [b8 i hi]; exact ei
    obtain ⟨n2, z2, T2, d1, d2, d3, d4, d5, d6, d7, d8, d9⟩ := walk_edge hB b3 pw (by rw [mE]; exact hm _ tin) b1 (by have := dl (tld B p0); omega) ⟨i, by omega, ei1⟩ tin (fun D c u hgo => by
      obtain ⟨k1, k2, k3, k4⟩ := hgd D c u hgo
      unfold dr hg
      rw [b9, b10, b5]
      exact ⟨k1, k2, k3, k4⟩) (fun Z hz hd => hZ0 Z (by unfold zed at hz ⊢; rw [mE] at hz; exact hz) _ hd)
    refine ⟨n2, z2, T2, d1, fun Q k70 y2 y4 k => ?_, KI_E d3 (fun a b hab => ?_), frM_t b4 d4, d5.trans b5, d6.trans b6, Nat.le_trans b7 d7, fun i hi => (d8 i (by omega)).trans (b8 i hi)⟩
    · show wp_X8_walks_L200 Q k70 (1997 + 1 + 1 + 1) y2 y3 y4 x y6 y7 0 T
      unfold wp_X8_walks_L200
      refine br_1 hT hx nb ⟨fun c => absurd c (by decide), fun _ => ?_⟩
      unfold wp_X8_walks_L216
      refine ⟨fun c => absurd c (by decide), fun _ => gy _ (b2 Q k70 (wp_X8_walks_L200 Q k70 (1997 + 1 + 1)) y2 y4 x 0 ?_)⟩
      show wp_X8_walks_L200 Q k70 (1997 + 1 + 1) y2 z1 y4 x y6 y7 1 T1
      unfold wp_X8_walks_L200
      refine br_1 hT1 hx nb ⟨fun c => absurd c (by decide), fun _ => ?_⟩
      unfold wp_X8_walks_L216
      refine ⟨fun c => absurd c (by decide), fun _ => gw _ (d2 Q k70 (wp_X8_walks_L200 Q k70 (1997 + 1)) y2 y4 x 1 ?_)⟩
      show wp_X8_walks_L200 Q k70 (1997 + 1) y2 z2 y4 x y6 y7 2 T2
      unfold wp_X8_walks_L200
      refine br_1 (codeM_fr hT1 d4) hx nb ⟨fun c => absurd c (by decide), fun _ => ?_⟩
      unfold wp_X8_walks_L216
      exact ⟨fun _ _ e => by subst e; exact k, fun c => absurd (by decide) c⟩
    · rcases hab with hab | ⟨w1, w2⟩
      · exact Or.inl (Or.inl hab)
      · rw [er] at w2
        simp at w2
        rcases w2 with w2 | w2
        · exact Or.inl (Or.inr ⟨w1, w2⟩)
        · exact Or.inr ⟨w1, w2⟩
