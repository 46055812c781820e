/-! LAYER 2: the reference's ways: a step of its walk -/
/-- what one way does to the rows -/
theorem edge_raw {T : Ob} {p n : Nat} {r y3 y6 y7 : Int32} (hr : pv r p) (hy3 : y3.toInt = (n : Int)) (hn : T.2 19 p - 1 ≤ 0 → n < 512) : ∃ (n' : Nat) (y3' : Int32) (T' : Ob), y3'.toInt = (n' : Int) ∧ (∀ (Q : Int32 → Ob → Prop) (k70 : Int32 → Int32 → Int32 → Ob → Prop) (k200 : Int32 → Int32 → Int32 → Int32 → Int32 → Int32 → Int32 → Ob → Prop) (y2 y4 y5 y8 : Int32), k200 y2 y3' y4 y5 y6 y7 (y8 + 1) T' → (okI r 512 ∧ ((((T.2 20) (Int32.toNatClampNeg r)) = 0 → wp_X8_walks_L251 Q (k70) (k200) y2 y3 y4 y5 y6 y7 y8 r T) ∧ (¬ ((T.2 20) (Int32.toNatClampNeg r)) = 0 → okI r 512 ∧ ((y7 ≤ ((T.2 21) (Int32.toNatClampNeg r)) → wp_X8_walks_L260 Q (k70) (k200) y2 y3 y4 y5 y6 y7 y8 r T) ∧ (¬ y7 ≤ ((T.2 21) (Int32.toNatClampNeg r)) → wp_X8_walks_L251 Q (k70) (k200) y2 y3 y4 y5 y6 y7 y8 r T)))))) ∧ frM T T' ∧ T'.1 = T.1 ∧ T'.2 18 = T.2 18 ∧ T'.2 19 = upd (T.2 19) p (T.2 19 p - 1) ∧ T'.2 20 = upd (T.2 20) p (if y6 ≤ T.2 20 p then T.2 20 p else y6) ∧ T'.2 21 = upd (T.2 21) p (if T.2 20 p = 0 ∨ ¬ y7 ≤ T.2 21 p then y7 else T.2 21 p) ∧ ((T.2 19 p - 1 ≤ 0 ∧ n' = n + 1 ∧ T'.2 22 = upd (T.2 22) n r) ∨ (¬ T.2 19 p - 1 ≤ 0 ∧ n' = n ∧ T'.2 22 = T.2 22)) := by
  have z1 : (1 : Int32).toInt = 1 := rfl
  have h3n : y3.toNatClampNeg = n := by rw [i_nat, hy3]; omega
  have hid : ∀ (f : Nat → Int32) (k : Nat), upd f k (f k) = f := fun f k => funext fun j => by
    by_cases c : j = k
    · subst c; rw [up_eq]
    · rw [up_ne c]
  -- from L260 on
  have key : ∀ U : Ob, U.1 = T.1 → frM T U → U.2 18 = T.2 18 → U.2 19 = T.2 19 → U.2 20 = T.2 20 → U.2 22 = T.2 22 → ∃ (n' : Nat) (y3' : Int32) (T' : Ob), y3'.toInt = (n' : Int) ∧ (∀ (Q : Int32 → Ob → Prop) (k70 : Int32 → Int32 → Int32 → Ob → Prop) (k200 : Int32 → Int32 → Int32 → Int32 → Int32 → Int32 → Int32 → Ob → Prop) (y2 y4 y5 y8 : Int32), k200 y2 y3' y4 y5 y6 y7 (y8 + 1) T' → wp_X8_walks_L260 Q (k70) (k200) y2 y3 y4 y5 y6 y7 y8 r U) ∧ frM T T' ∧ T'.1 = T.1 ∧ T'.2 18 = T.2 18 ∧ T'.2 19 = upd (T.2 19) p (T.2 19 p - 1) ∧ T'.2 20 = upd (T.2 20) p (if y6 ≤ T.2 20 p then T.2 20 p else y6) ∧ T'.2 21 = U.2 21 ∧ ((T.2 19 p - 1 ≤ 0 ∧ n' = n + 1 ∧ T'.2 22 = upd (T.2 22) n r) ∨ (¬ T.2 19 p - 1 ≤ 0 ∧ n' = n ∧ T'.2 22 = T.2 22)) := by
    intro U u1 uf u18 u19 u20 u22
    -- the dearer way
    have h20 : ∃ V : Ob, V.1 = T.1 ∧ frM T V ∧ V.2 18 = T.2 18 ∧ V.2 19 = T.2 19 ∧ V.2 20 = upd (T.2 20) p (if y6 ≤ T.2 20 p then T.2 20 p else y6) ∧ V.2 21 = U.2 21 ∧ V.2 22 = T.2 22 ∧ ∀ (Q : Int32 → Ob → Prop) (k70 : Int32 → Int32 → Int32 → Ob → Prop) (k200 : Int32 → Int32 → Int32 → Int32 → Int32 → Int32 → Int32 → Ob → Prop) (y2 y4 y5 y8 : Int32), (okI r 512 ∧ okI r 512 ∧ ∀ T49 : Ob, T49 = (sa V 19 (upd (V.2 19) (Int32.toNatClampNeg r) (((V.2 19) (Int32.toNatClampNeg r)) - 1))) → okI r 512 ∧ ((((T49.2 19) (Int32.toNatClampNeg r)) ≤ 0 → okI y3 512 ∧ ∀ T51 : Ob, T51 = (sa T49 22 (upd (T49.2 22) (Int32.toNatClampNeg y3) r)) → ∀ x52 : Int32, x52 = (y3 + 1) → ∀ x53 : Int32, x53 = (y8 + 1) → k200 y2 x52 y4 y5 y6 y7 x53 T51) ∧ (¬ ((T49.2 19) (Int32.toNatClampNeg r)) ≤ 0 → ∀ x54 : Int32, x54 = (y8 + 1) → k200 y2 y3 y4 y5 y6 y7 x54 T49))) → wp_X8_walks_L260 Q (k70) (k200) y2 y3 y4 y5 y6 y7 y8 r U := by
      by_cases c : y6 ≤ T.2 20 p
      · refine ⟨U, u1, uf, u18, u19, by rw [u20, if_pos c, hid], rfl, u22, fun Q k70 k200 y2 y4 y5 y8 g => ?_⟩
        unfold wp_X8_walks_L260
        refine ⟨pv_ok hr, fun _ => g, fun d => ?_⟩
        rw [u20, pv_n hr] at d
        exact absurd c d
      · refine ⟨sa U 20 (upd (U.2 20) p y6), u1, frM_t uf (frM_a (by decide)), u18, u19, by rw [sa_e, u20, if_neg c], rfl, u22, fun Q k70 k200 y2 y4 y5 y8 g => ?_⟩
        unfold wp_X8_walks_L260
        refine ⟨pv_ok hr, fun d => ?_, fun _ => ⟨pv_ok hr, fun _ e => ?_⟩⟩
        · rw [u20, pv_n hr] at d
          exact absurd d c
        · rw [pv_n hr] at e
          subst e
          exact g
    obtain ⟨V, v1, vf, v18, v19, v20, v21, v22, vg⟩ := h20
    by_cases c : T.2 19 p - 1 ≤ 0
    · have hn5 := hn c
      refine ⟨n + 1, y3 + 1, sa (sa V 19 (upd (V.2 19) p (V.2 19 p - 1))) 22 (upd (V.2 22) n r), ?_, fun Q k70 k200 y2 y4 y5 y8 k => vg Q k70 k200 y2 y4 y5 y8 ⟨pv_ok hr, pv_ok hr, fun _ e => ?_⟩, frM_t (frM_t vf (frM_a (by decide))) (frM_a (by decide)), v1, v18, by show upd (V.2 19) p (V.2 19 p - 1) = _; rw [v19], v20, v21, Or.inl ⟨c, rfl, by rw [sa_e, v22]⟩⟩
      · rw [i_add (by rw [hy3, z1]; omega) (by rw [hy3, z1]; omega), hy3, z1]
        omega
      · rw [pv_n hr] at e
        subst e
        refine ⟨pv_ok hr, fun _ => ⟨ok_iff.mpr (by omega), fun _ e => ?_⟩, fun d => ?_⟩
        · rw [h3n] at e
          subst e
          intro _ e _ e2
          subst e
          subst e2
          exact k
        · rw [pv_n hr, sa_e, up_eq, v19] at d
          exact absurd c d
    · refine ⟨n, y3, sa V 19 (upd (V.2 19) p (V.2 19 p - 1)), hy3, fun Q k70 k200 y2 y4 y5 y8 k => vg Q k70 k200 y2 y4 y5 y8 ⟨pv_ok hr, pv_ok hr, fun _ e => ?_⟩, frM_t vf (frM_a (by decide)), v1, v18, by rw [sa_e, v19], v20, v21, Or.inr ⟨c, rfl, v22⟩⟩
      rw [pv_n hr] at e
      subst e
      refine ⟨pv_ok hr, fun d => ?_, fun _ _ e => ?_⟩
      · rw [pv_n hr, sa_e, up_eq, v19] at d
        exact absurd d c
      · subst e
        exact k
  by_cases c0 : T.2 20 p = 0 ∨ ¬ y7 ≤ T.2 21 p
  · obtain ⟨n', y3', T', g1, g2, g3, g4, g5, g6, g7, g8, g9⟩ := key (sa T 21 (upd (T.2 21) p y7)) rfl (frM_a (by decide)) rfl rfl rfl rfl
    have l251 : ∀ (Q : Int32 → Ob → Prop) (k70 : Int32 → Int32 → Int32 → Ob → Prop) (k200 : Int32 → Int32 → Int32 → Int32 → Int32 → Int32 → Int32 → Ob → Prop) (y2 y4 y5 y8 : Int32), k200 y2 y3' y4 y5 y6 y7 (y8 + 1) T' → wp_X8_walks_L251 Q (k70) (k200) y2 y3 y4 y5 y6 y7 y8 r T := by
      intro Q k70 k200 y2 y4 y5 y8 k
      unfold wp_X8_walks_L251
      refine ⟨pv_ok hr, fun _ e => ?_⟩
      rw [pv_n hr] at e
      subst e
      exact g2 Q k70 k200 y2 y4 y5 y8 k
    refine ⟨n', y3', T', g1, fun Q k70 k200 y2 y4 y5 y8 k => ⟨pv_ok hr, fun _ => l251 Q k70 k200 y2 y4 y5 y8 k, fun d => ⟨pv_ok hr, fun d2 => ?_, fun _ => l251 Q k70 k200 y2 y4 y5 y8 k⟩⟩, g3, g4, g5, g6, g7, by rw [g8, sa_e, if_pos c0], g9⟩
    rw [pv_n hr] at d d2
    exact absurd d2 (c0.resolve_left d)
  · obtain ⟨n', y3', T', g1, g2, g3, g4, g5, g6, g7, g8, g9⟩ := key T rfl (frM_r T) rfl rfl rfl rfl
    refine ⟨n', y3', T', g1, fun Q k70 k200 y2 y4 y5 y8 k => ⟨pv_ok hr, fun d => ?_, fun d => ⟨pv_ok hr, fun _ => g2 Q k70 k200 y2 y4 y5 y8 k, fun d2 => ?_⟩⟩, g3, g4, g5, g6, g7, by rw [g8, if_neg c0, hid], g9⟩
    · rw [pv_n hr] at d
      exact absurd (Or.inl d) c0
    · rw [pv_n hr] at d2
      exact absurd (Or.inr d2) c0
def zed (B : Nat → Int32) (T : Ob) (Z : Nat → Prop) : Prop := ∀ z, Z z → metP T z ∧ ∃ p, Z p ∧ z ∈ sc B p
def dr (T : Ob) (q : Nat) : Int := (T.2 20 q).toInt
def hg (T : Ob) (q : Nat) : Int := (T.2 21 q).toInt
def KV (B : Nat → Int32) (s : Nat) (T : Ob) (n : Nat) (E : Nat → Nat → Prop) (I : Nat → Prop) (c u : Nat → Int) : Prop := (T.2 20 s = 0 ∧ T.2 21 s = 0) ∧ (∀ q, q < 512 → ¬ T.2 20 q = 0 → 1 ≤ dr T q ∧ dr T q + c q ≤ c s ∧ hg T q + u q ≤ u s ∧ hg T q ≤ (T.1 24).toInt ∧ 0 ≤ dr T q + hg T q) ∧ (∀ i, i < n → hp T i = s ∨ ¬ T.2 20 (hp T i) = 0) ∧ (∀ a b, E a b → (∃ i, i < n ∧ hp T i = a) ∧ 1 ≤ cC B a ∧ dr T a + cC B a ≤ dr T b ∧ hg T a + dD B a ≤ hg T b) ∧ (∀ a, I a → (∃ i, i < n ∧ hp T i = a) ∧ dr T a + cC B a ≤ (T.1 23).toInt ∧ hg T a + dD B a ≤ (T.1 24).toInt) ∧ 0 ≤ (T.1 23).toInt ∧ (T.1 23).toInt ≤ c s ∧ 0 ≤ (T.1 24).toInt ∧ (T.1 24).toInt ≤ u s
def KI (B : Nat → Int32) (s : Nat) (T : Ob) (n : Nat) (F : Nat → Nat) (E : Nat → Nat → Prop) (I : Nat → Prop) : Prop := (∀ i, i < n → okI (T.2 22 i) 512 ∧ metP T (hp T i) ∧ F (hp T i) = 0) ∧ (∀ q, metP T q → F q = 0 → ∃ i, i < n ∧ hp T i = q) ∧ (∀ q, q < 512 → (T.2 19 q).toInt = (F q : Int)) ∧ sumN 512 (fun q => if T.2 18 q = 0 then 0 else if F q = 0 then 1 else 0) = n ∧ (∀ i j, i < j → j < n → ¬ hp T i = hp T j) ∧ (∀ Z : Nat → Prop, zed B T Z → ∀ i, i < n → ¬ Z (hp T i)) ∧ (metP T s ∧ F s = 0) ∧ (∀ D c u, good B s D c u → KV B s T n E I c u)
theorem good_clo {B : Nat → Int32} {s : Nat} {D : Nat → Prop} {c u : Nat → Int} (h : good B s D c u) : clo B D := fun p hp => ⟨(h.2 p hp).1, (h.2 p hp).2.1, fun q hq => ((h.2 p hp).2.2.1 q hq).1⟩
theorem walk_edge {B : Nat → Int32} {s p p0 n : Nat} {T : Ob} {G : Nat → Nat} {E : Nat → Nat → Prop} {I : Nat → Prop} {r y3 y6 y7 : Int32} (hB : okC B) (h : KI B s T n (fun q => G q + if q = p then 1 else 0) E I) (hr : pv r p) (hm : metP T p) (hy3 : y3.toInt = (n : Int)) (hG : G p ≤ 2000) (hin : ∃ i, i < n ∧ hp T i = p0) (hpp : p ∈ sc B p0) (hgd : ∀ D c u, good B s D c u → D p0 ∧ y6.toInt = dr T p0 + cC B p0 ∧ y7.toInt = hg T p0 + dD B p0 ∧ y7.toInt ≤ (T.1 24).toInt) (hZ : ∀ Z : Nat → Prop, zed B T Z → G p = 0 → ¬ Z p) : ∃ (n' : Nat) (y3' : Int32) (T' : Ob), y3'.toInt = (n' : Int) ∧ (∀ (Q : Int32 → Ob → Prop) (k70 : Int32 → Int32 → Int32 → Ob → Prop) (k200 : Int32 → Int32 → Int32 → Int32 → Int32 → Int32 → Int32 → Ob → Prop) (y2 y4 y5 y8 : Int32), k200 y2 y3' y4 y5 y6 y7 (y8 + 1) T' → (okI r 512 ∧ ((((T.2 20) (Int32.toNatClampNeg r)) = 0 → wp_X8_walks_L251 Q (k70) (k200) y2 y3 y4 y5 y6 y7 y8 r T) ∧ (¬ ((T.2 20) (Int32.toNatClampNeg r)) = 0 → okI r 512 ∧ ((y7 ≤ ((T.2 21) (Int32.toNatClampNeg r)) → wp_X8_walks_L260 Q (k70) (k200) y2 y3 y4 y5 y6 y7 y8 r T) ∧ (¬ y7 ≤ ((T.2 21) (Int32.toNatClampNeg r)) → wp_X8_walks_L251 Q (k70) (k200) y2 y3 y4 y5 y6 y7 y8 r T)))))) ∧ KI B s T' n' G (fun a b => E a b ∨ (a = p0 ∧ b = p)) I ∧ frM T T' ∧ T'.1 = T.1 ∧ T'.2 18 = T.2 18 ∧ n ≤ n' ∧ (∀ i, i < n → T'.2 22 i = T.2 22 i) ∧ T'.2 20 p0 = T.2 20 p0 ∧ T'.2 21 p0 = T.2 21 p0 := by
  obtain ⟨a1, a2, a3, a4, a5, a6, a7, a8⟩ := h
  have z0 : (0 : Int32).toInt = 0 := rfl
  have z1 : (1 : Int32).toInt = 1 := rfl
  have hp5 := hr.2
  have d0 : (T.2 19 p).toInt = ((G p + 1 : Nat) : Int) := by rw [a3 p hp5]; simp
  have d1 : (T.2 19 p - 1).toInt = (G p : Int) := by
    rw [i_sub (by rw [d0, z1]; omega) (by rw [d0, z1]; omega), d0, z1]
    omega
  have hle : T.2 19 p - 1 ≤ 0 ↔ G p = 0 := by rw [i_le, d1, z0]; omega
  have Fq : ∀ i, i < n → ¬ hp T i = p := fun i hi e => by
    have := (a1 i hi).2.2
    rw [e] at this
    simp at this
  have hn5 : n < 512 := by
    rw [← a4]
    refine sum_lt (p := p) (fun k _ => ?_) hp5 ?_
    · by_cases c : T.2 18 k = 0
      · simp [c]
      · rw [if_neg c]; split
        · exact Nat.le_refl _
        · exact Nat.zero_le _
    · simp
  have hp0 : ¬ p0 = p := by
    obtain ⟨i, hi, e⟩ := hin
    rw [← e]; exact Fq i hi
  have hsp : ¬ s = p := fun e => by
    have := a7.2
    rw [e] at this
    simp at this
  obtain ⟨n', y3', T', g1, g2, g3, g4, g5, g6, g7, g8, g9⟩ := edge_raw (T := T) (y6 := y6) (y7 := y7) hr hy3 (fun _ => hn5)
  have q22 : ∀ i, i < n → T'.2 22 i = T.2 22 i := fun i hi => by
    rcases g9 with ⟨_, _, e⟩ | ⟨_, _, e⟩
    · rw [e, up_ne (by omega)]
    · rw [e]
  have qh : ∀ i, i < n → hp T' i = hp T i := fun i hi => by unfold hp; rw [q22 i hi]
  have hnn : n ≤ n' := by rcases g9 with ⟨_, e, _⟩ | ⟨_, e, _⟩ <;> omega
  have mP : ∀ q, metP T' q ↔ metP T q := fun q => by unfold metP; rw [g5]
  have mE : metP T' = metP T := funext fun q => propext (mP q)
  have zE : ∀ Z, zed B T' Z ↔ zed B T Z := fun Z => by unfold zed; rw [mE]
  -- the new one of the queue
  have newq : ∀ i, n ≤ i → i < n' → i = n ∧ G p = 0 ∧ T'.2 22 i = r ∧ hp T' i = p := fun i h1 h2 => by
    rcases g9 with ⟨c, e, w⟩ | ⟨c, e, w⟩
    · have ei : i = n := by omega
      subst ei
      have w' : T'.2 22 i = r := by rw [w, up_eq]
      exact ⟨rfl, hle.mp c, w', by unfold hp; rw [w']; exact pv_n hr⟩
    · omega
  have r20 : ∀ q, ¬ q = p → T'.2 20 q = T.2 20 q := fun q hq => by rw [g7, up_ne hq]
  have r21 : ∀ q, ¬ q = p → T'.2 21 q = T.2 21 q := fun q hq => by rw [g8, up_ne hq]
  have e20 : T'.2 20 p = if y6 ≤ T.2 20 p then T.2 20 p else y6 := by rw [g7, up_eq]
  have e21 : T'.2 21 p = if T.2 20 p = 0 ∨ ¬ y7 ≤ T.2 21 p then y7 else T.2 21 p := by rw [g8, up_eq]
  refine ⟨n', y3', T', g1, g2, ⟨fun i hi => ?_, fun q hq hz => ?_, fun q hq => ?_, ?_, fun i j hij hj => ?_, fun Z hz i hi => ?_, ⟨(mP s).mpr a7.1, ?_⟩, fun D c u hgo => ?_⟩, g3, g4, g5, hnn, q22, r20 p0 hp0, r21 p0 hp0⟩
  · by_cases w : i < n
    · rw [qh i w, q22 i w]
      have := a1 i w
      exact ⟨this.1, (mP _).mpr this.2.1, by have t := this.2.2; simp only at t; omega⟩
    · obtain ⟨_, w2, w3, w4⟩ := newq i (by omega) hi
      rw [w4, w3]
      exact ⟨pv_ok hr, (mP _).mpr hm, w2⟩
  · by_cases w : q = p
    · subst w
      rcases g9 with ⟨c, e, w⟩ | ⟨c, e, w⟩
      · exact ⟨n, by omega, by unfold hp; rw [w, up_eq]; exact pv_n hr⟩
      · exact absurd (hle.mpr hz) c
    · obtain ⟨i, hi, e⟩ := a2 q ((mP q).mp hq) (by simp only [if_neg w]; exact hz)
      exact ⟨i, by omega, by rw [qh i hi]; exact e⟩
  · rw [g6]
    by_cases w : q = p
    · subst w; rw [up_eq]; exact d1
    · rw [up_ne w, a3 q hq]; simp [w]
  · have := sum_one (n := 512) (p := p) (f := fun q => if T.2 18 q = 0 then 0 else if (G q + if q = p then 1 else 0) = 0 then 1 else 0) (g := fun q => if T'.2 18 q = 0 then 0 else if G q = 0 then 1 else 0) (fun k hk => by show (if _ then _ else _) = _; rw [g5]; simp only [if_neg hk, Nat.add_zero]) hp5
    rw [a4] at this
    simp only [g5, if_neg hm.2, if_pos] at this
    simp at this
    rw [g5]
    rcases g9 with ⟨c, e, _⟩ | ⟨c, e, _⟩
    · rw [if_pos (hle.mp c)] at this; omega
    · rw [if_neg (fun z => c (hle.mpr z))] at this; omega
  · by_cases w : j < n
    · rw [qh j w, qh i (by omega)]
      exact a5 i j hij w
    · obtain ⟨w1, w2, w3, w4⟩ := newq j (by omega) hj
      rw [w4, qh i (by omega)]
      exact Fq i (by omega)
  · have hz' := (zE Z).mp hz
    by_cases w : i < n
    · rw [qh i w]; exact a6 Z hz' i w
    · obtain ⟨w1, w2, w3, w4⟩ := newq i (by omega) hi
      rw [w4]
      exact hZ Z hz' w2
  · have := a7.2
    simp only [if_neg hsp] at this
    exact this
  · obtain ⟨v1, v2, v3, v4, v5, v6, v7, v8, v9⟩ := a8 D c u hgo
    obtain ⟨k1, k2, k3, k4⟩ := hgd D c u hgo
    have hmsd := hgo.2 p0 k1
    have hnop := nop hB hmsd.1 hmsd.2.1
    have hsucc := hmsd.2.2.1 p hpp
    have p05 := hmsd.1
    -- p0 itself
    have hdd : -1 ≤ dD B p0 := by
      unfold dD
      split
      · decide
      · split <;> decide
    have hp0v : dr T p0 + c p0 ≤ c s ∧ hg T p0 + u p0 ≤ u s ∧ 0 ≤ dr T p0 ∧ 0 ≤ dr T p0 + hg T p0 := by
      obtain ⟨i, hi, e⟩ := hin
      rcases v3 i hi with w | w
      · rw [e] at w
        subst w
        have x1 : dr T p0 = 0 := by unfold dr; rw [v1.1]; rfl
        have x2 : hg T p0 = 0 := by unfold hg; rw [v1.2]; rfl
        rw [x1, x2]
        exact ⟨by omega, by omega, by omega, by omega⟩
      · rw [e] at w
        have := v2 p0 p05 w
        exact ⟨this.2.1, this.2.2.1, by omega, this.2.2.2.2⟩
    have dge : ∀ q, q < 512 → 0 ≤ dr T q := fun q hq => by
      by_cases w : T.2 20 q = 0
      · unfold dr; rw [w]; exact Int.le_refl _
      · have := (v2 q hq w).1; omega
    have dP : dr T' p = (if y6.toInt ≤ dr T p then dr T p else y6.toInt) := by
      unfold dr
      rw [e20]
      by_cases w : y6 ≤ T.2 20 p
      · rw [if_pos w, if_pos (i_le.mp w)]
      · rw [if_neg w, if_neg (fun z => w (i_le.mpr z))]
    have dge2 := dge p hp5
    have dP1 : y6.toInt ≤ dr T' p ∧ dr T p ≤ dr T' p ∧ (dr T' p = dr T p ∨ dr T' p = y6.toInt) := by
      rw [dP]
      split
      · exact ⟨by omega, by omega, Or.inl rfl⟩
      · exact ⟨by omega, by omega, Or.inr rfl⟩
    have hP1 : y7.toInt ≤ hg T' p ∧ (¬ T.2 20 p = 0 → hg T p ≤ hg T' p) ∧ (hg T' p = y7.toInt ∨ (¬ T.2 20 p = 0 ∧ hg T' p = hg T p)) := by
      unfold hg
      rw [e21]
      by_cases w : T.2 20 p = 0 ∨ ¬ y7 ≤ T.2 21 p
      · rw [if_pos w]
        refine ⟨Int.le_refl _, fun w2 => ?_, Or.inl rfl⟩
        have := w.resolve_left w2
        rw [i_le] at this
        omega
      · rw [if_neg w]
        have w1 : ¬ T.2 20 p = 0 := fun z => w (Or.inl z)
        refine ⟨?_, fun _ => Int.le_refl _, Or.inr ⟨w1, rfl⟩⟩
        by_cases w2 : y7 ≤ T.2 21 p
        · exact i_le.mp w2
        · exact absurd (Or.inr w2) w
    have dO : ∀ q, ¬ q = p → dr T' q = dr T q := fun q hq => by unfold dr; rw [r20 q hq]
    have hO : ∀ q, ¬ q = p → hg T' q = hg T q := fun q hq => by unfold hg; rw [r21 q hq]
    have qN : ∀ a, (∃ i, i < n ∧ hp T i = a) → ¬ a = p := fun a ⟨i, hi, e⟩ => by rw [← e]; exact Fq i hi
    have qS : ∀ a, (∃ i, i < n ∧ hp T i = a) → ∃ i, i < n' ∧ hp T' i = a := fun a ⟨i, hi, e⟩ => ⟨i, by omega, by rw [qh i hi]; exact e⟩
    have set' : ¬ T'.2 20 p = 0 := fun z => by
      have : dr T' p = 0 := by unfold dr; rw [z]; rfl
      omega
    unfold KV
    rw [g4]
    refine ⟨⟨by rw [r20 s hsp]; exact v1.1, by rw [r21 s hsp]; exact v1.2⟩, fun q hq w => ?_, fun i hi => ?_, fun a b hab => ?_, fun a ha => ?_, v6, v7, v8, v9⟩
    · by_cases z : q = p
      · subst z
        have k := hsucc.2
        refine ⟨by omega, ?_, ?_, ?_, by omega⟩
        · rcases dP1.2.2 with e | e
          · by_cases w2 : T.2 20 q = 0
            · have : dr T q = 0 := by unfold dr; rw [w2]; rfl
              omega
            · have := (v2 q hq w2).2.1
              omega
          · omega
        · rcases hP1.2.2 with e | ⟨w2, e⟩
          · omega
          · have := (v2 q hq w2).2.2.1
            omega
        · rcases hP1.2.2 with e | ⟨w2, e⟩
          · omega
          · have := (v2 q hq w2).2.2.2.1
            omega
      · rw [r20 q z] at w
        rw [dO q z, hO q z]
        exact v2 q hq w
    · by_cases w : i < n
      · rw [qh i w, r20 _ (Fq i w)]
        exact v3 i w
      · obtain ⟨w1, w2, w3, w4⟩ := newq i (by omega) hi
        rw [w4]
        exact Or.inr set'
    · rcases hab with hab | ⟨e1, e2⟩
      · obtain ⟨b1, b0, b2, b3⟩ := v4 a b hab
        have na := qN a b1
        rw [dO a na, hO a na]
        refine ⟨qS a b1, b0, ?_, ?_⟩
        · by_cases z : b = p
          · subst z; omega
          · rw [dO b z]; exact b2
        · by_cases z : b = p
          · subst z
            have ca : 0 ≤ dr T a := by
              obtain ⟨i, hi, e⟩ := b1
              have hma := (a1 i hi).2.1
              rw [e] at hma
              exact dge a hma.1
            have w2 : ¬ T.2 20 b = 0 := fun z => by
              have : dr T b = 0 := by unfold dr; rw [z]; rfl
              omega
            have := hP1.2.1 w2
            omega
          · rw [hO b z]; exact b3
      · rw [e1, e2, dO p0 hp0, hO p0 hp0]
        exact ⟨qS p0 hin, hnop.2.2.1, by omega, by omega⟩
    · obtain ⟨b1, b2, b3⟩ := v5 a ha
      have na := qN a b1
      rw [dO a na, hO a na]
      exact ⟨qS a b1, b2, b3⟩
