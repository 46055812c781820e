/-! LAYER 2: the reference's ways: its walk -/
def KO (B : Nat → Int32) (s : Nat) (T : Ob) (n j : Nat) (un : Nat → Nat) : Prop := KI B s T n (deg B un) (fun a b => (∃ i, i < j ∧ hp T i = a) ∧ b ∈ sc B a) (fun a => ∃ i, i < j ∧ hp T i = a) ∧ (∀ p, un p ≤ 1) ∧ (∀ p, un p = 1 ↔ (metP T p ∧ ¬ ∃ i, i < j ∧ hp T i = p)) ∧ j ≤ n ∧ codeM B T ∧ clo B (metP T) ∧ (∀ D : Nat → Prop, D s → clo B D → ∀ p, metP T p → D p)
def wEnd (B : Nat → Int32) (s : Nat) (T : Ob) (r : Int32) (T' : Ob) : Prop := (∀ Z : Nat → Prop, zed B T Z → (∃ z, Z z) → r = 0) ∧ ∀ D c u, good B s D c u → r = 1 ∧ (T'.1 23).toInt = c s ∧ (T'.1 24).toInt = u s
theorem walk_end {B : Nat → Int32} {s n : Nat} {T : Ob} {un : Nat → Nat} {r : Int32} (hB : okC B) (h : KO B s T n n un) (hr : (r = 1 ∧ sumN 512 (met1 T) = n) ∨ (r = 0 ∧ ¬ sumN 512 (met1 T) = n)) : wEnd B s T r T := by
  obtain ⟨⟨a1, a2, a3, a4, a5, a6, a7, a8⟩, u1, u2, _, _, hcl, hre⟩ := h
  refine ⟨fun Z hz ⟨z, hzz⟩ => ?_, fun D c u hgo => ?_⟩
  · rcases hr with ⟨_, e⟩ | ⟨e, _⟩
    · exfalso
      have hm := (hz z hzz).1
      have := sum_same (n := 512) (f := fun q => if T.2 18 q = 0 then 0 else if deg B un q = 0 then 1 else 0) (g := met1 T) (fun k _ => by
        unfold met1
        by_cases w : T.2 18 k = 0
        · simp [w]
        · simp only [if_neg w]
          split
          · exact Nat.le_refl _
          · exact Nat.zero_le _) (by rw [e]; exact a4) z hm.1
      unfold met1 at this
      simp only [if_neg hm.2] at this
      by_cases w : deg B un z = 0
      · obtain ⟨i, hi, ez⟩ := a2 z hm w
        exact a6 Z hz i hi (by rw [ez]; exact hzz)
      · rw [if_neg w] at this
        exact absurd this (by decide)
    · exact e
  · have hDm := hre D hgo.1 (good_clo hgo)
    -- none is left
    have all0 : ∀ (k : Nat) (q : Nat), metP T q → (4001 : Int) - c q ≤ (k : Int) → deg B un q = 0 := by
      intro k
      induction k with
      | zero =>
        intro q hq hk
        have := (hgo.2 q (hDm q hq)).2.2.2.2.2.2.2.2.1
        omega
      | succ k ih =>
        intro q hq hk
        refine deg_all0 (fun p hp5 hn hmem => ?_)
        have hu : un p = 1 := by have := u1 p; omega
        obtain ⟨pm, pn⟩ := (u2 p).mp hu
        have hmp := hgo.2 p (hDm p pm)
        have n1 := nop hB hmp.1 hmp.2.1
        have h1 := (hmp.2.2.1 q hmem).2.1
        have := ih p pm (by omega)
        exact pn (a2 p pm this)
    have all : ∀ q, metP T q → ∃ i, i < n ∧ hp T i = q := fun q hq => a2 q hq (all0 ((4001 : Int) - c q).toNat q hq (by omega))
    have hsum : sumN 512 (met1 T) = n := by
      rw [← a4]
      refine sum_congr (fun q hq => ?_)
      unfold met1
      by_cases w : T.2 18 q = 0
      · simp [w]
      · simp only [if_neg w]
        rw [if_pos (all0 ((4001 : Int) - c q).toNat q ⟨hq, w⟩ (by omega))]
    have hr1 : r = 1 := by
      rcases hr with ⟨e, _⟩ | ⟨_, e⟩
      · exact e
      · exact absurd hsum e
    have kv := a8 D c u hgo
    have kat : ∀ q, metP T q → dr T q + c q ≤ c s ∧ hg T q + u q ≤ u s ∧ 0 ≤ dr T q ∧ 0 ≤ dr T q + hg T q ∧ c s ≤ 4000 ∧ u s ≤ 4000 ∧ cC B q ≤ c q ∧ dD B q ≤ u q ∧ 0 ≤ u q ∧ 1 ≤ cC B q ∧ cC B q < 5 := fun q hq => by
      obtain ⟨i, hi, e⟩ := all q hq
      exact KV_at hB hgo kv hi e (hDm q hq)
    obtain ⟨v1, v2, v3, v4, v5, v6, v7, v8, v9⟩ := kv
    have s20 : dr T s = 0 := by unfold dr; rw [v1.1]; rfl
    have s21 : hg T s = 0 := by unfold hg; rw [v1.2]; rfl
    have low : ∀ (k : Nat) (q : Nat), metP T q → c q ≤ (k : Int) → dr T q + c q = c s → c s ≤ (T.1 23).toInt := by
      intro k
      induction k with
      | zero =>
        intro q hq hk _
        have := kat q hq
        omega
      | succ k ih =>
        intro q hq hk e
        have hmq := hgo.2 q (hDm q hq)
        have n1 := nop hB hmq.1 hmq.2.1
        have iq := (v5 q (all q hq)).2.1
        rcases hmq.2.2.2.2.2.2.1 with w | ⟨q', w1, w2⟩
        · omega
        · have hq' : metP T q' := (hcl q hq).2.2 q' w1
          have ve := v4 q q' ⟨all q hq, w1⟩
          have k1 := kat q' hq'
          exact ih q' hq' (by omega) (by omega)
    have lowu : ∀ (k : Nat) (q : Nat), metP T q → c q ≤ (k : Int) → hg T q + u q = u s → u s ≤ (T.1 24).toInt := by
      intro k
      induction k with
      | zero =>
        intro q hq hk _
        have := kat q hq
        omega
      | succ k ih =>
        intro q hq hk e
        have hmq := hgo.2 q (hDm q hq)
        have n1 := nop hB hmq.1 hmq.2.1
        have iq := (v5 q (all q hq)).2.2
        rcases hmq.2.2.2.2.2.2.2.1 with w | w | ⟨q', w1, w2⟩
        · by_cases z : T.2 20 q = 0
          · obtain ⟨i, hi, ei⟩ := all q hq
            rcases v3 i hi with w3 | w3
            · rw [ei] at w3
              subst w3
              omega
            · rw [ei] at w3
              exact absurd z w3
          · have := (v2 q hq.1 z).2.2.2.1
            omega
        · omega
        · have hq' : metP T q' := (hcl q hq).2.2 q' w1
          have ve := v4 q q' ⟨all q hq, w1⟩
          have k1 := kat q' hq'
          have h1 := (hmq.2.2.1 q' w1).2.1
          exact ih q' hq' (by omega) (by omega)
    have ks := kat s a7.1
    refine ⟨hr1, ?_, ?_⟩
    · have := low (c s).toNat s a7.1 (by omega) (by omega)
      omega
    · have := lowu (c s).toNat s a7.1 (by omega) (by omega)
      omega
theorem walk_loop {B : Nat → Int32} {s : Nat} (hB : okC B) : ∀ (k f : Nat) (y2 y3 y4 : Int32) (T : Ob) (n j : Nat) (un : Nat → Nat), KO B s T n j un → y2.toInt = (sumN 512 (met1 T) : Int) - (j : Int) → y3.toInt = (n : Int) → y4.toInt = (j : Int) → 513 = k + j → k < f → ∃ (r : Int32) (T' : Ob), (∀ Q : Int32 → Ob → Prop, Q r T' → wp_X8_walks_L70 Q f y2 y3 y4 T) ∧ frM T T' ∧ wEnd B s T r T' := by
  intro k
  have n5 : ∀ {n j : Nat} {un : Nat → Nat} {T : Ob}, KO B s T n j un → n ≤ 512 := fun h => by
    rw [← h.1.2.2.2.1]
    refine Nat.le_trans (sum_le (m := 1) (fun k _ => ?_)) (by decide)
    split
    · exact Nat.zero_le _
    · split
      · exact Nat.le_refl _
      · exact Nat.zero_le _
  induction k with
  | zero =>
    intro f y2 y3 y4 T n j un h _ _ _ hk _
    have h1 := n5 h
    have := h.2.2.2.1
    omega
  | succ k ih =>
    intro f y2 y3 y4 T n j un h hy2 hy3 hy4 hk hf
    obtain ⟨f, rfl⟩ : ∃ f', f = f' + 1 := ⟨f - 1, by omega⟩
    have hn5 := n5 h
    have hjn := h.2.2.2.1
    have z0 : (0 : Int32).toInt = 0 := rfl
    by_cases c : n ≤ j
    · have ejn : j = n := by omega
      subst ejn
      have y34 : y3 ≤ y4 := i_le.mpr (by omega)
      by_cases w : sumN 512 (met1 T) = j
      · refine ⟨1, T, fun Q q => ?_, frM_r T, walk_end hB h (Or.inl ⟨rfl, w⟩)⟩
        unfold wp_X8_walks_L70
        have e0 : y2 = 0 := i_eq.mpr (by rw [hy2, z0]; omega)
        exact ⟨fun _ => ⟨fun d => absurd e0 d, fun _ => q⟩, fun d => absurd y34 d⟩
      · refine ⟨0, T, fun Q q => ?_, frM_r T, walk_end hB h (Or.inr ⟨rfl, w⟩)⟩
        unfold wp_X8_walks_L70
        have e0 : ¬ y2 = 0 := fun e => by rw [i_eq, hy2, z0] at e; omega
        exact ⟨fun _ => ⟨fun _ => q, fun d => absurd d e0⟩, fun d => absurd y34 d⟩
    · obtain ⟨hI, u1, u2, _, hT, hcl, hre⟩ := h
      have hnl : ¬ y3 ≤ y4 := by rw [i_le]; omega
      have h4n : y4.toNatClampNeg = j := by rw [i_nat, hy4]; omega
      have hok4 : okI y4 512 := ok_iff.mpr (by omega)
      obtain ⟨hj1, hj2, hj3⟩ := hI.1 j (by omega)
      have hx := pv_self hj1
      have ehp : (T.2 22 j).toNatClampNeg = hp T j := rfl
      rw [ehp] at hx
      have hclj := hcl _ hj2
      have o := hclj.2.1
      have n1 := nop hB hx.2 o
      have z1 : (1 : Int32).toInt = 1 := rfl
      have zm : (-1 : Int32).toInt = -1 := rfl
      have hy41 : (y4 + 1).toInt = ((j + 1 : Nat) : Int) := by
        rw [i_add (by rw [hy4, z1]; omega) (by rw [hy4, z1]; omega), hy4, z1]
        omega
      have s5 : sumN 512 (met1 T) ≤ 512 * 1 := sum_le (fun k _ => by unfold met1; split <;> omega)
      have hy21 : (y2 + (-1)).toInt = (sumN 512 (met1 T) : Int) - ((j + 1 : Nat) : Int) := by
        rw [i_add (by rw [hy2, zm]; omega) (by rw [hy2, zm]; omega), hy2, zm]
        omega
      have notyet : ¬ ∃ i, i < j ∧ hp T i = hp T j := fun ⟨i, hi, e⟩ => hI.2.2.2.2.1 i j hi (by omega) e
      have unj : un (hp T j) = 1 := (u2 _).mpr ⟨hj2, notyet⟩
      -- the numbers of this place
      have hz : ∃ z : Int32, z.toInt = dD B (hp T j) ∧ ∀ Q : Int32 → Ob → Prop, wp_X8_walks_L146 Q (wp_X8_walks_L70 Q f) y2 y3 y4 (T.2 22 j) (T.2 20 (hp T j) + tabC (B (hp T j)).toNatClampNeg) z (T.2 21 (hp T j)) T → wp_X8_walks_L70 Q (f + 1) y2 y3 y4 T := by
        have start : ∀ Q : Int32 → Ob → Prop, ((¬ B (hp T j) = 9 → (¬ B (hp T j) = 10 → wp_X8_walks_L146 Q (wp_X8_walks_L70 Q f) y2 y3 y4 (T.2 22 j) (T.2 20 (hp T j) + tabC (B (hp T j)).toNatClampNeg) 0 (T.2 21 (hp T j)) T) ∧ (B (hp T j) = 10 → wp_X8_walks_L146 Q (wp_X8_walks_L70 Q f) y2 y3 y4 (T.2 22 j) (T.2 20 (hp T j) + tabC (B (hp T j)).toNatClampNeg) (-1) (T.2 21 (hp T j)) T)) ∧ (B (hp T j) = 9 → wp_X8_walks_L146 Q (wp_X8_walks_L70 Q f) y2 y3 y4 (T.2 22 j) (T.2 20 (hp T j) + tabC (B (hp T j)).toNatClampNeg) 1 (T.2 21 (hp T j)) T)) → wp_X8_walks_L70 Q (f + 1) y2 y3 y4 T := by
          intro Q q
          unfold wp_X8_walks_L70
          refine ⟨fun d => absurd d hnl, fun _ => ⟨hok4, fun x15 e => ?_⟩⟩
          have e' : x15 = T.2 22 j := e.trans (congrArg (T.2 22) h4n)
          subst e'
          rw [ehp, hT _ hx.2]
          refine ⟨hj1, hj1, n1.1, fun x17 e => ?_⟩
          subst e
          exact ⟨hj1, hj1, fun d => ⟨hj1, (q.1 d).1, (q.1 d).2⟩, q.2⟩
        by_cases w9 : B (hp T j) = 9
        · exact ⟨1, by unfold dD; rw [if_pos w9]; rfl, fun Q q => start Q ⟨fun d => absurd w9 d, fun _ => q⟩⟩
        · by_cases w10 : B (hp T j) = 10
          · exact ⟨-1, by unfold dD; rw [if_neg w9, if_pos w10]; rfl, fun Q q => start Q ⟨fun _ => ⟨fun d => absurd w10 d, fun _ => q⟩, fun d => absurd d w9⟩⟩
          · exact ⟨0, by unfold dD; rw [if_neg w9, if_neg w10]; rfl, fun Q q => start Q ⟨fun _ => ⟨fun _ => q, fun d => absurd d w10⟩, fun d => absurd d w9⟩⟩
      obtain ⟨z, ez, gz⟩ := hz
      have hgd : ∀ D c u, good B s D c u → D (hp T j) ∧ (T.2 20 (hp T j) + tabC (B (hp T j)).toNatClampNeg).toInt = dr T (hp T j) + cC B (hp T j) ∧ (T.2 21 (hp T j) + z).toInt = hg T (hp T j) + dD B (hp T j) := fun D c u hgo => by
        have hD := hre D hgo.1 (good_clo hgo) _ hj2
        have kat := KV_at hB hgo (hI.2.2.2.2.2.2.2 D c u hgo) (show j < n by omega) rfl hD
        have x1 : (T.2 20 (hp T j)).toInt = dr T (hp T j) := rfl
        have x2 : (tabC (B (hp T j)).toNatClampNeg).toInt = cC B (hp T j) := rfl
        have x3 : (T.2 21 (hp T j)).toInt = hg T (hp T j) := rfl
        have x4 := dD_lo B (hp T j)
        refine ⟨hD, ?_, ?_⟩
        · rw [i_add (by rw [x1, x2]; omega) (by rw [x1, x2]; omega), x1, x2]
        · rw [i_add (by rw [x3, ez]; omega) (by rw [x3, ez]; omega), x3, ez]
      have hIi := KI_int hB hI (show j < n by omega) rfl hgd
      have unq : ∀ p, (if p = hp T j then 0 else un p) ≤ 1 := fun p => by
        split
        · exact Nat.zero_le _
        · exact u1 p
      have ud : ∀ q, deg B un q = deg B (fun p => if p = hp T j then 0 else un p) q + (sc B (hp T j)).count q := fun q => deg_add (sn := fun p => if p = hp T j then 0 else un p) (sn' := un) hx.2 (if_pos rfl) unj (fun k hk => (if_neg hk).symm) q
      have u2' : ∀ p, (if p = hp T j then 0 else un p) = 1 ↔ (metP T p ∧ ¬ ∃ i, i < j + 1 ∧ hp T i = p) := fun p => by
        by_cases w : p = hp T j
        · rw [if_pos w]
          exact ⟨fun d => absurd d (by decide), fun ⟨_, d⟩ => absurd ⟨j, by omega, w.symm⟩ d⟩
        · rw [if_neg w]
          refine (u2 p).trans ⟨fun ⟨d1, d2⟩ => ⟨d1, fun ⟨i, hi, e⟩ => ?_⟩, fun ⟨d1, d2⟩ => ⟨d1, fun ⟨i, hi, e⟩ => d2 ⟨i, by omega, e⟩⟩⟩
          by_cases v : i = j
          · subst v; exact w e.symm
          · exact d2 ⟨i, by omega, e⟩
      by_cases c18 : B (hp T j) = 18
      · have e0 : sc B (hp T j) = [] := by unfold sc; rw [if_pos c18]
        have hKO : KO B s (intT T (T.2 20 (hp T j) + tabC (B (hp T j)).toNatClampNeg) (T.2 21 (hp T j) + z)) n (j + 1) (fun p => if p = hp T j then 0 else un p) := by
          refine ⟨?_, unq, u2', by omega, hT, hcl, hre⟩
          have e : deg B (fun p => if p = hp T j then 0 else un p) = deg B un := funext fun q => by rw [ud q, e0, List.count_nil, Nat.add_zero]
          rw [e]
          refine KI_I (KI_E hIi (fun a b ⟨⟨i, hi, e⟩, hb⟩ => ?_)) (fun a ⟨i, hi, e⟩ => ?_)
          · by_cases v : i = j
            · subst v
              have e' : hp T i = a := e
              rw [← e', e0] at hb
              simp at hb
            · exact ⟨⟨i, by omega, e⟩, hb⟩
          · by_cases v : i = j
            · subst v; exact Or.inr e.symm
            · exact Or.inl ⟨i, by omega, e⟩
        obtain ⟨r, T', g1, g2, g3⟩ := ih f (y2 + (-1)) y3 (y4 + 1) _ n (j + 1) _ hKO hy21 hy3 hy41 (by omega) (by omega)
        refine ⟨r, T', fun Q q => gz Q (l146 ⟨hj1, fun d => ?_, fun _ => g1 Q q⟩), frM_t (intT_fr _ _ _) g2, g3⟩
        rw [ehp, hT _ hx.2] at d
        exact absurd c18 d
      · obtain ⟨n2, w3, T2, d1, d2, d3, d4, d5, d6, d7, d8⟩ := walk_ways (un' := fun p => if p = hp T j then 0 else un p) (T := intT T (T.2 20 (hp T j) + tabC (B (hp T j)).toNatClampNeg) (T.2 21 (hp T j) + z)) hB hT hIi hy3 hx (show j < n by omega) rfl o c18 hclj.2.2 unq ud (fun p pm pz => by
            by_cases v : p = hp T j
            · exact ⟨j, by omega, v.symm⟩
            · rw [if_neg v] at pz
              by_cases hh : ∃ i, i < j ∧ hp T i = p
              · obtain ⟨i, hi, e⟩ := hh
                exact ⟨i, by omega, e⟩
              · have := (u2 p).mpr ⟨pm, hh⟩
                omega) (fun D c u hgo => by
            obtain ⟨k1, k2, k3⟩ := hgd D c u hgo
            refine ⟨k1, k2, k3, ?_⟩
            rw [intT_24]
            exact (mx32 _ _).2.1)
        have mE : metP T2 = metP T := funext fun q => by unfold metP; rw [d6]; rfl
        have m1E : met1 T2 = met1 T := funext fun q => by unfold met1; rw [d6]; rfl
        have hh : ∀ i, i < n → hp T2 i = hp T i := fun i hi => by unfold hp; rw [d8 i hi]; rfl
        have hKO : KO B s T2 n2 (j + 1) (fun p => if p = hp T j then 0 else un p) := by
          refine ⟨KI_I (KI_E d3 (fun a b ⟨⟨i, hi, e⟩, hb⟩ => ?_)) (fun a ⟨i, hi, e⟩ => ?_), unq, fun p => ?_, by omega, codeM_fr (codeM_fr hT (intT_fr _ _ _)) d4, by rw [mE]; exact hcl, by rw [mE]; exact hre⟩
          · rw [hh i (by omega)] at e
            by_cases v : i = j
            · subst v
              exact Or.inr ⟨e.symm, by rw [e]; exact hb⟩
            · exact Or.inl ⟨⟨i, by omega, e⟩, hb⟩
          · rw [hh i (by omega)] at e
            by_cases v : i = j
            · subst v; exact Or.inr e.symm
            · exact Or.inl ⟨i, by omega, e⟩
          · rw [mE]
            refine (u2' p).trans ⟨fun ⟨e1, e2⟩ => ⟨e1, fun ⟨i, hi, e⟩ => e2 ⟨i, hi, by rw [← hh i (by omega)]; exact e⟩⟩, fun ⟨e1, e2⟩ => ⟨e1, fun ⟨i, hi, e⟩ => e2 ⟨i, hi, by rw [hh i (by omega)]; exact e⟩⟩⟩
        obtain ⟨r, T', g1, g2, g3⟩ := ih f (y2 + (-1)) w3 (y4 + 1) T2 n2 (j + 1) _ hKO (by rw [m1E]; exact hy21) d1 hy41 (by omega) (by omega)
        refine ⟨r, T', fun Q q => gz Q (l146 ⟨hj1, fun _ => d2 Q _ _ _ (g1 Q q), fun d => ?_⟩), frM_t (intT_fr _ _ _) (frM_t d4 g2), fun Z hz => g3.1 Z (by unfold zed at hz ⊢; rw [mE]; exact hz), g3.2⟩
        rw [ehp, hT _ hx.2] at d
        exact absurd d c18
/-- how many were met -/
theorem walk_cnt {x : Int32} {T : Ob} {Q : Int32 → Ob → Prop} : ∀ (m i f : Nat) (y2 : Int32), i + m = 512 → m < f → y2.toInt = (sumN i (met1 T) : Int) → (∀ y : Int32, y.toInt = (sumN 512 (met1 T) : Int) → wp_X8_walks_L70 Q 2000 y 1 0 (sa T 22 (upd (T.2 22) 0 x))) → wp_X8_walks_L33 Q f x y2 (Int32.ofNat i) T := by
  intro m
  induction m with
  | zero =>
    intro i f y2 hi hf hy g
    obtain ⟨f, rfl⟩ : ∃ f', f = f' + 1 := ⟨f - 1, by omega⟩
    have ei : (Int32.ofNat i).toInt = (i : Int) := i_ofNat (by omega)
    have e5 : i = 512 := by omega
    unfold wp_X8_walks_L33
    refine ⟨fun _ _ e => ?_, fun c => absurd (i_le.mpr (by rw [ei, show (512 : Int32).toInt = 512 from rfl]; omega)) c⟩
    subst e
    subst e5
    exact g y2 hy
  | succ m ih =>
    intro i f y2 hi hf hy g
    obtain ⟨f, rfl⟩ : ∃ f', f = f' + 1 := ⟨f - 1, by omega⟩
    have z1 : (1 : Int32).toInt = 1 := rfl
    have ei : (Int32.ofNat i).toInt = (i : Int) := i_ofNat (by omega)
    have en : (Int32.ofNat i).toNatClampNeg = i := by rw [i_nat, ei]; omega
    have e1 : Int32.ofNat i + 1 = Int32.ofNat (i + 1) := i_eq.mpr (by
      rw [i_add (by rw [ei, z1]; omega) (by rw [ei, z1]; omega), ei, i_ofNat (by omega), z1]
      omega)
    have s5 : sumN i (met1 T) ≤ i * 1 := sum_le (fun k _ => by unfold met1; split <;> omega)
    unfold wp_X8_walks_L33
    refine ⟨fun c => ?_, fun _ => ⟨ok_iff.mpr (by omega), fun c _ e => ?_, fun c _ e _ e2 => ?_⟩⟩
    · rw [i_le, ei, show (512 : Int32).toInt = 512 from rfl] at c
      omega
    · rw [en] at c
      rw [e1] at e
      subst e
      refine ih (i + 1) f y2 (by omega) (by omega) ?_ g
      rw [hy]
      show _ = ((sumN i (met1 T) + met1 T i : Nat) : Int)
      rw [show met1 T i = 0 from if_pos c]
      rfl
    · rw [en] at c
      rw [e1] at e2
      subst e
      subst e2
      refine ih (i + 1) f (y2 + 1) (by omega) (by omega) ?_ g
      rw [i_add (by rw [hy, z1]; omega) (by rw [hy, z1]; omega), hy, z1]
      show _ = ((sumN i (met1 T) + met1 T i : Nat) : Int)
      rw [show met1 T i = 1 from if_neg c]
      omega
theorem walks_model {B : Nat → Int32} {s : Nat} {x : Int32} {T : Ob} (hB : okC B) (hT : codeM B T) (hx : pv x s) : ∃ (r : Int32) (T' : Ob), (∀ Q : Int32 → Ob → Prop, Q r T' → wp_X8_walks T x Q) ∧ frM T T' ∧ (bad B s → r = 0) ∧ ∀ D c u, good B s D c u → r = 1 ∧ (T'.1 23).toInt = c s ∧ (T'.1 24).toInt = u s := by
  have fr0 : frM T (si (si T 23 0) 24 0) := ⟨fun j a b => by
    show upd (upd T.1 23 0) 24 0 j = _
    rw [up_ne b, up_ne a], fun _ _ => rfl⟩
  obtain ⟨r, U, g1, g2, g3, g4⟩ := meets_model (T := si (si T 23 0) 24 0) hB hT hx
  have start : ∀ Q : Int32 → Ob → Prop, (((r = 0 → Q 0 U) ∧ (¬ r = 0 → (U.2 19 s ≤ 0 → wp_X8_walks_L33 Q 2000 x 0 0 U) ∧ (¬ U.2 19 s ≤ 0 → Q 0 U)))) → wp_X8_walks T x Q := by
    intro Q q
    unfold wp_X8_walks
    intro _ e
    subst e
    intro _ e
    subst e
    refine g1 _ ⟨q.1, fun c => ⟨pv_ok hx, ?_⟩⟩
    rw [pv_n hx]
    exact q.2 c
  rcases g4 with ⟨e, hno⟩ | ⟨e, n, hMI, hcl⟩
  · subst e
    exact ⟨0, U, fun Q q => start Q ⟨fun _ => q, fun c => absurd rfl c⟩, frM_t fr0 g2, fun _ => rfl, fun D c u hgo => absurd (good_clo hgo) (hno D hgo.1)⟩
  · subst e
    obtain ⟨m1, m2, m3, m4, m5, m6, m7, m8, m9⟩ := hMI
    have hUc : codeM B U := codeM_fr hT (frM_t fr0 g2)
    have d19 := m5 s m4.1
    have z0 : (0 : Int32).toInt = 0 := rfl
    have hre : ∀ D : Nat → Prop, D s → clo B D → ∀ p, metP U p → D p := fun D d1 d2 p hp => m8 D d1 d2 p hp.1 hp.2
    by_cases c0 : U.2 19 s ≤ 0
    · have ds : deg B (met1 U) s = 0 := by
        rw [i_le, d19, z0] at c0
        omega
      have un1 : ∀ p, (fun p => if p < 512 then met1 U p else 0) p ≤ 1 := fun p => by
        show (if p < 512 then met1 U p else 0) ≤ 1
        unfold met1
        split
        · split <;> omega
        · omega
      have edeg : deg B (fun p => if p < 512 then met1 U p else 0) = deg B (met1 U) := funext fun q => sum_congr (fun k hk => by
        show (if k < 512 then met1 U k else 0) * _ = _
        rw [if_pos hk])
      have h0 : hp (sa U 22 (upd (U.2 22) 0 x)) 0 = s := by
        show (upd (U.2 22) 0 x 0).toNatClampNeg = s
        rw [up_eq]; exact pv_n hx
      have hKO : KO B s (sa U 22 (upd (U.2 22) 0 x)) 1 0 (fun p => if p < 512 then met1 U p else 0) := by
        refine ⟨⟨fun i hi => ?_, fun q hq hz => ?_, fun q hq => by rw [edeg]; exact m5 q hq, ?_, fun i j hij hj => by omega, fun Z hz i hi => ?_, ⟨⟨m4.1, m4.2⟩, by rw [edeg]; exact ds⟩, fun D c u hgo => ?_⟩, un1, fun p => ?_, by decide, hUc, hcl, hre⟩
        · rw [show i = 0 by omega, h0]
          refine ⟨?_, ⟨m4.1, m4.2⟩, by rw [edeg]; exact ds⟩
          show okI (upd (U.2 22) 0 x 0) 512
          rw [up_eq]; exact pv_ok hx
        · rw [edeg] at hz
          refine ⟨0, by decide, ?_⟩
          rw [h0]
          rcases m6 q hq.1 hq.2 with e | e
          · exact e.symm
          · omega
        · rw [edeg]
          have := sum_one (n := 512) (p := s) (f := fun _ => 0) (g := fun q => if q = s then 1 else 0) (fun k hk => if_neg hk) m4.1
          rw [sum_all0 (f := fun _ => 0) (fun _ _ => rfl)] at this
          simp at this
          refine Eq.trans (sum_congr (fun q hq => ?_)) this
          show (if U.2 18 q = 0 then 0 else if deg B (met1 U) q = 0 then 1 else 0) = _
          by_cases w : q = s
          · subst w
            rw [if_neg m4.2, if_pos ds, if_pos rfl]
          · rw [if_neg w]
            by_cases v : U.2 18 q = 0
            · rw [if_pos v]
            · rw [if_neg v, if_neg]
              intro v2
              rcases m6 q hq v with e | e
              · exact w e
              · omega
        · rw [show i = 0 by omega, h0]
          intro hzs
          obtain ⟨_, p, p1, p2⟩ := hz s hzs
          have pm := (hz p p1).1
          have pm' : ¬ U.2 18 p = 0 := pm.2
          exact deg_0 ds pm.1 (by unfold met1; rw [if_neg pm']; decide) p2
        · have hms := hgo.2 s hgo.1
          have n1 := nop hB hms.1 hms.2.1
          have x1 := hms.2.2.2.1
          have x2 := hms.2.2.2.2.1
          have i23 : ((sa U 22 (upd (U.2 22) 0 x)).1 23) = 0 := by
            show U.1 23 = 0
            rw [g3]; rfl
          have i24 : ((sa U 22 (upd (U.2 22) 0 x)).1 24) = 0 := by
            show U.1 24 = 0
            rw [g3]; rfl
          refine ⟨m7 s m4.1, fun q hq w => absurd (m7 q hq).1 w, fun i hi => Or.inl (by rw [show i = 0 by omega]; exact h0), fun a b ⟨⟨i, hi, _⟩, _⟩ => by omega, fun a ⟨i, hi, _⟩ => by omega, ?_, ?_, ?_, ?_⟩
          · rw [i23]; decide
          · rw [i23, z0]; omega
          · rw [i24]; decide
          · rw [i24, z0]; exact x2
        · show (if p < 512 then met1 U p else 0) = 1 ↔ ((p < 512 ∧ ¬ U.2 18 p = 0) ∧ _)
          by_cases w : p < 512
          · rw [if_pos w]
            unfold met1
            by_cases v : U.2 18 p = 0
            · rw [if_pos v]
              exact ⟨fun d => absurd d (by decide), fun d => absurd v d.1.2⟩
            · rw [if_neg v]
              exact ⟨fun _ => ⟨⟨w, v⟩, fun ⟨i, hi, _⟩ => by omega⟩, fun _ => rfl⟩
          · rw [if_neg w]
            exact ⟨fun d => absurd d (by decide), fun d => absurd d.1.1 w⟩
      obtain ⟨r, T', k1, k2, k3⟩ := walk_loop hB 513 2000 (Int32.ofNat (sumN 512 (met1 U))) 1 0 _ 1 0 _ hKO (by
        have s5 : sumN 512 (met1 U) ≤ 512 * 1 := sum_le (fun k _ => by unfold met1; split <;> omega)
        rw [i_ofNat (by omega)]
        show _ = (sumN 512 (met1 U) : Int) - _
        omega) rfl rfl rfl (by decide)
      refine ⟨r, T', fun Q q => start Q ⟨fun c => absurd c (by decide), fun _ => ⟨fun _ => ?_, fun c => absurd c0 c⟩⟩, frM_t fr0 (frM_t g2 (frM_t (frM_a (by decide)) k2)), fun hb => ?_, k3.2⟩
      · refine walk_cnt 512 0 2000 0 rfl (by decide) rfl (fun y hy => ?_)
        have s5 : sumN 512 (met1 U) ≤ 512 * 1 := sum_le (fun k _ => by unfold met1; split <;> omega)
        have ey : y = Int32.ofNat (sumN 512 (met1 U)) := i_eq.mpr (by rw [hy, i_ofNat (by omega)])
        rw [ey]
        exact k1 Q q
      · obtain ⟨Z, z1, z2⟩ := hb (metP U) ⟨m4.1, m4.2⟩ hcl
        exact k3.1 Z z2 z1
    · refine ⟨0, U, fun Q q => start Q ⟨fun c => absurd c (by decide), fun _ => ⟨fun c => absurd c c0, fun _ => q⟩⟩, frM_t fr0 g2, fun _ => rfl, fun D c u hgo => ?_⟩
      exfalso
      have hd : ¬ deg B (met1 U) s = 0 := fun e => c0 (by rw [i_le, d19, e]; decide)
      apply hd
      refine deg_all0 (fun p hp5 hn hmem => ?_)
      have pm : metP U p := ⟨hp5, fun e => hn (by unfold met1; rw [if_pos e])⟩
      have hDp := hre D hgo.1 (good_clo hgo) p pm
      -- no way leads back to the first: what is measured falls along a way
      have falls : ∀ q, metP U q → c q ≤ c s := by
        intro q hq
        have hcl2 : clo B (fun q => D q ∧ c q ≤ c s) := fun a ha => ⟨(hgo.2 a ha.1).1, (hgo.2 a ha.1).2.1, fun b hb => by
          have h1 := (hgo.2 a ha.1).2.2.1 b hb
          have h2 := nop hB (hgo.2 a ha.1).1 (hgo.2 a ha.1).2.1
          exact ⟨h1.1, by have := ha.2; omega⟩⟩
        exact (hre _ ⟨hgo.1, Int.le_refl _⟩ hcl2 q hq).2
      have h1 := ((hgo.2 p hDp).2.2.1 s hmem).2.1
      have h2 := nop hB (hgo.2 p hDp).1 (hgo.2 p hDp).2.1
      have h3 := falls p pm
      omega
