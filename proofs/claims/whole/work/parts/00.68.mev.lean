/-! LAYER 2: the reference's ways: all that is met -/
/-- how many ways lead to a place from those that count -/
def deg (B : Nat → Int32) (sn : Nat → Nat) (q : Nat) : Nat := sumN 512 (fun p => sn p * (sc B p).count q)
theorem sc_len (B : Nat → Int32) (p q : Nat) : (sc B p).count q ≤ 2 := by
  refine Nat.le_trans List.count_le_length ?_
  unfold sc
  split
  · simp
  · split
    · simp
    · split <;> simp
theorem deg_le {B : Nat → Int32} {sn : Nat → Nat} (h : ∀ p, sn p ≤ 1) (q : Nat) : deg B sn q ≤ 1024 := by
  refine Nat.le_trans (sum_le (m := 2) (fun k _ => ?_)) (by decide)
  have h1 := Nat.mul_le_mul (h k) (sc_len B k q)
  simpa using h1
theorem deg_add {B : Nat → Int32} {sn sn' : Nat → Nat} {p : Nat} (hp : p < 512) (h0 : sn p = 0) (h1 : sn' p = 1) (h : ∀ k, ¬ k = p → sn' k = sn k) (q : Nat) : deg B sn' q = deg B sn q + (sc B p).count q := by
  have := sum_one (n := 512) (p := p) (f := fun k => sn k * (sc B k).count q) (g := fun k => sn' k * (sc B k).count q) (fun k hk => by show sn' k * _ = _; rw [h k hk]) hp
  simp only [h0, h1] at this
  unfold deg
  omega
theorem deg_0 {B : Nat → Int32} {sn : Nat → Nat} {q : Nat} (h : deg B sn q = 0) {p : Nat} (hp : p < 512) (hs : ¬ sn p = 0) : ¬ q ∈ sc B p := by
  intro hq
  have h1 : sn p * (sc B p).count q = 0 := sum_zero h p hp
  rcases Nat.mul_eq_zero.mp h1 with e | e
  · exact hs e
  · rw [List.count_eq_zero] at e
    exact e hq
theorem deg_all0 {B : Nat → Int32} {sn : Nat → Nat} {q : Nat} (h : ∀ p, p < 512 → ¬ sn p = 0 → ¬ q ∈ sc B p) : deg B sn q = 0 := sum_all0 (fun k hk => by
  by_cases c : sn k = 0
  · simp [c]
  · rw [List.count_eq_zero.mpr (h k hk c)]; simp)
/-- the first of those that were met, scanned -/
def MO (B : Nat → Int32) (s : Nat) (T : Ob) (n j : Nat) (sn : Nat → Nat) : Prop := MI B s T n (deg B sn) ∧ (∀ p, sn p ≤ 1) ∧ (∀ p, p < 512 → (sn p = 1 ↔ ∃ i, i < j ∧ hp T i = p)) ∧ (∀ i, i < j → ¬ opn B (hp T i) ∧ ∀ q, q ∈ sc B (hp T i) → ¬ T.2 18 q = 0) ∧ j ≤ n
def metP (T : Ob) : Nat → Prop := fun p => p < 512 ∧ ¬ T.2 18 p = 0
def met1 (T : Ob) : Nat → Nat := fun p => if T.2 18 p = 0 then 0 else 1
def MF (B : Nat → Int32) (s : Nat) (T : Ob) (n : Nat) : Prop := MI B s T n (deg B (met1 T)) ∧ clo B (metP T)
theorem met_loop {B : Nat → Int32} {s : Nat} (hB : okC B) : ∀ (k f : Nat) (y2 y3 : Int32) (T : Ob) (n j : Nat) (sn : Nat → Nat), MO B s T n j sn → codeM B T → y2.toInt = (n : Int) → y3.toInt = (j : Int) → 513 = k + j → k < f → ∃ (r : Int32) (T' : Ob), (∀ Q : Int32 → Ob → Prop, Q r T' → wp_X8_meets_L61 Q f y2 y3 T) ∧ frM T T' ∧ T'.1 = T.1 ∧ ((r = 0 ∧ ∀ D : Nat → Prop, D s → ¬ clo B D) ∨ (r = 1 ∧ ∃ n', MF B s T' n')) := by
  intro k
  induction k with
  | zero =>
    intro f y2 y3 T n j sn h _ _ _ hk _
    have h1 : n ≤ 512 := by
      rw [← h.1.2.2.1]
      refine Nat.le_trans (sum_le (m := 1) (fun k _ => ?_)) (by decide)
      by_cases c : T.2 18 k = 0
      · simp [c]
      · simp [c]
    have := h.2.2.2.2
    omega
  | succ k ih =>
    intro f y2 y3 T n j sn h hT hy2 hy3 hk hf
    obtain ⟨f, rfl⟩ : ∃ f', f = f' + 1 := ⟨f - 1, by omega⟩
    obtain ⟨hI, hsn, hsj, hcl, hjn⟩ := h
    by_cases c : n ≤ j
    · have ejn : j = n := by omega
      refine ⟨1, T, fun Q q => ?_, frM_r T, rfl, Or.inr ⟨rfl, n, ?_, fun p hp => ?_⟩⟩
      · unfold wp_X8_meets_L61
        exact ⟨fun _ => q, fun c => absurd (i_le.mpr (by omega)) c⟩
      · have e : ∀ q, deg B (met1 T) q = deg B sn q := fun q => sum_congr (fun p hp => by
          have h1 := hsj p hp
          have h2 := hsn p
          unfold met1
          by_cases d : T.2 18 p = 0
          · rw [if_pos d]
            by_cases z : sn p = 1
            · obtain ⟨i, hi, e⟩ := h1.mp z
              exact absurd (by rw [e]; exact d) (hI.1 i (by omega)).2
            · rw [show sn p = 0 by omega]
          · rw [if_neg d]
            obtain ⟨i, hi, e⟩ := hI.2.1 p hp d
            rw [h1.mpr ⟨i, by omega, e⟩])
        rw [show deg B (met1 T) = deg B sn from funext e]
        exact hI
      · obtain ⟨i, hi, e⟩ := hI.2.1 p hp.1 hp.2
        have := hcl i (by omega)
        rw [e] at this
        exact ⟨hp.1, this.1, fun q hq => ⟨sc_lt hq, this.2 q hq⟩⟩
    · have hn5 : n ≤ 512 := by
        rw [← hI.2.2.1]
        refine Nat.le_trans (sum_le (m := 1) (fun k _ => ?_)) (by decide)
        by_cases c : T.2 18 k = 0
        · simp [c]
        · simp [c]
      have hnl : ¬ y2 ≤ y3 := by rw [i_le]; omega
      have h3n : y3.toNatClampNeg = j := by rw [i_nat, hy3]; omega
      have hok3 : okI y3 512 := ok_iff.mpr (by omega)
      have hj := hI.1 j (by omega)
      have hx := pv_self hj.1
      have ehp : (T.2 22 j).toNatClampNeg = hp T j := rfl
      rw [ehp] at hx
      have z1 : (1 : Int32).toInt = 1 := rfl
      have hy31 : (y3 + 1).toInt = ((j + 1 : Nat) : Int) := by
        rw [i_add (by rw [hy3, z1]; omega) (by rw [hy3, z1]; omega), hy3, z1]
        omega
      have hb := hB _ hx.2
      have hsn0 : sn (hp T j) = 0 := by
        have h1 := hsj _ hx.2
        have h2 := hsn (hp T j)
        by_cases z : sn (hp T j) = 1
        · obtain ⟨i, hi, e⟩ := h1.mp z
          exact absurd e (hI.2.2.2.2.2.2.2.2 i j hi (by omega))
        · omega
      have start : ∀ Q : Int32 → Ob → Prop, (((B (hp T j) = 0 → Q 0 T) ∧ (¬ B (hp T j) = 0 → ((B (hp T j) = 19 → Q 0 T) ∧ (¬ B (hp T j) = 19 → ((B (hp T j) ≤ 29 → ((¬ B (hp T j) = 18 → wp_X8_meets_L128 Q (wp_X8_meets_L61 Q f) 2000 y2 y3 (T.2 22 j) 0 T) ∧ (B (hp T j) = 18 → wp_X8_meets_L61 Q f y2 (y3 + 1) T))) ∧ (¬ B (hp T j) ≤ 29 → Q 0 T))))))) → wp_X8_meets_L61 Q (f + 1) y2 y3 T := by
        intro Q q
        unfold wp_X8_meets_L61
        refine ⟨fun c => absurd c hnl, fun _ => ⟨hok3, fun x10 e => ?_⟩⟩
        have e' : x10 = T.2 22 j := e.trans (congrArg (T.2 22) h3n)
        subst e'
        rw [ehp, hT _ hx.2]
        exact ⟨hj.1, q.1, fun c1 => ⟨hj.1, (q.2 c1).1, fun c2 => ⟨hj.1, fun c3 => ⟨hj.1, (((q.2 c1).2 c2).1 c3).1, fun c4 _ e => by subst e; exact (((q.2 c1).2 c2).1 c3).2 c4⟩, ((q.2 c1).2 c2).2⟩⟩⟩
      by_cases o : opn B (hp T j)
      · refine ⟨0, T, fun Q q => start Q ⟨fun _ => q, fun c1 => ⟨fun _ => q, fun c2 => ⟨fun c3 => ?_, fun _ => q⟩⟩⟩, frM_r T, rfl, Or.inl ⟨rfl, fun D d1 d2 => ?_⟩⟩
        · rcases o with o | o | o
          · exact absurd o c1
          · exact absurd o c2
          · exact absurd c3 o
        · exact (d2 _ (hI.2.2.2.2.2.2.2.1 D d1 d2 _ hx.2 hj.2)).2.1 o
      · have o1 : ¬ B (hp T j) = 0 := fun e => o (Or.inl e)
        have o2 : ¬ B (hp T j) = 19 := fun e => o (Or.inr (Or.inl e))
        have o3 : B (hp T j) ≤ 29 := by
          by_cases z : B (hp T j) ≤ 29
          · exact z
          · exact absurd (Or.inr (Or.inr z)) o
        have dadd := fun q => deg_add (B := B) (sn := sn) (sn' := fun k => if k = hp T j then 1 else sn k) (p := hp T j) hx.2 hsn0 (if_pos rfl) (fun k hk => if_neg hk) q
        have sn1 : ∀ p, (fun k => if k = hp T j then 1 else sn k) p ≤ 1 := fun p => by
          show (if p = hp T j then 1 else sn p) ≤ 1
          by_cases z : p = hp T j
          · rw [if_pos z]; exact Nat.le_refl _
          · rw [if_neg z]; exact hsn p
        have snj : ∀ p, p < 512 → ((if p = hp T j then 1 else sn p) = 1 ↔ ∃ i, i < j + 1 ∧ hp T i = p) := fun p hp' => by
          by_cases z : p = hp T j
          · rw [if_pos z]
            exact ⟨fun _ => ⟨j, by omega, z.symm⟩, fun _ => rfl⟩
          · rw [if_neg z]
            refine (hsj p hp').trans ⟨fun ⟨i, hi, e⟩ => ⟨i, by omega, e⟩, fun ⟨i, hi, e⟩ => ⟨i, ?_, e⟩⟩
            by_cases w : i = j
            · subst w; exact absurd e.symm z
            · omega
        by_cases c18 : B (hp T j) = 18
        · have e0 : sc B (hp T j) = [] := by unfold sc; rw [if_pos c18]
          have hMO : MO B s T n (j + 1) (fun k => if k = hp T j then 1 else sn k) := by
            refine ⟨?_, sn1, snj, fun i hi => ?_, by omega⟩
            · have e : deg B (fun k => if k = hp T j then 1 else sn k) = deg B sn := funext fun q => by
                rw [dadd q, e0, List.count_nil, Nat.add_zero]
              rw [e]
              exact hI
            · by_cases w : i = j
              · subst w
                exact ⟨o, fun q hq => by rw [e0] at hq; simp at hq⟩
              · exact hcl i (by omega)
          obtain ⟨r, T', g1, g2, g3, g4⟩ := ih f y2 (y3 + 1) T n (j + 1) _ hMO hT hy2 hy31 (by omega) (by omega)
          exact ⟨r, T', fun Q q => start Q ⟨fun z => absurd z o1, fun _ => ⟨fun z => absurd z o2, fun _ => ⟨fun _ => ⟨fun z => absurd c18 z, fun _ => g1 Q q⟩, fun z => absurd o3 z⟩⟩⟩, g2, g3, g4⟩
        · obtain ⟨n1, z2, T1, a1, a2, a3, a4, a5⟩ := met_place (y3 := y3) hB hT hI hy2 hx hj.2 o c18 (fun q => Nat.le_trans (deg_le hsn q) (by decide))
          have hh : ∀ i, i < n → hp T1 i = hp T i := fun i hi => by unfold hp; rw [a4.2.1 i hi]
          have hMO : MO B s T1 n1 (j + 1) (fun k => if k = hp T j then 1 else sn k) := by
            refine ⟨?_, sn1, fun p hp' => (snj p hp').trans ⟨fun ⟨i, hi, e⟩ => ⟨i, hi, by rw [hh i (by omega)]; exact e⟩, fun ⟨i, hi, e⟩ => ⟨i, hi, by rw [← hh i (by omega)]; exact e⟩⟩, fun i hi => ?_, by have := a4.1; omega⟩
            · have e : deg B (fun k => if k = hp T j then 1 else sn k) = (fun q => deg B sn q + (sc B (hp T j)).count q) := funext dadd
              rw [e]
              exact a3
            · rw [hh i (by omega)]
              by_cases w : i = j
              · subst w
                exact ⟨o, a5⟩
              · have := hcl i (by omega)
                exact ⟨this.1, fun q hq => a4.2.2.1 q (this.2 q hq)⟩
          obtain ⟨r, T', g1, g2, g3, g4⟩ := ih f z2 (y3 + 1) T1 n1 (j + 1) _ hMO (codeM_fr hT a4.2.2.2.1) a1 hy31 (by omega) (by omega)
          exact ⟨r, T', fun Q q => start Q ⟨fun z => absurd z o1, fun _ => ⟨fun z => absurd z o2, fun _ => ⟨fun _ => ⟨fun _ => a2 Q _ (g1 Q q), fun z => absurd z c18⟩, fun z => absurd o3 z⟩⟩⟩, frM_t a4.2.2.2.1 g2, g3.trans a4.2.2.2.2, g4⟩
theorem met_init {x : Int32} {s : Nat} (hx : pv x s) : ∀ (m i f : Nat) (T : Ob), i + m = 512 → m < f → (∀ k, k < i → T.2 18 k = 0 ∧ T.2 19 k = 0 ∧ T.2 20 k = 0 ∧ T.2 21 k = 0) → ∃ T' : Ob, (∀ Q : Int32 → Ob → Prop, wp_X8_meets_L61 Q 2000 1 0 T' → wp_X8_meets_L2 Q f x (Int32.ofNat i) T) ∧ frM T T' ∧ T'.1 = T.1 ∧ T'.2 22 0 = x ∧ T'.2 18 s = 1 ∧ (∀ k, k < 512 → ¬ k = s → T'.2 18 k = 0) ∧ ∀ k, k < 512 → T'.2 19 k = 0 ∧ T'.2 20 k = 0 ∧ T'.2 21 k = 0 := by
  intro m
  induction m with
  | zero =>
    intro i f T hi hf h
    obtain ⟨f, rfl⟩ : ∃ f', f = f' + 1 := ⟨f - 1, by omega⟩
    have ei : (Int32.ofNat i).toInt = (i : Int) := i_ofNat (by omega)
    refine ⟨sa (sa T 22 (upd (T.2 22) 0 x)) 18 (upd (T.2 18) s 1), fun Q q => ?_, frM_t (frM_a (by decide)) (frM_a (by decide)), rfl, (show upd (T.2 22) 0 x 0 = x from up_eq _ _ _), (show upd (T.2 18) s 1 s = 1 from up_eq _ _ _), fun k hk hn => ?_, fun k hk => ?_⟩
    · unfold wp_X8_meets_L2
      refine ⟨fun _ _ e => ?_, fun c => absurd (i_le.mpr (by rw [ei, show (512 : Int32).toInt = 512 from rfl]; omega)) c⟩
      subst e
      refine ⟨pv_ok hx, fun _ e => ?_⟩
      rw [pv_n hx] at e
      subst e
      exact q
    · show upd (T.2 18) s 1 k = 0
      rw [up_ne hn]
      exact (h k (by omega)).1
    · exact (h k (by omega)).2
  | succ m ih =>
    intro i f T hi hf h
    obtain ⟨f, rfl⟩ : ∃ f', f = f' + 1 := ⟨f - 1, by omega⟩
    have ei : (Int32.ofNat i).toInt = (i : Int) := i_ofNat (by omega)
    have en : (Int32.ofNat i).toNatClampNeg = i := by rw [i_nat, ei]; omega
    have e1 : Int32.ofNat i + 1 = Int32.ofNat (i + 1) := i_eq.mpr (by
      rw [i_add (by rw [ei, show (1 : Int32).toInt = 1 from rfl]; omega) (by rw [ei, show (1 : Int32).toInt = 1 from rfl]; omega), ei, i_ofNat (by omega), show (1 : Int32).toInt = 1 from rfl]
      omega)
    have hok : okI (Int32.ofNat i) 512 := ok_iff.mpr (by omega)
    obtain ⟨T', g1, g2, g3, g4, g5, g6, g7⟩ := ih (i + 1) f (sa (sa (sa (sa T 18 (upd (T.2 18) i 0)) 19 (upd (T.2 19) i 0)) 20 (upd (T.2 20) i 0)) 21 (upd (T.2 21) i 0)) (by omega) (by omega) (fun k hk => by
      show upd (T.2 18) i 0 k = 0 ∧ upd (T.2 19) i 0 k = 0 ∧ upd (T.2 20) i 0 k = 0 ∧ upd (T.2 21) i 0 k = 0
      by_cases c : k = i
      · subst c
        rw [up_eq, up_eq, up_eq, up_eq]
        exact ⟨rfl, rfl, rfl, rfl⟩
      · rw [up_ne c, up_ne c, up_ne c, up_ne c]
        exact h k (by omega))
    refine ⟨T', fun Q q => ?_, frM_t (frM_t (frM_t (frM_t (frM_a (by decide)) (frM_a (by decide))) (frM_a (by decide))) (frM_a (by decide))) g2, g3, g4, g5, g6, g7⟩
    unfold wp_X8_meets_L2
    refine ⟨fun c => ?_, fun _ => ⟨hok, fun _ e => ?_⟩⟩
    · rw [i_le, ei, show (512 : Int32).toInt = 512 from rfl] at c
      omega
    · rw [en] at e
      subst e
      refine ⟨hok, fun _ e => ?_⟩
      rw [en] at e
      subst e
      refine ⟨hok, fun _ e => ?_⟩
      rw [en] at e
      subst e
      refine ⟨hok, fun _ e => ?_⟩
      rw [en] at e
      subst e
      intro _ e
      rw [e1] at e
      subst e
      exact g1 Q q
theorem meets_model {B : Nat → Int32} {s : Nat} {x : Int32} {T : Ob} (hB : okC B) (hT : codeM B T) (hx : pv x s) : ∃ (r : Int32) (T' : Ob), (∀ Q : Int32 → Ob → Prop, Q r T' → wp_X8_meets T x Q) ∧ frM T T' ∧ T'.1 = T.1 ∧ ((r = 0 ∧ ∀ D : Nat → Prop, D s → ¬ clo B D) ∨ (r = 1 ∧ ∃ n', MF B s T' n')) := by
  obtain ⟨T1, g1, g2, g3, g4, g5, g6, g7⟩ := met_init hx 512 0 2000 T rfl (by decide) (fun k hk => by omega)
  have h0 : hp T1 0 = s := by unfold hp; rw [g4]; exact pv_n hx
  have hs := hx.2
  have onlyS : ∀ p, p < 512 → ¬ T1.2 18 p = 0 → p = s := fun p hp' hm => by
    by_cases c : p = s
    · exact c
    · exact absurd (g6 p hp' c) hm
  have ms : ¬ T1.2 18 s = 0 := by rw [g5]; decide
  have hMO : MO B s T1 1 0 (fun _ => 0) := by
    refine ⟨⟨fun i hi => ?_, fun p hp' hm => ⟨0, by omega, by rw [h0]; exact (onlyS p hp' hm).symm⟩, ?_, ⟨hs, ms⟩, fun q hq => ?_, fun q hq hm => Or.inl (onlyS q hq hm), fun q hq => (g7 q hq).2, fun D d1 _ p hp' hm => by rw [onlyS p hp' hm]; exact d1, fun i j hij hj => by omega⟩, fun _ => Nat.zero_le _, fun p hp' => ⟨fun c => absurd c (show ¬ (0 : Nat) = 1 by decide), fun ⟨i, hi, _⟩ => by omega⟩, fun i hi => by omega, by decide⟩
    · rw [show i = 0 by omega, h0, g4]
      exact ⟨pv_ok hx, ms⟩
    · have := sum_one (n := 512) (p := s) (f := fun _ => 0) (g := fun q => if q = s then 1 else 0) (fun k hk => if_neg hk) hs
      rw [sum_all0 (f := fun _ => 0) (fun _ _ => rfl)] at this
      simp at this
      refine Eq.trans (sum_congr (fun q hq => ?_)) this
      by_cases c : q = s
      · rw [c, g5]; simp
      · rw [g6 q hq c, if_neg c]; rfl
    · rw [(g7 q hq).1, deg_all0 (fun p _ hn => absurd rfl hn)]
      rfl
  obtain ⟨r, T', k1, k2, k3, k4⟩ := met_loop hB 513 2000 1 0 T1 1 0 _ hMO (codeM_fr hT g2) rfl rfl rfl (by decide)
  refine ⟨r, T', fun Q q => ?_, frM_t g2 k2, k3.trans g3, k4⟩
  unfold wp_X8_meets
  exact g1 Q (k1 Q q)
