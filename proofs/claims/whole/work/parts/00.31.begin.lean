/-! LAYER 2: a source begins -/
theorem pigeon : ∀ (n m : Nat) (f : Nat → Nat), (∀ i, i < m → f i < n) → (∀ i j, i < j → j < m → ¬ f i = f j) → m ≤ n := by
  intro n
  induction n with
  | zero =>
    intro m f h1 h2
    cases m with
    | zero => exact Nat.le_refl _
    | succ m => exact absurd (h1 0 (by omega)) (by omega)
  | succ n ih =>
    intro m f h1 h2
    by_cases c : ∃ i, i < m ∧ f i = n
    · obtain ⟨i0, hi0, hf0⟩ := c
      have hne : ∀ i, i < m → ¬ i = i0 → ¬ f i = n := by
        intro i hi hne e
        rcases Nat.lt_or_ge i i0 with h | h
        · exact h2 i i0 h hi0 (e.trans hf0.symm)
        · exact h2 i0 i (by omega) hi (hf0.trans e.symm)
      have := ih (m - 1) (fun i => if i = i0 then f (m - 1) else f i) (by
        intro i hi
        show (if i = i0 then f (m - 1) else f i) < n
        by_cases e : i = i0
        · rw [if_pos e]
          have a := h1 (m - 1) (by omega)
          have b := hne (m - 1) (by omega) (by omega)
          omega
        · rw [if_neg e]
          have a := h1 i (by omega)
          have b := hne i (by omega) e
          omega) (by
        intro i j hij hj
        show ¬ (if i = i0 then f (m - 1) else f i) = (if j = i0 then f (m - 1) else f j)
        by_cases e : i = i0
        · rw [if_pos e, if_neg (by omega)]
          exact fun w => h2 j (m - 1) (by omega) (by omega) w.symm
        · rw [if_neg e]
          by_cases e2 : j = i0
          · rw [if_pos e2]
            exact h2 i (m - 1) (by omega) (by omega)
          · rw [if_neg e2]
            exact h2 i j hij (by omega))
      omega
    · have := ih m f (by
        intro i hi
        have a := h1 i hi
        have b : ¬ f i = n := fun e => c ⟨i, hi, e⟩
        omega) h2
      omega
theorem nm_all (rk ns : Nat → Int32) (b : Int32) : ∀ (m k i : Nat) (y : Int32), i < m → (nestMin rk ns b m k y).toInt ≤ (rk (Int32.toNatClampNeg (ns (k + i))) >>> (b &&& 31)).toInt := by
  intro m
  induction m with
  | zero => intro k i y hi; omega
  | succ m ih =>
    intro k i y hi
    unfold nestMin
    cases i with
    | zero =>
      refine Int.le_trans (nm_le rk ns b m (k + 1) _) ?_
      show _ ≤ (rk (Int32.toNatClampNeg (ns k)) >>> (b &&& 31)).toInt
      split
      · rename_i c; exact i_le.mp c
      · exact Int.le_refl _
    | succ i =>
      have := ih (k + 1) i (if y ≤ rk (Int32.toNatClampNeg (ns k)) >>> (b &&& 31) then y else rk (Int32.toNatClampNeg (ns k)) >>> (b &&& 31)) (by omega)
      rw [show k + 1 + i = k + (i + 1) by omega] at this
      exact this
/-- a source that may break in: pending, enabled, below the limit -/
def mayIn (S : Ob) (n : Int32) : Prop := okI n 21 ∧ ¬ S.2 3 n.toNatClampNeg = 0 ∧ (∀ i : Nat, (i : Int) < (S.1 10).toInt → grp S n < grp S (S.2 9 i))
theorem below_nest {S : Ob} {sh n : Int32} (h : ¬ limF S (S.1 12) sh ≤ S.2 0 n.toNatClampNeg >>> (S.1 12 &&& 31)) : ∀ i : Nat, (i : Int) < (S.1 10).toInt → grp S n < grp S (S.2 9 i) := by
  intro i hi
  rw [i_le] at h
  unfold limF at h
  have := nm_all (S.2 0) (S.2 9) (S.1 12) (S.1 10).toNatClampNeg 0 i (if sh = 1 then (if S.1 13 = 0 then 0 else if 0 ≤ S.1 13 >>> (S.1 12 &&& 31) then 0 else S.1 13 >>> (S.1 12 &&& 31)) else (if S.1 13 = 0 then 256 else if 256 ≤ S.1 13 >>> (S.1 12 &&& 31) then 256 else S.1 13 >>> (S.1 12 &&& 31))) (by rw [i_nat]; omega)
  rw [Nat.zero_add] at this
  unfold grp
  omega
theorem nextL_spec {S : Ob} {lim : Int32} : ∀ (m k : Nat) (best : Int32), k + m = 21 → (best = -1 ∨ (okI best 21 ∧ ¬ S.2 3 best.toNatClampNeg = 0 ∧ ¬ lim ≤ S.2 0 best.toNatClampNeg >>> (S.1 12 &&& 31))) → (nextL S lim m k best = -1 ∨ (okI (nextL S lim m k best) 21 ∧ ¬ S.2 3 (nextL S lim m k best).toNatClampNeg = 0 ∧ ¬ lim ≤ S.2 0 (nextL S lim m k best).toNatClampNeg >>> (S.1 12 &&& 31))) := by
  intro m
  induction m with
  | zero => intro k best _ h; exact h
  | succ m ih =>
    intro k best hk h
    unfold nextL
    refine ih (k + 1) _ (by omega) ?_
    have hkn := n_of (k := k) (by omega)
    have hn : okI (Int32.ofNat k) 21 := ok_iff.mpr (by rw [i_ofNat (by omega)]; omega)
    unfold nextStep
    by_cases c1 : S.2 3 k = 0
    · rw [if_pos c1]; exact h
    · rw [if_neg c1]
      by_cases c2 : S.2 2 k = 0
      · rw [if_pos c2]; exact h
      · rw [if_neg c2]
        by_cases c3 : lim ≤ S.2 0 k >>> (S.1 12 &&& 31)
        · rw [if_pos c3]; exact h
        · rw [if_neg c3]
          have hnew : okI (Int32.ofNat k) 21 ∧ ¬ S.2 3 (Int32.ofNat k).toNatClampNeg = 0 ∧ ¬ lim ≤ S.2 0 (Int32.ofNat k).toNatClampNeg >>> (S.1 12 &&& 31) := by rw [hkn]; exact ⟨hn, c1, c3⟩
          by_cases c4 : best = -1
          · rw [if_pos c4]; exact Or.inr hnew
          · rw [if_neg c4]
            by_cases c5 : precF S (Int32.ofNat k) best = 0
            · rw [if_pos c5]; exact h
            · rw [if_neg c5]; exact Or.inr hnew
theorem next_spec {S : Ob} {sh : Int32} : nextF S sh = -1 ∨ mayIn S (nextF S sh) := by
  rcases nextL_spec (S := S) (lim := limF S (S.1 12) sh) 21 0 (-1) (by omega) (Or.inl rfl) with h | ⟨h1, h2, h3⟩
  · exact Or.inl h
  · exact Or.inr ⟨h1, h2, below_nest h3⟩
theorem can_spec {S : Ob} {k : Int32} (hk : okI k 21) (h : ¬ canF S k = 0) : mayIn S k := by
  unfold canF couldF at h
  by_cases c1 : S.2 3 k.toNatClampNeg = 0
  · rw [if_pos c1] at h; exact absurd rfl h
  · rw [if_neg c1] at h
    by_cases c2 : S.2 2 k.toNatClampNeg = 0
    · rw [if_pos c2] at h; exact absurd rfl h
    · rw [if_neg c2] at h
      by_cases c3 : limF S (S.1 12) (S.1 14) ≤ S.2 0 k.toNatClampNeg >>> (S.1 12 &&& 31)
      · rw [if_pos c3] at h; exact absurd rfl h
      · exact ⟨hk, c1, below_nest c3⟩
theorem depth_room {nw : Bool} {S M : Ob} {r : Nat → Int32} {n : Int32} (h : rS nw S M r) (hn : mayIn S n) : (S.1 10).toInt < 21 := by
  obtain ⟨⟨⟨a1, a2, a3⟩, b, -⟩, -⟩ := h.1.1.1
  obtain ⟨n1, n2, n3⟩ := hn
  have d2 := h.2.1.2
  have := pigeon 21 ((S.1 10).toInt.toNat + 1) (fun i => if i < (S.1 10).toInt.toNat then (S.2 9 i).toNatClampNeg else n.toNatClampNeg) (by
    intro i hi
    show (if i < (S.1 10).toInt.toNat then (S.2 9 i).toNatClampNeg else n.toNatClampNeg) < 21
    by_cases c : i < (S.1 10).toInt.toNat
    · rw [if_pos c]
      have := ok_iff.mp (b i (by omega)).2
      rw [i_nat]; omega
    · rw [if_neg c]
      have := ok_iff.mp n1
      rw [i_nat]; omega) (by
    intro i j hij hj
    show ¬ (if i < (S.1 10).toInt.toNat then (S.2 9 i).toNatClampNeg else n.toNatClampNeg) = (if j < (S.1 10).toInt.toNat then (S.2 9 j).toNatClampNeg else n.toNatClampNeg)
    rw [if_pos (by omega)]
    by_cases c : j < (S.1 10).toInt.toNat
    · rw [if_pos c]
      intro e
      have := d2 i j hij (by omega)
      unfold grp at this
      rw [e] at this
      omega
    · rw [if_neg c]
      intro e
      have := n3 i (by omega)
      unfold grp at this
      rw [e] at this
      omega)
  omega
/-- the sources, once n has begun -/
def stS (S : Ob) (n c : Int32) : Ob := si (si (sa (sa (sa (sa (sa S 3 (upd (S.2 3) n.toNatClampNeg 0)) 4 (upd (S.2 4) n.toNatClampNeg 1)) 7 (upd (S.2 7) n.toNatClampNeg c)) 8 (upd (S.2 8) n.toNatClampNeg (if S.2 8 n.toNatClampNeg < c - S.2 6 n.toNatClampNeg then c - S.2 6 n.toNatClampNeg else S.2 8 n.toNatClampNeg))) 9 (upd (S.2 9) (S.1 10).toNatClampNeg n)) 10 (S.1 10 + 1)) 11 (if S.1 11 < S.1 10 + 1 then S.1 10 + 1 else S.1 11)
theorem start_class {S : Ob} {n c : Int32} {Q : Int32 → Ob → Prop} (hn : okI n 21) (h0 : 0 ≤ (S.1 10).toInt) (hd : (S.1 10).toInt < 21) (h : Q (c - S.2 6 n.toNatClampNeg) (stS S n c)) : wp_X5_start S n c Q := by
  unfold wp_X5_start
  refine ⟨hn, fun x1 e1 => ⟨hn, fun T2 e2 => ⟨hn, fun T3 e3 => ⟨hn, fun T4 e4 => ⟨hn, fun x5 e5 => ⟨hn, fun T6 e6 => ⟨fun d => ?_, fun d => ⟨?_, fun T10 e10 T11 e11 x12 e12 T13 e13 => ?_⟩⟩⟩⟩⟩⟩⟩⟩
  · subst e2; subst e3; subst e4; subst e6
    have d : (21 : Int32) ≤ S.1 10 := d
    rw [i_le] at d
    have e21 : (21 : Int32).toInt = 21 := rfl
    omega
  · subst e2; subst e3; subst e4; subst e6
    exact ok_iff.mpr ⟨h0, hd⟩
  · subst e1; subst e2; subst e3; subst e4; subst e5; subst e6; subst e10; subst e11; subst e12; subst e13
    exact h
/-- the reference's row, as far as the sources go -/
def bgr (r : Nat → Int32) (n : Int32) : Nat → Int32 := upd (upd (upd (upd (upd r (194 + n.toNatClampNeg) (-1)) (300 + n.toNatClampNeg) 1) (321 + n.toNatClampNeg) (r 25)) (152 + (r 30).toNatClampNeg) n) 30 (r 30 + 1)
def bM3 (M : Ob) (d w n : Int32) : Ob := if M.1 14 = 0 then M else if w ≤ M.2 13 n.toNatClampNeg then (if d ≤ M.2 6 12 then M else sa M 6 (upd (M.2 6) 12 d)) else sa (if d ≤ M.2 6 12 then M else sa M 6 (upd (M.2 6) 12 d)) 13 (upd (M.2 13) n.toNatClampNeg w)
theorem b3_off {M : Ob} {d w n : Int32} (h : M.1 14 = 0) : bM3 M d w n = M := by unfold bM3; rw [if_pos h]
theorem b3_1 (M : Ob) (d w n : Int32) : (bM3 M d w n).1 = M.1 := by unfold bM3; repeat' split
                                                                    all_goals rfl
theorem b3_2 {M : Ob} {d w n : Int32} {j : Nat} (h6 : ¬ j = 6) (h13 : ¬ j = 13) : (bM3 M d w n).2 j = M.2 j := by
  unfold bM3
  repeat' split
  all_goals first | rfl | (rw [sa_ne h13, sa_ne h6]; done) | (rw [sa_ne h13]; done) | (rw [sa_ne h6]; done)
theorem b3_6 {M : Ob} {d w n : Int32} {j : Nat} (h12 : ¬ j = 12) : (bM3 M d w n).2 6 j = M.2 6 j := by
  unfold bM3
  repeat' split
  all_goals first | rfl | (rw [sa_ne (by decide), sa_self, up_ne h12]; done) | (rw [sa_ne (by decide)]; done) | (rw [sa_self, up_ne h12]; done)
theorem b3_12 {M : Ob} {d w n : Int32} (h : M.1 14 = 1) : (bM3 M d w n).2 6 12 = if d ≤ M.2 6 12 then M.2 6 12 else d := by
  unfold bM3
  rw [if_neg (by rw [h]; decide)]
  by_cases c1 : w ≤ M.2 13 n.toNatClampNeg <;> by_cases c2 : d ≤ M.2 6 12
  · rw [if_pos c1, if_pos c2, if_pos c2]
  · rw [if_pos c1, if_neg c2, if_neg c2, sa_self, up_eq]
  · rw [if_neg c1, if_pos c2, if_pos c2, sa_ne (by decide)]
  · rw [if_neg c1, if_neg c2, if_neg c2, sa_ne (by decide), sa_self, up_eq]
theorem b3_13 {M : Ob} {d w n : Int32} (h : M.1 14 = 1) : (bM3 M d w n).2 13 = upd (M.2 13) n.toNatClampNeg (if w ≤ M.2 13 n.toNatClampNeg then M.2 13 n.toNatClampNeg else w) := by
  unfold bM3
  rw [if_neg (by rw [h]; decide)]
  by_cases c1 : w ≤ M.2 13 n.toNatClampNeg
  · rw [if_pos c1, if_pos c1]
    have e : M.2 13 = upd (M.2 13) n.toNatClampNeg (M.2 13 n.toNatClampNeg) := by
      funext j
      by_cases c : j = n.toNatClampNeg
      · rw [c, up_eq]
      · rw [up_ne c]
    by_cases c2 : d ≤ M.2 6 12
    · rw [if_pos c2]; exact e
    · rw [if_neg c2, sa_ne (by decide)]; exact e
  · rw [if_neg c1, if_neg c1, sa_self]
theorem rS_start {nw : Bool} {S M : Ob} {r : Nat → Int32} {n c : Int32} (h : rS nw S M r) (hn : mayIn S n) (hc : c = r 25) (hnw : M.1 14 = if nw = true then 1 else 0) : rS nw (stS S n c) (bM3 M (r 30 + 1) (r 25 - r (194 + n.toNatClampNeg)) n) (bgr r n) := by
  have hd21 := depth_room h hn
  obtain ⟨n1, n2, n3⟩ := hn
  obtain ⟨hk0, hk1⟩ := ok_iff.mp n1
  obtain ⟨⟨⟨⟨⟨⟨a1, a2, a3⟩, b, cc, d, f⟩, K, P, E, Sp⟩, sh, hd⟩, q1, q2, q3, q4, q5, q6⟩, nn, o⟩ := h
  obtain ⟨q, hq⟩ : ∃ q, n.toNatClampNeg = q := ⟨_, rfl⟩
  have hkn : q < 21 := by rw [← hq, i_nat]; omega
  obtain ⟨e, he⟩ : ∃ e, (S.1 10).toNatClampNeg = e := ⟨_, rfl⟩
  have hen : (S.1 10).toInt = (e : Int) := by rw [← he, i_nat]; omega
  have s10 : (stS S n c).1 10 = S.1 10 + 1 := rfl
  have e11 : (1 : Int32).toInt = 1 := rfl
  have s10n : (S.1 10 + 1).toInt = (e : Int) + 1 := by rw [i_add (by omega) (by omega), hen, e11]
  have s0 : (stS S n c).2 0 = S.2 0 := rfl
  have s3 : (stS S n c).2 3 = upd (S.2 3) q 0 := by rw [← hq]; rfl
  have s4 : (stS S n c).2 4 = upd (S.2 4) q 1 := by rw [← hq]; rfl
  have s5 : (stS S n c).2 5 = S.2 5 := rfl
  have s7 : (stS S n c).2 7 = upd (S.2 7) q c := by rw [← hq]; rfl
  have s9 : (stS S n c).2 9 = upd (S.2 9) e n := by rw [← he]; rfl
  have hgr : bgr r n = upd (upd (upd (upd (upd r (194 + q) (-1)) (300 + q) 1) (321 + q) (r 25)) (152 + e) n) 30 (r 30 + 1) := by
    unfold bgr
    rw [hq, ← a1, he]
  rw [hgr]
  generalize hr' : upd (upd (upd (upd (upd r (194 + q) (-1)) (300 + q) 1) (321 + q) (r 25)) (152 + e) n) 30 (r 30 + 1) = r'
  have g : ∀ j : Nat, ¬ j = 30 → ¬ j = 152 + e → ¬ j = 321 + q → ¬ j = 300 + q → ¬ j = 194 + q → r' j = r j := fun j z1 z2 z3 z4 z5 => by rw [← hr', up_ne z1, up_ne z2, up_ne z3, up_ne z4, up_ne z5]
  have g30 : r' 30 = r 30 + 1 := by rw [← hr', up_eq]
  have g152 : r' (152 + e) = n := by rw [← hr', up_ne (by omega), up_eq]
  have g321 : r' (321 + q) = r 25 := by rw [← hr', up_ne (by omega), up_ne (by omega), up_eq]
  have g300 : r' (300 + q) = 1 := by rw [← hr', up_ne (by omega), up_ne (by omega), up_ne (by omega), up_eq]
  have g194 : r' (194 + q) = -1 := by rw [← hr', up_ne (by omega), up_ne (by omega), up_ne (by omega), up_ne (by omega), up_eq]
  have q4' : ∀ k : Nat, k < 21 → (stS S n c).2 4 k = r' (300 + k) ∧ isB ((stS S n c).2 4 k) := by
    intro k hk
    rw [s4]
    by_cases z : k = q
    · subst z; rw [up_eq, g300]; exact ⟨rfl, isB1⟩
    · rw [up_ne z, g (300 + k) (by omega) (by omega) (by omega) (by omega) (by omega)]; exact q4 k hk
  refine ⟨⟨⟨⟨⟨⟨?_, ?_, ?_⟩, fun k hk => ?_, fun k hk => ?_, d, ?_⟩, K, fun k hk => ?_, fun k hk => ?_, ?_, Sp.2⟩, ?_, ?_⟩, q1, q2, fun k hk => ?_, q4', fun k hk => ?_, fun k hk => ?_⟩, ⟨fun i hi => ?_, fun i j hij hj => ?_⟩, fun hn => ?_⟩
  · rw [s10, g30, a1]
  · rw [s10, s10n]; omega
  · rw [s10, s10n]; omega
  · rw [s10, s10n] at hk
    rw [s9]
    by_cases z : k = e
    · subst z; rw [up_eq, g152]; exact ⟨rfl, n1⟩
    · rw [up_ne z, g (152 + k) (by omega) (by omega) (by omega) (by omega) (by omega)]; exact b k (by omega)
  · rw [s0, g (173 + k) (by omega) (by omega) (by omega) (by omega) (by omega)]; exact cc k hk
  · rw [g 17 (by omega) (by omega) (by omega) (by omega) (by omega)]; exact f
  · rw [s3]
    by_cases z : k = q
    · subst z; rw [up_eq, g194]; exact ⟨fun _ => by decide, fun _ => rfl⟩
    · rw [up_ne z, g (194 + k) (by omega) (by omega) (by omega) (by omega) (by omega)]; exact P k hk
  · rw [b3_2 (by decide) (by decide)]; exact E k hk
  · rw [b3_1]; exact Sp.1
  · rw [g 16 (by omega) (by omega) (by omega) (by omega) (by omega)]; exact sh
  · have := (q4' 20 (by omega)).1
    rw [this]
  · rw [s3]
    by_cases z : k = q
    · subst z; rw [up_eq]; exact isB0
    · rw [up_ne z]; exact q3 k hk
  · rw [s5, g (215 + k) (by omega) (by omega) (by omega) (by omega) (by omega)]; exact q5 k hk
  · rw [b3_2 (by decide) (by decide)]; exact q6 k hk
  · rw [s10, s10n] at hi
    rw [s4, s9]
    by_cases z : i = e
    · subst z; rw [up_eq, hq, up_eq]
    · rw [up_ne z]
      by_cases z2 : (S.2 9 i).toNatClampNeg = q
      · rw [z2, up_eq]
      · rw [up_ne z2]; exact nn.1 i (by omega)
  · rw [s10, s10n] at hj
    have eg : ∀ x : Int32, grp (stS S n c) x = grp S x := fun _ => rfl
    rw [eg, eg, s9]
    by_cases z : j = e
    · subst z
      rw [up_eq, up_ne (by omega)]
      exact n3 i (by omega)
    · rw [up_ne z, up_ne (by omega)]
      exact nn.2 i j hij (by omega)
  · obtain ⟨o1, o2, o3, o4, o5⟩ := o hn
    have hM : M.1 14 = 1 := by rw [hnw, hn]; rfl
    have hpq : S.2 3 q = 1 := isB_ne (q3 q hkn) (by rw [← hq]; exact n2)
    have hsq := o1 q hkn hpq
    refine ⟨fun k hk hp => ?_, fun k hk hp => ?_, fun k hk => ?_, ?_, ?_⟩
    · rw [s3] at hp
      by_cases z : k = q
      · subst z; rw [up_eq] at hp; exact absurd hp (by decide)
      · rw [up_ne z] at hp
        rw [g (194 + k) (by omega) (by omega) (by omega) (by omega) (by omega)]
        exact o1 k hk hp
    · rw [s7]
      by_cases z : k = q
      · subst z; rw [up_eq, g321]; exact hc
      · rw [s4, up_ne z] at hp
        rw [up_ne z, g (321 + k) (by omega) (by omega) (by omega) (by omega) (by omega)]
        exact o2 k hk hp
    · rw [b3_13 hM, hq]
      show upd (S.2 8) n.toNatClampNeg (if S.2 8 n.toNatClampNeg < c - S.2 6 n.toNatClampNeg then c - S.2 6 n.toNatClampNeg else S.2 8 n.toNatClampNeg) k = _
      rw [hq]
      by_cases z : k = q
      · subst z
        rw [up_eq, up_eq, ← hsq, ← hc, o3 k hk]
        by_cases y : M.2 13 k < c - S.2 6 k
        · rw [if_pos y, if_neg (by rw [i_lt] at y; rw [i_le]; omega)]
        · rw [if_neg y, if_pos (by rw [i_lt] at y; rw [i_le]; omega)]
      · rw [up_ne z, up_ne z]; exact o3 k hk
    · rw [b3_12 hM]
      show (if S.1 11 < S.1 10 + 1 then S.1 10 + 1 else S.1 11) = _
      rw [← a1, ← o4]
      by_cases y : S.1 11 < S.1 10 + 1
      · rw [if_pos y, if_neg (by rw [i_lt] at y; rw [i_le]; omega)]
      · rw [if_neg y, if_pos (by rw [i_lt] at y; rw [i_le]; omega)]
    · rw [b3_6 (by decide)]
      exact o5
