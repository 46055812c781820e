/-! LAYER 2: the next one, on both sides -/
def nextStep (S : Ob) (lim : Int32) (k : Nat) (best : Int32) : Int32 := if S.2 3 k = 0 then best else if S.2 2 k = 0 then best else if lim ≤ S.2 0 k >>> (S.1 12 &&& 31) then best else if best = -1 then Int32.ofNat k else if precF S (Int32.ofNat k) best = 0 then best else Int32.ofNat k
def nextL (S : Ob) (lim : Int32) : Nat → Nat → Int32 → Int32
  | 0, _, best => best
  | m + 1, k, best => nextL S lim m (k + 1) (nextStep S lim k best)
def nextF (S : Ob) (shut : Int32) : Int32 := nextL S (limF S (S.1 12) shut) 21 0 (-1)
def okB (best : Int32) : Prop := best = -1 ∨ okI best 21
theorem step_ok {S : Ob} {lim best : Int32} {k : Nat} (hk : k < 21) (h : okB best) : okB (nextStep S lim k best) := by
  have hn : okB (Int32.ofNat k) := Or.inr (ok_iff.mpr (by rw [i_ofNat (by omega)]; omega))
  unfold nextStep
  repeat' split
  all_goals first | exact h | exact hn
theorem next_loop {S : Ob} {lim : Int32} {Q : Int32 → Ob → Prop} : ∀ (m k n : Nat) (best : Int32), k + m = 21 → m < n → okB best → Q (nextL S lim m k best) S → wp_X5_nextBy_L15 Q n lim best (Int32.ofNat k) S := by
  intro m
  induction m with
  | zero =>
    intro k n best hk hn hb h
    obtain ⟨n, rfl⟩ : ∃ z, n = z + 1 := ⟨n - 1, by omega⟩
    unfold wp_X5_nextBy_L15
    have hk0 := i_ofNat (k := k) (by omega)
    have h21 : (21 : Int32).toInt = 21 := rfl
    exact ⟨fun _ => h, fun c => absurd (i_le.mpr (by omega)) c⟩
  | succ m ih =>
    intro k n best hk hn hb h
    obtain ⟨n, rfl⟩ : ∃ z, n = z + 1 := ⟨n - 1, by omega⟩
    unfold wp_X5_nextBy_L15
    have hk0 := i_ofNat (k := k) (by omega)
    have hkn := n_of (k := k) (by omega)
    have hks := of_succ (k := k) (by omega)
    have h21 : (21 : Int32).toInt = 21 := rfl
    have hok : okI (Int32.ofNat k) 21 := ok_iff.mpr (by omega)
    have hs := step_ok (S := S) (lim := lim) (k := k) (by omega) hb
    unfold nextL at h
    have go : ∀ z : Int32, z = Int32.ofNat k + 1 → ∀ b2 : Int32, b2 = nextStep S lim k best → wp_X5_nextBy_L15 Q n lim b2 z S := fun z hz b2 hb2 => by
      rw [hz, hks, hb2]
      exact ih (k + 1) n _ (by omega) (by omega) hs h
    refine ⟨fun c => absurd (i_le.mp c) (by omega), fun _ => ⟨hok, ?_⟩⟩
    rw [hkn]
    refine ⟨fun c1 z hz => go z hz _ (by unfold nextStep; rw [if_pos c1]), fun c1 => ⟨hok, fun c2 z hz => go z hz _ (by unfold nextStep; rw [if_neg c1, if_pos c2]), fun c2 => ⟨hok, fun c3 z hz => go z hz _ (by unfold nextStep; rw [if_neg c1, if_neg c2, if_pos c3]), fun c3 => ⟨fun c4 z hz => go z hz _ (by unfold nextStep; rw [if_neg c1, if_neg c2, if_neg c3, if_pos c4]), fun c4 => ?_⟩⟩⟩⟩
    refine prec_class hok (hb.resolve_left c4) ?_
    exact ⟨fun c5 z hz => go z hz _ (by unfold nextStep; rw [if_neg c1, if_neg c2, if_neg c3, if_neg c4, if_pos c5]), fun c5 z hz => go z hz _ (by unfold nextStep; rw [if_neg c1, if_neg c2, if_neg c3, if_neg c4, if_neg c5])⟩
theorem next_class {S : Ob} {shut : Int32} {Q : Int32 → Ob → Prop} (hns : ∀ k : Nat, (k : Int) < (S.1 10).toInt → okI (S.2 9 k) 21) (hd0 : 0 ≤ (S.1 10).toInt) (hd : (S.1 10).toInt ≤ 21) (h : Q (nextF S shut) S) : wp_X5_nextBy S shut Q := by
  unfold wp_X5_nextBy
  refine lim_class hns hd0 hd ?_
  exact next_loop 21 0 2000 (-1) (by omega) (by omega) (Or.inl rfl) h
/-- what 'next' reads: class's Sources against the reference's own fields and its row -/
def nextR (S M : Ob) (r : Nat → Int32) : Prop := limR S r ∧ rkOK S ∧ (∀ k : Nat, k < 21 → (S.2 3 k = 0 ↔ r (194 + k) < 0)) ∧ (∀ k : Nat, k < 21 → S.2 2 k = M.2 2 k) ∧ S.1 12 = M.1 3 ∧ 0 ≤ (S.1 12).toInt ∧ (S.1 12).toInt ≤ 7
theorem nextm_loop {S M : Ob} {r : Nat → Int32} {lim : Int32} {nw : Bool} {Q : Int32 → (Ob × (Nat → Int32)) → Prop} (R : nextR S M r) : ∀ (m k n : Nat) (best : Int32), k + m = 21 → m < n → okB best → Q (nextL S lim m k best) (M, r) → wp_X8_nextOf_L16 nw Q n lim best (Int32.ofNat k) (M, r) := by
  obtain ⟨RL, RK, RP, RE, RS, b0, b7⟩ := R
  intro m
  induction m with
  | zero =>
    intro k n best hk hn hb h
    obtain ⟨n, rfl⟩ : ∃ z, n = z + 1 := ⟨n - 1, by omega⟩
    unfold wp_X8_nextOf_L16
    have hk0 := i_ofNat (k := k) (by omega)
    have h21 : (21 : Int32).toInt = 21 := rfl
    exact ⟨fun _ => h, fun c => absurd (i_le.mpr (by omega)) c⟩
  | succ m ih =>
    intro k n best hk hn hb h
    obtain ⟨n, rfl⟩ : ∃ z, n = z + 1 := ⟨n - 1, by omega⟩
    unfold wp_X8_nextOf_L16
    dsimp only
    have hk0 := i_ofNat (k := k) (by omega)
    have hkn := n_of (k := k) (by omega)
    have hks := of_succ (k := k) (by omega)
    have h21 : (21 : Int32).toInt = 21 := rfl
    have h194 : (194 : Int32).toInt = 194 := rfl
    have hok : okI (Int32.ofNat k) 21 := ok_iff.mpr (by omega)
    have ha : (194 + Int32.ofNat k).toInt = 194 + (k : Int) := by rw [i_add (by omega) (by omega), h194, hk0]
    have hn2 : (194 + Int32.ofNat k).toNatClampNeg = 194 + k := by rw [i_nat, ha]; omega
    have hs := step_ok (S := S) (lim := lim) (k := k) (by omega) hb
    have hneg : best < 0 ↔ best = -1 := by
      rw [i_lt, i_eq]
      have e1 : (-1 : Int32).toInt = -1 := rfl
      have e0 : (0 : Int32).toInt = 0 := rfl
      rw [e1, e0]
      rcases hb with e | e
      · rw [e, e1]; omega
      · have := ok_iff.mp e; omega
    unfold nextL at h
    have go : ∀ z : Int32, z = Int32.ofNat k + 1 → ∀ b2 : Int32, b2 = nextStep S lim k best → wp_X8_nextOf_L16 nw Q n lim b2 z (M, r) := fun z hz b2 hb2 => by
      rw [hz, hks, hb2]
      exact ih (k + 1) n _ (by omega) (by omega) hs h
    refine ⟨fun c => absurd (i_le.mp c) (by omega), fun _ => ⟨ok_iff.mpr (by omega), ?_⟩⟩
    rw [hn2, hkn, ← RE k (by omega), ← RP k (by omega)]
    refine ⟨fun c1 z hz => go z hz _ (by unfold nextStep; rw [if_pos c1]), fun c1 => ⟨hok, fun c2 z hz => go z hz _ (by unfold nextStep; rw [if_neg c1, if_pos c2]), fun c2 => ?_⟩⟩
    rw [← RS]
    refine b_group RL hok b0 b7 ?_
    rw [hkn]
    refine ⟨fun c3 z hz => go z hz _ (by unfold nextStep; rw [if_neg c1, if_neg c2, if_pos c3]), fun c3 => ⟨fun c4 z hz => go z hz _ (by unfold nextStep; rw [if_neg c1, if_neg c2, if_neg c3, if_pos (hneg.mp c4)]), fun c4 => ?_⟩⟩
    have c4 : ¬ best = -1 := fun e => c4 (hneg.mpr e)
    refine less_model RL RK (by rw [← RS]; exact b0) (by rw [← RS]; exact b7) hok (hb.resolve_left c4) ?_
    exact ⟨fun c5 z hz => go z hz _ (by unfold nextStep; rw [if_neg c1, if_neg c2, if_neg c3, if_neg c4, if_pos c5]), fun c5 z hz => go z hz _ (by unfold nextStep; rw [if_neg c1, if_neg c2, if_neg c3, if_neg c4, if_neg c5])⟩
theorem next_model {S M : Ob} {r : Nat → Int32} {sh shut : Int32} {nw : Bool} {Q : Int32 → (Ob × (Nat → Int32)) → Prop} (R : nextR S M r) (hsh : shut = 1 ↔ ¬ sh = 0) (h : Q (nextF S shut) (M, r)) : wp_X8_nextOf nw (M, r) sh Q := by
  unfold wp_X8_nextOf
  dsimp only
  rw [← R.2.2.2.2.1]
  refine lim_model R.1 R.2.2.2.2.2.1 R.2.2.2.2.2.2 hsh ?_
  exact nextm_loop R 21 0 2000 (-1) (by omega) (by omega) (Or.inl rfl) h
