/-! LAYER 2: who comes ahead, on both sides -/
theorem shr_t : ∀ b : Nat, b < 8 → ∀ r : Nat, r < 256 → (Int32.ofNat r >>> (Int32.ofNat b &&& 31)).toInt = ((r / 2 ^ b : Nat) : Int) ∧ ((Int32.ofNat r >>> (Int32.ofNat b &&& 31)) <<< (Int32.ofNat b &&& 31)).toInt = ((r / 2 ^ b * 2 ^ b : Nat) : Int) ∧ (Int32.ofNat r &&& ((1 <<< (Int32.ofNat b &&& 31)) - 1)).toInt = ((r % 2 ^ b : Nat) : Int) := by decide +kernel
theorem of_nat {x : Int32} (h : 0 ≤ x.toInt) : x = Int32.ofNat x.toNatClampNeg := by
  rw [i_eq, i_ofNat (by rw [i_nat]; have := i_hi x; omega), i_nat]
  omega
/-- a rank: group and what is left over -/
theorem shr_r {r b : Int32} (h0 : 0 ≤ r.toInt) (h1 : r.toInt ≤ 255) (b0 : 0 ≤ b.toInt) (b7 : b.toInt ≤ 7) : (r >>> (b &&& 31)).toInt = ((r.toNatClampNeg / 2 ^ b.toNatClampNeg : Nat) : Int) ∧ ((r >>> (b &&& 31)) <<< (b &&& 31)).toInt = ((r.toNatClampNeg / 2 ^ b.toNatClampNeg * 2 ^ b.toNatClampNeg : Nat) : Int) ∧ (r &&& ((1 <<< (b &&& 31)) - 1)).toInt = ((r.toNatClampNeg % 2 ^ b.toNatClampNeg : Nat) : Int) := by
  have h := shr_t b.toNatClampNeg (by rw [i_nat]; omega) r.toNatClampNeg (by rw [i_nat]; omega)
  rw [← of_nat h0, ← of_nat b0] at h
  exact h
theorem sub_r {r b : Int32} (h0 : 0 ≤ r.toInt) (h1 : r.toInt ≤ 255) (b0 : 0 ≤ b.toInt) (b7 : b.toInt ≤ 7) : (r - ((r >>> (b &&& 31)) <<< (b &&& 31))).toInt = ((r.toNatClampNeg % 2 ^ b.toNatClampNeg : Nat) : Int) := by
  obtain ⟨e1, e2, -⟩ := shr_r h0 h1 b0 b7
  have e3 := Nat.div_add_mod r.toNatClampNeg (2 ^ b.toNatClampNeg)
  rw [Nat.mul_comm] at e3
  have e4 : ((r.toNatClampNeg : Nat) : Int) = r.toInt := by rw [i_nat]; omega
  rw [i_sub (by omega) (by omega), e2]
  omega
def precF (S : Ob) (i j : Int32) : Int32 := if S.2 0 i.toNatClampNeg = S.2 0 j.toNatClampNeg then (if j ≤ i then 0 else 1) else (if S.2 0 j.toNatClampNeg ≤ S.2 0 i.toNatClampNeg then 0 else 1)
theorem prec_class {S : Ob} {i j : Int32} {Q : Int32 → Ob → Prop} (hi : okI i 21) (hj : okI j 21) (h : Q (precF S i j) S) : wp_X5_precedes S i j Q := by
  unfold precF at h
  unfold wp_X5_precedes
  refine ⟨hi, hj, fun c => ⟨fun d => ?_, fun d => ?_⟩, fun c => ⟨hi, hj, fun d => ?_, fun d => ?_⟩⟩
  · rwa [if_pos c, if_pos d] at h
  · rwa [if_pos c, if_neg d] at h
  · rwa [if_neg c, if_pos d] at h
  · rwa [if_neg c, if_neg d] at h
/-- ranks are 0 to 255 -/
def rkOK (S : Ob) : Prop := ∀ k : Nat, k < 20 → 0 ≤ (S.2 0 k).toInt ∧ (S.2 0 k).toInt ≤ 255
/-- the sub that the reference reckons -/
def subF (S : Ob) (b k : Int32) : Int32 := if k = 20 then 0 else S.2 0 k.toNatClampNeg - ((S.2 0 k.toNatClampNeg >>> (b &&& 31)) <<< (b &&& 31))
theorem b_sub {S : Ob} {r : Nat → Int32} {b k : Int32} {Q : Int32 → (Nat → Int32) → Prop} (R : limR S r) (hk : okI k 21) (h : Q (subF S b k) r) : wp_X8_subOf r k b Q := by
  obtain ⟨hk0, hk1⟩ := ok_iff.mp hk
  unfold subF at h
  unfold wp_X8_subOf
  have h20 : (20 : Int32).toInt = 20 := rfl
  have h173 : (173 : Int32).toInt = 173 := rfl
  refine ⟨fun c => ?_, fun c => ?_⟩
  · have hne : k.toInt ≠ 20 := fun e => c (i_eq.mpr (by omega))
    have ha : (173 + k).toInt = 173 + k.toInt := by rw [i_add (by omega) (by omega), h173]
    refine ⟨ok_iff.mpr (by omega), ok_iff.mpr (by omega), ?_⟩
    have hn : (173 + k).toNatClampNeg = 173 + k.toNatClampNeg := by rw [i_nat, i_nat, ha]; omega
    rw [hn, ← R.2.2.1 k.toNatClampNeg (by rw [i_nat]; omega)]
    rwa [if_neg c] at h
  · rwa [if_pos c] at h
/-- what a source's group and sub are, as numbers -/
theorem gs_num {S : Ob} {r : Nat → Int32} {b k : Int32} (R : limR S r) (K : rkOK S) (hk : okI k 21) (b0 : 0 ≤ b.toInt) (b7 : b.toInt ≤ 7) :
    (k.toInt = 20 ∧ (S.2 0 k.toNatClampNeg).toInt = -1 ∧ (S.2 0 k.toNatClampNeg >>> (b &&& 31)).toInt = -1 ∧ (subF S b k).toInt = 0) ∨ (k.toInt ≠ 20 ∧ ∃ n q t : Nat, (n < 256 ∧ q < 256 ∧ t < 256) ∧ (q = n / 2 ^ b.toNatClampNeg ∧ t = n % 2 ^ b.toNatClampNeg) ∧ (S.2 0 k.toNatClampNeg).toInt = (n : Int) ∧ (S.2 0 k.toNatClampNeg >>> (b &&& 31)).toInt = (q : Int) ∧ (subF S b k).toInt = (t : Int)) := by
  obtain ⟨hk0, hk1⟩ := ok_iff.mp hk
  have h20 : (20 : Int32).toInt = 20 := rfl
  by_cases c : k = 20
  · have e : k.toNatClampNeg = 20 := by rw [c]; rfl
    refine Or.inl ⟨by rw [c]; rfl, by rw [e, R.2.2.2.1]; rfl, by rw [e, R.2.2.2.1, m1_shr b0 b7]; rfl, by unfold subF; rw [if_pos c]; rfl⟩
  · have hne : k.toInt ≠ 20 := fun e => c (i_eq.mpr (by omega))
    obtain ⟨r0, r1⟩ := K k.toNatClampNeg (by rw [i_nat]; omega)
    have hn : (S.2 0 k.toNatClampNeg).toNatClampNeg < 256 := by rw [i_nat (S.2 0 _)]; omega
    refine Or.inr ⟨hne, (S.2 0 k.toNatClampNeg).toNatClampNeg, _, _, ⟨hn, Nat.lt_of_le_of_lt (Nat.div_le_self _ _) hn, Nat.lt_of_le_of_lt (Nat.mod_le _ _) hn⟩, ⟨rfl, rfl⟩, by rw [i_nat (S.2 0 _)]; omega, (shr_r r0 r1 b0 b7).1, ?_⟩
    unfold subF
    rw [if_neg c]
    exact sub_r r0 r1 b0 b7
theorem lexi {p a c q t q2 t2 : Nat} (h1 : q = a / p ∧ t = a % p) (h2 : q2 = c / p ∧ t2 = c % p) : (q < q2 → a < c) ∧ (q = q2 → t < t2 → a < c) ∧ (q = q2 → t = t2 → a = c) := by
  obtain ⟨rfl, rfl⟩ := h1
  obtain ⟨rfl, rfl⟩ := h2
  have e1 := Nat.div_add_mod a p
  have e2 := Nat.div_add_mod c p
  refine ⟨fun h => ?_, fun h h2 => ?_, fun h h2 => ?_⟩
  · exact Nat.lt_of_div_lt_div h
  · rw [h] at e1; omega
  · rw [h] at e1; omega
theorem less_model {S M : Ob} {r : Nat → Int32} {i j : Int32} {nw : Bool} {Q : Int32 → (Ob × (Nat → Int32)) → Prop} (R : limR S r) (K : rkOK S) (b0 : 0 ≤ (M.1 3).toInt) (b7 : (M.1 3).toInt ≤ 7) (hi : okI i 21) (hj : okI j 21) (h : Q (precF S i j) (M, r)) : wp_X8_isLess nw (M, r) i j Q := by
  unfold wp_X8_isLess
  dsimp only
  refine b_group R hi b0 b7 (b_group R hj b0 b7 ?_)
  have ni := gs_num R K hi b0 b7
  have nj := gs_num R K hj b0 b7
  unfold precF at h
  have h0 : (0 : Int32).toInt = 0 := rfl
  generalize 2 ^ (M.1 3).toNatClampNeg = p at *
  show ∀ x5 : Int32, x5 = _ → _
  intro x hx
  refine ⟨fun c => b_sub R hi (b_sub R hj ?_), fun c => ⟨fun d => ?_, fun d => ?_⟩⟩
  · intro y hy
    rw [hx, i_eq] at c
    rcases ni with ⟨i1, i2, i3, i4⟩ | ⟨i1, n, q, t, in1, iq, i2, i3, i4⟩ <;> rcases nj with ⟨j1, j2, j3, j4⟩ | ⟨j1, m, q2, t2, jn1, jq, j2, j3, j4⟩
    · have hyi : y.toInt = 0 := by rw [hy, i_sub (by omega) (by omega)]; omega
      have er : S.2 0 i.toNatClampNeg = S.2 0 j.toNatClampNeg := i_eq.mpr (by omega)
      rw [if_pos er] at h
      refine ⟨fun _ => ⟨fun d => ?_, fun d => ?_⟩, fun d => absurd (i_eq.mpr (by omega)) d⟩
      · rwa [if_pos d] at h
      · rwa [if_neg d] at h
    · rw [i_sub (by omega) (by omega)] at c; omega
    · rw [i_sub (by omega) (by omega)] at c; omega
    · rw [i_sub (by omega) (by omega)] at c
      have eq1 : q = q2 := by omega
      have hyi : y.toInt = (t : Int) - (t2 : Int) := by rw [hy, i_sub (by omega) (by omega)]; omega
      have l1 := lexi iq jq
      have l2 := lexi jq iq
      refine ⟨fun d => ?_, fun d => ⟨fun f => ?_, fun f => ?_⟩⟩
      · rw [i_eq] at d
        have er : S.2 0 i.toNatClampNeg = S.2 0 j.toNatClampNeg := i_eq.mpr (by have := l1.2.2 eq1 (by omega); omega)
        rw [if_pos er] at h
        exact ⟨fun f => by rwa [if_pos f] at h, fun f => by rwa [if_neg f] at h⟩
      · rw [i_le] at f
        have hne : y.toInt ≠ 0 := fun e => d (i_eq.mpr (by omega))
        have := l2.2.1 eq1.symm (by omega)
        have er : ¬ S.2 0 i.toNatClampNeg = S.2 0 j.toNatClampNeg := fun e => by rw [i_eq] at e; omega
        rwa [if_neg er, if_pos (i_le.mpr (by omega))] at h
      · rw [i_le] at f
        have := l1.2.1 eq1 (by omega)
        have er : ¬ S.2 0 i.toNatClampNeg = S.2 0 j.toNatClampNeg := fun e => by rw [i_eq] at e; omega
        rwa [if_neg er, if_neg (fun q => by rw [i_le] at q; omega)] at h
  all_goals
    have hne : x.toInt ≠ 0 := fun e => c (i_eq.mpr (by omega))
    rw [i_le] at d
    rcases ni with ⟨i1, i2, i3, i4⟩ | ⟨i1, n, q, t, in1, iq, i2, i3, i4⟩ <;> rcases nj with ⟨j1, j2, j3, j4⟩ | ⟨j1, m, q2, t2, jn1, jq, j2, j3, j4⟩
  · rw [hx, i_sub (by omega) (by omega)] at hne; omega
  · rw [hx, i_sub (by omega) (by omega)] at d; omega
  · have er : ¬ S.2 0 i.toNatClampNeg = S.2 0 j.toNatClampNeg := fun e => by rw [i_eq] at e; omega
    rwa [if_neg er, if_pos (i_le.mpr (by omega))] at h
  · rw [hx, i_sub (by omega) (by omega)] at d hne
    have := (lexi jq iq).1 (by omega)
    have er : ¬ S.2 0 i.toNatClampNeg = S.2 0 j.toNatClampNeg := fun e => by rw [i_eq] at e; omega
    rwa [if_neg er, if_pos (i_le.mpr (by omega))] at h
  · rw [hx, i_sub (by omega) (by omega)] at hne; omega
  · have er : ¬ S.2 0 i.toNatClampNeg = S.2 0 j.toNatClampNeg := fun e => by rw [i_eq] at e; omega
    rwa [if_neg er, if_neg (fun q => by rw [i_le] at q; omega)] at h
  · rw [hx, i_sub (by omega) (by omega)] at d; omega
  · rw [hx, i_sub (by omega) (by omega)] at d hne
    have := (lexi iq jq).1 (by omega)
    have er : ¬ S.2 0 i.toNatClampNeg = S.2 0 j.toNatClampNeg := fun e => by rw [i_eq] at e; omega
    rwa [if_neg er, if_neg (fun q => by rw [i_le] at q; omega)] at h
