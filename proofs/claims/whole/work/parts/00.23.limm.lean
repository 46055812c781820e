/-! LAYER 2: the limit, the reference's side -/
theorem small7 {b : Int32} (h0 : 0 ≤ b.toInt) (h7 : b.toInt ≤ 7) : b = 0 ∨ b = 1 ∨ b = 2 ∨ b = 3 ∨ b = 4 ∨ b = 5 ∨ b = 6 ∨ b = 7 := by
  have e : ∀ k : Nat, k < 8 → b.toInt = (k : Int) → b = Int32.ofNat k := fun k hk h => i_eq.mpr (by rw [i_ofNat (by omega)]; exact h)
  rcases (show b.toInt = 0 ∨ b.toInt = 1 ∨ b.toInt = 2 ∨ b.toInt = 3 ∨ b.toInt = 4 ∨ b.toInt = 5 ∨ b.toInt = 6 ∨ b.toInt = 7 by omega) with h | h | h | h | h | h | h | h
  · exact Or.inl (e 0 (by omega) h)
  · exact Or.inr (Or.inl (e 1 (by omega) h))
  · exact Or.inr (Or.inr (Or.inl (e 2 (by omega) h)))
  · exact Or.inr (Or.inr (Or.inr (Or.inl (e 3 (by omega) h))))
  · exact Or.inr (Or.inr (Or.inr (Or.inr (Or.inl (e 4 (by omega) h)))))
  · exact Or.inr (Or.inr (Or.inr (Or.inr (Or.inr (Or.inl (e 5 (by omega) h))))))
  · exact Or.inr (Or.inr (Or.inr (Or.inr (Or.inr (Or.inr (Or.inl (e 6 (by omega) h)))))))
  · exact Or.inr (Or.inr (Or.inr (Or.inr (Or.inr (Or.inr (Or.inr (e 7 (by omega) h)))))))
theorem m1_shr {b : Int32} (h0 : 0 ≤ b.toInt) (h7 : b.toInt ≤ 7) : (-1 : Int32) >>> (b &&& 31) = -1 := by
  rcases small7 h0 h7 with rfl | rfl | rfl | rfl | rfl | rfl | rfl | rfl <;> decide
theorem nm_le (rk ns : Nat → Int32) (b : Int32) : ∀ (m k : Nat) (y : Int32), (nestMin rk ns b m k y).toInt ≤ y.toInt := by
  intro m
  induction m with
  | zero => intro k y; exact Int.le_refl _
  | succ m ih =>
    intro k y
    unfold nestMin
    refine Int.le_trans (ih (k + 1) _) ?_
    split
    · exact Int.le_refl _
    · rename_i c
      rw [i_le] at c
      omega
theorem nm_min (rk ns : Nat → Int32) (b : Int32) : ∀ (m k : Nat) (y z : Int32), y.toInt ≤ z.toInt → (nestMin rk ns b m k y).toInt = min y.toInt (nestMin rk ns b m k z).toInt := by
  intro m
  induction m with
  | zero => intro k y z h; unfold nestMin; omega
  | succ m ih =>
    intro k y z h
    unfold nestMin
    generalize rk (Int32.toNatClampNeg (ns k)) >>> (b &&& 31) = g
    have h1 := ih (k + 1) (if y ≤ g then y else g) (if z ≤ g then z else g) (by
      by_cases c : y ≤ g <;> by_cases d : z ≤ g <;> simp only [c, d, if_true, if_false] <;> rw [i_le] at c d <;> omega)
    have h2 := nm_le rk ns b m (k + 1) (if z ≤ g then z else g)
    rw [h1]
    generalize (nestMin rk ns b m (k + 1) (if z ≤ g then z else g)).toInt = N at *
    by_cases c : y ≤ g <;> by_cases d : z ≤ g <;> simp only [c, d, if_true, if_false] at h2 ⊢ <;> rw [i_le] at c d <;> omega
/-- the reference's row and the class's sources: what the limit reads -/
def limR (S : Ob) (r : Nat → Int32) : Prop :=
  (S.1 10 = r 30 ∧ 0 ≤ (S.1 10).toInt ∧ (S.1 10).toInt ≤ 21) ∧ (∀ k : Nat, (k : Int) < (S.1 10).toInt → S.2 9 k = r (152 + k) ∧ okI (S.2 9 k) 21) ∧ (∀ k : Nat, k < 20 → S.2 0 k = r (173 + k)) ∧ S.2 0 20 = -1 ∧ S.1 13 = r 17
theorem b_group {S : Ob} {r : Nat → Int32} {b k : Int32} {Q : Int32 → (Nat → Int32) → Prop} (R : limR S r) (hk : okI k 21) (hb0 : 0 ≤ b.toInt) (hb7 : b.toInt ≤ 7) (h : Q (S.2 0 (Int32.toNatClampNeg k) >>> (b &&& 31)) r) : wp_X8_groupOf r k b Q := by
  obtain ⟨hk0, hk1⟩ := ok_iff.mp hk
  unfold wp_X8_groupOf
  have h20 : (20 : Int32).toInt = 20 := rfl
  have h173 : (173 : Int32).toInt = 173 := rfl
  refine ⟨fun c => ?_, fun c => ?_⟩
  · have hne : k.toInt ≠ 20 := fun e => c (i_eq.mpr (by omega))
    have ha : (173 + k).toInt = 173 + k.toInt := by rw [i_add (by omega) (by omega), h173]
    refine ⟨ok_iff.mpr (by omega), ?_⟩
    have hn : (173 + k).toNatClampNeg = 173 + k.toNatClampNeg := by rw [i_nat, i_nat, ha]; omega
    rw [hn, ← R.2.2.1 k.toNatClampNeg (by rw [i_nat]; omega)]
    exact h
  · rw [c] at h
    have e : S.2 0 (Int32.toNatClampNeg 20) = -1 := R.2.2.2.1
    rw [e, m1_shr hb0 hb7] at h
    exact h
theorem limm_loop {S : Ob} {r : Nat → Int32} {b sh : Int32} {Q : Int32 → (Nat → Int32) → Prop} (R : limR S r) (hb0 : 0 ≤ b.toInt) (hb7 : b.toInt ≤ 7) : ∀ (m k n : Nat) (y : Int32), (S.1 10).toInt = (k : Int) + m → m < n →
    (∀ v : Int32, v = nestMin (S.2 0) (S.2 9) b m k y → Q (if sh = 0 then (if r 17 = 0 then v else if v ≤ r 17 >>> (b &&& 31) then v else r 17 >>> (b &&& 31)) else (if (if r 17 = 0 then v else if v ≤ r 17 >>> (b &&& 31) then v else r 17 >>> (b &&& 31)) ≤ 0 then (if r 17 = 0 then v else if v ≤ r 17 >>> (b &&& 31) then v else r 17 >>> (b &&& 31)) else 0)) r) → wp_X8_limitOf_L7 Q n b sh y (Int32.ofNat k) r := by
  have hd21 := R.1.2.2
  intro m
  induction m with
  | zero =>
    intro k n y hk hn h
    obtain ⟨n, rfl⟩ : ∃ z, n = z + 1 := ⟨n - 1, by omega⟩
    have h := h y rfl
    unfold wp_X8_limitOf_L7
    have hk0 := i_ofNat (k := k) (by omega)
    refine ⟨fun _ => ⟨fun c => ⟨fun d => ?_, fun d => ⟨fun f => ?_, fun f => ?_⟩⟩, fun c => ⟨fun g => ⟨fun d => ?_, fun d => ⟨fun f => ?_, fun f => ?_⟩⟩, fun g x hx => ⟨fun d => ?_, fun d => ⟨fun f => ?_, fun f => ?_⟩⟩⟩⟩, fun c => absurd (i_le.mpr (by rw [← R.1.1]; omega)) c⟩
    · simpa only [if_pos c, if_pos d] using h
    · simpa only [if_pos c, if_neg d, if_pos f] using h
    · simpa only [if_pos c, if_neg d, if_neg f] using h
    · simpa only [if_neg c, if_pos d, if_pos g] using h
    · simpa only [if_neg c, if_neg d, if_pos f, if_pos g] using h
    · simpa only [if_neg c, if_neg d, if_neg f, if_pos g] using h
    · subst hx; simpa only [if_neg c, if_pos d, if_neg g] using h
    · subst hx; simpa only [if_neg c, if_neg d, if_pos f, if_neg g] using h
    · subst hx; simpa only [if_neg c, if_neg d, if_neg f, if_neg g] using h
  | succ m ih =>
    intro k n y hk hn h
    obtain ⟨n, rfl⟩ : ∃ z, n = z + 1 := ⟨n - 1, by omega⟩
    unfold wp_X8_limitOf_L7
    have hk0 := i_ofNat (k := k) (by omega)
    have hks := of_succ (k := k) (by omega)
    have h152 : (152 : Int32).toInt = 152 := rfl
    have ha : (152 + Int32.ofNat k).toInt = 152 + (k : Int) := by rw [i_add (by omega) (by omega), h152, hk0]
    have hn2 : (152 + Int32.ofNat k).toNatClampNeg = 152 + k := by rw [i_nat, ha]; omega
    obtain ⟨e1, e2⟩ := R.2.1 k (by omega)
    refine ⟨fun c => absurd (i_le.mp c) (by rw [← R.1.1]; omega), fun _ => ⟨ok_iff.mpr (by omega), ?_⟩⟩
    rw [hn2, ← e1]
    refine b_group R e2 hb0 hb7 ?_
    unfold nestMin at h
    refine ⟨fun c z hz => ?_, fun c z hz => ?_⟩
    · rw [hz, hks]
      rw [if_pos c] at h
      exact ih (k + 1) n y (by omega) (by omega) h
    · rw [hz, hks]
      rw [if_neg c] at h
      exact ih (k + 1) n _ (by omega) (by omega) h
theorem lim_model {S : Ob} {r : Nat → Int32} {b sh shut : Int32} {Q : Int32 → (Nat → Int32) → Prop} (R : limR S r) (hb0 : 0 ≤ b.toInt) (hb7 : b.toInt ≤ 7) (hsh : shut = 1 ↔ ¬ sh = 0) (h : Q (limF S b shut) r) : wp_X8_limitOf r b sh Q := by
  unfold wp_X8_limitOf
  refine limm_loop R hb0 hb7 (S.1 10).toNatClampNeg 0 2000 256 (by rw [i_nat]; have := R.1.2.1; omega) (by rw [i_nat]; have := R.1.2.2; omega) ?_
  intro v hv
  suffices e : (if sh = 0 then (if r 17 = 0 then v else if v ≤ r 17 >>> (b &&& 31) then v else r 17 >>> (b &&& 31)) else (if (if r 17 = 0 then v else if v ≤ r 17 >>> (b &&& 31) then v else r 17 >>> (b &&& 31)) ≤ 0 then (if r 17 = 0 then v else if v ≤ r 17 >>> (b &&& 31) then v else r 17 >>> (b &&& 31)) else 0)) = limF S b shut by rw [e]; exact h
  unfold limF
  rw [R.2.2.2.2]
  generalize r 17 >>> (b &&& 31) = g
  have h256 : (256 : Int32).toInt = 256 := rfl
  have h0 : (0 : Int32).toInt = 0 := rfl
  have hle := nm_le (S.2 0) (S.2 9) b (S.1 10).toNatClampNeg 0 256
  have key : ∀ y : Int32, y.toInt ≤ 256 → (nestMin (S.2 0) (S.2 9) b (S.1 10).toNatClampNeg 0 y).toInt = min y.toInt v.toInt := fun y hy => by rw [hv]; exact nm_min _ _ _ _ _ y 256 (by omega)
  rw [← hv] at hle
  rw [i_eq]
  by_cases c1 : sh = 0
  · rw [if_pos c1, if_neg (fun q => (hsh.mp q) c1)]
    by_cases c2 : r 17 = 0
    · rw [if_pos c2, if_pos c2, key 256 (by omega)]; omega
    · rw [if_neg c2, if_neg c2]
      by_cases c3 : v ≤ g <;> by_cases c4 : 256 ≤ g <;> simp only [c3, c4, if_true, if_false] <;> rw [i_le] at c3 c4 <;> rw [key _ (by omega)] <;> omega
  · rw [if_neg c1, if_pos (hsh.mpr c1)]
    by_cases c2 : r 17 = 0
    · simp only [c2, if_true]
      by_cases c3 : v ≤ 0 <;> simp only [c3, if_true, if_false] <;> rw [i_le] at c3 <;> rw [key _ (by omega)] <;> omega
    · simp only [c2, if_false]
      by_cases c3 : v ≤ g <;> by_cases c4 : 0 ≤ g <;> simp only [c3, c4, if_true, if_false] <;> rw [i_le] at c3 c4
      · by_cases c5 : v ≤ 0 <;> simp only [c5, if_true, if_false] <;> rw [i_le] at c5 <;> rw [key _ (by omega)] <;> omega
      · by_cases c5 : v ≤ 0 <;> simp only [c5, if_true, if_false] <;> rw [i_le] at c5 <;> rw [key _ (by omega)] <;> omega
      · by_cases c5 : g ≤ 0 <;> simp only [c5, if_true, if_false] <;> rw [i_le] at c5 <;> rw [key _ (by omega)] <;> omega
      · by_cases c5 : g ≤ 0 <;> simp only [c5, if_true, if_false] <;> rw [i_le] at c5 <;> rw [key _ (by omega)] <;> omega
