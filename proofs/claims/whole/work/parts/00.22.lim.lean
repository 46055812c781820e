/-! LAYER 2: the limit, on both sides -/
theorem n_of {k : Nat} (h : k < 2147483648) : (Int32.ofNat k).toNatClampNeg = k := by rw [i_nat, i_ofNat h]; rfl
theorem of_succ {k : Nat} (h : k + 1 < 2147483648) : Int32.ofNat k + 1 = Int32.ofNat (k + 1) := by
  rw [i_eq, i_ofNat h]
  have h1 : (1 : Int32).toInt = 1 := rfl
  have h0 := i_ofNat (k := k) (by omega)
  rw [i_add (by omega) (by omega), h0, h1]
  omega
/-- the least of y and the groups of m of the nest, from place k on -/
def nestMin (rk ns : Nat → Int32) (b : Int32) : Nat → Nat → Int32 → Int32
  | 0, _, y => y
  | m + 1, k, y => nestMin rk ns b m (k + 1) (if y ≤ rk (Int32.toNatClampNeg (ns k)) >>> (b &&& 31) then y else rk (Int32.toNatClampNeg (ns k)) >>> (b &&& 31))
theorem lim_loop {S : Ob} {b : Int32} {Q : Int32 → Ob → Prop} (hns : ∀ k : Nat, (k : Int) < (S.1 10).toInt → okI (S.2 9 k) 21) (hd : (S.1 10).toInt ≤ 21) : ∀ (m k n : Nat) (y : Int32), (S.1 10).toInt = (k : Int) + m → m < n → Q (nestMin (S.2 0) (S.2 9) b m k y) S → wp_X5_limitBy_L40 Q n b y (Int32.ofNat k) S := by
  intro m
  induction m with
  | zero =>
    intro k n y hk hn h
    obtain ⟨n, rfl⟩ : ∃ z, n = z + 1 := ⟨n - 1, by omega⟩
    unfold wp_X5_limitBy_L40
    have hk0 := i_ofNat (k := k) (by omega)
    exact ⟨fun _ => h, fun c => absurd (i_le.mpr (by omega)) c⟩
  | succ m ih =>
    intro k n y hk hn h
    obtain ⟨n, rfl⟩ : ∃ z, n = z + 1 := ⟨n - 1, by omega⟩
    unfold wp_X5_limitBy_L40
    have hk0 := i_ofNat (k := k) (by omega)
    have hkn := n_of (k := k) (by omega)
    have hks := of_succ (k := k) (by omega)
    refine ⟨fun c => absurd (i_le.mp c) (by omega), fun _ => ⟨ok_iff.mpr (by omega), ?_, ?_⟩⟩
    · rw [hkn]
      exact hns k (by omega)
    · intro x hx
      rw [hkn] at hx
      unfold nestMin at h
      rw [← hx] at h
      refine ⟨fun c z hz => ?_, fun c z hz => ?_⟩
      · rw [hz, hks]
        rw [if_pos c] at h
        exact ih (k + 1) n y (by omega) (by omega) h
      · rw [hz, hks]
        rw [if_neg c] at h
        exact ih (k + 1) n x (by omega) (by omega) h
/-- the limit as the class has it -/
def limF (S : Ob) (b shut : Int32) : Int32 :=
  nestMin (S.2 0) (S.2 9) b (S.1 10).toNatClampNeg 0 (if shut = 1 then (if S.1 13 = 0 then 0 else if 0 ≤ S.1 13 >>> (b &&& 31) then 0 else S.1 13 >>> (b &&& 31)) else (if S.1 13 = 0 then 256 else if 256 ≤ S.1 13 >>> (b &&& 31) then 256 else S.1 13 >>> (b &&& 31)))
theorem lim_class {S : Ob} {b shut : Int32} {Q : Int32 → Ob → Prop} (hns : ∀ k : Nat, (k : Int) < (S.1 10).toInt → okI (S.2 9 k) 21) (hd0 : 0 ≤ (S.1 10).toInt) (hd : (S.1 10).toInt ≤ 21) (h : Q (limF S b shut) S) : wp_X5_limitBy S b shut Q := by
  have go : ∀ y : Int32, Q (nestMin (S.2 0) (S.2 9) b (S.1 10).toNatClampNeg 0 y) S → wp_X5_limitBy_L40 Q 2000 b y 0 S := fun y hy =>
    lim_loop hns hd (S.1 10).toNatClampNeg 0 2000 y (by rw [i_nat]; omega) (by rw [i_nat]; omega) hy
  unfold limF at h
  unfold wp_X5_limitBy
  refine ⟨fun c => ?_, fun c => ?_⟩
  · rw [if_neg c] at h
    refine ⟨fun d => ?_, fun d => ?_⟩
    · rw [if_pos d] at h; exact go _ h
    · rw [if_neg d] at h
      refine ⟨fun f => ?_, fun f x hx => ?_⟩
      · rw [if_pos f] at h; exact go _ h
      · rw [if_neg f] at h; rw [hx]; exact go _ h
  · rw [if_pos c] at h
    refine ⟨fun d => ?_, fun d => ?_⟩
    · rw [if_pos d] at h; exact go _ h
    · rw [if_neg d] at h
      refine ⟨fun f => ?_, fun f x hx => ?_⟩
      · rw [if_pos f] at h; exact go _ h
      · rw [if_neg f] at h; rw [hx]; exact go _ h
