/-! LAYER 2, PURE: numbers -/
theorem i_nat (i : Int32) : i.toNatClampNeg = i.toInt.toNat := rfl
theorem i_lo (x : Int32) : -2147483648 ≤ x.toInt := by have := Int32.le_toInt x; simpa using this
theorem i_hi (x : Int32) : x.toInt < 2147483648 := by have := Int32.toInt_lt x; simpa using this
theorem i_lt {x y : Int32} : x < y ↔ x.toInt < y.toInt := Int32.lt_iff_toInt_lt
theorem i_le {x y : Int32} : x ≤ y ↔ x.toInt ≤ y.toInt := Int32.le_iff_toInt_le
theorem i_eq {x y : Int32} : x = y ↔ x.toInt = y.toInt := Int32.toInt_inj.symm
theorem i_add {x y : Int32} (h1 : -2147483648 ≤ x.toInt + y.toInt) (h2 : x.toInt + y.toInt < 2147483648) : (x + y).toInt = x.toInt + y.toInt := by
  rw [Int32.toInt_add]
  exact Int.bmod_eq_of_le (by simpa using h1) (by simpa using h2)
theorem i_sub {x y : Int32} (h1 : -2147483648 ≤ x.toInt - y.toInt) (h2 : x.toInt - y.toInt < 2147483648) : (x - y).toInt = x.toInt - y.toInt := by
  rw [Int32.toInt_sub]
  exact Int.bmod_eq_of_le (by simpa using h1) (by simpa using h2)
theorem ok_iff {i : Int32} {n : Nat} : okI i n ↔ 0 ≤ i.toInt ∧ i.toInt < (n : Int) := by
  unfold okI vp_in
  rw [i_nat, i_lt]
  have h0 : (0 : Int32).toInt = 0 := rfl
  rw [h0]
  omega
theorem i_ofNat {k : Nat} (h : k < 2147483648) : (Int32.ofNat k).toInt = (k : Int) := Int32.toInt_ofNat_of_lt (by simpa using h)
/-- a class's small methods: what they answer -/
theorem b_isBelow {p b : Int32} {Q : Int32 → Unit → Prop} (h : Q (if 0 ≤ p.toInt ∧ p.toInt < b.toInt then 1 else 0) ()) : wp_X7_isBelow () p b Q := by
  unfold wp_X7_isBelow
  have h0 : (0 : Int32).toInt = 0 := rfl
  refine ⟨fun c => ?_, fun c => ⟨fun d => ?_, fun d => ?_⟩⟩ <;> rw [i_lt, h0] at c
  · rwa [if_neg (by omega)] at h
  · rw [i_le] at d
    rwa [if_neg (by omega)] at h
  · rw [i_le] at d
    rwa [if_pos (by omega)] at h
theorem b_isPlace {p : Int32} {Q : Int32 → Unit → Prop} (h : Q (if 0 ≤ p.toInt ∧ p.toInt < 512 then 1 else 0) ()) : wp_X7_isPlace () p Q := by
  unfold wp_X7_isPlace
  have h0 : (0 : Int32).toInt = 0 := rfl
  have h5 : (511 : Int32).toInt = 511 := rfl
  refine ⟨fun c => ?_, fun c => ⟨fun d => ?_, fun d => ?_⟩⟩ <;> rw [i_lt, h0] at c
  · rwa [if_neg (by omega)] at h
  · rw [i_lt, h5] at d
    rwa [if_neg (by omega)] at h
  · rw [i_lt, h5] at d
    rwa [if_pos (by omega)] at h
theorem b_within {p lo hi : Int32} {Q : Int32 → Unit → Prop} (h : Q (if lo.toInt ≤ p.toInt ∧ p.toInt ≤ hi.toInt then 1 else 0) ()) : wp_X8_within () p lo hi Q := by
  unfold wp_X8_within
  refine ⟨fun c => ?_, fun c => ⟨fun d => ?_, fun d => ?_⟩⟩ <;> rw [i_lt] at c
  · rwa [if_neg (by omega)] at h
  · rw [i_lt] at d
    rwa [if_neg (by omega)] at h
  · rw [i_lt] at d
    rwa [if_pos (by omega)] at h
