/-! PURE FIRST: states -/
abbrev Ob : Type := (Nat → Int32) × (Nat → Nat → Int32)
/-- an int that is a boolean -/
def isB (v : Int32) : Prop := v = 0 ∨ v = 1
def si (S : Ob) (k : Nat) (v : Int32) : Ob := (upd S.1 k v, S.2)
def sa (S : Ob) (k : Nat) (f : Nat → Int32) : Ob := (S.1, va_up S.2 k f)
/-- an index inside a row -/
abbrev okI (i : Int32) (n : Nat) : Prop := vp_in i n
theorem okLit {i : Int32} {n : Nat} (h : decide (i < 0 ∨ n ≤ i.toNatClampNeg) = false) : okI i n := fun q => by simp only [decide_eq_false_iff_not] at h; exact h q
theorem isB0 : isB 0 := Or.inl rfl
theorem isB1 : isB 1 := Or.inr rfl
/-- the reference's rows behind a call that saw one of its two rows -/
def mnow (S u : Ob) (R : Nat → Int32) : Ob := (u.1, fun j => if j = 4 then R else if j = 5 then S.2 5 else if 18 ≤ j then S.2 j else u.2 j)
def mthen (S u : Ob) (R : Nat → Int32) : Ob := (u.1, fun j => if j = 5 then R else if j = 4 then S.2 4 else if 18 ≤ j then S.2 j else u.2 j)
def tabL (j : Nat) : Int32 := ([0, 3, 3, 3, 3, 3, 3, 3, 3, 2, 2, 3, 3, 3, 2, 2, 2, 2, 1, 1, 3, 3, 3, 3, 3, 3, 2, 2, 3, 3] : List Int32).getD j 0
def tabC (j : Nat) : Int32 := ([0, 1, 1, 1, 2, 4, 1, 1, 1, 1, 1, 1, 1, 1, 1, 1, 1, 1, 1, 1, 1, 2, 3, 1, 1, 1, 1, 1, 1, 1] : List Int32).getD j 0
abbrev TR7 : Type := (Nat → Int32) × (Nat → Int32) × Ob × Ob × Ob × Ob × (Nat → Int32) × Ob × Ob × Ob × Ob × Ob
abbrev TLW : Type := (Nat → Int32) × (Nat → Int32) × Ob × Ob × Ob × Ob × (Nat → Int32) × Ob × Ob × Ob × Ob × Ob × Ob × (Nat → Int64)
