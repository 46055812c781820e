/-! LAYER 2: places of the code and the ways between them -/
def sumN : Nat → (Nat → Nat) → Nat
 | 0, _ => 0
 | n + 1, f => sumN n f + f n
theorem sum_congr {f g : Nat → Nat} : ∀ {n : Nat}, (∀ k, k < n → f k = g k) → sumN n f = sumN n g := by
  intro n
  induction n with
  | zero => intro _; rfl
  | succ n ih => intro h; unfold sumN; rw [ih (fun k hk => h k (by omega)), h n (by omega)]
theorem sum_one {p : Nat} {f g : Nat → Nat} (h : ∀ k, ¬ k = p → g k = f k) : ∀ {n : Nat}, p < n → sumN n g + f p = sumN n f + g p := by
  intro n
  induction n with
  | zero => intro hp; omega
  | succ n ih =>
    intro hp
    unfold sumN
    by_cases e : p = n
    · subst e
      rw [sum_congr (f := g) (g := f) (fun k hk => h k (by omega))]
      omega
    · have := ih (by omega)
      rw [h n (fun z => e z.symm)]
      omega
theorem sum_zero {f : Nat → Nat} : ∀ {n : Nat}, sumN n f = 0 → ∀ k, k < n → f k = 0 := by
  intro n
  induction n with
  | zero => intro _ k hk; omega
  | succ n ih =>
    intro h k hk
    unfold sumN at h
    by_cases e : k = n
    · subst e; omega
    · exact ih (by omega) k (by omega)
theorem sum_all0 {f : Nat → Nat} : ∀ {n : Nat}, (∀ k, k < n → f k = 0) → sumN n f = 0 := by
  intro n
  induction n with
  | zero => intro _; rfl
  | succ n ih => intro h; unfold sumN; rw [ih (fun k hk => h k (by omega)), h n (by omega)]
theorem sum_le {f : Nat → Nat} {m : Nat} : ∀ {n : Nat}, (∀ k, k < n → f k ≤ m) → sumN n f ≤ n * m := by
  intro n
  induction n with
  | zero => intro _; simp [sumN]
  | succ n ih =>
    intro h
    have h1 := ih (fun k hk => h k (by omega))
    have h2 := h n (by omega)
    unfold sumN
    rw [Nat.succ_mul]
    omega
theorem sum_lt {f : Nat → Nat} {n p : Nat} (h : ∀ k, k < n → f k ≤ 1) (hp : p < n) (hz : f p = 0) : sumN n f < n := by
  have h1 := sum_one (f := f) (g := fun k => if k = p then 1 else f k) (p := p) (fun k hk => if_neg hk) hp
  have h2 : sumN n (fun k => if k = p then 1 else f k) ≤ n * 1 := sum_le (fun k hk => by
    by_cases e : k = p
    · simp [e]
    · rw [if_neg e]; exact h k hk)
  rw [hz, if_pos rfl] at h1
  omega
theorem sum_mono {f g : Nat → Nat} : ∀ {n : Nat}, (∀ k, k < n → f k ≤ g k) → sumN n f ≤ sumN n g := by
  intro n
  induction n with
  | zero => intro _; exact Nat.le_refl _
  | succ n ih =>
    intro h
    have h1 := ih (fun k hk => h k (by omega))
    have h2 := h n (by omega)
    unfold sumN
    omega
theorem sum_same {f g : Nat → Nat} : ∀ {n : Nat}, (∀ k, k < n → f k ≤ g k) → sumN n f = sumN n g → ∀ k, k < n → f k = g k := by
  intro n
  induction n with
  | zero => intro _ _ k hk; omega
  | succ n ih =>
    intro h e k hk
    have h1 := sum_mono (n := n) (fun k hk => h k (by omega))
    have h2 := h n (by omega)
    unfold sumN at e
    by_cases z : k = n
    · subst z; omega
    · exact ih (fun k hk => h k (by omega)) (by omega) k (by omega)
def tld (B : Nat → Int32) (p : Nat) : Nat := (256 * (B ((p + 1) % 512)).toNatClampNeg + (B ((p + 2) % 512)).toNatClampNeg) % 512
def bhd (B : Nat → Int32) (p : Nat) : Nat := (p + (tabL (B p).toNatClampNeg).toNatClampNeg) % 512
/-- where a way goes on from a place -/
def sc (B : Nat → Int32) (p : Nat) : List Nat := if B p = 18 then [] else if B p = 11 then [tld B p] else if B p = 12 ∨ B p = 13 then [bhd B p, tld B p] else [bhd B p]
/-- a place where nobody knows how a way goes on -/
def opn (B : Nat → Int32) (p : Nat) : Prop := B p = 0 ∨ B p = 19 ∨ ¬ B p ≤ 29
def okC (B : Nat → Int32) : Prop := ∀ k : Nat, k < 512 → 0 ≤ (B k).toInt ∧ (B k).toInt < 256
def pv (x : Int32) (p : Nat) : Prop := x.toInt = (p : Int) ∧ p < 512
theorem pv_ok {x : Int32} {p : Nat} (h : pv x p) : okI x 512 := ok_iff.mpr ⟨by rw [h.1]; omega, by rw [h.1]; have := h.2; omega⟩
theorem pv_n {x : Int32} {p : Nat} (h : pv x p) : x.toNatClampNeg = p := by rw [i_nat, h.1]; omega
theorem pv_self {x : Int32} (h : okI x 512) : pv x x.toNatClampNeg := by
  have := ok_iff.mp h
  rw [i_nat]
  exact ⟨by omega, by omega⟩
theorem pv_m1 {x : Int32} {p : Nat} (h : pv x p) : ¬ x = -1 := fun e => by rw [e] at h; have h1 := h.1; rw [show (-1 : Int32).toInt = -1 from rfl] at h1; omega
theorem rem_pv {z : Int32} {n : Nat} (h : z.toInt = (n : Int)) : pv (z - z / 512 * 512) (n % 512) := by
  refine ⟨?_, Nat.mod_lt _ (by decide)⟩
  rw [i_rem (by omega) (by decide), h, show (512 : Int32).toInt = 512 from rfl]
  omega
theorem and_pv {z : Int32} {n : Nat} (h : z.toInt = (n : Int)) : pv (z &&& 511) (n % 512) := by
  refine ⟨?_, Nat.mod_lt _ (by decide)⟩
  rw [mask_511, h]
  omega
theorem pv_add {x k : Int32} {p n : Nat} (h : pv x p) (hk : k.toInt = (n : Int)) (hn : n < 512) : (x + k).toInt = ((p + n : Nat) : Int) := by
  have h2 := h.2
  rw [i_add (by rw [h.1, hk]; omega) (by rw [h.1, hk]; omega), h.1, hk]
  omega
theorem told_int {B : Nat → Int32} {x y : Int32} (hx : 0 ≤ x.toInt ∧ x.toInt < 256) (hy : 0 ≤ y.toInt ∧ y.toInt < 256) : (256 * x + y).toInt = ((256 * x.toNatClampNeg + y.toNatClampNeg : Nat) : Int) := by
  have h1 : (256 * x).toInt = 256 * x.toInt := i_mul (by rw [show (256 : Int32).toInt = 256 from rfl]; omega) (by rw [show (256 : Int32).toInt = 256 from rfl]; omega)
  rw [i_add (by omega) (by omega), h1, i_nat, i_nat]
  omega
theorem byte_op {v : Int32} (h0 : 0 ≤ v.toInt) (h1 : ¬ v = 0) (h3 : v ≤ 29) : ∃ k : Nat, 1 ≤ k ∧ k < 30 ∧ v = Int32.ofNat k := by
  rw [i_le, show (29 : Int32).toInt = 29 from rfl] at h3
  rw [i_eq, show (0 : Int32).toInt = 0 from rfl] at h1
  exact ⟨v.toInt.toNat, by omega, by omega, i_eq.mpr (by rw [i_ofNat (by omega)]; omega)⟩
theorem tab_L : ∀ k : Nat, k < 30 → 0 ≤ (tabL (Int32.ofNat k).toNatClampNeg).toInt ∧ (tabL (Int32.ofNat k).toNatClampNeg).toInt < 4 := by decide
theorem tab_C : ∀ k : Nat, k < 30 → 1 ≤ k → 1 ≤ (tabC (Int32.ofNat k).toNatClampNeg).toInt ∧ (tabC (Int32.ofNat k).toNatClampNeg).toInt < 5 := by decide
def cC (B : Nat → Int32) (p : Nat) : Int := (tabC (B p).toNatClampNeg).toInt
def dD (B : Nat → Int32) (p : Nat) : Int := if B p = 9 then 1 else if B p = 10 then -1 else 0
theorem nop {B : Nat → Int32} {p : Nat} (hB : okC B) (hp : p < 512) (ho : ¬ opn B p) : okI (B p) 30 ∧ (∃ n : Nat, n < 4 ∧ (tabL (B p).toNatClampNeg).toInt = (n : Int)) ∧ 1 ≤ cC B p ∧ cC B p < 5 ∧ ¬ B p < 1 ∧ ¬ 29 < B p := by
  have h1 : ¬ B p = 0 := fun e => ho (Or.inl e)
  have h3 : B p ≤ 29 := by
    by_cases c : B p ≤ 29
    · exact c
    · exact absurd (Or.inr (Or.inr c)) ho
  obtain ⟨k, a, b, e⟩ := byte_op (hB p hp).1 h1 h3
  have t1 := tab_L k b
  have t2 := tab_C k b a
  have hi : (B p).toInt = (k : Int) := by rw [e]; exact i_ofNat (by omega)
  refine ⟨ok_iff.mpr (by omega), ?_, ?_, ?_, ?_, ?_⟩
  · rw [e]; exact ⟨(tabL (Int32.ofNat k).toNatClampNeg).toInt.toNat, by omega, by omega⟩
  · unfold cC; rw [e]; exact t2.1
  · unfold cC; rw [e]; exact t2.2
  · rw [i_lt, hi, show (1 : Int32).toInt = 1 from rfl]; omega
  · rw [i_lt, hi, show (29 : Int32).toInt = 29 from rfl]; omega
theorem sc_lt {B : Nat → Int32} {p q : Nat} (h : q ∈ sc B p) : q < 512 := by
  unfold sc at h
  have h1 : tld B p < 512 := Nat.mod_lt _ (by decide)
  have h2 : bhd B p < 512 := Nat.mod_lt _ (by decide)
  split at h
  · simp at h
  · split at h
    · simp at h; omega
    · split at h
      · simp at h; omega
      · simp at h; omega
theorem told_and {B : Nat → Int32} {x : Int32} {p : Nat} (hB : okC B) (hx : pv x p) : okI ((x + 1) &&& 511) 512 ∧ okI ((x + 2) &&& 511) 512 ∧ pv (((256 * (B (Int32.toNatClampNeg ((x + 1) &&& 511)))) + (B (Int32.toNatClampNeg ((x + 2) &&& 511)))) &&& 511) (tld B p) := by
  have p1 := and_pv (pv_add hx (show (1 : Int32).toInt = ((1 : Nat) : Int) from rfl) (by decide))
  have p2 := and_pv (pv_add hx (show (2 : Int32).toInt = ((2 : Nat) : Int) from rfl) (by decide))
  refine ⟨pv_ok p1, pv_ok p2, ?_⟩
  rw [pv_n p1, pv_n p2]
  exact and_pv (told_int (B := B) (hB _ p1.2) (hB _ p2.2))
theorem told_rem {B R : Nat → Int32} {x : Int32} {p : Nat} (hB : okC B) (hR : ∀ k, k < 512 → R k = B k) (hx : pv x p) : okI ((x + 1) - (x + 1) / 512 * 512) 512 ∧ okI ((x + 2) - (x + 2) / 512 * 512) 512 ∧ pv (((256 * (R (Int32.toNatClampNeg ((x + 1) - (x + 1) / 512 * 512)))) + (R (Int32.toNatClampNeg ((x + 2) - (x + 2) / 512 * 512)))) - ((256 * (R (Int32.toNatClampNeg ((x + 1) - (x + 1) / 512 * 512)))) + (R (Int32.toNatClampNeg ((x + 2) - (x + 2) / 512 * 512)))) / 512 * 512) (tld B p) := by
  have p1 := rem_pv (pv_add hx (show (1 : Int32).toInt = ((1 : Nat) : Int) from rfl) (by decide))
  have p2 := rem_pv (pv_add hx (show (2 : Int32).toInt = ((2 : Nat) : Int) from rfl) (by decide))
  refine ⟨pv_ok p1, pv_ok p2, ?_⟩
  rw [pv_n p1, pv_n p2, hR _ p1.2, hR _ p2.2]
  exact rem_pv (told_int (B := B) (hB _ p1.2) (hB _ p2.2))
theorem behind_and {B : Nat → Int32} {x : Int32} {p : Nat} (hB : okC B) (hx : pv x p) (ho : ¬ opn B p) : pv ((x + tabL (B p).toNatClampNeg) &&& 511) (bhd B p) := by
  obtain ⟨_, ⟨n, hn, e⟩, _⟩ := nop hB hx.2 ho
  have := and_pv (pv_add hx e (by omega))
  unfold bhd
  rwa [show (tabL (B p).toNatClampNeg).toNatClampNeg = n by rw [i_nat (tabL _), e]; omega]
theorem behind_rem {B : Nat → Int32} {x : Int32} {p : Nat} (hB : okC B) (hx : pv x p) (ho : ¬ opn B p) : pv ((x + tabL (B p).toNatClampNeg) - (x + tabL (B p).toNatClampNeg) / 512 * 512) (bhd B p) := by
  obtain ⟨_, ⟨n, hn, e⟩, _⟩ := nop hB hx.2 ho
  have := rem_pv (pv_add hx e (by omega))
  unfold bhd
  rwa [show (tabL (B p).toNatClampNeg).toNatClampNeg = n by rw [i_nat (tabL _), e]; omega]
/-- what was measured, and how -/
def msd (B : Nat → Int32) (D : Nat → Prop) (c u : Nat → Int) (p : Nat) : Prop := p < 512 ∧ ¬ opn B p ∧ (∀ q, q ∈ sc B p → D q ∧ cC B p + c q ≤ c p ∧ dD B p + u q ≤ u p) ∧ cC B p ≤ c p ∧ 0 ≤ u p ∧ dD B p ≤ u p ∧ (c p = cC B p ∨ ∃ q, q ∈ sc B p ∧ c p = cC B p + c q) ∧ (u p = 0 ∨ u p = dD B p ∨ ∃ q, q ∈ sc B p ∧ u p = dD B p + u q) ∧ c p ≤ 4000 ∧ u p ≤ c p
def good (B : Nat → Int32) (s : Nat) (D : Nat → Prop) (c u : Nat → Int) : Prop := D s ∧ ∀ p, D p → msd B D c u p
def clo (B : Nat → Int32) (D : Nat → Prop) : Prop := ∀ p, D p → p < 512 ∧ ¬ opn B p ∧ ∀ q, q ∈ sc B p → D q
def bad (B : Nat → Int32) (s : Nat) : Prop := ∀ D : Nat → Prop, D s → clo B D → ∃ Z : Nat → Prop, (∃ z, Z z) ∧ ∀ z, Z z → D z ∧ ∃ p, Z p ∧ z ∈ sc B p
