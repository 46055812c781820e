/-! LAYER 2: the class's survey, its loop -/
def rT (X : Ob) (i : Nat) : Nat := (X.2 2 i).toNatClampNeg
def DIt (B : Nat → Int32) (s : Nat) (X : Ob) (L : Nat) : Prop := (X.1 4).toInt = (L : Int) ∧ (∀ i, i < L → okI (X.2 2 i) 512 ∧ X.2 1 (rT X i) = 1) ∧ (∀ p, p < 512 → X.2 1 p = 1 → ∃ i, i < L ∧ rT X i = p) ∧ (∀ i, i + 1 < L → rT X (i + 1) ∈ sc B (rT X i)) ∧ ¬ X.2 1 s = 0 ∧ (0 < L → rT X 0 = s) ∧ s < 512
def DIm (B : Nat → Int32) (X : Ob) (m : Nat) : Prop := (∀ p, p < 512 → X.2 1 p = 0 ∨ X.2 1 p = 1 ∨ X.2 1 p = 2) ∧ (∀ p, p < 512 ∧ X.2 1 p = 2 → msd B (fun q => q < 512 ∧ X.2 1 q = 2) (fun q => (X.2 5 q).toInt) (fun q => (X.2 6 q).toInt) p ∧ (X.2 5 p).toInt ≤ 5 * (m : Int))
def DIc (X : Ob) (L m : Nat) : Prop := sumN 512 (fun p => if X.2 1 p = 1 then 1 else 0) = L ∧ sumN 512 (fun p => if X.2 1 p = 2 then 1 else 0) = m
def DI (B : Nat → Int32) (s : Nat) (X : Ob) (L m : Nat) : Prop := DIt B s X L ∧ DIm B X m ∧ DIc X L m
/-- a place more on the trail -/
def psX (X : Ob) (L : Nat) (a : Int32) : Ob := si (sa (sa X 1 (upd (X.2 1) a.toNatClampNeg 1)) 2 (upd (X.2 2) L a)) 4 (X.1 4 + 1)
theorem trail_in {B : Nat → Int32} {s L m : Nat} {X : Ob} (h : DI B s X L m) {D : Nat → Prop} (hs : D s) (hc : clo B D) : ∀ i, i < L → D (rT X i) := by
  obtain ⟨⟨_, _, _, t4, _, t6, _⟩, _⟩ := h
  intro i
  induction i with
  | zero => intro hi; rw [t6 hi]; exact hs
  | succ i ih => intro hi; exact (hc _ (ih (by omega))).2.2 _ (t4 i hi)
theorem bad_open {B : Nat → Int32} {s L m i : Nat} {X : Ob} (h : DI B s X L m) (hi : i < L) (ho : opn B (rT X i)) : bad B s := fun _ hs hc => absurd ho (hc _ (trail_in h hs hc i hi)).2.1
theorem bad_ring {B : Nat → Int32} {s L m q : Nat} {X : Ob} (h : DI B s X (L + 1) m) (hq : q ∈ sc B (rT X L)) (hm : X.2 1 q = 1) : bad B s := by
  intro D hs hc
  have ti := trail_in h hs hc
  obtain ⟨⟨_, t2, t3, t4, _, t6, _⟩, _⟩ := h
  obtain ⟨i, hi, e⟩ := t3 q (sc_lt hq) hm
  refine ⟨fun z => ∃ j, i ≤ j ∧ j < L + 1 ∧ rT X j = z, ⟨q, i, Nat.le_refl _, hi, e⟩, fun z ⟨j, j1, j2, j3⟩ => ⟨by rw [← j3]; exact ti j j2, ?_⟩⟩
  by_cases c : j = i
  · exact ⟨rT X L, ⟨L, by omega, by omega, rfl⟩, by rw [← j3, c, e]; exact hq⟩
  · have := t4 (j - 1) (by omega)
    rw [show j - 1 + 1 = j by omega] at this
    exact ⟨rT X (j - 1), ⟨j - 1, by omega, by omega, rfl⟩, by rw [← j3]; exact this⟩
theorem DI_lt {B : Nat → Int32} {s L m p : Nat} {X : Ob} (h : DI B s X L m) (hp : p < 512) (h0 : X.2 1 p = 0) : L < 512 := by
  rw [← h.2.2.1]
  refine sum_lt (p := p) (fun k _ => ?_) hp ?_
  · by_cases c : X.2 1 k = 1
    · simp [c]
    · simp [c]
  · simp [h0]
theorem DI_m {B : Nat → Int32} {s L m : Nat} {X : Ob} (h : DI B s X L m) : m ≤ 512 := by
  rw [← h.2.2.2]
  refine Nat.le_trans (sum_le (m := 1) (fun k _ => ?_)) (by decide)
  by_cases c : X.2 1 k = 2
  · simp [c]
  · simp [c]
theorem DI_L {B : Nat → Int32} {s L m : Nat} {X : Ob} (h : DI B s X L m) : L ≤ 512 := by
  rw [← h.2.2.1]
  refine Nat.le_trans (sum_le (m := 1) (fun k _ => ?_)) (by decide)
  by_cases c : X.2 1 k = 1
  · simp [c]
  · simp [c]
theorem DI_ps {B : Nat → Int32} {s L m : Nat} {X : Ob} {a : Int32} (h : DI B s X (L + 1) m) (ha : okI a 512) (h0 : X.2 1 a.toNatClampNeg = 0) (hL : a.toNatClampNeg ∈ sc B (rT X L)) : DI B s (psX X (L + 1) a) (L + 2) m := by
  have hlt := DI_lt h (pv_self ha).2 h0
  obtain ⟨⟨t1, t2, t3, t4, t5, t6, t7⟩, ⟨m1, m2⟩, c1, c2⟩ := h
  have r0 : ∀ i, ¬ i = L + 1 → rT (psX X (L + 1) a) i = rT X i := fun i hi => by
    show (upd (X.2 2) (L + 1) a i).toNatClampNeg = _
    rw [up_ne hi]; rfl
  have r1 : rT (psX X (L + 1) a) (L + 1) = a.toNatClampNeg := by
    show (upd (X.2 2) (L + 1) a (L + 1)).toNatClampNeg = _
    rw [up_eq]
  have k1 : (psX X (L + 1) a).2 1 a.toNatClampNeg = 1 := up_eq _ _ _
  have k0 : ∀ p, ¬ p = a.toNatClampNeg → (psX X (L + 1) a).2 1 p = X.2 1 p := fun p hp => up_ne hp
  have hne : ∀ p, X.2 1 p ≠ 0 → ¬ p = a.toNatClampNeg := fun p hp e => hp (by rw [e]; exact h0)
  have k2 : ∀ p, (psX X (L + 1) a).2 1 p = 2 ↔ X.2 1 p = 2 := fun p => by
    by_cases c : p = a.toNatClampNeg
    · rw [c, k1, h0]; decide
    · rw [k0 p c]
  have eD : (fun q => q < 512 ∧ (psX X (L + 1) a).2 1 q = 2) = (fun q => q < 512 ∧ X.2 1 q = 2) := funext fun q => by rw [k2 q]
  refine ⟨⟨?_, fun i hi => ?_, fun p hp h1 => ?_, fun i hi => ?_, ?_, fun _ => ?_, t7⟩, ⟨fun p hp => ?_, fun p hp => ?_⟩, ?_, ?_⟩
  · show (X.1 4 + 1).toInt = _
    rw [i_add (by rw [t1, show (1 : Int32).toInt = 1 from rfl]; omega) (by rw [t1, show (1 : Int32).toInt = 1 from rfl]; omega), t1, show (1 : Int32).toInt = 1 from rfl]
    omega
  · by_cases c : i = L + 1
    · subst c
      exact ⟨by show okI (upd (X.2 2) (L + 1) a (L + 1)) 512; rw [up_eq]; exact ha, by rw [r1]; exact k1⟩
    · have := t2 i (by omega)
      refine ⟨by show okI (upd (X.2 2) (L + 1) a i) 512; rw [up_ne c]; exact this.1, ?_⟩
      rw [r0 i c, k0 _ (hne _ (by rw [this.2]; decide))]
      exact this.2
  · by_cases c : p = a.toNatClampNeg
    · exact ⟨L + 1, by omega, by rw [r1, c]⟩
    · rw [k0 p c] at h1
      obtain ⟨i, hi, e⟩ := t3 p hp h1
      exact ⟨i, by omega, by rw [r0 i (by omega)]; exact e⟩
  · by_cases c : i = L
    · subst c
      rw [r1, r0 i (by omega)]
      exact hL
    · rw [r0 (i + 1) (by omega), r0 i (by omega)]
      exact t4 i (by omega)
  · rw [k0 s (hne s t5)]; exact t5
  · rw [r0 0 (by omega)]; exact t6 (by omega)
  · by_cases c : p = a.toNatClampNeg
    · rw [c, k1]; exact Or.inr (Or.inl rfl)
    · rw [k0 p c]; exact m1 p hp
  · rw [eD]
    exact m2 p ⟨hp.1, (k2 p).mp hp.2⟩
  · have := sum_one (n := 512) (p := a.toNatClampNeg) (f := fun p => if X.2 1 p = 1 then 1 else 0) (g := fun p => if (psX X (L + 1) a).2 1 p = 1 then 1 else 0) (fun k hk => by show (if _ then _ else _) = _; rw [k0 k hk]) (pv_self ha).2
    simp only [h0, k1] at this
    rw [c1] at this
    simp at this
    exact this
  · rw [← c2]
    exact sum_congr (fun k _ => by simp only [k2 k])
/-- a place is measured and leaves the trail -/
theorem DI_ms {B : Nat → Int32} {s L m p : Nat} {X : Ob} {cv uv w5 w6 : Int32} (hB : okC B) (h : DI B s X (L + 1) m) (ep : rT X L = p) (ho : ¬ opn B p) (h2 : ∀ q, q ∈ sc B p → X.2 1 q = 2) (e1 : cv.toInt = cC B p + w5.toInt) (e2 : uv.toInt = dD B p + w6.toInt ∧ 0 ≤ dD B p + w6.toInt ∨ uv.toInt = 0 ∧ dD B p + w6.toInt ≤ 0) (e3 : 0 ≤ w5.toInt ∧ 0 ≤ w6.toInt) (e4 : ∀ q, q ∈ sc B p → (X.2 5 q).toInt ≤ w5.toInt ∧ (X.2 6 q).toInt ≤ w6.toInt) (e5 : w5 = 0 ∨ ∃ q, q ∈ sc B p ∧ w5 = X.2 5 q) (e6 : w6 = 0 ∨ ∃ q, q ∈ sc B p ∧ w6 = X.2 6 q) : DI B s (si (msX X p cv uv) 4 (X.1 4 - 1)) L (m + 1) := by
  have hm5 := DI_m h
  obtain ⟨⟨t1, t2, t3, t4, t5, t6, t7⟩, ⟨m1, m2⟩, c1, c2⟩ := h
  have hp : p < 512 := by rw [← ep]; exact (pv_self (t2 L (by omega)).1).2
  have hp1 : X.2 1 p = 1 := by rw [← ep]; exact (t2 L (by omega)).2
  have n := nop hB hp ho
  have k1 : (si (msX X p cv uv) 4 (X.1 4 - 1)).2 1 p = 2 := up_eq _ _ _
  have k0 : ∀ q, ¬ q = p → (si (msX X p cv uv) 4 (X.1 4 - 1)).2 1 q = X.2 1 q := fun q hq => up_ne hq
  have v1 : (si (msX X p cv uv) 4 (X.1 4 - 1)).2 5 p = cv := up_eq _ _ _
  have v0 : ∀ q, ¬ q = p → (si (msX X p cv uv) 4 (X.1 4 - 1)).2 5 q = X.2 5 q := fun q hq => up_ne hq
  have w1 : (si (msX X p cv uv) 4 (X.1 4 - 1)).2 6 p = uv := up_eq _ _ _
  have w0 : ∀ q, ¬ q = p → (si (msX X p cv uv) 4 (X.1 4 - 1)).2 6 q = X.2 6 q := fun q hq => up_ne hq
  have rr : ∀ i, rT (si (msX X p cv uv) 4 (X.1 4 - 1)) i = rT X i := fun _ => rfl
  have nq : ∀ q, X.2 1 q = 2 → ¬ q = p := fun q hq e => by rw [e, hp1] at hq; exact absurd hq (by decide)
  have z0 : (0 : Int32).toInt = 0 := rfl
  have hmm : ∀ q, q ∈ sc B p → (X.2 5 q).toInt ≤ 5 * (m : Int) ∧ (X.2 6 q).toInt ≤ (X.2 5 q).toInt := fun q hq => by
    have := m2 q ⟨sc_lt hq, h2 q hq⟩
    exact ⟨this.2, this.1.2.2.2.2.2.2.2.2.2⟩
  have b5 : w5.toInt ≤ 5 * (m : Int) := by
    rcases e5 with e | ⟨q, hq, e⟩
    · rw [e, z0]; omega
    · rw [e]; exact (hmm q hq).1
  have hd : dD B p ≤ 1 := by
    unfold dD
    split
    · decide
    · split <;> decide
  have b6 : w6.toInt ≤ w5.toInt := by
    rcases e6 with e | ⟨q, hq, e⟩
    · rw [e, z0]; exact e3.1
    · rw [e]; have x1 := (hmm q hq).2; have x2 := (e4 q hq).1; omega
  -- the trail holds each place but once
  have tinj : ∀ i, i < L → ¬ rT X i = p := by
    intro i hi e
    have hz : sumN 512 (fun q => if X.2 1 q = 1 then 1 else 0) ≤ L := by
      have key : ∀ (j : Nat) (f : Nat → Nat), (∀ q, q < 512 → f q ≤ 1) → (∀ q, q < 512 → ¬ f q = 0 → ∃ i, i < j ∧ rT X i = q) → sumN 512 f ≤ j := by
        intro j
        induction j with
        | zero =>
          intro f _ hf
          rw [sum_all0 (fun q hq => by
            by_cases c : f q = 0
            · exact c
            · obtain ⟨i, hi, _⟩ := hf q hq c; omega)]
          exact Nat.le_refl _
        | succ j ih =>
          intro f f1 hf
          by_cases c : rT X j < 512
          · have s1 := sum_one (n := 512) (p := rT X j) (f := f) (g := fun q => if q = rT X j then 0 else f q) (fun k hk => if_neg hk) c
            have s2 := ih (fun q => if q = rT X j then 0 else f q) (fun q hq => by
              by_cases d : q = rT X j
              · simp [d]
              · simp only [if_neg d]; exact f1 q hq) (fun q hq hn => by
              by_cases d : q = rT X j
              · simp [d] at hn
              · simp only [if_neg d] at hn
                obtain ⟨i, hi, e⟩ := hf q hq hn
                by_cases i2 : i = j
                · subst i2; exact absurd e.symm d
                · exact ⟨i, by omega, e⟩)
            have s3 := f1 _ c
            simp only [if_pos rfl] at s1
            simp at s1
            omega
          · have := ih f f1 (fun q hq hn => by
              obtain ⟨i, hi, e⟩ := hf q hq hn
              by_cases i2 : i = j
              · subst i2; omega
              · exact ⟨i, by omega, e⟩)
            omega
      refine key L _ (fun q _ => ?_) (fun q hq hn => ?_)
      · by_cases c : X.2 1 q = 1
        · simp [c]
        · simp [c]
      · have h1 : X.2 1 q = 1 := by
          by_cases c : X.2 1 q = 1
          · exact c
          · simp [c] at hn
        obtain ⟨j, hj, ej⟩ := t3 q hq h1
        by_cases c : j = L
        · subst c
          exact ⟨i, hi, by rw [e, ← ep, ej]⟩
        · exact ⟨j, by omega, ej⟩
    omega
  have hcv : cv.toInt ≤ 5 * ((m + 1 : Nat) : Int) := by rw [e1]; omega
  refine ⟨⟨?_, fun i hi => ?_, fun q hq h1 => ?_, fun i hi => ?_, ?_, fun hl => t6 (by omega), t7⟩, ⟨fun q hq => ?_, fun q hq => ?_⟩, ?_, ?_⟩
  · show (X.1 4 - 1).toInt = _
    rw [i_sub (by rw [t1, show (1 : Int32).toInt = 1 from rfl]; omega) (by rw [t1, show (1 : Int32).toInt = 1 from rfl]; have := i_hi (X.1 4); omega), t1, show (1 : Int32).toInt = 1 from rfl]
    omega
  · have := t2 i (by omega)
    exact ⟨this.1, by rw [rr, k0 _ (tinj i hi)]; exact this.2⟩
  · by_cases c : q = p
    · rw [c, k1] at h1; exact absurd h1 (by decide)
    · rw [k0 q c] at h1
      obtain ⟨i, hi, e⟩ := t3 q hq h1
      by_cases d : i = L
      · subst d; exact absurd (e.symm.trans ep) c
      · exact ⟨i, by omega, e⟩
  · exact t4 i (by omega)
  · by_cases c : s = p
    · rw [c, k1]; decide
    · rw [k0 s c]; exact t5
  · by_cases c : q = p
    · rw [c, k1]; exact Or.inr (Or.inr rfl)
    · rw [k0 q c]; exact m1 q hq
  · by_cases c : q = p
    · subst c
      refine ⟨⟨hp, ho, fun r hr => ?_, ?_, ?_, ?_, ?_, ?_, ?_, ?_⟩, by rw [v1]; exact hcv⟩
      · have r2 := h2 r hr
        have rn := nq r r2
        have r4 := e4 r hr
        refine ⟨⟨sc_lt hr, by rw [k0 r rn]; exact r2⟩, ?_, ?_⟩
        · simp only [v0 r rn, v1]; omega
        · simp only [w0 r rn, w1]; omega
      · simp only [v1]; omega
      · simp only [w1]; omega
      · simp only [w1]; omega
      · rcases e5 with e | ⟨r, hr, e⟩
        · left; simp only [v1]; rw [e1, e, z0]; omega
        · right; exact ⟨r, hr, by simp only [v1, v0 r (nq r (h2 r hr))]; rw [e1, e]⟩
      · rcases e2 with e2 | e2
        · rcases e6 with e | ⟨r, hr, e⟩
          · right; left; simp only [w1]; rw [e2.1, e, z0]; omega
          · right; right; exact ⟨r, hr, by simp only [w1, w0 r (nq r (h2 r hr))]; rw [e2.1, e]⟩
        · left; simp only [w1]; exact e2.1
      · simp only [v1]; omega
      · simp only [v1, w1]; omega
    · have q2 := hq.2
      rw [k0 q c] at q2
      obtain ⟨⟨a1, a2, a3, a4, a5, a6, a7, a8, a9, a10⟩, b⟩ := m2 q ⟨hq.1, q2⟩
      have eq : ∀ r, r ∈ sc B q → ¬ r = p := fun r hr => nq r (a3 r hr).1.2
      refine ⟨⟨a1, a2, fun r hr => ?_, ?_, ?_, ?_, ?_, ?_, ?_, ?_⟩, by rw [v0 q c]; omega⟩
      · have := a3 r hr
        refine ⟨⟨this.1.1, by rw [k0 r (eq r hr)]; exact this.1.2⟩, ?_, ?_⟩
        · simp only [v0 r (eq r hr), v0 q c]; exact this.2.1
        · simp only [w0 r (eq r hr), w0 q c]; exact this.2.2
      · simp only [v0 q c]; exact a4
      · simp only [w0 q c]; exact a5
      · simp only [w0 q c]; exact a6
      · simp only [v0 q c]
        exact a7.imp id (fun ⟨r, hr, e⟩ => ⟨r, hr, by rw [v0 r (eq r hr)]; exact e⟩)
      · simp only [w0 q c]
        exact a8.imp id (fun z => z.imp id (fun ⟨r, hr, e⟩ => ⟨r, hr, by rw [w0 r (eq r hr)]; exact e⟩))
      · simp only [v0 q c]; exact a9
      · simp only [v0 q c, w0 q c]; exact a10
  · have := sum_one (n := 512) (p := p) (f := fun q => if X.2 1 q = 1 then 1 else 0) (g := fun q => if (si (msX X p cv uv) 4 (X.1 4 - 1)).2 1 q = 1 then 1 else 0) (fun k hk => by show (if _ then _ else _) = _; rw [k0 k hk]) hp
    simp only [hp1, k1] at this
    rw [c1] at this
    simp at this
    exact this
  · have := sum_one (n := 512) (p := p) (f := fun q => if X.2 1 q = 2 then 1 else 0) (g := fun q => if (si (msX X p cv uv) 4 (X.1 4 - 1)).2 1 q = 2 then 1 else 0) (fun k hk => by show (if _ then _ else _) = _; rw [k0 k hk]) hp
    simp only [hp1, k1] at this
    rw [c2] at this
    simp at this
    exact this
