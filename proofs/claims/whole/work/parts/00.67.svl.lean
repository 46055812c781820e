/-! LAYER 2: the class's survey, whole -/
def cst (X : Ob) : Nat → Int := fun q => (X.2 5 q).toInt
def ris (X : Ob) : Nat → Int := fun q => (X.2 6 q).toInt
def mk2 (X : Ob) : Nat → Prop := fun q => q < 512 ∧ X.2 1 q = 2
def svd (B : Nat → Int32) (s : Nat) (r : Int32) (X : Ob) : Prop := (r = 0 ∧ bad B s) ∨ (r = 1 ∧ good B s (mk2 X) (cst X) (ris X))
theorem step_on {X : Ob} {B : Nat → Int32} {a : Int32} {L : Nat} {Q : (Ob × (Nat → Int32)) → Prop} (hl : (X.1 4).toInt = (L : Int)) (hL : L < 512) (ha : okI a 512) (q : Q (psX X L a, B)) : wp_X6_stepOn (X, B) a Q := by
  unfold wp_X6_stepOn
  have e : (X.1 4).toNatClampNeg = L := by rw [i_nat, hl]; omega
  refine ⟨fun c => ?_, fun _ => ⟨ha, fun _ e1 => ?_⟩⟩
  · have c' : (512 : Int32) ≤ X.1 4 := c
    rw [i_le, hl, show (512 : Int32).toInt = 512 from rfl] at c'
    omega
  · subst e1
    refine ⟨ok_iff.mpr ⟨by show 0 ≤ (X.1 4).toInt; omega, by show (X.1 4).toInt < _; omega⟩, fun _ e2 => ?_⟩
    subst e2
    intro _ e3
    subst e3
    show Q (si (sa (sa X 1 (upd (X.2 1) a.toNatClampNeg 1)) 2 (upd (X.2 2) (X.1 4).toNatClampNeg a)) 4 (X.1 4 + 1), B)
    rw [e]
    exact q
theorem sv_loop {B : Nat → Int32} {s : Nat} (hB : okC B) : ∀ (k n : Nat) (y : Int32) (X : Ob) (L m : Nat), DI B s X L m → y.toInt + 1 = ((L + 2 * m : Nat) : Int) → 1600 = k + (L + 2 * m) → k < n → ∃ (r : Int32) (X' : Ob), (∀ Q : Int32 → (Ob × (Nat → Int32)) → Prop, Q r (X', B) → wp_X6_survey_L20 Q n y (X, B)) ∧ svd B s r X' ∧ X'.2 3 = X.2 3 := by
  intro k
  induction k with
  | zero =>
    intro n y X L m h _ hk _
    have := DI_m h
    have := DI_L h
    omega
  | succ k ih =>
    intro n y X L m h hy hk hn
    obtain ⟨n, rfl⟩ : ∃ n', n = n' + 1 := ⟨n - 1, by omega⟩
    have hm5 := DI_m h
    have hL5 := DI_L h
    have hyn : ¬ (1536 : Int32) ≤ y := by
      rw [i_le, show (1536 : Int32).toInt = 1536 from rfl]
      omega
    have z0 : (0 : Int32).toInt = 0 := rfl
    have z1 : (1 : Int32).toInt = 1 := rfl
    have hy1 : (y + 1).toInt = y.toInt + 1 := by rw [i_add (by rw [z1]; omega) (by rw [z1]; omega), z1]
    have hlen := h.1.1
    by_cases cL : L = 0
    · subst cL
      have e0 : X.1 4 = 0 := i_eq.mpr (by rw [hlen]; rfl)
      refine ⟨1, X, fun Q q => ?_, Or.inr ⟨rfl, ?_, fun p hp => (h.2.1.2 p hp).1⟩, rfl⟩
      · unfold wp_X6_survey_L20
        refine ⟨fun c => absurd c hyn, fun _ => ⟨fun _ => ⟨fun c => absurd e0 c, fun _ => q⟩, fun c => absurd (show X.1 4 ≤ 0 by rw [e0]; decide) c⟩⟩
      · refine ⟨h.1.2.2.2.2.2.2, ?_⟩
        rcases h.2.1.1 s h.1.2.2.2.2.2.2 with e | e | e
        · exact absurd e h.1.2.2.2.2.1
        · obtain ⟨i, hi, _⟩ := h.1.2.2.1 s h.1.2.2.2.2.2.2 e
          omega
        · exact e
    · obtain ⟨L, rfl⟩ : ∃ L', L = L' + 1 := ⟨L - 1, by omega⟩
      have hl0 : ¬ X.1 4 ≤ 0 := by rw [i_le, hlen, z0]; omega
      have hl1 : (X.1 4 - 1).toInt = (L : Int) := by
        rw [i_sub (by rw [hlen, z1]; omega) (by rw [hlen, z1]; omega), hlen, z1]
        omega
      have hok : okI (X.1 4 - 1) 512 := ok_iff.mpr (by omega)
      have hnn : (X.1 4 - 1).toNatClampNeg = L := by rw [i_nat, hl1]; omega
      have htop := h.1.2.1 L (by omega)
      have hx := pv_self htop.1
      have ep : rT X L = (X.2 2 L).toNatClampNeg := rfl
      obtain ⟨a, ha, ha1, ha2⟩ := cls_behind hB hx
      obtain ⟨b, hb, hb1, hb2⟩ := cls_told hB hx
      have start : ∀ Q : Int32 → (Ob × (Nat → Int32)) → Prop, wp_X6_isOpenEnd () (B (X.2 2 L).toNatClampNeg) (fun r14 u13 => ((¬ r14 = 0 → Q 0 (X, B)) ∧ (r14 = 0 → wp_X6_isMarked (X, B) a 1 (fun r17 u16 => ((¬ r17 = 0 → Q 0 u16) ∧ (r17 = 0 → wp_X6_isMarked u16 b 1 (fun r20 u19 => ((r20 = 0 → wp_X6_isMarked u19 a 0 (fun r23 u22 => ((r23 = 0 → wp_X6_isMarked u22 b 0 (fun r26 u25 => ((r26 = 0 → wp_X6_measure u25 (X.2 2 L) a b (fun u28 => ∀ T29 : Ob, T29 = (si u28.1 4 ((u28.1.1 4) - 1)) → ∀ x30 : Int32, x30 = (y + 1) → wp_X6_survey_L20 Q n x30 (T29, u28.2))) ∧ (¬ r26 = 0 → wp_X6_stepOn u25 b (fun u31 => ∀ x32 : Int32, x32 = (y + 1) → wp_X6_survey_L20 Q n x32 u31))))) ∧ (¬ r23 = 0 → wp_X6_stepOn u22 a (fun u33 => ∀ x34 : Int32, x34 = (y + 1) → wp_X6_survey_L20 Q n x34 u33))))) ∧ (¬ r20 = 0 → Q 0 u19))))))))) → wp_X6_survey_L20 Q (n + 1) y (X, B) := by
        intro Q q
        unfold wp_X6_survey_L20
        refine ⟨fun c => absurd c hyn, fun _ => ⟨fun c => absurd c hl0, fun _ => ⟨hok, fun x8 e => ?_⟩⟩⟩
        have e' : x8 = X.2 2 L := e.trans (congrArg (X.2 2) hnn)
        subst e'
        exact ha X _ (hb X _ ⟨htop.1, q⟩)
      by_cases o : opn B (X.2 2 L).toNatClampNeg
      · exact ⟨0, X, fun Q q => start Q (oe_y o ⟨fun _ => q, fun c => absurd c (by decide)⟩), Or.inl ⟨rfl, bad_open h (by omega) o⟩, rfl⟩
      · have hsc := sc_class (ha2 o) hb2
        have o0 := fun (Q : Int32 → Unit → Prop) (q : Q 0 ()) => oe_n hB hx.2 o q
        by_cases ca : ¬ a = -1 ∧ X.2 1 a.toNatClampNeg = 1
        · refine ⟨0, X, fun Q q => start Q (o0 _ ⟨fun c => absurd rfl c, fun _ => isM1 ha1 ca.1 ca.2 ⟨fun _ => q, fun c => absurd c (by decide)⟩⟩), Or.inl ⟨rfl, ?_⟩, rfl⟩
          exact bad_ring h (q := a.toNatClampNeg) ((hsc _).mpr (Or.inl ⟨ca.1, rfl⟩)) ca.2
        · by_cases cb : ¬ b = -1 ∧ X.2 1 b.toNatClampNeg = 1
          · refine ⟨0, X, fun Q q => start Q (o0 _ ⟨fun c => absurd rfl c, fun _ => isM0 ha1 ca ⟨fun c => absurd rfl c, fun _ => isM1 hb1 cb.1 cb.2 ⟨fun c => absurd c (by decide), fun _ => q⟩⟩⟩), Or.inl ⟨rfl, ?_⟩, rfl⟩
            exact bad_ring h (q := b.toNatClampNeg) ((hsc _).mpr (Or.inr ⟨cb.1, rfl⟩)) cb.2
          · by_cases da : ¬ a = -1 ∧ X.2 1 a.toNatClampNeg = 0
            · have hoka := ha1.resolve_left da.1
              have hlt := DI_lt h (pv_self hoka).2 da.2
              have h' := DI_ps h hoka da.2 ((hsc _).mpr (Or.inl ⟨da.1, rfl⟩))
              obtain ⟨r, X', s1, s2, s3⟩ := ih n (y + 1) _ _ _ h' (by rw [hy1]; omega) (by omega) (by omega)
              refine ⟨r, X', fun Q q => start Q (o0 _ ⟨fun c => absurd rfl c, fun _ => isM0 ha1 ca ⟨fun c => absurd rfl c, fun _ => isM0 hb1 cb ⟨fun _ => isM1 ha1 da.1 da.2 ⟨fun c => absurd c (by decide), fun _ => step_on hlen hlt hoka (fun x e => by subst e; exact s1 Q q)⟩, fun c => absurd rfl c⟩⟩⟩), s2, s3.trans rfl⟩
            · by_cases db : ¬ b = -1 ∧ X.2 1 b.toNatClampNeg = 0
              · have hokb := hb1.resolve_left db.1
                have hlt := DI_lt h (pv_self hokb).2 db.2
                have h' := DI_ps h hokb db.2 ((hsc _).mpr (Or.inr ⟨db.1, rfl⟩))
                obtain ⟨r, X', s1, s2, s3⟩ := ih n (y + 1) _ _ _ h' (by rw [hy1]; omega) (by omega) (by omega)
                refine ⟨r, X', fun Q q => start Q (o0 _ ⟨fun c => absurd rfl c, fun _ => isM0 ha1 ca ⟨fun c => absurd rfl c, fun _ => isM0 hb1 cb ⟨fun _ => isM0 ha1 da ⟨fun _ => isM1 hb1 db.1 db.2 ⟨fun c => absurd c (by decide), fun _ => step_on hlen hlt hokb (fun x e => by subst e; exact s1 Q q)⟩, fun c => absurd rfl c⟩, fun c => absurd rfl c⟩⟩⟩), s2, s3.trans rfl⟩
              · have all2 : ∀ q, q ∈ sc B (X.2 2 L).toNatClampNeg → X.2 1 q = 2 := by
                  intro q hq
                  have q5 := sc_lt hq
                  rcases (hsc q).mp hq with ⟨c1, c2⟩ | ⟨c1, c2⟩
                  · subst c2
                    rcases h.2.1.1 _ q5 with e | e | e
                    · exact absurd ⟨c1, e⟩ da
                    · exact absurd ⟨c1, e⟩ ca
                    · exact e
                  · subst c2
                    rcases h.2.1.1 _ q5 with e | e | e
                    · exact absurd ⟨c1, e⟩ db
                    · exact absurd ⟨c1, e⟩ cb
                    · exact e
                obtain ⟨cv, uv, w5, w6, s1, s2, s3, s4, s5, s6, s7⟩ := meas (X := X) hB hx o ha1 hb1 (fun q hq => by
                  have hq' := (hsc q).mpr hq
                  have := (h.2.1.2 q ⟨sc_lt hq', all2 q hq'⟩)
                  obtain ⟨⟨a1, a2, a3, a4, a5, a6, a7, a8, a9, a10⟩, _⟩ := this
                  have n := nop hB a1 a2
                  simp only at a4 a5 a9 a10
                  exact ⟨⟨by omega, by omega⟩, by omega, by omega⟩)
                have h' := DI_ms hB h ep o all2 s2 s3 s4 (fun q hq => s5 q ((hsc q).mp hq)) (s6.imp id (fun ⟨q, hq, e⟩ => ⟨q, (hsc q).mpr hq, e⟩)) (s7.imp id (fun ⟨q, hq, e⟩ => ⟨q, (hsc q).mpr hq, e⟩))
                obtain ⟨r, X', g1, g2, g3⟩ := ih n (y + 1) _ _ _ h' (by rw [hy1]; omega) (by omega) (by omega)
                refine ⟨r, X', fun Q q => start Q (o0 _ ⟨fun c => absurd rfl c, fun _ => isM0 ha1 ca ⟨fun c => absurd rfl c, fun _ => isM0 hb1 cb ⟨fun _ => isM0 ha1 da ⟨fun _ => isM0 hb1 db ⟨fun _ => s1 _ ?_, fun c => absurd rfl c⟩, fun c => absurd rfl c⟩, fun c => absurd rfl c⟩⟩⟩), g2, g3.trans rfl⟩
                intro T e
                subst e
                intro x e
                subst e
                exact g1 Q q
theorem survey_class {X : Ob} {B : Nat → Int32} {x : Int32} {s : Nat} (hB : okC B) (hx : pv x s) : ∃ (r : Int32) (X' : Ob), (∀ Q : Int32 → (Ob × (Nat → Int32)) → Prop, Q r (X', B) → wp_X6_survey (X, B) x Q) ∧ svd B s r X' ∧ X'.2 3 = X.2 3 := by
  have hs := hx.2
  have f0 : ∀ p, p < 512 → fill (X.2 1) 0 512 0 p = 0 := fun p hp => fill_in ⟨Nat.zero_le _, hp⟩
  have k1 : (psX (si (sa X 1 (fill (X.2 1) 0 512 0)) 4 0) 0 x).2 1 s = 1 := by
    show upd (fill (X.2 1) 0 512 0) x.toNatClampNeg 1 s = 1
    rw [pv_n hx]
    exact up_eq _ _ _
  have k0 : ∀ p, p < 512 → ¬ p = s → (psX (si (sa X 1 (fill (X.2 1) 0 512 0)) 4 0) 0 x).2 1 p = 0 := fun p hp hn => by
    show upd (fill (X.2 1) 0 512 0) x.toNatClampNeg 1 p = 0
    rw [pv_n hx, up_ne hn]
    exact f0 p hp
  have r0 : (psX (si (sa X 1 (fill (X.2 1) 0 512 0)) 4 0) 0 x).2 2 0 = x := by
    show upd (X.2 2) 0 x 0 = x
    exact up_eq _ _ _
  have rt : rT (psX (si (sa X 1 (fill (X.2 1) 0 512 0)) 4 0) 0 x) 0 = s := by unfold rT; rw [r0]; exact pv_n hx
  have hDI : DI B s (psX (si (sa X 1 (fill (X.2 1) 0 512 0)) 4 0) 0 x) 1 0 := by
    refine ⟨⟨rfl, fun i hi => ?_, fun p hp h1 => ?_, fun i hi => by omega, ?_, fun _ => rt, hs⟩, ⟨fun p hp => ?_, fun p hp => ?_⟩, ?_, ?_⟩
    · rw [show i = 0 by omega, rt, r0]
      exact ⟨pv_ok hx, k1⟩
    · by_cases c : p = s
      · exact ⟨0, by omega, by rw [rt, c]⟩
      · rw [k0 p hp c] at h1
        exact absurd h1 (by decide)
    · rw [k1]; decide
    · by_cases c : p = s
      · rw [c, k1]; exact Or.inr (Or.inl rfl)
      · exact Or.inl (k0 p hp c)
    · exfalso
      have h2 := hp.2
      by_cases c : p = s
      · rw [c, k1] at h2; exact absurd h2 (by decide)
      · rw [k0 p hp.1 c] at h2; exact absurd h2 (by decide)
    · have := sum_one (n := 512) (p := s) (f := fun _ => 0) (g := fun q => if q = s then 1 else 0) (fun k hk => if_neg hk) hs
      rw [sum_all0 (f := fun _ => 0) (fun _ _ => rfl)] at this
      simp at this
      refine Eq.trans (sum_congr (fun q hq => ?_)) this
      by_cases c : q = s
      · simp only [c, k1]
      · simp only [k0 q hq c, if_neg c]; rfl
    · refine sum_all0 (fun q hq => ?_)
      by_cases c : q = s
      · simp only [c, k1]; rfl
      · simp only [k0 q hq c]; rfl
  obtain ⟨r, X', s1, s2, s3⟩ := sv_loop hB 1599 2000 0 _ _ _ hDI rfl rfl (by decide)
  refine ⟨r, X', fun Q q => ?_, s2, s3.trans rfl⟩
  unfold wp_X6_survey
  refine fill_c (by decide) ?_
  intro T e
  subst e
  exact step_on (L := 0) rfl (by decide) (pv_ok hx) (s1 Q q)
