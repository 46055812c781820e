/-! LAYER 2: singles: sums, both -/
theorem sv_like {s : Bool} {A B : Nat} (h : 0 < A + B) : FP.Core.sumSign s s (FP.Core.signed s A + FP.Core.signed s B) = s ∧ (FP.Core.signed s A + FP.Core.signed s B).natAbs = A + B := by
  cases s
  · show FP.Core.sumSign false false ((A : Int) + (B : Int)) = false ∧ ((A : Int) + (B : Int)).natAbs = A + B
    unfold FP.Core.sumSign
    rw [if_neg (by omega)]
    exact ⟨decide_eq_false (by omega), by omega⟩
  · show FP.Core.sumSign true true (-(A : Int) + -(B : Int)) = true ∧ (-(A : Int) + -(B : Int)).natAbs = A + B
    unfold FP.Core.sumSign
    rw [if_neg (by omega)]
    exact ⟨decide_eq_true (by omega), by omega⟩
theorem sv_gt {s t : Bool} {A B : Nat} (hs : ¬ s = t) (h : B < A) : FP.Core.sumSign s t (FP.Core.signed s A + FP.Core.signed t B) = s ∧ (FP.Core.signed s A + FP.Core.signed t B).natAbs = A - B := by
  cases s
  · cases t
    · exact absurd rfl hs
    · show FP.Core.sumSign false true ((A : Int) + -(B : Int)) = false ∧ ((A : Int) + -(B : Int)).natAbs = A - B
      unfold FP.Core.sumSign
      rw [if_neg (by omega)]
      exact ⟨decide_eq_false (by omega), by omega⟩
  · cases t
    · show FP.Core.sumSign true false (-(A : Int) + (B : Int)) = true ∧ (-(A : Int) + (B : Int)).natAbs = A - B
      unfold FP.Core.sumSign
      rw [if_neg (by omega)]
      exact ⟨decide_eq_true (by omega), by omega⟩
    · exact absurd rfl hs
theorem sv_lt {s t : Bool} {A B : Nat} (hs : ¬ s = t) (h : A < B) : FP.Core.sumSign s t (FP.Core.signed s A + FP.Core.signed t B) = t ∧ (FP.Core.signed s A + FP.Core.signed t B).natAbs = B - A := by
  cases s
  · cases t
    · exact absurd rfl hs
    · show FP.Core.sumSign false true ((A : Int) + -(B : Int)) = true ∧ ((A : Int) + -(B : Int)).natAbs = B - A
      unfold FP.Core.sumSign
      rw [if_neg (by omega)]
      exact ⟨decide_eq_true (by omega), by omega⟩
  · cases t
    · show FP.Core.sumSign true false (-(A : Int) + (B : Int)) = false ∧ (-(A : Int) + (B : Int)).natAbs = B - A
      unfold FP.Core.sumSign
      rw [if_neg (by omega)]
      exact ⟨decide_eq_false (by omega), by omega⟩
    · exact absurd rfl hs
theorem sv_eq {s t : Bool} {A : Nat} (hs : ¬ s = t) : (FP.Core.signed s A + FP.Core.signed t A).natAbs = 0 := by
  cases s
  · cases t
    · exact absurd rfl hs
    · show ((A : Int) + -(A : Int)).natAbs = 0
      omega
  · cases t
    · show (-(A : Int) + (A : Int)).natAbs = 0
      omega
    · exact absurd rfl hs
/-- the sum in units of the low one's place -/
theorem add_val {H L : Int32} (hH : finB H) (hL : finB L) (hp : fP L ≤ fP H) : FP.Core.val32 (FP.fadd (uB H) (uB L)) = FP.Core.roundRatio FP.Core.b32 (FP.Core.sumSign (fN H) (fN L) (FP.Core.signed (fN H) (fS H * 2 ^ (fP H - fP L).toNat) + FP.Core.signed (fN L) (fS L))) (FP.Core.signed (fN H) (fS H * 2 ^ (fP H - fP L).toNat) + FP.Core.signed (fN L) (fS L)).natAbs 1 (fP L) := by
  rw [fa_core, FP.Core.val32_fadd, uB_val hH, uB_val hL]
  have e : FP.Core.sumUnits (fN H) (fS H) (fP H) (fN L) (fS L) (fP L) (min (fP H) (fP L)) = FP.Core.signed (fN H) (fS H * 2 ^ (fP H - fP L).toNat) + FP.Core.signed (fN L) (fS L) := by
    unfold FP.Core.sumUnits FP.Core.inUnits
    rw [show min (fP H) (fP L) = fP L by omega, show (fP L - fP L).toNat = 0 by omega, Nat.pow_zero, Nat.mul_one]
  show FP.Core.roundRatio FP.Core.b32 (FP.Core.sumSign (fN H) (fN L) (FP.Core.sumUnits (fN H) (fS H) (fP H) (fN L) (fS L) (fP L) (min (fP H) (fP L)))) (FP.Core.sumUnits (fN H) (fS H) (fP H) (fN L) (fS L) (fP L) (min (fP H) (fP L))).natAbs 1 (min (fP H) (fP L)) = _
  rw [e, show min (fP H) (fP L) = fP L by omega]
theorem fold_rr {s : Bool} {n g r lit : Nat} {e : Int} (he : -149 ≤ e) (h : (r = 0 ∧ lit = 0 ∧ ¬ n = 0) ∨ (0 < r ∧ r < 2 ^ g ∧ lit = 1 ∧ 16777216 ≤ n)) : dB (FP.Core.roundRatio FP.Core.b32 s (n * 2 ^ g + r) 1 e) = dBs (FP.Core.roundRatio FP.Core.b32 s (2 * n + lit) 1 (e + (g : Int) - 1)) := by
  have hg := Nat.two_pow_pos g
  have n0 : ¬ n = 0 := by rcases h with ⟨_, _, z⟩ | ⟨_, _, _, z⟩ <;> omega
  have hn : ¬ n * 2 ^ g + r = 0 := fun z => by
    have := Nat.mul_pos (show 0 < n by omega) hg
    omega
  rw [dB_same (rr_nz hn he)]
  rcases h with ⟨h1, h2, _⟩ | ⟨h1, h2, h3, h4⟩
  · subst h1
    subst h2
    rw [rr_dbl]
    congr 1
    refine FP.Core.roundRatio_congr (by decide) (by decide) ?_
    rw [show (e - (e + (g : Int))).toNat = 0 by omega, show (e + (g : Int) - e).toNat = g by omega, Nat.pow_zero, Nat.mul_one, Nat.mul_one, Nat.mul_one, Nat.add_zero]
  · subst h3
    rw [sticky h1 h2 h4]
theorem sum_mid {H L y6 : Int32} {sh g : Nat} (hH : finB H) (hL : finB L) (h1 : ¬ fS H = 0) (hp : fP H - fP L = (sh : Int) + (g : Int)) (h6 : y6.toInt = (sh : Int)) (hsh : sh ≤ 38) (hg : g = 0 ∨ (sh = 38 ∧ 8388608 ≤ fS H)) (Q : Int32 → Unit → Prop) (q : Q (dB (FP.Core.val32 (FP.fadd (uB H) (uB L)))) ()) : wp_X8_sum_L174 Q H L y6 (L6 (fS H * 2 ^ sh)) (L6 (fS L / 2 ^ g)) (if fS L % 2 ^ g = 0 then 0 else 1) () := by
  have sH := fS_lt H
  have sL := fS_lt L
  have pL := fP_lo L
  have hgp := Nat.two_pow_pos g
  have hdm := Nat.div_add_mod' (fS L) (2 ^ g)
  have hml := Nat.mod_lt (fS L) hgp
  have hA : fS H * 2 ^ (fP H - fP L).toNat = fS H * 2 ^ sh * 2 ^ g := by
    rw [show (fP H - fP L).toNat = sh + g by omega, Nat.pow_add, Nat.mul_assoc]
  have hn7 : fS H * 2 ^ sh < 4611686018427387904 := by
    have a1 : fS H * 2 ^ sh < 16777216 * 2 ^ sh := Nat.mul_lt_mul_of_pos_right sH (Nat.two_pow_pos _)
    have a2 : (2 ^ sh : Nat) ≤ 2 ^ 38 := Nat.pow_le_pow_right (by decide) hsh
    omega
  have hn0 : 0 < fS H * 2 ^ sh := Nat.mul_pos (by omega) (Nat.two_pow_pos _)
  have hbig : ¬ fS L % 2 ^ g = 0 → 67108864 ≤ fS H * 2 ^ sh := by
    intro c
    rcases hg with z | ⟨z1, z2⟩
    · exfalso
      rw [z, Nat.pow_zero, Nat.mod_one] at c
      exact c rfl
    · rw [z1]
      have : 8388608 * 2 ^ 38 ≤ fS H * 2 ^ 38 := Nat.mul_le_mul_right _ z2
      omega
  have hwl : fS L / 2 ^ g ≤ fS L := Nat.div_le_self _ _
  rw [add_val hH hL (by omega), hA] at q
  have hpe : fP H - (sh : Int) - 1 = fP L + (g : Int) - 1 := by omega
  -- names
  obtain ⟨n7, e7⟩ : ∃ n, n = fS H * 2 ^ sh := ⟨_, rfl⟩
  obtain ⟨w, ew⟩ : ∃ n, n = fS L / 2 ^ g := ⟨_, rfl⟩
  obtain ⟨r, er⟩ : ∃ n, n = fS L % 2 ^ g := ⟨_, rfl⟩
  obtain ⟨P, eP⟩ : ∃ n, n = 2 ^ g := ⟨_, rfl⟩
  rw [← ew, ← er] at hdm
  rw [← er] at hml hbig ⊢
  rw [← ew] at hwl ⊢
  rw [← e7] at hn7 hn0 hbig q ⊢
  by_cases c : r = 0
  · subst c
    rw [if_pos rfl]
    refine s174 (lit := 0) hH h6 hsh hn7 hn0 (by omega) (Or.inl ⟨rfl, rfl⟩) Q (fun d => ?_) (fun d _ e => ?_) (fun d _ e => ?_) (fun d _ e => ?_) (fun _ e => absurd e (by decide))
    · rw [← d] at q
      have e1 : n7 * 2 ^ g + fS L = (n7 + w) * 2 ^ g + 0 := by rw [Nat.add_mul]; omega
      have hv := sv_like (s := fN H) (A := n7 * 2 ^ g) (B := fS L) (by rw [e1]; have := Nat.mul_pos (show 0 < n7 + w by omega) hgp; omega)
      rw [hv.1, hv.2, e1, fold_rr pL (Or.inl ⟨rfl, rfl, by omega⟩)] at q
      rw [hpe]
      exact q
    · have e1 : fS L = n7 * 2 ^ g := by rw [e]; omega
      rw [← e1, sv_eq d] at q
      exact q
    · have e1 : n7 * 2 ^ g - fS L = (n7 - w) * 2 ^ g + 0 := by rw [Nat.sub_mul]; omega
      have hlt : fS L < n7 * 2 ^ g := by
        have := Nat.mul_lt_mul_of_pos_right e hgp
        omega
      have hv := sv_gt d hlt
      rw [hv.1, hv.2, e1, fold_rr pL (Or.inl ⟨rfl, rfl, by omega⟩)] at q
      rw [hpe]
      exact q
    · have e1 : fS L - n7 * 2 ^ g = (w - n7) * 2 ^ g + 0 := by rw [Nat.sub_mul]; omega
      have hlt : n7 * 2 ^ g < fS L := by
        have := Nat.mul_lt_mul_of_pos_right e hgp
        omega
      have hv := sv_lt d hlt
      rw [hv.1, hv.2, e1, fold_rr pL (Or.inl ⟨rfl, rfl, by omega⟩)] at q
      rw [hpe]
      exact q
  · rw [if_neg c]
    have hb := hbig c
    refine s174 (lit := 1) hH h6 hsh hn7 hn0 (by omega) (Or.inr ⟨by decide, rfl, hb⟩) Q (fun d => ?_) (fun _ e => absurd e (by decide)) (fun _ e => absurd e (by decide)) (fun _ e => absurd e (by decide)) (fun d _ => ?_)
    · rw [← d] at q
      have e1 : n7 * 2 ^ g + fS L = (n7 + w) * 2 ^ g + r := by rw [Nat.add_mul]; omega
      have hv := sv_like (s := fN H) (A := n7 * 2 ^ g) (B := fS L) (by omega)
      rw [hv.1, hv.2, e1, fold_rr pL (Or.inr ⟨by omega, hml, rfl, by omega⟩)] at q
      rw [hpe]
      exact q
    · obtain ⟨t, ht⟩ : ∃ t, n7 = t + w + 1 := ⟨n7 - w - 1, by omega⟩
      have em : n7 * 2 ^ g = t * 2 ^ g + w * 2 ^ g + 2 ^ g := by rw [ht, Nat.add_mul, Nat.add_mul, Nat.one_mul]
      have e1 : n7 * 2 ^ g - fS L = t * 2 ^ g + (2 ^ g - r) := by omega
      have hv := sv_gt (A := n7 * 2 ^ g) (B := fS L) d (by omega)
      rw [hv.1, hv.2, e1, fold_rr (lit := 1) pL (Or.inr ⟨by omega, by omega, rfl, by omega⟩)] at q
      rw [hpe, show n7 - w - 1 = t by omega]
      exact q
