/-! LAYER 2: the relation between calls -/
def REL (N T : Int) (B K : Nat → Int32) (S A J C J2 M : Ob) : Prop := rS true S M (M.2 4) ∧ rA A (M.2 4) ∧ rJ true T J M ∧ rC true C M (M.2 4) ∧ rB B M ∧ rK N K (M.2 4) ∧ K 11 = 0 ∧ rP K C (M.2 4) ∧ rJb T J2
def FACE (N T : Int) (wc : (Int32 → TR7 → Prop) → Prop) (wm : (Int32 → Ob → Prop) → Prop) : Prop := ∃ (v : Int32) (B K : Nat → Int32) (S A J C : Ob) (K2 : Nat → Int32) (S2 A2 J2 C2 Y M : Ob), (∀ Q : Int32 → TR7 → Prop, Q v (B, K, S, A, J, C, K2, S2, A2, J2, C2, Y) → wc Q) ∧ (∀ Q : Int32 → Ob → Prop, Q v M → wm Q) ∧ REL (N + 300) (T + 4000) B K S A J C J2 M
theorem rJb_mono {T T' : Int} {J : Ob} (h : rJb T J) (t : T ≤ T') : rJb T' J := ⟨h.1, h.2.1, Int.le_trans h.2.2 t⟩
theorem REL_M {N T : Int} {B K : Nat → Int32} {S A J C J2 M M' : Ob} (h : REL N T B K S A J C J2 M) (m3 : M'.1 3 = M.1 3) (m11 : M'.1 11 = M.1 11) (m2 : ∀ j, ¬ j = 5 → j < 18 → M'.2 j = M.2 j) : REL N T B K S A J C J2 M' := by
  obtain ⟨hS, hA, hJ, hC, hB, hK, hp, hP, hJ2⟩ := h
  have e4 : M'.2 4 = M.2 4 := m2 4 (by decide) (by decide)
  have e6 : M'.2 6 = M.2 6 := m2 6 (by decide) (by decide)
  unfold REL
  rw [e4]
  exact ⟨rS_fr hS (fun _ _ => rfl) m3 (m2 1 (by decide) (by decide)) (m2 2 (by decide) (by decide)) (m2 13 (by decide) (by decide)) (by rw [e6]) (by rw [e6]), hA, rJ_fr hJ (Int.le_refl _) (fun _ _ _ _ _ => by rw [e6]) m11 (m2 7 (by decide) (by decide)) (m2 8 (by decide) (by decide)) (m2 9 (by decide) (by decide)) (m2 10 (by decide) (by decide)) (m2 12 (by decide) (by decide)), rC_fr hC (fun _ _ => rfl) (by rw [e6]), rB_fr hB (m2 0 (by decide) (by decide)), hK, hp, hP, hJ2⟩
theorem REL_mono {N N' T T' : Int} {B K : Nat → Int32} {S A J C J2 M : Ob} (h : REL N T B K S A J C J2 M) (n : N ≤ N') (t : T ≤ T') : REL N' T' B K S A J C J2 M := by
  obtain ⟨hS, hA, hJ, hC, hB, hK, hp, hP, hJ2⟩ := h
  exact ⟨hS, hA, rJ_mono hJ t, hC, hB, rK_mono hK n, hp, hP, rJb_mono hJ2 t⟩
theorem REL_17 {N T : Int} {B K : Nat → Int32} {S A J C J2 M : Ob} {v : Int32} (h : REL N T B K S A J C J2 M) : REL N T B K S A J C J2 (si M 17 v) := REL_M h rfl rfl (fun _ _ _ => rfl)
theorem REL_up {N T : Int} {B K : Nat → Int32} {S A J C J2 M : Ob} (h : REL N T B K S A J C J2 M) : REL (N + 300) (T + 4000) B K S A J C J2 M := REL_mono h (by omega) (by omega)
/-- in the midst, once the reference's flags are set -/
theorem REL_MID {N T : Int} {B K : Nat → Int32} {S A J C J2 M Mx : Ob} (W : Ob) (h : REL N T B K S A J C J2 M) (m3 : Mx.1 3 = M.1 3) (m11 : Mx.1 11 = M.1 11) (m14 : Mx.1 14 = 1) (m2 : ∀ j, ¬ j = 5 → j < 18 → Mx.2 j = M.2 j) (w : Mx.1 15 = W.1 15) : MID W true N T (upd (upd K 7 (-1)) 11 (Mx.1 15)) S A J C B (si Mx 16 (-1)) (M.2 4) := by
  obtain ⟨hS, hA, hJ, hC, hB, hK, hp, hP, hJ2⟩ := h
  have e6 : (si Mx 16 (-1)).2 6 = M.2 6 := m2 6 (by decide) (by decide)
  exact ⟨rS_fr hS (fun _ _ => rfl) m3 (m2 1 (by decide) (by decide)) (m2 2 (by decide) (by decide)) (m2 13 (by decide) (by decide)) (by rw [e6]) (by rw [e6]), hA, rJ_fr hJ (Int.le_refl _) (fun _ _ _ _ _ => by rw [e6]) m11 (m2 7 (by decide) (by decide)) (m2 8 (by decide) (by decide)) (m2 9 (by decide) (by decide)) (m2 10 (by decide) (by decide)) (m2 12 (by decide) (by decide)), rC_fr hC (fun _ _ => rfl) (by rw [e6]), rB_fr hB (m2 0 (by decide) (by decide)), hK, ⟨⟨rfl, fun z => absurd z (by decide), w, Or.inl rfl⟩, rfl, by show Mx.1 14 = _; rw [m14]; rfl⟩⟩
theorem MID_REL {W : Ob} {N T : Int} {B K K' r : Nat → Int32} {S A J C J2 M M' : Ob} (h : MID W true N T K' S A J C B M r) (e4 : M'.2 4 = r) (m3 : M'.1 3 = M.1 3) (m11 : M'.1 11 = M.1 11) (m2 : ∀ j, ¬ j = 4 → ¬ j = 5 → j < 18 → M'.2 j = M.2 j) (k4 : K 4 = K' 4) (k5 : K 5 = K' 5) (k6 : K 6 = K' 6) (k9 : K 9 = K' 9) (k10 : K 10 = K' 10) (k11 : K 11 = 0) (hP : rP K C r) (hJ2 : rJb T J2) : REL N T B K S A J C J2 M' := by
  obtain ⟨hS, hA, hJ, hC, hB, hK, hF⟩ := h
  have e6 : M'.2 6 = M.2 6 := m2 6 (by decide) (by decide) (by decide)
  unfold REL
  rw [e4]
  refine ⟨rS_fr hS (fun _ _ => rfl) m3 (m2 1 (by decide) (by decide) (by decide)) (m2 2 (by decide) (by decide) (by decide)) (m2 13 (by decide) (by decide) (by decide)) (by rw [e6]) (by rw [e6]), hA, rJ_fr hJ (Int.le_refl _) (fun _ _ _ _ _ => by rw [e6]) m11 (m2 7 (by decide) (by decide) (by decide)) (m2 8 (by decide) (by decide) (by decide)) (m2 9 (by decide) (by decide) (by decide)) (m2 10 (by decide) (by decide) (by decide)) (m2 12 (by decide) (by decide) (by decide)), rC_fr hC (fun _ _ => rfl) (by rw [e6]), rB_fr hB (m2 0 (by decide) (by decide) (by decide)), ?_, k11, hP, hJ2⟩
  unfold rK
  rw [k4, k5, k6, k9, k10]
  exact hK
theorem FACE_get {N T : Int} {B K K2 : Nat → Int32} {S A J C S2 A2 J2 C2 Y M : Ob} {v : Int32} {wc : (Int32 → TR7 → Prop) → Prop} {wm : (Int32 → Ob → Prop) → Prop} (h : REL N T B K S A J C J2 M) (hc : ∀ Q : Int32 → TR7 → Prop, Q v (B, K, S, A, J, C, K2, S2, A2, J2, C2, Y) → wc Q) (hm : ∀ Q : Int32 → Ob → Prop, Q v (si M 17 0) → wm Q) : FACE N T wc wm := ⟨v, B, K, S, A, J, C, K2, S2, A2, J2, C2, Y, si M 17 0, hc, hm, REL_up (REL_17 h)⟩
theorem FACE_w {N T : Int} {wc wc' : (Int32 → TR7 → Prop) → Prop} {wm wm' : (Int32 → Ob → Prop) → Prop} (h : FACE N T wc wm) (hc : ∀ Q, wc Q → wc' Q) (hm : ∀ Q, wm Q → wm' Q) : FACE N T wc' wm' := by
  obtain ⟨v, B, K, S, A, J, C, K2, S2, A2, J2, C2, Y, M, h1, h2, h3⟩ := h
  exact ⟨v, B, K, S, A, J, C, K2, S2, A2, J2, C2, Y, M, fun Q q => hc Q (h1 Q q), fun Q q => hm Q (h2 Q q), h3⟩
theorem at_off {r : Nat → Int32} {o : Int32} {n m : Nat} {p : Int32} (hp : 0 ≤ p.toInt) (hp2 : p.toInt < (m : Int)) (ho : o.toInt = (n : Int)) (hn : n + m ≤ 342) : okI (o + p) 342 ∧ r (Int32.toNatClampNeg (o + p)) = r (n + p.toNatClampNeg) := by
  have of := off (a := o) (k := p) (by omega) hp (by omega)
  refine ⟨of.1, ?_⟩
  rw [of.2, show o.toNatClampNeg = n by rw [i_nat, ho]; omega]
