/-! LAYER 2: what each paired step keeps of the whole relation -/
theorem up_comm {f : Nat → Int32} {i j : Nat} {a b : Int32} (h : ¬ i = j) : upd (upd f i a) j b = upd (upd f j b) i a := by
  funext k
  by_cases c : k = i
  · subst c; rw [up_ne h, up_eq, up_eq]
  · by_cases d : k = j
    · subst d; rw [up_eq, up_ne c, up_eq]
    · rw [up_ne d, up_ne c, up_ne c, up_ne d]
theorem rec_si {J : Ob} {a b c d v : Int32} {k : Nat} (h2 : ¬ k = 2) (h3 : ¬ k = 3) : recJ (si J k v) a b c d = si (recJ J a b c d) k v := by
  have e3 : (si J k v).1 3 = J.1 3 := si_ne (fun e => h3 e.symm)
  have e2 : (si J k v).1 2 = J.1 2 := si_ne (fun e => h2 e.symm)
  unfold recJ
  rw [e3, e2]
  refine Prod.ext ?_ rfl
  show upd (upd (upd J.1 k v) 3 _) 2 _ = upd (upd (upd J.1 3 _) 2 _) k v
  rw [up_comm h3, up_comm h2]
theorem rJ_ev {nw : Bool} {T : Int} {J M : Ob} (h : rJ nw T J M) (hn : nw = true) : 0 ≤ (M.1 11).toInt := by
  obtain ⟨e, e1, -⟩ := (h.2 hn).2.2
  omega
theorem rJ_cnt {nw : Bool} {T : Int} {J M : Ob} {s t : Nat} (h : rJ nw T J M) (hnw : M.1 14 = if nw = true then 1 else 0) (hst : (5 ≤ s ∧ s ≤ 12 ∧ s = t + 4) ∨ (s = 13 ∧ t = 10)) : rJ nw T (si J s (J.1 s + 1)) (cntM M t) := by
  obtain ⟨⟨b1, b2⟩, h⟩ := h
  have s3 : (si J s (J.1 s + 1)).1 3 = J.1 3 := si_ne (by omega)
  have s4 : (si J s (J.1 s + 1)).1 4 = J.1 4 := si_ne (by omega)
  refine ⟨⟨by rw [s3]; exact b1, by rw [s4]; exact b2⟩, fun hn => ?_⟩
  obtain ⟨hc, ho, he⟩ := h hn
  refine ⟨?_, rJo_fr ho s4 rfl (cnt_6 (by omega)) (cnt_2 (by decide)), rJe_fr he (Int.le_refl _) s3 (si_ne (by omega)) rfl (by rw [cnt_1]) (cnt_2 (by decide)) (cnt_2 (by decide)) (cnt_2 (by decide)) (cnt_2 (by decide))⟩
  obtain ⟨c1, c2, c3, c4, c5, c6, c7, c8, c9⟩ := hc
  have hk := cnt_k (M := M) (k := t) (by rw [hnw, hn]; rfl)
  have go : ∀ u v : Nat, ((u = s ∧ v = t) ∨ (¬ u = s ∧ ¬ v = t)) → J.1 u = M.2 6 v → (si J s (J.1 s + 1)).1 u = (cntM M t).2 6 v := by
    intro u v h1 h2
    rcases h1 with ⟨rfl, rfl⟩ | ⟨h3, h4⟩
    · rw [si_self, hk, h2]
    · rw [si_ne h3, cnt_6 h4]; exact h2
  exact ⟨go 5 1 (by omega) c1, go 6 2 (by omega) c2, go 7 3 (by omega) c3, go 8 4 (by omega) c4, go 9 5 (by omega) c5, go 10 6 (by omega) c6, go 11 7 (by omega) c7, go 12 8 (by omega) c8, go 13 10 (by omega) c9⟩
theorem MID_cnt {W : Ob} {nw : Bool} {N T : Int} {K B r : Nat → Int32} {S A J C M : Ob} {s t : Nat} (h : MID W nw N T K S A J C B M r) (hst : (5 ≤ s ∧ s ≤ 12 ∧ s = t + 4) ∨ (s = 13 ∧ t = 10)) : MID W nw N T K S A (si J s (J.1 s + 1)) C B (cntM M t) r := by
  obtain ⟨hS, hA, hJ, hC, hB, hK, hF⟩ := h
  exact ⟨rS_fr hS (fun _ _ => rfl) (by rw [cnt_1]) (cnt_2 (by decide)) (cnt_2 (by decide)) (cnt_2 (by decide)) (cnt_6 (by omega)) (cnt_6 (by omega)), hA, rJ_cnt hJ hF.2.2 hst, rC_fr hC (fun _ _ => rfl) (cnt_6 (by omega)), rB_fr hB (cnt_2 (by decide)), hK, rF_fr hF rfl rfl (by rw [cnt_1]) (by rw [cnt_1]) (by rw [cnt_1]) (fun hn => cnt_off (by rw [hF.2.2, hn]; rfl))⟩
theorem MID_note {W : Ob} {nw : Bool} {N T : Int} {K B r : Nat → Int32} {S A J C M : Ob} {a b d d' : Int32} (h : MID W nw N T K S A J C B M r) (hT : T < 2000000000) (hd : nw = true → d = d') : MID W nw N (T + 1) K S A (recJ J a b (K 4) d) C B (notM M (r 25) a b d') r := by
  obtain ⟨hS, hA, hJ, hC, hB, hK, hF⟩ := h
  have n2 : ∀ j : Nat, j < 7 ∨ 10 < j → (notM M (r 25) a b d').2 j = M.2 j := fun j hj => not_2 (by omega) (by omega) (by omega) (by omega)
  refine ⟨rS_fr hS (fun _ _ => rfl) (not_1 (by decide)) (n2 1 (by omega)) (n2 2 (by omega)) (n2 13 (by omega)) (by rw [n2 6 (by omega)]) (by rw [n2 6 (by omega)]), hA, ?_, rC_fr hC (fun _ _ => rfl) (by rw [n2 6 (by omega)]), rB_fr hB (n2 0 (by omega)), hK, rF_fr hF rfl rfl (not_1 (by decide)) (not_1 (by decide)) (not_1 (by decide)) (fun hn => not_off (by rw [hF.2.2, hn]; rfl))⟩
  have e : K 4 = r 25 := hK.1.1
  rw [e]
  have hx := rJ_note (a := a) (b := b) (c := r 25) (d := d) hJ hF.2.2 hT
  cases nw
  · exact ⟨hx.1, fun z => absurd z (by decide)⟩
  · rw [← hd rfl]; exact hx
theorem MID_req {W : Ob} {nw : Bool} {N T : Int} {K B r : Nat → Int32} {S A J C M : Ob} {k : Int32} (h : MID W nw N T K S A J C B M r) (hk : okI k 21) : MID W nw N T K (reqS S k (K 4)) A J C B (pndM M r k).1 (pndM M r k).2 := by
  obtain ⟨hS, hA, hJ, hC, hB, hK, hF⟩ := h
  have hk2 := ok_iff.mp hk
  have hkn : k.toNatClampNeg < 21 := by rw [i_nat]; omega
  refine ⟨rS_req hS hk hK.1.1 hK.1.2.1 hF.2.2, rA_fr hA (fun j hj => pnd_r (by unfold inA at hj; omega)), rJ_fr hJ (Int.le_refl _) (fun j _ h9 _ _ => pnd_6 h9) (by rw [pnd_1]) (pnd_2 (by decide)) (pnd_2 (by decide)) (pnd_2 (by decide)) (pnd_2 (by decide)) (pnd_2 (by decide)), rC_fr hC (fun j hj => pnd_r (by unfold inC at hj; omega)) (pnd_6 (by decide)), rB_fr hB (pnd_2 (by decide)), rK_fr hK (pnd_r (by omega)) (pnd_r (by omega)) (pnd_r (by omega)), rF_fr hF rfl rfl (by rw [pnd_1]) (by rw [pnd_1]) (by rw [pnd_1]) (fun hn => pnd_off (by rw [hF.2.2, hn]; rfl))⟩
/-- a cell of the row that only the machine's phases read, and a field of the machine -/
theorem MID_r {W : Ob} {nw : Bool} {N T : Int} {K B r : Nat → Int32} {S A J C M : Ob} {i : Nat} {v : Int32} (h : MID W nw N T K S A J C B M r) (hi : i = 24 ∨ i = 28 ∨ i = 29 ∨ i = 32) : MID W nw N T K S A J C B M (upd r i v) := by
  obtain ⟨hS, hA, hJ, hC, hB, hK, hF⟩ := h
  exact ⟨rS_fr hS (fun j hj => up_ne (by unfold inS at hj; omega)) rfl rfl rfl rfl rfl rfl, rA_fr hA (fun j hj => up_ne (by unfold inA at hj; omega)), hJ, rC_fr hC (fun j hj => up_ne (by unfold inC at hj; omega)) rfl, hB, rK_fr hK (up_ne (by omega)) (up_ne (by omega)) (up_ne (by omega)), hF⟩
theorem MID_k8 {W : Ob} {nw : Bool} {N T : Int} {K B r : Nat → Int32} {S A J C M : Ob} {v : Int32} (h : MID W nw N T K S A J C B M r) : MID W nw N T (upd K 8 v) S A J C B M r := h
theorem MID_k9 {W : Ob} {nw : Bool} {N T : Int} {K B r : Nat → Int32} {S A J C M : Ob} {v : Int32} (h : MID W nw N T K S A J C B M r) (hv : isB v) : MID W nw N T (upd K 9 v) S A J C B M r := by
  obtain ⟨hS, hA, hJ, hC, hB, ⟨k1, k2, k3, k4, k5⟩, hF⟩ := h
  exact ⟨hS, hA, hJ, hC, hB, ⟨k1, k2, k3, hv, k5⟩, hF⟩
theorem MID_k10 {W : Ob} {nw : Bool} {N T : Int} {K B r : Nat → Int32} {S A J C M : Ob} {v : Int32} (h : MID W nw N T K S A J C B M r) (hv : isB v) : MID W nw N T (upd K 10 v) S A J C B M r := by
  obtain ⟨hS, hA, hJ, hC, hB, ⟨k1, k2, k3, k4, k5⟩, hF⟩ := h
  exact ⟨hS, hA, hJ, hC, hB, ⟨k1, k2, k3, k4, hv⟩, hF⟩
theorem MID_20 {W : Ob} {nw : Bool} {N T : Int} {K B r : Nat → Int32} {S A J C M : Ob} {p : Int32} (h : MID W nw N T K S A J C B M r) : MID W nw N T (upd K 5 p) S A J C B M (upd r 20 p) := by
  obtain ⟨hS, hA, hJ, hC, hB, ⟨k1, k2, k3, k4, k5⟩, hF⟩ := h
  exact ⟨rS_fr hS (fun j hj => up_ne (by unfold inS at hj; omega)) rfl rfl rfl rfl rfl rfl, rA_fr hA (fun j hj => up_ne (by unfold inA at hj; omega)), hJ, rC_fr hC (fun j hj => up_ne (by unfold inC at hj; omega)) rfl, hB, ⟨k1, rfl, k3, k4, k5⟩, hF⟩
theorem MID_21 {W : Ob} {nw : Bool} {N T : Int} {K B r : Nat → Int32} {S A J C M : Ob} {p : Int32} (h : MID W nw N T K S A J C B M r) : MID W nw N T (upd K 6 p) S A J C B M (upd r 21 p) := by
  obtain ⟨hS, hA, hJ, hC, hB, ⟨k1, k2, k3, k4, k5⟩, hF⟩ := h
  exact ⟨rS_fr hS (fun j hj => up_ne (by unfold inS at hj; omega)) rfl rfl rfl rfl rfl rfl, rA_fr hA (fun j hj => up_ne (by unfold inA at hj; omega)), hJ, rC_fr hC (fun j hj => up_ne (by unfold inC at hj; omega)) rfl, hB, ⟨k1, k2, rfl, k4, k5⟩, hF⟩
theorem MID_turn {W : Ob} {nw : Bool} {N T : Int} {K B r : Nat → Int32} {S A J C M : Ob} {p q : Int32} (h : MID W nw N T K S A J C B M r) : MID W nw N T (upd (upd K 5 p) 6 q) S A J C B M (upd (upd r 20 p) 21 q) := MID_21 (MID_20 h)
/-- another core -/
theorem MID_C {W : Ob} {nw : Bool} {N T : Int} {K B r r' : Nat → Int32} {S A J C C' M M' : Ob} (h : MID W nw N T K S A J C B M r) (hC : rC nw C' M' r') (hr : ∀ k, ¬ inC k → r' k = r k) (m1 : M'.1 = M.1) (m2 : ∀ j, ¬ j = 6 → M'.2 j = M.2 j) (m6 : ∀ j, ¬ j = 13 → M'.2 6 j = M.2 6 j) (mw : nw = false → M' = M) : MID W nw N T K S A J C' B M' r' := by
  obtain ⟨hS, hA, hJ, -, hB, hK, hF⟩ := h
  exact ⟨rS_fr hS (fun j hj => hr j (by unfold inC; unfold inS at hj; omega)) (by rw [m1]) (m2 1 (by decide)) (m2 2 (by decide)) (m2 13 (by decide)) (m6 12 (by decide)) (m6 9 (by decide)), rA_fr hA (fun j hj => hr j (by unfold inC; unfold inA at hj; omega)), rJ_fr hJ (Int.le_refl _) (fun j _ _ _ h => m6 j h) (by rw [m1]) (m2 7 (by decide)) (m2 8 (by decide)) (m2 9 (by decide)) (m2 10 (by decide)) (m2 12 (by decide)), hC, rB_fr hB (m2 0 (by decide)), rK_fr hK (hr 20 (by unfold inC; omega)) (hr 21 (by unfold inC; omega)) (hr 25 (by unfold inC; omega)), rF_fr hF rfl rfl (by rw [m1]) (by rw [m1]) (by rw [m1]) mw⟩
/-- other sources -/
theorem MID_S {W : Ob} {nw : Bool} {N T : Int} {K B r r' : Nat → Int32} {S S' A J C M M' : Ob} (h : MID W nw N T K S A J C B M r) (hS : rS nw S' M' r') (hr : ∀ k, ¬ inS k → r' k = r k) (m1 : M'.1 = M.1) (m2 : ∀ j, ¬ j = 6 → ¬ j = 13 → M'.2 j = M.2 j) (m6 : ∀ j, ¬ j = 9 → ¬ j = 12 → M'.2 6 j = M.2 6 j) (mw : nw = false → M' = M) : MID W nw N T K S' A J C B M' r' := by
  obtain ⟨-, hA, hJ, hC, hB, hK, hF⟩ := h
  exact ⟨hS, rA_fr hA (fun j hj => hr j (by unfold inS; unfold inA at hj; omega)), rJ_fr hJ (Int.le_refl _) (fun j _ h9 h12 _ => m6 j h9 h12) (by rw [m1]) (m2 7 (by decide) (by decide)) (m2 8 (by decide) (by decide)) (m2 9 (by decide) (by decide)) (m2 10 (by decide) (by decide)) (m2 12 (by decide) (by decide)), rC_fr hC (fun j hj => hr j (by unfold inS; unfold inC at hj; omega)) (m6 13 (by decide) (by decide)), rB_fr hB (m2 0 (by decide) (by decide)), rK_fr hK (hr 20 (by unfold inS; omega)) (hr 21 (by unfold inS; omega)) (hr 25 (by unfold inS; omega)), rF_fr hF rfl rfl (by rw [m1]) (by rw [m1]) (by rw [m1]) mw⟩
/-- other arrivals -/
theorem MID_A {W : Ob} {nw : Bool} {N T : Int} {K B r r' : Nat → Int32} {S A A' J C M : Ob} (h : MID W nw N T K S A J C B M r) (hA : rA A' r') (hr : ∀ k, ¬ inA k → r' k = r k) : MID W nw N T K S A' J C B M r' := by
  obtain ⟨hS, -, hJ, hC, hB, hK, hF⟩ := h
  exact ⟨rS_fr hS (fun j hj => hr j (by unfold inA; unfold inS at hj; omega)) rfl rfl rfl rfl rfl rfl, hA, hJ, rC_fr hC (fun j hj => hr j (by unfold inA; unfold inC at hj; omega)) rfl, hB, rK_fr hK (hr 20 (by unfold inA; omega)) (hr 21 (by unfold inA; omega)) (hr 25 (by unfold inA; omega)), hF⟩
theorem MID_mono {W : Ob} {nw : Bool} {N N' T T' : Int} {K B r : Nat → Int32} {S A J C M : Ob} (h : MID W nw N T K S A J C B M r) (hN : N ≤ N') (hT : T ≤ T') : MID W nw N' T' K S A J C B M r := by
  obtain ⟨hS, hA, hJ, hC, hB, hK, hF⟩ := h
  exact ⟨hS, hA, rJ_mono hJ hT, hC, hB, rK_mono hK hN, hF⟩
theorem could_B (S : Ob) (k : Int32) : couldF S k = 0 ∨ couldF S k = 1 := by
  unfold couldF
  repeat' split
  all_goals first | exact Or.inl rfl | exact Or.inr rfl
theorem taker_ok {S : Ob} {f : Int32} (hf : okI f 21) : okB (takerF S f) := by
  unfold takerF
  repeat' split
  all_goals first | exact Or.inl rfl | exact Or.inr hf | exact Or.inr (ok_iff.mpr (by decide))
theorem okB_neg {b : Int32} (h : okB b) : b < 0 ↔ b = -1 := by
  have e0 : (0 : Int32).toInt = 0 := rfl
  have e1 : (-1 : Int32).toInt = -1 := rfl
  rw [i_lt, i_eq, e0, e1]
  rcases h with h | h
  · rw [h, e1]; omega
  · have := ok_iff.mp h
    omega
theorem okB_le {b : Int32} (h : okB b) : 0 ≤ b ↔ ¬ b = -1 := by
  rw [← okB_neg h, i_le, i_lt]
  omega
theorem MID_tak {W : Ob} {nw : Bool} {N T : Int} {K B r : Nat → Int32} {S A J C M : Ob} (h : MID W nw N T K S A J C B M r) : takR S M r := h.1.1.1
theorem MID_lim {W : Ob} {nw : Bool} {N T : Int} {K B r : Nat → Int32} {S A J C M : Ob} (h : MID W nw N T K S A J C B M r) : limR S r := h.1.1.1.1.1
theorem MID_rec {W : Ob} {nw : Bool} {N T : Int} {K B r : Nat → Int32} {S A J C M : Ob} {a b c d : Int32} {Q : Ob → Prop} (h : MID W nw N T K S A J C B M r) (hQ : Q (recJ J a b c d)) : wp_X2_record J a b c d Q := record_class h.2.2.1.1.1.1 h.2.2.1.1.1.2 hQ
theorem MID_not {W : Ob} {nw : Bool} {N T : Int} {K B r : Nat → Int32} {S A J C M : Ob} {a b c : Int32} {Q : (Ob × (Nat → Int32)) → Prop} (h : MID W nw N T K S A J C B M r) (hQ : Q (notM M (r 25) a b c, r)) : wp_X8_notes nw (M, r) a b c Q := notes_model h.2.2.2.2.2.2.2.2 (rJ_ev h.2.2.1) hQ
/-- a fault is raised -/
def raiK (K : Nat → Int32) (t : Int32) : Nat → Int32 := if t = -1 then upd (upd K 5 5) 6 0 else K
theorem raise_pair {W : Ob} {nw : Bool} {N T : Int} {K B r : Nat → Int32} {S A J C M : Ob} {f : Int32} (h : MID W nw N T K S A J C B M r) (hf : okI f 21) (hT : T < 2000000000) : ∃ (S' J' M' : Ob) (r' : Nat → Int32),
    (∀ Q : Mac → Prop, Q (raiK K (takerF S f), S', A, J', C, B) → wp_X3_raise (K, S, A, J, C, B) f Q) ∧ (∀ Q : Int32 → Mod → Prop, Q (if takerF S f = -1 then 1 else 0) (M', r') → wp_X8_raises nw (M, r) f Q) ∧ MID W nw N (T + 1) (raiK K (takerF S f)) S' A J' C B M' r' ∧ (∀ k : Nat, k = 24 ∨ k = 28 ∨ k = 29 ∨ k = 32 → r' k = r k) := by
  have hok := taker_ok (S := S) hf
  have eC : C.1 5 = r 12 := h.2.2.2.1.1.2.2.2.2.1
  generalize ht : takerF S f = t at *
  have h1 := MID_cnt (s := 11) (t := 7) h (by omega)
  by_cases c : t = -1
  · have hk : raiK K t = upd (upd K 5 5) 6 0 := if_pos c
    have h2 := MID_turn (p := 5) (q := 0) h1
    have h3 := MID_note (a := 3) (b := t) (d := C.1 5) (d' := C.1 5) h2 hT (fun _ => rfl)
    refine ⟨S, recJ (si J 11 (J.1 11 + 1)) 3 t (K 4) (C.1 5), notM (cntM M 7) ((upd (upd r 20 5) 21 0) 25) 3 t (C.1 5), upd (upd r 20 5) 21 0, ?_, ?_, ?_, ?_⟩
    · intro Q hQ
      rw [hk] at hQ
      unfold wp_X3_raise
      refine taker_class (MID_lim h) hf ?_
      rw [ht]
      intro T3 e3
      subst e3
      refine MID_rec h1 ?_
      refine ⟨fun d => absurd c d, fun _ => ?_⟩
      unfold wp_X3_enter
      intro T1 e1 T2 e2
      subst e1
      subst e2
      exact hQ
    · intro Q hQ
      rw [if_pos c] at hQ
      unfold wp_X8_raises
      refine target_model (MID_tak h) hf ?_
      rw [ht]
      refine counts_model (okLit (by decide)) ?_
      refine ⟨fun _ => ?_, fun d => absurd (c.symm.trans d) (by decide)⟩
      unfold wp_X8_raises_L25
      refine ⟨fun _ T7 e7 T8 e8 => ?_, fun d => absurd (by rw [c]; decide) d⟩
      subst e7
      subst e8
      refine MID_not h2 ?_
      rw [eC] at hQ
      refine ⟨fun d => absurd d (by rw [c]; decide), fun _ => hQ⟩
    · rw [hk]; exact h3
    · intro k hk
      rw [up_ne (by omega), up_ne (by omega)]
  · have hk : raiK K t = K := if_neg c
    have htok : okI t 21 := hok.resolve_left c
    have hneg : ¬ t < 0 := fun d => c ((okB_neg hok).mp d)
    have hge : 0 ≤ t := (okB_le hok).mpr c
    by_cases d : t = 20
    · have h2 := MID_cnt (s := 12) (t := 8) h1 (by omega)
      have h3 := MID_req (k := t) h2 htok
      have h4 := MID_note (a := 3) (b := t) (d := C.1 5) (d' := C.1 5) h3 hT (fun _ => rfl)
      refine ⟨_, _, _, _, ?_, ?_, by rw [hk]; exact h4, ?_⟩
      · intro Q hQ
        rw [hk] at hQ
        unfold wp_X3_raise
        refine taker_class (MID_lim h) hf ?_
        rw [ht]
        intro T3 e3
        subst e3
        refine MID_rec h1 ?_
        refine ⟨fun _ => ⟨fun z => absurd d z, fun _ T9 e9 => ?_⟩, fun z => absurd z c⟩
        subst e9
        refine request_class htok ?_
        rw [rec_si (by decide) (by decide)] at hQ
        rw [rec_1 (by decide) (by decide)]
        exact hQ
      · intro Q hQ
        rw [if_neg c] at hQ
        unfold wp_X8_raises
        refine target_model (MID_tak h) hf ?_
        rw [ht]
        refine counts_model (okLit (by decide)) ?_
        refine ⟨fun z => absurd d z, fun _ => ?_⟩
        refine counts_model (okLit (by decide)) ?_
        unfold wp_X8_raises_L25
        refine ⟨fun z => absurd z hneg, fun _ => ?_⟩
        refine pends_model htok ?_
        refine MID_not h3 ?_
        have e12 : (pndM (cntM (cntM M 7) 8) r t).2 12 = C.1 5 := by rw [pnd_r (by have := ok_iff.mp htok; rw [i_nat]; omega), eC]
        rw [← e12] at hQ
        refine ⟨fun _ => hQ, fun z => absurd hge z⟩
      · intro k hk
        have := ok_iff.mp htok
        exact pnd_r (by rw [i_nat]; omega)
    · have h3 := MID_req (k := t) h1 htok
      have h4 := MID_note (a := 3) (b := t) (d := C.1 5) (d' := C.1 5) h3 hT (fun _ => rfl)
      refine ⟨_, _, _, _, ?_, ?_, by rw [hk]; exact h4, ?_⟩
      · intro Q hQ
        rw [hk] at hQ
        unfold wp_X3_raise
        refine taker_class (MID_lim h) hf ?_
        rw [ht]
        intro T3 e3
        subst e3
        refine MID_rec h1 ?_
        refine ⟨fun _ => ⟨fun _ => ?_, fun z => absurd z d⟩, fun z => absurd z c⟩
        exact request_class htok hQ
      · intro Q hQ
        rw [if_neg c] at hQ
        unfold wp_X8_raises
        refine target_model (MID_tak h) hf ?_
        rw [ht]
        refine counts_model (okLit (by decide)) ?_
        refine ⟨fun _ => ?_, fun z => absurd z d⟩
        unfold wp_X8_raises_L25
        refine ⟨fun z => absurd z hneg, fun _ => ?_⟩
        refine pends_model htok ?_
        refine MID_not h3 ?_
        have e12 : (pndM (cntM M 7) r t).2 12 = C.1 5 := by rw [pnd_r (by have := ok_iff.mp htok; rw [i_nat]; omega), eC]
        rw [← e12] at hQ
        refine ⟨fun _ => hQ, fun z => absurd hge z⟩
      · intro k hk
        have := ok_iff.mp htok
        exact pnd_r (by rw [i_nat]; omega)
