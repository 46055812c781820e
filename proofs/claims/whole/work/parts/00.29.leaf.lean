/-! LAYER 2: leaves: an event, a count, a request, on both sides -/
theorem cnt_1 (M : Ob) (k : Nat) : (cntM M k).1 = M.1 := by unfold cntM; split <;> rfl
theorem cnt_2 {M : Ob} {k j : Nat} (h : ¬ j = 6) : (cntM M k).2 j = M.2 j := by
  unfold cntM
  split
  · rfl
  · exact va_up_ne _ _ h
theorem cnt_6 {M : Ob} {k j : Nat} (h : ¬ j = k) : (cntM M k).2 6 j = M.2 6 j := by
  unfold cntM
  split
  · rfl
  · show va_up M.2 6 _ 6 j = _
    rw [va_up_self]
    exact up_ne h
theorem cnt_k {M : Ob} {k : Nat} (h : M.1 14 = 1) : (cntM M k).2 6 k = M.2 6 k + 1 := by
  unfold cntM
  rw [if_neg (by rw [h]; decide)]
  show va_up M.2 6 _ 6 k = _
  rw [va_up_self]
  exact up_eq _ _ _
theorem cnt_off {M : Ob} {k : Nat} (h : M.1 14 = 0) : cntM M k = M := by unfold cntM; rw [if_pos h]
theorem pnd_off {M : Ob} {r : Nat → Int32} {k : Int32} (h : M.1 14 = 0) : (pndM M r k).1 = M := by
  unfold pndM
  split
  · rfl
  · exact cnt_off h
theorem pnd_1 (M : Ob) (r : Nat → Int32) (k : Int32) : (pndM M r k).1.1 = M.1 := by unfold pndM; split; rfl; exact cnt_1 M 9
theorem pnd_2 {M : Ob} {r : Nat → Int32} {k : Int32} {j : Nat} (h : ¬ j = 6) : (pndM M r k).1.2 j = M.2 j := by unfold pndM; split; rfl; exact cnt_2 h
theorem pnd_6 {M : Ob} {r : Nat → Int32} {k : Int32} {j : Nat} (h : ¬ j = 9) : (pndM M r k).1.2 6 j = M.2 6 j := by unfold pndM; split; rfl; exact cnt_6 h
theorem pnd_r {M : Ob} {r : Nat → Int32} {k : Int32} {j : Nat} (h : ¬ j = 194 + k.toNatClampNeg) : (pndM M r k).2 j = r j := by unfold pndM; split; exact up_ne h; rfl
/-- an event, the class's side -/
def recJ (J : Ob) (a b c d : Int32) : Ob :=
  si (sa (si J 3 (if 24 ≤ J.1 3 + 1 then 0 else J.1 3 + 1)) 1 (upd (upd (upd (upd (J.2 1) (Int32.toNatClampNeg ((if 24 ≤ J.1 3 + 1 then 0 else J.1 3 + 1) * 4)) a) (Int32.toNatClampNeg ((if 24 ≤ J.1 3 + 1 then 0 else J.1 3 + 1) * 4 + 1)) b) (Int32.toNatClampNeg ((if 24 ≤ J.1 3 + 1 then 0 else J.1 3 + 1) * 4 + 2)) c) (Int32.toNatClampNeg ((if 24 ≤ J.1 3 + 1 then 0 else J.1 3 + 1) * 4 + 3)) d)) 2 (if 24 < J.1 2 + 1 then 24 else J.1 2 + 1)
theorem sa_self (S : Ob) (k : Nat) (f : Nat → Int32) : (sa S k f).2 k = f := va_up_self _ _ _
theorem sa_sa (S : Ob) (k : Nat) (f g : Nat → Int32) : sa (sa S k f) k g = sa S k g := by
  unfold sa
  refine Prod.ext rfl ?_
  funext j
  show va_up (va_up S.2 k f) k g j = va_up S.2 k g j
  by_cases c : j = k
  · subst c; rw [va_up_self, va_up_self]
  · rw [va_up_ne _ _ c, va_up_ne _ _ c, va_up_ne _ _ c]
theorem si_2 (S : Ob) (k : Nat) (v : Int32) : (si S k v).2 = S.2 := rfl
theorem sa_1 (S : Ob) (k : Nat) (f : Nat → Int32) : (sa S k f).1 = S.1 := rfl
theorem si_self (S : Ob) (k : Nat) (v : Int32) : (si S k v).1 k = v := up_eq _ _ _
theorem si_ne {S : Ob} {k j : Nat} {v : Int32} (h : ¬ j = k) : (si S k v).1 j = S.1 j := up_ne h
theorem sa_ne {S : Ob} {k j : Nat} {f : Nat → Int32} (h : ¬ j = k) : (sa S k f).2 j = S.2 j := va_up_ne _ _ h
/-- the row that is written next -/
theorem lat_num {x : Int32} (h0 : 0 ≤ x.toInt) (h1 : x.toInt < 24) : (if 24 ≤ x + 1 then (0 : Int32) else x + 1).toInt = (x.toInt + 1) % 24 := by
  have e1 : (1 : Int32).toInt = 1 := rfl
  have e24 : (24 : Int32).toInt = 24 := rfl
  have ea : (x + 1).toInt = x.toInt + 1 := by rw [i_add (by omega) (by omega), e1]
  by_cases c : 24 ≤ x + 1
  · rw [if_pos c]
    rw [i_le, ea, e24] at c
    have e0 : (0 : Int32).toInt = 0 := rfl
    omega
  · rw [if_neg c, ea]
    rw [i_le, ea, e24] at c
    omega
theorem four_num {x : Int32} (h0 : 0 ≤ x.toInt) (h1 : x.toInt < 24) : (x * 4).toInt = 4 * x.toInt ∧ (x * 4 + 1).toInt = 4 * x.toInt + 1 ∧ (x * 4 + 2).toInt = 4 * x.toInt + 2 ∧ (x * 4 + 3).toInt = 4 * x.toInt + 3 := by
  have e1 : (1 : Int32).toInt = 1 := rfl
  have e2 : (2 : Int32).toInt = 2 := rfl
  have e3 : (3 : Int32).toInt = 3 := rfl
  have e4 : (4 : Int32).toInt = 4 := rfl
  have a : (x * 4).toInt = 4 * x.toInt := by rw [i_mul (by rw [e4]; omega) (by rw [e4]; omega), e4]; omega
  refine ⟨a, ?_, ?_, ?_⟩ <;> rw [i_add (by omega) (by omega)] <;> omega
theorem record_class {J : Ob} {a b c d : Int32} {Q : Ob → Prop} (h0 : 0 ≤ (J.1 3).toInt) (h1 : (J.1 3).toInt < 24) (h : Q (recJ J a b c d)) : wp_X2_record J a b c d Q := by
  have hl := lat_num h0 h1
  have hf := four_num (x := if 24 ≤ J.1 3 + 1 then 0 else J.1 3 + 1) (by omega) (by omega)
  have o0 : okI ((if 24 ≤ J.1 3 + 1 then 0 else J.1 3 + 1) * 4) 96 := ok_iff.mpr (by omega)
  have o1 : okI ((if 24 ≤ J.1 3 + 1 then 0 else J.1 3 + 1) * 4 + 1) 96 := ok_iff.mpr (by omega)
  have o2 : okI ((if 24 ≤ J.1 3 + 1 then 0 else J.1 3 + 1) * 4 + 2) 96 := ok_iff.mpr (by omega)
  have o3 : okI ((if 24 ≤ J.1 3 + 1 then 0 else J.1 3 + 1) * 4 + 3) 96 := ok_iff.mpr (by omega)
  unfold recJ at h
  unfold wp_X2_record
  refine ⟨fun c1 => ?_, fun c1 => ?_⟩
  all_goals
    first
    | simp only [if_pos c1] at h o0 o1 o2 o3
    | simp only [if_neg c1] at h o0 o1 o2 o3
    intro T2 e2 x3 e3
    have ex : x3 = _ := e3.trans (by rw [e2, si_self])
    clear e3
    rw [ex]
    refine ⟨o0, fun T4 e4 => ⟨o1, fun T5 e5 => ⟨o2, fun T6 e6 => ⟨o3, fun T7 e7 x8 e8 T9 e9 => ?_⟩⟩⟩⟩
    subst e2
    subst e4
    rw [sa_self, sa_sa] at e5
    subst e5
    rw [sa_self, sa_sa] at e6
    subst e6
    rw [sa_self, sa_sa] at e7
    subst e7
    subst e8
    subst e9
    exact h
theorem rec_1 {J : Ob} {a b c d : Int32} {j : Nat} (h2 : ¬ j = 2) (h3 : ¬ j = 3) : (recJ J a b c d).1 j = J.1 j := by
  unfold recJ
  rw [si_ne h2]
  show (si J 3 _).1 j = _
  exact si_ne h3
theorem rec_2 {J : Ob} {a b c d : Int32} {j : Nat} (h1 : ¬ j = 1) : (recJ J a b c d).2 j = J.2 j := by
  unfold recJ
  show (sa _ 1 _).2 j = _
  exact sa_ne h1
/-- an event, the reference's side -/
def notM (M : Ob) (t a b c : Int32) : Ob := if M.1 14 = 0 then M else
  si (sa (sa (sa (sa M 7 (upd (M.2 7) (Int32.toNatClampNeg (M.1 11 - M.1 11 / 24 * 24)) a)) 8 (upd (M.2 8) (Int32.toNatClampNeg (M.1 11 - M.1 11 / 24 * 24)) b)) 9 (upd (M.2 9) (Int32.toNatClampNeg (M.1 11 - M.1 11 / 24 * 24)) t)) 10 (upd (M.2 10) (Int32.toNatClampNeg (M.1 11 - M.1 11 / 24 * 24)) c)) 11 (M.1 11 + 1)
theorem notes_model {M : Ob} {r : Nat → Int32} {a b c : Int32} {nw : Bool} {Q : (Ob × (Nat → Int32)) → Prop} (hnw : M.1 14 = if nw = true then 1 else 0) (he : nw = true → 0 ≤ (M.1 11).toInt) (h : Q (notM M (r 25) a b c, r)) : wp_X8_notes nw (M, r) a b c Q := by
  unfold notM at h
  unfold wp_X8_notes
  refine ⟨fun d => ?_, fun d => by rwa [if_pos d] at h⟩
  have d' : ¬ M.1 14 = 0 := d
  have hn : nw = true := by
    cases nw
    · exact absurd hnw d'
    · rfl
  rw [if_neg d'] at h
  have e24 : (24 : Int32).toInt = 24 := rfl
  have hr := i_rem (x := M.1 11) (m := 24) (he hn) (by omega)
  have ok : okI (M.1 11 - M.1 11 / 24 * 24) 24 := ok_iff.mpr (by rw [hr, e24]; omega)
  intro x2 e2
  have e2 : x2 = M.1 11 - M.1 11 / 24 * 24 := e2
  subst e2
  refine ⟨ok, fun T3 e3 => ⟨ok, fun T4 e4 => ⟨hn, ok, fun T5 e5 => ⟨ok, fun T6 e6 T7 e7 => ?_⟩⟩⟩⟩
  subst e3
  subst e4
  subst e5
  subst e6
  subst e7
  exact h
theorem not_off {M : Ob} {t a b c : Int32} (h : M.1 14 = 0) : notM M t a b c = M := by unfold notM; rw [if_pos h]
theorem not_1 {M : Ob} {t a b c : Int32} {j : Nat} (h : ¬ j = 11) : (notM M t a b c).1 j = M.1 j := by
  unfold notM
  split
  · rfl
  · exact si_ne h
theorem not_2 {M : Ob} {t a b c : Int32} {j : Nat} (h7 : ¬ j = 7) (h8 : ¬ j = 8) (h9 : ¬ j = 9) (h10 : ¬ j = 10) : (notM M t a b c).2 j = M.2 j := by
  unfold notM
  split
  · rfl
  · show (sa _ 10 _).2 j = _
    rw [sa_ne h10, sa_ne h9, sa_ne h8, sa_ne h7]
/-- the event on both sides -/
theorem rJ_note {nw : Bool} {T : Int} {J M : Ob} {a b c d : Int32} (h : rJ nw T J M) (hnw : M.1 14 = if nw = true then 1 else 0) (hT : T < 2000000000) : rJ nw (T + 1) (recJ J a b c d) (notM M c a b d) := by
  obtain ⟨⟨⟨b1, b2⟩, b3, b4⟩, h⟩ := h
  have hl := lat_num b1 b2
  have hL : (recJ J a b c d).1 3 = (if 24 ≤ J.1 3 + 1 then 0 else J.1 3 + 1) := by
    unfold recJ
    rw [si_ne (by decide)]
    show (si J 3 _).1 3 = _
    exact si_self _ _ _
  have h4 : (recJ J a b c d).1 4 = J.1 4 := rec_1 (by decide) (by decide)
  refine ⟨⟨by rw [hL]; omega, by rw [h4]; omega⟩, fun hn => ?_⟩
  obtain ⟨hc, ho, e, e1, e2, e3, e4, e5⟩ := h hn
  have hM : ¬ M.1 14 = 0 := by rw [hnw, hn]; decide
  have m6 : (notM M c a b d).2 6 = M.2 6 := not_2 (by decide) (by decide) (by decide) (by decide)
  refine ⟨?_, rJo_fr ho h4 (rec_2 (by decide)) (by rw [m6]) (not_2 (by decide) (by decide) (by decide) (by decide)), e + 1, ?_, by omega, ?_, ?_, ?_⟩
  · unfold rJc
    rw [m6, rec_1 (by decide) (by decide), rec_1 (by decide) (by decide), rec_1 (by decide) (by decide), rec_1 (by decide) (by decide), rec_1 (by decide) (by decide), rec_1 (by decide) (by decide), rec_1 (by decide) (by decide), rec_1 (by decide) (by decide), rec_1 (by decide) (by decide)]
    exact hc
  · unfold notM
    rw [if_neg hM, si_self]
    have e11 : (1 : Int32).toInt = 1 := rfl
    rw [i_add (by omega) (by omega), e1, e11]
    omega
  · rw [hL, hl, e3]
    omega
  · have hE : (recJ J a b c d).1 2 = (if 24 < J.1 2 + 1 then 24 else J.1 2 + 1) := by
      unfold recJ
      exact si_self _ _ _
    rw [hE]
    have e11 : (1 : Int32).toInt = 1 := rfl
    have e24 : (24 : Int32).toInt = 24 := rfl
    have ea : (J.1 2 + 1).toInt = (J.1 2).toInt + 1 := by rw [i_add (by omega) (by omega), e11]
    by_cases q : 24 < J.1 2 + 1
    · rw [if_pos q, e24]
      rw [i_lt, ea, e24] at q
      omega
    · rw [if_neg q, ea]
      rw [i_lt, ea, e24] at q
      omega
  · have hf := four_num (x := if 24 ≤ J.1 3 + 1 then 0 else J.1 3 + 1) (by omega) (by omega)
    have hR : (recJ J a b c d).2 1 = upd (upd (upd (upd (J.2 1) ((e + 1) % 24 * 4) a) ((e + 1) % 24 * 4 + 1) b) ((e + 1) % 24 * 4 + 2) c) ((e + 1) % 24 * 4 + 3) d := by
      unfold recJ
      rw [si_2, sa_self, i_nat, i_nat, i_nat, i_nat, hf.1, hf.2.1, hf.2.2.1, hf.2.2.2, hl, e3]
      rw [show (4 * ((((e % 24 : Nat) : Int) + 1) % 24)).toNat = (e + 1) % 24 * 4 by omega, show (4 * ((((e % 24 : Nat) : Int) + 1) % 24) + 1).toNat = (e + 1) % 24 * 4 + 1 by omega, show (4 * ((((e % 24 : Nat) : Int) + 1) % 24) + 2).toNat = (e + 1) % 24 * 4 + 2 by omega, show (4 * ((((e % 24 : Nat) : Int) + 1) % 24) + 3).toNat = (e + 1) % 24 * 4 + 3 by omega]
    have e24 : (24 : Int32).toInt = 24 := rfl
    have hr := i_rem (x := M.1 11) (m := 24) (by omega) (by omega)
    have hx : Int32.toNatClampNeg (M.1 11 - M.1 11 / 24 * 24) = e % 24 := by rw [i_nat, hr, e1, e24]; omega
    have n7 : (notM M c a b d).2 7 = upd (M.2 7) (e % 24) a := by
      unfold notM
      rw [if_neg hM]
      rw [si_2, sa_ne (by decide), sa_ne (by decide), sa_ne (by decide), sa_self, hx]
    have n8 : (notM M c a b d).2 8 = upd (M.2 8) (e % 24) b := by
      unfold notM
      rw [if_neg hM]
      rw [si_2, sa_ne (by decide), sa_ne (by decide), sa_self, hx]
    have n9 : (notM M c a b d).2 9 = upd (M.2 9) (e % 24) c := by
      unfold notM
      rw [if_neg hM]
      rw [si_2, sa_ne (by decide), sa_self, hx]
    have n10 : (notM M c a b d).2 10 = upd (M.2 10) (e % 24) d := by
      unfold notM
      rw [if_neg hM]
      rw [si_2, sa_self, hx]
    intro j hj hj2
    rw [hR, n7, n8, n9, n10]
    by_cases q : j = e
    · subst q
      refine ⟨?_, ?_, ?_, ?_⟩
      · rw [up_ne (by omega), up_ne (by omega), up_ne (by omega), up_eq, up_eq]
      · rw [up_ne (by omega), up_ne (by omega), up_eq, up_eq]
      · rw [up_ne (by omega), up_eq, up_eq]
      · rw [up_eq, up_eq]
    · have q1 : ¬ j % 24 = e % 24 := by omega
      have q2 : ¬ (j + 1) % 24 = (e + 1) % 24 := by omega
      obtain ⟨z1, z2, z3, z4⟩ := e5 j (by omega) (by omega)
      refine ⟨?_, ?_, ?_, ?_⟩
      · rw [up_ne (by omega), up_ne (by omega), up_ne (by omega), up_ne (by omega), up_ne q1]; exact z1
      · rw [up_ne (by omega), up_ne (by omega), up_ne (by omega), up_ne (by omega), up_ne q1]; exact z2
      · rw [up_ne (by omega), up_ne (by omega), up_ne (by omega), up_ne (by omega), up_ne q1]; exact z3
      · rw [up_ne (by omega), up_ne (by omega), up_ne (by omega), up_ne (by omega), up_ne q1]; exact z4
/-- a request on both sides -/
theorem rS_req {nw : Bool} {S M : Ob} {r : Nat → Int32} {k c : Int32} (h : rS nw S M r) (hk : okI k 21) (hc : c = r 25) (hc0 : 0 ≤ c.toInt) (hnw : M.1 14 = if nw = true then 1 else 0) : rS nw (reqS S k c) (pndM M r k).1 (pndM M r k).2 := by
  obtain ⟨hk0, hk1⟩ := ok_iff.mp hk
  have hkn : k.toNatClampNeg < 21 := by rw [i_nat]; omega
  generalize hq : k.toNatClampNeg = q at *
  have hp := h.1.1.1.2.2.1 q hkn
  by_cases c1 : S.2 3 q = 0
  · have c2 := hp.mp c1
    have eS : reqS S k c = sa (sa S 3 (upd (S.2 3) q 1)) 6 (upd (S.2 6) q c) := by unfold reqS; rw [hq, if_pos c1]
    have eM : pndM M r k = (M, upd r (194 + q) (r 25)) := by unfold pndM; rw [hq, if_pos c2]
    rw [eS, eM]
    dsimp only
    obtain ⟨⟨⟨⟨⟨⟨a1, a2⟩, b, cc, d, f⟩, K, P, E, Sp⟩, sh, hd⟩, q1, q2, q3, q4, q5, q6⟩, n, o⟩ := h
    have hr : ∀ j : Nat, ¬ j = 194 + q → upd r (194 + q) (r 25) j = r j := fun j hj => up_ne hj
    refine ⟨⟨⟨⟨⟨⟨by rw [hr 30 (by omega)]; exact a1, a2⟩, fun j hj => ?_, fun j hj => ?_, d, by rw [hr 17 (by omega)]; exact f⟩, K, fun j hj => ?_, fun j hj => E j hj, Sp⟩, by rw [hr 16 (by omega)]; exact sh, by rw [hr 320 (by omega)]; exact hd⟩, q1, q2, fun j hj => ?_, fun j hj => ?_, fun j hj => ?_, q6⟩, n, fun hn => ?_⟩
    · have a2' : (S.1 10).toInt ≤ 21 := a2.2
      have hj : (j : Int) < (S.1 10).toInt := hj
      rw [hr (152 + j) (by omega)]; exact b j hj
    · rw [hr (173 + j) (by omega)]; exact cc j hj
    · show (sa (sa S 3 (upd (S.2 3) q 1)) 6 (upd (S.2 6) q c)).2 3 j = 0 ↔ _
      rw [sa_ne (by decide), sa_self]
      by_cases z : j = q
      · subst z
        rw [up_eq, up_eq, ← hc, i_lt]
        have e0 : (0 : Int32).toInt = 0 := rfl
        exact ⟨fun w => absurd w (by decide), fun w => absurd w (by omega)⟩
      · rw [up_ne z, hr (194 + j) (by omega)]
        exact P j hj
    · show isB ((sa (sa S 3 (upd (S.2 3) q 1)) 6 (upd (S.2 6) q c)).2 3 j)
      rw [sa_ne (by decide), sa_self]
      by_cases z : j = q
      · subst z; rw [up_eq]; exact isB1
      · rw [up_ne z]; exact q3 j hj
    · rw [hr (300 + j) (by omega)]; exact q4 j hj
    · rw [hr (215 + j) (by omega)]; exact q5 j hj
    · obtain ⟨o1, o2, o3, o4, o5⟩ := o hn
      refine ⟨fun j hj hj2 => ?_, fun j hj hj2 => ?_, o3, o4, o5⟩
      · have hj2 : (sa (sa S 3 (upd (S.2 3) q 1)) 6 (upd (S.2 6) q c)).2 3 j = 1 := hj2
        rw [sa_ne (by decide), sa_self] at hj2
        rw [sa_self]
        by_cases z : j = q
        · subst z; rw [up_eq, up_eq]; exact hc
        · rw [up_ne z] at hj2
          rw [up_ne z, hr (194 + j) (by omega)]
          exact o1 j hj hj2
      · rw [hr (321 + j) (by omega)]; exact o2 j hj hj2
  · have c2 : ¬ r (194 + q) < 0 := fun w => c1 (hp.mpr w)
    have eS : reqS S k c = si S 15 (S.1 15 + 1) := by unfold reqS; rw [hq, if_neg c1]
    have eM : pndM M r k = (cntM M 9, r) := by unfold pndM; rw [hq, if_neg c2]
    rw [eS, eM]
    dsimp only
    refine ⟨rS0_S (rS0_fr h.1 (fun _ _ => rfl) (by rw [cnt_1]) (cnt_2 (by decide)) (cnt_2 (by decide))) rfl rfl rfl rfl rfl rfl rfl rfl rfl rfl rfl, rSn_S h.2.1 rfl rfl rfl rfl rfl, fun hn => ?_⟩
    obtain ⟨o1, o2, o3, o4, o5⟩ := h.2.2 hn
    refine ⟨o1, o2, fun j hj => by rw [cnt_2 (by decide)]; exact o3 j hj, by rw [cnt_6 (by decide)]; exact o4, ?_⟩
    rw [si_self, cnt_k (by rw [hnw, hn]; rfl), o5]
