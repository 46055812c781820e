/-! LAYER 2: a source begins, both sides; single fields of the core -/
theorem off {a k : Int32} (ha : 0 ≤ a.toInt) (hk : 0 ≤ k.toInt) (h : a.toInt + k.toInt < 342) : okI (a + k) 342 ∧ (a + k).toNatClampNeg = a.toNatClampNeg + k.toNatClampNeg := by
  have e : (a + k).toInt = a.toInt + k.toInt := i_add (by omega) (by omega)
  refine ⟨ok_iff.mpr (by omega), ?_⟩
  rw [i_nat, i_nat, i_nat, e]
  omega
def pairC (s i : Nat) : Prop := (s = 5 ∧ i = 12) ∨ (s = 8 ∧ i = 13) ∨ (s = 9 ∧ i = 14) ∨ (s = 6 ∧ i = 15) ∨ (s = 12 ∧ i = 18) ∨ (s = 11 ∧ i = 19) ∨ (s = 10 ∧ i = 22) ∨ (s = 13 ∧ i = 23)
theorem rC0_i {C : Ob} {r : Nat → Int32} {s i : Nat} {v : Int32} (h : rC0 C r) (hp : pairC s i) : rC0 (si C s v) (upd r i v) := by
  obtain ⟨a1, a2, a3, a4, a5, a6, a7, a8, a9, a10, a11, a12⟩ := h
  unfold pairC at hp
  have go : ∀ u w : Nat, ((u = s ∧ w = i) ∨ (¬ u = s ∧ ¬ w = i)) → C.1 u = r w → (si C s v).1 u = upd r i v w := by
    intro u w h1 h2
    rcases h1 with ⟨rfl, rfl⟩ | ⟨h3, h4⟩
    · rw [si_self, up_eq]
    · rw [si_ne h3, up_ne h4]; exact h2
  refine ⟨fun k hk => ?_, fun k hk => ?_, fun k hk => ?_, fun k hk => ?_, go 5 12 (by omega) a5, go 8 13 (by omega) a6, go 9 14 (by omega) a7, go 6 15 (by omega) a8, go 12 18 (by omega) a9, go 11 19 (by omega) a10, go 10 22 (by omega) a11, go 13 23 (by omega) a12⟩
  · rw [up_ne (by omega)]; exact a1 k hk
  · rw [up_ne (by omega)]; exact a2 k hk
  · rw [up_ne (by omega)]; exact a3 k hk
  · rw [up_ne (by omega)]; exact a4 k hk
/-- a row's cell: rows 1 to 4 begin in the reference at 0, 8, 40, 56 -/
def rowC (s o n : Nat) : Prop := (s = 1 ∧ o = 0 ∧ n = 8) ∨ (s = 2 ∧ o = 8 ∧ n = 4) ∨ (s = 3 ∧ o = 40 ∧ n = 16) ∨ (s = 4 ∧ o = 56 ∧ n = 96)
theorem rC0_a {C : Ob} {r : Nat → Int32} {s o n q : Nat} {v : Int32} (h : rC0 C r) (hp : rowC s o n) (hq : q < n) : rC0 (sa C s (upd (C.2 s) q v)) (upd r (o + q) v) := by
  obtain ⟨a1, a2, a3, a4, a5, a6, a7, a8, a9, a10, a11, a12⟩ := h
  unfold rowC at hp
  have go : ∀ u w k : Nat, ((u = s ∧ w = o) ∨ (¬ u = s ∧ ¬ w + k = o + q)) → C.2 u k = r (w + k) → (sa C s (upd (C.2 s) q v)).2 u k = upd r (o + q) v (w + k) := by
    intro u w k h1 h2
    rcases h1 with ⟨rfl, rfl⟩ | ⟨h3, h4⟩
    · rw [sa_self]
      by_cases c : k = q
      · subst c; rw [up_eq, up_eq]
      · rw [up_ne c, up_ne (by omega)]; exact h2
    · rw [sa_ne h3, up_ne h4]; exact h2
  refine ⟨fun k hk => ?_, fun k hk => go 2 8 k (by omega) (a2 k hk), fun k hk => go 3 40 k (by omega) (a3 k hk), fun k hk => go 4 56 k (by omega) (a4 k hk), ?_, ?_, ?_, ?_, ?_, ?_, ?_, ?_⟩
  · have := go 1 0 k (by omega) (by rw [Nat.zero_add]; exact a1 k hk)
    rwa [Nat.zero_add] at this
  all_goals rw [up_ne (by omega)]; assumption
theorem MID_i {W : Ob} {nw : Bool} {N T : Int} {K B r : Nat → Int32} {S A J C M : Ob} {s i : Nat} {v : Int32} (h : MID W nw N T K S A J C B M r) (hp : pairC s i) (hb : rCb (si C s v)) : MID W nw N T K S A J (si C s v) B M (upd r i v) := by
  have hp2 := hp
  unfold pairC at hp2
  exact MID_C h ⟨rC0_i h.2.2.2.1.1 hp, hb, fun hn => by rw [si_ne (by omega)]; exact h.2.2.2.1.2.2 hn⟩ (fun k hk => up_ne (by unfold inC at hk; omega)) rfl (fun _ _ => rfl) (fun _ _ => rfl) (fun _ => rfl)
theorem MID_a {W : Ob} {nw : Bool} {N T : Int} {K B r : Nat → Int32} {S A J C M : Ob} {s o n q : Nat} {v : Int32} (h : MID W nw N T K S A J C B M r) (hp : rowC s o n) (hq : q < n) (hb : rCb (sa C s (upd (C.2 s) q v))) : MID W nw N T K S A J (sa C s (upd (C.2 s) q v)) B M (upd r (o + q) v) := by
  have hp2 := hp
  unfold rowC at hp2
  exact MID_C h ⟨rC0_a h.2.2.2.1.1 hp hq, hb, fun hn => h.2.2.2.1.2.2 hn⟩ (fun k hk => up_ne (by unfold inC at hk; omega)) rfl (fun _ _ => rfl) (fun _ _ => rfl) (fun _ => rfl)
theorem MID_flag {W : Ob} {nw : Bool} {N T : Int} {K B r : Nat → Int32} {S A J C M : Ob} {v : Int32} (h : MID W nw N T K S A J C B M r) (hv : okB v) : MID W nw N T (upd K 7 v) S A J C B (si M 16 v) r := by
  obtain ⟨hS, hA, hJ, hC, hB, hK, hF⟩ := h
  exact ⟨rS_fr hS (fun _ _ => rfl) rfl rfl rfl rfl rfl rfl, hA, rJ_fr hJ (Int.le_refl _) (fun _ _ _ _ _ => rfl) rfl rfl rfl rfl rfl rfl, rC_fr hC (fun _ _ => rfl) rfl, rB_fr hB rfl, hK, ⟨⟨rfl, fun hn => sameM_16 (hF.1.2.1 hn), hF.1.2.2.1, hv⟩, hF.2⟩⟩
def bgJ (J : Ob) (kind n f c w : Int32) : Ob := recJ (if kind = 1 then si (si J 5 (J.1 5 + 1)) 6 (J.1 6 + 1) else if n = f then si J 5 (J.1 5 + 1) else si (si J 5 (J.1 5 + 1)) 7 (J.1 7 + 1)) kind n c w
theorem begin_class {K B : Nat → Int32} {S A J C : Ob} {n kind : Int32} {Q : Mac → Prop} (hn : okI n 21) (hne : ¬ n = -1) (h0 : 0 ≤ (S.1 10).toInt) (hd : (S.1 10).toInt < 21) (l0 : 0 ≤ (J.1 3).toInt) (l1 : (J.1 3).toInt < 24) (h : Q (upd (upd (upd K 5 0) 6 0) 7 n, stS S n (K 4), A, bgJ J kind n (K 8) (K 4) (K 4 - S.2 6 n.toNatClampNeg), si (si C 5 (S.2 1 n.toNatClampNeg)) 12 0, B)) : wp_X3_beginOrUnstack (K, S, A, J, C, B) n kind Q := by
  unfold bgJ at h
  unfold wp_X3_beginOrUnstack
  refine ⟨fun _ => ?_, fun c => absurd c hne⟩
  refine start_class hn h0 hd ?_
  refine ⟨hn, fun T4 e4 T5 e5 => ?_⟩
  unfold wp_X3_enter
  intro T1 e1 T2 e2 T7 e7 T8 e8
  subst e4; subst e5; subst e1; subst e2; subst e7; subst e8
  refine ⟨fun c => ⟨fun d => ?_, fun d T12 e12 => ?_⟩, fun c T14 e14 => ?_⟩
  · have d : n = K 8 := d
    rw [if_neg c, if_pos d] at h
    exact record_class l0 l1 h
  · have d : ¬ n = K 8 := d
    subst e12
    rw [if_neg c, if_neg d] at h
    exact record_class l0 l1 h
  · subst e14
    rw [if_pos c] at h
    exact record_class l0 l1 h
def bM2 (M : Ob) (n kind : Int32) : Ob := if kind = 1 then cntM (cntM (si M 16 n) 1) 2 else cntM (si M 16 n) 1
def bgM (M : Ob) (r : Nat → Int32) (n kind : Int32) : Ob := notM (bM3 (bM2 M n kind) (r 30 + 1) (r 25 - r (194 + n.toNatClampNeg)) n) (r 25) kind n (r 25 - r (194 + n.toNatClampNeg))
def bgR (M : Ob) (r : Nat → Int32) (n : Int32) : Nat → Int32 := upd (upd (upd (upd (bgr r n) 12 (M.2 1 n.toNatClampNeg)) 18 0) 20 0) 21 0
theorem begin_tail {nw : Bool} {M : Ob} {r : Nat → Int32} {n kind d w : Int32} {Q : Mod → Prop} (hn : okI n 21) (hnw : M.1 14 = if nw = true then 1 else 0) (he : nw = true → 0 ≤ (M.1 11).toInt) (hd : r 30 = d) (h : Q (notM (bM3 M d w n) (r 25) kind n w, r)) : wp_X8_begins_L102 nw Q n kind w (M, r) := by
  have hnw2 : (bM3 M d w n).1 14 = if nw = true then 1 else 0 := by rw [b3_1]; exact hnw
  have he2 : nw = true → 0 ≤ ((bM3 M d w n).1 11).toInt := by rw [b3_1]; exact he
  have go := notes_model (r := r) (a := kind) (b := n) (c := w) (Q := Q) hnw2 he2 h
  unfold bM3 at go
  unfold wp_X8_begins_L102
  dsimp only
  rw [hd]
  refine ⟨fun c => ?_, fun c => ⟨fun c2 => ⟨hn, fun c3 => ?_, fun c3 => ⟨hn, fun T19 e19 => ?_⟩⟩, fun c2 T21 e21 => ⟨hn, fun c3 => ?_, fun c3 => ⟨hn, fun T24 e24 => ?_⟩⟩⟩⟩
  · rw [if_pos c] at go; exact go
  · rw [if_neg c, if_pos c3, if_pos c2] at go; exact go
  · subst e19
    rw [if_neg c, if_neg c3, if_pos c2] at go; exact go
  · subst e21
    have c3 : w ≤ M.2 13 n.toNatClampNeg := c3
    rw [if_neg c, if_pos c3, if_neg c2] at go; exact go
  · subst e21
    subst e24
    have c3 : ¬ w ≤ M.2 13 n.toNatClampNeg := c3
    rw [if_neg c, if_neg c3, if_neg c2] at go; exact go
theorem begin_model {nw : Bool} {M : Ob} {r : Nat → Int32} {n kind : Int32} {Q : Mod → Prop} (hn : okI n 21) (h0 : 0 ≤ (r 30).toInt) (hd : (r 30).toInt < 21) (hnw : M.1 14 = if nw = true then 1 else 0) (he : nw = true → 0 ≤ (M.1 11).toInt) (h : Q (bgM M r n kind, bgR M r n)) : wp_X8_begins nw (M, r) n kind Q := by
  obtain ⟨hk0, hk1⟩ := ok_iff.mp hn
  have l194 : (194 : Int32).toInt = 194 := rfl
  have l300 : (300 : Int32).toInt = 300 := rfl
  have l321 : (321 : Int32).toInt = 321 := rfl
  have l152 : (152 : Int32).toInt = 152 := rfl
  have o194 := off (a := 194) (k := n) (by omega) (by omega) (by omega)
  have o300 := off (a := 300) (k := n) (by omega) (by omega) (by omega)
  have o321 := off (a := 321) (k := n) (by omega) (by omega) (by omega)
  have o152 := off (a := 152) (k := r 30) (by omega) (by omega) (by omega)
  rw [show (194 : Int32).toNatClampNeg = 194 from rfl] at o194
  rw [show (300 : Int32).toNatClampNeg = 300 from rfl] at o300
  rw [show (321 : Int32).toNatClampNeg = 321 from rfl] at o321
  rw [show (152 : Int32).toNatClampNeg = 152 from rfl] at o152
  have hq : n.toNatClampNeg < 21 := by rw [i_nat]; omega
  have hdn : (r 30).toNatClampNeg < 21 := by rw [i_nat]; omega
  unfold wp_X8_begins
  dsimp only
  refine ⟨o194.1, fun x1 e1 => ⟨o194.1, fun T2 e2 => ⟨o300.1, fun T3 e3 => ⟨o321.1, fun T4 e4 => ?_⟩⟩⟩⟩
  rw [o194.2] at e1 e2
  rw [o300.2] at e3
  rw [o321.2] at e4
  have t3 : T3 25 = r 25 := by rw [e3, e2, up_ne (by omega), up_ne (by omega)]
  rw [t3] at e4
  have t4 : T4 30 = r 30 := by rw [e4, e3, e2, up_ne (by omega), up_ne (by omega), up_ne (by omega)]
  rw [t4]
  refine ⟨o152.1, fun T5 e5 T6 e6 => ⟨hn, fun T7 e7 T8 e8 => ?_⟩⟩
  rw [o152.2] at e5
  have t5 : T5 30 = r 30 := by rw [e5, up_ne (by omega), t4]
  rw [t5] at e6
  have hb : T6 = bgr r n := by rw [e6, e5, e4, e3, e2]; rfl
  subst e1
  unfold wp_X8_turns
  intro U1 f1 U2 f2 T10 e10
  have hU : U2 = bgR M r n := by rw [f2, f1, e8, e7, hb]; rfl
  have u25 : U2 25 = r 25 := by
    rw [hU]
    unfold bgR bgr
    rw [up_ne (by omega), up_ne (by omega), up_ne (by omega), up_ne (by omega), up_ne (by omega), up_ne (by omega), up_ne (by omega), up_ne (by omega), up_ne (by omega)]
  have u30 : U2 30 = r 30 + 1 := by
    rw [hU]
    unfold bgR bgr
    rw [up_ne (by omega), up_ne (by omega), up_ne (by omega), up_ne (by omega), up_eq]
  clear f1 f2 e8 e7 hb e6 e5 e4 e3 e2 t3 t4 t5
  subst hU
  subst e10
  have m1 : ∀ k : Nat, (cntM (si M 16 n) k).1 14 = M.1 14 := fun k => by rw [cnt_1]; rfl
  have m2 : ∀ k : Nat, (cntM (si M 16 n) k).1 11 = M.1 11 := fun k => by rw [cnt_1]; rfl
  have hgo : ∀ M2 : Ob, M2 = bM2 M n kind → wp_X8_begins_L102 nw Q n kind (r 25 - r (194 + n.toNatClampNeg)) (M2, bgR M r n) := by
    intro M2 e2
    have a14 : (bM2 M n kind).1 14 = M.1 14 := by
      unfold bM2
      split
      · rw [cnt_1, m1]
      · rw [m1]
    have a11 : (bM2 M n kind).1 11 = M.1 11 := by
      unfold bM2
      split
      · rw [cnt_1, m2]
      · rw [m2]
    subst e2
    refine begin_tail (d := r 30 + 1) hn (by rw [a14]; exact hnw) (by rw [a11]; exact he) u30 ?_
    rw [u25]
    exact h
  refine counts_model (okLit (by decide)) ?_
  refine ⟨fun c => hgo _ ?_, fun c => counts_model (okLit (by decide)) (hgo _ ?_)⟩
  · unfold bM2; rw [if_neg c]; rfl
  · unfold bM2; rw [if_pos c]; rfl
/-- the relation once n has begun; J0 and M0: with the count of late ones, if it is late -/
theorem begin_rel {W : Ob} {nw : Bool} {N T : Int} {K B r : Nat → Int32} {S A J C M : Ob} {n kind : Int32} (h : MID W nw N T K S A J C B M r) (hn : mayIn S n) (hT : T < 2000000000) : MID W nw N (T + 1) (upd (upd (upd K 5 0) 6 0) 7 n) (stS S n (K 4)) A (recJ (if kind = 1 then si (si J 5 (J.1 5 + 1)) 6 (J.1 6 + 1) else si J 5 (J.1 5 + 1)) kind n (K 4) (K 4 - S.2 6 n.toNatClampNeg)) (si (si C 5 (S.2 1 n.toNatClampNeg)) 12 0) B (bgM M r n kind) (bgR M r n) := by
  have e25 : K 4 = r 25 := h.2.2.2.2.2.1.1.1
  have hq : n.toNatClampNeg < 21 := by have := ok_iff.mp hn.1; rw [i_nat]; omega
  have hwait : nw = true → K 4 - S.2 6 n.toNatClampNeg = r 25 - r (194 + n.toNatClampNeg) := fun hnw => by
    rw [e25, (h.1.2.2 hnw).1 n.toNatClampNeg hq (isB_ne (h.1.1.2.2.2.1 _ hq) hn.2.1)]
  have hvec := h.1.1.2.2.2.2.2.2 n.toNatClampNeg hq
  have eK : upd (upd (upd K 5 0) 6 0) 7 n = upd (upd (upd K 7 n) 5 0) 6 0 := by rw [up_comm (i := 6) (by decide), up_comm (i := 5) (by decide)]
  have h1 := MID_flag (v := n) h (Or.inr hn.1)
  have h3 : MID W nw N T (upd K 7 n) S A (if kind = 1 then si (si J 5 (J.1 5 + 1)) 6 (J.1 6 + 1) else si J 5 (J.1 5 + 1)) C B (bM2 M n kind) r := by
    unfold bM2
    by_cases c : kind = 1
    · rw [if_pos c, if_pos c]
      exact MID_cnt (s := 6) (t := 2) (MID_cnt (s := 5) (t := 1) h1 (by omega)) (by omega)
    · rw [if_neg c, if_neg c]
      exact MID_cnt (s := 5) (t := 1) h1 (by omega)
  have hd := depth_room h.1 hn
  have hd0 : (r 30).toNatClampNeg < 21 := by rw [← h.1.1.1.1.1.1.1, i_nat]; omega
  have h4 := MID_S h3 (rS_start (c := K 4) h3.1 hn e25 h3.2.2.2.2.2.2.2.2) (fun k hk => by unfold inS at hk; unfold bgr; rw [up_ne (by omega), up_ne (by omega), up_ne (by omega), up_ne (by omega), up_ne (by omega)]) (b3_1 _ _ _ _) (fun j h6 h13 => b3_2 h6 h13) (fun j _ h12 => b3_6 h12) (fun hn => b3_off (by rw [h3.2.2.2.2.2.2.2.2, hn]; rfl))
  have hb := h4.2.2.2.1.2.1
  have h5 := MID_i (s := 5) (i := 12) (v := S.2 1 n.toNatClampNeg) h4 (by unfold pairC; omega) ⟨hvec.2, hb.2⟩
  have hb5 := h5.2.2.2.1.2.1
  have h6 := MID_i (s := 12) (i := 18) (v := 0) h5 (by unfold pairC; omega) ⟨hb5.1, hb5.2.1, hb5.2.2.1, hb5.2.2.2.1, isB0, hb5.2.2.2.2.2⟩
  have h7 := MID_turn (p := 0) (q := 0) h6
  have h8 := MID_note (a := kind) (b := n) (d := K 4 - S.2 6 n.toNatClampNeg) (d' := r 25 - r (194 + n.toNatClampNeg)) h7 hT hwait
  rw [eK]
  have hv2 : M.2 1 n.toNatClampNeg = S.2 1 n.toNatClampNeg := hvec.1.symm
  unfold bgM bgR
  rw [hv2]
  have u25 : upd (upd (upd (upd (bgr r n) 12 (S.2 1 n.toNatClampNeg)) 18 0) 20 0) 21 0 25 = r 25 := by
    unfold bgr
    rw [up_ne (by omega), up_ne (by omega), up_ne (by omega), up_ne (by omega), up_ne (by omega), up_ne (by omega), up_ne (by omega), up_ne (by omega), up_ne (by omega)]
  rw [u25] at h8
  exact h8
