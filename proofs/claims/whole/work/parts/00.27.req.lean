/-! LAYER 2: a source becomes pending, or is withdrawn: what is written, on each side -/
def reqS (S : Ob) (k c : Int32) : Ob := if S.2 3 k.toNatClampNeg = 0 then sa (sa S 3 (upd (S.2 3) k.toNatClampNeg 1)) 6 (upd (S.2 6) k.toNatClampNeg c) else si S 15 (S.1 15 + 1)
theorem request_class {S : Ob} {k c : Int32} {Q : Int32 → Ob → Prop} (hk : okI k 21) (h : Q (if S.2 3 k.toNatClampNeg = 0 then 1 else 0) (reqS S k c)) : wp_X5_request S k c Q := by
  unfold reqS at h
  unfold wp_X5_request
  refine ⟨hk, fun d => ⟨hk, fun T2 e2 => ⟨hk, fun T3 e3 => ?_⟩⟩, fun d T4 e4 => ?_⟩
  · rw [if_pos d, if_pos d] at h
    subst e2
    subst e3
    exact h
  · rw [if_neg d, if_neg d] at h
    subst e4
    exact h
def cntM (M : Ob) (k : Nat) : Ob := if M.1 14 = 0 then M else sa M 6 (upd (M.2 6) k (M.2 6 k + 1))
theorem counts_model {M : Ob} {r : Nat → Int32} {k : Int32} {nw : Bool} {Q : (Ob × (Nat → Int32)) → Prop} (hk : okI k 17) (h : Q (cntM M k.toNatClampNeg, r)) : wp_X8_counts nw (M, r) k Q := by
  unfold cntM at h
  unfold wp_X8_counts
  refine ⟨fun d => ?_, fun d => ⟨hk, hk, fun T2 e2 => ?_⟩⟩
  · rwa [if_pos d] at h
  · rw [if_neg d] at h
    subst e2
    exact h
def pndM (M : Ob) (r : Nat → Int32) (k : Int32) : Ob × (Nat → Int32) := if r (194 + k.toNatClampNeg) < 0 then (M, upd r (194 + k.toNatClampNeg) (r 25)) else (cntM M 9, r)
theorem pends_model {M : Ob} {r : Nat → Int32} {k : Int32} {nw : Bool} {Q : (Ob × (Nat → Int32)) → Prop} (hk : okI k 21) (h : Q (pndM M r k)) : wp_X8_pends nw (M, r) k Q := by
  have hk2 := ok_iff.mp hk
  have h194 : (194 : Int32).toInt = 194 := rfl
  have ha : (194 + k).toInt = 194 + k.toInt := by rw [i_add (by omega) (by omega), h194]
  have hn : (194 + k).toNatClampNeg = 194 + k.toNatClampNeg := by rw [i_nat, i_nat, ha]; omega
  have hok : okI (194 + k) 342 := ok_iff.mpr (by omega)
  unfold pndM at h
  unfold wp_X8_pends
  dsimp only
  rw [hn]
  refine ⟨hok, fun d => ⟨hok, fun T2 e2 => ?_⟩, fun d => ?_⟩
  · rw [if_pos d] at h
    subst e2
    exact h
  · rw [if_neg d] at h
    exact counts_model (k := 9) (okLit (by decide)) h
def wdrS (S : Ob) (k : Int32) : Ob := if S.2 3 k.toNatClampNeg = 0 then S else if S.2 5 k.toNatClampNeg = 0 then sa S 3 (upd (S.2 3) k.toNatClampNeg 0) else S
theorem withdraw_class {S : Ob} {k : Int32} {Q : Int32 → Ob → Prop} (hk : okI k 21) (h : Q (if S.2 3 k.toNatClampNeg = 0 then 0 else if S.2 5 k.toNatClampNeg = 0 then 1 else 0) (wdrS S k)) : wp_X5_withdraw S k Q := by
  unfold wdrS at h
  unfold wp_X5_withdraw
  refine ⟨hk, fun d => ?_, fun d => ⟨hk, fun f => ⟨hk, fun T3 e3 => ?_⟩, fun f => ?_⟩⟩
  · rwa [if_pos d, if_pos d] at h
  · rw [if_neg d, if_neg d, if_pos f, if_pos f] at h
    subst e3
    exact h
  · rwa [if_neg d, if_neg d, if_neg f, if_neg f] at h
