/-! LAYER 2: can/could, takerOf/targetOf, next with the machine's own shut -/
theorem R_ns {S : Ob} {r : Nat → Int32} (R : limR S r) : ∀ k : Nat, (k : Int) < (S.1 10).toInt → okI (S.2 9 k) 21 := fun k h => (R.2.1 k h).2
def couldF (S : Ob) (k : Int32) : Int32 := if S.2 2 k.toNatClampNeg = 0 then 0 else if limF S (S.1 12) (S.1 14) ≤ S.2 0 k.toNatClampNeg >>> (S.1 12 &&& 31) then 0 else 1
def canF (S : Ob) (k : Int32) : Int32 := if S.2 3 k.toNatClampNeg = 0 then 0 else couldF S k
def takerF (S : Ob) (k : Int32) : Int32 := if couldF S k = 0 then (if S.2 4 20 = 0 then 20 else -1) else k
/-- the rest that these read: SHUT, HARD's ACTIVE -/
def takR (S M : Ob) (r : Nat → Int32) : Prop := nextR S M r ∧ S.1 14 = r 16 ∧ (S.2 4 20 = 0 ↔ r 320 = 0)
theorem can_class {S M : Ob} {r : Nat → Int32} {k : Int32} {Q : Int32 → Ob → Prop} (R : limR S r) (hk : okI k 21) (h : Q (canF S k) S) : wp_X5_can S k Q := by
  unfold canF couldF at h
  unfold wp_X5_can
  refine ⟨hk, fun c => ?_, fun c => ⟨hk, fun d => ?_, fun d => ⟨hk, lim_class (R_ns R) R.1.2.1 R.1.2.2 ⟨fun f => ?_, fun f => ?_⟩⟩⟩⟩
  · rwa [if_pos c] at h
  · rwa [if_neg c, if_pos d] at h
  · rwa [if_neg c, if_neg d, if_pos f] at h
  · rwa [if_neg c, if_neg d, if_neg f] at h
theorem could_model {S M : Ob} {r : Nat → Int32} {k : Int32} {nw : Bool} {Q : Int32 → (Ob × (Nat → Int32)) → Prop} (R : takR S M r) (hk : okI k 21) (h : Q (couldF S k) (M, r)) : wp_X8_could nw (M, r) k Q := by
  obtain ⟨⟨RL, RK, RP, RE, RS, b0, b7⟩, R14, RH⟩ := R
  have hk2 := ok_iff.mp hk
  unfold couldF at h
  unfold wp_X8_could
  dsimp only
  rw [← RE k.toNatClampNeg (by rw [i_nat]; omega), ← RS]
  refine ⟨hk, fun c => ?_, fun c => b_group RL hk b0 b7 ⟨fun d => lim_model (shut := S.1 14) RL b0 b7 ?_ ⟨fun f => ?_, fun f => ?_⟩, fun d => lim_model (shut := S.1 14) RL b0 b7 ?_ ⟨fun f => ?_, fun f => ?_⟩⟩⟩
  · rwa [if_pos c] at h
  · rw [R14]; exact ⟨fun e => absurd e d, fun e => absurd rfl e⟩
  · rwa [if_neg c, if_pos f] at h
  · rwa [if_neg c, if_neg f] at h
  · rw [R14]; exact ⟨fun _ => by decide, fun _ => d⟩
  · rwa [if_neg c, if_pos f] at h
  · rwa [if_neg c, if_neg f] at h
theorem taker_class {S : Ob} {r : Nat → Int32} {k : Int32} {Q : Int32 → Ob → Prop} (R : limR S r) (hk : okI k 21) (h : Q (takerF S k) S) : wp_X5_takerOf S k Q := by
  unfold takerF couldF at h
  unfold wp_X5_takerOf
  have n10 : ¬ (1 : Int32) = 0 := by decide
  refine ⟨hk, fun c => ⟨fun d => ?_, fun d => ?_⟩, fun c => ⟨hk, lim_class (R_ns R) R.1.2.1 R.1.2.2 ⟨fun f => ⟨fun d => ?_, fun d => ?_⟩, fun f => ?_⟩⟩⟩
  · simpa only [if_pos c, if_pos d, if_true] using h
  · simpa only [if_pos c, if_neg d, if_true] using h
  · simpa only [if_neg c, if_pos d, if_pos f, if_true] using h
  · simpa only [if_neg c, if_neg d, if_pos f, if_true] using h
  · simpa only [if_neg c, if_neg f, if_neg n10] using h
theorem target_model {S M : Ob} {r : Nat → Int32} {k : Int32} {nw : Bool} {Q : Int32 → (Ob × (Nat → Int32)) → Prop} (R : takR S M r) (hk : okI k 21) (h : Q (takerF S k) (M, r)) : wp_X8_targetOf nw (M, r) k Q := by
  unfold takerF at h
  unfold wp_X8_targetOf
  refine could_model R hk ⟨fun c => ⟨fun d => ?_, fun d => ?_⟩, fun c => ?_⟩
  · rwa [if_pos c, if_neg (fun e => d (R.2.2.mp e))] at h
  · rwa [if_pos c, if_pos (R.2.2.mpr d)] at h
  · rwa [if_neg c] at h
theorem next_own_class {S : Ob} {r : Nat → Int32} {Q : Int32 → Ob → Prop} (R : limR S r) (h : Q (nextF S (S.1 14)) S) : wp_X5_next S Q := by
  unfold wp_X5_next
  exact next_class (R_ns R) R.1.2.1 R.1.2.2 h
theorem next_own_model {S M : Ob} {r : Nat → Int32} {nw : Bool} {Q : Int32 → (Ob × (Nat → Int32)) → Prop} (R : takR S M r) (h : Q (nextF S (S.1 14)) (M, r)) : wp_X8_nextOf_ nw (M, r) Q := by
  unfold wp_X8_nextOf_
  have e := R.2.1
  refine ⟨fun c => next_model (shut := S.1 14) R.1 ?_ h, fun c => next_model (shut := S.1 14) R.1 ?_ h⟩
  · rw [e]; exact ⟨fun q => absurd q c, fun q => absurd rfl q⟩
  · rw [e]; exact ⟨fun _ => by decide, fun _ => c⟩
