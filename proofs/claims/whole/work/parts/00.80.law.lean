/-! LAYER 2: the law's cases, its loop -/
theorem lg_self (x : Int64) : lg_cmp x x = 0 := by
  unfold lg_cmp
  simp
theorem law_load {L : Nat} {xs : Nat → Int32} {k23 : Int32 → TLW → Prop} {y4 : Int32} {g : Nat → Int64} {N T : Int} {B K K2 : Nat → Int32} {S A J C S2 A2 J2 C2 Y M : Ob} (h : REL N T B K S A J C J2 M) (o1 : okI (y4 + 1) L) (o2 : okI (y4 + 2) L) (o3 : okI (y4 + 3) L) (hN0 : 0 ≤ N) (hT0 : 0 ≤ T) (hN : N < 1900000000) (hT : T < 1900000000) (hk : ∀ (B K : Nat → Int32) (S A J C : Ob) (K2 : Nat → Int32) (S2 A2 J2 C2 Y M : Ob) (g : Nat → Int64), REL (N + 300) (T + 4000) B K S A J C J2 M → k23 (y4 + 4) (B, K, S, A, J, C, K2, S2, A2, J2, C2, Y, M, g)) : wp_law_L192 L xs k23 y4 (B, K, S, A, J, C, K2, S2, A2, J2, C2, Y, M, g) := by
  obtain ⟨v, B', K', S', A', J', C', K2', S2', A2', J2', C2', Y', M', hc, hm, hr⟩ := call_load (K2 := K2) (S2 := S2) (A2 := A2) (C2 := C2) (Y := Y) h (xs (Int32.toNatClampNeg (y4 + 1))) (((Int32.toInt64 (xs (Int32.toNatClampNeg (y4 + 2)))) <<< ((Int32.toInt64 32) &&& 63)) ||| ((Int32.toInt64 (xs (Int32.toNatClampNeg (y4 + 3)))) &&& 4294967295))
  unfold wp_law_L192
  refine ⟨o1, o2, o3, hc _ ⟨o1, o2, o3, hm _ ⟨fun _ x e => ?_, fun y => absurd rfl y⟩⟩⟩
  subst e
  exact hk _ _ _ _ _ _ _ _ _ _ _ _ _ _ hr
theorem law_code {L : Nat} {xs : Nat → Int32} {k23 : Int32 → TLW → Prop} {y4 : Int32} {g : Nat → Int64} {N T : Int} {B K K2 : Nat → Int32} {S A J C S2 A2 J2 C2 Y M : Ob} (h : REL N T B K S A J C J2 M) (o1 : okI (y4 + 1) L) (o2 : okI (y4 + 2) L) (o3 : okI (y4 + 3) L) (hN0 : 0 ≤ N) (hT0 : 0 ≤ T) (hN : N < 1900000000) (hT : T < 1900000000) (hk : ∀ (B K : Nat → Int32) (S A J C : Ob) (K2 : Nat → Int32) (S2 A2 J2 C2 Y M : Ob) (g : Nat → Int64), REL (N + 300) (T + 4000) B K S A J C J2 M → k23 (y4 + 4) (B, K, S, A, J, C, K2, S2, A2, J2, C2, Y, M, g)) : wp_law_L261 L xs k23 y4 (B, K, S, A, J, C, K2, S2, A2, J2, C2, Y, M, g) := by
  obtain ⟨v, B', K', S', A', J', C', K2', S2', A2', J2', C2', Y', M', hc, hm, hr⟩ := call_code (K2 := K2) (S2 := S2) (A2 := A2) (C2 := C2) (Y := Y) h (xs (Int32.toNatClampNeg (y4 + 1)))
  unfold wp_law_L261
  refine ⟨o1, hc _ ⟨o1, hm _ ⟨fun _ x e => ?_, fun y => absurd rfl y⟩⟩⟩
  subst e
  exact hk _ _ _ _ _ _ _ _ _ _ _ _ _ _ hr
theorem law_rank {L : Nat} {xs : Nat → Int32} {k23 : Int32 → TLW → Prop} {y4 : Int32} {g : Nat → Int64} {N T : Int} {B K K2 : Nat → Int32} {S A J C S2 A2 J2 C2 Y M : Ob} (h : REL N T B K S A J C J2 M) (o1 : okI (y4 + 1) L) (o2 : okI (y4 + 2) L) (o3 : okI (y4 + 3) L) (hN0 : 0 ≤ N) (hT0 : 0 ≤ T) (hN : N < 1900000000) (hT : T < 1900000000) (hk : ∀ (B K : Nat → Int32) (S A J C : Ob) (K2 : Nat → Int32) (S2 A2 J2 C2 Y M : Ob) (g : Nat → Int64), REL (N + 300) (T + 4000) B K S A J C J2 M → k23 (y4 + 4) (B, K, S, A, J, C, K2, S2, A2, J2, C2, Y, M, g)) : wp_law_L286 L xs k23 y4 (B, K, S, A, J, C, K2, S2, A2, J2, C2, Y, M, g) := by
  obtain ⟨v, B', K', S', A', J', C', K2', S2', A2', J2', C2', Y', M', hc, hm, hr⟩ := call_rank (K2 := K2) (S2 := S2) (A2 := A2) (C2 := C2) (Y := Y) h (xs (Int32.toNatClampNeg (y4 + 1))) (xs (Int32.toNatClampNeg (y4 + 2)))
  unfold wp_law_L286
  refine ⟨o1, o2, hc _ ⟨o1, o2, hm _ ⟨fun _ x e => ?_, fun y => absurd rfl y⟩⟩⟩
  subst e
  exact hk _ _ _ _ _ _ _ _ _ _ _ _ _ _ hr
theorem law_enable {L : Nat} {xs : Nat → Int32} {k23 : Int32 → TLW → Prop} {y4 : Int32} {g : Nat → Int64} {N T : Int} {B K K2 : Nat → Int32} {S A J C S2 A2 J2 C2 Y M : Ob} (h : REL N T B K S A J C J2 M) (o1 : okI (y4 + 1) L) (o2 : okI (y4 + 2) L) (o3 : okI (y4 + 3) L) (hN0 : 0 ≤ N) (hT0 : 0 ≤ T) (hN : N < 1900000000) (hT : T < 1900000000) (hk : ∀ (B K : Nat → Int32) (S A J C : Ob) (K2 : Nat → Int32) (S2 A2 J2 C2 Y M : Ob) (g : Nat → Int64), REL (N + 300) (T + 4000) B K S A J C J2 M → k23 (y4 + 4) (B, K, S, A, J, C, K2, S2, A2, J2, C2, Y, M, g)) : wp_law_L323 L xs k23 y4 (B, K, S, A, J, C, K2, S2, A2, J2, C2, Y, M, g) := by
  unfold wp_law_L323
  refine ⟨o1, o2, fun z => ?_, fun z => ?_⟩
  · obtain ⟨v, B', K', S', A', J', C', K2', S2', A2', J2', C2', Y', M', hc, hm, hr⟩ := call_enable (K2 := K2) (S2 := S2) (A2 := A2) (C2 := C2) (Y := Y) h (xs (Int32.toNatClampNeg (y4 + 1))) 0 isB0
    refine hc _ ⟨o1, o2, fun _ => hm _ ⟨fun _ x e => ?_, fun y => absurd rfl y⟩, fun y => absurd z y⟩
    subst e
    exact hk _ _ _ _ _ _ _ _ _ _ _ _ _ _ hr
  · obtain ⟨v, B', K', S', A', J', C', K2', S2', A2', J2', C2', Y', M', hc, hm, hr⟩ := call_enable (K2 := K2) (S2 := S2) (A2 := A2) (C2 := C2) (Y := Y) h (xs (Int32.toNatClampNeg (y4 + 1))) 1 isB1
    refine hc _ ⟨o1, o2, fun y => absurd y z, fun _ => hm _ ⟨fun _ x e => ?_, fun y => absurd rfl y⟩⟩
    subst e
    exact hk _ _ _ _ _ _ _ _ _ _ _ _ _ _ hr
theorem law_vector {L : Nat} {xs : Nat → Int32} {k23 : Int32 → TLW → Prop} {y4 : Int32} {g : Nat → Int64} {N T : Int} {B K K2 : Nat → Int32} {S A J C S2 A2 J2 C2 Y M : Ob} (h : REL N T B K S A J C J2 M) (o1 : okI (y4 + 1) L) (o2 : okI (y4 + 2) L) (o3 : okI (y4 + 3) L) (hN0 : 0 ≤ N) (hT0 : 0 ≤ T) (hN : N < 1900000000) (hT : T < 1900000000) (hk : ∀ (B K : Nat → Int32) (S A J C : Ob) (K2 : Nat → Int32) (S2 A2 J2 C2 Y M : Ob) (g : Nat → Int64), REL (N + 300) (T + 4000) B K S A J C J2 M → k23 (y4 + 4) (B, K, S, A, J, C, K2, S2, A2, J2, C2, Y, M, g)) : wp_law_L376 L xs k23 y4 (B, K, S, A, J, C, K2, S2, A2, J2, C2, Y, M, g) := by
  obtain ⟨v, B', K', S', A', J', C', K2', S2', A2', J2', C2', Y', M', hc, hm, hr⟩ := call_vector (K2 := K2) (S2 := S2) (A2 := A2) (C2 := C2) (Y := Y) h (xs (Int32.toNatClampNeg (y4 + 1))) (xs (Int32.toNatClampNeg (y4 + 2)))
  unfold wp_law_L376
  refine ⟨o1, o2, hc _ ⟨o1, o2, hm _ ⟨fun _ x e => ?_, fun y => absurd rfl y⟩⟩⟩
  subst e
  exact hk _ _ _ _ _ _ _ _ _ _ _ _ _ _ hr
theorem law_split {L : Nat} {xs : Nat → Int32} {k23 : Int32 → TLW → Prop} {y4 : Int32} {g : Nat → Int64} {N T : Int} {B K K2 : Nat → Int32} {S A J C S2 A2 J2 C2 Y M : Ob} (h : REL N T B K S A J C J2 M) (o1 : okI (y4 + 1) L) (o2 : okI (y4 + 2) L) (o3 : okI (y4 + 3) L) (hN0 : 0 ≤ N) (hT0 : 0 ≤ T) (hN : N < 1900000000) (hT : T < 1900000000) (hk : ∀ (B K : Nat → Int32) (S A J C : Ob) (K2 : Nat → Int32) (S2 A2 J2 C2 Y M : Ob) (g : Nat → Int64), REL (N + 300) (T + 4000) B K S A J C J2 M → k23 (y4 + 4) (B, K, S, A, J, C, K2, S2, A2, J2, C2, Y, M, g)) : wp_law_L413 L xs k23 y4 (B, K, S, A, J, C, K2, S2, A2, J2, C2, Y, M, g) := by
  obtain ⟨v, B', K', S', A', J', C', K2', S2', A2', J2', C2', Y', M', hc, hm, hr⟩ := call_split (K2 := K2) (S2 := S2) (A2 := A2) (C2 := C2) (Y := Y) h (xs (Int32.toNatClampNeg (y4 + 1)))
  unfold wp_law_L413
  refine ⟨o1, hc _ ⟨o1, hm _ ⟨fun _ x e => ?_, fun y => absurd rfl y⟩⟩⟩
  subst e
  exact hk _ _ _ _ _ _ _ _ _ _ _ _ _ _ hr
theorem law_hold {L : Nat} {xs : Nat → Int32} {k23 : Int32 → TLW → Prop} {y4 : Int32} {g : Nat → Int64} {N T : Int} {B K K2 : Nat → Int32} {S A J C S2 A2 J2 C2 Y M : Ob} (h : REL N T B K S A J C J2 M) (o1 : okI (y4 + 1) L) (o2 : okI (y4 + 2) L) (o3 : okI (y4 + 3) L) (hN0 : 0 ≤ N) (hT0 : 0 ≤ T) (hN : N < 1900000000) (hT : T < 1900000000) (hk : ∀ (B K : Nat → Int32) (S A J C : Ob) (K2 : Nat → Int32) (S2 A2 J2 C2 Y M : Ob) (g : Nat → Int64), REL (N + 300) (T + 4000) B K S A J C J2 M → k23 (y4 + 4) (B, K, S, A, J, C, K2, S2, A2, J2, C2, Y, M, g)) : wp_law_L438 L xs k23 y4 (B, K, S, A, J, C, K2, S2, A2, J2, C2, Y, M, g) := by
  unfold wp_law_L438
  refine ⟨o1, o2, fun z => ?_, fun z => ?_⟩
  · obtain ⟨v, B', K', S', A', J', C', K2', S2', A2', J2', C2', Y', M', hc, hm, hr⟩ := call_hold (K2 := K2) (S2 := S2) (A2 := A2) (C2 := C2) (Y := Y) h (xs (Int32.toNatClampNeg (y4 + 1))) 0 isB0
    refine hc _ ⟨o1, o2, fun _ => hm _ ⟨fun _ x e => ?_, fun y => absurd rfl y⟩, fun y => absurd z y⟩
    subst e
    exact hk _ _ _ _ _ _ _ _ _ _ _ _ _ _ hr
  · obtain ⟨v, B', K', S', A', J', C', K2', S2', A2', J2', C2', Y', M', hc, hm, hr⟩ := call_hold (K2 := K2) (S2 := S2) (A2 := A2) (C2 := C2) (Y := Y) h (xs (Int32.toNatClampNeg (y4 + 1))) 1 isB1
    refine hc _ ⟨o1, o2, fun y => absurd y z, fun _ => hm _ ⟨fun _ x e => ?_, fun y => absurd rfl y⟩⟩
    subst e
    exact hk _ _ _ _ _ _ _ _ _ _ _ _ _ _ hr
theorem law_pend {L : Nat} {xs : Nat → Int32} {k23 : Int32 → TLW → Prop} {y4 : Int32} {g : Nat → Int64} {N T : Int} {B K K2 : Nat → Int32} {S A J C S2 A2 J2 C2 Y M : Ob} (h : REL N T B K S A J C J2 M) (o1 : okI (y4 + 1) L) (o2 : okI (y4 + 2) L) (o3 : okI (y4 + 3) L) (hN0 : 0 ≤ N) (hT0 : 0 ≤ T) (hN : N < 1900000000) (hT : T < 1900000000) (hk : ∀ (B K : Nat → Int32) (S A J C : Ob) (K2 : Nat → Int32) (S2 A2 J2 C2 Y M : Ob) (g : Nat → Int64), REL (N + 300) (T + 4000) B K S A J C J2 M → k23 (y4 + 4) (B, K, S, A, J, C, K2, S2, A2, J2, C2, Y, M, g)) : wp_law_L491 L xs k23 y4 (B, K, S, A, J, C, K2, S2, A2, J2, C2, Y, M, g) := by
  obtain ⟨v, B', K', S', A', J', C', K2', S2', A2', J2', C2', Y', M', hc, hm, hr⟩ := call_pend (K2 := K2) (S2 := S2) (A2 := A2) (C2 := C2) (Y := Y) h (xs (Int32.toNatClampNeg (y4 + 1)))
  unfold wp_law_L491
  refine ⟨o1, hc _ ⟨o1, hm _ ⟨fun _ x e => ?_, fun y => absurd rfl y⟩⟩⟩
  subst e
  exact hk _ _ _ _ _ _ _ _ _ _ _ _ _ _ hr
theorem law_clear {L : Nat} {xs : Nat → Int32} {k23 : Int32 → TLW → Prop} {y4 : Int32} {g : Nat → Int64} {N T : Int} {B K K2 : Nat → Int32} {S A J C S2 A2 J2 C2 Y M : Ob} (h : REL N T B K S A J C J2 M) (o1 : okI (y4 + 1) L) (o2 : okI (y4 + 2) L) (o3 : okI (y4 + 3) L) (hN0 : 0 ≤ N) (hT0 : 0 ≤ T) (hN : N < 1900000000) (hT : T < 1900000000) (hk : ∀ (B K : Nat → Int32) (S A J C : Ob) (K2 : Nat → Int32) (S2 A2 J2 C2 Y M : Ob) (g : Nat → Int64), REL (N + 300) (T + 4000) B K S A J C J2 M → k23 (y4 + 4) (B, K, S, A, J, C, K2, S2, A2, J2, C2, Y, M, g)) : wp_law_L516 L xs k23 y4 (B, K, S, A, J, C, K2, S2, A2, J2, C2, Y, M, g) := by
  obtain ⟨v, B', K', S', A', J', C', K2', S2', A2', J2', C2', Y', M', hc, hm, hr⟩ := call_clear (K2 := K2) (S2 := S2) (A2 := A2) (C2 := C2) (Y := Y) h (xs (Int32.toNatClampNeg (y4 + 1)))
  unfold wp_law_L516
  refine ⟨o1, hc _ ⟨o1, hm _ ⟨fun _ x e => ?_, fun y => absurd rfl y⟩⟩⟩
  subst e
  exact hk _ _ _ _ _ _ _ _ _ _ _ _ _ _ hr
theorem law_timer {L : Nat} {xs : Nat → Int32} {k23 : Int32 → TLW → Prop} {y4 : Int32} {g : Nat → Int64} {N T : Int} {B K K2 : Nat → Int32} {S A J C S2 A2 J2 C2 Y M : Ob} (h : REL N T B K S A J C J2 M) (o1 : okI (y4 + 1) L) (o2 : okI (y4 + 2) L) (o3 : okI (y4 + 3) L) (hN0 : 0 ≤ N) (hT0 : 0 ≤ T) (hN : N < 1900000000) (hT : T < 1900000000) (hk : ∀ (B K : Nat → Int32) (S A J C : Ob) (K2 : Nat → Int32) (S2 A2 J2 C2 Y M : Ob) (g : Nat → Int64), REL (N + 300) (T + 4000) B K S A J C J2 M → k23 (y4 + 4) (B, K, S, A, J, C, K2, S2, A2, J2, C2, Y, M, g)) : wp_law_L541 L xs k23 y4 (B, K, S, A, J, C, K2, S2, A2, J2, C2, Y, M, g) := by
  obtain ⟨v, B', K', S', A', J', C', K2', S2', A2', J2', C2', Y', M', hc, hm, hr⟩ := call_timer (K2 := K2) (S2 := S2) (A2 := A2) (C2 := C2) (Y := Y) h (xs (Int32.toNatClampNeg (y4 + 1)))
  unfold wp_law_L541
  refine ⟨o1, hc _ ⟨o1, hm _ ⟨fun _ x e => ?_, fun y => absurd rfl y⟩⟩⟩
  subst e
  exact hk _ _ _ _ _ _ _ _ _ _ _ _ _ _ hr
theorem law_arrive {L : Nat} {xs : Nat → Int32} {k23 : Int32 → TLW → Prop} {y4 : Int32} {g : Nat → Int64} {N T : Int} {B K K2 : Nat → Int32} {S A J C S2 A2 J2 C2 Y M : Ob} (h : REL N T B K S A J C J2 M) (o1 : okI (y4 + 1) L) (o2 : okI (y4 + 2) L) (o3 : okI (y4 + 3) L) (hN0 : 0 ≤ N) (hT0 : 0 ≤ T) (hN : N < 1900000000) (hT : T < 1900000000) (hk : ∀ (B K : Nat → Int32) (S A J C : Ob) (K2 : Nat → Int32) (S2 A2 J2 C2 Y M : Ob) (g : Nat → Int64), REL (N + 300) (T + 4000) B K S A J C J2 M → k23 (y4 + 4) (B, K, S, A, J, C, K2, S2, A2, J2, C2, Y, M, g)) : wp_law_L566 L xs k23 y4 (B, K, S, A, J, C, K2, S2, A2, J2, C2, Y, M, g) := by
  obtain ⟨v, B', K', S', A', J', C', K2', S2', A2', J2', C2', Y', M', hc, hm, hr⟩ := call_arrive (K2 := K2) (S2 := S2) (A2 := A2) (C2 := C2) (Y := Y) h (xs (Int32.toNatClampNeg (y4 + 1))) (xs (Int32.toNatClampNeg (y4 + 2)))
  unfold wp_law_L566
  refine ⟨o1, o2, hc _ ⟨o1, o2, hm _ ⟨fun _ x e => ?_, fun y => absurd rfl y⟩⟩⟩
  subst e
  exact hk _ _ _ _ _ _ _ _ _ _ _ _ _ _ hr
theorem law_run {L : Nat} {xs : Nat → Int32} {k23 : Int32 → TLW → Prop} {y4 : Int32} {g : Nat → Int64} {N T : Int} {B K K2 : Nat → Int32} {S A J C S2 A2 J2 C2 Y M : Ob} (h : REL N T B K S A J C J2 M) (o1 : okI (y4 + 1) L) (o2 : okI (y4 + 2) L) (o3 : okI (y4 + 3) L) (hN0 : 0 ≤ N) (hT0 : 0 ≤ T) (hN : N < 1900000000) (hT : T < 1900000000) (hk : ∀ (B K : Nat → Int32) (S A J C : Ob) (K2 : Nat → Int32) (S2 A2 J2 C2 Y M : Ob) (g : Nat → Int64), REL (N + 300) (T + 4000) B K S A J C J2 M → k23 (y4 + 4) (B, K, S, A, J, C, K2, S2, A2, J2, C2, Y, M, g)) : wp_law_L603 L xs k23 y4 (B, K, S, A, J, C, K2, S2, A2, J2, C2, Y, M, g) := by
  obtain ⟨v, B', K', S', A', J', C', K2', S2', A2', J2', C2', Y', M', hc, hm, hr⟩ := call_run (K2 := K2) (S2 := S2) (A2 := A2) (C2 := C2) (Y := Y) h hN hT (xs (Int32.toNatClampNeg (y4 + 1)))
  unfold wp_law_L603
  refine ⟨o1, hc _ ⟨o1, hm _ ⟨fun _ x e => ?_, fun y => absurd rfl y⟩⟩⟩
  subst e
  exact hk _ _ _ _ _ _ _ _ _ _ _ _ _ _ hr
theorem law_till {L : Nat} {xs : Nat → Int32} {k23 : Int32 → TLW → Prop} {y4 : Int32} {g : Nat → Int64} {N T : Int} {B K K2 : Nat → Int32} {S A J C S2 A2 J2 C2 Y M : Ob} (h : REL N T B K S A J C J2 M) (o1 : okI (y4 + 1) L) (o2 : okI (y4 + 2) L) (o3 : okI (y4 + 3) L) (hN0 : 0 ≤ N) (hT0 : 0 ≤ T) (hN : N < 1900000000) (hT : T < 1900000000) (hk : ∀ (B K : Nat → Int32) (S A J C : Ob) (K2 : Nat → Int32) (S2 A2 J2 C2 Y M : Ob) (g : Nat → Int64), REL (N + 300) (T + 4000) B K S A J C J2 M → k23 (y4 + 4) (B, K, S, A, J, C, K2, S2, A2, J2, C2, Y, M, g)) : wp_law_L628 L xs k23 y4 (B, K, S, A, J, C, K2, S2, A2, J2, C2, Y, M, g) := by
  obtain ⟨v, B', K', S', A', J', C', K2', S2', A2', J2', C2', Y', M', hc, hm, hr⟩ := call_till (K2 := K2) (S2 := S2) (A2 := A2) (C2 := C2) (Y := Y) h hN hT (xs (Int32.toNatClampNeg (y4 + 1)))
  unfold wp_law_L628
  refine ⟨o1, hc _ ⟨o1, hm _ ⟨fun _ x e => ?_, fun y => absurd rfl y⟩⟩⟩
  subst e
  exact hk _ _ _ _ _ _ _ _ _ _ _ _ _ _ hr
theorem law_reset {L : Nat} {xs : Nat → Int32} {k23 : Int32 → TLW → Prop} {y4 : Int32} {g : Nat → Int64} {N T : Int} {B K K2 : Nat → Int32} {S A J C S2 A2 J2 C2 Y M : Ob} (h : REL N T B K S A J C J2 M) (o1 : okI (y4 + 1) L) (o2 : okI (y4 + 2) L) (o3 : okI (y4 + 3) L) (hN0 : 0 ≤ N) (hT0 : 0 ≤ T) (hN : N < 1900000000) (hT : T < 1900000000) (hk : ∀ (B K : Nat → Int32) (S A J C : Ob) (K2 : Nat → Int32) (S2 A2 J2 C2 Y M : Ob) (g : Nat → Int64), REL (N + 300) (T + 4000) B K S A J C J2 M → k23 (y4 + 4) (B, K, S, A, J, C, K2, S2, A2, J2, C2, Y, M, g)) : wp_law_L653 L xs k23 y4 (B, K, S, A, J, C, K2, S2, A2, J2, C2, Y, M, g) := by
  obtain ⟨v, B', K', S', A', J', C', K2', S2', A2', J2', C2', Y', M', hc, hm, hr⟩ := call_reset (K2 := K2) (S2 := S2) (A2 := A2) (C2 := C2) (Y := Y) h hN0 hT0 
  unfold wp_law_L653
  refine hc _ (hm _ ⟨fun _ x e => ?_, fun y => absurd rfl y⟩)
  subst e
  exact hk _ _ _ _ _ _ _ _ _ _ _ _ _ _ hr
theorem law_reg {L : Nat} {xs : Nat → Int32} {k23 : Int32 → TLW → Prop} {y4 : Int32} {g : Nat → Int64} {N T : Int} {B K K2 : Nat → Int32} {S A J C S2 A2 J2 C2 Y M : Ob} (h : REL N T B K S A J C J2 M) (o1 : okI (y4 + 1) L) (o2 : okI (y4 + 2) L) (o3 : okI (y4 + 3) L) (hN0 : 0 ≤ N) (hT0 : 0 ≤ T) (hN : N < 1900000000) (hT : T < 1900000000) (hk : ∀ (B K : Nat → Int32) (S A J C : Ob) (K2 : Nat → Int32) (S2 A2 J2 C2 Y M : Ob) (g : Nat → Int64), REL (N + 300) (T + 4000) B K S A J C J2 M → k23 (y4 + 4) (B, K, S, A, J, C, K2, S2, A2, J2, C2, Y, M, g)) : wp_law_L666 L xs k23 y4 (B, K, S, A, J, C, K2, S2, A2, J2, C2, Y, M, g) := by
  unfold wp_law_L666 wp_L_reg wp_X8_thrown
  rcases call_reg (K2 := K2) (S2 := S2) (A2 := A2) (C2 := C2) (Y := Y) h (xs (Int32.toNatClampNeg (y4 + 1))) with ⟨v, hc, hm⟩ | ⟨hc, hm⟩
  · refine ⟨o1, hc _ _ ⟨o1, hm _ ⟨fun _ => ⟨fun z => absurd rfl z, fun _ => ⟨fun _ x e => ?_, fun z => absurd (lg_self _) z⟩⟩, fun z => absurd rfl z⟩⟩⟩
    subst e
    exact hk _ _ _ _ _ _ _ _ _ _ _ _ _ _ (REL_up (REL_17 h))
  · refine ⟨o1, hc _ _ ⟨o1, hm _ ⟨fun _ => ⟨fun _ x e => ?_, fun z => absurd z (by decide)⟩, fun z => absurd rfl z⟩⟩⟩
    subst e
    exact hk _ _ _ _ _ _ _ _ _ _ _ _ _ _ (REL_up (REL_17 h))
theorem law_word {L : Nat} {xs : Nat → Int32} {k23 : Int32 → TLW → Prop} {y4 : Int32} {g : Nat → Int64} {N T : Int} {B K K2 : Nat → Int32} {S A J C S2 A2 J2 C2 Y M : Ob} (h : REL N T B K S A J C J2 M) (o1 : okI (y4 + 1) L) (o2 : okI (y4 + 2) L) (o3 : okI (y4 + 3) L) (hN0 : 0 ≤ N) (hT0 : 0 ≤ T) (hN : N < 1900000000) (hT : T < 1900000000) (hk : ∀ (B K : Nat → Int32) (S A J C : Ob) (K2 : Nat → Int32) (S2 A2 J2 C2 Y M : Ob) (g : Nat → Int64), REL (N + 300) (T + 4000) B K S A J C J2 M → k23 (y4 + 4) (B, K, S, A, J, C, K2, S2, A2, J2, C2, Y, M, g)) : wp_law_L722 L xs k23 y4 (B, K, S, A, J, C, K2, S2, A2, J2, C2, Y, M, g) := by
  unfold wp_law_L722 wp_L_word wp_X8_thrown
  rcases call_word (K2 := K2) (S2 := S2) (A2 := A2) (C2 := C2) (Y := Y) h (xs (Int32.toNatClampNeg (y4 + 1))) with ⟨v, hc, hm⟩ | ⟨hc, hm⟩
  · refine ⟨o1, hc _ _ ⟨o1, hm _ ⟨fun _ => ⟨fun z => absurd rfl z, fun _ => ⟨fun _ x e => ?_, fun z => absurd (lg_self _) z⟩⟩, fun z => absurd rfl z⟩⟩⟩
    subst e
    exact hk _ _ _ _ _ _ _ _ _ _ _ _ _ _ (REL_up (REL_17 h))
  · refine ⟨o1, hc _ _ ⟨o1, hm _ ⟨fun _ => ⟨fun _ x e => ?_, fun z => absurd z (by decide)⟩, fun z => absurd rfl z⟩⟩⟩
    subst e
    exact hk _ _ _ _ _ _ _ _ _ _ _ _ _ _ (REL_up (REL_17 h))
theorem law_data {L : Nat} {xs : Nat → Int32} {k23 : Int32 → TLW → Prop} {y4 : Int32} {g : Nat → Int64} {N T : Int} {B K K2 : Nat → Int32} {S A J C S2 A2 J2 C2 Y M : Ob} (h : REL N T B K S A J C J2 M) (o1 : okI (y4 + 1) L) (o2 : okI (y4 + 2) L) (o3 : okI (y4 + 3) L) (hN0 : 0 ≤ N) (hT0 : 0 ≤ T) (hN : N < 1900000000) (hT : T < 1900000000) (hk : ∀ (B K : Nat → Int32) (S A J C : Ob) (K2 : Nat → Int32) (S2 A2 J2 C2 Y M : Ob) (g : Nat → Int64), REL (N + 300) (T + 4000) B K S A J C J2 M → k23 (y4 + 4) (B, K, S, A, J, C, K2, S2, A2, J2, C2, Y, M, g)) : wp_law_L778 L xs k23 y4 (B, K, S, A, J, C, K2, S2, A2, J2, C2, Y, M, g) := by
  unfold wp_law_L778 wp_L_data wp_X8_thrown
  rcases call_data (K2 := K2) (S2 := S2) (A2 := A2) (C2 := C2) (Y := Y) h (xs (Int32.toNatClampNeg (y4 + 1))) with ⟨v, hc, hm⟩ | ⟨hc, hm⟩
  · refine ⟨o1, hc _ _ ⟨o1, hm _ ⟨fun _ => ⟨fun z => absurd rfl z, fun _ => ⟨fun _ x e => ?_, fun z => absurd (lg_self _) z⟩⟩, fun z => absurd rfl z⟩⟩⟩
    subst e
    exact hk _ _ _ _ _ _ _ _ _ _ _ _ _ _ (REL_up (REL_17 h))
  · refine ⟨o1, hc _ _ ⟨o1, hm _ ⟨fun _ => ⟨fun _ x e => ?_, fun z => absurd z (by decide)⟩, fun z => absurd rfl z⟩⟩⟩
    subst e
    exact hk _ _ _ _ _ _ _ _ _ _ _ _ _ _ (REL_up (REL_17 h))
theorem law_out {L : Nat} {xs : Nat → Int32} {k23 : Int32 → TLW → Prop} {y4 : Int32} {g : Nat → Int64} {N T : Int} {B K K2 : Nat → Int32} {S A J C S2 A2 J2 C2 Y M : Ob} (h : REL N T B K S A J C J2 M) (o1 : okI (y4 + 1) L) (o2 : okI (y4 + 2) L) (o3 : okI (y4 + 3) L) (hN0 : 0 ≤ N) (hT0 : 0 ≤ T) (hN : N < 1900000000) (hT : T < 1900000000) (hk : ∀ (B K : Nat → Int32) (S A J C : Ob) (K2 : Nat → Int32) (S2 A2 J2 C2 Y M : Ob) (g : Nat → Int64), REL (N + 300) (T + 4000) B K S A J C J2 M → k23 (y4 + 4) (B, K, S, A, J, C, K2, S2, A2, J2, C2, Y, M, g)) : wp_law_L834 L xs k23 y4 (B, K, S, A, J, C, K2, S2, A2, J2, C2, Y, M, g) := by
  unfold wp_law_L834 wp_L_out wp_X8_thrown
  rcases call_out (K2 := K2) (S2 := S2) (A2 := A2) (C2 := C2) (Y := Y) h (xs (Int32.toNatClampNeg (y4 + 1))) with ⟨v, hc, hm⟩ | ⟨hc, hm⟩
  · refine ⟨o1, hc _ _ ⟨o1, hm _ ⟨fun _ => ⟨fun z => absurd rfl z, fun _ => ⟨fun _ x e => ?_, fun z => absurd (lg_self _) z⟩⟩, fun z => absurd rfl z⟩⟩⟩
    subst e
    exact hk _ _ _ _ _ _ _ _ _ _ _ _ _ _ (REL_up (REL_17 h))
  · refine ⟨o1, hc _ _ ⟨o1, hm _ ⟨fun _ => ⟨fun _ x e => ?_, fun z => absurd z (by decide)⟩, fun z => absurd rfl z⟩⟩⟩
    subst e
    exact hk _ _ _ _ _ _ _ _ _ _ _ _ _ _ (REL_up (REL_17 h))
theorem law_source {L : Nat} {xs : Nat → Int32} {k23 : Int32 → TLW → Prop} {y4 : Int32} {g : Nat → Int64} {N T : Int} {B K K2 : Nat → Int32} {S A J C S2 A2 J2 C2 Y M : Ob} (h : REL N T B K S A J C J2 M) (o1 : okI (y4 + 1) L) (o2 : okI (y4 + 2) L) (o3 : okI (y4 + 3) L) (hN0 : 0 ≤ N) (hT0 : 0 ≤ T) (hN : N < 1900000000) (hT : T < 1900000000) (hk : ∀ (B K : Nat → Int32) (S A J C : Ob) (K2 : Nat → Int32) (S2 A2 J2 C2 Y M : Ob) (g : Nat → Int64), REL (N + 300) (T + 4000) B K S A J C J2 M → k23 (y4 + 4) (B, K, S, A, J, C, K2, S2, A2, J2, C2, Y, M, g)) : wp_law_L890 L xs k23 y4 (B, K, S, A, J, C, K2, S2, A2, J2, C2, Y, M, g) := by
  obtain ⟨v, B', K', S', A', J', C', K2', S2', A2', J2', C2', Y', M', hc, hm, hr⟩ := call_source (K2 := K2) (S2 := S2) (A2 := A2) (C2 := C2) (Y := Y) h (xs (Int32.toNatClampNeg (y4 + 1))) (xs (Int32.toNatClampNeg (y4 + 2)))
  unfold wp_law_L890
  refine ⟨o1, o2, hc _ ⟨o1, o2, hm _ ⟨fun _ x e => ?_, fun y => absurd rfl y⟩⟩⟩
  subst e
  exact hk _ _ _ _ _ _ _ _ _ _ _ _ _ _ hr
theorem law_nest {L : Nat} {xs : Nat → Int32} {k23 : Int32 → TLW → Prop} {y4 : Int32} {g : Nat → Int64} {N T : Int} {B K K2 : Nat → Int32} {S A J C S2 A2 J2 C2 Y M : Ob} (h : REL N T B K S A J C J2 M) (o1 : okI (y4 + 1) L) (o2 : okI (y4 + 2) L) (o3 : okI (y4 + 3) L) (hN0 : 0 ≤ N) (hT0 : 0 ≤ T) (hN : N < 1900000000) (hT : T < 1900000000) (hk : ∀ (B K : Nat → Int32) (S A J C : Ob) (K2 : Nat → Int32) (S2 A2 J2 C2 Y M : Ob) (g : Nat → Int64), REL (N + 300) (T + 4000) B K S A J C J2 M → k23 (y4 + 4) (B, K, S, A, J, C, K2, S2, A2, J2, C2, Y, M, g)) : wp_law_L927 L xs k23 y4 (B, K, S, A, J, C, K2, S2, A2, J2, C2, Y, M, g) := by
  obtain ⟨v, B', K', S', A', J', C', K2', S2', A2', J2', C2', Y', M', hc, hm, hr⟩ := call_nest (K2 := K2) (S2 := S2) (A2 := A2) (C2 := C2) (Y := Y) h (xs (Int32.toNatClampNeg (y4 + 1)))
  unfold wp_law_L927
  refine ⟨o1, hc _ ⟨o1, hm _ ⟨fun _ x e => ?_, fun y => absurd rfl y⟩⟩⟩
  subst e
  exact hk _ _ _ _ _ _ _ _ _ _ _ _ _ _ hr
theorem law_state {L : Nat} {xs : Nat → Int32} {k23 : Int32 → TLW → Prop} {y4 : Int32} {g : Nat → Int64} {N T : Int} {B K K2 : Nat → Int32} {S A J C S2 A2 J2 C2 Y M : Ob} (h : REL N T B K S A J C J2 M) (o1 : okI (y4 + 1) L) (o2 : okI (y4 + 2) L) (o3 : okI (y4 + 3) L) (hN0 : 0 ≤ N) (hT0 : 0 ≤ T) (hN : N < 1900000000) (hT : T < 1900000000) (hk : ∀ (B K : Nat → Int32) (S A J C : Ob) (K2 : Nat → Int32) (S2 A2 J2 C2 Y M : Ob) (g : Nat → Int64), REL (N + 300) (T + 4000) B K S A J C J2 M → k23 (y4 + 4) (B, K, S, A, J, C, K2, S2, A2, J2, C2, Y, M, g)) : wp_law_L952 L xs k23 y4 (B, K, S, A, J, C, K2, S2, A2, J2, C2, Y, M, g) := by
  obtain ⟨v, B', K', S', A', J', C', K2', S2', A2', J2', C2', Y', M', hc, hm, hr⟩ := call_state (K2 := K2) (S2 := S2) (A2 := A2) (C2 := C2) (Y := Y) h (xs (Int32.toNatClampNeg (y4 + 1)))
  unfold wp_law_L952
  refine ⟨o1, hc _ ⟨o1, hm _ ⟨fun _ x e => ?_, fun y => absurd rfl y⟩⟩⟩
  subst e
  exact hk _ _ _ _ _ _ _ _ _ _ _ _ _ _ hr
theorem law_count {L : Nat} {xs : Nat → Int32} {k23 : Int32 → TLW → Prop} {y4 : Int32} {g : Nat → Int64} {N T : Int} {B K K2 : Nat → Int32} {S A J C S2 A2 J2 C2 Y M : Ob} (h : REL N T B K S A J C J2 M) (o1 : okI (y4 + 1) L) (o2 : okI (y4 + 2) L) (o3 : okI (y4 + 3) L) (hN0 : 0 ≤ N) (hT0 : 0 ≤ T) (hN : N < 1900000000) (hT : T < 1900000000) (hk : ∀ (B K : Nat → Int32) (S A J C : Ob) (K2 : Nat → Int32) (S2 A2 J2 C2 Y M : Ob) (g : Nat → Int64), REL (N + 300) (T + 4000) B K S A J C J2 M → k23 (y4 + 4) (B, K, S, A, J, C, K2, S2, A2, J2, C2, Y, M, g)) : wp_law_L977 L xs k23 y4 (B, K, S, A, J, C, K2, S2, A2, J2, C2, Y, M, g) := by
  obtain ⟨v, B', K', S', A', J', C', K2', S2', A2', J2', C2', Y', M', hc, hm, hr⟩ := call_count (K2 := K2) (S2 := S2) (A2 := A2) (C2 := C2) (Y := Y) h (xs (Int32.toNatClampNeg (y4 + 1)))
  unfold wp_law_L977
  refine ⟨o1, hc _ ⟨o1, hm _ ⟨fun _ x e => ?_, fun y => absurd rfl y⟩⟩⟩
  subst e
  exact hk _ _ _ _ _ _ _ _ _ _ _ _ _ _ hr
theorem law_event {L : Nat} {xs : Nat → Int32} {k23 : Int32 → TLW → Prop} {y4 : Int32} {g : Nat → Int64} {N T : Int} {B K K2 : Nat → Int32} {S A J C S2 A2 J2 C2 Y M : Ob} (h : REL N T B K S A J C J2 M) (o1 : okI (y4 + 1) L) (o2 : okI (y4 + 2) L) (o3 : okI (y4 + 3) L) (hN0 : 0 ≤ N) (hT0 : 0 ≤ T) (hN : N < 1900000000) (hT : T < 1900000000) (hk : ∀ (B K : Nat → Int32) (S A J C : Ob) (K2 : Nat → Int32) (S2 A2 J2 C2 Y M : Ob) (g : Nat → Int64), REL (N + 300) (T + 4000) B K S A J C J2 M → k23 (y4 + 4) (B, K, S, A, J, C, K2, S2, A2, J2, C2, Y, M, g)) : wp_law_L1002 L xs k23 y4 (B, K, S, A, J, C, K2, S2, A2, J2, C2, Y, M, g) := by
  unfold wp_law_L1002 wp_L_event wp_X8_thrown
  rcases call_event (K2 := K2) (S2 := S2) (A2 := A2) (C2 := C2) (Y := Y) h (xs (Int32.toNatClampNeg (y4 + 1))) (xs (Int32.toNatClampNeg (y4 + 2))) with ⟨v, hc, hm⟩ | ⟨hc, hm⟩
  · refine ⟨o1, o2, hc _ _ ⟨o1, o2, hm _ ⟨fun _ => ⟨fun z => absurd rfl z, fun _ => ⟨fun _ x e => ?_, fun z => absurd (lg_self _) z⟩⟩, fun z => absurd rfl z⟩⟩⟩
    subst e
    exact hk _ _ _ _ _ _ _ _ _ _ _ _ _ _ (REL_up (REL_17 h))
  · refine ⟨o1, o2, hc _ _ ⟨o1, o2, hm _ ⟨fun _ => ⟨fun _ x e => ?_, fun z => absurd z (by decide)⟩, fun z => absurd rfl z⟩⟩⟩
    subst e
    exact hk _ _ _ _ _ _ _ _ _ _ _ _ _ _ (REL_up (REL_17 h))
theorem law_waited {L : Nat} {xs : Nat → Int32} {k23 : Int32 → TLW → Prop} {y4 : Int32} {g : Nat → Int64} {N T : Int} {B K K2 : Nat → Int32} {S A J C S2 A2 J2 C2 Y M : Ob} (h : REL N T B K S A J C J2 M) (o1 : okI (y4 + 1) L) (o2 : okI (y4 + 2) L) (o3 : okI (y4 + 3) L) (hN0 : 0 ≤ N) (hT0 : 0 ≤ T) (hN : N < 1900000000) (hT : T < 1900000000) (hk : ∀ (B K : Nat → Int32) (S A J C : Ob) (K2 : Nat → Int32) (S2 A2 J2 C2 Y M : Ob) (g : Nat → Int64), REL (N + 300) (T + 4000) B K S A J C J2 M → k23 (y4 + 4) (B, K, S, A, J, C, K2, S2, A2, J2, C2, Y, M, g)) : wp_law_L1070 L xs k23 y4 (B, K, S, A, J, C, K2, S2, A2, J2, C2, Y, M, g) := by
  obtain ⟨v, B', K', S', A', J', C', K2', S2', A2', J2', C2', Y', M', hc, hm, hr⟩ := call_waited (K2 := K2) (S2 := S2) (A2 := A2) (C2 := C2) (Y := Y) h (xs (Int32.toNatClampNeg (y4 + 1)))
  unfold wp_law_L1070
  refine ⟨o1, hc _ ⟨o1, hm _ ⟨fun _ x e => ?_, fun y => absurd rfl y⟩⟩⟩
  subst e
  exact hk _ _ _ _ _ _ _ _ _ _ _ _ _ _ hr
theorem law_ahead {L : Nat} {xs : Nat → Int32} {k23 : Int32 → TLW → Prop} {y4 : Int32} {g : Nat → Int64} {N T : Int} {B K K2 : Nat → Int32} {S A J C S2 A2 J2 C2 Y M : Ob} (h : REL N T B K S A J C J2 M) (o1 : okI (y4 + 1) L) (o2 : okI (y4 + 2) L) (o3 : okI (y4 + 3) L) (hN0 : 0 ≤ N) (hT0 : 0 ≤ T) (hN : N < 1900000000) (hT : T < 1900000000) (hk : ∀ (B K : Nat → Int32) (S A J C : Ob) (K2 : Nat → Int32) (S2 A2 J2 C2 Y M : Ob) (g : Nat → Int64), REL (N + 300) (T + 4000) B K S A J C J2 M → k23 (y4 + 4) (B, K, S, A, J, C, K2, S2, A2, J2, C2, Y, M, g)) : wp_law_L1095 L xs k23 y4 (B, K, S, A, J, C, K2, S2, A2, J2, C2, Y, M, g) := by
  obtain ⟨v, B', K', S', A', J', C', K2', S2', A2', J2', C2', Y', M', hc, hm, hr⟩ := call_ahead (K2 := K2) (S2 := S2) (A2 := A2) (C2 := C2) (Y := Y) h (xs (Int32.toNatClampNeg (y4 + 1))) (xs (Int32.toNatClampNeg (y4 + 2)))
  unfold wp_law_L1095
  refine ⟨o1, o2, hc _ ⟨o1, o2, hm _ ⟨fun _ x e => ?_, fun y => absurd rfl y⟩⟩⟩
  subst e
  exact hk _ _ _ _ _ _ _ _ _ _ _ _ _ _ hr
theorem law_splits {L : Nat} {xs : Nat → Int32} {k23 : Int32 → TLW → Prop} {y4 : Int32} {g : Nat → Int64} {N T : Int} {B K K2 : Nat → Int32} {S A J C S2 A2 J2 C2 Y M : Ob} (h : REL N T B K S A J C J2 M) (o1 : okI (y4 + 1) L) (o2 : okI (y4 + 2) L) (o3 : okI (y4 + 3) L) (hN0 : 0 ≤ N) (hT0 : 0 ≤ T) (hN : N < 1900000000) (hT : T < 1900000000) (hk : ∀ (B K : Nat → Int32) (S A J C : Ob) (K2 : Nat → Int32) (S2 A2 J2 C2 Y M : Ob) (g : Nat → Int64), REL (N + 300) (T + 4000) B K S A J C J2 M → k23 (y4 + 4) (B, K, S, A, J, C, K2, S2, A2, J2, C2, Y, M, g)) : wp_law_L1132 L xs k23 y4 (B, K, S, A, J, C, K2, S2, A2, J2, C2, Y, M, g) := by
  obtain ⟨v, B', K', S', A', J', C', K2', S2', A2', J2', C2', Y', M', hc, hm, hr⟩ := call_splits (K2 := K2) (S2 := S2) (A2 := A2) (C2 := C2) (Y := Y) h (xs (Int32.toNatClampNeg (y4 + 1)))
  unfold wp_law_L1132
  refine ⟨o1, hc _ ⟨o1, hm _ ⟨fun _ x e => ?_, fun y => absurd rfl y⟩⟩⟩
  subst e
  exact hk _ _ _ _ _ _ _ _ _ _ _ _ _ _ hr
theorem law_escalates {L : Nat} {xs : Nat → Int32} {k23 : Int32 → TLW → Prop} {y4 : Int32} {g : Nat → Int64} {N T : Int} {B K K2 : Nat → Int32} {S A J C S2 A2 J2 C2 Y M : Ob} (h : REL N T B K S A J C J2 M) (o1 : okI (y4 + 1) L) (o2 : okI (y4 + 2) L) (o3 : okI (y4 + 3) L) (hN0 : 0 ≤ N) (hT0 : 0 ≤ T) (hN : N < 1900000000) (hT : T < 1900000000) (hk : ∀ (B K : Nat → Int32) (S A J C : Ob) (K2 : Nat → Int32) (S2 A2 J2 C2 Y M : Ob) (g : Nat → Int64), REL (N + 300) (T + 4000) B K S A J C J2 M → k23 (y4 + 4) (B, K, S, A, J, C, K2, S2, A2, J2, C2, Y, M, g)) : wp_law_L1157 L xs k23 y4 (B, K, S, A, J, C, K2, S2, A2, J2, C2, Y, M, g) := by
  obtain ⟨v, B', K', S', A', J', C', K2', S2', A2', J2', C2', Y', M', hc, hm, hr⟩ := call_escalates (K2 := K2) (S2 := S2) (A2 := A2) (C2 := C2) (Y := Y) h (xs (Int32.toNatClampNeg (y4 + 1)))
  unfold wp_law_L1157
  refine ⟨o1, hc _ ⟨o1, hm _ ⟨fun _ x e => ?_, fun y => absurd rfl y⟩⟩⟩
  subst e
  exact hk _ _ _ _ _ _ _ _ _ _ _ _ _ _ hr
theorem law_soon {L : Nat} {xs : Nat → Int32} {k23 : Int32 → TLW → Prop} {y4 : Int32} {g : Nat → Int64} {N T : Int} {B K K2 : Nat → Int32} {S A J C S2 A2 J2 C2 Y M : Ob} (h : REL N T B K S A J C J2 M) (o1 : okI (y4 + 1) L) (o2 : okI (y4 + 2) L) (o3 : okI (y4 + 3) L) (hN0 : 0 ≤ N) (hT0 : 0 ≤ T) (hN : N < 1900000000) (hT : T < 1900000000) (hk : ∀ (B K : Nat → Int32) (S A J C : Ob) (K2 : Nat → Int32) (S2 A2 J2 C2 Y M : Ob) (g : Nat → Int64), REL (N + 300) (T + 4000) B K S A J C J2 M → k23 (y4 + 4) (B, K, S, A, J, C, K2, S2, A2, J2, C2, Y, M, g)) : wp_law_L1182 L xs k23 y4 (B, K, S, A, J, C, K2, S2, A2, J2, C2, Y, M, g) := by
  obtain ⟨v, B', K', S', A', J', C', K2', S2', A2', J2', C2', Y', M', hc, hm, hr⟩ := call_soon (K2 := K2) (S2 := S2) (A2 := A2) (C2 := C2) (Y := Y) h hN hT (xs (Int32.toNatClampNeg (y4 + 1)))
  unfold wp_law_L1182
  refine ⟨o1, hc _ ⟨o1, hm _ ⟨fun _ x e => ?_, fun y => absurd rfl y⟩⟩⟩
  subst e
  exact hk _ _ _ _ _ _ _ _ _ _ _ _ _ _ hr
theorem law_order {L : Nat} {xs : Nat → Int32} {k23 : Int32 → TLW → Prop} {y4 : Int32} {g : Nat → Int64} {N T : Int} {B K K2 : Nat → Int32} {S A J C S2 A2 J2 C2 Y M : Ob} (h : REL N T B K S A J C J2 M) (o1 : okI (y4 + 1) L) (o2 : okI (y4 + 2) L) (o3 : okI (y4 + 3) L) (hN0 : 0 ≤ N) (hT0 : 0 ≤ T) (hN : N < 1900000000) (hT : T < 1900000000) (hk : ∀ (B K : Nat → Int32) (S A J C : Ob) (K2 : Nat → Int32) (S2 A2 J2 C2 Y M : Ob) (g : Nat → Int64), REL (N + 300) (T + 4000) B K S A J C J2 M → k23 (y4 + 4) (B, K, S, A, J, C, K2, S2, A2, J2, C2, Y, M, g)) : wp_law_L1207 L xs k23 y4 (B, K, S, A, J, C, K2, S2, A2, J2, C2, Y, M, g) := by
  unfold wp_law_L1207
  refine ⟨o1, o2, fun z => ?_, fun z => ?_⟩
  · obtain ⟨v, B', K', S', A', J', C', K2', S2', A2', J2', C2', Y', M', hc, hm, hr⟩ := call_order (K2 := K2) (S2 := S2) (A2 := A2) (C2 := C2) (Y := Y) h hN hT (xs (Int32.toNatClampNeg (y4 + 1))) 0 isB0
    refine hc _ ⟨o1, o2, fun _ => hm _ ⟨fun _ x e => ?_, fun y => absurd rfl y⟩, fun y => absurd z y⟩
    subst e
    exact hk _ _ _ _ _ _ _ _ _ _ _ _ _ _ hr
  · obtain ⟨v, B', K', S', A', J', C', K2', S2', A2', J2', C2', Y', M', hc, hm, hr⟩ := call_order (K2 := K2) (S2 := S2) (A2 := A2) (C2 := C2) (Y := Y) h hN hT (xs (Int32.toNatClampNeg (y4 + 1))) 1 isB1
    refine hc _ ⟨o1, o2, fun y => absurd y z, fun _ => hm _ ⟨fun _ x e => ?_, fun y => absurd rfl y⟩⟩
    subst e
    exact hk _ _ _ _ _ _ _ _ _ _ _ _ _ _ hr
theorem law_quiet {L : Nat} {xs : Nat → Int32} {k23 : Int32 → TLW → Prop} {y4 : Int32} {g : Nat → Int64} {N T : Int} {B K K2 : Nat → Int32} {S A J C S2 A2 J2 C2 Y M : Ob} (h : REL N T B K S A J C J2 M) (o1 : okI (y4 + 1) L) (o2 : okI (y4 + 2) L) (o3 : okI (y4 + 3) L) (hN0 : 0 ≤ N) (hT0 : 0 ≤ T) (hN : N < 1900000000) (hT : T < 1900000000) (hk : ∀ (B K : Nat → Int32) (S A J C : Ob) (K2 : Nat → Int32) (S2 A2 J2 C2 Y M : Ob) (g : Nat → Int64), REL (N + 300) (T + 4000) B K S A J C J2 M → k23 (y4 + 4) (B, K, S, A, J, C, K2, S2, A2, J2, C2, Y, M, g)) : wp_law_L1260 L xs k23 y4 (B, K, S, A, J, C, K2, S2, A2, J2, C2, Y, M, g) := by
  unfold wp_law_L1260
  refine ⟨o1, fun z => ?_, fun z => ?_⟩
  · obtain ⟨v, B', K', S', A', J', C', K2', S2', A2', J2', C2', Y', M', hc, hm, hr⟩ := call_quiet (K2 := K2) (S2 := S2) (A2 := A2) (C2 := C2) (Y := Y) h hN hT  0 isB0
    refine hc _ ⟨o1, fun _ => hm _ ⟨fun _ x e => ?_, fun y => absurd rfl y⟩, fun y => absurd z y⟩
    subst e
    exact hk _ _ _ _ _ _ _ _ _ _ _ _ _ _ hr
  · obtain ⟨v, B', K', S', A', J', C', K2', S2', A2', J2', C2', Y', M', hc, hm, hr⟩ := call_quiet (K2 := K2) (S2 := S2) (A2 := A2) (C2 := C2) (Y := Y) h hN hT  1 isB1
    refine hc _ ⟨o1, fun y => absurd y z, fun _ => hm _ ⟨fun _ x e => ?_, fun y => absurd rfl y⟩⟩
    subst e
    exact hk _ _ _ _ _ _ _ _ _ _ _ _ _ _ hr
theorem law_window {L : Nat} {xs : Nat → Int32} {k23 : Int32 → TLW → Prop} {y4 : Int32} {g : Nat → Int64} {N T : Int} {B K K2 : Nat → Int32} {S A J C S2 A2 J2 C2 Y M : Ob} (h : REL N T B K S A J C J2 M) (o1 : okI (y4 + 1) L) (o2 : okI (y4 + 2) L) (o3 : okI (y4 + 3) L) (hN0 : 0 ≤ N) (hT0 : 0 ≤ T) (hN : N < 1900000000) (hT : T < 1900000000) (hk : ∀ (B K : Nat → Int32) (S A J C : Ob) (K2 : Nat → Int32) (S2 A2 J2 C2 Y M : Ob) (g : Nat → Int64), REL (N + 300) (T + 4000) B K S A J C J2 M → k23 (y4 + 4) (B, K, S, A, J, C, K2, S2, A2, J2, C2, Y, M, g)) : wp_law_L1301 L xs k23 y4 (B, K, S, A, J, C, K2, S2, A2, J2, C2, Y, M, g) := by
  obtain ⟨v, B', K', S', A', J', C', K2', S2', A2', J2', C2', Y', M', hc, hm, hr⟩ := call_window (K2 := K2) (S2 := S2) (A2 := A2) (C2 := C2) (Y := Y) h hN hT (xs (Int32.toNatClampNeg (y4 + 1)))
  unfold wp_law_L1301
  refine ⟨o1, hc _ ⟨o1, hm _ ⟨fun _ x e => ?_, fun y => absurd rfl y⟩⟩⟩
  subst e
  exact hk _ _ _ _ _ _ _ _ _ _ _ _ _ _ hr
theorem law_keeps {L : Nat} {xs : Nat → Int32} {k23 : Int32 → TLW → Prop} {y4 : Int32} {g : Nat → Int64} {N T : Int} {B K K2 : Nat → Int32} {S A J C S2 A2 J2 C2 Y M : Ob} (h : REL N T B K S A J C J2 M) (o1 : okI (y4 + 1) L) (o2 : okI (y4 + 2) L) (o3 : okI (y4 + 3) L) (hN0 : 0 ≤ N) (hT0 : 0 ≤ T) (hN : N < 1900000000) (hT : T < 1900000000) (hk : ∀ (B K : Nat → Int32) (S A J C : Ob) (K2 : Nat → Int32) (S2 A2 J2 C2 Y M : Ob) (g : Nat → Int64), REL (N + 300) (T + 4000) B K S A J C J2 M → k23 (y4 + 4) (B, K, S, A, J, C, K2, S2, A2, J2, C2, Y, M, g)) : wp_law_L1326 L xs k23 y4 (B, K, S, A, J, C, K2, S2, A2, J2, C2, Y, M, g) := by
  obtain ⟨v, B', K', S', A', J', C', K2', S2', A2', J2', C2', Y', M', hc, hm, hr⟩ := call_keeps (K2 := K2) (S2 := S2) (A2 := A2) (C2 := C2) (Y := Y) h hN hT 
  unfold wp_law_L1326
  refine hc _ (hm _ ⟨fun _ x e => ?_, fun y => absurd rfl y⟩)
  subst e
  exact hk _ _ _ _ _ _ _ _ _ _ _ _ _ _ hr
theorem law_cost {L : Nat} {xs : Nat → Int32} {k23 : Int32 → TLW → Prop} {y4 : Int32} {g : Nat → Int64} {N T : Int} {B K K2 : Nat → Int32} {S A J C S2 A2 J2 C2 Y M : Ob} (h : REL N T B K S A J C J2 M) (o1 : okI (y4 + 1) L) (o2 : okI (y4 + 2) L) (o3 : okI (y4 + 3) L) (hN0 : 0 ≤ N) (hT0 : 0 ≤ T) (hN : N < 1900000000) (hT : T < 1900000000) (hk : ∀ (B K : Nat → Int32) (S A J C : Ob) (K2 : Nat → Int32) (S2 A2 J2 C2 Y M : Ob) (g : Nat → Int64), REL (N + 300) (T + 4000) B K S A J C J2 M → k23 (y4 + 4) (B, K, S, A, J, C, K2, S2, A2, J2, C2, Y, M, g)) : wp_law_L1339 L xs k23 y4 (B, K, S, A, J, C, K2, S2, A2, J2, C2, Y, M, g) := by
  obtain ⟨v, B', K', S', A', J', C', K2', S2', A2', J2', C2', Y', M', hc, hm, hr⟩ := call_cost (K2 := K2) (S2 := S2) (A2 := A2) (C2 := C2) (Y := Y) h (xs (Int32.toNatClampNeg (y4 + 1)))
  unfold wp_law_L1339
  refine ⟨o1, hc _ ⟨o1, hm _ ⟨fun _ x e => ?_, fun y => absurd rfl y⟩⟩⟩
  subst e
  exact hk _ _ _ _ _ _ _ _ _ _ _ _ _ _ hr
theorem law_pushes {L : Nat} {xs : Nat → Int32} {k23 : Int32 → TLW → Prop} {y4 : Int32} {g : Nat → Int64} {N T : Int} {B K K2 : Nat → Int32} {S A J C S2 A2 J2 C2 Y M : Ob} (h : REL N T B K S A J C J2 M) (o1 : okI (y4 + 1) L) (o2 : okI (y4 + 2) L) (o3 : okI (y4 + 3) L) (hN0 : 0 ≤ N) (hT0 : 0 ≤ T) (hN : N < 1900000000) (hT : T < 1900000000) (hk : ∀ (B K : Nat → Int32) (S A J C : Ob) (K2 : Nat → Int32) (S2 A2 J2 C2 Y M : Ob) (g : Nat → Int64), REL (N + 300) (T + 4000) B K S A J C J2 M → k23 (y4 + 4) (B, K, S, A, J, C, K2, S2, A2, J2, C2, Y, M, g)) : wp_law_L1364 L xs k23 y4 (B, K, S, A, J, C, K2, S2, A2, J2, C2, Y, M, g) := by
  obtain ⟨v, B', K', S', A', J', C', K2', S2', A2', J2', C2', Y', M', hc, hm, hr⟩ := call_pushes (K2 := K2) (S2 := S2) (A2 := A2) (C2 := C2) (Y := Y) h (xs (Int32.toNatClampNeg (y4 + 1)))
  unfold wp_law_L1364
  refine ⟨o1, hc _ ⟨o1, hm _ ⟨fun _ x e => ?_, fun y => absurd rfl y⟩⟩⟩
  subst e
  exact hk _ _ _ _ _ _ _ _ _ _ _ _ _ _ hr
theorem law_room {L : Nat} {xs : Nat → Int32} {k23 : Int32 → TLW → Prop} {y4 : Int32} {g : Nat → Int64} {N T : Int} {B K K2 : Nat → Int32} {S A J C S2 A2 J2 C2 Y M : Ob} (h : REL N T B K S A J C J2 M) (o1 : okI (y4 + 1) L) (o2 : okI (y4 + 2) L) (o3 : okI (y4 + 3) L) (hN0 : 0 ≤ N) (hT0 : 0 ≤ T) (hN : N < 1900000000) (hT : T < 1900000000) (hk : ∀ (B K : Nat → Int32) (S A J C : Ob) (K2 : Nat → Int32) (S2 A2 J2 C2 Y M : Ob) (g : Nat → Int64), REL (N + 300) (T + 4000) B K S A J C J2 M → k23 (y4 + 4) (B, K, S, A, J, C, K2, S2, A2, J2, C2, Y, M, g)) : wp_law_L1389 L xs k23 y4 (B, K, S, A, J, C, K2, S2, A2, J2, C2, Y, M, g) := by
  unfold wp_law_L1389
  refine ⟨o1, fun z => ?_, fun z => ?_⟩
  · obtain ⟨v, B', K', S', A', J', C', K2', S2', A2', J2', C2', Y', M', hc, hm, hr⟩ := call_room (K2 := K2) (S2 := S2) (A2 := A2) (C2 := C2) (Y := Y) h  0 isB0
    refine hc _ ⟨o1, fun _ => hm _ ⟨fun _ x e => ?_, fun y => absurd rfl y⟩, fun y => absurd z y⟩
    subst e
    exact hk _ _ _ _ _ _ _ _ _ _ _ _ _ _ hr
  · obtain ⟨v, B', K', S', A', J', C', K2', S2', A2', J2', C2', Y', M', hc, hm, hr⟩ := call_room (K2 := K2) (S2 := S2) (A2 := A2) (C2 := C2) (Y := Y) h  1 isB1
    refine hc _ ⟨o1, fun y => absurd y z, fun _ => hm _ ⟨fun _ x e => ?_, fun y => absurd rfl y⟩⟩
    subst e
    exact hk _ _ _ _ _ _ _ _ _ _ _ _ _ _ hr
theorem law_loop {L : Nat} {xs : Nat → Int32} (hL : L ≤ 2048) : ∀ (m c : Nat) (B K : Nat → Int32) (S A J C : Ob) (K2 : Nat → Int32) (S2 A2 J2 C2 Y M : Ob) (g : Nat → Int64), c + m = 512 → REL (300 * c) (4000 * c) B K S A J C J2 M → wp_law_L23 L xs (m + 1) (Int32.ofNat (4 * c)) (B, K, S, A, J, C, K2, S2, A2, J2, C2, Y, M, g) := by
  have hL0 := i_ofNat (k := L) (by omega)
  have l4 : (4 : Int32).toInt = 4 := rfl
  have sL : (Int32.ofNat L - 4).toInt = (L : Int) - 4 := by rw [i_sub (by omega) (by omega), hL0, l4]
  intro m
  induction m with
  | zero =>
    intro c B K S A J C K2 S2 A2 J2 C2 Y M g hc h
    have hy := i_ofNat (k := 4 * c) (by omega)
    unfold wp_law_L23
    exact ⟨fun _ => trivial, fun z => absurd (i_lt.mpr (by omega)) z⟩
  | succ m ih =>
    intro c B K S A J C K2 S2 A2 J2 C2 Y M g hc h
    have hy := i_ofNat (k := 4 * c) (by omega)
    have y4e : Int32.ofNat (4 * c) + 4 = Int32.ofNat (4 * (c + 1)) := by
      rw [i_eq, i_add (by omega) (by omega), hy, l4, i_ofNat (by omega)]
      omega
    have hk : ∀ (B K : Nat → Int32) (S A J C : Ob) (K2 : Nat → Int32) (S2 A2 J2 C2 Y M : Ob) (g : Nat → Int64), REL (300 * (c : Int) + 300) (4000 * (c : Int) + 4000) B K S A J C J2 M → wp_law_L23 L xs (m + 1) (Int32.ofNat (4 * c) + 4) (B, K, S, A, J, C, K2, S2, A2, J2, C2, Y, M, g) := by
      intro B K S A J C K2 S2 A2 J2 C2 Y M g hr
      rw [y4e]
      refine ih (c + 1) B K S A J C K2 S2 A2 J2 C2 Y M g (by omega) ?_
      have e1 : (300 * ((c + 1 : Nat) : Int)) = 300 * (c : Int) + 300 := by omega
      have e2 : (4000 * ((c + 1 : Nat) : Int)) = 4000 * (c : Int) + 4000 := by omega
      rw [e1, e2]
      exact hr
    unfold wp_law_L23
    refine ⟨fun _ => trivial, fun z => ?_⟩
    rw [i_lt] at z
    have a1 : (Int32.ofNat (4 * c) + 1).toInt = 4 * (c : Int) + 1 := by
      have l1 : (1 : Int32).toInt = 1 := rfl
      rw [i_add (by omega) (by omega), hy, l1]; omega
    have a2 : (Int32.ofNat (4 * c) + 2).toInt = 4 * (c : Int) + 2 := by
      have l2 : (2 : Int32).toInt = 2 := rfl
      rw [i_add (by omega) (by omega), hy, l2]; omega
    have a3 : (Int32.ofNat (4 * c) + 3).toInt = 4 * (c : Int) + 3 := by
      have l3 : (3 : Int32).toInt = 3 := rfl
      rw [i_add (by omega) (by omega), hy, l3]; omega
    have o0 : okI (Int32.ofNat (4 * c)) L := ok_iff.mpr (by omega)
    have o1 : okI (Int32.ofNat (4 * c) + 1) L := ok_iff.mpr (by omega)
    have o2 : okI (Int32.ofNat (4 * c) + 2) L := ok_iff.mpr (by omega)
    have o3 : okI (Int32.ofNat (4 * c) + 3) L := ok_iff.mpr (by omega)
    have n0 : (0 : Int) ≤ 300 * (c : Int) := by omega
    have t0 : (0 : Int) ≤ 4000 * (c : Int) := by omega
    have n1 : 300 * (c : Int) < 1900000000 := by omega
    have t1 : 4000 * (c : Int) < 1900000000 := by omega
    refine ⟨o0, fun _ => law_load h o1 o2 o3 n0 t0 n1 t1 hk, fun _ => law_code h o1 o2 o3 n0 t0 n1 t1 hk, fun _ => law_rank h o1 o2 o3 n0 t0 n1 t1 hk, fun _ => law_enable h o1 o2 o3 n0 t0 n1 t1 hk, fun _ => law_vector h o1 o2 o3 n0 t0 n1 t1 hk, fun _ => law_split h o1 o2 o3 n0 t0 n1 t1 hk, fun _ => law_hold h o1 o2 o3 n0 t0 n1 t1 hk, fun _ => law_pend h o1 o2 o3 n0 t0 n1 t1 hk, fun _ => law_clear h o1 o2 o3 n0 t0 n1 t1 hk, fun _ => law_timer h o1 o2 o3 n0 t0 n1 t1 hk, fun _ => law_arrive h o1 o2 o3 n0 t0 n1 t1 hk, fun _ => law_run h o1 o2 o3 n0 t0 n1 t1 hk, fun _ => law_till h o1 o2 o3 n0 t0 n1 t1 hk, fun _ => law_reset h o1 o2 o3 n0 t0 n1 t1 hk, fun _ => law_reg h o1 o2 o3 n0 t0 n1 t1 hk, fun _ => law_word h o1 o2 o3 n0 t0 n1 t1 hk, fun _ => law_data h o1 o2 o3 n0 t0 n1 t1 hk, fun _ => law_out h o1 o2 o3 n0 t0 n1 t1 hk, fun _ => law_source h o1 o2 o3 n0 t0 n1 t1 hk, fun _ => law_nest h o1 o2 o3 n0 t0 n1 t1 hk, fun _ => law_state h o1 o2 o3 n0 t0 n1 t1 hk, fun _ => law_count h o1 o2 o3 n0 t0 n1 t1 hk, fun _ => law_event h o1 o2 o3 n0 t0 n1 t1 hk, fun _ => law_waited h o1 o2 o3 n0 t0 n1 t1 hk, fun _ => law_ahead h o1 o2 o3 n0 t0 n1 t1 hk, fun _ => law_splits h o1 o2 o3 n0 t0 n1 t1 hk, fun _ => law_escalates h o1 o2 o3 n0 t0 n1 t1 hk, fun _ => law_soon h o1 o2 o3 n0 t0 n1 t1 hk, fun _ => law_order h o1 o2 o3 n0 t0 n1 t1 hk, fun _ => law_quiet h o1 o2 o3 n0 t0 n1 t1 hk, fun _ => law_window h o1 o2 o3 n0 t0 n1 t1 hk, fun _ => law_keeps h o1 o2 o3 n0 t0 n1 t1 hk, fun _ => law_cost h o1 o2 o3 n0 t0 n1 t1 hk, fun _ => law_pushes h o1 o2 o3 n0 t0 n1 t1 hk, fun _ => law_room h o1 o2 o3 n0 t0 n1 t1 hk, ?_⟩
    intro _ _ _ _ _ _ _ _ _ _ _ _ _ _ _ _ _ _ _ _ _ _ _ _ _ _ _ _ _ _ _ _ _ _ _  x328 e328
    subst e328
    exact hk _ _ _ _ _ _ _ _ _ _ _ _ _ _ (REL_up h)
theorem pure_main : ∀ (L : Nat) (xs : Nat → Int32), L ≤ 2048 → wp_start L xs := by
  intro L xs hL
  unfold wp_start
  refine init_pair (P := fun S M => wp_law_L23 L xs 513 0 (S.1, S.2.1, S.2.2.1, S.2.2.2.1, S.2.2.2.2.1, S.2.2.2.2.2.1, S.2.2.2.2.2.2.1, S.2.2.2.2.2.2.2.1, S.2.2.2.2.2.2.2.2.1, S.2.2.2.2.2.2.2.2.2.1, S.2.2.2.2.2.2.2.2.2.2.1, S.2.2.2.2.2.2.2.2.2.2.2, M, (fun _ => (0 : Int64)))) ?_
  intro B K S A J C K2 S2 A2 J2 C2 Y M h
  exact law_loop hL 512 0 B K S A J C K2 S2 A2 J2 C2 Y M _ (by omega) h
