/-! LAYER 2: room -/
def grS (S : Ob) (k : Nat) : Int32 := S.2 0 k >>> (S.1 12 &&& 31)
/-- enabled, and of one group -/
abbrev tog (S : Ob) (i k : Nat) : Prop := ¬ S.2 2 i = 0 ∧ grS S i = grS S k
def mxF (S : Ob) (hv : Nat → Int32) (k : Nat) : Nat → Nat → Int32 → Int32
 | 0, _, a => a
 | m + 1, i, a => mxF S hv k m (i + 1) (if tog S i k then (if a < hv i then hv i else a) else a)
abbrev fstG (S : Ob) (k : Nat) : Prop := ∀ i, i < k → ¬ tog S i k
def roomF (S : Ob) (hv : Nat → Int32) (w : Int32) : Nat → Nat → Int32 → Int32
 | 0, _, a => a
 | m + 1, k, a => roomF S hv w m (k + 1) (if ¬ S.2 2 k = 0 ∧ fstG S k then a + (w + mxF S hv k (m + 1) k 0) else a)
theorem mx_skip {S : Ob} {hv : Nat → Int32} {k : Nat} (h : fstG S k) : ∀ (d i m : Nat) (a : Int32), i + d = k → mxF S hv k (d + m) i a = mxF S hv k m k a := by
  intro d
  induction d with
  | zero => intro i m a e; rw [Nat.zero_add, show i = k by omega]
  | succ d ih =>
    intro i m a e
    rw [show d + 1 + m = (d + m) + 1 by omega]
    show mxF S hv k (d + m) (i + 1) (if tog S i k then _ else a) = _
    rw [if_neg (h i (by omega))]
    exact ih (i + 1) m a (by omega)
theorem ix {i : Nat} (h : i < 1000) : (Int32.ofNat i).toInt = (i : Int) ∧ (Int32.ofNat i).toNatClampNeg = i ∧ Int32.ofNat i + 1 = Int32.ofNat (i + 1) := by
  have e := i_ofNat (k := i) (by omega)
  have z1 : (1 : Int32).toInt = 1 := rfl
  refine ⟨e, by rw [i_nat, e]; omega, i_eq.mpr ?_⟩
  rw [i_add (by rw [e, z1]; omega) (by rw [e, z1]; omega), e, i_ofNat (by omega), z1]
  omega
theorem ix_ok {i n : Nat} (h : i < n) (hn : n < 1000) : okI (Int32.ofNat i) n := ok_iff.mpr (by rw [(ix (show i < 1000 by omega)).1]; omega)
theorem tog_1 {S : Ob} {i k : Nat} (hi : i < 21) (hk : k < 21) (h : tog S i k) {Q : Int32 → Ob → Prop} (q : Q 1 S) : wp_X6_areTogether S (Int32.ofNat i) (Int32.ofNat k) Q := by
  unfold wp_X6_areTogether wp_X5_groupBy
  rw [(ix (show i < 1000 by omega)).2.1, (ix (show k < 1000 by omega)).2.1]
  exact ⟨ix_ok hi (by decide), fun c => absurd c h.1, fun _ => ⟨ix_ok hi (by decide), ix_ok hk (by decide), fun c => absurd h.2 c, fun _ => q⟩⟩
theorem tog_0 {S : Ob} {i k : Nat} (hi : i < 21) (hk : k < 21) (h : ¬ tog S i k) {Q : Int32 → Ob → Prop} (q : Q 0 S) : wp_X6_areTogether S (Int32.ofNat i) (Int32.ofNat k) Q := by
  unfold wp_X6_areTogether wp_X5_groupBy
  rw [(ix (show i < 1000 by omega)).2.1, (ix (show k < 1000 by omega)).2.1]
  exact ⟨ix_ok hi (by decide), fun _ => q, fun c => ⟨ix_ok hi (by decide), ix_ok hk (by decide), fun _ => q, fun d => absurd ⟨c, d⟩ h⟩⟩
theorem fst_y {S : Ob} {k : Nat} (hk : k < 21) (hb : isB (S.2 2 k)) {Q : Int32 → Ob → Prop} (q : Q (S.2 2 k) S) : ∀ (m i f : Nat), i + m = k → m < f → (∀ j, i ≤ j → j < k → ¬ tog S j k) → wp_X6_isFirstOfGroup_L2 Q f (Int32.ofNat k) (Int32.ofNat i) S := by
  intro m
  have xk := ix (show k < 1000 by omega)
  induction m with
  | zero =>
    intro i f e hf _
    obtain ⟨f, rfl⟩ : ∃ f', f = f' + 1 := ⟨f - 1, by omega⟩
    have xi := ix (show i < 1000 by omega)
    unfold wp_X6_isFirstOfGroup_L2
    refine ⟨fun _ => ⟨ix_ok hk (by decide), ?_⟩, fun c => absurd (i_le.mpr (by omega)) c⟩
    rw [xk.2.1]
    exact ⟨hb, q⟩
  | succ m ih =>
    intro i f e hf h
    obtain ⟨f, rfl⟩ : ∃ f', f = f' + 1 := ⟨f - 1, by omega⟩
    have xi := ix (show i < 1000 by omega)
    unfold wp_X6_isFirstOfGroup_L2
    refine ⟨fun c => ?_, fun _ => tog_0 (by omega) hk (h i (by omega) (by omega)) ⟨fun _ _ e2 => ?_, fun c => absurd rfl c⟩⟩
    · rw [i_le] at c; omega
    · rw [xi.2.2] at e2
      subst e2
      exact ih (i + 1) f (by omega) (by omega) (fun j a b => h j (by omega) b)
theorem fst_n {S : Ob} {k : Nat} (hk : k < 21) {Q : Int32 → Ob → Prop} (q : Q 0 S) : ∀ (m i f : Nat), i + m = k → m < f → (∃ j, i ≤ j ∧ j < k ∧ tog S j k) → wp_X6_isFirstOfGroup_L2 Q f (Int32.ofNat k) (Int32.ofNat i) S := by
  intro m
  have xk := ix (show k < 1000 by omega)
  induction m with
  | zero =>
    intro i f e hf ⟨j, a, b, _⟩
    omega
  | succ m ih =>
    intro i f e hf ⟨j, a, b, t⟩
    obtain ⟨f, rfl⟩ : ∃ f', f = f' + 1 := ⟨f - 1, by omega⟩
    have xi := ix (show i < 1000 by omega)
    unfold wp_X6_isFirstOfGroup_L2
    refine ⟨fun c => ?_, fun _ => ?_⟩
    · rw [i_le] at c; omega
    · by_cases w : tog S i k
      · exact tog_1 (by omega) hk w ⟨fun c => absurd c (by decide), fun _ => q⟩
      · refine tog_0 (by omega) hk w ⟨fun _ _ e2 => ?_, fun c => absurd rfl c⟩
        rw [xi.2.2] at e2
        subst e2
        refine ih (i + 1) f (by omega) (by omega) ⟨j, ?_, b, t⟩
        by_cases v : j = i
        · subst v; exact absurd t w
        · omega
theorem most_c {S X : Ob} {B hv : Nat → Int32} {k : Nat} (hk : k < 21) {Q : Int32 → (Ob × (Nat → Int32) × Ob) → Prop} (hx : ∀ j, j < 21 → ¬ S.2 2 j = 0 → X.2 3 j = hv j) : ∀ (m i f : Nat) (a : Int32), i + m = 21 → m < f → Q (mxF S hv k m i a) (X, B, S) → wp_X6_mostOfGroup_L5 Q f (Int32.ofNat k) a (Int32.ofNat i) (X, B, S) := by
  intro m
  induction m with
  | zero =>
    intro i f a e hf q
    obtain ⟨f, rfl⟩ : ∃ f', f = f' + 1 := ⟨f - 1, by omega⟩
    have xi := ix (show i < 1000 by omega)
    unfold wp_X6_mostOfGroup_L5
    exact ⟨fun _ => q, fun c => absurd (i_le.mpr (by rw [xi.1, show (21 : Int32).toInt = 21 from rfl]; omega)) c⟩
  | succ m ih =>
    intro i f a e hf q
    obtain ⟨f, rfl⟩ : ∃ f', f = f' + 1 := ⟨f - 1, by omega⟩
    have xi := ix (show i < 1000 by omega)
    unfold wp_X6_mostOfGroup_L5
    refine ⟨fun c => ?_, fun _ => ?_⟩
    · rw [i_le, xi.1, show (21 : Int32).toInt = 21 from rfl] at c; omega
    · have q' : Q (mxF S hv k m (i + 1) (if tog S i k then (if a < hv i then hv i else a) else a)) (X, B, S) := q
      by_cases w : tog S i k
      · rw [if_pos w] at q'
        refine tog_1 (by omega) hk w ⟨fun c => absurd c (by decide), fun _ => ⟨ix_ok (by omega) (by decide), fun _ e1 => ?_⟩⟩
        rw [xi.2.1] at e1
        have e1' := e1.trans (show (if a < X.2 3 i then X.2 3 i else a) = (if a < hv i then hv i else a) by rw [hx i (by omega) w.1])
        subst e1'
        intro _ e2
        rw [xi.2.2] at e2
        subst e2
        exact ih (i + 1) f _ (by omega) (by omega) q'
      · rw [if_neg w] at q'
        refine tog_0 (by omega) hk w ⟨fun _ _ e2 => ?_, fun c => absurd rfl c⟩
        rw [xi.2.2] at e2
        subst e2
        exact ih (i + 1) f _ (by omega) (by omega) q'
theorem room_c60 {S X : Ob} {B hv : Nat → Int32} {w : Int32} (hb : ∀ j, j < 21 → isB (S.2 2 j)) {Q : Int32 → (Ob × (Nat → Int32) × Ob) → Prop} (hx : ∀ j, j < 21 → ¬ S.2 2 j = 0 → X.2 3 j = hv j) : ∀ (m k f : Nat) (a : Int32), k + m = 21 → m < f → Q (roomF S hv w m k a) (X, B, S) → wp_X6_roomFor_L60 Q f w a (Int32.ofNat k) (X, B, S) := by
  intro m
  induction m with
  | zero =>
    intro i f a e hf q
    obtain ⟨f, rfl⟩ : ∃ f', f = f' + 1 := ⟨f - 1, by omega⟩
    have xi := ix (show i < 1000 by omega)
    unfold wp_X6_roomFor_L60
    exact ⟨fun _ => q, fun c => absurd (i_le.mpr (by rw [xi.1, show (21 : Int32).toInt = 21 from rfl]; omega)) c⟩
  | succ m ih =>
    intro i f a e hf q
    obtain ⟨f, rfl⟩ : ∃ f', f = f' + 1 := ⟨f - 1, by omega⟩
    have xi := ix (show i < 1000 by omega)
    have q' : Q (roomF S hv w m (i + 1) (if ¬ S.2 2 i = 0 ∧ fstG S i then a + (w + mxF S hv i (m + 1) i 0) else a)) (X, B, S) := q
    unfold wp_X6_roomFor_L60
    refine ⟨fun c => ?_, fun _ => ?_⟩
    · rw [i_le, xi.1, show (21 : Int32).toInt = 21 from rfl] at c; omega
    · unfold wp_X6_isFirstOfGroup
      by_cases w1 : fstG S i
      · refine fst_y (by omega) (hb i (by omega)) ?_ i 0 2000 (by omega) (by omega) (fun j _ b => w1 j b)
        refine ⟨fun c _ e2 => ?_, fun c => ?_⟩
        · rw [if_neg (fun z => z.1 c)] at q'
          rw [xi.2.2] at e2
          subst e2
          exact ih (i + 1) f _ (by omega) (by omega) q'
        · rw [if_pos ⟨c, w1⟩] at q'
          unfold wp_X6_mostOfGroup
          refine most_c (by omega) hx (m + 1) i 2000 0 (by omega) (by omega) ?_
          intro _ e2
          subst e2
          intro _ e2
          rw [xi.2.2] at e2
          subst e2
          exact ih (i + 1) f _ (by omega) (by omega) q'
      · rw [if_neg (fun z => w1 z.2)] at q'
        have w2 : ∃ j, 0 ≤ j ∧ j < i ∧ tog S j i := by
          by_cases v : ∃ j, 0 ≤ j ∧ j < i ∧ tog S j i
          · exact v
          · exact absurd (fun j hj t => v ⟨j, by omega, hj, t⟩) w1
        refine fst_n (by omega) ?_ i 0 2000 (by omega) (by omega) w2
        refine ⟨fun _ _ e2 => ?_, fun c => absurd rfl c⟩
        rw [xi.2.2] at e2
        subst e2
        exact ih (i + 1) f _ (by omega) (by omega) q'
/-- what is known of each source's first place -/
def srcW (B : Nat → Int32) (S : Ob) (hv : Nat → Int32) : Prop := ∀ k, k < 21 → okI (S.2 1 k) 512 ∧ ((bad B (S.2 1 k).toNatClampNeg ∧ opW B (S.2 1 k)) ∨ (¬ bad B (S.2 1 k).toNatClampNeg ∧ ∃ cv, clW B (S.2 1 k) cv (hv k)))
theorem room_c2 {S : Ob} {B hv : Nat → Int32} {w : Int32} (hW : srcW B S hv) : ∀ (m i f : Nat) (X : Ob), i + m = 21 → m < f → ((∃ X' : Ob, (∀ Q : Int32 → (Ob × (Nat → Int32) × Ob) → Prop, Q (-1) (X', B, S) → wp_X6_roomFor_L2 Q f w (Int32.ofNat i) (X, B, S)) ∧ ∃ j, j < 21 ∧ ¬ S.2 2 j = 0 ∧ bad B (S.2 1 j).toNatClampNeg) ∨ (∃ X' : Ob, (∀ Q : Int32 → (Ob × (Nat → Int32) × Ob) → Prop, wp_X6_roomFor_L60 Q 2000 w 0 0 (X', B, S) → wp_X6_roomFor_L2 Q f w (Int32.ofNat i) (X, B, S)) ∧ (∀ j, i ≤ j → j < 21 → ¬ S.2 2 j = 0 → ¬ bad B (S.2 1 j).toNatClampNeg ∧ X'.2 3 j = hv j) ∧ ∀ j, j < i → X'.2 3 j = X.2 3 j)) := by
  intro m
  induction m with
  | zero =>
    intro i f X e hf
    obtain ⟨f, rfl⟩ : ∃ f', f = f' + 1 := ⟨f - 1, by omega⟩
    have xi := ix (show i < 1000 by omega)
    refine Or.inr ⟨X, fun Q q => ?_, fun j a b => by omega, fun _ _ => rfl⟩
    unfold wp_X6_roomFor_L2
    exact ⟨fun _ => q, fun c => absurd (i_le.mpr (by rw [xi.1, show (21 : Int32).toInt = 21 from rfl]; omega)) c⟩
  | succ m ih =>
    intro i f X e hf
    obtain ⟨f, rfl⟩ : ∃ f', f = f' + 1 := ⟨f - 1, by omega⟩
    have xi := ix (show i < 1000 by omega)
    have hok : okI (Int32.ofNat i) 21 := ix_ok (by omega) (by decide)
    have n21 : ¬ (21 : Int32) ≤ Int32.ofNat i := by rw [i_le, xi.1, show (21 : Int32).toInt = 21 from rfl]; omega
    by_cases w0 : S.2 2 i = 0
    · have st : ∀ (Q : Int32 → (Ob × (Nat → Int32) × Ob) → Prop), wp_X6_roomFor_L2 Q f w (Int32.ofNat (i + 1)) (X, B, S) → wp_X6_roomFor_L2 Q (f + 1) w (Int32.ofNat i) (X, B, S) := fun Q q => by
        unfold wp_X6_roomFor_L2
        refine ⟨fun c => absurd c n21, fun _ => ⟨hok, fun _ _ e2 => ?_, fun c => ?_⟩⟩
        · rw [xi.2.2] at e2
          subst e2
          exact q
        · rw [xi.2.1] at c
          exact absurd w0 c
      rcases ih (i + 1) f X (by omega) (by omega) with ⟨X', g1, g2⟩ | ⟨X', g1, g2, g3⟩
      · exact Or.inl ⟨X', fun Q q => st Q (g1 Q q), g2⟩
      · refine Or.inr ⟨X', fun Q q => st Q (g1 Q q), fun j a b d => ?_, fun j hj => g3 j (by omega)⟩
        by_cases v : j = i
        · subst v; exact absurd w0 d
        · exact g2 j (by omega) b d
    · obtain ⟨hok5, hd⟩ := hW i (by omega)
      rcases hd with ⟨hb, o1, _⟩ | ⟨hb, cv, o1, _⟩
      · obtain ⟨X', g1, _⟩ := o1 X
        refine Or.inl ⟨X', fun Q q => ?_, i, by omega, w0, hb⟩
        unfold wp_X6_roomFor_L2
        refine ⟨fun c => absurd c n21, fun _ => ⟨hok, fun c => ?_, fun _ => ⟨hok, ?_⟩⟩⟩
        · rw [xi.2.1] at c
          exact absurd c w0
        · rw [xi.2.1]
          exact g1 _ ⟨fun c => absurd rfl c, fun _ => q⟩
      · obtain ⟨X1, g1, g2, _, g4⟩ := o1 X
        have st : ∀ (Q : Int32 → (Ob × (Nat → Int32) × Ob) → Prop), wp_X6_roomFor_L2 Q f w (Int32.ofNat (i + 1)) (sa X1 3 (upd (X1.2 3) i (hv i)), B, S) → wp_X6_roomFor_L2 Q (f + 1) w (Int32.ofNat i) (X, B, S) := fun Q q => by
          unfold wp_X6_roomFor_L2
          refine ⟨fun c => absurd c n21, fun _ => ⟨hok, fun c => ?_, fun _ => ⟨hok, ?_⟩⟩⟩
          · rw [xi.2.1] at c
            exact absurd c w0
          · rw [xi.2.1]
            refine g1 _ ⟨fun _ => ⟨hok, hok5, hok, fun _ e1 => ?_⟩, fun c => absurd c (by decide)⟩
            have e1' := e1.trans (show _ = sa X1 3 (upd (X1.2 3) i (hv i)) by rw [g4])
            subst e1'
            intro _ e2
            rw [xi.2.2] at e2
            subst e2
            exact q
        rcases ih (i + 1) f (sa X1 3 (upd (X1.2 3) i (hv i))) (by omega) (by omega) with ⟨X', k1, k2⟩ | ⟨X', k1, k2, k3⟩
        · exact Or.inl ⟨X', fun Q q => st Q (k1 Q q), k2⟩
        · refine Or.inr ⟨X', fun Q q => st Q (k1 Q q), fun j a b d => ?_, fun j hj => ?_⟩
          · by_cases v : j = i
            · subst v
              refine ⟨hb, ?_⟩
              rw [k3 j (by omega), sa_e, up_eq]
            · exact k2 j (by omega) b d
          · rw [k3 j (by omega), sa_e, up_ne (by omega), g2]
theorem room_class {S X : Ob} {B hv : Nat → Int32} {w : Int32} (hW : srcW B S hv) (hb : ∀ j, j < 21 → isB (S.2 2 j)) : ∃ (X' : Ob) (v : Int32), (∀ Q : Int32 → (Ob × (Nat → Int32) × Ob) → Prop, Q v (X', B, S) → wp_X6_roomFor (X, B, S) w Q) ∧ ((v = -1 ∧ ∃ j, j < 21 ∧ ¬ S.2 2 j = 0 ∧ bad B (S.2 1 j).toNatClampNeg) ∨ (v = roomF S hv w 21 0 0 ∧ ∀ j, j < 21 → ¬ S.2 2 j = 0 → ¬ bad B (S.2 1 j).toNatClampNeg)) := by
  rcases room_c2 (w := w) hW 21 0 2000 X rfl (by decide) with ⟨X', g1, g2⟩ | ⟨X', g1, g2, _⟩
  · exact ⟨X', -1, fun Q q => by unfold wp_X6_roomFor; exact g1 Q q, Or.inl ⟨rfl, g2⟩⟩
  · refine ⟨X', roomF S hv w 21 0 0, fun Q q => ?_, Or.inr ⟨rfl, fun j a b => (g2 j (by omega) a b).1⟩⟩
    unfold wp_X6_roomFor
    exact g1 Q (room_c60 hb (fun j a b => (g2 j (by omega) a b).2) 21 0 2000 0 rfl (by decide) q)
