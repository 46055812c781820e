/-! LAYER 2: room, the reference -/
theorem sa_own (T : Ob) (j : Nat) : sa T j (T.2 j) = T := by
  show (T.1, va_up T.2 j (T.2 j)) = T
  have : va_up T.2 j (T.2 j) = T.2 := funext fun k => by
    show (if k = j then T.2 j else T.2 k) = T.2 k
    by_cases c : k = j
    · rw [if_pos c, c]
    · rw [if_neg c]
  rw [this]
def endK (k9 : Int32 → Int32 → Int32 → Ob → Prop) (y1 y2 : Int32) (k : Nat) (y4 y5 : Int32) (T : Ob) : Prop := (y4 = 0 → k9 y1 y2 (Int32.ofNat (k + 1)) T) ∧ (¬ y4 = 0 → k9 y1 (y2 + ((if y1 = 0 then 6 else 10) + y5)) (Int32.ofNat (k + 1)) T)
theorem in36 {B hv : Nat → Int32} {S M : Ob} {y1 y2 : Int32} {k : Nat} (hW : srcW B S hv) (hM : nextR S M (M.2 4)) (hpl : ∀ j, j < 21 → S.2 1 j = M.2 1 j) (hcode : codeM B M) (hk : k < 21) : ∀ (m i f : Nat) (T : Ob) (y4 y5 : Int32), i + m = 21 → m < f → frM M T → ((∃ T' : Ob, frM M T' ∧ (∀ (Q : Int32 → Ob → Prop) (k9 : Int32 → Int32 → Int32 → Ob → Prop), Q (-1) T' → wp_X8_room_L36 Q k9 f y1 y2 (Int32.ofNat k) y4 y5 (Int32.ofNat i) T) ∧ ∃ j, j < 21 ∧ ¬ S.2 2 j = 0 ∧ bad B (S.2 1 j).toNatClampNeg) ∨ (∃ (T' : Ob) (y4' : Int32), frM M T' ∧ (∀ (Q : Int32 → Ob → Prop) (k9 : Int32 → Int32 → Int32 → Ob → Prop), endK k9 y1 y2 k y4' (mxF S hv k m i y5) T' → wp_X8_room_L36 Q k9 f y1 y2 (Int32.ofNat k) y4 y5 (Int32.ofNat i) T) ∧ (∀ j, i ≤ j → j < 21 → tog S j k → ¬ bad B (S.2 1 j).toNatClampNeg) ∧ (y4' = 0 ↔ (y4 = 0 ∨ ∃ j, i ≤ j ∧ j < k ∧ tog S j k)))) := by
  intro m
  have xk := ix (show k < 1000 by omega)
  induction m with
  | zero =>
    intro i f T y4 y5 e hf hT
    obtain ⟨f, rfl⟩ : ∃ f', f = f' + 1 := ⟨f - 1, by omega⟩
    have xi := ix (show i < 1000 by omega)
    refine Or.inr ⟨T, y4, hT, fun Q k9 q => ?_, fun j a b => by omega, ⟨Or.inl, fun z => z.elim id (fun ⟨j, a, b, _⟩ => by omega)⟩⟩
    unfold wp_X8_room_L36
    refine ⟨fun _ => ⟨fun c _ e1 => ?_, fun c => ⟨fun d _ e1 _ e2 => ?_, fun d _ e1 _ e2 => ?_⟩⟩, fun c => absurd (i_le.mpr (by rw [xi.1, show (21 : Int32).toInt = 21 from rfl]; omega)) c⟩
    · rw [xk.2.2] at e1
      subst e1
      exact q.1 c
    · rw [xk.2.2] at e2
      subst e1
      subst e2
      have := q.2 c
      rw [if_pos d] at this
      rw [Int32.add_comm y5 6]
      exact this
    · rw [xk.2.2] at e2
      subst e1
      subst e2
      have := q.2 c
      rw [if_neg d] at this
      rw [Int32.add_comm y5 10]
      exact this
  | succ m ih =>
    intro i f T y4 y5 e hf hT
    obtain ⟨f, rfl⟩ : ∃ f', f = f' + 1 := ⟨f - 1, by omega⟩
    have xi := ix (show i < 1000 by omega)
    have hok : okI (Int32.ofNat i) 21 := ix_ok (by omega) (by decide)
    have hokk : okI (Int32.ofNat k) 21 := ix_ok hk (by decide)
    have n21 : ¬ (21 : Int32) ≤ Int32.ofNat i := by rw [i_le, xi.1, show (21 : Int32).toInt = 21 from rfl]; omega
    obtain ⟨R, _, _, E2, E3, b0, b7⟩ := hM
    have t2 : T.2 2 i = S.2 2 i := by rw [hT.2 2 (by decide)]; exact (E2 i (by omega)).symm
    have t1 : T.2 1 i = S.2 1 i := by rw [hT.2 1 (by decide)]; exact (hpl i (by omega)).symm
    have t3 : T.1 3 = S.1 12 := by rw [hT.1 3 (by decide) (by decide)]; exact E3.symm
    have t4 : T.2 4 = M.2 4 := hT.2 4 (by decide)
    have RT : limR S (T.2 4) := by rw [t4]; exact R
    by_cases w0 : S.2 2 i = 0
    · have nt : ¬ tog S i k := fun z => z.1 w0
      have st : ∀ (Q : Int32 → Ob → Prop) (k9 : Int32 → Int32 → Int32 → Ob → Prop), wp_X8_room_L36 Q k9 f y1 y2 (Int32.ofNat k) y4 y5 (Int32.ofNat (i + 1)) T → wp_X8_room_L36 Q k9 (f + 1) y1 y2 (Int32.ofNat k) y4 y5 (Int32.ofNat i) T := fun Q k9 q => by
        unfold wp_X8_room_L36
        refine ⟨fun c => absurd c n21, fun _ => ⟨hok, fun _ _ e2 => ?_, fun c => ?_⟩⟩
        · rw [xi.2.2] at e2
          subst e2
          exact q
        · rw [xi.2.1, t2] at c
          exact absurd w0 c
      have emx : mxF S hv k (m + 1) i y5 = mxF S hv k m (i + 1) y5 := by
        show mxF S hv k m (i + 1) (if tog S i k then _ else y5) = _
        rw [if_neg nt]
      rcases ih (i + 1) f T y4 y5 (by omega) (by omega) hT with ⟨T', g1, g2, g3⟩ | ⟨T', y4', g1, g2, g3, g4⟩
      · exact Or.inl ⟨T', g1, fun Q k9 q => st Q k9 (g2 Q k9 q), g3⟩
      · refine Or.inr ⟨T', y4', g1, fun Q k9 q => st Q k9 (g2 Q k9 (by rw [← emx]; exact q)), fun j a b d => ?_, g4.trans (or_congr Iff.rfl ⟨fun ⟨j, a, b, d⟩ => ⟨j, by omega, b, d⟩, fun ⟨j, a, b, d⟩ => ⟨j, ?_, b, d⟩⟩)⟩
        · by_cases v : j = i
          · subst v; exact absurd d nt
          · exact g3 j (by omega) b d
        · by_cases v : j = i
          · subst v; exact absurd d nt
          · omega
    · -- groups
      have grp2 : ∀ (Q : Int32 → Ob → Prop) (k9 : Int32 → Int32 → Int32 → Ob → Prop), ((grS S i = grS S k → ((Int32.ofNat k ≤ Int32.ofNat i → okI (Int32.ofNat i) 21 ∧ wp_X8_walks T (S.2 1 i) (fun r22 u21 => ((¬ r22 = 0 → (((u21.1 24) ≤ y5 → ∀ x25 : Int32, x25 = (Int32.ofNat i + 1) → wp_X8_room_L36 Q k9 f y1 y2 (Int32.ofNat k) y4 y5 x25 u21) ∧ (¬ (u21.1 24) ≤ y5 → ∀ x26 : Int32, x26 = (u21.1 24) → ∀ x27 : Int32, x27 = (Int32.ofNat i + 1) → wp_X8_room_L36 Q k9 f y1 y2 (Int32.ofNat k) y4 x26 x27 u21))) ∧ (r22 = 0 → Q (-1) u21)))) ∧ (¬ Int32.ofNat k ≤ Int32.ofNat i → okI (Int32.ofNat i) 21 ∧ wp_X8_walks T (S.2 1 i) (fun r29 u28 => ((¬ r29 = 0 → (((u28.1 24) ≤ y5 → ∀ x32 : Int32, x32 = (Int32.ofNat i + 1) → wp_X8_room_L36 Q k9 f y1 y2 (Int32.ofNat k) 0 y5 x32 u28) ∧ (¬ (u28.1 24) ≤ y5 → ∀ x33 : Int32, x33 = (u28.1 24) → ∀ x34 : Int32, x34 = (Int32.ofNat i + 1) → wp_X8_room_L36 Q k9 f y1 y2 (Int32.ofNat k) 0 x33 x34 u28))) ∧ (r29 = 0 → Q (-1) u28)))))) ∧ (¬ grS S i = grS S k → wp_X8_room_L36 Q k9 f y1 y2 (Int32.ofNat k) y4 y5 (Int32.ofNat (i + 1)) T)) → wp_X8_room_L36 Q k9 (f + 1) y1 y2 (Int32.ofNat k) y4 y5 (Int32.ofNat i) T := fun Q k9 q => by
        unfold wp_X8_room_L36
        refine ⟨fun c => absurd c n21, fun _ => ⟨hok, fun c => ?_, fun _ => ?_⟩⟩
        · rw [xi.2.1, t2] at c
          exact absurd c w0
        · refine b_group RT hok (by rw [t3]; exact b0) (by rw [t3]; exact b7) (b_group RT hokk (by rw [t3]; exact b0) (by rw [t3]; exact b7) ?_)
          rw [sa_own, sa_own, xi.2.1, xk.2.1, t3, t1]
          refine ⟨q.1, fun c _ e2 => ?_⟩
          rw [xi.2.2] at e2
          subst e2
          exact q.2 c
      by_cases wg : grS S i = grS S k
      · have tt : tog S i k := ⟨w0, wg⟩
        obtain ⟨hok5, hd⟩ := hW i (by omega)
        have hcT := codeM_fr hcode hT
        rcases hd with ⟨hb, _, o2⟩ | ⟨hb, cv, _, o2⟩
        · obtain ⟨T', g1, g2⟩ := o2 T hcT
          refine Or.inl ⟨T', frM_t hT g2, fun Q k9 q => grp2 Q k9 ⟨fun _ => ⟨fun _ => ⟨hok, g1 _ ⟨fun c => absurd rfl c, fun _ => q⟩⟩, fun _ => ⟨hok, g1 _ ⟨fun c => absurd rfl c, fun _ => q⟩⟩⟩, fun c => absurd wg c⟩, i, by omega, w0, hb⟩
        · obtain ⟨T1, g1, g2, _, g4⟩ := o2 T hcT
          have hT1 := frM_t hT g2
          have emx : mxF S hv k (m + 1) i y5 = mxF S hv k m (i + 1) (if y5 < hv i then hv i else y5) := by
            show mxF S hv k m (i + 1) (if tog S i k then _ else y5) = _
            rw [if_pos tt]
          have st : ∀ (Q : Int32 → Ob → Prop) (k9 : Int32 → Int32 → Int32 → Ob → Prop), wp_X8_room_L36 Q k9 f y1 y2 (Int32.ofNat k) (if k ≤ i then y4 else 0) (if y5 < hv i then hv i else y5) (Int32.ofNat (i + 1)) T1 → wp_X8_room_L36 Q k9 (f + 1) y1 y2 (Int32.ofNat k) y4 y5 (Int32.ofNat i) T := fun Q k9 q => by
            refine grp2 Q k9 ⟨fun _ => ⟨fun c => ⟨hok, g1 _ ⟨fun _ => ?_, fun d => absurd d (by decide)⟩⟩, fun c => ⟨hok, g1 _ ⟨fun _ => ?_, fun d => absurd d (by decide)⟩⟩⟩, fun c => absurd wg c⟩
            · rw [i_le] at c
              rw [if_pos (show k ≤ i by omega)] at q
              rw [g4, xi.2.2]
              refine ⟨fun d _ e2 => ?_, fun d _ e1 _ e2 => ?_⟩
              · rw [if_neg (fun z => by rw [i_lt] at z; rw [i_le] at d; omega)] at q
                subst e2
                exact q
              · rw [if_pos (by rw [i_lt]; rw [i_le] at d; omega)] at q
                subst e1
                subst e2
                exact q
            · rw [i_le] at c
              rw [if_neg (show ¬ k ≤ i by omega)] at q
              rw [g4, xi.2.2]
              refine ⟨fun d _ e2 => ?_, fun d _ e1 _ e2 => ?_⟩
              · rw [if_neg (fun z => by rw [i_lt] at z; rw [i_le] at d; omega)] at q
                subst e2
                exact q
              · rw [if_pos (by rw [i_lt]; rw [i_le] at d; omega)] at q
                subst e1
                subst e2
                exact q
          rcases ih (i + 1) f T1 (if k ≤ i then y4 else 0) (if y5 < hv i then hv i else y5) (by omega) (by omega) hT1 with ⟨T', k1, k2, k3⟩ | ⟨T', y4', k1, k2, k3, k4⟩
          · exact Or.inl ⟨T', k1, fun Q k9 q => st Q k9 (k2 Q k9 q), k3⟩
          · refine Or.inr ⟨T', y4', k1, fun Q k9 q => st Q k9 (k2 Q k9 (by rw [← emx]; exact q)), fun j a b d => ?_, k4.trans ?_⟩
            · by_cases v : j = i
              · subst v; exact hb
              · exact k3 j (by omega) b d
            · by_cases v : k ≤ i
              · rw [if_pos v]
                exact or_congr Iff.rfl ⟨fun ⟨j, a, b, d⟩ => by omega, fun ⟨j, a, b, d⟩ => by omega⟩
              · rw [if_neg v]
                exact ⟨fun _ => Or.inr ⟨i, by omega, by omega, tt⟩, fun _ => Or.inl rfl⟩
      · have nt : ¬ tog S i k := fun z => wg z.2
        have emx : mxF S hv k (m + 1) i y5 = mxF S hv k m (i + 1) y5 := by
          show mxF S hv k m (i + 1) (if tog S i k then _ else y5) = _
          rw [if_neg nt]
        have st : ∀ (Q : Int32 → Ob → Prop) (k9 : Int32 → Int32 → Int32 → Ob → Prop), wp_X8_room_L36 Q k9 f y1 y2 (Int32.ofNat k) y4 y5 (Int32.ofNat (i + 1)) T → wp_X8_room_L36 Q k9 (f + 1) y1 y2 (Int32.ofNat k) y4 y5 (Int32.ofNat i) T := fun Q k9 q => grp2 Q k9 ⟨fun c => absurd c wg, fun _ => q⟩
        rcases ih (i + 1) f T y4 y5 (by omega) (by omega) hT with ⟨T', g1, g2, g3⟩ | ⟨T', y4', g1, g2, g3, g4⟩
        · exact Or.inl ⟨T', g1, fun Q k9 q => st Q k9 (g2 Q k9 q), g3⟩
        · refine Or.inr ⟨T', y4', g1, fun Q k9 q => st Q k9 (g2 Q k9 (by rw [← emx]; exact q)), fun j a b d => ?_, g4.trans (or_congr Iff.rfl ⟨fun ⟨j, a, b, d⟩ => ⟨j, by omega, b, d⟩, fun ⟨j, a, b, d⟩ => ⟨j, ?_, b, d⟩⟩)⟩
          · by_cases v : j = i
            · subst v; exact absurd d nt
            · exact g3 j (by omega) b d
          · by_cases v : j = i
            · subst v; exact absurd d nt
            · omega
theorem roomF_n {S : Ob} {hv : Nat → Int32} {w a : Int32} {m k : Nat} (h : ¬ (¬ S.2 2 k = 0 ∧ fstG S k)) : roomF S hv w (m + 1) k a = roomF S hv w m (k + 1) a := by
  show roomF S hv w m (k + 1) (if ¬ S.2 2 k = 0 ∧ fstG S k then _ else a) = _
  rw [if_neg h]
theorem roomF_y {S : Ob} {hv : Nat → Int32} {w a : Int32} {m k : Nat} (h : ¬ S.2 2 k = 0 ∧ fstG S k) : roomF S hv w (m + 1) k a = roomF S hv w m (k + 1) (a + (w + mxF S hv k (m + 1) k 0)) := by
  show roomF S hv w m (k + 1) (if ¬ S.2 2 k = 0 ∧ fstG S k then _ else a) = _
  rw [if_pos h]
theorem room_m9 {B hv : Nat → Int32} {S M : Ob} {y1 : Int32} (hW : srcW B S hv) (hM : nextR S M (M.2 4)) (hpl : ∀ j, j < 21 → S.2 1 j = M.2 1 j) (hcode : codeM B M) : ∀ (m k f : Nat) (T : Ob) (a : Int32), k + m = 21 → m < f → frM M T → ((∃ T' : Ob, frM M T' ∧ (∀ Q : Int32 → Ob → Prop, Q (-1) T' → wp_X8_room_L9 Q f y1 a (Int32.ofNat k) T) ∧ ∃ j, j < 21 ∧ ¬ S.2 2 j = 0 ∧ bad B (S.2 1 j).toNatClampNeg) ∨ (∃ T' : Ob, frM M T' ∧ (∀ Q : Int32 → Ob → Prop, Q (roomF S hv (if y1 = 0 then 6 else 10) m k a) T' → wp_X8_room_L9 Q f y1 a (Int32.ofNat k) T) ∧ ∀ j, k ≤ j → j < 21 → ¬ S.2 2 j = 0 → ¬ bad B (S.2 1 j).toNatClampNeg)) := by
  intro m
  induction m with
  | zero =>
    intro k f T a e hf hT
    obtain ⟨f, rfl⟩ : ∃ f', f = f' + 1 := ⟨f - 1, by omega⟩
    have xk := ix (show k < 1000 by omega)
    refine Or.inr ⟨T, hT, fun Q q => ?_, fun j a b => by omega⟩
    unfold wp_X8_room_L9
    exact ⟨fun _ => q, fun c => absurd (i_le.mpr (by rw [xk.1, show (21 : Int32).toInt = 21 from rfl]; omega)) c⟩
  | succ m ih =>
    intro k f T a e hf hT
    obtain ⟨f, rfl⟩ : ∃ f', f = f' + 1 := ⟨f - 1, by omega⟩
    have xk := ix (show k < 1000 by omega)
    have hok : okI (Int32.ofNat k) 21 := ix_ok (by omega) (by decide)
    have n21 : ¬ (21 : Int32) ≤ Int32.ofNat k := by rw [i_le, xk.1, show (21 : Int32).toInt = 21 from rfl]; omega
    have t2 : T.2 2 k = S.2 2 k := by rw [hT.2 2 (by decide)]; exact (hM.2.2.2.1 k (by omega)).symm
    by_cases w0 : S.2 2 k = 0
    · have st : ∀ Q : Int32 → Ob → Prop, wp_X8_room_L9 Q f y1 a (Int32.ofNat (k + 1)) T → wp_X8_room_L9 Q (f + 1) y1 a (Int32.ofNat k) T := fun Q q => by
        unfold wp_X8_room_L9
        refine ⟨fun c => absurd c n21, fun _ => ⟨hok, fun c => ?_, fun _ _ e2 => ?_⟩⟩
        · rw [xk.2.1, t2] at c
          exact absurd w0 c
        · rw [xk.2.2] at e2
          subst e2
          exact q
      have er : roomF S hv (if y1 = 0 then 6 else 10) (m + 1) k a = roomF S hv (if y1 = 0 then 6 else 10) m (k + 1) a := roomF_n (fun z => z.1 w0)
      rcases ih (k + 1) f T a (by omega) (by omega) hT with ⟨T', g1, g2, g3⟩ | ⟨T', g1, g2, g3⟩
      · exact Or.inl ⟨T', g1, fun Q q => st Q (g2 Q q), g3⟩
      · refine Or.inr ⟨T', g1, fun Q q => st Q (g2 Q (by rw [← er]; exact q)), fun j a b d => ?_⟩
        by_cases v : j = k
        · subst v; exact absurd w0 d
        · exact g3 j (by omega) b d
    · have st : ∀ Q : Int32 → Ob → Prop, wp_X8_room_L36 Q (wp_X8_room_L9 Q f) 2000 y1 a (Int32.ofNat k) 1 0 0 T → wp_X8_room_L9 Q (f + 1) y1 a (Int32.ofNat k) T := fun Q q => by
        unfold wp_X8_room_L9
        refine ⟨fun c => absurd c n21, fun _ => ⟨hok, fun _ => q, fun c => ?_⟩⟩
        rw [xk.2.1, t2] at c
        exact absurd c w0
      rcases in36 (y1 := y1) (y2 := a) hW hM hpl hcode (show k < 21 by omega) 21 0 2000 T 1 0 rfl (by decide) hT with ⟨T', g1, g2, g3⟩ | ⟨T1, y4', g1, g2, g3, g4⟩
      · exact Or.inl ⟨T', g1, fun Q q => st Q (g2 Q _ q), g3⟩
      · have ck : ¬ bad B (S.2 1 k).toNatClampNeg := g3 k (by omega) (by omega) ⟨w0, rfl⟩
        by_cases wf : fstG S k
        · have ny : ¬ y4' = 0 := fun z => by
            rcases g4.mp z with d | ⟨j, _, b, d⟩
            · exact absurd d (by decide)
            · exact wf j b d
          have emx : mxF S hv k 21 0 0 = mxF S hv k (m + 1) k 0 := by
            have := mx_skip (hv := hv) wf k 0 (m + 1) 0 (by omega)
            rw [show k + (m + 1) = 21 by omega] at this
            exact this
          have er : roomF S hv (if y1 = 0 then 6 else 10) (m + 1) k a = roomF S hv (if y1 = 0 then 6 else 10) m (k + 1) (a + ((if y1 = 0 then 6 else 10) + mxF S hv k 21 0 0)) := by
            rw [emx]
            exact roomF_y ⟨w0, wf⟩
          rcases ih (k + 1) f T1 (a + ((if y1 = 0 then 6 else 10) + mxF S hv k 21 0 0)) (by omega) (by omega) g1 with ⟨T', k1, k2, k3⟩ | ⟨T', k1, k2, k3⟩
          · exact Or.inl ⟨T', k1, fun Q q => st Q (g2 Q _ ⟨fun d => absurd d ny, fun _ => k2 Q q⟩), k3⟩
          · refine Or.inr ⟨T', k1, fun Q q => st Q (g2 Q _ ⟨fun d => absurd d ny, fun _ => k2 Q (by rw [← er]; exact q)⟩), fun j a b d => ?_⟩
            by_cases v : j = k
            · subst v; exact ck
            · exact k3 j (by omega) b d
        · have ny : y4' = 0 := g4.mpr (Or.inr (by
            by_cases v : ∃ j, 0 ≤ j ∧ j < k ∧ tog S j k
            · exact v
            · exact absurd (fun j hj t => v ⟨j, by omega, hj, t⟩) wf))
          have er : roomF S hv (if y1 = 0 then 6 else 10) (m + 1) k a = roomF S hv (if y1 = 0 then 6 else 10) m (k + 1) a := roomF_n (fun z => wf z.2)
          rcases ih (k + 1) f T1 a (by omega) (by omega) g1 with ⟨T', k1, k2, k3⟩ | ⟨T', k1, k2, k3⟩
          · exact Or.inl ⟨T', k1, fun Q q => st Q (g2 Q _ ⟨fun _ => k2 Q q, fun d => absurd ny d⟩), k3⟩
          · refine Or.inr ⟨T', k1, fun Q q => st Q (g2 Q _ ⟨fun _ => k2 Q (by rw [← er]; exact q), fun d => absurd ny d⟩), fun j a b d => ?_⟩
            by_cases v : j = k
            · subst v; exact ck
            · exact k3 j (by omega) b d
theorem call_room {N T : Int} {B K K2 : Nat → Int32} {S A J C S2 A2 J2 C2 Y M : Ob} (h : REL N T B K S A J C J2 M) (p : Int32) (hp : isB p) : FACE N T (fun Q => wp_X7_room (B, K, S, A, J, C, K2, S2, A2, J2, C2, Y) p Q) (fun Q => wp_X8_room M p Q) := by
  obtain ⟨hB, hT⟩ := rB_ok h.2.2.2.2.1
  have h0 := h.1.1
  have hpl : ∀ j, j < 21 → S.2 1 j = M.2 1 j := fun j hj => (h0.2.2.2.2.2.2 j hj).1
  have ex : ∀ k : Nat, ∃ w : Int32, k < 21 → okI (S.2 1 k) 512 ∧ ((bad B (S.2 1 k).toNatClampNeg ∧ opW B (S.2 1 k)) ∨ (¬ bad B (S.2 1 k).toNatClampNeg ∧ ∃ cv, clW B (S.2 1 k) cv w)) := fun k => by
    by_cases c : k < 21
    · have hok : okI (S.2 1 k) 512 := ok_iff.mpr (h0.2.2.2.2.2.2 k c).2
      rcases ways_dich hB (pv_self hok) with o | ⟨o, cv, uv, w⟩
      · exact ⟨0, fun _ => ⟨hok, Or.inl o⟩⟩
      · exact ⟨uv, fun _ => ⟨hok, Or.inr ⟨o, cv, w⟩⟩⟩
    · exact ⟨0, fun z => absurd z c⟩
  obtain ⟨hv, hW⟩ := Classical.axiomOfChoice ex
  have hb : ∀ j, j < 21 → isB (S.2 2 j) := h0.2.2.1
  have h17 : frM M (si M 17 0) ∨ True := Or.inr trivial
  have hR := REL_17 (v := 0) h
  obtain ⟨X', v, g1, g2⟩ := room_class (X := Y) (w := if p = 0 then 6 else 10) hW hb
  have hc : ∀ Q : Int32 → TR7 → Prop, Q v (B, K, S, A, J, C, K2, S2, A2, J2, C2, X') → wp_X7_room (B, K, S, A, J, C, K2, S2, A2, J2, C2, Y) p Q := fun Q q => by
    unfold wp_X7_room
    refine ⟨fun c => ?_, fun c => ?_⟩
    · rw [if_pos c] at g1
      exact g1 _ q
    · rw [if_neg c] at g1
      exact g1 _ q
  rcases room_m9 (y1 := p) (M := si M 17 0) hW h0.1.1 hpl hT 21 0 2000 (si M 17 0) 0 rfl (by decide) (frM_r _) with ⟨T', k1, k2, k3⟩ | ⟨T', k1, k2, k3⟩
  · have ev : v = -1 := by
      rcases g2 with ⟨e, _⟩ | ⟨_, e⟩
      · exact e
      · obtain ⟨j, a, b, c⟩ := k3
        exact absurd c (e j a b)
    refine ⟨v, B, K, S, A, J, C, K2, S2, A2, J2, C2, X', T', hc, fun Q q => ?_, REL_up (REL_fr hR k1)⟩
    unfold wp_X8_room
    intro _ e
    subst e
    rw [ev] at q
    exact k2 Q q
  · have ev : v = roomF S hv (if p = 0 then 6 else 10) 21 0 0 := by
      rcases g2 with ⟨_, j, a, b, c⟩ | ⟨e, _⟩
      · exact absurd c (k3 j (by omega) a b)
      · exact e
    refine ⟨v, B, K, S, A, J, C, K2, S2, A2, J2, C2, X', T', hc, fun Q q => ?_, REL_up (REL_fr hR k1)⟩
    unfold wp_X8_room
    intro _ e
    subst e
    rw [ev] at q
    exact k2 Q q
