/-! X7_load -/
abbrev rmX7_load : Room := { frames := 0, cells := 0, slots := 0, locals := 0 }
set_option maxHeartbeats 4000000 in
set_option maxRecDepth 100000 in
theorem c_X7_load (l : Launch) (D : va_G) (cI cZ : ClassId) (a : Nat → Nat) (sz : Nat) (S : (Nat → Int32) × (Nat → Int32) × Ob × Ob × Ob × Ob × (Nat → Int32) × Ob × Ob × Ob × Ob × Ob) (p0 : Int32) (p1 : Int64) (Q : Int32 → ((Nat → Int32) × (Nat → Int32) × Ob × Ob × Ob × Ob × (Nat → Int32) × Ob × Ob × Ob × Ob × Ob) → Prop) (h : wp_X7_load S p0 p1 Q) : Met l yX7_load (wsm yX7_load cX7_load 5 (some .boolean)) rmX7_load (va_Pc [.ref (a 0), .int p0, .long p1] (preW D cI cZ sz (wX7 cI cZ a S))) (va_Qi Q (fun u => atW D cI cZ (va_A (wX7 cI cZ a S) sz) (wX7 cI cZ a u)) (va_A (wX7 cI cZ a S) sz)) 0 0 (va_A (wX7 cI cZ a S) sz) := by
  refine Met.ofW (cc := cX7_load) (maxL := 5) (ret := (some .boolean)) (by decide) rfl ?_
  intro p e s m args below meth c s₁ B hml hv
  obtain ⟨rfl, hsz, hP, hK, hD0⟩ := hv
  have hx := B.exec
  have hb := B.bytes
  have hr := B.returns
  have hts0 := atoms_spec (ws := wsm yX7_load cX7_load 5 (some .boolean)) B.pre
  have hts : ∀ w ∈ lw_all, w.before _ s = true := fun w h => hts0 w (List.mem_cons_of_mem _ h)
  have hown : s.vm.findClass RX7 = some m.cls := findClass_of_methodNamed B.named
  have hlocks := B.notSynchronized
  subst hsz
  have hD := hD0.self (sz := s.heap.size)
  generalize hAe : va_A (wX7 cI cZ a S) s.heap.size = A at hD ⊢
  have hA : ∀ q : Nat, s.heap.size ≤ q → A q := fun q h => by rw [← hAe]; exact Or.inr h
  have hS : va_S A s.heap s.heap [] := va_S.rf
  have hml2 := hml
  have L16 : ∀ (n : Nat), ∀ (y1 : Int32) (y2 : Int64) (y4 : Int32) (T : (Nat → Int32) × (Nat → Int32) × Ob × Ob × Ob × Ob × (Nat → Int32) × Ob × Ob × Ob × Ob × Ob) (H : Heap) (locs : List Loc) (ls : Array Slot), va_P D vwCl (wX7 cI cZ a T) H → va_D A (wX7 cI cZ a T) → va_S A s.heap H locs → lv_has ls 5 [(0, .ref (a 0)), (1, .int y1), (2, .long y2), (4, .int y4)] → wp_X7_load_L16 Q n y1 y2 y4 T → W p l e rmX7_load s m ([.ref (a 0), .int p0, .long p1] : List Value).toArray below meth c H locs 0 0 (MQ below (va_Qi Q (fun u => atW D cI cZ A (wX7 cI cZ a u)) A) ([.ref (a 0), .int p0, .long p1] : List Value).toArray s 0 0 A) (F0 m 16 ls []) := by
    intro n
    induction n with
    | zero =>
      intro y1 y2 y4 T H locs ls hP hD hS hl h
      exact False.elim h
    | succ n ih =>
      intro y1 y2 y4 T H locs ls hP hD hS hl h
      unfold wp_X7_load_L16 at h
      refine lv_iload hx hb dX7_load_16 (lv_at hl 3 rfl) ?_
      refine lv_bipush (v := 8) hx hb dX7_load_18 (by decide) ?_
      refine lv_icmp_ge (tgt := 53) hx hb dX7_load_20 (by decide) (fun c3 => ?_) (fun c3 => ?_)
      · have h := h.1 c3
        refine lv_iconst (v := 1) hx hb dX7_load_53 (by decide) ?_
        exact W.zret (ty := .boolean) (v := 1) hx hb hr (narB isB1) (fun t ht hW => ⟨⟨1, T, rfl, h, by rw [ht]; exact hP, va_K.moved hW.alike hK, hD⟩, hS.F ht⟩) hS.2.2 dX7_load_54
      · have h := h.2 c3
        refine lv_aload_n hx hb dX7_load_23 rfl (lv_at hl 0 rfl) ?_
        refine va_get (D := D) (ci := 6) (v := .ref (a 1)) (C := RX7) (T := TX7) (N := 4) hx hb hts inX7 hown hK hP 0 rfl rfl 0 (by decide) (hts _ q_423) (fun _ h9 => h9) rfl dX7_load_24 ?_
        refine lv_iload_n hx hb dX7_load_27 rfl (lv_at hl 1 rfl) ?_
        refine lv_iload hx hb dX7_load_28 (lv_at hl 3 rfl) ?_
        refine lv_iadd hx hb dX7_load_30 ?_
        refine lv_lload_n hx hb dX7_load_31 rfl (lv_at hl 2 rfl) ?_
        refine lv_bipush (v := 56) hx hb dX7_load_32 (by decide) ?_
        refine lv_bipush (v := 8) hx hb dX7_load_34 (by decide) ?_
        refine lv_iload hx hb dX7_load_36 (lv_at hl 3 rfl) ?_
        refine lv_imul hx hb dX7_load_38 ?_
        refine lv_isub hx hb dX7_load_39 ?_
        refine lv_lushr (v := (((Int64.toUInt64 y2) >>> ((Int32.toInt64 (56 - (8 * y4))).toUInt64 &&& Int64.toUInt64 63)).toInt64)) hx hb dX7_load_40 rfl ?_
        refine lv_l2i (v := (Int64.toInt32 (((Int64.toUInt64 y2) >>> ((Int32.toInt64 (56 - (8 * y4))).toUInt64 &&& Int64.toUInt64 63)).toInt64))) hx hb dX7_load_41 rfl ?_
        refine lv_sipush (v := 255) hx hb dX7_load_42 (by decide) ?_
        refine lv_iand hx hb dX7_load_45 ?_
        obtain ⟨T4, eT4⟩ : ∃ z : (Nat → Int32), z = (upd T.1 (Int32.toNatClampNeg (y1 + y4)) ((Int64.toInt32 (((Int64.toUInt64 y2) >>> ((Int32.toInt64 (56 - (8 * y4))).toUInt64 &&& Int64.toUInt64 63)).toInt64)) &&& 255)) := ⟨_, rfl⟩
        refine ar_is (f := T.1) (n := 512) (j := (Int32.toNatClampNeg (y1 + y4))) (x := ((Int64.toInt32 (((Int64.toUInt64 y2) >>> ((Int32.toInt64 (56 - (8 * y4))).toUInt64 &&& Int64.toUInt64 63)).toInt64)) &&& 255)) hx hb hK hP hD hS 1 rfl rfl h.1 dX7_load_46 (wX7 cI cZ a (T4, T.2.1, T.2.2.1, T.2.2.2.1, T.2.2.2.2.1, T.2.2.2.2.2.1, T.2.2.2.2.2.2.1, T.2.2.2.2.2.2.2.1, T.2.2.2.2.2.2.2.2.1, T.2.2.2.2.2.2.2.2.2.1, T.2.2.2.2.2.2.2.2.2.2.1, T.2.2.2.2.2.2.2.2.2.2.2)) (by subst eT4; rfl) (fun H locs hP hD hS => ?_)
        have h := h.2
        have h := h T4 eT4
        obtain ⟨x5, ex5⟩ : ∃ y : Int32, y = (y4 + 1) := ⟨_, rfl⟩
        have h := h x5 ex5
        refine lv_iinc (v := x5) (lv' := [(4, .int x5), (0, .ref (a 0)), (1, .int y1), (2, .long y2)]) hx hb dX7_load_47 hl (k := 3) rfl (by rw [ex5]; rfl) (by decide) rfl (fun ls hl => ?_)
        refine lv_goto (tgt := 16) hx hb dX7_load_50 (by decide) ?_
        exact ih y1 y2 x5 (T4, T.2.1, T.2.2.1, T.2.2.2.1, T.2.2.2.2.1, T.2.2.2.2.2.1, T.2.2.2.2.2.2.1, T.2.2.2.2.2.2.2.1, T.2.2.2.2.2.2.2.2.1, T.2.2.2.2.2.2.2.2.2.1, T.2.2.2.2.2.2.2.2.2.2.1, T.2.2.2.2.2.2.2.2.2.2.2) _ _ _ hP hD hS (lv_sub hl [1, 2, 3, 0] rfl) h
  have hl := lv_entry ([.ref (a 0), .int p0, .long p1]) (n := 5) (Nat.le_of_ble_eq_true rfl)
  rw [lg_entry_eq]
  generalize (lg_sl ([.ref (a 0), .int p0, .long p1]) ++ List.replicate (5 - (lg_sl ([.ref (a 0), .int p0, .long p1])).length) Slot.unset).toArray = ls at hl ⊢
  have hl : lv_has ls 5 [(0, .ref (a 0)), (1, .int p0), (2, .long p1)] := hl
  unfold wp_X7_load at h
  refine lv_iload_n hx hb dX7_load_0 rfl (lv_at hl 1 rfl) ?_
  refine lv_if_lt (tgt := 11) hx hb dX7_load_1 (by decide) (fun c1 => ?_) (fun c1 => ?_)
  · have h := h.1 c1
    refine lv_iconst (v := 0) hx hb dX7_load_11 (by decide) ?_
    exact W.zret (ty := .boolean) (v := 0) hx hb hr (narB isB0) (fun t ht hW => ⟨⟨0, S, rfl, h, by rw [ht]; exact hP, va_K.moved hW.alike hK, hD⟩, hS.F ht⟩) hS.2.2 dX7_load_12
  · have h := h.2 c1
    refine lv_iload_n hx hb dX7_load_4 rfl (lv_at hl 1 rfl) ?_
    refine lv_sipush (v := 504) hx hb dX7_load_5 (by decide) ?_
    refine lv_icmp_le (tgt := 13) hx hb dX7_load_8 (by decide) (fun c2 => ?_) (fun c2 => ?_)
    · have h := h.1 c2
      refine lv_iconst (v := 0) hx hb dX7_load_13 (by decide) ?_
      refine lv_istore (lv' := [(4, .int 0), (0, .ref (a 0)), (1, .int p0), (2, .long p1)]) hx hb dX7_load_14 hl (by decide) rfl (fun ls hl => ?_)
      exact L16 2000 p0 p1 0 S _ _ _ hP hD hS (lv_sub hl [1, 2, 3, 0] rfl) h
    · have h := h.2 c2
      refine lv_iconst (v := 0) hx hb dX7_load_11 (by decide) ?_
      exact W.zret (ty := .boolean) (v := 0) hx hb hr (narB isB0) (fun t ht hW => ⟨⟨0, S, rfl, h, by rw [ht]; exact hP, va_K.moved hW.alike hK, hD⟩, hS.F ht⟩) hS.2.2 dX7_load_12
/-! X7_code -/
abbrev rmX7_code : Room := { frames := 1, cells := 0, slots := 0, locals := 20 }
set_option maxHeartbeats 4000000 in
set_option maxRecDepth 100000 in
theorem c_X7_code (l : Launch) (D : va_G) (cI cZ : ClassId) (a : Nat → Nat) (sz : Nat) (S : (Nat → Int32) × (Nat → Int32) × Ob × Ob × Ob × Ob × (Nat → Int32) × Ob × Ob × Ob × Ob × Ob) (p0 : Int32) (Q : Int32 → ((Nat → Int32) × (Nat → Int32) × Ob × Ob × Ob × Ob × (Nat → Int32) × Ob × Ob × Ob × Ob × Ob) → Prop) (h : wp_X7_code S p0 Q) : Met l yX7_code (wsm yX7_code cX7_code 2 (some .int)) rmX7_code (va_Pc [.ref (a 0), .int p0] (preW D cI cZ sz (wX7 cI cZ a S))) (va_Qi Q (fun u => atW D cI cZ (va_A (wX7 cI cZ a S) sz) (wX7 cI cZ a u)) (va_A (wX7 cI cZ a S) sz)) 0 0 (va_A (wX7 cI cZ a S) sz) := by
  refine Met.ofW (cc := cX7_code) (maxL := 2) (ret := (some .int)) (by decide) rfl ?_
  intro p e s m args below meth c s₁ B hml hv
  obtain ⟨rfl, hsz, hP, hK, hD0⟩ := hv
  have hx := B.exec
  have hb := B.bytes
  have hr := B.returns
  have hts0 := atoms_spec (ws := wsm yX7_code cX7_code 2 (some .int)) B.pre
  have hts : ∀ w ∈ lw_all, w.before _ s = true := fun w h => hts0 w (List.mem_cons_of_mem _ h)
  have hown : s.vm.findClass RX7 = some m.cls := findClass_of_methodNamed B.named
  have hlocks := B.notSynchronized
  subst hsz
  have hD := hD0.self (sz := s.heap.size)
  generalize hAe : va_A (wX7 cI cZ a S) s.heap.size = A at hD ⊢
  have hA : ∀ q : Nat, s.heap.size ≤ q → A q := fun q h => by rw [← hAe]; exact Or.inr h
  have hS : va_S A s.heap s.heap [] := va_S.rf
  have hml2 := hml
  have hl := lv_entry ([.ref (a 0), .int p0]) (n := 2) (Nat.le_of_ble_eq_true rfl)
  rw [lg_entry_eq]
  generalize (lg_sl ([.ref (a 0), .int p0]) ++ List.replicate (2 - (lg_sl ([.ref (a 0), .int p0])).length) Slot.unset).toArray = ls at hl ⊢
  have hl : lv_has ls 2 [(0, .ref (a 0)), (1, .int p0)] := hl
  unfold wp_X7_code at h
  refine lv_iload_n hx hb dX7_code_0 rfl (lv_at hl 1 rfl) ?_
  refine cl_i (ws' := fun u1 => (wX7 cI cZ a S)) (va_runS (As := [.int p0]) (rest := []) ⟨hx, hb, hml, hown, hts⟩ (c_X7_isPlace l D cI cZ _ () p0 _ h ) (va_cwS 1 hts (gS q_444 q_445 q_67 q_446) rfl rfl rfl (by decide +kernel) ⟨Nat.le_of_ble_eq_true rfl, Nat.le_of_ble_eq_true rfl⟩) (preS_of hK hP hD [] rfl rfl (by decide)) rfl rfl hl.1 rfl (lv_room (Nat.le_of_ble_eq_true rfl)) dX7_code_1 ⟨Nat.zero_le _, Nat.zero_le _⟩) hP hD hS hA [] [.inr 0, .inr 1, .inr 2, .inr 3, .inr 4, .inr 5, .inr 6, .inr 7, .inr 8, .inr 9, .inr 10, .inr 11, .inr 12, .inr 13, .inr 14, .inr 15, .inr 16, .inr 17, .inr 18, .inr 19, .inr 20, .inr 21, .inr 22, .inr 23, .inr 24, .inr 25, .inr 26, .inr 27, .inr 28, .inr 29, .inr 30, .inr 31, .inr 32, .inr 33, .inr 34, .inr 35, .inr 36, .inr 37, .inr 38, .inr 39, .inr 40, .inr 41, .inr 42, .inr 43, .inr 44, .inr 45, .inr 46, .inr 47, .inr 48, .inr 49, .inr 50, .inr 51, .inr 52, .inr 53] rfl (by decide) (fun _ => rfl) (fun _ => rfl) (fun r2 u1 H locs h hP hD hS => ?_)
  refine lv_if_eq (tgt := 16) hx hb dX7_code_4 (by decide) (fun c3 => ?_) (fun c3 => ?_)
  · have h := h.1 c3
    refine lv_iconst (v := -1) hx hb dX7_code_16 (by decide) ?_
    exact W.iret (v := (-1)) hx hb hr (fun t ht hW => ⟨⟨(-1), S, rfl, h, by rw [ht]; exact hP, va_K.moved hW.alike hK, hD⟩, hS.F ht⟩) hS.2.2 dX7_code_17
  · have h := h.2 c3
    refine lv_aload_n hx hb dX7_code_7 rfl (lv_at hl 0 rfl) ?_
    refine va_get (D := D) (ci := 6) (v := .ref (a 1)) (C := RX7) (T := TX7) (N := 4) hx hb hts inX7 hown hK hP 0 rfl rfl 0 (by decide) (hts _ q_423) (fun _ h9 => h9) rfl dX7_code_8 ?_
    refine lv_iload_n hx hb dX7_code_11 rfl (lv_at hl 1 rfl) ?_
    refine ar_il (f := S.1) (n := 512) (j := (Int32.toNatClampNeg p0)) hx hb hK hP 1 rfl rfl h.1 dX7_code_12 ?_
    have h := h.2
    refine lv_goto (tgt := 17) hx hb dX7_code_13 (by decide) ?_
    exact W.iret (v := (S.1 (Int32.toNatClampNeg p0))) hx hb hr (fun t ht hW => ⟨⟨(S.1 (Int32.toNatClampNeg p0)), S, rfl, h, by rw [ht]; exact hP, va_K.moved hW.alike hK, hD⟩, hS.F ht⟩) hS.2.2 dX7_code_17
/-! X7_rank -/
abbrev rmX7_rank : Room := { frames := 1, cells := 0, slots := 0, locals := 21 }
set_option maxHeartbeats 4000000 in
set_option maxRecDepth 100000 in
theorem c_X7_rank (l : Launch) (D : va_G) (cI cZ : ClassId) (a : Nat → Nat) (sz : Nat) (S : (Nat → Int32) × (Nat → Int32) × Ob × Ob × Ob × Ob × (Nat → Int32) × Ob × Ob × Ob × Ob × Ob) (p0 : Int32) (p1 : Int32) (Q : Int32 → ((Nat → Int32) × (Nat → Int32) × Ob × Ob × Ob × Ob × (Nat → Int32) × Ob × Ob × Ob × Ob × Ob) → Prop) (h : wp_X7_rank S p0 p1 Q) : Met l yX7_rank (wsm yX7_rank cX7_rank 3 (some .boolean)) rmX7_rank (va_Pc [.ref (a 0), .int p0, .int p1] (preW D cI cZ sz (wX7 cI cZ a S))) (va_Qi Q (fun u => atW D cI cZ (va_A (wX7 cI cZ a S) sz) (wX7 cI cZ a u)) (va_A (wX7 cI cZ a S) sz)) 0 0 (va_A (wX7 cI cZ a S) sz) := by
  refine Met.ofW (cc := cX7_rank) (maxL := 3) (ret := (some .boolean)) (by decide) rfl ?_
  intro p e s m args below meth c s₁ B hml hv
  obtain ⟨rfl, hsz, hP, hK, hD0⟩ := hv
  have hx := B.exec
  have hb := B.bytes
  have hr := B.returns
  have hts0 := atoms_spec (ws := wsm yX7_rank cX7_rank 3 (some .boolean)) B.pre
  have hts : ∀ w ∈ lw_all, w.before _ s = true := fun w h => hts0 w (List.mem_cons_of_mem _ h)
  have hown : s.vm.findClass RX7 = some m.cls := findClass_of_methodNamed B.named
  have hlocks := B.notSynchronized
  subst hsz
  have hD := hD0.self (sz := s.heap.size)
  generalize hAe : va_A (wX7 cI cZ a S) s.heap.size = A at hD ⊢
  have hA : ∀ q : Nat, s.heap.size ≤ q → A q := fun q h => by rw [← hAe]; exact Or.inr h
  have hS : va_S A s.heap s.heap [] := va_S.rf
  have hml2 := hml
  have hl := lv_entry ([.ref (a 0), .int p0, .int p1]) (n := 3) (Nat.le_of_ble_eq_true rfl)
  rw [lg_entry_eq]
  generalize (lg_sl ([.ref (a 0), .int p0, .int p1]) ++ List.replicate (3 - (lg_sl ([.ref (a 0), .int p0, .int p1])).length) Slot.unset).toArray = ls at hl ⊢
  have hl : lv_has ls 3 [(0, .ref (a 0)), (1, .int p0), (2, .int p1)] := hl
  unfold wp_X7_rank at h
  refine lv_iload_n hx hb dX7_rank_0 rfl (lv_at hl 1 rfl) ?_
  refine lv_bipush (v := 20) hx hb dX7_rank_1 (by decide) ?_
  refine cl_i (ws' := fun u1 => (wX7 cI cZ a S)) (va_runS (As := [.int p0, .int 20]) (rest := []) ⟨hx, hb, hml, hown, hts⟩ (c_X7_isBelow l D cI cZ _ () p0 20 _ h ) (va_cwS 2 hts (gS q_451 q_452 q_67 q_453) rfl rfl rfl (by decide +kernel) ⟨Nat.le_of_ble_eq_true rfl, Nat.le_of_ble_eq_true rfl⟩) (preS_of hK hP hD [] rfl rfl (by decide)) rfl rfl hl.1 rfl (lv_room (Nat.le_of_ble_eq_true rfl)) dX7_rank_3 ⟨Nat.zero_le _, Nat.zero_le _⟩) hP hD hS hA [] [.inr 0, .inr 1, .inr 2, .inr 3, .inr 4, .inr 5, .inr 6, .inr 7, .inr 8, .inr 9, .inr 10, .inr 11, .inr 12, .inr 13, .inr 14, .inr 15, .inr 16, .inr 17, .inr 18, .inr 19, .inr 20, .inr 21, .inr 22, .inr 23, .inr 24, .inr 25, .inr 26, .inr 27, .inr 28, .inr 29, .inr 30, .inr 31, .inr 32, .inr 33, .inr 34, .inr 35, .inr 36, .inr 37, .inr 38, .inr 39, .inr 40, .inr 41, .inr 42, .inr 43, .inr 44, .inr 45, .inr 46, .inr 47, .inr 48, .inr 49, .inr 50, .inr 51, .inr 52, .inr 53] rfl (by decide) (fun _ => rfl) (fun _ => rfl) (fun r2 u1 H locs h hP hD hS => ?_)
  refine lv_if_eq (tgt := 35) hx hb dX7_rank_6 (by decide) (fun c3 => ?_) (fun c3 => ?_)
  · have h := h.1 c3
    refine lv_iconst (v := 0) hx hb dX7_rank_35 (by decide) ?_
    exact W.zret (ty := .boolean) (v := 0) hx hb hr (narB isB0) (fun t ht hW => ⟨⟨0, S, rfl, h, by rw [ht]; exact hP, va_K.moved hW.alike hK, hD⟩, hS.F ht⟩) hS.2.2 dX7_rank_36
  · have h := h.2 c3
    refine lv_iload_n hx hb dX7_rank_9 rfl (lv_at hl 2 rfl) ?_
    refine lv_if_lt (tgt := 35) hx hb dX7_rank_10 (by decide) (fun c4 => ?_) (fun c4 => ?_)
    · have h := h.1 c4
      refine lv_iconst (v := 0) hx hb dX7_rank_35 (by decide) ?_
      exact W.zret (ty := .boolean) (v := 0) hx hb hr (narB isB0) (fun t ht hW => ⟨⟨0, S, rfl, h, by rw [ht]; exact hP, va_K.moved hW.alike hK, hD⟩, hS.F ht⟩) hS.2.2 dX7_rank_36
    · have h := h.2 c4
      refine lv_iload_n hx hb dX7_rank_13 rfl (lv_at hl 2 rfl) ?_
      refine lv_sipush (v := 255) hx hb dX7_rank_14 (by decide) ?_
      refine lv_icmp_gt (tgt := 35) hx hb dX7_rank_17 (by decide) (fun c5 => ?_) (fun c5 => ?_)
      · have h := h.1 c5
        refine lv_iconst (v := 0) hx hb dX7_rank_35 (by decide) ?_
        exact W.zret (ty := .boolean) (v := 0) hx hb hr (narB isB0) (fun t ht hW => ⟨⟨0, S, rfl, h, by rw [ht]; exact hP, va_K.moved hW.alike hK, hD⟩, hS.F ht⟩) hS.2.2 dX7_rank_36
      · have h := h.2 c5
        refine lv_aload_n hx hb dX7_rank_20 rfl (lv_at hl 0 rfl) ?_
        refine va_get (D := D) (ci := 6) (v := .ref (a 2)) (C := RX7) (T := TX7) (N := 4) hx hb hts inX7 hown hK hP 0 rfl rfl 1 (by decide) (hts _ q_424) (fun _ h9 => h9) rfl dX7_rank_21 ?_
        refine va_get (D := D) (ci := 3) (v := .ref (a 3)) (C := RX3) (T := TX3) (N := 12) hx hb hts inX3 hown hK hP 2 rfl rfl 0 (by decide) (hts _ q_349) (fun _ h9 => h9) rfl dX7_rank_24 ?_
        refine va_get (D := D) (ci := 4) (v := .ref (a 8)) (C := RX5) (T := TX5) (N := 16) hx hb hts inX5 hown hK hP 3 rfl rfl 4 (by decide) (hts _ q_120) (fun _ h9 => h9) rfl dX7_rank_27 ?_
        refine lv_iload_n hx hb dX7_rank_30 rfl (lv_at hl 1 rfl) ?_
        refine ar_zl (f := (S.2.2.1.2 4)) (n := 21) (j := (Int32.toNatClampNeg p0)) hx hb hK hP 8 rfl rfl h.1 dX7_rank_31 ?_
        have h := h.2
        refine lv_if_eq (tgt := 37) hx hb dX7_rank_32 (by decide) (fun c6 => ?_) (fun c6 => ?_)
        · have h := h.1 c6
          refine lv_aload_n hx hb dX7_rank_37 rfl (lv_at hl 0 rfl) ?_
          refine va_get (D := D) (ci := 6) (v := .ref (a 2)) (C := RX7) (T := TX7) (N := 4) hx hb hts inX7 hown hK hP 0 rfl rfl 1 (by decide) (hts _ q_424) (fun _ h9 => h9) rfl dX7_rank_38 ?_
          refine va_get (D := D) (ci := 3) (v := .ref (a 3)) (C := RX3) (T := TX3) (N := 12) hx hb hts inX3 hown hK hP 2 rfl rfl 0 (by decide) (hts _ q_349) (fun _ h9 => h9) rfl dX7_rank_41 ?_
          refine va_get (D := D) (ci := 4) (v := .ref (a 4)) (C := RX5) (T := TX5) (N := 16) hx hb hts inX5 hown hK hP 3 rfl rfl 0 (by decide) (hts _ q_108) (fun _ h9 => h9) rfl dX7_rank_44 ?_
          refine lv_iload_n hx hb dX7_rank_47 rfl (lv_at hl 1 rfl) ?_
          refine lv_iload_n hx hb dX7_rank_48 rfl (lv_at hl 2 rfl) ?_
          obtain ⟨T7, eT7⟩ : ∃ z : Ob, z = (sa S.2.2.1 0 (upd (S.2.2.1.2 0) (Int32.toNatClampNeg p0) p1)) := ⟨_, rfl⟩
          refine ar_is (f := (S.2.2.1.2 0)) (n := 21) (j := (Int32.toNatClampNeg p0)) (x := p1) hx hb hK hP hD hS 4 rfl rfl h.1 dX7_rank_49 (wX7 cI cZ a (S.1, S.2.1, T7, S.2.2.2.1, S.2.2.2.2.1, S.2.2.2.2.2.1, S.2.2.2.2.2.2.1, S.2.2.2.2.2.2.2.1, S.2.2.2.2.2.2.2.2.1, S.2.2.2.2.2.2.2.2.2.1, S.2.2.2.2.2.2.2.2.2.2.1, S.2.2.2.2.2.2.2.2.2.2.2)) (by subst eT7; rfl) (fun H locs hP hD hS => ?_)
          have h := h.2
          have h := h T7 eT7
          refine lv_iconst (v := 1) hx hb dX7_rank_50 (by decide) ?_
          exact W.zret (ty := .boolean) (v := 1) hx hb hr (narB isB1) (fun t ht hW => ⟨⟨1, (S.1, S.2.1, T7, S.2.2.2.1, S.2.2.2.2.1, S.2.2.2.2.2.1, S.2.2.2.2.2.2.1, S.2.2.2.2.2.2.2.1, S.2.2.2.2.2.2.2.2.1, S.2.2.2.2.2.2.2.2.2.1, S.2.2.2.2.2.2.2.2.2.2.1, S.2.2.2.2.2.2.2.2.2.2.2), rfl, h, by rw [ht]; exact hP, va_K.moved hW.alike hK, hD⟩, hS.F ht⟩) hS.2.2 dX7_rank_51
        · have h := h.2 c6
          refine lv_iconst (v := 0) hx hb dX7_rank_35 (by decide) ?_
          exact W.zret (ty := .boolean) (v := 0) hx hb hr (narB isB0) (fun t ht hW => ⟨⟨0, S, rfl, h, by rw [ht]; exact hP, va_K.moved hW.alike hK, hD⟩, hS.F ht⟩) hS.2.2 dX7_rank_36
/-! X7_enable -/
abbrev rmX7_enable : Room := { frames := 1, cells := 0, slots := 0, locals := 21 }
set_option maxHeartbeats 4000000 in
set_option maxRecDepth 100000 in
theorem c_X7_enable (l : Launch) (D : va_G) (cI cZ : ClassId) (a : Nat → Nat) (sz : Nat) (S : (Nat → Int32) × (Nat → Int32) × Ob × Ob × Ob × Ob × (Nat → Int32) × Ob × Ob × Ob × Ob × Ob) (p0 : Int32) (p1 : Int32) (Q : Int32 → ((Nat → Int32) × (Nat → Int32) × Ob × Ob × Ob × Ob × (Nat → Int32) × Ob × Ob × Ob × Ob × Ob) → Prop) (h : wp_X7_enable S p0 p1 Q) : Met l yX7_enable (wsm yX7_enable cX7_enable 3 (some .boolean)) rmX7_enable (va_Pc [.ref (a 0), .int p0, .int p1] (preW D cI cZ sz (wX7 cI cZ a S))) (va_Qi Q (fun u => atW D cI cZ (va_A (wX7 cI cZ a S) sz) (wX7 cI cZ a u)) (va_A (wX7 cI cZ a S) sz)) 0 0 (va_A (wX7 cI cZ a S) sz) := by
  refine Met.ofW (cc := cX7_enable) (maxL := 3) (ret := (some .boolean)) (by decide) rfl ?_
  intro p e s m args below meth c s₁ B hml hv
  obtain ⟨rfl, hsz, hP, hK, hD0⟩ := hv
  have hx := B.exec
  have hb := B.bytes
  have hr := B.returns
  have hts0 := atoms_spec (ws := wsm yX7_enable cX7_enable 3 (some .boolean)) B.pre
  have hts : ∀ w ∈ lw_all, w.before _ s = true := fun w h => hts0 w (List.mem_cons_of_mem _ h)
  have hown : s.vm.findClass RX7 = some m.cls := findClass_of_methodNamed B.named
  have hlocks := B.notSynchronized
  subst hsz
  have hD := hD0.self (sz := s.heap.size)
  generalize hAe : va_A (wX7 cI cZ a S) s.heap.size = A at hD ⊢
  have hA : ∀ q : Nat, s.heap.size ≤ q → A q := fun q h => by rw [← hAe]; exact Or.inr h
  have hS : va_S A s.heap s.heap [] := va_S.rf
  have hml2 := hml
  have hl := lv_entry ([.ref (a 0), .int p0, .int p1]) (n := 3) (Nat.le_of_ble_eq_true rfl)
  rw [lg_entry_eq]
  generalize (lg_sl ([.ref (a 0), .int p0, .int p1]) ++ List.replicate (3 - (lg_sl ([.ref (a 0), .int p0, .int p1])).length) Slot.unset).toArray = ls at hl ⊢
  have hl : lv_has ls 3 [(0, .ref (a 0)), (1, .int p0), (2, .int p1)] := hl
  unfold wp_X7_enable at h
  refine lv_iload_n hx hb dX7_enable_0 rfl (lv_at hl 1 rfl) ?_
  refine lv_bipush (v := 20) hx hb dX7_enable_1 (by decide) ?_
  refine cl_i (ws' := fun u1 => (wX7 cI cZ a S)) (va_runS (As := [.int p0, .int 20]) (rest := []) ⟨hx, hb, hml, hown, hts⟩ (c_X7_isBelow l D cI cZ _ () p0 20 _ h ) (va_cwS 2 hts (gS q_451 q_452 q_67 q_453) rfl rfl rfl (by decide +kernel) ⟨Nat.le_of_ble_eq_true rfl, Nat.le_of_ble_eq_true rfl⟩) (preS_of hK hP hD [] rfl rfl (by decide)) rfl rfl hl.1 rfl (lv_room (Nat.le_of_ble_eq_true rfl)) dX7_enable_3 ⟨Nat.zero_le _, Nat.zero_le _⟩) hP hD hS hA [] [.inr 0, .inr 1, .inr 2, .inr 3, .inr 4, .inr 5, .inr 6, .inr 7, .inr 8, .inr 9, .inr 10, .inr 11, .inr 12, .inr 13, .inr 14, .inr 15, .inr 16, .inr 17, .inr 18, .inr 19, .inr 20, .inr 21, .inr 22, .inr 23, .inr 24, .inr 25, .inr 26, .inr 27, .inr 28, .inr 29, .inr 30, .inr 31, .inr 32, .inr 33, .inr 34, .inr 35, .inr 36, .inr 37, .inr 38, .inr 39, .inr 40, .inr 41, .inr 42, .inr 43, .inr 44, .inr 45, .inr 46, .inr 47, .inr 48, .inr 49, .inr 50, .inr 51, .inr 52, .inr 53] rfl (by decide) (fun _ => rfl) (fun _ => rfl) (fun r2 u1 H locs h hP hD hS => ?_)
  refine lv_if_ne (tgt := 11) hx hb dX7_enable_6 (by decide) (fun c3 => ?_) (fun c3 => ?_)
  · have h := h.1 c3
    refine lv_aload_n hx hb dX7_enable_11 rfl (lv_at hl 0 rfl) ?_
    refine va_get (D := D) (ci := 6) (v := .ref (a 2)) (C := RX7) (T := TX7) (N := 4) hx hb hts inX7 hown hK hP 0 rfl rfl 1 (by decide) (hts _ q_424) (fun _ h9 => h9) rfl dX7_enable_12 ?_
    refine va_get (D := D) (ci := 3) (v := .ref (a 3)) (C := RX3) (T := TX3) (N := 12) hx hb hts inX3 hown hK hP 2 rfl rfl 0 (by decide) (hts _ q_349) (fun _ h9 => h9) rfl dX7_enable_15 ?_
    refine va_get (D := D) (ci := 4) (v := .ref (a 6)) (C := RX5) (T := TX5) (N := 16) hx hb hts inX5 hown hK hP 3 rfl rfl 2 (by decide) (hts _ q_115) (fun _ h9 => h9) rfl dX7_enable_18 ?_
    refine lv_iload_n hx hb dX7_enable_21 rfl (lv_at hl 1 rfl) ?_
    refine lv_iload_n hx hb dX7_enable_22 rfl (lv_at hl 2 rfl) ?_
    obtain ⟨T4, eT4⟩ : ∃ z : Ob, z = (sa S.2.2.1 2 (upd (S.2.2.1.2 2) (Int32.toNatClampNeg p0) p1)) := ⟨_, rfl⟩
    refine ar_zs (f := (S.2.2.1.2 2)) (n := 21) (j := (Int32.toNatClampNeg p0)) (x := p1) hx hb hK hP hD hS 6 rfl rfl h.1 h.2.1 dX7_enable_23 (wX7 cI cZ a (S.1, S.2.1, T4, S.2.2.2.1, S.2.2.2.2.1, S.2.2.2.2.2.1, S.2.2.2.2.2.2.1, S.2.2.2.2.2.2.2.1, S.2.2.2.2.2.2.2.2.1, S.2.2.2.2.2.2.2.2.2.1, S.2.2.2.2.2.2.2.2.2.2.1, S.2.2.2.2.2.2.2.2.2.2.2)) (by subst eT4; rfl) (fun H locs hP hD hS => ?_)
    have h := h.2
    have h := h.2
    have h := h T4 eT4
    refine lv_iconst (v := 1) hx hb dX7_enable_24 (by decide) ?_
    exact W.zret (ty := .boolean) (v := 1) hx hb hr (narB isB1) (fun t ht hW => ⟨⟨1, (S.1, S.2.1, T4, S.2.2.2.1, S.2.2.2.2.1, S.2.2.2.2.2.1, S.2.2.2.2.2.2.1, S.2.2.2.2.2.2.2.1, S.2.2.2.2.2.2.2.2.1, S.2.2.2.2.2.2.2.2.2.1, S.2.2.2.2.2.2.2.2.2.2.1, S.2.2.2.2.2.2.2.2.2.2.2), rfl, h, by rw [ht]; exact hP, va_K.moved hW.alike hK, hD⟩, hS.F ht⟩) hS.2.2 dX7_enable_25
  · have h := h.2 c3
    refine lv_iconst (v := 0) hx hb dX7_enable_9 (by decide) ?_
    exact W.zret (ty := .boolean) (v := 0) hx hb hr (narB isB0) (fun t ht hW => ⟨⟨0, S, rfl, h, by rw [ht]; exact hP, va_K.moved hW.alike hK, hD⟩, hS.F ht⟩) hS.2.2 dX7_enable_10
/-! X7_vector -/
abbrev rmX7_vector : Room := { frames := 1, cells := 0, slots := 0, locals := 21 }
set_option maxHeartbeats 4000000 in
set_option maxRecDepth 100000 in
theorem c_X7_vector (l : Launch) (D : va_G) (cI cZ : ClassId) (a : Nat → Nat) (sz : Nat) (S : (Nat → Int32) × (Nat → Int32) × Ob × Ob × Ob × Ob × (Nat → Int32) × Ob × Ob × Ob × Ob × Ob) (p0 : Int32) (p1 : Int32) (Q : Int32 → ((Nat → Int32) × (Nat → Int32) × Ob × Ob × Ob × Ob × (Nat → Int32) × Ob × Ob × Ob × Ob × Ob) → Prop) (h : wp_X7_vector S p0 p1 Q) : Met l yX7_vector (wsm yX7_vector cX7_vector 3 (some .boolean)) rmX7_vector (va_Pc [.ref (a 0), .int p0, .int p1] (preW D cI cZ sz (wX7 cI cZ a S))) (va_Qi Q (fun u => atW D cI cZ (va_A (wX7 cI cZ a S) sz) (wX7 cI cZ a u)) (va_A (wX7 cI cZ a S) sz)) 0 0 (va_A (wX7 cI cZ a S) sz) := by
  refine Met.ofW (cc := cX7_vector) (maxL := 3) (ret := (some .boolean)) (by decide) rfl ?_
  intro p e s m args below meth c s₁ B hml hv
  obtain ⟨rfl, hsz, hP, hK, hD0⟩ := hv
  have hx := B.exec
  have hb := B.bytes
  have hr := B.returns
  have hts0 := atoms_spec (ws := wsm yX7_vector cX7_vector 3 (some .boolean)) B.pre
  have hts : ∀ w ∈ lw_all, w.before _ s = true := fun w h => hts0 w (List.mem_cons_of_mem _ h)
  have hown : s.vm.findClass RX7 = some m.cls := findClass_of_methodNamed B.named
  have hlocks := B.notSynchronized
  subst hsz
  have hD := hD0.self (sz := s.heap.size)
  generalize hAe : va_A (wX7 cI cZ a S) s.heap.size = A at hD ⊢
  have hA : ∀ q : Nat, s.heap.size ≤ q → A q := fun q h => by rw [← hAe]; exact Or.inr h
  have hS : va_S A s.heap s.heap [] := va_S.rf
  have hml2 := hml
  have hl := lv_entry ([.ref (a 0), .int p0, .int p1]) (n := 3) (Nat.le_of_ble_eq_true rfl)
  rw [lg_entry_eq]
  generalize (lg_sl ([.ref (a 0), .int p0, .int p1]) ++ List.replicate (3 - (lg_sl ([.ref (a 0), .int p0, .int p1])).length) Slot.unset).toArray = ls at hl ⊢
  have hl : lv_has ls 3 [(0, .ref (a 0)), (1, .int p0), (2, .int p1)] := hl
  unfold wp_X7_vector at h
  refine lv_iload_n hx hb dX7_vector_0 rfl (lv_at hl 1 rfl) ?_
  refine lv_bipush (v := 21) hx hb dX7_vector_1 (by decide) ?_
  refine cl_i (ws' := fun u1 => (wX7 cI cZ a S)) (va_runS (As := [.int p0, .int 21]) (rest := []) ⟨hx, hb, hml, hown, hts⟩ (c_X7_isBelow l D cI cZ _ () p0 21 _ h ) (va_cwS 2 hts (gS q_451 q_452 q_67 q_453) rfl rfl rfl (by decide +kernel) ⟨Nat.le_of_ble_eq_true rfl, Nat.le_of_ble_eq_true rfl⟩) (preS_of hK hP hD [] rfl rfl (by decide)) rfl rfl hl.1 rfl (lv_room (Nat.le_of_ble_eq_true rfl)) dX7_vector_3 ⟨Nat.zero_le _, Nat.zero_le _⟩) hP hD hS hA [] [.inr 0, .inr 1, .inr 2, .inr 3, .inr 4, .inr 5, .inr 6, .inr 7, .inr 8, .inr 9, .inr 10, .inr 11, .inr 12, .inr 13, .inr 14, .inr 15, .inr 16, .inr 17, .inr 18, .inr 19, .inr 20, .inr 21, .inr 22, .inr 23, .inr 24, .inr 25, .inr 26, .inr 27, .inr 28, .inr 29, .inr 30, .inr 31, .inr 32, .inr 33, .inr 34, .inr 35, .inr 36, .inr 37, .inr 38, .inr 39, .inr 40, .inr 41, .inr 42, .inr 43, .inr 44, .inr 45, .inr 46, .inr 47, .inr 48, .inr 49, .inr 50, .inr 51, .inr 52, .inr 53] rfl (by decide) (fun _ => rfl) (fun _ => rfl) (fun r2 u1 H locs h hP hD hS => ?_)
  refine lv_if_eq (tgt := 16) hx hb dX7_vector_6 (by decide) (fun c3 => ?_) (fun c3 => ?_)
  · have h := h.1 c3
    refine lv_iconst (v := 0) hx hb dX7_vector_16 (by decide) ?_
    exact W.zret (ty := .boolean) (v := 0) hx hb hr (narB isB0) (fun t ht hW => ⟨⟨0, S, rfl, h, by rw [ht]; exact hP, va_K.moved hW.alike hK, hD⟩, hS.F ht⟩) hS.2.2 dX7_vector_17
  · have h := h.2 c3
    refine lv_iload_n hx hb dX7_vector_9 rfl (lv_at hl 2 rfl) ?_
    refine cl_i (ws' := fun u4 => (wX7 cI cZ a S)) (va_runS (As := [.int p1]) (rest := []) ⟨hx, hb, hml, hown, hts⟩ (c_X7_isPlace l D cI cZ _ () p1 _ h ) (va_cwS 1 hts (gS q_444 q_445 q_67 q_446) rfl rfl rfl (by decide +kernel) ⟨Nat.le_of_ble_eq_true rfl, Nat.le_of_ble_eq_true rfl⟩) (preS_of hK hP hD [] rfl rfl (by decide)) rfl rfl hl.1 rfl (lv_room (Nat.le_of_ble_eq_true rfl)) dX7_vector_10 ⟨Nat.zero_le _, Nat.zero_le _⟩) hP hD hS hA [] [.inr 0, .inr 1, .inr 2, .inr 3, .inr 4, .inr 5, .inr 6, .inr 7, .inr 8, .inr 9, .inr 10, .inr 11, .inr 12, .inr 13, .inr 14, .inr 15, .inr 16, .inr 17, .inr 18, .inr 19, .inr 20, .inr 21, .inr 22, .inr 23, .inr 24, .inr 25, .inr 26, .inr 27, .inr 28, .inr 29, .inr 30, .inr 31, .inr 32, .inr 33, .inr 34, .inr 35, .inr 36, .inr 37, .inr 38, .inr 39, .inr 40, .inr 41, .inr 42, .inr 43, .inr 44, .inr 45, .inr 46, .inr 47, .inr 48, .inr 49, .inr 50, .inr 51, .inr 52, .inr 53] rfl (by decide) (fun _ => rfl) (fun _ => rfl) (fun r5 u4 H locs h hP hD hS => ?_)
    refine lv_if_ne (tgt := 18) hx hb dX7_vector_13 (by decide) (fun c6 => ?_) (fun c6 => ?_)
    · have h := h.1 c6
      refine lv_aload_n hx hb dX7_vector_18 rfl (lv_at hl 0 rfl) ?_
      refine va_get (D := D) (ci := 6) (v := .ref (a 2)) (C := RX7) (T := TX7) (N := 4) hx hb hts inX7 hown hK hP 0 rfl rfl 1 (by decide) (hts _ q_424) (fun _ h9 => h9) rfl dX7_vector_19 ?_
      refine va_get (D := D) (ci := 3) (v := .ref (a 3)) (C := RX3) (T := TX3) (N := 12) hx hb hts inX3 hown hK hP 2 rfl rfl 0 (by decide) (hts _ q_349) (fun _ h9 => h9) rfl dX7_vector_22 ?_
      refine va_get (D := D) (ci := 4) (v := .ref (a 5)) (C := RX5) (T := TX5) (N := 16) hx hb hts inX5 hown hK hP 3 rfl rfl 1 (by decide) (hts _ q_111) (fun _ h9 => h9) rfl dX7_vector_25 ?_
      refine lv_iload_n hx hb dX7_vector_28 rfl (lv_at hl 1 rfl) ?_
      refine lv_iload_n hx hb dX7_vector_29 rfl (lv_at hl 2 rfl) ?_
      obtain ⟨T7, eT7⟩ : ∃ z : Ob, z = (sa S.2.2.1 1 (upd (S.2.2.1.2 1) (Int32.toNatClampNeg p0) p1)) := ⟨_, rfl⟩
      refine ar_is (f := (S.2.2.1.2 1)) (n := 21) (j := (Int32.toNatClampNeg p0)) (x := p1) hx hb hK hP hD hS 5 rfl rfl h.1 dX7_vector_30 (wX7 cI cZ a (S.1, S.2.1, T7, S.2.2.2.1, S.2.2.2.2.1, S.2.2.2.2.2.1, S.2.2.2.2.2.2.1, S.2.2.2.2.2.2.2.1, S.2.2.2.2.2.2.2.2.1, S.2.2.2.2.2.2.2.2.2.1, S.2.2.2.2.2.2.2.2.2.2.1, S.2.2.2.2.2.2.2.2.2.2.2)) (by subst eT7; rfl) (fun H locs hP hD hS => ?_)
      have h := h.2
      have h := h T7 eT7
      refine lv_iconst (v := 1) hx hb dX7_vector_31 (by decide) ?_
      exact W.zret (ty := .boolean) (v := 1) hx hb hr (narB isB1) (fun t ht hW => ⟨⟨1, (S.1, S.2.1, T7, S.2.2.2.1, S.2.2.2.2.1, S.2.2.2.2.2.1, S.2.2.2.2.2.2.1, S.2.2.2.2.2.2.2.1, S.2.2.2.2.2.2.2.2.1, S.2.2.2.2.2.2.2.2.2.1, S.2.2.2.2.2.2.2.2.2.2.1, S.2.2.2.2.2.2.2.2.2.2.2), rfl, h, by rw [ht]; exact hP, va_K.moved hW.alike hK, hD⟩, hS.F ht⟩) hS.2.2 dX7_vector_32
    · have h := h.2 c6
      refine lv_iconst (v := 0) hx hb dX7_vector_16 (by decide) ?_
      exact W.zret (ty := .boolean) (v := 0) hx hb hr (narB isB0) (fun t ht hW => ⟨⟨0, S, rfl, h, by rw [ht]; exact hP, va_K.moved hW.alike hK, hD⟩, hS.F ht⟩) hS.2.2 dX7_vector_17
/-! X7_split -/
abbrev rmX7_split : Room := { frames := 0, cells := 0, slots := 0, locals := 0 }
set_option maxHeartbeats 4000000 in
set_option maxRecDepth 100000 in
theorem c_X7_split (l : Launch) (D : va_G) (cI cZ : ClassId) (a : Nat → Nat) (sz : Nat) (S : (Nat → Int32) × (Nat → Int32) × Ob × Ob × Ob × Ob × (Nat → Int32) × Ob × Ob × Ob × Ob × Ob) (p0 : Int32) (Q : Int32 → ((Nat → Int32) × (Nat → Int32) × Ob × Ob × Ob × Ob × (Nat → Int32) × Ob × Ob × Ob × Ob × Ob) → Prop) (h : wp_X7_split S p0 Q) : Met l yX7_split (wsm yX7_split cX7_split 2 (some .boolean)) rmX7_split (va_Pc [.ref (a 0), .int p0] (preW D cI cZ sz (wX7 cI cZ a S))) (va_Qi Q (fun u => atW D cI cZ (va_A (wX7 cI cZ a S) sz) (wX7 cI cZ a u)) (va_A (wX7 cI cZ a S) sz)) 0 0 (va_A (wX7 cI cZ a S) sz) := by
  refine Met.ofW (cc := cX7_split) (maxL := 2) (ret := (some .boolean)) (by decide) rfl ?_
  intro p e s m args below meth c s₁ B hml hv
  obtain ⟨rfl, hsz, hP, hK, hD0⟩ := hv
  have hx := B.exec
  have hb := B.bytes
  have hr := B.returns
  have hts0 := atoms_spec (ws := wsm yX7_split cX7_split 2 (some .boolean)) B.pre
  have hts : ∀ w ∈ lw_all, w.before _ s = true := fun w h => hts0 w (List.mem_cons_of_mem _ h)
  have hown : s.vm.findClass RX7 = some m.cls := findClass_of_methodNamed B.named
  have hlocks := B.notSynchronized
  subst hsz
  have hD := hD0.self (sz := s.heap.size)
  generalize hAe : va_A (wX7 cI cZ a S) s.heap.size = A at hD ⊢
  have hA : ∀ q : Nat, s.heap.size ≤ q → A q := fun q h => by rw [← hAe]; exact Or.inr h
  have hS : va_S A s.heap s.heap [] := va_S.rf
  have hml2 := hml
  have hl := lv_entry ([.ref (a 0), .int p0]) (n := 2) (Nat.le_of_ble_eq_true rfl)
  rw [lg_entry_eq]
  generalize (lg_sl ([.ref (a 0), .int p0]) ++ List.replicate (2 - (lg_sl ([.ref (a 0), .int p0])).length) Slot.unset).toArray = ls at hl ⊢
  have hl : lv_has ls 2 [(0, .ref (a 0)), (1, .int p0)] := hl
  unfold wp_X7_split at h
  refine lv_iload_n hx hb dX7_split_0 rfl (lv_at hl 1 rfl) ?_
  refine lv_if_lt (tgt := 23) hx hb dX7_split_1 (by decide) (fun c1 => ?_) (fun c1 => ?_)
  · have h := h.1 c1
    refine lv_iconst (v := 0) hx hb dX7_split_23 (by decide) ?_
    exact W.zret (ty := .boolean) (v := 0) hx hb hr (narB isB0) (fun t ht hW => ⟨⟨0, S, rfl, h, by rw [ht]; exact hP, va_K.moved hW.alike hK, hD⟩, hS.F ht⟩) hS.2.2 dX7_split_24
  · have h := h.2 c1
    refine lv_iload_n hx hb dX7_split_4 rfl (lv_at hl 1 rfl) ?_
    refine lv_bipush (v := 7) hx hb dX7_split_5 (by decide) ?_
    refine lv_icmp_gt (tgt := 23) hx hb dX7_split_7 (by decide) (fun c2 => ?_) (fun c2 => ?_)
    · have h := h.1 c2
      refine lv_iconst (v := 0) hx hb dX7_split_23 (by decide) ?_
      exact W.zret (ty := .boolean) (v := 0) hx hb hr (narB isB0) (fun t ht hW => ⟨⟨0, S, rfl, h, by rw [ht]; exact hP, va_K.moved hW.alike hK, hD⟩, hS.F ht⟩) hS.2.2 dX7_split_24
    · have h := h.2 c2
      refine lv_aload_n hx hb dX7_split_10 rfl (lv_at hl 0 rfl) ?_
      refine va_get (D := D) (ci := 6) (v := .ref (a 2)) (C := RX7) (T := TX7) (N := 4) hx hb hts inX7 hown hK hP 0 rfl rfl 1 (by decide) (hts _ q_424) (fun _ h9 => h9) rfl dX7_split_11 ?_
      refine va_get (D := D) (ci := 3) (v := .ref (a 3)) (C := RX3) (T := TX3) (N := 12) hx hb hts inX3 hown hK hP 2 rfl rfl 0 (by decide) (hts _ q_349) (fun _ h9 => h9) rfl dX7_split_14 ?_
      refine va_get (D := D) (ci := 4) (v := .int (S.2.2.1.1 10)) (C := RX5) (T := TX5) (N := 16) hx hb hts inX5 hown hK hP 3 rfl rfl 10 (by decide) (hts _ q_133) (fun _ h9 => h9) rfl dX7_split_17 ?_
      refine lv_if_le (tgt := 25) hx hb dX7_split_20 (by decide) (fun c3 => ?_) (fun c3 => ?_)
      · have h := h.1 c3
        refine lv_aload_n hx hb dX7_split_25 rfl (lv_at hl 0 rfl) ?_
        refine va_get (D := D) (ci := 6) (v := .ref (a 2)) (C := RX7) (T := TX7) (N := 4) hx hb hts inX7 hown hK hP 0 rfl rfl 1 (by decide) (hts _ q_424) (fun _ h9 => h9) rfl dX7_split_26 ?_
        refine va_get (D := D) (ci := 3) (v := .ref (a 3)) (C := RX3) (T := TX3) (N := 12) hx hb hts inX3 hown hK hP 2 rfl rfl 0 (by decide) (hts _ q_349) (fun _ h9 => h9) rfl dX7_split_29 ?_
        refine lv_iload_n hx hb dX7_split_32 rfl (lv_at hl 1 rfl) ?_
        obtain ⟨T4, eT4⟩ : ∃ z : Ob, z = (si S.2.2.1 12 p0) := ⟨_, rfl⟩
        refine pu_f (ci := 4) (v := .int p0) (ty := .int) (C := RX5) (T := TX5) (N := 16) hx hb hts inX5 tyX5 tyX5_ok nmX5 hown hK hP hD hS 3 rfl rfl 12 (by decide) (hts _ q_137) (fun _ h9 => h9) rfl rfl rfl rfl (Nat.le_of_ble_eq_true rfl) dX7_split_33 (wX7 cI cZ a (S.1, S.2.1, T4, S.2.2.2.1, S.2.2.2.2.1, S.2.2.2.2.2.1, S.2.2.2.2.2.2.1, S.2.2.2.2.2.2.2.1, S.2.2.2.2.2.2.2.2.1, S.2.2.2.2.2.2.2.2.2.1, S.2.2.2.2.2.2.2.2.2.2.1, S.2.2.2.2.2.2.2.2.2.2.2)) (by subst eT4; rfl) (fun H locs hP hD hS => ?_)
        have h := h T4 eT4
        refine lv_iconst (v := 1) hx hb dX7_split_36 (by decide) ?_
        exact W.zret (ty := .boolean) (v := 1) hx hb hr (narB isB1) (fun t ht hW => ⟨⟨1, (S.1, S.2.1, T4, S.2.2.2.1, S.2.2.2.2.1, S.2.2.2.2.2.1, S.2.2.2.2.2.2.1, S.2.2.2.2.2.2.2.1, S.2.2.2.2.2.2.2.2.1, S.2.2.2.2.2.2.2.2.2.1, S.2.2.2.2.2.2.2.2.2.2.1, S.2.2.2.2.2.2.2.2.2.2.2), rfl, h, by rw [ht]; exact hP, va_K.moved hW.alike hK, hD⟩, hS.F ht⟩) hS.2.2 dX7_split_37
      · have h := h.2 c3
        refine lv_iconst (v := 0) hx hb dX7_split_23 (by decide) ?_
        exact W.zret (ty := .boolean) (v := 0) hx hb hr (narB isB0) (fun t ht hW => ⟨⟨0, S, rfl, h, by rw [ht]; exact hP, va_K.moved hW.alike hK, hD⟩, hS.F ht⟩) hS.2.2 dX7_split_24
/-! X7_hold -/
abbrev rmX7_hold : Room := { frames := 1, cells := 0, slots := 0, locals := 22 }
set_option maxHeartbeats 4000000 in
set_option maxRecDepth 100000 in
theorem c_X7_hold (l : Launch) (D : va_G) (cI cZ : ClassId) (a : Nat → Nat) (sz : Nat) (S : (Nat → Int32) × (Nat → Int32) × Ob × Ob × Ob × Ob × (Nat → Int32) × Ob × Ob × Ob × Ob × Ob) (p0 : Int32) (p1 : Int32) (Q : Int32 → ((Nat → Int32) × (Nat → Int32) × Ob × Ob × Ob × Ob × (Nat → Int32) × Ob × Ob × Ob × Ob × Ob) → Prop) (h : wp_X7_hold S p0 p1 Q) : Met l yX7_hold (wsm yX7_hold cX7_hold 3 (some .boolean)) rmX7_hold (va_Pc [.ref (a 0), .int p0, .int p1] (preW D cI cZ sz (wX7 cI cZ a S))) (va_Qi Q (fun u => atW D cI cZ (va_A (wX7 cI cZ a S) sz) (wX7 cI cZ a u)) (va_A (wX7 cI cZ a S) sz)) 0 0 (va_A (wX7 cI cZ a S) sz) := by
  refine Met.ofW (cc := cX7_hold) (maxL := 3) (ret := (some .boolean)) (by decide) rfl ?_
  intro p e s m args below meth c s₁ B hml hv
  obtain ⟨rfl, hsz, hP, hK, hD0⟩ := hv
  have hx := B.exec
  have hb := B.bytes
  have hr := B.returns
  have hts0 := atoms_spec (ws := wsm yX7_hold cX7_hold 3 (some .boolean)) B.pre
  have hts : ∀ w ∈ lw_all, w.before _ s = true := fun w h => hts0 w (List.mem_cons_of_mem _ h)
  have hown : s.vm.findClass RX7 = some m.cls := findClass_of_methodNamed B.named
  have hlocks := B.notSynchronized
  subst hsz
  have hD := hD0.self (sz := s.heap.size)
  generalize hAe : va_A (wX7 cI cZ a S) s.heap.size = A at hD ⊢
  have hA : ∀ q : Nat, s.heap.size ≤ q → A q := fun q h => by rw [← hAe]; exact Or.inr h
  have hS : va_S A s.heap s.heap [] := va_S.rf
  have hml2 := hml
  have hl := lv_entry ([.ref (a 0), .int p0, .int p1]) (n := 3) (Nat.le_of_ble_eq_true rfl)
  rw [lg_entry_eq]
  generalize (lg_sl ([.ref (a 0), .int p0, .int p1]) ++ List.replicate (3 - (lg_sl ([.ref (a 0), .int p0, .int p1])).length) Slot.unset).toArray = ls at hl ⊢
  have hl : lv_has ls 3 [(0, .ref (a 0)), (1, .int p0), (2, .int p1)] := hl
  unfold wp_X7_hold at h
  refine lv_iload_n hx hb dX7_hold_0 rfl (lv_at hl 1 rfl) ?_
  refine lv_bipush (v := 8) hx hb dX7_hold_1 (by decide) ?_
  refine lv_icmp_lt (tgt := 28) hx hb dX7_hold_3 (by decide) (fun c1 => ?_) (fun c1 => ?_)
  · have h := h.1 c1
    refine lv_iconst (v := 0) hx hb dX7_hold_28 (by decide) ?_
    exact W.zret (ty := .boolean) (v := 0) hx hb hr (narB isB0) (fun t ht hW => ⟨⟨0, S, rfl, h, by rw [ht]; exact hP, va_K.moved hW.alike hK, hD⟩, hS.F ht⟩) hS.2.2 dX7_hold_29
  · have h := h.2 c1
    refine lv_iload_n hx hb dX7_hold_6 rfl (lv_at hl 1 rfl) ?_
    refine lv_bipush (v := 15) hx hb dX7_hold_7 (by decide) ?_
    refine lv_icmp_gt (tgt := 28) hx hb dX7_hold_9 (by decide) (fun c2 => ?_) (fun c2 => ?_)
    · have h := h.1 c2
      refine lv_iconst (v := 0) hx hb dX7_hold_28 (by decide) ?_
      exact W.zret (ty := .boolean) (v := 0) hx hb hr (narB isB0) (fun t ht hW => ⟨⟨0, S, rfl, h, by rw [ht]; exact hP, va_K.moved hW.alike hK, hD⟩, hS.F ht⟩) hS.2.2 dX7_hold_29
    · have h := h.2 c2
      refine lv_aload_n hx hb dX7_hold_12 rfl (lv_at hl 0 rfl) ?_
      refine va_get (D := D) (ci := 6) (v := .ref (a 2)) (C := RX7) (T := TX7) (N := 4) hx hb hts inX7 hown hK hP 0 rfl rfl 1 (by decide) (hts _ q_424) (fun _ h9 => h9) rfl dX7_hold_13 ?_
      refine va_get (D := D) (ci := 3) (v := .ref (a 3)) (C := RX3) (T := TX3) (N := 12) hx hb hts inX3 hown hK hP 2 rfl rfl 0 (by decide) (hts _ q_349) (fun _ h9 => h9) rfl dX7_hold_16 ?_
      refine va_get (D := D) (ci := 4) (v := .ref (a 9)) (C := RX5) (T := TX5) (N := 16) hx hb hts inX5 hown hK hP 3 rfl rfl 5 (by decide) (hts _ q_123) (fun _ h9 => h9) rfl dX7_hold_19 ?_
      refine lv_iload_n hx hb dX7_hold_22 rfl (lv_at hl 1 rfl) ?_
      refine ar_zl (f := (S.2.2.1.2 5)) (n := 21) (j := (Int32.toNatClampNeg p0)) hx hb hK hP 9 rfl rfl h.1 dX7_hold_23 ?_
      have h := h.2
      refine lv_iload_n hx hb dX7_hold_24 rfl (lv_at hl 2 rfl) ?_
      refine lv_icmp_ne (tgt := 30) hx hb dX7_hold_25 (by decide) (fun c3 => ?_) (fun c3 => ?_)
      · have h := h.1 c3
        refine lv_aload_n hx hb dX7_hold_30 rfl (lv_at hl 0 rfl) ?_
        refine va_get (D := D) (ci := 6) (v := .ref (a 2)) (C := RX7) (T := TX7) (N := 4) hx hb hts inX7 hown hK hP 0 rfl rfl 1 (by decide) (hts _ q_424) (fun _ h9 => h9) rfl dX7_hold_31 ?_
        refine va_get (D := D) (ci := 3) (v := .ref (a 3)) (C := RX3) (T := TX3) (N := 12) hx hb hts inX3 hown hK hP 2 rfl rfl 0 (by decide) (hts _ q_349) (fun _ h9 => h9) rfl dX7_hold_34 ?_
        refine va_get (D := D) (ci := 4) (v := .ref (a 9)) (C := RX5) (T := TX5) (N := 16) hx hb hts inX5 hown hK hP 3 rfl rfl 5 (by decide) (hts _ q_123) (fun _ h9 => h9) rfl dX7_hold_37 ?_
        refine lv_iload_n hx hb dX7_hold_40 rfl (lv_at hl 1 rfl) ?_
        refine lv_iload_n hx hb dX7_hold_41 rfl (lv_at hl 2 rfl) ?_
        obtain ⟨T4, eT4⟩ : ∃ z : Ob, z = (sa S.2.2.1 5 (upd (S.2.2.1.2 5) (Int32.toNatClampNeg p0) p1)) := ⟨_, rfl⟩
        refine ar_zs (f := (S.2.2.1.2 5)) (n := 21) (j := (Int32.toNatClampNeg p0)) (x := p1) hx hb hK hP hD hS 9 rfl rfl h.1 h.2.1 dX7_hold_42 (wX7 cI cZ a (S.1, S.2.1, T4, S.2.2.2.1, S.2.2.2.2.1, S.2.2.2.2.2.1, S.2.2.2.2.2.2.1, S.2.2.2.2.2.2.2.1, S.2.2.2.2.2.2.2.2.1, S.2.2.2.2.2.2.2.2.2.1, S.2.2.2.2.2.2.2.2.2.2.1, S.2.2.2.2.2.2.2.2.2.2.2)) (by subst eT4; rfl) (fun H locs hP hD hS => ?_)
        have h := h.2
        have h := h.2
        have h := h T4 eT4
        refine lv_iload_n hx hb dX7_hold_43 rfl (lv_at hl 2 rfl) ?_
        refine lv_if_eq (tgt := 66) hx hb dX7_hold_44 (by decide) (fun c5 => ?_) (fun c5 => ?_)
        · have h := h.1 c5
          refine lv_iconst (v := 1) hx hb dX7_hold_66 (by decide) ?_
          exact W.zret (ty := .boolean) (v := 1) hx hb hr (narB isB1) (fun t ht hW => ⟨⟨1, (S.1, S.2.1, T4, S.2.2.2.1, S.2.2.2.2.1, S.2.2.2.2.2.1, S.2.2.2.2.2.2.1, S.2.2.2.2.2.2.2.1, S.2.2.2.2.2.2.2.2.1, S.2.2.2.2.2.2.2.2.2.1, S.2.2.2.2.2.2.2.2.2.2.1, S.2.2.2.2.2.2.2.2.2.2.2), rfl, h, by rw [ht]; exact hP, va_K.moved hW.alike hK, hD⟩, hS.F ht⟩) hS.2.2 dX7_hold_67
        · have h := h.2 c5
          refine lv_aload_n hx hb dX7_hold_47 rfl (lv_at hl 0 rfl) ?_
          refine va_get (D := D) (ci := 6) (v := .ref (a 2)) (C := RX7) (T := TX7) (N := 4) hx hb hts inX7 hown hK hP 0 rfl rfl 1 (by decide) (hts _ q_424) (fun _ h9 => h9) rfl dX7_hold_48 ?_
          refine va_get (D := D) (ci := 3) (v := .ref (a 3)) (C := RX3) (T := TX3) (N := 12) hx hb hts inX3 hown hK hP 2 rfl rfl 0 (by decide) (hts _ q_349) (fun _ h9 => h9) rfl dX7_hold_51 ?_
          refine lv_iload_n hx hb dX7_hold_54 rfl (lv_at hl 1 rfl) ?_
          refine lv_aload_n hx hb dX7_hold_55 rfl (lv_at hl 0 rfl) ?_
          refine va_get (D := D) (ci := 6) (v := .ref (a 2)) (C := RX7) (T := TX7) (N := 4) hx hb hts inX7 hown hK hP 0 rfl rfl 1 (by decide) (hts _ q_424) (fun _ h9 => h9) rfl dX7_hold_56 ?_
          refine va_get (D := D) (ci := 3) (v := .int (S.2.1 4)) (C := RX3) (T := TX3) (N := 12) hx hb hts inX3 hown hK hP 2 rfl rfl 4 (by decide) (hts _ q_357) (fun _ h9 => h9) rfl dX7_hold_59 ?_
          refine cl_i (ws' := fun u6 => (wX7 cI cZ a (S.1, S.2.1, u6, S.2.2.2.1, S.2.2.2.2.1, S.2.2.2.2.2.1, S.2.2.2.2.2.2.1, S.2.2.2.2.2.2.2.1, S.2.2.2.2.2.2.2.2.1, S.2.2.2.2.2.2.2.2.2.1, S.2.2.2.2.2.2.2.2.2.2.1, S.2.2.2.2.2.2.2.2.2.2.2))) (va_runV (As := [.int p0, .int (S.2.1 4)]) (rest := []) ⟨hx, hb, hml, hown, hts⟩ (c_X5_request l D cI cZ (fun k => a (k + 3)) _ T4 p0 (S.2.1 4) _ h ) (cwV 2 hts (gV q_470 q_471 q_472 q_69 q_473) rfl rfl rfl (by decide +kernel) ⟨Nat.le_of_ble_eq_true rfl, Nat.le_of_ble_eq_true rfl⟩) (preV_of (ci := 4) (q := (RX5, TX5, 16)) hK hP hD [3, 4, 5, 6, 7, 8, 9, 10, 11, 12, 13] rfl rfl (by decide) 3 rfl rfl) rfl rfl hl.1 rfl (lv_room (Nat.le_of_ble_eq_true rfl)) dX7_hold_62 ⟨Nat.zero_le _, Nat.zero_le _⟩) hP hD hS hA [3, 4, 5, 6, 7, 8, 9, 10, 11, 12, 13] [.inr 0, .inr 1, .inr 2, .inl 0, .inl 1, .inl 2, .inl 3, .inl 4, .inl 5, .inl 6, .inl 7, .inl 8, .inl 9, .inl 10, .inr 14, .inr 15, .inr 16, .inr 17, .inr 18, .inr 19, .inr 20, .inr 21, .inr 22, .inr 23, .inr 24, .inr 25, .inr 26, .inr 27, .inr 28, .inr 29, .inr 30, .inr 31, .inr 32, .inr 33, .inr 34, .inr 35, .inr 36, .inr 37, .inr 38, .inr 39, .inr 40, .inr 41, .inr 42, .inr 43, .inr 44, .inr 45, .inr 46, .inr 47, .inr 48, .inr 49, .inr 50, .inr 51, .inr 52, .inr 53] rfl (by decide) (fun _ => rfl) (fun _ => rfl) (fun r7 u6 H locs h hP hD hS => ?_)
          refine lv_pop hx hb dX7_hold_65 rfl ?_
          refine lv_iconst (v := 1) hx hb dX7_hold_66 (by decide) ?_
          exact W.zret (ty := .boolean) (v := 1) hx hb hr (narB isB1) (fun t ht hW => ⟨⟨1, (S.1, S.2.1, u6, S.2.2.2.1, S.2.2.2.2.1, S.2.2.2.2.2.1, S.2.2.2.2.2.2.1, S.2.2.2.2.2.2.2.1, S.2.2.2.2.2.2.2.2.1, S.2.2.2.2.2.2.2.2.2.1, S.2.2.2.2.2.2.2.2.2.2.1, S.2.2.2.2.2.2.2.2.2.2.2), rfl, h, by rw [ht]; exact hP, va_K.moved hW.alike hK, hD⟩, hS.F ht⟩) hS.2.2 dX7_hold_67
      · have h := h.2 c3
        refine lv_iconst (v := 0) hx hb dX7_hold_28 (by decide) ?_
        exact W.zret (ty := .boolean) (v := 0) hx hb hr (narB isB0) (fun t ht hW => ⟨⟨0, S, rfl, h, by rw [ht]; exact hP, va_K.moved hW.alike hK, hD⟩, hS.F ht⟩) hS.2.2 dX7_hold_29
/-! X7_pend -/
abbrev rmX7_pend : Room := { frames := 1, cells := 0, slots := 0, locals := 22 }
set_option maxHeartbeats 4000000 in
set_option maxRecDepth 100000 in
theorem c_X7_pend (l : Launch) (D : va_G) (cI cZ : ClassId) (a : Nat → Nat) (sz : Nat) (S : (Nat → Int32) × (Nat → Int32) × Ob × Ob × Ob × Ob × (Nat → Int32) × Ob × Ob × Ob × Ob × Ob) (p0 : Int32) (Q : Int32 → ((Nat → Int32) × (Nat → Int32) × Ob × Ob × Ob × Ob × (Nat → Int32) × Ob × Ob × Ob × Ob × Ob) → Prop) (h : wp_X7_pend S p0 Q) : Met l yX7_pend (wsm yX7_pend cX7_pend 2 (some .boolean)) rmX7_pend (va_Pc [.ref (a 0), .int p0] (preW D cI cZ sz (wX7 cI cZ a S))) (va_Qi Q (fun u => atW D cI cZ (va_A (wX7 cI cZ a S) sz) (wX7 cI cZ a u)) (va_A (wX7 cI cZ a S) sz)) 0 0 (va_A (wX7 cI cZ a S) sz) := by
  refine Met.ofW (cc := cX7_pend) (maxL := 2) (ret := (some .boolean)) (by decide) rfl ?_
  intro p e s m args below meth c s₁ B hml hv
  obtain ⟨rfl, hsz, hP, hK, hD0⟩ := hv
  have hx := B.exec
  have hb := B.bytes
  have hr := B.returns
  have hts0 := atoms_spec (ws := wsm yX7_pend cX7_pend 2 (some .boolean)) B.pre
  have hts : ∀ w ∈ lw_all, w.before _ s = true := fun w h => hts0 w (List.mem_cons_of_mem _ h)
  have hown : s.vm.findClass RX7 = some m.cls := findClass_of_methodNamed B.named
  have hlocks := B.notSynchronized
  subst hsz
  have hD := hD0.self (sz := s.heap.size)
  generalize hAe : va_A (wX7 cI cZ a S) s.heap.size = A at hD ⊢
  have hA : ∀ q : Nat, s.heap.size ≤ q → A q := fun q h => by rw [← hAe]; exact Or.inr h
  have hS : va_S A s.heap s.heap [] := va_S.rf
  have hml2 := hml
  have hl := lv_entry ([.ref (a 0), .int p0]) (n := 2) (Nat.le_of_ble_eq_true rfl)
  rw [lg_entry_eq]
  generalize (lg_sl ([.ref (a 0), .int p0]) ++ List.replicate (2 - (lg_sl ([.ref (a 0), .int p0])).length) Slot.unset).toArray = ls at hl ⊢
  have hl : lv_has ls 2 [(0, .ref (a 0)), (1, .int p0)] := hl
  unfold wp_X7_pend at h
  refine lv_iload_n hx hb dX7_pend_0 rfl (lv_at hl 1 rfl) ?_
  refine lv_bipush (v := 20) hx hb dX7_pend_1 (by decide) ?_
  refine cl_i (ws' := fun u1 => (wX7 cI cZ a S)) (va_runS (As := [.int p0, .int 20]) (rest := []) ⟨hx, hb, hml, hown, hts⟩ (c_X7_isBelow l D cI cZ _ () p0 20 _ h ) (va_cwS 2 hts (gS q_451 q_452 q_67 q_453) rfl rfl rfl (by decide +kernel) ⟨Nat.le_of_ble_eq_true rfl, Nat.le_of_ble_eq_true rfl⟩) (preS_of hK hP hD [] rfl rfl (by decide)) rfl rfl hl.1 rfl (lv_room (Nat.le_of_ble_eq_true rfl)) dX7_pend_3 ⟨Nat.zero_le _, Nat.zero_le _⟩) hP hD hS hA [] [.inr 0, .inr 1, .inr 2, .inr 3, .inr 4, .inr 5, .inr 6, .inr 7, .inr 8, .inr 9, .inr 10, .inr 11, .inr 12, .inr 13, .inr 14, .inr 15, .inr 16, .inr 17, .inr 18, .inr 19, .inr 20, .inr 21, .inr 22, .inr 23, .inr 24, .inr 25, .inr 26, .inr 27, .inr 28, .inr 29, .inr 30, .inr 31, .inr 32, .inr 33, .inr 34, .inr 35, .inr 36, .inr 37, .inr 38, .inr 39, .inr 40, .inr 41, .inr 42, .inr 43, .inr 44, .inr 45, .inr 46, .inr 47, .inr 48, .inr 49, .inr 50, .inr 51, .inr 52, .inr 53] rfl (by decide) (fun _ => rfl) (fun _ => rfl) (fun r2 u1 H locs h hP hD hS => ?_)
  refine lv_if_eq (tgt := 34) hx hb dX7_pend_6 (by decide) (fun c3 => ?_) (fun c3 => ?_)
  · have h := h.1 c3
    refine lv_iconst (v := 0) hx hb dX7_pend_34 (by decide) ?_
    exact W.zret (ty := .boolean) (v := 0) hx hb hr (narB isB0) (fun t ht hW => ⟨⟨0, S, rfl, h, by rw [ht]; exact hP, va_K.moved hW.alike hK, hD⟩, hS.F ht⟩) hS.2.2 dX7_pend_35
  · have h := h.2 c3
    refine lv_aload_n hx hb dX7_pend_9 rfl (lv_at hl 0 rfl) ?_
    refine va_get (D := D) (ci := 6) (v := .ref (a 2)) (C := RX7) (T := TX7) (N := 4) hx hb hts inX7 hown hK hP 0 rfl rfl 1 (by decide) (hts _ q_424) (fun _ h9 => h9) rfl dX7_pend_10 ?_
    refine va_get (D := D) (ci := 3) (v := .ref (a 3)) (C := RX3) (T := TX3) (N := 12) hx hb hts inX3 hown hK hP 2 rfl rfl 0 (by decide) (hts _ q_349) (fun _ h9 => h9) rfl dX7_pend_13 ?_
    refine lv_iload_n hx hb dX7_pend_16 rfl (lv_at hl 1 rfl) ?_
    refine lv_aload_n hx hb dX7_pend_17 rfl (lv_at hl 0 rfl) ?_
    refine va_get (D := D) (ci := 6) (v := .ref (a 2)) (C := RX7) (T := TX7) (N := 4) hx hb hts inX7 hown hK hP 0 rfl rfl 1 (by decide) (hts _ q_424) (fun _ h9 => h9) rfl dX7_pend_18 ?_
    refine va_get (D := D) (ci := 3) (v := .int (S.2.1 4)) (C := RX3) (T := TX3) (N := 12) hx hb hts inX3 hown hK hP 2 rfl rfl 4 (by decide) (hts _ q_357) (fun _ h9 => h9) rfl dX7_pend_21 ?_
    refine cl_i (ws' := fun u4 => (wX7 cI cZ a (S.1, S.2.1, u4, S.2.2.2.1, S.2.2.2.2.1, S.2.2.2.2.2.1, S.2.2.2.2.2.2.1, S.2.2.2.2.2.2.2.1, S.2.2.2.2.2.2.2.2.1, S.2.2.2.2.2.2.2.2.2.1, S.2.2.2.2.2.2.2.2.2.2.1, S.2.2.2.2.2.2.2.2.2.2.2))) (va_runV (As := [.int p0, .int (S.2.1 4)]) (rest := []) ⟨hx, hb, hml, hown, hts⟩ (c_X5_request l D cI cZ (fun k => a (k + 3)) _ S.2.2.1 p0 (S.2.1 4) _ h ) (cwV 2 hts (gV q_470 q_471 q_472 q_69 q_473) rfl rfl rfl (by decide +kernel) ⟨Nat.le_of_ble_eq_true rfl, Nat.le_of_ble_eq_true rfl⟩) (preV_of (ci := 4) (q := (RX5, TX5, 16)) hK hP hD [3, 4, 5, 6, 7, 8, 9, 10, 11, 12, 13] rfl rfl (by decide) 3 rfl rfl) rfl rfl hl.1 rfl (lv_room (Nat.le_of_ble_eq_true rfl)) dX7_pend_24 ⟨Nat.zero_le _, Nat.zero_le _⟩) hP hD hS hA [3, 4, 5, 6, 7, 8, 9, 10, 11, 12, 13] [.inr 0, .inr 1, .inr 2, .inl 0, .inl 1, .inl 2, .inl 3, .inl 4, .inl 5, .inl 6, .inl 7, .inl 8, .inl 9, .inl 10, .inr 14, .inr 15, .inr 16, .inr 17, .inr 18, .inr 19, .inr 20, .inr 21, .inr 22, .inr 23, .inr 24, .inr 25, .inr 26, .inr 27, .inr 28, .inr 29, .inr 30, .inr 31, .inr 32, .inr 33, .inr 34, .inr 35, .inr 36, .inr 37, .inr 38, .inr 39, .inr 40, .inr 41, .inr 42, .inr 43, .inr 44, .inr 45, .inr 46, .inr 47, .inr 48, .inr 49, .inr 50, .inr 51, .inr 52, .inr 53] rfl (by decide) (fun _ => rfl) (fun _ => rfl) (fun r5 u4 H locs h hP hD hS => ?_)
    refine lv_if_eq (tgt := 34) hx hb dX7_pend_27 (by decide) (fun c6 => ?_) (fun c6 => ?_)
    · have h := h.1 c6
      refine lv_iconst (v := 0) hx hb dX7_pend_34 (by decide) ?_
      exact W.zret (ty := .boolean) (v := 0) hx hb hr (narB isB0) (fun t ht hW => ⟨⟨0, (S.1, S.2.1, u4, S.2.2.2.1, S.2.2.2.2.1, S.2.2.2.2.2.1, S.2.2.2.2.2.2.1, S.2.2.2.2.2.2.2.1, S.2.2.2.2.2.2.2.2.1, S.2.2.2.2.2.2.2.2.2.1, S.2.2.2.2.2.2.2.2.2.2.1, S.2.2.2.2.2.2.2.2.2.2.2), rfl, h, by rw [ht]; exact hP, va_K.moved hW.alike hK, hD⟩, hS.F ht⟩) hS.2.2 dX7_pend_35
    · have h := h.2 c6
      refine lv_iconst (v := 1) hx hb dX7_pend_30 (by decide) ?_
      refine lv_goto (tgt := 35) hx hb dX7_pend_31 (by decide) ?_
      exact W.zret (ty := .boolean) (v := 1) hx hb hr (narB isB1) (fun t ht hW => ⟨⟨1, (S.1, S.2.1, u4, S.2.2.2.1, S.2.2.2.2.1, S.2.2.2.2.2.1, S.2.2.2.2.2.2.1, S.2.2.2.2.2.2.2.1, S.2.2.2.2.2.2.2.2.1, S.2.2.2.2.2.2.2.2.2.1, S.2.2.2.2.2.2.2.2.2.2.1, S.2.2.2.2.2.2.2.2.2.2.2), rfl, h, by rw [ht]; exact hP, va_K.moved hW.alike hK, hD⟩, hS.F ht⟩) hS.2.2 dX7_pend_35
/-! X7_clear -/
abbrev rmX7_clear : Room := { frames := 1, cells := 0, slots := 0, locals := 21 }
set_option maxHeartbeats 4000000 in
set_option maxRecDepth 100000 in
theorem c_X7_clear (l : Launch) (D : va_G) (cI cZ : ClassId) (a : Nat → Nat) (sz : Nat) (S : (Nat → Int32) × (Nat → Int32) × Ob × Ob × Ob × Ob × (Nat → Int32) × Ob × Ob × Ob × Ob × Ob) (p0 : Int32) (Q : Int32 → ((Nat → Int32) × (Nat → Int32) × Ob × Ob × Ob × Ob × (Nat → Int32) × Ob × Ob × Ob × Ob × Ob) → Prop) (h : wp_X7_clear S p0 Q) : Met l yX7_clear (wsm yX7_clear cX7_clear 2 (some .boolean)) rmX7_clear (va_Pc [.ref (a 0), .int p0] (preW D cI cZ sz (wX7 cI cZ a S))) (va_Qi Q (fun u => atW D cI cZ (va_A (wX7 cI cZ a S) sz) (wX7 cI cZ a u)) (va_A (wX7 cI cZ a S) sz)) 0 0 (va_A (wX7 cI cZ a S) sz) := by
  refine Met.ofW (cc := cX7_clear) (maxL := 2) (ret := (some .boolean)) (by decide) rfl ?_
  intro p e s m args below meth c s₁ B hml hv
  obtain ⟨rfl, hsz, hP, hK, hD0⟩ := hv
  have hx := B.exec
  have hb := B.bytes
  have hr := B.returns
  have hts0 := atoms_spec (ws := wsm yX7_clear cX7_clear 2 (some .boolean)) B.pre
  have hts : ∀ w ∈ lw_all, w.before _ s = true := fun w h => hts0 w (List.mem_cons_of_mem _ h)
  have hown : s.vm.findClass RX7 = some m.cls := findClass_of_methodNamed B.named
  have hlocks := B.notSynchronized
  subst hsz
  have hD := hD0.self (sz := s.heap.size)
  generalize hAe : va_A (wX7 cI cZ a S) s.heap.size = A at hD ⊢
  have hA : ∀ q : Nat, s.heap.size ≤ q → A q := fun q h => by rw [← hAe]; exact Or.inr h
  have hS : va_S A s.heap s.heap [] := va_S.rf
  have hml2 := hml
  have hl := lv_entry ([.ref (a 0), .int p0]) (n := 2) (Nat.le_of_ble_eq_true rfl)
  rw [lg_entry_eq]
  generalize (lg_sl ([.ref (a 0), .int p0]) ++ List.replicate (2 - (lg_sl ([.ref (a 0), .int p0])).length) Slot.unset).toArray = ls at hl ⊢
  have hl : lv_has ls 2 [(0, .ref (a 0)), (1, .int p0)] := hl
  unfold wp_X7_clear at h
  refine lv_iload_n hx hb dX7_clear_0 rfl (lv_at hl 1 rfl) ?_
  refine lv_bipush (v := 21) hx hb dX7_clear_1 (by decide) ?_
  refine cl_i (ws' := fun u1 => (wX7 cI cZ a S)) (va_runS (As := [.int p0, .int 21]) (rest := []) ⟨hx, hb, hml, hown, hts⟩ (c_X7_isBelow l D cI cZ _ () p0 21 _ h ) (va_cwS 2 hts (gS q_451 q_452 q_67 q_453) rfl rfl rfl (by decide +kernel) ⟨Nat.le_of_ble_eq_true rfl, Nat.le_of_ble_eq_true rfl⟩) (preS_of hK hP hD [] rfl rfl (by decide)) rfl rfl hl.1 rfl (lv_room (Nat.le_of_ble_eq_true rfl)) dX7_clear_3 ⟨Nat.zero_le _, Nat.zero_le _⟩) hP hD hS hA [] [.inr 0, .inr 1, .inr 2, .inr 3, .inr 4, .inr 5, .inr 6, .inr 7, .inr 8, .inr 9, .inr 10, .inr 11, .inr 12, .inr 13, .inr 14, .inr 15, .inr 16, .inr 17, .inr 18, .inr 19, .inr 20, .inr 21, .inr 22, .inr 23, .inr 24, .inr 25, .inr 26, .inr 27, .inr 28, .inr 29, .inr 30, .inr 31, .inr 32, .inr 33, .inr 34, .inr 35, .inr 36, .inr 37, .inr 38, .inr 39, .inr 40, .inr 41, .inr 42, .inr 43, .inr 44, .inr 45, .inr 46, .inr 47, .inr 48, .inr 49, .inr 50, .inr 51, .inr 52, .inr 53] rfl (by decide) (fun _ => rfl) (fun _ => rfl) (fun r2 u1 H locs h hP hD hS => ?_)
  refine lv_if_eq (tgt := 27) hx hb dX7_clear_6 (by decide) (fun c3 => ?_) (fun c3 => ?_)
  · have h := h.1 c3
    refine lv_iconst (v := 0) hx hb dX7_clear_27 (by decide) ?_
    exact W.zret (ty := .boolean) (v := 0) hx hb hr (narB isB0) (fun t ht hW => ⟨⟨0, S, rfl, h, by rw [ht]; exact hP, va_K.moved hW.alike hK, hD⟩, hS.F ht⟩) hS.2.2 dX7_clear_28
  · have h := h.2 c3
    refine lv_aload_n hx hb dX7_clear_9 rfl (lv_at hl 0 rfl) ?_
    refine va_get (D := D) (ci := 6) (v := .ref (a 2)) (C := RX7) (T := TX7) (N := 4) hx hb hts inX7 hown hK hP 0 rfl rfl 1 (by decide) (hts _ q_424) (fun _ h9 => h9) rfl dX7_clear_10 ?_
    refine va_get (D := D) (ci := 3) (v := .ref (a 3)) (C := RX3) (T := TX3) (N := 12) hx hb hts inX3 hown hK hP 2 rfl rfl 0 (by decide) (hts _ q_349) (fun _ h9 => h9) rfl dX7_clear_13 ?_
    refine lv_iload_n hx hb dX7_clear_16 rfl (lv_at hl 1 rfl) ?_
    refine cl_i (ws' := fun u4 => (wX7 cI cZ a (S.1, S.2.1, u4, S.2.2.2.1, S.2.2.2.2.1, S.2.2.2.2.2.1, S.2.2.2.2.2.2.1, S.2.2.2.2.2.2.2.1, S.2.2.2.2.2.2.2.2.1, S.2.2.2.2.2.2.2.2.2.1, S.2.2.2.2.2.2.2.2.2.2.1, S.2.2.2.2.2.2.2.2.2.2.2))) (va_runV (As := [.int p0]) (rest := []) ⟨hx, hb, hml, hown, hts⟩ (c_X5_withdraw l D cI cZ (fun k => a (k + 3)) _ S.2.2.1 p0 _ h ) (cwV 1 hts (gV q_482 q_483 q_484 q_69 q_485) rfl rfl rfl (by decide +kernel) ⟨Nat.le_of_ble_eq_true rfl, Nat.le_of_ble_eq_true rfl⟩) (preV_of (ci := 4) (q := (RX5, TX5, 16)) hK hP hD [3, 4, 5, 6, 7, 8, 9, 10, 11, 12, 13] rfl rfl (by decide) 3 rfl rfl) rfl rfl hl.1 rfl (lv_room (Nat.le_of_ble_eq_true rfl)) dX7_clear_17 ⟨Nat.zero_le _, Nat.zero_le _⟩) hP hD hS hA [3, 4, 5, 6, 7, 8, 9, 10, 11, 12, 13] [.inr 0, .inr 1, .inr 2, .inl 0, .inl 1, .inl 2, .inl 3, .inl 4, .inl 5, .inl 6, .inl 7, .inl 8, .inl 9, .inl 10, .inr 14, .inr 15, .inr 16, .inr 17, .inr 18, .inr 19, .inr 20, .inr 21, .inr 22, .inr 23, .inr 24, .inr 25, .inr 26, .inr 27, .inr 28, .inr 29, .inr 30, .inr 31, .inr 32, .inr 33, .inr 34, .inr 35, .inr 36, .inr 37, .inr 38, .inr 39, .inr 40, .inr 41, .inr 42, .inr 43, .inr 44, .inr 45, .inr 46, .inr 47, .inr 48, .inr 49, .inr 50, .inr 51, .inr 52, .inr 53] rfl (by decide) (fun _ => rfl) (fun _ => rfl) (fun r5 u4 H locs h hP hD hS => ?_)
    refine lv_if_eq (tgt := 27) hx hb dX7_clear_20 (by decide) (fun c6 => ?_) (fun c6 => ?_)
    · have h := h.1 c6
      refine lv_iconst (v := 0) hx hb dX7_clear_27 (by decide) ?_
      exact W.zret (ty := .boolean) (v := 0) hx hb hr (narB isB0) (fun t ht hW => ⟨⟨0, (S.1, S.2.1, u4, S.2.2.2.1, S.2.2.2.2.1, S.2.2.2.2.2.1, S.2.2.2.2.2.2.1, S.2.2.2.2.2.2.2.1, S.2.2.2.2.2.2.2.2.1, S.2.2.2.2.2.2.2.2.2.1, S.2.2.2.2.2.2.2.2.2.2.1, S.2.2.2.2.2.2.2.2.2.2.2), rfl, h, by rw [ht]; exact hP, va_K.moved hW.alike hK, hD⟩, hS.F ht⟩) hS.2.2 dX7_clear_28
    · have h := h.2 c6
      refine lv_iconst (v := 1) hx hb dX7_clear_23 (by decide) ?_
      refine lv_goto (tgt := 28) hx hb dX7_clear_24 (by decide) ?_
      exact W.zret (ty := .boolean) (v := 1) hx hb hr (narB isB1) (fun t ht hW => ⟨⟨1, (S.1, S.2.1, u4, S.2.2.2.1, S.2.2.2.2.1, S.2.2.2.2.2.1, S.2.2.2.2.2.2.1, S.2.2.2.2.2.2.2.1, S.2.2.2.2.2.2.2.2.1, S.2.2.2.2.2.2.2.2.2.1, S.2.2.2.2.2.2.2.2.2.2.1, S.2.2.2.2.2.2.2.2.2.2.2), rfl, h, by rw [ht]; exact hP, va_K.moved hW.alike hK, hD⟩, hS.F ht⟩) hS.2.2 dX7_clear_28
/-! X7_timer -/
abbrev rmX7_timer : Room := { frames := 0, cells := 0, slots := 0, locals := 0 }
set_option maxHeartbeats 4000000 in
set_option maxRecDepth 100000 in
theorem c_X7_timer (l : Launch) (D : va_G) (cI cZ : ClassId) (a : Nat → Nat) (sz : Nat) (S : (Nat → Int32) × (Nat → Int32) × Ob × Ob × Ob × Ob × (Nat → Int32) × Ob × Ob × Ob × Ob × Ob) (p0 : Int32) (Q : Int32 → ((Nat → Int32) × (Nat → Int32) × Ob × Ob × Ob × Ob × (Nat → Int32) × Ob × Ob × Ob × Ob × Ob) → Prop) (h : wp_X7_timer S p0 Q) : Met l yX7_timer (wsm yX7_timer cX7_timer 2 (some .boolean)) rmX7_timer (va_Pc [.ref (a 0), .int p0] (preW D cI cZ sz (wX7 cI cZ a S))) (va_Qi Q (fun u => atW D cI cZ (va_A (wX7 cI cZ a S) sz) (wX7 cI cZ a u)) (va_A (wX7 cI cZ a S) sz)) 0 0 (va_A (wX7 cI cZ a S) sz) := by
  refine Met.ofW (cc := cX7_timer) (maxL := 2) (ret := (some .boolean)) (by decide) rfl ?_
  intro p e s m args below meth c s₁ B hml hv
  obtain ⟨rfl, hsz, hP, hK, hD0⟩ := hv
  have hx := B.exec
  have hb := B.bytes
  have hr := B.returns
  have hts0 := atoms_spec (ws := wsm yX7_timer cX7_timer 2 (some .boolean)) B.pre
  have hts : ∀ w ∈ lw_all, w.before _ s = true := fun w h => hts0 w (List.mem_cons_of_mem _ h)
  have hown : s.vm.findClass RX7 = some m.cls := findClass_of_methodNamed B.named
  have hlocks := B.notSynchronized
  subst hsz
  have hD := hD0.self (sz := s.heap.size)
  generalize hAe : va_A (wX7 cI cZ a S) s.heap.size = A at hD ⊢
  have hA : ∀ q : Nat, s.heap.size ≤ q → A q := fun q h => by rw [← hAe]; exact Or.inr h
  have hS : va_S A s.heap s.heap [] := va_S.rf
  have hml2 := hml
  have hl := lv_entry ([.ref (a 0), .int p0]) (n := 2) (Nat.le_of_ble_eq_true rfl)
  rw [lg_entry_eq]
  generalize (lg_sl ([.ref (a 0), .int p0]) ++ List.replicate (2 - (lg_sl ([.ref (a 0), .int p0])).length) Slot.unset).toArray = ls at hl ⊢
  have hl : lv_has ls 2 [(0, .ref (a 0)), (1, .int p0)] := hl
  unfold wp_X7_timer at h
  refine lv_iload_n hx hb dX7_timer_0 rfl (lv_at hl 1 rfl) ?_
  refine lv_if_lt (tgt := 11) hx hb dX7_timer_1 (by decide) (fun c1 => ?_) (fun c1 => ?_)
  · have h := h.1 c1
    refine lv_iconst (v := 0) hx hb dX7_timer_11 (by decide) ?_
    exact W.zret (ty := .boolean) (v := 0) hx hb hr (narB isB0) (fun t ht hW => ⟨⟨0, S, rfl, h, by rw [ht]; exact hP, va_K.moved hW.alike hK, hD⟩, hS.F ht⟩) hS.2.2 dX7_timer_12
  · have h := h.2 c1
    refine lv_iload_n hx hb dX7_timer_4 rfl (lv_at hl 1 rfl) ?_
    refine lv_sipush (v := 999) hx hb dX7_timer_5 (by decide) ?_
    refine lv_icmp_le (tgt := 13) hx hb dX7_timer_8 (by decide) (fun c2 => ?_) (fun c2 => ?_)
    · have h := h.1 c2
      refine lv_aload_n hx hb dX7_timer_13 rfl (lv_at hl 0 rfl) ?_
      refine va_get (D := D) (ci := 6) (v := .ref (a 2)) (C := RX7) (T := TX7) (N := 4) hx hb hts inX7 hown hK hP 0 rfl rfl 1 (by decide) (hts _ q_424) (fun _ h9 => h9) rfl dX7_timer_14 ?_
      refine va_get (D := D) (ci := 3) (v := .ref (a 14)) (C := RX3) (T := TX3) (N := 12) hx hb hts inX3 hown hK hP 2 rfl rfl 1 (by decide) (hts _ q_351) (fun _ h9 => h9) rfl dX7_timer_17 ?_
      refine lv_iload_n hx hb dX7_timer_20 rfl (lv_at hl 1 rfl) ?_
      obtain ⟨T3, eT3⟩ : ∃ z : Ob, z = (si S.2.2.2.1 3 p0) := ⟨_, rfl⟩
      refine pu_f (ci := 0) (v := .int p0) (ty := .int) (C := RX0) (T := TX0) (N := 5) hx hb hts inX0 tyX0 tyX0_ok nmX0 hown hK hP hD hS 14 rfl rfl 3 (by decide) (hts _ q_193) (fun _ h9 => h9) rfl rfl rfl rfl (Nat.le_of_ble_eq_true rfl) dX7_timer_21 (wX7 cI cZ a (S.1, S.2.1, S.2.2.1, T3, S.2.2.2.2.1, S.2.2.2.2.2.1, S.2.2.2.2.2.2.1, S.2.2.2.2.2.2.2.1, S.2.2.2.2.2.2.2.2.1, S.2.2.2.2.2.2.2.2.2.1, S.2.2.2.2.2.2.2.2.2.2.1, S.2.2.2.2.2.2.2.2.2.2.2)) (by subst eT3; rfl) (fun H locs hP hD hS => ?_)
      have h := h T3 eT3
      refine lv_aload_n hx hb dX7_timer_24 rfl (lv_at hl 0 rfl) ?_
      refine va_get (D := D) (ci := 6) (v := .ref (a 2)) (C := RX7) (T := TX7) (N := 4) hx hb hts inX7 hown hK hP 0 rfl rfl 1 (by decide) (hts _ q_424) (fun _ h9 => h9) rfl dX7_timer_25 ?_
      refine va_get (D := D) (ci := 3) (v := .ref (a 14)) (C := RX3) (T := TX3) (N := 12) hx hb hts inX3 hown hK hP 2 rfl rfl 1 (by decide) (hts _ q_351) (fun _ h9 => h9) rfl dX7_timer_28 ?_
      refine lv_iload_n hx hb dX7_timer_31 rfl (lv_at hl 1 rfl) ?_
      obtain ⟨T4, eT4⟩ : ∃ z : Ob, z = (si T3 4 p0) := ⟨_, rfl⟩
      refine pu_f (ci := 0) (v := .int p0) (ty := .int) (C := RX0) (T := TX0) (N := 5) hx hb hts inX0 tyX0 tyX0_ok nmX0 hown hK hP hD hS 14 rfl rfl 4 (by decide) (hts _ q_195) (fun _ h9 => h9) rfl rfl rfl rfl (Nat.le_of_ble_eq_true rfl) dX7_timer_32 (wX7 cI cZ a (S.1, S.2.1, S.2.2.1, T4, S.2.2.2.2.1, S.2.2.2.2.2.1, S.2.2.2.2.2.2.1, S.2.2.2.2.2.2.2.1, S.2.2.2.2.2.2.2.2.1, S.2.2.2.2.2.2.2.2.2.1, S.2.2.2.2.2.2.2.2.2.2.1, S.2.2.2.2.2.2.2.2.2.2.2)) (by subst eT4; rfl) (fun H locs hP hD hS => ?_)
      have h := h T4 eT4
      refine lv_iconst (v := 1) hx hb dX7_timer_35 (by decide) ?_
      exact W.zret (ty := .boolean) (v := 1) hx hb hr (narB isB1) (fun t ht hW => ⟨⟨1, (S.1, S.2.1, S.2.2.1, T4, S.2.2.2.2.1, S.2.2.2.2.2.1, S.2.2.2.2.2.2.1, S.2.2.2.2.2.2.2.1, S.2.2.2.2.2.2.2.2.1, S.2.2.2.2.2.2.2.2.2.1, S.2.2.2.2.2.2.2.2.2.2.1, S.2.2.2.2.2.2.2.2.2.2.2), rfl, h, by rw [ht]; exact hP, va_K.moved hW.alike hK, hD⟩, hS.F ht⟩) hS.2.2 dX7_timer_36
    · have h := h.2 c2
      refine lv_iconst (v := 0) hx hb dX7_timer_11 (by decide) ?_
      exact W.zret (ty := .boolean) (v := 0) hx hb hr (narB isB0) (fun t ht hW => ⟨⟨0, S, rfl, h, by rw [ht]; exact hP, va_K.moved hW.alike hK, hD⟩, hS.F ht⟩) hS.2.2 dX7_timer_12
/-! X7_arrive -/
abbrev rmX7_arrive : Room := { frames := 1, cells := 0, slots := 0, locals := 22 }
set_option maxHeartbeats 4000000 in
set_option maxRecDepth 100000 in
theorem c_X7_arrive (l : Launch) (D : va_G) (cI cZ : ClassId) (a : Nat → Nat) (sz : Nat) (S : (Nat → Int32) × (Nat → Int32) × Ob × Ob × Ob × Ob × (Nat → Int32) × Ob × Ob × Ob × Ob × Ob) (p0 : Int32) (p1 : Int32) (Q : Int32 → ((Nat → Int32) × (Nat → Int32) × Ob × Ob × Ob × Ob × (Nat → Int32) × Ob × Ob × Ob × Ob × Ob) → Prop) (h : wp_X7_arrive S p0 p1 Q) : Met l yX7_arrive (wsm yX7_arrive cX7_arrive 3 (some .boolean)) rmX7_arrive (va_Pc [.ref (a 0), .int p0, .int p1] (preW D cI cZ sz (wX7 cI cZ a S))) (va_Qi Q (fun u => atW D cI cZ (va_A (wX7 cI cZ a S) sz) (wX7 cI cZ a u)) (va_A (wX7 cI cZ a S) sz)) 0 0 (va_A (wX7 cI cZ a S) sz) := by
  refine Met.ofW (cc := cX7_arrive) (maxL := 3) (ret := (some .boolean)) (by decide) rfl ?_
  intro p e s m args below meth c s₁ B hml hv
  obtain ⟨rfl, hsz, hP, hK, hD0⟩ := hv
  have hx := B.exec
  have hb := B.bytes
  have hr := B.returns
  have hts0 := atoms_spec (ws := wsm yX7_arrive cX7_arrive 3 (some .boolean)) B.pre
  have hts : ∀ w ∈ lw_all, w.before _ s = true := fun w h => hts0 w (List.mem_cons_of_mem _ h)
  have hown : s.vm.findClass RX7 = some m.cls := findClass_of_methodNamed B.named
  have hlocks := B.notSynchronized
  subst hsz
  have hD := hD0.self (sz := s.heap.size)
  generalize hAe : va_A (wX7 cI cZ a S) s.heap.size = A at hD ⊢
  have hA : ∀ q : Nat, s.heap.size ≤ q → A q := fun q h => by rw [← hAe]; exact Or.inr h
  have hS : va_S A s.heap s.heap [] := va_S.rf
  have hml2 := hml
  have hl := lv_entry ([.ref (a 0), .int p0, .int p1]) (n := 3) (Nat.le_of_ble_eq_true rfl)
  rw [lg_entry_eq]
  generalize (lg_sl ([.ref (a 0), .int p0, .int p1]) ++ List.replicate (3 - (lg_sl ([.ref (a 0), .int p0, .int p1])).length) Slot.unset).toArray = ls at hl ⊢
  have hl : lv_has ls 3 [(0, .ref (a 0)), (1, .int p0), (2, .int p1)] := hl
  unfold wp_X7_arrive at h
  refine lv_iload_n hx hb dX7_arrive_0 rfl (lv_at hl 1 rfl) ?_
  refine lv_bipush (v := 18) hx hb dX7_arrive_1 (by decide) ?_
  refine cl_i (ws' := fun u1 => (wX7 cI cZ a S)) (va_runS (As := [.int p0, .int 18]) (rest := []) ⟨hx, hb, hml, hown, hts⟩ (c_X7_isBelow l D cI cZ _ () p0 18 _ h ) (va_cwS 2 hts (gS q_451 q_452 q_67 q_453) rfl rfl rfl (by decide +kernel) ⟨Nat.le_of_ble_eq_true rfl, Nat.le_of_ble_eq_true rfl⟩) (preS_of hK hP hD [] rfl rfl (by decide)) rfl rfl hl.1 rfl (lv_room (Nat.le_of_ble_eq_true rfl)) dX7_arrive_3 ⟨Nat.zero_le _, Nat.zero_le _⟩) hP hD hS hA [] [.inr 0, .inr 1, .inr 2, .inr 3, .inr 4, .inr 5, .inr 6, .inr 7, .inr 8, .inr 9, .inr 10, .inr 11, .inr 12, .inr 13, .inr 14, .inr 15, .inr 16, .inr 17, .inr 18, .inr 19, .inr 20, .inr 21, .inr 22, .inr 23, .inr 24, .inr 25, .inr 26, .inr 27, .inr 28, .inr 29, .inr 30, .inr 31, .inr 32, .inr 33, .inr 34, .inr 35, .inr 36, .inr 37, .inr 38, .inr 39, .inr 40, .inr 41, .inr 42, .inr 43, .inr 44, .inr 45, .inr 46, .inr 47, .inr 48, .inr 49, .inr 50, .inr 51, .inr 52, .inr 53] rfl (by decide) (fun _ => rfl) (fun _ => rfl) (fun r2 u1 H locs h hP hD hS => ?_)
  refine lv_if_eq (tgt := 21) hx hb dX7_arrive_6 (by decide) (fun c3 => ?_) (fun c3 => ?_)
  · have h := h.1 c3
    refine lv_iconst (v := 0) hx hb dX7_arrive_21 (by decide) ?_
    exact W.zret (ty := .boolean) (v := 0) hx hb hr (narB isB0) (fun t ht hW => ⟨⟨0, S, rfl, h, by rw [ht]; exact hP, va_K.moved hW.alike hK, hD⟩, hS.F ht⟩) hS.2.2 dX7_arrive_22
  · have h := h.2 c3
    refine lv_iload_n hx hb dX7_arrive_9 rfl (lv_at hl 2 rfl) ?_
    refine lv_iconst (v := 1) hx hb dX7_arrive_10 (by decide) ?_
    refine lv_icmp_lt (tgt := 21) hx hb dX7_arrive_11 (by decide) (fun c4 => ?_) (fun c4 => ?_)
    · have h := h.1 c4
      refine lv_iconst (v := 0) hx hb dX7_arrive_21 (by decide) ?_
      exact W.zret (ty := .boolean) (v := 0) hx hb hr (narB isB0) (fun t ht hW => ⟨⟨0, S, rfl, h, by rw [ht]; exact hP, va_K.moved hW.alike hK, hD⟩, hS.F ht⟩) hS.2.2 dX7_arrive_22
    · have h := h.2 c4
      refine lv_iload_n hx hb dX7_arrive_14 rfl (lv_at hl 2 rfl) ?_
      refine lv_sipush (v := 999) hx hb dX7_arrive_15 (by decide) ?_
      refine lv_icmp_le (tgt := 23) hx hb dX7_arrive_18 (by decide) (fun c5 => ?_) (fun c5 => ?_)
      · have h := h.1 c5
        refine lv_aload_n hx hb dX7_arrive_23 rfl (lv_at hl 0 rfl) ?_
        refine va_get (D := D) (ci := 6) (v := .ref (a 2)) (C := RX7) (T := TX7) (N := 4) hx hb hts inX7 hown hK hP 0 rfl rfl 1 (by decide) (hts _ q_424) (fun _ h9 => h9) rfl dX7_arrive_24 ?_
        refine va_get (D := D) (ci := 3) (v := .ref (a 14)) (C := RX3) (T := TX3) (N := 12) hx hb hts inX3 hown hK hP 2 rfl rfl 1 (by decide) (hts _ q_351) (fun _ h9 => h9) rfl dX7_arrive_27 ?_
        refine lv_iload_n hx hb dX7_arrive_30 rfl (lv_at hl 1 rfl) ?_
        refine lv_aload_n hx hb dX7_arrive_31 rfl (lv_at hl 0 rfl) ?_
        refine va_get (D := D) (ci := 6) (v := .ref (a 2)) (C := RX7) (T := TX7) (N := 4) hx hb hts inX7 hown hK hP 0 rfl rfl 1 (by decide) (hts _ q_424) (fun _ h9 => h9) rfl dX7_arrive_32 ?_
        refine va_get (D := D) (ci := 3) (v := .int (S.2.1 4)) (C := RX3) (T := TX3) (N := 12) hx hb hts inX3 hown hK hP 2 rfl rfl 4 (by decide) (hts _ q_357) (fun _ h9 => h9) rfl dX7_arrive_35 ?_
        refine lv_iload_n hx hb dX7_arrive_38 rfl (lv_at hl 2 rfl) ?_
        refine lv_iadd hx hb dX7_arrive_39 ?_
        refine cl_i (ws' := fun u6 => (wX7 cI cZ a (S.1, S.2.1, S.2.2.1, u6, S.2.2.2.2.1, S.2.2.2.2.2.1, S.2.2.2.2.2.2.1, S.2.2.2.2.2.2.2.1, S.2.2.2.2.2.2.2.2.1, S.2.2.2.2.2.2.2.2.2.1, S.2.2.2.2.2.2.2.2.2.2.1, S.2.2.2.2.2.2.2.2.2.2.2))) (va_runV (As := [.int p0, .int ((S.2.1 4) + p1)]) (rest := []) ⟨hx, hb, hml, hown, hts⟩ (c_X0_note l D cI cZ (fun k => a (k + 14)) _ S.2.2.2.1 p0 ((S.2.1 4) + p1) _ h ) (cwV 2 hts (gV q_494 q_495 q_496 q_71 q_497) rfl rfl rfl (by decide +kernel) ⟨Nat.le_of_ble_eq_true rfl, Nat.le_of_ble_eq_true rfl⟩) (preV_of (ci := 0) (q := (RX0, TX0, 5)) hK hP hD [14, 15, 16] rfl rfl (by decide) 14 rfl rfl) rfl rfl hl.1 rfl (lv_room (Nat.le_of_ble_eq_true rfl)) dX7_arrive_40 ⟨Nat.zero_le _, Nat.zero_le _⟩) hP hD hS hA [14, 15, 16] [.inr 0, .inr 1, .inr 2, .inr 3, .inr 4, .inr 5, .inr 6, .inr 7, .inr 8, .inr 9, .inr 10, .inr 11, .inr 12, .inr 13, .inl 0, .inl 1, .inl 2, .inr 17, .inr 18, .inr 19, .inr 20, .inr 21, .inr 22, .inr 23, .inr 24, .inr 25, .inr 26, .inr 27, .inr 28, .inr 29, .inr 30, .inr 31, .inr 32, .inr 33, .inr 34, .inr 35, .inr 36, .inr 37, .inr 38, .inr 39, .inr 40, .inr 41, .inr 42, .inr 43, .inr 44, .inr 45, .inr 46, .inr 47, .inr 48, .inr 49, .inr 50, .inr 51, .inr 52, .inr 53] rfl (by decide) (fun _ => rfl) (fun _ => rfl) (fun r7 u6 H locs h hP hD hS => ?_)
        exact W.zret (ty := .boolean) (v := r7) hx hb hr (narB h.1) (fun t ht hW => ⟨⟨r7, (S.1, S.2.1, S.2.2.1, u6, S.2.2.2.2.1, S.2.2.2.2.2.1, S.2.2.2.2.2.2.1, S.2.2.2.2.2.2.2.1, S.2.2.2.2.2.2.2.2.1, S.2.2.2.2.2.2.2.2.2.1, S.2.2.2.2.2.2.2.2.2.2.1, S.2.2.2.2.2.2.2.2.2.2.2), rfl, h.2, by rw [ht]; exact hP, va_K.moved hW.alike hK, hD⟩, hS.F ht⟩) hS.2.2 dX7_arrive_43
      · have h := h.2 c5
        refine lv_iconst (v := 0) hx hb dX7_arrive_21 (by decide) ?_
        exact W.zret (ty := .boolean) (v := 0) hx hb hr (narB isB0) (fun t ht hW => ⟨⟨0, S, rfl, h, by rw [ht]; exact hP, va_K.moved hW.alike hK, hD⟩, hS.F ht⟩) hS.2.2 dX7_arrive_22
/-! X7_run -/
abbrev rmX7_run : Room := { frames := 6, cells := 0, slots := 0, locals := 144 }
set_option maxHeartbeats 4000000 in
set_option maxRecDepth 100000 in
theorem c_X7_run (l : Launch) (D : va_G) (cI cZ : ClassId) (a : Nat → Nat) (sz : Nat) (S : (Nat → Int32) × (Nat → Int32) × Ob × Ob × Ob × Ob × (Nat → Int32) × Ob × Ob × Ob × Ob × Ob) (p0 : Int32) (Q : Int32 → ((Nat → Int32) × (Nat → Int32) × Ob × Ob × Ob × Ob × (Nat → Int32) × Ob × Ob × Ob × Ob × Ob) → Prop) (h : wp_X7_run S p0 Q) : Met l yX7_run (wsm yX7_run cX7_run 3 (some .int)) rmX7_run (va_Pc [.ref (a 0), .int p0] (preT D cI cZ sz (wX7 cI cZ a S))) (va_Qi Q (fun u => atW D cI cZ (va_A (wX7 cI cZ a S) sz) (wX7 cI cZ a u)) (va_A (wX7 cI cZ a S) sz)) 0 0 (va_A (wX7 cI cZ a S) sz) := by
  refine Met.ofW (cc := cX7_run) (maxL := 3) (ret := (some .int)) (by decide) rfl ?_
  intro p e s m args below meth c s₁ B hml hv
  obtain ⟨rfl, ⟨hsz, hP, hK, hD0⟩, hF⟩ := hv
  have hx := B.exec
  have hb := B.bytes
  have hr := B.returns
  have hts0 := atoms_spec (ws := wsm yX7_run cX7_run 3 (some .int)) B.pre
  have hts : ∀ w ∈ lw_all, w.before _ s = true := fun w h => hts0 w (List.mem_cons_of_mem _ h)
  have hown : s.vm.findClass RX7 = some m.cls := findClass_of_methodNamed B.named
  have hlocks := B.notSynchronized
  subst hsz
  have hD := hD0.self (sz := s.heap.size)
  generalize hAe : va_A (wX7 cI cZ a S) s.heap.size = A at hD hF ⊢
  have hA : ∀ q : Nat, s.heap.size ≤ q → A q := fun q h => by rw [← hAe]; exact Or.inr h
  have hS : va_S A s.heap s.heap [] := va_S.rf
  have hml2 := hml
  have L16 : ∀ (n : Nat), ∀ (y1 : Int32) (y2 : Int32) (T : (Nat → Int32) × (Nat → Int32) × Ob × Ob × Ob × Ob × (Nat → Int32) × Ob × Ob × Ob × Ob × Ob) (H : Heap) (locs : List Loc) (ls : Array Slot), va_P D vwCl (wX7 cI cZ a T) H → va_D A (wX7 cI cZ a T) → va_S A s.heap H locs → lv_has ls 3 [(0, .ref (a 0)), (1, .int y1), (2, .int y2)] → wp_X7_run_L16 Q n y1 y2 T → W p l e rmX7_run s m ([.ref (a 0), .int p0] : List Value).toArray below meth c H locs 0 0 (MQ below (va_Qi Q (fun u => atW D cI cZ A (wX7 cI cZ a u)) A) ([.ref (a 0), .int p0] : List Value).toArray s 0 0 A) (F0 m 16 ls []) := by
    intro n
    induction n with
    | zero =>
      intro y1 y2 T H locs ls hP hD hS hl h
      exact False.elim h
    | succ n ih =>
      intro y1 y2 T H locs ls hP hD hS hl h
      unfold wp_X7_run_L16 at h
      refine lv_iload_n hx hb dX7_run_16 rfl (lv_at hl 2 rfl) ?_
      refine lv_iload_n hx hb dX7_run_17 rfl (lv_at hl 1 rfl) ?_
      refine lv_icmp_ge (tgt := 45) hx hb dX7_run_18 (by decide) (fun c3 => ?_) (fun c3 => ?_)
      · have h := h.1 c3
        refine lv_iload_n hx hb dX7_run_45 rfl (lv_at hl 2 rfl) ?_
        exact W.iret (v := y2) hx hb hr (fun t ht hW => ⟨⟨y2, T, rfl, h, by rw [ht]; exact hP, va_K.moved hW.alike hK, hD⟩, hS.F ht⟩) hS.2.2 dX7_run_46
      · have h := h.2 c3
        refine lv_aload_n hx hb dX7_run_21 rfl (lv_at hl 0 rfl) ?_
        refine va_get (D := D) (ci := 6) (v := .ref (a 2)) (C := RX7) (T := TX7) (N := 4) hx hb hts inX7 hown hK hP 0 rfl rfl 1 (by decide) (hts _ q_424) (fun _ h9 => h9) rfl dX7_run_22 ?_
        refine va_get (D := D) (ci := 3) (v := .int (T.2.1 5)) (C := RX3) (T := TX3) (N := 12) hx hb hts inX3 hown hK hP 2 rfl rfl 5 (by decide) (hts _ q_359) (fun _ h9 => h9) rfl dX7_run_25 ?_
        refine lv_iconst (v := 5) hx hb dX7_run_28 (by decide) ?_
        refine lv_icmp_eq (tgt := 45) hx hb dX7_run_29 (by decide) (fun c4 => ?_) (fun c4 => ?_)
        · have h := h.1 c4
          refine lv_iload_n hx hb dX7_run_45 rfl (lv_at hl 2 rfl) ?_
          exact W.iret (v := y2) hx hb hr (fun t ht hW => ⟨⟨y2, T, rfl, h, by rw [ht]; exact hP, va_K.moved hW.alike hK, hD⟩, hS.F ht⟩) hS.2.2 dX7_run_46
        · have h := h.2 c4
          refine lv_aload_n hx hb dX7_run_32 rfl (lv_at hl 0 rfl) ?_
          refine va_get (D := D) (ci := 6) (v := .ref (a 2)) (C := RX7) (T := TX7) (N := 4) hx hb hts inX7 hown hK hP 0 rfl rfl 1 (by decide) (hts _ q_424) (fun _ h9 => h9) rfl dX7_run_33 ?_
          refine cl_v (ws' := fun u5 => (wX7 cI cZ a (u5.2.2.2.2.2, u5.1, u5.2.1, u5.2.2.1, u5.2.2.2.1, u5.2.2.2.2.1, T.2.2.2.2.2.2.1, T.2.2.2.2.2.2.2.1, T.2.2.2.2.2.2.2.2.1, T.2.2.2.2.2.2.2.2.2.1, T.2.2.2.2.2.2.2.2.2.2.1, T.2.2.2.2.2.2.2.2.2.2.2))) (va_runV (As := []) (rest := []) ⟨hx, hb, hml, hown, hts⟩ (c_X3_cycle l D cI cZ (fun k => if k = 23 then a 1 else a (k + 2)) _ (T.2.1, T.2.2.1, T.2.2.2.1, T.2.2.2.2.1, T.2.2.2.2.2.1, T.1) _ h ) (cwV 0 hts (gV q_502 q_503 q_504 q_68 q_505) rfl rfl rfl (by decide +kernel) ⟨Nat.le_of_ble_eq_true rfl, Nat.le_of_ble_eq_true rfl⟩) (preTV_of (ci := 3) (q := (RX3, TX3, 12)) hF hS hA hK hP hD [2, 3, 4, 5, 6, 7, 8, 9, 10, 11, 12, 13, 14, 15, 16, 17, 18, 19, 20, 21, 22, 23, 24, 1] rfl rfl (by decide) 2 rfl rfl) rfl rfl hl.1 rfl (lv_room (Nat.le_of_ble_eq_true rfl)) dX7_run_36 ⟨Nat.zero_le _, Nat.zero_le _⟩) hP hD hS hA [2, 3, 4, 5, 6, 7, 8, 9, 10, 11, 12, 13, 14, 15, 16, 17, 18, 19, 20, 21, 22, 23, 24, 1] [.inr 0, .inl 23, .inl 0, .inl 1, .inl 2, .inl 3, .inl 4, .inl 5, .inl 6, .inl 7, .inl 8, .inl 9, .inl 10, .inl 11, .inl 12, .inl 13, .inl 14, .inl 15, .inl 16, .inl 17, .inl 18, .inl 19, .inl 20, .inl 21, .inl 22, .inr 25, .inr 26, .inr 27, .inr 28, .inr 29, .inr 30, .inr 31, .inr 32, .inr 33, .inr 34, .inr 35, .inr 36, .inr 37, .inr 38, .inr 39, .inr 40, .inr 41, .inr 42, .inr 43, .inr 44, .inr 45, .inr 46, .inr 47, .inr 48, .inr 49, .inr 50, .inr 51, .inr 52, .inr 53] rfl (by decide) (fun _ => rfl) (fun _ => rfl) (fun u5 H locs h hP hD hS => ?_)
          obtain ⟨x6, ex6⟩ : ∃ y : Int32, y = (y2 + 1) := ⟨_, rfl⟩
          have h := h x6 ex6
          refine lv_iinc (v := x6) (lv' := [(2, .int x6), (0, .ref (a 0)), (1, .int y1)]) hx hb dX7_run_39 hl (k := 2) rfl (by rw [ex6]; rfl) (by decide) rfl (fun ls hl => ?_)
          refine lv_goto (tgt := 16) hx hb dX7_run_42 (by decide) ?_
          exact ih y1 x6 (u5.2.2.2.2.2, u5.1, u5.2.1, u5.2.2.1, u5.2.2.2.1, u5.2.2.2.2.1, T.2.2.2.2.2.2.1, T.2.2.2.2.2.2.2.1, T.2.2.2.2.2.2.2.2.1, T.2.2.2.2.2.2.2.2.2.1, T.2.2.2.2.2.2.2.2.2.2.1, T.2.2.2.2.2.2.2.2.2.2.2) _ _ _ hP hD hS (lv_sub hl [1, 2, 0] rfl) h
  have hl := lv_entry ([.ref (a 0), .int p0]) (n := 3) (Nat.le_of_ble_eq_true rfl)
  rw [lg_entry_eq]
  generalize (lg_sl ([.ref (a 0), .int p0]) ++ List.replicate (3 - (lg_sl ([.ref (a 0), .int p0])).length) Slot.unset).toArray = ls at hl ⊢
  have hl : lv_has ls 3 [(0, .ref (a 0)), (1, .int p0)] := hl
  unfold wp_X7_run at h
  refine lv_iload_n hx hb dX7_run_0 rfl (lv_at hl 1 rfl) ?_
  refine lv_iconst (v := 1) hx hb dX7_run_1 (by decide) ?_
  refine lv_icmp_lt (tgt := 12) hx hb dX7_run_2 (by decide) (fun c1 => ?_) (fun c1 => ?_)
  · have h := h.1 c1
    refine lv_iconst (v := -1) hx hb dX7_run_12 (by decide) ?_
    exact W.iret (v := (-1)) hx hb hr (fun t ht hW => ⟨⟨(-1), S, rfl, h, by rw [ht]; exact hP, va_K.moved hW.alike hK, hD⟩, hS.F ht⟩) hS.2.2 dX7_run_13
  · have h := h.2 c1
    refine lv_iload_n hx hb dX7_run_5 rfl (lv_at hl 1 rfl) ?_
    refine lv_sipush (v := 200) hx hb dX7_run_6 (by decide) ?_
    refine lv_icmp_le (tgt := 14) hx hb dX7_run_9 (by decide) (fun c2 => ?_) (fun c2 => ?_)
    · have h := h.1 c2
      refine lv_iconst (v := 0) hx hb dX7_run_14 (by decide) ?_
      refine lv_istore_n (lv' := [(2, .int 0), (0, .ref (a 0)), (1, .int p0)]) hx hb dX7_run_15 rfl hl (by decide) rfl (fun ls hl => ?_)
      exact L16 2000 p0 0 S _ _ _ hP hD hS (lv_sub hl [1, 2, 0] rfl) h
    · have h := h.2 c2
      refine lv_iconst (v := -1) hx hb dX7_run_12 (by decide) ?_
      exact W.iret (v := (-1)) hx hb hr (fun t ht hW => ⟨⟨(-1), S, rfl, h, by rw [ht]; exact hP, va_K.moved hW.alike hK, hD⟩, hS.F ht⟩) hS.2.2 dX7_run_13
/-! X7_till -/
abbrev rmX7_till : Room := { frames := 7, cells := 0, slots := 0, locals := 166 }
set_option maxHeartbeats 4000000 in
set_option maxRecDepth 100000 in
theorem c_X7_till (l : Launch) (D : va_G) (cI cZ : ClassId) (a : Nat → Nat) (sz : Nat) (S : (Nat → Int32) × (Nat → Int32) × Ob × Ob × Ob × Ob × (Nat → Int32) × Ob × Ob × Ob × Ob × Ob) (p0 : Int32) (Q : Int32 → ((Nat → Int32) × (Nat → Int32) × Ob × Ob × Ob × Ob × (Nat → Int32) × Ob × Ob × Ob × Ob × Ob) → Prop) (h : wp_X7_till S p0 Q) : Met l yX7_till (wsm yX7_till cX7_till 2 (some .int)) rmX7_till (va_Pc [.ref (a 0), .int p0] (preT D cI cZ sz (wX7 cI cZ a S))) (va_Qi Q (fun u => atW D cI cZ (va_A (wX7 cI cZ a S) sz) (wX7 cI cZ a u)) (va_A (wX7 cI cZ a S) sz)) 0 0 (va_A (wX7 cI cZ a S) sz) := by
  refine Met.ofW (cc := cX7_till) (maxL := 2) (ret := (some .int)) (by decide) rfl ?_
  intro p e s m args below meth c s₁ B hml hv
  obtain ⟨rfl, ⟨hsz, hP, hK, hD0⟩, hF⟩ := hv
  have hx := B.exec
  have hb := B.bytes
  have hr := B.returns
  have hts0 := atoms_spec (ws := wsm yX7_till cX7_till 2 (some .int)) B.pre
  have hts : ∀ w ∈ lw_all, w.before _ s = true := fun w h => hts0 w (List.mem_cons_of_mem _ h)
  have hown : s.vm.findClass RX7 = some m.cls := findClass_of_methodNamed B.named
  have hlocks := B.notSynchronized
  subst hsz
  have hD := hD0.self (sz := s.heap.size)
  generalize hAe : va_A (wX7 cI cZ a S) s.heap.size = A at hD hF ⊢
  have hA : ∀ q : Nat, s.heap.size ≤ q → A q := fun q h => by rw [← hAe]; exact Or.inr h
  have hS : va_S A s.heap s.heap [] := va_S.rf
  have hml2 := hml
  have hl := lv_entry ([.ref (a 0), .int p0]) (n := 2) (Nat.le_of_ble_eq_true rfl)
  rw [lg_entry_eq]
  generalize (lg_sl ([.ref (a 0), .int p0]) ++ List.replicate (2 - (lg_sl ([.ref (a 0), .int p0])).length) Slot.unset).toArray = ls at hl ⊢
  have hl : lv_has ls 2 [(0, .ref (a 0)), (1, .int p0)] := hl
  unfold wp_X7_till at h
  refine lv_iload_n hx hb dX7_till_0 rfl (lv_at hl 1 rfl) ?_
  refine lv_bipush (v := 21) hx hb dX7_till_1 (by decide) ?_
  refine cl_i (ws' := fun u1 => (wX7 cI cZ a S)) (va_runS (As := [.int p0, .int 21]) (rest := []) ⟨hx, hb, hml, hown, hts⟩ (c_X7_isBelow l D cI cZ _ () p0 21 _ h ) (va_cwS 2 hts (gS q_451 q_452 q_67 q_453) rfl rfl rfl (by decide +kernel) ⟨Nat.le_of_ble_eq_true rfl, Nat.le_of_ble_eq_true rfl⟩) (preS_of hK hP hD [] rfl rfl (by decide)) rfl rfl hl.1 rfl (lv_room (Nat.le_of_ble_eq_true rfl)) dX7_till_3 ⟨Nat.zero_le _, Nat.zero_le _⟩) hP hD hS hA [] [.inr 0, .inr 1, .inr 2, .inr 3, .inr 4, .inr 5, .inr 6, .inr 7, .inr 8, .inr 9, .inr 10, .inr 11, .inr 12, .inr 13, .inr 14, .inr 15, .inr 16, .inr 17, .inr 18, .inr 19, .inr 20, .inr 21, .inr 22, .inr 23, .inr 24, .inr 25, .inr 26, .inr 27, .inr 28, .inr 29, .inr 30, .inr 31, .inr 32, .inr 33, .inr 34, .inr 35, .inr 36, .inr 37, .inr 38, .inr 39, .inr 40, .inr 41, .inr 42, .inr 43, .inr 44, .inr 45, .inr 46, .inr 47, .inr 48, .inr 49, .inr 50, .inr 51, .inr 52, .inr 53] rfl (by decide) (fun _ => rfl) (fun _ => rfl) (fun r2 u1 H locs h hP hD hS => ?_)
  refine lv_if_eq (tgt := 20) hx hb dX7_till_6 (by decide) (fun c3 => ?_) (fun c3 => ?_)
  · have h := h.1 c3
    refine lv_iconst (v := -1) hx hb dX7_till_20 (by decide) ?_
    exact W.iret (v := (-1)) hx hb hr (fun t ht hW => ⟨⟨(-1), S, rfl, h, by rw [ht]; exact hP, va_K.moved hW.alike hK, hD⟩, hS.F ht⟩) hS.2.2 dX7_till_21
  · have h := h.2 c3
    refine lv_aload_n hx hb dX7_till_9 rfl (lv_at hl 0 rfl) ?_
    refine va_get (D := D) (ci := 6) (v := .ref (a 2)) (C := RX7) (T := TX7) (N := 4) hx hb hts inX7 hown hK hP 0 rfl rfl 1 (by decide) (hts _ q_424) (fun _ h9 => h9) rfl dX7_till_10 ?_
    refine lv_iload_n hx hb dX7_till_13 rfl (lv_at hl 1 rfl) ?_
    refine cl_i (ws' := fun u4 => (wX7 cI cZ a (u4.2.2.2.2.2, u4.1, u4.2.1, u4.2.2.1, u4.2.2.2.1, u4.2.2.2.2.1, S.2.2.2.2.2.2.1, S.2.2.2.2.2.2.2.1, S.2.2.2.2.2.2.2.2.1, S.2.2.2.2.2.2.2.2.2.1, S.2.2.2.2.2.2.2.2.2.2.1, S.2.2.2.2.2.2.2.2.2.2.2))) (va_runV (As := [.int p0]) (rest := []) ⟨hx, hb, hml, hown, hts⟩ (c_X3_cyclesTill l D cI cZ (fun k => if k = 23 then a 1 else a (k + 2)) _ (S.2.1, S.2.2.1, S.2.2.2.1, S.2.2.2.2.1, S.2.2.2.2.2.1, S.1) p0 _ h ) (cwV 1 hts (gV q_763 q_764 q_765 q_68 q_766) rfl rfl rfl (by decide +kernel) ⟨Nat.le_of_ble_eq_true rfl, Nat.le_of_ble_eq_true rfl⟩) (preTV_of (ci := 3) (q := (RX3, TX3, 12)) hF hS hA hK hP hD [2, 3, 4, 5, 6, 7, 8, 9, 10, 11, 12, 13, 14, 15, 16, 17, 18, 19, 20, 21, 22, 23, 24, 1] rfl rfl (by decide) 2 rfl rfl) rfl rfl hl.1 rfl (lv_room (Nat.le_of_ble_eq_true rfl)) dX7_till_14 ⟨Nat.zero_le _, Nat.zero_le _⟩) hP hD hS hA [2, 3, 4, 5, 6, 7, 8, 9, 10, 11, 12, 13, 14, 15, 16, 17, 18, 19, 20, 21, 22, 23, 24, 1] [.inr 0, .inl 23, .inl 0, .inl 1, .inl 2, .inl 3, .inl 4, .inl 5, .inl 6, .inl 7, .inl 8, .inl 9, .inl 10, .inl 11, .inl 12, .inl 13, .inl 14, .inl 15, .inl 16, .inl 17, .inl 18, .inl 19, .inl 20, .inl 21, .inl 22, .inr 25, .inr 26, .inr 27, .inr 28, .inr 29, .inr 30, .inr 31, .inr 32, .inr 33, .inr 34, .inr 35, .inr 36, .inr 37, .inr 38, .inr 39, .inr 40, .inr 41, .inr 42, .inr 43, .inr 44, .inr 45, .inr 46, .inr 47, .inr 48, .inr 49, .inr 50, .inr 51, .inr 52, .inr 53] rfl (by decide) (fun _ => rfl) (fun _ => rfl) (fun r5 u4 H locs h hP hD hS => ?_)
    refine lv_goto (tgt := 21) hx hb dX7_till_17 (by decide) ?_
    exact W.iret (v := r5) hx hb hr (fun t ht hW => ⟨⟨r5, (u4.2.2.2.2.2, u4.1, u4.2.1, u4.2.2.1, u4.2.2.2.1, u4.2.2.2.2.1, S.2.2.2.2.2.2.1, S.2.2.2.2.2.2.2.1, S.2.2.2.2.2.2.2.2.1, S.2.2.2.2.2.2.2.2.2.1, S.2.2.2.2.2.2.2.2.2.2.1, S.2.2.2.2.2.2.2.2.2.2.2), rfl, h, by rw [ht]; exact hP, va_K.moved hW.alike hK, hD⟩, hS.F ht⟩) hS.2.2 dX7_till_21
/-! X7_reset -/
abbrev rmX7_reset : Room := { frames := 3, cells := 0, slots := 0, locals := 63 }
set_option maxHeartbeats 4000000 in
set_option maxRecDepth 100000 in
theorem c_X7_reset (l : Launch) (D : va_G) (cI cZ : ClassId) (a : Nat → Nat) (sz : Nat) (S : (Nat → Int32) × (Nat → Int32) × Ob × Ob × Ob × Ob × (Nat → Int32) × Ob × Ob × Ob × Ob × Ob) (Q : Int32 → ((Nat → Int32) × (Nat → Int32) × Ob × Ob × Ob × Ob × (Nat → Int32) × Ob × Ob × Ob × Ob × Ob) → Prop) (h : wp_X7_reset S Q) : Met l yX7_reset (wsm yX7_reset cX7_reset 2 (some .int)) rmX7_reset (va_Pc [.ref (a 0)] (preW D cI cZ sz (wX7 cI cZ a S))) (va_Qi Q (fun u => atW D cI cZ (va_A (wX7 cI cZ a S) sz) (wX7 cI cZ a u)) (va_A (wX7 cI cZ a S) sz)) 0 0 (va_A (wX7 cI cZ a S) sz) := by
  refine Met.ofW (cc := cX7_reset) (maxL := 2) (ret := (some .int)) (by decide) rfl ?_
  intro p e s m args below meth c s₁ B hml hv
  obtain ⟨rfl, hsz, hP, hK, hD0⟩ := hv
  have hx := B.exec
  have hb := B.bytes
  have hr := B.returns
  have hts0 := atoms_spec (ws := wsm yX7_reset cX7_reset 2 (some .int)) B.pre
  have hts : ∀ w ∈ lw_all, w.before _ s = true := fun w h => hts0 w (List.mem_cons_of_mem _ h)
  have hown : s.vm.findClass RX7 = some m.cls := findClass_of_methodNamed B.named
  have hlocks := B.notSynchronized
  subst hsz
  have hD := hD0.self (sz := s.heap.size)
  generalize hAe : va_A (wX7 cI cZ a S) s.heap.size = A at hD ⊢
  have hA : ∀ q : Nat, s.heap.size ≤ q → A q := fun q h => by rw [← hAe]; exact Or.inr h
  have hS : va_S A s.heap s.heap [] := va_S.rf
  have hml2 := hml
  have hl := lv_entry ([.ref (a 0)]) (n := 2) (Nat.le_of_ble_eq_true rfl)
  rw [lg_entry_eq]
  generalize (lg_sl ([.ref (a 0)]) ++ List.replicate (2 - (lg_sl ([.ref (a 0)])).length) Slot.unset).toArray = ls at hl ⊢
  have hl : lv_has ls 2 [(0, .ref (a 0))] := hl
  unfold wp_X7_reset at h
  refine lv_aload_n hx hb dX7_reset_0 rfl (lv_at hl 0 rfl) ?_
  refine va_get (D := D) (ci := 6) (v := .ref (a 2)) (C := RX7) (T := TX7) (N := 4) hx hb hts inX7 hown hK hP 0 rfl rfl 1 (by decide) (hts _ q_424) (fun _ h9 => h9) rfl dX7_reset_1 ?_
  refine va_get (D := D) (ci := 3) (v := .ref (a 3)) (C := RX3) (T := TX3) (N := 12) hx hb hts inX3 hown hK hP 2 rfl rfl 0 (by decide) (hts _ q_349) (fun _ h9 => h9) rfl dX7_reset_4 ?_
  refine va_get (D := D) (ci := 4) (v := .int (S.2.2.1.1 10)) (C := RX5) (T := TX5) (N := 16) hx hb hts inX5 hown hK hP 3 rfl rfl 10 (by decide) (hts _ q_133) (fun _ h9 => h9) rfl dX7_reset_7 ?_
  refine lv_topi (fun x1 ex1 => ?_)
  have h := h x1 ex1
  refine lv_istore_n (lv' := [(1, .int x1), (0, .ref (a 0))]) hx hb dX7_reset_10 rfl hl (by decide) rfl (fun ls hl => ?_)
  refine lv_aload_n hx hb dX7_reset_11 rfl (lv_at hl 1 rfl) ?_
  refine va_get (D := D) (ci := 6) (v := .ref (a 2)) (C := RX7) (T := TX7) (N := 4) hx hb hts inX7 hown hK hP 0 rfl rfl 1 (by decide) (hts _ q_424) (fun _ h9 => h9) rfl dX7_reset_12 ?_
  refine cl_v (ws' := fun u2 => (wX7 cI cZ a (u2.2.2.2.2.2, u2.1, u2.2.1, u2.2.2.1, u2.2.2.2.1, u2.2.2.2.2.1, S.2.2.2.2.2.2.1, S.2.2.2.2.2.2.2.1, S.2.2.2.2.2.2.2.2.1, S.2.2.2.2.2.2.2.2.2.1, S.2.2.2.2.2.2.2.2.2.2.1, S.2.2.2.2.2.2.2.2.2.2.2))) (va_runV (As := []) (rest := []) ⟨hx, hb, hml, hown, hts⟩ (c_X3_restart l D cI cZ (fun k => if k = 23 then a 1 else a (k + 2)) _ (S.2.1, S.2.2.1, S.2.2.2.1, S.2.2.2.2.1, S.2.2.2.2.2.1, S.1) _ h ) (cwV 0 hts (gV q_772 q_773 q_774 q_68 q_775) rfl rfl rfl (by decide +kernel) ⟨Nat.le_of_ble_eq_true rfl, Nat.le_of_ble_eq_true rfl⟩) (preV_of (ci := 3) (q := (RX3, TX3, 12)) hK hP hD [2, 3, 4, 5, 6, 7, 8, 9, 10, 11, 12, 13, 14, 15, 16, 17, 18, 19, 20, 21, 22, 23, 24, 1] rfl rfl (by decide) 2 rfl rfl) rfl rfl hl.1 rfl (lv_room (Nat.le_of_ble_eq_true rfl)) dX7_reset_15 ⟨Nat.zero_le _, Nat.zero_le _⟩) hP hD hS hA [2, 3, 4, 5, 6, 7, 8, 9, 10, 11, 12, 13, 14, 15, 16, 17, 18, 19, 20, 21, 22, 23, 24, 1] [.inr 0, .inl 23, .inl 0, .inl 1, .inl 2, .inl 3, .inl 4, .inl 5, .inl 6, .inl 7, .inl 8, .inl 9, .inl 10, .inl 11, .inl 12, .inl 13, .inl 14, .inl 15, .inl 16, .inl 17, .inl 18, .inl 19, .inl 20, .inl 21, .inl 22, .inr 25, .inr 26, .inr 27, .inr 28, .inr 29, .inr 30, .inr 31, .inr 32, .inr 33, .inr 34, .inr 35, .inr 36, .inr 37, .inr 38, .inr 39, .inr 40, .inr 41, .inr 42, .inr 43, .inr 44, .inr 45, .inr 46, .inr 47, .inr 48, .inr 49, .inr 50, .inr 51, .inr 52, .inr 53] rfl (by decide) (fun _ => rfl) (fun _ => rfl) (fun u2 H locs h hP hD hS => ?_)
  refine lv_iload_n hx hb dX7_reset_18 rfl (lv_at hl 0 rfl) ?_
  exact W.iret (v := x1) hx hb hr (fun t ht hW => ⟨⟨x1, (u2.2.2.2.2.2, u2.1, u2.2.1, u2.2.2.1, u2.2.2.2.1, u2.2.2.2.2.1, S.2.2.2.2.2.2.1, S.2.2.2.2.2.2.2.1, S.2.2.2.2.2.2.2.2.1, S.2.2.2.2.2.2.2.2.2.1, S.2.2.2.2.2.2.2.2.2.2.1, S.2.2.2.2.2.2.2.2.2.2.2), rfl, h, by rw [ht]; exact hP, va_K.moved hW.alike hK, hD⟩, hS.F ht⟩) hS.2.2 dX7_reset_19
/-! X7_source -/
abbrev rmX7_source : Room := { frames := 1, cells := 0, slots := 0, locals := 22 }
set_option maxHeartbeats 4000000 in
set_option maxRecDepth 100000 in
theorem c_X7_source (l : Launch) (D : va_G) (cI cZ : ClassId) (a : Nat → Nat) (sz : Nat) (S : (Nat → Int32) × (Nat → Int32) × Ob × Ob × Ob × Ob × (Nat → Int32) × Ob × Ob × Ob × Ob × Ob) (p0 : Int32) (p1 : Int32) (Q : Int32 → ((Nat → Int32) × (Nat → Int32) × Ob × Ob × Ob × Ob × (Nat → Int32) × Ob × Ob × Ob × Ob × Ob) → Prop) (h : wp_X7_source S p0 p1 Q) : Met l yX7_source (wsm yX7_source cX7_source 4 (some .int)) rmX7_source (va_Pc [.ref (a 0), .int p0, .int p1] (preW D cI cZ sz (wX7 cI cZ a S))) (va_Qi Q (fun u => atW D cI cZ (va_A (wX7 cI cZ a S) sz) (wX7 cI cZ a u)) (va_A (wX7 cI cZ a S) sz)) 0 0 (va_A (wX7 cI cZ a S) sz) := by
  refine Met.ofW (cc := cX7_source) (maxL := 4) (ret := (some .int)) (by decide) rfl ?_
  intro p e s m args below meth c s₁ B hml hv
  obtain ⟨rfl, hsz, hP, hK, hD0⟩ := hv
  have hx := B.exec
  have hb := B.bytes
  have hr := B.returns
  have hts0 := atoms_spec (ws := wsm yX7_source cX7_source 4 (some .int)) B.pre
  have hts : ∀ w ∈ lw_all, w.before _ s = true := fun w h => hts0 w (List.mem_cons_of_mem _ h)
  have hown : s.vm.findClass RX7 = some m.cls := findClass_of_methodNamed B.named
  have hlocks := B.notSynchronized
  subst hsz
  have hD := hD0.self (sz := s.heap.size)
  generalize hAe : va_A (wX7 cI cZ a S) s.heap.size = A at hD ⊢
  have hA : ∀ q : Nat, s.heap.size ≤ q → A q := fun q h => by rw [← hAe]; exact Or.inr h
  have hS : va_S A s.heap s.heap [] := va_S.rf
  have hml2 := hml
  have hl := lv_entry ([.ref (a 0), .int p0, .int p1]) (n := 4) (Nat.le_of_ble_eq_true rfl)
  rw [lg_entry_eq]
  generalize (lg_sl ([.ref (a 0), .int p0, .int p1]) ++ List.replicate (4 - (lg_sl ([.ref (a 0), .int p0, .int p1])).length) Slot.unset).toArray = ls at hl ⊢
  have hl : lv_has ls 4 [(0, .ref (a 0)), (1, .int p0), (2, .int p1)] := hl
  unfold wp_X7_source at h
  refine lv_iload_n hx hb dX7_source_0 rfl (lv_at hl 1 rfl) ?_
  refine lv_bipush (v := 21) hx hb dX7_source_1 (by decide) ?_
  refine cl_i (ws' := fun u1 => (wX7 cI cZ a S)) (va_runS (As := [.int p0, .int 21]) (rest := []) ⟨hx, hb, hml, hown, hts⟩ (c_X7_isBelow l D cI cZ _ () p0 21 _ h ) (va_cwS 2 hts (gS q_451 q_452 q_67 q_453) rfl rfl rfl (by decide +kernel) ⟨Nat.le_of_ble_eq_true rfl, Nat.le_of_ble_eq_true rfl⟩) (preS_of hK hP hD [] rfl rfl (by decide)) rfl rfl hl.1 rfl (lv_room (Nat.le_of_ble_eq_true rfl)) dX7_source_3 ⟨Nat.zero_le _, Nat.zero_le _⟩) hP hD hS hA [] [.inr 0, .inr 1, .inr 2, .inr 3, .inr 4, .inr 5, .inr 6, .inr 7, .inr 8, .inr 9, .inr 10, .inr 11, .inr 12, .inr 13, .inr 14, .inr 15, .inr 16, .inr 17, .inr 18, .inr 19, .inr 20, .inr 21, .inr 22, .inr 23, .inr 24, .inr 25, .inr 26, .inr 27, .inr 28, .inr 29, .inr 30, .inr 31, .inr 32, .inr 33, .inr 34, .inr 35, .inr 36, .inr 37, .inr 38, .inr 39, .inr 40, .inr 41, .inr 42, .inr 43, .inr 44, .inr 45, .inr 46, .inr 47, .inr 48, .inr 49, .inr 50, .inr 51, .inr 52, .inr 53] rfl (by decide) (fun _ => rfl) (fun _ => rfl) (fun r2 u1 H locs h hP hD hS => ?_)
  refine lv_if_ne (tgt := 12) hx hb dX7_source_6 (by decide) (fun c3 => ?_) (fun c3 => ?_)
  · have h := h.1 c3
    refine lv_aload_n hx hb dX7_source_12 rfl (lv_at hl 0 rfl) ?_
    refine va_get (D := D) (ci := 6) (v := .ref (a 2)) (C := RX7) (T := TX7) (N := 4) hx hb hts inX7 hown hK hP 0 rfl rfl 1 (by decide) (hts _ q_424) (fun _ h9 => h9) rfl dX7_source_13 ?_
    refine va_get (D := D) (ci := 3) (v := .ref (a 3)) (C := RX3) (T := TX3) (N := 12) hx hb hts inX3 hown hK hP 2 rfl rfl 0 (by decide) (hts _ q_349) (fun _ h9 => h9) rfl dX7_source_16 ?_
    refine lv_astore_n (lv' := [(3, .ref (a 3)), (0, .ref (a 0)), (1, .int p0), (2, .int p1)]) hx hb dX7_source_19 rfl hl (by decide) rfl (fun ls hl => ?_)
    refine lv_iload_n hx hb dX7_source_20 rfl (lv_at hl 3 rfl) ?_
    by_cases c4_0 : p1 = 0
    · have h := h.1 c4_0
      refine sw_in c4_0 ?_
      refine lv_tableIn (tgt := 68) hx hb dX7_source_21 (by decide) (by decide) rfl (by decide) ?_
      refine lv_aload_n hx hb dX7_source_68 rfl (lv_at hl 0 rfl) ?_
      refine va_get (D := D) (ci := 4) (v := .ref (a 4)) (C := RX5) (T := TX5) (N := 16) hx hb hts inX5 hown hK hP 3 rfl rfl 0 (by decide) (hts _ q_108) (fun _ h9 => h9) rfl dX7_source_69 ?_
      refine lv_iload_n hx hb dX7_source_72 rfl (lv_at hl 2 rfl) ?_
      refine ar_il (f := (S.2.2.1.2 0)) (n := 21) (j := (Int32.toNatClampNeg p0)) hx hb hK hP 4 rfl rfl h.1 dX7_source_73 ?_
      have h := h.2
      exact W.iret (v := ((S.2.2.1.2 0) (Int32.toNatClampNeg p0))) hx hb hr (fun t ht hW => ⟨⟨((S.2.2.1.2 0) (Int32.toNatClampNeg p0)), S, rfl, h, by rw [ht]; exact hP, va_K.moved hW.alike hK, hD⟩, hS.F ht⟩) hS.2.2 dX7_source_74
    have h := h.2
    by_cases c4_1 : p1 = 1
    · have h := h.1 c4_1
      refine sw_in c4_1 ?_
      refine lv_tableIn (tgt := 75) hx hb dX7_source_21 (by decide) (by decide) rfl (by decide) ?_
      refine lv_aload_n hx hb dX7_source_75 rfl (lv_at hl 0 rfl) ?_
      refine va_get (D := D) (ci := 4) (v := .ref (a 5)) (C := RX5) (T := TX5) (N := 16) hx hb hts inX5 hown hK hP 3 rfl rfl 1 (by decide) (hts _ q_111) (fun _ h9 => h9) rfl dX7_source_76 ?_
      refine lv_iload_n hx hb dX7_source_79 rfl (lv_at hl 2 rfl) ?_
      refine ar_il (f := (S.2.2.1.2 1)) (n := 21) (j := (Int32.toNatClampNeg p0)) hx hb hK hP 5 rfl rfl h.1 dX7_source_80 ?_
      have h := h.2
      exact W.iret (v := ((S.2.2.1.2 1) (Int32.toNatClampNeg p0))) hx hb hr (fun t ht hW => ⟨⟨((S.2.2.1.2 1) (Int32.toNatClampNeg p0)), S, rfl, h, by rw [ht]; exact hP, va_K.moved hW.alike hK, hD⟩, hS.F ht⟩) hS.2.2 dX7_source_81
    have h := h.2
    by_cases c4_2 : p1 = 2
    · have h := h.1 c4_2
      refine sw_in c4_2 ?_
      refine lv_tableIn (tgt := 82) hx hb dX7_source_21 (by decide) (by decide) rfl (by decide) ?_
      refine lv_aload_n hx hb dX7_source_82 rfl (lv_at hl 0 rfl) ?_
      refine va_get (D := D) (ci := 4) (v := .ref (a 6)) (C := RX5) (T := TX5) (N := 16) hx hb hts inX5 hown hK hP 3 rfl rfl 2 (by decide) (hts _ q_115) (fun _ h9 => h9) rfl dX7_source_83 ?_
      refine lv_iload_n hx hb dX7_source_86 rfl (lv_at hl 2 rfl) ?_
      refine ar_zl (f := (S.2.2.1.2 2)) (n := 21) (j := (Int32.toNatClampNeg p0)) hx hb hK hP 6 rfl rfl h.1 dX7_source_87 ?_
      have h := h.2
      refine lv_if_eq (tgt := 95) hx hb dX7_source_88 (by decide) (fun c5 => ?_) (fun c5 => ?_)
      · have h := h.1 c5
        refine lv_iconst (v := 0) hx hb dX7_source_95 (by decide) ?_
        exact W.iret (v := 0) hx hb hr (fun t ht hW => ⟨⟨0, S, rfl, h, by rw [ht]; exact hP, va_K.moved hW.alike hK, hD⟩, hS.F ht⟩) hS.2.2 dX7_source_96
      · have h := h.2 c5
        refine lv_iconst (v := 1) hx hb dX7_source_91 (by decide) ?_
        refine lv_goto (tgt := 96) hx hb dX7_source_92 (by decide) ?_
        exact W.iret (v := 1) hx hb hr (fun t ht hW => ⟨⟨1, S, rfl, h, by rw [ht]; exact hP, va_K.moved hW.alike hK, hD⟩, hS.F ht⟩) hS.2.2 dX7_source_96
    have h := h.2
    by_cases c4_3 : p1 = 3
    · have h := h.1 c4_3
      refine sw_in c4_3 ?_
      refine lv_tableIn (tgt := 97) hx hb dX7_source_21 (by decide) (by decide) rfl (by decide) ?_
      refine lv_aload_n hx hb dX7_source_97 rfl (lv_at hl 0 rfl) ?_
      refine va_get (D := D) (ci := 4) (v := .ref (a 7)) (C := RX5) (T := TX5) (N := 16) hx hb hts inX5 hown hK hP 3 rfl rfl 3 (by decide) (hts _ q_118) (fun _ h9 => h9) rfl dX7_source_98 ?_
      refine lv_iload_n hx hb dX7_source_101 rfl (lv_at hl 2 rfl) ?_
      refine ar_zl (f := (S.2.2.1.2 3)) (n := 21) (j := (Int32.toNatClampNeg p0)) hx hb hK hP 7 rfl rfl h.1 dX7_source_102 ?_
      have h := h.2
      refine lv_if_eq (tgt := 110) hx hb dX7_source_103 (by decide) (fun c6 => ?_) (fun c6 => ?_)
      · have h := h.1 c6
        refine lv_iconst (v := 0) hx hb dX7_source_110 (by decide) ?_
        exact W.iret (v := 0) hx hb hr (fun t ht hW => ⟨⟨0, S, rfl, h, by rw [ht]; exact hP, va_K.moved hW.alike hK, hD⟩, hS.F ht⟩) hS.2.2 dX7_source_111
      · have h := h.2 c6
        refine lv_iconst (v := 1) hx hb dX7_source_106 (by decide) ?_
        refine lv_goto (tgt := 111) hx hb dX7_source_107 (by decide) ?_
        exact W.iret (v := 1) hx hb hr (fun t ht hW => ⟨⟨1, S, rfl, h, by rw [ht]; exact hP, va_K.moved hW.alike hK, hD⟩, hS.F ht⟩) hS.2.2 dX7_source_111
    have h := h.2
    by_cases c4_4 : p1 = 4
    · have h := h.1 c4_4
      refine sw_in c4_4 ?_
      refine lv_tableIn (tgt := 112) hx hb dX7_source_21 (by decide) (by decide) rfl (by decide) ?_
      refine lv_aload_n hx hb dX7_source_112 rfl (lv_at hl 0 rfl) ?_
      refine va_get (D := D) (ci := 4) (v := .ref (a 8)) (C := RX5) (T := TX5) (N := 16) hx hb hts inX5 hown hK hP 3 rfl rfl 4 (by decide) (hts _ q_120) (fun _ h9 => h9) rfl dX7_source_113 ?_
      refine lv_iload_n hx hb dX7_source_116 rfl (lv_at hl 2 rfl) ?_
      refine ar_zl (f := (S.2.2.1.2 4)) (n := 21) (j := (Int32.toNatClampNeg p0)) hx hb hK hP 8 rfl rfl h.1 dX7_source_117 ?_
      have h := h.2
      refine lv_if_eq (tgt := 125) hx hb dX7_source_118 (by decide) (fun c7 => ?_) (fun c7 => ?_)
      · have h := h.1 c7
        refine lv_iconst (v := 0) hx hb dX7_source_125 (by decide) ?_
        exact W.iret (v := 0) hx hb hr (fun t ht hW => ⟨⟨0, S, rfl, h, by rw [ht]; exact hP, va_K.moved hW.alike hK, hD⟩, hS.F ht⟩) hS.2.2 dX7_source_126
      · have h := h.2 c7
        refine lv_iconst (v := 1) hx hb dX7_source_121 (by decide) ?_
        refine lv_goto (tgt := 126) hx hb dX7_source_122 (by decide) ?_
        exact W.iret (v := 1) hx hb hr (fun t ht hW => ⟨⟨1, S, rfl, h, by rw [ht]; exact hP, va_K.moved hW.alike hK, hD⟩, hS.F ht⟩) hS.2.2 dX7_source_126
    have h := h.2
    by_cases c4_5 : p1 = 5
    · have h := h.1 c4_5
      refine sw_in c4_5 ?_
      refine lv_tableIn (tgt := 127) hx hb dX7_source_21 (by decide) (by decide) rfl (by decide) ?_
      refine lv_aload_n hx hb dX7_source_127 rfl (lv_at hl 0 rfl) ?_
      refine va_get (D := D) (ci := 4) (v := .ref (a 9)) (C := RX5) (T := TX5) (N := 16) hx hb hts inX5 hown hK hP 3 rfl rfl 5 (by decide) (hts _ q_123) (fun _ h9 => h9) rfl dX7_source_128 ?_
      refine lv_iload_n hx hb dX7_source_131 rfl (lv_at hl 2 rfl) ?_
      refine ar_zl (f := (S.2.2.1.2 5)) (n := 21) (j := (Int32.toNatClampNeg p0)) hx hb hK hP 9 rfl rfl h.1 dX7_source_132 ?_
      have h := h.2
      refine lv_if_eq (tgt := 140) hx hb dX7_source_133 (by decide) (fun c8 => ?_) (fun c8 => ?_)
      · have h := h.1 c8
        refine lv_iconst (v := 0) hx hb dX7_source_140 (by decide) ?_
        exact W.iret (v := 0) hx hb hr (fun t ht hW => ⟨⟨0, S, rfl, h, by rw [ht]; exact hP, va_K.moved hW.alike hK, hD⟩, hS.F ht⟩) hS.2.2 dX7_source_141
      · have h := h.2 c8
        refine lv_iconst (v := 1) hx hb dX7_source_136 (by decide) ?_
        refine lv_goto (tgt := 141) hx hb dX7_source_137 (by decide) ?_
        exact W.iret (v := 1) hx hb hr (fun t ht hW => ⟨⟨1, S, rfl, h, by rw [ht]; exact hP, va_K.moved hW.alike hK, hD⟩, hS.F ht⟩) hS.2.2 dX7_source_141
    have h := h.2
    by_cases c4_6 : p1 = 6
    · have h := h.1 c4_6
      refine sw_in c4_6 ?_
      refine lv_tableIn (tgt := 142) hx hb dX7_source_21 (by decide) (by decide) rfl (by decide) ?_
      refine lv_aload_n hx hb dX7_source_142 rfl (lv_at hl 0 rfl) ?_
      refine lv_iload_n hx hb dX7_source_143 rfl (lv_at hl 2 rfl) ?_
      refine lv_aload_n hx hb dX7_source_144 rfl (lv_at hl 0 rfl) ?_
      refine va_get (D := D) (ci := 4) (v := .int (S.2.2.1.1 12)) (C := RX5) (T := TX5) (N := 16) hx hb hts inX5 hown hK hP 3 rfl rfl 12 (by decide) (hts _ q_137) (fun _ h9 => h9) rfl dX7_source_145 ?_
      refine cl_i (ws' := fun u9 => (wX7 cI cZ a (S.1, S.2.1, u9, S.2.2.2.1, S.2.2.2.2.1, S.2.2.2.2.2.1, S.2.2.2.2.2.2.1, S.2.2.2.2.2.2.2.1, S.2.2.2.2.2.2.2.2.1, S.2.2.2.2.2.2.2.2.2.1, S.2.2.2.2.2.2.2.2.2.2.1, S.2.2.2.2.2.2.2.2.2.2.2))) (va_runV (As := [.int p0, .int (S.2.2.1.1 12)]) (rest := []) ⟨hx, hb, hml, hown, hts⟩ (c_X5_groupBy l D cI cZ (fun k => a (k + 3)) _ S.2.2.1 p0 (S.2.2.1.1 12) _ h ) (cwV 2 hts (gV q_797 q_798 q_799 q_69 q_800) rfl rfl rfl (by decide +kernel) ⟨Nat.le_of_ble_eq_true rfl, Nat.le_of_ble_eq_true rfl⟩) (preV_of (ci := 4) (q := (RX5, TX5, 16)) hK hP hD [3, 4, 5, 6, 7, 8, 9, 10, 11, 12, 13] rfl rfl (by decide) 3 rfl rfl) rfl rfl hl.1 rfl (lv_room (Nat.le_of_ble_eq_true rfl)) dX7_source_148 ⟨Nat.zero_le _, Nat.zero_le _⟩) hP hD hS hA [3, 4, 5, 6, 7, 8, 9, 10, 11, 12, 13] [.inr 0, .inr 1, .inr 2, .inl 0, .inl 1, .inl 2, .inl 3, .inl 4, .inl 5, .inl 6, .inl 7, .inl 8, .inl 9, .inl 10, .inr 14, .inr 15, .inr 16, .inr 17, .inr 18, .inr 19, .inr 20, .inr 21, .inr 22, .inr 23, .inr 24, .inr 25, .inr 26, .inr 27, .inr 28, .inr 29, .inr 30, .inr 31, .inr 32, .inr 33, .inr 34, .inr 35, .inr 36, .inr 37, .inr 38, .inr 39, .inr 40, .inr 41, .inr 42, .inr 43, .inr 44, .inr 45, .inr 46, .inr 47, .inr 48, .inr 49, .inr 50, .inr 51, .inr 52, .inr 53] rfl (by decide) (fun _ => rfl) (fun _ => rfl) (fun r10 u9 H locs h hP hD hS => ?_)
      exact W.iret (v := r10) hx hb hr (fun t ht hW => ⟨⟨r10, (S.1, S.2.1, u9, S.2.2.2.1, S.2.2.2.2.1, S.2.2.2.2.2.1, S.2.2.2.2.2.2.1, S.2.2.2.2.2.2.2.1, S.2.2.2.2.2.2.2.2.1, S.2.2.2.2.2.2.2.2.2.1, S.2.2.2.2.2.2.2.2.2.2.1, S.2.2.2.2.2.2.2.2.2.2.2), rfl, h, by rw [ht]; exact hP, va_K.moved hW.alike hK, hD⟩, hS.F ht⟩) hS.2.2 dX7_source_151
    have h := h.2
    by_cases c4_7 : p1 = 7
    · have h := h.1 c4_7
      refine sw_in c4_7 ?_
      refine lv_tableIn (tgt := 152) hx hb dX7_source_21 (by decide) (by decide) rfl (by decide) ?_
      refine lv_aload_n hx hb dX7_source_152 rfl (lv_at hl 0 rfl) ?_
      refine lv_iload_n hx hb dX7_source_153 rfl (lv_at hl 2 rfl) ?_
      refine cl_i (ws' := fun u11 => (wX7 cI cZ a (S.1, S.2.1, u11, S.2.2.2.1, S.2.2.2.2.1, S.2.2.2.2.2.1, S.2.2.2.2.2.2.1, S.2.2.2.2.2.2.2.1, S.2.2.2.2.2.2.2.2.1, S.2.2.2.2.2.2.2.2.2.1, S.2.2.2.2.2.2.2.2.2.2.1, S.2.2.2.2.2.2.2.2.2.2.2))) (va_runV (As := [.int p0]) (rest := []) ⟨hx, hb, hml, hown, hts⟩ (c_X5_subOf l D cI cZ (fun k => a (k + 3)) _ S.2.2.1 p0 _ h ) (cwV 1 hts (gV q_801 q_802 q_803 q_69 q_804) rfl rfl rfl (by decide +kernel) ⟨Nat.le_of_ble_eq_true rfl, Nat.le_of_ble_eq_true rfl⟩) (preV_of (ci := 4) (q := (RX5, TX5, 16)) hK hP hD [3, 4, 5, 6, 7, 8, 9, 10, 11, 12, 13] rfl rfl (by decide) 3 rfl rfl) rfl rfl hl.1 rfl (lv_room (Nat.le_of_ble_eq_true rfl)) dX7_source_154 ⟨Nat.zero_le _, Nat.zero_le _⟩) hP hD hS hA [3, 4, 5, 6, 7, 8, 9, 10, 11, 12, 13] [.inr 0, .inr 1, .inr 2, .inl 0, .inl 1, .inl 2, .inl 3, .inl 4, .inl 5, .inl 6, .inl 7, .inl 8, .inl 9, .inl 10, .inr 14, .inr 15, .inr 16, .inr 17, .inr 18, .inr 19, .inr 20, .inr 21, .inr 22, .inr 23, .inr 24, .inr 25, .inr 26, .inr 27, .inr 28, .inr 29, .inr 30, .inr 31, .inr 32, .inr 33, .inr 34, .inr 35, .inr 36, .inr 37, .inr 38, .inr 39, .inr 40, .inr 41, .inr 42, .inr 43, .inr 44, .inr 45, .inr 46, .inr 47, .inr 48, .inr 49, .inr 50, .inr 51, .inr 52, .inr 53] rfl (by decide) (fun _ => rfl) (fun _ => rfl) (fun r12 u11 H locs h hP hD hS => ?_)
      exact W.iret (v := r12) hx hb hr (fun t ht hW => ⟨⟨r12, (S.1, S.2.1, u11, S.2.2.2.1, S.2.2.2.2.1, S.2.2.2.2.2.1, S.2.2.2.2.2.2.1, S.2.2.2.2.2.2.2.1, S.2.2.2.2.2.2.2.2.1, S.2.2.2.2.2.2.2.2.2.1, S.2.2.2.2.2.2.2.2.2.2.1, S.2.2.2.2.2.2.2.2.2.2.2), rfl, h, by rw [ht]; exact hP, va_K.moved hW.alike hK, hD⟩, hS.F ht⟩) hS.2.2 dX7_source_157
    have h := h.2
    have h := h c4_0 c4_1 c4_2 c4_3 c4_4 c4_5 c4_6 c4_7
    refine lv_tableOut (tgt := 158) hx hb dX7_source_21 (sw_out (lo := 0) (n := 8) (by decide) (by decide) (fun k hk => ?_)) (by decide) ?_
    · rcases (show k = 0 ∨ k = 1 ∨ k = 2 ∨ k = 3 ∨ k = 4 ∨ k = 5 ∨ k = 6 ∨ k = 7 by omega) with rfl | rfl | rfl | rfl | rfl | rfl | rfl | rfl
      · exact c4_0
      · exact c4_1
      · exact c4_2
      · exact c4_3
      · exact c4_4
      · exact c4_5
      · exact c4_6
      · exact c4_7
    refine lv_bipush (v := -2) hx hb dX7_source_158 (by decide) ?_
    exact W.iret (v := (-2)) hx hb hr (fun t ht hW => ⟨⟨(-2), S, rfl, h, by rw [ht]; exact hP, va_K.moved hW.alike hK, hD⟩, hS.F ht⟩) hS.2.2 dX7_source_160
  · have h := h.2 c3
    refine lv_bipush (v := -2) hx hb dX7_source_9 (by decide) ?_
    exact W.iret (v := (-2)) hx hb hr (fun t ht hW => ⟨⟨(-2), S, rfl, h, by rw [ht]; exact hP, va_K.moved hW.alike hK, hD⟩, hS.F ht⟩) hS.2.2 dX7_source_11
