/-! X8_raises -/
abbrev rmX8_raises : Room := { frames := 4, cells := 0, slots := 0, locals := 91 }
set_option maxHeartbeats 4000000 in
set_option maxRecDepth 100000 in
theorem c_X8_raises (l : Launch) (D : va_G) (cI cZ : ClassId) (a : Nat → Nat) (b : Nat → Nat) (nw : Bool) (sz : Nat) (S : Ob × (Nat → Int32)) (p0 : Int32) (Q : Int32 → (Ob × (Nat → Int32)) → Prop) (h : wp_X8_raises nw S p0 Q) (hb4 : nw = true → b 0 = a 4) : Met l yX8_raises (wsm yX8_raises cX8_raises 4 (some .boolean)) rmX8_raises (va_Pc [.ref (a 0), .ref (b 0), .int p0] (preW D cI cZ sz (wX8s cI cZ a b S))) (va_Qi Q (fun u => atW D cI cZ (va_A (wX8s cI cZ a b S) sz) (wX8s cI cZ a b u)) (va_A (wX8s cI cZ a b S) sz)) 0 0 (va_A (wX8s cI cZ a b S) sz) := by
  refine Met.ofW (cc := cX8_raises) (maxL := 4) (ret := (some .boolean)) (by decide) rfl ?_
  intro p e s m args below meth c s₁ B hml hv
  obtain ⟨rfl, hsz, hP, hK, hD0⟩ := hv
  have hx := B.exec
  have hb := B.bytes
  have hr := B.returns
  have hts0 := atoms_spec (ws := wsm yX8_raises cX8_raises 4 (some .boolean)) B.pre
  have hts : ∀ w ∈ lw_all, w.before _ s = true := fun w h => hts0 w (List.mem_cons_of_mem _ h)
  have hown : s.vm.findClass RX8 = some m.cls := findClass_of_methodNamed B.named
  have hlocks := B.notSynchronized
  subst hsz
  have hD := hD0.self (sz := s.heap.size)
  generalize hAe : va_A (wX8s cI cZ a b S) s.heap.size = A at hD ⊢
  have hA : ∀ q : Nat, s.heap.size ≤ q → A q := fun q h => by rw [← hAe]; exact Or.inr h
  have hS : va_S A s.heap s.heap [] := va_S.rf
  have hml2 := hml
  have L25 : ∀ (y3 : Int32) (T : Ob × (Nat → Int32)) (H : Heap) (locs : List Loc) (ls : Array Slot), va_P D vwCl (wX8s cI cZ a b T) H → va_D A (wX8s cI cZ a b T) → va_S A s.heap H locs → lv_has ls 4 [(0, .ref (a 0)), (1, .ref (b 0)), (3, .int y3)] → wp_X8_raises_L25 nw Q y3 T → W p l e rmX8_raises s m ([.ref (a 0), .ref (b 0), .int p0] : List Value).toArray below meth c H locs 0 0 (MQ below (va_Qi Q (fun u => atW D cI cZ A (wX8s cI cZ a b u)) A) ([.ref (a 0), .ref (b 0), .int p0] : List Value).toArray s 0 0 A) (F0 m 25 ls []) := by
    intro y3 T H locs ls hP hD hS hl h
    unfold wp_X8_raises_L25 at h
    refine lv_iload_n hx hb dX8_raises_25 rfl (lv_at hl 2 rfl) ?_
    refine lv_if_lt (tgt := 38) hx hb dX8_raises_26 (by decide) (fun c6 => ?_) (fun c6 => ?_)
    · have h := h.1 c6
      refine lv_aload_n hx hb dX8_raises_38 rfl (lv_at hl 1 rfl) ?_
      refine lv_bipush (v := 20) hx hb dX8_raises_39 (by decide) ?_
      refine lv_iconst (v := 5) hx hb dX8_raises_41 (by decide) ?_
      obtain ⟨T7, eT7⟩ : ∃ z : (Nat → Int32), z = (upd T.2 20 5) := ⟨_, rfl⟩
      refine ar_is (f := T.2) (n := 342) (j := 20) (x := 5) hx hb hK hP hD hS 11 rfl (by decide) (okLit (by decide)) dX8_raises_42 (wX8s cI cZ a b (T.1, T7)) (by subst eT7; rfl) (fun H locs hP hD hS => ?_)
      have h := h T7 eT7
      refine lv_aload_n hx hb dX8_raises_43 rfl (lv_at hl 1 rfl) ?_
      refine lv_bipush (v := 21) hx hb dX8_raises_44 (by decide) ?_
      refine lv_iconst (v := 0) hx hb dX8_raises_46 (by decide) ?_
      obtain ⟨T8, eT8⟩ : ∃ z : (Nat → Int32), z = (upd T7 21 0) := ⟨_, rfl⟩
      refine ar_is (f := T7) (n := 342) (j := 21) (x := 0) hx hb hK hP hD hS 11 rfl (by decide) (okLit (by decide)) dX8_raises_47 (wX8s cI cZ a b (T.1, T8)) (by subst eT8; rfl) (fun H locs hP hD hS => ?_)
      have h := h T8 eT8
      refine lv_aload_n hx hb dX8_raises_48 rfl (lv_at hl 0 rfl) ?_
      refine lv_iconst (v := 3) hx hb dX8_raises_49 (by decide) ?_
      refine lv_iload_n hx hb dX8_raises_50 rfl (lv_at hl 2 rfl) ?_
      refine lv_aload_n hx hb dX8_raises_51 rfl (lv_at hl 1 rfl) ?_
      refine lv_bipush (v := 12) hx hb dX8_raises_52 (by decide) ?_
      refine ar_il (f := T8) (n := 342) (j := 12) hx hb hK hP 11 rfl (by decide) (okLit (by decide)) dX8_raises_54 ?_
      refine cl_v (ws' := fun u9 => (wX8s cI cZ a b u9)) (va_runV (As := [.int 3, .int y3, .int (T8 12)]) (rest := []) ⟨hx, hb, hml, hown, hts⟩ (c_X8_notes l D cI cZ a b nw _ (T.1, T8) 3 y3 (T8 12) _ h hb4) (cwV 3 hts (gV q_1274 q_1276 q_44 q_75 q_1277) rfl rfl rfl (by decide +kernel) ⟨Nat.le_of_ble_eq_true rfl, Nat.le_of_ble_eq_true rfl⟩) (preV_of (ci := 7) (q := (RX8, TX8, 25)) hK hP hD [0, 1, 2, 3, 4, 5, 6, 7, 8, 9, 10, 11] rfl rfl (by decide) 0 rfl rfl) rfl rfl hl.1 rfl (lv_room (Nat.le_of_ble_eq_true rfl)) dX8_raises_55 ⟨Nat.zero_le _, Nat.zero_le _⟩) hP hD hS hA [0, 1, 2, 3, 4, 5, 6, 7, 8, 9, 10, 11] [.inl 0, .inl 1, .inl 2, .inl 3, .inl 4, .inl 5, .inl 6, .inl 7, .inl 8, .inl 9, .inl 10, .inl 11] rfl (by decide) (fun _ => rfl) (fun _ => rfl) (fun u9 H locs h hP hD hS => ?_)
      refine lv_iload_n hx hb dX8_raises_58 rfl (lv_at hl 2 rfl) ?_
      refine lv_if_ge (tgt := 66) hx hb dX8_raises_59 (by decide) (fun c10 => ?_) (fun c10 => ?_)
      · have h := h.1 c10
        refine lv_iconst (v := 0) hx hb dX8_raises_66 (by decide) ?_
        exact W.zret (ty := .boolean) (v := 0) hx hb hr (narB isB0) (fun t ht hW => ⟨⟨0, u9, rfl, h, by rw [ht]; exact hP, va_K.moved hW.alike hK, hD⟩, hS.F ht⟩) hS.2.2 dX8_raises_67
      · have h := h.2 c10
        refine lv_iconst (v := 1) hx hb dX8_raises_62 (by decide) ?_
        refine lv_goto (tgt := 67) hx hb dX8_raises_63 (by decide) ?_
        exact W.zret (ty := .boolean) (v := 1) hx hb hr (narB isB1) (fun t ht hW => ⟨⟨1, u9, rfl, h, by rw [ht]; exact hP, va_K.moved hW.alike hK, hD⟩, hS.F ht⟩) hS.2.2 dX8_raises_67
    · have h := h.2 c6
      refine lv_aload_n hx hb dX8_raises_29 rfl (lv_at hl 0 rfl) ?_
      refine lv_aload_n hx hb dX8_raises_30 rfl (lv_at hl 1 rfl) ?_
      refine lv_iload_n hx hb dX8_raises_31 rfl (lv_at hl 2 rfl) ?_
      refine cl_v (ws' := fun u11 => (wX8s cI cZ a b u11)) (va_runV (As := [.ref (b 0), .int y3]) (rest := []) ⟨hx, hb, hml, hown, hts⟩ (c_X8_pends l D cI cZ a b nw _ T y3 _ h hb4) (cwV 2 hts (gV q_1189 q_1191 q_30 q_75 q_1192) rfl rfl rfl (by decide +kernel) ⟨Nat.le_of_ble_eq_true rfl, Nat.le_of_ble_eq_true rfl⟩) (preV_of (ci := 7) (q := (RX8, TX8, 25)) hK hP hD [0, 1, 2, 3, 4, 5, 6, 7, 8, 9, 10, 11] rfl rfl (by decide) 0 rfl rfl) rfl rfl hl.1 rfl (lv_room (Nat.le_of_ble_eq_true rfl)) dX8_raises_32 ⟨Nat.zero_le _, Nat.zero_le _⟩) hP hD hS hA [0, 1, 2, 3, 4, 5, 6, 7, 8, 9, 10, 11] [.inl 0, .inl 1, .inl 2, .inl 3, .inl 4, .inl 5, .inl 6, .inl 7, .inl 8, .inl 9, .inl 10, .inl 11] rfl (by decide) (fun _ => rfl) (fun _ => rfl) (fun u11 H locs h hP hD hS => ?_)
      refine lv_goto (tgt := 48) hx hb dX8_raises_35 (by decide) ?_
      refine lv_aload_n hx hb dX8_raises_48 rfl (lv_at hl 0 rfl) ?_
      refine lv_iconst (v := 3) hx hb dX8_raises_49 (by decide) ?_
      refine lv_iload_n hx hb dX8_raises_50 rfl (lv_at hl 2 rfl) ?_
      refine lv_aload_n hx hb dX8_raises_51 rfl (lv_at hl 1 rfl) ?_
      refine lv_bipush (v := 12) hx hb dX8_raises_52 (by decide) ?_
      refine ar_il (f := u11.2) (n := 342) (j := 12) hx hb hK hP 11 rfl (by decide) (okLit (by decide)) dX8_raises_54 ?_
      refine cl_v (ws' := fun u12 => (wX8s cI cZ a b u12)) (va_runV (As := [.int 3, .int y3, .int (u11.2 12)]) (rest := []) ⟨hx, hb, hml, hown, hts⟩ (c_X8_notes l D cI cZ a b nw _ u11 3 y3 (u11.2 12) _ h hb4) (cwV 3 hts (gV q_1274 q_1276 q_44 q_75 q_1277) rfl rfl rfl (by decide +kernel) ⟨Nat.le_of_ble_eq_true rfl, Nat.le_of_ble_eq_true rfl⟩) (preV_of (ci := 7) (q := (RX8, TX8, 25)) hK hP hD [0, 1, 2, 3, 4, 5, 6, 7, 8, 9, 10, 11] rfl rfl (by decide) 0 rfl rfl) rfl rfl hl.1 rfl (lv_room (Nat.le_of_ble_eq_true rfl)) dX8_raises_55 ⟨Nat.zero_le _, Nat.zero_le _⟩) hP hD hS hA [0, 1, 2, 3, 4, 5, 6, 7, 8, 9, 10, 11] [.inl 0, .inl 1, .inl 2, .inl 3, .inl 4, .inl 5, .inl 6, .inl 7, .inl 8, .inl 9, .inl 10, .inl 11] rfl (by decide) (fun _ => rfl) (fun _ => rfl) (fun u12 H locs h hP hD hS => ?_)
      refine lv_iload_n hx hb dX8_raises_58 rfl (lv_at hl 2 rfl) ?_
      refine lv_if_ge (tgt := 66) hx hb dX8_raises_59 (by decide) (fun c13 => ?_) (fun c13 => ?_)
      · have h := h.1 c13
        refine lv_iconst (v := 0) hx hb dX8_raises_66 (by decide) ?_
        exact W.zret (ty := .boolean) (v := 0) hx hb hr (narB isB0) (fun t ht hW => ⟨⟨0, u12, rfl, h, by rw [ht]; exact hP, va_K.moved hW.alike hK, hD⟩, hS.F ht⟩) hS.2.2 dX8_raises_67
      · have h := h.2 c13
        refine lv_iconst (v := 1) hx hb dX8_raises_62 (by decide) ?_
        refine lv_goto (tgt := 67) hx hb dX8_raises_63 (by decide) ?_
        exact W.zret (ty := .boolean) (v := 1) hx hb hr (narB isB1) (fun t ht hW => ⟨⟨1, u12, rfl, h, by rw [ht]; exact hP, va_K.moved hW.alike hK, hD⟩, hS.F ht⟩) hS.2.2 dX8_raises_67
  have hl := lv_entry ([.ref (a 0), .ref (b 0), .int p0]) (n := 4) (Nat.le_of_ble_eq_true rfl)
  rw [lg_entry_eq]
  generalize (lg_sl ([.ref (a 0), .ref (b 0), .int p0]) ++ List.replicate (4 - (lg_sl ([.ref (a 0), .ref (b 0), .int p0])).length) Slot.unset).toArray = ls at hl ⊢
  have hl : lv_has ls 4 [(0, .ref (a 0)), (1, .ref (b 0)), (2, .int p0)] := hl
  unfold wp_X8_raises at h
  refine lv_aload_n hx hb dX8_raises_0 rfl (lv_at hl 0 rfl) ?_
  refine lv_aload_n hx hb dX8_raises_1 rfl (lv_at hl 1 rfl) ?_
  refine lv_iload_n hx hb dX8_raises_2 rfl (lv_at hl 2 rfl) ?_
  refine cl_i (ws' := fun u1 => (wX8s cI cZ a b u1)) (va_runV (As := [.ref (b 0), .int p0]) (rest := []) ⟨hx, hb, hml, hown, hts⟩ (c_X8_targetOf l D cI cZ a b nw _ S p0 _ h hb4) (cwV 2 hts (gV q_1266 q_1268 q_42 q_75 q_1269) rfl rfl rfl (by decide +kernel) ⟨Nat.le_of_ble_eq_true rfl, Nat.le_of_ble_eq_true rfl⟩) (preV_of (ci := 7) (q := (RX8, TX8, 25)) hK hP hD [0, 1, 2, 3, 4, 5, 6, 7, 8, 9, 10, 11] rfl rfl (by decide) 0 rfl rfl) rfl rfl hl.1 rfl (lv_room (Nat.le_of_ble_eq_true rfl)) dX8_raises_3 ⟨Nat.zero_le _, Nat.zero_le _⟩) hP hD hS hA [0, 1, 2, 3, 4, 5, 6, 7, 8, 9, 10, 11] [.inl 0, .inl 1, .inl 2, .inl 3, .inl 4, .inl 5, .inl 6, .inl 7, .inl 8, .inl 9, .inl 10, .inl 11] rfl (by decide) (fun _ => rfl) (fun _ => rfl) (fun r2 u1 H locs h hP hD hS => ?_)
  refine lv_istore_n (lv' := [(3, .int r2), (0, .ref (a 0)), (1, .ref (b 0)), (2, .int p0)]) hx hb dX8_raises_6 rfl hl (by decide) rfl (fun ls hl => ?_)
  refine lv_aload_n hx hb dX8_raises_7 rfl (lv_at hl 1 rfl) ?_
  refine lv_bipush (v := 7) hx hb dX8_raises_8 (by decide) ?_
  refine cl_v (ws' := fun u3 => (wX8s cI cZ a b u3)) (va_runV (As := [.int 7]) (rest := []) ⟨hx, hb, hml, hown, hts⟩ (c_X8_counts l D cI cZ a b nw _ u1 7 _ h hb4) (cwV 1 hts (gV q_1193 q_1195 q_31 q_75 q_1196) rfl rfl rfl (by decide +kernel) ⟨Nat.le_of_ble_eq_true rfl, Nat.le_of_ble_eq_true rfl⟩) (preV_of (ci := 7) (q := (RX8, TX8, 25)) hK hP hD [0, 1, 2, 3, 4, 5, 6, 7, 8, 9, 10, 11] rfl rfl (by decide) 0 rfl rfl) rfl rfl hl.1 rfl (lv_room (Nat.le_of_ble_eq_true rfl)) dX8_raises_10 ⟨Nat.zero_le _, Nat.zero_le _⟩) hP hD hS hA [0, 1, 2, 3, 4, 5, 6, 7, 8, 9, 10, 11] [.inl 0, .inl 1, .inl 2, .inl 3, .inl 4, .inl 5, .inl 6, .inl 7, .inl 8, .inl 9, .inl 10, .inl 11] rfl (by decide) (fun _ => rfl) (fun _ => rfl) (fun u3 H locs h hP hD hS => ?_)
  refine lv_iload_n hx hb dX8_raises_13 rfl (lv_at hl 0 rfl) ?_
  refine lv_bipush (v := 20) hx hb dX8_raises_14 (by decide) ?_
  refine lv_icmp_ne (tgt := 25) hx hb dX8_raises_16 (by decide) (fun c4 => ?_) (fun c4 => ?_)
  · have h := h.1 c4
    exact L25 r2 u3 _ _ _ hP hD hS (lv_sub hl [1, 2, 0] rfl) h
  · have h := h.2 c4
    refine lv_aload_n hx hb dX8_raises_19 rfl (lv_at hl 1 rfl) ?_
    refine lv_bipush (v := 8) hx hb dX8_raises_20 (by decide) ?_
    refine cl_v (ws' := fun u5 => (wX8s cI cZ a b u5)) (va_runV (As := [.int 8]) (rest := []) ⟨hx, hb, hml, hown, hts⟩ (c_X8_counts l D cI cZ a b nw _ u3 8 _ h hb4) (cwV 1 hts (gV q_1193 q_1195 q_31 q_75 q_1196) rfl rfl rfl (by decide +kernel) ⟨Nat.le_of_ble_eq_true rfl, Nat.le_of_ble_eq_true rfl⟩) (preV_of (ci := 7) (q := (RX8, TX8, 25)) hK hP hD [0, 1, 2, 3, 4, 5, 6, 7, 8, 9, 10, 11] rfl rfl (by decide) 0 rfl rfl) rfl rfl hl.1 rfl (lv_room (Nat.le_of_ble_eq_true rfl)) dX8_raises_22 ⟨Nat.zero_le _, Nat.zero_le _⟩) hP hD hS hA [0, 1, 2, 3, 4, 5, 6, 7, 8, 9, 10, 11] [.inl 0, .inl 1, .inl 2, .inl 3, .inl 4, .inl 5, .inl 6, .inl 7, .inl 8, .inl 9, .inl 10, .inl 11] rfl (by decide) (fun _ => rfl) (fun _ => rfl) (fun u5 H locs h hP hD hS => ?_)
    exact L25 r2 u5 _ _ _ hP hD hS (lv_sub hl [1, 2, 0] rfl) h
/-! X8_turns -/
abbrev rmX8_turns : Room := { frames := 0, cells := 0, slots := 0, locals := 0 }
set_option maxHeartbeats 4000000 in
set_option maxRecDepth 100000 in
theorem c_X8_turns (l : Launch) (D : va_G) (cI cZ : ClassId) (a : Nat → Nat) (b : Nat → Nat) (nw : Bool) (sz : Nat) (S : Ob × (Nat → Int32)) (p0 : Int32) (p1 : Int32) (Q : (Ob × (Nat → Int32)) → Prop) (h : wp_X8_turns nw S p0 p1 Q) (hb4 : nw = true → b 0 = a 4) : Met l yX8_turns (wsm yX8_turns cX8_turns 4 none) rmX8_turns (va_Pc [.ref (a 0), .ref (b 0), .int p0, .int p1] (preW D cI cZ sz (wX8s cI cZ a b S))) (va_Qv Q (fun u => atW D cI cZ (va_A (wX8s cI cZ a b S) sz) (wX8s cI cZ a b u)) (va_A (wX8s cI cZ a b S) sz)) 0 0 (va_A (wX8s cI cZ a b S) sz) := by
  refine Met.ofW (cc := cX8_turns) (maxL := 4) (ret := none) (by decide) rfl ?_
  intro p e s m args below meth c s₁ B hml hv
  obtain ⟨rfl, hsz, hP, hK, hD0⟩ := hv
  have hx := B.exec
  have hb := B.bytes
  have hr := B.returns
  have hts0 := atoms_spec (ws := wsm yX8_turns cX8_turns 4 none) B.pre
  have hts : ∀ w ∈ lw_all, w.before _ s = true := fun w h => hts0 w (List.mem_cons_of_mem _ h)
  have hown : s.vm.findClass RX8 = some m.cls := findClass_of_methodNamed B.named
  have hlocks := B.notSynchronized
  subst hsz
  have hD := hD0.self (sz := s.heap.size)
  generalize hAe : va_A (wX8s cI cZ a b S) s.heap.size = A at hD ⊢
  have hA : ∀ q : Nat, s.heap.size ≤ q → A q := fun q h => by rw [← hAe]; exact Or.inr h
  have hS : va_S A s.heap s.heap [] := va_S.rf
  have hml2 := hml
  have hl := lv_entry ([.ref (a 0), .ref (b 0), .int p0, .int p1]) (n := 4) (Nat.le_of_ble_eq_true rfl)
  rw [lg_entry_eq]
  generalize (lg_sl ([.ref (a 0), .ref (b 0), .int p0, .int p1]) ++ List.replicate (4 - (lg_sl ([.ref (a 0), .ref (b 0), .int p0, .int p1])).length) Slot.unset).toArray = ls at hl ⊢
  have hl : lv_has ls 4 [(0, .ref (a 0)), (1, .ref (b 0)), (2, .int p0), (3, .int p1)] := hl
  unfold wp_X8_turns at h
  refine lv_aload_n hx hb dX8_turns_0 rfl (lv_at hl 1 rfl) ?_
  refine lv_bipush (v := 20) hx hb dX8_turns_1 (by decide) ?_
  refine lv_iload_n hx hb dX8_turns_3 rfl (lv_at hl 2 rfl) ?_
  obtain ⟨T1, eT1⟩ : ∃ z : (Nat → Int32), z = (upd S.2 20 p0) := ⟨_, rfl⟩
  refine ar_is (f := S.2) (n := 342) (j := 20) (x := p0) hx hb hK hP hD hS 11 rfl (by decide) (okLit (by decide)) dX8_turns_4 (wX8s cI cZ a b (S.1, T1)) (by subst eT1; rfl) (fun H locs hP hD hS => ?_)
  have h := h T1 eT1
  refine lv_aload_n hx hb dX8_turns_5 rfl (lv_at hl 1 rfl) ?_
  refine lv_bipush (v := 21) hx hb dX8_turns_6 (by decide) ?_
  refine lv_iload_n hx hb dX8_turns_8 rfl (lv_at hl 3 rfl) ?_
  obtain ⟨T2, eT2⟩ : ∃ z : (Nat → Int32), z = (upd T1 21 p1) := ⟨_, rfl⟩
  refine ar_is (f := T1) (n := 342) (j := 21) (x := p1) hx hb hK hP hD hS 11 rfl (by decide) (okLit (by decide)) dX8_turns_9 (wX8s cI cZ a b (S.1, T2)) (by subst eT2; rfl) (fun H locs hP hD hS => ?_)
  have h := h T2 eT2
  exact W.vret hx hb hr (fun t ht hW => ⟨⟨(S.1, T2), rfl, h, by rw [ht]; exact hP, va_K.moved hW.alike hK, hD⟩, hS.F ht⟩) hS.2.2 dX8_turns_10
/-! X8_hasRoom -/
abbrev rmX8_hasRoom : Room := { frames := 5, cells := 0, slots := 0, locals := 114 }
set_option maxHeartbeats 4000000 in
set_option maxRecDepth 100000 in
theorem c_X8_hasRoom (l : Launch) (D : va_G) (cI cZ : ClassId) (a : Nat → Nat) (b : Nat → Nat) (nw : Bool) (sz : Nat) (S : Ob × (Nat → Int32)) (p0 : Int32) (Q : Int32 → (Ob × (Nat → Int32)) → Prop) (h : wp_X8_hasRoom nw S p0 Q) (hb4 : nw = true → b 0 = a 4) : Met l yX8_hasRoom (wsm yX8_hasRoom cX8_hasRoom 3 (some .boolean)) rmX8_hasRoom (va_Pc [.ref (a 0), .ref (b 0), .int p0] (preW D cI cZ sz (wX8s cI cZ a b S))) (va_Qi Q (fun u => atW D cI cZ (va_A (wX8s cI cZ a b S) sz) (wX8s cI cZ a b u)) (va_A (wX8s cI cZ a b S) sz)) 0 0 (va_A (wX8s cI cZ a b S) sz) := by
  refine Met.ofW (cc := cX8_hasRoom) (maxL := 3) (ret := (some .boolean)) (by decide) rfl ?_
  intro p e s m args below meth c s₁ B hml hv
  obtain ⟨rfl, hsz, hP, hK, hD0⟩ := hv
  have hx := B.exec
  have hb := B.bytes
  have hr := B.returns
  have hts0 := atoms_spec (ws := wsm yX8_hasRoom cX8_hasRoom 3 (some .boolean)) B.pre
  have hts : ∀ w ∈ lw_all, w.before _ s = true := fun w h => hts0 w (List.mem_cons_of_mem _ h)
  have hown : s.vm.findClass RX8 = some m.cls := findClass_of_methodNamed B.named
  have hlocks := B.notSynchronized
  subst hsz
  have hD := hD0.self (sz := s.heap.size)
  generalize hAe : va_A (wX8s cI cZ a b S) s.heap.size = A at hD ⊢
  have hA : ∀ q : Nat, s.heap.size ≤ q → A q := fun q h => by rw [← hAe]; exact Or.inr h
  have hS : va_S A s.heap s.heap [] := va_S.rf
  have hml2 := hml
  have hl := lv_entry ([.ref (a 0), .ref (b 0), .int p0]) (n := 3) (Nat.le_of_ble_eq_true rfl)
  rw [lg_entry_eq]
  generalize (lg_sl ([.ref (a 0), .ref (b 0), .int p0]) ++ List.replicate (3 - (lg_sl ([.ref (a 0), .ref (b 0), .int p0])).length) Slot.unset).toArray = ls at hl ⊢
  have hl : lv_has ls 3 [(0, .ref (a 0)), (1, .ref (b 0)), (2, .int p0)] := hl
  unfold wp_X8_hasRoom at h
  refine lv_aload_n hx hb dX8_hasRoom_0 rfl (lv_at hl 1 rfl) ?_
  refine lv_bipush (v := 28) hx hb dX8_hasRoom_1 (by decide) ?_
  refine ar_il (f := S.2) (n := 342) (j := 28) hx hb hK hP 11 rfl (by decide) (okLit (by decide)) dX8_hasRoom_3 ?_
  refine lv_iconst (v := 1) hx hb dX8_hasRoom_4 (by decide) ?_
  refine lv_icmp_ne (tgt := 10) hx hb dX8_hasRoom_5 (by decide) (fun c1 => ?_) (fun c1 => ?_)
  · have h := h.1 c1
    refine lv_aload_n hx hb dX8_hasRoom_10 rfl (lv_at hl 1 rfl) ?_
    refine lv_bipush (v := 15) hx hb dX8_hasRoom_11 (by decide) ?_
    refine ar_il (f := S.2) (n := 342) (j := 15) hx hb hK hP 11 rfl (by decide) (okLit (by decide)) dX8_hasRoom_13 ?_
    refine lv_iload_n hx hb dX8_hasRoom_14 rfl (lv_at hl 2 rfl) ?_
    refine lv_iadd hx hb dX8_hasRoom_15 ?_
    refine lv_bipush (v := 96) hx hb dX8_hasRoom_16 (by decide) ?_
    refine lv_icmp_gt (tgt := 23) hx hb dX8_hasRoom_18 (by decide) (fun c2 => ?_) (fun c2 => ?_)
    · have h := h.1 c2
      refine lv_aload_n hx hb dX8_hasRoom_23 rfl (lv_at hl 1 rfl) ?_
      refine lv_bipush (v := 28) hx hb dX8_hasRoom_24 (by decide) ?_
      refine lv_iconst (v := 1) hx hb dX8_hasRoom_26 (by decide) ?_
      obtain ⟨T3, eT3⟩ : ∃ z : (Nat → Int32), z = (upd S.2 28 1) := ⟨_, rfl⟩
      refine ar_is (f := S.2) (n := 342) (j := 28) (x := 1) hx hb hK hP hD hS 11 rfl (by decide) (okLit (by decide)) dX8_hasRoom_27 (wX8s cI cZ a b (S.1, T3)) (by subst eT3; rfl) (fun H locs hP hD hS => ?_)
      have h := h T3 eT3
      refine lv_aload_n hx hb dX8_hasRoom_28 rfl (lv_at hl 0 rfl) ?_
      refine lv_aload_n hx hb dX8_hasRoom_29 rfl (lv_at hl 1 rfl) ?_
      refine lv_bipush (v := 19) hx hb dX8_hasRoom_30 (by decide) ?_
      refine cl_i (ws' := fun u4 => (wX8s cI cZ a b u4)) (va_runV (As := [.ref (b 0), .int 19]) (rest := []) ⟨hx, hb, hml, hown, hts⟩ (c_X8_raises l D cI cZ a b nw _ (S.1, T3) 19 _ h hb4) (cwV 2 hts (gV q_1262 q_1264 q_41 q_75 q_1265) rfl rfl rfl (by decide +kernel) ⟨Nat.le_of_ble_eq_true rfl, Nat.le_of_ble_eq_true rfl⟩) (preV_of (ci := 7) (q := (RX8, TX8, 25)) hK hP hD [0, 1, 2, 3, 4, 5, 6, 7, 8, 9, 10, 11] rfl rfl (by decide) 0 rfl rfl) rfl rfl hl.1 rfl (lv_room (Nat.le_of_ble_eq_true rfl)) dX8_hasRoom_32 ⟨Nat.zero_le _, Nat.zero_le _⟩) hP hD hS hA [0, 1, 2, 3, 4, 5, 6, 7, 8, 9, 10, 11] [.inl 0, .inl 1, .inl 2, .inl 3, .inl 4, .inl 5, .inl 6, .inl 7, .inl 8, .inl 9, .inl 10, .inl 11] rfl (by decide) (fun _ => rfl) (fun _ => rfl) (fun r5 u4 H locs h hP hD hS => ?_)
      refine lv_pop hx hb dX8_hasRoom_35 rfl ?_
      refine lv_iconst (v := 0) hx hb dX8_hasRoom_36 (by decide) ?_
      exact W.zret (ty := .boolean) (v := 0) hx hb hr (narB isB0) (fun t ht hW => ⟨⟨0, u4, rfl, h, by rw [ht]; exact hP, va_K.moved hW.alike hK, hD⟩, hS.F ht⟩) hS.2.2 dX8_hasRoom_37
    · have h := h.2 c2
      refine lv_iconst (v := 1) hx hb dX8_hasRoom_21 (by decide) ?_
      exact W.zret (ty := .boolean) (v := 1) hx hb hr (narB isB1) (fun t ht hW => ⟨⟨1, S, rfl, h, by rw [ht]; exact hP, va_K.moved hW.alike hK, hD⟩, hS.F ht⟩) hS.2.2 dX8_hasRoom_22
  · have h := h.2 c1
    refine lv_iconst (v := 0) hx hb dX8_hasRoom_8 (by decide) ?_
    exact W.zret (ty := .boolean) (v := 0) hx hb hr (narB isB0) (fun t ht hW => ⟨⟨0, S, rfl, h, by rw [ht]; exact hP, va_K.moved hW.alike hK, hD⟩, hS.F ht⟩) hS.2.2 dX8_hasRoom_9
/-! X8_rises -/
abbrev rmX8_rises : Room := { frames := 0, cells := 0, slots := 0, locals := 0 }
set_option maxHeartbeats 4000000 in
set_option maxRecDepth 100000 in
theorem c_X8_rises (l : Launch) (D : va_G) (cI cZ : ClassId) (a : Nat → Nat) (b : Nat → Nat) (nw : Bool) (sz : Nat) (S : Ob × (Nat → Int32)) (p0 : Int32) (Q : (Ob × (Nat → Int32)) → Prop) (h : wp_X8_rises nw S p0 Q) (hb4 : nw = true → b 0 = a 4) : Met l yX8_rises (wsm yX8_rises cX8_rises 3 none) rmX8_rises (va_Pc [.ref (a 0), .ref (b 0), .int p0] (preW D cI cZ sz (wX8s cI cZ a b S))) (va_Qv Q (fun u => atW D cI cZ (va_A (wX8s cI cZ a b S) sz) (wX8s cI cZ a b u)) (va_A (wX8s cI cZ a b S) sz)) 0 0 (va_A (wX8s cI cZ a b S) sz) := by
  refine Met.ofW (cc := cX8_rises) (maxL := 3) (ret := none) (by decide) rfl ?_
  intro p e s m args below meth c s₁ B hml hv
  obtain ⟨rfl, hsz, hP, hK, hD0⟩ := hv
  have hx := B.exec
  have hb := B.bytes
  have hr := B.returns
  have hts0 := atoms_spec (ws := wsm yX8_rises cX8_rises 3 none) B.pre
  have hts : ∀ w ∈ lw_all, w.before _ s = true := fun w h => hts0 w (List.mem_cons_of_mem _ h)
  have hown : s.vm.findClass RX8 = some m.cls := findClass_of_methodNamed B.named
  have hlocks := B.notSynchronized
  subst hsz
  have hD := hD0.self (sz := s.heap.size)
  generalize hAe : va_A (wX8s cI cZ a b S) s.heap.size = A at hD ⊢
  have hA : ∀ q : Nat, s.heap.size ≤ q → A q := fun q h => by rw [← hAe]; exact Or.inr h
  have hS : va_S A s.heap s.heap [] := va_S.rf
  have hml2 := hml
  have hl := lv_entry ([.ref (a 0), .ref (b 0), .int p0]) (n := 3) (Nat.le_of_ble_eq_true rfl)
  rw [lg_entry_eq]
  generalize (lg_sl ([.ref (a 0), .ref (b 0), .int p0]) ++ List.replicate (3 - (lg_sl ([.ref (a 0), .ref (b 0), .int p0])).length) Slot.unset).toArray = ls at hl ⊢
  have hl : lv_has ls 3 [(0, .ref (a 0)), (1, .ref (b 0)), (2, .int p0)] := hl
  unfold wp_X8_rises at h
  refine lv_aload_n hx hb dX8_rises_0 rfl (lv_at hl 1 rfl) ?_
  refine lv_bipush (v := 15) hx hb dX8_rises_1 (by decide) ?_
  refine lv_dup2_11 hx hb dX8_rises_3 rfl rfl ?_
  refine ar_il (f := S.2) (n := 342) (j := 15) hx hb hK hP 11 rfl (by decide) (okLit (by decide)) dX8_rises_4 ?_
  refine lv_iload_n hx hb dX8_rises_5 rfl (lv_at hl 2 rfl) ?_
  refine lv_iadd hx hb dX8_rises_6 ?_
  obtain ⟨T1, eT1⟩ : ∃ z : (Nat → Int32), z = (upd S.2 15 ((S.2 15) + p0)) := ⟨_, rfl⟩
  refine ar_is (f := S.2) (n := 342) (j := 15) (x := ((S.2 15) + p0)) hx hb hK hP hD hS 11 rfl (by decide) (okLit (by decide)) dX8_rises_7 (wX8s cI cZ a b (S.1, T1)) (by subst eT1; rfl) (fun H locs hP hD hS => ?_)
  have h := h T1 eT1
  refine lv_aload_n hx hb dX8_rises_8 rfl (lv_at hl 0 rfl) ?_
  refine va_get (D := D) (ci := 7) (v := .int (S.1.1 14)) (C := RX8) (T := TX8) (N := 25) hx hb hts inX8 hown hK hP 0 rfl rfl 14 (by decide) (hts _ q_1091) (fun _ h9 => h9) rfl dX8_rises_9 ?_
  refine lv_if_eq (tgt := 40) hx hb dX8_rises_12 (by decide) (fun c2 => ?_) (fun c2 => ?_)
  · have h := h.1 c2
    exact W.vret hx hb hr (fun t ht hW => ⟨⟨(S.1, T1), rfl, h, by rw [ht]; exact hP, va_K.moved hW.alike hK, hD⟩, hS.F ht⟩) hS.2.2 dX8_rises_40
  · have h := h.2 c2
    refine lv_aload_n hx hb dX8_rises_15 rfl (lv_at hl 1 rfl) ?_
    refine lv_bipush (v := 15) hx hb dX8_rises_16 (by decide) ?_
    refine ar_il (f := T1) (n := 342) (j := 15) hx hb hK hP 11 rfl (by decide) (okLit (by decide)) dX8_rises_18 ?_
    refine lv_aload_n hx hb dX8_rises_19 rfl (lv_at hl 0 rfl) ?_
    refine va_get (D := D) (ci := 7) (v := .ref (a 6)) (C := RX8) (T := TX8) (N := 25) hx hb hts inX8 hown hK hP 0 rfl rfl 6 (by decide) (hts _ q_1083) (fun _ h9 => h9) rfl dX8_rises_20 ?_
    refine lv_bipush (v := 13) hx hb dX8_rises_23 (by decide) ?_
    refine ar_il (f := (S.1.2 6)) (n := 17) (j := 13) hx hb hK hP 4 rfl (by decide) (okLit (by decide)) dX8_rises_25 ?_
    refine lv_icmp_le (tgt := 40) hx hb dX8_rises_26 (by decide) (fun c3 => ?_) (fun c3 => ?_)
    · have h := h.1 c3
      exact W.vret hx hb hr (fun t ht hW => ⟨⟨(S.1, T1), rfl, h, by rw [ht]; exact hP, va_K.moved hW.alike hK, hD⟩, hS.F ht⟩) hS.2.2 dX8_rises_40
    · have h := h.2 c3
      refine lv_aload_n hx hb dX8_rises_29 rfl (lv_at hl 0 rfl) ?_
      refine va_get (D := D) (ci := 7) (v := .ref (a 6)) (C := RX8) (T := TX8) (N := 25) hx hb hts inX8 hown hK hP 0 rfl rfl 6 (by decide) (hts _ q_1083) (fun _ h9 => h9) rfl dX8_rises_30 ?_
      refine lv_bipush (v := 13) hx hb dX8_rises_33 (by decide) ?_
      refine lv_aload_n hx hb dX8_rises_35 rfl (lv_at hl 1 rfl) ?_
      refine lv_bipush (v := 15) hx hb dX8_rises_36 (by decide) ?_
      refine ar_il (f := T1) (n := 342) (j := 15) hx hb hK hP 11 rfl (by decide) (okLit (by decide)) dX8_rises_38 ?_
      obtain ⟨T4, eT4⟩ : ∃ z : Ob, z = (sa S.1 6 (upd (S.1.2 6) 13 (T1 15))) := ⟨_, rfl⟩
      refine ar_is (f := (S.1.2 6)) (n := 17) (j := 13) (x := (T1 15)) hx hb hK hP hD hS 4 rfl (by decide) (okLit (by decide)) dX8_rises_39 (wX8s cI cZ a b (T4, T1)) (by subst eT4; rfl) (fun H locs hP hD hS => ?_)
      have h := h T4 eT4
      exact W.vret hx hb hr (fun t ht hW => ⟨⟨(T4, T1), rfl, h, by rw [ht]; exact hP, va_K.moved hW.alike hK, hD⟩, hS.F ht⟩) hS.2.2 dX8_rises_40
/-! X8_begins -/
abbrev rmX8_begins : Room := { frames := 1, cells := 0, slots := 0, locals := 24 }
set_option maxHeartbeats 4000000 in
set_option maxRecDepth 100000 in
theorem c_X8_begins (l : Launch) (D : va_G) (cI cZ : ClassId) (a : Nat → Nat) (b : Nat → Nat) (nw : Bool) (sz : Nat) (S : Ob × (Nat → Int32)) (p0 : Int32) (p1 : Int32) (Q : (Ob × (Nat → Int32)) → Prop) (h : wp_X8_begins nw S p0 p1 Q) (hb4 : nw = true → b 0 = a 4) : Met l yX8_begins (wsm yX8_begins cX8_begins 5 none) rmX8_begins (va_Pc [.ref (a 0), .ref (b 0), .int p0, .int p1] (preW D cI cZ sz (wX8s cI cZ a b S))) (va_Qv Q (fun u => atW D cI cZ (va_A (wX8s cI cZ a b S) sz) (wX8s cI cZ a b u)) (va_A (wX8s cI cZ a b S) sz)) 0 0 (va_A (wX8s cI cZ a b S) sz) := by
  refine Met.ofW (cc := cX8_begins) (maxL := 5) (ret := none) (by decide) rfl ?_
  intro p e s m args below meth c s₁ B hml hv
  obtain ⟨rfl, hsz, hP, hK, hD0⟩ := hv
  have hx := B.exec
  have hb := B.bytes
  have hr := B.returns
  have hts0 := atoms_spec (ws := wsm yX8_begins cX8_begins 5 none) B.pre
  have hts : ∀ w ∈ lw_all, w.before _ s = true := fun w h => hts0 w (List.mem_cons_of_mem _ h)
  have hown : s.vm.findClass RX8 = some m.cls := findClass_of_methodNamed B.named
  have hlocks := B.notSynchronized
  subst hsz
  have hD := hD0.self (sz := s.heap.size)
  generalize hAe : va_A (wX8s cI cZ a b S) s.heap.size = A at hD ⊢
  have hA : ∀ q : Nat, s.heap.size ≤ q → A q := fun q h => by rw [← hAe]; exact Or.inr h
  have hS : va_S A s.heap s.heap [] := va_S.rf
  have hml2 := hml
  have L102 : ∀ (y2 : Int32) (y3 : Int32) (y4 : Int32) (T : Ob × (Nat → Int32)) (H : Heap) (locs : List Loc) (ls : Array Slot), va_P D vwCl (wX8s cI cZ a b T) H → va_D A (wX8s cI cZ a b T) → va_S A s.heap H locs → lv_has ls 5 [(0, .ref (a 0)), (1, .ref (b 0)), (2, .int y2), (3, .int y3), (4, .int y4)] → wp_X8_begins_L102 nw Q y2 y3 y4 T → W p l e rmX8_begins s m ([.ref (a 0), .ref (b 0), .int p0, .int p1] : List Value).toArray below meth c H locs 0 0 (MQ below (va_Qv Q (fun u => atW D cI cZ A (wX8s cI cZ a b u)) A) ([.ref (a 0), .ref (b 0), .int p0, .int p1] : List Value).toArray s 0 0 A) (F0 m 102 ls []) := by
    intro y2 y3 y4 T H locs ls hP hD hS hl h
    unfold wp_X8_begins_L102 at h
    refine lv_aload_n hx hb dX8_begins_102 rfl (lv_at hl 0 rfl) ?_
    refine va_get (D := D) (ci := 7) (v := .int (T.1.1 14)) (C := RX8) (T := TX8) (N := 25) hx hb hts inX8 hown hK hP 0 rfl rfl 14 (by decide) (hts _ q_1091) (fun _ h9 => h9) rfl dX8_begins_103 ?_
    refine lv_if_eq (tgt := 153) hx hb dX8_begins_106 (by decide) (fun c14 => ?_) (fun c14 => ?_)
    · have h := h.1 c14
      refine lv_aload_n hx hb dX8_begins_153 rfl (lv_at hl 0 rfl) ?_
      refine lv_iload_n hx hb dX8_begins_154 rfl (lv_at hl 3 rfl) ?_
      refine lv_iload_n hx hb dX8_begins_155 rfl (lv_at hl 2 rfl) ?_
      refine lv_iload hx hb dX8_begins_156 (lv_at hl 4 rfl) ?_
      refine cl_v (ws' := fun u15 => (wX8s cI cZ a b u15)) (va_runV (As := [.int y3, .int y2, .int y4]) (rest := []) ⟨hx, hb, hml, hown, hts⟩ (c_X8_notes l D cI cZ a b nw _ T y3 y2 y4 _ h hb4) (cwV 3 hts (gV q_1274 q_1276 q_44 q_75 q_1277) rfl rfl rfl (by decide +kernel) ⟨Nat.le_of_ble_eq_true rfl, Nat.le_of_ble_eq_true rfl⟩) (preV_of (ci := 7) (q := (RX8, TX8, 25)) hK hP hD [0, 1, 2, 3, 4, 5, 6, 7, 8, 9, 10, 11] rfl rfl (by decide) 0 rfl rfl) rfl rfl hl.1 rfl (lv_room (Nat.le_of_ble_eq_true rfl)) dX8_begins_158 ⟨Nat.zero_le _, Nat.zero_le _⟩) hP hD hS hA [0, 1, 2, 3, 4, 5, 6, 7, 8, 9, 10, 11] [.inl 0, .inl 1, .inl 2, .inl 3, .inl 4, .inl 5, .inl 6, .inl 7, .inl 8, .inl 9, .inl 10, .inl 11] rfl (by decide) (fun _ => rfl) (fun _ => rfl) (fun u15 H locs h hP hD hS => ?_)
      exact W.vret hx hb hr (fun t ht hW => ⟨⟨u15, rfl, h, by rw [ht]; exact hP, va_K.moved hW.alike hK, hD⟩, hS.F ht⟩) hS.2.2 dX8_begins_161
    · have h := h.2 c14
      refine lv_aload_n hx hb dX8_begins_109 rfl (lv_at hl 1 rfl) ?_
      refine lv_bipush (v := 30) hx hb dX8_begins_110 (by decide) ?_
      refine ar_il (f := T.2) (n := 342) (j := 30) hx hb hK hP 11 rfl (by decide) (okLit (by decide)) dX8_begins_112 ?_
      refine lv_aload_n hx hb dX8_begins_113 rfl (lv_at hl 0 rfl) ?_
      refine va_get (D := D) (ci := 7) (v := .ref (a 6)) (C := RX8) (T := TX8) (N := 25) hx hb hts inX8 hown hK hP 0 rfl rfl 6 (by decide) (hts _ q_1083) (fun _ h9 => h9) rfl dX8_begins_114 ?_
      refine lv_bipush (v := 12) hx hb dX8_begins_117 (by decide) ?_
      refine ar_il (f := (T.1.2 6)) (n := 17) (j := 12) hx hb hK hP 4 rfl (by decide) (okLit (by decide)) dX8_begins_119 ?_
      refine lv_icmp_le (tgt := 134) hx hb dX8_begins_120 (by decide) (fun c16 => ?_) (fun c16 => ?_)
      · have h := h.1 c16
        refine lv_iload hx hb dX8_begins_134 (lv_at hl 4 rfl) ?_
        refine lv_aload_n hx hb dX8_begins_136 rfl (lv_at hl 0 rfl) ?_
        refine va_get (D := D) (ci := 7) (v := .ref (a 12)) (C := RX8) (T := TX8) (N := 25) hx hb hts inX8 hown hK hP 0 rfl rfl 13 (by decide) (hts _ q_1090) (fun _ h9 => h9) rfl dX8_begins_137 ?_
        refine lv_iload_n hx hb dX8_begins_140 rfl (lv_at hl 2 rfl) ?_
        refine ar_il (f := (T.1.2 13)) (n := 21) (j := (Int32.toNatClampNeg y2)) hx hb hK hP 10 rfl rfl h.1 dX8_begins_141 ?_
        have h := h.2
        refine lv_icmp_le (tgt := 153) hx hb dX8_begins_142 (by decide) (fun c17 => ?_) (fun c17 => ?_)
        · have h := h.1 c17
          refine lv_aload_n hx hb dX8_begins_153 rfl (lv_at hl 0 rfl) ?_
          refine lv_iload_n hx hb dX8_begins_154 rfl (lv_at hl 3 rfl) ?_
          refine lv_iload_n hx hb dX8_begins_155 rfl (lv_at hl 2 rfl) ?_
          refine lv_iload hx hb dX8_begins_156 (lv_at hl 4 rfl) ?_
          refine cl_v (ws' := fun u18 => (wX8s cI cZ a b u18)) (va_runV (As := [.int y3, .int y2, .int y4]) (rest := []) ⟨hx, hb, hml, hown, hts⟩ (c_X8_notes l D cI cZ a b nw _ T y3 y2 y4 _ h hb4) (cwV 3 hts (gV q_1274 q_1276 q_44 q_75 q_1277) rfl rfl rfl (by decide +kernel) ⟨Nat.le_of_ble_eq_true rfl, Nat.le_of_ble_eq_true rfl⟩) (preV_of (ci := 7) (q := (RX8, TX8, 25)) hK hP hD [0, 1, 2, 3, 4, 5, 6, 7, 8, 9, 10, 11] rfl rfl (by decide) 0 rfl rfl) rfl rfl hl.1 rfl (lv_room (Nat.le_of_ble_eq_true rfl)) dX8_begins_158 ⟨Nat.zero_le _, Nat.zero_le _⟩) hP hD hS hA [0, 1, 2, 3, 4, 5, 6, 7, 8, 9, 10, 11] [.inl 0, .inl 1, .inl 2, .inl 3, .inl 4, .inl 5, .inl 6, .inl 7, .inl 8, .inl 9, .inl 10, .inl 11] rfl (by decide) (fun _ => rfl) (fun _ => rfl) (fun u18 H locs h hP hD hS => ?_)
          exact W.vret hx hb hr (fun t ht hW => ⟨⟨u18, rfl, h, by rw [ht]; exact hP, va_K.moved hW.alike hK, hD⟩, hS.F ht⟩) hS.2.2 dX8_begins_161
        · have h := h.2 c17
          refine lv_aload_n hx hb dX8_begins_145 rfl (lv_at hl 0 rfl) ?_
          refine va_get (D := D) (ci := 7) (v := .ref (a 12)) (C := RX8) (T := TX8) (N := 25) hx hb hts inX8 hown hK hP 0 rfl rfl 13 (by decide) (hts _ q_1090) (fun _ h9 => h9) rfl dX8_begins_146 ?_
          refine lv_iload_n hx hb dX8_begins_149 rfl (lv_at hl 2 rfl) ?_
          refine lv_iload hx hb dX8_begins_150 (lv_at hl 4 rfl) ?_
          obtain ⟨T19, eT19⟩ : ∃ z : Ob, z = (sa T.1 13 (upd (T.1.2 13) (Int32.toNatClampNeg y2) y4)) := ⟨_, rfl⟩
          refine ar_is (f := (T.1.2 13)) (n := 21) (j := (Int32.toNatClampNeg y2)) (x := y4) hx hb hK hP hD hS 10 rfl rfl h.1 dX8_begins_152 (wX8s cI cZ a b (T19, T.2)) (by subst eT19; rfl) (fun H locs hP hD hS => ?_)
          have h := h.2
          have h := h T19 eT19
          refine lv_aload_n hx hb dX8_begins_153 rfl (lv_at hl 0 rfl) ?_
          refine lv_iload_n hx hb dX8_begins_154 rfl (lv_at hl 3 rfl) ?_
          refine lv_iload_n hx hb dX8_begins_155 rfl (lv_at hl 2 rfl) ?_
          refine lv_iload hx hb dX8_begins_156 (lv_at hl 4 rfl) ?_
          refine cl_v (ws' := fun u20 => (wX8s cI cZ a b u20)) (va_runV (As := [.int y3, .int y2, .int y4]) (rest := []) ⟨hx, hb, hml, hown, hts⟩ (c_X8_notes l D cI cZ a b nw _ (T19, T.2) y3 y2 y4 _ h hb4) (cwV 3 hts (gV q_1274 q_1276 q_44 q_75 q_1277) rfl rfl rfl (by decide +kernel) ⟨Nat.le_of_ble_eq_true rfl, Nat.le_of_ble_eq_true rfl⟩) (preV_of (ci := 7) (q := (RX8, TX8, 25)) hK hP hD [0, 1, 2, 3, 4, 5, 6, 7, 8, 9, 10, 11] rfl rfl (by decide) 0 rfl rfl) rfl rfl hl.1 rfl (lv_room (Nat.le_of_ble_eq_true rfl)) dX8_begins_158 ⟨Nat.zero_le _, Nat.zero_le _⟩) hP hD hS hA [0, 1, 2, 3, 4, 5, 6, 7, 8, 9, 10, 11] [.inl 0, .inl 1, .inl 2, .inl 3, .inl 4, .inl 5, .inl 6, .inl 7, .inl 8, .inl 9, .inl 10, .inl 11] rfl (by decide) (fun _ => rfl) (fun _ => rfl) (fun u20 H locs h hP hD hS => ?_)
          exact W.vret hx hb hr (fun t ht hW => ⟨⟨u20, rfl, h, by rw [ht]; exact hP, va_K.moved hW.alike hK, hD⟩, hS.F ht⟩) hS.2.2 dX8_begins_161
      · have h := h.2 c16
        refine lv_aload_n hx hb dX8_begins_123 rfl (lv_at hl 0 rfl) ?_
        refine va_get (D := D) (ci := 7) (v := .ref (a 6)) (C := RX8) (T := TX8) (N := 25) hx hb hts inX8 hown hK hP 0 rfl rfl 6 (by decide) (hts _ q_1083) (fun _ h9 => h9) rfl dX8_begins_124 ?_
        refine lv_bipush (v := 12) hx hb dX8_begins_127 (by decide) ?_
        refine lv_aload_n hx hb dX8_begins_129 rfl (lv_at hl 1 rfl) ?_
        refine lv_bipush (v := 30) hx hb dX8_begins_130 (by decide) ?_
        refine ar_il (f := T.2) (n := 342) (j := 30) hx hb hK hP 11 rfl (by decide) (okLit (by decide)) dX8_begins_132 ?_
        obtain ⟨T21, eT21⟩ : ∃ z : Ob, z = (sa T.1 6 (upd (T.1.2 6) 12 (T.2 30))) := ⟨_, rfl⟩
        refine ar_is (f := (T.1.2 6)) (n := 17) (j := 12) (x := (T.2 30)) hx hb hK hP hD hS 4 rfl (by decide) (okLit (by decide)) dX8_begins_133 (wX8s cI cZ a b (T21, T.2)) (by subst eT21; rfl) (fun H locs hP hD hS => ?_)
        have h := h T21 eT21
        refine lv_iload hx hb dX8_begins_134 (lv_at hl 4 rfl) ?_
        refine lv_aload_n hx hb dX8_begins_136 rfl (lv_at hl 0 rfl) ?_
        refine va_get (D := D) (ci := 7) (v := .ref (a 12)) (C := RX8) (T := TX8) (N := 25) hx hb hts inX8 hown hK hP 0 rfl rfl 13 (by decide) (hts _ q_1090) (fun _ h9 => h9) rfl dX8_begins_137 ?_
        refine lv_iload_n hx hb dX8_begins_140 rfl (lv_at hl 2 rfl) ?_
        refine ar_il (f := (T21.2 13)) (n := 21) (j := (Int32.toNatClampNeg y2)) hx hb hK hP 10 rfl rfl h.1 dX8_begins_141 ?_
        have h := h.2
        refine lv_icmp_le (tgt := 153) hx hb dX8_begins_142 (by decide) (fun c22 => ?_) (fun c22 => ?_)
        · have h := h.1 c22
          refine lv_aload_n hx hb dX8_begins_153 rfl (lv_at hl 0 rfl) ?_
          refine lv_iload_n hx hb dX8_begins_154 rfl (lv_at hl 3 rfl) ?_
          refine lv_iload_n hx hb dX8_begins_155 rfl (lv_at hl 2 rfl) ?_
          refine lv_iload hx hb dX8_begins_156 (lv_at hl 4 rfl) ?_
          refine cl_v (ws' := fun u23 => (wX8s cI cZ a b u23)) (va_runV (As := [.int y3, .int y2, .int y4]) (rest := []) ⟨hx, hb, hml, hown, hts⟩ (c_X8_notes l D cI cZ a b nw _ (T21, T.2) y3 y2 y4 _ h hb4) (cwV 3 hts (gV q_1274 q_1276 q_44 q_75 q_1277) rfl rfl rfl (by decide +kernel) ⟨Nat.le_of_ble_eq_true rfl, Nat.le_of_ble_eq_true rfl⟩) (preV_of (ci := 7) (q := (RX8, TX8, 25)) hK hP hD [0, 1, 2, 3, 4, 5, 6, 7, 8, 9, 10, 11] rfl rfl (by decide) 0 rfl rfl) rfl rfl hl.1 rfl (lv_room (Nat.le_of_ble_eq_true rfl)) dX8_begins_158 ⟨Nat.zero_le _, Nat.zero_le _⟩) hP hD hS hA [0, 1, 2, 3, 4, 5, 6, 7, 8, 9, 10, 11] [.inl 0, .inl 1, .inl 2, .inl 3, .inl 4, .inl 5, .inl 6, .inl 7, .inl 8, .inl 9, .inl 10, .inl 11] rfl (by decide) (fun _ => rfl) (fun _ => rfl) (fun u23 H locs h hP hD hS => ?_)
          exact W.vret hx hb hr (fun t ht hW => ⟨⟨u23, rfl, h, by rw [ht]; exact hP, va_K.moved hW.alike hK, hD⟩, hS.F ht⟩) hS.2.2 dX8_begins_161
        · have h := h.2 c22
          refine lv_aload_n hx hb dX8_begins_145 rfl (lv_at hl 0 rfl) ?_
          refine va_get (D := D) (ci := 7) (v := .ref (a 12)) (C := RX8) (T := TX8) (N := 25) hx hb hts inX8 hown hK hP 0 rfl rfl 13 (by decide) (hts _ q_1090) (fun _ h9 => h9) rfl dX8_begins_146 ?_
          refine lv_iload_n hx hb dX8_begins_149 rfl (lv_at hl 2 rfl) ?_
          refine lv_iload hx hb dX8_begins_150 (lv_at hl 4 rfl) ?_
          obtain ⟨T24, eT24⟩ : ∃ z : Ob, z = (sa T21 13 (upd (T21.2 13) (Int32.toNatClampNeg y2) y4)) := ⟨_, rfl⟩
          refine ar_is (f := (T21.2 13)) (n := 21) (j := (Int32.toNatClampNeg y2)) (x := y4) hx hb hK hP hD hS 10 rfl rfl h.1 dX8_begins_152 (wX8s cI cZ a b (T24, T.2)) (by subst eT24; rfl) (fun H locs hP hD hS => ?_)
          have h := h.2
          have h := h T24 eT24
          refine lv_aload_n hx hb dX8_begins_153 rfl (lv_at hl 0 rfl) ?_
          refine lv_iload_n hx hb dX8_begins_154 rfl (lv_at hl 3 rfl) ?_
          refine lv_iload_n hx hb dX8_begins_155 rfl (lv_at hl 2 rfl) ?_
          refine lv_iload hx hb dX8_begins_156 (lv_at hl 4 rfl) ?_
          refine cl_v (ws' := fun u25 => (wX8s cI cZ a b u25)) (va_runV (As := [.int y3, .int y2, .int y4]) (rest := []) ⟨hx, hb, hml, hown, hts⟩ (c_X8_notes l D cI cZ a b nw _ (T24, T.2) y3 y2 y4 _ h hb4) (cwV 3 hts (gV q_1274 q_1276 q_44 q_75 q_1277) rfl rfl rfl (by decide +kernel) ⟨Nat.le_of_ble_eq_true rfl, Nat.le_of_ble_eq_true rfl⟩) (preV_of (ci := 7) (q := (RX8, TX8, 25)) hK hP hD [0, 1, 2, 3, 4, 5, 6, 7, 8, 9, 10, 11] rfl rfl (by decide) 0 rfl rfl) rfl rfl hl.1 rfl (lv_room (Nat.le_of_ble_eq_true rfl)) dX8_begins_158 ⟨Nat.zero_le _, Nat.zero_le _⟩) hP hD hS hA [0, 1, 2, 3, 4, 5, 6, 7, 8, 9, 10, 11] [.inl 0, .inl 1, .inl 2, .inl 3, .inl 4, .inl 5, .inl 6, .inl 7, .inl 8, .inl 9, .inl 10, .inl 11] rfl (by decide) (fun _ => rfl) (fun _ => rfl) (fun u25 H locs h hP hD hS => ?_)
          exact W.vret hx hb hr (fun t ht hW => ⟨⟨u25, rfl, h, by rw [ht]; exact hP, va_K.moved hW.alike hK, hD⟩, hS.F ht⟩) hS.2.2 dX8_begins_161
  have hl := lv_entry ([.ref (a 0), .ref (b 0), .int p0, .int p1]) (n := 5) (Nat.le_of_ble_eq_true rfl)
  rw [lg_entry_eq]
  generalize (lg_sl ([.ref (a 0), .ref (b 0), .int p0, .int p1]) ++ List.replicate (5 - (lg_sl ([.ref (a 0), .ref (b 0), .int p0, .int p1])).length) Slot.unset).toArray = ls at hl ⊢
  have hl : lv_has ls 5 [(0, .ref (a 0)), (1, .ref (b 0)), (2, .int p0), (3, .int p1)] := hl
  unfold wp_X8_begins at h
  refine lv_aload_n hx hb dX8_begins_0 rfl (lv_at hl 1 rfl) ?_
  refine lv_bipush (v := 25) hx hb dX8_begins_1 (by decide) ?_
  refine ar_il (f := S.2) (n := 342) (j := 25) hx hb hK hP 11 rfl (by decide) (okLit (by decide)) dX8_begins_3 ?_
  refine lv_aload_n hx hb dX8_begins_4 rfl (lv_at hl 1 rfl) ?_
  refine lv_sipush (v := 194) hx hb dX8_begins_5 (by decide) ?_
  refine lv_iload_n hx hb dX8_begins_8 rfl (lv_at hl 2 rfl) ?_
  refine lv_iadd hx hb dX8_begins_9 ?_
  refine ar_il (f := S.2) (n := 342) (j := (Int32.toNatClampNeg (194 + p0))) hx hb hK hP 11 rfl rfl h.1 dX8_begins_10 ?_
  have h := h.2
  refine lv_isub hx hb dX8_begins_11 ?_
  refine lv_topi (fun x1 ex1 => ?_)
  have h := h x1 ex1
  refine lv_istore (lv' := [(4, .int x1), (0, .ref (a 0)), (1, .ref (b 0)), (2, .int p0), (3, .int p1)]) hx hb dX8_begins_12 hl (by decide) rfl (fun ls hl => ?_)
  refine lv_aload_n hx hb dX8_begins_14 rfl (lv_at hl 2 rfl) ?_
  refine lv_sipush (v := 194) hx hb dX8_begins_15 (by decide) ?_
  refine lv_iload_n hx hb dX8_begins_18 rfl (lv_at hl 3 rfl) ?_
  refine lv_iadd hx hb dX8_begins_19 ?_
  refine lv_iconst (v := -1) hx hb dX8_begins_20 (by decide) ?_
  obtain ⟨T2, eT2⟩ : ∃ z : (Nat → Int32), z = (upd S.2 (Int32.toNatClampNeg (194 + p0)) (-1)) := ⟨_, rfl⟩
  refine ar_is (f := S.2) (n := 342) (j := (Int32.toNatClampNeg (194 + p0))) (x := (-1)) hx hb hK hP hD hS 11 rfl rfl h.1 dX8_begins_21 (wX8s cI cZ a b (S.1, T2)) (by subst eT2; rfl) (fun H locs hP hD hS => ?_)
  have h := h.2
  have h := h T2 eT2
  refine lv_aload_n hx hb dX8_begins_22 rfl (lv_at hl 2 rfl) ?_
  refine lv_sipush (v := 300) hx hb dX8_begins_23 (by decide) ?_
  refine lv_iload_n hx hb dX8_begins_26 rfl (lv_at hl 3 rfl) ?_
  refine lv_iadd hx hb dX8_begins_27 ?_
  refine lv_iconst (v := 1) hx hb dX8_begins_28 (by decide) ?_
  obtain ⟨T3, eT3⟩ : ∃ z : (Nat → Int32), z = (upd T2 (Int32.toNatClampNeg (300 + p0)) 1) := ⟨_, rfl⟩
  refine ar_is (f := T2) (n := 342) (j := (Int32.toNatClampNeg (300 + p0))) (x := 1) hx hb hK hP hD hS 11 rfl rfl h.1 dX8_begins_29 (wX8s cI cZ a b (S.1, T3)) (by subst eT3; rfl) (fun H locs hP hD hS => ?_)
  have h := h.2
  have h := h T3 eT3
  refine lv_aload_n hx hb dX8_begins_30 rfl (lv_at hl 2 rfl) ?_
  refine lv_sipush (v := 321) hx hb dX8_begins_31 (by decide) ?_
  refine lv_iload_n hx hb dX8_begins_34 rfl (lv_at hl 3 rfl) ?_
  refine lv_iadd hx hb dX8_begins_35 ?_
  refine lv_aload_n hx hb dX8_begins_36 rfl (lv_at hl 2 rfl) ?_
  refine lv_bipush (v := 25) hx hb dX8_begins_37 (by decide) ?_
  refine ar_il (f := T3) (n := 342) (j := 25) hx hb hK hP 11 rfl (by decide) (okLit (by decide)) dX8_begins_39 ?_
  obtain ⟨T4, eT4⟩ : ∃ z : (Nat → Int32), z = (upd T3 (Int32.toNatClampNeg (321 + p0)) (T3 25)) := ⟨_, rfl⟩
  refine ar_is (f := T3) (n := 342) (j := (Int32.toNatClampNeg (321 + p0))) (x := (T3 25)) hx hb hK hP hD hS 11 rfl rfl h.1 dX8_begins_40 (wX8s cI cZ a b (S.1, T4)) (by subst eT4; rfl) (fun H locs hP hD hS => ?_)
  have h := h.2
  have h := h T4 eT4
  refine lv_aload_n hx hb dX8_begins_41 rfl (lv_at hl 2 rfl) ?_
  refine lv_sipush (v := 152) hx hb dX8_begins_42 (by decide) ?_
  refine lv_aload_n hx hb dX8_begins_45 rfl (lv_at hl 2 rfl) ?_
  refine lv_bipush (v := 30) hx hb dX8_begins_46 (by decide) ?_
  refine ar_il (f := T4) (n := 342) (j := 30) hx hb hK hP 11 rfl (by decide) (okLit (by decide)) dX8_begins_48 ?_
  refine lv_iadd hx hb dX8_begins_49 ?_
  refine lv_iload_n hx hb dX8_begins_50 rfl (lv_at hl 3 rfl) ?_
  obtain ⟨T5, eT5⟩ : ∃ z : (Nat → Int32), z = (upd T4 (Int32.toNatClampNeg (152 + (T4 30))) p0) := ⟨_, rfl⟩
  refine ar_is (f := T4) (n := 342) (j := (Int32.toNatClampNeg (152 + (T4 30)))) (x := p0) hx hb hK hP hD hS 11 rfl rfl h.1 dX8_begins_51 (wX8s cI cZ a b (S.1, T5)) (by subst eT5; rfl) (fun H locs hP hD hS => ?_)
  have h := h.2
  have h := h T5 eT5
  refine lv_aload_n hx hb dX8_begins_52 rfl (lv_at hl 2 rfl) ?_
  refine lv_bipush (v := 30) hx hb dX8_begins_53 (by decide) ?_
  refine lv_dup2_11 hx hb dX8_begins_55 rfl rfl ?_
  refine ar_il (f := T5) (n := 342) (j := 30) hx hb hK hP 11 rfl (by decide) (okLit (by decide)) dX8_begins_56 ?_
  refine lv_iconst (v := 1) hx hb dX8_begins_57 (by decide) ?_
  refine lv_iadd hx hb dX8_begins_58 ?_
  obtain ⟨T6, eT6⟩ : ∃ z : (Nat → Int32), z = (upd T5 30 ((T5 30) + 1)) := ⟨_, rfl⟩
  refine ar_is (f := T5) (n := 342) (j := 30) (x := ((T5 30) + 1)) hx hb hK hP hD hS 11 rfl (by decide) (okLit (by decide)) dX8_begins_59 (wX8s cI cZ a b (S.1, T6)) (by subst eT6; rfl) (fun H locs hP hD hS => ?_)
  have h := h T6 eT6
  refine lv_aload_n hx hb dX8_begins_60 rfl (lv_at hl 2 rfl) ?_
  refine lv_bipush (v := 12) hx hb dX8_begins_61 (by decide) ?_
  refine lv_aload_n hx hb dX8_begins_63 rfl (lv_at hl 1 rfl) ?_
  refine va_get (D := D) (ci := 7) (v := .ref (a 2)) (C := RX8) (T := TX8) (N := 25) hx hb hts inX8 hown hK hP 0 rfl rfl 1 (by decide) (hts _ q_1078) (fun _ h9 => h9) rfl dX8_begins_64 ?_
  refine lv_iload_n hx hb dX8_begins_67 rfl (lv_at hl 3 rfl) ?_
  refine ar_il (f := (S.1.2 1)) (n := 21) (j := (Int32.toNatClampNeg p0)) hx hb hK hP 2 rfl rfl h.1 dX8_begins_68 ?_
  have h := h.2
  obtain ⟨T7, eT7⟩ : ∃ z : (Nat → Int32), z = (upd T6 12 ((S.1.2 1) (Int32.toNatClampNeg p0))) := ⟨_, rfl⟩
  refine ar_is (f := T6) (n := 342) (j := 12) (x := ((S.1.2 1) (Int32.toNatClampNeg p0))) hx hb hK hP hD hS 11 rfl (by decide) (okLit (by decide)) dX8_begins_69 (wX8s cI cZ a b (S.1, T7)) (by subst eT7; rfl) (fun H locs hP hD hS => ?_)
  have h := h T7 eT7
  refine lv_aload_n hx hb dX8_begins_70 rfl (lv_at hl 2 rfl) ?_
  refine lv_bipush (v := 18) hx hb dX8_begins_71 (by decide) ?_
  refine lv_iconst (v := 0) hx hb dX8_begins_73 (by decide) ?_
  obtain ⟨T8, eT8⟩ : ∃ z : (Nat → Int32), z = (upd T7 18 0) := ⟨_, rfl⟩
  refine ar_is (f := T7) (n := 342) (j := 18) (x := 0) hx hb hK hP hD hS 11 rfl (by decide) (okLit (by decide)) dX8_begins_74 (wX8s cI cZ a b (S.1, T8)) (by subst eT8; rfl) (fun H locs hP hD hS => ?_)
  have h := h T8 eT8
  refine lv_aload_n hx hb dX8_begins_75 rfl (lv_at hl 1 rfl) ?_
  refine lv_aload_n hx hb dX8_begins_76 rfl (lv_at hl 2 rfl) ?_
  refine lv_iconst (v := 0) hx hb dX8_begins_77 (by decide) ?_
  refine lv_iconst (v := 0) hx hb dX8_begins_78 (by decide) ?_
  refine cl_v (ws' := fun u9 => (wX8s cI cZ a b u9)) (va_runV (As := [.ref (b 0), .int 0, .int 0]) (rest := []) ⟨hx, hb, hml, hown, hts⟩ (c_X8_turns l D cI cZ a b nw _ (S.1, T8) 0 0 _ h hb4) (cwV 3 hts (gV q_1250 q_1252 q_38 q_75 q_1253) rfl rfl rfl (by decide +kernel) ⟨Nat.le_of_ble_eq_true rfl, Nat.le_of_ble_eq_true rfl⟩) (preV_of (ci := 7) (q := (RX8, TX8, 25)) hK hP hD [0, 1, 2, 3, 4, 5, 6, 7, 8, 9, 10, 11] rfl rfl (by decide) 0 rfl rfl) rfl rfl hl.1 rfl (lv_room (Nat.le_of_ble_eq_true rfl)) dX8_begins_79 ⟨Nat.zero_le _, Nat.zero_le _⟩) hP hD hS hA [0, 1, 2, 3, 4, 5, 6, 7, 8, 9, 10, 11] [.inl 0, .inl 1, .inl 2, .inl 3, .inl 4, .inl 5, .inl 6, .inl 7, .inl 8, .inl 9, .inl 10, .inl 11] rfl (by decide) (fun _ => rfl) (fun _ => rfl) (fun u9 H locs h hP hD hS => ?_)
  refine lv_aload_n hx hb dX8_begins_82 rfl (lv_at hl 1 rfl) ?_
  refine lv_iload_n hx hb dX8_begins_83 rfl (lv_at hl 3 rfl) ?_
  obtain ⟨T10, eT10⟩ : ∃ z : Ob, z = (si u9.1 16 p0) := ⟨_, rfl⟩
  refine pu_f (ci := 7) (v := .int p0) (ty := .int) (C := RX8) (T := TX8) (N := 25) hx hb hts inX8 tyX8 tyX8_ok nmX8 hown hK hP hD hS 0 rfl rfl 16 (by decide) (hts _ q_1093) (fun _ h9 => h9) rfl rfl rfl rfl (Nat.le_of_ble_eq_true rfl) dX8_begins_84 (wX8s cI cZ a b (T10, u9.2)) (by subst eT10; rfl) (fun H locs hP hD hS => ?_)
  have h := h T10 eT10
  refine lv_aload_n hx hb dX8_begins_87 rfl (lv_at hl 1 rfl) ?_
  refine lv_iconst (v := 1) hx hb dX8_begins_88 (by decide) ?_
  refine cl_v (ws' := fun u11 => (wX8s cI cZ a b u11)) (va_runV (As := [.int 1]) (rest := []) ⟨hx, hb, hml, hown, hts⟩ (c_X8_counts l D cI cZ a b nw _ (T10, u9.2) 1 _ h hb4) (cwV 1 hts (gV q_1193 q_1195 q_31 q_75 q_1196) rfl rfl rfl (by decide +kernel) ⟨Nat.le_of_ble_eq_true rfl, Nat.le_of_ble_eq_true rfl⟩) (preV_of (ci := 7) (q := (RX8, TX8, 25)) hK hP hD [0, 1, 2, 3, 4, 5, 6, 7, 8, 9, 10, 11] rfl rfl (by decide) 0 rfl rfl) rfl rfl hl.1 rfl (lv_room (Nat.le_of_ble_eq_true rfl)) dX8_begins_89 ⟨Nat.zero_le _, Nat.zero_le _⟩) hP hD hS hA [0, 1, 2, 3, 4, 5, 6, 7, 8, 9, 10, 11] [.inl 0, .inl 1, .inl 2, .inl 3, .inl 4, .inl 5, .inl 6, .inl 7, .inl 8, .inl 9, .inl 10, .inl 11] rfl (by decide) (fun _ => rfl) (fun _ => rfl) (fun u11 H locs h hP hD hS => ?_)
  refine lv_iload_n hx hb dX8_begins_92 rfl (lv_at hl 4 rfl) ?_
  refine lv_iconst (v := 1) hx hb dX8_begins_93 (by decide) ?_
  refine lv_icmp_ne (tgt := 102) hx hb dX8_begins_94 (by decide) (fun c12 => ?_) (fun c12 => ?_)
  · have h := h.1 c12
    exact L102 p0 p1 x1 u11 _ _ _ hP hD hS (lv_sub hl [1, 2, 3, 4, 0] rfl) h
  · have h := h.2 c12
    refine lv_aload_n hx hb dX8_begins_97 rfl (lv_at hl 1 rfl) ?_
    refine lv_iconst (v := 2) hx hb dX8_begins_98 (by decide) ?_
    refine cl_v (ws' := fun u13 => (wX8s cI cZ a b u13)) (va_runV (As := [.int 2]) (rest := []) ⟨hx, hb, hml, hown, hts⟩ (c_X8_counts l D cI cZ a b nw _ u11 2 _ h hb4) (cwV 1 hts (gV q_1193 q_1195 q_31 q_75 q_1196) rfl rfl rfl (by decide +kernel) ⟨Nat.le_of_ble_eq_true rfl, Nat.le_of_ble_eq_true rfl⟩) (preV_of (ci := 7) (q := (RX8, TX8, 25)) hK hP hD [0, 1, 2, 3, 4, 5, 6, 7, 8, 9, 10, 11] rfl rfl (by decide) 0 rfl rfl) rfl rfl hl.1 rfl (lv_room (Nat.le_of_ble_eq_true rfl)) dX8_begins_99 ⟨Nat.zero_le _, Nat.zero_le _⟩) hP hD hS hA [0, 1, 2, 3, 4, 5, 6, 7, 8, 9, 10, 11] [.inl 0, .inl 1, .inl 2, .inl 3, .inl 4, .inl 5, .inl 6, .inl 7, .inl 8, .inl 9, .inl 10, .inl 11] rfl (by decide) (fun _ => rfl) (fun _ => rfl) (fun u13 H locs h hP hD hS => ?_)
    exact L102 p0 p1 x1 u13 _ _ _ hP hD hS (lv_sub hl [1, 2, 3, 4, 0] rfl) h
/-! X8_stacks -/
abbrev rmX8_stacks : Room := { frames := 6, cells := 0, slots := 0, locals := 136 }
set_option maxHeartbeats 4000000 in
set_option maxRecDepth 100000 in
theorem c_X8_stacks (l : Launch) (D : va_G) (cI cZ : ClassId) (a : Nat → Nat) (b : Nat → Nat) (nw : Bool) (sz : Nat) (S : Ob × (Nat → Int32)) (Q : (Ob × (Nat → Int32)) → Prop) (h : wp_X8_stacks nw S Q) (hb4 : nw = true → b 0 = a 4) : Met l yX8_stacks (wsm yX8_stacks cX8_stacks 4 none) rmX8_stacks (va_Pc [.ref (a 0), .ref (b 0)] (preW D cI cZ sz (wX8s cI cZ a b S))) (va_Qv Q (fun u => atW D cI cZ (va_A (wX8s cI cZ a b S) sz) (wX8s cI cZ a b u)) (va_A (wX8s cI cZ a b S) sz)) 0 0 (va_A (wX8s cI cZ a b S) sz) := by
  refine Met.ofW (cc := cX8_stacks) (maxL := 4) (ret := none) (by decide) rfl ?_
  intro p e s m args below meth c s₁ B hml hv
  obtain ⟨rfl, hsz, hP, hK, hD0⟩ := hv
  have hx := B.exec
  have hb := B.bytes
  have hr := B.returns
  have hts0 := atoms_spec (ws := wsm yX8_stacks cX8_stacks 4 none) B.pre
  have hts : ∀ w ∈ lw_all, w.before _ s = true := fun w h => hts0 w (List.mem_cons_of_mem _ h)
  have hown : s.vm.findClass RX8 = some m.cls := findClass_of_methodNamed B.named
  have hlocks := B.notSynchronized
  subst hsz
  have hD := hD0.self (sz := s.heap.size)
  generalize hAe : va_A (wX8s cI cZ a b S) s.heap.size = A at hD ⊢
  have hA : ∀ q : Nat, s.heap.size ≤ q → A q := fun q h => by rw [← hAe]; exact Or.inr h
  have hS : va_S A s.heap s.heap [] := va_S.rf
  have hml2 := hml
  have L125 : ∀ (y2 : Int32) (T : Ob × (Nat → Int32)) (H : Heap) (locs : List Loc) (ls : Array Slot), va_P D vwCl (wX8s cI cZ a b T) H → va_D A (wX8s cI cZ a b T) → va_S A s.heap H locs → lv_has ls 4 [(0, .ref (a 0)), (1, .ref (b 0)), (2, .int y2)] → wp_X8_stacks_L125 nw Q y2 T → W p l e rmX8_stacks s m ([.ref (a 0), .ref (b 0)] : List Value).toArray below meth c H locs 0 0 (MQ below (va_Qv Q (fun u => atW D cI cZ A (wX8s cI cZ a b u)) A) ([.ref (a 0), .ref (b 0)] : List Value).toArray s 0 0 A) (F0 m 125 ls []) := by
    intro y2 T H locs ls hP hD hS hl h
    unfold wp_X8_stacks_L125 at h
    refine lv_aload_n hx hb dX8_stacks_125 rfl (lv_at hl 1 rfl) ?_
    refine lv_bipush (v := 20) hx hb dX8_stacks_126 (by decide) ?_
    refine ar_il (f := T.2) (n := 342) (j := 20) hx hb hK hP 11 rfl (by decide) (okLit (by decide)) dX8_stacks_128 ?_
    refine lv_iconst (v := 5) hx hb dX8_stacks_129 (by decide) ?_
    refine lv_icmp_ne (tgt := 134) hx hb dX8_stacks_130 (by decide) (fun c18 => ?_) (fun c18 => ?_)
    · have h := h.1 c18
      refine lv_aload_n hx hb dX8_stacks_134 rfl (lv_at hl 1 rfl) ?_
      refine lv_bipush (v := 21) hx hb dX8_stacks_135 (by decide) ?_
      refine lv_iload_n hx hb dX8_stacks_137 rfl (lv_at hl 2 rfl) ?_
      refine lv_iconst (v := 1) hx hb dX8_stacks_138 (by decide) ?_
      refine lv_iadd hx hb dX8_stacks_139 ?_
      obtain ⟨T19, eT19⟩ : ∃ z : (Nat → Int32), z = (upd T.2 21 (y2 + 1)) := ⟨_, rfl⟩
      refine ar_is (f := T.2) (n := 342) (j := 21) (x := (y2 + 1)) hx hb hK hP hD hS 11 rfl (by decide) (okLit (by decide)) dX8_stacks_140 (wX8s cI cZ a b (T.1, T19)) (by subst eT19; rfl) (fun H locs hP hD hS => ?_)
      have h := h T19 eT19
      refine lv_iload_n hx hb dX8_stacks_141 rfl (lv_at hl 2 rfl) ?_
      refine lv_iconst (v := 5) hx hb dX8_stacks_142 (by decide) ?_
      refine lv_icmp_ge (tgt := 147) hx hb dX8_stacks_143 (by decide) (fun c20 => ?_) (fun c20 => ?_)
      · have h := h.1 c20
        refine lv_aload_n hx hb dX8_stacks_147 rfl (lv_at hl 0 rfl) ?_
        refine lv_aload_n hx hb dX8_stacks_148 rfl (lv_at hl 1 rfl) ?_
        refine cl_i (ws' := fun u21 => (wX8s cI cZ a b u21)) (va_runV (As := [.ref (b 0)]) (rest := []) ⟨hx, hb, hml, hown, hts⟩ (c_X8_nextOf_ l D cI cZ a b nw _ (T.1, T19) _ h hb4) (cwV 1 hts (gV q_1229 q_1231 q_35 q_75 q_1232) rfl rfl rfl (by decide +kernel) ⟨Nat.le_of_ble_eq_true rfl, Nat.le_of_ble_eq_true rfl⟩) (preV_of (ci := 7) (q := (RX8, TX8, 25)) hK hP hD [0, 1, 2, 3, 4, 5, 6, 7, 8, 9, 10, 11] rfl rfl (by decide) 0 rfl rfl) rfl rfl hl.1 rfl (lv_room (Nat.le_of_ble_eq_true rfl)) dX8_stacks_149 ⟨Nat.zero_le _, Nat.zero_le _⟩) hP hD hS hA [0, 1, 2, 3, 4, 5, 6, 7, 8, 9, 10, 11] [.inl 0, .inl 1, .inl 2, .inl 3, .inl 4, .inl 5, .inl 6, .inl 7, .inl 8, .inl 9, .inl 10, .inl 11] rfl (by decide) (fun _ => rfl) (fun _ => rfl) (fun r22 u21 H locs h hP hD hS => ?_)
        refine lv_istore_n (lv' := [(3, .int r22), (0, .ref (a 0)), (1, .ref (b 0)), (2, .int y2)]) hx hb dX8_stacks_152 rfl hl (by decide) rfl (fun ls hl => ?_)
        refine lv_aload_n hx hb dX8_stacks_153 rfl (lv_at hl 1 rfl) ?_
        refine va_get (D := D) (ci := 7) (v := .int (u21.1.1 15)) (C := RX8) (T := TX8) (N := 25) hx hb hts inX8 hown hK hP 0 rfl rfl 15 (by decide) (hts _ q_1092) (fun _ h9 => h9) rfl dX8_stacks_154 ?_
        refine lv_if_eq (tgt := 190) hx hb dX8_stacks_157 (by decide) (fun c23 => ?_) (fun c23 => ?_)
        · have h := h.1 c23
          refine lv_iload_n hx hb dX8_stacks_190 rfl (lv_at hl 0 rfl) ?_
          refine lv_if_ge (tgt := 202) hx hb dX8_stacks_191 (by decide) (fun c24 => ?_) (fun c24 => ?_)
          · have h := h.1 c24
            refine lv_iload_n hx hb dX8_stacks_202 rfl (lv_at hl 0 rfl) ?_
            refine lv_aload_n hx hb dX8_stacks_203 rfl (lv_at hl 2 rfl) ?_
            refine lv_bipush (v := 24) hx hb dX8_stacks_204 (by decide) ?_
            refine ar_il (f := u21.2) (n := 342) (j := 24) hx hb hK hP 11 rfl (by decide) (okLit (by decide)) dX8_stacks_206 ?_
            refine lv_icmp_eq (tgt := 215) hx hb dX8_stacks_207 (by decide) (fun c25 => ?_) (fun c25 => ?_)
            · have h := h.1 c25
              refine lv_aload_n hx hb dX8_stacks_215 rfl (lv_at hl 1 rfl) ?_
              refine lv_aload_n hx hb dX8_stacks_216 rfl (lv_at hl 2 rfl) ?_
              refine lv_iload_n hx hb dX8_stacks_217 rfl (lv_at hl 0 rfl) ?_
              refine lv_iconst (v := 0) hx hb dX8_stacks_218 (by decide) ?_
              refine cl_v (ws' := fun u26 => (wX8s cI cZ a b u26)) (va_runV (As := [.ref (b 0), .int r22, .int 0]) (rest := []) ⟨hx, hb, hml, hown, hts⟩ (c_X8_begins l D cI cZ a b nw _ u21 r22 0 _ h hb4) (cwV 3 hts (gV q_1282 q_1284 q_46 q_75 q_1285) rfl rfl rfl (by decide +kernel) ⟨Nat.le_of_ble_eq_true rfl, Nat.le_of_ble_eq_true rfl⟩) (preV_of (ci := 7) (q := (RX8, TX8, 25)) hK hP hD [0, 1, 2, 3, 4, 5, 6, 7, 8, 9, 10, 11] rfl rfl (by decide) 0 rfl rfl) rfl rfl hl.1 rfl (lv_room (Nat.le_of_ble_eq_true rfl)) dX8_stacks_219 ⟨Nat.zero_le _, Nat.zero_le _⟩) hP hD hS hA [0, 1, 2, 3, 4, 5, 6, 7, 8, 9, 10, 11] [.inl 0, .inl 1, .inl 2, .inl 3, .inl 4, .inl 5, .inl 6, .inl 7, .inl 8, .inl 9, .inl 10, .inl 11] rfl (by decide) (fun _ => rfl) (fun _ => rfl) (fun u26 H locs h hP hD hS => ?_)
              exact W.vret hx hb hr (fun t ht hW => ⟨⟨u26, rfl, h, by rw [ht]; exact hP, va_K.moved hW.alike hK, hD⟩, hS.F ht⟩) hS.2.2 dX8_stacks_222
            · have h := h.2 c25
              refine lv_aload_n hx hb dX8_stacks_210 rfl (lv_at hl 1 rfl) ?_
              refine lv_iconst (v := 3) hx hb dX8_stacks_211 (by decide) ?_
              refine cl_v (ws' := fun u27 => (wX8s cI cZ a b u27)) (va_runV (As := [.int 3]) (rest := []) ⟨hx, hb, hml, hown, hts⟩ (c_X8_counts l D cI cZ a b nw _ u21 3 _ h hb4) (cwV 1 hts (gV q_1193 q_1195 q_31 q_75 q_1196) rfl rfl rfl (by decide +kernel) ⟨Nat.le_of_ble_eq_true rfl, Nat.le_of_ble_eq_true rfl⟩) (preV_of (ci := 7) (q := (RX8, TX8, 25)) hK hP hD [0, 1, 2, 3, 4, 5, 6, 7, 8, 9, 10, 11] rfl rfl (by decide) 0 rfl rfl) rfl rfl hl.1 rfl (lv_room (Nat.le_of_ble_eq_true rfl)) dX8_stacks_212 ⟨Nat.zero_le _, Nat.zero_le _⟩) hP hD hS hA [0, 1, 2, 3, 4, 5, 6, 7, 8, 9, 10, 11] [.inl 0, .inl 1, .inl 2, .inl 3, .inl 4, .inl 5, .inl 6, .inl 7, .inl 8, .inl 9, .inl 10, .inl 11] rfl (by decide) (fun _ => rfl) (fun _ => rfl) (fun u27 H locs h hP hD hS => ?_)
              refine lv_aload_n hx hb dX8_stacks_215 rfl (lv_at hl 1 rfl) ?_
              refine lv_aload_n hx hb dX8_stacks_216 rfl (lv_at hl 2 rfl) ?_
              refine lv_iload_n hx hb dX8_stacks_217 rfl (lv_at hl 0 rfl) ?_
              refine lv_iconst (v := 0) hx hb dX8_stacks_218 (by decide) ?_
              refine cl_v (ws' := fun u28 => (wX8s cI cZ a b u28)) (va_runV (As := [.ref (b 0), .int r22, .int 0]) (rest := []) ⟨hx, hb, hml, hown, hts⟩ (c_X8_begins l D cI cZ a b nw _ u27 r22 0 _ h hb4) (cwV 3 hts (gV q_1282 q_1284 q_46 q_75 q_1285) rfl rfl rfl (by decide +kernel) ⟨Nat.le_of_ble_eq_true rfl, Nat.le_of_ble_eq_true rfl⟩) (preV_of (ci := 7) (q := (RX8, TX8, 25)) hK hP hD [0, 1, 2, 3, 4, 5, 6, 7, 8, 9, 10, 11] rfl rfl (by decide) 0 rfl rfl) rfl rfl hl.1 rfl (lv_room (Nat.le_of_ble_eq_true rfl)) dX8_stacks_219 ⟨Nat.zero_le _, Nat.zero_le _⟩) hP hD hS hA [0, 1, 2, 3, 4, 5, 6, 7, 8, 9, 10, 11] [.inl 0, .inl 1, .inl 2, .inl 3, .inl 4, .inl 5, .inl 6, .inl 7, .inl 8, .inl 9, .inl 10, .inl 11] rfl (by decide) (fun _ => rfl) (fun _ => rfl) (fun u28 H locs h hP hD hS => ?_)
              exact W.vret hx hb hr (fun t ht hW => ⟨⟨u28, rfl, h, by rw [ht]; exact hP, va_K.moved hW.alike hK, hD⟩, hS.F ht⟩) hS.2.2 dX8_stacks_222
          · have h := h.2 c24
            refine lv_aload_n hx hb dX8_stacks_194 rfl (lv_at hl 1 rfl) ?_
            refine lv_aload_n hx hb dX8_stacks_195 rfl (lv_at hl 2 rfl) ?_
            refine lv_iconst (v := 3) hx hb dX8_stacks_196 (by decide) ?_
            refine lv_iconst (v := 0) hx hb dX8_stacks_197 (by decide) ?_
            refine cl_v (ws' := fun u29 => (wX8s cI cZ a b u29)) (va_runV (As := [.ref (b 0), .int 3, .int 0]) (rest := []) ⟨hx, hb, hml, hown, hts⟩ (c_X8_turns l D cI cZ a b nw _ u21 3 0 _ h hb4) (cwV 3 hts (gV q_1250 q_1252 q_38 q_75 q_1253) rfl rfl rfl (by decide +kernel) ⟨Nat.le_of_ble_eq_true rfl, Nat.le_of_ble_eq_true rfl⟩) (preV_of (ci := 7) (q := (RX8, TX8, 25)) hK hP hD [0, 1, 2, 3, 4, 5, 6, 7, 8, 9, 10, 11] rfl rfl (by decide) 0 rfl rfl) rfl rfl hl.1 rfl (lv_room (Nat.le_of_ble_eq_true rfl)) dX8_stacks_198 ⟨Nat.zero_le _, Nat.zero_le _⟩) hP hD hS hA [0, 1, 2, 3, 4, 5, 6, 7, 8, 9, 10, 11] [.inl 0, .inl 1, .inl 2, .inl 3, .inl 4, .inl 5, .inl 6, .inl 7, .inl 8, .inl 9, .inl 10, .inl 11] rfl (by decide) (fun _ => rfl) (fun _ => rfl) (fun u29 H locs h hP hD hS => ?_)
            exact W.vret hx hb hr (fun t ht hW => ⟨⟨u29, rfl, h, by rw [ht]; exact hP, va_K.moved hW.alike hK, hD⟩, hS.F ht⟩) hS.2.2 dX8_stacks_201
        · have h := h.2 c23
          refine lv_aload_n hx hb dX8_stacks_160 rfl (lv_at hl 2 rfl) ?_
          refine lv_sipush (v := 194) hx hb dX8_stacks_161 (by decide) ?_
          refine lv_aload_n hx hb dX8_stacks_164 rfl (lv_at hl 2 rfl) ?_
          refine lv_bipush (v := 24) hx hb dX8_stacks_165 (by decide) ?_
          refine ar_il (f := u21.2) (n := 342) (j := 24) hx hb hK hP 11 rfl (by decide) (okLit (by decide)) dX8_stacks_167 ?_
          refine lv_iadd hx hb dX8_stacks_168 ?_
          refine ar_il (f := u21.2) (n := 342) (j := (Int32.toNatClampNeg (194 + (u21.2 24)))) hx hb hK hP 11 rfl rfl h.1 dX8_stacks_169 ?_
          have h := h.2
          refine lv_if_lt (tgt := 190) hx hb dX8_stacks_170 (by decide) (fun c30 => ?_) (fun c30 => ?_)
          · have h := h.1 c30
            refine lv_iload_n hx hb dX8_stacks_190 rfl (lv_at hl 0 rfl) ?_
            refine lv_if_ge (tgt := 202) hx hb dX8_stacks_191 (by decide) (fun c31 => ?_) (fun c31 => ?_)
            · have h := h.1 c31
              refine lv_iload_n hx hb dX8_stacks_202 rfl (lv_at hl 0 rfl) ?_
              refine lv_aload_n hx hb dX8_stacks_203 rfl (lv_at hl 2 rfl) ?_
              refine lv_bipush (v := 24) hx hb dX8_stacks_204 (by decide) ?_
              refine ar_il (f := u21.2) (n := 342) (j := 24) hx hb hK hP 11 rfl (by decide) (okLit (by decide)) dX8_stacks_206 ?_
              refine lv_icmp_eq (tgt := 215) hx hb dX8_stacks_207 (by decide) (fun c32 => ?_) (fun c32 => ?_)
              · have h := h.1 c32
                refine lv_aload_n hx hb dX8_stacks_215 rfl (lv_at hl 1 rfl) ?_
                refine lv_aload_n hx hb dX8_stacks_216 rfl (lv_at hl 2 rfl) ?_
                refine lv_iload_n hx hb dX8_stacks_217 rfl (lv_at hl 0 rfl) ?_
                refine lv_iconst (v := 0) hx hb dX8_stacks_218 (by decide) ?_
                refine cl_v (ws' := fun u33 => (wX8s cI cZ a b u33)) (va_runV (As := [.ref (b 0), .int r22, .int 0]) (rest := []) ⟨hx, hb, hml, hown, hts⟩ (c_X8_begins l D cI cZ a b nw _ u21 r22 0 _ h hb4) (cwV 3 hts (gV q_1282 q_1284 q_46 q_75 q_1285) rfl rfl rfl (by decide +kernel) ⟨Nat.le_of_ble_eq_true rfl, Nat.le_of_ble_eq_true rfl⟩) (preV_of (ci := 7) (q := (RX8, TX8, 25)) hK hP hD [0, 1, 2, 3, 4, 5, 6, 7, 8, 9, 10, 11] rfl rfl (by decide) 0 rfl rfl) rfl rfl hl.1 rfl (lv_room (Nat.le_of_ble_eq_true rfl)) dX8_stacks_219 ⟨Nat.zero_le _, Nat.zero_le _⟩) hP hD hS hA [0, 1, 2, 3, 4, 5, 6, 7, 8, 9, 10, 11] [.inl 0, .inl 1, .inl 2, .inl 3, .inl 4, .inl 5, .inl 6, .inl 7, .inl 8, .inl 9, .inl 10, .inl 11] rfl (by decide) (fun _ => rfl) (fun _ => rfl) (fun u33 H locs h hP hD hS => ?_)
                exact W.vret hx hb hr (fun t ht hW => ⟨⟨u33, rfl, h, by rw [ht]; exact hP, va_K.moved hW.alike hK, hD⟩, hS.F ht⟩) hS.2.2 dX8_stacks_222
              · have h := h.2 c32
                refine lv_aload_n hx hb dX8_stacks_210 rfl (lv_at hl 1 rfl) ?_
                refine lv_iconst (v := 3) hx hb dX8_stacks_211 (by decide) ?_
                refine cl_v (ws' := fun u34 => (wX8s cI cZ a b u34)) (va_runV (As := [.int 3]) (rest := []) ⟨hx, hb, hml, hown, hts⟩ (c_X8_counts l D cI cZ a b nw _ u21 3 _ h hb4) (cwV 1 hts (gV q_1193 q_1195 q_31 q_75 q_1196) rfl rfl rfl (by decide +kernel) ⟨Nat.le_of_ble_eq_true rfl, Nat.le_of_ble_eq_true rfl⟩) (preV_of (ci := 7) (q := (RX8, TX8, 25)) hK hP hD [0, 1, 2, 3, 4, 5, 6, 7, 8, 9, 10, 11] rfl rfl (by decide) 0 rfl rfl) rfl rfl hl.1 rfl (lv_room (Nat.le_of_ble_eq_true rfl)) dX8_stacks_212 ⟨Nat.zero_le _, Nat.zero_le _⟩) hP hD hS hA [0, 1, 2, 3, 4, 5, 6, 7, 8, 9, 10, 11] [.inl 0, .inl 1, .inl 2, .inl 3, .inl 4, .inl 5, .inl 6, .inl 7, .inl 8, .inl 9, .inl 10, .inl 11] rfl (by decide) (fun _ => rfl) (fun _ => rfl) (fun u34 H locs h hP hD hS => ?_)
                refine lv_aload_n hx hb dX8_stacks_215 rfl (lv_at hl 1 rfl) ?_
                refine lv_aload_n hx hb dX8_stacks_216 rfl (lv_at hl 2 rfl) ?_
                refine lv_iload_n hx hb dX8_stacks_217 rfl (lv_at hl 0 rfl) ?_
                refine lv_iconst (v := 0) hx hb dX8_stacks_218 (by decide) ?_
                refine cl_v (ws' := fun u35 => (wX8s cI cZ a b u35)) (va_runV (As := [.ref (b 0), .int r22, .int 0]) (rest := []) ⟨hx, hb, hml, hown, hts⟩ (c_X8_begins l D cI cZ a b nw _ u34 r22 0 _ h hb4) (cwV 3 hts (gV q_1282 q_1284 q_46 q_75 q_1285) rfl rfl rfl (by decide +kernel) ⟨Nat.le_of_ble_eq_true rfl, Nat.le_of_ble_eq_true rfl⟩) (preV_of (ci := 7) (q := (RX8, TX8, 25)) hK hP hD [0, 1, 2, 3, 4, 5, 6, 7, 8, 9, 10, 11] rfl rfl (by decide) 0 rfl rfl) rfl rfl hl.1 rfl (lv_room (Nat.le_of_ble_eq_true rfl)) dX8_stacks_219 ⟨Nat.zero_le _, Nat.zero_le _⟩) hP hD hS hA [0, 1, 2, 3, 4, 5, 6, 7, 8, 9, 10, 11] [.inl 0, .inl 1, .inl 2, .inl 3, .inl 4, .inl 5, .inl 6, .inl 7, .inl 8, .inl 9, .inl 10, .inl 11] rfl (by decide) (fun _ => rfl) (fun _ => rfl) (fun u35 H locs h hP hD hS => ?_)
                exact W.vret hx hb hr (fun t ht hW => ⟨⟨u35, rfl, h, by rw [ht]; exact hP, va_K.moved hW.alike hK, hD⟩, hS.F ht⟩) hS.2.2 dX8_stacks_222
            · have h := h.2 c31
              refine lv_aload_n hx hb dX8_stacks_194 rfl (lv_at hl 1 rfl) ?_
              refine lv_aload_n hx hb dX8_stacks_195 rfl (lv_at hl 2 rfl) ?_
              refine lv_iconst (v := 3) hx hb dX8_stacks_196 (by decide) ?_
              refine lv_iconst (v := 0) hx hb dX8_stacks_197 (by decide) ?_
              refine cl_v (ws' := fun u36 => (wX8s cI cZ a b u36)) (va_runV (As := [.ref (b 0), .int 3, .int 0]) (rest := []) ⟨hx, hb, hml, hown, hts⟩ (c_X8_turns l D cI cZ a b nw _ u21 3 0 _ h hb4) (cwV 3 hts (gV q_1250 q_1252 q_38 q_75 q_1253) rfl rfl rfl (by decide +kernel) ⟨Nat.le_of_ble_eq_true rfl, Nat.le_of_ble_eq_true rfl⟩) (preV_of (ci := 7) (q := (RX8, TX8, 25)) hK hP hD [0, 1, 2, 3, 4, 5, 6, 7, 8, 9, 10, 11] rfl rfl (by decide) 0 rfl rfl) rfl rfl hl.1 rfl (lv_room (Nat.le_of_ble_eq_true rfl)) dX8_stacks_198 ⟨Nat.zero_le _, Nat.zero_le _⟩) hP hD hS hA [0, 1, 2, 3, 4, 5, 6, 7, 8, 9, 10, 11] [.inl 0, .inl 1, .inl 2, .inl 3, .inl 4, .inl 5, .inl 6, .inl 7, .inl 8, .inl 9, .inl 10, .inl 11] rfl (by decide) (fun _ => rfl) (fun _ => rfl) (fun u36 H locs h hP hD hS => ?_)
              exact W.vret hx hb hr (fun t ht hW => ⟨⟨u36, rfl, h, by rw [ht]; exact hP, va_K.moved hW.alike hK, hD⟩, hS.F ht⟩) hS.2.2 dX8_stacks_201
          · have h := h.2 c30
            refine lv_aload_n hx hb dX8_stacks_173 rfl (lv_at hl 1 rfl) ?_
            refine lv_aload_n hx hb dX8_stacks_174 rfl (lv_at hl 2 rfl) ?_
            refine lv_aload_n hx hb dX8_stacks_175 rfl (lv_at hl 2 rfl) ?_
            refine lv_bipush (v := 24) hx hb dX8_stacks_176 (by decide) ?_
            refine ar_il (f := u21.2) (n := 342) (j := 24) hx hb hK hP 11 rfl (by decide) (okLit (by decide)) dX8_stacks_178 ?_
            refine cl_i (ws' := fun u37 => (wX8s cI cZ a b u37)) (va_runV (As := [.ref (b 0), .int (u21.2 24)]) (rest := []) ⟨hx, hb, hml, hown, hts⟩ (c_X8_could l D cI cZ a b nw _ u21 (u21.2 24) _ h hb4) (cwV 2 hts (gV q_1270 q_1272 q_43 q_75 q_1273) rfl rfl rfl (by decide +kernel) ⟨Nat.le_of_ble_eq_true rfl, Nat.le_of_ble_eq_true rfl⟩) (preV_of (ci := 7) (q := (RX8, TX8, 25)) hK hP hD [0, 1, 2, 3, 4, 5, 6, 7, 8, 9, 10, 11] rfl rfl (by decide) 0 rfl rfl) rfl rfl hl.1 rfl (lv_room (Nat.le_of_ble_eq_true rfl)) dX8_stacks_179 ⟨Nat.zero_le _, Nat.zero_le _⟩) hP hD hS hA [0, 1, 2, 3, 4, 5, 6, 7, 8, 9, 10, 11] [.inl 0, .inl 1, .inl 2, .inl 3, .inl 4, .inl 5, .inl 6, .inl 7, .inl 8, .inl 9, .inl 10, .inl 11] rfl (by decide) (fun _ => rfl) (fun _ => rfl) (fun r38 u37 H locs h hP hD hS => ?_)
            refine lv_if_eq (tgt := 190) hx hb dX8_stacks_182 (by decide) (fun c39 => ?_) (fun c39 => ?_)
            · have h := h.1 c39
              refine lv_iload_n hx hb dX8_stacks_190 rfl (lv_at hl 0 rfl) ?_
              refine lv_if_ge (tgt := 202) hx hb dX8_stacks_191 (by decide) (fun c40 => ?_) (fun c40 => ?_)
              · have h := h.1 c40
                refine lv_iload_n hx hb dX8_stacks_202 rfl (lv_at hl 0 rfl) ?_
                refine lv_aload_n hx hb dX8_stacks_203 rfl (lv_at hl 2 rfl) ?_
                refine lv_bipush (v := 24) hx hb dX8_stacks_204 (by decide) ?_
                refine ar_il (f := u37.2) (n := 342) (j := 24) hx hb hK hP 11 rfl (by decide) (okLit (by decide)) dX8_stacks_206 ?_
                refine lv_icmp_eq (tgt := 215) hx hb dX8_stacks_207 (by decide) (fun c41 => ?_) (fun c41 => ?_)
                · have h := h.1 c41
                  refine lv_aload_n hx hb dX8_stacks_215 rfl (lv_at hl 1 rfl) ?_
                  refine lv_aload_n hx hb dX8_stacks_216 rfl (lv_at hl 2 rfl) ?_
                  refine lv_iload_n hx hb dX8_stacks_217 rfl (lv_at hl 0 rfl) ?_
                  refine lv_iconst (v := 0) hx hb dX8_stacks_218 (by decide) ?_
                  refine cl_v (ws' := fun u42 => (wX8s cI cZ a b u42)) (va_runV (As := [.ref (b 0), .int r22, .int 0]) (rest := []) ⟨hx, hb, hml, hown, hts⟩ (c_X8_begins l D cI cZ a b nw _ u37 r22 0 _ h hb4) (cwV 3 hts (gV q_1282 q_1284 q_46 q_75 q_1285) rfl rfl rfl (by decide +kernel) ⟨Nat.le_of_ble_eq_true rfl, Nat.le_of_ble_eq_true rfl⟩) (preV_of (ci := 7) (q := (RX8, TX8, 25)) hK hP hD [0, 1, 2, 3, 4, 5, 6, 7, 8, 9, 10, 11] rfl rfl (by decide) 0 rfl rfl) rfl rfl hl.1 rfl (lv_room (Nat.le_of_ble_eq_true rfl)) dX8_stacks_219 ⟨Nat.zero_le _, Nat.zero_le _⟩) hP hD hS hA [0, 1, 2, 3, 4, 5, 6, 7, 8, 9, 10, 11] [.inl 0, .inl 1, .inl 2, .inl 3, .inl 4, .inl 5, .inl 6, .inl 7, .inl 8, .inl 9, .inl 10, .inl 11] rfl (by decide) (fun _ => rfl) (fun _ => rfl) (fun u42 H locs h hP hD hS => ?_)
                  exact W.vret hx hb hr (fun t ht hW => ⟨⟨u42, rfl, h, by rw [ht]; exact hP, va_K.moved hW.alike hK, hD⟩, hS.F ht⟩) hS.2.2 dX8_stacks_222
                · have h := h.2 c41
                  refine lv_aload_n hx hb dX8_stacks_210 rfl (lv_at hl 1 rfl) ?_
                  refine lv_iconst (v := 3) hx hb dX8_stacks_211 (by decide) ?_
                  refine cl_v (ws' := fun u43 => (wX8s cI cZ a b u43)) (va_runV (As := [.int 3]) (rest := []) ⟨hx, hb, hml, hown, hts⟩ (c_X8_counts l D cI cZ a b nw _ u37 3 _ h hb4) (cwV 1 hts (gV q_1193 q_1195 q_31 q_75 q_1196) rfl rfl rfl (by decide +kernel) ⟨Nat.le_of_ble_eq_true rfl, Nat.le_of_ble_eq_true rfl⟩) (preV_of (ci := 7) (q := (RX8, TX8, 25)) hK hP hD [0, 1, 2, 3, 4, 5, 6, 7, 8, 9, 10, 11] rfl rfl (by decide) 0 rfl rfl) rfl rfl hl.1 rfl (lv_room (Nat.le_of_ble_eq_true rfl)) dX8_stacks_212 ⟨Nat.zero_le _, Nat.zero_le _⟩) hP hD hS hA [0, 1, 2, 3, 4, 5, 6, 7, 8, 9, 10, 11] [.inl 0, .inl 1, .inl 2, .inl 3, .inl 4, .inl 5, .inl 6, .inl 7, .inl 8, .inl 9, .inl 10, .inl 11] rfl (by decide) (fun _ => rfl) (fun _ => rfl) (fun u43 H locs h hP hD hS => ?_)
                  refine lv_aload_n hx hb dX8_stacks_215 rfl (lv_at hl 1 rfl) ?_
                  refine lv_aload_n hx hb dX8_stacks_216 rfl (lv_at hl 2 rfl) ?_
                  refine lv_iload_n hx hb dX8_stacks_217 rfl (lv_at hl 0 rfl) ?_
                  refine lv_iconst (v := 0) hx hb dX8_stacks_218 (by decide) ?_
                  refine cl_v (ws' := fun u44 => (wX8s cI cZ a b u44)) (va_runV (As := [.ref (b 0), .int r22, .int 0]) (rest := []) ⟨hx, hb, hml, hown, hts⟩ (c_X8_begins l D cI cZ a b nw _ u43 r22 0 _ h hb4) (cwV 3 hts (gV q_1282 q_1284 q_46 q_75 q_1285) rfl rfl rfl (by decide +kernel) ⟨Nat.le_of_ble_eq_true rfl, Nat.le_of_ble_eq_true rfl⟩) (preV_of (ci := 7) (q := (RX8, TX8, 25)) hK hP hD [0, 1, 2, 3, 4, 5, 6, 7, 8, 9, 10, 11] rfl rfl (by decide) 0 rfl rfl) rfl rfl hl.1 rfl (lv_room (Nat.le_of_ble_eq_true rfl)) dX8_stacks_219 ⟨Nat.zero_le _, Nat.zero_le _⟩) hP hD hS hA [0, 1, 2, 3, 4, 5, 6, 7, 8, 9, 10, 11] [.inl 0, .inl 1, .inl 2, .inl 3, .inl 4, .inl 5, .inl 6, .inl 7, .inl 8, .inl 9, .inl 10, .inl 11] rfl (by decide) (fun _ => rfl) (fun _ => rfl) (fun u44 H locs h hP hD hS => ?_)
                  exact W.vret hx hb hr (fun t ht hW => ⟨⟨u44, rfl, h, by rw [ht]; exact hP, va_K.moved hW.alike hK, hD⟩, hS.F ht⟩) hS.2.2 dX8_stacks_222
              · have h := h.2 c40
                refine lv_aload_n hx hb dX8_stacks_194 rfl (lv_at hl 1 rfl) ?_
                refine lv_aload_n hx hb dX8_stacks_195 rfl (lv_at hl 2 rfl) ?_
                refine lv_iconst (v := 3) hx hb dX8_stacks_196 (by decide) ?_
                refine lv_iconst (v := 0) hx hb dX8_stacks_197 (by decide) ?_
                refine cl_v (ws' := fun u45 => (wX8s cI cZ a b u45)) (va_runV (As := [.ref (b 0), .int 3, .int 0]) (rest := []) ⟨hx, hb, hml, hown, hts⟩ (c_X8_turns l D cI cZ a b nw _ u37 3 0 _ h hb4) (cwV 3 hts (gV q_1250 q_1252 q_38 q_75 q_1253) rfl rfl rfl (by decide +kernel) ⟨Nat.le_of_ble_eq_true rfl, Nat.le_of_ble_eq_true rfl⟩) (preV_of (ci := 7) (q := (RX8, TX8, 25)) hK hP hD [0, 1, 2, 3, 4, 5, 6, 7, 8, 9, 10, 11] rfl rfl (by decide) 0 rfl rfl) rfl rfl hl.1 rfl (lv_room (Nat.le_of_ble_eq_true rfl)) dX8_stacks_198 ⟨Nat.zero_le _, Nat.zero_le _⟩) hP hD hS hA [0, 1, 2, 3, 4, 5, 6, 7, 8, 9, 10, 11] [.inl 0, .inl 1, .inl 2, .inl 3, .inl 4, .inl 5, .inl 6, .inl 7, .inl 8, .inl 9, .inl 10, .inl 11] rfl (by decide) (fun _ => rfl) (fun _ => rfl) (fun u45 H locs h hP hD hS => ?_)
                exact W.vret hx hb hr (fun t ht hW => ⟨⟨u45, rfl, h, by rw [ht]; exact hP, va_K.moved hW.alike hK, hD⟩, hS.F ht⟩) hS.2.2 dX8_stacks_201
            · have h := h.2 c39
              refine lv_aload_n hx hb dX8_stacks_185 rfl (lv_at hl 2 rfl) ?_
              refine lv_bipush (v := 24) hx hb dX8_stacks_186 (by decide) ?_
              refine ar_il (f := u37.2) (n := 342) (j := 24) hx hb hK hP 11 rfl (by decide) (okLit (by decide)) dX8_stacks_188 ?_
              refine lv_topi (fun x46 ex46 => ?_)
              have h := h x46 ex46
              refine lv_istore_n (lv' := [(3, .int x46), (0, .ref (a 0)), (1, .ref (b 0)), (2, .int y2)]) hx hb dX8_stacks_189 rfl hl (by decide) rfl (fun ls hl => ?_)
              refine lv_iload_n hx hb dX8_stacks_190 rfl (lv_at hl 0 rfl) ?_
              refine lv_if_ge (tgt := 202) hx hb dX8_stacks_191 (by decide) (fun c47 => ?_) (fun c47 => ?_)
              · have h := h.1 c47
                refine lv_iload_n hx hb dX8_stacks_202 rfl (lv_at hl 0 rfl) ?_
                refine lv_aload_n hx hb dX8_stacks_203 rfl (lv_at hl 2 rfl) ?_
                refine lv_bipush (v := 24) hx hb dX8_stacks_204 (by decide) ?_
                refine ar_il (f := u37.2) (n := 342) (j := 24) hx hb hK hP 11 rfl (by decide) (okLit (by decide)) dX8_stacks_206 ?_
                refine lv_icmp_eq (tgt := 215) hx hb dX8_stacks_207 (by decide) (fun c48 => ?_) (fun c48 => ?_)
                · have h := h.1 c48
                  refine lv_aload_n hx hb dX8_stacks_215 rfl (lv_at hl 1 rfl) ?_
                  refine lv_aload_n hx hb dX8_stacks_216 rfl (lv_at hl 2 rfl) ?_
                  refine lv_iload_n hx hb dX8_stacks_217 rfl (lv_at hl 0 rfl) ?_
                  refine lv_iconst (v := 0) hx hb dX8_stacks_218 (by decide) ?_
                  refine cl_v (ws' := fun u49 => (wX8s cI cZ a b u49)) (va_runV (As := [.ref (b 0), .int x46, .int 0]) (rest := []) ⟨hx, hb, hml, hown, hts⟩ (c_X8_begins l D cI cZ a b nw _ u37 x46 0 _ h hb4) (cwV 3 hts (gV q_1282 q_1284 q_46 q_75 q_1285) rfl rfl rfl (by decide +kernel) ⟨Nat.le_of_ble_eq_true rfl, Nat.le_of_ble_eq_true rfl⟩) (preV_of (ci := 7) (q := (RX8, TX8, 25)) hK hP hD [0, 1, 2, 3, 4, 5, 6, 7, 8, 9, 10, 11] rfl rfl (by decide) 0 rfl rfl) rfl rfl hl.1 rfl (lv_room (Nat.le_of_ble_eq_true rfl)) dX8_stacks_219 ⟨Nat.zero_le _, Nat.zero_le _⟩) hP hD hS hA [0, 1, 2, 3, 4, 5, 6, 7, 8, 9, 10, 11] [.inl 0, .inl 1, .inl 2, .inl 3, .inl 4, .inl 5, .inl 6, .inl 7, .inl 8, .inl 9, .inl 10, .inl 11] rfl (by decide) (fun _ => rfl) (fun _ => rfl) (fun u49 H locs h hP hD hS => ?_)
                  exact W.vret hx hb hr (fun t ht hW => ⟨⟨u49, rfl, h, by rw [ht]; exact hP, va_K.moved hW.alike hK, hD⟩, hS.F ht⟩) hS.2.2 dX8_stacks_222
                · have h := h.2 c48
                  refine lv_aload_n hx hb dX8_stacks_210 rfl (lv_at hl 1 rfl) ?_
                  refine lv_iconst (v := 3) hx hb dX8_stacks_211 (by decide) ?_
                  refine cl_v (ws' := fun u50 => (wX8s cI cZ a b u50)) (va_runV (As := [.int 3]) (rest := []) ⟨hx, hb, hml, hown, hts⟩ (c_X8_counts l D cI cZ a b nw _ u37 3 _ h hb4) (cwV 1 hts (gV q_1193 q_1195 q_31 q_75 q_1196) rfl rfl rfl (by decide +kernel) ⟨Nat.le_of_ble_eq_true rfl, Nat.le_of_ble_eq_true rfl⟩) (preV_of (ci := 7) (q := (RX8, TX8, 25)) hK hP hD [0, 1, 2, 3, 4, 5, 6, 7, 8, 9, 10, 11] rfl rfl (by decide) 0 rfl rfl) rfl rfl hl.1 rfl (lv_room (Nat.le_of_ble_eq_true rfl)) dX8_stacks_212 ⟨Nat.zero_le _, Nat.zero_le _⟩) hP hD hS hA [0, 1, 2, 3, 4, 5, 6, 7, 8, 9, 10, 11] [.inl 0, .inl 1, .inl 2, .inl 3, .inl 4, .inl 5, .inl 6, .inl 7, .inl 8, .inl 9, .inl 10, .inl 11] rfl (by decide) (fun _ => rfl) (fun _ => rfl) (fun u50 H locs h hP hD hS => ?_)
                  refine lv_aload_n hx hb dX8_stacks_215 rfl (lv_at hl 1 rfl) ?_
                  refine lv_aload_n hx hb dX8_stacks_216 rfl (lv_at hl 2 rfl) ?_
                  refine lv_iload_n hx hb dX8_stacks_217 rfl (lv_at hl 0 rfl) ?_
                  refine lv_iconst (v := 0) hx hb dX8_stacks_218 (by decide) ?_
                  refine cl_v (ws' := fun u51 => (wX8s cI cZ a b u51)) (va_runV (As := [.ref (b 0), .int x46, .int 0]) (rest := []) ⟨hx, hb, hml, hown, hts⟩ (c_X8_begins l D cI cZ a b nw _ u50 x46 0 _ h hb4) (cwV 3 hts (gV q_1282 q_1284 q_46 q_75 q_1285) rfl rfl rfl (by decide +kernel) ⟨Nat.le_of_ble_eq_true rfl, Nat.le_of_ble_eq_true rfl⟩) (preV_of (ci := 7) (q := (RX8, TX8, 25)) hK hP hD [0, 1, 2, 3, 4, 5, 6, 7, 8, 9, 10, 11] rfl rfl (by decide) 0 rfl rfl) rfl rfl hl.1 rfl (lv_room (Nat.le_of_ble_eq_true rfl)) dX8_stacks_219 ⟨Nat.zero_le _, Nat.zero_le _⟩) hP hD hS hA [0, 1, 2, 3, 4, 5, 6, 7, 8, 9, 10, 11] [.inl 0, .inl 1, .inl 2, .inl 3, .inl 4, .inl 5, .inl 6, .inl 7, .inl 8, .inl 9, .inl 10, .inl 11] rfl (by decide) (fun _ => rfl) (fun _ => rfl) (fun u51 H locs h hP hD hS => ?_)
                  exact W.vret hx hb hr (fun t ht hW => ⟨⟨u51, rfl, h, by rw [ht]; exact hP, va_K.moved hW.alike hK, hD⟩, hS.F ht⟩) hS.2.2 dX8_stacks_222
              · have h := h.2 c47
                refine lv_aload_n hx hb dX8_stacks_194 rfl (lv_at hl 1 rfl) ?_
                refine lv_aload_n hx hb dX8_stacks_195 rfl (lv_at hl 2 rfl) ?_
                refine lv_iconst (v := 3) hx hb dX8_stacks_196 (by decide) ?_
                refine lv_iconst (v := 0) hx hb dX8_stacks_197 (by decide) ?_
                refine cl_v (ws' := fun u52 => (wX8s cI cZ a b u52)) (va_runV (As := [.ref (b 0), .int 3, .int 0]) (rest := []) ⟨hx, hb, hml, hown, hts⟩ (c_X8_turns l D cI cZ a b nw _ u37 3 0 _ h hb4) (cwV 3 hts (gV q_1250 q_1252 q_38 q_75 q_1253) rfl rfl rfl (by decide +kernel) ⟨Nat.le_of_ble_eq_true rfl, Nat.le_of_ble_eq_true rfl⟩) (preV_of (ci := 7) (q := (RX8, TX8, 25)) hK hP hD [0, 1, 2, 3, 4, 5, 6, 7, 8, 9, 10, 11] rfl rfl (by decide) 0 rfl rfl) rfl rfl hl.1 rfl (lv_room (Nat.le_of_ble_eq_true rfl)) dX8_stacks_198 ⟨Nat.zero_le _, Nat.zero_le _⟩) hP hD hS hA [0, 1, 2, 3, 4, 5, 6, 7, 8, 9, 10, 11] [.inl 0, .inl 1, .inl 2, .inl 3, .inl 4, .inl 5, .inl 6, .inl 7, .inl 8, .inl 9, .inl 10, .inl 11] rfl (by decide) (fun _ => rfl) (fun _ => rfl) (fun u52 H locs h hP hD hS => ?_)
                exact W.vret hx hb hr (fun t ht hW => ⟨⟨u52, rfl, h, by rw [ht]; exact hP, va_K.moved hW.alike hK, hD⟩, hS.F ht⟩) hS.2.2 dX8_stacks_201
      · have h := h.2 c20
        exact W.vret hx hb hr (fun t ht hW => ⟨⟨(T.1, T19), rfl, h, by rw [ht]; exact hP, va_K.moved hW.alike hK, hD⟩, hS.F ht⟩) hS.2.2 dX8_stacks_146
    · have h := h.2 c18
      exact W.vret hx hb hr (fun t ht hW => ⟨⟨T, rfl, h, by rw [ht]; exact hP, va_K.moved hW.alike hK, hD⟩, hS.F ht⟩) hS.2.2 dX8_stacks_133
  have L118 : ∀ (y2 : Int32) (z0 : Int32) (z1 : Int32) (T : Ob × (Nat → Int32)) (H : Heap) (locs : List Loc) (ls : Array Slot), va_P D vwCl (wX8s cI cZ a b T) H → va_D A (wX8s cI cZ a b T) → va_S A s.heap H locs → lv_has ls 4 [(0, .ref (a 0)), (1, .ref (b 0)), (2, .int y2)] → wp_X8_stacks_L118 nw Q y2 z0 z1 T → W p l e rmX8_stacks s m ([.ref (a 0), .ref (b 0)] : List Value).toArray below meth c H locs 0 0 (MQ below (va_Qv Q (fun u => atW D cI cZ A (wX8s cI cZ a b u)) A) ([.ref (a 0), .ref (b 0)] : List Value).toArray s 0 0 A) (F0 m 118 ls [.int z0, .int z1, .ref (b 0)]) := by
    intro y2 z0 z1 T H locs ls hP hD hS hl h
    unfold wp_X8_stacks_L118 at h
    obtain ⟨T16, eT16⟩ : ∃ z : (Nat → Int32), z = (upd T.2 (Int32.toNatClampNeg z1) z0) := ⟨_, rfl⟩
    refine ar_is (f := T.2) (n := 342) (j := (Int32.toNatClampNeg z1)) (x := z0) hx hb hK hP hD hS 11 rfl rfl h.1 dX8_stacks_118 (wX8s cI cZ a b (T.1, T16)) (by subst eT16; rfl) (fun H locs hP hD hS => ?_)
    have h := h.2
    have h := h T16 eT16
    refine lv_aload_n hx hb dX8_stacks_119 rfl (lv_at hl 0 rfl) ?_
    refine lv_aload_n hx hb dX8_stacks_120 rfl (lv_at hl 1 rfl) ?_
    refine lv_iconst (v := 1) hx hb dX8_stacks_121 (by decide) ?_
    refine cl_v (ws' := fun u17 => (wX8s cI cZ a b u17)) (va_runV (As := [.ref (b 0), .int 1]) (rest := []) ⟨hx, hb, hml, hown, hts⟩ (c_X8_rises l D cI cZ a b nw _ (T.1, T16) 1 _ h hb4) (cwV 2 hts (gV q_1278 q_1280 q_45 q_75 q_1281) rfl rfl rfl (by decide +kernel) ⟨Nat.le_of_ble_eq_true rfl, Nat.le_of_ble_eq_true rfl⟩) (preV_of (ci := 7) (q := (RX8, TX8, 25)) hK hP hD [0, 1, 2, 3, 4, 5, 6, 7, 8, 9, 10, 11] rfl rfl (by decide) 0 rfl rfl) rfl rfl hl.1 rfl (lv_room (Nat.le_of_ble_eq_true rfl)) dX8_stacks_122 ⟨Nat.zero_le _, Nat.zero_le _⟩) hP hD hS hA [0, 1, 2, 3, 4, 5, 6, 7, 8, 9, 10, 11] [.inl 0, .inl 1, .inl 2, .inl 3, .inl 4, .inl 5, .inl 6, .inl 7, .inl 8, .inl 9, .inl 10, .inl 11] rfl (by decide) (fun _ => rfl) (fun _ => rfl) (fun u17 H locs h hP hD hS => ?_)
    exact L125 y2 u17 _ _ _ hP hD hS (lv_sub hl [0, 1, 2] rfl) h
  have L45 : ∀ (y2 : Int32) (T : Ob × (Nat → Int32)) (H : Heap) (locs : List Loc) (ls : Array Slot), va_P D vwCl (wX8s cI cZ a b T) H → va_D A (wX8s cI cZ a b T) → va_S A s.heap H locs → lv_has ls 4 [(0, .ref (a 0)), (1, .ref (b 0)), (2, .int y2)] → wp_X8_stacks_L45 nw Q y2 T → W p l e rmX8_stacks s m ([.ref (a 0), .ref (b 0)] : List Value).toArray below meth c H locs 0 0 (MQ below (va_Qv Q (fun u => atW D cI cZ A (wX8s cI cZ a b u)) A) ([.ref (a 0), .ref (b 0)] : List Value).toArray s 0 0 A) (F0 m 45 ls []) := by
    intro y2 T H locs ls hP hD hS hl h
    unfold wp_X8_stacks_L45 at h
    refine lv_aload_n hx hb dX8_stacks_45 rfl (lv_at hl 1 rfl) ?_
    refine lv_bipush (v := 20) hx hb dX8_stacks_46 (by decide) ?_
    refine ar_il (f := T.2) (n := 342) (j := 20) hx hb hK hP 11 rfl (by decide) (okLit (by decide)) dX8_stacks_48 ?_
    refine lv_iconst (v := 5) hx hb dX8_stacks_49 (by decide) ?_
    refine lv_icmp_ne (tgt := 54) hx hb dX8_stacks_50 (by decide) (fun c10 => ?_) (fun c10 => ?_)
    · have h := h.1 c10
      refine lv_aload_n hx hb dX8_stacks_54 rfl (lv_at hl 0 rfl) ?_
      refine lv_aload_n hx hb dX8_stacks_55 rfl (lv_at hl 1 rfl) ?_
      refine lv_iconst (v := 1) hx hb dX8_stacks_56 (by decide) ?_
      refine cl_i (ws' := fun u11 => (wX8s cI cZ a b u11)) (va_runV (As := [.ref (b 0), .int 1]) (rest := []) ⟨hx, hb, hml, hown, hts⟩ (c_X8_hasRoom l D cI cZ a b nw _ T 1 _ h hb4) (cwV 2 hts (gV q_1258 q_1260 q_40 q_75 q_1261) rfl rfl rfl (by decide +kernel) ⟨Nat.le_of_ble_eq_true rfl, Nat.le_of_ble_eq_true rfl⟩) (preV_of (ci := 7) (q := (RX8, TX8, 25)) hK hP hD [0, 1, 2, 3, 4, 5, 6, 7, 8, 9, 10, 11] rfl rfl (by decide) 0 rfl rfl) rfl rfl hl.1 rfl (lv_room (Nat.le_of_ble_eq_true rfl)) dX8_stacks_57 ⟨Nat.zero_le _, Nat.zero_le _⟩) hP hD hS hA [0, 1, 2, 3, 4, 5, 6, 7, 8, 9, 10, 11] [.inl 0, .inl 1, .inl 2, .inl 3, .inl 4, .inl 5, .inl 6, .inl 7, .inl 8, .inl 9, .inl 10, .inl 11] rfl (by decide) (fun _ => rfl) (fun _ => rfl) (fun r12 u11 H locs h hP hD hS => ?_)
      refine lv_if_eq (tgt := 125) hx hb dX8_stacks_60 (by decide) (fun c13 => ?_) (fun c13 => ?_)
      · have h := h.1 c13
        exact L125 y2 u11 _ _ _ hP hD hS (lv_sub hl [0, 1, 2] rfl) h
      · have h := h.2 c13
        refine lv_aload_n hx hb dX8_stacks_63 rfl (lv_at hl 1 rfl) ?_
        refine lv_bipush (v := 56) hx hb dX8_stacks_64 (by decide) ?_
        refine lv_aload_n hx hb dX8_stacks_66 rfl (lv_at hl 1 rfl) ?_
        refine lv_bipush (v := 15) hx hb dX8_stacks_67 (by decide) ?_
        refine ar_il (f := u11.2) (n := 342) (j := 15) hx hb hK hP 11 rfl (by decide) (okLit (by decide)) dX8_stacks_69 ?_
        refine lv_iadd hx hb dX8_stacks_70 ?_
        refine lv_iload_n hx hb dX8_stacks_71 rfl (lv_at hl 2 rfl) ?_
        refine lv_iconst (v := 4) hx hb dX8_stacks_72 (by decide) ?_
        refine lv_icmp_ge (tgt := 84) hx hb dX8_stacks_73 (by decide) (fun c14 => ?_) (fun c14 => ?_)
        · have h := h.1 c14
          refine lv_iload_n hx hb dX8_stacks_84 rfl (lv_at hl 2 rfl) ?_
          refine lv_iconst (v := 4) hx hb dX8_stacks_85 (by decide) ?_
          refine lv_icmp_ne (tgt := 96) hx hb dX8_stacks_86 (by decide) (fun c15 => ?_) (fun c15 => ?_)
          · have h := h.1 c15
            refine lv_sipush (v := 23040) hx hb dX8_stacks_96 (by decide) ?_
            refine lv_aload_n hx hb dX8_stacks_99 rfl (lv_at hl 1 rfl) ?_
            refine lv_bipush (v := 13) hx hb dX8_stacks_100 (by decide) ?_
            refine ar_il (f := u11.2) (n := 342) (j := 13) hx hb hK hP 11 rfl (by decide) (okLit (by decide)) dX8_stacks_102 ?_
            refine lv_iadd hx hb dX8_stacks_103 ?_
            refine lv_iconst (v := 2) hx hb dX8_stacks_104 (by decide) ?_
            refine lv_aload_n hx hb dX8_stacks_105 rfl (lv_at hl 1 rfl) ?_
            refine lv_bipush (v := 14) hx hb dX8_stacks_106 (by decide) ?_
            refine ar_il (f := u11.2) (n := 342) (j := 14) hx hb hK hP 11 rfl (by decide) (okLit (by decide)) dX8_stacks_108 ?_
            refine lv_imul hx hb dX8_stacks_109 ?_
            refine lv_iadd hx hb dX8_stacks_110 ?_
            refine lv_iconst (v := 4) hx hb dX8_stacks_111 (by decide) ?_
            refine lv_aload_n hx hb dX8_stacks_112 rfl (lv_at hl 1 rfl) ?_
            refine lv_bipush (v := 29) hx hb dX8_stacks_113 (by decide) ?_
            refine ar_il (f := u11.2) (n := 342) (j := 29) hx hb hK hP 11 rfl (by decide) (okLit (by decide)) dX8_stacks_115 ?_
            refine lv_imul hx hb dX8_stacks_116 ?_
            refine lv_iadd hx hb dX8_stacks_117 ?_
            exact L118 y2 (((23040 + (u11.2 13)) + (2 * (u11.2 14))) + (4 * (u11.2 29))) (56 + (u11.2 15)) u11 _ _ _ hP hD hS (lv_sub hl [0, 1, 2] rfl) h
          · have h := h.2 c15
            refine lv_aload_n hx hb dX8_stacks_89 rfl (lv_at hl 1 rfl) ?_
            refine lv_bipush (v := 12) hx hb dX8_stacks_90 (by decide) ?_
            refine ar_il (f := u11.2) (n := 342) (j := 12) hx hb hK hP 11 rfl (by decide) (okLit (by decide)) dX8_stacks_92 ?_
            refine lv_goto (tgt := 118) hx hb dX8_stacks_93 (by decide) ?_
            exact L118 y2 (u11.2 12) (56 + (u11.2 15)) u11 _ _ _ hP hD hS (lv_sub hl [0, 1, 2] rfl) h
        · have h := h.2 c14
          refine lv_aload_n hx hb dX8_stacks_76 rfl (lv_at hl 1 rfl) ?_
          refine lv_iconst (v := 0) hx hb dX8_stacks_77 (by decide) ?_
          refine lv_iload_n hx hb dX8_stacks_78 rfl (lv_at hl 2 rfl) ?_
          refine lv_iadd hx hb dX8_stacks_79 ?_
          refine ar_il (f := u11.2) (n := 342) (j := (Int32.toNatClampNeg (0 + y2))) hx hb hK hP 11 rfl rfl h.1 dX8_stacks_80 ?_
          have h := h.2
          refine lv_goto (tgt := 118) hx hb dX8_stacks_81 (by decide) ?_
          exact L118 y2 (u11.2 (Int32.toNatClampNeg (0 + y2))) (56 + (u11.2 15)) u11 _ _ _ hP hD hS (lv_sub hl [0, 1, 2] rfl) h
    · have h := h.2 c10
      exact W.vret hx hb hr (fun t ht hW => ⟨⟨T, rfl, h, by rw [ht]; exact hP, va_K.moved hW.alike hK, hD⟩, hS.F ht⟩) hS.2.2 dX8_stacks_53
  have hl := lv_entry ([.ref (a 0), .ref (b 0)]) (n := 4) (Nat.le_of_ble_eq_true rfl)
  rw [lg_entry_eq]
  generalize (lg_sl ([.ref (a 0), .ref (b 0)]) ++ List.replicate (4 - (lg_sl ([.ref (a 0), .ref (b 0)])).length) Slot.unset).toArray = ls at hl ⊢
  have hl : lv_has ls 4 [(0, .ref (a 0)), (1, .ref (b 0))] := hl
  unfold wp_X8_stacks at h
  refine lv_aload_n hx hb dX8_stacks_0 rfl (lv_at hl 1 rfl) ?_
  refine lv_bipush (v := 21) hx hb dX8_stacks_1 (by decide) ?_
  refine ar_il (f := S.2) (n := 342) (j := 21) hx hb hK hP 11 rfl (by decide) (okLit (by decide)) dX8_stacks_3 ?_
  refine lv_topi (fun x1 ex1 => ?_)
  have h := h x1 ex1
  refine lv_istore_n (lv' := [(2, .int x1), (0, .ref (a 0)), (1, .ref (b 0))]) hx hb dX8_stacks_4 rfl hl (by decide) rfl (fun ls hl => ?_)
  refine lv_iload_n hx hb dX8_stacks_5 rfl (lv_at hl 0 rfl) ?_
  refine lv_if_ne (tgt := 45) hx hb dX8_stacks_6 (by decide) (fun c2 => ?_) (fun c2 => ?_)
  · have h := h.1 c2
    exact L45 x1 S _ _ _ hP hD hS (lv_sub hl [1, 2, 0] rfl) h
  · have h := h.2 c2
    refine lv_aload_n hx hb dX8_stacks_9 rfl (lv_at hl 2 rfl) ?_
    refine lv_bipush (v := 18) hx hb dX8_stacks_10 (by decide) ?_
    refine ar_il (f := S.2) (n := 342) (j := 18) hx hb hK hP 11 rfl (by decide) (okLit (by decide)) dX8_stacks_12 ?_
    refine lv_iconst (v := 1) hx hb dX8_stacks_13 (by decide) ?_
    refine lv_icmp_ne (tgt := 45) hx hb dX8_stacks_14 (by decide) (fun c3 => ?_) (fun c3 => ?_)
    · have h := h.1 c3
      exact L45 x1 S _ _ _ hP hD hS (lv_sub hl [1, 2, 0] rfl) h
    · have h := h.2 c3
      refine lv_aload_n hx hb dX8_stacks_17 rfl (lv_at hl 1 rfl) ?_
      refine lv_aload_n hx hb dX8_stacks_18 rfl (lv_at hl 2 rfl) ?_
      refine lv_iconst (v := 4) hx hb dX8_stacks_19 (by decide) ?_
      refine cl_i (ws' := fun u4 => (wX8s cI cZ a b u4)) (va_runV (As := [.ref (b 0), .int 4]) (rest := []) ⟨hx, hb, hml, hown, hts⟩ (c_X8_hasRoom l D cI cZ a b nw _ S 4 _ h hb4) (cwV 2 hts (gV q_1258 q_1260 q_40 q_75 q_1261) rfl rfl rfl (by decide +kernel) ⟨Nat.le_of_ble_eq_true rfl, Nat.le_of_ble_eq_true rfl⟩) (preV_of (ci := 7) (q := (RX8, TX8, 25)) hK hP hD [0, 1, 2, 3, 4, 5, 6, 7, 8, 9, 10, 11] rfl rfl (by decide) 0 rfl rfl) rfl rfl hl.1 rfl (lv_room (Nat.le_of_ble_eq_true rfl)) dX8_stacks_20 ⟨Nat.zero_le _, Nat.zero_le _⟩) hP hD hS hA [0, 1, 2, 3, 4, 5, 6, 7, 8, 9, 10, 11] [.inl 0, .inl 1, .inl 2, .inl 3, .inl 4, .inl 5, .inl 6, .inl 7, .inl 8, .inl 9, .inl 10, .inl 11] rfl (by decide) (fun _ => rfl) (fun _ => rfl) (fun r5 u4 H locs h hP hD hS => ?_)
      refine lv_if_eq (tgt := 45) hx hb dX8_stacks_23 (by decide) (fun c6 => ?_) (fun c6 => ?_)
      · have h := h.1 c6
        exact L45 x1 u4 _ _ _ hP hD hS (lv_sub hl [1, 2, 0] rfl) h
      · have h := h.2 c6
        refine lv_aload_n hx hb dX8_stacks_26 rfl (lv_at hl 2 rfl) ?_
        refine lv_bipush (v := 19) hx hb dX8_stacks_27 (by decide) ?_
        refine lv_aload_n hx hb dX8_stacks_29 rfl (lv_at hl 2 rfl) ?_
        refine lv_bipush (v := 15) hx hb dX8_stacks_30 (by decide) ?_
        refine ar_il (f := u4.2) (n := 342) (j := 15) hx hb hK hP 11 rfl (by decide) (okLit (by decide)) dX8_stacks_32 ?_
        obtain ⟨T7, eT7⟩ : ∃ z : (Nat → Int32), z = (upd u4.2 19 (u4.2 15)) := ⟨_, rfl⟩
        refine ar_is (f := u4.2) (n := 342) (j := 19) (x := (u4.2 15)) hx hb hK hP hD hS 11 rfl (by decide) (okLit (by decide)) dX8_stacks_33 (wX8s cI cZ a b (u4.1, T7)) (by subst eT7; rfl) (fun H locs hP hD hS => ?_)
        have h := h T7 eT7
        refine lv_aload_n hx hb dX8_stacks_34 rfl (lv_at hl 2 rfl) ?_
        refine lv_bipush (v := 29) hx hb dX8_stacks_35 (by decide) ?_
        refine lv_iconst (v := 1) hx hb dX8_stacks_37 (by decide) ?_
        obtain ⟨T8, eT8⟩ : ∃ z : (Nat → Int32), z = (upd T7 29 1) := ⟨_, rfl⟩
        refine ar_is (f := T7) (n := 342) (j := 29) (x := 1) hx hb hK hP hD hS 11 rfl (by decide) (okLit (by decide)) dX8_stacks_38 (wX8s cI cZ a b (u4.1, T8)) (by subst eT8; rfl) (fun H locs hP hD hS => ?_)
        have h := h T8 eT8
        refine lv_aload_n hx hb dX8_stacks_39 rfl (lv_at hl 1 rfl) ?_
        refine lv_aload_n hx hb dX8_stacks_40 rfl (lv_at hl 2 rfl) ?_
        refine lv_iconst (v := 4) hx hb dX8_stacks_41 (by decide) ?_
        refine cl_v (ws' := fun u9 => (wX8s cI cZ a b u9)) (va_runV (As := [.ref (b 0), .int 4]) (rest := []) ⟨hx, hb, hml, hown, hts⟩ (c_X8_rises l D cI cZ a b nw _ (u4.1, T8) 4 _ h hb4) (cwV 2 hts (gV q_1278 q_1280 q_45 q_75 q_1281) rfl rfl rfl (by decide +kernel) ⟨Nat.le_of_ble_eq_true rfl, Nat.le_of_ble_eq_true rfl⟩) (preV_of (ci := 7) (q := (RX8, TX8, 25)) hK hP hD [0, 1, 2, 3, 4, 5, 6, 7, 8, 9, 10, 11] rfl rfl (by decide) 0 rfl rfl) rfl rfl hl.1 rfl (lv_room (Nat.le_of_ble_eq_true rfl)) dX8_stacks_42 ⟨Nat.zero_le _, Nat.zero_le _⟩) hP hD hS hA [0, 1, 2, 3, 4, 5, 6, 7, 8, 9, 10, 11] [.inl 0, .inl 1, .inl 2, .inl 3, .inl 4, .inl 5, .inl 6, .inl 7, .inl 8, .inl 9, .inl 10, .inl 11] rfl (by decide) (fun _ => rfl) (fun _ => rfl) (fun u9 H locs h hP hD hS => ?_)
        exact L45 x1 u9 _ _ _ hP hD hS (lv_sub hl [1, 2, 0] rfl) h
/-! X8_saves -/
abbrev rmX8_saves : Room := { frames := 1, cells := 0, slots := 0, locals := 23 }
set_option maxHeartbeats 4000000 in
set_option maxRecDepth 100000 in
theorem c_X8_saves (l : Launch) (D : va_G) (cI cZ : ClassId) (a : Nat → Nat) (b : Nat → Nat) (nw : Bool) (sz : Nat) (S : Ob × (Nat → Int32)) (Q : (Ob × (Nat → Int32)) → Prop) (h : wp_X8_saves nw S Q) (hb4 : nw = true → b 0 = a 4) : Met l yX8_saves (wsm yX8_saves cX8_saves 2 none) rmX8_saves (va_Pc [.ref (a 0), .ref (b 0)] (preW D cI cZ sz (wX8s cI cZ a b S))) (va_Qv Q (fun u => atW D cI cZ (va_A (wX8s cI cZ a b S) sz) (wX8s cI cZ a b u)) (va_A (wX8s cI cZ a b S) sz)) 0 0 (va_A (wX8s cI cZ a b S) sz) := by
  refine Met.ofW (cc := cX8_saves) (maxL := 2) (ret := none) (by decide) rfl ?_
  intro p e s m args below meth c s₁ B hml hv
  obtain ⟨rfl, hsz, hP, hK, hD0⟩ := hv
  have hx := B.exec
  have hb := B.bytes
  have hr := B.returns
  have hts0 := atoms_spec (ws := wsm yX8_saves cX8_saves 2 none) B.pre
  have hts : ∀ w ∈ lw_all, w.before _ s = true := fun w h => hts0 w (List.mem_cons_of_mem _ h)
  have hown : s.vm.findClass RX8 = some m.cls := findClass_of_methodNamed B.named
  have hlocks := B.notSynchronized
  subst hsz
  have hD := hD0.self (sz := s.heap.size)
  generalize hAe : va_A (wX8s cI cZ a b S) s.heap.size = A at hD ⊢
  have hA : ∀ q : Nat, s.heap.size ≤ q → A q := fun q h => by rw [← hAe]; exact Or.inr h
  have hS : va_S A s.heap s.heap [] := va_S.rf
  have hml2 := hml
  have hl := lv_entry ([.ref (a 0), .ref (b 0)]) (n := 2) (Nat.le_of_ble_eq_true rfl)
  rw [lg_entry_eq]
  generalize (lg_sl ([.ref (a 0), .ref (b 0)]) ++ List.replicate (2 - (lg_sl ([.ref (a 0), .ref (b 0)])).length) Slot.unset).toArray = ls at hl ⊢
  have hl : lv_has ls 2 [(0, .ref (a 0)), (1, .ref (b 0))] := hl
  unfold wp_X8_saves at h
  refine lv_aload_n hx hb dX8_saves_0 rfl (lv_at hl 1 rfl) ?_
  refine lv_bipush (v := 56) hx hb dX8_saves_1 (by decide) ?_
  refine lv_aload_n hx hb dX8_saves_3 rfl (lv_at hl 1 rfl) ?_
  refine lv_bipush (v := 19) hx hb dX8_saves_4 (by decide) ?_
  refine ar_il (f := S.2) (n := 342) (j := 19) hx hb hK hP 11 rfl (by decide) (okLit (by decide)) dX8_saves_6 ?_
  refine lv_iadd hx hb dX8_saves_7 ?_
  refine lv_aload_n hx hb dX8_saves_8 rfl (lv_at hl 1 rfl) ?_
  refine lv_bipush (v := 21) hx hb dX8_saves_9 (by decide) ?_
  refine ar_il (f := S.2) (n := 342) (j := 21) hx hb hK hP 11 rfl (by decide) (okLit (by decide)) dX8_saves_11 ?_
  refine lv_iadd hx hb dX8_saves_12 ?_
  refine lv_aload_n hx hb dX8_saves_13 rfl (lv_at hl 1 rfl) ?_
  refine lv_bipush (v := 8) hx hb dX8_saves_14 (by decide) ?_
  refine lv_aload_n hx hb dX8_saves_16 rfl (lv_at hl 1 rfl) ?_
  refine lv_bipush (v := 21) hx hb dX8_saves_17 (by decide) ?_
  refine ar_il (f := S.2) (n := 342) (j := 21) hx hb hK hP 11 rfl (by decide) (okLit (by decide)) dX8_saves_19 ?_
  refine lv_iadd hx hb dX8_saves_20 ?_
  refine ar_il (f := S.2) (n := 342) (j := (Int32.toNatClampNeg (8 + (S.2 21)))) hx hb hK hP 11 rfl rfl h.1 dX8_saves_21 ?_
  have h := h.2
  obtain ⟨T1, eT1⟩ : ∃ z : (Nat → Int32), z = (upd S.2 (Int32.toNatClampNeg ((56 + (S.2 19)) + (S.2 21))) (S.2 (Int32.toNatClampNeg (8 + (S.2 21))))) := ⟨_, rfl⟩
  refine ar_is (f := S.2) (n := 342) (j := (Int32.toNatClampNeg ((56 + (S.2 19)) + (S.2 21)))) (x := (S.2 (Int32.toNatClampNeg (8 + (S.2 21))))) hx hb hK hP hD hS 11 rfl rfl h.1 dX8_saves_22 (wX8s cI cZ a b (S.1, T1)) (by subst eT1; rfl) (fun H locs hP hD hS => ?_)
  have h := h.2
  have h := h T1 eT1
  refine lv_aload_n hx hb dX8_saves_23 rfl (lv_at hl 1 rfl) ?_
  refine lv_bipush (v := 21) hx hb dX8_saves_24 (by decide) ?_
  refine lv_dup2_11 hx hb dX8_saves_26 rfl rfl ?_
  refine ar_il (f := T1) (n := 342) (j := 21) hx hb hK hP 11 rfl (by decide) (okLit (by decide)) dX8_saves_27 ?_
  refine lv_iconst (v := 1) hx hb dX8_saves_28 (by decide) ?_
  refine lv_iadd hx hb dX8_saves_29 ?_
  obtain ⟨T2, eT2⟩ : ∃ z : (Nat → Int32), z = (upd T1 21 ((T1 21) + 1)) := ⟨_, rfl⟩
  refine ar_is (f := T1) (n := 342) (j := 21) (x := ((T1 21) + 1)) hx hb hK hP hD hS 11 rfl (by decide) (okLit (by decide)) dX8_saves_30 (wX8s cI cZ a b (S.1, T2)) (by subst eT2; rfl) (fun H locs hP hD hS => ?_)
  have h := h T2 eT2
  refine lv_aload_n hx hb dX8_saves_31 rfl (lv_at hl 1 rfl) ?_
  refine lv_bipush (v := 21) hx hb dX8_saves_32 (by decide) ?_
  refine ar_il (f := T2) (n := 342) (j := 21) hx hb hK hP 11 rfl (by decide) (okLit (by decide)) dX8_saves_34 ?_
  refine lv_iconst (v := 4) hx hb dX8_saves_35 (by decide) ?_
  refine lv_icmp_ge (tgt := 40) hx hb dX8_saves_36 (by decide) (fun c3 => ?_) (fun c3 => ?_)
  · have h := h.1 c3
    refine lv_aload_n hx hb dX8_saves_40 rfl (lv_at hl 1 rfl) ?_
    refine lv_bipush (v := 19) hx hb dX8_saves_41 (by decide) ?_
    refine lv_iconst (v := -1) hx hb dX8_saves_43 (by decide) ?_
    obtain ⟨T4, eT4⟩ : ∃ z : (Nat → Int32), z = (upd T2 19 (-1)) := ⟨_, rfl⟩
    refine ar_is (f := T2) (n := 342) (j := 19) (x := (-1)) hx hb hK hP hD hS 11 rfl (by decide) (okLit (by decide)) dX8_saves_44 (wX8s cI cZ a b (S.1, T4)) (by subst eT4; rfl) (fun H locs hP hD hS => ?_)
    have h := h T4 eT4
    refine lv_aload_n hx hb dX8_saves_45 rfl (lv_at hl 0 rfl) ?_
    refine lv_iconst (v := 5) hx hb dX8_saves_46 (by decide) ?_
    refine cl_v (ws' := fun u5 => (wX8s cI cZ a b u5)) (va_runV (As := [.int 5]) (rest := []) ⟨hx, hb, hml, hown, hts⟩ (c_X8_counts l D cI cZ a b nw _ (S.1, T4) 5 _ h hb4) (cwV 1 hts (gV q_1193 q_1195 q_31 q_75 q_1196) rfl rfl rfl (by decide +kernel) ⟨Nat.le_of_ble_eq_true rfl, Nat.le_of_ble_eq_true rfl⟩) (preV_of (ci := 7) (q := (RX8, TX8, 25)) hK hP hD [0, 1, 2, 3, 4, 5, 6, 7, 8, 9, 10, 11] rfl rfl (by decide) 0 rfl rfl) rfl rfl hl.1 rfl (lv_room (Nat.le_of_ble_eq_true rfl)) dX8_saves_47 ⟨Nat.zero_le _, Nat.zero_le _⟩) hP hD hS hA [0, 1, 2, 3, 4, 5, 6, 7, 8, 9, 10, 11] [.inl 0, .inl 1, .inl 2, .inl 3, .inl 4, .inl 5, .inl 6, .inl 7, .inl 8, .inl 9, .inl 10, .inl 11] rfl (by decide) (fun _ => rfl) (fun _ => rfl) (fun u5 H locs h hP hD hS => ?_)
    refine lv_aload_n hx hb dX8_saves_50 rfl (lv_at hl 0 rfl) ?_
    refine lv_aload_n hx hb dX8_saves_51 rfl (lv_at hl 1 rfl) ?_
    refine lv_iconst (v := 0) hx hb dX8_saves_52 (by decide) ?_
    refine lv_iconst (v := 0) hx hb dX8_saves_53 (by decide) ?_
    refine cl_v (ws' := fun u6 => (wX8s cI cZ a b u6)) (va_runV (As := [.ref (b 0), .int 0, .int 0]) (rest := []) ⟨hx, hb, hml, hown, hts⟩ (c_X8_turns l D cI cZ a b nw _ u5 0 0 _ h hb4) (cwV 3 hts (gV q_1250 q_1252 q_38 q_75 q_1253) rfl rfl rfl (by decide +kernel) ⟨Nat.le_of_ble_eq_true rfl, Nat.le_of_ble_eq_true rfl⟩) (preV_of (ci := 7) (q := (RX8, TX8, 25)) hK hP hD [0, 1, 2, 3, 4, 5, 6, 7, 8, 9, 10, 11] rfl rfl (by decide) 0 rfl rfl) rfl rfl hl.1 rfl (lv_room (Nat.le_of_ble_eq_true rfl)) dX8_saves_54 ⟨Nat.zero_le _, Nat.zero_le _⟩) hP hD hS hA [0, 1, 2, 3, 4, 5, 6, 7, 8, 9, 10, 11] [.inl 0, .inl 1, .inl 2, .inl 3, .inl 4, .inl 5, .inl 6, .inl 7, .inl 8, .inl 9, .inl 10, .inl 11] rfl (by decide) (fun _ => rfl) (fun _ => rfl) (fun u6 H locs h hP hD hS => ?_)
    exact W.vret hx hb hr (fun t ht hW => ⟨⟨u6, rfl, h, by rw [ht]; exact hP, va_K.moved hW.alike hK, hD⟩, hS.F ht⟩) hS.2.2 dX8_saves_57
  · have h := h.2 c3
    exact W.vret hx hb hr (fun t ht hW => ⟨⟨(S.1, T2), rfl, h, by rw [ht]; exact hP, va_K.moved hW.alike hK, hD⟩, hS.F ht⟩) hS.2.2 dX8_saves_39
/-! X8_faultOf -/
abbrev rmX8_faultOf : Room := { frames := 3, cells := 0, slots := 0, locals := 89 }
set_option maxHeartbeats 4000000 in
set_option maxRecDepth 100000 in
theorem c_X8_faultOf (l : Launch) (D : va_G) (cI cZ : ClassId) (a : Nat → Nat) (b : Nat → Nat) (nw : Bool) (sz : Nat) (S : Ob × (Nat → Int32)) (p0 : Int32) (p1 : Int32) (p2 : Int32) (Q : Int32 → (Ob × (Nat → Int32)) → Prop) (h : wp_X8_faultOf nw S p0 p1 p2 Q) (hb4 : nw = true → b 0 = a 4) : Met l yX8_faultOf (wsm yX8_faultOf cX8_faultOf 5 (some .int)) rmX8_faultOf (va_Pc [.ref (a 0), .ref (b 0), .int p0, .int p1, .int p2] (preW D cI cZ sz (wX8s cI cZ a b S))) (va_Qi Q (fun u => atW D cI cZ (va_A (wX8s cI cZ a b S) sz) (wX8s cI cZ a b u)) (va_A (wX8s cI cZ a b S) sz)) 0 0 (va_A (wX8s cI cZ a b S) sz) := by
  refine Met.ofW (cc := cX8_faultOf) (maxL := 5) (ret := (some .int)) (by decide) rfl ?_
  intro p e s m args below meth c s₁ B hml hv
  obtain ⟨rfl, hsz, hP, hK, hD0⟩ := hv
  have hx := B.exec
  have hb := B.bytes
  have hr := B.returns
  have hts0 := atoms_spec (ws := wsm yX8_faultOf cX8_faultOf 5 (some .int)) B.pre
  have hts : ∀ w ∈ lw_all, w.before _ s = true := fun w h => hts0 w (List.mem_cons_of_mem _ h)
  have hown : s.vm.findClass RX8 = some m.cls := findClass_of_methodNamed B.named
  have hlocks := B.notSynchronized
  subst hsz
  have hD := hD0.self (sz := s.heap.size)
  generalize hAe : va_A (wX8s cI cZ a b S) s.heap.size = A at hD ⊢
  have hA : ∀ q : Nat, s.heap.size ≤ q → A q := fun q h => by rw [← hAe]; exact Or.inr h
  have hS : va_S A s.heap s.heap [] := va_S.rf
  have hml2 := hml
  have L118 : ∀ (y2 : Int32) (y3 : Int32) (y4 : Int32) (T : Ob × (Nat → Int32)) (H : Heap) (locs : List Loc) (ls : Array Slot), va_P D vwCl (wX8s cI cZ a b T) H → va_D A (wX8s cI cZ a b T) → va_S A s.heap H locs → lv_has ls 5 [(1, .ref (b 0)), (2, .int y2), (3, .int y3), (4, .int y4)] → wp_X8_faultOf_L118 nw Q y2 y3 y4 T → W p l e rmX8_faultOf s m ([.ref (a 0), .ref (b 0), .int p0, .int p1, .int p2] : List Value).toArray below meth c H locs 0 0 (MQ below (va_Qi Q (fun u => atW D cI cZ A (wX8s cI cZ a b u)) A) ([.ref (a 0), .ref (b 0), .int p0, .int p1, .int p2] : List Value).toArray s 0 0 A) (F0 m 118 ls []) := by
    intro y2 y3 y4 T H locs ls hP hD hS hl h
    unfold wp_X8_faultOf_L118 at h
    refine lv_iload_n hx hb dX8_faultOf_118 rfl (lv_at hl 1 rfl) ?_
    refine lv_bipush (v := 22) hx hb dX8_faultOf_119 (by decide) ?_
    refine lv_icmp_ne (tgt := 153) hx hb dX8_faultOf_121 (by decide) (fun c17 => ?_) (fun c17 => ?_)
    · have h := h.1 c17
      refine lv_iload_n hx hb dX8_faultOf_153 rfl (lv_at hl 1 rfl) ?_
      refine lv_bipush (v := 25) hx hb dX8_faultOf_154 (by decide) ?_
      refine lv_icmp_ne (tgt := 176) hx hb dX8_faultOf_156 (by decide) (fun c18 => ?_) (fun c18 => ?_)
      · have h := h.1 c18
        refine lv_iload_n hx hb dX8_faultOf_176 rfl (lv_at hl 1 rfl) ?_
        refine lv_bipush (v := 26) hx hb dX8_faultOf_177 (by decide) ?_
        refine lv_icmp_ne (tgt := 193) hx hb dX8_faultOf_179 (by decide) (fun c19 => ?_) (fun c19 => ?_)
        · have h := h.1 c19
          refine lv_iconst (v := -1) hx hb dX8_faultOf_193 (by decide) ?_
          exact W.iret (v := (-1)) hx hb hr (fun t ht hW => ⟨⟨(-1), T, rfl, h, by rw [ht]; exact hP, va_K.moved hW.alike hK, hD⟩, hS.F ht⟩) hS.2.2 dX8_faultOf_194
        · have h := h.2 c19
          refine lv_aload_n hx hb dX8_faultOf_182 rfl (lv_at hl 0 rfl) ?_
          refine lv_bipush (v := 15) hx hb dX8_faultOf_183 (by decide) ?_
          refine ar_il (f := T.2) (n := 342) (j := 15) hx hb hK hP 11 rfl (by decide) (okLit (by decide)) dX8_faultOf_185 ?_
          refine lv_iconst (v := 2) hx hb dX8_faultOf_186 (by decide) ?_
          refine lv_icmp_ge (tgt := 193) hx hb dX8_faultOf_187 (by decide) (fun c20 => ?_) (fun c20 => ?_)
          · have h := h.1 c20
            refine lv_iconst (v := -1) hx hb dX8_faultOf_193 (by decide) ?_
            exact W.iret (v := (-1)) hx hb hr (fun t ht hW => ⟨⟨(-1), T, rfl, h, by rw [ht]; exact hP, va_K.moved hW.alike hK, hD⟩, hS.F ht⟩) hS.2.2 dX8_faultOf_194
          · have h := h.2 c20
            refine lv_bipush (v := 19) hx hb dX8_faultOf_190 (by decide) ?_
            exact W.iret (v := 19) hx hb hr (fun t ht hW => ⟨⟨19, T, rfl, h, by rw [ht]; exact hP, va_K.moved hW.alike hK, hD⟩, hS.F ht⟩) hS.2.2 dX8_faultOf_192
      · have h := h.2 c18
        refine lv_aload_n hx hb dX8_faultOf_159 rfl (lv_at hl 0 rfl) ?_
        refine lv_sipush (v := 300) hx hb dX8_faultOf_160 (by decide) ?_
        refine lv_iload_n hx hb dX8_faultOf_163 rfl (lv_at hl 2 rfl) ?_
        refine lv_bipush (v := 20) hx hb dX8_faultOf_164 (by decide) ?_
        refine lv_irem hx hb dX8_faultOf_166 (by decide) ?_
        refine lv_iadd hx hb dX8_faultOf_167 ?_
        refine ar_il (f := T.2) (n := 342) (j := (Int32.toNatClampNeg (300 + (y3 - y3 / 20 * 20)))) hx hb hK hP 11 rfl rfl h.1 dX8_faultOf_168 ?_
        have h := h.2
        refine lv_iconst (v := 1) hx hb dX8_faultOf_169 (by decide) ?_
        refine lv_icmp_ne (tgt := 176) hx hb dX8_faultOf_170 (by decide) (fun c21 => ?_) (fun c21 => ?_)
        · have h := h.1 c21
          refine lv_iload_n hx hb dX8_faultOf_176 rfl (lv_at hl 1 rfl) ?_
          refine lv_bipush (v := 26) hx hb dX8_faultOf_177 (by decide) ?_
          refine lv_icmp_ne (tgt := 193) hx hb dX8_faultOf_179 (by decide) (fun c22 => ?_) (fun c22 => ?_)
          · have h := h.1 c22
            refine lv_iconst (v := -1) hx hb dX8_faultOf_193 (by decide) ?_
            exact W.iret (v := (-1)) hx hb hr (fun t ht hW => ⟨⟨(-1), T, rfl, h, by rw [ht]; exact hP, va_K.moved hW.alike hK, hD⟩, hS.F ht⟩) hS.2.2 dX8_faultOf_194
          · have h := h.2 c22
            refine lv_aload_n hx hb dX8_faultOf_182 rfl (lv_at hl 0 rfl) ?_
            refine lv_bipush (v := 15) hx hb dX8_faultOf_183 (by decide) ?_
            refine ar_il (f := T.2) (n := 342) (j := 15) hx hb hK hP 11 rfl (by decide) (okLit (by decide)) dX8_faultOf_185 ?_
            refine lv_iconst (v := 2) hx hb dX8_faultOf_186 (by decide) ?_
            refine lv_icmp_ge (tgt := 193) hx hb dX8_faultOf_187 (by decide) (fun c23 => ?_) (fun c23 => ?_)
            · have h := h.1 c23
              refine lv_iconst (v := -1) hx hb dX8_faultOf_193 (by decide) ?_
              exact W.iret (v := (-1)) hx hb hr (fun t ht hW => ⟨⟨(-1), T, rfl, h, by rw [ht]; exact hP, va_K.moved hW.alike hK, hD⟩, hS.F ht⟩) hS.2.2 dX8_faultOf_194
            · have h := h.2 c23
              refine lv_bipush (v := 19) hx hb dX8_faultOf_190 (by decide) ?_
              exact W.iret (v := 19) hx hb hr (fun t ht hW => ⟨⟨19, T, rfl, h, by rw [ht]; exact hP, va_K.moved hW.alike hK, hD⟩, hS.F ht⟩) hS.2.2 dX8_faultOf_192
        · have h := h.2 c21
          refine lv_bipush (v := 18) hx hb dX8_faultOf_173 (by decide) ?_
          exact W.iret (v := 18) hx hb hr (fun t ht hW => ⟨⟨18, T, rfl, h, by rw [ht]; exact hP, va_K.moved hW.alike hK, hD⟩, hS.F ht⟩) hS.2.2 dX8_faultOf_175
    · have h := h.2 c17
      refine lv_aload_n hx hb dX8_faultOf_124 rfl (lv_at hl 0 rfl) ?_
      refine lv_bipush (v := 8) hx hb dX8_faultOf_125 (by decide) ?_
      refine lv_iload_n hx hb dX8_faultOf_127 rfl (lv_at hl 2 rfl) ?_
      refine lv_iconst (v := 3) hx hb dX8_faultOf_128 (by decide) ?_
      refine lv_iand hx hb dX8_faultOf_129 ?_
      refine lv_iadd hx hb dX8_faultOf_130 ?_
      refine ar_il (f := T.2) (n := 342) (j := (Int32.toNatClampNeg (8 + (y3 &&& 3)))) hx hb hK hP 11 rfl rfl h.1 dX8_faultOf_131 ?_
      have h := h.2
      refine lv_aload_n hx hb dX8_faultOf_132 rfl (lv_at hl 0 rfl) ?_
      refine lv_bipush (v := 8) hx hb dX8_faultOf_133 (by decide) ?_
      refine lv_iload hx hb dX8_faultOf_135 (lv_at hl 3 rfl) ?_
      refine lv_iconst (v := 3) hx hb dX8_faultOf_137 (by decide) ?_
      refine lv_iand hx hb dX8_faultOf_138 ?_
      refine lv_iadd hx hb dX8_faultOf_139 ?_
      refine ar_il (f := T.2) (n := 342) (j := (Int32.toNatClampNeg (8 + (y4 &&& 3)))) hx hb hK hP 11 rfl rfl h.1 dX8_faultOf_140 ?_
      have h := h.2
      refine cl_i (ws' := fun u24 => (wX8s cI cZ a b T)) (va_runS (As := [.int (T.2 (Int32.toNatClampNeg (8 + (y3 &&& 3)))), .int (T.2 (Int32.toNatClampNeg (8 + (y4 &&& 3))))]) (rest := []) ⟨hx, hb, hml, hown, hts⟩ (c_X8_product l D cI cZ _ () (T.2 (Int32.toNatClampNeg (8 + (y3 &&& 3)))) (T.2 (Int32.toNatClampNeg (8 + (y4 &&& 3)))) _ h ) (va_cwS 2 hts (gS q_1323 q_1324 q_75 q_1325) rfl rfl rfl (by decide +kernel) ⟨Nat.le_of_ble_eq_true rfl, Nat.le_of_ble_eq_true rfl⟩) (preS_of hK hP hD [] rfl rfl (by decide)) rfl rfl hl.1 rfl (lv_room (Nat.le_of_ble_eq_true rfl)) dX8_faultOf_141 ⟨Nat.zero_le _, Nat.zero_le _⟩) hP hD hS hA [] [.inr 0, .inr 1, .inr 2, .inr 3, .inr 4, .inr 5, .inr 6, .inr 7, .inr 8, .inr 9, .inr 10, .inr 11] rfl (by decide) (fun _ => rfl) (fun _ => rfl) (fun r25 u24 H locs h hP hD hS => ?_)
      refine cl_i (ws' := fun u26 => (wX8s cI cZ a b T)) (va_runS (As := [.int r25]) (rest := []) ⟨hx, hb, hml, hown, hts⟩ (c_X8_isFinite l D cI cZ _ () r25 _ h ) (va_cwS 1 hts (gS q_1320 q_1321 q_75 q_1322) rfl rfl rfl (by decide +kernel) ⟨Nat.le_of_ble_eq_true rfl, Nat.le_of_ble_eq_true rfl⟩) (preS_of hK hP hD [] rfl rfl (by decide)) rfl rfl hl.1 rfl (lv_room (Nat.le_of_ble_eq_true rfl)) dX8_faultOf_144 ⟨Nat.zero_le _, Nat.zero_le _⟩) hP hD hS hA [] [.inr 0, .inr 1, .inr 2, .inr 3, .inr 4, .inr 5, .inr 6, .inr 7, .inr 8, .inr 9, .inr 10, .inr 11] rfl (by decide) (fun _ => rfl) (fun _ => rfl) (fun r27 u26 H locs h hP hD hS => ?_)
      refine lv_if_ne (tgt := 153) hx hb dX8_faultOf_147 (by decide) (fun c28 => ?_) (fun c28 => ?_)
      · have h := h.1 c28
        refine lv_iload_n hx hb dX8_faultOf_153 rfl (lv_at hl 1 rfl) ?_
        refine lv_bipush (v := 25) hx hb dX8_faultOf_154 (by decide) ?_
        refine lv_icmp_ne (tgt := 176) hx hb dX8_faultOf_156 (by decide) (fun c29 => ?_) (fun c29 => ?_)
        · have h := h.1 c29
          refine lv_iload_n hx hb dX8_faultOf_176 rfl (lv_at hl 1 rfl) ?_
          refine lv_bipush (v := 26) hx hb dX8_faultOf_177 (by decide) ?_
          refine lv_icmp_ne (tgt := 193) hx hb dX8_faultOf_179 (by decide) (fun c30 => ?_) (fun c30 => ?_)
          · have h := h.1 c30
            refine lv_iconst (v := -1) hx hb dX8_faultOf_193 (by decide) ?_
            exact W.iret (v := (-1)) hx hb hr (fun t ht hW => ⟨⟨(-1), T, rfl, h, by rw [ht]; exact hP, va_K.moved hW.alike hK, hD⟩, hS.F ht⟩) hS.2.2 dX8_faultOf_194
          · have h := h.2 c30
            refine lv_aload_n hx hb dX8_faultOf_182 rfl (lv_at hl 0 rfl) ?_
            refine lv_bipush (v := 15) hx hb dX8_faultOf_183 (by decide) ?_
            refine ar_il (f := T.2) (n := 342) (j := 15) hx hb hK hP 11 rfl (by decide) (okLit (by decide)) dX8_faultOf_185 ?_
            refine lv_iconst (v := 2) hx hb dX8_faultOf_186 (by decide) ?_
            refine lv_icmp_ge (tgt := 193) hx hb dX8_faultOf_187 (by decide) (fun c31 => ?_) (fun c31 => ?_)
            · have h := h.1 c31
              refine lv_iconst (v := -1) hx hb dX8_faultOf_193 (by decide) ?_
              exact W.iret (v := (-1)) hx hb hr (fun t ht hW => ⟨⟨(-1), T, rfl, h, by rw [ht]; exact hP, va_K.moved hW.alike hK, hD⟩, hS.F ht⟩) hS.2.2 dX8_faultOf_194
            · have h := h.2 c31
              refine lv_bipush (v := 19) hx hb dX8_faultOf_190 (by decide) ?_
              exact W.iret (v := 19) hx hb hr (fun t ht hW => ⟨⟨19, T, rfl, h, by rw [ht]; exact hP, va_K.moved hW.alike hK, hD⟩, hS.F ht⟩) hS.2.2 dX8_faultOf_192
        · have h := h.2 c29
          refine lv_aload_n hx hb dX8_faultOf_159 rfl (lv_at hl 0 rfl) ?_
          refine lv_sipush (v := 300) hx hb dX8_faultOf_160 (by decide) ?_
          refine lv_iload_n hx hb dX8_faultOf_163 rfl (lv_at hl 2 rfl) ?_
          refine lv_bipush (v := 20) hx hb dX8_faultOf_164 (by decide) ?_
          refine lv_irem hx hb dX8_faultOf_166 (by decide) ?_
          refine lv_iadd hx hb dX8_faultOf_167 ?_
          refine ar_il (f := T.2) (n := 342) (j := (Int32.toNatClampNeg (300 + (y3 - y3 / 20 * 20)))) hx hb hK hP 11 rfl rfl h.1 dX8_faultOf_168 ?_
          have h := h.2
          refine lv_iconst (v := 1) hx hb dX8_faultOf_169 (by decide) ?_
          refine lv_icmp_ne (tgt := 176) hx hb dX8_faultOf_170 (by decide) (fun c32 => ?_) (fun c32 => ?_)
          · have h := h.1 c32
            refine lv_iload_n hx hb dX8_faultOf_176 rfl (lv_at hl 1 rfl) ?_
            refine lv_bipush (v := 26) hx hb dX8_faultOf_177 (by decide) ?_
            refine lv_icmp_ne (tgt := 193) hx hb dX8_faultOf_179 (by decide) (fun c33 => ?_) (fun c33 => ?_)
            · have h := h.1 c33
              refine lv_iconst (v := -1) hx hb dX8_faultOf_193 (by decide) ?_
              exact W.iret (v := (-1)) hx hb hr (fun t ht hW => ⟨⟨(-1), T, rfl, h, by rw [ht]; exact hP, va_K.moved hW.alike hK, hD⟩, hS.F ht⟩) hS.2.2 dX8_faultOf_194
            · have h := h.2 c33
              refine lv_aload_n hx hb dX8_faultOf_182 rfl (lv_at hl 0 rfl) ?_
              refine lv_bipush (v := 15) hx hb dX8_faultOf_183 (by decide) ?_
              refine ar_il (f := T.2) (n := 342) (j := 15) hx hb hK hP 11 rfl (by decide) (okLit (by decide)) dX8_faultOf_185 ?_
              refine lv_iconst (v := 2) hx hb dX8_faultOf_186 (by decide) ?_
              refine lv_icmp_ge (tgt := 193) hx hb dX8_faultOf_187 (by decide) (fun c34 => ?_) (fun c34 => ?_)
              · have h := h.1 c34
                refine lv_iconst (v := -1) hx hb dX8_faultOf_193 (by decide) ?_
                exact W.iret (v := (-1)) hx hb hr (fun t ht hW => ⟨⟨(-1), T, rfl, h, by rw [ht]; exact hP, va_K.moved hW.alike hK, hD⟩, hS.F ht⟩) hS.2.2 dX8_faultOf_194
              · have h := h.2 c34
                refine lv_bipush (v := 19) hx hb dX8_faultOf_190 (by decide) ?_
                exact W.iret (v := 19) hx hb hr (fun t ht hW => ⟨⟨19, T, rfl, h, by rw [ht]; exact hP, va_K.moved hW.alike hK, hD⟩, hS.F ht⟩) hS.2.2 dX8_faultOf_192
          · have h := h.2 c32
            refine lv_bipush (v := 18) hx hb dX8_faultOf_173 (by decide) ?_
            exact W.iret (v := 18) hx hb hr (fun t ht hW => ⟨⟨18, T, rfl, h, by rw [ht]; exact hP, va_K.moved hW.alike hK, hD⟩, hS.F ht⟩) hS.2.2 dX8_faultOf_175
      · have h := h.2 c28
        refine lv_bipush (v := 18) hx hb dX8_faultOf_150 (by decide) ?_
        exact W.iret (v := 18) hx hb hr (fun t ht hW => ⟨⟨18, T, rfl, h, by rw [ht]; exact hP, va_K.moved hW.alike hK, hD⟩, hS.F ht⟩) hS.2.2 dX8_faultOf_152
  have L83 : ∀ (y2 : Int32) (y3 : Int32) (y4 : Int32) (T : Ob × (Nat → Int32)) (H : Heap) (locs : List Loc) (ls : Array Slot), va_P D vwCl (wX8s cI cZ a b T) H → va_D A (wX8s cI cZ a b T) → va_S A s.heap H locs → lv_has ls 5 [(1, .ref (b 0)), (2, .int y2), (3, .int y3), (4, .int y4)] → wp_X8_faultOf_L83 nw Q y2 y3 y4 T → W p l e rmX8_faultOf s m ([.ref (a 0), .ref (b 0), .int p0, .int p1, .int p2] : List Value).toArray below meth c H locs 0 0 (MQ below (va_Qi Q (fun u => atW D cI cZ A (wX8s cI cZ a b u)) A) ([.ref (a 0), .ref (b 0), .int p0, .int p1, .int p2] : List Value).toArray s 0 0 A) (F0 m 83 ls []) := by
    intro y2 y3 y4 T H locs ls hP hD hS hl h
    unfold wp_X8_faultOf_L83 at h
    refine lv_iload_n hx hb dX8_faultOf_83 rfl (lv_at hl 1 rfl) ?_
    refine lv_bipush (v := 21) hx hb dX8_faultOf_84 (by decide) ?_
    refine lv_icmp_ne (tgt := 118) hx hb dX8_faultOf_86 (by decide) (fun c11 => ?_) (fun c11 => ?_)
    · have h := h.1 c11
      exact L118 y2 y3 y4 T _ _ _ hP hD hS (lv_sub hl [0, 1, 2, 3] rfl) h
    · have h := h.2 c11
      refine lv_aload_n hx hb dX8_faultOf_89 rfl (lv_at hl 0 rfl) ?_
      refine lv_bipush (v := 8) hx hb dX8_faultOf_90 (by decide) ?_
      refine lv_iload_n hx hb dX8_faultOf_92 rfl (lv_at hl 2 rfl) ?_
      refine lv_iconst (v := 3) hx hb dX8_faultOf_93 (by decide) ?_
      refine lv_iand hx hb dX8_faultOf_94 ?_
      refine lv_iadd hx hb dX8_faultOf_95 ?_
      refine ar_il (f := T.2) (n := 342) (j := (Int32.toNatClampNeg (8 + (y3 &&& 3)))) hx hb hK hP 11 rfl rfl h.1 dX8_faultOf_96 ?_
      have h := h.2
      refine lv_aload_n hx hb dX8_faultOf_97 rfl (lv_at hl 0 rfl) ?_
      refine lv_bipush (v := 8) hx hb dX8_faultOf_98 (by decide) ?_
      refine lv_iload hx hb dX8_faultOf_100 (lv_at hl 3 rfl) ?_
      refine lv_iconst (v := 3) hx hb dX8_faultOf_102 (by decide) ?_
      refine lv_iand hx hb dX8_faultOf_103 ?_
      refine lv_iadd hx hb dX8_faultOf_104 ?_
      refine ar_il (f := T.2) (n := 342) (j := (Int32.toNatClampNeg (8 + (y4 &&& 3)))) hx hb hK hP 11 rfl rfl h.1 dX8_faultOf_105 ?_
      have h := h.2
      refine cl_i (ws' := fun u12 => (wX8s cI cZ a b T)) (va_runS (As := [.int (T.2 (Int32.toNatClampNeg (8 + (y3 &&& 3)))), .int (T.2 (Int32.toNatClampNeg (8 + (y4 &&& 3))))]) (rest := []) ⟨hx, hb, hml, hown, hts⟩ (c_X8_sum l D cI cZ _ () (T.2 (Int32.toNatClampNeg (8 + (y3 &&& 3)))) (T.2 (Int32.toNatClampNeg (8 + (y4 &&& 3)))) _ h ) (va_cwS 2 hts (gS q_1298 q_1299 q_75 q_1300) rfl rfl rfl (by decide +kernel) ⟨Nat.le_of_ble_eq_true rfl, Nat.le_of_ble_eq_true rfl⟩) (preS_of hK hP hD [] rfl rfl (by decide)) rfl rfl hl.1 rfl (lv_room (Nat.le_of_ble_eq_true rfl)) dX8_faultOf_106 ⟨Nat.zero_le _, Nat.zero_le _⟩) hP hD hS hA [] [.inr 0, .inr 1, .inr 2, .inr 3, .inr 4, .inr 5, .inr 6, .inr 7, .inr 8, .inr 9, .inr 10, .inr 11] rfl (by decide) (fun _ => rfl) (fun _ => rfl) (fun r13 u12 H locs h hP hD hS => ?_)
      refine cl_i (ws' := fun u14 => (wX8s cI cZ a b T)) (va_runS (As := [.int r13]) (rest := []) ⟨hx, hb, hml, hown, hts⟩ (c_X8_isFinite l D cI cZ _ () r13 _ h ) (va_cwS 1 hts (gS q_1320 q_1321 q_75 q_1322) rfl rfl rfl (by decide +kernel) ⟨Nat.le_of_ble_eq_true rfl, Nat.le_of_ble_eq_true rfl⟩) (preS_of hK hP hD [] rfl rfl (by decide)) rfl rfl hl.1 rfl (lv_room (Nat.le_of_ble_eq_true rfl)) dX8_faultOf_109 ⟨Nat.zero_le _, Nat.zero_le _⟩) hP hD hS hA [] [.inr 0, .inr 1, .inr 2, .inr 3, .inr 4, .inr 5, .inr 6, .inr 7, .inr 8, .inr 9, .inr 10, .inr 11] rfl (by decide) (fun _ => rfl) (fun _ => rfl) (fun r15 u14 H locs h hP hD hS => ?_)
      refine lv_if_ne (tgt := 118) hx hb dX8_faultOf_112 (by decide) (fun c16 => ?_) (fun c16 => ?_)
      · have h := h.1 c16
        exact L118 y2 y3 y4 T _ _ _ hP hD hS (lv_sub hl [0, 1, 2, 3] rfl) h
      · have h := h.2 c16
        refine lv_bipush (v := 18) hx hb dX8_faultOf_115 (by decide) ?_
        exact W.iret (v := 18) hx hb hr (fun t ht hW => ⟨⟨18, T, rfl, h, by rw [ht]; exact hP, va_K.moved hW.alike hK, hD⟩, hS.F ht⟩) hS.2.2 dX8_faultOf_117
  have L67 : ∀ (y2 : Int32) (y3 : Int32) (y4 : Int32) (T : Ob × (Nat → Int32)) (H : Heap) (locs : List Loc) (ls : Array Slot), va_P D vwCl (wX8s cI cZ a b T) H → va_D A (wX8s cI cZ a b T) → va_S A s.heap H locs → lv_has ls 5 [(1, .ref (b 0)), (2, .int y2), (3, .int y3), (4, .int y4)] → wp_X8_faultOf_L67 nw Q y2 y3 y4 T → W p l e rmX8_faultOf s m ([.ref (a 0), .ref (b 0), .int p0, .int p1, .int p2] : List Value).toArray below meth c H locs 0 0 (MQ below (va_Qi Q (fun u => atW D cI cZ A (wX8s cI cZ a b u)) A) ([.ref (a 0), .ref (b 0), .int p0, .int p1, .int p2] : List Value).toArray s 0 0 A) (F0 m 67 ls []) := by
    intro y2 y3 y4 T H locs ls hP hD hS hl h
    unfold wp_X8_faultOf_L67 at h
    refine lv_iload_n hx hb dX8_faultOf_67 rfl (lv_at hl 1 rfl) ?_
    refine lv_bipush (v := 18) hx hb dX8_faultOf_68 (by decide) ?_
    refine lv_icmp_ne (tgt := 83) hx hb dX8_faultOf_70 (by decide) (fun c9 => ?_) (fun c9 => ?_)
    · have h := h.1 c9
      exact L83 y2 y3 y4 T _ _ _ hP hD hS (lv_sub hl [0, 1, 2, 3] rfl) h
    · have h := h.2 c9
      refine lv_aload_n hx hb dX8_faultOf_73 rfl (lv_at hl 0 rfl) ?_
      refine lv_bipush (v := 30) hx hb dX8_faultOf_74 (by decide) ?_
      refine ar_il (f := T.2) (n := 342) (j := 30) hx hb hK hP 11 rfl (by decide) (okLit (by decide)) dX8_faultOf_76 ?_
      refine lv_if_ne (tgt := 83) hx hb dX8_faultOf_77 (by decide) (fun c10 => ?_) (fun c10 => ?_)
      · have h := h.1 c10
        exact L83 y2 y3 y4 T _ _ _ hP hD hS (lv_sub hl [0, 1, 2, 3] rfl) h
      · have h := h.2 c10
        refine lv_bipush (v := 18) hx hb dX8_faultOf_80 (by decide) ?_
        exact W.iret (v := 18) hx hb hr (fun t ht hW => ⟨⟨18, T, rfl, h, by rw [ht]; exact hP, va_K.moved hW.alike hK, hD⟩, hS.F ht⟩) hS.2.2 dX8_faultOf_82
  have L51 : ∀ (y2 : Int32) (y3 : Int32) (y4 : Int32) (T : Ob × (Nat → Int32)) (H : Heap) (locs : List Loc) (ls : Array Slot), va_P D vwCl (wX8s cI cZ a b T) H → va_D A (wX8s cI cZ a b T) → va_S A s.heap H locs → lv_has ls 5 [(1, .ref (b 0)), (2, .int y2), (3, .int y3), (4, .int y4)] → wp_X8_faultOf_L51 nw Q y2 y3 y4 T → W p l e rmX8_faultOf s m ([.ref (a 0), .ref (b 0), .int p0, .int p1, .int p2] : List Value).toArray below meth c H locs 0 0 (MQ below (va_Qi Q (fun u => atW D cI cZ A (wX8s cI cZ a b u)) A) ([.ref (a 0), .ref (b 0), .int p0, .int p1, .int p2] : List Value).toArray s 0 0 A) (F0 m 51 ls []) := by
    intro y2 y3 y4 T H locs ls hP hD hS hl h
    unfold wp_X8_faultOf_L51 at h
    refine lv_iload_n hx hb dX8_faultOf_51 rfl (lv_at hl 1 rfl) ?_
    refine lv_bipush (v := 10) hx hb dX8_faultOf_52 (by decide) ?_
    refine lv_icmp_ne (tgt := 67) hx hb dX8_faultOf_54 (by decide) (fun c7 => ?_) (fun c7 => ?_)
    · have h := h.1 c7
      exact L67 y2 y3 y4 T _ _ _ hP hD hS (lv_sub hl [0, 1, 2, 3] rfl) h
    · have h := h.2 c7
      refine lv_aload_n hx hb dX8_faultOf_57 rfl (lv_at hl 0 rfl) ?_
      refine lv_bipush (v := 15) hx hb dX8_faultOf_58 (by decide) ?_
      refine ar_il (f := T.2) (n := 342) (j := 15) hx hb hK hP 11 rfl (by decide) (okLit (by decide)) dX8_faultOf_60 ?_
      refine lv_if_ne (tgt := 67) hx hb dX8_faultOf_61 (by decide) (fun c8 => ?_) (fun c8 => ?_)
      · have h := h.1 c8
        exact L67 y2 y3 y4 T _ _ _ hP hD hS (lv_sub hl [0, 1, 2, 3] rfl) h
      · have h := h.2 c8
        refine lv_bipush (v := 19) hx hb dX8_faultOf_64 (by decide) ?_
        exact W.iret (v := 19) hx hb hr (fun t ht hW => ⟨⟨19, T, rfl, h, by rw [ht]; exact hP, va_K.moved hW.alike hK, hD⟩, hS.F ht⟩) hS.2.2 dX8_faultOf_66
  have L33 : ∀ (y2 : Int32) (y3 : Int32) (y4 : Int32) (T : Ob × (Nat → Int32)) (H : Heap) (locs : List Loc) (ls : Array Slot), va_P D vwCl (wX8s cI cZ a b T) H → va_D A (wX8s cI cZ a b T) → va_S A s.heap H locs → lv_has ls 5 [(1, .ref (b 0)), (2, .int y2), (3, .int y3), (4, .int y4)] → wp_X8_faultOf_L33 nw Q y2 y3 y4 T → W p l e rmX8_faultOf s m ([.ref (a 0), .ref (b 0), .int p0, .int p1, .int p2] : List Value).toArray below meth c H locs 0 0 (MQ below (va_Qi Q (fun u => atW D cI cZ A (wX8s cI cZ a b u)) A) ([.ref (a 0), .ref (b 0), .int p0, .int p1, .int p2] : List Value).toArray s 0 0 A) (F0 m 33 ls []) := by
    intro y2 y3 y4 T H locs ls hP hD hS hl h
    unfold wp_X8_faultOf_L33 at h
    refine lv_iload_n hx hb dX8_faultOf_33 rfl (lv_at hl 1 rfl) ?_
    refine lv_bipush (v := 9) hx hb dX8_faultOf_34 (by decide) ?_
    refine lv_icmp_ne (tgt := 51) hx hb dX8_faultOf_36 (by decide) (fun c5 => ?_) (fun c5 => ?_)
    · have h := h.1 c5
      exact L51 y2 y3 y4 T _ _ _ hP hD hS (lv_sub hl [0, 1, 2, 3] rfl) h
    · have h := h.2 c5
      refine lv_aload_n hx hb dX8_faultOf_39 rfl (lv_at hl 0 rfl) ?_
      refine lv_bipush (v := 15) hx hb dX8_faultOf_40 (by decide) ?_
      refine ar_il (f := T.2) (n := 342) (j := 15) hx hb hK hP 11 rfl (by decide) (okLit (by decide)) dX8_faultOf_42 ?_
      refine lv_bipush (v := 96) hx hb dX8_faultOf_43 (by decide) ?_
      refine lv_icmp_ne (tgt := 51) hx hb dX8_faultOf_45 (by decide) (fun c6 => ?_) (fun c6 => ?_)
      · have h := h.1 c6
        exact L51 y2 y3 y4 T _ _ _ hP hD hS (lv_sub hl [0, 1, 2, 3] rfl) h
      · have h := h.2 c6
        refine lv_bipush (v := 19) hx hb dX8_faultOf_48 (by decide) ?_
        exact W.iret (v := 19) hx hb hr (fun t ht hW => ⟨⟨19, T, rfl, h, by rw [ht]; exact hP, va_K.moved hW.alike hK, hD⟩, hS.F ht⟩) hS.2.2 dX8_faultOf_50
  have hl := lv_entry ([.ref (a 0), .ref (b 0), .int p0, .int p1, .int p2]) (n := 5) (Nat.le_of_ble_eq_true rfl)
  rw [lg_entry_eq]
  generalize (lg_sl ([.ref (a 0), .ref (b 0), .int p0, .int p1, .int p2]) ++ List.replicate (5 - (lg_sl ([.ref (a 0), .ref (b 0), .int p0, .int p1, .int p2])).length) Slot.unset).toArray = ls at hl ⊢
  have hl : lv_has ls 5 [(0, .ref (a 0)), (1, .ref (b 0)), (2, .int p0), (3, .int p1), (4, .int p2)] := hl
  unfold wp_X8_faultOf at h
  refine lv_iload_n hx hb dX8_faultOf_0 rfl (lv_at hl 2 rfl) ?_
  refine lv_if_eq (tgt := 10) hx hb dX8_faultOf_1 (by decide) (fun c1 => ?_) (fun c1 => ?_)
  · have h := h.1 c1
    refine lv_bipush (v := 18) hx hb dX8_faultOf_10 (by decide) ?_
    exact W.iret (v := 18) hx hb hr (fun t ht hW => ⟨⟨18, S, rfl, h, by rw [ht]; exact hP, va_K.moved hW.alike hK, hD⟩, hS.F ht⟩) hS.2.2 dX8_faultOf_12
  · have h := h.2 c1
    refine lv_iload_n hx hb dX8_faultOf_4 rfl (lv_at hl 2 rfl) ?_
    refine lv_bipush (v := 29) hx hb dX8_faultOf_5 (by decide) ?_
    refine lv_icmp_le (tgt := 13) hx hb dX8_faultOf_7 (by decide) (fun c2 => ?_) (fun c2 => ?_)
    · have h := h.1 c2
      refine lv_iload_n hx hb dX8_faultOf_13 rfl (lv_at hl 2 rfl) ?_
      refine lv_iconst (v := 5) hx hb dX8_faultOf_14 (by decide) ?_
      refine lv_icmp_ne (tgt := 33) hx hb dX8_faultOf_15 (by decide) (fun c3 => ?_) (fun c3 => ?_)
      · have h := h.1 c3
        exact L33 p0 p1 p2 S _ _ _ hP hD hS (lv_sub hl [1, 2, 3, 4] rfl) h
      · have h := h.2 c3
        refine lv_aload_n hx hb dX8_faultOf_18 rfl (lv_at hl 1 rfl) ?_
        refine lv_iconst (v := 0) hx hb dX8_faultOf_19 (by decide) ?_
        refine lv_iload hx hb dX8_faultOf_20 (lv_at hl 4 rfl) ?_
        refine lv_bipush (v := 7) hx hb dX8_faultOf_22 (by decide) ?_
        refine lv_iand hx hb dX8_faultOf_24 ?_
        refine lv_iadd hx hb dX8_faultOf_25 ?_
        refine ar_il (f := S.2) (n := 342) (j := (Int32.toNatClampNeg (0 + (p2 &&& 7)))) hx hb hK hP 11 rfl rfl h.1 dX8_faultOf_26 ?_
        have h := h.2
        refine lv_if_ne (tgt := 33) hx hb dX8_faultOf_27 (by decide) (fun c4 => ?_) (fun c4 => ?_)
        · have h := h.1 c4
          exact L33 p0 p1 p2 S _ _ _ hP hD hS (lv_sub hl [1, 2, 3, 4] rfl) h
        · have h := h.2 c4
          refine lv_bipush (v := 18) hx hb dX8_faultOf_30 (by decide) ?_
          exact W.iret (v := 18) hx hb hr (fun t ht hW => ⟨⟨18, S, rfl, h, by rw [ht]; exact hP, va_K.moved hW.alike hK, hD⟩, hS.F ht⟩) hS.2.2 dX8_faultOf_32
    · have h := h.2 c2
      refine lv_bipush (v := 18) hx hb dX8_faultOf_10 (by decide) ?_
      exact W.iret (v := 18) hx hb hr (fun t ht hW => ⟨⟨18, S, rfl, h, by rw [ht]; exact hP, va_K.moved hW.alike hK, hD⟩, hS.F ht⟩) hS.2.2 dX8_faultOf_12
/-! X8_made -/
abbrev rmX8_made : Room := { frames := 0, cells := 0, slots := 0, locals := 0 }
set_option maxHeartbeats 4000000 in
set_option maxRecDepth 100000 in
theorem c_X8_made (l : Launch) (D : va_G) (cI cZ : ClassId) (sz : Nat) (S : Unit) (p0 : Int32) (p1 : Int32) (p2 : Int32) (p3 : Int32) (Q : Int32 → Unit → Prop) (h : wp_X8_made S p0 p1 p2 p3 Q) : Met l yX8_made (wsm yX8_made cX8_made 5 (some .int)) rmX8_made (va_Pc [.int p0, .int p1, .int p2, .int p3] (preW D cI cZ sz (w0_ cI cZ S))) (va_Qi Q (fun u => atW D cI cZ (va_A (w0_ cI cZ S) sz) (w0_ cI cZ u)) (va_A (w0_ cI cZ S) sz)) 0 0 (va_A (w0_ cI cZ S) sz) := by
  refine Met.ofW (cc := cX8_made) (maxL := 5) (ret := (some .int)) (by decide) rfl ?_
  intro p e s m args below meth c s₁ B hml hv
  obtain ⟨rfl, hsz, hP, hK, hD0⟩ := hv
  have hx := B.exec
  have hb := B.bytes
  have hr := B.returns
  have hts0 := atoms_spec (ws := wsm yX8_made cX8_made 5 (some .int)) B.pre
  have hts : ∀ w ∈ lw_all, w.before _ s = true := fun w h => hts0 w (List.mem_cons_of_mem _ h)
  have hown : s.vm.findClass RX8 = some m.cls := findClass_of_methodNamed B.named
  have hlocks := B.notSynchronized
  subst hsz
  have hD := hD0.self (sz := s.heap.size)
  generalize hAe : va_A (w0_ cI cZ S) s.heap.size = A at hD ⊢
  have hA : ∀ q : Nat, s.heap.size ≤ q → A q := fun q h => by rw [← hAe]; exact Or.inr h
  have hS : va_S A s.heap s.heap [] := va_S.rf
  have hml2 := hml
  have hl := lv_entry ([.int p0, .int p1, .int p2, .int p3]) (n := 5) (Nat.le_of_ble_eq_true rfl)
  rw [lg_entry_eq]
  generalize (lg_sl ([.int p0, .int p1, .int p2, .int p3]) ++ List.replicate (5 - (lg_sl ([.int p0, .int p1, .int p2, .int p3])).length) Slot.unset).toArray = ls at hl ⊢
  have hl : lv_has ls 5 [(0, .int p0), (1, .int p1), (2, .int p2), (3, .int p3)] := hl
  unfold wp_X8_made at h
  refine lv_iload_n hx hb dX8_made_0 rfl (lv_at hl 0 rfl) ?_
  refine lv_iconst (v := 2) hx hb dX8_made_1 (by decide) ?_
  refine lv_icmp_ne (tgt := 9) hx hb dX8_made_2 (by decide) (fun c1 => ?_) (fun c1 => ?_)
  · have h := h.1 c1
    refine lv_iload_n hx hb dX8_made_9 rfl (lv_at hl 0 rfl) ?_
    refine lv_iconst (v := 3) hx hb dX8_made_10 (by decide) ?_
    refine lv_icmp_ne (tgt := 18) hx hb dX8_made_11 (by decide) (fun c2 => ?_) (fun c2 => ?_)
    · have h := h.1 c2
      refine lv_iload_n hx hb dX8_made_18 rfl (lv_at hl 0 rfl) ?_
      refine lv_iconst (v := 4) hx hb dX8_made_19 (by decide) ?_
      refine lv_icmp_ne (tgt := 27) hx hb dX8_made_20 (by decide) (fun c3 => ?_) (fun c3 => ?_)
      · have h := h.1 c3
        refine lv_iload_n hx hb dX8_made_27 rfl (lv_at hl 0 rfl) ?_
        refine lv_iconst (v := 5) hx hb dX8_made_28 (by decide) ?_
        refine lv_icmp_ne (tgt := 46) hx hb dX8_made_29 (by decide) (fun c4 => ?_) (fun c4 => ?_)
        · have h := h.1 c4
          refine lv_iload_n hx hb dX8_made_46 rfl (lv_at hl 0 rfl) ?_
          refine lv_bipush (v := 6) hx hb dX8_made_47 (by decide) ?_
          refine lv_icmp_ne (tgt := 56) hx hb dX8_made_49 (by decide) (fun c5 => ?_) (fun c5 => ?_)
          · have h := h.1 c5
            refine lv_iload_n hx hb dX8_made_56 rfl (lv_at hl 3 rfl) ?_
            refine lv_bipush (v := 63) hx hb dX8_made_57 (by decide) ?_
            refine lv_iand hx hb dX8_made_59 ?_
            refine lv_topi (fun x6 ex6 => ?_)
            have h := h x6 ex6
            refine lv_istore (lv' := [(4, .int x6), (0, .int p0), (1, .int p1), (2, .int p2), (3, .int p3)]) hx hb dX8_made_60 hl (by decide) rfl (fun ls hl => ?_)
            refine lv_iload hx hb dX8_made_62 (lv_at hl 0 rfl) ?_
            refine lv_bipush (v := 32) hx hb dX8_made_64 (by decide) ?_
            refine lv_icmp_ge (tgt := 76) hx hb dX8_made_66 (by decide) (fun c7 => ?_) (fun c7 => ?_)
            · have h := h.1 c7
              refine lv_iload_n hx hb dX8_made_76 rfl (lv_at hl 2 rfl) ?_
              refine lv_iload hx hb dX8_made_77 (lv_at hl 0 rfl) ?_
              refine lv_bipush (v := 32) hx hb dX8_made_79 (by decide) ?_
              refine lv_isub hx hb dX8_made_81 ?_
              refine lv_ishr hx hb dX8_made_82 ?_
              exact W.iret (v := (p1 >>> ((x6 - 32) &&& 31))) hx hb hr (fun t ht hW => ⟨⟨(p1 >>> ((x6 - 32) &&& 31)), (), rfl, h, by rw [ht]; exact hP, va_K.moved hW.alike hK, hD⟩, hS.F ht⟩) hS.2.2 dX8_made_83
            · have h := h.2 c7
              refine lv_iload_n hx hb dX8_made_69 rfl (lv_at hl 2 rfl) ?_
              refine lv_iload hx hb dX8_made_70 (lv_at hl 0 rfl) ?_
              refine lv_ishl hx hb dX8_made_72 ?_
              refine lv_goto (tgt := 83) hx hb dX8_made_73 (by decide) ?_
              exact W.iret (v := (p1 <<< (x6 &&& 31))) hx hb hr (fun t ht hW => ⟨⟨(p1 <<< (x6 &&& 31)), (), rfl, h, by rw [ht]; exact hP, va_K.moved hW.alike hK, hD⟩, hS.F ht⟩) hS.2.2 dX8_made_83
          · have h := h.2 c5
            refine lv_iload_n hx hb dX8_made_52 rfl (lv_at hl 1 rfl) ?_
            refine lv_iload_n hx hb dX8_made_53 rfl (lv_at hl 2 rfl) ?_
            refine lv_ixor hx hb dX8_made_54 ?_
            exact W.iret (v := (p1 ^^^ p2)) hx hb hr (fun t ht hW => ⟨⟨(p1 ^^^ p2), (), rfl, h, by rw [ht]; exact hP, va_K.moved hW.alike hK, hD⟩, hS.F ht⟩) hS.2.2 dX8_made_55
        · have h := h.2 c4
          refine lv_iload_n hx hb dX8_made_32 rfl (lv_at hl 2 rfl) ?_
          refine lv_iconst (v := -1) hx hb dX8_made_33 (by decide) ?_
          refine lv_icmp_ne (tgt := 42) hx hb dX8_made_34 (by decide) (fun c8 => ?_) (fun c8 => ?_)
          · have h := h.1 c8
            refine lv_iload_n hx hb dX8_made_42 rfl (lv_at hl 1 rfl) ?_
            refine lv_iload_n hx hb dX8_made_43 rfl (lv_at hl 2 rfl) ?_
            refine lv_idiv hx hb dX8_made_44 h.1 ?_
            have h := h.2
            exact W.iret (v := (p1 / p2)) hx hb hr (fun t ht hW => ⟨⟨(p1 / p2), (), rfl, h, by rw [ht]; exact hP, va_K.moved hW.alike hK, hD⟩, hS.F ht⟩) hS.2.2 dX8_made_45
          · have h := h.2 c8
            refine lv_iload_n hx hb dX8_made_37 rfl (lv_at hl 1 rfl) ?_
            refine lv_ineg hx hb dX8_made_38 ?_
            refine lv_goto (tgt := 45) hx hb dX8_made_39 (by decide) ?_
            exact W.iret (v := (-p1)) hx hb hr (fun t ht hW => ⟨⟨(-p1), (), rfl, h, by rw [ht]; exact hP, va_K.moved hW.alike hK, hD⟩, hS.F ht⟩) hS.2.2 dX8_made_45
      · have h := h.2 c3
        refine lv_iload_n hx hb dX8_made_23 rfl (lv_at hl 1 rfl) ?_
        refine lv_iload_n hx hb dX8_made_24 rfl (lv_at hl 2 rfl) ?_
        refine lv_imul hx hb dX8_made_25 ?_
        exact W.iret (v := (p1 * p2)) hx hb hr (fun t ht hW => ⟨⟨(p1 * p2), (), rfl, h, by rw [ht]; exact hP, va_K.moved hW.alike hK, hD⟩, hS.F ht⟩) hS.2.2 dX8_made_26
    · have h := h.2 c2
      refine lv_iload_n hx hb dX8_made_14 rfl (lv_at hl 1 rfl) ?_
      refine lv_iload_n hx hb dX8_made_15 rfl (lv_at hl 2 rfl) ?_
      refine lv_isub hx hb dX8_made_16 ?_
      exact W.iret (v := (p1 - p2)) hx hb hr (fun t ht hW => ⟨⟨(p1 - p2), (), rfl, h, by rw [ht]; exact hP, va_K.moved hW.alike hK, hD⟩, hS.F ht⟩) hS.2.2 dX8_made_17
  · have h := h.2 c1
    refine lv_iload_n hx hb dX8_made_5 rfl (lv_at hl 1 rfl) ?_
    refine lv_iload_n hx hb dX8_made_6 rfl (lv_at hl 2 rfl) ?_
    refine lv_iadd hx hb dX8_made_7 ?_
    exact W.iret (v := (p1 + p2)) hx hb hr (fun t ht hW => ⟨⟨(p1 + p2), (), rfl, h, by rw [ht]; exact hP, va_K.moved hW.alike hK, hD⟩, hS.F ht⟩) hS.2.2 dX8_made_8
/-! X8_comes -/
abbrev rmX8_comes : Room := { frames := 0, cells := 0, slots := 0, locals := 0 }
set_option maxHeartbeats 4000000 in
set_option maxRecDepth 100000 in
theorem c_X8_comes (l : Launch) (D : va_G) (cI cZ : ClassId) (a : Nat → Nat) (b : Nat → Nat) (nw : Bool) (sz : Nat) (S : Ob × (Nat → Int32)) (p0 : Int32) (p1 : Int32) (Q : (Ob × (Nat → Int32)) → Prop) (h : wp_X8_comes nw S p0 p1 Q) (hb4 : nw = true → b 0 = a 4) : Met l yX8_comes (wsm yX8_comes cX8_comes 4 none) rmX8_comes (va_Pc [.ref (a 0), .ref (b 0), .int p0, .int p1] (preW D cI cZ sz (wX8s cI cZ a b S))) (va_Qv Q (fun u => atW D cI cZ (va_A (wX8s cI cZ a b S) sz) (wX8s cI cZ a b u)) (va_A (wX8s cI cZ a b S) sz)) 0 0 (va_A (wX8s cI cZ a b S) sz) := by
  refine Met.ofW (cc := cX8_comes) (maxL := 4) (ret := none) (by decide) rfl ?_
  intro p e s m args below meth c s₁ B hml hv
  obtain ⟨rfl, hsz, hP, hK, hD0⟩ := hv
  have hx := B.exec
  have hb := B.bytes
  have hr := B.returns
  have hts0 := atoms_spec (ws := wsm yX8_comes cX8_comes 4 none) B.pre
  have hts : ∀ w ∈ lw_all, w.before _ s = true := fun w h => hts0 w (List.mem_cons_of_mem _ h)
  have hown : s.vm.findClass RX8 = some m.cls := findClass_of_methodNamed B.named
  have hlocks := B.notSynchronized
  subst hsz
  have hD := hD0.self (sz := s.heap.size)
  generalize hAe : va_A (wX8s cI cZ a b S) s.heap.size = A at hD ⊢
  have hA : ∀ q : Nat, s.heap.size ≤ q → A q := fun q h => by rw [← hAe]; exact Or.inr h
  have hS : va_S A s.heap s.heap [] := va_S.rf
  have hml2 := hml
  have hl := lv_entry ([.ref (a 0), .ref (b 0), .int p0, .int p1]) (n := 4) (Nat.le_of_ble_eq_true rfl)
  rw [lg_entry_eq]
  generalize (lg_sl ([.ref (a 0), .ref (b 0), .int p0, .int p1]) ++ List.replicate (4 - (lg_sl ([.ref (a 0), .ref (b 0), .int p0, .int p1])).length) Slot.unset).toArray = ls at hl ⊢
  have hl : lv_has ls 4 [(0, .ref (a 0)), (1, .ref (b 0)), (2, .int p0), (3, .int p1)] := hl
  unfold wp_X8_comes at h
  refine lv_aload_n hx hb dX8_comes_0 rfl (lv_at hl 1 rfl) ?_
  refine lv_iconst (v := 0) hx hb dX8_comes_1 (by decide) ?_
  refine lv_iload_n hx hb dX8_comes_2 rfl (lv_at hl 2 rfl) ?_
  refine lv_iadd hx hb dX8_comes_3 ?_
  refine lv_iload_n hx hb dX8_comes_4 rfl (lv_at hl 3 rfl) ?_
  obtain ⟨T1, eT1⟩ : ∃ z : (Nat → Int32), z = (upd S.2 (Int32.toNatClampNeg (0 + p0)) p1) := ⟨_, rfl⟩
  refine ar_is (f := S.2) (n := 342) (j := (Int32.toNatClampNeg (0 + p0))) (x := p1) hx hb hK hP hD hS 11 rfl rfl h.1 dX8_comes_5 (wX8s cI cZ a b (S.1, T1)) (by subst eT1; rfl) (fun H locs hP hD hS => ?_)
  have h := h.2
  have h := h T1 eT1
  refine lv_aload_n hx hb dX8_comes_6 rfl (lv_at hl 1 rfl) ?_
  refine lv_bipush (v := 13) hx hb dX8_comes_7 (by decide) ?_
  refine lv_iload_n hx hb dX8_comes_9 rfl (lv_at hl 3 rfl) ?_
  refine lv_if_ne (tgt := 17) hx hb dX8_comes_10 (by decide) (fun c2 => ?_) (fun c2 => ?_)
  · have h := h.1 c2
    refine lv_iconst (v := 0) hx hb dX8_comes_17 (by decide) ?_
    obtain ⟨T3, eT3⟩ : ∃ z : (Nat → Int32), z = (upd T1 13 0) := ⟨_, rfl⟩
    refine ar_is (f := T1) (n := 342) (j := 13) (x := 0) hx hb hK hP hD hS 11 rfl (by decide) (okLit (by decide)) dX8_comes_18 (wX8s cI cZ a b (S.1, T3)) (by subst eT3; rfl) (fun H locs hP hD hS => ?_)
    have h := h T3 eT3
    refine lv_aload_n hx hb dX8_comes_19 rfl (lv_at hl 1 rfl) ?_
    refine lv_bipush (v := 14) hx hb dX8_comes_20 (by decide) ?_
    refine lv_iload_n hx hb dX8_comes_22 rfl (lv_at hl 3 rfl) ?_
    refine lv_if_ge (tgt := 30) hx hb dX8_comes_23 (by decide) (fun c4 => ?_) (fun c4 => ?_)
    · have h := h.1 c4
      refine lv_iconst (v := 0) hx hb dX8_comes_30 (by decide) ?_
      obtain ⟨T5, eT5⟩ : ∃ z : (Nat → Int32), z = (upd T3 14 0) := ⟨_, rfl⟩
      refine ar_is (f := T3) (n := 342) (j := 14) (x := 0) hx hb hK hP hD hS 11 rfl (by decide) (okLit (by decide)) dX8_comes_31 (wX8s cI cZ a b (S.1, T5)) (by subst eT5; rfl) (fun H locs hP hD hS => ?_)
      have h := h T5 eT5
      exact W.vret hx hb hr (fun t ht hW => ⟨⟨(S.1, T5), rfl, h, by rw [ht]; exact hP, va_K.moved hW.alike hK, hD⟩, hS.F ht⟩) hS.2.2 dX8_comes_32
    · have h := h.2 c4
      refine lv_iconst (v := 1) hx hb dX8_comes_26 (by decide) ?_
      refine lv_goto (tgt := 31) hx hb dX8_comes_27 (by decide) ?_
      obtain ⟨T6, eT6⟩ : ∃ z : (Nat → Int32), z = (upd T3 14 1) := ⟨_, rfl⟩
      refine ar_is (f := T3) (n := 342) (j := 14) (x := 1) hx hb hK hP hD hS 11 rfl (by decide) (okLit (by decide)) dX8_comes_31 (wX8s cI cZ a b (S.1, T6)) (by subst eT6; rfl) (fun H locs hP hD hS => ?_)
      have h := h T6 eT6
      exact W.vret hx hb hr (fun t ht hW => ⟨⟨(S.1, T6), rfl, h, by rw [ht]; exact hP, va_K.moved hW.alike hK, hD⟩, hS.F ht⟩) hS.2.2 dX8_comes_32
  · have h := h.2 c2
    refine lv_iconst (v := 1) hx hb dX8_comes_13 (by decide) ?_
    refine lv_goto (tgt := 18) hx hb dX8_comes_14 (by decide) ?_
    obtain ⟨T7, eT7⟩ : ∃ z : (Nat → Int32), z = (upd T1 13 1) := ⟨_, rfl⟩
    refine ar_is (f := T1) (n := 342) (j := 13) (x := 1) hx hb hK hP hD hS 11 rfl (by decide) (okLit (by decide)) dX8_comes_18 (wX8s cI cZ a b (S.1, T7)) (by subst eT7; rfl) (fun H locs hP hD hS => ?_)
    have h := h T7 eT7
    refine lv_aload_n hx hb dX8_comes_19 rfl (lv_at hl 1 rfl) ?_
    refine lv_bipush (v := 14) hx hb dX8_comes_20 (by decide) ?_
    refine lv_iload_n hx hb dX8_comes_22 rfl (lv_at hl 3 rfl) ?_
    refine lv_if_ge (tgt := 30) hx hb dX8_comes_23 (by decide) (fun c8 => ?_) (fun c8 => ?_)
    · have h := h.1 c8
      refine lv_iconst (v := 0) hx hb dX8_comes_30 (by decide) ?_
      obtain ⟨T9, eT9⟩ : ∃ z : (Nat → Int32), z = (upd T7 14 0) := ⟨_, rfl⟩
      refine ar_is (f := T7) (n := 342) (j := 14) (x := 0) hx hb hK hP hD hS 11 rfl (by decide) (okLit (by decide)) dX8_comes_31 (wX8s cI cZ a b (S.1, T9)) (by subst eT9; rfl) (fun H locs hP hD hS => ?_)
      have h := h T9 eT9
      exact W.vret hx hb hr (fun t ht hW => ⟨⟨(S.1, T9), rfl, h, by rw [ht]; exact hP, va_K.moved hW.alike hK, hD⟩, hS.F ht⟩) hS.2.2 dX8_comes_32
    · have h := h.2 c8
      refine lv_iconst (v := 1) hx hb dX8_comes_26 (by decide) ?_
      refine lv_goto (tgt := 31) hx hb dX8_comes_27 (by decide) ?_
      obtain ⟨T10, eT10⟩ : ∃ z : (Nat → Int32), z = (upd T7 14 1) := ⟨_, rfl⟩
      refine ar_is (f := T7) (n := 342) (j := 14) (x := 1) hx hb hK hP hD hS 11 rfl (by decide) (okLit (by decide)) dX8_comes_31 (wX8s cI cZ a b (S.1, T10)) (by subst eT10; rfl) (fun H locs hP hD hS => ?_)
      have h := h T10 eT10
      exact W.vret hx hb hr (fun t ht hW => ⟨⟨(S.1, T10), rfl, h, by rw [ht]; exact hP, va_K.moved hW.alike hK, hD⟩, hS.F ht⟩) hS.2.2 dX8_comes_32
/-! X8_moves -/
abbrev rmX8_moves : Room := { frames := 1, cells := 0, slots := 0, locals := 22 }
set_option maxHeartbeats 4000000 in
set_option maxRecDepth 100000 in
theorem c_X8_moves (l : Launch) (D : va_G) (cI cZ : ClassId) (a : Nat → Nat) (b : Nat → Nat) (nw : Bool) (sz : Nat) (S : Ob × (Nat → Int32)) (p0 : Int32) (p1 : Int32) (p2 : Int32) (Q : (Ob × (Nat → Int32)) → Prop) (h : wp_X8_moves nw S p0 p1 p2 Q) (hb4 : nw = true → b 0 = a 4) : Met l yX8_moves (wsm yX8_moves cX8_moves 5 none) rmX8_moves (va_Pc [.ref (a 0), .ref (b 0), .int p0, .int p1, .int p2] (preW D cI cZ sz (wX8s cI cZ a b S))) (va_Qv Q (fun u => atW D cI cZ (va_A (wX8s cI cZ a b S) sz) (wX8s cI cZ a b u)) (va_A (wX8s cI cZ a b S) sz)) 0 0 (va_A (wX8s cI cZ a b S) sz) := by
  refine Met.ofW (cc := cX8_moves) (maxL := 5) (ret := none) (by decide) rfl ?_
  intro p e s m args below meth c s₁ B hml hv
  obtain ⟨rfl, hsz, hP, hK, hD0⟩ := hv
  have hx := B.exec
  have hb := B.bytes
  have hr := B.returns
  have hts0 := atoms_spec (ws := wsm yX8_moves cX8_moves 5 none) B.pre
  have hts : ∀ w ∈ lw_all, w.before _ s = true := fun w h => hts0 w (List.mem_cons_of_mem _ h)
  have hown : s.vm.findClass RX8 = some m.cls := findClass_of_methodNamed B.named
  have hlocks := B.notSynchronized
  subst hsz
  have hD := hD0.self (sz := s.heap.size)
  generalize hAe : va_A (wX8s cI cZ a b S) s.heap.size = A at hD ⊢
  have hA : ∀ q : Nat, s.heap.size ≤ q → A q := fun q h => by rw [← hAe]; exact Or.inr h
  have hS : va_S A s.heap s.heap [] := va_S.rf
  have hml2 := hml
  have hl := lv_entry ([.ref (a 0), .ref (b 0), .int p0, .int p1, .int p2]) (n := 5) (Nat.le_of_ble_eq_true rfl)
  rw [lg_entry_eq]
  generalize (lg_sl ([.ref (a 0), .ref (b 0), .int p0, .int p1, .int p2]) ++ List.replicate (5 - (lg_sl ([.ref (a 0), .ref (b 0), .int p0, .int p1, .int p2])).length) Slot.unset).toArray = ls at hl ⊢
  have hl : lv_has ls 5 [(0, .ref (a 0)), (1, .ref (b 0)), (2, .int p0), (3, .int p1), (4, .int p2)] := hl
  unfold wp_X8_moves at h
  refine lv_iload_n hx hb dX8_moves_0 rfl (lv_at hl 2 rfl) ?_
  refine lv_bipush (v := 9) hx hb dX8_moves_1 (by decide) ?_
  refine lv_icmp_ne (tgt := 27) hx hb dX8_moves_3 (by decide) (fun c1 => ?_) (fun c1 => ?_)
  · have h := h.1 c1
    refine lv_iload_n hx hb dX8_moves_27 rfl (lv_at hl 2 rfl) ?_
    refine lv_bipush (v := 10) hx hb dX8_moves_28 (by decide) ?_
    refine lv_icmp_ne (tgt := 56) hx hb dX8_moves_30 (by decide) (fun c2 => ?_) (fun c2 => ?_)
    · have h := h.1 c2
      refine lv_iload_n hx hb dX8_moves_56 rfl (lv_at hl 2 rfl) ?_
      refine lv_bipush (v := 11) hx hb dX8_moves_57 (by decide) ?_
      refine lv_icmp_eq (tgt := 90) hx hb dX8_moves_59 (by decide) (fun c3 => ?_) (fun c3 => ?_)
      · have h := h.1 c3
        refine lv_aload_n hx hb dX8_moves_90 rfl (lv_at hl 1 rfl) ?_
        refine lv_bipush (v := 12) hx hb dX8_moves_91 (by decide) ?_
        refine lv_iload hx hb dX8_moves_93 (lv_at hl 4 rfl) ?_
        obtain ⟨T4, eT4⟩ : ∃ z : (Nat → Int32), z = (upd S.2 12 p2) := ⟨_, rfl⟩
        refine ar_is (f := S.2) (n := 342) (j := 12) (x := p2) hx hb hK hP hD hS 11 rfl (by decide) (okLit (by decide)) dX8_moves_95 (wX8s cI cZ a b (S.1, T4)) (by subst eT4; rfl) (fun H locs hP hD hS => ?_)
        have h := h T4 eT4
        exact W.vret hx hb hr (fun t ht hW => ⟨⟨(S.1, T4), rfl, h, by rw [ht]; exact hP, va_K.moved hW.alike hK, hD⟩, hS.F ht⟩) hS.2.2 dX8_moves_96
      · have h := h.2 c3
        refine lv_iload_n hx hb dX8_moves_62 rfl (lv_at hl 2 rfl) ?_
        refine lv_bipush (v := 12) hx hb dX8_moves_63 (by decide) ?_
        refine lv_icmp_ne (tgt := 76) hx hb dX8_moves_65 (by decide) (fun c5 => ?_) (fun c5 => ?_)
        · have h := h.1 c5
          refine lv_iload_n hx hb dX8_moves_76 rfl (lv_at hl 2 rfl) ?_
          refine lv_bipush (v := 13) hx hb dX8_moves_77 (by decide) ?_
          refine lv_icmp_ne (tgt := 96) hx hb dX8_moves_79 (by decide) (fun c6 => ?_) (fun c6 => ?_)
          · have h := h.1 c6
            exact W.vret hx hb hr (fun t ht hW => ⟨⟨S, rfl, h, by rw [ht]; exact hP, va_K.moved hW.alike hK, hD⟩, hS.F ht⟩) hS.2.2 dX8_moves_96
          · have h := h.2 c6
            refine lv_aload_n hx hb dX8_moves_82 rfl (lv_at hl 1 rfl) ?_
            refine lv_bipush (v := 14) hx hb dX8_moves_83 (by decide) ?_
            refine ar_il (f := S.2) (n := 342) (j := 14) hx hb hK hP 11 rfl (by decide) (okLit (by decide)) dX8_moves_85 ?_
            refine lv_iconst (v := 1) hx hb dX8_moves_86 (by decide) ?_
            refine lv_icmp_ne (tgt := 96) hx hb dX8_moves_87 (by decide) (fun c7 => ?_) (fun c7 => ?_)
            · have h := h.1 c7
              exact W.vret hx hb hr (fun t ht hW => ⟨⟨S, rfl, h, by rw [ht]; exact hP, va_K.moved hW.alike hK, hD⟩, hS.F ht⟩) hS.2.2 dX8_moves_96
            · have h := h.2 c7
              refine lv_aload_n hx hb dX8_moves_90 rfl (lv_at hl 1 rfl) ?_
              refine lv_bipush (v := 12) hx hb dX8_moves_91 (by decide) ?_
              refine lv_iload hx hb dX8_moves_93 (lv_at hl 4 rfl) ?_
              obtain ⟨T8, eT8⟩ : ∃ z : (Nat → Int32), z = (upd S.2 12 p2) := ⟨_, rfl⟩
              refine ar_is (f := S.2) (n := 342) (j := 12) (x := p2) hx hb hK hP hD hS 11 rfl (by decide) (okLit (by decide)) dX8_moves_95 (wX8s cI cZ a b (S.1, T8)) (by subst eT8; rfl) (fun H locs hP hD hS => ?_)
              have h := h T8 eT8
              exact W.vret hx hb hr (fun t ht hW => ⟨⟨(S.1, T8), rfl, h, by rw [ht]; exact hP, va_K.moved hW.alike hK, hD⟩, hS.F ht⟩) hS.2.2 dX8_moves_96
        · have h := h.2 c5
          refine lv_aload_n hx hb dX8_moves_68 rfl (lv_at hl 1 rfl) ?_
          refine lv_bipush (v := 13) hx hb dX8_moves_69 (by decide) ?_
          refine ar_il (f := S.2) (n := 342) (j := 13) hx hb hK hP 11 rfl (by decide) (okLit (by decide)) dX8_moves_71 ?_
          refine lv_iconst (v := 1) hx hb dX8_moves_72 (by decide) ?_
          refine lv_icmp_eq (tgt := 90) hx hb dX8_moves_73 (by decide) (fun c9 => ?_) (fun c9 => ?_)
          · have h := h.1 c9
            refine lv_aload_n hx hb dX8_moves_90 rfl (lv_at hl 1 rfl) ?_
            refine lv_bipush (v := 12) hx hb dX8_moves_91 (by decide) ?_
            refine lv_iload hx hb dX8_moves_93 (lv_at hl 4 rfl) ?_
            obtain ⟨T10, eT10⟩ : ∃ z : (Nat → Int32), z = (upd S.2 12 p2) := ⟨_, rfl⟩
            refine ar_is (f := S.2) (n := 342) (j := 12) (x := p2) hx hb hK hP hD hS 11 rfl (by decide) (okLit (by decide)) dX8_moves_95 (wX8s cI cZ a b (S.1, T10)) (by subst eT10; rfl) (fun H locs hP hD hS => ?_)
            have h := h T10 eT10
            exact W.vret hx hb hr (fun t ht hW => ⟨⟨(S.1, T10), rfl, h, by rw [ht]; exact hP, va_K.moved hW.alike hK, hD⟩, hS.F ht⟩) hS.2.2 dX8_moves_96
          · have h := h.2 c9
            refine lv_iload_n hx hb dX8_moves_76 rfl (lv_at hl 2 rfl) ?_
            refine lv_bipush (v := 13) hx hb dX8_moves_77 (by decide) ?_
            refine lv_icmp_ne (tgt := 96) hx hb dX8_moves_79 (by decide) (fun c11 => ?_) (fun c11 => ?_)
            · have h := h.1 c11
              exact W.vret hx hb hr (fun t ht hW => ⟨⟨S, rfl, h, by rw [ht]; exact hP, va_K.moved hW.alike hK, hD⟩, hS.F ht⟩) hS.2.2 dX8_moves_96
            · have h := h.2 c11
              refine lv_aload_n hx hb dX8_moves_82 rfl (lv_at hl 1 rfl) ?_
              refine lv_bipush (v := 14) hx hb dX8_moves_83 (by decide) ?_
              refine ar_il (f := S.2) (n := 342) (j := 14) hx hb hK hP 11 rfl (by decide) (okLit (by decide)) dX8_moves_85 ?_
              refine lv_iconst (v := 1) hx hb dX8_moves_86 (by decide) ?_
              refine lv_icmp_ne (tgt := 96) hx hb dX8_moves_87 (by decide) (fun c12 => ?_) (fun c12 => ?_)
              · have h := h.1 c12
                exact W.vret hx hb hr (fun t ht hW => ⟨⟨S, rfl, h, by rw [ht]; exact hP, va_K.moved hW.alike hK, hD⟩, hS.F ht⟩) hS.2.2 dX8_moves_96
              · have h := h.2 c12
                refine lv_aload_n hx hb dX8_moves_90 rfl (lv_at hl 1 rfl) ?_
                refine lv_bipush (v := 12) hx hb dX8_moves_91 (by decide) ?_
                refine lv_iload hx hb dX8_moves_93 (lv_at hl 4 rfl) ?_
                obtain ⟨T13, eT13⟩ : ∃ z : (Nat → Int32), z = (upd S.2 12 p2) := ⟨_, rfl⟩
                refine ar_is (f := S.2) (n := 342) (j := 12) (x := p2) hx hb hK hP hD hS 11 rfl (by decide) (okLit (by decide)) dX8_moves_95 (wX8s cI cZ a b (S.1, T13)) (by subst eT13; rfl) (fun H locs hP hD hS => ?_)
                have h := h T13 eT13
                exact W.vret hx hb hr (fun t ht hW => ⟨⟨(S.1, T13), rfl, h, by rw [ht]; exact hP, va_K.moved hW.alike hK, hD⟩, hS.F ht⟩) hS.2.2 dX8_moves_96
    · have h := h.2 c2
      refine lv_aload_n hx hb dX8_moves_33 rfl (lv_at hl 1 rfl) ?_
      refine lv_bipush (v := 15) hx hb dX8_moves_34 (by decide) ?_
      refine lv_dup2_11 hx hb dX8_moves_36 rfl rfl ?_
      refine ar_il (f := S.2) (n := 342) (j := 15) hx hb hK hP 11 rfl (by decide) (okLit (by decide)) dX8_moves_37 ?_
      refine lv_iconst (v := 1) hx hb dX8_moves_38 (by decide) ?_
      refine lv_isub hx hb dX8_moves_39 ?_
      obtain ⟨T14, eT14⟩ : ∃ z : (Nat → Int32), z = (upd S.2 15 ((S.2 15) - 1)) := ⟨_, rfl⟩
      refine ar_is (f := S.2) (n := 342) (j := 15) (x := ((S.2 15) - 1)) hx hb hK hP hD hS 11 rfl (by decide) (okLit (by decide)) dX8_moves_40 (wX8s cI cZ a b (S.1, T14)) (by subst eT14; rfl) (fun H locs hP hD hS => ?_)
      have h := h T14 eT14
      refine lv_aload_n hx hb dX8_moves_41 rfl (lv_at hl 1 rfl) ?_
      refine lv_iload_n hx hb dX8_moves_42 rfl (lv_at hl 3 rfl) ?_
      refine lv_aload_n hx hb dX8_moves_43 rfl (lv_at hl 1 rfl) ?_
      refine lv_bipush (v := 56) hx hb dX8_moves_44 (by decide) ?_
      refine lv_aload_n hx hb dX8_moves_46 rfl (lv_at hl 1 rfl) ?_
      refine lv_bipush (v := 15) hx hb dX8_moves_47 (by decide) ?_
      refine ar_il (f := T14) (n := 342) (j := 15) hx hb hK hP 11 rfl (by decide) (okLit (by decide)) dX8_moves_49 ?_
      refine lv_iadd hx hb dX8_moves_50 ?_
      refine ar_il (f := T14) (n := 342) (j := (Int32.toNatClampNeg (56 + (T14 15)))) hx hb hK hP 11 rfl rfl h.1 dX8_moves_51 ?_
      have h := h.2
      obtain ⟨T15, eT15⟩ : ∃ z : (Nat → Int32), z = (upd T14 (Int32.toNatClampNeg p1) (T14 (Int32.toNatClampNeg (56 + (T14 15))))) := ⟨_, rfl⟩
      refine ar_is (f := T14) (n := 342) (j := (Int32.toNatClampNeg p1)) (x := (T14 (Int32.toNatClampNeg (56 + (T14 15))))) hx hb hK hP hD hS 11 rfl rfl h.1 dX8_moves_52 (wX8s cI cZ a b (S.1, T15)) (by subst eT15; rfl) (fun H locs hP hD hS => ?_)
      have h := h.2
      have h := h T15 eT15
      refine lv_goto (tgt := 96) hx hb dX8_moves_53 (by decide) ?_
      exact W.vret hx hb hr (fun t ht hW => ⟨⟨(S.1, T15), rfl, h, by rw [ht]; exact hP, va_K.moved hW.alike hK, hD⟩, hS.F ht⟩) hS.2.2 dX8_moves_96
  · have h := h.2 c1
    refine lv_aload_n hx hb dX8_moves_6 rfl (lv_at hl 1 rfl) ?_
    refine lv_bipush (v := 56) hx hb dX8_moves_7 (by decide) ?_
    refine lv_aload_n hx hb dX8_moves_9 rfl (lv_at hl 1 rfl) ?_
    refine lv_bipush (v := 15) hx hb dX8_moves_10 (by decide) ?_
    refine ar_il (f := S.2) (n := 342) (j := 15) hx hb hK hP 11 rfl (by decide) (okLit (by decide)) dX8_moves_12 ?_
    refine lv_iadd hx hb dX8_moves_13 ?_
    refine lv_aload_n hx hb dX8_moves_14 rfl (lv_at hl 1 rfl) ?_
    refine lv_iload_n hx hb dX8_moves_15 rfl (lv_at hl 3 rfl) ?_
    refine ar_il (f := S.2) (n := 342) (j := (Int32.toNatClampNeg p1)) hx hb hK hP 11 rfl rfl h.1 dX8_moves_16 ?_
    have h := h.2
    obtain ⟨T16, eT16⟩ : ∃ z : (Nat → Int32), z = (upd S.2 (Int32.toNatClampNeg (56 + (S.2 15))) (S.2 (Int32.toNatClampNeg p1))) := ⟨_, rfl⟩
    refine ar_is (f := S.2) (n := 342) (j := (Int32.toNatClampNeg (56 + (S.2 15)))) (x := (S.2 (Int32.toNatClampNeg p1))) hx hb hK hP hD hS 11 rfl rfl h.1 dX8_moves_17 (wX8s cI cZ a b (S.1, T16)) (by subst eT16; rfl) (fun H locs hP hD hS => ?_)
    have h := h.2
    have h := h T16 eT16
    refine lv_aload_n hx hb dX8_moves_18 rfl (lv_at hl 0 rfl) ?_
    refine lv_aload_n hx hb dX8_moves_19 rfl (lv_at hl 1 rfl) ?_
    refine lv_iconst (v := 1) hx hb dX8_moves_20 (by decide) ?_
    refine cl_v (ws' := fun u17 => (wX8s cI cZ a b u17)) (va_runV (As := [.ref (b 0), .int 1]) (rest := []) ⟨hx, hb, hml, hown, hts⟩ (c_X8_rises l D cI cZ a b nw _ (S.1, T16) 1 _ h hb4) (cwV 2 hts (gV q_1278 q_1280 q_45 q_75 q_1281) rfl rfl rfl (by decide +kernel) ⟨Nat.le_of_ble_eq_true rfl, Nat.le_of_ble_eq_true rfl⟩) (preV_of (ci := 7) (q := (RX8, TX8, 25)) hK hP hD [0, 1, 2, 3, 4, 5, 6, 7, 8, 9, 10, 11] rfl rfl (by decide) 0 rfl rfl) rfl rfl hl.1 rfl (lv_room (Nat.le_of_ble_eq_true rfl)) dX8_moves_21 ⟨Nat.zero_le _, Nat.zero_le _⟩) hP hD hS hA [0, 1, 2, 3, 4, 5, 6, 7, 8, 9, 10, 11] [.inl 0, .inl 1, .inl 2, .inl 3, .inl 4, .inl 5, .inl 6, .inl 7, .inl 8, .inl 9, .inl 10, .inl 11] rfl (by decide) (fun _ => rfl) (fun _ => rfl) (fun u17 H locs h hP hD hS => ?_)
    refine lv_goto (tgt := 96) hx hb dX8_moves_24 (by decide) ?_
    exact W.vret hx hb hr (fun t ht hW => ⟨⟨u17, rfl, h, by rw [ht]; exact hP, va_K.moved hW.alike hK, hD⟩, hS.F ht⟩) hS.2.2 dX8_moves_96
/-! X8_ends -/
abbrev rmX8_ends : Room := { frames := 4, cells := 0, slots := 0, locals := 93 }
set_option maxHeartbeats 4000000 in
set_option maxRecDepth 100000 in
theorem c_X8_ends (l : Launch) (D : va_G) (cI cZ : ClassId) (a : Nat → Nat) (b : Nat → Nat) (nw : Bool) (sz : Nat) (S : Ob × (Nat → Int32)) (Q : (Ob × (Nat → Int32)) → Prop) (h : wp_X8_ends nw S Q) (hb4 : nw = true → b 0 = a 4) : Met l yX8_ends (wsm yX8_ends cX8_ends 3 none) rmX8_ends (va_Pc [.ref (a 0), .ref (b 0)] (preW D cI cZ sz (wX8s cI cZ a b S))) (va_Qv Q (fun u => atW D cI cZ (va_A (wX8s cI cZ a b S) sz) (wX8s cI cZ a b u)) (va_A (wX8s cI cZ a b S) sz)) 0 0 (va_A (wX8s cI cZ a b S) sz) := by
  refine Met.ofW (cc := cX8_ends) (maxL := 3) (ret := none) (by decide) rfl ?_
  intro p e s m args below meth c s₁ B hml hv
  obtain ⟨rfl, hsz, hP, hK, hD0⟩ := hv
  have hx := B.exec
  have hb := B.bytes
  have hr := B.returns
  have hts0 := atoms_spec (ws := wsm yX8_ends cX8_ends 3 none) B.pre
  have hts : ∀ w ∈ lw_all, w.before _ s = true := fun w h => hts0 w (List.mem_cons_of_mem _ h)
  have hown : s.vm.findClass RX8 = some m.cls := findClass_of_methodNamed B.named
  have hlocks := B.notSynchronized
  subst hsz
  have hD := hD0.self (sz := s.heap.size)
  generalize hAe : va_A (wX8s cI cZ a b S) s.heap.size = A at hD ⊢
  have hA : ∀ q : Nat, s.heap.size ≤ q → A q := fun q h => by rw [← hAe]; exact Or.inr h
  have hS : va_S A s.heap s.heap [] := va_S.rf
  have hml2 := hml
  have hl := lv_entry ([.ref (a 0), .ref (b 0)]) (n := 3) (Nat.le_of_ble_eq_true rfl)
  rw [lg_entry_eq]
  generalize (lg_sl ([.ref (a 0), .ref (b 0)]) ++ List.replicate (3 - (lg_sl ([.ref (a 0), .ref (b 0)])).length) Slot.unset).toArray = ls at hl ⊢
  have hl : lv_has ls 3 [(0, .ref (a 0)), (1, .ref (b 0))] := hl
  unfold wp_X8_ends at h
  refine lv_aload_n hx hb dX8_ends_0 rfl (lv_at hl 1 rfl) ?_
  refine lv_bipush (v := 30) hx hb dX8_ends_1 (by decide) ?_
  refine lv_dup2_11 hx hb dX8_ends_3 rfl rfl ?_
  refine ar_il (f := S.2) (n := 342) (j := 30) hx hb hK hP 11 rfl (by decide) (okLit (by decide)) dX8_ends_4 ?_
  refine lv_iconst (v := 1) hx hb dX8_ends_5 (by decide) ?_
  refine lv_isub hx hb dX8_ends_6 ?_
  obtain ⟨T1, eT1⟩ : ∃ z : (Nat → Int32), z = (upd S.2 30 ((S.2 30) - 1)) := ⟨_, rfl⟩
  refine ar_is (f := S.2) (n := 342) (j := 30) (x := ((S.2 30) - 1)) hx hb hK hP hD hS 11 rfl (by decide) (okLit (by decide)) dX8_ends_7 (wX8s cI cZ a b (S.1, T1)) (by subst eT1; rfl) (fun H locs hP hD hS => ?_)
  have h := h T1 eT1
  refine lv_aload_n hx hb dX8_ends_8 rfl (lv_at hl 1 rfl) ?_
  refine lv_sipush (v := 152) hx hb dX8_ends_9 (by decide) ?_
  refine lv_aload_n hx hb dX8_ends_12 rfl (lv_at hl 1 rfl) ?_
  refine lv_bipush (v := 30) hx hb dX8_ends_13 (by decide) ?_
  refine ar_il (f := T1) (n := 342) (j := 30) hx hb hK hP 11 rfl (by decide) (okLit (by decide)) dX8_ends_15 ?_
  refine lv_iadd hx hb dX8_ends_16 ?_
  refine ar_il (f := T1) (n := 342) (j := (Int32.toNatClampNeg (152 + (T1 30)))) hx hb hK hP 11 rfl rfl h.1 dX8_ends_17 ?_
  have h := h.2
  refine lv_topi (fun x2 ex2 => ?_)
  have h := h x2 ex2
  refine lv_istore_n (lv' := [(2, .int x2), (0, .ref (a 0)), (1, .ref (b 0))]) hx hb dX8_ends_18 rfl hl (by decide) rfl (fun ls hl => ?_)
  refine lv_aload_n hx hb dX8_ends_19 rfl (lv_at hl 2 rfl) ?_
  refine lv_sipush (v := 300) hx hb dX8_ends_20 (by decide) ?_
  refine lv_iload_n hx hb dX8_ends_23 rfl (lv_at hl 0 rfl) ?_
  refine lv_iadd hx hb dX8_ends_24 ?_
  refine lv_iconst (v := 0) hx hb dX8_ends_25 (by decide) ?_
  obtain ⟨T3, eT3⟩ : ∃ z : (Nat → Int32), z = (upd T1 (Int32.toNatClampNeg (300 + x2)) 0) := ⟨_, rfl⟩
  refine ar_is (f := T1) (n := 342) (j := (Int32.toNatClampNeg (300 + x2))) (x := 0) hx hb hK hP hD hS 11 rfl rfl h.1 dX8_ends_26 (wX8s cI cZ a b (S.1, T3)) (by subst eT3; rfl) (fun H locs hP hD hS => ?_)
  have h := h.2
  have h := h T3 eT3
  refine lv_aload_n hx hb dX8_ends_27 rfl (lv_at hl 1 rfl) ?_
  refine lv_iconst (v := 2) hx hb dX8_ends_28 (by decide) ?_
  refine lv_iload_n hx hb dX8_ends_29 rfl (lv_at hl 0 rfl) ?_
  refine lv_aload_n hx hb dX8_ends_30 rfl (lv_at hl 2 rfl) ?_
  refine lv_bipush (v := 25) hx hb dX8_ends_31 (by decide) ?_
  refine ar_il (f := T3) (n := 342) (j := 25) hx hb hK hP 11 rfl (by decide) (okLit (by decide)) dX8_ends_33 ?_
  refine lv_aload_n hx hb dX8_ends_34 rfl (lv_at hl 2 rfl) ?_
  refine lv_sipush (v := 321) hx hb dX8_ends_35 (by decide) ?_
  refine lv_iload_n hx hb dX8_ends_38 rfl (lv_at hl 0 rfl) ?_
  refine lv_iadd hx hb dX8_ends_39 ?_
  refine ar_il (f := T3) (n := 342) (j := (Int32.toNatClampNeg (321 + x2))) hx hb hK hP 11 rfl rfl h.1 dX8_ends_40 ?_
  have h := h.2
  refine lv_isub hx hb dX8_ends_41 ?_
  refine cl_v (ws' := fun u4 => (wX8s cI cZ a b u4)) (va_runV (As := [.int 2, .int x2, .int ((T3 25) - (T3 (Int32.toNatClampNeg (321 + x2))))]) (rest := []) ⟨hx, hb, hml, hown, hts⟩ (c_X8_notes l D cI cZ a b nw _ (S.1, T3) 2 x2 ((T3 25) - (T3 (Int32.toNatClampNeg (321 + x2)))) _ h hb4) (cwV 3 hts (gV q_1274 q_1276 q_44 q_75 q_1277) rfl rfl rfl (by decide +kernel) ⟨Nat.le_of_ble_eq_true rfl, Nat.le_of_ble_eq_true rfl⟩) (preV_of (ci := 7) (q := (RX8, TX8, 25)) hK hP hD [0, 1, 2, 3, 4, 5, 6, 7, 8, 9, 10, 11] rfl rfl (by decide) 0 rfl rfl) rfl rfl hl.1 rfl (lv_room (Nat.le_of_ble_eq_true rfl)) dX8_ends_42 ⟨Nat.zero_le _, Nat.zero_le _⟩) hP hD hS hA [0, 1, 2, 3, 4, 5, 6, 7, 8, 9, 10, 11] [.inl 0, .inl 1, .inl 2, .inl 3, .inl 4, .inl 5, .inl 6, .inl 7, .inl 8, .inl 9, .inl 10, .inl 11] rfl (by decide) (fun _ => rfl) (fun _ => rfl) (fun u4 H locs h hP hD hS => ?_)
  refine lv_aload_n hx hb dX8_ends_45 rfl (lv_at hl 2 rfl) ?_
  refine lv_sipush (v := 215) hx hb dX8_ends_46 (by decide) ?_
  refine lv_iload_n hx hb dX8_ends_49 rfl (lv_at hl 0 rfl) ?_
  refine lv_iadd hx hb dX8_ends_50 ?_
  refine ar_il (f := u4.2) (n := 342) (j := (Int32.toNatClampNeg (215 + x2))) hx hb hK hP 11 rfl rfl h.1 dX8_ends_51 ?_
  have h := h.2
  refine lv_iconst (v := 1) hx hb dX8_ends_52 (by decide) ?_
  refine lv_icmp_ne (tgt := 62) hx hb dX8_ends_53 (by decide) (fun c5 => ?_) (fun c5 => ?_)
  · have h := h.1 c5
    refine lv_aload_n hx hb dX8_ends_62 rfl (lv_at hl 1 rfl) ?_
    refine lv_aload_n hx hb dX8_ends_63 rfl (lv_at hl 2 rfl) ?_
    refine lv_aload_n hx hb dX8_ends_64 rfl (lv_at hl 1 rfl) ?_
    refine va_get (D := D) (ci := 7) (v := .int (u4.1.1 15)) (C := RX8) (T := TX8) (N := 25) hx hb hts inX8 hown hK hP 0 rfl rfl 15 (by decide) (hts _ q_1092) (fun _ h9 => h9) rfl dX8_ends_65 ?_
    refine lv_if_ne (tgt := 83) hx hb dX8_ends_68 (by decide) (fun c6 => ?_) (fun c6 => ?_)
    · have h := h.1 c6
      refine lv_iconst (v := 3) hx hb dX8_ends_83 (by decide) ?_
      refine lv_iconst (v := 0) hx hb dX8_ends_84 (by decide) ?_
      refine cl_v (ws' := fun u7 => (wX8s cI cZ a b u7)) (va_runV (As := [.ref (b 0), .int 3, .int 0]) (rest := []) ⟨hx, hb, hml, hown, hts⟩ (c_X8_turns l D cI cZ a b nw _ u4 3 0 _ h hb4) (cwV 3 hts (gV q_1250 q_1252 q_38 q_75 q_1253) rfl rfl rfl (by decide +kernel) ⟨Nat.le_of_ble_eq_true rfl, Nat.le_of_ble_eq_true rfl⟩) (preV_of (ci := 7) (q := (RX8, TX8, 25)) hK hP hD [0, 1, 2, 3, 4, 5, 6, 7, 8, 9, 10, 11] rfl rfl (by decide) 0 rfl rfl) rfl rfl hl.1 rfl (lv_room (Nat.le_of_ble_eq_true rfl)) dX8_ends_85 ⟨Nat.zero_le _, Nat.zero_le _⟩) hP hD hS hA [0, 1, 2, 3, 4, 5, 6, 7, 8, 9, 10, 11] [.inl 0, .inl 1, .inl 2, .inl 3, .inl 4, .inl 5, .inl 6, .inl 7, .inl 8, .inl 9, .inl 10, .inl 11] rfl (by decide) (fun _ => rfl) (fun _ => rfl) (fun u7 H locs h hP hD hS => ?_)
      exact W.vret hx hb hr (fun t ht hW => ⟨⟨u7, rfl, h, by rw [ht]; exact hP, va_K.moved hW.alike hK, hD⟩, hS.F ht⟩) hS.2.2 dX8_ends_88
    · have h := h.2 c6
      refine lv_aload_n hx hb dX8_ends_71 rfl (lv_at hl 1 rfl) ?_
      refine lv_aload_n hx hb dX8_ends_72 rfl (lv_at hl 2 rfl) ?_
      refine cl_i (ws' := fun u8 => (wX8s cI cZ a b u8)) (va_runV (As := [.ref (b 0)]) (rest := [.ref (b 0), .ref (a 0)]) ⟨hx, hb, hml, hown, hts⟩ (c_X8_nextOf_ l D cI cZ a b nw _ u4 _ h hb4) (cwV 1 hts (gV q_1229 q_1231 q_35 q_75 q_1232) rfl rfl rfl (by decide +kernel) ⟨Nat.le_of_ble_eq_true rfl, Nat.le_of_ble_eq_true rfl⟩) (preV_of (ci := 7) (q := (RX8, TX8, 25)) hK hP hD [0, 1, 2, 3, 4, 5, 6, 7, 8, 9, 10, 11] rfl rfl (by decide) 0 rfl rfl) rfl rfl hl.1 rfl (lv_room (Nat.le_of_ble_eq_true rfl)) dX8_ends_73 ⟨Nat.zero_le _, Nat.zero_le _⟩) hP hD hS hA [0, 1, 2, 3, 4, 5, 6, 7, 8, 9, 10, 11] [.inl 0, .inl 1, .inl 2, .inl 3, .inl 4, .inl 5, .inl 6, .inl 7, .inl 8, .inl 9, .inl 10, .inl 11] rfl (by decide) (fun _ => rfl) (fun _ => rfl) (fun r9 u8 H locs h hP hD hS => ?_)
      refine lv_if_lt (tgt := 83) hx hb dX8_ends_76 (by decide) (fun c10 => ?_) (fun c10 => ?_)
      · have h := h.1 c10
        refine lv_iconst (v := 3) hx hb dX8_ends_83 (by decide) ?_
        refine lv_iconst (v := 0) hx hb dX8_ends_84 (by decide) ?_
        refine cl_v (ws' := fun u11 => (wX8s cI cZ a b u11)) (va_runV (As := [.ref (b 0), .int 3, .int 0]) (rest := []) ⟨hx, hb, hml, hown, hts⟩ (c_X8_turns l D cI cZ a b nw _ u8 3 0 _ h hb4) (cwV 3 hts (gV q_1250 q_1252 q_38 q_75 q_1253) rfl rfl rfl (by decide +kernel) ⟨Nat.le_of_ble_eq_true rfl, Nat.le_of_ble_eq_true rfl⟩) (preV_of (ci := 7) (q := (RX8, TX8, 25)) hK hP hD [0, 1, 2, 3, 4, 5, 6, 7, 8, 9, 10, 11] rfl rfl (by decide) 0 rfl rfl) rfl rfl hl.1 rfl (lv_room (Nat.le_of_ble_eq_true rfl)) dX8_ends_85 ⟨Nat.zero_le _, Nat.zero_le _⟩) hP hD hS hA [0, 1, 2, 3, 4, 5, 6, 7, 8, 9, 10, 11] [.inl 0, .inl 1, .inl 2, .inl 3, .inl 4, .inl 5, .inl 6, .inl 7, .inl 8, .inl 9, .inl 10, .inl 11] rfl (by decide) (fun _ => rfl) (fun _ => rfl) (fun u11 H locs h hP hD hS => ?_)
        exact W.vret hx hb hr (fun t ht hW => ⟨⟨u11, rfl, h, by rw [ht]; exact hP, va_K.moved hW.alike hK, hD⟩, hS.F ht⟩) hS.2.2 dX8_ends_88
      · have h := h.2 c10
        refine lv_iconst (v := 2) hx hb dX8_ends_79 (by decide) ?_
        refine lv_goto (tgt := 84) hx hb dX8_ends_80 (by decide) ?_
        refine lv_iconst (v := 0) hx hb dX8_ends_84 (by decide) ?_
        refine cl_v (ws' := fun u12 => (wX8s cI cZ a b u12)) (va_runV (As := [.ref (b 0), .int 2, .int 0]) (rest := []) ⟨hx, hb, hml, hown, hts⟩ (c_X8_turns l D cI cZ a b nw _ u8 2 0 _ h hb4) (cwV 3 hts (gV q_1250 q_1252 q_38 q_75 q_1253) rfl rfl rfl (by decide +kernel) ⟨Nat.le_of_ble_eq_true rfl, Nat.le_of_ble_eq_true rfl⟩) (preV_of (ci := 7) (q := (RX8, TX8, 25)) hK hP hD [0, 1, 2, 3, 4, 5, 6, 7, 8, 9, 10, 11] rfl rfl (by decide) 0 rfl rfl) rfl rfl hl.1 rfl (lv_room (Nat.le_of_ble_eq_true rfl)) dX8_ends_85 ⟨Nat.zero_le _, Nat.zero_le _⟩) hP hD hS hA [0, 1, 2, 3, 4, 5, 6, 7, 8, 9, 10, 11] [.inl 0, .inl 1, .inl 2, .inl 3, .inl 4, .inl 5, .inl 6, .inl 7, .inl 8, .inl 9, .inl 10, .inl 11] rfl (by decide) (fun _ => rfl) (fun _ => rfl) (fun u12 H locs h hP hD hS => ?_)
        exact W.vret hx hb hr (fun t ht hW => ⟨⟨u12, rfl, h, by rw [ht]; exact hP, va_K.moved hW.alike hK, hD⟩, hS.F ht⟩) hS.2.2 dX8_ends_88
  · have h := h.2 c5
    refine lv_aload_n hx hb dX8_ends_56 rfl (lv_at hl 1 rfl) ?_
    refine lv_aload_n hx hb dX8_ends_57 rfl (lv_at hl 2 rfl) ?_
    refine lv_iload_n hx hb dX8_ends_58 rfl (lv_at hl 0 rfl) ?_
    refine cl_v (ws' := fun u13 => (wX8s cI cZ a b u13)) (va_runV (As := [.ref (b 0), .int x2]) (rest := []) ⟨hx, hb, hml, hown, hts⟩ (c_X8_pends l D cI cZ a b nw _ u4 x2 _ h hb4) (cwV 2 hts (gV q_1189 q_1191 q_30 q_75 q_1192) rfl rfl rfl (by decide +kernel) ⟨Nat.le_of_ble_eq_true rfl, Nat.le_of_ble_eq_true rfl⟩) (preV_of (ci := 7) (q := (RX8, TX8, 25)) hK hP hD [0, 1, 2, 3, 4, 5, 6, 7, 8, 9, 10, 11] rfl rfl (by decide) 0 rfl rfl) rfl rfl hl.1 rfl (lv_room (Nat.le_of_ble_eq_true rfl)) dX8_ends_59 ⟨Nat.zero_le _, Nat.zero_le _⟩) hP hD hS hA [0, 1, 2, 3, 4, 5, 6, 7, 8, 9, 10, 11] [.inl 0, .inl 1, .inl 2, .inl 3, .inl 4, .inl 5, .inl 6, .inl 7, .inl 8, .inl 9, .inl 10, .inl 11] rfl (by decide) (fun _ => rfl) (fun _ => rfl) (fun u13 H locs h hP hD hS => ?_)
    refine lv_aload_n hx hb dX8_ends_62 rfl (lv_at hl 1 rfl) ?_
    refine lv_aload_n hx hb dX8_ends_63 rfl (lv_at hl 2 rfl) ?_
    refine lv_aload_n hx hb dX8_ends_64 rfl (lv_at hl 1 rfl) ?_
    refine va_get (D := D) (ci := 7) (v := .int (u13.1.1 15)) (C := RX8) (T := TX8) (N := 25) hx hb hts inX8 hown hK hP 0 rfl rfl 15 (by decide) (hts _ q_1092) (fun _ h9 => h9) rfl dX8_ends_65 ?_
    refine lv_if_ne (tgt := 83) hx hb dX8_ends_68 (by decide) (fun c14 => ?_) (fun c14 => ?_)
    · have h := h.1 c14
      refine lv_iconst (v := 3) hx hb dX8_ends_83 (by decide) ?_
      refine lv_iconst (v := 0) hx hb dX8_ends_84 (by decide) ?_
      refine cl_v (ws' := fun u15 => (wX8s cI cZ a b u15)) (va_runV (As := [.ref (b 0), .int 3, .int 0]) (rest := []) ⟨hx, hb, hml, hown, hts⟩ (c_X8_turns l D cI cZ a b nw _ u13 3 0 _ h hb4) (cwV 3 hts (gV q_1250 q_1252 q_38 q_75 q_1253) rfl rfl rfl (by decide +kernel) ⟨Nat.le_of_ble_eq_true rfl, Nat.le_of_ble_eq_true rfl⟩) (preV_of (ci := 7) (q := (RX8, TX8, 25)) hK hP hD [0, 1, 2, 3, 4, 5, 6, 7, 8, 9, 10, 11] rfl rfl (by decide) 0 rfl rfl) rfl rfl hl.1 rfl (lv_room (Nat.le_of_ble_eq_true rfl)) dX8_ends_85 ⟨Nat.zero_le _, Nat.zero_le _⟩) hP hD hS hA [0, 1, 2, 3, 4, 5, 6, 7, 8, 9, 10, 11] [.inl 0, .inl 1, .inl 2, .inl 3, .inl 4, .inl 5, .inl 6, .inl 7, .inl 8, .inl 9, .inl 10, .inl 11] rfl (by decide) (fun _ => rfl) (fun _ => rfl) (fun u15 H locs h hP hD hS => ?_)
      exact W.vret hx hb hr (fun t ht hW => ⟨⟨u15, rfl, h, by rw [ht]; exact hP, va_K.moved hW.alike hK, hD⟩, hS.F ht⟩) hS.2.2 dX8_ends_88
    · have h := h.2 c14
      refine lv_aload_n hx hb dX8_ends_71 rfl (lv_at hl 1 rfl) ?_
      refine lv_aload_n hx hb dX8_ends_72 rfl (lv_at hl 2 rfl) ?_
      refine cl_i (ws' := fun u16 => (wX8s cI cZ a b u16)) (va_runV (As := [.ref (b 0)]) (rest := [.ref (b 0), .ref (a 0)]) ⟨hx, hb, hml, hown, hts⟩ (c_X8_nextOf_ l D cI cZ a b nw _ u13 _ h hb4) (cwV 1 hts (gV q_1229 q_1231 q_35 q_75 q_1232) rfl rfl rfl (by decide +kernel) ⟨Nat.le_of_ble_eq_true rfl, Nat.le_of_ble_eq_true rfl⟩) (preV_of (ci := 7) (q := (RX8, TX8, 25)) hK hP hD [0, 1, 2, 3, 4, 5, 6, 7, 8, 9, 10, 11] rfl rfl (by decide) 0 rfl rfl) rfl rfl hl.1 rfl (lv_room (Nat.le_of_ble_eq_true rfl)) dX8_ends_73 ⟨Nat.zero_le _, Nat.zero_le _⟩) hP hD hS hA [0, 1, 2, 3, 4, 5, 6, 7, 8, 9, 10, 11] [.inl 0, .inl 1, .inl 2, .inl 3, .inl 4, .inl 5, .inl 6, .inl 7, .inl 8, .inl 9, .inl 10, .inl 11] rfl (by decide) (fun _ => rfl) (fun _ => rfl) (fun r17 u16 H locs h hP hD hS => ?_)
      refine lv_if_lt (tgt := 83) hx hb dX8_ends_76 (by decide) (fun c18 => ?_) (fun c18 => ?_)
      · have h := h.1 c18
        refine lv_iconst (v := 3) hx hb dX8_ends_83 (by decide) ?_
        refine lv_iconst (v := 0) hx hb dX8_ends_84 (by decide) ?_
        refine cl_v (ws' := fun u19 => (wX8s cI cZ a b u19)) (va_runV (As := [.ref (b 0), .int 3, .int 0]) (rest := []) ⟨hx, hb, hml, hown, hts⟩ (c_X8_turns l D cI cZ a b nw _ u16 3 0 _ h hb4) (cwV 3 hts (gV q_1250 q_1252 q_38 q_75 q_1253) rfl rfl rfl (by decide +kernel) ⟨Nat.le_of_ble_eq_true rfl, Nat.le_of_ble_eq_true rfl⟩) (preV_of (ci := 7) (q := (RX8, TX8, 25)) hK hP hD [0, 1, 2, 3, 4, 5, 6, 7, 8, 9, 10, 11] rfl rfl (by decide) 0 rfl rfl) rfl rfl hl.1 rfl (lv_room (Nat.le_of_ble_eq_true rfl)) dX8_ends_85 ⟨Nat.zero_le _, Nat.zero_le _⟩) hP hD hS hA [0, 1, 2, 3, 4, 5, 6, 7, 8, 9, 10, 11] [.inl 0, .inl 1, .inl 2, .inl 3, .inl 4, .inl 5, .inl 6, .inl 7, .inl 8, .inl 9, .inl 10, .inl 11] rfl (by decide) (fun _ => rfl) (fun _ => rfl) (fun u19 H locs h hP hD hS => ?_)
        exact W.vret hx hb hr (fun t ht hW => ⟨⟨u19, rfl, h, by rw [ht]; exact hP, va_K.moved hW.alike hK, hD⟩, hS.F ht⟩) hS.2.2 dX8_ends_88
      · have h := h.2 c18
        refine lv_iconst (v := 2) hx hb dX8_ends_79 (by decide) ?_
        refine lv_goto (tgt := 84) hx hb dX8_ends_80 (by decide) ?_
        refine lv_iconst (v := 0) hx hb dX8_ends_84 (by decide) ?_
        refine cl_v (ws' := fun u20 => (wX8s cI cZ a b u20)) (va_runV (As := [.ref (b 0), .int 2, .int 0]) (rest := []) ⟨hx, hb, hml, hown, hts⟩ (c_X8_turns l D cI cZ a b nw _ u16 2 0 _ h hb4) (cwV 3 hts (gV q_1250 q_1252 q_38 q_75 q_1253) rfl rfl rfl (by decide +kernel) ⟨Nat.le_of_ble_eq_true rfl, Nat.le_of_ble_eq_true rfl⟩) (preV_of (ci := 7) (q := (RX8, TX8, 25)) hK hP hD [0, 1, 2, 3, 4, 5, 6, 7, 8, 9, 10, 11] rfl rfl (by decide) 0 rfl rfl) rfl rfl hl.1 rfl (lv_room (Nat.le_of_ble_eq_true rfl)) dX8_ends_85 ⟨Nat.zero_le _, Nat.zero_le _⟩) hP hD hS hA [0, 1, 2, 3, 4, 5, 6, 7, 8, 9, 10, 11] [.inl 0, .inl 1, .inl 2, .inl 3, .inl 4, .inl 5, .inl 6, .inl 7, .inl 8, .inl 9, .inl 10, .inl 11] rfl (by decide) (fun _ => rfl) (fun _ => rfl) (fun u20 H locs h hP hD hS => ?_)
        exact W.vret hx hb hr (fun t ht hW => ⟨⟨u20, rfl, h, by rw [ht]; exact hP, va_K.moved hW.alike hK, hD⟩, hS.F ht⟩) hS.2.2 dX8_ends_88
/-! X8_rules -/
abbrev rmX8_rules : Room := { frames := 5, cells := 0, slots := 0, locals := 115 }
set_option maxHeartbeats 4000000 in
set_option maxRecDepth 100000 in
theorem c_X8_rules (l : Launch) (D : va_G) (cI cZ : ClassId) (a : Nat → Nat) (b : Nat → Nat) (nw : Bool) (sz : Nat) (S : Ob × (Nat → Int32)) (p0 : Int32) (p1 : Int32) (Q : (Ob × (Nat → Int32)) → Prop) (h : wp_X8_rules nw S p0 p1 Q) (hb4 : nw = true → b 0 = a 4) : Met l yX8_rules (wsm yX8_rules cX8_rules 4 none) rmX8_rules (va_Pc [.ref (a 0), .ref (b 0), .int p0, .int p1] (preW D cI cZ sz (wX8s cI cZ a b S))) (va_Qv Q (fun u => atW D cI cZ (va_A (wX8s cI cZ a b S) sz) (wX8s cI cZ a b u)) (va_A (wX8s cI cZ a b S) sz)) 0 0 (va_A (wX8s cI cZ a b S) sz) := by
  refine Met.ofW (cc := cX8_rules) (maxL := 4) (ret := none) (by decide) rfl ?_
  intro p e s m args below meth c s₁ B hml hv
  obtain ⟨rfl, hsz, hP, hK, hD0⟩ := hv
  have hx := B.exec
  have hb := B.bytes
  have hr := B.returns
  have hts0 := atoms_spec (ws := wsm yX8_rules cX8_rules 4 none) B.pre
  have hts : ∀ w ∈ lw_all, w.before _ s = true := fun w h => hts0 w (List.mem_cons_of_mem _ h)
  have hown : s.vm.findClass RX8 = some m.cls := findClass_of_methodNamed B.named
  have hlocks := B.notSynchronized
  subst hsz
  have hD := hD0.self (sz := s.heap.size)
  generalize hAe : va_A (wX8s cI cZ a b S) s.heap.size = A at hD ⊢
  have hA : ∀ q : Nat, s.heap.size ≤ q → A q := fun q h => by rw [← hAe]; exact Or.inr h
  have hS : va_S A s.heap s.heap [] := va_S.rf
  have hml2 := hml
  have hl := lv_entry ([.ref (a 0), .ref (b 0), .int p0, .int p1]) (n := 4) (Nat.le_of_ble_eq_true rfl)
  rw [lg_entry_eq]
  generalize (lg_sl ([.ref (a 0), .ref (b 0), .int p0, .int p1]) ++ List.replicate (4 - (lg_sl ([.ref (a 0), .ref (b 0), .int p0, .int p1])).length) Slot.unset).toArray = ls at hl ⊢
  have hl : lv_has ls 4 [(0, .ref (a 0)), (1, .ref (b 0)), (2, .int p0), (3, .int p1)] := hl
  unfold wp_X8_rules at h
  refine lv_iload_n hx hb dX8_rules_0 rfl (lv_at hl 2 rfl) ?_
  refine lv_bipush (v := 14) hx hb dX8_rules_1 (by decide) ?_
  refine lv_icmp_ne (tgt := 18) hx hb dX8_rules_3 (by decide) (fun c1 => ?_) (fun c1 => ?_)
  · have h := h.1 c1
    refine lv_iload_n hx hb dX8_rules_18 rfl (lv_at hl 2 rfl) ?_
    refine lv_bipush (v := 15) hx hb dX8_rules_19 (by decide) ?_
    refine lv_icmp_ne (tgt := 65) hx hb dX8_rules_21 (by decide) (fun c2 => ?_) (fun c2 => ?_)
    · have h := h.1 c2
      refine lv_iload_n hx hb dX8_rules_65 rfl (lv_at hl 2 rfl) ?_
      refine lv_bipush (v := 16) hx hb dX8_rules_66 (by decide) ?_
      refine lv_icmp_ne (tgt := 81) hx hb dX8_rules_68 (by decide) (fun c3 => ?_) (fun c3 => ?_)
      · have h := h.1 c3
        refine lv_iload_n hx hb dX8_rules_81 rfl (lv_at hl 2 rfl) ?_
        refine lv_bipush (v := 17) hx hb dX8_rules_82 (by decide) ?_
        refine lv_icmp_ne (tgt := 95) hx hb dX8_rules_84 (by decide) (fun c4 => ?_) (fun c4 => ?_)
        · have h := h.1 c4
          refine lv_iload_n hx hb dX8_rules_95 rfl (lv_at hl 2 rfl) ?_
          refine lv_bipush (v := 18) hx hb dX8_rules_96 (by decide) ?_
          refine lv_icmp_ne (tgt := 109) hx hb dX8_rules_98 (by decide) (fun c5 => ?_) (fun c5 => ?_)
          · have h := h.1 c5
            refine lv_aload_n hx hb dX8_rules_109 rfl (lv_at hl 1 rfl) ?_
            refine lv_bipush (v := 23) hx hb dX8_rules_110 (by decide) ?_
            refine lv_iconst (v := 1) hx hb dX8_rules_112 (by decide) ?_
            obtain ⟨T6, eT6⟩ : ∃ z : (Nat → Int32), z = (upd S.2 23 1) := ⟨_, rfl⟩
            refine ar_is (f := S.2) (n := 342) (j := 23) (x := 1) hx hb hK hP hD hS 11 rfl (by decide) (okLit (by decide)) dX8_rules_113 (wX8s cI cZ a b (S.1, T6)) (by subst eT6; rfl) (fun H locs hP hD hS => ?_)
            have h := h T6 eT6
            exact W.vret hx hb hr (fun t ht hW => ⟨⟨(S.1, T6), rfl, h, by rw [ht]; exact hP, va_K.moved hW.alike hK, hD⟩, hS.F ht⟩) hS.2.2 dX8_rules_114
          · have h := h.2 c5
            refine lv_aload_n hx hb dX8_rules_101 rfl (lv_at hl 0 rfl) ?_
            refine lv_aload_n hx hb dX8_rules_102 rfl (lv_at hl 1 rfl) ?_
            refine cl_v (ws' := fun u7 => (wX8s cI cZ a b u7)) (va_runV (As := [.ref (b 0)]) (rest := []) ⟨hx, hb, hml, hown, hts⟩ (c_X8_ends l D cI cZ a b nw _ S _ h hb4) (cwV 1 hts (gV q_1345 q_1347 q_53 q_75 q_1348) rfl rfl rfl (by decide +kernel) ⟨Nat.le_of_ble_eq_true rfl, Nat.le_of_ble_eq_true rfl⟩) (preV_of (ci := 7) (q := (RX8, TX8, 25)) hK hP hD [0, 1, 2, 3, 4, 5, 6, 7, 8, 9, 10, 11] rfl rfl (by decide) 0 rfl rfl) rfl rfl hl.1 rfl (lv_room (Nat.le_of_ble_eq_true rfl)) dX8_rules_103 ⟨Nat.zero_le _, Nat.zero_le _⟩) hP hD hS hA [0, 1, 2, 3, 4, 5, 6, 7, 8, 9, 10, 11] [.inl 0, .inl 1, .inl 2, .inl 3, .inl 4, .inl 5, .inl 6, .inl 7, .inl 8, .inl 9, .inl 10, .inl 11] rfl (by decide) (fun _ => rfl) (fun _ => rfl) (fun u7 H locs h hP hD hS => ?_)
            refine lv_goto (tgt := 114) hx hb dX8_rules_106 (by decide) ?_
            exact W.vret hx hb hr (fun t ht hW => ⟨⟨u7, rfl, h, by rw [ht]; exact hP, va_K.moved hW.alike hK, hD⟩, hS.F ht⟩) hS.2.2 dX8_rules_114
        · have h := h.2 c4
          refine lv_aload_n hx hb dX8_rules_87 rfl (lv_at hl 1 rfl) ?_
          refine lv_bipush (v := 17) hx hb dX8_rules_88 (by decide) ?_
          refine lv_iload_n hx hb dX8_rules_90 rfl (lv_at hl 3 rfl) ?_
          obtain ⟨T8, eT8⟩ : ∃ z : (Nat → Int32), z = (upd S.2 17 p1) := ⟨_, rfl⟩
          refine ar_is (f := S.2) (n := 342) (j := 17) (x := p1) hx hb hK hP hD hS 11 rfl (by decide) (okLit (by decide)) dX8_rules_91 (wX8s cI cZ a b (S.1, T8)) (by subst eT8; rfl) (fun H locs hP hD hS => ?_)
          have h := h T8 eT8
          refine lv_goto (tgt := 114) hx hb dX8_rules_92 (by decide) ?_
          exact W.vret hx hb hr (fun t ht hW => ⟨⟨(S.1, T8), rfl, h, by rw [ht]; exact hP, va_K.moved hW.alike hK, hD⟩, hS.F ht⟩) hS.2.2 dX8_rules_114
      · have h := h.2 c3
        refine lv_aload_n hx hb dX8_rules_71 rfl (lv_at hl 1 rfl) ?_
        refine lv_bipush (v := 16) hx hb dX8_rules_72 (by decide) ?_
        refine lv_iload_n hx hb dX8_rules_74 rfl (lv_at hl 3 rfl) ?_
        refine lv_iconst (v := 1) hx hb dX8_rules_75 (by decide) ?_
        refine lv_iand hx hb dX8_rules_76 ?_
        obtain ⟨T9, eT9⟩ : ∃ z : (Nat → Int32), z = (upd S.2 16 (p1 &&& 1)) := ⟨_, rfl⟩
        refine ar_is (f := S.2) (n := 342) (j := 16) (x := (p1 &&& 1)) hx hb hK hP hD hS 11 rfl (by decide) (okLit (by decide)) dX8_rules_77 (wX8s cI cZ a b (S.1, T9)) (by subst eT9; rfl) (fun H locs hP hD hS => ?_)
        have h := h T9 eT9
        refine lv_goto (tgt := 114) hx hb dX8_rules_78 (by decide) ?_
        exact W.vret hx hb hr (fun t ht hW => ⟨⟨(S.1, T9), rfl, h, by rw [ht]; exact hP, va_K.moved hW.alike hK, hD⟩, hS.F ht⟩) hS.2.2 dX8_rules_114
    · have h := h.2 c2
      refine lv_aload_n hx hb dX8_rules_24 rfl (lv_at hl 1 rfl) ?_
      refine lv_sipush (v := 194) hx hb dX8_rules_25 (by decide) ?_
      refine lv_iload_n hx hb dX8_rules_28 rfl (lv_at hl 3 rfl) ?_
      refine lv_bipush (v := 18) hx hb dX8_rules_29 (by decide) ?_
      refine lv_irem hx hb dX8_rules_31 (by decide) ?_
      refine lv_iadd hx hb dX8_rules_32 ?_
      refine lv_aload_n hx hb dX8_rules_33 rfl (lv_at hl 1 rfl) ?_
      refine lv_sipush (v := 215) hx hb dX8_rules_34 (by decide) ?_
      refine lv_iload_n hx hb dX8_rules_37 rfl (lv_at hl 3 rfl) ?_
      refine lv_bipush (v := 18) hx hb dX8_rules_38 (by decide) ?_
      refine lv_irem hx hb dX8_rules_40 (by decide) ?_
      refine lv_iadd hx hb dX8_rules_41 ?_
      refine ar_il (f := S.2) (n := 342) (j := (Int32.toNatClampNeg (215 + (p1 - p1 / 18 * 18)))) hx hb hK hP 11 rfl rfl h.1 dX8_rules_42 ?_
      have h := h.2
      refine lv_iconst (v := 1) hx hb dX8_rules_43 (by decide) ?_
      refine lv_icmp_ne (tgt := 60) hx hb dX8_rules_44 (by decide) (fun c10 => ?_) (fun c10 => ?_)
      · have h := h.1 c10
        refine lv_iconst (v := -1) hx hb dX8_rules_60 (by decide) ?_
        obtain ⟨T11, eT11⟩ : ∃ z : (Nat → Int32), z = (upd S.2 (Int32.toNatClampNeg (194 + (p1 - p1 / 18 * 18))) (-1)) := ⟨_, rfl⟩
        refine ar_is (f := S.2) (n := 342) (j := (Int32.toNatClampNeg (194 + (p1 - p1 / 18 * 18)))) (x := (-1)) hx hb hK hP hD hS 11 rfl rfl h.1 dX8_rules_61 (wX8s cI cZ a b (S.1, T11)) (by subst eT11; rfl) (fun H locs hP hD hS => ?_)
        have h := h.2
        have h := h T11 eT11
        refine lv_goto (tgt := 114) hx hb dX8_rules_62 (by decide) ?_
        exact W.vret hx hb hr (fun t ht hW => ⟨⟨(S.1, T11), rfl, h, by rw [ht]; exact hP, va_K.moved hW.alike hK, hD⟩, hS.F ht⟩) hS.2.2 dX8_rules_114
      · have h := h.2 c10
        refine lv_aload_n hx hb dX8_rules_47 rfl (lv_at hl 1 rfl) ?_
        refine lv_sipush (v := 194) hx hb dX8_rules_48 (by decide) ?_
        refine lv_iload_n hx hb dX8_rules_51 rfl (lv_at hl 3 rfl) ?_
        refine lv_bipush (v := 18) hx hb dX8_rules_52 (by decide) ?_
        refine lv_irem hx hb dX8_rules_54 (by decide) ?_
        refine lv_iadd hx hb dX8_rules_55 ?_
        refine ar_il (f := S.2) (n := 342) (j := (Int32.toNatClampNeg (194 + (p1 - p1 / 18 * 18)))) hx hb hK hP 11 rfl rfl h.1 dX8_rules_56 ?_
        have h := h.2
        refine lv_goto (tgt := 61) hx hb dX8_rules_57 (by decide) ?_
        obtain ⟨T12, eT12⟩ : ∃ z : (Nat → Int32), z = (upd S.2 (Int32.toNatClampNeg (194 + (p1 - p1 / 18 * 18))) (S.2 (Int32.toNatClampNeg (194 + (p1 - p1 / 18 * 18))))) := ⟨_, rfl⟩
        refine ar_is (f := S.2) (n := 342) (j := (Int32.toNatClampNeg (194 + (p1 - p1 / 18 * 18)))) (x := (S.2 (Int32.toNatClampNeg (194 + (p1 - p1 / 18 * 18))))) hx hb hK hP hD hS 11 rfl rfl h.1 dX8_rules_61 (wX8s cI cZ a b (S.1, T12)) (by subst eT12; rfl) (fun H locs hP hD hS => ?_)
        have h := h.2
        have h := h T12 eT12
        refine lv_goto (tgt := 114) hx hb dX8_rules_62 (by decide) ?_
        exact W.vret hx hb hr (fun t ht hW => ⟨⟨(S.1, T12), rfl, h, by rw [ht]; exact hP, va_K.moved hW.alike hK, hD⟩, hS.F ht⟩) hS.2.2 dX8_rules_114
  · have h := h.2 c1
    refine lv_aload_n hx hb dX8_rules_6 rfl (lv_at hl 0 rfl) ?_
    refine lv_aload_n hx hb dX8_rules_7 rfl (lv_at hl 1 rfl) ?_
    refine lv_iload_n hx hb dX8_rules_8 rfl (lv_at hl 3 rfl) ?_
    refine lv_bipush (v := 18) hx hb dX8_rules_9 (by decide) ?_
    refine lv_irem hx hb dX8_rules_11 (by decide) ?_
    refine cl_v (ws' := fun u13 => (wX8s cI cZ a b u13)) (va_runV (As := [.ref (b 0), .int (p1 - p1 / 18 * 18)]) (rest := []) ⟨hx, hb, hml, hown, hts⟩ (c_X8_pends l D cI cZ a b nw _ S (p1 - p1 / 18 * 18) _ h hb4) (cwV 2 hts (gV q_1189 q_1191 q_30 q_75 q_1192) rfl rfl rfl (by decide +kernel) ⟨Nat.le_of_ble_eq_true rfl, Nat.le_of_ble_eq_true rfl⟩) (preV_of (ci := 7) (q := (RX8, TX8, 25)) hK hP hD [0, 1, 2, 3, 4, 5, 6, 7, 8, 9, 10, 11] rfl rfl (by decide) 0 rfl rfl) rfl rfl hl.1 rfl (lv_room (Nat.le_of_ble_eq_true rfl)) dX8_rules_12 ⟨Nat.zero_le _, Nat.zero_le _⟩) hP hD hS hA [0, 1, 2, 3, 4, 5, 6, 7, 8, 9, 10, 11] [.inl 0, .inl 1, .inl 2, .inl 3, .inl 4, .inl 5, .inl 6, .inl 7, .inl 8, .inl 9, .inl 10, .inl 11] rfl (by decide) (fun _ => rfl) (fun _ => rfl) (fun u13 H locs h hP hD hS => ?_)
    refine lv_goto (tgt := 114) hx hb dX8_rules_15 (by decide) ?_
    exact W.vret hx hb hr (fun t ht hW => ⟨⟨u13, rfl, h, by rw [ht]; exact hP, va_K.moved hW.alike hK, hD⟩, hS.F ht⟩) hS.2.2 dX8_rules_114
/-! X8_floats -/
abbrev rmX8_floats : Room := { frames := 3, cells := 0, slots := 0, locals := 89 }
set_option maxHeartbeats 4000000 in
set_option maxRecDepth 100000 in
theorem c_X8_floats (l : Launch) (D : va_G) (cI cZ : ClassId) (a : Nat → Nat) (b : Nat → Nat) (nw : Bool) (sz : Nat) (S : Ob × (Nat → Int32)) (p0 : Int32) (p1 : Int32) (p2 : Int32) (p3 : Int32) (p4 : Int32) (p5 : Int32) (Q : (Ob × (Nat → Int32)) → Prop) (h : wp_X8_floats nw S p0 p1 p2 p3 p4 p5 Q) (hb4 : nw = true → b 0 = a 4) : Met l yX8_floats (wsm yX8_floats cX8_floats 8 none) rmX8_floats (va_Pc [.ref (a 0), .ref (b 0), .int p0, .int p1, .int p2, .int p3, .int p4, .int p5] (preW D cI cZ sz (wX8s cI cZ a b S))) (va_Qv Q (fun u => atW D cI cZ (va_A (wX8s cI cZ a b S) sz) (wX8s cI cZ a b u)) (va_A (wX8s cI cZ a b S) sz)) 0 0 (va_A (wX8s cI cZ a b S) sz) := by
  refine Met.ofW (cc := cX8_floats) (maxL := 8) (ret := none) (by decide) rfl ?_
  intro p e s m args below meth c s₁ B hml hv
  obtain ⟨rfl, hsz, hP, hK, hD0⟩ := hv
  have hx := B.exec
  have hb := B.bytes
  have hr := B.returns
  have hts0 := atoms_spec (ws := wsm yX8_floats cX8_floats 8 none) B.pre
  have hts : ∀ w ∈ lw_all, w.before _ s = true := fun w h => hts0 w (List.mem_cons_of_mem _ h)
  have hown : s.vm.findClass RX8 = some m.cls := findClass_of_methodNamed B.named
  have hlocks := B.notSynchronized
  subst hsz
  have hD := hD0.self (sz := s.heap.size)
  generalize hAe : va_A (wX8s cI cZ a b S) s.heap.size = A at hD ⊢
  have hA : ∀ q : Nat, s.heap.size ≤ q → A q := fun q h => by rw [← hAe]; exact Or.inr h
  have hS : va_S A s.heap s.heap [] := va_S.rf
  have hml2 := hml
  have hl := lv_entry ([.ref (a 0), .ref (b 0), .int p0, .int p1, .int p2, .int p3, .int p4, .int p5]) (n := 8) (Nat.le_of_ble_eq_true rfl)
  rw [lg_entry_eq]
  generalize (lg_sl ([.ref (a 0), .ref (b 0), .int p0, .int p1, .int p2, .int p3, .int p4, .int p5]) ++ List.replicate (8 - (lg_sl ([.ref (a 0), .ref (b 0), .int p0, .int p1, .int p2, .int p3, .int p4, .int p5])).length) Slot.unset).toArray = ls at hl ⊢
  have hl : lv_has ls 8 [(0, .ref (a 0)), (1, .ref (b 0)), (2, .int p0), (3, .int p1), (4, .int p2), (5, .int p3), (6, .int p4), (7, .int p5)] := hl
  unfold wp_X8_floats at h
  refine lv_iload_n hx hb dX8_floats_0 rfl (lv_at hl 2 rfl) ?_
  refine lv_bipush (v := 20) hx hb dX8_floats_1 (by decide) ?_
  refine lv_icmp_ne (tgt := 34) hx hb dX8_floats_3 (by decide) (fun c1 => ?_) (fun c1 => ?_)
  · have h := h.1 c1
    refine lv_iload_n hx hb dX8_floats_34 rfl (lv_at hl 2 rfl) ?_
    refine lv_bipush (v := 21) hx hb dX8_floats_35 (by decide) ?_
    refine lv_icmp_ne (tgt := 65) hx hb dX8_floats_37 (by decide) (fun c2 => ?_) (fun c2 => ?_)
    · have h := h.1 c2
      refine lv_iload_n hx hb dX8_floats_65 rfl (lv_at hl 2 rfl) ?_
      refine lv_bipush (v := 22) hx hb dX8_floats_66 (by decide) ?_
      refine lv_icmp_ne (tgt := 96) hx hb dX8_floats_68 (by decide) (fun c3 => ?_) (fun c3 => ?_)
      · have h := h.1 c3
        refine lv_iload_n hx hb dX8_floats_96 rfl (lv_at hl 2 rfl) ?_
        refine lv_bipush (v := 23) hx hb dX8_floats_97 (by decide) ?_
        refine lv_icmp_ne (tgt := 119) hx hb dX8_floats_99 (by decide) (fun c4 => ?_) (fun c4 => ?_)
        · have h := h.1 c4
          refine lv_aload_n hx hb dX8_floats_119 rfl (lv_at hl 1 rfl) ?_
          refine lv_bipush (v := 8) hx hb dX8_floats_120 (by decide) ?_
          refine lv_iload_n hx hb dX8_floats_122 rfl (lv_at hl 3 rfl) ?_
          refine lv_iadd hx hb dX8_floats_123 ?_
          refine lv_aload_n hx hb dX8_floats_124 rfl (lv_at hl 1 rfl) ?_
          refine lv_iload hx hb dX8_floats_125 (lv_at hl 6 rfl) ?_
          refine ar_il (f := S.2) (n := 342) (j := (Int32.toNatClampNeg p4)) hx hb hK hP 11 rfl rfl h.1 dX8_floats_127 ?_
          have h := h.2
          refine cl_i (ws' := fun u5 => (wX8s cI cZ a b S)) (va_runS (As := [.int (S.2 (Int32.toNatClampNeg p4))]) (rest := [.int (8 + p1), .ref (b 0)]) ⟨hx, hb, hml, hown, hts⟩ (c_X8_ofInt l D cI cZ _ () (S.2 (Int32.toNatClampNeg p4)) _ h ) (va_cwS 1 hts (gS q_1360 q_1361 q_75 q_1362) rfl rfl rfl (by decide +kernel) ⟨Nat.le_of_ble_eq_true rfl, Nat.le_of_ble_eq_true rfl⟩) (preS_of hK hP hD [] rfl rfl (by decide)) rfl rfl hl.1 rfl (lv_room (Nat.le_of_ble_eq_true rfl)) dX8_floats_128 ⟨Nat.zero_le _, Nat.zero_le _⟩) hP hD hS hA [] [.inr 0, .inr 1, .inr 2, .inr 3, .inr 4, .inr 5, .inr 6, .inr 7, .inr 8, .inr 9, .inr 10, .inr 11] rfl (by decide) (fun _ => rfl) (fun _ => rfl) (fun r6 u5 H locs h hP hD hS => ?_)
          obtain ⟨T7, eT7⟩ : ∃ z : (Nat → Int32), z = (upd S.2 (Int32.toNatClampNeg (8 + p1)) r6) := ⟨_, rfl⟩
          refine ar_is (f := S.2) (n := 342) (j := (Int32.toNatClampNeg (8 + p1))) (x := r6) hx hb hK hP hD hS 11 rfl rfl h.1 dX8_floats_131 (wX8s cI cZ a b (S.1, T7)) (by subst eT7; rfl) (fun H locs hP hD hS => ?_)
          have h := h.2
          have h := h T7 eT7
          refine lv_aload_n hx hb dX8_floats_132 rfl (lv_at hl 1 rfl) ?_
          refine lv_bipush (v := 18) hx hb dX8_floats_133 (by decide) ?_
          refine lv_iconst (v := 1) hx hb dX8_floats_135 (by decide) ?_
          obtain ⟨T8, eT8⟩ : ∃ z : (Nat → Int32), z = (upd T7 18 1) := ⟨_, rfl⟩
          refine ar_is (f := T7) (n := 342) (j := 18) (x := 1) hx hb hK hP hD hS 11 rfl (by decide) (okLit (by decide)) dX8_floats_136 (wX8s cI cZ a b (S.1, T8)) (by subst eT8; rfl) (fun H locs hP hD hS => ?_)
          have h := h T8 eT8
          exact W.vret hx hb hr (fun t ht hW => ⟨⟨(S.1, T8), rfl, h, by rw [ht]; exact hP, va_K.moved hW.alike hK, hD⟩, hS.F ht⟩) hS.2.2 dX8_floats_137
        · have h := h.2 c4
          refine lv_aload_n hx hb dX8_floats_102 rfl (lv_at hl 1 rfl) ?_
          refine lv_iload hx hb dX8_floats_103 (lv_at hl 5 rfl) ?_
          refine lv_aload_n hx hb dX8_floats_105 rfl (lv_at hl 1 rfl) ?_
          refine lv_bipush (v := 8) hx hb dX8_floats_106 (by decide) ?_
          refine lv_iload hx hb dX8_floats_108 (lv_at hl 4 rfl) ?_
          refine lv_iadd hx hb dX8_floats_110 ?_
          refine ar_il (f := S.2) (n := 342) (j := (Int32.toNatClampNeg (8 + p2))) hx hb hK hP 11 rfl rfl h.1 dX8_floats_111 ?_
          have h := h.2
          refine cl_i (ws' := fun u9 => (wX8s cI cZ a b S)) (va_runS (As := [.int (S.2 (Int32.toNatClampNeg (8 + p2)))]) (rest := [.int p3, .ref (b 0)]) ⟨hx, hb, hml, hown, hts⟩ (c_X8_toInt l D cI cZ _ () (S.2 (Int32.toNatClampNeg (8 + p2))) _ h ) (va_cwS 1 hts (gS q_1353 q_1354 q_75 q_1355) rfl rfl rfl (by decide +kernel) ⟨Nat.le_of_ble_eq_true rfl, Nat.le_of_ble_eq_true rfl⟩) (preS_of hK hP hD [] rfl rfl (by decide)) rfl rfl hl.1 rfl (lv_room (Nat.le_of_ble_eq_true rfl)) dX8_floats_112 ⟨Nat.zero_le _, Nat.zero_le _⟩) hP hD hS hA [] [.inr 0, .inr 1, .inr 2, .inr 3, .inr 4, .inr 5, .inr 6, .inr 7, .inr 8, .inr 9, .inr 10, .inr 11] rfl (by decide) (fun _ => rfl) (fun _ => rfl) (fun r10 u9 H locs h hP hD hS => ?_)
          obtain ⟨T11, eT11⟩ : ∃ z : (Nat → Int32), z = (upd S.2 (Int32.toNatClampNeg p3) r10) := ⟨_, rfl⟩
          refine ar_is (f := S.2) (n := 342) (j := (Int32.toNatClampNeg p3)) (x := r10) hx hb hK hP hD hS 11 rfl rfl h.1 dX8_floats_115 (wX8s cI cZ a b (S.1, T11)) (by subst eT11; rfl) (fun H locs hP hD hS => ?_)
          have h := h.2
          have h := h T11 eT11
          refine lv_goto (tgt := 132) hx hb dX8_floats_116 (by decide) ?_
          refine lv_aload_n hx hb dX8_floats_132 rfl (lv_at hl 1 rfl) ?_
          refine lv_bipush (v := 18) hx hb dX8_floats_133 (by decide) ?_
          refine lv_iconst (v := 1) hx hb dX8_floats_135 (by decide) ?_
          obtain ⟨T12, eT12⟩ : ∃ z : (Nat → Int32), z = (upd T11 18 1) := ⟨_, rfl⟩
          refine ar_is (f := T11) (n := 342) (j := 18) (x := 1) hx hb hK hP hD hS 11 rfl (by decide) (okLit (by decide)) dX8_floats_136 (wX8s cI cZ a b (S.1, T12)) (by subst eT12; rfl) (fun H locs hP hD hS => ?_)
          have h := h T12 eT12
          exact W.vret hx hb hr (fun t ht hW => ⟨⟨(S.1, T12), rfl, h, by rw [ht]; exact hP, va_K.moved hW.alike hK, hD⟩, hS.F ht⟩) hS.2.2 dX8_floats_137
      · have h := h.2 c3
        refine lv_aload_n hx hb dX8_floats_71 rfl (lv_at hl 1 rfl) ?_
        refine lv_bipush (v := 8) hx hb dX8_floats_72 (by decide) ?_
        refine lv_iload_n hx hb dX8_floats_74 rfl (lv_at hl 3 rfl) ?_
        refine lv_iadd hx hb dX8_floats_75 ?_
        refine lv_aload_n hx hb dX8_floats_76 rfl (lv_at hl 1 rfl) ?_
        refine lv_bipush (v := 8) hx hb dX8_floats_77 (by decide) ?_
        refine lv_iload_n hx hb dX8_floats_79 rfl (lv_at hl 3 rfl) ?_
        refine lv_iadd hx hb dX8_floats_80 ?_
        refine ar_il (f := S.2) (n := 342) (j := (Int32.toNatClampNeg (8 + p1))) hx hb hK hP 11 rfl rfl h.1 dX8_floats_81 ?_
        have h := h.2
        refine lv_aload_n hx hb dX8_floats_82 rfl (lv_at hl 1 rfl) ?_
        refine lv_bipush (v := 8) hx hb dX8_floats_83 (by decide) ?_
        refine lv_iload hx hb dX8_floats_85 (lv_at hl 4 rfl) ?_
        refine lv_iadd hx hb dX8_floats_87 ?_
        refine ar_il (f := S.2) (n := 342) (j := (Int32.toNatClampNeg (8 + p2))) hx hb hK hP 11 rfl rfl h.1 dX8_floats_88 ?_
        have h := h.2
        refine cl_i (ws' := fun u13 => (wX8s cI cZ a b S)) (va_runS (As := [.int (S.2 (Int32.toNatClampNeg (8 + p1))), .int (S.2 (Int32.toNatClampNeg (8 + p2)))]) (rest := [.int (8 + p1), .ref (b 0)]) ⟨hx, hb, hml, hown, hts⟩ (c_X8_product l D cI cZ _ () (S.2 (Int32.toNatClampNeg (8 + p1))) (S.2 (Int32.toNatClampNeg (8 + p2))) _ h ) (va_cwS 2 hts (gS q_1323 q_1324 q_75 q_1325) rfl rfl rfl (by decide +kernel) ⟨Nat.le_of_ble_eq_true rfl, Nat.le_of_ble_eq_true rfl⟩) (preS_of hK hP hD [] rfl rfl (by decide)) rfl rfl hl.1 rfl (lv_room (Nat.le_of_ble_eq_true rfl)) dX8_floats_89 ⟨Nat.zero_le _, Nat.zero_le _⟩) hP hD hS hA [] [.inr 0, .inr 1, .inr 2, .inr 3, .inr 4, .inr 5, .inr 6, .inr 7, .inr 8, .inr 9, .inr 10, .inr 11] rfl (by decide) (fun _ => rfl) (fun _ => rfl) (fun r14 u13 H locs h hP hD hS => ?_)
        obtain ⟨T15, eT15⟩ : ∃ z : (Nat → Int32), z = (upd S.2 (Int32.toNatClampNeg (8 + p1)) r14) := ⟨_, rfl⟩
        refine ar_is (f := S.2) (n := 342) (j := (Int32.toNatClampNeg (8 + p1))) (x := r14) hx hb hK hP hD hS 11 rfl rfl h.1 dX8_floats_92 (wX8s cI cZ a b (S.1, T15)) (by subst eT15; rfl) (fun H locs hP hD hS => ?_)
        have h := h.2
        have h := h T15 eT15
        refine lv_goto (tgt := 132) hx hb dX8_floats_93 (by decide) ?_
        refine lv_aload_n hx hb dX8_floats_132 rfl (lv_at hl 1 rfl) ?_
        refine lv_bipush (v := 18) hx hb dX8_floats_133 (by decide) ?_
        refine lv_iconst (v := 1) hx hb dX8_floats_135 (by decide) ?_
        obtain ⟨T16, eT16⟩ : ∃ z : (Nat → Int32), z = (upd T15 18 1) := ⟨_, rfl⟩
        refine ar_is (f := T15) (n := 342) (j := 18) (x := 1) hx hb hK hP hD hS 11 rfl (by decide) (okLit (by decide)) dX8_floats_136 (wX8s cI cZ a b (S.1, T16)) (by subst eT16; rfl) (fun H locs hP hD hS => ?_)
        have h := h T16 eT16
        exact W.vret hx hb hr (fun t ht hW => ⟨⟨(S.1, T16), rfl, h, by rw [ht]; exact hP, va_K.moved hW.alike hK, hD⟩, hS.F ht⟩) hS.2.2 dX8_floats_137
    · have h := h.2 c2
      refine lv_aload_n hx hb dX8_floats_40 rfl (lv_at hl 1 rfl) ?_
      refine lv_bipush (v := 8) hx hb dX8_floats_41 (by decide) ?_
      refine lv_iload_n hx hb dX8_floats_43 rfl (lv_at hl 3 rfl) ?_
      refine lv_iadd hx hb dX8_floats_44 ?_
      refine lv_aload_n hx hb dX8_floats_45 rfl (lv_at hl 1 rfl) ?_
      refine lv_bipush (v := 8) hx hb dX8_floats_46 (by decide) ?_
      refine lv_iload_n hx hb dX8_floats_48 rfl (lv_at hl 3 rfl) ?_
      refine lv_iadd hx hb dX8_floats_49 ?_
      refine ar_il (f := S.2) (n := 342) (j := (Int32.toNatClampNeg (8 + p1))) hx hb hK hP 11 rfl rfl h.1 dX8_floats_50 ?_
      have h := h.2
      refine lv_aload_n hx hb dX8_floats_51 rfl (lv_at hl 1 rfl) ?_
      refine lv_bipush (v := 8) hx hb dX8_floats_52 (by decide) ?_
      refine lv_iload hx hb dX8_floats_54 (lv_at hl 4 rfl) ?_
      refine lv_iadd hx hb dX8_floats_56 ?_
      refine ar_il (f := S.2) (n := 342) (j := (Int32.toNatClampNeg (8 + p2))) hx hb hK hP 11 rfl rfl h.1 dX8_floats_57 ?_
      have h := h.2
      refine cl_i (ws' := fun u17 => (wX8s cI cZ a b S)) (va_runS (As := [.int (S.2 (Int32.toNatClampNeg (8 + p1))), .int (S.2 (Int32.toNatClampNeg (8 + p2)))]) (rest := [.int (8 + p1), .ref (b 0)]) ⟨hx, hb, hml, hown, hts⟩ (c_X8_sum l D cI cZ _ () (S.2 (Int32.toNatClampNeg (8 + p1))) (S.2 (Int32.toNatClampNeg (8 + p2))) _ h ) (va_cwS 2 hts (gS q_1298 q_1299 q_75 q_1300) rfl rfl rfl (by decide +kernel) ⟨Nat.le_of_ble_eq_true rfl, Nat.le_of_ble_eq_true rfl⟩) (preS_of hK hP hD [] rfl rfl (by decide)) rfl rfl hl.1 rfl (lv_room (Nat.le_of_ble_eq_true rfl)) dX8_floats_58 ⟨Nat.zero_le _, Nat.zero_le _⟩) hP hD hS hA [] [.inr 0, .inr 1, .inr 2, .inr 3, .inr 4, .inr 5, .inr 6, .inr 7, .inr 8, .inr 9, .inr 10, .inr 11] rfl (by decide) (fun _ => rfl) (fun _ => rfl) (fun r18 u17 H locs h hP hD hS => ?_)
      obtain ⟨T19, eT19⟩ : ∃ z : (Nat → Int32), z = (upd S.2 (Int32.toNatClampNeg (8 + p1)) r18) := ⟨_, rfl⟩
      refine ar_is (f := S.2) (n := 342) (j := (Int32.toNatClampNeg (8 + p1))) (x := r18) hx hb hK hP hD hS 11 rfl rfl h.1 dX8_floats_61 (wX8s cI cZ a b (S.1, T19)) (by subst eT19; rfl) (fun H locs hP hD hS => ?_)
      have h := h.2
      have h := h T19 eT19
      refine lv_goto (tgt := 132) hx hb dX8_floats_62 (by decide) ?_
      refine lv_aload_n hx hb dX8_floats_132 rfl (lv_at hl 1 rfl) ?_
      refine lv_bipush (v := 18) hx hb dX8_floats_133 (by decide) ?_
      refine lv_iconst (v := 1) hx hb dX8_floats_135 (by decide) ?_
      obtain ⟨T20, eT20⟩ : ∃ z : (Nat → Int32), z = (upd T19 18 1) := ⟨_, rfl⟩
      refine ar_is (f := T19) (n := 342) (j := 18) (x := 1) hx hb hK hP hD hS 11 rfl (by decide) (okLit (by decide)) dX8_floats_136 (wX8s cI cZ a b (S.1, T20)) (by subst eT20; rfl) (fun H locs hP hD hS => ?_)
      have h := h T20 eT20
      exact W.vret hx hb hr (fun t ht hW => ⟨⟨(S.1, T20), rfl, h, by rw [ht]; exact hP, va_K.moved hW.alike hK, hD⟩, hS.F ht⟩) hS.2.2 dX8_floats_137
  · have h := h.2 c1
    refine lv_aload_n hx hb dX8_floats_6 rfl (lv_at hl 1 rfl) ?_
    refine lv_bipush (v := 8) hx hb dX8_floats_7 (by decide) ?_
    refine lv_iload_n hx hb dX8_floats_9 rfl (lv_at hl 3 rfl) ?_
    refine lv_iadd hx hb dX8_floats_10 ?_
    refine lv_iload hx hb dX8_floats_11 (lv_at hl 7 rfl) ?_
    refine lv_if_ne (tgt := 20) hx hb dX8_floats_13 (by decide) (fun c21 => ?_) (fun c21 => ?_)
    · have h := h.1 c21
      refine lv_iconst (v := 0) hx hb dX8_floats_20 (by decide) ?_
      refine lv_iload hx hb dX8_floats_21 (lv_at hl 7 rfl) ?_
      refine lv_i2l (v := (Int32.toInt64 p5)) hx hb dX8_floats_23 rfl ?_
      refine lv_bipush (v := -4) hx hb dX8_floats_24 (by decide) ?_
      refine lv_iconst (v := 0) hx hb dX8_floats_26 (by decide) ?_
      refine cl_i (ws' := fun u22 => (wX8s cI cZ a b S)) (va_runS (As := [.int 0, .long (Int32.toInt64 p5), .int (-4), .int 0]) (rest := [.int (8 + p1), .ref (b 0)]) ⟨hx, hb, hml, hown, hts⟩ (c_X8_rounded l D cI cZ _ () 0 (Int32.toInt64 p5) (-4) 0 _ h ) (va_cwS 4 hts (gS q_1310 q_1311 q_75 q_1312) rfl rfl rfl (by decide +kernel) ⟨Nat.le_of_ble_eq_true rfl, Nat.le_of_ble_eq_true rfl⟩) (preS_of hK hP hD [] rfl rfl (by decide)) rfl rfl hl.1 rfl (lv_room (Nat.le_of_ble_eq_true rfl)) dX8_floats_27 ⟨Nat.zero_le _, Nat.zero_le _⟩) hP hD hS hA [] [.inr 0, .inr 1, .inr 2, .inr 3, .inr 4, .inr 5, .inr 6, .inr 7, .inr 8, .inr 9, .inr 10, .inr 11] rfl (by decide) (fun _ => rfl) (fun _ => rfl) (fun r23 u22 H locs h hP hD hS => ?_)
      obtain ⟨T24, eT24⟩ : ∃ z : (Nat → Int32), z = (upd S.2 (Int32.toNatClampNeg (8 + p1)) r23) := ⟨_, rfl⟩
      refine ar_is (f := S.2) (n := 342) (j := (Int32.toNatClampNeg (8 + p1))) (x := r23) hx hb hK hP hD hS 11 rfl rfl h.1 dX8_floats_30 (wX8s cI cZ a b (S.1, T24)) (by subst eT24; rfl) (fun H locs hP hD hS => ?_)
      have h := h.2
      have h := h T24 eT24
      refine lv_goto (tgt := 132) hx hb dX8_floats_31 (by decide) ?_
      refine lv_aload_n hx hb dX8_floats_132 rfl (lv_at hl 1 rfl) ?_
      refine lv_bipush (v := 18) hx hb dX8_floats_133 (by decide) ?_
      refine lv_iconst (v := 1) hx hb dX8_floats_135 (by decide) ?_
      obtain ⟨T25, eT25⟩ : ∃ z : (Nat → Int32), z = (upd T24 18 1) := ⟨_, rfl⟩
      refine ar_is (f := T24) (n := 342) (j := 18) (x := 1) hx hb hK hP hD hS 11 rfl (by decide) (okLit (by decide)) dX8_floats_136 (wX8s cI cZ a b (S.1, T25)) (by subst eT25; rfl) (fun H locs hP hD hS => ?_)
      have h := h T25 eT25
      exact W.vret hx hb hr (fun t ht hW => ⟨⟨(S.1, T25), rfl, h, by rw [ht]; exact hP, va_K.moved hW.alike hK, hD⟩, hS.F ht⟩) hS.2.2 dX8_floats_137
    · have h := h.2 c21
      refine lv_iconst (v := 0) hx hb dX8_floats_16 (by decide) ?_
      refine lv_goto (tgt := 30) hx hb dX8_floats_17 (by decide) ?_
      obtain ⟨T26, eT26⟩ : ∃ z : (Nat → Int32), z = (upd S.2 (Int32.toNatClampNeg (8 + p1)) 0) := ⟨_, rfl⟩
      refine ar_is (f := S.2) (n := 342) (j := (Int32.toNatClampNeg (8 + p1))) (x := 0) hx hb hK hP hD hS 11 rfl rfl h.1 dX8_floats_30 (wX8s cI cZ a b (S.1, T26)) (by subst eT26; rfl) (fun H locs hP hD hS => ?_)
      have h := h.2
      have h := h T26 eT26
      refine lv_goto (tgt := 132) hx hb dX8_floats_31 (by decide) ?_
      refine lv_aload_n hx hb dX8_floats_132 rfl (lv_at hl 1 rfl) ?_
      refine lv_bipush (v := 18) hx hb dX8_floats_133 (by decide) ?_
      refine lv_iconst (v := 1) hx hb dX8_floats_135 (by decide) ?_
      obtain ⟨T27, eT27⟩ : ∃ z : (Nat → Int32), z = (upd T26 18 1) := ⟨_, rfl⟩
      refine ar_is (f := T26) (n := 342) (j := 18) (x := 1) hx hb hK hP hD hS 11 rfl (by decide) (okLit (by decide)) dX8_floats_136 (wX8s cI cZ a b (S.1, T27)) (by subst eT27; rfl) (fun H locs hP hD hS => ?_)
      have h := h T27 eT27
      exact W.vret hx hb hr (fun t ht hW => ⟨⟨(S.1, T27), rfl, h, by rw [ht]; exact hP, va_K.moved hW.alike hK, hD⟩, hS.F ht⟩) hS.2.2 dX8_floats_137
/-! X8_tells -/
abbrev rmX8_tells : Room := { frames := 0, cells := 0, slots := 0, locals := 0 }
set_option maxHeartbeats 4000000 in
set_option maxRecDepth 100000 in
theorem c_X8_tells (l : Launch) (D : va_G) (cI cZ : ClassId) (a : Nat → Nat) (b : Nat → Nat) (nw : Bool) (sz : Nat) (S : Ob × (Nat → Int32)) (p0 : Int32) (Q : (Ob × (Nat → Int32)) → Prop) (h : wp_X8_tells nw S p0 Q) (hb4 : nw = true → b 0 = a 4) : Met l yX8_tells (wsm yX8_tells cX8_tells 2 none) rmX8_tells (va_Pc [.ref (a 0), .int p0] (preW D cI cZ sz (wX8s cI cZ a b S))) (va_Qv Q (fun u => atW D cI cZ (va_A (wX8s cI cZ a b S) sz) (wX8s cI cZ a b u)) (va_A (wX8s cI cZ a b S) sz)) 0 0 (va_A (wX8s cI cZ a b S) sz) := by
  refine Met.ofW (cc := cX8_tells) (maxL := 2) (ret := none) (by decide) rfl ?_
  intro p e s m args below meth c s₁ B hml hv
  obtain ⟨rfl, hsz, hP, hK, hD0⟩ := hv
  have hx := B.exec
  have hb := B.bytes
  have hr := B.returns
  have hts0 := atoms_spec (ws := wsm yX8_tells cX8_tells 2 none) B.pre
  have hts : ∀ w ∈ lw_all, w.before _ s = true := fun w h => hts0 w (List.mem_cons_of_mem _ h)
  have hown : s.vm.findClass RX8 = some m.cls := findClass_of_methodNamed B.named
  have hlocks := B.notSynchronized
  subst hsz
  have hD := hD0.self (sz := s.heap.size)
  generalize hAe : va_A (wX8s cI cZ a b S) s.heap.size = A at hD ⊢
  have hA : ∀ q : Nat, s.heap.size ≤ q → A q := fun q h => by rw [← hAe]; exact Or.inr h
  have hS : va_S A s.heap s.heap [] := va_S.rf
  have hml2 := hml
  have hl := lv_entry ([.ref (a 0), .int p0]) (n := 2) (Nat.le_of_ble_eq_true rfl)
  rw [lg_entry_eq]
  generalize (lg_sl ([.ref (a 0), .int p0]) ++ List.replicate (2 - (lg_sl ([.ref (a 0), .int p0])).length) Slot.unset).toArray = ls at hl ⊢
  have hl : lv_has ls 2 [(0, .ref (a 0)), (1, .int p0)] := hl
  unfold wp_X8_tells at h
  refine lv_aload_n hx hb dX8_tells_0 rfl (lv_at hl 0 rfl) ?_
  refine va_get (D := D) (ci := 7) (v := .int (S.1.1 14)) (C := RX8) (T := TX8) (N := 25) hx hb hts inX8 hown hK hP 0 rfl rfl 14 (by decide) (hts _ q_1091) (fun _ h9 => h9) rfl dX8_tells_1 ?_
  refine lv_if_ne (tgt := 8) hx hb dX8_tells_4 (by decide) (fun c1 => ?_) (fun c1 => ?_)
  · have h := h.1 c1
    refine lv_aload_n hx hb dX8_tells_8 rfl (lv_at hl 0 rfl) ?_
    refine va_get (D := D) (ci := 7) (v := .ref (a 6)) (C := RX8) (T := TX8) (N := 25) hx hb hts inX8 hown hK hP 0 rfl rfl 6 (by decide) (hts _ q_1083) (fun _ h9 => h9) rfl dX8_tells_9 ?_
    refine lv_bipush (v := 15) hx hb dX8_tells_12 (by decide) ?_
    refine ar_il (f := (S.1.2 6)) (n := 17) (j := 15) hx hb hK hP 4 rfl (by decide) (okLit (by decide)) dX8_tells_14 ?_
    refine lv_bipush (v := 64) hx hb dX8_tells_15 (by decide) ?_
    refine lv_icmp_ge (tgt := 33) hx hb dX8_tells_17 (by decide) (fun c2 => ?_) (fun c2 => ?_)
    · have h := h.1 c2
      refine lv_aload_n hx hb dX8_tells_33 rfl (lv_at hl 0 rfl) ?_
      refine va_get (D := D) (ci := 7) (v := .ref (a 6)) (C := RX8) (T := TX8) (N := 25) hx hb hts inX8 hown hK hP 0 rfl rfl 6 (by decide) (hts _ q_1083) (fun _ h9 => h9) rfl dX8_tells_34 ?_
      refine lv_bipush (v := 15) hx hb dX8_tells_37 (by decide) ?_
      refine lv_dup2_11 hx hb dX8_tells_39 rfl rfl ?_
      refine ar_il (f := (S.1.2 6)) (n := 17) (j := 15) hx hb hK hP 4 rfl (by decide) (okLit (by decide)) dX8_tells_40 ?_
      refine lv_iconst (v := 1) hx hb dX8_tells_41 (by decide) ?_
      refine lv_iadd hx hb dX8_tells_42 ?_
      obtain ⟨T3, eT3⟩ : ∃ z : Ob, z = (sa S.1 6 (upd (S.1.2 6) 15 (((S.1.2 6) 15) + 1))) := ⟨_, rfl⟩
      refine ar_is (f := (S.1.2 6)) (n := 17) (j := 15) (x := (((S.1.2 6) 15) + 1)) hx hb hK hP hD hS 4 rfl (by decide) (okLit (by decide)) dX8_tells_43 (wX8s cI cZ a b (T3, S.2)) (by subst eT3; rfl) (fun H locs hP hD hS => ?_)
      have h := h T3 eT3
      exact W.vret hx hb hr (fun t ht hW => ⟨⟨(T3, S.2), rfl, h, by rw [ht]; exact hP, va_K.moved hW.alike hK, hD⟩, hS.F ht⟩) hS.2.2 dX8_tells_44
    · have h := h.2 c2
      refine lv_aload_n hx hb dX8_tells_20 rfl (lv_at hl 0 rfl) ?_
      refine va_get (D := D) (ci := 7) (v := .ref (a 11)) (C := RX8) (T := TX8) (N := 25) hx hb hts inX8 hown hK hP 0 rfl rfl 12 (by decide) (hts _ q_1089) (fun _ h9 => h9) rfl dX8_tells_21 ?_
      refine lv_aload_n hx hb dX8_tells_24 rfl (lv_at hl 0 rfl) ?_
      refine va_get (D := D) (ci := 7) (v := .ref (a 6)) (C := RX8) (T := TX8) (N := 25) hx hb hts inX8 hown hK hP 0 rfl rfl 6 (by decide) (hts _ q_1083) (fun _ h9 => h9) rfl dX8_tells_25 ?_
      refine lv_bipush (v := 15) hx hb dX8_tells_28 (by decide) ?_
      refine ar_il (f := (S.1.2 6)) (n := 17) (j := 15) hx hb hK hP 4 rfl (by decide) (okLit (by decide)) dX8_tells_30 ?_
      refine lv_iload_n hx hb dX8_tells_31 rfl (lv_at hl 1 rfl) ?_
      obtain ⟨T4, eT4⟩ : ∃ z : Ob, z = (sa S.1 12 (upd (S.1.2 12) (Int32.toNatClampNeg ((S.1.2 6) 15)) p0)) := ⟨_, rfl⟩
      refine ar_is (f := (S.1.2 12)) (n := 64) (j := (Int32.toNatClampNeg ((S.1.2 6) 15))) (x := p0) hx hb hK hP hD hS 9 rfl rfl h.1 dX8_tells_32 (wX8s cI cZ a b (T4, S.2)) (by subst eT4; rfl) (fun H locs hP hD hS => ?_)
      have h := h.2
      have h := h T4 eT4
      refine lv_aload_n hx hb dX8_tells_33 rfl (lv_at hl 0 rfl) ?_
      refine va_get (D := D) (ci := 7) (v := .ref (a 6)) (C := RX8) (T := TX8) (N := 25) hx hb hts inX8 hown hK hP 0 rfl rfl 6 (by decide) (hts _ q_1083) (fun _ h9 => h9) rfl dX8_tells_34 ?_
      refine lv_bipush (v := 15) hx hb dX8_tells_37 (by decide) ?_
      refine lv_dup2_11 hx hb dX8_tells_39 rfl rfl ?_
      refine ar_il (f := (T4.2 6)) (n := 17) (j := 15) hx hb hK hP 4 rfl (by decide) (okLit (by decide)) dX8_tells_40 ?_
      refine lv_iconst (v := 1) hx hb dX8_tells_41 (by decide) ?_
      refine lv_iadd hx hb dX8_tells_42 ?_
      obtain ⟨T5, eT5⟩ : ∃ z : Ob, z = (sa T4 6 (upd (T4.2 6) 15 (((T4.2 6) 15) + 1))) := ⟨_, rfl⟩
      refine ar_is (f := (T4.2 6)) (n := 17) (j := 15) (x := (((T4.2 6) 15) + 1)) hx hb hK hP hD hS 4 rfl (by decide) (okLit (by decide)) dX8_tells_43 (wX8s cI cZ a b (T5, S.2)) (by subst eT5; rfl) (fun H locs hP hD hS => ?_)
      have h := h T5 eT5
      exact W.vret hx hb hr (fun t ht hW => ⟨⟨(T5, S.2), rfl, h, by rw [ht]; exact hP, va_K.moved hW.alike hK, hD⟩, hS.F ht⟩) hS.2.2 dX8_tells_44
  · have h := h.2 c1
    exact W.vret hx hb hr (fun t ht hW => ⟨⟨S, rfl, h, by rw [ht]; exact hP, va_K.moved hW.alike hK, hD⟩, hS.F ht⟩) hS.2.2 dX8_tells_7
/-! X8_instructs -/
abbrev rmX8_instructs : Room := { frames := 6, cells := 0, slots := 0, locals := 138 }
set_option maxHeartbeats 4000000 in
set_option maxRecDepth 100000 in
theorem c_X8_instructs (l : Launch) (D : va_G) (cI cZ : ClassId) (a : Nat → Nat) (b : Nat → Nat) (nw : Bool) (sz : Nat) (S : Ob × (Nat → Int32)) (Q : (Ob × (Nat → Int32)) → Prop) (h : wp_X8_instructs nw S Q) (hb4 : nw = true → b 0 = a 4) : Met l yX8_instructs (wsm yX8_instructs cX8_instructs 9 none) rmX8_instructs (va_Pc [.ref (a 0), .ref (b 0)] (preT D cI cZ sz (wX8s cI cZ a b S))) (va_Qv Q (fun u => atW D cI cZ (va_A (wX8s cI cZ a b S) sz) (wX8s cI cZ a b u)) (va_A (wX8s cI cZ a b S) sz)) 0 0 (va_A (wX8s cI cZ a b S) sz) := by
  refine Met.ofW (cc := cX8_instructs) (maxL := 9) (ret := none) (by decide) rfl ?_
  intro p e s m args below meth c s₁ B hml hv
  obtain ⟨rfl, ⟨hsz, hP, hK, hD0⟩, hF⟩ := hv
  have hx := B.exec
  have hb := B.bytes
  have hr := B.returns
  have hts0 := atoms_spec (ws := wsm yX8_instructs cX8_instructs 9 none) B.pre
  have hts : ∀ w ∈ lw_all, w.before _ s = true := fun w h => hts0 w (List.mem_cons_of_mem _ h)
  have hown : s.vm.findClass RX8 = some m.cls := findClass_of_methodNamed B.named
  have hlocks := B.notSynchronized
  subst hsz
  have hD := hD0.self (sz := s.heap.size)
  generalize hAe : va_A (wX8s cI cZ a b S) s.heap.size = A at hD hF ⊢
  have hA : ∀ q : Nat, s.heap.size ≤ q → A q := fun q h => by rw [← hAe]; exact Or.inr h
  have hS : va_S A s.heap s.heap [] := va_S.rf
  have hml2 := hml
  have L72 : ∀ (y2 : Int32) (y3 : Int32) (y4 : Int32) (y5 : Int32) (T : Ob × (Nat → Int32)) (H : Heap) (locs : List Loc) (ls : Array Slot), va_P D vwCl (wX8s cI cZ a b T) H → va_D A (wX8s cI cZ a b T) → va_S A s.heap H locs → lv_has ls 9 [(0, .ref (a 0)), (1, .ref (b 0)), (2, .int y2), (3, .int y3), (4, .int y4), (5, .int y5)] → wp_X8_instructs_L72 nw Q y2 y3 y4 y5 T → W p l e rmX8_instructs s m ([.ref (a 0), .ref (b 0)] : List Value).toArray below meth c H locs 0 0 (MQ below (va_Qv Q (fun u => atW D cI cZ A (wX8s cI cZ a b u)) A) ([.ref (a 0), .ref (b 0)] : List Value).toArray s 0 0 A) (F0 m 72 ls []) := by
    intro y2 y3 y4 y5 T H locs ls hP hD hS hl h
    unfold wp_X8_instructs_L72 at h
    refine lv_aload_n hx hb dX8_instructs_72 rfl (lv_at hl 0 rfl) ?_
    refine lv_aload_n hx hb dX8_instructs_73 rfl (lv_at hl 1 rfl) ?_
    refine lv_iload_n hx hb dX8_instructs_74 rfl (lv_at hl 3 rfl) ?_
    refine lv_iload hx hb dX8_instructs_75 (lv_at hl 4 rfl) ?_
    refine lv_iload hx hb dX8_instructs_77 (lv_at hl 5 rfl) ?_
    refine cl_i (ws' := fun u10 => (wX8s cI cZ a b u10)) (va_runV (As := [.ref (b 0), .int y3, .int y4, .int y5]) (rest := []) ⟨hx, hb, hml, hown, hts⟩ (c_X8_faultOf l D cI cZ a b nw _ T y3 y4 y5 _ h hb4) (cwV 4 hts (gV q_1294 q_1296 q_49 q_75 q_1297) rfl rfl rfl (by decide +kernel) ⟨Nat.le_of_ble_eq_true rfl, Nat.le_of_ble_eq_true rfl⟩) (preV_of (ci := 7) (q := (RX8, TX8, 25)) hK hP hD [0, 1, 2, 3, 4, 5, 6, 7, 8, 9, 10, 11] rfl rfl (by decide) 0 rfl rfl) rfl rfl hl.1 rfl (lv_room (Nat.le_of_ble_eq_true rfl)) dX8_instructs_79 ⟨Nat.zero_le _, Nat.zero_le _⟩) hP hD hS hA [0, 1, 2, 3, 4, 5, 6, 7, 8, 9, 10, 11] [.inl 0, .inl 1, .inl 2, .inl 3, .inl 4, .inl 5, .inl 6, .inl 7, .inl 8, .inl 9, .inl 10, .inl 11] rfl (by decide) (fun _ => rfl) (fun _ => rfl) (fun r11 u10 H locs h hP hD hS => ?_)
    refine lv_istore (lv' := [(6, .int r11), (0, .ref (a 0)), (1, .ref (b 0)), (2, .int y2), (3, .int y3), (4, .int y4), (5, .int y5)]) hx hb dX8_instructs_82 hl (by decide) rfl (fun ls hl => ?_)
    refine lv_iload hx hb dX8_instructs_84 (lv_at hl 0 rfl) ?_
    refine lv_if_lt (tgt := 98) hx hb dX8_instructs_86 (by decide) (fun c12 => ?_) (fun c12 => ?_)
    · have h := h.1 c12
      refine lv_aload_n hx hb dX8_instructs_98 rfl (lv_at hl 1 rfl) ?_
      refine lv_bipush (v := 10) hx hb dX8_instructs_99 (by decide) ?_
      refine cl_v (ws' := fun u13 => (wX8s cI cZ a b u13)) (va_runV (As := [.int 10]) (rest := []) ⟨hx, hb, hml, hown, hts⟩ (c_X8_counts l D cI cZ a b nw _ u10 10 _ h hb4) (cwV 1 hts (gV q_1193 q_1195 q_31 q_75 q_1196) rfl rfl rfl (by decide +kernel) ⟨Nat.le_of_ble_eq_true rfl, Nat.le_of_ble_eq_true rfl⟩) (preV_of (ci := 7) (q := (RX8, TX8, 25)) hK hP hD [0, 1, 2, 3, 4, 5, 6, 7, 8, 9, 10, 11] rfl rfl (by decide) 0 rfl rfl) rfl rfl hl.1 rfl (lv_room (Nat.le_of_ble_eq_true rfl)) dX8_instructs_101 ⟨Nat.zero_le _, Nat.zero_le _⟩) hP hD hS hA [0, 1, 2, 3, 4, 5, 6, 7, 8, 9, 10, 11] [.inl 0, .inl 1, .inl 2, .inl 3, .inl 4, .inl 5, .inl 6, .inl 7, .inl 8, .inl 9, .inl 10, .inl 11] rfl (by decide) (fun _ => rfl) (fun _ => rfl) (fun u13 H locs h hP hD hS => ?_)
      refine lv_aload_n hx hb dX8_instructs_104 rfl (lv_at hl 2 rfl) ?_
      refine lv_bipush (v := 22) hx hb dX8_instructs_105 (by decide) ?_
      obtain ⟨t14, hZt14, hTt14⟩ := hF.1.2.2.2
      refine va_gets (C := RX8) hx hb hZt14 hS hown (hts _ q_1326) (fun _ h9 => h9) dX8_instructs_107 ?_
      refine lv_iload_n hx hb dX8_instructs_110 rfl (lv_at hl 4 rfl) ?_
      refine va_ti hx hb hTt14 hS h.1 (v := .int (tabC (Int32.toNatClampNeg y3))) rfl dX8_instructs_111 ?_
      have h := h.2
      refine lv_iconst (v := 1) hx hb dX8_instructs_112 (by decide) ?_
      refine lv_isub hx hb dX8_instructs_113 ?_
      obtain ⟨T15, eT15⟩ : ∃ z : (Nat → Int32), z = (upd u13.2 22 ((tabC (Int32.toNatClampNeg y3)) - 1)) := ⟨_, rfl⟩
      refine ar_is (f := u13.2) (n := 342) (j := 22) (x := ((tabC (Int32.toNatClampNeg y3)) - 1)) hx hb hK hP hD hS 11 rfl (by decide) (okLit (by decide)) dX8_instructs_114 (wX8s cI cZ a b (u13.1, T15)) (by subst eT15; rfl) (fun H locs hP hD hS => ?_)
      have h := h T15 eT15
      refine lv_aload_n hx hb dX8_instructs_115 rfl (lv_at hl 2 rfl) ?_
      refine lv_bipush (v := 12) hx hb dX8_instructs_116 (by decide) ?_
      refine lv_iload_n hx hb dX8_instructs_118 rfl (lv_at hl 3 rfl) ?_
      obtain ⟨t16, hZt16, hTt16⟩ := hF.1.2.2.1
      refine va_gets (C := RX8) hx hb hZt16 hS hown (hts _ q_1328) (fun _ h9 => h9) dX8_instructs_119 ?_
      refine lv_iload_n hx hb dX8_instructs_122 rfl (lv_at hl 4 rfl) ?_
      refine va_ti hx hb hTt16 hS h.1 (v := .int (tabL (Int32.toNatClampNeg y3))) rfl dX8_instructs_123 ?_
      have h := h.2
      refine lv_iadd hx hb dX8_instructs_124 ?_
      refine lv_sipush (v := 512) hx hb dX8_instructs_125 (by decide) ?_
      refine lv_irem hx hb dX8_instructs_128 (by decide) ?_
      obtain ⟨T17, eT17⟩ : ∃ z : (Nat → Int32), z = (upd T15 12 ((y2 + (tabL (Int32.toNatClampNeg y3))) - (y2 + (tabL (Int32.toNatClampNeg y3))) / 512 * 512)) := ⟨_, rfl⟩
      refine ar_is (f := T15) (n := 342) (j := 12) (x := ((y2 + (tabL (Int32.toNatClampNeg y3))) - (y2 + (tabL (Int32.toNatClampNeg y3))) / 512 * 512)) hx hb hK hP hD hS 11 rfl (by decide) (okLit (by decide)) dX8_instructs_129 (wX8s cI cZ a b (u13.1, T17)) (by subst eT17; rfl) (fun H locs hP hD hS => ?_)
      have h := h T17 eT17
      refine lv_iconst (v := 0) hx hb dX8_instructs_130 (by decide) ?_
      refine lv_iload hx hb dX8_instructs_131 (lv_at hl 5 rfl) ?_
      refine lv_bipush (v := 7) hx hb dX8_instructs_133 (by decide) ?_
      refine lv_iand hx hb dX8_instructs_135 ?_
      refine lv_iadd hx hb dX8_instructs_136 ?_
      refine lv_topi (fun x18 ex18 => ?_)
      have h := h x18 ex18
      refine lv_istore (lv' := [(7, .int x18), (6, .int r11), (0, .ref (a 0)), (1, .ref (b 0)), (2, .int y2), (3, .int y3), (4, .int y4), (5, .int y5)]) hx hb dX8_instructs_137 hl (by decide) rfl (fun ls hl => ?_)
      refine lv_iconst (v := 0) hx hb dX8_instructs_139 (by decide) ?_
      refine lv_iload hx hb dX8_instructs_140 (lv_at hl 7 rfl) ?_
      refine lv_bipush (v := 7) hx hb dX8_instructs_142 (by decide) ?_
      refine lv_iand hx hb dX8_instructs_144 ?_
      refine lv_iadd hx hb dX8_instructs_145 ?_
      refine lv_topi (fun x19 ex19 => ?_)
      have h := h x19 ex19
      refine lv_istore (lv' := [(8, .int x19), (7, .int x18), (6, .int r11), (0, .ref (a 0)), (1, .ref (b 0)), (2, .int y2), (3, .int y3), (4, .int y4), (5, .int y5)]) hx hb dX8_instructs_146 hl (by decide) rfl (fun ls hl => ?_)
      refine lv_iload_n hx hb dX8_instructs_148 rfl (lv_at hl 6 rfl) ?_
      refine lv_iconst (v := 1) hx hb dX8_instructs_149 (by decide) ?_
      refine lv_icmp_ne (tgt := 162) hx hb dX8_instructs_150 (by decide) (fun c20 => ?_) (fun c20 => ?_)
      · have h := h.1 c20
        refine lv_iload_n hx hb dX8_instructs_162 rfl (lv_at hl 6 rfl) ?_
        refine lv_bipush (v := 8) hx hb dX8_instructs_163 (by decide) ?_
        refine lv_icmp_ge (tgt := 195) hx hb dX8_instructs_165 (by decide) (fun c21 => ?_) (fun c21 => ?_)
        · have h := h.1 c21
          refine lv_iload_n hx hb dX8_instructs_195 rfl (lv_at hl 6 rfl) ?_
          refine lv_bipush (v := 8) hx hb dX8_instructs_196 (by decide) ?_
          refine lv_icmp_ne (tgt := 212) hx hb dX8_instructs_198 (by decide) (fun c22 => ?_) (fun c22 => ?_)
          · have h := h.1 c22
            refine lv_iload_n hx hb dX8_instructs_212 rfl (lv_at hl 6 rfl) ?_
            refine lv_bipush (v := 14) hx hb dX8_instructs_213 (by decide) ?_
            refine lv_icmp_ge (tgt := 242) hx hb dX8_instructs_215 (by decide) (fun c23 => ?_) (fun c23 => ?_)
            · have h := h.1 c23
              refine lv_iload_n hx hb dX8_instructs_242 rfl (lv_at hl 6 rfl) ?_
              refine lv_bipush (v := 20) hx hb dX8_instructs_243 (by decide) ?_
              refine lv_icmp_ge (tgt := 259) hx hb dX8_instructs_245 (by decide) (fun c24 => ?_) (fun c24 => ?_)
              · have h := h.1 c24
                refine lv_iload_n hx hb dX8_instructs_259 rfl (lv_at hl 6 rfl) ?_
                refine lv_bipush (v := 25) hx hb dX8_instructs_260 (by decide) ?_
                refine lv_icmp_ge (tgt := 288) hx hb dX8_instructs_262 (by decide) (fun c25 => ?_) (fun c25 => ?_)
                · have h := h.1 c25
                  refine lv_iload_n hx hb dX8_instructs_288 rfl (lv_at hl 6 rfl) ?_
                  refine lv_bipush (v := 25) hx hb dX8_instructs_289 (by decide) ?_
                  refine lv_icmp_ne (tgt := 318) hx hb dX8_instructs_291 (by decide) (fun c26 => ?_) (fun c26 => ?_)
                  · have h := h.1 c26
                    refine lv_iload_n hx hb dX8_instructs_318 rfl (lv_at hl 6 rfl) ?_
                    refine lv_bipush (v := 26) hx hb dX8_instructs_319 (by decide) ?_
                    refine lv_icmp_ne (tgt := 358) hx hb dX8_instructs_321 (by decide) (fun c27 => ?_) (fun c27 => ?_)
                    · have h := h.1 c27
                      refine lv_iload_n hx hb dX8_instructs_358 rfl (lv_at hl 6 rfl) ?_
                      refine lv_bipush (v := 27) hx hb dX8_instructs_359 (by decide) ?_
                      refine lv_icmp_ne (tgt := 375) hx hb dX8_instructs_361 (by decide) (fun c28 => ?_) (fun c28 => ?_)
                      · have h := h.1 c28
                        refine lv_iload_n hx hb dX8_instructs_375 rfl (lv_at hl 6 rfl) ?_
                        refine lv_bipush (v := 28) hx hb dX8_instructs_376 (by decide) ?_
                        refine lv_icmp_ne (tgt := 398) hx hb dX8_instructs_378 (by decide) (fun c29 => ?_) (fun c29 => ?_)
                        · have h := h.1 c29
                          refine lv_aload_n hx hb dX8_instructs_398 rfl (lv_at hl 4 rfl) ?_
                          refine lv_bipush (v := 40) hx hb dX8_instructs_399 (by decide) ?_
                          refine lv_iload hx hb dX8_instructs_401 (lv_at hl 8 rfl) ?_
                          refine lv_bipush (v := 15) hx hb dX8_instructs_403 (by decide) ?_
                          refine lv_iand hx hb dX8_instructs_405 ?_
                          refine lv_iadd hx hb dX8_instructs_406 ?_
                          refine lv_aload_n hx hb dX8_instructs_407 rfl (lv_at hl 4 rfl) ?_
                          refine lv_iload hx hb dX8_instructs_408 (lv_at hl 1 rfl) ?_
                          refine ar_il (f := T17) (n := 342) (j := (Int32.toNatClampNeg x18)) hx hb hK hP 11 rfl rfl h.1 dX8_instructs_410 ?_
                          have h := h.2
                          obtain ⟨T30, eT30⟩ : ∃ z : (Nat → Int32), z = (upd T17 (Int32.toNatClampNeg (40 + (y5 &&& 15))) (T17 (Int32.toNatClampNeg x18))) := ⟨_, rfl⟩
                          refine ar_is (f := T17) (n := 342) (j := (Int32.toNatClampNeg (40 + (y5 &&& 15)))) (x := (T17 (Int32.toNatClampNeg x18))) hx hb hK hP hD hS 11 rfl rfl h.1 dX8_instructs_411 (wX8s cI cZ a b (u13.1, T30)) (by subst eT30; rfl) (fun H locs hP hD hS => ?_)
                          have h := h.2
                          have h := h T30 eT30
                          exact W.vret hx hb hr (fun t ht hW => ⟨⟨(u13.1, T30), rfl, h, by rw [ht]; exact hP, va_K.moved hW.alike hK, hD⟩, hS.F ht⟩) hS.2.2 dX8_instructs_412
                        · have h := h.2 c29
                          refine lv_aload_n hx hb dX8_instructs_381 rfl (lv_at hl 4 rfl) ?_
                          refine lv_iload hx hb dX8_instructs_382 (lv_at hl 1 rfl) ?_
                          refine lv_aload_n hx hb dX8_instructs_384 rfl (lv_at hl 4 rfl) ?_
                          refine lv_bipush (v := 40) hx hb dX8_instructs_385 (by decide) ?_
                          refine lv_iload hx hb dX8_instructs_387 (lv_at hl 8 rfl) ?_
                          refine lv_bipush (v := 15) hx hb dX8_instructs_389 (by decide) ?_
                          refine lv_iand hx hb dX8_instructs_391 ?_
                          refine lv_iadd hx hb dX8_instructs_392 ?_
                          refine ar_il (f := T17) (n := 342) (j := (Int32.toNatClampNeg (40 + (y5 &&& 15)))) hx hb hK hP 11 rfl rfl h.1 dX8_instructs_393 ?_
                          have h := h.2
                          obtain ⟨T31, eT31⟩ : ∃ z : (Nat → Int32), z = (upd T17 (Int32.toNatClampNeg x18) (T17 (Int32.toNatClampNeg (40 + (y5 &&& 15))))) := ⟨_, rfl⟩
                          refine ar_is (f := T17) (n := 342) (j := (Int32.toNatClampNeg x18)) (x := (T17 (Int32.toNatClampNeg (40 + (y5 &&& 15))))) hx hb hK hP hD hS 11 rfl rfl h.1 dX8_instructs_394 (wX8s cI cZ a b (u13.1, T31)) (by subst eT31; rfl) (fun H locs hP hD hS => ?_)
                          have h := h.2
                          have h := h T31 eT31
                          refine lv_goto (tgt := 412) hx hb dX8_instructs_395 (by decide) ?_
                          exact W.vret hx hb hr (fun t ht hW => ⟨⟨(u13.1, T31), rfl, h, by rw [ht]; exact hP, va_K.moved hW.alike hK, hD⟩, hS.F ht⟩) hS.2.2 dX8_instructs_412
                      · have h := h.2 c28
                        refine lv_aload_n hx hb dX8_instructs_364 rfl (lv_at hl 3 rfl) ?_
                        refine lv_aload_n hx hb dX8_instructs_365 rfl (lv_at hl 4 rfl) ?_
                        refine lv_iload hx hb dX8_instructs_366 (lv_at hl 1 rfl) ?_
                        refine ar_il (f := T17) (n := 342) (j := (Int32.toNatClampNeg x18)) hx hb hK hP 11 rfl rfl h.1 dX8_instructs_368 ?_
                        have h := h.2
                        refine cl_v (ws' := fun u32 => (wX8s cI cZ a b u32)) (va_runV (As := [.int (T17 (Int32.toNatClampNeg x18))]) (rest := []) ⟨hx, hb, hml, hown, hts⟩ (c_X8_tells l D cI cZ a b nw _ (u13.1, T17) (T17 (Int32.toNatClampNeg x18)) _ h hb4) (cwV 1 hts (gV q_1366 q_1368 q_55 q_75 q_1369) rfl rfl rfl (by decide +kernel) ⟨Nat.le_of_ble_eq_true rfl, Nat.le_of_ble_eq_true rfl⟩) (preV_of (ci := 7) (q := (RX8, TX8, 25)) hK hP hD [0, 1, 2, 3, 4, 5, 6, 7, 8, 9, 10, 11] rfl rfl (by decide) 0 rfl rfl) rfl rfl hl.1 rfl (lv_room (Nat.le_of_ble_eq_true rfl)) dX8_instructs_369 ⟨Nat.zero_le _, Nat.zero_le _⟩) hP hD hS hA [0, 1, 2, 3, 4, 5, 6, 7, 8, 9, 10, 11] [.inl 0, .inl 1, .inl 2, .inl 3, .inl 4, .inl 5, .inl 6, .inl 7, .inl 8, .inl 9, .inl 10, .inl 11] rfl (by decide) (fun _ => rfl) (fun _ => rfl) (fun u32 H locs h hP hD hS => ?_)
                        refine lv_goto (tgt := 412) hx hb dX8_instructs_372 (by decide) ?_
                        exact W.vret hx hb hr (fun t ht hW => ⟨⟨u32, rfl, h, by rw [ht]; exact hP, va_K.moved hW.alike hK, hD⟩, hS.F ht⟩) hS.2.2 dX8_instructs_412
                    · have h := h.2 c27
                      refine lv_aload_n hx hb dX8_instructs_324 rfl (lv_at hl 4 rfl) ?_
                      refine lv_bipush (v := 56) hx hb dX8_instructs_325 (by decide) ?_
                      refine lv_aload_n hx hb dX8_instructs_327 rfl (lv_at hl 4 rfl) ?_
                      refine lv_bipush (v := 15) hx hb dX8_instructs_328 (by decide) ?_
                      refine ar_il (f := T17) (n := 342) (j := 15) hx hb hK hP 11 rfl (by decide) (okLit (by decide)) dX8_instructs_330 ?_
                      refine lv_iadd hx hb dX8_instructs_331 ?_
                      refine lv_iconst (v := 2) hx hb dX8_instructs_332 (by decide) ?_
                      refine lv_isub hx hb dX8_instructs_333 ?_
                      refine lv_aload_n hx hb dX8_instructs_334 rfl (lv_at hl 4 rfl) ?_
                      refine lv_bipush (v := 56) hx hb dX8_instructs_335 (by decide) ?_
                      refine lv_aload_n hx hb dX8_instructs_337 rfl (lv_at hl 4 rfl) ?_
                      refine lv_bipush (v := 15) hx hb dX8_instructs_338 (by decide) ?_
                      refine ar_il (f := T17) (n := 342) (j := 15) hx hb hK hP 11 rfl (by decide) (okLit (by decide)) dX8_instructs_340 ?_
                      refine lv_iadd hx hb dX8_instructs_341 ?_
                      refine lv_iconst (v := 2) hx hb dX8_instructs_342 (by decide) ?_
                      refine lv_isub hx hb dX8_instructs_343 ?_
                      refine ar_il (f := T17) (n := 342) (j := (Int32.toNatClampNeg ((56 + (T17 15)) - 2))) hx hb hK hP 11 rfl rfl h.1 dX8_instructs_344 ?_
                      have h := h.2
                      refine lv_iload hx hb dX8_instructs_345 (lv_at hl 7 rfl) ?_
                      refine lv_iadd hx hb dX8_instructs_347 ?_
                      refine lv_sipush (v := 512) hx hb dX8_instructs_348 (by decide) ?_
                      refine cl_i (ws' := fun u33 => (wX8s cI cZ a b (u13.1, T17))) (va_runS (As := [.int ((T17 (Int32.toNatClampNeg ((56 + (T17 15)) - 2))) + y4), .int 512]) (rest := [.int ((56 + (T17 15)) - 2), .ref (b 0)]) ⟨hx, hb, hml, hown, hts⟩ (c_X8_mod l D cI cZ _ () ((T17 (Int32.toNatClampNeg ((56 + (T17 15)) - 2))) + y4) 512 _ h ) (va_cwS 2 hts (gS q_1363 q_1364 q_75 q_1365) rfl rfl rfl (by decide +kernel) ⟨Nat.le_of_ble_eq_true rfl, Nat.le_of_ble_eq_true rfl⟩) (preS_of hK hP hD [] rfl rfl (by decide)) rfl rfl hl.1 rfl (lv_room (Nat.le_of_ble_eq_true rfl)) dX8_instructs_351 ⟨Nat.zero_le _, Nat.zero_le _⟩) hP hD hS hA [] [.inr 0, .inr 1, .inr 2, .inr 3, .inr 4, .inr 5, .inr 6, .inr 7, .inr 8, .inr 9, .inr 10, .inr 11] rfl (by decide) (fun _ => rfl) (fun _ => rfl) (fun r34 u33 H locs h hP hD hS => ?_)
                      obtain ⟨T35, eT35⟩ : ∃ z : (Nat → Int32), z = (upd T17 (Int32.toNatClampNeg ((56 + (T17 15)) - 2)) r34) := ⟨_, rfl⟩
                      refine ar_is (f := T17) (n := 342) (j := (Int32.toNatClampNeg ((56 + (T17 15)) - 2))) (x := r34) hx hb hK hP hD hS 11 rfl rfl h.1 dX8_instructs_354 (wX8s cI cZ a b (u13.1, T35)) (by subst eT35; rfl) (fun H locs hP hD hS => ?_)
                      have h := h.2
                      have h := h T35 eT35
                      refine lv_goto (tgt := 412) hx hb dX8_instructs_355 (by decide) ?_
                      exact W.vret hx hb hr (fun t ht hW => ⟨⟨(u13.1, T35), rfl, h, by rw [ht]; exact hP, va_K.moved hW.alike hK, hD⟩, hS.F ht⟩) hS.2.2 dX8_instructs_412
                  · have h := h.2 c26
                    refine lv_aload_n hx hb dX8_instructs_294 rfl (lv_at hl 4 rfl) ?_
                    refine lv_sipush (v := 173) hx hb dX8_instructs_295 (by decide) ?_
                    refine lv_iload hx hb dX8_instructs_298 (lv_at hl 7 rfl) ?_
                    refine lv_bipush (v := 20) hx hb dX8_instructs_300 (by decide) ?_
                    refine lv_irem hx hb dX8_instructs_302 (by decide) ?_
                    refine lv_iadd hx hb dX8_instructs_303 ?_
                    refine lv_aload_n hx hb dX8_instructs_304 rfl (lv_at hl 4 rfl) ?_
                    refine lv_iload hx hb dX8_instructs_305 (lv_at hl 0 rfl) ?_
                    refine ar_il (f := T17) (n := 342) (j := (Int32.toNatClampNeg x19)) hx hb hK hP 11 rfl rfl h.1 dX8_instructs_307 ?_
                    have h := h.2
                    refine lv_sipush (v := 256) hx hb dX8_instructs_308 (by decide) ?_
                    refine cl_i (ws' := fun u36 => (wX8s cI cZ a b (u13.1, T17))) (va_runS (As := [.int (T17 (Int32.toNatClampNeg x19)), .int 256]) (rest := [.int (173 + (y4 - y4 / 20 * 20)), .ref (b 0)]) ⟨hx, hb, hml, hown, hts⟩ (c_X8_mod l D cI cZ _ () (T17 (Int32.toNatClampNeg x19)) 256 _ h ) (va_cwS 2 hts (gS q_1363 q_1364 q_75 q_1365) rfl rfl rfl (by decide +kernel) ⟨Nat.le_of_ble_eq_true rfl, Nat.le_of_ble_eq_true rfl⟩) (preS_of hK hP hD [] rfl rfl (by decide)) rfl rfl hl.1 rfl (lv_room (Nat.le_of_ble_eq_true rfl)) dX8_instructs_311 ⟨Nat.zero_le _, Nat.zero_le _⟩) hP hD hS hA [] [.inr 0, .inr 1, .inr 2, .inr 3, .inr 4, .inr 5, .inr 6, .inr 7, .inr 8, .inr 9, .inr 10, .inr 11] rfl (by decide) (fun _ => rfl) (fun _ => rfl) (fun r37 u36 H locs h hP hD hS => ?_)
                    obtain ⟨T38, eT38⟩ : ∃ z : (Nat → Int32), z = (upd T17 (Int32.toNatClampNeg (173 + (y4 - y4 / 20 * 20))) r37) := ⟨_, rfl⟩
                    refine ar_is (f := T17) (n := 342) (j := (Int32.toNatClampNeg (173 + (y4 - y4 / 20 * 20)))) (x := r37) hx hb hK hP hD hS 11 rfl rfl h.1 dX8_instructs_314 (wX8s cI cZ a b (u13.1, T38)) (by subst eT38; rfl) (fun H locs hP hD hS => ?_)
                    have h := h.2
                    have h := h T38 eT38
                    refine lv_goto (tgt := 412) hx hb dX8_instructs_315 (by decide) ?_
                    exact W.vret hx hb hr (fun t ht hW => ⟨⟨(u13.1, T38), rfl, h, by rw [ht]; exact hP, va_K.moved hW.alike hK, hD⟩, hS.F ht⟩) hS.2.2 dX8_instructs_412
                · have h := h.2 c25
                  refine lv_aload_n hx hb dX8_instructs_265 rfl (lv_at hl 3 rfl) ?_
                  refine lv_aload_n hx hb dX8_instructs_266 rfl (lv_at hl 4 rfl) ?_
                  refine lv_iload_n hx hb dX8_instructs_267 rfl (lv_at hl 6 rfl) ?_
                  refine lv_iload hx hb dX8_instructs_268 (lv_at hl 7 rfl) ?_
                  refine lv_iconst (v := 3) hx hb dX8_instructs_270 (by decide) ?_
                  refine lv_iand hx hb dX8_instructs_271 ?_
                  refine lv_iload hx hb dX8_instructs_272 (lv_at hl 8 rfl) ?_
                  refine lv_iconst (v := 3) hx hb dX8_instructs_274 (by decide) ?_
                  refine lv_iand hx hb dX8_instructs_275 ?_
                  refine lv_iload hx hb dX8_instructs_276 (lv_at hl 1 rfl) ?_
                  refine lv_iload hx hb dX8_instructs_278 (lv_at hl 0 rfl) ?_
                  refine lv_iload hx hb dX8_instructs_280 (lv_at hl 8 rfl) ?_
                  refine cl_v (ws' := fun u39 => (wX8s cI cZ a b u39)) (va_runV (As := [.ref (b 0), .int y3, .int (y4 &&& 3), .int (y5 &&& 3), .int x18, .int x19, .int y5]) (rest := []) ⟨hx, hb, hml, hown, hts⟩ (c_X8_floats l D cI cZ a b nw _ (u13.1, T17) y3 (y4 &&& 3) (y5 &&& 3) x18 x19 y5 _ h hb4) (cwV 7 hts (gV q_1349 q_1351 q_54 q_75 q_1352) rfl rfl rfl (by decide +kernel) ⟨Nat.le_of_ble_eq_true rfl, Nat.le_of_ble_eq_true rfl⟩) (preV_of (ci := 7) (q := (RX8, TX8, 25)) hK hP hD [0, 1, 2, 3, 4, 5, 6, 7, 8, 9, 10, 11] rfl rfl (by decide) 0 rfl rfl) rfl rfl hl.1 rfl (lv_room (Nat.le_of_ble_eq_true rfl)) dX8_instructs_282 ⟨Nat.zero_le _, Nat.zero_le _⟩) hP hD hS hA [0, 1, 2, 3, 4, 5, 6, 7, 8, 9, 10, 11] [.inl 0, .inl 1, .inl 2, .inl 3, .inl 4, .inl 5, .inl 6, .inl 7, .inl 8, .inl 9, .inl 10, .inl 11] rfl (by decide) (fun _ => rfl) (fun _ => rfl) (fun u39 H locs h hP hD hS => ?_)
                  refine lv_goto (tgt := 412) hx hb dX8_instructs_285 (by decide) ?_
                  exact W.vret hx hb hr (fun t ht hW => ⟨⟨u39, rfl, h, by rw [ht]; exact hP, va_K.moved hW.alike hK, hD⟩, hS.F ht⟩) hS.2.2 dX8_instructs_412
              · have h := h.2 c24
                refine lv_aload_n hx hb dX8_instructs_248 rfl (lv_at hl 3 rfl) ?_
                refine lv_aload_n hx hb dX8_instructs_249 rfl (lv_at hl 4 rfl) ?_
                refine lv_iload_n hx hb dX8_instructs_250 rfl (lv_at hl 6 rfl) ?_
                refine lv_iload hx hb dX8_instructs_251 (lv_at hl 7 rfl) ?_
                refine cl_v (ws' := fun u40 => (wX8s cI cZ a b u40)) (va_runV (As := [.ref (b 0), .int y3, .int y4]) (rest := []) ⟨hx, hb, hml, hown, hts⟩ (c_X8_rules l D cI cZ a b nw _ (u13.1, T17) y3 y4 _ h hb4) (cwV 3 hts (gV q_1341 q_1343 q_52 q_75 q_1344) rfl rfl rfl (by decide +kernel) ⟨Nat.le_of_ble_eq_true rfl, Nat.le_of_ble_eq_true rfl⟩) (preV_of (ci := 7) (q := (RX8, TX8, 25)) hK hP hD [0, 1, 2, 3, 4, 5, 6, 7, 8, 9, 10, 11] rfl rfl (by decide) 0 rfl rfl) rfl rfl hl.1 rfl (lv_room (Nat.le_of_ble_eq_true rfl)) dX8_instructs_253 ⟨Nat.zero_le _, Nat.zero_le _⟩) hP hD hS hA [0, 1, 2, 3, 4, 5, 6, 7, 8, 9, 10, 11] [.inl 0, .inl 1, .inl 2, .inl 3, .inl 4, .inl 5, .inl 6, .inl 7, .inl 8, .inl 9, .inl 10, .inl 11] rfl (by decide) (fun _ => rfl) (fun _ => rfl) (fun u40 H locs h hP hD hS => ?_)
                refine lv_goto (tgt := 412) hx hb dX8_instructs_256 (by decide) ?_
                exact W.vret hx hb hr (fun t ht hW => ⟨⟨u40, rfl, h, by rw [ht]; exact hP, va_K.moved hW.alike hK, hD⟩, hS.F ht⟩) hS.2.2 dX8_instructs_412
            · have h := h.2 c23
              refine lv_aload_n hx hb dX8_instructs_218 rfl (lv_at hl 3 rfl) ?_
              refine lv_aload_n hx hb dX8_instructs_219 rfl (lv_at hl 4 rfl) ?_
              refine lv_iload_n hx hb dX8_instructs_220 rfl (lv_at hl 6 rfl) ?_
              refine lv_iload hx hb dX8_instructs_221 (lv_at hl 1 rfl) ?_
              refine lv_sipush (v := 256) hx hb dX8_instructs_223 (by decide) ?_
              refine lv_iload hx hb dX8_instructs_226 (lv_at hl 7 rfl) ?_
              refine lv_imul hx hb dX8_instructs_228 ?_
              refine lv_iload hx hb dX8_instructs_229 (lv_at hl 8 rfl) ?_
              refine lv_iadd hx hb dX8_instructs_231 ?_
              refine lv_sipush (v := 512) hx hb dX8_instructs_232 (by decide) ?_
              refine lv_irem hx hb dX8_instructs_235 (by decide) ?_
              refine cl_v (ws' := fun u41 => (wX8s cI cZ a b u41)) (va_runV (As := [.ref (b 0), .int y3, .int x18, .int (((256 * y4) + y5) - ((256 * y4) + y5) / 512 * 512)]) (rest := []) ⟨hx, hb, hml, hown, hts⟩ (c_X8_moves l D cI cZ a b nw _ (u13.1, T17) y3 x18 (((256 * y4) + y5) - ((256 * y4) + y5) / 512 * 512) _ h hb4) (cwV 4 hts (gV q_1337 q_1339 q_51 q_75 q_1340) rfl rfl rfl (by decide +kernel) ⟨Nat.le_of_ble_eq_true rfl, Nat.le_of_ble_eq_true rfl⟩) (preV_of (ci := 7) (q := (RX8, TX8, 25)) hK hP hD [0, 1, 2, 3, 4, 5, 6, 7, 8, 9, 10, 11] rfl rfl (by decide) 0 rfl rfl) rfl rfl hl.1 rfl (lv_room (Nat.le_of_ble_eq_true rfl)) dX8_instructs_236 ⟨Nat.zero_le _, Nat.zero_le _⟩) hP hD hS hA [0, 1, 2, 3, 4, 5, 6, 7, 8, 9, 10, 11] [.inl 0, .inl 1, .inl 2, .inl 3, .inl 4, .inl 5, .inl 6, .inl 7, .inl 8, .inl 9, .inl 10, .inl 11] rfl (by decide) (fun _ => rfl) (fun _ => rfl) (fun u41 H locs h hP hD hS => ?_)
              refine lv_goto (tgt := 412) hx hb dX8_instructs_239 (by decide) ?_
              exact W.vret hx hb hr (fun t ht hW => ⟨⟨u41, rfl, h, by rw [ht]; exact hP, va_K.moved hW.alike hK, hD⟩, hS.F ht⟩) hS.2.2 dX8_instructs_412
          · have h := h.2 c22
            refine lv_aload_n hx hb dX8_instructs_201 rfl (lv_at hl 4 rfl) ?_
            refine lv_iload hx hb dX8_instructs_202 (lv_at hl 1 rfl) ?_
            refine lv_aload_n hx hb dX8_instructs_204 rfl (lv_at hl 4 rfl) ?_
            refine lv_iload hx hb dX8_instructs_205 (lv_at hl 0 rfl) ?_
            refine ar_il (f := T17) (n := 342) (j := (Int32.toNatClampNeg x19)) hx hb hK hP 11 rfl rfl h.1 dX8_instructs_207 ?_
            have h := h.2
            obtain ⟨T42, eT42⟩ : ∃ z : (Nat → Int32), z = (upd T17 (Int32.toNatClampNeg x18) (T17 (Int32.toNatClampNeg x19))) := ⟨_, rfl⟩
            refine ar_is (f := T17) (n := 342) (j := (Int32.toNatClampNeg x18)) (x := (T17 (Int32.toNatClampNeg x19))) hx hb hK hP hD hS 11 rfl rfl h.1 dX8_instructs_208 (wX8s cI cZ a b (u13.1, T42)) (by subst eT42; rfl) (fun H locs hP hD hS => ?_)
            have h := h.2
            have h := h T42 eT42
            refine lv_goto (tgt := 412) hx hb dX8_instructs_209 (by decide) ?_
            exact W.vret hx hb hr (fun t ht hW => ⟨⟨(u13.1, T42), rfl, h, by rw [ht]; exact hP, va_K.moved hW.alike hK, hD⟩, hS.F ht⟩) hS.2.2 dX8_instructs_412
        · have h := h.2 c21
          refine lv_aload_n hx hb dX8_instructs_168 rfl (lv_at hl 3 rfl) ?_
          refine lv_aload_n hx hb dX8_instructs_169 rfl (lv_at hl 4 rfl) ?_
          refine lv_iload hx hb dX8_instructs_170 (lv_at hl 7 rfl) ?_
          refine lv_bipush (v := 7) hx hb dX8_instructs_172 (by decide) ?_
          refine lv_iand hx hb dX8_instructs_174 ?_
          refine lv_iload_n hx hb dX8_instructs_175 rfl (lv_at hl 6 rfl) ?_
          refine lv_aload_n hx hb dX8_instructs_176 rfl (lv_at hl 4 rfl) ?_
          refine lv_iload hx hb dX8_instructs_177 (lv_at hl 1 rfl) ?_
          refine ar_il (f := T17) (n := 342) (j := (Int32.toNatClampNeg x18)) hx hb hK hP 11 rfl rfl h.1 dX8_instructs_179 ?_
          have h := h.2
          refine lv_aload_n hx hb dX8_instructs_180 rfl (lv_at hl 4 rfl) ?_
          refine lv_iload hx hb dX8_instructs_181 (lv_at hl 0 rfl) ?_
          refine ar_il (f := T17) (n := 342) (j := (Int32.toNatClampNeg x19)) hx hb hK hP 11 rfl rfl h.1 dX8_instructs_183 ?_
          have h := h.2
          refine lv_iload hx hb dX8_instructs_184 (lv_at hl 8 rfl) ?_
          refine cl_i (ws' := fun u43 => (wX8s cI cZ a b (u13.1, T17))) (va_runS (As := [.int y3, .int (T17 (Int32.toNatClampNeg x18)), .int (T17 (Int32.toNatClampNeg x19)), .int y5]) (rest := [.int (y4 &&& 7), .ref (b 0), .ref (a 0)]) ⟨hx, hb, hml, hown, hts⟩ (c_X8_made l D cI cZ _ () y3 (T17 (Int32.toNatClampNeg x18)) (T17 (Int32.toNatClampNeg x19)) y5 _ h ) (va_cwS 4 hts (gS q_1330 q_1331 q_75 q_1332) rfl rfl rfl (by decide +kernel) ⟨Nat.le_of_ble_eq_true rfl, Nat.le_of_ble_eq_true rfl⟩) (preS_of hK hP hD [] rfl rfl (by decide)) rfl rfl hl.1 rfl (lv_room (Nat.le_of_ble_eq_true rfl)) dX8_instructs_186 ⟨Nat.zero_le _, Nat.zero_le _⟩) hP hD hS hA [] [.inr 0, .inr 1, .inr 2, .inr 3, .inr 4, .inr 5, .inr 6, .inr 7, .inr 8, .inr 9, .inr 10, .inr 11] rfl (by decide) (fun _ => rfl) (fun _ => rfl) (fun r44 u43 H locs h hP hD hS => ?_)
          refine cl_v (ws' := fun u45 => (wX8s cI cZ a b u45)) (va_runV (As := [.ref (b 0), .int (y4 &&& 7), .int r44]) (rest := []) ⟨hx, hb, hml, hown, hts⟩ (c_X8_comes l D cI cZ a b nw _ (u13.1, T17) (y4 &&& 7) r44 _ h hb4) (cwV 3 hts (gV q_1333 q_1335 q_50 q_75 q_1336) rfl rfl rfl (by decide +kernel) ⟨Nat.le_of_ble_eq_true rfl, Nat.le_of_ble_eq_true rfl⟩) (preV_of (ci := 7) (q := (RX8, TX8, 25)) hK hP hD [0, 1, 2, 3, 4, 5, 6, 7, 8, 9, 10, 11] rfl rfl (by decide) 0 rfl rfl) rfl rfl hl.1 rfl (lv_room (Nat.le_of_ble_eq_true rfl)) dX8_instructs_189 ⟨Nat.zero_le _, Nat.zero_le _⟩) hP hD hS hA [0, 1, 2, 3, 4, 5, 6, 7, 8, 9, 10, 11] [.inl 0, .inl 1, .inl 2, .inl 3, .inl 4, .inl 5, .inl 6, .inl 7, .inl 8, .inl 9, .inl 10, .inl 11] rfl (by decide) (fun _ => rfl) (fun _ => rfl) (fun u45 H locs h hP hD hS => ?_)
          refine lv_goto (tgt := 412) hx hb dX8_instructs_192 (by decide) ?_
          exact W.vret hx hb hr (fun t ht hW => ⟨⟨u45, rfl, h, by rw [ht]; exact hP, va_K.moved hW.alike hK, hD⟩, hS.F ht⟩) hS.2.2 dX8_instructs_412
      · have h := h.2 c20
        refine lv_aload_n hx hb dX8_instructs_153 rfl (lv_at hl 4 rfl) ?_
        refine lv_iload hx hb dX8_instructs_154 (lv_at hl 1 rfl) ?_
        refine lv_iload hx hb dX8_instructs_156 (lv_at hl 8 rfl) ?_
        obtain ⟨T46, eT46⟩ : ∃ z : (Nat → Int32), z = (upd T17 (Int32.toNatClampNeg x18) y5) := ⟨_, rfl⟩
        refine ar_is (f := T17) (n := 342) (j := (Int32.toNatClampNeg x18)) (x := y5) hx hb hK hP hD hS 11 rfl rfl h.1 dX8_instructs_158 (wX8s cI cZ a b (u13.1, T46)) (by subst eT46; rfl) (fun H locs hP hD hS => ?_)
        have h := h.2
        have h := h T46 eT46
        refine lv_goto (tgt := 412) hx hb dX8_instructs_159 (by decide) ?_
        exact W.vret hx hb hr (fun t ht hW => ⟨⟨(u13.1, T46), rfl, h, by rw [ht]; exact hP, va_K.moved hW.alike hK, hD⟩, hS.F ht⟩) hS.2.2 dX8_instructs_412
    · have h := h.2 c12
      refine lv_aload_n hx hb dX8_instructs_89 rfl (lv_at hl 1 rfl) ?_
      refine lv_aload_n hx hb dX8_instructs_90 rfl (lv_at hl 2 rfl) ?_
      refine lv_iload hx hb dX8_instructs_91 (lv_at hl 0 rfl) ?_
      refine cl_i (ws' := fun u47 => (wX8s cI cZ a b u47)) (va_runV (As := [.ref (b 0), .int r11]) (rest := []) ⟨hx, hb, hml, hown, hts⟩ (c_X8_raises l D cI cZ a b nw _ u10 r11 _ h hb4) (cwV 2 hts (gV q_1262 q_1264 q_41 q_75 q_1265) rfl rfl rfl (by decide +kernel) ⟨Nat.le_of_ble_eq_true rfl, Nat.le_of_ble_eq_true rfl⟩) (preV_of (ci := 7) (q := (RX8, TX8, 25)) hK hP hD [0, 1, 2, 3, 4, 5, 6, 7, 8, 9, 10, 11] rfl rfl (by decide) 0 rfl rfl) rfl rfl hl.1 rfl (lv_room (Nat.le_of_ble_eq_true rfl)) dX8_instructs_93 ⟨Nat.zero_le _, Nat.zero_le _⟩) hP hD hS hA [0, 1, 2, 3, 4, 5, 6, 7, 8, 9, 10, 11] [.inl 0, .inl 1, .inl 2, .inl 3, .inl 4, .inl 5, .inl 6, .inl 7, .inl 8, .inl 9, .inl 10, .inl 11] rfl (by decide) (fun _ => rfl) (fun _ => rfl) (fun r48 u47 H locs h hP hD hS => ?_)
      refine lv_pop hx hb dX8_instructs_96 rfl ?_
      exact W.vret hx hb hr (fun t ht hW => ⟨⟨u47, rfl, h, by rw [ht]; exact hP, va_K.moved hW.alike hK, hD⟩, hS.F ht⟩) hS.2.2 dX8_instructs_97
  have hl := lv_entry ([.ref (a 0), .ref (b 0)]) (n := 9) (Nat.le_of_ble_eq_true rfl)
  rw [lg_entry_eq]
  generalize (lg_sl ([.ref (a 0), .ref (b 0)]) ++ List.replicate (9 - (lg_sl ([.ref (a 0), .ref (b 0)])).length) Slot.unset).toArray = ls at hl ⊢
  have hl : lv_has ls 9 [(0, .ref (a 0)), (1, .ref (b 0))] := hl
  unfold wp_X8_instructs at h
  refine lv_aload_n hx hb dX8_instructs_0 rfl (lv_at hl 1 rfl) ?_
  refine lv_bipush (v := 12) hx hb dX8_instructs_1 (by decide) ?_
  refine ar_il (f := S.2) (n := 342) (j := 12) hx hb hK hP 11 rfl (by decide) (okLit (by decide)) dX8_instructs_3 ?_
  refine lv_topi (fun x1 ex1 => ?_)
  have h := h x1 ex1
  refine lv_istore_n (lv' := [(2, .int x1), (0, .ref (a 0)), (1, .ref (b 0))]) hx hb dX8_instructs_4 rfl hl (by decide) rfl (fun ls hl => ?_)
  refine lv_aload_n hx hb dX8_instructs_5 rfl (lv_at hl 1 rfl) ?_
  refine va_get (D := D) (ci := 7) (v := .ref (a 1)) (C := RX8) (T := TX8) (N := 25) hx hb hts inX8 hown hK hP 0 rfl rfl 0 (by decide) (hts _ q_1077) (fun _ h9 => h9) rfl dX8_instructs_6 ?_
  refine lv_iload_n hx hb dX8_instructs_9 rfl (lv_at hl 0 rfl) ?_
  refine ar_il (f := (S.1.2 0)) (n := 512) (j := (Int32.toNatClampNeg x1)) hx hb hK hP 1 rfl rfl h.1 dX8_instructs_10 ?_
  have h := h.2
  refine lv_topi (fun x2 ex2 => ?_)
  have h := h x2 ex2
  refine lv_istore_n (lv' := [(3, .int x2), (2, .int x1), (0, .ref (a 0)), (1, .ref (b 0))]) hx hb dX8_instructs_11 rfl hl (by decide) rfl (fun ls hl => ?_)
  refine lv_aload_n hx hb dX8_instructs_12 rfl (lv_at hl 2 rfl) ?_
  refine va_get (D := D) (ci := 7) (v := .ref (a 1)) (C := RX8) (T := TX8) (N := 25) hx hb hts inX8 hown hK hP 0 rfl rfl 0 (by decide) (hts _ q_1077) (fun _ h9 => h9) rfl dX8_instructs_13 ?_
  refine lv_iload_n hx hb dX8_instructs_16 rfl (lv_at hl 1 rfl) ?_
  refine lv_iconst (v := 1) hx hb dX8_instructs_17 (by decide) ?_
  refine lv_iadd hx hb dX8_instructs_18 ?_
  refine lv_sipush (v := 512) hx hb dX8_instructs_19 (by decide) ?_
  refine lv_irem hx hb dX8_instructs_22 (by decide) ?_
  refine ar_il (f := (S.1.2 0)) (n := 512) (j := (Int32.toNatClampNeg ((x1 + 1) - (x1 + 1) / 512 * 512))) hx hb hK hP 1 rfl rfl h.1 dX8_instructs_23 ?_
  have h := h.2
  refine lv_topi (fun x3 ex3 => ?_)
  have h := h x3 ex3
  refine lv_istore (lv' := [(4, .int x3), (3, .int x2), (2, .int x1), (0, .ref (a 0)), (1, .ref (b 0))]) hx hb dX8_instructs_24 hl (by decide) rfl (fun ls hl => ?_)
  refine lv_aload_n hx hb dX8_instructs_26 rfl (lv_at hl 3 rfl) ?_
  refine va_get (D := D) (ci := 7) (v := .ref (a 1)) (C := RX8) (T := TX8) (N := 25) hx hb hts inX8 hown hK hP 0 rfl rfl 0 (by decide) (hts _ q_1077) (fun _ h9 => h9) rfl dX8_instructs_27 ?_
  refine lv_iload_n hx hb dX8_instructs_30 rfl (lv_at hl 2 rfl) ?_
  refine lv_iconst (v := 2) hx hb dX8_instructs_31 (by decide) ?_
  refine lv_iadd hx hb dX8_instructs_32 ?_
  refine lv_sipush (v := 512) hx hb dX8_instructs_33 (by decide) ?_
  refine lv_irem hx hb dX8_instructs_36 (by decide) ?_
  refine ar_il (f := (S.1.2 0)) (n := 512) (j := (Int32.toNatClampNeg ((x1 + 2) - (x1 + 2) / 512 * 512))) hx hb hK hP 1 rfl rfl h.1 dX8_instructs_37 ?_
  have h := h.2
  refine lv_topi (fun x4 ex4 => ?_)
  have h := h x4 ex4
  refine lv_istore (lv' := [(5, .int x4), (4, .int x3), (3, .int x2), (2, .int x1), (0, .ref (a 0)), (1, .ref (b 0))]) hx hb dX8_instructs_38 hl (by decide) rfl (fun ls hl => ?_)
  refine lv_iload_n hx hb dX8_instructs_40 rfl (lv_at hl 2 rfl) ?_
  refine lv_bipush (v := 20) hx hb dX8_instructs_41 (by decide) ?_
  refine lv_icmp_lt (tgt := 72) hx hb dX8_instructs_43 (by decide) (fun c5 => ?_) (fun c5 => ?_)
  · have h := h.1 c5
    exact L72 x1 x2 x3 x4 S _ _ _ hP hD hS (lv_sub hl [4, 5, 3, 2, 1, 0] rfl) h
  · have h := h.2 c5
    refine lv_iload_n hx hb dX8_instructs_46 rfl (lv_at hl 2 rfl) ?_
    refine lv_bipush (v := 24) hx hb dX8_instructs_47 (by decide) ?_
    refine lv_icmp_gt (tgt := 72) hx hb dX8_instructs_49 (by decide) (fun c6 => ?_) (fun c6 => ?_)
    · have h := h.1 c6
      exact L72 x1 x2 x3 x4 S _ _ _ hP hD hS (lv_sub hl [4, 5, 3, 2, 1, 0] rfl) h
    · have h := h.2 c6
      refine lv_aload_n hx hb dX8_instructs_52 rfl (lv_at hl 5 rfl) ?_
      refine lv_bipush (v := 19) hx hb dX8_instructs_53 (by decide) ?_
      refine ar_il (f := S.2) (n := 342) (j := 19) hx hb hK hP 11 rfl (by decide) (okLit (by decide)) dX8_instructs_55 ?_
      refine lv_if_lt (tgt := 72) hx hb dX8_instructs_56 (by decide) (fun c7 => ?_) (fun c7 => ?_)
      · have h := h.1 c7
        exact L72 x1 x2 x3 x4 S _ _ _ hP hD hS (lv_sub hl [4, 5, 3, 2, 1, 0] rfl) h
      · have h := h.2 c7
        refine lv_aload_n hx hb dX8_instructs_59 rfl (lv_at hl 4 rfl) ?_
        refine lv_aload_n hx hb dX8_instructs_60 rfl (lv_at hl 5 rfl) ?_
        refine lv_iconst (v := 4) hx hb dX8_instructs_61 (by decide) ?_
        refine lv_iconst (v := 0) hx hb dX8_instructs_62 (by decide) ?_
        refine cl_v (ws' := fun u8 => (wX8s cI cZ a b u8)) (va_runV (As := [.ref (b 0), .int 4, .int 0]) (rest := []) ⟨hx, hb, hml, hown, hts⟩ (c_X8_turns l D cI cZ a b nw _ S 4 0 _ h hb4) (cwV 3 hts (gV q_1250 q_1252 q_38 q_75 q_1253) rfl rfl rfl (by decide +kernel) ⟨Nat.le_of_ble_eq_true rfl, Nat.le_of_ble_eq_true rfl⟩) (preV_of (ci := 7) (q := (RX8, TX8, 25)) hK hP hD [0, 1, 2, 3, 4, 5, 6, 7, 8, 9, 10, 11] rfl rfl (by decide) 0 rfl rfl) rfl rfl hl.1 rfl (lv_room (Nat.le_of_ble_eq_true rfl)) dX8_instructs_63 ⟨Nat.zero_le _, Nat.zero_le _⟩) hP hD hS hA [0, 1, 2, 3, 4, 5, 6, 7, 8, 9, 10, 11] [.inl 0, .inl 1, .inl 2, .inl 3, .inl 4, .inl 5, .inl 6, .inl 7, .inl 8, .inl 9, .inl 10, .inl 11] rfl (by decide) (fun _ => rfl) (fun _ => rfl) (fun u8 H locs h hP hD hS => ?_)
        refine lv_aload_n hx hb dX8_instructs_66 rfl (lv_at hl 4 rfl) ?_
        refine lv_aload_n hx hb dX8_instructs_67 rfl (lv_at hl 5 rfl) ?_
        refine cl_v (ws' := fun u9 => (wX8s cI cZ a b u9)) (va_runV (As := [.ref (b 0)]) (rest := []) ⟨hx, hb, hml, hown, hts⟩ (c_X8_saves l D cI cZ a b nw _ u8 _ h hb4) (cwV 1 hts (gV q_1290 q_1292 q_48 q_75 q_1293) rfl rfl rfl (by decide +kernel) ⟨Nat.le_of_ble_eq_true rfl, Nat.le_of_ble_eq_true rfl⟩) (preV_of (ci := 7) (q := (RX8, TX8, 25)) hK hP hD [0, 1, 2, 3, 4, 5, 6, 7, 8, 9, 10, 11] rfl rfl (by decide) 0 rfl rfl) rfl rfl hl.1 rfl (lv_room (Nat.le_of_ble_eq_true rfl)) dX8_instructs_68 ⟨Nat.zero_le _, Nat.zero_le _⟩) hP hD hS hA [0, 1, 2, 3, 4, 5, 6, 7, 8, 9, 10, 11] [.inl 0, .inl 1, .inl 2, .inl 3, .inl 4, .inl 5, .inl 6, .inl 7, .inl 8, .inl 9, .inl 10, .inl 11] rfl (by decide) (fun _ => rfl) (fun _ => rfl) (fun u9 H locs h hP hD hS => ?_)
        exact W.vret hx hb hr (fun t ht hW => ⟨⟨u9, rfl, h, by rw [ht]; exact hP, va_K.moved hW.alike hK, hD⟩, hS.F ht⟩) hS.2.2 dX8_instructs_71
