/-! X8_runs -/
abbrev rmX8_runs : Room := { frames := 7, cells := 0, slots := 0, locals := 166 }
set_option maxHeartbeats 4000000 in
set_option maxRecDepth 100000 in
theorem c_X8_runs (l : Launch) (D : va_G) (cI cZ : ClassId) (a : Nat → Nat) (b : Nat → Nat) (nw : Bool) (sz : Nat) (S : Ob × (Nat → Int32)) (Q : (Ob × (Nat → Int32)) → Prop) (h : wp_X8_runs nw S Q) (hb4 : nw = true → b 0 = a 4) : Met l yX8_runs (wsm yX8_runs cX8_runs 3 none) rmX8_runs (va_Pc [.ref (a 0), .ref (b 0)] (preT D cI cZ sz (wX8s cI cZ a b S))) (va_Qv Q (fun u => atW D cI cZ (va_A (wX8s cI cZ a b S) sz) (wX8s cI cZ a b u)) (va_A (wX8s cI cZ a b S) sz)) 0 0 (va_A (wX8s cI cZ a b S) sz) := by
  refine Met.ofW (cc := cX8_runs) (maxL := 3) (ret := none) (by decide) rfl ?_
  intro p e s m args below meth c s₁ B hml hv
  obtain ⟨rfl, ⟨hsz, hP, hK, hD0⟩, hF⟩ := hv
  have hx := B.exec
  have hb := B.bytes
  have hr := B.returns
  have hts0 := atoms_spec (ws := wsm yX8_runs cX8_runs 3 none) B.pre
  have hts : ∀ w ∈ lw_all, w.before _ s = true := fun w h => hts0 w (List.mem_cons_of_mem _ h)
  have hown : s.vm.findClass RX8 = some m.cls := findClass_of_methodNamed B.named
  have hlocks := B.notSynchronized
  subst hsz
  have hD := hD0.self (sz := s.heap.size)
  generalize hAe : va_A (wX8s cI cZ a b S) s.heap.size = A at hD hF ⊢
  have hA : ∀ q : Nat, s.heap.size ≤ q → A q := fun q h => by rw [← hAe]; exact Or.inr h
  have hS : va_S A s.heap s.heap [] := va_S.rf
  have hml2 := hml
  have hl := lv_entry ([.ref (a 0), .ref (b 0)]) (n := 3) (Nat.le_of_ble_eq_true rfl)
  rw [lg_entry_eq]
  generalize (lg_sl ([.ref (a 0), .ref (b 0)]) ++ List.replicate (3 - (lg_sl ([.ref (a 0), .ref (b 0)])).length) Slot.unset).toArray = ls at hl ⊢
  have hl : lv_has ls 3 [(0, .ref (a 0)), (1, .ref (b 0))] := hl
  unfold wp_X8_runs at h
  refine lv_aload_n hx hb dX8_runs_0 rfl (lv_at hl 1 rfl) ?_
  refine lv_bipush (v := 22) hx hb dX8_runs_1 (by decide) ?_
  refine ar_il (f := S.2) (n := 342) (j := 22) hx hb hK hP 11 rfl (by decide) (okLit (by decide)) dX8_runs_3 ?_
  refine lv_if_le (tgt := 16) hx hb dX8_runs_4 (by decide) (fun c1 => ?_) (fun c1 => ?_)
  · have h := h.1 c1
    refine lv_aload_n hx hb dX8_runs_16 rfl (lv_at hl 0 rfl) ?_
    refine lv_aload_n hx hb dX8_runs_17 rfl (lv_at hl 1 rfl) ?_
    refine cl_i (ws' := fun u2 => (wX8s cI cZ a b u2)) (va_runV (As := [.ref (b 0)]) (rest := []) ⟨hx, hb, hml, hown, hts⟩ (c_X8_nextOf_ l D cI cZ a b nw _ S _ h hb4) (cwV 1 hts (gV q_1229 q_1231 q_35 q_75 q_1232) rfl rfl rfl (by decide +kernel) ⟨Nat.le_of_ble_eq_true rfl, Nat.le_of_ble_eq_true rfl⟩) (preV_of (ci := 7) (q := (RX8, TX8, 25)) hK hP hD [0, 1, 2, 3, 4, 5, 6, 7, 8, 9, 10, 11] rfl rfl (by decide) 0 rfl rfl) rfl rfl hl.1 rfl (lv_room (Nat.le_of_ble_eq_true rfl)) dX8_runs_18 ⟨Nat.zero_le _, Nat.zero_le _⟩) hP hD hS hA [0, 1, 2, 3, 4, 5, 6, 7, 8, 9, 10, 11] [.inl 0, .inl 1, .inl 2, .inl 3, .inl 4, .inl 5, .inl 6, .inl 7, .inl 8, .inl 9, .inl 10, .inl 11] rfl (by decide) (fun _ => rfl) (fun _ => rfl) (fun r3 u2 H locs h hP hD hS => ?_)
    refine lv_istore_n (lv' := [(2, .int r3), (0, .ref (a 0)), (1, .ref (b 0))]) hx hb dX8_runs_21 rfl hl (by decide) rfl (fun ls hl => ?_)
    refine lv_iload_n hx hb dX8_runs_22 rfl (lv_at hl 0 rfl) ?_
    refine lv_if_lt (tgt := 59) hx hb dX8_runs_23 (by decide) (fun c4 => ?_) (fun c4 => ?_)
    · have h := h.1 c4
      refine lv_aload_n hx hb dX8_runs_59 rfl (lv_at hl 2 rfl) ?_
      refine lv_bipush (v := 23) hx hb dX8_runs_60 (by decide) ?_
      refine ar_il (f := u2.2) (n := 342) (j := 23) hx hb hK hP 11 rfl (by decide) (okLit (by decide)) dX8_runs_62 ?_
      refine lv_iconst (v := 1) hx hb dX8_runs_63 (by decide) ?_
      refine lv_icmp_ne (tgt := 77) hx hb dX8_runs_64 (by decide) (fun c5 => ?_) (fun c5 => ?_)
      · have h := h.1 c5
        refine lv_aload_n hx hb dX8_runs_77 rfl (lv_at hl 2 rfl) ?_
        refine lv_bipush (v := 23) hx hb dX8_runs_78 (by decide) ?_
        refine lv_iconst (v := 0) hx hb dX8_runs_80 (by decide) ?_
        obtain ⟨T6, eT6⟩ : ∃ z : (Nat → Int32), z = (upd u2.2 23 0) := ⟨_, rfl⟩
        refine ar_is (f := u2.2) (n := 342) (j := 23) (x := 0) hx hb hK hP hD hS 11 rfl (by decide) (okLit (by decide)) dX8_runs_81 (wX8s cI cZ a b (u2.1, T6)) (by subst eT6; rfl) (fun H locs hP hD hS => ?_)
        have h := h T6 eT6
        refine lv_aload_n hx hb dX8_runs_82 rfl (lv_at hl 1 rfl) ?_
        refine lv_aload_n hx hb dX8_runs_83 rfl (lv_at hl 2 rfl) ?_
        refine cl_v (ws' := fun u7 => (wX8s cI cZ a b u7)) (va_runV (As := [.ref (b 0)]) (rest := []) ⟨hx, hb, hml, hown, hts⟩ (c_X8_instructs l D cI cZ a b nw _ (u2.1, T6) _ h hb4) (cwV 1 hts (gV q_1286 q_1288 q_47 q_75 q_1289) rfl rfl rfl (by decide +kernel) ⟨Nat.le_of_ble_eq_true rfl, Nat.le_of_ble_eq_true rfl⟩) (preTV_of (ci := 7) (q := (RX8, TX8, 25)) hF hS hA hK hP hD [0, 1, 2, 3, 4, 5, 6, 7, 8, 9, 10, 11] rfl rfl (by decide) 0 rfl rfl) rfl rfl hl.1 rfl (lv_room (Nat.le_of_ble_eq_true rfl)) dX8_runs_84 ⟨Nat.zero_le _, Nat.zero_le _⟩) hP hD hS hA [0, 1, 2, 3, 4, 5, 6, 7, 8, 9, 10, 11] [.inl 0, .inl 1, .inl 2, .inl 3, .inl 4, .inl 5, .inl 6, .inl 7, .inl 8, .inl 9, .inl 10, .inl 11] rfl (by decide) (fun _ => rfl) (fun _ => rfl) (fun u7 H locs h hP hD hS => ?_)
        exact W.vret hx hb hr (fun t ht hW => ⟨⟨u7, rfl, h, by rw [ht]; exact hP, va_K.moved hW.alike hK, hD⟩, hS.F ht⟩) hS.2.2 dX8_runs_87
      · have h := h.2 c5
        refine lv_aload_n hx hb dX8_runs_67 rfl (lv_at hl 1 rfl) ?_
        refine lv_aload_n hx hb dX8_runs_68 rfl (lv_at hl 2 rfl) ?_
        refine lv_iconst (v := 0) hx hb dX8_runs_69 (by decide) ?_
        refine cl_i (ws' := fun u8 => (wX8s cI cZ a b u8)) (va_runV (As := [.ref (b 0), .int 0]) (rest := []) ⟨hx, hb, hml, hown, hts⟩ (c_X8_nextOf l D cI cZ a b nw _ u2 0 _ h hb4) (cwV 2 hts (gV q_1233 q_1235 q_36 q_75 q_1236) rfl rfl rfl (by decide +kernel) ⟨Nat.le_of_ble_eq_true rfl, Nat.le_of_ble_eq_true rfl⟩) (preV_of (ci := 7) (q := (RX8, TX8, 25)) hK hP hD [0, 1, 2, 3, 4, 5, 6, 7, 8, 9, 10, 11] rfl rfl (by decide) 0 rfl rfl) rfl rfl hl.1 rfl (lv_room (Nat.le_of_ble_eq_true rfl)) dX8_runs_70 ⟨Nat.zero_le _, Nat.zero_le _⟩) hP hD hS hA [0, 1, 2, 3, 4, 5, 6, 7, 8, 9, 10, 11] [.inl 0, .inl 1, .inl 2, .inl 3, .inl 4, .inl 5, .inl 6, .inl 7, .inl 8, .inl 9, .inl 10, .inl 11] rfl (by decide) (fun _ => rfl) (fun _ => rfl) (fun r9 u8 H locs h hP hD hS => ?_)
        refine lv_if_ge (tgt := 77) hx hb dX8_runs_73 (by decide) (fun c10 => ?_) (fun c10 => ?_)
        · have h := h.1 c10
          refine lv_aload_n hx hb dX8_runs_77 rfl (lv_at hl 2 rfl) ?_
          refine lv_bipush (v := 23) hx hb dX8_runs_78 (by decide) ?_
          refine lv_iconst (v := 0) hx hb dX8_runs_80 (by decide) ?_
          obtain ⟨T11, eT11⟩ : ∃ z : (Nat → Int32), z = (upd u8.2 23 0) := ⟨_, rfl⟩
          refine ar_is (f := u8.2) (n := 342) (j := 23) (x := 0) hx hb hK hP hD hS 11 rfl (by decide) (okLit (by decide)) dX8_runs_81 (wX8s cI cZ a b (u8.1, T11)) (by subst eT11; rfl) (fun H locs hP hD hS => ?_)
          have h := h T11 eT11
          refine lv_aload_n hx hb dX8_runs_82 rfl (lv_at hl 1 rfl) ?_
          refine lv_aload_n hx hb dX8_runs_83 rfl (lv_at hl 2 rfl) ?_
          refine cl_v (ws' := fun u12 => (wX8s cI cZ a b u12)) (va_runV (As := [.ref (b 0)]) (rest := []) ⟨hx, hb, hml, hown, hts⟩ (c_X8_instructs l D cI cZ a b nw _ (u8.1, T11) _ h hb4) (cwV 1 hts (gV q_1286 q_1288 q_47 q_75 q_1289) rfl rfl rfl (by decide +kernel) ⟨Nat.le_of_ble_eq_true rfl, Nat.le_of_ble_eq_true rfl⟩) (preTV_of (ci := 7) (q := (RX8, TX8, 25)) hF hS hA hK hP hD [0, 1, 2, 3, 4, 5, 6, 7, 8, 9, 10, 11] rfl rfl (by decide) 0 rfl rfl) rfl rfl hl.1 rfl (lv_room (Nat.le_of_ble_eq_true rfl)) dX8_runs_84 ⟨Nat.zero_le _, Nat.zero_le _⟩) hP hD hS hA [0, 1, 2, 3, 4, 5, 6, 7, 8, 9, 10, 11] [.inl 0, .inl 1, .inl 2, .inl 3, .inl 4, .inl 5, .inl 6, .inl 7, .inl 8, .inl 9, .inl 10, .inl 11] rfl (by decide) (fun _ => rfl) (fun _ => rfl) (fun u12 H locs h hP hD hS => ?_)
          exact W.vret hx hb hr (fun t ht hW => ⟨⟨u12, rfl, h, by rw [ht]; exact hP, va_K.moved hW.alike hK, hD⟩, hS.F ht⟩) hS.2.2 dX8_runs_87
        · have h := h.2 c10
          exact W.vret hx hb hr (fun t ht hW => ⟨⟨u8, rfl, h, by rw [ht]; exact hP, va_K.moved hW.alike hK, hD⟩, hS.F ht⟩) hS.2.2 dX8_runs_76
    · have h := h.2 c4
      refine lv_aload_n hx hb dX8_runs_26 rfl (lv_at hl 2 rfl) ?_
      refine lv_bipush (v := 24) hx hb dX8_runs_27 (by decide) ?_
      refine lv_iload_n hx hb dX8_runs_29 rfl (lv_at hl 0 rfl) ?_
      obtain ⟨T13, eT13⟩ : ∃ z : (Nat → Int32), z = (upd u2.2 24 r3) := ⟨_, rfl⟩
      refine ar_is (f := u2.2) (n := 342) (j := 24) (x := r3) hx hb hK hP hD hS 11 rfl (by decide) (okLit (by decide)) dX8_runs_30 (wX8s cI cZ a b (u2.1, T13)) (by subst eT13; rfl) (fun H locs hP hD hS => ?_)
      have h := h T13 eT13
      refine lv_aload_n hx hb dX8_runs_31 rfl (lv_at hl 2 rfl) ?_
      refine lv_bipush (v := 23) hx hb dX8_runs_32 (by decide) ?_
      refine lv_iconst (v := 0) hx hb dX8_runs_34 (by decide) ?_
      obtain ⟨T14, eT14⟩ : ∃ z : (Nat → Int32), z = (upd T13 23 0) := ⟨_, rfl⟩
      refine ar_is (f := T13) (n := 342) (j := 23) (x := 0) hx hb hK hP hD hS 11 rfl (by decide) (okLit (by decide)) dX8_runs_35 (wX8s cI cZ a b (u2.1, T14)) (by subst eT14; rfl) (fun H locs hP hD hS => ?_)
      have h := h T14 eT14
      refine lv_aload_n hx hb dX8_runs_36 rfl (lv_at hl 2 rfl) ?_
      refine lv_bipush (v := 28) hx hb dX8_runs_37 (by decide) ?_
      refine lv_iconst (v := 0) hx hb dX8_runs_39 (by decide) ?_
      obtain ⟨T15, eT15⟩ : ∃ z : (Nat → Int32), z = (upd T14 28 0) := ⟨_, rfl⟩
      refine ar_is (f := T14) (n := 342) (j := 28) (x := 0) hx hb hK hP hD hS 11 rfl (by decide) (okLit (by decide)) dX8_runs_40 (wX8s cI cZ a b (u2.1, T15)) (by subst eT15; rfl) (fun H locs hP hD hS => ?_)
      have h := h T15 eT15
      refine lv_aload_n hx hb dX8_runs_41 rfl (lv_at hl 2 rfl) ?_
      refine lv_bipush (v := 29) hx hb dX8_runs_42 (by decide) ?_
      refine lv_iconst (v := 0) hx hb dX8_runs_44 (by decide) ?_
      obtain ⟨T16, eT16⟩ : ∃ z : (Nat → Int32), z = (upd T15 29 0) := ⟨_, rfl⟩
      refine ar_is (f := T15) (n := 342) (j := 29) (x := 0) hx hb hK hP hD hS 11 rfl (by decide) (okLit (by decide)) dX8_runs_45 (wX8s cI cZ a b (u2.1, T16)) (by subst eT16; rfl) (fun H locs hP hD hS => ?_)
      have h := h T16 eT16
      refine lv_aload_n hx hb dX8_runs_46 rfl (lv_at hl 1 rfl) ?_
      refine lv_aload_n hx hb dX8_runs_47 rfl (lv_at hl 2 rfl) ?_
      refine lv_iconst (v := 1) hx hb dX8_runs_48 (by decide) ?_
      refine lv_iconst (v := 0) hx hb dX8_runs_49 (by decide) ?_
      refine cl_v (ws' := fun u17 => (wX8s cI cZ a b u17)) (va_runV (As := [.ref (b 0), .int 1, .int 0]) (rest := []) ⟨hx, hb, hml, hown, hts⟩ (c_X8_turns l D cI cZ a b nw _ (u2.1, T16) 1 0 _ h hb4) (cwV 3 hts (gV q_1250 q_1252 q_38 q_75 q_1253) rfl rfl rfl (by decide +kernel) ⟨Nat.le_of_ble_eq_true rfl, Nat.le_of_ble_eq_true rfl⟩) (preV_of (ci := 7) (q := (RX8, TX8, 25)) hK hP hD [0, 1, 2, 3, 4, 5, 6, 7, 8, 9, 10, 11] rfl rfl (by decide) 0 rfl rfl) rfl rfl hl.1 rfl (lv_room (Nat.le_of_ble_eq_true rfl)) dX8_runs_50 ⟨Nat.zero_le _, Nat.zero_le _⟩) hP hD hS hA [0, 1, 2, 3, 4, 5, 6, 7, 8, 9, 10, 11] [.inl 0, .inl 1, .inl 2, .inl 3, .inl 4, .inl 5, .inl 6, .inl 7, .inl 8, .inl 9, .inl 10, .inl 11] rfl (by decide) (fun _ => rfl) (fun _ => rfl) (fun u17 H locs h hP hD hS => ?_)
      refine lv_aload_n hx hb dX8_runs_53 rfl (lv_at hl 1 rfl) ?_
      refine lv_aload_n hx hb dX8_runs_54 rfl (lv_at hl 2 rfl) ?_
      refine cl_v (ws' := fun u18 => (wX8s cI cZ a b u18)) (va_runV (As := [.ref (b 0)]) (rest := []) ⟨hx, hb, hml, hown, hts⟩ (c_X8_stacks l D cI cZ a b nw _ u17 _ h hb4) (cwV 1 hts (gV q_1254 q_1256 q_39 q_75 q_1257) rfl rfl rfl (by decide +kernel) ⟨Nat.le_of_ble_eq_true rfl, Nat.le_of_ble_eq_true rfl⟩) (preV_of (ci := 7) (q := (RX8, TX8, 25)) hK hP hD [0, 1, 2, 3, 4, 5, 6, 7, 8, 9, 10, 11] rfl rfl (by decide) 0 rfl rfl) rfl rfl hl.1 rfl (lv_room (Nat.le_of_ble_eq_true rfl)) dX8_runs_55 ⟨Nat.zero_le _, Nat.zero_le _⟩) hP hD hS hA [0, 1, 2, 3, 4, 5, 6, 7, 8, 9, 10, 11] [.inl 0, .inl 1, .inl 2, .inl 3, .inl 4, .inl 5, .inl 6, .inl 7, .inl 8, .inl 9, .inl 10, .inl 11] rfl (by decide) (fun _ => rfl) (fun _ => rfl) (fun u18 H locs h hP hD hS => ?_)
      exact W.vret hx hb hr (fun t ht hW => ⟨⟨u18, rfl, h, by rw [ht]; exact hP, va_K.moved hW.alike hK, hD⟩, hS.F ht⟩) hS.2.2 dX8_runs_58
  · have h := h.2 c1
    refine lv_aload_n hx hb dX8_runs_7 rfl (lv_at hl 1 rfl) ?_
    refine lv_bipush (v := 22) hx hb dX8_runs_8 (by decide) ?_
    refine lv_dup2_11 hx hb dX8_runs_10 rfl rfl ?_
    refine ar_il (f := S.2) (n := 342) (j := 22) hx hb hK hP 11 rfl (by decide) (okLit (by decide)) dX8_runs_11 ?_
    refine lv_iconst (v := 1) hx hb dX8_runs_12 (by decide) ?_
    refine lv_isub hx hb dX8_runs_13 ?_
    obtain ⟨T19, eT19⟩ : ∃ z : (Nat → Int32), z = (upd S.2 22 ((S.2 22) - 1)) := ⟨_, rfl⟩
    refine ar_is (f := S.2) (n := 342) (j := 22) (x := ((S.2 22) - 1)) hx hb hK hP hD hS 11 rfl (by decide) (okLit (by decide)) dX8_runs_14 (wX8s cI cZ a b (S.1, T19)) (by subst eT19; rfl) (fun H locs hP hD hS => ?_)
    have h := h T19 eT19
    exact W.vret hx hb hr (fun t ht hW => ⟨⟨(S.1, T19), rfl, h, by rw [ht]; exact hP, va_K.moved hW.alike hK, hD⟩, hS.F ht⟩) hS.2.2 dX8_runs_15
/-! X8_chains -/
abbrev rmX8_chains : Room := { frames := 4, cells := 0, slots := 0, locals := 93 }
set_option maxHeartbeats 4000000 in
set_option maxRecDepth 100000 in
theorem c_X8_chains (l : Launch) (D : va_G) (cI cZ : ClassId) (a : Nat → Nat) (b : Nat → Nat) (nw : Bool) (sz : Nat) (S : Ob × (Nat → Int32)) (Q : (Ob × (Nat → Int32)) → Prop) (h : wp_X8_chains nw S Q) (hb4 : nw = true → b 0 = a 4) : Met l yX8_chains (wsm yX8_chains cX8_chains 3 none) rmX8_chains (va_Pc [.ref (a 0), .ref (b 0)] (preW D cI cZ sz (wX8s cI cZ a b S))) (va_Qv Q (fun u => atW D cI cZ (va_A (wX8s cI cZ a b S) sz) (wX8s cI cZ a b u)) (va_A (wX8s cI cZ a b S) sz)) 0 0 (va_A (wX8s cI cZ a b S) sz) := by
  refine Met.ofW (cc := cX8_chains) (maxL := 3) (ret := none) (by decide) rfl ?_
  intro p e s m args below meth c s₁ B hml hv
  obtain ⟨rfl, hsz, hP, hK, hD0⟩ := hv
  have hx := B.exec
  have hb := B.bytes
  have hr := B.returns
  have hts0 := atoms_spec (ws := wsm yX8_chains cX8_chains 3 none) B.pre
  have hts : ∀ w ∈ lw_all, w.before _ s = true := fun w h => hts0 w (List.mem_cons_of_mem _ h)
  have hown : s.vm.findClass RX8 = some m.cls := findClass_of_methodNamed B.named
  have hlocks := B.notSynchronized
  subst hsz
  have hD := hD0.self (sz := s.heap.size)
  generalize hAe : va_A (wX8s cI cZ a b S) s.heap.size = A at hD ⊢
  have hA : ∀ q : Nat, s.heap.size ≤ q → A q := fun q h => by rw [← hAe]; exact Or.inr h
  have hS : va_S A s.heap s.heap [] := va_S.rf
  have hml2 := hml
  have hl := lv_entry ([.ref (a 0), .ref (b 0)]) (n := 3) (Nat.le_of_ble_eq_true rfl)
  rw [lg_entry_eq]
  generalize (lg_sl ([.ref (a 0), .ref (b 0)]) ++ List.replicate (3 - (lg_sl ([.ref (a 0), .ref (b 0)])).length) Slot.unset).toArray = ls at hl ⊢
  have hl : lv_has ls 3 [(0, .ref (a 0)), (1, .ref (b 0))] := hl
  unfold wp_X8_chains at h
  refine lv_aload_n hx hb dX8_chains_0 rfl (lv_at hl 1 rfl) ?_
  refine lv_bipush (v := 21) hx hb dX8_chains_1 (by decide) ?_
  refine lv_dup2_11 hx hb dX8_chains_3 rfl rfl ?_
  refine ar_il (f := S.2) (n := 342) (j := 21) hx hb hK hP 11 rfl (by decide) (okLit (by decide)) dX8_chains_4 ?_
  refine lv_iconst (v := 1) hx hb dX8_chains_5 (by decide) ?_
  refine lv_iadd hx hb dX8_chains_6 ?_
  obtain ⟨T1, eT1⟩ : ∃ z : (Nat → Int32), z = (upd S.2 21 ((S.2 21) + 1)) := ⟨_, rfl⟩
  refine ar_is (f := S.2) (n := 342) (j := 21) (x := ((S.2 21) + 1)) hx hb hK hP hD hS 11 rfl (by decide) (okLit (by decide)) dX8_chains_7 (wX8s cI cZ a b (S.1, T1)) (by subst eT1; rfl) (fun H locs hP hD hS => ?_)
  have h := h T1 eT1
  refine lv_aload_n hx hb dX8_chains_8 rfl (lv_at hl 1 rfl) ?_
  refine lv_bipush (v := 21) hx hb dX8_chains_9 (by decide) ?_
  refine ar_il (f := T1) (n := 342) (j := 21) hx hb hK hP 11 rfl (by decide) (okLit (by decide)) dX8_chains_11 ?_
  refine lv_iconst (v := 2) hx hb dX8_chains_12 (by decide) ?_
  refine lv_icmp_ge (tgt := 17) hx hb dX8_chains_13 (by decide) (fun c2 => ?_) (fun c2 => ?_)
  · have h := h.1 c2
    refine lv_aload_n hx hb dX8_chains_17 rfl (lv_at hl 0 rfl) ?_
    refine lv_aload_n hx hb dX8_chains_18 rfl (lv_at hl 1 rfl) ?_
    refine cl_i (ws' := fun u3 => (wX8s cI cZ a b u3)) (va_runV (As := [.ref (b 0)]) (rest := []) ⟨hx, hb, hml, hown, hts⟩ (c_X8_nextOf_ l D cI cZ a b nw _ (S.1, T1) _ h hb4) (cwV 1 hts (gV q_1229 q_1231 q_35 q_75 q_1232) rfl rfl rfl (by decide +kernel) ⟨Nat.le_of_ble_eq_true rfl, Nat.le_of_ble_eq_true rfl⟩) (preV_of (ci := 7) (q := (RX8, TX8, 25)) hK hP hD [0, 1, 2, 3, 4, 5, 6, 7, 8, 9, 10, 11] rfl rfl (by decide) 0 rfl rfl) rfl rfl hl.1 rfl (lv_room (Nat.le_of_ble_eq_true rfl)) dX8_chains_19 ⟨Nat.zero_le _, Nat.zero_le _⟩) hP hD hS hA [0, 1, 2, 3, 4, 5, 6, 7, 8, 9, 10, 11] [.inl 0, .inl 1, .inl 2, .inl 3, .inl 4, .inl 5, .inl 6, .inl 7, .inl 8, .inl 9, .inl 10, .inl 11] rfl (by decide) (fun _ => rfl) (fun _ => rfl) (fun r4 u3 H locs h hP hD hS => ?_)
    refine lv_istore_n (lv' := [(2, .int r4), (0, .ref (a 0)), (1, .ref (b 0))]) hx hb dX8_chains_22 rfl hl (by decide) rfl (fun ls hl => ?_)
    refine lv_iload_n hx hb dX8_chains_23 rfl (lv_at hl 0 rfl) ?_
    refine lv_if_lt (tgt := 37) hx hb dX8_chains_24 (by decide) (fun c5 => ?_) (fun c5 => ?_)
    · have h := h.1 c5
      refine lv_aload_n hx hb dX8_chains_37 rfl (lv_at hl 1 rfl) ?_
      refine lv_aload_n hx hb dX8_chains_38 rfl (lv_at hl 2 rfl) ?_
      refine lv_iconst (v := 3) hx hb dX8_chains_39 (by decide) ?_
      refine lv_iconst (v := 0) hx hb dX8_chains_40 (by decide) ?_
      refine cl_v (ws' := fun u6 => (wX8s cI cZ a b u6)) (va_runV (As := [.ref (b 0), .int 3, .int 0]) (rest := []) ⟨hx, hb, hml, hown, hts⟩ (c_X8_turns l D cI cZ a b nw _ u3 3 0 _ h hb4) (cwV 3 hts (gV q_1250 q_1252 q_38 q_75 q_1253) rfl rfl rfl (by decide +kernel) ⟨Nat.le_of_ble_eq_true rfl, Nat.le_of_ble_eq_true rfl⟩) (preV_of (ci := 7) (q := (RX8, TX8, 25)) hK hP hD [0, 1, 2, 3, 4, 5, 6, 7, 8, 9, 10, 11] rfl rfl (by decide) 0 rfl rfl) rfl rfl hl.1 rfl (lv_room (Nat.le_of_ble_eq_true rfl)) dX8_chains_41 ⟨Nat.zero_le _, Nat.zero_le _⟩) hP hD hS hA [0, 1, 2, 3, 4, 5, 6, 7, 8, 9, 10, 11] [.inl 0, .inl 1, .inl 2, .inl 3, .inl 4, .inl 5, .inl 6, .inl 7, .inl 8, .inl 9, .inl 10, .inl 11] rfl (by decide) (fun _ => rfl) (fun _ => rfl) (fun u6 H locs h hP hD hS => ?_)
      exact W.vret hx hb hr (fun t ht hW => ⟨⟨u6, rfl, h, by rw [ht]; exact hP, va_K.moved hW.alike hK, hD⟩, hS.F ht⟩) hS.2.2 dX8_chains_44
    · have h := h.2 c5
      refine lv_aload_n hx hb dX8_chains_27 rfl (lv_at hl 1 rfl) ?_
      refine lv_aload_n hx hb dX8_chains_28 rfl (lv_at hl 2 rfl) ?_
      refine lv_iload_n hx hb dX8_chains_29 rfl (lv_at hl 0 rfl) ?_
      refine lv_iconst (v := 1) hx hb dX8_chains_30 (by decide) ?_
      refine cl_v (ws' := fun u7 => (wX8s cI cZ a b u7)) (va_runV (As := [.ref (b 0), .int r4, .int 1]) (rest := []) ⟨hx, hb, hml, hown, hts⟩ (c_X8_begins l D cI cZ a b nw _ u3 r4 1 _ h hb4) (cwV 3 hts (gV q_1282 q_1284 q_46 q_75 q_1285) rfl rfl rfl (by decide +kernel) ⟨Nat.le_of_ble_eq_true rfl, Nat.le_of_ble_eq_true rfl⟩) (preV_of (ci := 7) (q := (RX8, TX8, 25)) hK hP hD [0, 1, 2, 3, 4, 5, 6, 7, 8, 9, 10, 11] rfl rfl (by decide) 0 rfl rfl) rfl rfl hl.1 rfl (lv_room (Nat.le_of_ble_eq_true rfl)) dX8_chains_31 ⟨Nat.zero_le _, Nat.zero_le _⟩) hP hD hS hA [0, 1, 2, 3, 4, 5, 6, 7, 8, 9, 10, 11] [.inl 0, .inl 1, .inl 2, .inl 3, .inl 4, .inl 5, .inl 6, .inl 7, .inl 8, .inl 9, .inl 10, .inl 11] rfl (by decide) (fun _ => rfl) (fun _ => rfl) (fun u7 H locs h hP hD hS => ?_)
      refine lv_goto (tgt := 44) hx hb dX8_chains_34 (by decide) ?_
      exact W.vret hx hb hr (fun t ht hW => ⟨⟨u7, rfl, h, by rw [ht]; exact hP, va_K.moved hW.alike hK, hD⟩, hS.F ht⟩) hS.2.2 dX8_chains_44
  · have h := h.2 c2
    exact W.vret hx hb hr (fun t ht hW => ⟨⟨(S.1, T1), rfl, h, by rw [ht]; exact hP, va_K.moved hW.alike hK, hD⟩, hS.F ht⟩) hS.2.2 dX8_chains_16
/-! X8_wrongWith -/
abbrev rmX8_wrongWith : Room := { frames := 1, cells := 0, slots := 0, locals := 22 }
set_option maxHeartbeats 4000000 in
set_option maxRecDepth 100000 in
theorem c_X8_wrongWith (l : Launch) (D : va_G) (cI cZ : ClassId) (a : Nat → Nat) (b : Nat → Nat) (nw : Bool) (sz : Nat) (S : Ob × (Nat → Int32)) (Q : Int32 → (Ob × (Nat → Int32)) → Prop) (h : wp_X8_wrongWith nw S Q) (hb4 : nw = true → b 0 = a 4) : Met l yX8_wrongWith (wsm yX8_wrongWith cX8_wrongWith 3 (some .int)) rmX8_wrongWith (va_Pc [.ref (a 0), .ref (b 0)] (preW D cI cZ sz (wX8s cI cZ a b S))) (va_Qi Q (fun u => atW D cI cZ (va_A (wX8s cI cZ a b S) sz) (wX8s cI cZ a b u)) (va_A (wX8s cI cZ a b S) sz)) 0 0 (va_A (wX8s cI cZ a b S) sz) := by
  refine Met.ofW (cc := cX8_wrongWith) (maxL := 3) (ret := (some .int)) (by decide) rfl ?_
  intro p e s m args below meth c s₁ B hml hv
  obtain ⟨rfl, hsz, hP, hK, hD0⟩ := hv
  have hx := B.exec
  have hb := B.bytes
  have hr := B.returns
  have hts0 := atoms_spec (ws := wsm yX8_wrongWith cX8_wrongWith 3 (some .int)) B.pre
  have hts : ∀ w ∈ lw_all, w.before _ s = true := fun w h => hts0 w (List.mem_cons_of_mem _ h)
  have hown : s.vm.findClass RX8 = some m.cls := findClass_of_methodNamed B.named
  have hlocks := B.notSynchronized
  subst hsz
  have hD := hD0.self (sz := s.heap.size)
  generalize hAe : va_A (wX8s cI cZ a b S) s.heap.size = A at hD ⊢
  have hA : ∀ q : Nat, s.heap.size ≤ q → A q := fun q h => by rw [← hAe]; exact Or.inr h
  have hS : va_S A s.heap s.heap [] := va_S.rf
  have hml2 := hml
  have hl := lv_entry ([.ref (a 0), .ref (b 0)]) (n := 3) (Nat.le_of_ble_eq_true rfl)
  rw [lg_entry_eq]
  generalize (lg_sl ([.ref (a 0), .ref (b 0)]) ++ List.replicate (3 - (lg_sl ([.ref (a 0), .ref (b 0)])).length) Slot.unset).toArray = ls at hl ⊢
  have hl : lv_has ls 3 [(0, .ref (a 0)), (1, .ref (b 0))] := hl
  unfold wp_X8_wrongWith at h
  refine lv_aload_n hx hb dX8_wrongWith_0 rfl (lv_at hl 1 rfl) ?_
  refine lv_bipush (v := 15) hx hb dX8_wrongWith_1 (by decide) ?_
  refine ar_il (f := S.2) (n := 342) (j := 15) hx hb hK hP 11 rfl (by decide) (okLit (by decide)) dX8_wrongWith_3 ?_
  refine lv_bipush (v := 6) hx hb dX8_wrongWith_4 (by decide) ?_
  refine lv_icmp_ge (tgt := 12) hx hb dX8_wrongWith_6 (by decide) (fun c1 => ?_) (fun c1 => ?_)
  · have h := h.1 c1
    refine lv_aload_n hx hb dX8_wrongWith_12 rfl (lv_at hl 1 rfl) ?_
    refine lv_bipush (v := 56) hx hb dX8_wrongWith_13 (by decide) ?_
    refine lv_aload_n hx hb dX8_wrongWith_15 rfl (lv_at hl 1 rfl) ?_
    refine lv_bipush (v := 15) hx hb dX8_wrongWith_16 (by decide) ?_
    refine ar_il (f := S.2) (n := 342) (j := 15) hx hb hK hP 11 rfl (by decide) (okLit (by decide)) dX8_wrongWith_18 ?_
    refine lv_iadd hx hb dX8_wrongWith_19 ?_
    refine lv_iconst (v := 1) hx hb dX8_wrongWith_20 (by decide) ?_
    refine lv_isub hx hb dX8_wrongWith_21 ?_
    refine ar_il (f := S.2) (n := 342) (j := (Int32.toNatClampNeg ((56 + (S.2 15)) - 1))) hx hb hK hP 11 rfl rfl h.1 dX8_wrongWith_22 ?_
    have h := h.2
    refine lv_sipush (v := 23040) hx hb dX8_wrongWith_23 (by decide) ?_
    refine lv_isub hx hb dX8_wrongWith_26 ?_
    refine lv_topi (fun x2 ex2 => ?_)
    have h := h x2 ex2
    refine lv_istore_n (lv' := [(2, .int x2), (0, .ref (a 0)), (1, .ref (b 0))]) hx hb dX8_wrongWith_27 rfl hl (by decide) rfl (fun ls hl => ?_)
    refine lv_iload_n hx hb dX8_wrongWith_28 rfl (lv_at hl 0 rfl) ?_
    refine lv_iconst (v := 0) hx hb dX8_wrongWith_29 (by decide) ?_
    refine lv_bipush (v := 7) hx hb dX8_wrongWith_30 (by decide) ?_
    refine cl_i (ws' := fun u3 => (wX8s cI cZ a b S)) (va_runS (As := [.int x2, .int 0, .int 7]) (rest := []) ⟨hx, hb, hml, hown, hts⟩ (c_X8_within l D cI cZ _ () x2 0 7 _ h ) (va_cwS 3 hts (gS q_1161 q_1162 q_75 q_1163) rfl rfl rfl (by decide +kernel) ⟨Nat.le_of_ble_eq_true rfl, Nat.le_of_ble_eq_true rfl⟩) (preS_of hK hP hD [] rfl rfl (by decide)) rfl rfl hl.1 rfl (lv_room (Nat.le_of_ble_eq_true rfl)) dX8_wrongWith_32 ⟨Nat.zero_le _, Nat.zero_le _⟩) hP hD hS hA [] [.inr 0, .inr 1, .inr 2, .inr 3, .inr 4, .inr 5, .inr 6, .inr 7, .inr 8, .inr 9, .inr 10, .inr 11] rfl (by decide) (fun _ => rfl) (fun _ => rfl) (fun r4 u3 H locs h hP hD hS => ?_)
    refine lv_if_ne (tgt := 41) hx hb dX8_wrongWith_35 (by decide) (fun c5 => ?_) (fun c5 => ?_)
    · have h := h.1 c5
      refine lv_iload_n hx hb dX8_wrongWith_41 rfl (lv_at hl 0 rfl) ?_
      refine lv_iconst (v := 3) hx hb dX8_wrongWith_42 (by decide) ?_
      refine lv_icmp_le (tgt := 58) hx hb dX8_wrongWith_43 (by decide) (fun c6 => ?_) (fun c6 => ?_)
      · have h := h.1 c6
        refine lv_aload_n hx hb dX8_wrongWith_58 rfl (lv_at hl 2 rfl) ?_
        refine lv_bipush (v := 56) hx hb dX8_wrongWith_59 (by decide) ?_
        refine lv_aload_n hx hb dX8_wrongWith_61 rfl (lv_at hl 2 rfl) ?_
        refine lv_bipush (v := 15) hx hb dX8_wrongWith_62 (by decide) ?_
        refine ar_il (f := S.2) (n := 342) (j := 15) hx hb hK hP 11 rfl (by decide) (okLit (by decide)) dX8_wrongWith_64 ?_
        refine lv_iadd hx hb dX8_wrongWith_65 ?_
        refine lv_iconst (v := 2) hx hb dX8_wrongWith_66 (by decide) ?_
        refine lv_isub hx hb dX8_wrongWith_67 ?_
        refine ar_il (f := S.2) (n := 342) (j := (Int32.toNatClampNeg ((56 + (S.2 15)) - 2))) hx hb hK hP 11 rfl rfl h.1 dX8_wrongWith_68 ?_
        have h := h.2
        refine lv_iconst (v := 0) hx hb dX8_wrongWith_69 (by decide) ?_
        refine lv_sipush (v := 511) hx hb dX8_wrongWith_70 (by decide) ?_
        refine cl_i (ws' := fun u7 => (wX8s cI cZ a b S)) (va_runS (As := [.int (S.2 (Int32.toNatClampNeg ((56 + (S.2 15)) - 2))), .int 0, .int 511]) (rest := []) ⟨hx, hb, hml, hown, hts⟩ (c_X8_within l D cI cZ _ () (S.2 (Int32.toNatClampNeg ((56 + (S.2 15)) - 2))) 0 511 _ h ) (va_cwS 3 hts (gS q_1161 q_1162 q_75 q_1163) rfl rfl rfl (by decide +kernel) ⟨Nat.le_of_ble_eq_true rfl, Nat.le_of_ble_eq_true rfl⟩) (preS_of hK hP hD [] rfl rfl (by decide)) rfl rfl hl.1 rfl (lv_room (Nat.le_of_ble_eq_true rfl)) dX8_wrongWith_73 ⟨Nat.zero_le _, Nat.zero_le _⟩) hP hD hS hA [] [.inr 0, .inr 1, .inr 2, .inr 3, .inr 4, .inr 5, .inr 6, .inr 7, .inr 8, .inr 9, .inr 10, .inr 11] rfl (by decide) (fun _ => rfl) (fun _ => rfl) (fun r8 u7 H locs h hP hD hS => ?_)
        refine lv_if_eq (tgt := 83) hx hb dX8_wrongWith_76 (by decide) (fun c9 => ?_) (fun c9 => ?_)
        · have h := h.1 c9
          refine lv_bipush (v := 18) hx hb dX8_wrongWith_83 (by decide) ?_
          exact W.iret (v := 18) hx hb hr (fun t ht hW => ⟨⟨18, S, rfl, h, by rw [ht]; exact hP, va_K.moved hW.alike hK, hD⟩, hS.F ht⟩) hS.2.2 dX8_wrongWith_85
        · have h := h.2 c9
          refine lv_iconst (v := -1) hx hb dX8_wrongWith_79 (by decide) ?_
          refine lv_goto (tgt := 85) hx hb dX8_wrongWith_80 (by decide) ?_
          exact W.iret (v := (-1)) hx hb hr (fun t ht hW => ⟨⟨(-1), S, rfl, h, by rw [ht]; exact hP, va_K.moved hW.alike hK, hD⟩, hS.F ht⟩) hS.2.2 dX8_wrongWith_85
      · have h := h.2 c6
        refine lv_aload_n hx hb dX8_wrongWith_46 rfl (lv_at hl 2 rfl) ?_
        refine lv_bipush (v := 15) hx hb dX8_wrongWith_47 (by decide) ?_
        refine ar_il (f := S.2) (n := 342) (j := 15) hx hb hK hP 11 rfl (by decide) (okLit (by decide)) dX8_wrongWith_49 ?_
        refine lv_bipush (v := 10) hx hb dX8_wrongWith_50 (by decide) ?_
        refine lv_icmp_ge (tgt := 58) hx hb dX8_wrongWith_52 (by decide) (fun c10 => ?_) (fun c10 => ?_)
        · have h := h.1 c10
          refine lv_aload_n hx hb dX8_wrongWith_58 rfl (lv_at hl 2 rfl) ?_
          refine lv_bipush (v := 56) hx hb dX8_wrongWith_59 (by decide) ?_
          refine lv_aload_n hx hb dX8_wrongWith_61 rfl (lv_at hl 2 rfl) ?_
          refine lv_bipush (v := 15) hx hb dX8_wrongWith_62 (by decide) ?_
          refine ar_il (f := S.2) (n := 342) (j := 15) hx hb hK hP 11 rfl (by decide) (okLit (by decide)) dX8_wrongWith_64 ?_
          refine lv_iadd hx hb dX8_wrongWith_65 ?_
          refine lv_iconst (v := 2) hx hb dX8_wrongWith_66 (by decide) ?_
          refine lv_isub hx hb dX8_wrongWith_67 ?_
          refine ar_il (f := S.2) (n := 342) (j := (Int32.toNatClampNeg ((56 + (S.2 15)) - 2))) hx hb hK hP 11 rfl rfl h.1 dX8_wrongWith_68 ?_
          have h := h.2
          refine lv_iconst (v := 0) hx hb dX8_wrongWith_69 (by decide) ?_
          refine lv_sipush (v := 511) hx hb dX8_wrongWith_70 (by decide) ?_
          refine cl_i (ws' := fun u11 => (wX8s cI cZ a b S)) (va_runS (As := [.int (S.2 (Int32.toNatClampNeg ((56 + (S.2 15)) - 2))), .int 0, .int 511]) (rest := []) ⟨hx, hb, hml, hown, hts⟩ (c_X8_within l D cI cZ _ () (S.2 (Int32.toNatClampNeg ((56 + (S.2 15)) - 2))) 0 511 _ h ) (va_cwS 3 hts (gS q_1161 q_1162 q_75 q_1163) rfl rfl rfl (by decide +kernel) ⟨Nat.le_of_ble_eq_true rfl, Nat.le_of_ble_eq_true rfl⟩) (preS_of hK hP hD [] rfl rfl (by decide)) rfl rfl hl.1 rfl (lv_room (Nat.le_of_ble_eq_true rfl)) dX8_wrongWith_73 ⟨Nat.zero_le _, Nat.zero_le _⟩) hP hD hS hA [] [.inr 0, .inr 1, .inr 2, .inr 3, .inr 4, .inr 5, .inr 6, .inr 7, .inr 8, .inr 9, .inr 10, .inr 11] rfl (by decide) (fun _ => rfl) (fun _ => rfl) (fun r12 u11 H locs h hP hD hS => ?_)
          refine lv_if_eq (tgt := 83) hx hb dX8_wrongWith_76 (by decide) (fun c13 => ?_) (fun c13 => ?_)
          · have h := h.1 c13
            refine lv_bipush (v := 18) hx hb dX8_wrongWith_83 (by decide) ?_
            exact W.iret (v := 18) hx hb hr (fun t ht hW => ⟨⟨18, S, rfl, h, by rw [ht]; exact hP, va_K.moved hW.alike hK, hD⟩, hS.F ht⟩) hS.2.2 dX8_wrongWith_85
          · have h := h.2 c13
            refine lv_iconst (v := -1) hx hb dX8_wrongWith_79 (by decide) ?_
            refine lv_goto (tgt := 85) hx hb dX8_wrongWith_80 (by decide) ?_
            exact W.iret (v := (-1)) hx hb hr (fun t ht hW => ⟨⟨(-1), S, rfl, h, by rw [ht]; exact hP, va_K.moved hW.alike hK, hD⟩, hS.F ht⟩) hS.2.2 dX8_wrongWith_85
        · have h := h.2 c10
          refine lv_bipush (v := 19) hx hb dX8_wrongWith_55 (by decide) ?_
          exact W.iret (v := 19) hx hb hr (fun t ht hW => ⟨⟨19, S, rfl, h, by rw [ht]; exact hP, va_K.moved hW.alike hK, hD⟩, hS.F ht⟩) hS.2.2 dX8_wrongWith_57
    · have h := h.2 c5
      refine lv_bipush (v := 18) hx hb dX8_wrongWith_38 (by decide) ?_
      exact W.iret (v := 18) hx hb hr (fun t ht hW => ⟨⟨18, S, rfl, h, by rw [ht]; exact hP, va_K.moved hW.alike hK, hD⟩, hS.F ht⟩) hS.2.2 dX8_wrongWith_40
  · have h := h.2 c1
    refine lv_bipush (v := 19) hx hb dX8_wrongWith_9 (by decide) ?_
    exact W.iret (v := 19) hx hb hr (fun t ht hW => ⟨⟨19, S, rfl, h, by rw [ht]; exact hP, va_K.moved hW.alike hK, hD⟩, hS.F ht⟩) hS.2.2 dX8_wrongWith_11
/-! X8_returns -/
abbrev rmX8_returns : Room := { frames := 1, cells := 0, slots := 0, locals := 24 }
set_option maxHeartbeats 4000000 in
set_option maxRecDepth 100000 in
theorem c_X8_returns (l : Launch) (D : va_G) (cI cZ : ClassId) (a : Nat → Nat) (b : Nat → Nat) (nw : Bool) (sz : Nat) (S : Ob × (Nat → Int32)) (Q : (Ob × (Nat → Int32)) → Prop) (h : wp_X8_returns nw S Q) (hb4 : nw = true → b 0 = a 4) : Met l yX8_returns (wsm yX8_returns cX8_returns 5 none) rmX8_returns (va_Pc [.ref (a 0), .ref (b 0)] (preW D cI cZ sz (wX8s cI cZ a b S))) (va_Qv Q (fun u => atW D cI cZ (va_A (wX8s cI cZ a b S) sz) (wX8s cI cZ a b u)) (va_A (wX8s cI cZ a b S) sz)) 0 0 (va_A (wX8s cI cZ a b S) sz) := by
  refine Met.ofW (cc := cX8_returns) (maxL := 5) (ret := none) (by decide) rfl ?_
  intro p e s m args below meth c s₁ B hml hv
  obtain ⟨rfl, hsz, hP, hK, hD0⟩ := hv
  have hx := B.exec
  have hb := B.bytes
  have hr := B.returns
  have hts0 := atoms_spec (ws := wsm yX8_returns cX8_returns 5 none) B.pre
  have hts : ∀ w ∈ lw_all, w.before _ s = true := fun w h => hts0 w (List.mem_cons_of_mem _ h)
  have hown : s.vm.findClass RX8 = some m.cls := findClass_of_methodNamed B.named
  have hlocks := B.notSynchronized
  subst hsz
  have hD := hD0.self (sz := s.heap.size)
  generalize hAe : va_A (wX8s cI cZ a b S) s.heap.size = A at hD ⊢
  have hA : ∀ q : Nat, s.heap.size ≤ q → A q := fun q h => by rw [← hAe]; exact Or.inr h
  have hS : va_S A s.heap s.heap [] := va_S.rf
  have hml2 := hml
  have L113 : ∀ (n : Nat), ∀ (y2 : Int32) (y3 : Int32) (y4 : Int32) (T : Ob × (Nat → Int32)) (H : Heap) (locs : List Loc) (ls : Array Slot), va_P D vwCl (wX8s cI cZ a b T) H → va_D A (wX8s cI cZ a b T) → va_S A s.heap H locs → lv_has ls 5 [(0, .ref (a 0)), (1, .ref (b 0)), (2, .int y2), (3, .int y3), (4, .int y4)] → wp_X8_returns_L113 nw Q n y2 y3 y4 T → W p l e rmX8_returns s m ([.ref (a 0), .ref (b 0)] : List Value).toArray below meth c H locs 0 0 (MQ below (va_Qv Q (fun u => atW D cI cZ A (wX8s cI cZ a b u)) A) ([.ref (a 0), .ref (b 0)] : List Value).toArray s 0 0 A) (F0 m 113 ls []) := by
    intro n
    induction n with
    | zero =>
      intro y2 y3 y4 T H locs ls hP hD hS hl h
      exact False.elim h
    | succ n ih =>
      intro y2 y3 y4 T H locs ls hP hD hS hl h
      unfold wp_X8_returns_L113 at h
      refine lv_iload hx hb dX8_returns_113 (lv_at hl 4 rfl) ?_
      refine lv_iconst (v := 4) hx hb dX8_returns_115 (by decide) ?_
      refine lv_icmp_ge (tgt := 140) hx hb dX8_returns_116 (by decide) (fun c24 => ?_) (fun c24 => ?_)
      · have h := h.1 c24
        refine lv_aload_n hx hb dX8_returns_140 rfl (lv_at hl 1 rfl) ?_
        refine lv_bipush (v := 12) hx hb dX8_returns_141 (by decide) ?_
        refine lv_aload_n hx hb dX8_returns_143 rfl (lv_at hl 1 rfl) ?_
        refine lv_iload_n hx hb dX8_returns_144 rfl (lv_at hl 2 rfl) ?_
        refine lv_iconst (v := 2) hx hb dX8_returns_145 (by decide) ?_
        refine lv_isub hx hb dX8_returns_146 ?_
        refine ar_il (f := T.2) (n := 342) (j := (Int32.toNatClampNeg (y2 - 2))) hx hb hK hP 11 rfl rfl h.1 dX8_returns_147 ?_
        have h := h.2
        obtain ⟨T25, eT25⟩ : ∃ z : (Nat → Int32), z = (upd T.2 12 (T.2 (Int32.toNatClampNeg (y2 - 2)))) := ⟨_, rfl⟩
        refine ar_is (f := T.2) (n := 342) (j := 12) (x := (T.2 (Int32.toNatClampNeg (y2 - 2)))) hx hb hK hP hD hS 11 rfl (by decide) (okLit (by decide)) dX8_returns_148 (wX8s cI cZ a b (T.1, T25)) (by subst eT25; rfl) (fun H locs hP hD hS => ?_)
        have h := h T25 eT25
        refine lv_aload_n hx hb dX8_returns_149 rfl (lv_at hl 1 rfl) ?_
        refine lv_bipush (v := 13) hx hb dX8_returns_150 (by decide) ?_
        refine lv_iload_n hx hb dX8_returns_152 rfl (lv_at hl 3 rfl) ?_
        refine lv_iconst (v := 1) hx hb dX8_returns_153 (by decide) ?_
        refine lv_iand hx hb dX8_returns_154 ?_
        obtain ⟨T26, eT26⟩ : ∃ z : (Nat → Int32), z = (upd T25 13 (y3 &&& 1)) := ⟨_, rfl⟩
        refine ar_is (f := T25) (n := 342) (j := 13) (x := (y3 &&& 1)) hx hb hK hP hD hS 11 rfl (by decide) (okLit (by decide)) dX8_returns_155 (wX8s cI cZ a b (T.1, T26)) (by subst eT26; rfl) (fun H locs hP hD hS => ?_)
        have h := h T26 eT26
        refine lv_aload_n hx hb dX8_returns_156 rfl (lv_at hl 1 rfl) ?_
        refine lv_bipush (v := 14) hx hb dX8_returns_157 (by decide) ?_
        refine lv_iload_n hx hb dX8_returns_159 rfl (lv_at hl 3 rfl) ?_
        refine lv_iconst (v := 1) hx hb dX8_returns_160 (by decide) ?_
        refine lv_ishr hx hb dX8_returns_161 ?_
        refine lv_iconst (v := 1) hx hb dX8_returns_162 (by decide) ?_
        refine lv_iand hx hb dX8_returns_163 ?_
        obtain ⟨T27, eT27⟩ : ∃ z : (Nat → Int32), z = (upd T26 14 ((y3 >>> (1 &&& 31)) &&& 1)) := ⟨_, rfl⟩
        refine ar_is (f := T26) (n := 342) (j := 14) (x := ((y3 >>> (1 &&& 31)) &&& 1)) hx hb hK hP hD hS 11 rfl (by decide) (okLit (by decide)) dX8_returns_164 (wX8s cI cZ a b (T.1, T27)) (by subst eT27; rfl) (fun H locs hP hD hS => ?_)
        have h := h T27 eT27
        refine lv_aload_n hx hb dX8_returns_165 rfl (lv_at hl 1 rfl) ?_
        refine lv_bipush (v := 15) hx hb dX8_returns_166 (by decide) ?_
        refine lv_dup2_11 hx hb dX8_returns_168 rfl rfl ?_
        refine ar_il (f := T27) (n := 342) (j := 15) hx hb hK hP 11 rfl (by decide) (okLit (by decide)) dX8_returns_169 ?_
        refine lv_iload_n hx hb dX8_returns_170 rfl (lv_at hl 3 rfl) ?_
        refine lv_iconst (v := 3) hx hb dX8_returns_171 (by decide) ?_
        refine lv_icmp_le (tgt := 180) hx hb dX8_returns_172 (by decide) (fun c28 => ?_) (fun c28 => ?_)
        · have h := h.1 c28
          refine lv_bipush (v := 6) hx hb dX8_returns_180 (by decide) ?_
          refine lv_isub hx hb dX8_returns_182 ?_
          obtain ⟨T29, eT29⟩ : ∃ z : (Nat → Int32), z = (upd T27 15 ((T27 15) - 6)) := ⟨_, rfl⟩
          refine ar_is (f := T27) (n := 342) (j := 15) (x := ((T27 15) - 6)) hx hb hK hP hD hS 11 rfl (by decide) (okLit (by decide)) dX8_returns_183 (wX8s cI cZ a b (T.1, T29)) (by subst eT29; rfl) (fun H locs hP hD hS => ?_)
          have h := h T29 eT29
          refine lv_aload_n hx hb dX8_returns_184 rfl (lv_at hl 0 rfl) ?_
          refine lv_aload_n hx hb dX8_returns_185 rfl (lv_at hl 1 rfl) ?_
          refine lv_iconst (v := 0) hx hb dX8_returns_186 (by decide) ?_
          refine lv_iconst (v := 0) hx hb dX8_returns_187 (by decide) ?_
          refine cl_v (ws' := fun u30 => (wX8s cI cZ a b u30)) (va_runV (As := [.ref (b 0), .int 0, .int 0]) (rest := []) ⟨hx, hb, hml, hown, hts⟩ (c_X8_turns l D cI cZ a b nw _ (T.1, T29) 0 0 _ h hb4) (cwV 3 hts (gV q_1250 q_1252 q_38 q_75 q_1253) rfl rfl rfl (by decide +kernel) ⟨Nat.le_of_ble_eq_true rfl, Nat.le_of_ble_eq_true rfl⟩) (preV_of (ci := 7) (q := (RX8, TX8, 25)) hK hP hD [0, 1, 2, 3, 4, 5, 6, 7, 8, 9, 10, 11] rfl rfl (by decide) 0 rfl rfl) rfl rfl hl.1 rfl (lv_room (Nat.le_of_ble_eq_true rfl)) dX8_returns_188 ⟨Nat.zero_le _, Nat.zero_le _⟩) hP hD hS hA [0, 1, 2, 3, 4, 5, 6, 7, 8, 9, 10, 11] [.inl 0, .inl 1, .inl 2, .inl 3, .inl 4, .inl 5, .inl 6, .inl 7, .inl 8, .inl 9, .inl 10, .inl 11] rfl (by decide) (fun _ => rfl) (fun _ => rfl) (fun u30 H locs h hP hD hS => ?_)
          refine lv_aload_n hx hb dX8_returns_191 rfl (lv_at hl 0 rfl) ?_
          refine lv_iconst (v := 5) hx hb dX8_returns_192 (by decide) ?_
          refine lv_aload_n hx hb dX8_returns_193 rfl (lv_at hl 1 rfl) ?_
          refine lv_bipush (v := 30) hx hb dX8_returns_194 (by decide) ?_
          refine ar_il (f := u30.2) (n := 342) (j := 30) hx hb hK hP 11 rfl (by decide) (okLit (by decide)) dX8_returns_196 ?_
          refine lv_if_ne (tgt := 204) hx hb dX8_returns_197 (by decide) (fun c31 => ?_) (fun c31 => ?_)
          · have h := h.1 c31
            refine lv_aload_n hx hb dX8_returns_204 rfl (lv_at hl 1 rfl) ?_
            refine lv_sipush (v := 152) hx hb dX8_returns_205 (by decide) ?_
            refine lv_aload_n hx hb dX8_returns_208 rfl (lv_at hl 1 rfl) ?_
            refine lv_bipush (v := 30) hx hb dX8_returns_209 (by decide) ?_
            refine ar_il (f := u30.2) (n := 342) (j := 30) hx hb hK hP 11 rfl (by decide) (okLit (by decide)) dX8_returns_211 ?_
            refine lv_iadd hx hb dX8_returns_212 ?_
            refine lv_iconst (v := 1) hx hb dX8_returns_213 (by decide) ?_
            refine lv_isub hx hb dX8_returns_214 ?_
            refine ar_il (f := u30.2) (n := 342) (j := (Int32.toNatClampNeg ((152 + (u30.2 30)) - 1))) hx hb hK hP 11 rfl rfl h.1 dX8_returns_215 ?_
            have h := h.2
            refine lv_aload_n hx hb dX8_returns_216 rfl (lv_at hl 1 rfl) ?_
            refine lv_bipush (v := 15) hx hb dX8_returns_217 (by decide) ?_
            refine ar_il (f := u30.2) (n := 342) (j := 15) hx hb hK hP 11 rfl (by decide) (okLit (by decide)) dX8_returns_219 ?_
            refine cl_v (ws' := fun u32 => (wX8s cI cZ a b u32)) (va_runV (As := [.int 5, .int (u30.2 (Int32.toNatClampNeg ((152 + (u30.2 30)) - 1))), .int (u30.2 15)]) (rest := []) ⟨hx, hb, hml, hown, hts⟩ (c_X8_notes l D cI cZ a b nw _ u30 5 (u30.2 (Int32.toNatClampNeg ((152 + (u30.2 30)) - 1))) (u30.2 15) _ h hb4) (cwV 3 hts (gV q_1274 q_1276 q_44 q_75 q_1277) rfl rfl rfl (by decide +kernel) ⟨Nat.le_of_ble_eq_true rfl, Nat.le_of_ble_eq_true rfl⟩) (preV_of (ci := 7) (q := (RX8, TX8, 25)) hK hP hD [0, 1, 2, 3, 4, 5, 6, 7, 8, 9, 10, 11] rfl rfl (by decide) 0 rfl rfl) rfl rfl hl.1 rfl (lv_room (Nat.le_of_ble_eq_true rfl)) dX8_returns_220 ⟨Nat.zero_le _, Nat.zero_le _⟩) hP hD hS hA [0, 1, 2, 3, 4, 5, 6, 7, 8, 9, 10, 11] [.inl 0, .inl 1, .inl 2, .inl 3, .inl 4, .inl 5, .inl 6, .inl 7, .inl 8, .inl 9, .inl 10, .inl 11] rfl (by decide) (fun _ => rfl) (fun _ => rfl) (fun u32 H locs h hP hD hS => ?_)
            exact W.vret hx hb hr (fun t ht hW => ⟨⟨u32, rfl, h, by rw [ht]; exact hP, va_K.moved hW.alike hK, hD⟩, hS.F ht⟩) hS.2.2 dX8_returns_223
          · have h := h.2 c31
            refine lv_iconst (v := -1) hx hb dX8_returns_200 (by decide) ?_
            refine lv_goto (tgt := 216) hx hb dX8_returns_201 (by decide) ?_
            refine lv_aload_n hx hb dX8_returns_216 rfl (lv_at hl 1 rfl) ?_
            refine lv_bipush (v := 15) hx hb dX8_returns_217 (by decide) ?_
            refine ar_il (f := u30.2) (n := 342) (j := 15) hx hb hK hP 11 rfl (by decide) (okLit (by decide)) dX8_returns_219 ?_
            refine cl_v (ws' := fun u33 => (wX8s cI cZ a b u33)) (va_runV (As := [.int 5, .int (-1), .int (u30.2 15)]) (rest := []) ⟨hx, hb, hml, hown, hts⟩ (c_X8_notes l D cI cZ a b nw _ u30 5 (-1) (u30.2 15) _ h hb4) (cwV 3 hts (gV q_1274 q_1276 q_44 q_75 q_1277) rfl rfl rfl (by decide +kernel) ⟨Nat.le_of_ble_eq_true rfl, Nat.le_of_ble_eq_true rfl⟩) (preV_of (ci := 7) (q := (RX8, TX8, 25)) hK hP hD [0, 1, 2, 3, 4, 5, 6, 7, 8, 9, 10, 11] rfl rfl (by decide) 0 rfl rfl) rfl rfl hl.1 rfl (lv_room (Nat.le_of_ble_eq_true rfl)) dX8_returns_220 ⟨Nat.zero_le _, Nat.zero_le _⟩) hP hD hS hA [0, 1, 2, 3, 4, 5, 6, 7, 8, 9, 10, 11] [.inl 0, .inl 1, .inl 2, .inl 3, .inl 4, .inl 5, .inl 6, .inl 7, .inl 8, .inl 9, .inl 10, .inl 11] rfl (by decide) (fun _ => rfl) (fun _ => rfl) (fun u33 H locs h hP hD hS => ?_)
            exact W.vret hx hb hr (fun t ht hW => ⟨⟨u33, rfl, h, by rw [ht]; exact hP, va_K.moved hW.alike hK, hD⟩, hS.F ht⟩) hS.2.2 dX8_returns_223
        · have h := h.2 c28
          refine lv_bipush (v := 10) hx hb dX8_returns_175 (by decide) ?_
          refine lv_goto (tgt := 182) hx hb dX8_returns_177 (by decide) ?_
          refine lv_isub hx hb dX8_returns_182 ?_
          obtain ⟨T34, eT34⟩ : ∃ z : (Nat → Int32), z = (upd T27 15 ((T27 15) - 10)) := ⟨_, rfl⟩
          refine ar_is (f := T27) (n := 342) (j := 15) (x := ((T27 15) - 10)) hx hb hK hP hD hS 11 rfl (by decide) (okLit (by decide)) dX8_returns_183 (wX8s cI cZ a b (T.1, T34)) (by subst eT34; rfl) (fun H locs hP hD hS => ?_)
          have h := h T34 eT34
          refine lv_aload_n hx hb dX8_returns_184 rfl (lv_at hl 0 rfl) ?_
          refine lv_aload_n hx hb dX8_returns_185 rfl (lv_at hl 1 rfl) ?_
          refine lv_iconst (v := 0) hx hb dX8_returns_186 (by decide) ?_
          refine lv_iconst (v := 0) hx hb dX8_returns_187 (by decide) ?_
          refine cl_v (ws' := fun u35 => (wX8s cI cZ a b u35)) (va_runV (As := [.ref (b 0), .int 0, .int 0]) (rest := []) ⟨hx, hb, hml, hown, hts⟩ (c_X8_turns l D cI cZ a b nw _ (T.1, T34) 0 0 _ h hb4) (cwV 3 hts (gV q_1250 q_1252 q_38 q_75 q_1253) rfl rfl rfl (by decide +kernel) ⟨Nat.le_of_ble_eq_true rfl, Nat.le_of_ble_eq_true rfl⟩) (preV_of (ci := 7) (q := (RX8, TX8, 25)) hK hP hD [0, 1, 2, 3, 4, 5, 6, 7, 8, 9, 10, 11] rfl rfl (by decide) 0 rfl rfl) rfl rfl hl.1 rfl (lv_room (Nat.le_of_ble_eq_true rfl)) dX8_returns_188 ⟨Nat.zero_le _, Nat.zero_le _⟩) hP hD hS hA [0, 1, 2, 3, 4, 5, 6, 7, 8, 9, 10, 11] [.inl 0, .inl 1, .inl 2, .inl 3, .inl 4, .inl 5, .inl 6, .inl 7, .inl 8, .inl 9, .inl 10, .inl 11] rfl (by decide) (fun _ => rfl) (fun _ => rfl) (fun u35 H locs h hP hD hS => ?_)
          refine lv_aload_n hx hb dX8_returns_191 rfl (lv_at hl 0 rfl) ?_
          refine lv_iconst (v := 5) hx hb dX8_returns_192 (by decide) ?_
          refine lv_aload_n hx hb dX8_returns_193 rfl (lv_at hl 1 rfl) ?_
          refine lv_bipush (v := 30) hx hb dX8_returns_194 (by decide) ?_
          refine ar_il (f := u35.2) (n := 342) (j := 30) hx hb hK hP 11 rfl (by decide) (okLit (by decide)) dX8_returns_196 ?_
          refine lv_if_ne (tgt := 204) hx hb dX8_returns_197 (by decide) (fun c36 => ?_) (fun c36 => ?_)
          · have h := h.1 c36
            refine lv_aload_n hx hb dX8_returns_204 rfl (lv_at hl 1 rfl) ?_
            refine lv_sipush (v := 152) hx hb dX8_returns_205 (by decide) ?_
            refine lv_aload_n hx hb dX8_returns_208 rfl (lv_at hl 1 rfl) ?_
            refine lv_bipush (v := 30) hx hb dX8_returns_209 (by decide) ?_
            refine ar_il (f := u35.2) (n := 342) (j := 30) hx hb hK hP 11 rfl (by decide) (okLit (by decide)) dX8_returns_211 ?_
            refine lv_iadd hx hb dX8_returns_212 ?_
            refine lv_iconst (v := 1) hx hb dX8_returns_213 (by decide) ?_
            refine lv_isub hx hb dX8_returns_214 ?_
            refine ar_il (f := u35.2) (n := 342) (j := (Int32.toNatClampNeg ((152 + (u35.2 30)) - 1))) hx hb hK hP 11 rfl rfl h.1 dX8_returns_215 ?_
            have h := h.2
            refine lv_aload_n hx hb dX8_returns_216 rfl (lv_at hl 1 rfl) ?_
            refine lv_bipush (v := 15) hx hb dX8_returns_217 (by decide) ?_
            refine ar_il (f := u35.2) (n := 342) (j := 15) hx hb hK hP 11 rfl (by decide) (okLit (by decide)) dX8_returns_219 ?_
            refine cl_v (ws' := fun u37 => (wX8s cI cZ a b u37)) (va_runV (As := [.int 5, .int (u35.2 (Int32.toNatClampNeg ((152 + (u35.2 30)) - 1))), .int (u35.2 15)]) (rest := []) ⟨hx, hb, hml, hown, hts⟩ (c_X8_notes l D cI cZ a b nw _ u35 5 (u35.2 (Int32.toNatClampNeg ((152 + (u35.2 30)) - 1))) (u35.2 15) _ h hb4) (cwV 3 hts (gV q_1274 q_1276 q_44 q_75 q_1277) rfl rfl rfl (by decide +kernel) ⟨Nat.le_of_ble_eq_true rfl, Nat.le_of_ble_eq_true rfl⟩) (preV_of (ci := 7) (q := (RX8, TX8, 25)) hK hP hD [0, 1, 2, 3, 4, 5, 6, 7, 8, 9, 10, 11] rfl rfl (by decide) 0 rfl rfl) rfl rfl hl.1 rfl (lv_room (Nat.le_of_ble_eq_true rfl)) dX8_returns_220 ⟨Nat.zero_le _, Nat.zero_le _⟩) hP hD hS hA [0, 1, 2, 3, 4, 5, 6, 7, 8, 9, 10, 11] [.inl 0, .inl 1, .inl 2, .inl 3, .inl 4, .inl 5, .inl 6, .inl 7, .inl 8, .inl 9, .inl 10, .inl 11] rfl (by decide) (fun _ => rfl) (fun _ => rfl) (fun u37 H locs h hP hD hS => ?_)
            exact W.vret hx hb hr (fun t ht hW => ⟨⟨u37, rfl, h, by rw [ht]; exact hP, va_K.moved hW.alike hK, hD⟩, hS.F ht⟩) hS.2.2 dX8_returns_223
          · have h := h.2 c36
            refine lv_iconst (v := -1) hx hb dX8_returns_200 (by decide) ?_
            refine lv_goto (tgt := 216) hx hb dX8_returns_201 (by decide) ?_
            refine lv_aload_n hx hb dX8_returns_216 rfl (lv_at hl 1 rfl) ?_
            refine lv_bipush (v := 15) hx hb dX8_returns_217 (by decide) ?_
            refine ar_il (f := u35.2) (n := 342) (j := 15) hx hb hK hP 11 rfl (by decide) (okLit (by decide)) dX8_returns_219 ?_
            refine cl_v (ws' := fun u38 => (wX8s cI cZ a b u38)) (va_runV (As := [.int 5, .int (-1), .int (u35.2 15)]) (rest := []) ⟨hx, hb, hml, hown, hts⟩ (c_X8_notes l D cI cZ a b nw _ u35 5 (-1) (u35.2 15) _ h hb4) (cwV 3 hts (gV q_1274 q_1276 q_44 q_75 q_1277) rfl rfl rfl (by decide +kernel) ⟨Nat.le_of_ble_eq_true rfl, Nat.le_of_ble_eq_true rfl⟩) (preV_of (ci := 7) (q := (RX8, TX8, 25)) hK hP hD [0, 1, 2, 3, 4, 5, 6, 7, 8, 9, 10, 11] rfl rfl (by decide) 0 rfl rfl) rfl rfl hl.1 rfl (lv_room (Nat.le_of_ble_eq_true rfl)) dX8_returns_220 ⟨Nat.zero_le _, Nat.zero_le _⟩) hP hD hS hA [0, 1, 2, 3, 4, 5, 6, 7, 8, 9, 10, 11] [.inl 0, .inl 1, .inl 2, .inl 3, .inl 4, .inl 5, .inl 6, .inl 7, .inl 8, .inl 9, .inl 10, .inl 11] rfl (by decide) (fun _ => rfl) (fun _ => rfl) (fun u38 H locs h hP hD hS => ?_)
            exact W.vret hx hb hr (fun t ht hW => ⟨⟨u38, rfl, h, by rw [ht]; exact hP, va_K.moved hW.alike hK, hD⟩, hS.F ht⟩) hS.2.2 dX8_returns_223
      · have h := h.2 c24
        refine lv_aload_n hx hb dX8_returns_119 rfl (lv_at hl 1 rfl) ?_
        refine lv_iconst (v := 0) hx hb dX8_returns_120 (by decide) ?_
        refine lv_iload hx hb dX8_returns_121 (lv_at hl 4 rfl) ?_
        refine lv_iadd hx hb dX8_returns_123 ?_
        refine lv_aload_n hx hb dX8_returns_124 rfl (lv_at hl 1 rfl) ?_
        refine lv_iload_n hx hb dX8_returns_125 rfl (lv_at hl 2 rfl) ?_
        refine lv_bipush (v := 6) hx hb dX8_returns_126 (by decide) ?_
        refine lv_isub hx hb dX8_returns_128 ?_
        refine lv_iload hx hb dX8_returns_129 (lv_at hl 4 rfl) ?_
        refine lv_iadd hx hb dX8_returns_131 ?_
        refine ar_il (f := T.2) (n := 342) (j := (Int32.toNatClampNeg ((y2 - 6) + y4))) hx hb hK hP 11 rfl rfl h.1 dX8_returns_132 ?_
        have h := h.2
        obtain ⟨T39, eT39⟩ : ∃ z : (Nat → Int32), z = (upd T.2 (Int32.toNatClampNeg (0 + y4)) (T.2 (Int32.toNatClampNeg ((y2 - 6) + y4)))) := ⟨_, rfl⟩
        refine ar_is (f := T.2) (n := 342) (j := (Int32.toNatClampNeg (0 + y4))) (x := (T.2 (Int32.toNatClampNeg ((y2 - 6) + y4)))) hx hb hK hP hD hS 11 rfl rfl h.1 dX8_returns_133 (wX8s cI cZ a b (T.1, T39)) (by subst eT39; rfl) (fun H locs hP hD hS => ?_)
        have h := h.2
        have h := h T39 eT39
        obtain ⟨x40, ex40⟩ : ∃ y : Int32, y = (y4 + 1) := ⟨_, rfl⟩
        have h := h x40 ex40
        refine lv_iinc (v := x40) (lv' := [(4, .int x40), (0, .ref (a 0)), (1, .ref (b 0)), (2, .int y2), (3, .int y3)]) hx hb dX8_returns_134 hl (k := 4) rfl (by rw [ex40]; rfl) (by decide) rfl (fun ls hl => ?_)
        refine lv_goto (tgt := 113) hx hb dX8_returns_137 (by decide) ?_
        exact ih y2 y3 x40 (T.1, T39) _ _ _ hP hD hS (lv_sub hl [1, 2, 3, 4, 0] rfl) h
  have L30 : ∀ (n : Nat), ∀ (y2 : Int32) (y3 : Int32) (y4 : Int32) (T : Ob × (Nat → Int32)) (H : Heap) (locs : List Loc) (ls : Array Slot), va_P D vwCl (wX8s cI cZ a b T) H → va_D A (wX8s cI cZ a b T) → va_S A s.heap H locs → lv_has ls 5 [(0, .ref (a 0)), (1, .ref (b 0)), (2, .int y2), (3, .int y3), (4, .int y4)] → wp_X8_returns_L30 nw Q n y2 y3 y4 T → W p l e rmX8_returns s m ([.ref (a 0), .ref (b 0)] : List Value).toArray below meth c H locs 0 0 (MQ below (va_Qv Q (fun u => atW D cI cZ A (wX8s cI cZ a b u)) A) ([.ref (a 0), .ref (b 0)] : List Value).toArray s 0 0 A) (F0 m 30 ls []) := by
    intro n
    induction n with
    | zero =>
      intro y2 y3 y4 T H locs ls hP hD hS hl h
      exact False.elim h
    | succ n ih =>
      intro y2 y3 y4 T H locs ls hP hD hS hl h
      unfold wp_X8_returns_L30 at h
      refine lv_iload hx hb dX8_returns_30 (lv_at hl 4 rfl) ?_
      refine lv_iconst (v := 4) hx hb dX8_returns_32 (by decide) ?_
      refine lv_icmp_ge (tgt := 77) hx hb dX8_returns_33 (by decide) (fun c13 => ?_) (fun c13 => ?_)
      · have h := h.1 c13
        refine lv_goto (tgt := 96) hx hb dX8_returns_77 (by decide) ?_
        refine lv_aload_n hx hb dX8_returns_96 rfl (lv_at hl 1 rfl) ?_
        refine lv_bipush (v := 18) hx hb dX8_returns_97 (by decide) ?_
        refine lv_iload_n hx hb dX8_returns_99 rfl (lv_at hl 3 rfl) ?_
        refine lv_iconst (v := 3) hx hb dX8_returns_100 (by decide) ?_
        refine lv_icmp_le (tgt := 108) hx hb dX8_returns_101 (by decide) (fun c14 => ?_) (fun c14 => ?_)
        · have h := h.1 c14
          refine lv_iconst (v := 0) hx hb dX8_returns_108 (by decide) ?_
          obtain ⟨T15, eT15⟩ : ∃ z : (Nat → Int32), z = (upd T.2 18 0) := ⟨_, rfl⟩
          refine ar_is (f := T.2) (n := 342) (j := 18) (x := 0) hx hb hK hP hD hS 11 rfl (by decide) (okLit (by decide)) dX8_returns_109 (wX8s cI cZ a b (T.1, T15)) (by subst eT15; rfl) (fun H locs hP hD hS => ?_)
          have h := h T15 eT15
          refine lv_iconst (v := 0) hx hb dX8_returns_110 (by decide) ?_
          refine lv_istore (lv' := [(4, .int 0), (0, .ref (a 0)), (1, .ref (b 0)), (2, .int y2), (3, .int y3)]) hx hb dX8_returns_111 hl (by decide) rfl (fun ls hl => ?_)
          exact L113 2000 y2 y3 0 (T.1, T15) _ _ _ hP hD hS (lv_sub hl [1, 2, 3, 4, 0] rfl) h
        · have h := h.2 c14
          refine lv_iconst (v := 1) hx hb dX8_returns_104 (by decide) ?_
          refine lv_goto (tgt := 109) hx hb dX8_returns_105 (by decide) ?_
          obtain ⟨T16, eT16⟩ : ∃ z : (Nat → Int32), z = (upd T.2 18 1) := ⟨_, rfl⟩
          refine ar_is (f := T.2) (n := 342) (j := 18) (x := 1) hx hb hK hP hD hS 11 rfl (by decide) (okLit (by decide)) dX8_returns_109 (wX8s cI cZ a b (T.1, T16)) (by subst eT16; rfl) (fun H locs hP hD hS => ?_)
          have h := h T16 eT16
          refine lv_iconst (v := 0) hx hb dX8_returns_110 (by decide) ?_
          refine lv_istore (lv' := [(4, .int 0), (0, .ref (a 0)), (1, .ref (b 0)), (2, .int y2), (3, .int y3)]) hx hb dX8_returns_111 hl (by decide) rfl (fun ls hl => ?_)
          exact L113 2000 y2 y3 0 (T.1, T16) _ _ _ hP hD hS (lv_sub hl [1, 2, 3, 4, 0] rfl) h
      · have h := h.2 c13
        refine lv_aload_n hx hb dX8_returns_36 rfl (lv_at hl 1 rfl) ?_
        refine lv_bipush (v := 8) hx hb dX8_returns_37 (by decide) ?_
        refine lv_iload hx hb dX8_returns_39 (lv_at hl 4 rfl) ?_
        refine lv_iadd hx hb dX8_returns_41 ?_
        refine lv_aload_n hx hb dX8_returns_42 rfl (lv_at hl 1 rfl) ?_
        refine lv_iload_n hx hb dX8_returns_43 rfl (lv_at hl 2 rfl) ?_
        refine lv_bipush (v := 10) hx hb dX8_returns_44 (by decide) ?_
        refine lv_isub hx hb dX8_returns_46 ?_
        refine lv_iload hx hb dX8_returns_47 (lv_at hl 4 rfl) ?_
        refine lv_iadd hx hb dX8_returns_49 ?_
        refine ar_il (f := T.2) (n := 342) (j := (Int32.toNatClampNeg ((y2 - 10) + y4))) hx hb hK hP 11 rfl rfl h.1 dX8_returns_50 ?_
        have h := h.2
        refine cl_i (ws' := fun u17 => (wX8s cI cZ a b T)) (va_runS (As := [.int (T.2 (Int32.toNatClampNeg ((y2 - 10) + y4)))]) (rest := [.int (8 + y4), .ref (b 0)]) ⟨hx, hb, hml, hown, hts⟩ (c_X8_isFinite l D cI cZ _ () (T.2 (Int32.toNatClampNeg ((y2 - 10) + y4))) _ h ) (va_cwS 1 hts (gS q_1320 q_1321 q_75 q_1322) rfl rfl rfl (by decide +kernel) ⟨Nat.le_of_ble_eq_true rfl, Nat.le_of_ble_eq_true rfl⟩) (preS_of hK hP hD [] rfl rfl (by decide)) rfl rfl hl.1 rfl (lv_room (Nat.le_of_ble_eq_true rfl)) dX8_returns_51 ⟨Nat.zero_le _, Nat.zero_le _⟩) hP hD hS hA [] [.inr 0, .inr 1, .inr 2, .inr 3, .inr 4, .inr 5, .inr 6, .inr 7, .inr 8, .inr 9, .inr 10, .inr 11] rfl (by decide) (fun _ => rfl) (fun _ => rfl) (fun r18 u17 H locs h hP hD hS => ?_)
        refine lv_if_eq (tgt := 69) hx hb dX8_returns_54 (by decide) (fun c19 => ?_) (fun c19 => ?_)
        · have h := h.1 c19
          refine lv_iconst (v := 0) hx hb dX8_returns_69 (by decide) ?_
          obtain ⟨T20, eT20⟩ : ∃ z : (Nat → Int32), z = (upd T.2 (Int32.toNatClampNeg (8 + y4)) 0) := ⟨_, rfl⟩
          refine ar_is (f := T.2) (n := 342) (j := (Int32.toNatClampNeg (8 + y4))) (x := 0) hx hb hK hP hD hS 11 rfl rfl h.1 dX8_returns_70 (wX8s cI cZ a b (T.1, T20)) (by subst eT20; rfl) (fun H locs hP hD hS => ?_)
          have h := h.2
          have h := h T20 eT20
          obtain ⟨x21, ex21⟩ : ∃ y : Int32, y = (y4 + 1) := ⟨_, rfl⟩
          have h := h x21 ex21
          refine lv_iinc (v := x21) (lv' := [(4, .int x21), (0, .ref (a 0)), (1, .ref (b 0)), (2, .int y2), (3, .int y3)]) hx hb dX8_returns_71 hl (k := 4) rfl (by rw [ex21]; rfl) (by decide) rfl (fun ls hl => ?_)
          refine lv_goto (tgt := 30) hx hb dX8_returns_74 (by decide) ?_
          exact ih y2 y3 x21 (T.1, T20) _ _ _ hP hD hS (lv_sub hl [1, 2, 3, 4, 0] rfl) h
        · have h := h.2 c19
          refine lv_aload_n hx hb dX8_returns_57 rfl (lv_at hl 1 rfl) ?_
          refine lv_iload_n hx hb dX8_returns_58 rfl (lv_at hl 2 rfl) ?_
          refine lv_bipush (v := 10) hx hb dX8_returns_59 (by decide) ?_
          refine lv_isub hx hb dX8_returns_61 ?_
          refine lv_iload hx hb dX8_returns_62 (lv_at hl 4 rfl) ?_
          refine lv_iadd hx hb dX8_returns_64 ?_
          refine ar_il (f := T.2) (n := 342) (j := (Int32.toNatClampNeg ((y2 - 10) + y4))) hx hb hK hP 11 rfl rfl h.1 dX8_returns_65 ?_
          have h := h.2
          refine lv_goto (tgt := 70) hx hb dX8_returns_66 (by decide) ?_
          obtain ⟨T22, eT22⟩ : ∃ z : (Nat → Int32), z = (upd T.2 (Int32.toNatClampNeg (8 + y4)) (T.2 (Int32.toNatClampNeg ((y2 - 10) + y4)))) := ⟨_, rfl⟩
          refine ar_is (f := T.2) (n := 342) (j := (Int32.toNatClampNeg (8 + y4))) (x := (T.2 (Int32.toNatClampNeg ((y2 - 10) + y4)))) hx hb hK hP hD hS 11 rfl rfl h.1 dX8_returns_70 (wX8s cI cZ a b (T.1, T22)) (by subst eT22; rfl) (fun H locs hP hD hS => ?_)
          have h := h.2
          have h := h T22 eT22
          obtain ⟨x23, ex23⟩ : ∃ y : Int32, y = (y4 + 1) := ⟨_, rfl⟩
          have h := h x23 ex23
          refine lv_iinc (v := x23) (lv' := [(4, .int x23), (0, .ref (a 0)), (1, .ref (b 0)), (2, .int y2), (3, .int y3)]) hx hb dX8_returns_71 hl (k := 4) rfl (by rw [ex23]; rfl) (by decide) rfl (fun ls hl => ?_)
          refine lv_goto (tgt := 30) hx hb dX8_returns_74 (by decide) ?_
          exact ih y2 y3 x23 (T.1, T22) _ _ _ hP hD hS (lv_sub hl [1, 2, 3, 4, 0] rfl) h
  have hl := lv_entry ([.ref (a 0), .ref (b 0)]) (n := 5) (Nat.le_of_ble_eq_true rfl)
  rw [lg_entry_eq]
  generalize (lg_sl ([.ref (a 0), .ref (b 0)]) ++ List.replicate (5 - (lg_sl ([.ref (a 0), .ref (b 0)])).length) Slot.unset).toArray = ls at hl ⊢
  have hl : lv_has ls 5 [(0, .ref (a 0)), (1, .ref (b 0))] := hl
  unfold wp_X8_returns at h
  refine lv_bipush (v := 56) hx hb dX8_returns_0 (by decide) ?_
  refine lv_aload_n hx hb dX8_returns_2 rfl (lv_at hl 1 rfl) ?_
  refine lv_bipush (v := 15) hx hb dX8_returns_3 (by decide) ?_
  refine ar_il (f := S.2) (n := 342) (j := 15) hx hb hK hP 11 rfl (by decide) (okLit (by decide)) dX8_returns_5 ?_
  refine lv_iadd hx hb dX8_returns_6 ?_
  refine lv_topi (fun x1 ex1 => ?_)
  have h := h x1 ex1
  refine lv_istore_n (lv' := [(2, .int x1), (0, .ref (a 0)), (1, .ref (b 0))]) hx hb dX8_returns_7 rfl hl (by decide) rfl (fun ls hl => ?_)
  refine lv_aload_n hx hb dX8_returns_8 rfl (lv_at hl 2 rfl) ?_
  refine lv_iload_n hx hb dX8_returns_9 rfl (lv_at hl 0 rfl) ?_
  refine lv_iconst (v := 1) hx hb dX8_returns_10 (by decide) ?_
  refine lv_isub hx hb dX8_returns_11 ?_
  refine ar_il (f := S.2) (n := 342) (j := (Int32.toNatClampNeg (x1 - 1))) hx hb hK hP 11 rfl rfl h.1 dX8_returns_12 ?_
  have h := h.2
  refine lv_sipush (v := 23040) hx hb dX8_returns_13 (by decide) ?_
  refine lv_isub hx hb dX8_returns_16 ?_
  refine lv_topi (fun x2 ex2 => ?_)
  have h := h x2 ex2
  refine lv_istore_n (lv' := [(3, .int x2), (2, .int x1), (0, .ref (a 0)), (1, .ref (b 0))]) hx hb dX8_returns_17 rfl hl (by decide) rfl (fun ls hl => ?_)
  refine lv_aload_n hx hb dX8_returns_18 rfl (lv_at hl 3 rfl) ?_
  refine lv_bipush (v := 32) hx hb dX8_returns_19 (by decide) ?_
  refine ar_il (f := S.2) (n := 342) (j := 32) hx hb hK hP 11 rfl (by decide) (okLit (by decide)) dX8_returns_21 ?_
  refine lv_bipush (v := 10) hx hb dX8_returns_22 (by decide) ?_
  refine lv_icmp_ne (tgt := 80) hx hb dX8_returns_24 (by decide) (fun c3 => ?_) (fun c3 => ?_)
  · have h := h.1 c3
    refine lv_iload_n hx hb dX8_returns_80 rfl (lv_at hl 0 rfl) ?_
    refine lv_iconst (v := 3) hx hb dX8_returns_81 (by decide) ?_
    refine lv_icmp_le (tgt := 96) hx hb dX8_returns_82 (by decide) (fun c4 => ?_) (fun c4 => ?_)
    · have h := h.1 c4
      refine lv_aload_n hx hb dX8_returns_96 rfl (lv_at hl 3 rfl) ?_
      refine lv_bipush (v := 18) hx hb dX8_returns_97 (by decide) ?_
      refine lv_iload_n hx hb dX8_returns_99 rfl (lv_at hl 0 rfl) ?_
      refine lv_iconst (v := 3) hx hb dX8_returns_100 (by decide) ?_
      refine lv_icmp_le (tgt := 108) hx hb dX8_returns_101 (by decide) (fun c5 => ?_) (fun c5 => ?_)
      · have h := h.1 c5
        refine lv_iconst (v := 0) hx hb dX8_returns_108 (by decide) ?_
        obtain ⟨T6, eT6⟩ : ∃ z : (Nat → Int32), z = (upd S.2 18 0) := ⟨_, rfl⟩
        refine ar_is (f := S.2) (n := 342) (j := 18) (x := 0) hx hb hK hP hD hS 11 rfl (by decide) (okLit (by decide)) dX8_returns_109 (wX8s cI cZ a b (S.1, T6)) (by subst eT6; rfl) (fun H locs hP hD hS => ?_)
        have h := h T6 eT6
        refine lv_iconst (v := 0) hx hb dX8_returns_110 (by decide) ?_
        refine lv_istore (lv' := [(4, .int 0), (3, .int x2), (2, .int x1), (0, .ref (a 0)), (1, .ref (b 0))]) hx hb dX8_returns_111 hl (by decide) rfl (fun ls hl => ?_)
        exact L113 2000 x1 x2 0 (S.1, T6) _ _ _ hP hD hS (lv_sub hl [3, 4, 2, 1, 0] rfl) h
      · have h := h.2 c5
        refine lv_iconst (v := 1) hx hb dX8_returns_104 (by decide) ?_
        refine lv_goto (tgt := 109) hx hb dX8_returns_105 (by decide) ?_
        obtain ⟨T7, eT7⟩ : ∃ z : (Nat → Int32), z = (upd S.2 18 1) := ⟨_, rfl⟩
        refine ar_is (f := S.2) (n := 342) (j := 18) (x := 1) hx hb hK hP hD hS 11 rfl (by decide) (okLit (by decide)) dX8_returns_109 (wX8s cI cZ a b (S.1, T7)) (by subst eT7; rfl) (fun H locs hP hD hS => ?_)
        have h := h T7 eT7
        refine lv_iconst (v := 0) hx hb dX8_returns_110 (by decide) ?_
        refine lv_istore (lv' := [(4, .int 0), (3, .int x2), (2, .int x1), (0, .ref (a 0)), (1, .ref (b 0))]) hx hb dX8_returns_111 hl (by decide) rfl (fun ls hl => ?_)
        exact L113 2000 x1 x2 0 (S.1, T7) _ _ _ hP hD hS (lv_sub hl [3, 4, 2, 1, 0] rfl) h
    · have h := h.2 c4
      refine lv_aload_n hx hb dX8_returns_85 rfl (lv_at hl 3 rfl) ?_
      refine lv_bipush (v := 19) hx hb dX8_returns_86 (by decide) ?_
      refine lv_iconst (v := -1) hx hb dX8_returns_88 (by decide) ?_
      obtain ⟨T8, eT8⟩ : ∃ z : (Nat → Int32), z = (upd S.2 19 (-1)) := ⟨_, rfl⟩
      refine ar_is (f := S.2) (n := 342) (j := 19) (x := (-1)) hx hb hK hP hD hS 11 rfl (by decide) (okLit (by decide)) dX8_returns_89 (wX8s cI cZ a b (S.1, T8)) (by subst eT8; rfl) (fun H locs hP hD hS => ?_)
      have h := h T8 eT8
      refine lv_aload_n hx hb dX8_returns_90 rfl (lv_at hl 2 rfl) ?_
      refine lv_bipush (v := 6) hx hb dX8_returns_91 (by decide) ?_
      refine cl_v (ws' := fun u9 => (wX8s cI cZ a b u9)) (va_runV (As := [.int 6]) (rest := []) ⟨hx, hb, hml, hown, hts⟩ (c_X8_counts l D cI cZ a b nw _ (S.1, T8) 6 _ h hb4) (cwV 1 hts (gV q_1193 q_1195 q_31 q_75 q_1196) rfl rfl rfl (by decide +kernel) ⟨Nat.le_of_ble_eq_true rfl, Nat.le_of_ble_eq_true rfl⟩) (preV_of (ci := 7) (q := (RX8, TX8, 25)) hK hP hD [0, 1, 2, 3, 4, 5, 6, 7, 8, 9, 10, 11] rfl rfl (by decide) 0 rfl rfl) rfl rfl hl.1 rfl (lv_room (Nat.le_of_ble_eq_true rfl)) dX8_returns_93 ⟨Nat.zero_le _, Nat.zero_le _⟩) hP hD hS hA [0, 1, 2, 3, 4, 5, 6, 7, 8, 9, 10, 11] [.inl 0, .inl 1, .inl 2, .inl 3, .inl 4, .inl 5, .inl 6, .inl 7, .inl 8, .inl 9, .inl 10, .inl 11] rfl (by decide) (fun _ => rfl) (fun _ => rfl) (fun u9 H locs h hP hD hS => ?_)
      refine lv_aload_n hx hb dX8_returns_96 rfl (lv_at hl 3 rfl) ?_
      refine lv_bipush (v := 18) hx hb dX8_returns_97 (by decide) ?_
      refine lv_iload_n hx hb dX8_returns_99 rfl (lv_at hl 0 rfl) ?_
      refine lv_iconst (v := 3) hx hb dX8_returns_100 (by decide) ?_
      refine lv_icmp_le (tgt := 108) hx hb dX8_returns_101 (by decide) (fun c10 => ?_) (fun c10 => ?_)
      · have h := h.1 c10
        refine lv_iconst (v := 0) hx hb dX8_returns_108 (by decide) ?_
        obtain ⟨T11, eT11⟩ : ∃ z : (Nat → Int32), z = (upd u9.2 18 0) := ⟨_, rfl⟩
        refine ar_is (f := u9.2) (n := 342) (j := 18) (x := 0) hx hb hK hP hD hS 11 rfl (by decide) (okLit (by decide)) dX8_returns_109 (wX8s cI cZ a b (u9.1, T11)) (by subst eT11; rfl) (fun H locs hP hD hS => ?_)
        have h := h T11 eT11
        refine lv_iconst (v := 0) hx hb dX8_returns_110 (by decide) ?_
        refine lv_istore (lv' := [(4, .int 0), (3, .int x2), (2, .int x1), (0, .ref (a 0)), (1, .ref (b 0))]) hx hb dX8_returns_111 hl (by decide) rfl (fun ls hl => ?_)
        exact L113 2000 x1 x2 0 (u9.1, T11) _ _ _ hP hD hS (lv_sub hl [3, 4, 2, 1, 0] rfl) h
      · have h := h.2 c10
        refine lv_iconst (v := 1) hx hb dX8_returns_104 (by decide) ?_
        refine lv_goto (tgt := 109) hx hb dX8_returns_105 (by decide) ?_
        obtain ⟨T12, eT12⟩ : ∃ z : (Nat → Int32), z = (upd u9.2 18 1) := ⟨_, rfl⟩
        refine ar_is (f := u9.2) (n := 342) (j := 18) (x := 1) hx hb hK hP hD hS 11 rfl (by decide) (okLit (by decide)) dX8_returns_109 (wX8s cI cZ a b (u9.1, T12)) (by subst eT12; rfl) (fun H locs hP hD hS => ?_)
        have h := h T12 eT12
        refine lv_iconst (v := 0) hx hb dX8_returns_110 (by decide) ?_
        refine lv_istore (lv' := [(4, .int 0), (3, .int x2), (2, .int x1), (0, .ref (a 0)), (1, .ref (b 0))]) hx hb dX8_returns_111 hl (by decide) rfl (fun ls hl => ?_)
        exact L113 2000 x1 x2 0 (u9.1, T12) _ _ _ hP hD hS (lv_sub hl [3, 4, 2, 1, 0] rfl) h
  · have h := h.2 c3
    refine lv_iconst (v := 0) hx hb dX8_returns_27 (by decide) ?_
    refine lv_istore (lv' := [(4, .int 0), (3, .int x2), (2, .int x1), (0, .ref (a 0)), (1, .ref (b 0))]) hx hb dX8_returns_28 hl (by decide) rfl (fun ls hl => ?_)
    exact L30 2000 x1 x2 0 S _ _ _ hP hD hS (lv_sub hl [3, 4, 2, 1, 0] rfl) h
/-! X8_unstacks -/
abbrev rmX8_unstacks : Room := { frames := 5, cells := 0, slots := 0, locals := 114 }
set_option maxHeartbeats 4000000 in
set_option maxRecDepth 100000 in
theorem c_X8_unstacks (l : Launch) (D : va_G) (cI cZ : ClassId) (a : Nat → Nat) (b : Nat → Nat) (nw : Bool) (sz : Nat) (S : Ob × (Nat → Int32)) (Q : (Ob × (Nat → Int32)) → Prop) (h : wp_X8_unstacks nw S Q) (hb4 : nw = true → b 0 = a 4) : Met l yX8_unstacks (wsm yX8_unstacks cX8_unstacks 4 none) rmX8_unstacks (va_Pc [.ref (a 0), .ref (b 0)] (preW D cI cZ sz (wX8s cI cZ a b S))) (va_Qv Q (fun u => atW D cI cZ (va_A (wX8s cI cZ a b S) sz) (wX8s cI cZ a b u)) (va_A (wX8s cI cZ a b S) sz)) 0 0 (va_A (wX8s cI cZ a b S) sz) := by
  refine Met.ofW (cc := cX8_unstacks) (maxL := 4) (ret := none) (by decide) rfl ?_
  intro p e s m args below meth c s₁ B hml hv
  obtain ⟨rfl, hsz, hP, hK, hD0⟩ := hv
  have hx := B.exec
  have hb := B.bytes
  have hr := B.returns
  have hts0 := atoms_spec (ws := wsm yX8_unstacks cX8_unstacks 4 none) B.pre
  have hts : ∀ w ∈ lw_all, w.before _ s = true := fun w h => hts0 w (List.mem_cons_of_mem _ h)
  have hown : s.vm.findClass RX8 = some m.cls := findClass_of_methodNamed B.named
  have hlocks := B.notSynchronized
  subst hsz
  have hD := hD0.self (sz := s.heap.size)
  generalize hAe : va_A (wX8s cI cZ a b S) s.heap.size = A at hD ⊢
  have hA : ∀ q : Nat, s.heap.size ≤ q → A q := fun q h => by rw [← hAe]; exact Or.inr h
  have hS : va_S A s.heap s.heap [] := va_S.rf
  have hml2 := hml
  have L16 : ∀ (z0 : Int32) (T : Ob × (Nat → Int32)) (H : Heap) (locs : List Loc) (ls : Array Slot), va_P D vwCl (wX8s cI cZ a b T) H → va_D A (wX8s cI cZ a b T) → va_S A s.heap H locs → lv_has ls 4 [(0, .ref (a 0)), (1, .ref (b 0))] → wp_X8_unstacks_L16 nw Q z0 T → W p l e rmX8_unstacks s m ([.ref (a 0), .ref (b 0)] : List Value).toArray below meth c H locs 0 0 (MQ below (va_Qv Q (fun u => atW D cI cZ A (wX8s cI cZ a b u)) A) ([.ref (a 0), .ref (b 0)] : List Value).toArray s 0 0 A) (F0 m 16 ls [.int z0]) := by
    intro z0 T H locs ls hP hD hS hl h
    unfold wp_X8_unstacks_L16 at h
    refine lv_istore_n (lv' := [(2, .int z0), (0, .ref (a 0)), (1, .ref (b 0))]) hx hb dX8_unstacks_16 rfl hl (by decide) rfl (fun ls hl => ?_)
    refine lv_iload_n hx hb dX8_unstacks_17 rfl (lv_at hl 0 rfl) ?_
    refine lv_if_lt (tgt := 44) hx hb dX8_unstacks_18 (by decide) (fun c4 => ?_) (fun c4 => ?_)
    · have h := h.1 c4
      refine lv_aload_n hx hb dX8_unstacks_44 rfl (lv_at hl 2 rfl) ?_
      refine lv_bipush (v := 21) hx hb dX8_unstacks_45 (by decide) ?_
      refine ar_il (f := T.2) (n := 342) (j := 21) hx hb hK hP 11 rfl (by decide) (okLit (by decide)) dX8_unstacks_47 ?_
      refine lv_if_ne (tgt := 122) hx hb dX8_unstacks_48 (by decide) (fun c5 => ?_) (fun c5 => ?_)
      · have h := h.1 c5
        refine lv_aload_n hx hb dX8_unstacks_122 rfl (lv_at hl 2 rfl) ?_
        refine lv_bipush (v := 21) hx hb dX8_unstacks_123 (by decide) ?_
        refine lv_dup2_11 hx hb dX8_unstacks_125 rfl rfl ?_
        refine ar_il (f := T.2) (n := 342) (j := 21) hx hb hK hP 11 rfl (by decide) (okLit (by decide)) dX8_unstacks_126 ?_
        refine lv_iconst (v := 1) hx hb dX8_unstacks_127 (by decide) ?_
        refine lv_iadd hx hb dX8_unstacks_128 ?_
        obtain ⟨T6, eT6⟩ : ∃ z : (Nat → Int32), z = (upd T.2 21 ((T.2 21) + 1)) := ⟨_, rfl⟩
        refine ar_is (f := T.2) (n := 342) (j := 21) (x := ((T.2 21) + 1)) hx hb hK hP hD hS 11 rfl (by decide) (okLit (by decide)) dX8_unstacks_129 (wX8s cI cZ a b (T.1, T6)) (by subst eT6; rfl) (fun H locs hP hD hS => ?_)
        have h := h T6 eT6
        refine lv_aload_n hx hb dX8_unstacks_130 rfl (lv_at hl 2 rfl) ?_
        refine lv_bipush (v := 21) hx hb dX8_unstacks_131 (by decide) ?_
        refine ar_il (f := T6) (n := 342) (j := 21) hx hb hK hP 11 rfl (by decide) (okLit (by decide)) dX8_unstacks_133 ?_
        refine lv_aload_n hx hb dX8_unstacks_134 rfl (lv_at hl 2 rfl) ?_
        refine lv_bipush (v := 32) hx hb dX8_unstacks_135 (by decide) ?_
        refine ar_il (f := T6) (n := 342) (j := 32) hx hb hK hP 11 rfl (by decide) (okLit (by decide)) dX8_unstacks_137 ?_
        refine lv_icmp_ne (tgt := 146) hx hb dX8_unstacks_138 (by decide) (fun c7 => ?_) (fun c7 => ?_)
        · have h := h.1 c7
          exact W.vret hx hb hr (fun t ht hW => ⟨⟨(T.1, T6), rfl, h, by rw [ht]; exact hP, va_K.moved hW.alike hK, hD⟩, hS.F ht⟩) hS.2.2 dX8_unstacks_146
        · have h := h.2 c7
          refine lv_aload_n hx hb dX8_unstacks_141 rfl (lv_at hl 1 rfl) ?_
          refine lv_aload_n hx hb dX8_unstacks_142 rfl (lv_at hl 2 rfl) ?_
          refine cl_v (ws' := fun u8 => (wX8s cI cZ a b u8)) (va_runV (As := [.ref (b 0)]) (rest := []) ⟨hx, hb, hml, hown, hts⟩ (c_X8_returns l D cI cZ a b nw _ (T.1, T6) _ h hb4) (cwV 1 hts (gV q_1382 q_1384 q_59 q_75 q_1385) rfl rfl rfl (by decide +kernel) ⟨Nat.le_of_ble_eq_true rfl, Nat.le_of_ble_eq_true rfl⟩) (preV_of (ci := 7) (q := (RX8, TX8, 25)) hK hP hD [0, 1, 2, 3, 4, 5, 6, 7, 8, 9, 10, 11] rfl rfl (by decide) 0 rfl rfl) rfl rfl hl.1 rfl (lv_room (Nat.le_of_ble_eq_true rfl)) dX8_unstacks_143 ⟨Nat.zero_le _, Nat.zero_le _⟩) hP hD hS hA [0, 1, 2, 3, 4, 5, 6, 7, 8, 9, 10, 11] [.inl 0, .inl 1, .inl 2, .inl 3, .inl 4, .inl 5, .inl 6, .inl 7, .inl 8, .inl 9, .inl 10, .inl 11] rfl (by decide) (fun _ => rfl) (fun _ => rfl) (fun u8 H locs h hP hD hS => ?_)
          exact W.vret hx hb hr (fun t ht hW => ⟨⟨u8, rfl, h, by rw [ht]; exact hP, va_K.moved hW.alike hK, hD⟩, hS.F ht⟩) hS.2.2 dX8_unstacks_146
      · have h := h.2 c5
        refine lv_aload_n hx hb dX8_unstacks_51 rfl (lv_at hl 1 rfl) ?_
        refine lv_aload_n hx hb dX8_unstacks_52 rfl (lv_at hl 2 rfl) ?_
        refine cl_i (ws' := fun u9 => (wX8s cI cZ a b u9)) (va_runV (As := [.ref (b 0)]) (rest := []) ⟨hx, hb, hml, hown, hts⟩ (c_X8_wrongWith l D cI cZ a b nw _ T _ h hb4) (cwV 1 hts (gV q_1378 q_1380 q_58 q_75 q_1381) rfl rfl rfl (by decide +kernel) ⟨Nat.le_of_ble_eq_true rfl, Nat.le_of_ble_eq_true rfl⟩) (preV_of (ci := 7) (q := (RX8, TX8, 25)) hK hP hD [0, 1, 2, 3, 4, 5, 6, 7, 8, 9, 10, 11] rfl rfl (by decide) 0 rfl rfl) rfl rfl hl.1 rfl (lv_room (Nat.le_of_ble_eq_true rfl)) dX8_unstacks_53 ⟨Nat.zero_le _, Nat.zero_le _⟩) hP hD hS hA [0, 1, 2, 3, 4, 5, 6, 7, 8, 9, 10, 11] [.inl 0, .inl 1, .inl 2, .inl 3, .inl 4, .inl 5, .inl 6, .inl 7, .inl 8, .inl 9, .inl 10, .inl 11] rfl (by decide) (fun _ => rfl) (fun _ => rfl) (fun r10 u9 H locs h hP hD hS => ?_)
        refine lv_istore_n (lv' := [(3, .int r10), (2, .int z0), (0, .ref (a 0)), (1, .ref (b 0))]) hx hb dX8_unstacks_56 rfl hl (by decide) rfl (fun ls hl => ?_)
        refine lv_iload_n hx hb dX8_unstacks_57 rfl (lv_at hl 0 rfl) ?_
        refine lv_if_lt (tgt := 78) hx hb dX8_unstacks_58 (by decide) (fun c11 => ?_) (fun c11 => ?_)
        · have h := h.1 c11
          refine lv_aload_n hx hb dX8_unstacks_78 rfl (lv_at hl 3 rfl) ?_
          refine lv_bipush (v := 32) hx hb dX8_unstacks_79 (by decide) ?_
          refine lv_aload_n hx hb dX8_unstacks_81 rfl (lv_at hl 3 rfl) ?_
          refine lv_bipush (v := 56) hx hb dX8_unstacks_82 (by decide) ?_
          refine lv_aload_n hx hb dX8_unstacks_84 rfl (lv_at hl 3 rfl) ?_
          refine lv_bipush (v := 15) hx hb dX8_unstacks_85 (by decide) ?_
          refine ar_il (f := u9.2) (n := 342) (j := 15) hx hb hK hP 11 rfl (by decide) (okLit (by decide)) dX8_unstacks_87 ?_
          refine lv_iadd hx hb dX8_unstacks_88 ?_
          refine lv_iconst (v := 1) hx hb dX8_unstacks_89 (by decide) ?_
          refine lv_isub hx hb dX8_unstacks_90 ?_
          refine ar_il (f := u9.2) (n := 342) (j := (Int32.toNatClampNeg ((56 + (u9.2 15)) - 1))) hx hb hK hP 11 rfl rfl h.1 dX8_unstacks_91 ?_
          have h := h.2
          refine lv_sipush (v := 23040) hx hb dX8_unstacks_92 (by decide) ?_
          refine lv_isub hx hb dX8_unstacks_95 ?_
          refine lv_iconst (v := 3) hx hb dX8_unstacks_96 (by decide) ?_
          refine lv_icmp_le (tgt := 119) hx hb dX8_unstacks_97 (by decide) (fun c12 => ?_) (fun c12 => ?_)
          · have h := h.1 c12
            refine lv_bipush (v := 6) hx hb dX8_unstacks_119 (by decide) ?_
            obtain ⟨T13, eT13⟩ : ∃ z : (Nat → Int32), z = (upd u9.2 32 6) := ⟨_, rfl⟩
            refine ar_is (f := u9.2) (n := 342) (j := 32) (x := 6) hx hb hK hP hD hS 11 rfl (by decide) (okLit (by decide)) dX8_unstacks_121 (wX8s cI cZ a b (u9.1, T13)) (by subst eT13; rfl) (fun H locs hP hD hS => ?_)
            have h := h T13 eT13
            refine lv_aload_n hx hb dX8_unstacks_122 rfl (lv_at hl 3 rfl) ?_
            refine lv_bipush (v := 21) hx hb dX8_unstacks_123 (by decide) ?_
            refine lv_dup2_11 hx hb dX8_unstacks_125 rfl rfl ?_
            refine ar_il (f := T13) (n := 342) (j := 21) hx hb hK hP 11 rfl (by decide) (okLit (by decide)) dX8_unstacks_126 ?_
            refine lv_iconst (v := 1) hx hb dX8_unstacks_127 (by decide) ?_
            refine lv_iadd hx hb dX8_unstacks_128 ?_
            obtain ⟨T14, eT14⟩ : ∃ z : (Nat → Int32), z = (upd T13 21 ((T13 21) + 1)) := ⟨_, rfl⟩
            refine ar_is (f := T13) (n := 342) (j := 21) (x := ((T13 21) + 1)) hx hb hK hP hD hS 11 rfl (by decide) (okLit (by decide)) dX8_unstacks_129 (wX8s cI cZ a b (u9.1, T14)) (by subst eT14; rfl) (fun H locs hP hD hS => ?_)
            have h := h T14 eT14
            refine lv_aload_n hx hb dX8_unstacks_130 rfl (lv_at hl 3 rfl) ?_
            refine lv_bipush (v := 21) hx hb dX8_unstacks_131 (by decide) ?_
            refine ar_il (f := T14) (n := 342) (j := 21) hx hb hK hP 11 rfl (by decide) (okLit (by decide)) dX8_unstacks_133 ?_
            refine lv_aload_n hx hb dX8_unstacks_134 rfl (lv_at hl 3 rfl) ?_
            refine lv_bipush (v := 32) hx hb dX8_unstacks_135 (by decide) ?_
            refine ar_il (f := T14) (n := 342) (j := 32) hx hb hK hP 11 rfl (by decide) (okLit (by decide)) dX8_unstacks_137 ?_
            refine lv_icmp_ne (tgt := 146) hx hb dX8_unstacks_138 (by decide) (fun c15 => ?_) (fun c15 => ?_)
            · have h := h.1 c15
              exact W.vret hx hb hr (fun t ht hW => ⟨⟨(u9.1, T14), rfl, h, by rw [ht]; exact hP, va_K.moved hW.alike hK, hD⟩, hS.F ht⟩) hS.2.2 dX8_unstacks_146
            · have h := h.2 c15
              refine lv_aload_n hx hb dX8_unstacks_141 rfl (lv_at hl 2 rfl) ?_
              refine lv_aload_n hx hb dX8_unstacks_142 rfl (lv_at hl 3 rfl) ?_
              refine cl_v (ws' := fun u16 => (wX8s cI cZ a b u16)) (va_runV (As := [.ref (b 0)]) (rest := []) ⟨hx, hb, hml, hown, hts⟩ (c_X8_returns l D cI cZ a b nw _ (u9.1, T14) _ h hb4) (cwV 1 hts (gV q_1382 q_1384 q_59 q_75 q_1385) rfl rfl rfl (by decide +kernel) ⟨Nat.le_of_ble_eq_true rfl, Nat.le_of_ble_eq_true rfl⟩) (preV_of (ci := 7) (q := (RX8, TX8, 25)) hK hP hD [0, 1, 2, 3, 4, 5, 6, 7, 8, 9, 10, 11] rfl rfl (by decide) 0 rfl rfl) rfl rfl hl.1 rfl (lv_room (Nat.le_of_ble_eq_true rfl)) dX8_unstacks_143 ⟨Nat.zero_le _, Nat.zero_le _⟩) hP hD hS hA [0, 1, 2, 3, 4, 5, 6, 7, 8, 9, 10, 11] [.inl 0, .inl 1, .inl 2, .inl 3, .inl 4, .inl 5, .inl 6, .inl 7, .inl 8, .inl 9, .inl 10, .inl 11] rfl (by decide) (fun _ => rfl) (fun _ => rfl) (fun u16 H locs h hP hD hS => ?_)
              exact W.vret hx hb hr (fun t ht hW => ⟨⟨u16, rfl, h, by rw [ht]; exact hP, va_K.moved hW.alike hK, hD⟩, hS.F ht⟩) hS.2.2 dX8_unstacks_146
          · have h := h.2 c12
            refine lv_aload_n hx hb dX8_unstacks_100 rfl (lv_at hl 3 rfl) ?_
            refine lv_bipush (v := 19) hx hb dX8_unstacks_101 (by decide) ?_
            refine ar_il (f := u9.2) (n := 342) (j := 19) hx hb hK hP 11 rfl (by decide) (okLit (by decide)) dX8_unstacks_103 ?_
            refine lv_aload_n hx hb dX8_unstacks_104 rfl (lv_at hl 3 rfl) ?_
            refine lv_bipush (v := 15) hx hb dX8_unstacks_105 (by decide) ?_
            refine ar_il (f := u9.2) (n := 342) (j := 15) hx hb hK hP 11 rfl (by decide) (okLit (by decide)) dX8_unstacks_107 ?_
            refine lv_bipush (v := 10) hx hb dX8_unstacks_108 (by decide) ?_
            refine lv_isub hx hb dX8_unstacks_110 ?_
            refine lv_icmp_eq (tgt := 119) hx hb dX8_unstacks_111 (by decide) (fun c17 => ?_) (fun c17 => ?_)
            · have h := h.1 c17
              refine lv_bipush (v := 6) hx hb dX8_unstacks_119 (by decide) ?_
              obtain ⟨T18, eT18⟩ : ∃ z : (Nat → Int32), z = (upd u9.2 32 6) := ⟨_, rfl⟩
              refine ar_is (f := u9.2) (n := 342) (j := 32) (x := 6) hx hb hK hP hD hS 11 rfl (by decide) (okLit (by decide)) dX8_unstacks_121 (wX8s cI cZ a b (u9.1, T18)) (by subst eT18; rfl) (fun H locs hP hD hS => ?_)
              have h := h T18 eT18
              refine lv_aload_n hx hb dX8_unstacks_122 rfl (lv_at hl 3 rfl) ?_
              refine lv_bipush (v := 21) hx hb dX8_unstacks_123 (by decide) ?_
              refine lv_dup2_11 hx hb dX8_unstacks_125 rfl rfl ?_
              refine ar_il (f := T18) (n := 342) (j := 21) hx hb hK hP 11 rfl (by decide) (okLit (by decide)) dX8_unstacks_126 ?_
              refine lv_iconst (v := 1) hx hb dX8_unstacks_127 (by decide) ?_
              refine lv_iadd hx hb dX8_unstacks_128 ?_
              obtain ⟨T19, eT19⟩ : ∃ z : (Nat → Int32), z = (upd T18 21 ((T18 21) + 1)) := ⟨_, rfl⟩
              refine ar_is (f := T18) (n := 342) (j := 21) (x := ((T18 21) + 1)) hx hb hK hP hD hS 11 rfl (by decide) (okLit (by decide)) dX8_unstacks_129 (wX8s cI cZ a b (u9.1, T19)) (by subst eT19; rfl) (fun H locs hP hD hS => ?_)
              have h := h T19 eT19
              refine lv_aload_n hx hb dX8_unstacks_130 rfl (lv_at hl 3 rfl) ?_
              refine lv_bipush (v := 21) hx hb dX8_unstacks_131 (by decide) ?_
              refine ar_il (f := T19) (n := 342) (j := 21) hx hb hK hP 11 rfl (by decide) (okLit (by decide)) dX8_unstacks_133 ?_
              refine lv_aload_n hx hb dX8_unstacks_134 rfl (lv_at hl 3 rfl) ?_
              refine lv_bipush (v := 32) hx hb dX8_unstacks_135 (by decide) ?_
              refine ar_il (f := T19) (n := 342) (j := 32) hx hb hK hP 11 rfl (by decide) (okLit (by decide)) dX8_unstacks_137 ?_
              refine lv_icmp_ne (tgt := 146) hx hb dX8_unstacks_138 (by decide) (fun c20 => ?_) (fun c20 => ?_)
              · have h := h.1 c20
                exact W.vret hx hb hr (fun t ht hW => ⟨⟨(u9.1, T19), rfl, h, by rw [ht]; exact hP, va_K.moved hW.alike hK, hD⟩, hS.F ht⟩) hS.2.2 dX8_unstacks_146
              · have h := h.2 c20
                refine lv_aload_n hx hb dX8_unstacks_141 rfl (lv_at hl 2 rfl) ?_
                refine lv_aload_n hx hb dX8_unstacks_142 rfl (lv_at hl 3 rfl) ?_
                refine cl_v (ws' := fun u21 => (wX8s cI cZ a b u21)) (va_runV (As := [.ref (b 0)]) (rest := []) ⟨hx, hb, hml, hown, hts⟩ (c_X8_returns l D cI cZ a b nw _ (u9.1, T19) _ h hb4) (cwV 1 hts (gV q_1382 q_1384 q_59 q_75 q_1385) rfl rfl rfl (by decide +kernel) ⟨Nat.le_of_ble_eq_true rfl, Nat.le_of_ble_eq_true rfl⟩) (preV_of (ci := 7) (q := (RX8, TX8, 25)) hK hP hD [0, 1, 2, 3, 4, 5, 6, 7, 8, 9, 10, 11] rfl rfl (by decide) 0 rfl rfl) rfl rfl hl.1 rfl (lv_room (Nat.le_of_ble_eq_true rfl)) dX8_unstacks_143 ⟨Nat.zero_le _, Nat.zero_le _⟩) hP hD hS hA [0, 1, 2, 3, 4, 5, 6, 7, 8, 9, 10, 11] [.inl 0, .inl 1, .inl 2, .inl 3, .inl 4, .inl 5, .inl 6, .inl 7, .inl 8, .inl 9, .inl 10, .inl 11] rfl (by decide) (fun _ => rfl) (fun _ => rfl) (fun u21 H locs h hP hD hS => ?_)
                exact W.vret hx hb hr (fun t ht hW => ⟨⟨u21, rfl, h, by rw [ht]; exact hP, va_K.moved hW.alike hK, hD⟩, hS.F ht⟩) hS.2.2 dX8_unstacks_146
            · have h := h.2 c17
              refine lv_bipush (v := 10) hx hb dX8_unstacks_114 (by decide) ?_
              refine lv_goto (tgt := 121) hx hb dX8_unstacks_116 (by decide) ?_
              obtain ⟨T22, eT22⟩ : ∃ z : (Nat → Int32), z = (upd u9.2 32 10) := ⟨_, rfl⟩
              refine ar_is (f := u9.2) (n := 342) (j := 32) (x := 10) hx hb hK hP hD hS 11 rfl (by decide) (okLit (by decide)) dX8_unstacks_121 (wX8s cI cZ a b (u9.1, T22)) (by subst eT22; rfl) (fun H locs hP hD hS => ?_)
              have h := h T22 eT22
              refine lv_aload_n hx hb dX8_unstacks_122 rfl (lv_at hl 3 rfl) ?_
              refine lv_bipush (v := 21) hx hb dX8_unstacks_123 (by decide) ?_
              refine lv_dup2_11 hx hb dX8_unstacks_125 rfl rfl ?_
              refine ar_il (f := T22) (n := 342) (j := 21) hx hb hK hP 11 rfl (by decide) (okLit (by decide)) dX8_unstacks_126 ?_
              refine lv_iconst (v := 1) hx hb dX8_unstacks_127 (by decide) ?_
              refine lv_iadd hx hb dX8_unstacks_128 ?_
              obtain ⟨T23, eT23⟩ : ∃ z : (Nat → Int32), z = (upd T22 21 ((T22 21) + 1)) := ⟨_, rfl⟩
              refine ar_is (f := T22) (n := 342) (j := 21) (x := ((T22 21) + 1)) hx hb hK hP hD hS 11 rfl (by decide) (okLit (by decide)) dX8_unstacks_129 (wX8s cI cZ a b (u9.1, T23)) (by subst eT23; rfl) (fun H locs hP hD hS => ?_)
              have h := h T23 eT23
              refine lv_aload_n hx hb dX8_unstacks_130 rfl (lv_at hl 3 rfl) ?_
              refine lv_bipush (v := 21) hx hb dX8_unstacks_131 (by decide) ?_
              refine ar_il (f := T23) (n := 342) (j := 21) hx hb hK hP 11 rfl (by decide) (okLit (by decide)) dX8_unstacks_133 ?_
              refine lv_aload_n hx hb dX8_unstacks_134 rfl (lv_at hl 3 rfl) ?_
              refine lv_bipush (v := 32) hx hb dX8_unstacks_135 (by decide) ?_
              refine ar_il (f := T23) (n := 342) (j := 32) hx hb hK hP 11 rfl (by decide) (okLit (by decide)) dX8_unstacks_137 ?_
              refine lv_icmp_ne (tgt := 146) hx hb dX8_unstacks_138 (by decide) (fun c24 => ?_) (fun c24 => ?_)
              · have h := h.1 c24
                exact W.vret hx hb hr (fun t ht hW => ⟨⟨(u9.1, T23), rfl, h, by rw [ht]; exact hP, va_K.moved hW.alike hK, hD⟩, hS.F ht⟩) hS.2.2 dX8_unstacks_146
              · have h := h.2 c24
                refine lv_aload_n hx hb dX8_unstacks_141 rfl (lv_at hl 2 rfl) ?_
                refine lv_aload_n hx hb dX8_unstacks_142 rfl (lv_at hl 3 rfl) ?_
                refine cl_v (ws' := fun u25 => (wX8s cI cZ a b u25)) (va_runV (As := [.ref (b 0)]) (rest := []) ⟨hx, hb, hml, hown, hts⟩ (c_X8_returns l D cI cZ a b nw _ (u9.1, T23) _ h hb4) (cwV 1 hts (gV q_1382 q_1384 q_59 q_75 q_1385) rfl rfl rfl (by decide +kernel) ⟨Nat.le_of_ble_eq_true rfl, Nat.le_of_ble_eq_true rfl⟩) (preV_of (ci := 7) (q := (RX8, TX8, 25)) hK hP hD [0, 1, 2, 3, 4, 5, 6, 7, 8, 9, 10, 11] rfl rfl (by decide) 0 rfl rfl) rfl rfl hl.1 rfl (lv_room (Nat.le_of_ble_eq_true rfl)) dX8_unstacks_143 ⟨Nat.zero_le _, Nat.zero_le _⟩) hP hD hS hA [0, 1, 2, 3, 4, 5, 6, 7, 8, 9, 10, 11] [.inl 0, .inl 1, .inl 2, .inl 3, .inl 4, .inl 5, .inl 6, .inl 7, .inl 8, .inl 9, .inl 10, .inl 11] rfl (by decide) (fun _ => rfl) (fun _ => rfl) (fun u25 H locs h hP hD hS => ?_)
                exact W.vret hx hb hr (fun t ht hW => ⟨⟨u25, rfl, h, by rw [ht]; exact hP, va_K.moved hW.alike hK, hD⟩, hS.F ht⟩) hS.2.2 dX8_unstacks_146
        · have h := h.2 c11
          refine lv_aload_n hx hb dX8_unstacks_61 rfl (lv_at hl 2 rfl) ?_
          refine lv_aload_n hx hb dX8_unstacks_62 rfl (lv_at hl 3 rfl) ?_
          refine lv_iload_n hx hb dX8_unstacks_63 rfl (lv_at hl 0 rfl) ?_
          refine cl_i (ws' := fun u26 => (wX8s cI cZ a b u26)) (va_runV (As := [.ref (b 0), .int r10]) (rest := []) ⟨hx, hb, hml, hown, hts⟩ (c_X8_raises l D cI cZ a b nw _ u9 r10 _ h hb4) (cwV 2 hts (gV q_1262 q_1264 q_41 q_75 q_1265) rfl rfl rfl (by decide +kernel) ⟨Nat.le_of_ble_eq_true rfl, Nat.le_of_ble_eq_true rfl⟩) (preV_of (ci := 7) (q := (RX8, TX8, 25)) hK hP hD [0, 1, 2, 3, 4, 5, 6, 7, 8, 9, 10, 11] rfl rfl (by decide) 0 rfl rfl) rfl rfl hl.1 rfl (lv_room (Nat.le_of_ble_eq_true rfl)) dX8_unstacks_64 ⟨Nat.zero_le _, Nat.zero_le _⟩) hP hD hS hA [0, 1, 2, 3, 4, 5, 6, 7, 8, 9, 10, 11] [.inl 0, .inl 1, .inl 2, .inl 3, .inl 4, .inl 5, .inl 6, .inl 7, .inl 8, .inl 9, .inl 10, .inl 11] rfl (by decide) (fun _ => rfl) (fun _ => rfl) (fun r27 u26 H locs h hP hD hS => ?_)
          refine lv_if_ne (tgt := 77) hx hb dX8_unstacks_67 (by decide) (fun c28 => ?_) (fun c28 => ?_)
          · have h := h.1 c28
            exact W.vret hx hb hr (fun t ht hW => ⟨⟨u26, rfl, h, by rw [ht]; exact hP, va_K.moved hW.alike hK, hD⟩, hS.F ht⟩) hS.2.2 dX8_unstacks_77
          · have h := h.2 c28
            refine lv_aload_n hx hb dX8_unstacks_70 rfl (lv_at hl 2 rfl) ?_
            refine lv_aload_n hx hb dX8_unstacks_71 rfl (lv_at hl 3 rfl) ?_
            refine lv_iconst (v := 2) hx hb dX8_unstacks_72 (by decide) ?_
            refine lv_iconst (v := 0) hx hb dX8_unstacks_73 (by decide) ?_
            refine cl_v (ws' := fun u29 => (wX8s cI cZ a b u29)) (va_runV (As := [.ref (b 0), .int 2, .int 0]) (rest := []) ⟨hx, hb, hml, hown, hts⟩ (c_X8_turns l D cI cZ a b nw _ u26 2 0 _ h hb4) (cwV 3 hts (gV q_1250 q_1252 q_38 q_75 q_1253) rfl rfl rfl (by decide +kernel) ⟨Nat.le_of_ble_eq_true rfl, Nat.le_of_ble_eq_true rfl⟩) (preV_of (ci := 7) (q := (RX8, TX8, 25)) hK hP hD [0, 1, 2, 3, 4, 5, 6, 7, 8, 9, 10, 11] rfl rfl (by decide) 0 rfl rfl) rfl rfl hl.1 rfl (lv_room (Nat.le_of_ble_eq_true rfl)) dX8_unstacks_74 ⟨Nat.zero_le _, Nat.zero_le _⟩) hP hD hS hA [0, 1, 2, 3, 4, 5, 6, 7, 8, 9, 10, 11] [.inl 0, .inl 1, .inl 2, .inl 3, .inl 4, .inl 5, .inl 6, .inl 7, .inl 8, .inl 9, .inl 10, .inl 11] rfl (by decide) (fun _ => rfl) (fun _ => rfl) (fun u29 H locs h hP hD hS => ?_)
            exact W.vret hx hb hr (fun t ht hW => ⟨⟨u29, rfl, h, by rw [ht]; exact hP, va_K.moved hW.alike hK, hD⟩, hS.F ht⟩) hS.2.2 dX8_unstacks_77
    · have h := h.2 c4
      refine lv_aload_n hx hb dX8_unstacks_21 rfl (lv_at hl 1 rfl) ?_
      refine lv_iconst (v := 4) hx hb dX8_unstacks_22 (by decide) ?_
      refine cl_v (ws' := fun u30 => (wX8s cI cZ a b u30)) (va_runV (As := [.int 4]) (rest := []) ⟨hx, hb, hml, hown, hts⟩ (c_X8_counts l D cI cZ a b nw _ T 4 _ h hb4) (cwV 1 hts (gV q_1193 q_1195 q_31 q_75 q_1196) rfl rfl rfl (by decide +kernel) ⟨Nat.le_of_ble_eq_true rfl, Nat.le_of_ble_eq_true rfl⟩) (preV_of (ci := 7) (q := (RX8, TX8, 25)) hK hP hD [0, 1, 2, 3, 4, 5, 6, 7, 8, 9, 10, 11] rfl rfl (by decide) 0 rfl rfl) rfl rfl hl.1 rfl (lv_room (Nat.le_of_ble_eq_true rfl)) dX8_unstacks_23 ⟨Nat.zero_le _, Nat.zero_le _⟩) hP hD hS hA [0, 1, 2, 3, 4, 5, 6, 7, 8, 9, 10, 11] [.inl 0, .inl 1, .inl 2, .inl 3, .inl 4, .inl 5, .inl 6, .inl 7, .inl 8, .inl 9, .inl 10, .inl 11] rfl (by decide) (fun _ => rfl) (fun _ => rfl) (fun u30 H locs h hP hD hS => ?_)
      refine lv_aload_n hx hb dX8_unstacks_26 rfl (lv_at hl 1 rfl) ?_
      refine lv_iconst (v := 4) hx hb dX8_unstacks_27 (by decide) ?_
      refine lv_iload_n hx hb dX8_unstacks_28 rfl (lv_at hl 0 rfl) ?_
      refine lv_aload_n hx hb dX8_unstacks_29 rfl (lv_at hl 2 rfl) ?_
      refine lv_bipush (v := 21) hx hb dX8_unstacks_30 (by decide) ?_
      refine ar_il (f := u30.2) (n := 342) (j := 21) hx hb hK hP 11 rfl (by decide) (okLit (by decide)) dX8_unstacks_32 ?_
      refine cl_v (ws' := fun u31 => (wX8s cI cZ a b u31)) (va_runV (As := [.int 4, .int z0, .int (u30.2 21)]) (rest := []) ⟨hx, hb, hml, hown, hts⟩ (c_X8_notes l D cI cZ a b nw _ u30 4 z0 (u30.2 21) _ h hb4) (cwV 3 hts (gV q_1274 q_1276 q_44 q_75 q_1277) rfl rfl rfl (by decide +kernel) ⟨Nat.le_of_ble_eq_true rfl, Nat.le_of_ble_eq_true rfl⟩) (preV_of (ci := 7) (q := (RX8, TX8, 25)) hK hP hD [0, 1, 2, 3, 4, 5, 6, 7, 8, 9, 10, 11] rfl rfl (by decide) 0 rfl rfl) rfl rfl hl.1 rfl (lv_room (Nat.le_of_ble_eq_true rfl)) dX8_unstacks_33 ⟨Nat.zero_le _, Nat.zero_le _⟩) hP hD hS hA [0, 1, 2, 3, 4, 5, 6, 7, 8, 9, 10, 11] [.inl 0, .inl 1, .inl 2, .inl 3, .inl 4, .inl 5, .inl 6, .inl 7, .inl 8, .inl 9, .inl 10, .inl 11] rfl (by decide) (fun _ => rfl) (fun _ => rfl) (fun u31 H locs h hP hD hS => ?_)
      refine lv_aload_n hx hb dX8_unstacks_36 rfl (lv_at hl 1 rfl) ?_
      refine lv_aload_n hx hb dX8_unstacks_37 rfl (lv_at hl 2 rfl) ?_
      refine lv_iconst (v := 2) hx hb dX8_unstacks_38 (by decide) ?_
      refine lv_iconst (v := 1) hx hb dX8_unstacks_39 (by decide) ?_
      refine cl_v (ws' := fun u32 => (wX8s cI cZ a b u32)) (va_runV (As := [.ref (b 0), .int 2, .int 1]) (rest := []) ⟨hx, hb, hml, hown, hts⟩ (c_X8_turns l D cI cZ a b nw _ u31 2 1 _ h hb4) (cwV 3 hts (gV q_1250 q_1252 q_38 q_75 q_1253) rfl rfl rfl (by decide +kernel) ⟨Nat.le_of_ble_eq_true rfl, Nat.le_of_ble_eq_true rfl⟩) (preV_of (ci := 7) (q := (RX8, TX8, 25)) hK hP hD [0, 1, 2, 3, 4, 5, 6, 7, 8, 9, 10, 11] rfl rfl (by decide) 0 rfl rfl) rfl rfl hl.1 rfl (lv_room (Nat.le_of_ble_eq_true rfl)) dX8_unstacks_40 ⟨Nat.zero_le _, Nat.zero_le _⟩) hP hD hS hA [0, 1, 2, 3, 4, 5, 6, 7, 8, 9, 10, 11] [.inl 0, .inl 1, .inl 2, .inl 3, .inl 4, .inl 5, .inl 6, .inl 7, .inl 8, .inl 9, .inl 10, .inl 11] rfl (by decide) (fun _ => rfl) (fun _ => rfl) (fun u32 H locs h hP hD hS => ?_)
      exact W.vret hx hb hr (fun t ht hW => ⟨⟨u32, rfl, h, by rw [ht]; exact hP, va_K.moved hW.alike hK, hD⟩, hS.F ht⟩) hS.2.2 dX8_unstacks_43
  have hl := lv_entry ([.ref (a 0), .ref (b 0)]) (n := 4) (Nat.le_of_ble_eq_true rfl)
  rw [lg_entry_eq]
  generalize (lg_sl ([.ref (a 0), .ref (b 0)]) ++ List.replicate (4 - (lg_sl ([.ref (a 0), .ref (b 0)])).length) Slot.unset).toArray = ls at hl ⊢
  have hl : lv_has ls 4 [(0, .ref (a 0)), (1, .ref (b 0))] := hl
  unfold wp_X8_unstacks at h
  refine lv_aload_n hx hb dX8_unstacks_0 rfl (lv_at hl 0 rfl) ?_
  refine va_get (D := D) (ci := 7) (v := .int (S.1.1 15)) (C := RX8) (T := TX8) (N := 25) hx hb hts inX8 hown hK hP 0 rfl rfl 15 (by decide) (hts _ q_1092) (fun _ h9 => h9) rfl dX8_unstacks_1 ?_
  refine lv_if_eq (tgt := 11) hx hb dX8_unstacks_4 (by decide) (fun c1 => ?_) (fun c1 => ?_)
  · have h := h.1 c1
    refine lv_aload_n hx hb dX8_unstacks_11 rfl (lv_at hl 0 rfl) ?_
    refine lv_aload_n hx hb dX8_unstacks_12 rfl (lv_at hl 1 rfl) ?_
    refine cl_i (ws' := fun u2 => (wX8s cI cZ a b u2)) (va_runV (As := [.ref (b 0)]) (rest := []) ⟨hx, hb, hml, hown, hts⟩ (c_X8_nextOf_ l D cI cZ a b nw _ S _ h hb4) (cwV 1 hts (gV q_1229 q_1231 q_35 q_75 q_1232) rfl rfl rfl (by decide +kernel) ⟨Nat.le_of_ble_eq_true rfl, Nat.le_of_ble_eq_true rfl⟩) (preV_of (ci := 7) (q := (RX8, TX8, 25)) hK hP hD [0, 1, 2, 3, 4, 5, 6, 7, 8, 9, 10, 11] rfl rfl (by decide) 0 rfl rfl) rfl rfl hl.1 rfl (lv_room (Nat.le_of_ble_eq_true rfl)) dX8_unstacks_13 ⟨Nat.zero_le _, Nat.zero_le _⟩) hP hD hS hA [0, 1, 2, 3, 4, 5, 6, 7, 8, 9, 10, 11] [.inl 0, .inl 1, .inl 2, .inl 3, .inl 4, .inl 5, .inl 6, .inl 7, .inl 8, .inl 9, .inl 10, .inl 11] rfl (by decide) (fun _ => rfl) (fun _ => rfl) (fun r3 u2 H locs h hP hD hS => ?_)
    exact L16 r3 u2 _ _ _ hP hD hS (lv_sub hl [0, 1] rfl) h
  · have h := h.2 c1
    refine lv_iconst (v := -1) hx hb dX8_unstacks_7 (by decide) ?_
    refine lv_goto (tgt := 16) hx hb dX8_unstacks_8 (by decide) ?_
    exact L16 (-1) S _ _ _ hP hD hS (lv_sub hl [0, 1] rfl) h
/-! X8_cycle -/
abbrev rmX8_cycle : Room := { frames := 8, cells := 0, slots := 0, locals := 188 }
set_option maxHeartbeats 4000000 in
set_option maxRecDepth 100000 in
theorem c_X8_cycle (l : Launch) (D : va_G) (cI cZ : ClassId) (a : Nat → Nat) (b : Nat → Nat) (nw : Bool) (sz : Nat) (S : Ob × (Nat → Int32)) (Q : (Ob × (Nat → Int32)) → Prop) (h : wp_X8_cycle nw S Q) (hb4 : nw = true → b 0 = a 4) : Met l yX8_cycle (wsm yX8_cycle cX8_cycle 4 none) rmX8_cycle (va_Pc [.ref (a 0), .ref (b 0)] (preT D cI cZ sz (wX8s cI cZ a b S))) (va_Qv Q (fun u => atW D cI cZ (va_A (wX8s cI cZ a b S) sz) (wX8s cI cZ a b u)) (va_A (wX8s cI cZ a b S) sz)) 0 0 (va_A (wX8s cI cZ a b S) sz) := by
  refine Met.ofW (cc := cX8_cycle) (maxL := 4) (ret := none) (by decide) rfl ?_
  intro p e s m args below meth c s₁ B hml hv
  obtain ⟨rfl, ⟨hsz, hP, hK, hD0⟩, hF⟩ := hv
  have hx := B.exec
  have hb := B.bytes
  have hr := B.returns
  have hts0 := atoms_spec (ws := wsm yX8_cycle cX8_cycle 4 none) B.pre
  have hts : ∀ w ∈ lw_all, w.before _ s = true := fun w h => hts0 w (List.mem_cons_of_mem _ h)
  have hown : s.vm.findClass RX8 = some m.cls := findClass_of_methodNamed B.named
  have hlocks := B.notSynchronized
  subst hsz
  have hD := hD0.self (sz := s.heap.size)
  generalize hAe : va_A (wX8s cI cZ a b S) s.heap.size = A at hD hF ⊢
  have hA : ∀ q : Nat, s.heap.size ≤ q → A q := fun q h => by rw [← hAe]; exact Or.inr h
  have hS : va_S A s.heap s.heap [] := va_S.rf
  have hml2 := hml
  have L17 : ∀ (n : Nat), ∀ (y2 : Int32) (y3 : Int32) (T : Ob × (Nat → Int32)) (H : Heap) (locs : List Loc) (ls : Array Slot), va_P D vwCl (wX8s cI cZ a b T) H → va_D A (wX8s cI cZ a b T) → va_S A s.heap H locs → lv_has ls 4 [(0, .ref (a 0)), (1, .ref (b 0)), (2, .int y2), (3, .int y3)] → wp_X8_cycle_L17 nw Q n y2 y3 T → W p l e rmX8_cycle s m ([.ref (a 0), .ref (b 0)] : List Value).toArray below meth c H locs 0 0 (MQ below (va_Qv Q (fun u => atW D cI cZ A (wX8s cI cZ a b u)) A) ([.ref (a 0), .ref (b 0)] : List Value).toArray s 0 0 A) (F0 m 17 ls []) := by
    intro n
    induction n with
    | zero =>
      intro y2 y3 T H locs ls hP hD hS hl h
      exact False.elim h
    | succ n ih =>
      intro y2 y3 T H locs ls hP hD hS hl h
      unfold wp_X8_cycle_L17 at h
      refine lv_iload_n hx hb dX8_cycle_17 rfl (lv_at hl 3 rfl) ?_
      refine lv_aload_n hx hb dX8_cycle_18 rfl (lv_at hl 1 rfl) ?_
      refine lv_bipush (v := 31) hx hb dX8_cycle_19 (by decide) ?_
      refine ar_il (f := T.2) (n := 342) (j := 31) hx hb hK hP 11 rfl (by decide) (okLit (by decide)) dX8_cycle_21 ?_
      refine lv_icmp_ge (tgt := 91) hx hb dX8_cycle_22 (by decide) (fun c3 => ?_) (fun c3 => ?_)
      · have h := h.1 c3
        refine lv_aload_n hx hb dX8_cycle_91 rfl (lv_at hl 1 rfl) ?_
        refine lv_bipush (v := 31) hx hb dX8_cycle_92 (by decide) ?_
        refine lv_iload_n hx hb dX8_cycle_94 rfl (lv_at hl 2 rfl) ?_
        obtain ⟨T4, eT4⟩ : ∃ z : (Nat → Int32), z = (upd T.2 31 y2) := ⟨_, rfl⟩
        refine ar_is (f := T.2) (n := 342) (j := 31) (x := y2) hx hb hK hP hD hS 11 rfl (by decide) (okLit (by decide)) dX8_cycle_95 (wX8s cI cZ a b (T.1, T4)) (by subst eT4; rfl) (fun H locs hP hD hS => ?_)
        have h := h T4 eT4
        refine lv_aload_n hx hb dX8_cycle_96 rfl (lv_at hl 1 rfl) ?_
        refine lv_bipush (v := 26) hx hb dX8_cycle_97 (by decide) ?_
        refine ar_il (f := T4) (n := 342) (j := 26) hx hb hK hP 11 rfl (by decide) (okLit (by decide)) dX8_cycle_99 ?_
        refine lv_if_eq (tgt := 133) hx hb dX8_cycle_100 (by decide) (fun c5 => ?_) (fun c5 => ?_)
        · have h := h.1 c5
          refine lv_aload_n hx hb dX8_cycle_133 rfl (lv_at hl 1 rfl) ?_
          refine lv_bipush (v := 20) hx hb dX8_cycle_134 (by decide) ?_
          refine ar_il (f := T4) (n := 342) (j := 20) hx hb hK hP 11 rfl (by decide) (okLit (by decide)) dX8_cycle_136 ?_
          refine lv_if_ne (tgt := 148) hx hb dX8_cycle_137 (by decide) (fun c6 => ?_) (fun c6 => ?_)
          · have h := h.1 c6
            refine lv_aload_n hx hb dX8_cycle_148 rfl (lv_at hl 1 rfl) ?_
            refine lv_bipush (v := 20) hx hb dX8_cycle_149 (by decide) ?_
            refine ar_il (f := T4) (n := 342) (j := 20) hx hb hK hP 11 rfl (by decide) (okLit (by decide)) dX8_cycle_151 ?_
            refine lv_iconst (v := 1) hx hb dX8_cycle_152 (by decide) ?_
            refine lv_icmp_ne (tgt := 164) hx hb dX8_cycle_153 (by decide) (fun c7 => ?_) (fun c7 => ?_)
            · have h := h.1 c7
              refine lv_aload_n hx hb dX8_cycle_164 rfl (lv_at hl 1 rfl) ?_
              refine lv_bipush (v := 20) hx hb dX8_cycle_165 (by decide) ?_
              refine ar_il (f := T4) (n := 342) (j := 20) hx hb hK hP 11 rfl (by decide) (okLit (by decide)) dX8_cycle_167 ?_
              refine lv_iconst (v := 2) hx hb dX8_cycle_168 (by decide) ?_
              refine lv_icmp_ne (tgt := 180) hx hb dX8_cycle_169 (by decide) (fun c8 => ?_) (fun c8 => ?_)
              · have h := h.1 c8
                refine lv_aload_n hx hb dX8_cycle_180 rfl (lv_at hl 1 rfl) ?_
                refine lv_bipush (v := 20) hx hb dX8_cycle_181 (by decide) ?_
                refine ar_il (f := T4) (n := 342) (j := 20) hx hb hK hP 11 rfl (by decide) (okLit (by decide)) dX8_cycle_183 ?_
                refine lv_iconst (v := 3) hx hb dX8_cycle_184 (by decide) ?_
                refine lv_icmp_ne (tgt := 196) hx hb dX8_cycle_185 (by decide) (fun c9 => ?_) (fun c9 => ?_)
                · have h := h.1 c9
                  refine lv_aload_n hx hb dX8_cycle_196 rfl (lv_at hl 1 rfl) ?_
                  refine lv_bipush (v := 20) hx hb dX8_cycle_197 (by decide) ?_
                  refine ar_il (f := T4) (n := 342) (j := 20) hx hb hK hP 11 rfl (by decide) (okLit (by decide)) dX8_cycle_199 ?_
                  refine lv_iconst (v := 4) hx hb dX8_cycle_200 (by decide) ?_
                  refine lv_icmp_ne (tgt := 209) hx hb dX8_cycle_201 (by decide) (fun c10 => ?_) (fun c10 => ?_)
                  · have h := h.1 c10
                    exact W.vret hx hb hr (fun t ht hW => ⟨⟨(T.1, T4), rfl, h, by rw [ht]; exact hP, va_K.moved hW.alike hK, hD⟩, hS.F ht⟩) hS.2.2 dX8_cycle_209
                  · have h := h.2 c10
                    refine lv_aload_n hx hb dX8_cycle_204 rfl (lv_at hl 0 rfl) ?_
                    refine lv_aload_n hx hb dX8_cycle_205 rfl (lv_at hl 1 rfl) ?_
                    refine cl_v (ws' := fun u11 => (wX8s cI cZ a b u11)) (va_runV (As := [.ref (b 0)]) (rest := []) ⟨hx, hb, hml, hown, hts⟩ (c_X8_saves l D cI cZ a b nw _ (T.1, T4) _ h hb4) (cwV 1 hts (gV q_1290 q_1292 q_48 q_75 q_1293) rfl rfl rfl (by decide +kernel) ⟨Nat.le_of_ble_eq_true rfl, Nat.le_of_ble_eq_true rfl⟩) (preV_of (ci := 7) (q := (RX8, TX8, 25)) hK hP hD [0, 1, 2, 3, 4, 5, 6, 7, 8, 9, 10, 11] rfl rfl (by decide) 0 rfl rfl) rfl rfl hl.1 rfl (lv_room (Nat.le_of_ble_eq_true rfl)) dX8_cycle_206 ⟨Nat.zero_le _, Nat.zero_le _⟩) hP hD hS hA [0, 1, 2, 3, 4, 5, 6, 7, 8, 9, 10, 11] [.inl 0, .inl 1, .inl 2, .inl 3, .inl 4, .inl 5, .inl 6, .inl 7, .inl 8, .inl 9, .inl 10, .inl 11] rfl (by decide) (fun _ => rfl) (fun _ => rfl) (fun u11 H locs h hP hD hS => ?_)
                    exact W.vret hx hb hr (fun t ht hW => ⟨⟨u11, rfl, h, by rw [ht]; exact hP, va_K.moved hW.alike hK, hD⟩, hS.F ht⟩) hS.2.2 dX8_cycle_209
                · have h := h.2 c9
                  refine lv_aload_n hx hb dX8_cycle_188 rfl (lv_at hl 0 rfl) ?_
                  refine lv_aload_n hx hb dX8_cycle_189 rfl (lv_at hl 1 rfl) ?_
                  refine cl_v (ws' := fun u12 => (wX8s cI cZ a b u12)) (va_runV (As := [.ref (b 0)]) (rest := []) ⟨hx, hb, hml, hown, hts⟩ (c_X8_unstacks l D cI cZ a b nw _ (T.1, T4) _ h hb4) (cwV 1 hts (gV q_1374 q_1376 q_57 q_75 q_1377) rfl rfl rfl (by decide +kernel) ⟨Nat.le_of_ble_eq_true rfl, Nat.le_of_ble_eq_true rfl⟩) (preV_of (ci := 7) (q := (RX8, TX8, 25)) hK hP hD [0, 1, 2, 3, 4, 5, 6, 7, 8, 9, 10, 11] rfl rfl (by decide) 0 rfl rfl) rfl rfl hl.1 rfl (lv_room (Nat.le_of_ble_eq_true rfl)) dX8_cycle_190 ⟨Nat.zero_le _, Nat.zero_le _⟩) hP hD hS hA [0, 1, 2, 3, 4, 5, 6, 7, 8, 9, 10, 11] [.inl 0, .inl 1, .inl 2, .inl 3, .inl 4, .inl 5, .inl 6, .inl 7, .inl 8, .inl 9, .inl 10, .inl 11] rfl (by decide) (fun _ => rfl) (fun _ => rfl) (fun u12 H locs h hP hD hS => ?_)
                  refine lv_goto (tgt := 209) hx hb dX8_cycle_193 (by decide) ?_
                  exact W.vret hx hb hr (fun t ht hW => ⟨⟨u12, rfl, h, by rw [ht]; exact hP, va_K.moved hW.alike hK, hD⟩, hS.F ht⟩) hS.2.2 dX8_cycle_209
              · have h := h.2 c8
                refine lv_aload_n hx hb dX8_cycle_172 rfl (lv_at hl 0 rfl) ?_
                refine lv_aload_n hx hb dX8_cycle_173 rfl (lv_at hl 1 rfl) ?_
                refine cl_v (ws' := fun u13 => (wX8s cI cZ a b u13)) (va_runV (As := [.ref (b 0)]) (rest := []) ⟨hx, hb, hml, hown, hts⟩ (c_X8_chains l D cI cZ a b nw _ (T.1, T4) _ h hb4) (cwV 1 hts (gV q_1370 q_1372 q_56 q_75 q_1373) rfl rfl rfl (by decide +kernel) ⟨Nat.le_of_ble_eq_true rfl, Nat.le_of_ble_eq_true rfl⟩) (preV_of (ci := 7) (q := (RX8, TX8, 25)) hK hP hD [0, 1, 2, 3, 4, 5, 6, 7, 8, 9, 10, 11] rfl rfl (by decide) 0 rfl rfl) rfl rfl hl.1 rfl (lv_room (Nat.le_of_ble_eq_true rfl)) dX8_cycle_174 ⟨Nat.zero_le _, Nat.zero_le _⟩) hP hD hS hA [0, 1, 2, 3, 4, 5, 6, 7, 8, 9, 10, 11] [.inl 0, .inl 1, .inl 2, .inl 3, .inl 4, .inl 5, .inl 6, .inl 7, .inl 8, .inl 9, .inl 10, .inl 11] rfl (by decide) (fun _ => rfl) (fun _ => rfl) (fun u13 H locs h hP hD hS => ?_)
                refine lv_goto (tgt := 209) hx hb dX8_cycle_177 (by decide) ?_
                exact W.vret hx hb hr (fun t ht hW => ⟨⟨u13, rfl, h, by rw [ht]; exact hP, va_K.moved hW.alike hK, hD⟩, hS.F ht⟩) hS.2.2 dX8_cycle_209
            · have h := h.2 c7
              refine lv_aload_n hx hb dX8_cycle_156 rfl (lv_at hl 0 rfl) ?_
              refine lv_aload_n hx hb dX8_cycle_157 rfl (lv_at hl 1 rfl) ?_
              refine cl_v (ws' := fun u14 => (wX8s cI cZ a b u14)) (va_runV (As := [.ref (b 0)]) (rest := []) ⟨hx, hb, hml, hown, hts⟩ (c_X8_stacks l D cI cZ a b nw _ (T.1, T4) _ h hb4) (cwV 1 hts (gV q_1254 q_1256 q_39 q_75 q_1257) rfl rfl rfl (by decide +kernel) ⟨Nat.le_of_ble_eq_true rfl, Nat.le_of_ble_eq_true rfl⟩) (preV_of (ci := 7) (q := (RX8, TX8, 25)) hK hP hD [0, 1, 2, 3, 4, 5, 6, 7, 8, 9, 10, 11] rfl rfl (by decide) 0 rfl rfl) rfl rfl hl.1 rfl (lv_room (Nat.le_of_ble_eq_true rfl)) dX8_cycle_158 ⟨Nat.zero_le _, Nat.zero_le _⟩) hP hD hS hA [0, 1, 2, 3, 4, 5, 6, 7, 8, 9, 10, 11] [.inl 0, .inl 1, .inl 2, .inl 3, .inl 4, .inl 5, .inl 6, .inl 7, .inl 8, .inl 9, .inl 10, .inl 11] rfl (by decide) (fun _ => rfl) (fun _ => rfl) (fun u14 H locs h hP hD hS => ?_)
              refine lv_goto (tgt := 209) hx hb dX8_cycle_161 (by decide) ?_
              exact W.vret hx hb hr (fun t ht hW => ⟨⟨u14, rfl, h, by rw [ht]; exact hP, va_K.moved hW.alike hK, hD⟩, hS.F ht⟩) hS.2.2 dX8_cycle_209
          · have h := h.2 c6
            refine lv_aload_n hx hb dX8_cycle_140 rfl (lv_at hl 0 rfl) ?_
            refine lv_aload_n hx hb dX8_cycle_141 rfl (lv_at hl 1 rfl) ?_
            refine cl_v (ws' := fun u15 => (wX8s cI cZ a b u15)) (va_runV (As := [.ref (b 0)]) (rest := []) ⟨hx, hb, hml, hown, hts⟩ (c_X8_runs l D cI cZ a b nw _ (T.1, T4) _ h hb4) (cwV 1 hts (gV q_1225 q_1227 q_34 q_75 q_1228) rfl rfl rfl (by decide +kernel) ⟨Nat.le_of_ble_eq_true rfl, Nat.le_of_ble_eq_true rfl⟩) (preTV_of (ci := 7) (q := (RX8, TX8, 25)) hF hS hA hK hP hD [0, 1, 2, 3, 4, 5, 6, 7, 8, 9, 10, 11] rfl rfl (by decide) 0 rfl rfl) rfl rfl hl.1 rfl (lv_room (Nat.le_of_ble_eq_true rfl)) dX8_cycle_142 ⟨Nat.zero_le _, Nat.zero_le _⟩) hP hD hS hA [0, 1, 2, 3, 4, 5, 6, 7, 8, 9, 10, 11] [.inl 0, .inl 1, .inl 2, .inl 3, .inl 4, .inl 5, .inl 6, .inl 7, .inl 8, .inl 9, .inl 10, .inl 11] rfl (by decide) (fun _ => rfl) (fun _ => rfl) (fun u15 H locs h hP hD hS => ?_)
            refine lv_goto (tgt := 209) hx hb dX8_cycle_145 (by decide) ?_
            exact W.vret hx hb hr (fun t ht hW => ⟨⟨u15, rfl, h, by rw [ht]; exact hP, va_K.moved hW.alike hK, hD⟩, hS.F ht⟩) hS.2.2 dX8_cycle_209
        · have h := h.2 c5
          refine lv_aload_n hx hb dX8_cycle_103 rfl (lv_at hl 1 rfl) ?_
          refine lv_bipush (v := 27) hx hb dX8_cycle_104 (by decide) ?_
          refine lv_dup2_11 hx hb dX8_cycle_106 rfl rfl ?_
          refine ar_il (f := T4) (n := 342) (j := 27) hx hb hK hP 11 rfl (by decide) (okLit (by decide)) dX8_cycle_107 ?_
          refine lv_iconst (v := 1) hx hb dX8_cycle_108 (by decide) ?_
          refine lv_isub hx hb dX8_cycle_109 ?_
          obtain ⟨T16, eT16⟩ : ∃ z : (Nat → Int32), z = (upd T4 27 ((T4 27) - 1)) := ⟨_, rfl⟩
          refine ar_is (f := T4) (n := 342) (j := 27) (x := ((T4 27) - 1)) hx hb hK hP hD hS 11 rfl (by decide) (okLit (by decide)) dX8_cycle_110 (wX8s cI cZ a b (T.1, T16)) (by subst eT16; rfl) (fun H locs hP hD hS => ?_)
          have h := h T16 eT16
          refine lv_aload_n hx hb dX8_cycle_111 rfl (lv_at hl 1 rfl) ?_
          refine lv_bipush (v := 27) hx hb dX8_cycle_112 (by decide) ?_
          refine ar_il (f := T16) (n := 342) (j := 27) hx hb hK hP 11 rfl (by decide) (okLit (by decide)) dX8_cycle_114 ?_
          refine lv_if_ne (tgt := 133) hx hb dX8_cycle_115 (by decide) (fun c17 => ?_) (fun c17 => ?_)
          · have h := h.1 c17
            refine lv_aload_n hx hb dX8_cycle_133 rfl (lv_at hl 1 rfl) ?_
            refine lv_bipush (v := 20) hx hb dX8_cycle_134 (by decide) ?_
            refine ar_il (f := T16) (n := 342) (j := 20) hx hb hK hP 11 rfl (by decide) (okLit (by decide)) dX8_cycle_136 ?_
            refine lv_if_ne (tgt := 148) hx hb dX8_cycle_137 (by decide) (fun c18 => ?_) (fun c18 => ?_)
            · have h := h.1 c18
              refine lv_aload_n hx hb dX8_cycle_148 rfl (lv_at hl 1 rfl) ?_
              refine lv_bipush (v := 20) hx hb dX8_cycle_149 (by decide) ?_
              refine ar_il (f := T16) (n := 342) (j := 20) hx hb hK hP 11 rfl (by decide) (okLit (by decide)) dX8_cycle_151 ?_
              refine lv_iconst (v := 1) hx hb dX8_cycle_152 (by decide) ?_
              refine lv_icmp_ne (tgt := 164) hx hb dX8_cycle_153 (by decide) (fun c19 => ?_) (fun c19 => ?_)
              · have h := h.1 c19
                refine lv_aload_n hx hb dX8_cycle_164 rfl (lv_at hl 1 rfl) ?_
                refine lv_bipush (v := 20) hx hb dX8_cycle_165 (by decide) ?_
                refine ar_il (f := T16) (n := 342) (j := 20) hx hb hK hP 11 rfl (by decide) (okLit (by decide)) dX8_cycle_167 ?_
                refine lv_iconst (v := 2) hx hb dX8_cycle_168 (by decide) ?_
                refine lv_icmp_ne (tgt := 180) hx hb dX8_cycle_169 (by decide) (fun c20 => ?_) (fun c20 => ?_)
                · have h := h.1 c20
                  refine lv_aload_n hx hb dX8_cycle_180 rfl (lv_at hl 1 rfl) ?_
                  refine lv_bipush (v := 20) hx hb dX8_cycle_181 (by decide) ?_
                  refine ar_il (f := T16) (n := 342) (j := 20) hx hb hK hP 11 rfl (by decide) (okLit (by decide)) dX8_cycle_183 ?_
                  refine lv_iconst (v := 3) hx hb dX8_cycle_184 (by decide) ?_
                  refine lv_icmp_ne (tgt := 196) hx hb dX8_cycle_185 (by decide) (fun c21 => ?_) (fun c21 => ?_)
                  · have h := h.1 c21
                    refine lv_aload_n hx hb dX8_cycle_196 rfl (lv_at hl 1 rfl) ?_
                    refine lv_bipush (v := 20) hx hb dX8_cycle_197 (by decide) ?_
                    refine ar_il (f := T16) (n := 342) (j := 20) hx hb hK hP 11 rfl (by decide) (okLit (by decide)) dX8_cycle_199 ?_
                    refine lv_iconst (v := 4) hx hb dX8_cycle_200 (by decide) ?_
                    refine lv_icmp_ne (tgt := 209) hx hb dX8_cycle_201 (by decide) (fun c22 => ?_) (fun c22 => ?_)
                    · have h := h.1 c22
                      exact W.vret hx hb hr (fun t ht hW => ⟨⟨(T.1, T16), rfl, h, by rw [ht]; exact hP, va_K.moved hW.alike hK, hD⟩, hS.F ht⟩) hS.2.2 dX8_cycle_209
                    · have h := h.2 c22
                      refine lv_aload_n hx hb dX8_cycle_204 rfl (lv_at hl 0 rfl) ?_
                      refine lv_aload_n hx hb dX8_cycle_205 rfl (lv_at hl 1 rfl) ?_
                      refine cl_v (ws' := fun u23 => (wX8s cI cZ a b u23)) (va_runV (As := [.ref (b 0)]) (rest := []) ⟨hx, hb, hml, hown, hts⟩ (c_X8_saves l D cI cZ a b nw _ (T.1, T16) _ h hb4) (cwV 1 hts (gV q_1290 q_1292 q_48 q_75 q_1293) rfl rfl rfl (by decide +kernel) ⟨Nat.le_of_ble_eq_true rfl, Nat.le_of_ble_eq_true rfl⟩) (preV_of (ci := 7) (q := (RX8, TX8, 25)) hK hP hD [0, 1, 2, 3, 4, 5, 6, 7, 8, 9, 10, 11] rfl rfl (by decide) 0 rfl rfl) rfl rfl hl.1 rfl (lv_room (Nat.le_of_ble_eq_true rfl)) dX8_cycle_206 ⟨Nat.zero_le _, Nat.zero_le _⟩) hP hD hS hA [0, 1, 2, 3, 4, 5, 6, 7, 8, 9, 10, 11] [.inl 0, .inl 1, .inl 2, .inl 3, .inl 4, .inl 5, .inl 6, .inl 7, .inl 8, .inl 9, .inl 10, .inl 11] rfl (by decide) (fun _ => rfl) (fun _ => rfl) (fun u23 H locs h hP hD hS => ?_)
                      exact W.vret hx hb hr (fun t ht hW => ⟨⟨u23, rfl, h, by rw [ht]; exact hP, va_K.moved hW.alike hK, hD⟩, hS.F ht⟩) hS.2.2 dX8_cycle_209
                  · have h := h.2 c21
                    refine lv_aload_n hx hb dX8_cycle_188 rfl (lv_at hl 0 rfl) ?_
                    refine lv_aload_n hx hb dX8_cycle_189 rfl (lv_at hl 1 rfl) ?_
                    refine cl_v (ws' := fun u24 => (wX8s cI cZ a b u24)) (va_runV (As := [.ref (b 0)]) (rest := []) ⟨hx, hb, hml, hown, hts⟩ (c_X8_unstacks l D cI cZ a b nw _ (T.1, T16) _ h hb4) (cwV 1 hts (gV q_1374 q_1376 q_57 q_75 q_1377) rfl rfl rfl (by decide +kernel) ⟨Nat.le_of_ble_eq_true rfl, Nat.le_of_ble_eq_true rfl⟩) (preV_of (ci := 7) (q := (RX8, TX8, 25)) hK hP hD [0, 1, 2, 3, 4, 5, 6, 7, 8, 9, 10, 11] rfl rfl (by decide) 0 rfl rfl) rfl rfl hl.1 rfl (lv_room (Nat.le_of_ble_eq_true rfl)) dX8_cycle_190 ⟨Nat.zero_le _, Nat.zero_le _⟩) hP hD hS hA [0, 1, 2, 3, 4, 5, 6, 7, 8, 9, 10, 11] [.inl 0, .inl 1, .inl 2, .inl 3, .inl 4, .inl 5, .inl 6, .inl 7, .inl 8, .inl 9, .inl 10, .inl 11] rfl (by decide) (fun _ => rfl) (fun _ => rfl) (fun u24 H locs h hP hD hS => ?_)
                    refine lv_goto (tgt := 209) hx hb dX8_cycle_193 (by decide) ?_
                    exact W.vret hx hb hr (fun t ht hW => ⟨⟨u24, rfl, h, by rw [ht]; exact hP, va_K.moved hW.alike hK, hD⟩, hS.F ht⟩) hS.2.2 dX8_cycle_209
                · have h := h.2 c20
                  refine lv_aload_n hx hb dX8_cycle_172 rfl (lv_at hl 0 rfl) ?_
                  refine lv_aload_n hx hb dX8_cycle_173 rfl (lv_at hl 1 rfl) ?_
                  refine cl_v (ws' := fun u25 => (wX8s cI cZ a b u25)) (va_runV (As := [.ref (b 0)]) (rest := []) ⟨hx, hb, hml, hown, hts⟩ (c_X8_chains l D cI cZ a b nw _ (T.1, T16) _ h hb4) (cwV 1 hts (gV q_1370 q_1372 q_56 q_75 q_1373) rfl rfl rfl (by decide +kernel) ⟨Nat.le_of_ble_eq_true rfl, Nat.le_of_ble_eq_true rfl⟩) (preV_of (ci := 7) (q := (RX8, TX8, 25)) hK hP hD [0, 1, 2, 3, 4, 5, 6, 7, 8, 9, 10, 11] rfl rfl (by decide) 0 rfl rfl) rfl rfl hl.1 rfl (lv_room (Nat.le_of_ble_eq_true rfl)) dX8_cycle_174 ⟨Nat.zero_le _, Nat.zero_le _⟩) hP hD hS hA [0, 1, 2, 3, 4, 5, 6, 7, 8, 9, 10, 11] [.inl 0, .inl 1, .inl 2, .inl 3, .inl 4, .inl 5, .inl 6, .inl 7, .inl 8, .inl 9, .inl 10, .inl 11] rfl (by decide) (fun _ => rfl) (fun _ => rfl) (fun u25 H locs h hP hD hS => ?_)
                  refine lv_goto (tgt := 209) hx hb dX8_cycle_177 (by decide) ?_
                  exact W.vret hx hb hr (fun t ht hW => ⟨⟨u25, rfl, h, by rw [ht]; exact hP, va_K.moved hW.alike hK, hD⟩, hS.F ht⟩) hS.2.2 dX8_cycle_209
              · have h := h.2 c19
                refine lv_aload_n hx hb dX8_cycle_156 rfl (lv_at hl 0 rfl) ?_
                refine lv_aload_n hx hb dX8_cycle_157 rfl (lv_at hl 1 rfl) ?_
                refine cl_v (ws' := fun u26 => (wX8s cI cZ a b u26)) (va_runV (As := [.ref (b 0)]) (rest := []) ⟨hx, hb, hml, hown, hts⟩ (c_X8_stacks l D cI cZ a b nw _ (T.1, T16) _ h hb4) (cwV 1 hts (gV q_1254 q_1256 q_39 q_75 q_1257) rfl rfl rfl (by decide +kernel) ⟨Nat.le_of_ble_eq_true rfl, Nat.le_of_ble_eq_true rfl⟩) (preV_of (ci := 7) (q := (RX8, TX8, 25)) hK hP hD [0, 1, 2, 3, 4, 5, 6, 7, 8, 9, 10, 11] rfl rfl (by decide) 0 rfl rfl) rfl rfl hl.1 rfl (lv_room (Nat.le_of_ble_eq_true rfl)) dX8_cycle_158 ⟨Nat.zero_le _, Nat.zero_le _⟩) hP hD hS hA [0, 1, 2, 3, 4, 5, 6, 7, 8, 9, 10, 11] [.inl 0, .inl 1, .inl 2, .inl 3, .inl 4, .inl 5, .inl 6, .inl 7, .inl 8, .inl 9, .inl 10, .inl 11] rfl (by decide) (fun _ => rfl) (fun _ => rfl) (fun u26 H locs h hP hD hS => ?_)
                refine lv_goto (tgt := 209) hx hb dX8_cycle_161 (by decide) ?_
                exact W.vret hx hb hr (fun t ht hW => ⟨⟨u26, rfl, h, by rw [ht]; exact hP, va_K.moved hW.alike hK, hD⟩, hS.F ht⟩) hS.2.2 dX8_cycle_209
            · have h := h.2 c18
              refine lv_aload_n hx hb dX8_cycle_140 rfl (lv_at hl 0 rfl) ?_
              refine lv_aload_n hx hb dX8_cycle_141 rfl (lv_at hl 1 rfl) ?_
              refine cl_v (ws' := fun u27 => (wX8s cI cZ a b u27)) (va_runV (As := [.ref (b 0)]) (rest := []) ⟨hx, hb, hml, hown, hts⟩ (c_X8_runs l D cI cZ a b nw _ (T.1, T16) _ h hb4) (cwV 1 hts (gV q_1225 q_1227 q_34 q_75 q_1228) rfl rfl rfl (by decide +kernel) ⟨Nat.le_of_ble_eq_true rfl, Nat.le_of_ble_eq_true rfl⟩) (preTV_of (ci := 7) (q := (RX8, TX8, 25)) hF hS hA hK hP hD [0, 1, 2, 3, 4, 5, 6, 7, 8, 9, 10, 11] rfl rfl (by decide) 0 rfl rfl) rfl rfl hl.1 rfl (lv_room (Nat.le_of_ble_eq_true rfl)) dX8_cycle_142 ⟨Nat.zero_le _, Nat.zero_le _⟩) hP hD hS hA [0, 1, 2, 3, 4, 5, 6, 7, 8, 9, 10, 11] [.inl 0, .inl 1, .inl 2, .inl 3, .inl 4, .inl 5, .inl 6, .inl 7, .inl 8, .inl 9, .inl 10, .inl 11] rfl (by decide) (fun _ => rfl) (fun _ => rfl) (fun u27 H locs h hP hD hS => ?_)
              refine lv_goto (tgt := 209) hx hb dX8_cycle_145 (by decide) ?_
              exact W.vret hx hb hr (fun t ht hW => ⟨⟨u27, rfl, h, by rw [ht]; exact hP, va_K.moved hW.alike hK, hD⟩, hS.F ht⟩) hS.2.2 dX8_cycle_209
          · have h := h.2 c17
            refine lv_aload_n hx hb dX8_cycle_118 rfl (lv_at hl 0 rfl) ?_
            refine lv_aload_n hx hb dX8_cycle_119 rfl (lv_at hl 1 rfl) ?_
            refine lv_bipush (v := 16) hx hb dX8_cycle_120 (by decide) ?_
            refine cl_v (ws' := fun u28 => (wX8s cI cZ a b u28)) (va_runV (As := [.ref (b 0), .int 16]) (rest := []) ⟨hx, hb, hml, hown, hts⟩ (c_X8_pends l D cI cZ a b nw _ (T.1, T16) 16 _ h hb4) (cwV 2 hts (gV q_1189 q_1191 q_30 q_75 q_1192) rfl rfl rfl (by decide +kernel) ⟨Nat.le_of_ble_eq_true rfl, Nat.le_of_ble_eq_true rfl⟩) (preV_of (ci := 7) (q := (RX8, TX8, 25)) hK hP hD [0, 1, 2, 3, 4, 5, 6, 7, 8, 9, 10, 11] rfl rfl (by decide) 0 rfl rfl) rfl rfl hl.1 rfl (lv_room (Nat.le_of_ble_eq_true rfl)) dX8_cycle_122 ⟨Nat.zero_le _, Nat.zero_le _⟩) hP hD hS hA [0, 1, 2, 3, 4, 5, 6, 7, 8, 9, 10, 11] [.inl 0, .inl 1, .inl 2, .inl 3, .inl 4, .inl 5, .inl 6, .inl 7, .inl 8, .inl 9, .inl 10, .inl 11] rfl (by decide) (fun _ => rfl) (fun _ => rfl) (fun u28 H locs h hP hD hS => ?_)
            refine lv_aload_n hx hb dX8_cycle_125 rfl (lv_at hl 1 rfl) ?_
            refine lv_bipush (v := 27) hx hb dX8_cycle_126 (by decide) ?_
            refine lv_aload_n hx hb dX8_cycle_128 rfl (lv_at hl 1 rfl) ?_
            refine lv_bipush (v := 26) hx hb dX8_cycle_129 (by decide) ?_
            refine ar_il (f := u28.2) (n := 342) (j := 26) hx hb hK hP 11 rfl (by decide) (okLit (by decide)) dX8_cycle_131 ?_
            obtain ⟨T29, eT29⟩ : ∃ z : (Nat → Int32), z = (upd u28.2 27 (u28.2 26)) := ⟨_, rfl⟩
            refine ar_is (f := u28.2) (n := 342) (j := 27) (x := (u28.2 26)) hx hb hK hP hD hS 11 rfl (by decide) (okLit (by decide)) dX8_cycle_132 (wX8s cI cZ a b (u28.1, T29)) (by subst eT29; rfl) (fun H locs hP hD hS => ?_)
            have h := h T29 eT29
            refine lv_aload_n hx hb dX8_cycle_133 rfl (lv_at hl 1 rfl) ?_
            refine lv_bipush (v := 20) hx hb dX8_cycle_134 (by decide) ?_
            refine ar_il (f := T29) (n := 342) (j := 20) hx hb hK hP 11 rfl (by decide) (okLit (by decide)) dX8_cycle_136 ?_
            refine lv_if_ne (tgt := 148) hx hb dX8_cycle_137 (by decide) (fun c30 => ?_) (fun c30 => ?_)
            · have h := h.1 c30
              refine lv_aload_n hx hb dX8_cycle_148 rfl (lv_at hl 1 rfl) ?_
              refine lv_bipush (v := 20) hx hb dX8_cycle_149 (by decide) ?_
              refine ar_il (f := T29) (n := 342) (j := 20) hx hb hK hP 11 rfl (by decide) (okLit (by decide)) dX8_cycle_151 ?_
              refine lv_iconst (v := 1) hx hb dX8_cycle_152 (by decide) ?_
              refine lv_icmp_ne (tgt := 164) hx hb dX8_cycle_153 (by decide) (fun c31 => ?_) (fun c31 => ?_)
              · have h := h.1 c31
                refine lv_aload_n hx hb dX8_cycle_164 rfl (lv_at hl 1 rfl) ?_
                refine lv_bipush (v := 20) hx hb dX8_cycle_165 (by decide) ?_
                refine ar_il (f := T29) (n := 342) (j := 20) hx hb hK hP 11 rfl (by decide) (okLit (by decide)) dX8_cycle_167 ?_
                refine lv_iconst (v := 2) hx hb dX8_cycle_168 (by decide) ?_
                refine lv_icmp_ne (tgt := 180) hx hb dX8_cycle_169 (by decide) (fun c32 => ?_) (fun c32 => ?_)
                · have h := h.1 c32
                  refine lv_aload_n hx hb dX8_cycle_180 rfl (lv_at hl 1 rfl) ?_
                  refine lv_bipush (v := 20) hx hb dX8_cycle_181 (by decide) ?_
                  refine ar_il (f := T29) (n := 342) (j := 20) hx hb hK hP 11 rfl (by decide) (okLit (by decide)) dX8_cycle_183 ?_
                  refine lv_iconst (v := 3) hx hb dX8_cycle_184 (by decide) ?_
                  refine lv_icmp_ne (tgt := 196) hx hb dX8_cycle_185 (by decide) (fun c33 => ?_) (fun c33 => ?_)
                  · have h := h.1 c33
                    refine lv_aload_n hx hb dX8_cycle_196 rfl (lv_at hl 1 rfl) ?_
                    refine lv_bipush (v := 20) hx hb dX8_cycle_197 (by decide) ?_
                    refine ar_il (f := T29) (n := 342) (j := 20) hx hb hK hP 11 rfl (by decide) (okLit (by decide)) dX8_cycle_199 ?_
                    refine lv_iconst (v := 4) hx hb dX8_cycle_200 (by decide) ?_
                    refine lv_icmp_ne (tgt := 209) hx hb dX8_cycle_201 (by decide) (fun c34 => ?_) (fun c34 => ?_)
                    · have h := h.1 c34
                      exact W.vret hx hb hr (fun t ht hW => ⟨⟨(u28.1, T29), rfl, h, by rw [ht]; exact hP, va_K.moved hW.alike hK, hD⟩, hS.F ht⟩) hS.2.2 dX8_cycle_209
                    · have h := h.2 c34
                      refine lv_aload_n hx hb dX8_cycle_204 rfl (lv_at hl 0 rfl) ?_
                      refine lv_aload_n hx hb dX8_cycle_205 rfl (lv_at hl 1 rfl) ?_
                      refine cl_v (ws' := fun u35 => (wX8s cI cZ a b u35)) (va_runV (As := [.ref (b 0)]) (rest := []) ⟨hx, hb, hml, hown, hts⟩ (c_X8_saves l D cI cZ a b nw _ (u28.1, T29) _ h hb4) (cwV 1 hts (gV q_1290 q_1292 q_48 q_75 q_1293) rfl rfl rfl (by decide +kernel) ⟨Nat.le_of_ble_eq_true rfl, Nat.le_of_ble_eq_true rfl⟩) (preV_of (ci := 7) (q := (RX8, TX8, 25)) hK hP hD [0, 1, 2, 3, 4, 5, 6, 7, 8, 9, 10, 11] rfl rfl (by decide) 0 rfl rfl) rfl rfl hl.1 rfl (lv_room (Nat.le_of_ble_eq_true rfl)) dX8_cycle_206 ⟨Nat.zero_le _, Nat.zero_le _⟩) hP hD hS hA [0, 1, 2, 3, 4, 5, 6, 7, 8, 9, 10, 11] [.inl 0, .inl 1, .inl 2, .inl 3, .inl 4, .inl 5, .inl 6, .inl 7, .inl 8, .inl 9, .inl 10, .inl 11] rfl (by decide) (fun _ => rfl) (fun _ => rfl) (fun u35 H locs h hP hD hS => ?_)
                      exact W.vret hx hb hr (fun t ht hW => ⟨⟨u35, rfl, h, by rw [ht]; exact hP, va_K.moved hW.alike hK, hD⟩, hS.F ht⟩) hS.2.2 dX8_cycle_209
                  · have h := h.2 c33
                    refine lv_aload_n hx hb dX8_cycle_188 rfl (lv_at hl 0 rfl) ?_
                    refine lv_aload_n hx hb dX8_cycle_189 rfl (lv_at hl 1 rfl) ?_
                    refine cl_v (ws' := fun u36 => (wX8s cI cZ a b u36)) (va_runV (As := [.ref (b 0)]) (rest := []) ⟨hx, hb, hml, hown, hts⟩ (c_X8_unstacks l D cI cZ a b nw _ (u28.1, T29) _ h hb4) (cwV 1 hts (gV q_1374 q_1376 q_57 q_75 q_1377) rfl rfl rfl (by decide +kernel) ⟨Nat.le_of_ble_eq_true rfl, Nat.le_of_ble_eq_true rfl⟩) (preV_of (ci := 7) (q := (RX8, TX8, 25)) hK hP hD [0, 1, 2, 3, 4, 5, 6, 7, 8, 9, 10, 11] rfl rfl (by decide) 0 rfl rfl) rfl rfl hl.1 rfl (lv_room (Nat.le_of_ble_eq_true rfl)) dX8_cycle_190 ⟨Nat.zero_le _, Nat.zero_le _⟩) hP hD hS hA [0, 1, 2, 3, 4, 5, 6, 7, 8, 9, 10, 11] [.inl 0, .inl 1, .inl 2, .inl 3, .inl 4, .inl 5, .inl 6, .inl 7, .inl 8, .inl 9, .inl 10, .inl 11] rfl (by decide) (fun _ => rfl) (fun _ => rfl) (fun u36 H locs h hP hD hS => ?_)
                    refine lv_goto (tgt := 209) hx hb dX8_cycle_193 (by decide) ?_
                    exact W.vret hx hb hr (fun t ht hW => ⟨⟨u36, rfl, h, by rw [ht]; exact hP, va_K.moved hW.alike hK, hD⟩, hS.F ht⟩) hS.2.2 dX8_cycle_209
                · have h := h.2 c32
                  refine lv_aload_n hx hb dX8_cycle_172 rfl (lv_at hl 0 rfl) ?_
                  refine lv_aload_n hx hb dX8_cycle_173 rfl (lv_at hl 1 rfl) ?_
                  refine cl_v (ws' := fun u37 => (wX8s cI cZ a b u37)) (va_runV (As := [.ref (b 0)]) (rest := []) ⟨hx, hb, hml, hown, hts⟩ (c_X8_chains l D cI cZ a b nw _ (u28.1, T29) _ h hb4) (cwV 1 hts (gV q_1370 q_1372 q_56 q_75 q_1373) rfl rfl rfl (by decide +kernel) ⟨Nat.le_of_ble_eq_true rfl, Nat.le_of_ble_eq_true rfl⟩) (preV_of (ci := 7) (q := (RX8, TX8, 25)) hK hP hD [0, 1, 2, 3, 4, 5, 6, 7, 8, 9, 10, 11] rfl rfl (by decide) 0 rfl rfl) rfl rfl hl.1 rfl (lv_room (Nat.le_of_ble_eq_true rfl)) dX8_cycle_174 ⟨Nat.zero_le _, Nat.zero_le _⟩) hP hD hS hA [0, 1, 2, 3, 4, 5, 6, 7, 8, 9, 10, 11] [.inl 0, .inl 1, .inl 2, .inl 3, .inl 4, .inl 5, .inl 6, .inl 7, .inl 8, .inl 9, .inl 10, .inl 11] rfl (by decide) (fun _ => rfl) (fun _ => rfl) (fun u37 H locs h hP hD hS => ?_)
                  refine lv_goto (tgt := 209) hx hb dX8_cycle_177 (by decide) ?_
                  exact W.vret hx hb hr (fun t ht hW => ⟨⟨u37, rfl, h, by rw [ht]; exact hP, va_K.moved hW.alike hK, hD⟩, hS.F ht⟩) hS.2.2 dX8_cycle_209
              · have h := h.2 c31
                refine lv_aload_n hx hb dX8_cycle_156 rfl (lv_at hl 0 rfl) ?_
                refine lv_aload_n hx hb dX8_cycle_157 rfl (lv_at hl 1 rfl) ?_
                refine cl_v (ws' := fun u38 => (wX8s cI cZ a b u38)) (va_runV (As := [.ref (b 0)]) (rest := []) ⟨hx, hb, hml, hown, hts⟩ (c_X8_stacks l D cI cZ a b nw _ (u28.1, T29) _ h hb4) (cwV 1 hts (gV q_1254 q_1256 q_39 q_75 q_1257) rfl rfl rfl (by decide +kernel) ⟨Nat.le_of_ble_eq_true rfl, Nat.le_of_ble_eq_true rfl⟩) (preV_of (ci := 7) (q := (RX8, TX8, 25)) hK hP hD [0, 1, 2, 3, 4, 5, 6, 7, 8, 9, 10, 11] rfl rfl (by decide) 0 rfl rfl) rfl rfl hl.1 rfl (lv_room (Nat.le_of_ble_eq_true rfl)) dX8_cycle_158 ⟨Nat.zero_le _, Nat.zero_le _⟩) hP hD hS hA [0, 1, 2, 3, 4, 5, 6, 7, 8, 9, 10, 11] [.inl 0, .inl 1, .inl 2, .inl 3, .inl 4, .inl 5, .inl 6, .inl 7, .inl 8, .inl 9, .inl 10, .inl 11] rfl (by decide) (fun _ => rfl) (fun _ => rfl) (fun u38 H locs h hP hD hS => ?_)
                refine lv_goto (tgt := 209) hx hb dX8_cycle_161 (by decide) ?_
                exact W.vret hx hb hr (fun t ht hW => ⟨⟨u38, rfl, h, by rw [ht]; exact hP, va_K.moved hW.alike hK, hD⟩, hS.F ht⟩) hS.2.2 dX8_cycle_209
            · have h := h.2 c30
              refine lv_aload_n hx hb dX8_cycle_140 rfl (lv_at hl 0 rfl) ?_
              refine lv_aload_n hx hb dX8_cycle_141 rfl (lv_at hl 1 rfl) ?_
              refine cl_v (ws' := fun u39 => (wX8s cI cZ a b u39)) (va_runV (As := [.ref (b 0)]) (rest := []) ⟨hx, hb, hml, hown, hts⟩ (c_X8_runs l D cI cZ a b nw _ (u28.1, T29) _ h hb4) (cwV 1 hts (gV q_1225 q_1227 q_34 q_75 q_1228) rfl rfl rfl (by decide +kernel) ⟨Nat.le_of_ble_eq_true rfl, Nat.le_of_ble_eq_true rfl⟩) (preTV_of (ci := 7) (q := (RX8, TX8, 25)) hF hS hA hK hP hD [0, 1, 2, 3, 4, 5, 6, 7, 8, 9, 10, 11] rfl rfl (by decide) 0 rfl rfl) rfl rfl hl.1 rfl (lv_room (Nat.le_of_ble_eq_true rfl)) dX8_cycle_142 ⟨Nat.zero_le _, Nat.zero_le _⟩) hP hD hS hA [0, 1, 2, 3, 4, 5, 6, 7, 8, 9, 10, 11] [.inl 0, .inl 1, .inl 2, .inl 3, .inl 4, .inl 5, .inl 6, .inl 7, .inl 8, .inl 9, .inl 10, .inl 11] rfl (by decide) (fun _ => rfl) (fun _ => rfl) (fun u39 H locs h hP hD hS => ?_)
              refine lv_goto (tgt := 209) hx hb dX8_cycle_145 (by decide) ?_
              exact W.vret hx hb hr (fun t ht hW => ⟨⟨u39, rfl, h, by rw [ht]; exact hP, va_K.moved hW.alike hK, hD⟩, hS.F ht⟩) hS.2.2 dX8_cycle_209
      · have h := h.2 c3
        refine lv_aload_n hx hb dX8_cycle_25 rfl (lv_at hl 1 rfl) ?_
        refine lv_sipush (v := 268) hx hb dX8_cycle_26 (by decide) ?_
        refine lv_iload_n hx hb dX8_cycle_29 rfl (lv_at hl 3 rfl) ?_
        refine lv_iadd hx hb dX8_cycle_30 ?_
        refine ar_il (f := T.2) (n := 342) (j := (Int32.toNatClampNeg (268 + y3))) hx hb hK hP 11 rfl rfl h.1 dX8_cycle_31 ?_
        have h := h.2
        refine lv_aload_n hx hb dX8_cycle_32 rfl (lv_at hl 1 rfl) ?_
        refine lv_bipush (v := 25) hx hb dX8_cycle_33 (by decide) ?_
        refine ar_il (f := T.2) (n := 342) (j := 25) hx hb hK hP 11 rfl (by decide) (okLit (by decide)) dX8_cycle_35 ?_
        refine lv_icmp_ne (tgt := 54) hx hb dX8_cycle_36 (by decide) (fun c40 => ?_) (fun c40 => ?_)
        · have h := h.1 c40
          refine lv_aload_n hx hb dX8_cycle_54 rfl (lv_at hl 1 rfl) ?_
          refine lv_sipush (v := 236) hx hb dX8_cycle_55 (by decide) ?_
          refine lv_iload_n hx hb dX8_cycle_58 rfl (lv_at hl 2 rfl) ?_
          refine lv_iadd hx hb dX8_cycle_59 ?_
          refine lv_aload_n hx hb dX8_cycle_60 rfl (lv_at hl 1 rfl) ?_
          refine lv_sipush (v := 236) hx hb dX8_cycle_61 (by decide) ?_
          refine lv_iload_n hx hb dX8_cycle_64 rfl (lv_at hl 3 rfl) ?_
          refine lv_iadd hx hb dX8_cycle_65 ?_
          refine ar_il (f := T.2) (n := 342) (j := (Int32.toNatClampNeg (236 + y3))) hx hb hK hP 11 rfl rfl h.1 dX8_cycle_66 ?_
          have h := h.2
          obtain ⟨T41, eT41⟩ : ∃ z : (Nat → Int32), z = (upd T.2 (Int32.toNatClampNeg (236 + y2)) (T.2 (Int32.toNatClampNeg (236 + y3)))) := ⟨_, rfl⟩
          refine ar_is (f := T.2) (n := 342) (j := (Int32.toNatClampNeg (236 + y2))) (x := (T.2 (Int32.toNatClampNeg (236 + y3)))) hx hb hK hP hD hS 11 rfl rfl h.1 dX8_cycle_67 (wX8s cI cZ a b (T.1, T41)) (by subst eT41; rfl) (fun H locs hP hD hS => ?_)
          have h := h.2
          have h := h T41 eT41
          refine lv_aload_n hx hb dX8_cycle_68 rfl (lv_at hl 1 rfl) ?_
          refine lv_sipush (v := 268) hx hb dX8_cycle_69 (by decide) ?_
          refine lv_iload_n hx hb dX8_cycle_72 rfl (lv_at hl 2 rfl) ?_
          refine lv_iadd hx hb dX8_cycle_73 ?_
          refine lv_aload_n hx hb dX8_cycle_74 rfl (lv_at hl 1 rfl) ?_
          refine lv_sipush (v := 268) hx hb dX8_cycle_75 (by decide) ?_
          refine lv_iload_n hx hb dX8_cycle_78 rfl (lv_at hl 3 rfl) ?_
          refine lv_iadd hx hb dX8_cycle_79 ?_
          refine ar_il (f := T41) (n := 342) (j := (Int32.toNatClampNeg (268 + y3))) hx hb hK hP 11 rfl rfl h.1 dX8_cycle_80 ?_
          have h := h.2
          obtain ⟨T42, eT42⟩ : ∃ z : (Nat → Int32), z = (upd T41 (Int32.toNatClampNeg (268 + y2)) (T41 (Int32.toNatClampNeg (268 + y3)))) := ⟨_, rfl⟩
          refine ar_is (f := T41) (n := 342) (j := (Int32.toNatClampNeg (268 + y2))) (x := (T41 (Int32.toNatClampNeg (268 + y3)))) hx hb hK hP hD hS 11 rfl rfl h.1 dX8_cycle_81 (wX8s cI cZ a b (T.1, T42)) (by subst eT42; rfl) (fun H locs hP hD hS => ?_)
          have h := h.2
          have h := h T42 eT42
          obtain ⟨x43, ex43⟩ : ∃ y : Int32, y = (y2 + 1) := ⟨_, rfl⟩
          have h := h x43 ex43
          refine lv_iinc (v := x43) (lv' := [(2, .int x43), (0, .ref (a 0)), (1, .ref (b 0)), (3, .int y3)]) hx hb dX8_cycle_82 hl (k := 2) rfl (by rw [ex43]; rfl) (by decide) rfl (fun ls hl => ?_)
          obtain ⟨x44, ex44⟩ : ∃ y : Int32, y = (y3 + 1) := ⟨_, rfl⟩
          have h := h x44 ex44
          refine lv_iinc (v := x44) (lv' := [(3, .int x44), (2, .int x43), (0, .ref (a 0)), (1, .ref (b 0))]) hx hb dX8_cycle_85 hl (k := 3) rfl (by rw [ex44]; rfl) (by decide) rfl (fun ls hl => ?_)
          refine lv_goto (tgt := 17) hx hb dX8_cycle_88 (by decide) ?_
          exact ih x43 x44 (T.1, T42) _ _ _ hP hD hS (lv_sub hl [2, 3, 1, 0] rfl) h
        · have h := h.2 c40
          refine lv_aload_n hx hb dX8_cycle_39 rfl (lv_at hl 0 rfl) ?_
          refine lv_aload_n hx hb dX8_cycle_40 rfl (lv_at hl 1 rfl) ?_
          refine lv_aload_n hx hb dX8_cycle_41 rfl (lv_at hl 1 rfl) ?_
          refine lv_sipush (v := 236) hx hb dX8_cycle_42 (by decide) ?_
          refine lv_iload_n hx hb dX8_cycle_45 rfl (lv_at hl 3 rfl) ?_
          refine lv_iadd hx hb dX8_cycle_46 ?_
          refine ar_il (f := T.2) (n := 342) (j := (Int32.toNatClampNeg (236 + y3))) hx hb hK hP 11 rfl rfl h.1 dX8_cycle_47 ?_
          have h := h.2
          refine cl_v (ws' := fun u45 => (wX8s cI cZ a b u45)) (va_runV (As := [.ref (b 0), .int (T.2 (Int32.toNatClampNeg (236 + y3)))]) (rest := []) ⟨hx, hb, hml, hown, hts⟩ (c_X8_pends l D cI cZ a b nw _ T (T.2 (Int32.toNatClampNeg (236 + y3))) _ h hb4) (cwV 2 hts (gV q_1189 q_1191 q_30 q_75 q_1192) rfl rfl rfl (by decide +kernel) ⟨Nat.le_of_ble_eq_true rfl, Nat.le_of_ble_eq_true rfl⟩) (preV_of (ci := 7) (q := (RX8, TX8, 25)) hK hP hD [0, 1, 2, 3, 4, 5, 6, 7, 8, 9, 10, 11] rfl rfl (by decide) 0 rfl rfl) rfl rfl hl.1 rfl (lv_room (Nat.le_of_ble_eq_true rfl)) dX8_cycle_48 ⟨Nat.zero_le _, Nat.zero_le _⟩) hP hD hS hA [0, 1, 2, 3, 4, 5, 6, 7, 8, 9, 10, 11] [.inl 0, .inl 1, .inl 2, .inl 3, .inl 4, .inl 5, .inl 6, .inl 7, .inl 8, .inl 9, .inl 10, .inl 11] rfl (by decide) (fun _ => rfl) (fun _ => rfl) (fun u45 H locs h hP hD hS => ?_)
          refine lv_goto (tgt := 85) hx hb dX8_cycle_51 (by decide) ?_
          obtain ⟨x46, ex46⟩ : ∃ y : Int32, y = (y3 + 1) := ⟨_, rfl⟩
          have h := h x46 ex46
          refine lv_iinc (v := x46) (lv' := [(3, .int x46), (0, .ref (a 0)), (1, .ref (b 0)), (2, .int y2)]) hx hb dX8_cycle_85 hl (k := 3) rfl (by rw [ex46]; rfl) (by decide) rfl (fun ls hl => ?_)
          refine lv_goto (tgt := 17) hx hb dX8_cycle_88 (by decide) ?_
          exact ih y2 x46 u45 _ _ _ hP hD hS (lv_sub hl [1, 2, 3, 0] rfl) h
  have hl := lv_entry ([.ref (a 0), .ref (b 0)]) (n := 4) (Nat.le_of_ble_eq_true rfl)
  rw [lg_entry_eq]
  generalize (lg_sl ([.ref (a 0), .ref (b 0)]) ++ List.replicate (4 - (lg_sl ([.ref (a 0), .ref (b 0)])).length) Slot.unset).toArray = ls at hl ⊢
  have hl : lv_has ls 4 [(0, .ref (a 0)), (1, .ref (b 0))] := hl
  unfold wp_X8_cycle at h
  refine lv_aload_n hx hb dX8_cycle_0 rfl (lv_at hl 0 rfl) ?_
  refine lv_iconst (v := -1) hx hb dX8_cycle_1 (by decide) ?_
  obtain ⟨T1, eT1⟩ : ∃ z : Ob, z = (si S.1 16 (-1)) := ⟨_, rfl⟩
  refine pu_f (ci := 7) (v := .int (-1)) (ty := .int) (C := RX8) (T := TX8) (N := 25) hx hb hts inX8 tyX8 tyX8_ok nmX8 hown hK hP hD hS 0 rfl rfl 16 (by decide) (hts _ q_1093) (fun _ h9 => h9) rfl rfl rfl rfl (Nat.le_of_ble_eq_true rfl) dX8_cycle_2 (wX8s cI cZ a b (T1, S.2)) (by subst eT1; rfl) (fun H locs hP hD hS => ?_)
  have h := h T1 eT1
  refine lv_aload_n hx hb dX8_cycle_5 rfl (lv_at hl 1 rfl) ?_
  refine lv_bipush (v := 25) hx hb dX8_cycle_6 (by decide) ?_
  refine lv_dup2_11 hx hb dX8_cycle_8 rfl rfl ?_
  refine ar_il (f := S.2) (n := 342) (j := 25) hx hb hK hP 11 rfl (by decide) (okLit (by decide)) dX8_cycle_9 ?_
  refine lv_iconst (v := 1) hx hb dX8_cycle_10 (by decide) ?_
  refine lv_iadd hx hb dX8_cycle_11 ?_
  obtain ⟨T2, eT2⟩ : ∃ z : (Nat → Int32), z = (upd S.2 25 ((S.2 25) + 1)) := ⟨_, rfl⟩
  refine ar_is (f := S.2) (n := 342) (j := 25) (x := ((S.2 25) + 1)) hx hb hK hP hD hS 11 rfl (by decide) (okLit (by decide)) dX8_cycle_12 (wX8s cI cZ a b (T1, T2)) (by subst eT2; rfl) (fun H locs hP hD hS => ?_)
  have h := h T2 eT2
  refine lv_iconst (v := 0) hx hb dX8_cycle_13 (by decide) ?_
  refine lv_istore_n (lv' := [(2, .int 0), (0, .ref (a 0)), (1, .ref (b 0))]) hx hb dX8_cycle_14 rfl hl (by decide) rfl (fun ls hl => ?_)
  refine lv_iconst (v := 0) hx hb dX8_cycle_15 (by decide) ?_
  refine lv_istore_n (lv' := [(3, .int 0), (2, .int 0), (0, .ref (a 0)), (1, .ref (b 0))]) hx hb dX8_cycle_16 rfl hl (by decide) rfl (fun ls hl => ?_)
  exact L17 2000 0 0 (T1, T2) _ _ _ hP hD hS (lv_sub hl [2, 3, 1, 0] rfl) h
/-! X8_load -/
abbrev rmX8_load : Room := { frames := 1, cells := 0, slots := 0, locals := 22 }
set_option maxHeartbeats 4000000 in
set_option maxRecDepth 100000 in
theorem c_X8_load (l : Launch) (D : va_G) (cI cZ : ClassId) (a : Nat → Nat) (sz : Nat) (S : Ob) (p0 : Int32) (p1 : Int64) (Q : Int32 → Ob → Prop) (h : wp_X8_load S p0 p1 Q) : Met l yX8_load (wsm yX8_load cX8_load 5 (some .boolean)) rmX8_load (va_Pc [.ref (a 0), .int p0, .long p1] (preW D cI cZ sz (wX8 cI cZ a S))) (va_Qi Q (fun u => atW D cI cZ (va_A (wX8 cI cZ a S) sz) (wX8 cI cZ a u)) (va_A (wX8 cI cZ a S) sz)) 0 0 (va_A (wX8 cI cZ a S) sz) := by
  refine Met.ofW (cc := cX8_load) (maxL := 5) (ret := (some .boolean)) (by decide) rfl ?_
  intro p e s m args below meth c s₁ B hml hv
  obtain ⟨rfl, hsz, hP, hK, hD0⟩ := hv
  have hx := B.exec
  have hb := B.bytes
  have hr := B.returns
  have hts0 := atoms_spec (ws := wsm yX8_load cX8_load 5 (some .boolean)) B.pre
  have hts : ∀ w ∈ lw_all, w.before _ s = true := fun w h => hts0 w (List.mem_cons_of_mem _ h)
  have hown : s.vm.findClass RX8 = some m.cls := findClass_of_methodNamed B.named
  have hlocks := B.notSynchronized
  subst hsz
  have hD := hD0.self (sz := s.heap.size)
  generalize hAe : va_A (wX8 cI cZ a S) s.heap.size = A at hD ⊢
  have hA : ∀ q : Nat, s.heap.size ≤ q → A q := fun q h => by rw [← hAe]; exact Or.inr h
  have hS : va_S A s.heap s.heap [] := va_S.rf
  have hml2 := hml
  have L22 : ∀ (n : Nat), ∀ (y1 : Int32) (y2 : Int64) (y4 : Int32) (T : Ob) (H : Heap) (locs : List Loc) (ls : Array Slot), va_P D vwCl (wX8 cI cZ a T) H → va_D A (wX8 cI cZ a T) → va_S A s.heap H locs → lv_has ls 5 [(0, .ref (a 0)), (1, .int y1), (2, .long y2), (4, .int y4)] → wp_X8_load_L22 Q n y1 y2 y4 T → W p l e rmX8_load s m ([.ref (a 0), .int p0, .long p1] : List Value).toArray below meth c H locs 0 0 (MQ below (va_Qi Q (fun u => atW D cI cZ A (wX8 cI cZ a u)) A) ([.ref (a 0), .int p0, .long p1] : List Value).toArray s 0 0 A) (F0 m 22 ls []) := by
    intro n
    induction n with
    | zero =>
      intro y1 y2 y4 T H locs ls hP hD hS hl h
      exact False.elim h
    | succ n ih =>
      intro y1 y2 y4 T H locs ls hP hD hS hl h
      unfold wp_X8_load_L22 at h
      refine lv_iload hx hb dX8_load_22 (lv_at hl 3 rfl) ?_
      refine lv_if_lt (tgt := 53) hx hb dX8_load_24 (by decide) (fun c5 => ?_) (fun c5 => ?_)
      · have h := h.1 c5
        refine lv_iconst (v := 1) hx hb dX8_load_53 (by decide) ?_
        exact W.zret (ty := .boolean) (v := 1) hx hb hr (narB isB1) (fun t ht hW => ⟨⟨1, T, rfl, h, by rw [ht]; exact hP, va_K.moved hW.alike hK, hD⟩, hS.F ht⟩) hS.2.2 dX8_load_54
      · have h := h.2 c5
        refine lv_aload_n hx hb dX8_load_27 rfl (lv_at hl 0 rfl) ?_
        refine va_get (D := D) (ci := 7) (v := .ref (a 1)) (C := RX8) (T := TX8) (N := 25) hx hb hts inX8 hown hK hP 0 rfl rfl 0 (by decide) (hts _ q_1077) (fun _ h9 => h9) rfl dX8_load_28 ?_
        refine lv_iload_n hx hb dX8_load_31 rfl (lv_at hl 1 rfl) ?_
        refine lv_iload hx hb dX8_load_32 (lv_at hl 3 rfl) ?_
        refine lv_iadd hx hb dX8_load_34 ?_
        refine lv_lload_n hx hb dX8_load_35 rfl (lv_at hl 2 rfl) ?_
        refine lv_ldc2 hx hb hown (hts _ q_1164) dX8_load_36 ?_
        refine lv_land hx hb dX8_load_39 ?_
        refine lv_l2i (v := (Int64.toInt32 (y2 &&& 255))) hx hb dX8_load_40 rfl ?_
        obtain ⟨T6, eT6⟩ : ∃ z : Ob, z = (sa T 0 (upd (T.2 0) (Int32.toNatClampNeg (y1 + y4)) (Int64.toInt32 (y2 &&& 255)))) := ⟨_, rfl⟩
        refine ar_is (f := (T.2 0)) (n := 512) (j := (Int32.toNatClampNeg (y1 + y4))) (x := (Int64.toInt32 (y2 &&& 255))) hx hb hK hP hD hS 1 rfl rfl h.1 dX8_load_41 (wX8 cI cZ a T6) (by subst eT6; rfl) (fun H locs hP hD hS => ?_)
        have h := h.2
        have h := h T6 eT6
        refine lv_lload_n hx hb dX8_load_42 rfl (lv_at hl 2 rfl) ?_
        refine lv_bipush (v := 8) hx hb dX8_load_43 (by decide) ?_
        refine lv_lshr (v := (y2 >>> ((Int32.toInt64 8) &&& 63))) hx hb dX8_load_45 rfl ?_
        refine lv_topl (fun x7 ex7 => ?_)
        have h := h x7 ex7
        refine lv_lstore_n (lv' := [(2, .long x7), (0, .ref (a 0)), (1, .int y1), (4, .int y4)]) hx hb dX8_load_46 rfl hl (by decide) rfl (fun ls hl => ?_)
        obtain ⟨x8, ex8⟩ : ∃ y : Int32, y = (y4 + (-1)) := ⟨_, rfl⟩
        have h := h x8 ex8
        refine lv_iinc (v := x8) (lv' := [(4, .int x8), (2, .long x7), (0, .ref (a 0)), (1, .int y1)]) hx hb dX8_load_47 hl (k := 3) rfl (by rw [ex8]; rfl) (by decide) rfl (fun ls hl => ?_)
        refine lv_goto (tgt := 22) hx hb dX8_load_50 (by decide) ?_
        exact ih y1 x7 x8 T6 _ _ _ hP hD hS (lv_sub hl [2, 3, 1, 0] rfl) h
  have hl := lv_entry ([.ref (a 0), .int p0, .long p1]) (n := 5) (Nat.le_of_ble_eq_true rfl)
  rw [lg_entry_eq]
  generalize (lg_sl ([.ref (a 0), .int p0, .long p1]) ++ List.replicate (5 - (lg_sl ([.ref (a 0), .int p0, .long p1])).length) Slot.unset).toArray = ls at hl ⊢
  have hl : lv_has ls 5 [(0, .ref (a 0)), (1, .int p0), (2, .long p1)] := hl
  unfold wp_X8_load at h
  refine lv_aload_n hx hb dX8_load_0 rfl (lv_at hl 0 rfl) ?_
  refine lv_iconst (v := 0) hx hb dX8_load_1 (by decide) ?_
  obtain ⟨T1, eT1⟩ : ∃ z : Ob, z = (si S 17 0) := ⟨_, rfl⟩
  refine pu_f (ci := 7) (v := .int 0) (ty := .int) (C := RX8) (T := TX8) (N := 25) hx hb hts inX8 tyX8 tyX8_ok nmX8 hown hK hP hD hS 0 rfl rfl 17 (by decide) (hts _ q_1094) (fun _ h9 => h9) rfl rfl rfl rfl (Nat.le_of_ble_eq_true rfl) dX8_load_2 (wX8 cI cZ a T1) (by subst eT1; rfl) (fun H locs hP hD hS => ?_)
  have h := h T1 eT1
  refine lv_iload_n hx hb dX8_load_5 rfl (lv_at hl 1 rfl) ?_
  refine lv_iconst (v := 0) hx hb dX8_load_6 (by decide) ?_
  refine lv_sipush (v := 504) hx hb dX8_load_7 (by decide) ?_
  refine cl_i (ws' := fun u2 => (wX8 cI cZ a T1)) (va_runS (As := [.int p0, .int 0, .int 504]) (rest := []) ⟨hx, hb, hml, hown, hts⟩ (c_X8_within l D cI cZ _ () p0 0 504 _ h ) (va_cwS 3 hts (gS q_1161 q_1162 q_75 q_1163) rfl rfl rfl (by decide +kernel) ⟨Nat.le_of_ble_eq_true rfl, Nat.le_of_ble_eq_true rfl⟩) (preS_of hK hP hD [] rfl rfl (by decide)) rfl rfl hl.1 rfl (lv_room (Nat.le_of_ble_eq_true rfl)) dX8_load_10 ⟨Nat.zero_le _, Nat.zero_le _⟩) hP hD hS hA [] [.inr 0, .inr 1, .inr 2, .inr 3, .inr 4, .inr 5, .inr 6, .inr 7, .inr 8, .inr 9, .inr 10, .inr 11, .inr 12, .inr 13, .inr 14, .inr 15, .inr 16, .inr 17] rfl (by decide) (fun _ => rfl) (fun _ => rfl) (fun r3 u2 H locs h hP hD hS => ?_)
  refine lv_if_ne (tgt := 18) hx hb dX8_load_13 (by decide) (fun c4 => ?_) (fun c4 => ?_)
  · have h := h.1 c4
    refine lv_bipush (v := 7) hx hb dX8_load_18 (by decide) ?_
    refine lv_istore (lv' := [(4, .int 7), (0, .ref (a 0)), (1, .int p0), (2, .long p1)]) hx hb dX8_load_20 hl (by decide) rfl (fun ls hl => ?_)
    exact L22 2000 p0 p1 7 T1 _ _ _ hP hD hS (lv_sub hl [1, 2, 3, 0] rfl) h
  · have h := h.2 c4
    refine lv_iconst (v := 0) hx hb dX8_load_16 (by decide) ?_
    exact W.zret (ty := .boolean) (v := 0) hx hb hr (narB isB0) (fun t ht hW => ⟨⟨0, T1, rfl, h, by rw [ht]; exact hP, va_K.moved hW.alike hK, hD⟩, hS.F ht⟩) hS.2.2 dX8_load_17
/-! X8_code -/
abbrev rmX8_code : Room := { frames := 1, cells := 0, slots := 0, locals := 22 }
set_option maxHeartbeats 4000000 in
set_option maxRecDepth 100000 in
theorem c_X8_code (l : Launch) (D : va_G) (cI cZ : ClassId) (a : Nat → Nat) (sz : Nat) (S : Ob) (p0 : Int32) (Q : Int32 → Ob → Prop) (h : wp_X8_code S p0 Q) : Met l yX8_code (wsm yX8_code cX8_code 2 (some .int)) rmX8_code (va_Pc [.ref (a 0), .int p0] (preW D cI cZ sz (wX8 cI cZ a S))) (va_Qi Q (fun u => atW D cI cZ (va_A (wX8 cI cZ a S) sz) (wX8 cI cZ a u)) (va_A (wX8 cI cZ a S) sz)) 0 0 (va_A (wX8 cI cZ a S) sz) := by
  refine Met.ofW (cc := cX8_code) (maxL := 2) (ret := (some .int)) (by decide) rfl ?_
  intro p e s m args below meth c s₁ B hml hv
  obtain ⟨rfl, hsz, hP, hK, hD0⟩ := hv
  have hx := B.exec
  have hb := B.bytes
  have hr := B.returns
  have hts0 := atoms_spec (ws := wsm yX8_code cX8_code 2 (some .int)) B.pre
  have hts : ∀ w ∈ lw_all, w.before _ s = true := fun w h => hts0 w (List.mem_cons_of_mem _ h)
  have hown : s.vm.findClass RX8 = some m.cls := findClass_of_methodNamed B.named
  have hlocks := B.notSynchronized
  subst hsz
  have hD := hD0.self (sz := s.heap.size)
  generalize hAe : va_A (wX8 cI cZ a S) s.heap.size = A at hD ⊢
  have hA : ∀ q : Nat, s.heap.size ≤ q → A q := fun q h => by rw [← hAe]; exact Or.inr h
  have hS : va_S A s.heap s.heap [] := va_S.rf
  have hml2 := hml
  have hl := lv_entry ([.ref (a 0), .int p0]) (n := 2) (Nat.le_of_ble_eq_true rfl)
  rw [lg_entry_eq]
  generalize (lg_sl ([.ref (a 0), .int p0]) ++ List.replicate (2 - (lg_sl ([.ref (a 0), .int p0])).length) Slot.unset).toArray = ls at hl ⊢
  have hl : lv_has ls 2 [(0, .ref (a 0)), (1, .int p0)] := hl
  unfold wp_X8_code at h
  refine lv_aload_n hx hb dX8_code_0 rfl (lv_at hl 0 rfl) ?_
  refine lv_iconst (v := 0) hx hb dX8_code_1 (by decide) ?_
  obtain ⟨T1, eT1⟩ : ∃ z : Ob, z = (si S 17 0) := ⟨_, rfl⟩
  refine pu_f (ci := 7) (v := .int 0) (ty := .int) (C := RX8) (T := TX8) (N := 25) hx hb hts inX8 tyX8 tyX8_ok nmX8 hown hK hP hD hS 0 rfl rfl 17 (by decide) (hts _ q_1094) (fun _ h9 => h9) rfl rfl rfl rfl (Nat.le_of_ble_eq_true rfl) dX8_code_2 (wX8 cI cZ a T1) (by subst eT1; rfl) (fun H locs hP hD hS => ?_)
  have h := h T1 eT1
  refine lv_iload_n hx hb dX8_code_5 rfl (lv_at hl 1 rfl) ?_
  refine lv_iconst (v := 0) hx hb dX8_code_6 (by decide) ?_
  refine lv_sipush (v := 511) hx hb dX8_code_7 (by decide) ?_
  refine cl_i (ws' := fun u2 => (wX8 cI cZ a T1)) (va_runS (As := [.int p0, .int 0, .int 511]) (rest := []) ⟨hx, hb, hml, hown, hts⟩ (c_X8_within l D cI cZ _ () p0 0 511 _ h ) (va_cwS 3 hts (gS q_1161 q_1162 q_75 q_1163) rfl rfl rfl (by decide +kernel) ⟨Nat.le_of_ble_eq_true rfl, Nat.le_of_ble_eq_true rfl⟩) (preS_of hK hP hD [] rfl rfl (by decide)) rfl rfl hl.1 rfl (lv_room (Nat.le_of_ble_eq_true rfl)) dX8_code_10 ⟨Nat.zero_le _, Nat.zero_le _⟩) hP hD hS hA [] [.inr 0, .inr 1, .inr 2, .inr 3, .inr 4, .inr 5, .inr 6, .inr 7, .inr 8, .inr 9, .inr 10, .inr 11, .inr 12, .inr 13, .inr 14, .inr 15, .inr 16, .inr 17] rfl (by decide) (fun _ => rfl) (fun _ => rfl) (fun r3 u2 H locs h hP hD hS => ?_)
  refine lv_if_eq (tgt := 25) hx hb dX8_code_13 (by decide) (fun c4 => ?_) (fun c4 => ?_)
  · have h := h.1 c4
    refine lv_iconst (v := -1) hx hb dX8_code_25 (by decide) ?_
    exact W.iret (v := (-1)) hx hb hr (fun t ht hW => ⟨⟨(-1), T1, rfl, h, by rw [ht]; exact hP, va_K.moved hW.alike hK, hD⟩, hS.F ht⟩) hS.2.2 dX8_code_26
  · have h := h.2 c4
    refine lv_aload_n hx hb dX8_code_16 rfl (lv_at hl 0 rfl) ?_
    refine va_get (D := D) (ci := 7) (v := .ref (a 1)) (C := RX8) (T := TX8) (N := 25) hx hb hts inX8 hown hK hP 0 rfl rfl 0 (by decide) (hts _ q_1077) (fun _ h9 => h9) rfl dX8_code_17 ?_
    refine lv_iload_n hx hb dX8_code_20 rfl (lv_at hl 1 rfl) ?_
    refine ar_il (f := (T1.2 0)) (n := 512) (j := (Int32.toNatClampNeg p0)) hx hb hK hP 1 rfl rfl h.1 dX8_code_21 ?_
    have h := h.2
    refine lv_goto (tgt := 26) hx hb dX8_code_22 (by decide) ?_
    exact W.iret (v := ((T1.2 0) (Int32.toNatClampNeg p0))) hx hb hr (fun t ht hW => ⟨⟨((T1.2 0) (Int32.toNatClampNeg p0)), T1, rfl, h, by rw [ht]; exact hP, va_K.moved hW.alike hK, hD⟩, hS.F ht⟩) hS.2.2 dX8_code_26
/-! X8_rank -/
abbrev rmX8_rank : Room := { frames := 1, cells := 0, slots := 0, locals := 22 }
set_option maxHeartbeats 4000000 in
set_option maxRecDepth 100000 in
theorem c_X8_rank (l : Launch) (D : va_G) (cI cZ : ClassId) (a : Nat → Nat) (sz : Nat) (S : Ob) (p0 : Int32) (p1 : Int32) (Q : Int32 → Ob → Prop) (h : wp_X8_rank S p0 p1 Q) : Met l yX8_rank (wsm yX8_rank cX8_rank 3 (some .boolean)) rmX8_rank (va_Pc [.ref (a 0), .int p0, .int p1] (preW D cI cZ sz (wX8 cI cZ a S))) (va_Qi Q (fun u => atW D cI cZ (va_A (wX8 cI cZ a S) sz) (wX8 cI cZ a u)) (va_A (wX8 cI cZ a S) sz)) 0 0 (va_A (wX8 cI cZ a S) sz) := by
  refine Met.ofW (cc := cX8_rank) (maxL := 3) (ret := (some .boolean)) (by decide) rfl ?_
  intro p e s m args below meth c s₁ B hml hv
  obtain ⟨rfl, hsz, hP, hK, hD0⟩ := hv
  have hx := B.exec
  have hb := B.bytes
  have hr := B.returns
  have hts0 := atoms_spec (ws := wsm yX8_rank cX8_rank 3 (some .boolean)) B.pre
  have hts : ∀ w ∈ lw_all, w.before _ s = true := fun w h => hts0 w (List.mem_cons_of_mem _ h)
  have hown : s.vm.findClass RX8 = some m.cls := findClass_of_methodNamed B.named
  have hlocks := B.notSynchronized
  subst hsz
  have hD := hD0.self (sz := s.heap.size)
  generalize hAe : va_A (wX8 cI cZ a S) s.heap.size = A at hD ⊢
  have hA : ∀ q : Nat, s.heap.size ≤ q → A q := fun q h => by rw [← hAe]; exact Or.inr h
  have hS : va_S A s.heap s.heap [] := va_S.rf
  have hml2 := hml
  have hl := lv_entry ([.ref (a 0), .int p0, .int p1]) (n := 3) (Nat.le_of_ble_eq_true rfl)
  rw [lg_entry_eq]
  generalize (lg_sl ([.ref (a 0), .int p0, .int p1]) ++ List.replicate (3 - (lg_sl ([.ref (a 0), .int p0, .int p1])).length) Slot.unset).toArray = ls at hl ⊢
  have hl : lv_has ls 3 [(0, .ref (a 0)), (1, .int p0), (2, .int p1)] := hl
  unfold wp_X8_rank at h
  refine lv_aload_n hx hb dX8_rank_0 rfl (lv_at hl 0 rfl) ?_
  refine lv_iconst (v := 0) hx hb dX8_rank_1 (by decide) ?_
  obtain ⟨T1, eT1⟩ : ∃ z : Ob, z = (si S 17 0) := ⟨_, rfl⟩
  refine pu_f (ci := 7) (v := .int 0) (ty := .int) (C := RX8) (T := TX8) (N := 25) hx hb hts inX8 tyX8 tyX8_ok nmX8 hown hK hP hD hS 0 rfl rfl 17 (by decide) (hts _ q_1094) (fun _ h9 => h9) rfl rfl rfl rfl (Nat.le_of_ble_eq_true rfl) dX8_rank_2 (wX8 cI cZ a T1) (by subst eT1; rfl) (fun H locs hP hD hS => ?_)
  have h := h T1 eT1
  refine lv_iload_n hx hb dX8_rank_5 rfl (lv_at hl 1 rfl) ?_
  refine lv_iconst (v := 0) hx hb dX8_rank_6 (by decide) ?_
  refine lv_bipush (v := 19) hx hb dX8_rank_7 (by decide) ?_
  refine cl_i (ws' := fun u2 => (wX8 cI cZ a T1)) (va_runS (As := [.int p0, .int 0, .int 19]) (rest := []) ⟨hx, hb, hml, hown, hts⟩ (c_X8_within l D cI cZ _ () p0 0 19 _ h ) (va_cwS 3 hts (gS q_1161 q_1162 q_75 q_1163) rfl rfl rfl (by decide +kernel) ⟨Nat.le_of_ble_eq_true rfl, Nat.le_of_ble_eq_true rfl⟩) (preS_of hK hP hD [] rfl rfl (by decide)) rfl rfl hl.1 rfl (lv_room (Nat.le_of_ble_eq_true rfl)) dX8_rank_9 ⟨Nat.zero_le _, Nat.zero_le _⟩) hP hD hS hA [] [.inr 0, .inr 1, .inr 2, .inr 3, .inr 4, .inr 5, .inr 6, .inr 7, .inr 8, .inr 9, .inr 10, .inr 11, .inr 12, .inr 13, .inr 14, .inr 15, .inr 16, .inr 17] rfl (by decide) (fun _ => rfl) (fun _ => rfl) (fun r3 u2 H locs h hP hD hS => ?_)
  refine lv_if_eq (tgt := 40) hx hb dX8_rank_12 (by decide) (fun c4 => ?_) (fun c4 => ?_)
  · have h := h.1 c4
    refine lv_iconst (v := 0) hx hb dX8_rank_40 (by decide) ?_
    exact W.zret (ty := .boolean) (v := 0) hx hb hr (narB isB0) (fun t ht hW => ⟨⟨0, T1, rfl, h, by rw [ht]; exact hP, va_K.moved hW.alike hK, hD⟩, hS.F ht⟩) hS.2.2 dX8_rank_41
  · have h := h.2 c4
    refine lv_iload_n hx hb dX8_rank_15 rfl (lv_at hl 2 rfl) ?_
    refine lv_iconst (v := 0) hx hb dX8_rank_16 (by decide) ?_
    refine lv_sipush (v := 255) hx hb dX8_rank_17 (by decide) ?_
    refine cl_i (ws' := fun u5 => (wX8 cI cZ a T1)) (va_runS (As := [.int p1, .int 0, .int 255]) (rest := []) ⟨hx, hb, hml, hown, hts⟩ (c_X8_within l D cI cZ _ () p1 0 255 _ h ) (va_cwS 3 hts (gS q_1161 q_1162 q_75 q_1163) rfl rfl rfl (by decide +kernel) ⟨Nat.le_of_ble_eq_true rfl, Nat.le_of_ble_eq_true rfl⟩) (preS_of hK hP hD [] rfl rfl (by decide)) rfl rfl hl.1 rfl (lv_room (Nat.le_of_ble_eq_true rfl)) dX8_rank_20 ⟨Nat.zero_le _, Nat.zero_le _⟩) hP hD hS hA [] [.inr 0, .inr 1, .inr 2, .inr 3, .inr 4, .inr 5, .inr 6, .inr 7, .inr 8, .inr 9, .inr 10, .inr 11, .inr 12, .inr 13, .inr 14, .inr 15, .inr 16, .inr 17] rfl (by decide) (fun _ => rfl) (fun _ => rfl) (fun r6 u5 H locs h hP hD hS => ?_)
    refine lv_if_eq (tgt := 40) hx hb dX8_rank_23 (by decide) (fun c7 => ?_) (fun c7 => ?_)
    · have h := h.1 c7
      refine lv_iconst (v := 0) hx hb dX8_rank_40 (by decide) ?_
      exact W.zret (ty := .boolean) (v := 0) hx hb hr (narB isB0) (fun t ht hW => ⟨⟨0, T1, rfl, h, by rw [ht]; exact hP, va_K.moved hW.alike hK, hD⟩, hS.F ht⟩) hS.2.2 dX8_rank_41
    · have h := h.2 c7
      refine lv_aload_n hx hb dX8_rank_26 rfl (lv_at hl 0 rfl) ?_
      refine va_get (D := D) (ci := 7) (v := .ref (a 4)) (C := RX8) (T := TX8) (N := 25) hx hb hts inX8 hown hK hP 0 rfl rfl 4 (by decide) (hts _ q_1081) (fun _ h9 => h9) rfl dX8_rank_27 ?_
      refine lv_sipush (v := 300) hx hb dX8_rank_30 (by decide) ?_
      refine lv_iload_n hx hb dX8_rank_33 rfl (lv_at hl 1 rfl) ?_
      refine lv_iadd hx hb dX8_rank_34 ?_
      refine ar_il (f := (T1.2 4)) (n := 342) (j := (Int32.toNatClampNeg (300 + p0))) hx hb hK hP 4 rfl rfl h.1 dX8_rank_35 ?_
      have h := h.2
      refine lv_iconst (v := 1) hx hb dX8_rank_36 (by decide) ?_
      refine lv_icmp_ne (tgt := 42) hx hb dX8_rank_37 (by decide) (fun c8 => ?_) (fun c8 => ?_)
      · have h := h.1 c8
        refine lv_aload_n hx hb dX8_rank_42 rfl (lv_at hl 0 rfl) ?_
        refine va_get (D := D) (ci := 7) (v := .ref (a 4)) (C := RX8) (T := TX8) (N := 25) hx hb hts inX8 hown hK hP 0 rfl rfl 4 (by decide) (hts _ q_1081) (fun _ h9 => h9) rfl dX8_rank_43 ?_
        refine lv_sipush (v := 173) hx hb dX8_rank_46 (by decide) ?_
        refine lv_iload_n hx hb dX8_rank_49 rfl (lv_at hl 1 rfl) ?_
        refine lv_iadd hx hb dX8_rank_50 ?_
        refine lv_iload_n hx hb dX8_rank_51 rfl (lv_at hl 2 rfl) ?_
        obtain ⟨T9, eT9⟩ : ∃ z : Ob, z = (sa T1 4 (upd (T1.2 4) (Int32.toNatClampNeg (173 + p0)) p1)) := ⟨_, rfl⟩
        refine ar_is (f := (T1.2 4)) (n := 342) (j := (Int32.toNatClampNeg (173 + p0))) (x := p1) hx hb hK hP hD hS 4 rfl rfl h.1 dX8_rank_52 (wX8 cI cZ a T9) (by subst eT9; rfl) (fun H locs hP hD hS => ?_)
        have h := h.2
        have h := h T9 eT9
        refine lv_iconst (v := 1) hx hb dX8_rank_53 (by decide) ?_
        exact W.zret (ty := .boolean) (v := 1) hx hb hr (narB isB1) (fun t ht hW => ⟨⟨1, T9, rfl, h, by rw [ht]; exact hP, va_K.moved hW.alike hK, hD⟩, hS.F ht⟩) hS.2.2 dX8_rank_54
      · have h := h.2 c8
        refine lv_iconst (v := 0) hx hb dX8_rank_40 (by decide) ?_
        exact W.zret (ty := .boolean) (v := 0) hx hb hr (narB isB0) (fun t ht hW => ⟨⟨0, T1, rfl, h, by rw [ht]; exact hP, va_K.moved hW.alike hK, hD⟩, hS.F ht⟩) hS.2.2 dX8_rank_41
/-! X8_enable -/
abbrev rmX8_enable : Room := { frames := 1, cells := 0, slots := 0, locals := 22 }
set_option maxHeartbeats 4000000 in
set_option maxRecDepth 100000 in
theorem c_X8_enable (l : Launch) (D : va_G) (cI cZ : ClassId) (a : Nat → Nat) (sz : Nat) (S : Ob) (p0 : Int32) (p1 : Int32) (Q : Int32 → Ob → Prop) (h : wp_X8_enable S p0 p1 Q) : Met l yX8_enable (wsm yX8_enable cX8_enable 3 (some .boolean)) rmX8_enable (va_Pc [.ref (a 0), .int p0, .int p1] (preW D cI cZ sz (wX8 cI cZ a S))) (va_Qi Q (fun u => atW D cI cZ (va_A (wX8 cI cZ a S) sz) (wX8 cI cZ a u)) (va_A (wX8 cI cZ a S) sz)) 0 0 (va_A (wX8 cI cZ a S) sz) := by
  refine Met.ofW (cc := cX8_enable) (maxL := 3) (ret := (some .boolean)) (by decide) rfl ?_
  intro p e s m args below meth c s₁ B hml hv
  obtain ⟨rfl, hsz, hP, hK, hD0⟩ := hv
  have hx := B.exec
  have hb := B.bytes
  have hr := B.returns
  have hts0 := atoms_spec (ws := wsm yX8_enable cX8_enable 3 (some .boolean)) B.pre
  have hts : ∀ w ∈ lw_all, w.before _ s = true := fun w h => hts0 w (List.mem_cons_of_mem _ h)
  have hown : s.vm.findClass RX8 = some m.cls := findClass_of_methodNamed B.named
  have hlocks := B.notSynchronized
  subst hsz
  have hD := hD0.self (sz := s.heap.size)
  generalize hAe : va_A (wX8 cI cZ a S) s.heap.size = A at hD ⊢
  have hA : ∀ q : Nat, s.heap.size ≤ q → A q := fun q h => by rw [← hAe]; exact Or.inr h
  have hS : va_S A s.heap s.heap [] := va_S.rf
  have hml2 := hml
  have hl := lv_entry ([.ref (a 0), .int p0, .int p1]) (n := 3) (Nat.le_of_ble_eq_true rfl)
  rw [lg_entry_eq]
  generalize (lg_sl ([.ref (a 0), .int p0, .int p1]) ++ List.replicate (3 - (lg_sl ([.ref (a 0), .int p0, .int p1])).length) Slot.unset).toArray = ls at hl ⊢
  have hl : lv_has ls 3 [(0, .ref (a 0)), (1, .int p0), (2, .int p1)] := hl
  unfold wp_X8_enable at h
  refine lv_aload_n hx hb dX8_enable_0 rfl (lv_at hl 0 rfl) ?_
  refine lv_iconst (v := 0) hx hb dX8_enable_1 (by decide) ?_
  obtain ⟨T1, eT1⟩ : ∃ z : Ob, z = (si S 17 0) := ⟨_, rfl⟩
  refine pu_f (ci := 7) (v := .int 0) (ty := .int) (C := RX8) (T := TX8) (N := 25) hx hb hts inX8 tyX8 tyX8_ok nmX8 hown hK hP hD hS 0 rfl rfl 17 (by decide) (hts _ q_1094) (fun _ h9 => h9) rfl rfl rfl rfl (Nat.le_of_ble_eq_true rfl) dX8_enable_2 (wX8 cI cZ a T1) (by subst eT1; rfl) (fun H locs hP hD hS => ?_)
  have h := h T1 eT1
  refine lv_iload_n hx hb dX8_enable_5 rfl (lv_at hl 1 rfl) ?_
  refine lv_iconst (v := 0) hx hb dX8_enable_6 (by decide) ?_
  refine lv_bipush (v := 19) hx hb dX8_enable_7 (by decide) ?_
  refine cl_i (ws' := fun u2 => (wX8 cI cZ a T1)) (va_runS (As := [.int p0, .int 0, .int 19]) (rest := []) ⟨hx, hb, hml, hown, hts⟩ (c_X8_within l D cI cZ _ () p0 0 19 _ h ) (va_cwS 3 hts (gS q_1161 q_1162 q_75 q_1163) rfl rfl rfl (by decide +kernel) ⟨Nat.le_of_ble_eq_true rfl, Nat.le_of_ble_eq_true rfl⟩) (preS_of hK hP hD [] rfl rfl (by decide)) rfl rfl hl.1 rfl (lv_room (Nat.le_of_ble_eq_true rfl)) dX8_enable_9 ⟨Nat.zero_le _, Nat.zero_le _⟩) hP hD hS hA [] [.inr 0, .inr 1, .inr 2, .inr 3, .inr 4, .inr 5, .inr 6, .inr 7, .inr 8, .inr 9, .inr 10, .inr 11, .inr 12, .inr 13, .inr 14, .inr 15, .inr 16, .inr 17] rfl (by decide) (fun _ => rfl) (fun _ => rfl) (fun r3 u2 H locs h hP hD hS => ?_)
  refine lv_if_ne (tgt := 17) hx hb dX8_enable_12 (by decide) (fun c4 => ?_) (fun c4 => ?_)
  · have h := h.1 c4
    refine lv_aload_n hx hb dX8_enable_17 rfl (lv_at hl 0 rfl) ?_
    refine va_get (D := D) (ci := 7) (v := .ref (a 3)) (C := RX8) (T := TX8) (N := 25) hx hb hts inX8 hown hK hP 0 rfl rfl 2 (by decide) (hts _ q_1079) (fun _ h9 => h9) rfl dX8_enable_18 ?_
    refine lv_iload_n hx hb dX8_enable_21 rfl (lv_at hl 1 rfl) ?_
    refine lv_iload_n hx hb dX8_enable_22 rfl (lv_at hl 2 rfl) ?_
    obtain ⟨T5, eT5⟩ : ∃ z : Ob, z = (sa T1 2 (upd (T1.2 2) (Int32.toNatClampNeg p0) p1)) := ⟨_, rfl⟩
    refine ar_zs (f := (T1.2 2)) (n := 21) (j := (Int32.toNatClampNeg p0)) (x := p1) hx hb hK hP hD hS 3 rfl rfl h.1 h.2.1 dX8_enable_23 (wX8 cI cZ a T5) (by subst eT5; rfl) (fun H locs hP hD hS => ?_)
    have h := h.2
    have h := h.2
    have h := h T5 eT5
    refine lv_iconst (v := 1) hx hb dX8_enable_24 (by decide) ?_
    exact W.zret (ty := .boolean) (v := 1) hx hb hr (narB isB1) (fun t ht hW => ⟨⟨1, T5, rfl, h, by rw [ht]; exact hP, va_K.moved hW.alike hK, hD⟩, hS.F ht⟩) hS.2.2 dX8_enable_25
  · have h := h.2 c4
    refine lv_iconst (v := 0) hx hb dX8_enable_15 (by decide) ?_
    exact W.zret (ty := .boolean) (v := 0) hx hb hr (narB isB0) (fun t ht hW => ⟨⟨0, T1, rfl, h, by rw [ht]; exact hP, va_K.moved hW.alike hK, hD⟩, hS.F ht⟩) hS.2.2 dX8_enable_16
/-! X8_vector -/
abbrev rmX8_vector : Room := { frames := 1, cells := 0, slots := 0, locals := 22 }
set_option maxHeartbeats 4000000 in
set_option maxRecDepth 100000 in
theorem c_X8_vector (l : Launch) (D : va_G) (cI cZ : ClassId) (a : Nat → Nat) (sz : Nat) (S : Ob) (p0 : Int32) (p1 : Int32) (Q : Int32 → Ob → Prop) (h : wp_X8_vector S p0 p1 Q) : Met l yX8_vector (wsm yX8_vector cX8_vector 3 (some .boolean)) rmX8_vector (va_Pc [.ref (a 0), .int p0, .int p1] (preW D cI cZ sz (wX8 cI cZ a S))) (va_Qi Q (fun u => atW D cI cZ (va_A (wX8 cI cZ a S) sz) (wX8 cI cZ a u)) (va_A (wX8 cI cZ a S) sz)) 0 0 (va_A (wX8 cI cZ a S) sz) := by
  refine Met.ofW (cc := cX8_vector) (maxL := 3) (ret := (some .boolean)) (by decide) rfl ?_
  intro p e s m args below meth c s₁ B hml hv
  obtain ⟨rfl, hsz, hP, hK, hD0⟩ := hv
  have hx := B.exec
  have hb := B.bytes
  have hr := B.returns
  have hts0 := atoms_spec (ws := wsm yX8_vector cX8_vector 3 (some .boolean)) B.pre
  have hts : ∀ w ∈ lw_all, w.before _ s = true := fun w h => hts0 w (List.mem_cons_of_mem _ h)
  have hown : s.vm.findClass RX8 = some m.cls := findClass_of_methodNamed B.named
  have hlocks := B.notSynchronized
  subst hsz
  have hD := hD0.self (sz := s.heap.size)
  generalize hAe : va_A (wX8 cI cZ a S) s.heap.size = A at hD ⊢
  have hA : ∀ q : Nat, s.heap.size ≤ q → A q := fun q h => by rw [← hAe]; exact Or.inr h
  have hS : va_S A s.heap s.heap [] := va_S.rf
  have hml2 := hml
  have hl := lv_entry ([.ref (a 0), .int p0, .int p1]) (n := 3) (Nat.le_of_ble_eq_true rfl)
  rw [lg_entry_eq]
  generalize (lg_sl ([.ref (a 0), .int p0, .int p1]) ++ List.replicate (3 - (lg_sl ([.ref (a 0), .int p0, .int p1])).length) Slot.unset).toArray = ls at hl ⊢
  have hl : lv_has ls 3 [(0, .ref (a 0)), (1, .int p0), (2, .int p1)] := hl
  unfold wp_X8_vector at h
  refine lv_aload_n hx hb dX8_vector_0 rfl (lv_at hl 0 rfl) ?_
  refine lv_iconst (v := 0) hx hb dX8_vector_1 (by decide) ?_
  obtain ⟨T1, eT1⟩ : ∃ z : Ob, z = (si S 17 0) := ⟨_, rfl⟩
  refine pu_f (ci := 7) (v := .int 0) (ty := .int) (C := RX8) (T := TX8) (N := 25) hx hb hts inX8 tyX8 tyX8_ok nmX8 hown hK hP hD hS 0 rfl rfl 17 (by decide) (hts _ q_1094) (fun _ h9 => h9) rfl rfl rfl rfl (Nat.le_of_ble_eq_true rfl) dX8_vector_2 (wX8 cI cZ a T1) (by subst eT1; rfl) (fun H locs hP hD hS => ?_)
  have h := h T1 eT1
  refine lv_iload_n hx hb dX8_vector_5 rfl (lv_at hl 1 rfl) ?_
  refine lv_iconst (v := 0) hx hb dX8_vector_6 (by decide) ?_
  refine lv_bipush (v := 20) hx hb dX8_vector_7 (by decide) ?_
  refine cl_i (ws' := fun u2 => (wX8 cI cZ a T1)) (va_runS (As := [.int p0, .int 0, .int 20]) (rest := []) ⟨hx, hb, hml, hown, hts⟩ (c_X8_within l D cI cZ _ () p0 0 20 _ h ) (va_cwS 3 hts (gS q_1161 q_1162 q_75 q_1163) rfl rfl rfl (by decide +kernel) ⟨Nat.le_of_ble_eq_true rfl, Nat.le_of_ble_eq_true rfl⟩) (preS_of hK hP hD [] rfl rfl (by decide)) rfl rfl hl.1 rfl (lv_room (Nat.le_of_ble_eq_true rfl)) dX8_vector_9 ⟨Nat.zero_le _, Nat.zero_le _⟩) hP hD hS hA [] [.inr 0, .inr 1, .inr 2, .inr 3, .inr 4, .inr 5, .inr 6, .inr 7, .inr 8, .inr 9, .inr 10, .inr 11, .inr 12, .inr 13, .inr 14, .inr 15, .inr 16, .inr 17] rfl (by decide) (fun _ => rfl) (fun _ => rfl) (fun r3 u2 H locs h hP hD hS => ?_)
  refine lv_if_eq (tgt := 26) hx hb dX8_vector_12 (by decide) (fun c4 => ?_) (fun c4 => ?_)
  · have h := h.1 c4
    refine lv_iconst (v := 0) hx hb dX8_vector_26 (by decide) ?_
    exact W.zret (ty := .boolean) (v := 0) hx hb hr (narB isB0) (fun t ht hW => ⟨⟨0, T1, rfl, h, by rw [ht]; exact hP, va_K.moved hW.alike hK, hD⟩, hS.F ht⟩) hS.2.2 dX8_vector_27
  · have h := h.2 c4
    refine lv_iload_n hx hb dX8_vector_15 rfl (lv_at hl 2 rfl) ?_
    refine lv_iconst (v := 0) hx hb dX8_vector_16 (by decide) ?_
    refine lv_sipush (v := 511) hx hb dX8_vector_17 (by decide) ?_
    refine cl_i (ws' := fun u5 => (wX8 cI cZ a T1)) (va_runS (As := [.int p1, .int 0, .int 511]) (rest := []) ⟨hx, hb, hml, hown, hts⟩ (c_X8_within l D cI cZ _ () p1 0 511 _ h ) (va_cwS 3 hts (gS q_1161 q_1162 q_75 q_1163) rfl rfl rfl (by decide +kernel) ⟨Nat.le_of_ble_eq_true rfl, Nat.le_of_ble_eq_true rfl⟩) (preS_of hK hP hD [] rfl rfl (by decide)) rfl rfl hl.1 rfl (lv_room (Nat.le_of_ble_eq_true rfl)) dX8_vector_20 ⟨Nat.zero_le _, Nat.zero_le _⟩) hP hD hS hA [] [.inr 0, .inr 1, .inr 2, .inr 3, .inr 4, .inr 5, .inr 6, .inr 7, .inr 8, .inr 9, .inr 10, .inr 11, .inr 12, .inr 13, .inr 14, .inr 15, .inr 16, .inr 17] rfl (by decide) (fun _ => rfl) (fun _ => rfl) (fun r6 u5 H locs h hP hD hS => ?_)
    refine lv_if_ne (tgt := 28) hx hb dX8_vector_23 (by decide) (fun c7 => ?_) (fun c7 => ?_)
    · have h := h.1 c7
      refine lv_aload_n hx hb dX8_vector_28 rfl (lv_at hl 0 rfl) ?_
      refine va_get (D := D) (ci := 7) (v := .ref (a 2)) (C := RX8) (T := TX8) (N := 25) hx hb hts inX8 hown hK hP 0 rfl rfl 1 (by decide) (hts _ q_1078) (fun _ h9 => h9) rfl dX8_vector_29 ?_
      refine lv_iload_n hx hb dX8_vector_32 rfl (lv_at hl 1 rfl) ?_
      refine lv_iload_n hx hb dX8_vector_33 rfl (lv_at hl 2 rfl) ?_
      obtain ⟨T8, eT8⟩ : ∃ z : Ob, z = (sa T1 1 (upd (T1.2 1) (Int32.toNatClampNeg p0) p1)) := ⟨_, rfl⟩
      refine ar_is (f := (T1.2 1)) (n := 21) (j := (Int32.toNatClampNeg p0)) (x := p1) hx hb hK hP hD hS 2 rfl rfl h.1 dX8_vector_34 (wX8 cI cZ a T8) (by subst eT8; rfl) (fun H locs hP hD hS => ?_)
      have h := h.2
      have h := h T8 eT8
      refine lv_iconst (v := 1) hx hb dX8_vector_35 (by decide) ?_
      exact W.zret (ty := .boolean) (v := 1) hx hb hr (narB isB1) (fun t ht hW => ⟨⟨1, T8, rfl, h, by rw [ht]; exact hP, va_K.moved hW.alike hK, hD⟩, hS.F ht⟩) hS.2.2 dX8_vector_36
    · have h := h.2 c7
      refine lv_iconst (v := 0) hx hb dX8_vector_26 (by decide) ?_
      exact W.zret (ty := .boolean) (v := 0) hx hb hr (narB isB0) (fun t ht hW => ⟨⟨0, T1, rfl, h, by rw [ht]; exact hP, va_K.moved hW.alike hK, hD⟩, hS.F ht⟩) hS.2.2 dX8_vector_27
/-! X8_split -/
abbrev rmX8_split : Room := { frames := 1, cells := 0, slots := 0, locals := 22 }
set_option maxHeartbeats 4000000 in
set_option maxRecDepth 100000 in
theorem c_X8_split (l : Launch) (D : va_G) (cI cZ : ClassId) (a : Nat → Nat) (sz : Nat) (S : Ob) (p0 : Int32) (Q : Int32 → Ob → Prop) (h : wp_X8_split S p0 Q) : Met l yX8_split (wsm yX8_split cX8_split 2 (some .boolean)) rmX8_split (va_Pc [.ref (a 0), .int p0] (preW D cI cZ sz (wX8 cI cZ a S))) (va_Qi Q (fun u => atW D cI cZ (va_A (wX8 cI cZ a S) sz) (wX8 cI cZ a u)) (va_A (wX8 cI cZ a S) sz)) 0 0 (va_A (wX8 cI cZ a S) sz) := by
  refine Met.ofW (cc := cX8_split) (maxL := 2) (ret := (some .boolean)) (by decide) rfl ?_
  intro p e s m args below meth c s₁ B hml hv
  obtain ⟨rfl, hsz, hP, hK, hD0⟩ := hv
  have hx := B.exec
  have hb := B.bytes
  have hr := B.returns
  have hts0 := atoms_spec (ws := wsm yX8_split cX8_split 2 (some .boolean)) B.pre
  have hts : ∀ w ∈ lw_all, w.before _ s = true := fun w h => hts0 w (List.mem_cons_of_mem _ h)
  have hown : s.vm.findClass RX8 = some m.cls := findClass_of_methodNamed B.named
  have hlocks := B.notSynchronized
  subst hsz
  have hD := hD0.self (sz := s.heap.size)
  generalize hAe : va_A (wX8 cI cZ a S) s.heap.size = A at hD ⊢
  have hA : ∀ q : Nat, s.heap.size ≤ q → A q := fun q h => by rw [← hAe]; exact Or.inr h
  have hS : va_S A s.heap s.heap [] := va_S.rf
  have hml2 := hml
  have hl := lv_entry ([.ref (a 0), .int p0]) (n := 2) (Nat.le_of_ble_eq_true rfl)
  rw [lg_entry_eq]
  generalize (lg_sl ([.ref (a 0), .int p0]) ++ List.replicate (2 - (lg_sl ([.ref (a 0), .int p0])).length) Slot.unset).toArray = ls at hl ⊢
  have hl : lv_has ls 2 [(0, .ref (a 0)), (1, .int p0)] := hl
  unfold wp_X8_split at h
  refine lv_aload_n hx hb dX8_split_0 rfl (lv_at hl 0 rfl) ?_
  refine lv_iconst (v := 0) hx hb dX8_split_1 (by decide) ?_
  obtain ⟨T1, eT1⟩ : ∃ z : Ob, z = (si S 17 0) := ⟨_, rfl⟩
  refine pu_f (ci := 7) (v := .int 0) (ty := .int) (C := RX8) (T := TX8) (N := 25) hx hb hts inX8 tyX8 tyX8_ok nmX8 hown hK hP hD hS 0 rfl rfl 17 (by decide) (hts _ q_1094) (fun _ h9 => h9) rfl rfl rfl rfl (Nat.le_of_ble_eq_true rfl) dX8_split_2 (wX8 cI cZ a T1) (by subst eT1; rfl) (fun H locs hP hD hS => ?_)
  have h := h T1 eT1
  refine lv_iload_n hx hb dX8_split_5 rfl (lv_at hl 1 rfl) ?_
  refine lv_iconst (v := 0) hx hb dX8_split_6 (by decide) ?_
  refine lv_bipush (v := 7) hx hb dX8_split_7 (by decide) ?_
  refine cl_i (ws' := fun u2 => (wX8 cI cZ a T1)) (va_runS (As := [.int p0, .int 0, .int 7]) (rest := []) ⟨hx, hb, hml, hown, hts⟩ (c_X8_within l D cI cZ _ () p0 0 7 _ h ) (va_cwS 3 hts (gS q_1161 q_1162 q_75 q_1163) rfl rfl rfl (by decide +kernel) ⟨Nat.le_of_ble_eq_true rfl, Nat.le_of_ble_eq_true rfl⟩) (preS_of hK hP hD [] rfl rfl (by decide)) rfl rfl hl.1 rfl (lv_room (Nat.le_of_ble_eq_true rfl)) dX8_split_9 ⟨Nat.zero_le _, Nat.zero_le _⟩) hP hD hS hA [] [.inr 0, .inr 1, .inr 2, .inr 3, .inr 4, .inr 5, .inr 6, .inr 7, .inr 8, .inr 9, .inr 10, .inr 11, .inr 12, .inr 13, .inr 14, .inr 15, .inr 16, .inr 17] rfl (by decide) (fun _ => rfl) (fun _ => rfl) (fun r3 u2 H locs h hP hD hS => ?_)
  refine lv_if_eq (tgt := 25) hx hb dX8_split_12 (by decide) (fun c4 => ?_) (fun c4 => ?_)
  · have h := h.1 c4
    refine lv_iconst (v := 0) hx hb dX8_split_25 (by decide) ?_
    exact W.zret (ty := .boolean) (v := 0) hx hb hr (narB isB0) (fun t ht hW => ⟨⟨0, T1, rfl, h, by rw [ht]; exact hP, va_K.moved hW.alike hK, hD⟩, hS.F ht⟩) hS.2.2 dX8_split_26
  · have h := h.2 c4
    refine lv_aload_n hx hb dX8_split_15 rfl (lv_at hl 0 rfl) ?_
    refine va_get (D := D) (ci := 7) (v := .ref (a 4)) (C := RX8) (T := TX8) (N := 25) hx hb hts inX8 hown hK hP 0 rfl rfl 4 (by decide) (hts _ q_1081) (fun _ h9 => h9) rfl dX8_split_16 ?_
    refine lv_bipush (v := 30) hx hb dX8_split_19 (by decide) ?_
    refine ar_il (f := (T1.2 4)) (n := 342) (j := 30) hx hb hK hP 4 rfl (by decide) (okLit (by decide)) dX8_split_21 ?_
    refine lv_if_le (tgt := 27) hx hb dX8_split_22 (by decide) (fun c5 => ?_) (fun c5 => ?_)
    · have h := h.1 c5
      refine lv_aload_n hx hb dX8_split_27 rfl (lv_at hl 0 rfl) ?_
      refine lv_iload_n hx hb dX8_split_28 rfl (lv_at hl 1 rfl) ?_
      obtain ⟨T6, eT6⟩ : ∃ z : Ob, z = (si T1 3 p0) := ⟨_, rfl⟩
      refine pu_f (ci := 7) (v := .int p0) (ty := .int) (C := RX8) (T := TX8) (N := 25) hx hb hts inX8 tyX8 tyX8_ok nmX8 hown hK hP hD hS 0 rfl rfl 3 (by decide) (hts _ q_1080) (fun _ h9 => h9) rfl rfl rfl rfl (Nat.le_of_ble_eq_true rfl) dX8_split_29 (wX8 cI cZ a T6) (by subst eT6; rfl) (fun H locs hP hD hS => ?_)
      have h := h T6 eT6
      refine lv_iconst (v := 1) hx hb dX8_split_32 (by decide) ?_
      exact W.zret (ty := .boolean) (v := 1) hx hb hr (narB isB1) (fun t ht hW => ⟨⟨1, T6, rfl, h, by rw [ht]; exact hP, va_K.moved hW.alike hK, hD⟩, hS.F ht⟩) hS.2.2 dX8_split_33
    · have h := h.2 c5
      refine lv_iconst (v := 0) hx hb dX8_split_25 (by decide) ?_
      exact W.zret (ty := .boolean) (v := 0) hx hb hr (narB isB0) (fun t ht hW => ⟨⟨0, T1, rfl, h, by rw [ht]; exact hP, va_K.moved hW.alike hK, hD⟩, hS.F ht⟩) hS.2.2 dX8_split_26
/-! X8_hold -/
abbrev rmX8_hold : Room := { frames := 2, cells := 0, slots := 0, locals := 43 }
set_option maxHeartbeats 4000000 in
set_option maxRecDepth 100000 in
theorem c_X8_hold (l : Launch) (D : va_G) (cI cZ : ClassId) (a : Nat → Nat) (sz : Nat) (S : Ob) (p0 : Int32) (p1 : Int32) (Q : Int32 → Ob → Prop) (h : wp_X8_hold S p0 p1 Q) : Met l yX8_hold (wsm yX8_hold cX8_hold 3 (some .boolean)) rmX8_hold (va_Pc [.ref (a 0), .int p0, .int p1] (preW D cI cZ sz (wX8 cI cZ a S))) (va_Qi Q (fun u => atW D cI cZ (va_A (wX8 cI cZ a S) sz) (wX8 cI cZ a u)) (va_A (wX8 cI cZ a S) sz)) 0 0 (va_A (wX8 cI cZ a S) sz) := by
  refine Met.ofW (cc := cX8_hold) (maxL := 3) (ret := (some .boolean)) (by decide) rfl ?_
  intro p e s m args below meth c s₁ B hml hv
  obtain ⟨rfl, hsz, hP, hK, hD0⟩ := hv
  have hx := B.exec
  have hb := B.bytes
  have hr := B.returns
  have hts0 := atoms_spec (ws := wsm yX8_hold cX8_hold 3 (some .boolean)) B.pre
  have hts : ∀ w ∈ lw_all, w.before _ s = true := fun w h => hts0 w (List.mem_cons_of_mem _ h)
  have hown : s.vm.findClass RX8 = some m.cls := findClass_of_methodNamed B.named
  have hlocks := B.notSynchronized
  subst hsz
  have hD := hD0.self (sz := s.heap.size)
  generalize hAe : va_A (wX8 cI cZ a S) s.heap.size = A at hD ⊢
  have hA : ∀ q : Nat, s.heap.size ≤ q → A q := fun q h => by rw [← hAe]; exact Or.inr h
  have hS : va_S A s.heap s.heap [] := va_S.rf
  have hml2 := hml
  have L35 : ∀ (y1 : Int32) (y2 : Int32) (z0 : Int32) (T : Ob) (H : Heap) (locs : List Loc) (ls : Array Slot), va_P D vwCl (wX8 cI cZ a T) H → va_D A (wX8 cI cZ a T) → va_S A s.heap H locs → lv_has ls 3 [(0, .ref (a 0)), (1, .int y1), (2, .int y2)] → wp_X8_hold_L35 Q y1 y2 z0 T → W p l e rmX8_hold s m ([.ref (a 0), .int p0, .int p1] : List Value).toArray below meth c H locs 0 0 (MQ below (va_Qi Q (fun u => atW D cI cZ A (wX8 cI cZ a u)) A) ([.ref (a 0), .int p0, .int p1] : List Value).toArray s 0 0 A) (F0 m 35 ls [.int z0]) := by
    intro y1 y2 z0 T H locs ls hP hD hS hl h
    unfold wp_X8_hold_L35 at h
    refine lv_iload_n hx hb dX8_hold_35 rfl (lv_at hl 2 rfl) ?_
    refine lv_icmp_ne (tgt := 41) hx hb dX8_hold_36 (by decide) (fun c6 => ?_) (fun c6 => ?_)
    · have h := h.1 c6
      refine lv_aload_n hx hb dX8_hold_41 rfl (lv_at hl 0 rfl) ?_
      refine va_get (D := D) (ci := 7) (v := .ref (a 4)) (C := RX8) (T := TX8) (N := 25) hx hb hts inX8 hown hK hP 0 rfl rfl 4 (by decide) (hts _ q_1081) (fun _ h9 => h9) rfl dX8_hold_42 ?_
      refine lv_sipush (v := 215) hx hb dX8_hold_45 (by decide) ?_
      refine lv_iload_n hx hb dX8_hold_48 rfl (lv_at hl 1 rfl) ?_
      refine lv_iadd hx hb dX8_hold_49 ?_
      refine lv_iload_n hx hb dX8_hold_50 rfl (lv_at hl 2 rfl) ?_
      refine lv_if_eq (tgt := 58) hx hb dX8_hold_51 (by decide) (fun c7 => ?_) (fun c7 => ?_)
      · have h := h.1 c7
        refine lv_iconst (v := 0) hx hb dX8_hold_58 (by decide) ?_
        obtain ⟨T8, eT8⟩ : ∃ z : Ob, z = (sa T 4 (upd (T.2 4) (Int32.toNatClampNeg (215 + y1)) 0)) := ⟨_, rfl⟩
        refine ar_is (f := (T.2 4)) (n := 342) (j := (Int32.toNatClampNeg (215 + y1))) (x := 0) hx hb hK hP hD hS 4 rfl rfl h.1 dX8_hold_59 (wX8 cI cZ a T8) (by subst eT8; rfl) (fun H locs hP hD hS => ?_)
        have h := h.2
        have h := h T8 eT8
        refine lv_aload_n hx hb dX8_hold_60 rfl (lv_at hl 0 rfl) ?_
        refine lv_iconst (v := 1) hx hb dX8_hold_61 (by decide) ?_
        obtain ⟨T9, eT9⟩ : ∃ z : Ob, z = (si T8 14 1) := ⟨_, rfl⟩
        refine pu_f (ci := 7) (v := .int 1) (ty := .boolean) (C := RX8) (T := TX8) (N := 25) hx hb hts inX8 tyX8 tyX8_ok nmX8 hown hK hP hD hS 0 rfl rfl 14 (by decide) (hts _ q_1091) (fun _ h9 => h9) rfl rfl (narB isB1) (fitB isB1) (Nat.le_of_ble_eq_true rfl) dX8_hold_62 (wX8 cI cZ a T9) (by subst eT9; rfl) (fun H locs hP hD hS => ?_)
        have h := h T9 eT9
        refine lv_iload_n hx hb dX8_hold_65 rfl (lv_at hl 2 rfl) ?_
        refine lv_if_eq (tgt := 78) hx hb dX8_hold_66 (by decide) (fun c10 => ?_) (fun c10 => ?_)
        · have h := h.1 c10
          refine lv_iconst (v := 1) hx hb dX8_hold_78 (by decide) ?_
          exact W.zret (ty := .boolean) (v := 1) hx hb hr (narB isB1) (fun t ht hW => ⟨⟨1, T9, rfl, h, by rw [ht]; exact hP, va_K.moved hW.alike hK, hD⟩, hS.F ht⟩) hS.2.2 dX8_hold_79
        · have h := h.2 c10
          refine lv_aload_n hx hb dX8_hold_69 rfl (lv_at hl 0 rfl) ?_
          refine lv_aload_n hx hb dX8_hold_70 rfl (lv_at hl 0 rfl) ?_
          refine va_get (D := D) (ci := 7) (v := .ref (a 4)) (C := RX8) (T := TX8) (N := 25) hx hb hts inX8 hown hK hP 0 rfl rfl 4 (by decide) (hts _ q_1081) (fun _ h9 => h9) rfl dX8_hold_71 ?_
          refine lv_iload_n hx hb dX8_hold_74 rfl (lv_at hl 1 rfl) ?_
          refine cl_v (ws' := fun u11 => (wX8 cI cZ a (mnow T9 u11.1 u11.2))) (va_runV (As := [.ref (a 4), .int y1]) (rest := []) ⟨hx, hb, hml, hown, hts⟩ (c_X8_pends l D cI cZ a (fun k => a (k + 4)) true _ (T9, (T9.2 4)) y1 _ h (fun _ => rfl)) (cwV 2 hts (gV q_1189 q_1191 q_30 q_75 q_1192) rfl rfl rfl (by decide +kernel) ⟨Nat.le_of_ble_eq_true rfl, Nat.le_of_ble_eq_true rfl⟩) (preV_of (ci := 7) (q := (RX8, TX8, 25)) hK hP hD [0, 1, 2, 3, 6, 7, 8, 9, 10, 11, 12, 4] rfl rfl (by decide) 0 rfl rfl) rfl rfl hl.1 rfl (lv_room (Nat.le_of_ble_eq_true rfl)) dX8_hold_75 ⟨Nat.zero_le _, Nat.zero_le _⟩) hP hD hS hA [0, 1, 2, 3, 6, 7, 8, 9, 10, 11, 12, 4] [.inl 0, .inl 1, .inl 2, .inl 3, .inl 11, .inr 5, .inl 4, .inl 5, .inl 6, .inl 7, .inl 8, .inl 9, .inl 10, .inr 13, .inr 14, .inr 15, .inr 16, .inr 17] rfl (by decide) (fun _ => rfl) (fun _ => rfl) (fun u11 H locs h hP hD hS => ?_)
          refine lv_iconst (v := 1) hx hb dX8_hold_78 (by decide) ?_
          exact W.zret (ty := .boolean) (v := 1) hx hb hr (narB isB1) (fun t ht hW => ⟨⟨1, (mnow T9 u11.1 u11.2), rfl, h, by rw [ht]; exact hP, va_K.moved hW.alike hK, hD⟩, hS.F ht⟩) hS.2.2 dX8_hold_79
      · have h := h.2 c7
        refine lv_iconst (v := 1) hx hb dX8_hold_54 (by decide) ?_
        refine lv_goto (tgt := 59) hx hb dX8_hold_55 (by decide) ?_
        obtain ⟨T12, eT12⟩ : ∃ z : Ob, z = (sa T 4 (upd (T.2 4) (Int32.toNatClampNeg (215 + y1)) 1)) := ⟨_, rfl⟩
        refine ar_is (f := (T.2 4)) (n := 342) (j := (Int32.toNatClampNeg (215 + y1))) (x := 1) hx hb hK hP hD hS 4 rfl rfl h.1 dX8_hold_59 (wX8 cI cZ a T12) (by subst eT12; rfl) (fun H locs hP hD hS => ?_)
        have h := h.2
        have h := h T12 eT12
        refine lv_aload_n hx hb dX8_hold_60 rfl (lv_at hl 0 rfl) ?_
        refine lv_iconst (v := 1) hx hb dX8_hold_61 (by decide) ?_
        obtain ⟨T13, eT13⟩ : ∃ z : Ob, z = (si T12 14 1) := ⟨_, rfl⟩
        refine pu_f (ci := 7) (v := .int 1) (ty := .boolean) (C := RX8) (T := TX8) (N := 25) hx hb hts inX8 tyX8 tyX8_ok nmX8 hown hK hP hD hS 0 rfl rfl 14 (by decide) (hts _ q_1091) (fun _ h9 => h9) rfl rfl (narB isB1) (fitB isB1) (Nat.le_of_ble_eq_true rfl) dX8_hold_62 (wX8 cI cZ a T13) (by subst eT13; rfl) (fun H locs hP hD hS => ?_)
        have h := h T13 eT13
        refine lv_iload_n hx hb dX8_hold_65 rfl (lv_at hl 2 rfl) ?_
        refine lv_if_eq (tgt := 78) hx hb dX8_hold_66 (by decide) (fun c14 => ?_) (fun c14 => ?_)
        · have h := h.1 c14
          refine lv_iconst (v := 1) hx hb dX8_hold_78 (by decide) ?_
          exact W.zret (ty := .boolean) (v := 1) hx hb hr (narB isB1) (fun t ht hW => ⟨⟨1, T13, rfl, h, by rw [ht]; exact hP, va_K.moved hW.alike hK, hD⟩, hS.F ht⟩) hS.2.2 dX8_hold_79
        · have h := h.2 c14
          refine lv_aload_n hx hb dX8_hold_69 rfl (lv_at hl 0 rfl) ?_
          refine lv_aload_n hx hb dX8_hold_70 rfl (lv_at hl 0 rfl) ?_
          refine va_get (D := D) (ci := 7) (v := .ref (a 4)) (C := RX8) (T := TX8) (N := 25) hx hb hts inX8 hown hK hP 0 rfl rfl 4 (by decide) (hts _ q_1081) (fun _ h9 => h9) rfl dX8_hold_71 ?_
          refine lv_iload_n hx hb dX8_hold_74 rfl (lv_at hl 1 rfl) ?_
          refine cl_v (ws' := fun u15 => (wX8 cI cZ a (mnow T13 u15.1 u15.2))) (va_runV (As := [.ref (a 4), .int y1]) (rest := []) ⟨hx, hb, hml, hown, hts⟩ (c_X8_pends l D cI cZ a (fun k => a (k + 4)) true _ (T13, (T13.2 4)) y1 _ h (fun _ => rfl)) (cwV 2 hts (gV q_1189 q_1191 q_30 q_75 q_1192) rfl rfl rfl (by decide +kernel) ⟨Nat.le_of_ble_eq_true rfl, Nat.le_of_ble_eq_true rfl⟩) (preV_of (ci := 7) (q := (RX8, TX8, 25)) hK hP hD [0, 1, 2, 3, 6, 7, 8, 9, 10, 11, 12, 4] rfl rfl (by decide) 0 rfl rfl) rfl rfl hl.1 rfl (lv_room (Nat.le_of_ble_eq_true rfl)) dX8_hold_75 ⟨Nat.zero_le _, Nat.zero_le _⟩) hP hD hS hA [0, 1, 2, 3, 6, 7, 8, 9, 10, 11, 12, 4] [.inl 0, .inl 1, .inl 2, .inl 3, .inl 11, .inr 5, .inl 4, .inl 5, .inl 6, .inl 7, .inl 8, .inl 9, .inl 10, .inr 13, .inr 14, .inr 15, .inr 16, .inr 17] rfl (by decide) (fun _ => rfl) (fun _ => rfl) (fun u15 H locs h hP hD hS => ?_)
          refine lv_iconst (v := 1) hx hb dX8_hold_78 (by decide) ?_
          exact W.zret (ty := .boolean) (v := 1) hx hb hr (narB isB1) (fun t ht hW => ⟨⟨1, (mnow T13 u15.1 u15.2), rfl, h, by rw [ht]; exact hP, va_K.moved hW.alike hK, hD⟩, hS.F ht⟩) hS.2.2 dX8_hold_79
    · have h := h.2 c6
      refine lv_iconst (v := 0) hx hb dX8_hold_39 (by decide) ?_
      exact W.zret (ty := .boolean) (v := 0) hx hb hr (narB isB0) (fun t ht hW => ⟨⟨0, T, rfl, h, by rw [ht]; exact hP, va_K.moved hW.alike hK, hD⟩, hS.F ht⟩) hS.2.2 dX8_hold_40
  have hl := lv_entry ([.ref (a 0), .int p0, .int p1]) (n := 3) (Nat.le_of_ble_eq_true rfl)
  rw [lg_entry_eq]
  generalize (lg_sl ([.ref (a 0), .int p0, .int p1]) ++ List.replicate (3 - (lg_sl ([.ref (a 0), .int p0, .int p1])).length) Slot.unset).toArray = ls at hl ⊢
  have hl : lv_has ls 3 [(0, .ref (a 0)), (1, .int p0), (2, .int p1)] := hl
  unfold wp_X8_hold at h
  refine lv_aload_n hx hb dX8_hold_0 rfl (lv_at hl 0 rfl) ?_
  refine lv_iconst (v := 0) hx hb dX8_hold_1 (by decide) ?_
  obtain ⟨T1, eT1⟩ : ∃ z : Ob, z = (si S 17 0) := ⟨_, rfl⟩
  refine pu_f (ci := 7) (v := .int 0) (ty := .int) (C := RX8) (T := TX8) (N := 25) hx hb hts inX8 tyX8 tyX8_ok nmX8 hown hK hP hD hS 0 rfl rfl 17 (by decide) (hts _ q_1094) (fun _ h9 => h9) rfl rfl rfl rfl (Nat.le_of_ble_eq_true rfl) dX8_hold_2 (wX8 cI cZ a T1) (by subst eT1; rfl) (fun H locs hP hD hS => ?_)
  have h := h T1 eT1
  refine lv_iload_n hx hb dX8_hold_5 rfl (lv_at hl 1 rfl) ?_
  refine lv_bipush (v := 8) hx hb dX8_hold_6 (by decide) ?_
  refine lv_bipush (v := 15) hx hb dX8_hold_8 (by decide) ?_
  refine cl_i (ws' := fun u2 => (wX8 cI cZ a T1)) (va_runS (As := [.int p0, .int 8, .int 15]) (rest := []) ⟨hx, hb, hml, hown, hts⟩ (c_X8_within l D cI cZ _ () p0 8 15 _ h ) (va_cwS 3 hts (gS q_1161 q_1162 q_75 q_1163) rfl rfl rfl (by decide +kernel) ⟨Nat.le_of_ble_eq_true rfl, Nat.le_of_ble_eq_true rfl⟩) (preS_of hK hP hD [] rfl rfl (by decide)) rfl rfl hl.1 rfl (lv_room (Nat.le_of_ble_eq_true rfl)) dX8_hold_10 ⟨Nat.zero_le _, Nat.zero_le _⟩) hP hD hS hA [] [.inr 0, .inr 1, .inr 2, .inr 3, .inr 4, .inr 5, .inr 6, .inr 7, .inr 8, .inr 9, .inr 10, .inr 11, .inr 12, .inr 13, .inr 14, .inr 15, .inr 16, .inr 17] rfl (by decide) (fun _ => rfl) (fun _ => rfl) (fun r3 u2 H locs h hP hD hS => ?_)
  refine lv_if_eq (tgt := 39) hx hb dX8_hold_13 (by decide) (fun c4 => ?_) (fun c4 => ?_)
  · have h := h.1 c4
    refine lv_iconst (v := 0) hx hb dX8_hold_39 (by decide) ?_
    exact W.zret (ty := .boolean) (v := 0) hx hb hr (narB isB0) (fun t ht hW => ⟨⟨0, T1, rfl, h, by rw [ht]; exact hP, va_K.moved hW.alike hK, hD⟩, hS.F ht⟩) hS.2.2 dX8_hold_40
  · have h := h.2 c4
    refine lv_aload_n hx hb dX8_hold_16 rfl (lv_at hl 0 rfl) ?_
    refine va_get (D := D) (ci := 7) (v := .ref (a 4)) (C := RX8) (T := TX8) (N := 25) hx hb hts inX8 hown hK hP 0 rfl rfl 4 (by decide) (hts _ q_1081) (fun _ h9 => h9) rfl dX8_hold_17 ?_
    refine lv_sipush (v := 215) hx hb dX8_hold_20 (by decide) ?_
    refine lv_iload_n hx hb dX8_hold_23 rfl (lv_at hl 1 rfl) ?_
    refine lv_iadd hx hb dX8_hold_24 ?_
    refine ar_il (f := (T1.2 4)) (n := 342) (j := (Int32.toNatClampNeg (215 + p0))) hx hb hK hP 4 rfl rfl h.1 dX8_hold_25 ?_
    have h := h.2
    refine lv_iconst (v := 1) hx hb dX8_hold_26 (by decide) ?_
    refine lv_icmp_ne (tgt := 34) hx hb dX8_hold_27 (by decide) (fun c5 => ?_) (fun c5 => ?_)
    · have h := h.1 c5
      refine lv_iconst (v := 0) hx hb dX8_hold_34 (by decide) ?_
      exact L35 p0 p1 0 T1 _ _ _ hP hD hS (lv_sub hl [0, 1, 2] rfl) h
    · have h := h.2 c5
      refine lv_iconst (v := 1) hx hb dX8_hold_30 (by decide) ?_
      refine lv_goto (tgt := 35) hx hb dX8_hold_31 (by decide) ?_
      exact L35 p0 p1 1 T1 _ _ _ hP hD hS (lv_sub hl [0, 1, 2] rfl) h
/-! X8_pend -/
abbrev rmX8_pend : Room := { frames := 2, cells := 0, slots := 0, locals := 43 }
set_option maxHeartbeats 4000000 in
set_option maxRecDepth 100000 in
theorem c_X8_pend (l : Launch) (D : va_G) (cI cZ : ClassId) (a : Nat → Nat) (sz : Nat) (S : Ob) (p0 : Int32) (Q : Int32 → Ob → Prop) (h : wp_X8_pend S p0 Q) : Met l yX8_pend (wsm yX8_pend cX8_pend 3 (some .boolean)) rmX8_pend (va_Pc [.ref (a 0), .int p0] (preW D cI cZ sz (wX8 cI cZ a S))) (va_Qi Q (fun u => atW D cI cZ (va_A (wX8 cI cZ a S) sz) (wX8 cI cZ a u)) (va_A (wX8 cI cZ a S) sz)) 0 0 (va_A (wX8 cI cZ a S) sz) := by
  refine Met.ofW (cc := cX8_pend) (maxL := 3) (ret := (some .boolean)) (by decide) rfl ?_
  intro p e s m args below meth c s₁ B hml hv
  obtain ⟨rfl, hsz, hP, hK, hD0⟩ := hv
  have hx := B.exec
  have hb := B.bytes
  have hr := B.returns
  have hts0 := atoms_spec (ws := wsm yX8_pend cX8_pend 3 (some .boolean)) B.pre
  have hts : ∀ w ∈ lw_all, w.before _ s = true := fun w h => hts0 w (List.mem_cons_of_mem _ h)
  have hown : s.vm.findClass RX8 = some m.cls := findClass_of_methodNamed B.named
  have hlocks := B.notSynchronized
  subst hsz
  have hD := hD0.self (sz := s.heap.size)
  generalize hAe : va_A (wX8 cI cZ a S) s.heap.size = A at hD ⊢
  have hA : ∀ q : Nat, s.heap.size ≤ q → A q := fun q h => by rw [← hAe]; exact Or.inr h
  have hS : va_S A s.heap s.heap [] := va_S.rf
  have hml2 := hml
  have hl := lv_entry ([.ref (a 0), .int p0]) (n := 3) (Nat.le_of_ble_eq_true rfl)
  rw [lg_entry_eq]
  generalize (lg_sl ([.ref (a 0), .int p0]) ++ List.replicate (3 - (lg_sl ([.ref (a 0), .int p0])).length) Slot.unset).toArray = ls at hl ⊢
  have hl : lv_has ls 3 [(0, .ref (a 0)), (1, .int p0)] := hl
  unfold wp_X8_pend at h
  refine lv_aload_n hx hb dX8_pend_0 rfl (lv_at hl 0 rfl) ?_
  refine lv_iconst (v := 0) hx hb dX8_pend_1 (by decide) ?_
  obtain ⟨T1, eT1⟩ : ∃ z : Ob, z = (si S 17 0) := ⟨_, rfl⟩
  refine pu_f (ci := 7) (v := .int 0) (ty := .int) (C := RX8) (T := TX8) (N := 25) hx hb hts inX8 tyX8 tyX8_ok nmX8 hown hK hP hD hS 0 rfl rfl 17 (by decide) (hts _ q_1094) (fun _ h9 => h9) rfl rfl rfl rfl (Nat.le_of_ble_eq_true rfl) dX8_pend_2 (wX8 cI cZ a T1) (by subst eT1; rfl) (fun H locs hP hD hS => ?_)
  have h := h T1 eT1
  refine lv_iload_n hx hb dX8_pend_5 rfl (lv_at hl 1 rfl) ?_
  refine lv_iconst (v := 0) hx hb dX8_pend_6 (by decide) ?_
  refine lv_bipush (v := 19) hx hb dX8_pend_7 (by decide) ?_
  refine cl_i (ws' := fun u2 => (wX8 cI cZ a T1)) (va_runS (As := [.int p0, .int 0, .int 19]) (rest := []) ⟨hx, hb, hml, hown, hts⟩ (c_X8_within l D cI cZ _ () p0 0 19 _ h ) (va_cwS 3 hts (gS q_1161 q_1162 q_75 q_1163) rfl rfl rfl (by decide +kernel) ⟨Nat.le_of_ble_eq_true rfl, Nat.le_of_ble_eq_true rfl⟩) (preS_of hK hP hD [] rfl rfl (by decide)) rfl rfl hl.1 rfl (lv_room (Nat.le_of_ble_eq_true rfl)) dX8_pend_9 ⟨Nat.zero_le _, Nat.zero_le _⟩) hP hD hS hA [] [.inr 0, .inr 1, .inr 2, .inr 3, .inr 4, .inr 5, .inr 6, .inr 7, .inr 8, .inr 9, .inr 10, .inr 11, .inr 12, .inr 13, .inr 14, .inr 15, .inr 16, .inr 17] rfl (by decide) (fun _ => rfl) (fun _ => rfl) (fun r3 u2 H locs h hP hD hS => ?_)
  refine lv_if_ne (tgt := 17) hx hb dX8_pend_12 (by decide) (fun c4 => ?_) (fun c4 => ?_)
  · have h := h.1 c4
    refine lv_aload_n hx hb dX8_pend_17 rfl (lv_at hl 0 rfl) ?_
    refine va_get (D := D) (ci := 7) (v := .ref (a 4)) (C := RX8) (T := TX8) (N := 25) hx hb hts inX8 hown hK hP 0 rfl rfl 4 (by decide) (hts _ q_1081) (fun _ h9 => h9) rfl dX8_pend_18 ?_
    refine lv_sipush (v := 194) hx hb dX8_pend_21 (by decide) ?_
    refine lv_iload_n hx hb dX8_pend_24 rfl (lv_at hl 1 rfl) ?_
    refine lv_iadd hx hb dX8_pend_25 ?_
    refine ar_il (f := (T1.2 4)) (n := 342) (j := (Int32.toNatClampNeg (194 + p0))) hx hb hK hP 4 rfl rfl h.1 dX8_pend_26 ?_
    have h := h.2
    refine lv_if_ge (tgt := 34) hx hb dX8_pend_27 (by decide) (fun c5 => ?_) (fun c5 => ?_)
    · have h := h.1 c5
      refine lv_iconst (v := 0) hx hb dX8_pend_34 (by decide) ?_
      refine lv_istore_n (lv' := [(2, .int 0), (0, .ref (a 0)), (1, .int p0)]) hx hb dX8_pend_35 rfl hl (by decide) rfl (fun ls hl => ?_)
      refine lv_aload_n hx hb dX8_pend_36 rfl (lv_at hl 1 rfl) ?_
      refine lv_iconst (v := 1) hx hb dX8_pend_37 (by decide) ?_
      obtain ⟨T6, eT6⟩ : ∃ z : Ob, z = (si T1 14 1) := ⟨_, rfl⟩
      refine pu_f (ci := 7) (v := .int 1) (ty := .boolean) (C := RX8) (T := TX8) (N := 25) hx hb hts inX8 tyX8 tyX8_ok nmX8 hown hK hP hD hS 0 rfl rfl 14 (by decide) (hts _ q_1091) (fun _ h9 => h9) rfl rfl (narB isB1) (fitB isB1) (Nat.le_of_ble_eq_true rfl) dX8_pend_38 (wX8 cI cZ a T6) (by subst eT6; rfl) (fun H locs hP hD hS => ?_)
      have h := h T6 eT6
      refine lv_aload_n hx hb dX8_pend_41 rfl (lv_at hl 1 rfl) ?_
      refine lv_aload_n hx hb dX8_pend_42 rfl (lv_at hl 1 rfl) ?_
      refine va_get (D := D) (ci := 7) (v := .ref (a 4)) (C := RX8) (T := TX8) (N := 25) hx hb hts inX8 hown hK hP 0 rfl rfl 4 (by decide) (hts _ q_1081) (fun _ h9 => h9) rfl dX8_pend_43 ?_
      refine lv_iload_n hx hb dX8_pend_46 rfl (lv_at hl 2 rfl) ?_
      refine cl_v (ws' := fun u7 => (wX8 cI cZ a (mnow T6 u7.1 u7.2))) (va_runV (As := [.ref (a 4), .int p0]) (rest := []) ⟨hx, hb, hml, hown, hts⟩ (c_X8_pends l D cI cZ a (fun k => a (k + 4)) true _ (T6, (T6.2 4)) p0 _ h (fun _ => rfl)) (cwV 2 hts (gV q_1189 q_1191 q_30 q_75 q_1192) rfl rfl rfl (by decide +kernel) ⟨Nat.le_of_ble_eq_true rfl, Nat.le_of_ble_eq_true rfl⟩) (preV_of (ci := 7) (q := (RX8, TX8, 25)) hK hP hD [0, 1, 2, 3, 6, 7, 8, 9, 10, 11, 12, 4] rfl rfl (by decide) 0 rfl rfl) rfl rfl hl.1 rfl (lv_room (Nat.le_of_ble_eq_true rfl)) dX8_pend_47 ⟨Nat.zero_le _, Nat.zero_le _⟩) hP hD hS hA [0, 1, 2, 3, 6, 7, 8, 9, 10, 11, 12, 4] [.inl 0, .inl 1, .inl 2, .inl 3, .inl 11, .inr 5, .inl 4, .inl 5, .inl 6, .inl 7, .inl 8, .inl 9, .inl 10, .inr 13, .inr 14, .inr 15, .inr 16, .inr 17] rfl (by decide) (fun _ => rfl) (fun _ => rfl) (fun u7 H locs h hP hD hS => ?_)
      refine lv_iload_n hx hb dX8_pend_50 rfl (lv_at hl 0 rfl) ?_
      exact W.zret (ty := .boolean) (v := 0) hx hb hr (narB isB0) (fun t ht hW => ⟨⟨0, (mnow T6 u7.1 u7.2), rfl, h, by rw [ht]; exact hP, va_K.moved hW.alike hK, hD⟩, hS.F ht⟩) hS.2.2 dX8_pend_51
    · have h := h.2 c5
      refine lv_iconst (v := 1) hx hb dX8_pend_30 (by decide) ?_
      refine lv_goto (tgt := 35) hx hb dX8_pend_31 (by decide) ?_
      refine lv_istore_n (lv' := [(2, .int 1), (0, .ref (a 0)), (1, .int p0)]) hx hb dX8_pend_35 rfl hl (by decide) rfl (fun ls hl => ?_)
      refine lv_aload_n hx hb dX8_pend_36 rfl (lv_at hl 1 rfl) ?_
      refine lv_iconst (v := 1) hx hb dX8_pend_37 (by decide) ?_
      obtain ⟨T8, eT8⟩ : ∃ z : Ob, z = (si T1 14 1) := ⟨_, rfl⟩
      refine pu_f (ci := 7) (v := .int 1) (ty := .boolean) (C := RX8) (T := TX8) (N := 25) hx hb hts inX8 tyX8 tyX8_ok nmX8 hown hK hP hD hS 0 rfl rfl 14 (by decide) (hts _ q_1091) (fun _ h9 => h9) rfl rfl (narB isB1) (fitB isB1) (Nat.le_of_ble_eq_true rfl) dX8_pend_38 (wX8 cI cZ a T8) (by subst eT8; rfl) (fun H locs hP hD hS => ?_)
      have h := h T8 eT8
      refine lv_aload_n hx hb dX8_pend_41 rfl (lv_at hl 1 rfl) ?_
      refine lv_aload_n hx hb dX8_pend_42 rfl (lv_at hl 1 rfl) ?_
      refine va_get (D := D) (ci := 7) (v := .ref (a 4)) (C := RX8) (T := TX8) (N := 25) hx hb hts inX8 hown hK hP 0 rfl rfl 4 (by decide) (hts _ q_1081) (fun _ h9 => h9) rfl dX8_pend_43 ?_
      refine lv_iload_n hx hb dX8_pend_46 rfl (lv_at hl 2 rfl) ?_
      refine cl_v (ws' := fun u9 => (wX8 cI cZ a (mnow T8 u9.1 u9.2))) (va_runV (As := [.ref (a 4), .int p0]) (rest := []) ⟨hx, hb, hml, hown, hts⟩ (c_X8_pends l D cI cZ a (fun k => a (k + 4)) true _ (T8, (T8.2 4)) p0 _ h (fun _ => rfl)) (cwV 2 hts (gV q_1189 q_1191 q_30 q_75 q_1192) rfl rfl rfl (by decide +kernel) ⟨Nat.le_of_ble_eq_true rfl, Nat.le_of_ble_eq_true rfl⟩) (preV_of (ci := 7) (q := (RX8, TX8, 25)) hK hP hD [0, 1, 2, 3, 6, 7, 8, 9, 10, 11, 12, 4] rfl rfl (by decide) 0 rfl rfl) rfl rfl hl.1 rfl (lv_room (Nat.le_of_ble_eq_true rfl)) dX8_pend_47 ⟨Nat.zero_le _, Nat.zero_le _⟩) hP hD hS hA [0, 1, 2, 3, 6, 7, 8, 9, 10, 11, 12, 4] [.inl 0, .inl 1, .inl 2, .inl 3, .inl 11, .inr 5, .inl 4, .inl 5, .inl 6, .inl 7, .inl 8, .inl 9, .inl 10, .inr 13, .inr 14, .inr 15, .inr 16, .inr 17] rfl (by decide) (fun _ => rfl) (fun _ => rfl) (fun u9 H locs h hP hD hS => ?_)
      refine lv_iload_n hx hb dX8_pend_50 rfl (lv_at hl 0 rfl) ?_
      exact W.zret (ty := .boolean) (v := 1) hx hb hr (narB isB1) (fun t ht hW => ⟨⟨1, (mnow T8 u9.1 u9.2), rfl, h, by rw [ht]; exact hP, va_K.moved hW.alike hK, hD⟩, hS.F ht⟩) hS.2.2 dX8_pend_51
  · have h := h.2 c4
    refine lv_iconst (v := 0) hx hb dX8_pend_15 (by decide) ?_
    exact W.zret (ty := .boolean) (v := 0) hx hb hr (narB isB0) (fun t ht hW => ⟨⟨0, T1, rfl, h, by rw [ht]; exact hP, va_K.moved hW.alike hK, hD⟩, hS.F ht⟩) hS.2.2 dX8_pend_16
/-! X8_clear -/
abbrev rmX8_clear : Room := { frames := 1, cells := 0, slots := 0, locals := 22 }
set_option maxHeartbeats 4000000 in
set_option maxRecDepth 100000 in
theorem c_X8_clear (l : Launch) (D : va_G) (cI cZ : ClassId) (a : Nat → Nat) (sz : Nat) (S : Ob) (p0 : Int32) (Q : Int32 → Ob → Prop) (h : wp_X8_clear S p0 Q) : Met l yX8_clear (wsm yX8_clear cX8_clear 2 (some .boolean)) rmX8_clear (va_Pc [.ref (a 0), .int p0] (preW D cI cZ sz (wX8 cI cZ a S))) (va_Qi Q (fun u => atW D cI cZ (va_A (wX8 cI cZ a S) sz) (wX8 cI cZ a u)) (va_A (wX8 cI cZ a S) sz)) 0 0 (va_A (wX8 cI cZ a S) sz) := by
  refine Met.ofW (cc := cX8_clear) (maxL := 2) (ret := (some .boolean)) (by decide) rfl ?_
  intro p e s m args below meth c s₁ B hml hv
  obtain ⟨rfl, hsz, hP, hK, hD0⟩ := hv
  have hx := B.exec
  have hb := B.bytes
  have hr := B.returns
  have hts0 := atoms_spec (ws := wsm yX8_clear cX8_clear 2 (some .boolean)) B.pre
  have hts : ∀ w ∈ lw_all, w.before _ s = true := fun w h => hts0 w (List.mem_cons_of_mem _ h)
  have hown : s.vm.findClass RX8 = some m.cls := findClass_of_methodNamed B.named
  have hlocks := B.notSynchronized
  subst hsz
  have hD := hD0.self (sz := s.heap.size)
  generalize hAe : va_A (wX8 cI cZ a S) s.heap.size = A at hD ⊢
  have hA : ∀ q : Nat, s.heap.size ≤ q → A q := fun q h => by rw [← hAe]; exact Or.inr h
  have hS : va_S A s.heap s.heap [] := va_S.rf
  have hml2 := hml
  have hl := lv_entry ([.ref (a 0), .int p0]) (n := 2) (Nat.le_of_ble_eq_true rfl)
  rw [lg_entry_eq]
  generalize (lg_sl ([.ref (a 0), .int p0]) ++ List.replicate (2 - (lg_sl ([.ref (a 0), .int p0])).length) Slot.unset).toArray = ls at hl ⊢
  have hl : lv_has ls 2 [(0, .ref (a 0)), (1, .int p0)] := hl
  unfold wp_X8_clear at h
  refine lv_aload_n hx hb dX8_clear_0 rfl (lv_at hl 0 rfl) ?_
  refine lv_iconst (v := 0) hx hb dX8_clear_1 (by decide) ?_
  obtain ⟨T1, eT1⟩ : ∃ z : Ob, z = (si S 17 0) := ⟨_, rfl⟩
  refine pu_f (ci := 7) (v := .int 0) (ty := .int) (C := RX8) (T := TX8) (N := 25) hx hb hts inX8 tyX8 tyX8_ok nmX8 hown hK hP hD hS 0 rfl rfl 17 (by decide) (hts _ q_1094) (fun _ h9 => h9) rfl rfl rfl rfl (Nat.le_of_ble_eq_true rfl) dX8_clear_2 (wX8 cI cZ a T1) (by subst eT1; rfl) (fun H locs hP hD hS => ?_)
  have h := h T1 eT1
  refine lv_iload_n hx hb dX8_clear_5 rfl (lv_at hl 1 rfl) ?_
  refine lv_iconst (v := 0) hx hb dX8_clear_6 (by decide) ?_
  refine lv_bipush (v := 20) hx hb dX8_clear_7 (by decide) ?_
  refine cl_i (ws' := fun u2 => (wX8 cI cZ a T1)) (va_runS (As := [.int p0, .int 0, .int 20]) (rest := []) ⟨hx, hb, hml, hown, hts⟩ (c_X8_within l D cI cZ _ () p0 0 20 _ h ) (va_cwS 3 hts (gS q_1161 q_1162 q_75 q_1163) rfl rfl rfl (by decide +kernel) ⟨Nat.le_of_ble_eq_true rfl, Nat.le_of_ble_eq_true rfl⟩) (preS_of hK hP hD [] rfl rfl (by decide)) rfl rfl hl.1 rfl (lv_room (Nat.le_of_ble_eq_true rfl)) dX8_clear_9 ⟨Nat.zero_le _, Nat.zero_le _⟩) hP hD hS hA [] [.inr 0, .inr 1, .inr 2, .inr 3, .inr 4, .inr 5, .inr 6, .inr 7, .inr 8, .inr 9, .inr 10, .inr 11, .inr 12, .inr 13, .inr 14, .inr 15, .inr 16, .inr 17] rfl (by decide) (fun _ => rfl) (fun _ => rfl) (fun r3 u2 H locs h hP hD hS => ?_)
  refine lv_if_eq (tgt := 42) hx hb dX8_clear_12 (by decide) (fun c4 => ?_) (fun c4 => ?_)
  · have h := h.1 c4
    refine lv_iconst (v := 0) hx hb dX8_clear_42 (by decide) ?_
    exact W.zret (ty := .boolean) (v := 0) hx hb hr (narB isB0) (fun t ht hW => ⟨⟨0, T1, rfl, h, by rw [ht]; exact hP, va_K.moved hW.alike hK, hD⟩, hS.F ht⟩) hS.2.2 dX8_clear_43
  · have h := h.2 c4
    refine lv_aload_n hx hb dX8_clear_15 rfl (lv_at hl 0 rfl) ?_
    refine va_get (D := D) (ci := 7) (v := .ref (a 4)) (C := RX8) (T := TX8) (N := 25) hx hb hts inX8 hown hK hP 0 rfl rfl 4 (by decide) (hts _ q_1081) (fun _ h9 => h9) rfl dX8_clear_16 ?_
    refine lv_sipush (v := 194) hx hb dX8_clear_19 (by decide) ?_
    refine lv_iload_n hx hb dX8_clear_22 rfl (lv_at hl 1 rfl) ?_
    refine lv_iadd hx hb dX8_clear_23 ?_
    refine ar_il (f := (T1.2 4)) (n := 342) (j := (Int32.toNatClampNeg (194 + p0))) hx hb hK hP 4 rfl rfl h.1 dX8_clear_24 ?_
    have h := h.2
    refine lv_if_lt (tgt := 42) hx hb dX8_clear_25 (by decide) (fun c5 => ?_) (fun c5 => ?_)
    · have h := h.1 c5
      refine lv_iconst (v := 0) hx hb dX8_clear_42 (by decide) ?_
      exact W.zret (ty := .boolean) (v := 0) hx hb hr (narB isB0) (fun t ht hW => ⟨⟨0, T1, rfl, h, by rw [ht]; exact hP, va_K.moved hW.alike hK, hD⟩, hS.F ht⟩) hS.2.2 dX8_clear_43
    · have h := h.2 c5
      refine lv_aload_n hx hb dX8_clear_28 rfl (lv_at hl 0 rfl) ?_
      refine va_get (D := D) (ci := 7) (v := .ref (a 4)) (C := RX8) (T := TX8) (N := 25) hx hb hts inX8 hown hK hP 0 rfl rfl 4 (by decide) (hts _ q_1081) (fun _ h9 => h9) rfl dX8_clear_29 ?_
      refine lv_sipush (v := 215) hx hb dX8_clear_32 (by decide) ?_
      refine lv_iload_n hx hb dX8_clear_35 rfl (lv_at hl 1 rfl) ?_
      refine lv_iadd hx hb dX8_clear_36 ?_
      refine ar_il (f := (T1.2 4)) (n := 342) (j := (Int32.toNatClampNeg (215 + p0))) hx hb hK hP 4 rfl rfl h.1 dX8_clear_37 ?_
      have h := h.2
      refine lv_iconst (v := 1) hx hb dX8_clear_38 (by decide) ?_
      refine lv_icmp_ne (tgt := 44) hx hb dX8_clear_39 (by decide) (fun c6 => ?_) (fun c6 => ?_)
      · have h := h.1 c6
        refine lv_aload_n hx hb dX8_clear_44 rfl (lv_at hl 0 rfl) ?_
        refine va_get (D := D) (ci := 7) (v := .ref (a 4)) (C := RX8) (T := TX8) (N := 25) hx hb hts inX8 hown hK hP 0 rfl rfl 4 (by decide) (hts _ q_1081) (fun _ h9 => h9) rfl dX8_clear_45 ?_
        refine lv_sipush (v := 194) hx hb dX8_clear_48 (by decide) ?_
        refine lv_iload_n hx hb dX8_clear_51 rfl (lv_at hl 1 rfl) ?_
        refine lv_iadd hx hb dX8_clear_52 ?_
        refine lv_iconst (v := -1) hx hb dX8_clear_53 (by decide) ?_
        obtain ⟨T7, eT7⟩ : ∃ z : Ob, z = (sa T1 4 (upd (T1.2 4) (Int32.toNatClampNeg (194 + p0)) (-1))) := ⟨_, rfl⟩
        refine ar_is (f := (T1.2 4)) (n := 342) (j := (Int32.toNatClampNeg (194 + p0))) (x := (-1)) hx hb hK hP hD hS 4 rfl rfl h.1 dX8_clear_54 (wX8 cI cZ a T7) (by subst eT7; rfl) (fun H locs hP hD hS => ?_)
        have h := h.2
        have h := h T7 eT7
        refine lv_iconst (v := 1) hx hb dX8_clear_55 (by decide) ?_
        exact W.zret (ty := .boolean) (v := 1) hx hb hr (narB isB1) (fun t ht hW => ⟨⟨1, T7, rfl, h, by rw [ht]; exact hP, va_K.moved hW.alike hK, hD⟩, hS.F ht⟩) hS.2.2 dX8_clear_56
      · have h := h.2 c6
        refine lv_iconst (v := 0) hx hb dX8_clear_42 (by decide) ?_
        exact W.zret (ty := .boolean) (v := 0) hx hb hr (narB isB0) (fun t ht hW => ⟨⟨0, T1, rfl, h, by rw [ht]; exact hP, va_K.moved hW.alike hK, hD⟩, hS.F ht⟩) hS.2.2 dX8_clear_43
/-! X8_timer -/
abbrev rmX8_timer : Room := { frames := 1, cells := 0, slots := 0, locals := 22 }
set_option maxHeartbeats 4000000 in
set_option maxRecDepth 100000 in
theorem c_X8_timer (l : Launch) (D : va_G) (cI cZ : ClassId) (a : Nat → Nat) (sz : Nat) (S : Ob) (p0 : Int32) (Q : Int32 → Ob → Prop) (h : wp_X8_timer S p0 Q) : Met l yX8_timer (wsm yX8_timer cX8_timer 2 (some .boolean)) rmX8_timer (va_Pc [.ref (a 0), .int p0] (preW D cI cZ sz (wX8 cI cZ a S))) (va_Qi Q (fun u => atW D cI cZ (va_A (wX8 cI cZ a S) sz) (wX8 cI cZ a u)) (va_A (wX8 cI cZ a S) sz)) 0 0 (va_A (wX8 cI cZ a S) sz) := by
  refine Met.ofW (cc := cX8_timer) (maxL := 2) (ret := (some .boolean)) (by decide) rfl ?_
  intro p e s m args below meth c s₁ B hml hv
  obtain ⟨rfl, hsz, hP, hK, hD0⟩ := hv
  have hx := B.exec
  have hb := B.bytes
  have hr := B.returns
  have hts0 := atoms_spec (ws := wsm yX8_timer cX8_timer 2 (some .boolean)) B.pre
  have hts : ∀ w ∈ lw_all, w.before _ s = true := fun w h => hts0 w (List.mem_cons_of_mem _ h)
  have hown : s.vm.findClass RX8 = some m.cls := findClass_of_methodNamed B.named
  have hlocks := B.notSynchronized
  subst hsz
  have hD := hD0.self (sz := s.heap.size)
  generalize hAe : va_A (wX8 cI cZ a S) s.heap.size = A at hD ⊢
  have hA : ∀ q : Nat, s.heap.size ≤ q → A q := fun q h => by rw [← hAe]; exact Or.inr h
  have hS : va_S A s.heap s.heap [] := va_S.rf
  have hml2 := hml
  have hl := lv_entry ([.ref (a 0), .int p0]) (n := 2) (Nat.le_of_ble_eq_true rfl)
  rw [lg_entry_eq]
  generalize (lg_sl ([.ref (a 0), .int p0]) ++ List.replicate (2 - (lg_sl ([.ref (a 0), .int p0])).length) Slot.unset).toArray = ls at hl ⊢
  have hl : lv_has ls 2 [(0, .ref (a 0)), (1, .int p0)] := hl
  unfold wp_X8_timer at h
  refine lv_aload_n hx hb dX8_timer_0 rfl (lv_at hl 0 rfl) ?_
  refine lv_iconst (v := 0) hx hb dX8_timer_1 (by decide) ?_
  obtain ⟨T1, eT1⟩ : ∃ z : Ob, z = (si S 17 0) := ⟨_, rfl⟩
  refine pu_f (ci := 7) (v := .int 0) (ty := .int) (C := RX8) (T := TX8) (N := 25) hx hb hts inX8 tyX8 tyX8_ok nmX8 hown hK hP hD hS 0 rfl rfl 17 (by decide) (hts _ q_1094) (fun _ h9 => h9) rfl rfl rfl rfl (Nat.le_of_ble_eq_true rfl) dX8_timer_2 (wX8 cI cZ a T1) (by subst eT1; rfl) (fun H locs hP hD hS => ?_)
  have h := h T1 eT1
  refine lv_iload_n hx hb dX8_timer_5 rfl (lv_at hl 1 rfl) ?_
  refine lv_iconst (v := 0) hx hb dX8_timer_6 (by decide) ?_
  refine lv_sipush (v := 999) hx hb dX8_timer_7 (by decide) ?_
  refine cl_i (ws' := fun u2 => (wX8 cI cZ a T1)) (va_runS (As := [.int p0, .int 0, .int 999]) (rest := []) ⟨hx, hb, hml, hown, hts⟩ (c_X8_within l D cI cZ _ () p0 0 999 _ h ) (va_cwS 3 hts (gS q_1161 q_1162 q_75 q_1163) rfl rfl rfl (by decide +kernel) ⟨Nat.le_of_ble_eq_true rfl, Nat.le_of_ble_eq_true rfl⟩) (preS_of hK hP hD [] rfl rfl (by decide)) rfl rfl hl.1 rfl (lv_room (Nat.le_of_ble_eq_true rfl)) dX8_timer_10 ⟨Nat.zero_le _, Nat.zero_le _⟩) hP hD hS hA [] [.inr 0, .inr 1, .inr 2, .inr 3, .inr 4, .inr 5, .inr 6, .inr 7, .inr 8, .inr 9, .inr 10, .inr 11, .inr 12, .inr 13, .inr 14, .inr 15, .inr 16, .inr 17] rfl (by decide) (fun _ => rfl) (fun _ => rfl) (fun r3 u2 H locs h hP hD hS => ?_)
  refine lv_if_ne (tgt := 18) hx hb dX8_timer_13 (by decide) (fun c4 => ?_) (fun c4 => ?_)
  · have h := h.1 c4
    refine lv_aload_n hx hb dX8_timer_18 rfl (lv_at hl 0 rfl) ?_
    refine va_get (D := D) (ci := 7) (v := .ref (a 4)) (C := RX8) (T := TX8) (N := 25) hx hb hts inX8 hown hK hP 0 rfl rfl 4 (by decide) (hts _ q_1081) (fun _ h9 => h9) rfl dX8_timer_19 ?_
    refine lv_bipush (v := 26) hx hb dX8_timer_22 (by decide) ?_
    refine lv_iload_n hx hb dX8_timer_24 rfl (lv_at hl 1 rfl) ?_
    obtain ⟨T5, eT5⟩ : ∃ z : Ob, z = (sa T1 4 (upd (T1.2 4) 26 p0)) := ⟨_, rfl⟩
    refine ar_is (f := (T1.2 4)) (n := 342) (j := 26) (x := p0) hx hb hK hP hD hS 4 rfl (by decide) (okLit (by decide)) dX8_timer_25 (wX8 cI cZ a T5) (by subst eT5; rfl) (fun H locs hP hD hS => ?_)
    have h := h T5 eT5
    refine lv_aload_n hx hb dX8_timer_26 rfl (lv_at hl 0 rfl) ?_
    refine va_get (D := D) (ci := 7) (v := .ref (a 4)) (C := RX8) (T := TX8) (N := 25) hx hb hts inX8 hown hK hP 0 rfl rfl 4 (by decide) (hts _ q_1081) (fun _ h9 => h9) rfl dX8_timer_27 ?_
    refine lv_bipush (v := 27) hx hb dX8_timer_30 (by decide) ?_
    refine lv_iload_n hx hb dX8_timer_32 rfl (lv_at hl 1 rfl) ?_
    obtain ⟨T6, eT6⟩ : ∃ z : Ob, z = (sa T5 4 (upd (T5.2 4) 27 p0)) := ⟨_, rfl⟩
    refine ar_is (f := (T5.2 4)) (n := 342) (j := 27) (x := p0) hx hb hK hP hD hS 4 rfl (by decide) (okLit (by decide)) dX8_timer_33 (wX8 cI cZ a T6) (by subst eT6; rfl) (fun H locs hP hD hS => ?_)
    have h := h T6 eT6
    refine lv_iconst (v := 1) hx hb dX8_timer_34 (by decide) ?_
    exact W.zret (ty := .boolean) (v := 1) hx hb hr (narB isB1) (fun t ht hW => ⟨⟨1, T6, rfl, h, by rw [ht]; exact hP, va_K.moved hW.alike hK, hD⟩, hS.F ht⟩) hS.2.2 dX8_timer_35
  · have h := h.2 c4
    refine lv_iconst (v := 0) hx hb dX8_timer_16 (by decide) ?_
    exact W.zret (ty := .boolean) (v := 0) hx hb hr (narB isB0) (fun t ht hW => ⟨⟨0, T1, rfl, h, by rw [ht]; exact hP, va_K.moved hW.alike hK, hD⟩, hS.F ht⟩) hS.2.2 dX8_timer_17
/-! X8_arrive -/
abbrev rmX8_arrive : Room := { frames := 1, cells := 0, slots := 0, locals := 22 }
set_option maxHeartbeats 4000000 in
set_option maxRecDepth 100000 in
theorem c_X8_arrive (l : Launch) (D : va_G) (cI cZ : ClassId) (a : Nat → Nat) (sz : Nat) (S : Ob) (p0 : Int32) (p1 : Int32) (Q : Int32 → Ob → Prop) (h : wp_X8_arrive S p0 p1 Q) : Met l yX8_arrive (wsm yX8_arrive cX8_arrive 3 (some .boolean)) rmX8_arrive (va_Pc [.ref (a 0), .int p0, .int p1] (preW D cI cZ sz (wX8 cI cZ a S))) (va_Qi Q (fun u => atW D cI cZ (va_A (wX8 cI cZ a S) sz) (wX8 cI cZ a u)) (va_A (wX8 cI cZ a S) sz)) 0 0 (va_A (wX8 cI cZ a S) sz) := by
  refine Met.ofW (cc := cX8_arrive) (maxL := 3) (ret := (some .boolean)) (by decide) rfl ?_
  intro p e s m args below meth c s₁ B hml hv
  obtain ⟨rfl, hsz, hP, hK, hD0⟩ := hv
  have hx := B.exec
  have hb := B.bytes
  have hr := B.returns
  have hts0 := atoms_spec (ws := wsm yX8_arrive cX8_arrive 3 (some .boolean)) B.pre
  have hts : ∀ w ∈ lw_all, w.before _ s = true := fun w h => hts0 w (List.mem_cons_of_mem _ h)
  have hown : s.vm.findClass RX8 = some m.cls := findClass_of_methodNamed B.named
  have hlocks := B.notSynchronized
  subst hsz
  have hD := hD0.self (sz := s.heap.size)
  generalize hAe : va_A (wX8 cI cZ a S) s.heap.size = A at hD ⊢
  have hA : ∀ q : Nat, s.heap.size ≤ q → A q := fun q h => by rw [← hAe]; exact Or.inr h
  have hS : va_S A s.heap s.heap [] := va_S.rf
  have hml2 := hml
  have hl := lv_entry ([.ref (a 0), .int p0, .int p1]) (n := 3) (Nat.le_of_ble_eq_true rfl)
  rw [lg_entry_eq]
  generalize (lg_sl ([.ref (a 0), .int p0, .int p1]) ++ List.replicate (3 - (lg_sl ([.ref (a 0), .int p0, .int p1])).length) Slot.unset).toArray = ls at hl ⊢
  have hl : lv_has ls 3 [(0, .ref (a 0)), (1, .int p0), (2, .int p1)] := hl
  unfold wp_X8_arrive at h
  refine lv_aload_n hx hb dX8_arrive_0 rfl (lv_at hl 0 rfl) ?_
  refine lv_iconst (v := 0) hx hb dX8_arrive_1 (by decide) ?_
  obtain ⟨T1, eT1⟩ : ∃ z : Ob, z = (si S 17 0) := ⟨_, rfl⟩
  refine pu_f (ci := 7) (v := .int 0) (ty := .int) (C := RX8) (T := TX8) (N := 25) hx hb hts inX8 tyX8 tyX8_ok nmX8 hown hK hP hD hS 0 rfl rfl 17 (by decide) (hts _ q_1094) (fun _ h9 => h9) rfl rfl rfl rfl (Nat.le_of_ble_eq_true rfl) dX8_arrive_2 (wX8 cI cZ a T1) (by subst eT1; rfl) (fun H locs hP hD hS => ?_)
  have h := h T1 eT1
  refine lv_iload_n hx hb dX8_arrive_5 rfl (lv_at hl 1 rfl) ?_
  refine lv_iconst (v := 0) hx hb dX8_arrive_6 (by decide) ?_
  refine lv_bipush (v := 17) hx hb dX8_arrive_7 (by decide) ?_
  refine cl_i (ws' := fun u2 => (wX8 cI cZ a T1)) (va_runS (As := [.int p0, .int 0, .int 17]) (rest := []) ⟨hx, hb, hml, hown, hts⟩ (c_X8_within l D cI cZ _ () p0 0 17 _ h ) (va_cwS 3 hts (gS q_1161 q_1162 q_75 q_1163) rfl rfl rfl (by decide +kernel) ⟨Nat.le_of_ble_eq_true rfl, Nat.le_of_ble_eq_true rfl⟩) (preS_of hK hP hD [] rfl rfl (by decide)) rfl rfl hl.1 rfl (lv_room (Nat.le_of_ble_eq_true rfl)) dX8_arrive_9 ⟨Nat.zero_le _, Nat.zero_le _⟩) hP hD hS hA [] [.inr 0, .inr 1, .inr 2, .inr 3, .inr 4, .inr 5, .inr 6, .inr 7, .inr 8, .inr 9, .inr 10, .inr 11, .inr 12, .inr 13, .inr 14, .inr 15, .inr 16, .inr 17] rfl (by decide) (fun _ => rfl) (fun _ => rfl) (fun r3 u2 H locs h hP hD hS => ?_)
  refine lv_if_eq (tgt := 38) hx hb dX8_arrive_12 (by decide) (fun c4 => ?_) (fun c4 => ?_)
  · have h := h.1 c4
    refine lv_iconst (v := 0) hx hb dX8_arrive_38 (by decide) ?_
    exact W.zret (ty := .boolean) (v := 0) hx hb hr (narB isB0) (fun t ht hW => ⟨⟨0, T1, rfl, h, by rw [ht]; exact hP, va_K.moved hW.alike hK, hD⟩, hS.F ht⟩) hS.2.2 dX8_arrive_39
  · have h := h.2 c4
    refine lv_iload_n hx hb dX8_arrive_15 rfl (lv_at hl 2 rfl) ?_
    refine lv_iconst (v := 1) hx hb dX8_arrive_16 (by decide) ?_
    refine lv_sipush (v := 999) hx hb dX8_arrive_17 (by decide) ?_
    refine cl_i (ws' := fun u5 => (wX8 cI cZ a T1)) (va_runS (As := [.int p1, .int 1, .int 999]) (rest := []) ⟨hx, hb, hml, hown, hts⟩ (c_X8_within l D cI cZ _ () p1 1 999 _ h ) (va_cwS 3 hts (gS q_1161 q_1162 q_75 q_1163) rfl rfl rfl (by decide +kernel) ⟨Nat.le_of_ble_eq_true rfl, Nat.le_of_ble_eq_true rfl⟩) (preS_of hK hP hD [] rfl rfl (by decide)) rfl rfl hl.1 rfl (lv_room (Nat.le_of_ble_eq_true rfl)) dX8_arrive_20 ⟨Nat.zero_le _, Nat.zero_le _⟩) hP hD hS hA [] [.inr 0, .inr 1, .inr 2, .inr 3, .inr 4, .inr 5, .inr 6, .inr 7, .inr 8, .inr 9, .inr 10, .inr 11, .inr 12, .inr 13, .inr 14, .inr 15, .inr 16, .inr 17] rfl (by decide) (fun _ => rfl) (fun _ => rfl) (fun r6 u5 H locs h hP hD hS => ?_)
    refine lv_if_eq (tgt := 38) hx hb dX8_arrive_23 (by decide) (fun c7 => ?_) (fun c7 => ?_)
    · have h := h.1 c7
      refine lv_iconst (v := 0) hx hb dX8_arrive_38 (by decide) ?_
      exact W.zret (ty := .boolean) (v := 0) hx hb hr (narB isB0) (fun t ht hW => ⟨⟨0, T1, rfl, h, by rw [ht]; exact hP, va_K.moved hW.alike hK, hD⟩, hS.F ht⟩) hS.2.2 dX8_arrive_39
    · have h := h.2 c7
      refine lv_aload_n hx hb dX8_arrive_26 rfl (lv_at hl 0 rfl) ?_
      refine va_get (D := D) (ci := 7) (v := .ref (a 4)) (C := RX8) (T := TX8) (N := 25) hx hb hts inX8 hown hK hP 0 rfl rfl 4 (by decide) (hts _ q_1081) (fun _ h9 => h9) rfl dX8_arrive_27 ?_
      refine lv_bipush (v := 31) hx hb dX8_arrive_30 (by decide) ?_
      refine ar_il (f := (T1.2 4)) (n := 342) (j := 31) hx hb hK hP 4 rfl (by decide) (okLit (by decide)) dX8_arrive_32 ?_
      refine lv_bipush (v := 32) hx hb dX8_arrive_33 (by decide) ?_
      refine lv_icmp_ne (tgt := 40) hx hb dX8_arrive_35 (by decide) (fun c8 => ?_) (fun c8 => ?_)
      · have h := h.1 c8
        refine lv_aload_n hx hb dX8_arrive_40 rfl (lv_at hl 0 rfl) ?_
        refine va_get (D := D) (ci := 7) (v := .ref (a 4)) (C := RX8) (T := TX8) (N := 25) hx hb hts inX8 hown hK hP 0 rfl rfl 4 (by decide) (hts _ q_1081) (fun _ h9 => h9) rfl dX8_arrive_41 ?_
        refine lv_sipush (v := 236) hx hb dX8_arrive_44 (by decide) ?_
        refine lv_aload_n hx hb dX8_arrive_47 rfl (lv_at hl 0 rfl) ?_
        refine va_get (D := D) (ci := 7) (v := .ref (a 4)) (C := RX8) (T := TX8) (N := 25) hx hb hts inX8 hown hK hP 0 rfl rfl 4 (by decide) (hts _ q_1081) (fun _ h9 => h9) rfl dX8_arrive_48 ?_
        refine lv_bipush (v := 31) hx hb dX8_arrive_51 (by decide) ?_
        refine ar_il (f := (T1.2 4)) (n := 342) (j := 31) hx hb hK hP 4 rfl (by decide) (okLit (by decide)) dX8_arrive_53 ?_
        refine lv_iadd hx hb dX8_arrive_54 ?_
        refine lv_iload_n hx hb dX8_arrive_55 rfl (lv_at hl 1 rfl) ?_
        obtain ⟨T9, eT9⟩ : ∃ z : Ob, z = (sa T1 4 (upd (T1.2 4) (Int32.toNatClampNeg (236 + ((T1.2 4) 31))) p0)) := ⟨_, rfl⟩
        refine ar_is (f := (T1.2 4)) (n := 342) (j := (Int32.toNatClampNeg (236 + ((T1.2 4) 31)))) (x := p0) hx hb hK hP hD hS 4 rfl rfl h.1 dX8_arrive_56 (wX8 cI cZ a T9) (by subst eT9; rfl) (fun H locs hP hD hS => ?_)
        have h := h.2
        have h := h T9 eT9
        refine lv_aload_n hx hb dX8_arrive_57 rfl (lv_at hl 0 rfl) ?_
        refine va_get (D := D) (ci := 7) (v := .ref (a 4)) (C := RX8) (T := TX8) (N := 25) hx hb hts inX8 hown hK hP 0 rfl rfl 4 (by decide) (hts _ q_1081) (fun _ h9 => h9) rfl dX8_arrive_58 ?_
        refine lv_sipush (v := 268) hx hb dX8_arrive_61 (by decide) ?_
        refine lv_aload_n hx hb dX8_arrive_64 rfl (lv_at hl 0 rfl) ?_
        refine va_get (D := D) (ci := 7) (v := .ref (a 4)) (C := RX8) (T := TX8) (N := 25) hx hb hts inX8 hown hK hP 0 rfl rfl 4 (by decide) (hts _ q_1081) (fun _ h9 => h9) rfl dX8_arrive_65 ?_
        refine lv_bipush (v := 31) hx hb dX8_arrive_68 (by decide) ?_
        refine ar_il (f := (T9.2 4)) (n := 342) (j := 31) hx hb hK hP 4 rfl (by decide) (okLit (by decide)) dX8_arrive_70 ?_
        refine lv_iadd hx hb dX8_arrive_71 ?_
        refine lv_aload_n hx hb dX8_arrive_72 rfl (lv_at hl 0 rfl) ?_
        refine va_get (D := D) (ci := 7) (v := .ref (a 4)) (C := RX8) (T := TX8) (N := 25) hx hb hts inX8 hown hK hP 0 rfl rfl 4 (by decide) (hts _ q_1081) (fun _ h9 => h9) rfl dX8_arrive_73 ?_
        refine lv_bipush (v := 25) hx hb dX8_arrive_76 (by decide) ?_
        refine ar_il (f := (T9.2 4)) (n := 342) (j := 25) hx hb hK hP 4 rfl (by decide) (okLit (by decide)) dX8_arrive_78 ?_
        refine lv_iload_n hx hb dX8_arrive_79 rfl (lv_at hl 2 rfl) ?_
        refine lv_iadd hx hb dX8_arrive_80 ?_
        obtain ⟨T10, eT10⟩ : ∃ z : Ob, z = (sa T9 4 (upd (T9.2 4) (Int32.toNatClampNeg (268 + ((T9.2 4) 31))) (((T9.2 4) 25) + p1))) := ⟨_, rfl⟩
        refine ar_is (f := (T9.2 4)) (n := 342) (j := (Int32.toNatClampNeg (268 + ((T9.2 4) 31)))) (x := (((T9.2 4) 25) + p1)) hx hb hK hP hD hS 4 rfl rfl h.1 dX8_arrive_81 (wX8 cI cZ a T10) (by subst eT10; rfl) (fun H locs hP hD hS => ?_)
        have h := h.2
        have h := h T10 eT10
        refine lv_aload_n hx hb dX8_arrive_82 rfl (lv_at hl 0 rfl) ?_
        refine va_get (D := D) (ci := 7) (v := .ref (a 4)) (C := RX8) (T := TX8) (N := 25) hx hb hts inX8 hown hK hP 0 rfl rfl 4 (by decide) (hts _ q_1081) (fun _ h9 => h9) rfl dX8_arrive_83 ?_
        refine lv_bipush (v := 31) hx hb dX8_arrive_86 (by decide) ?_
        refine lv_dup2_11 hx hb dX8_arrive_88 rfl rfl ?_
        refine ar_il (f := (T10.2 4)) (n := 342) (j := 31) hx hb hK hP 4 rfl (by decide) (okLit (by decide)) dX8_arrive_89 ?_
        refine lv_iconst (v := 1) hx hb dX8_arrive_90 (by decide) ?_
        refine lv_iadd hx hb dX8_arrive_91 ?_
        obtain ⟨T11, eT11⟩ : ∃ z : Ob, z = (sa T10 4 (upd (T10.2 4) 31 (((T10.2 4) 31) + 1))) := ⟨_, rfl⟩
        refine ar_is (f := (T10.2 4)) (n := 342) (j := 31) (x := (((T10.2 4) 31) + 1)) hx hb hK hP hD hS 4 rfl (by decide) (okLit (by decide)) dX8_arrive_92 (wX8 cI cZ a T11) (by subst eT11; rfl) (fun H locs hP hD hS => ?_)
        have h := h T11 eT11
        refine lv_iconst (v := 1) hx hb dX8_arrive_93 (by decide) ?_
        exact W.zret (ty := .boolean) (v := 1) hx hb hr (narB isB1) (fun t ht hW => ⟨⟨1, T11, rfl, h, by rw [ht]; exact hP, va_K.moved hW.alike hK, hD⟩, hS.F ht⟩) hS.2.2 dX8_arrive_94
      · have h := h.2 c8
        refine lv_iconst (v := 0) hx hb dX8_arrive_38 (by decide) ?_
        exact W.zret (ty := .boolean) (v := 0) hx hb hr (narB isB0) (fun t ht hW => ⟨⟨0, T1, rfl, h, by rw [ht]; exact hP, va_K.moved hW.alike hK, hD⟩, hS.F ht⟩) hS.2.2 dX8_arrive_39
/-! X8_goesOn -/
abbrev rmX8_goesOn : Room := { frames := 9, cells := 0, slots := 0, locals := 211 }
set_option maxHeartbeats 4000000 in
set_option maxRecDepth 100000 in
theorem c_X8_goesOn (l : Launch) (D : va_G) (cI cZ : ClassId) (a : Nat → Nat) (sz : Nat) (S : Ob) (Q : Ob → Prop) (h : wp_X8_goesOn S Q) : Met l yX8_goesOn (wsm yX8_goesOn cX8_goesOn 1 none) rmX8_goesOn (va_Pc [.ref (a 0)] (preT D cI cZ sz (wX8 cI cZ a S))) (va_Qv Q (fun u => atW D cI cZ (va_A (wX8 cI cZ a S) sz) (wX8 cI cZ a u)) (va_A (wX8 cI cZ a S) sz)) 0 0 (va_A (wX8 cI cZ a S) sz) := by
  refine Met.ofW (cc := cX8_goesOn) (maxL := 1) (ret := none) (by decide) rfl ?_
  intro p e s m args below meth c s₁ B hml hv
  obtain ⟨rfl, ⟨hsz, hP, hK, hD0⟩, hF⟩ := hv
  have hx := B.exec
  have hb := B.bytes
  have hr := B.returns
  have hts0 := atoms_spec (ws := wsm yX8_goesOn cX8_goesOn 1 none) B.pre
  have hts : ∀ w ∈ lw_all, w.before _ s = true := fun w h => hts0 w (List.mem_cons_of_mem _ h)
  have hown : s.vm.findClass RX8 = some m.cls := findClass_of_methodNamed B.named
  have hlocks := B.notSynchronized
  subst hsz
  have hD := hD0.self (sz := s.heap.size)
  generalize hAe : va_A (wX8 cI cZ a S) s.heap.size = A at hD hF ⊢
  have hA : ∀ q : Nat, s.heap.size ≤ q → A q := fun q h => by rw [← hAe]; exact Or.inr h
  have hS : va_S A s.heap s.heap [] := va_S.rf
  have hml2 := hml
  have hl := lv_entry ([.ref (a 0)]) (n := 1) (Nat.le_of_ble_eq_true rfl)
  rw [lg_entry_eq]
  generalize (lg_sl ([.ref (a 0)]) ++ List.replicate (1 - (lg_sl ([.ref (a 0)])).length) Slot.unset).toArray = ls at hl ⊢
  have hl : lv_has ls 1 [(0, .ref (a 0))] := hl
  unfold wp_X8_goesOn at h
  refine lv_aload_n hx hb dX8_goesOn_0 rfl (lv_at hl 0 rfl) ?_
  refine lv_iconst (v := 1) hx hb dX8_goesOn_1 (by decide) ?_
  obtain ⟨T1, eT1⟩ : ∃ z : Ob, z = (si S 14 1) := ⟨_, rfl⟩
  refine pu_f (ci := 7) (v := .int 1) (ty := .boolean) (C := RX8) (T := TX8) (N := 25) hx hb hts inX8 tyX8 tyX8_ok nmX8 hown hK hP hD hS 0 rfl rfl 14 (by decide) (hts _ q_1091) (fun _ h9 => h9) rfl rfl (narB isB1) (fitB isB1) (Nat.le_of_ble_eq_true rfl) dX8_goesOn_2 (wX8 cI cZ a T1) (by subst eT1; rfl) (fun H locs hP hD hS => ?_)
  have h := h T1 eT1
  refine lv_aload_n hx hb dX8_goesOn_5 rfl (lv_at hl 0 rfl) ?_
  refine lv_iconst (v := 0) hx hb dX8_goesOn_6 (by decide) ?_
  obtain ⟨T2, eT2⟩ : ∃ z : Ob, z = (si T1 15 0) := ⟨_, rfl⟩
  refine pu_f (ci := 7) (v := .int 0) (ty := .boolean) (C := RX8) (T := TX8) (N := 25) hx hb hts inX8 tyX8 tyX8_ok nmX8 hown hK hP hD hS 0 rfl rfl 15 (by decide) (hts _ q_1092) (fun _ h9 => h9) rfl rfl (narB isB0) (fitB isB0) (Nat.le_of_ble_eq_true rfl) dX8_goesOn_7 (wX8 cI cZ a T2) (by subst eT2; rfl) (fun H locs hP hD hS => ?_)
  have h := h T2 eT2
  refine lv_aload_n hx hb dX8_goesOn_10 rfl (lv_at hl 0 rfl) ?_
  refine lv_aload_n hx hb dX8_goesOn_11 rfl (lv_at hl 0 rfl) ?_
  refine va_get (D := D) (ci := 7) (v := .ref (a 4)) (C := RX8) (T := TX8) (N := 25) hx hb hts inX8 hown hK hP 0 rfl rfl 4 (by decide) (hts _ q_1081) (fun _ h9 => h9) rfl dX8_goesOn_12 ?_
  refine cl_v (ws' := fun u3 => (wX8 cI cZ a (mnow T2 u3.1 u3.2))) (va_runV (As := [.ref (a 4)]) (rest := []) ⟨hx, hb, hml, hown, hts⟩ (c_X8_cycle l D cI cZ a (fun k => a (k + 4)) true _ (T2, (T2.2 4)) _ h (fun _ => rfl)) (cwV 1 hts (gV q_1221 q_1223 q_33 q_75 q_1224) rfl rfl rfl (by decide +kernel) ⟨Nat.le_of_ble_eq_true rfl, Nat.le_of_ble_eq_true rfl⟩) (preTV_of (ci := 7) (q := (RX8, TX8, 25)) hF hS hA hK hP hD [0, 1, 2, 3, 6, 7, 8, 9, 10, 11, 12, 4] rfl rfl (by decide) 0 rfl rfl) rfl rfl hl.1 rfl (lv_room (Nat.le_of_ble_eq_true rfl)) dX8_goesOn_15 ⟨Nat.zero_le _, Nat.zero_le _⟩) hP hD hS hA [0, 1, 2, 3, 6, 7, 8, 9, 10, 11, 12, 4] [.inl 0, .inl 1, .inl 2, .inl 3, .inl 11, .inr 5, .inl 4, .inl 5, .inl 6, .inl 7, .inl 8, .inl 9, .inl 10, .inr 13, .inr 14, .inr 15, .inr 16, .inr 17] rfl (by decide) (fun _ => rfl) (fun _ => rfl) (fun u3 H locs h hP hD hS => ?_)
  exact W.vret hx hb hr (fun t ht hW => ⟨⟨(mnow T2 u3.1 u3.2), rfl, h, by rw [ht]; exact hP, va_K.moved hW.alike hK, hD⟩, hS.F ht⟩) hS.2.2 dX8_goesOn_18
/-! X8_run -/
abbrev rmX8_run : Room := { frames := 10, cells := 0, slots := 0, locals := 231 }
set_option maxHeartbeats 4000000 in
set_option maxRecDepth 100000 in
theorem c_X8_run (l : Launch) (D : va_G) (cI cZ : ClassId) (a : Nat → Nat) (sz : Nat) (S : Ob) (p0 : Int32) (Q : Int32 → Ob → Prop) (h : wp_X8_run S p0 Q) : Met l yX8_run (wsm yX8_run cX8_run 3 (some .int)) rmX8_run (va_Pc [.ref (a 0), .int p0] (preT D cI cZ sz (wX8 cI cZ a S))) (va_Qi Q (fun u => atW D cI cZ (va_A (wX8 cI cZ a S) sz) (wX8 cI cZ a u)) (va_A (wX8 cI cZ a S) sz)) 0 0 (va_A (wX8 cI cZ a S) sz) := by
  refine Met.ofW (cc := cX8_run) (maxL := 3) (ret := (some .int)) (by decide) rfl ?_
  intro p e s m args below meth c s₁ B hml hv
  obtain ⟨rfl, ⟨hsz, hP, hK, hD0⟩, hF⟩ := hv
  have hx := B.exec
  have hb := B.bytes
  have hr := B.returns
  have hts0 := atoms_spec (ws := wsm yX8_run cX8_run 3 (some .int)) B.pre
  have hts : ∀ w ∈ lw_all, w.before _ s = true := fun w h => hts0 w (List.mem_cons_of_mem _ h)
  have hown : s.vm.findClass RX8 = some m.cls := findClass_of_methodNamed B.named
  have hlocks := B.notSynchronized
  subst hsz
  have hD := hD0.self (sz := s.heap.size)
  generalize hAe : va_A (wX8 cI cZ a S) s.heap.size = A at hD hF ⊢
  have hA : ∀ q : Nat, s.heap.size ≤ q → A q := fun q h => by rw [← hAe]; exact Or.inr h
  have hS : va_S A s.heap s.heap [] := va_S.rf
  have hml2 := hml
  have L20 : ∀ (n : Nat), ∀ (y1 : Int32) (y2 : Int32) (T : Ob) (H : Heap) (locs : List Loc) (ls : Array Slot), va_P D vwCl (wX8 cI cZ a T) H → va_D A (wX8 cI cZ a T) → va_S A s.heap H locs → lv_has ls 3 [(0, .ref (a 0)), (1, .int y1), (2, .int y2)] → wp_X8_run_L20 Q n y1 y2 T → W p l e rmX8_run s m ([.ref (a 0), .int p0] : List Value).toArray below meth c H locs 0 0 (MQ below (va_Qi Q (fun u => atW D cI cZ A (wX8 cI cZ a u)) A) ([.ref (a 0), .int p0] : List Value).toArray s 0 0 A) (F0 m 20 ls []) := by
    intro n
    induction n with
    | zero =>
      intro y1 y2 T H locs ls hP hD hS hl h
      exact False.elim h
    | succ n ih =>
      intro y1 y2 T H locs ls hP hD hS hl h
      unfold wp_X8_run_L20 at h
      refine lv_iload_n hx hb dX8_run_20 rfl (lv_at hl 2 rfl) ?_
      refine lv_iload_n hx hb dX8_run_21 rfl (lv_at hl 1 rfl) ?_
      refine lv_icmp_ge (tgt := 46) hx hb dX8_run_22 (by decide) (fun c5 => ?_) (fun c5 => ?_)
      · have h := h.1 c5
        refine lv_iload_n hx hb dX8_run_46 rfl (lv_at hl 2 rfl) ?_
        exact W.iret (v := y2) hx hb hr (fun t ht hW => ⟨⟨y2, T, rfl, h, by rw [ht]; exact hP, va_K.moved hW.alike hK, hD⟩, hS.F ht⟩) hS.2.2 dX8_run_47
      · have h := h.2 c5
        refine lv_aload_n hx hb dX8_run_25 rfl (lv_at hl 0 rfl) ?_
        refine va_get (D := D) (ci := 7) (v := .ref (a 4)) (C := RX8) (T := TX8) (N := 25) hx hb hts inX8 hown hK hP 0 rfl rfl 4 (by decide) (hts _ q_1081) (fun _ h9 => h9) rfl dX8_run_26 ?_
        refine lv_bipush (v := 20) hx hb dX8_run_29 (by decide) ?_
        refine ar_il (f := (T.2 4)) (n := 342) (j := 20) hx hb hK hP 4 rfl (by decide) (okLit (by decide)) dX8_run_31 ?_
        refine lv_iconst (v := 5) hx hb dX8_run_32 (by decide) ?_
        refine lv_icmp_eq (tgt := 46) hx hb dX8_run_33 (by decide) (fun c6 => ?_) (fun c6 => ?_)
        · have h := h.1 c6
          refine lv_iload_n hx hb dX8_run_46 rfl (lv_at hl 2 rfl) ?_
          exact W.iret (v := y2) hx hb hr (fun t ht hW => ⟨⟨y2, T, rfl, h, by rw [ht]; exact hP, va_K.moved hW.alike hK, hD⟩, hS.F ht⟩) hS.2.2 dX8_run_47
        · have h := h.2 c6
          refine lv_aload_n hx hb dX8_run_36 rfl (lv_at hl 0 rfl) ?_
          refine cl_v (ws' := fun u7 => (wX8 cI cZ a u7)) (va_runV (As := []) (rest := []) ⟨hx, hb, hml, hown, hts⟩ (c_X8_goesOn l D cI cZ a _ T _ h ) (cwV 0 hts (gV q_1217 q_1219 q_32 q_75 q_1220) rfl rfl rfl (by decide +kernel) ⟨Nat.le_of_ble_eq_true rfl, Nat.le_of_ble_eq_true rfl⟩) (preTV_of (ci := 7) (q := (RX8, TX8, 25)) hF hS hA hK hP hD [0, 1, 2, 3, 4, 5, 6, 7, 8, 9, 10, 11, 12, 13, 14, 15, 16, 17] rfl rfl (by decide) 0 rfl rfl) rfl rfl hl.1 rfl (lv_room (Nat.le_of_ble_eq_true rfl)) dX8_run_37 ⟨Nat.zero_le _, Nat.zero_le _⟩) hP hD hS hA [0, 1, 2, 3, 4, 5, 6, 7, 8, 9, 10, 11, 12, 13, 14, 15, 16, 17] [.inl 0, .inl 1, .inl 2, .inl 3, .inl 4, .inl 5, .inl 6, .inl 7, .inl 8, .inl 9, .inl 10, .inl 11, .inl 12, .inl 13, .inl 14, .inl 15, .inl 16, .inl 17] rfl (by decide) (fun _ => rfl) (fun _ => rfl) (fun u7 H locs h hP hD hS => ?_)
          obtain ⟨x8, ex8⟩ : ∃ y : Int32, y = (y2 + 1) := ⟨_, rfl⟩
          have h := h x8 ex8
          refine lv_iinc (v := x8) (lv' := [(2, .int x8), (0, .ref (a 0)), (1, .int y1)]) hx hb dX8_run_40 hl (k := 2) rfl (by rw [ex8]; rfl) (by decide) rfl (fun ls hl => ?_)
          refine lv_goto (tgt := 20) hx hb dX8_run_43 (by decide) ?_
          exact ih y1 x8 u7 _ _ _ hP hD hS (lv_sub hl [1, 2, 0] rfl) h
  have hl := lv_entry ([.ref (a 0), .int p0]) (n := 3) (Nat.le_of_ble_eq_true rfl)
  rw [lg_entry_eq]
  generalize (lg_sl ([.ref (a 0), .int p0]) ++ List.replicate (3 - (lg_sl ([.ref (a 0), .int p0])).length) Slot.unset).toArray = ls at hl ⊢
  have hl : lv_has ls 3 [(0, .ref (a 0)), (1, .int p0)] := hl
  unfold wp_X8_run at h
  refine lv_aload_n hx hb dX8_run_0 rfl (lv_at hl 0 rfl) ?_
  refine lv_iconst (v := 0) hx hb dX8_run_1 (by decide) ?_
  obtain ⟨T1, eT1⟩ : ∃ z : Ob, z = (si S 17 0) := ⟨_, rfl⟩
  refine pu_f (ci := 7) (v := .int 0) (ty := .int) (C := RX8) (T := TX8) (N := 25) hx hb hts inX8 tyX8 tyX8_ok nmX8 hown hK hP hD hS 0 rfl rfl 17 (by decide) (hts _ q_1094) (fun _ h9 => h9) rfl rfl rfl rfl (Nat.le_of_ble_eq_true rfl) dX8_run_2 (wX8 cI cZ a T1) (by subst eT1; rfl) (fun H locs hP hD hS => ?_)
  have h := h T1 eT1
  refine lv_iload_n hx hb dX8_run_5 rfl (lv_at hl 1 rfl) ?_
  refine lv_iconst (v := 1) hx hb dX8_run_6 (by decide) ?_
  refine lv_sipush (v := 200) hx hb dX8_run_7 (by decide) ?_
  refine cl_i (ws' := fun u2 => (wX8 cI cZ a T1)) (va_runS (As := [.int p0, .int 1, .int 200]) (rest := []) ⟨hx, hb, hml, hown, hts⟩ (c_X8_within l D cI cZ _ () p0 1 200 _ h ) (va_cwS 3 hts (gS q_1161 q_1162 q_75 q_1163) rfl rfl rfl (by decide +kernel) ⟨Nat.le_of_ble_eq_true rfl, Nat.le_of_ble_eq_true rfl⟩) (preS_of hK hP hD [] rfl rfl (by decide)) rfl rfl hl.1 rfl (lv_room (Nat.le_of_ble_eq_true rfl)) dX8_run_10 ⟨Nat.zero_le _, Nat.zero_le _⟩) hP hD hS hA [] [.inr 0, .inr 1, .inr 2, .inr 3, .inr 4, .inr 5, .inr 6, .inr 7, .inr 8, .inr 9, .inr 10, .inr 11, .inr 12, .inr 13, .inr 14, .inr 15, .inr 16, .inr 17] rfl (by decide) (fun _ => rfl) (fun _ => rfl) (fun r3 u2 H locs h hP hD hS => ?_)
  refine lv_if_ne (tgt := 18) hx hb dX8_run_13 (by decide) (fun c4 => ?_) (fun c4 => ?_)
  · have h := h.1 c4
    refine lv_iconst (v := 0) hx hb dX8_run_18 (by decide) ?_
    refine lv_istore_n (lv' := [(2, .int 0), (0, .ref (a 0)), (1, .int p0)]) hx hb dX8_run_19 rfl hl (by decide) rfl (fun ls hl => ?_)
    exact L20 2000 p0 0 T1 _ _ _ hP hD hS (lv_sub hl [1, 2, 0] rfl) h
  · have h := h.2 c4
    refine lv_iconst (v := -1) hx hb dX8_run_16 (by decide) ?_
    exact W.iret (v := (-1)) hx hb hr (fun t ht hW => ⟨⟨(-1), T1, rfl, h, by rw [ht]; exact hP, va_K.moved hW.alike hK, hD⟩, hS.F ht⟩) hS.2.2 dX8_run_17
/-! X8_till -/
abbrev rmX8_till : Room := { frames := 10, cells := 0, slots := 0, locals := 231 }
set_option maxHeartbeats 4000000 in
set_option maxRecDepth 100000 in
theorem c_X8_till (l : Launch) (D : va_G) (cI cZ : ClassId) (a : Nat → Nat) (sz : Nat) (S : Ob) (p0 : Int32) (Q : Int32 → Ob → Prop) (h : wp_X8_till S p0 Q) : Met l yX8_till (wsm yX8_till cX8_till 3 (some .int)) rmX8_till (va_Pc [.ref (a 0), .int p0] (preT D cI cZ sz (wX8 cI cZ a S))) (va_Qi Q (fun u => atW D cI cZ (va_A (wX8 cI cZ a S) sz) (wX8 cI cZ a u)) (va_A (wX8 cI cZ a S) sz)) 0 0 (va_A (wX8 cI cZ a S) sz) := by
  refine Met.ofW (cc := cX8_till) (maxL := 3) (ret := (some .int)) (by decide) rfl ?_
  intro p e s m args below meth c s₁ B hml hv
  obtain ⟨rfl, ⟨hsz, hP, hK, hD0⟩, hF⟩ := hv
  have hx := B.exec
  have hb := B.bytes
  have hr := B.returns
  have hts0 := atoms_spec (ws := wsm yX8_till cX8_till 3 (some .int)) B.pre
  have hts : ∀ w ∈ lw_all, w.before _ s = true := fun w h => hts0 w (List.mem_cons_of_mem _ h)
  have hown : s.vm.findClass RX8 = some m.cls := findClass_of_methodNamed B.named
  have hlocks := B.notSynchronized
  subst hsz
  have hD := hD0.self (sz := s.heap.size)
  generalize hAe : va_A (wX8 cI cZ a S) s.heap.size = A at hD hF ⊢
  have hA : ∀ q : Nat, s.heap.size ≤ q → A q := fun q h => by rw [← hAe]; exact Or.inr h
  have hS : va_S A s.heap s.heap [] := va_S.rf
  have hml2 := hml
  have L19 : ∀ (n : Nat), ∀ (y1 : Int32) (y2 : Int32) (T : Ob) (H : Heap) (locs : List Loc) (ls : Array Slot), va_P D vwCl (wX8 cI cZ a T) H → va_D A (wX8 cI cZ a T) → va_S A s.heap H locs → lv_has ls 3 [(0, .ref (a 0)), (1, .int y1), (2, .int y2)] → wp_X8_till_L19 Q n y1 y2 T → W p l e rmX8_till s m ([.ref (a 0), .int p0] : List Value).toArray below meth c H locs 0 0 (MQ below (va_Qi Q (fun u => atW D cI cZ A (wX8 cI cZ a u)) A) ([.ref (a 0), .int p0] : List Value).toArray s 0 0 A) (F0 m 19 ls []) := by
    intro n
    induction n with
    | zero =>
      intro y1 y2 T H locs ls hP hD hS hl h
      exact False.elim h
    | succ n ih =>
      intro y1 y2 T H locs ls hP hD hS hl h
      unfold wp_X8_till_L19 at h
      refine lv_iload_n hx hb dX8_till_19 rfl (lv_at hl 2 rfl) ?_
      refine lv_sipush (v := 300) hx hb dX8_till_20 (by decide) ?_
      refine lv_icmp_gt (tgt := 57) hx hb dX8_till_23 (by decide) (fun c5 => ?_) (fun c5 => ?_)
      · have h := h.1 c5
        refine lv_iconst (v := -1) hx hb dX8_till_57 (by decide) ?_
        exact W.iret (v := (-1)) hx hb hr (fun t ht hW => ⟨⟨(-1), T, rfl, h, by rw [ht]; exact hP, va_K.moved hW.alike hK, hD⟩, hS.F ht⟩) hS.2.2 dX8_till_58
      · have h := h.2 c5
        refine lv_aload_n hx hb dX8_till_26 rfl (lv_at hl 0 rfl) ?_
        refine va_get (D := D) (ci := 7) (v := .ref (a 4)) (C := RX8) (T := TX8) (N := 25) hx hb hts inX8 hown hK hP 0 rfl rfl 4 (by decide) (hts _ q_1081) (fun _ h9 => h9) rfl dX8_till_27 ?_
        refine lv_bipush (v := 20) hx hb dX8_till_30 (by decide) ?_
        refine ar_il (f := (T.2 4)) (n := 342) (j := 20) hx hb hK hP 4 rfl (by decide) (okLit (by decide)) dX8_till_32 ?_
        refine lv_iconst (v := 5) hx hb dX8_till_33 (by decide) ?_
        refine lv_icmp_eq (tgt := 57) hx hb dX8_till_34 (by decide) (fun c6 => ?_) (fun c6 => ?_)
        · have h := h.1 c6
          refine lv_iconst (v := -1) hx hb dX8_till_57 (by decide) ?_
          exact W.iret (v := (-1)) hx hb hr (fun t ht hW => ⟨⟨(-1), T, rfl, h, by rw [ht]; exact hP, va_K.moved hW.alike hK, hD⟩, hS.F ht⟩) hS.2.2 dX8_till_58
        · have h := h.2 c6
          refine lv_aload_n hx hb dX8_till_37 rfl (lv_at hl 0 rfl) ?_
          refine cl_v (ws' := fun u7 => (wX8 cI cZ a u7)) (va_runV (As := []) (rest := []) ⟨hx, hb, hml, hown, hts⟩ (c_X8_goesOn l D cI cZ a _ T _ h ) (cwV 0 hts (gV q_1217 q_1219 q_32 q_75 q_1220) rfl rfl rfl (by decide +kernel) ⟨Nat.le_of_ble_eq_true rfl, Nat.le_of_ble_eq_true rfl⟩) (preTV_of (ci := 7) (q := (RX8, TX8, 25)) hF hS hA hK hP hD [0, 1, 2, 3, 4, 5, 6, 7, 8, 9, 10, 11, 12, 13, 14, 15, 16, 17] rfl rfl (by decide) 0 rfl rfl) rfl rfl hl.1 rfl (lv_room (Nat.le_of_ble_eq_true rfl)) dX8_till_38 ⟨Nat.zero_le _, Nat.zero_le _⟩) hP hD hS hA [0, 1, 2, 3, 4, 5, 6, 7, 8, 9, 10, 11, 12, 13, 14, 15, 16, 17] [.inl 0, .inl 1, .inl 2, .inl 3, .inl 4, .inl 5, .inl 6, .inl 7, .inl 8, .inl 9, .inl 10, .inl 11, .inl 12, .inl 13, .inl 14, .inl 15, .inl 16, .inl 17] rfl (by decide) (fun _ => rfl) (fun _ => rfl) (fun u7 H locs h hP hD hS => ?_)
          refine lv_aload_n hx hb dX8_till_41 rfl (lv_at hl 0 rfl) ?_
          refine va_get (D := D) (ci := 7) (v := .int (u7.1 16)) (C := RX8) (T := TX8) (N := 25) hx hb hts inX8 hown hK hP 0 rfl rfl 16 (by decide) (hts _ q_1093) (fun _ h9 => h9) rfl dX8_till_42 ?_
          refine lv_iload_n hx hb dX8_till_45 rfl (lv_at hl 1 rfl) ?_
          refine lv_icmp_ne (tgt := 51) hx hb dX8_till_46 (by decide) (fun c8 => ?_) (fun c8 => ?_)
          · have h := h.1 c8
            obtain ⟨x9, ex9⟩ : ∃ y : Int32, y = (y2 + 1) := ⟨_, rfl⟩
            have h := h x9 ex9
            refine lv_iinc (v := x9) (lv' := [(2, .int x9), (0, .ref (a 0)), (1, .int y1)]) hx hb dX8_till_51 hl (k := 2) rfl (by rw [ex9]; rfl) (by decide) rfl (fun ls hl => ?_)
            refine lv_goto (tgt := 19) hx hb dX8_till_54 (by decide) ?_
            exact ih y1 x9 u7 _ _ _ hP hD hS (lv_sub hl [1, 2, 0] rfl) h
          · have h := h.2 c8
            refine lv_iload_n hx hb dX8_till_49 rfl (lv_at hl 2 rfl) ?_
            exact W.iret (v := y2) hx hb hr (fun t ht hW => ⟨⟨y2, u7, rfl, h, by rw [ht]; exact hP, va_K.moved hW.alike hK, hD⟩, hS.F ht⟩) hS.2.2 dX8_till_50
  have hl := lv_entry ([.ref (a 0), .int p0]) (n := 3) (Nat.le_of_ble_eq_true rfl)
  rw [lg_entry_eq]
  generalize (lg_sl ([.ref (a 0), .int p0]) ++ List.replicate (3 - (lg_sl ([.ref (a 0), .int p0])).length) Slot.unset).toArray = ls at hl ⊢
  have hl : lv_has ls 3 [(0, .ref (a 0)), (1, .int p0)] := hl
  unfold wp_X8_till at h
  refine lv_aload_n hx hb dX8_till_0 rfl (lv_at hl 0 rfl) ?_
  refine lv_iconst (v := 0) hx hb dX8_till_1 (by decide) ?_
  obtain ⟨T1, eT1⟩ : ∃ z : Ob, z = (si S 17 0) := ⟨_, rfl⟩
  refine pu_f (ci := 7) (v := .int 0) (ty := .int) (C := RX8) (T := TX8) (N := 25) hx hb hts inX8 tyX8 tyX8_ok nmX8 hown hK hP hD hS 0 rfl rfl 17 (by decide) (hts _ q_1094) (fun _ h9 => h9) rfl rfl rfl rfl (Nat.le_of_ble_eq_true rfl) dX8_till_2 (wX8 cI cZ a T1) (by subst eT1; rfl) (fun H locs hP hD hS => ?_)
  have h := h T1 eT1
  refine lv_iload_n hx hb dX8_till_5 rfl (lv_at hl 1 rfl) ?_
  refine lv_iconst (v := 0) hx hb dX8_till_6 (by decide) ?_
  refine lv_bipush (v := 20) hx hb dX8_till_7 (by decide) ?_
  refine cl_i (ws' := fun u2 => (wX8 cI cZ a T1)) (va_runS (As := [.int p0, .int 0, .int 20]) (rest := []) ⟨hx, hb, hml, hown, hts⟩ (c_X8_within l D cI cZ _ () p0 0 20 _ h ) (va_cwS 3 hts (gS q_1161 q_1162 q_75 q_1163) rfl rfl rfl (by decide +kernel) ⟨Nat.le_of_ble_eq_true rfl, Nat.le_of_ble_eq_true rfl⟩) (preS_of hK hP hD [] rfl rfl (by decide)) rfl rfl hl.1 rfl (lv_room (Nat.le_of_ble_eq_true rfl)) dX8_till_9 ⟨Nat.zero_le _, Nat.zero_le _⟩) hP hD hS hA [] [.inr 0, .inr 1, .inr 2, .inr 3, .inr 4, .inr 5, .inr 6, .inr 7, .inr 8, .inr 9, .inr 10, .inr 11, .inr 12, .inr 13, .inr 14, .inr 15, .inr 16, .inr 17] rfl (by decide) (fun _ => rfl) (fun _ => rfl) (fun r3 u2 H locs h hP hD hS => ?_)
  refine lv_if_ne (tgt := 17) hx hb dX8_till_12 (by decide) (fun c4 => ?_) (fun c4 => ?_)
  · have h := h.1 c4
    refine lv_iconst (v := 1) hx hb dX8_till_17 (by decide) ?_
    refine lv_istore_n (lv' := [(2, .int 1), (0, .ref (a 0)), (1, .int p0)]) hx hb dX8_till_18 rfl hl (by decide) rfl (fun ls hl => ?_)
    exact L19 2000 p0 1 T1 _ _ _ hP hD hS (lv_sub hl [1, 2, 0] rfl) h
  · have h := h.2 c4
    refine lv_iconst (v := -1) hx hb dX8_till_15 (by decide) ?_
    exact W.iret (v := (-1)) hx hb hr (fun t ht hW => ⟨⟨(-1), T1, rfl, h, by rw [ht]; exact hP, va_K.moved hW.alike hK, hD⟩, hS.F ht⟩) hS.2.2 dX8_till_16
