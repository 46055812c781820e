/-! X8_reset -/
abbrev rmX8_reset : Room := { frames := 1, cells := 0, slots := 0, locals := 22 }
set_option maxHeartbeats 4000000 in
set_option maxRecDepth 100000 in
theorem c_X8_reset (l : Launch) (D : va_G) (cI cZ : ClassId) (a : Nat → Nat) (sz : Nat) (S : Ob) (Q : Int32 → Ob → Prop) (h : wp_X8_reset S Q) : Met l yX8_reset (wsm yX8_reset cX8_reset 2 (some .int)) rmX8_reset (va_Pc [.ref (a 0)] (preW D cI cZ sz (wX8 cI cZ a S))) (va_Qi Q (fun u => atW D cI cZ (va_A (wX8 cI cZ a S) sz) (wX8 cI cZ a u)) (va_A (wX8 cI cZ a S) sz)) 0 0 (va_A (wX8 cI cZ a S) sz) := by
  refine Met.ofW (cc := cX8_reset) (maxL := 2) (ret := (some .int)) (by decide) rfl ?_
  intro p e s m args below meth c s₁ B hml hv
  obtain ⟨rfl, hsz, hP, hK, hD0⟩ := hv
  have hx := B.exec
  have hb := B.bytes
  have hr := B.returns
  have hts0 := atoms_spec (ws := wsm yX8_reset cX8_reset 2 (some .int)) B.pre
  have hts : ∀ w ∈ lw_all, w.before _ s = true := fun w h => hts0 w (List.mem_cons_of_mem _ h)
  have hown : s.vm.findClass RX8 = some m.cls := findClass_of_methodNamed B.named
  have hlocks := B.notSynchronized
  subst hsz
  have hD := hD0.self (sz := s.heap.size)
  generalize hAe : va_A (wX8 cI cZ a S) s.heap.size = A at hD ⊢
  have hA : ∀ q : Nat, s.heap.size ≤ q → A q := fun q h => by rw [← hAe]; exact Or.inr h
  have hS : va_S A s.heap s.heap [] := va_S.rf
  have hml2 := hml
  have hl := lv_entry ([.ref (a 0)]) (n := 2) (Nat.le_of_ble_eq_true rfl)
  rw [lg_entry_eq]
  generalize (lg_sl ([.ref (a 0)]) ++ List.replicate (2 - (lg_sl ([.ref (a 0)])).length) Slot.unset).toArray = ls at hl ⊢
  have hl : lv_has ls 2 [(0, .ref (a 0))] := hl
  unfold wp_X8_reset at h
  refine lv_aload_n hx hb dX8_reset_0 rfl (lv_at hl 0 rfl) ?_
  refine lv_iconst (v := 0) hx hb dX8_reset_1 (by decide) ?_
  obtain ⟨T1, eT1⟩ : ∃ z : Ob, z = (si S 17 0) := ⟨_, rfl⟩
  refine pu_f (ci := 7) (v := .int 0) (ty := .int) (C := RX8) (T := TX8) (N := 25) hx hb hts inX8 tyX8 tyX8_ok nmX8 hown hK hP hD hS 0 rfl rfl 17 (by decide) (hts _ q_1094) (fun _ h9 => h9) rfl rfl rfl rfl (Nat.le_of_ble_eq_true rfl) dX8_reset_2 (wX8 cI cZ a T1) (by subst eT1; rfl) (fun H locs hP hD hS => ?_)
  have h := h T1 eT1
  refine lv_aload_n hx hb dX8_reset_5 rfl (lv_at hl 0 rfl) ?_
  refine va_get (D := D) (ci := 7) (v := .ref (a 4)) (C := RX8) (T := TX8) (N := 25) hx hb hts inX8 hown hK hP 0 rfl rfl 4 (by decide) (hts _ q_1081) (fun _ h9 => h9) rfl dX8_reset_6 ?_
  refine lv_bipush (v := 30) hx hb dX8_reset_9 (by decide) ?_
  refine ar_il (f := (T1.2 4)) (n := 342) (j := 30) hx hb hK hP 4 rfl (by decide) (okLit (by decide)) dX8_reset_11 ?_
  refine lv_topi (fun x2 ex2 => ?_)
  have h := h x2 ex2
  refine lv_istore_n (lv' := [(1, .int x2), (0, .ref (a 0))]) hx hb dX8_reset_12 rfl hl (by decide) rfl (fun ls hl => ?_)
  refine lv_aload_n hx hb dX8_reset_13 rfl (lv_at hl 1 rfl) ?_
  refine cl_v (ws' := fun u3 => (wX8 cI cZ a u3)) (va_runV (As := []) (rest := []) ⟨hx, hb, hml, hown, hts⟩ (c_X8_fresh l D cI cZ a _ T1 _ h ) (cwV 0 hts (gV q_1073 q_1075 q_29 q_75 q_1076) rfl rfl rfl (by decide +kernel) ⟨Nat.le_of_ble_eq_true rfl, Nat.le_of_ble_eq_true rfl⟩) (preV_of (ci := 7) (q := (RX8, TX8, 25)) hK hP hD [0, 1, 2, 3, 4, 5, 6, 7, 8, 9, 10, 11, 12, 13, 14, 15, 16, 17] rfl rfl (by decide) 0 rfl rfl) rfl rfl hl.1 rfl (lv_room (Nat.le_of_ble_eq_true rfl)) dX8_reset_14 ⟨Nat.zero_le _, Nat.zero_le _⟩) hP hD hS hA [0, 1, 2, 3, 4, 5, 6, 7, 8, 9, 10, 11, 12, 13, 14, 15, 16, 17] [.inl 0, .inl 1, .inl 2, .inl 3, .inl 4, .inl 5, .inl 6, .inl 7, .inl 8, .inl 9, .inl 10, .inl 11, .inl 12, .inl 13, .inl 14, .inl 15, .inl 16, .inl 17] rfl (by decide) (fun _ => rfl) (fun _ => rfl) (fun u3 H locs h hP hD hS => ?_)
  refine lv_iload_n hx hb dX8_reset_17 rfl (lv_at hl 0 rfl) ?_
  exact W.iret (v := x2) hx hb hr (fun t ht hW => ⟨⟨x2, u3, rfl, h, by rw [ht]; exact hP, va_K.moved hW.alike hK, hD⟩, hS.F ht⟩) hS.2.2 dX8_reset_18
/-! X8_reg -/
abbrev rmX8_reg : Room := { frames := 1, cells := 0, slots := 0, locals := 22 }
set_option maxHeartbeats 4000000 in
set_option maxRecDepth 100000 in
theorem c_X8_reg (l : Launch) (D : va_G) (cI cZ : ClassId) (a : Nat → Nat) (sz : Nat) (S : Ob) (p0 : Int32) (Q : Int32 → Ob → Prop) (h : wp_X8_reg S p0 Q) : Met l yX8_reg (wsm yX8_reg cX8_reg 2 (some .int)) rmX8_reg (va_Pc [.ref (a 0), .int p0] (preW D cI cZ sz (wX8 cI cZ a S))) (va_Qi Q (fun u => atW D cI cZ (va_A (wX8 cI cZ a S) sz) (wX8 cI cZ a u)) (va_A (wX8 cI cZ a S) sz)) 0 0 (va_A (wX8 cI cZ a S) sz) := by
  refine Met.ofW (cc := cX8_reg) (maxL := 2) (ret := (some .int)) (by decide) rfl ?_
  intro p e s m args below meth c s₁ B hml hv
  obtain ⟨rfl, hsz, hP, hK, hD0⟩ := hv
  have hx := B.exec
  have hb := B.bytes
  have hr := B.returns
  have hts0 := atoms_spec (ws := wsm yX8_reg cX8_reg 2 (some .int)) B.pre
  have hts : ∀ w ∈ lw_all, w.before _ s = true := fun w h => hts0 w (List.mem_cons_of_mem _ h)
  have hown : s.vm.findClass RX8 = some m.cls := findClass_of_methodNamed B.named
  have hlocks := B.notSynchronized
  subst hsz
  have hD := hD0.self (sz := s.heap.size)
  generalize hAe : va_A (wX8 cI cZ a S) s.heap.size = A at hD ⊢
  have hA : ∀ q : Nat, s.heap.size ≤ q → A q := fun q h => by rw [← hAe]; exact Or.inr h
  have hS : va_S A s.heap s.heap [] := va_S.rf
  have hml2 := hml
  have hl := lv_entry ([.ref (a 0), .int p0]) (n := 2) (Nat.le_of_ble_eq_true rfl)
  rw [lg_entry_eq]
  generalize (lg_sl ([.ref (a 0), .int p0]) ++ List.replicate (2 - (lg_sl ([.ref (a 0), .int p0])).length) Slot.unset).toArray = ls at hl ⊢
  have hl : lv_has ls 2 [(0, .ref (a 0)), (1, .int p0)] := hl
  unfold wp_X8_reg at h
  refine lv_aload_n hx hb dX8_reg_0 rfl (lv_at hl 0 rfl) ?_
  refine lv_iload_n hx hb dX8_reg_1 rfl (lv_at hl 1 rfl) ?_
  refine lv_iconst (v := 0) hx hb dX8_reg_2 (by decide) ?_
  refine lv_bipush (v := 11) hx hb dX8_reg_3 (by decide) ?_
  refine cl_i (ws' := fun u1 => (wX8 cI cZ a S)) (va_runS (As := [.int p0, .int 0, .int 11]) (rest := [.ref (a 0)]) ⟨hx, hb, hml, hown, hts⟩ (c_X8_within l D cI cZ _ () p0 0 11 _ h ) (va_cwS 3 hts (gS q_1161 q_1162 q_75 q_1163) rfl rfl rfl (by decide +kernel) ⟨Nat.le_of_ble_eq_true rfl, Nat.le_of_ble_eq_true rfl⟩) (preS_of hK hP hD [] rfl rfl (by decide)) rfl rfl hl.1 rfl (lv_room (Nat.le_of_ble_eq_true rfl)) dX8_reg_5 ⟨Nat.zero_le _, Nat.zero_le _⟩) hP hD hS hA [] [.inr 0, .inr 1, .inr 2, .inr 3, .inr 4, .inr 5, .inr 6, .inr 7, .inr 8, .inr 9, .inr 10, .inr 11, .inr 12, .inr 13, .inr 14, .inr 15, .inr 16, .inr 17] rfl (by decide) (fun _ => rfl) (fun _ => rfl) (fun r2 u1 H locs h hP hD hS => ?_)
  refine lv_if_eq (tgt := 15) hx hb dX8_reg_8 (by decide) (fun c3 => ?_) (fun c3 => ?_)
  · have h := h.1 c3
    refine lv_iconst (v := 1) hx hb dX8_reg_15 (by decide) ?_
    obtain ⟨T4, eT4⟩ : ∃ z : Ob, z = (si S 17 1) := ⟨_, rfl⟩
    refine pu_f (ci := 7) (v := .int 1) (ty := .int) (C := RX8) (T := TX8) (N := 25) hx hb hts inX8 tyX8 tyX8_ok nmX8 hown hK hP hD hS 0 rfl rfl 17 (by decide) (hts _ q_1094) (fun _ h9 => h9) rfl rfl rfl rfl (Nat.le_of_ble_eq_true rfl) dX8_reg_16 (wX8 cI cZ a T4) (by subst eT4; rfl) (fun H locs hP hD hS => ?_)
    have h := h T4 eT4
    refine lv_aload_n hx hb dX8_reg_19 rfl (lv_at hl 0 rfl) ?_
    refine va_get (D := D) (ci := 7) (v := .int (T4.1 17)) (C := RX8) (T := TX8) (N := 25) hx hb hts inX8 hown hK hP 0 rfl rfl 17 (by decide) (hts _ q_1094) (fun _ h9 => h9) rfl dX8_reg_20 ?_
    refine lv_iconst (v := 1) hx hb dX8_reg_23 (by decide) ?_
    refine lv_icmp_ne (tgt := 31) hx hb dX8_reg_24 (by decide) (fun c5 => ?_) (fun c5 => ?_)
    · have h := h.1 c5
      refine lv_aload_n hx hb dX8_reg_31 rfl (lv_at hl 0 rfl) ?_
      refine va_get (D := D) (ci := 7) (v := .ref (a 4)) (C := RX8) (T := TX8) (N := 25) hx hb hts inX8 hown hK hP 0 rfl rfl 4 (by decide) (hts _ q_1081) (fun _ h9 => h9) rfl dX8_reg_32 ?_
      refine lv_iconst (v := 0) hx hb dX8_reg_35 (by decide) ?_
      refine lv_iload_n hx hb dX8_reg_36 rfl (lv_at hl 1 rfl) ?_
      refine lv_iadd hx hb dX8_reg_37 ?_
      refine ar_il (f := (T4.2 4)) (n := 342) (j := (Int32.toNatClampNeg (0 + p0))) hx hb hK hP 4 rfl rfl h.1 dX8_reg_38 ?_
      have h := h.2
      exact W.iret (v := ((T4.2 4) (Int32.toNatClampNeg (0 + p0)))) hx hb hr (fun t ht hW => ⟨⟨((T4.2 4) (Int32.toNatClampNeg (0 + p0))), T4, rfl, h, by rw [ht]; exact hP, va_K.moved hW.alike hK, hD⟩, hS.F ht⟩) hS.2.2 dX8_reg_39
    · have h := h.2 c5
      refine lv_iconst (v := 0) hx hb dX8_reg_27 (by decide) ?_
      refine lv_goto (tgt := 39) hx hb dX8_reg_28 (by decide) ?_
      exact W.iret (v := 0) hx hb hr (fun t ht hW => ⟨⟨0, T4, rfl, h, by rw [ht]; exact hP, va_K.moved hW.alike hK, hD⟩, hS.F ht⟩) hS.2.2 dX8_reg_39
  · have h := h.2 c3
    refine lv_iconst (v := 0) hx hb dX8_reg_11 (by decide) ?_
    refine lv_goto (tgt := 16) hx hb dX8_reg_12 (by decide) ?_
    obtain ⟨T6, eT6⟩ : ∃ z : Ob, z = (si S 17 0) := ⟨_, rfl⟩
    refine pu_f (ci := 7) (v := .int 0) (ty := .int) (C := RX8) (T := TX8) (N := 25) hx hb hts inX8 tyX8 tyX8_ok nmX8 hown hK hP hD hS 0 rfl rfl 17 (by decide) (hts _ q_1094) (fun _ h9 => h9) rfl rfl rfl rfl (Nat.le_of_ble_eq_true rfl) dX8_reg_16 (wX8 cI cZ a T6) (by subst eT6; rfl) (fun H locs hP hD hS => ?_)
    have h := h T6 eT6
    refine lv_aload_n hx hb dX8_reg_19 rfl (lv_at hl 0 rfl) ?_
    refine va_get (D := D) (ci := 7) (v := .int (T6.1 17)) (C := RX8) (T := TX8) (N := 25) hx hb hts inX8 hown hK hP 0 rfl rfl 17 (by decide) (hts _ q_1094) (fun _ h9 => h9) rfl dX8_reg_20 ?_
    refine lv_iconst (v := 1) hx hb dX8_reg_23 (by decide) ?_
    refine lv_icmp_ne (tgt := 31) hx hb dX8_reg_24 (by decide) (fun c7 => ?_) (fun c7 => ?_)
    · have h := h.1 c7
      refine lv_aload_n hx hb dX8_reg_31 rfl (lv_at hl 0 rfl) ?_
      refine va_get (D := D) (ci := 7) (v := .ref (a 4)) (C := RX8) (T := TX8) (N := 25) hx hb hts inX8 hown hK hP 0 rfl rfl 4 (by decide) (hts _ q_1081) (fun _ h9 => h9) rfl dX8_reg_32 ?_
      refine lv_iconst (v := 0) hx hb dX8_reg_35 (by decide) ?_
      refine lv_iload_n hx hb dX8_reg_36 rfl (lv_at hl 1 rfl) ?_
      refine lv_iadd hx hb dX8_reg_37 ?_
      refine ar_il (f := (T6.2 4)) (n := 342) (j := (Int32.toNatClampNeg (0 + p0))) hx hb hK hP 4 rfl rfl h.1 dX8_reg_38 ?_
      have h := h.2
      exact W.iret (v := ((T6.2 4) (Int32.toNatClampNeg (0 + p0)))) hx hb hr (fun t ht hW => ⟨⟨((T6.2 4) (Int32.toNatClampNeg (0 + p0))), T6, rfl, h, by rw [ht]; exact hP, va_K.moved hW.alike hK, hD⟩, hS.F ht⟩) hS.2.2 dX8_reg_39
    · have h := h.2 c7
      refine lv_iconst (v := 0) hx hb dX8_reg_27 (by decide) ?_
      refine lv_goto (tgt := 39) hx hb dX8_reg_28 (by decide) ?_
      exact W.iret (v := 0) hx hb hr (fun t ht hW => ⟨⟨0, T6, rfl, h, by rw [ht]; exact hP, va_K.moved hW.alike hK, hD⟩, hS.F ht⟩) hS.2.2 dX8_reg_39
/-! X8_word -/
abbrev rmX8_word : Room := { frames := 1, cells := 0, slots := 0, locals := 22 }
set_option maxHeartbeats 4000000 in
set_option maxRecDepth 100000 in
theorem c_X8_word (l : Launch) (D : va_G) (cI cZ : ClassId) (a : Nat → Nat) (sz : Nat) (S : Ob) (p0 : Int32) (Q : Int32 → Ob → Prop) (h : wp_X8_word S p0 Q) : Met l yX8_word (wsm yX8_word cX8_word 2 (some .int)) rmX8_word (va_Pc [.ref (a 0), .int p0] (preW D cI cZ sz (wX8 cI cZ a S))) (va_Qi Q (fun u => atW D cI cZ (va_A (wX8 cI cZ a S) sz) (wX8 cI cZ a u)) (va_A (wX8 cI cZ a S) sz)) 0 0 (va_A (wX8 cI cZ a S) sz) := by
  refine Met.ofW (cc := cX8_word) (maxL := 2) (ret := (some .int)) (by decide) rfl ?_
  intro p e s m args below meth c s₁ B hml hv
  obtain ⟨rfl, hsz, hP, hK, hD0⟩ := hv
  have hx := B.exec
  have hb := B.bytes
  have hr := B.returns
  have hts0 := atoms_spec (ws := wsm yX8_word cX8_word 2 (some .int)) B.pre
  have hts : ∀ w ∈ lw_all, w.before _ s = true := fun w h => hts0 w (List.mem_cons_of_mem _ h)
  have hown : s.vm.findClass RX8 = some m.cls := findClass_of_methodNamed B.named
  have hlocks := B.notSynchronized
  subst hsz
  have hD := hD0.self (sz := s.heap.size)
  generalize hAe : va_A (wX8 cI cZ a S) s.heap.size = A at hD ⊢
  have hA : ∀ q : Nat, s.heap.size ≤ q → A q := fun q h => by rw [← hAe]; exact Or.inr h
  have hS : va_S A s.heap s.heap [] := va_S.rf
  have hml2 := hml
  have hl := lv_entry ([.ref (a 0), .int p0]) (n := 2) (Nat.le_of_ble_eq_true rfl)
  rw [lg_entry_eq]
  generalize (lg_sl ([.ref (a 0), .int p0]) ++ List.replicate (2 - (lg_sl ([.ref (a 0), .int p0])).length) Slot.unset).toArray = ls at hl ⊢
  have hl : lv_has ls 2 [(0, .ref (a 0)), (1, .int p0)] := hl
  unfold wp_X8_word at h
  refine lv_aload_n hx hb dX8_word_0 rfl (lv_at hl 0 rfl) ?_
  refine lv_iload_n hx hb dX8_word_1 rfl (lv_at hl 1 rfl) ?_
  refine lv_iconst (v := 0) hx hb dX8_word_2 (by decide) ?_
  refine lv_bipush (v := 95) hx hb dX8_word_3 (by decide) ?_
  refine cl_i (ws' := fun u1 => (wX8 cI cZ a S)) (va_runS (As := [.int p0, .int 0, .int 95]) (rest := [.ref (a 0)]) ⟨hx, hb, hml, hown, hts⟩ (c_X8_within l D cI cZ _ () p0 0 95 _ h ) (va_cwS 3 hts (gS q_1161 q_1162 q_75 q_1163) rfl rfl rfl (by decide +kernel) ⟨Nat.le_of_ble_eq_true rfl, Nat.le_of_ble_eq_true rfl⟩) (preS_of hK hP hD [] rfl rfl (by decide)) rfl rfl hl.1 rfl (lv_room (Nat.le_of_ble_eq_true rfl)) dX8_word_5 ⟨Nat.zero_le _, Nat.zero_le _⟩) hP hD hS hA [] [.inr 0, .inr 1, .inr 2, .inr 3, .inr 4, .inr 5, .inr 6, .inr 7, .inr 8, .inr 9, .inr 10, .inr 11, .inr 12, .inr 13, .inr 14, .inr 15, .inr 16, .inr 17] rfl (by decide) (fun _ => rfl) (fun _ => rfl) (fun r2 u1 H locs h hP hD hS => ?_)
  refine lv_if_eq (tgt := 15) hx hb dX8_word_8 (by decide) (fun c3 => ?_) (fun c3 => ?_)
  · have h := h.1 c3
    refine lv_iconst (v := 1) hx hb dX8_word_15 (by decide) ?_
    obtain ⟨T4, eT4⟩ : ∃ z : Ob, z = (si S 17 1) := ⟨_, rfl⟩
    refine pu_f (ci := 7) (v := .int 1) (ty := .int) (C := RX8) (T := TX8) (N := 25) hx hb hts inX8 tyX8 tyX8_ok nmX8 hown hK hP hD hS 0 rfl rfl 17 (by decide) (hts _ q_1094) (fun _ h9 => h9) rfl rfl rfl rfl (Nat.le_of_ble_eq_true rfl) dX8_word_16 (wX8 cI cZ a T4) (by subst eT4; rfl) (fun H locs hP hD hS => ?_)
    have h := h T4 eT4
    refine lv_aload_n hx hb dX8_word_19 rfl (lv_at hl 0 rfl) ?_
    refine va_get (D := D) (ci := 7) (v := .int (T4.1 17)) (C := RX8) (T := TX8) (N := 25) hx hb hts inX8 hown hK hP 0 rfl rfl 17 (by decide) (hts _ q_1094) (fun _ h9 => h9) rfl dX8_word_20 ?_
    refine lv_iconst (v := 1) hx hb dX8_word_23 (by decide) ?_
    refine lv_icmp_ne (tgt := 31) hx hb dX8_word_24 (by decide) (fun c5 => ?_) (fun c5 => ?_)
    · have h := h.1 c5
      refine lv_aload_n hx hb dX8_word_31 rfl (lv_at hl 0 rfl) ?_
      refine va_get (D := D) (ci := 7) (v := .ref (a 4)) (C := RX8) (T := TX8) (N := 25) hx hb hts inX8 hown hK hP 0 rfl rfl 4 (by decide) (hts _ q_1081) (fun _ h9 => h9) rfl dX8_word_32 ?_
      refine lv_bipush (v := 56) hx hb dX8_word_35 (by decide) ?_
      refine lv_iload_n hx hb dX8_word_37 rfl (lv_at hl 1 rfl) ?_
      refine lv_iadd hx hb dX8_word_38 ?_
      refine ar_il (f := (T4.2 4)) (n := 342) (j := (Int32.toNatClampNeg (56 + p0))) hx hb hK hP 4 rfl rfl h.1 dX8_word_39 ?_
      have h := h.2
      exact W.iret (v := ((T4.2 4) (Int32.toNatClampNeg (56 + p0)))) hx hb hr (fun t ht hW => ⟨⟨((T4.2 4) (Int32.toNatClampNeg (56 + p0))), T4, rfl, h, by rw [ht]; exact hP, va_K.moved hW.alike hK, hD⟩, hS.F ht⟩) hS.2.2 dX8_word_40
    · have h := h.2 c5
      refine lv_iconst (v := 0) hx hb dX8_word_27 (by decide) ?_
      refine lv_goto (tgt := 40) hx hb dX8_word_28 (by decide) ?_
      exact W.iret (v := 0) hx hb hr (fun t ht hW => ⟨⟨0, T4, rfl, h, by rw [ht]; exact hP, va_K.moved hW.alike hK, hD⟩, hS.F ht⟩) hS.2.2 dX8_word_40
  · have h := h.2 c3
    refine lv_iconst (v := 0) hx hb dX8_word_11 (by decide) ?_
    refine lv_goto (tgt := 16) hx hb dX8_word_12 (by decide) ?_
    obtain ⟨T6, eT6⟩ : ∃ z : Ob, z = (si S 17 0) := ⟨_, rfl⟩
    refine pu_f (ci := 7) (v := .int 0) (ty := .int) (C := RX8) (T := TX8) (N := 25) hx hb hts inX8 tyX8 tyX8_ok nmX8 hown hK hP hD hS 0 rfl rfl 17 (by decide) (hts _ q_1094) (fun _ h9 => h9) rfl rfl rfl rfl (Nat.le_of_ble_eq_true rfl) dX8_word_16 (wX8 cI cZ a T6) (by subst eT6; rfl) (fun H locs hP hD hS => ?_)
    have h := h T6 eT6
    refine lv_aload_n hx hb dX8_word_19 rfl (lv_at hl 0 rfl) ?_
    refine va_get (D := D) (ci := 7) (v := .int (T6.1 17)) (C := RX8) (T := TX8) (N := 25) hx hb hts inX8 hown hK hP 0 rfl rfl 17 (by decide) (hts _ q_1094) (fun _ h9 => h9) rfl dX8_word_20 ?_
    refine lv_iconst (v := 1) hx hb dX8_word_23 (by decide) ?_
    refine lv_icmp_ne (tgt := 31) hx hb dX8_word_24 (by decide) (fun c7 => ?_) (fun c7 => ?_)
    · have h := h.1 c7
      refine lv_aload_n hx hb dX8_word_31 rfl (lv_at hl 0 rfl) ?_
      refine va_get (D := D) (ci := 7) (v := .ref (a 4)) (C := RX8) (T := TX8) (N := 25) hx hb hts inX8 hown hK hP 0 rfl rfl 4 (by decide) (hts _ q_1081) (fun _ h9 => h9) rfl dX8_word_32 ?_
      refine lv_bipush (v := 56) hx hb dX8_word_35 (by decide) ?_
      refine lv_iload_n hx hb dX8_word_37 rfl (lv_at hl 1 rfl) ?_
      refine lv_iadd hx hb dX8_word_38 ?_
      refine ar_il (f := (T6.2 4)) (n := 342) (j := (Int32.toNatClampNeg (56 + p0))) hx hb hK hP 4 rfl rfl h.1 dX8_word_39 ?_
      have h := h.2
      exact W.iret (v := ((T6.2 4) (Int32.toNatClampNeg (56 + p0)))) hx hb hr (fun t ht hW => ⟨⟨((T6.2 4) (Int32.toNatClampNeg (56 + p0))), T6, rfl, h, by rw [ht]; exact hP, va_K.moved hW.alike hK, hD⟩, hS.F ht⟩) hS.2.2 dX8_word_40
    · have h := h.2 c7
      refine lv_iconst (v := 0) hx hb dX8_word_27 (by decide) ?_
      refine lv_goto (tgt := 40) hx hb dX8_word_28 (by decide) ?_
      exact W.iret (v := 0) hx hb hr (fun t ht hW => ⟨⟨0, T6, rfl, h, by rw [ht]; exact hP, va_K.moved hW.alike hK, hD⟩, hS.F ht⟩) hS.2.2 dX8_word_40
/-! X8_data -/
abbrev rmX8_data : Room := { frames := 1, cells := 0, slots := 0, locals := 22 }
set_option maxHeartbeats 4000000 in
set_option maxRecDepth 100000 in
theorem c_X8_data (l : Launch) (D : va_G) (cI cZ : ClassId) (a : Nat → Nat) (sz : Nat) (S : Ob) (p0 : Int32) (Q : Int32 → Ob → Prop) (h : wp_X8_data S p0 Q) : Met l yX8_data (wsm yX8_data cX8_data 2 (some .int)) rmX8_data (va_Pc [.ref (a 0), .int p0] (preW D cI cZ sz (wX8 cI cZ a S))) (va_Qi Q (fun u => atW D cI cZ (va_A (wX8 cI cZ a S) sz) (wX8 cI cZ a u)) (va_A (wX8 cI cZ a S) sz)) 0 0 (va_A (wX8 cI cZ a S) sz) := by
  refine Met.ofW (cc := cX8_data) (maxL := 2) (ret := (some .int)) (by decide) rfl ?_
  intro p e s m args below meth c s₁ B hml hv
  obtain ⟨rfl, hsz, hP, hK, hD0⟩ := hv
  have hx := B.exec
  have hb := B.bytes
  have hr := B.returns
  have hts0 := atoms_spec (ws := wsm yX8_data cX8_data 2 (some .int)) B.pre
  have hts : ∀ w ∈ lw_all, w.before _ s = true := fun w h => hts0 w (List.mem_cons_of_mem _ h)
  have hown : s.vm.findClass RX8 = some m.cls := findClass_of_methodNamed B.named
  have hlocks := B.notSynchronized
  subst hsz
  have hD := hD0.self (sz := s.heap.size)
  generalize hAe : va_A (wX8 cI cZ a S) s.heap.size = A at hD ⊢
  have hA : ∀ q : Nat, s.heap.size ≤ q → A q := fun q h => by rw [← hAe]; exact Or.inr h
  have hS : va_S A s.heap s.heap [] := va_S.rf
  have hml2 := hml
  have hl := lv_entry ([.ref (a 0), .int p0]) (n := 2) (Nat.le_of_ble_eq_true rfl)
  rw [lg_entry_eq]
  generalize (lg_sl ([.ref (a 0), .int p0]) ++ List.replicate (2 - (lg_sl ([.ref (a 0), .int p0])).length) Slot.unset).toArray = ls at hl ⊢
  have hl : lv_has ls 2 [(0, .ref (a 0)), (1, .int p0)] := hl
  unfold wp_X8_data at h
  refine lv_aload_n hx hb dX8_data_0 rfl (lv_at hl 0 rfl) ?_
  refine lv_iload_n hx hb dX8_data_1 rfl (lv_at hl 1 rfl) ?_
  refine lv_iconst (v := 0) hx hb dX8_data_2 (by decide) ?_
  refine lv_bipush (v := 15) hx hb dX8_data_3 (by decide) ?_
  refine cl_i (ws' := fun u1 => (wX8 cI cZ a S)) (va_runS (As := [.int p0, .int 0, .int 15]) (rest := [.ref (a 0)]) ⟨hx, hb, hml, hown, hts⟩ (c_X8_within l D cI cZ _ () p0 0 15 _ h ) (va_cwS 3 hts (gS q_1161 q_1162 q_75 q_1163) rfl rfl rfl (by decide +kernel) ⟨Nat.le_of_ble_eq_true rfl, Nat.le_of_ble_eq_true rfl⟩) (preS_of hK hP hD [] rfl rfl (by decide)) rfl rfl hl.1 rfl (lv_room (Nat.le_of_ble_eq_true rfl)) dX8_data_5 ⟨Nat.zero_le _, Nat.zero_le _⟩) hP hD hS hA [] [.inr 0, .inr 1, .inr 2, .inr 3, .inr 4, .inr 5, .inr 6, .inr 7, .inr 8, .inr 9, .inr 10, .inr 11, .inr 12, .inr 13, .inr 14, .inr 15, .inr 16, .inr 17] rfl (by decide) (fun _ => rfl) (fun _ => rfl) (fun r2 u1 H locs h hP hD hS => ?_)
  refine lv_if_eq (tgt := 15) hx hb dX8_data_8 (by decide) (fun c3 => ?_) (fun c3 => ?_)
  · have h := h.1 c3
    refine lv_iconst (v := 1) hx hb dX8_data_15 (by decide) ?_
    obtain ⟨T4, eT4⟩ : ∃ z : Ob, z = (si S 17 1) := ⟨_, rfl⟩
    refine pu_f (ci := 7) (v := .int 1) (ty := .int) (C := RX8) (T := TX8) (N := 25) hx hb hts inX8 tyX8 tyX8_ok nmX8 hown hK hP hD hS 0 rfl rfl 17 (by decide) (hts _ q_1094) (fun _ h9 => h9) rfl rfl rfl rfl (Nat.le_of_ble_eq_true rfl) dX8_data_16 (wX8 cI cZ a T4) (by subst eT4; rfl) (fun H locs hP hD hS => ?_)
    have h := h T4 eT4
    refine lv_aload_n hx hb dX8_data_19 rfl (lv_at hl 0 rfl) ?_
    refine va_get (D := D) (ci := 7) (v := .int (T4.1 17)) (C := RX8) (T := TX8) (N := 25) hx hb hts inX8 hown hK hP 0 rfl rfl 17 (by decide) (hts _ q_1094) (fun _ h9 => h9) rfl dX8_data_20 ?_
    refine lv_iconst (v := 1) hx hb dX8_data_23 (by decide) ?_
    refine lv_icmp_ne (tgt := 31) hx hb dX8_data_24 (by decide) (fun c5 => ?_) (fun c5 => ?_)
    · have h := h.1 c5
      refine lv_aload_n hx hb dX8_data_31 rfl (lv_at hl 0 rfl) ?_
      refine va_get (D := D) (ci := 7) (v := .ref (a 4)) (C := RX8) (T := TX8) (N := 25) hx hb hts inX8 hown hK hP 0 rfl rfl 4 (by decide) (hts _ q_1081) (fun _ h9 => h9) rfl dX8_data_32 ?_
      refine lv_bipush (v := 40) hx hb dX8_data_35 (by decide) ?_
      refine lv_iload_n hx hb dX8_data_37 rfl (lv_at hl 1 rfl) ?_
      refine lv_iadd hx hb dX8_data_38 ?_
      refine ar_il (f := (T4.2 4)) (n := 342) (j := (Int32.toNatClampNeg (40 + p0))) hx hb hK hP 4 rfl rfl h.1 dX8_data_39 ?_
      have h := h.2
      exact W.iret (v := ((T4.2 4) (Int32.toNatClampNeg (40 + p0)))) hx hb hr (fun t ht hW => ⟨⟨((T4.2 4) (Int32.toNatClampNeg (40 + p0))), T4, rfl, h, by rw [ht]; exact hP, va_K.moved hW.alike hK, hD⟩, hS.F ht⟩) hS.2.2 dX8_data_40
    · have h := h.2 c5
      refine lv_iconst (v := 0) hx hb dX8_data_27 (by decide) ?_
      refine lv_goto (tgt := 40) hx hb dX8_data_28 (by decide) ?_
      exact W.iret (v := 0) hx hb hr (fun t ht hW => ⟨⟨0, T4, rfl, h, by rw [ht]; exact hP, va_K.moved hW.alike hK, hD⟩, hS.F ht⟩) hS.2.2 dX8_data_40
  · have h := h.2 c3
    refine lv_iconst (v := 0) hx hb dX8_data_11 (by decide) ?_
    refine lv_goto (tgt := 16) hx hb dX8_data_12 (by decide) ?_
    obtain ⟨T6, eT6⟩ : ∃ z : Ob, z = (si S 17 0) := ⟨_, rfl⟩
    refine pu_f (ci := 7) (v := .int 0) (ty := .int) (C := RX8) (T := TX8) (N := 25) hx hb hts inX8 tyX8 tyX8_ok nmX8 hown hK hP hD hS 0 rfl rfl 17 (by decide) (hts _ q_1094) (fun _ h9 => h9) rfl rfl rfl rfl (Nat.le_of_ble_eq_true rfl) dX8_data_16 (wX8 cI cZ a T6) (by subst eT6; rfl) (fun H locs hP hD hS => ?_)
    have h := h T6 eT6
    refine lv_aload_n hx hb dX8_data_19 rfl (lv_at hl 0 rfl) ?_
    refine va_get (D := D) (ci := 7) (v := .int (T6.1 17)) (C := RX8) (T := TX8) (N := 25) hx hb hts inX8 hown hK hP 0 rfl rfl 17 (by decide) (hts _ q_1094) (fun _ h9 => h9) rfl dX8_data_20 ?_
    refine lv_iconst (v := 1) hx hb dX8_data_23 (by decide) ?_
    refine lv_icmp_ne (tgt := 31) hx hb dX8_data_24 (by decide) (fun c7 => ?_) (fun c7 => ?_)
    · have h := h.1 c7
      refine lv_aload_n hx hb dX8_data_31 rfl (lv_at hl 0 rfl) ?_
      refine va_get (D := D) (ci := 7) (v := .ref (a 4)) (C := RX8) (T := TX8) (N := 25) hx hb hts inX8 hown hK hP 0 rfl rfl 4 (by decide) (hts _ q_1081) (fun _ h9 => h9) rfl dX8_data_32 ?_
      refine lv_bipush (v := 40) hx hb dX8_data_35 (by decide) ?_
      refine lv_iload_n hx hb dX8_data_37 rfl (lv_at hl 1 rfl) ?_
      refine lv_iadd hx hb dX8_data_38 ?_
      refine ar_il (f := (T6.2 4)) (n := 342) (j := (Int32.toNatClampNeg (40 + p0))) hx hb hK hP 4 rfl rfl h.1 dX8_data_39 ?_
      have h := h.2
      exact W.iret (v := ((T6.2 4) (Int32.toNatClampNeg (40 + p0)))) hx hb hr (fun t ht hW => ⟨⟨((T6.2 4) (Int32.toNatClampNeg (40 + p0))), T6, rfl, h, by rw [ht]; exact hP, va_K.moved hW.alike hK, hD⟩, hS.F ht⟩) hS.2.2 dX8_data_40
    · have h := h.2 c7
      refine lv_iconst (v := 0) hx hb dX8_data_27 (by decide) ?_
      refine lv_goto (tgt := 40) hx hb dX8_data_28 (by decide) ?_
      exact W.iret (v := 0) hx hb hr (fun t ht hW => ⟨⟨0, T6, rfl, h, by rw [ht]; exact hP, va_K.moved hW.alike hK, hD⟩, hS.F ht⟩) hS.2.2 dX8_data_40
/-! X8_out -/
abbrev rmX8_out : Room := { frames := 1, cells := 0, slots := 0, locals := 22 }
set_option maxHeartbeats 4000000 in
set_option maxRecDepth 100000 in
theorem c_X8_out (l : Launch) (D : va_G) (cI cZ : ClassId) (a : Nat → Nat) (sz : Nat) (S : Ob) (p0 : Int32) (Q : Int32 → Ob → Prop) (h : wp_X8_out S p0 Q) : Met l yX8_out (wsm yX8_out cX8_out 2 (some .int)) rmX8_out (va_Pc [.ref (a 0), .int p0] (preW D cI cZ sz (wX8 cI cZ a S))) (va_Qi Q (fun u => atW D cI cZ (va_A (wX8 cI cZ a S) sz) (wX8 cI cZ a u)) (va_A (wX8 cI cZ a S) sz)) 0 0 (va_A (wX8 cI cZ a S) sz) := by
  refine Met.ofW (cc := cX8_out) (maxL := 2) (ret := (some .int)) (by decide) rfl ?_
  intro p e s m args below meth c s₁ B hml hv
  obtain ⟨rfl, hsz, hP, hK, hD0⟩ := hv
  have hx := B.exec
  have hb := B.bytes
  have hr := B.returns
  have hts0 := atoms_spec (ws := wsm yX8_out cX8_out 2 (some .int)) B.pre
  have hts : ∀ w ∈ lw_all, w.before _ s = true := fun w h => hts0 w (List.mem_cons_of_mem _ h)
  have hown : s.vm.findClass RX8 = some m.cls := findClass_of_methodNamed B.named
  have hlocks := B.notSynchronized
  subst hsz
  have hD := hD0.self (sz := s.heap.size)
  generalize hAe : va_A (wX8 cI cZ a S) s.heap.size = A at hD ⊢
  have hA : ∀ q : Nat, s.heap.size ≤ q → A q := fun q h => by rw [← hAe]; exact Or.inr h
  have hS : va_S A s.heap s.heap [] := va_S.rf
  have hml2 := hml
  have hl := lv_entry ([.ref (a 0), .int p0]) (n := 2) (Nat.le_of_ble_eq_true rfl)
  rw [lg_entry_eq]
  generalize (lg_sl ([.ref (a 0), .int p0]) ++ List.replicate (2 - (lg_sl ([.ref (a 0), .int p0])).length) Slot.unset).toArray = ls at hl ⊢
  have hl : lv_has ls 2 [(0, .ref (a 0)), (1, .int p0)] := hl
  unfold wp_X8_out at h
  refine lv_aload_n hx hb dX8_out_0 rfl (lv_at hl 0 rfl) ?_
  refine lv_iload_n hx hb dX8_out_1 rfl (lv_at hl 1 rfl) ?_
  refine lv_iconst (v := 0) hx hb dX8_out_2 (by decide) ?_
  refine lv_bipush (v := 63) hx hb dX8_out_3 (by decide) ?_
  refine cl_i (ws' := fun u1 => (wX8 cI cZ a S)) (va_runS (As := [.int p0, .int 0, .int 63]) (rest := [.ref (a 0)]) ⟨hx, hb, hml, hown, hts⟩ (c_X8_within l D cI cZ _ () p0 0 63 _ h ) (va_cwS 3 hts (gS q_1161 q_1162 q_75 q_1163) rfl rfl rfl (by decide +kernel) ⟨Nat.le_of_ble_eq_true rfl, Nat.le_of_ble_eq_true rfl⟩) (preS_of hK hP hD [] rfl rfl (by decide)) rfl rfl hl.1 rfl (lv_room (Nat.le_of_ble_eq_true rfl)) dX8_out_5 ⟨Nat.zero_le _, Nat.zero_le _⟩) hP hD hS hA [] [.inr 0, .inr 1, .inr 2, .inr 3, .inr 4, .inr 5, .inr 6, .inr 7, .inr 8, .inr 9, .inr 10, .inr 11, .inr 12, .inr 13, .inr 14, .inr 15, .inr 16, .inr 17] rfl (by decide) (fun _ => rfl) (fun _ => rfl) (fun r2 u1 H locs h hP hD hS => ?_)
  refine lv_if_eq (tgt := 26) hx hb dX8_out_8 (by decide) (fun c3 => ?_) (fun c3 => ?_)
  · have h := h.1 c3
    refine lv_iconst (v := 1) hx hb dX8_out_26 (by decide) ?_
    obtain ⟨T4, eT4⟩ : ∃ z : Ob, z = (si S 17 1) := ⟨_, rfl⟩
    refine pu_f (ci := 7) (v := .int 1) (ty := .int) (C := RX8) (T := TX8) (N := 25) hx hb hts inX8 tyX8 tyX8_ok nmX8 hown hK hP hD hS 0 rfl rfl 17 (by decide) (hts _ q_1094) (fun _ h9 => h9) rfl rfl rfl rfl (Nat.le_of_ble_eq_true rfl) dX8_out_27 (wX8 cI cZ a T4) (by subst eT4; rfl) (fun H locs hP hD hS => ?_)
    have h := h T4 eT4
    refine lv_aload_n hx hb dX8_out_30 rfl (lv_at hl 0 rfl) ?_
    refine va_get (D := D) (ci := 7) (v := .int (T4.1 17)) (C := RX8) (T := TX8) (N := 25) hx hb hts inX8 hown hK hP 0 rfl rfl 17 (by decide) (hts _ q_1094) (fun _ h9 => h9) rfl dX8_out_31 ?_
    refine lv_iconst (v := 1) hx hb dX8_out_34 (by decide) ?_
    refine lv_icmp_ne (tgt := 42) hx hb dX8_out_35 (by decide) (fun c5 => ?_) (fun c5 => ?_)
    · have h := h.1 c5
      refine lv_aload_n hx hb dX8_out_42 rfl (lv_at hl 0 rfl) ?_
      refine va_get (D := D) (ci := 7) (v := .ref (a 11)) (C := RX8) (T := TX8) (N := 25) hx hb hts inX8 hown hK hP 0 rfl rfl 12 (by decide) (hts _ q_1089) (fun _ h9 => h9) rfl dX8_out_43 ?_
      refine lv_iload_n hx hb dX8_out_46 rfl (lv_at hl 1 rfl) ?_
      refine ar_il (f := (T4.2 12)) (n := 64) (j := (Int32.toNatClampNeg p0)) hx hb hK hP 11 rfl rfl h.1 dX8_out_47 ?_
      have h := h.2
      exact W.iret (v := ((T4.2 12) (Int32.toNatClampNeg p0))) hx hb hr (fun t ht hW => ⟨⟨((T4.2 12) (Int32.toNatClampNeg p0)), T4, rfl, h, by rw [ht]; exact hP, va_K.moved hW.alike hK, hD⟩, hS.F ht⟩) hS.2.2 dX8_out_48
    · have h := h.2 c5
      refine lv_iconst (v := 0) hx hb dX8_out_38 (by decide) ?_
      refine lv_goto (tgt := 48) hx hb dX8_out_39 (by decide) ?_
      exact W.iret (v := 0) hx hb hr (fun t ht hW => ⟨⟨0, T4, rfl, h, by rw [ht]; exact hP, va_K.moved hW.alike hK, hD⟩, hS.F ht⟩) hS.2.2 dX8_out_48
  · have h := h.2 c3
    refine lv_iload_n hx hb dX8_out_11 rfl (lv_at hl 1 rfl) ?_
    refine lv_aload_n hx hb dX8_out_12 rfl (lv_at hl 0 rfl) ?_
    refine va_get (D := D) (ci := 7) (v := .ref (a 6)) (C := RX8) (T := TX8) (N := 25) hx hb hts inX8 hown hK hP 0 rfl rfl 6 (by decide) (hts _ q_1083) (fun _ h9 => h9) rfl dX8_out_13 ?_
    refine lv_bipush (v := 15) hx hb dX8_out_16 (by decide) ?_
    refine ar_il (f := (S.2 6)) (n := 17) (j := 15) hx hb hK hP 6 rfl (by decide) (okLit (by decide)) dX8_out_18 ?_
    refine lv_icmp_ge (tgt := 26) hx hb dX8_out_19 (by decide) (fun c6 => ?_) (fun c6 => ?_)
    · have h := h.1 c6
      refine lv_iconst (v := 1) hx hb dX8_out_26 (by decide) ?_
      obtain ⟨T7, eT7⟩ : ∃ z : Ob, z = (si S 17 1) := ⟨_, rfl⟩
      refine pu_f (ci := 7) (v := .int 1) (ty := .int) (C := RX8) (T := TX8) (N := 25) hx hb hts inX8 tyX8 tyX8_ok nmX8 hown hK hP hD hS 0 rfl rfl 17 (by decide) (hts _ q_1094) (fun _ h9 => h9) rfl rfl rfl rfl (Nat.le_of_ble_eq_true rfl) dX8_out_27 (wX8 cI cZ a T7) (by subst eT7; rfl) (fun H locs hP hD hS => ?_)
      have h := h T7 eT7
      refine lv_aload_n hx hb dX8_out_30 rfl (lv_at hl 0 rfl) ?_
      refine va_get (D := D) (ci := 7) (v := .int (T7.1 17)) (C := RX8) (T := TX8) (N := 25) hx hb hts inX8 hown hK hP 0 rfl rfl 17 (by decide) (hts _ q_1094) (fun _ h9 => h9) rfl dX8_out_31 ?_
      refine lv_iconst (v := 1) hx hb dX8_out_34 (by decide) ?_
      refine lv_icmp_ne (tgt := 42) hx hb dX8_out_35 (by decide) (fun c8 => ?_) (fun c8 => ?_)
      · have h := h.1 c8
        refine lv_aload_n hx hb dX8_out_42 rfl (lv_at hl 0 rfl) ?_
        refine va_get (D := D) (ci := 7) (v := .ref (a 11)) (C := RX8) (T := TX8) (N := 25) hx hb hts inX8 hown hK hP 0 rfl rfl 12 (by decide) (hts _ q_1089) (fun _ h9 => h9) rfl dX8_out_43 ?_
        refine lv_iload_n hx hb dX8_out_46 rfl (lv_at hl 1 rfl) ?_
        refine ar_il (f := (T7.2 12)) (n := 64) (j := (Int32.toNatClampNeg p0)) hx hb hK hP 11 rfl rfl h.1 dX8_out_47 ?_
        have h := h.2
        exact W.iret (v := ((T7.2 12) (Int32.toNatClampNeg p0))) hx hb hr (fun t ht hW => ⟨⟨((T7.2 12) (Int32.toNatClampNeg p0)), T7, rfl, h, by rw [ht]; exact hP, va_K.moved hW.alike hK, hD⟩, hS.F ht⟩) hS.2.2 dX8_out_48
      · have h := h.2 c8
        refine lv_iconst (v := 0) hx hb dX8_out_38 (by decide) ?_
        refine lv_goto (tgt := 48) hx hb dX8_out_39 (by decide) ?_
        exact W.iret (v := 0) hx hb hr (fun t ht hW => ⟨⟨0, T7, rfl, h, by rw [ht]; exact hP, va_K.moved hW.alike hK, hD⟩, hS.F ht⟩) hS.2.2 dX8_out_48
    · have h := h.2 c6
      refine lv_iconst (v := 0) hx hb dX8_out_22 (by decide) ?_
      refine lv_goto (tgt := 27) hx hb dX8_out_23 (by decide) ?_
      obtain ⟨T9, eT9⟩ : ∃ z : Ob, z = (si S 17 0) := ⟨_, rfl⟩
      refine pu_f (ci := 7) (v := .int 0) (ty := .int) (C := RX8) (T := TX8) (N := 25) hx hb hts inX8 tyX8 tyX8_ok nmX8 hown hK hP hD hS 0 rfl rfl 17 (by decide) (hts _ q_1094) (fun _ h9 => h9) rfl rfl rfl rfl (Nat.le_of_ble_eq_true rfl) dX8_out_27 (wX8 cI cZ a T9) (by subst eT9; rfl) (fun H locs hP hD hS => ?_)
      have h := h T9 eT9
      refine lv_aload_n hx hb dX8_out_30 rfl (lv_at hl 0 rfl) ?_
      refine va_get (D := D) (ci := 7) (v := .int (T9.1 17)) (C := RX8) (T := TX8) (N := 25) hx hb hts inX8 hown hK hP 0 rfl rfl 17 (by decide) (hts _ q_1094) (fun _ h9 => h9) rfl dX8_out_31 ?_
      refine lv_iconst (v := 1) hx hb dX8_out_34 (by decide) ?_
      refine lv_icmp_ne (tgt := 42) hx hb dX8_out_35 (by decide) (fun c10 => ?_) (fun c10 => ?_)
      · have h := h.1 c10
        refine lv_aload_n hx hb dX8_out_42 rfl (lv_at hl 0 rfl) ?_
        refine va_get (D := D) (ci := 7) (v := .ref (a 11)) (C := RX8) (T := TX8) (N := 25) hx hb hts inX8 hown hK hP 0 rfl rfl 12 (by decide) (hts _ q_1089) (fun _ h9 => h9) rfl dX8_out_43 ?_
        refine lv_iload_n hx hb dX8_out_46 rfl (lv_at hl 1 rfl) ?_
        refine ar_il (f := (T9.2 12)) (n := 64) (j := (Int32.toNatClampNeg p0)) hx hb hK hP 11 rfl rfl h.1 dX8_out_47 ?_
        have h := h.2
        exact W.iret (v := ((T9.2 12) (Int32.toNatClampNeg p0))) hx hb hr (fun t ht hW => ⟨⟨((T9.2 12) (Int32.toNatClampNeg p0)), T9, rfl, h, by rw [ht]; exact hP, va_K.moved hW.alike hK, hD⟩, hS.F ht⟩) hS.2.2 dX8_out_48
      · have h := h.2 c10
        refine lv_iconst (v := 0) hx hb dX8_out_38 (by decide) ?_
        refine lv_goto (tgt := 48) hx hb dX8_out_39 (by decide) ?_
        exact W.iret (v := 0) hx hb hr (fun t ht hW => ⟨⟨0, T9, rfl, h, by rw [ht]; exact hP, va_K.moved hW.alike hK, hD⟩, hS.F ht⟩) hS.2.2 dX8_out_48
/-! X8_source -/
abbrev rmX8_source : Room := { frames := 1, cells := 0, slots := 0, locals := 22 }
set_option maxHeartbeats 4000000 in
set_option maxRecDepth 100000 in
theorem c_X8_source (l : Launch) (D : va_G) (cI cZ : ClassId) (a : Nat → Nat) (sz : Nat) (S : Ob) (p0 : Int32) (p1 : Int32) (Q : Int32 → Ob → Prop) (h : wp_X8_source S p0 p1 Q) : Met l yX8_source (wsm yX8_source cX8_source 3 (some .int)) rmX8_source (va_Pc [.ref (a 0), .int p0, .int p1] (preW D cI cZ sz (wX8 cI cZ a S))) (va_Qi Q (fun u => atW D cI cZ (va_A (wX8 cI cZ a S) sz) (wX8 cI cZ a u)) (va_A (wX8 cI cZ a S) sz)) 0 0 (va_A (wX8 cI cZ a S) sz) := by
  refine Met.ofW (cc := cX8_source) (maxL := 3) (ret := (some .int)) (by decide) rfl ?_
  intro p e s m args below meth c s₁ B hml hv
  obtain ⟨rfl, hsz, hP, hK, hD0⟩ := hv
  have hx := B.exec
  have hb := B.bytes
  have hr := B.returns
  have hts0 := atoms_spec (ws := wsm yX8_source cX8_source 3 (some .int)) B.pre
  have hts : ∀ w ∈ lw_all, w.before _ s = true := fun w h => hts0 w (List.mem_cons_of_mem _ h)
  have hown : s.vm.findClass RX8 = some m.cls := findClass_of_methodNamed B.named
  have hlocks := B.notSynchronized
  subst hsz
  have hD := hD0.self (sz := s.heap.size)
  generalize hAe : va_A (wX8 cI cZ a S) s.heap.size = A at hD ⊢
  have hA : ∀ q : Nat, s.heap.size ≤ q → A q := fun q h => by rw [← hAe]; exact Or.inr h
  have hS : va_S A s.heap s.heap [] := va_S.rf
  have hml2 := hml
  have hl := lv_entry ([.ref (a 0), .int p0, .int p1]) (n := 3) (Nat.le_of_ble_eq_true rfl)
  rw [lg_entry_eq]
  generalize (lg_sl ([.ref (a 0), .int p0, .int p1]) ++ List.replicate (3 - (lg_sl ([.ref (a 0), .int p0, .int p1])).length) Slot.unset).toArray = ls at hl ⊢
  have hl : lv_has ls 3 [(0, .ref (a 0)), (1, .int p0), (2, .int p1)] := hl
  unfold wp_X8_source at h
  refine lv_aload_n hx hb dX8_source_0 rfl (lv_at hl 0 rfl) ?_
  refine lv_iconst (v := 0) hx hb dX8_source_1 (by decide) ?_
  obtain ⟨T1, eT1⟩ : ∃ z : Ob, z = (si S 17 0) := ⟨_, rfl⟩
  refine pu_f (ci := 7) (v := .int 0) (ty := .int) (C := RX8) (T := TX8) (N := 25) hx hb hts inX8 tyX8 tyX8_ok nmX8 hown hK hP hD hS 0 rfl rfl 17 (by decide) (hts _ q_1094) (fun _ h9 => h9) rfl rfl rfl rfl (Nat.le_of_ble_eq_true rfl) dX8_source_2 (wX8 cI cZ a T1) (by subst eT1; rfl) (fun H locs hP hD hS => ?_)
  have h := h T1 eT1
  refine lv_iload_n hx hb dX8_source_5 rfl (lv_at hl 1 rfl) ?_
  refine lv_iconst (v := 0) hx hb dX8_source_6 (by decide) ?_
  refine lv_bipush (v := 20) hx hb dX8_source_7 (by decide) ?_
  refine cl_i (ws' := fun u2 => (wX8 cI cZ a T1)) (va_runS (As := [.int p0, .int 0, .int 20]) (rest := []) ⟨hx, hb, hml, hown, hts⟩ (c_X8_within l D cI cZ _ () p0 0 20 _ h ) (va_cwS 3 hts (gS q_1161 q_1162 q_75 q_1163) rfl rfl rfl (by decide +kernel) ⟨Nat.le_of_ble_eq_true rfl, Nat.le_of_ble_eq_true rfl⟩) (preS_of hK hP hD [] rfl rfl (by decide)) rfl rfl hl.1 rfl (lv_room (Nat.le_of_ble_eq_true rfl)) dX8_source_9 ⟨Nat.zero_le _, Nat.zero_le _⟩) hP hD hS hA [] [.inr 0, .inr 1, .inr 2, .inr 3, .inr 4, .inr 5, .inr 6, .inr 7, .inr 8, .inr 9, .inr 10, .inr 11, .inr 12, .inr 13, .inr 14, .inr 15, .inr 16, .inr 17] rfl (by decide) (fun _ => rfl) (fun _ => rfl) (fun r3 u2 H locs h hP hD hS => ?_)
  refine lv_if_ne (tgt := 18) hx hb dX8_source_12 (by decide) (fun c4 => ?_) (fun c4 => ?_)
  · have h := h.1 c4
    refine lv_iload_n hx hb dX8_source_18 rfl (lv_at hl 2 rfl) ?_
    by_cases c5_0 : p1 = 0
    · have h := h.1 c5_0
      refine sw_in c5_0 ?_
      refine lv_tableIn (tgt := 64) hx hb dX8_source_19 (by decide) (by decide) rfl (by decide) ?_
      refine lv_iload_n hx hb dX8_source_64 rfl (lv_at hl 1 rfl) ?_
      refine lv_bipush (v := 20) hx hb dX8_source_65 (by decide) ?_
      refine lv_icmp_ne (tgt := 74) hx hb dX8_source_67 (by decide) (fun c6 => ?_) (fun c6 => ?_)
      · have h := h.1 c6
        refine lv_aload_n hx hb dX8_source_74 rfl (lv_at hl 0 rfl) ?_
        refine va_get (D := D) (ci := 7) (v := .ref (a 4)) (C := RX8) (T := TX8) (N := 25) hx hb hts inX8 hown hK hP 0 rfl rfl 4 (by decide) (hts _ q_1081) (fun _ h9 => h9) rfl dX8_source_75 ?_
        refine lv_sipush (v := 173) hx hb dX8_source_78 (by decide) ?_
        refine lv_iload_n hx hb dX8_source_81 rfl (lv_at hl 1 rfl) ?_
        refine lv_iadd hx hb dX8_source_82 ?_
        refine ar_il (f := (T1.2 4)) (n := 342) (j := (Int32.toNatClampNeg (173 + p0))) hx hb hK hP 4 rfl rfl h.1 dX8_source_83 ?_
        have h := h.2
        exact W.iret (v := ((T1.2 4) (Int32.toNatClampNeg (173 + p0)))) hx hb hr (fun t ht hW => ⟨⟨((T1.2 4) (Int32.toNatClampNeg (173 + p0))), T1, rfl, h, by rw [ht]; exact hP, va_K.moved hW.alike hK, hD⟩, hS.F ht⟩) hS.2.2 dX8_source_84
      · have h := h.2 c6
        refine lv_iconst (v := -1) hx hb dX8_source_70 (by decide) ?_
        refine lv_goto (tgt := 84) hx hb dX8_source_71 (by decide) ?_
        exact W.iret (v := (-1)) hx hb hr (fun t ht hW => ⟨⟨(-1), T1, rfl, h, by rw [ht]; exact hP, va_K.moved hW.alike hK, hD⟩, hS.F ht⟩) hS.2.2 dX8_source_84
    have h := h.2
    by_cases c5_1 : p1 = 1
    · have h := h.1 c5_1
      refine sw_in c5_1 ?_
      refine lv_tableIn (tgt := 85) hx hb dX8_source_19 (by decide) (by decide) rfl (by decide) ?_
      refine lv_aload_n hx hb dX8_source_85 rfl (lv_at hl 0 rfl) ?_
      refine va_get (D := D) (ci := 7) (v := .ref (a 2)) (C := RX8) (T := TX8) (N := 25) hx hb hts inX8 hown hK hP 0 rfl rfl 1 (by decide) (hts _ q_1078) (fun _ h9 => h9) rfl dX8_source_86 ?_
      refine lv_iload_n hx hb dX8_source_89 rfl (lv_at hl 1 rfl) ?_
      refine ar_il (f := (T1.2 1)) (n := 21) (j := (Int32.toNatClampNeg p0)) hx hb hK hP 2 rfl rfl h.1 dX8_source_90 ?_
      have h := h.2
      exact W.iret (v := ((T1.2 1) (Int32.toNatClampNeg p0))) hx hb hr (fun t ht hW => ⟨⟨((T1.2 1) (Int32.toNatClampNeg p0)), T1, rfl, h, by rw [ht]; exact hP, va_K.moved hW.alike hK, hD⟩, hS.F ht⟩) hS.2.2 dX8_source_91
    have h := h.2
    by_cases c5_2 : p1 = 2
    · have h := h.1 c5_2
      refine sw_in c5_2 ?_
      refine lv_tableIn (tgt := 92) hx hb dX8_source_19 (by decide) (by decide) rfl (by decide) ?_
      refine lv_aload_n hx hb dX8_source_92 rfl (lv_at hl 0 rfl) ?_
      refine va_get (D := D) (ci := 7) (v := .ref (a 3)) (C := RX8) (T := TX8) (N := 25) hx hb hts inX8 hown hK hP 0 rfl rfl 2 (by decide) (hts _ q_1079) (fun _ h9 => h9) rfl dX8_source_93 ?_
      refine lv_iload_n hx hb dX8_source_96 rfl (lv_at hl 1 rfl) ?_
      refine ar_zl (f := (T1.2 2)) (n := 21) (j := (Int32.toNatClampNeg p0)) hx hb hK hP 3 rfl rfl h.1 dX8_source_97 ?_
      have h := h.2
      refine lv_if_eq (tgt := 105) hx hb dX8_source_98 (by decide) (fun c7 => ?_) (fun c7 => ?_)
      · have h := h.1 c7
        refine lv_iconst (v := 0) hx hb dX8_source_105 (by decide) ?_
        exact W.iret (v := 0) hx hb hr (fun t ht hW => ⟨⟨0, T1, rfl, h, by rw [ht]; exact hP, va_K.moved hW.alike hK, hD⟩, hS.F ht⟩) hS.2.2 dX8_source_106
      · have h := h.2 c7
        refine lv_iconst (v := 1) hx hb dX8_source_101 (by decide) ?_
        refine lv_goto (tgt := 106) hx hb dX8_source_102 (by decide) ?_
        exact W.iret (v := 1) hx hb hr (fun t ht hW => ⟨⟨1, T1, rfl, h, by rw [ht]; exact hP, va_K.moved hW.alike hK, hD⟩, hS.F ht⟩) hS.2.2 dX8_source_106
    have h := h.2
    by_cases c5_3 : p1 = 3
    · have h := h.1 c5_3
      refine sw_in c5_3 ?_
      refine lv_tableIn (tgt := 107) hx hb dX8_source_19 (by decide) (by decide) rfl (by decide) ?_
      refine lv_aload_n hx hb dX8_source_107 rfl (lv_at hl 0 rfl) ?_
      refine va_get (D := D) (ci := 7) (v := .ref (a 4)) (C := RX8) (T := TX8) (N := 25) hx hb hts inX8 hown hK hP 0 rfl rfl 4 (by decide) (hts _ q_1081) (fun _ h9 => h9) rfl dX8_source_108 ?_
      refine lv_sipush (v := 194) hx hb dX8_source_111 (by decide) ?_
      refine lv_iload_n hx hb dX8_source_114 rfl (lv_at hl 1 rfl) ?_
      refine lv_iadd hx hb dX8_source_115 ?_
      refine ar_il (f := (T1.2 4)) (n := 342) (j := (Int32.toNatClampNeg (194 + p0))) hx hb hK hP 4 rfl rfl h.1 dX8_source_116 ?_
      have h := h.2
      refine lv_if_lt (tgt := 124) hx hb dX8_source_117 (by decide) (fun c8 => ?_) (fun c8 => ?_)
      · have h := h.1 c8
        refine lv_iconst (v := 0) hx hb dX8_source_124 (by decide) ?_
        exact W.iret (v := 0) hx hb hr (fun t ht hW => ⟨⟨0, T1, rfl, h, by rw [ht]; exact hP, va_K.moved hW.alike hK, hD⟩, hS.F ht⟩) hS.2.2 dX8_source_125
      · have h := h.2 c8
        refine lv_iconst (v := 1) hx hb dX8_source_120 (by decide) ?_
        refine lv_goto (tgt := 125) hx hb dX8_source_121 (by decide) ?_
        exact W.iret (v := 1) hx hb hr (fun t ht hW => ⟨⟨1, T1, rfl, h, by rw [ht]; exact hP, va_K.moved hW.alike hK, hD⟩, hS.F ht⟩) hS.2.2 dX8_source_125
    have h := h.2
    by_cases c5_4 : p1 = 4
    · have h := h.1 c5_4
      refine sw_in c5_4 ?_
      refine lv_tableIn (tgt := 126) hx hb dX8_source_19 (by decide) (by decide) rfl (by decide) ?_
      refine lv_aload_n hx hb dX8_source_126 rfl (lv_at hl 0 rfl) ?_
      refine va_get (D := D) (ci := 7) (v := .ref (a 4)) (C := RX8) (T := TX8) (N := 25) hx hb hts inX8 hown hK hP 0 rfl rfl 4 (by decide) (hts _ q_1081) (fun _ h9 => h9) rfl dX8_source_127 ?_
      refine lv_sipush (v := 300) hx hb dX8_source_130 (by decide) ?_
      refine lv_iload_n hx hb dX8_source_133 rfl (lv_at hl 1 rfl) ?_
      refine lv_iadd hx hb dX8_source_134 ?_
      refine ar_il (f := (T1.2 4)) (n := 342) (j := (Int32.toNatClampNeg (300 + p0))) hx hb hK hP 4 rfl rfl h.1 dX8_source_135 ?_
      have h := h.2
      exact W.iret (v := ((T1.2 4) (Int32.toNatClampNeg (300 + p0)))) hx hb hr (fun t ht hW => ⟨⟨((T1.2 4) (Int32.toNatClampNeg (300 + p0))), T1, rfl, h, by rw [ht]; exact hP, va_K.moved hW.alike hK, hD⟩, hS.F ht⟩) hS.2.2 dX8_source_136
    have h := h.2
    by_cases c5_5 : p1 = 5
    · have h := h.1 c5_5
      refine sw_in c5_5 ?_
      refine lv_tableIn (tgt := 137) hx hb dX8_source_19 (by decide) (by decide) rfl (by decide) ?_
      refine lv_aload_n hx hb dX8_source_137 rfl (lv_at hl 0 rfl) ?_
      refine va_get (D := D) (ci := 7) (v := .ref (a 4)) (C := RX8) (T := TX8) (N := 25) hx hb hts inX8 hown hK hP 0 rfl rfl 4 (by decide) (hts _ q_1081) (fun _ h9 => h9) rfl dX8_source_138 ?_
      refine lv_sipush (v := 215) hx hb dX8_source_141 (by decide) ?_
      refine lv_iload_n hx hb dX8_source_144 rfl (lv_at hl 1 rfl) ?_
      refine lv_iadd hx hb dX8_source_145 ?_
      refine ar_il (f := (T1.2 4)) (n := 342) (j := (Int32.toNatClampNeg (215 + p0))) hx hb hK hP 4 rfl rfl h.1 dX8_source_146 ?_
      have h := h.2
      exact W.iret (v := ((T1.2 4) (Int32.toNatClampNeg (215 + p0)))) hx hb hr (fun t ht hW => ⟨⟨((T1.2 4) (Int32.toNatClampNeg (215 + p0))), T1, rfl, h, by rw [ht]; exact hP, va_K.moved hW.alike hK, hD⟩, hS.F ht⟩) hS.2.2 dX8_source_147
    have h := h.2
    by_cases c5_6 : p1 = 6
    · have h := h.1 c5_6
      refine sw_in c5_6 ?_
      refine lv_tableIn (tgt := 148) hx hb dX8_source_19 (by decide) (by decide) rfl (by decide) ?_
      refine lv_aload_n hx hb dX8_source_148 rfl (lv_at hl 0 rfl) ?_
      refine va_get (D := D) (ci := 7) (v := .ref (a 4)) (C := RX8) (T := TX8) (N := 25) hx hb hts inX8 hown hK hP 0 rfl rfl 4 (by decide) (hts _ q_1081) (fun _ h9 => h9) rfl dX8_source_149 ?_
      refine lv_iload_n hx hb dX8_source_152 rfl (lv_at hl 1 rfl) ?_
      refine lv_aload_n hx hb dX8_source_153 rfl (lv_at hl 0 rfl) ?_
      refine va_get (D := D) (ci := 7) (v := .int (T1.1 3)) (C := RX8) (T := TX8) (N := 25) hx hb hts inX8 hown hK hP 0 rfl rfl 3 (by decide) (hts _ q_1080) (fun _ h9 => h9) rfl dX8_source_154 ?_
      refine cl_i (ws' := fun u9 => (wX8 cI cZ a (sa T1 4 u9))) (va_runS (As := [.ref (a 4), .int p0, .int (T1.1 3)]) (rest := []) ⟨hx, hb, hml, hown, hts⟩ (c_X8_groupOf l D cI cZ (fun k => a (k + 4)) _ (T1.2 4) p0 (T1.1 3) _ h ) (va_cwS 3 hts (gS q_1240 q_1241 q_75 q_1242) rfl rfl rfl (by decide +kernel) ⟨Nat.le_of_ble_eq_true rfl, Nat.le_of_ble_eq_true rfl⟩) (preS_of hK hP hD [4] rfl rfl (by decide)) rfl rfl hl.1 rfl (lv_room (Nat.le_of_ble_eq_true rfl)) dX8_source_157 ⟨Nat.zero_le _, Nat.zero_le _⟩) hP hD hS hA [4] [.inr 0, .inr 1, .inr 2, .inr 3, .inl 0, .inr 5, .inr 6, .inr 7, .inr 8, .inr 9, .inr 10, .inr 11, .inr 12, .inr 13, .inr 14, .inr 15, .inr 16, .inr 17] rfl (by decide) (fun _ => rfl) (fun _ => rfl) (fun r10 u9 H locs h hP hD hS => ?_)
      exact W.iret (v := r10) hx hb hr (fun t ht hW => ⟨⟨r10, (sa T1 4 u9), rfl, h, by rw [ht]; exact hP, va_K.moved hW.alike hK, hD⟩, hS.F ht⟩) hS.2.2 dX8_source_160
    have h := h.2
    by_cases c5_7 : p1 = 7
    · have h := h.1 c5_7
      refine sw_in c5_7 ?_
      refine lv_tableIn (tgt := 161) hx hb dX8_source_19 (by decide) (by decide) rfl (by decide) ?_
      refine lv_aload_n hx hb dX8_source_161 rfl (lv_at hl 0 rfl) ?_
      refine va_get (D := D) (ci := 7) (v := .ref (a 4)) (C := RX8) (T := TX8) (N := 25) hx hb hts inX8 hown hK hP 0 rfl rfl 4 (by decide) (hts _ q_1081) (fun _ h9 => h9) rfl dX8_source_162 ?_
      refine lv_iload_n hx hb dX8_source_165 rfl (lv_at hl 1 rfl) ?_
      refine lv_aload_n hx hb dX8_source_166 rfl (lv_at hl 0 rfl) ?_
      refine va_get (D := D) (ci := 7) (v := .int (T1.1 3)) (C := RX8) (T := TX8) (N := 25) hx hb hts inX8 hown hK hP 0 rfl rfl 3 (by decide) (hts _ q_1080) (fun _ h9 => h9) rfl dX8_source_167 ?_
      refine cl_i (ws' := fun u11 => (wX8 cI cZ a (sa T1 4 u11))) (va_runS (As := [.ref (a 4), .int p0, .int (T1.1 3)]) (rest := []) ⟨hx, hb, hml, hown, hts⟩ (c_X8_subOf l D cI cZ (fun k => a (k + 4)) _ (T1.2 4) p0 (T1.1 3) _ h ) (va_cwS 3 hts (gS q_1247 q_1248 q_75 q_1249) rfl rfl rfl (by decide +kernel) ⟨Nat.le_of_ble_eq_true rfl, Nat.le_of_ble_eq_true rfl⟩) (preS_of hK hP hD [4] rfl rfl (by decide)) rfl rfl hl.1 rfl (lv_room (Nat.le_of_ble_eq_true rfl)) dX8_source_170 ⟨Nat.zero_le _, Nat.zero_le _⟩) hP hD hS hA [4] [.inr 0, .inr 1, .inr 2, .inr 3, .inl 0, .inr 5, .inr 6, .inr 7, .inr 8, .inr 9, .inr 10, .inr 11, .inr 12, .inr 13, .inr 14, .inr 15, .inr 16, .inr 17] rfl (by decide) (fun _ => rfl) (fun _ => rfl) (fun r12 u11 H locs h hP hD hS => ?_)
      exact W.iret (v := r12) hx hb hr (fun t ht hW => ⟨⟨r12, (sa T1 4 u11), rfl, h, by rw [ht]; exact hP, va_K.moved hW.alike hK, hD⟩, hS.F ht⟩) hS.2.2 dX8_source_173
    have h := h.2
    have h := h c5_0 c5_1 c5_2 c5_3 c5_4 c5_5 c5_6 c5_7
    refine lv_tableOut (tgt := 174) hx hb dX8_source_19 (sw_out (lo := 0) (n := 8) (by decide) (by decide) (fun k hk => ?_)) (by decide) ?_
    · rcases (show k = 0 ∨ k = 1 ∨ k = 2 ∨ k = 3 ∨ k = 4 ∨ k = 5 ∨ k = 6 ∨ k = 7 by omega) with rfl | rfl | rfl | rfl | rfl | rfl | rfl | rfl
      · exact c5_0
      · exact c5_1
      · exact c5_2
      · exact c5_3
      · exact c5_4
      · exact c5_5
      · exact c5_6
      · exact c5_7
    refine lv_bipush (v := -2) hx hb dX8_source_174 (by decide) ?_
    exact W.iret (v := (-2)) hx hb hr (fun t ht hW => ⟨⟨(-2), T1, rfl, h, by rw [ht]; exact hP, va_K.moved hW.alike hK, hD⟩, hS.F ht⟩) hS.2.2 dX8_source_176
  · have h := h.2 c4
    refine lv_bipush (v := -2) hx hb dX8_source_15 (by decide) ?_
    exact W.iret (v := (-2)) hx hb hr (fun t ht hW => ⟨⟨(-2), T1, rfl, h, by rw [ht]; exact hP, va_K.moved hW.alike hK, hD⟩, hS.F ht⟩) hS.2.2 dX8_source_17
/-! X8_nest -/
abbrev rmX8_nest : Room := { frames := 1, cells := 0, slots := 0, locals := 22 }
set_option maxHeartbeats 4000000 in
set_option maxRecDepth 100000 in
theorem c_X8_nest (l : Launch) (D : va_G) (cI cZ : ClassId) (a : Nat → Nat) (sz : Nat) (S : Ob) (p0 : Int32) (Q : Int32 → Ob → Prop) (h : wp_X8_nest S p0 Q) : Met l yX8_nest (wsm yX8_nest cX8_nest 2 (some .int)) rmX8_nest (va_Pc [.ref (a 0), .int p0] (preW D cI cZ sz (wX8 cI cZ a S))) (va_Qi Q (fun u => atW D cI cZ (va_A (wX8 cI cZ a S) sz) (wX8 cI cZ a u)) (va_A (wX8 cI cZ a S) sz)) 0 0 (va_A (wX8 cI cZ a S) sz) := by
  refine Met.ofW (cc := cX8_nest) (maxL := 2) (ret := (some .int)) (by decide) rfl ?_
  intro p e s m args below meth c s₁ B hml hv
  obtain ⟨rfl, hsz, hP, hK, hD0⟩ := hv
  have hx := B.exec
  have hb := B.bytes
  have hr := B.returns
  have hts0 := atoms_spec (ws := wsm yX8_nest cX8_nest 2 (some .int)) B.pre
  have hts : ∀ w ∈ lw_all, w.before _ s = true := fun w h => hts0 w (List.mem_cons_of_mem _ h)
  have hown : s.vm.findClass RX8 = some m.cls := findClass_of_methodNamed B.named
  have hlocks := B.notSynchronized
  subst hsz
  have hD := hD0.self (sz := s.heap.size)
  generalize hAe : va_A (wX8 cI cZ a S) s.heap.size = A at hD ⊢
  have hA : ∀ q : Nat, s.heap.size ≤ q → A q := fun q h => by rw [← hAe]; exact Or.inr h
  have hS : va_S A s.heap s.heap [] := va_S.rf
  have hml2 := hml
  have hl := lv_entry ([.ref (a 0), .int p0]) (n := 2) (Nat.le_of_ble_eq_true rfl)
  rw [lg_entry_eq]
  generalize (lg_sl ([.ref (a 0), .int p0]) ++ List.replicate (2 - (lg_sl ([.ref (a 0), .int p0])).length) Slot.unset).toArray = ls at hl ⊢
  have hl : lv_has ls 2 [(0, .ref (a 0)), (1, .int p0)] := hl
  unfold wp_X8_nest at h
  refine lv_aload_n hx hb dX8_nest_0 rfl (lv_at hl 0 rfl) ?_
  refine lv_iconst (v := 0) hx hb dX8_nest_1 (by decide) ?_
  obtain ⟨T1, eT1⟩ : ∃ z : Ob, z = (si S 17 0) := ⟨_, rfl⟩
  refine pu_f (ci := 7) (v := .int 0) (ty := .int) (C := RX8) (T := TX8) (N := 25) hx hb hts inX8 tyX8 tyX8_ok nmX8 hown hK hP hD hS 0 rfl rfl 17 (by decide) (hts _ q_1094) (fun _ h9 => h9) rfl rfl rfl rfl (Nat.le_of_ble_eq_true rfl) dX8_nest_2 (wX8 cI cZ a T1) (by subst eT1; rfl) (fun H locs hP hD hS => ?_)
  have h := h T1 eT1
  refine lv_iload_n hx hb dX8_nest_5 rfl (lv_at hl 1 rfl) ?_
  refine lv_iconst (v := 0) hx hb dX8_nest_6 (by decide) ?_
  refine lv_aload_n hx hb dX8_nest_7 rfl (lv_at hl 0 rfl) ?_
  refine va_get (D := D) (ci := 7) (v := .ref (a 4)) (C := RX8) (T := TX8) (N := 25) hx hb hts inX8 hown hK hP 0 rfl rfl 4 (by decide) (hts _ q_1081) (fun _ h9 => h9) rfl dX8_nest_8 ?_
  refine lv_bipush (v := 30) hx hb dX8_nest_11 (by decide) ?_
  refine ar_il (f := (T1.2 4)) (n := 342) (j := 30) hx hb hK hP 4 rfl (by decide) (okLit (by decide)) dX8_nest_13 ?_
  refine lv_iconst (v := 1) hx hb dX8_nest_14 (by decide) ?_
  refine lv_isub hx hb dX8_nest_15 ?_
  refine cl_i (ws' := fun u2 => (wX8 cI cZ a T1)) (va_runS (As := [.int p0, .int 0, .int (((T1.2 4) 30) - 1)]) (rest := []) ⟨hx, hb, hml, hown, hts⟩ (c_X8_within l D cI cZ _ () p0 0 (((T1.2 4) 30) - 1) _ h ) (va_cwS 3 hts (gS q_1161 q_1162 q_75 q_1163) rfl rfl rfl (by decide +kernel) ⟨Nat.le_of_ble_eq_true rfl, Nat.le_of_ble_eq_true rfl⟩) (preS_of hK hP hD [] rfl rfl (by decide)) rfl rfl hl.1 rfl (lv_room (Nat.le_of_ble_eq_true rfl)) dX8_nest_16 ⟨Nat.zero_le _, Nat.zero_le _⟩) hP hD hS hA [] [.inr 0, .inr 1, .inr 2, .inr 3, .inr 4, .inr 5, .inr 6, .inr 7, .inr 8, .inr 9, .inr 10, .inr 11, .inr 12, .inr 13, .inr 14, .inr 15, .inr 16, .inr 17] rfl (by decide) (fun _ => rfl) (fun _ => rfl) (fun r3 u2 H locs h hP hD hS => ?_)
  refine lv_if_eq (tgt := 35) hx hb dX8_nest_19 (by decide) (fun c4 => ?_) (fun c4 => ?_)
  · have h := h.1 c4
    refine lv_iconst (v := -1) hx hb dX8_nest_35 (by decide) ?_
    exact W.iret (v := (-1)) hx hb hr (fun t ht hW => ⟨⟨(-1), T1, rfl, h, by rw [ht]; exact hP, va_K.moved hW.alike hK, hD⟩, hS.F ht⟩) hS.2.2 dX8_nest_36
  · have h := h.2 c4
    refine lv_aload_n hx hb dX8_nest_22 rfl (lv_at hl 0 rfl) ?_
    refine va_get (D := D) (ci := 7) (v := .ref (a 4)) (C := RX8) (T := TX8) (N := 25) hx hb hts inX8 hown hK hP 0 rfl rfl 4 (by decide) (hts _ q_1081) (fun _ h9 => h9) rfl dX8_nest_23 ?_
    refine lv_sipush (v := 152) hx hb dX8_nest_26 (by decide) ?_
    refine lv_iload_n hx hb dX8_nest_29 rfl (lv_at hl 1 rfl) ?_
    refine lv_iadd hx hb dX8_nest_30 ?_
    refine ar_il (f := (T1.2 4)) (n := 342) (j := (Int32.toNatClampNeg (152 + p0))) hx hb hK hP 4 rfl rfl h.1 dX8_nest_31 ?_
    have h := h.2
    refine lv_goto (tgt := 36) hx hb dX8_nest_32 (by decide) ?_
    exact W.iret (v := ((T1.2 4) (Int32.toNatClampNeg (152 + p0)))) hx hb hr (fun t ht hW => ⟨⟨((T1.2 4) (Int32.toNatClampNeg (152 + p0))), T1, rfl, h, by rw [ht]; exact hP, va_K.moved hW.alike hK, hD⟩, hS.F ht⟩) hS.2.2 dX8_nest_36
/-! X8_state -/
abbrev rmX8_state : Room := { frames := 4, cells := 0, slots := 0, locals := 93 }
set_option maxHeartbeats 4000000 in
set_option maxRecDepth 100000 in
theorem c_X8_state (l : Launch) (D : va_G) (cI cZ : ClassId) (a : Nat → Nat) (sz : Nat) (S : Ob) (p0 : Int32) (Q : Int32 → Ob → Prop) (h : wp_X8_state S p0 Q) : Met l yX8_state (wsm yX8_state cX8_state 2 (some .int)) rmX8_state (va_Pc [.ref (a 0), .int p0] (preW D cI cZ sz (wX8 cI cZ a S))) (va_Qi Q (fun u => atW D cI cZ (va_A (wX8 cI cZ a S) sz) (wX8 cI cZ a u)) (va_A (wX8 cI cZ a S) sz)) 0 0 (va_A (wX8 cI cZ a S) sz) := by
  refine Met.ofW (cc := cX8_state) (maxL := 2) (ret := (some .int)) (by decide) rfl ?_
  intro p e s m args below meth c s₁ B hml hv
  obtain ⟨rfl, hsz, hP, hK, hD0⟩ := hv
  have hx := B.exec
  have hb := B.bytes
  have hr := B.returns
  have hts0 := atoms_spec (ws := wsm yX8_state cX8_state 2 (some .int)) B.pre
  have hts : ∀ w ∈ lw_all, w.before _ s = true := fun w h => hts0 w (List.mem_cons_of_mem _ h)
  have hown : s.vm.findClass RX8 = some m.cls := findClass_of_methodNamed B.named
  have hlocks := B.notSynchronized
  subst hsz
  have hD := hD0.self (sz := s.heap.size)
  generalize hAe : va_A (wX8 cI cZ a S) s.heap.size = A at hD ⊢
  have hA : ∀ q : Nat, s.heap.size ≤ q → A q := fun q h => by rw [← hAe]; exact Or.inr h
  have hS : va_S A s.heap s.heap [] := va_S.rf
  have hml2 := hml
  have hl := lv_entry ([.ref (a 0), .int p0]) (n := 2) (Nat.le_of_ble_eq_true rfl)
  rw [lg_entry_eq]
  generalize (lg_sl ([.ref (a 0), .int p0]) ++ List.replicate (2 - (lg_sl ([.ref (a 0), .int p0])).length) Slot.unset).toArray = ls at hl ⊢
  have hl : lv_has ls 2 [(0, .ref (a 0)), (1, .int p0)] := hl
  unfold wp_X8_state at h
  refine lv_aload_n hx hb dX8_state_0 rfl (lv_at hl 0 rfl) ?_
  refine lv_iconst (v := 0) hx hb dX8_state_1 (by decide) ?_
  obtain ⟨T1, eT1⟩ : ∃ z : Ob, z = (si S 17 0) := ⟨_, rfl⟩
  refine pu_f (ci := 7) (v := .int 0) (ty := .int) (C := RX8) (T := TX8) (N := 25) hx hb hts inX8 tyX8 tyX8_ok nmX8 hown hK hP hD hS 0 rfl rfl 17 (by decide) (hts _ q_1094) (fun _ h9 => h9) rfl rfl rfl rfl (Nat.le_of_ble_eq_true rfl) dX8_state_2 (wX8 cI cZ a T1) (by subst eT1; rfl) (fun H locs hP hD hS => ?_)
  have h := h T1 eT1
  refine lv_iload_n hx hb dX8_state_5 rfl (lv_at hl 1 rfl) ?_
  by_cases c2_0 : p0 = 0
  · have h := h.1 c2_0
    refine sw_in c2_0 ?_
    refine lv_tableIn (tgt := 84) hx hb dX8_state_6 (by decide) (by decide) rfl (by decide) ?_
    refine lv_aload_n hx hb dX8_state_84 rfl (lv_at hl 0 rfl) ?_
    refine va_get (D := D) (ci := 7) (v := .ref (a 4)) (C := RX8) (T := TX8) (N := 25) hx hb hts inX8 hown hK hP 0 rfl rfl 4 (by decide) (hts _ q_1081) (fun _ h9 => h9) rfl dX8_state_85 ?_
    refine lv_bipush (v := 20) hx hb dX8_state_88 (by decide) ?_
    refine ar_il (f := (T1.2 4)) (n := 342) (j := 20) hx hb hK hP 4 rfl (by decide) (okLit (by decide)) dX8_state_90 ?_
    exact W.iret (v := ((T1.2 4) 20)) hx hb hr (fun t ht hW => ⟨⟨((T1.2 4) 20), T1, rfl, h, by rw [ht]; exact hP, va_K.moved hW.alike hK, hD⟩, hS.F ht⟩) hS.2.2 dX8_state_91
  have h := h.2
  by_cases c2_1 : p0 = 1
  · have h := h.1 c2_1
    refine sw_in c2_1 ?_
    refine lv_tableIn (tgt := 92) hx hb dX8_state_6 (by decide) (by decide) rfl (by decide) ?_
    refine lv_aload_n hx hb dX8_state_92 rfl (lv_at hl 0 rfl) ?_
    refine va_get (D := D) (ci := 7) (v := .ref (a 4)) (C := RX8) (T := TX8) (N := 25) hx hb hts inX8 hown hK hP 0 rfl rfl 4 (by decide) (hts _ q_1081) (fun _ h9 => h9) rfl dX8_state_93 ?_
    refine lv_bipush (v := 21) hx hb dX8_state_96 (by decide) ?_
    refine ar_il (f := (T1.2 4)) (n := 342) (j := 21) hx hb hK hP 4 rfl (by decide) (okLit (by decide)) dX8_state_98 ?_
    exact W.iret (v := ((T1.2 4) 21)) hx hb hr (fun t ht hW => ⟨⟨((T1.2 4) 21), T1, rfl, h, by rw [ht]; exact hP, va_K.moved hW.alike hK, hD⟩, hS.F ht⟩) hS.2.2 dX8_state_99
  have h := h.2
  by_cases c2_2 : p0 = 2
  · have h := h.1 c2_2
    refine sw_in c2_2 ?_
    refine lv_tableIn (tgt := 100) hx hb dX8_state_6 (by decide) (by decide) rfl (by decide) ?_
    refine lv_aload_n hx hb dX8_state_100 rfl (lv_at hl 0 rfl) ?_
    refine va_get (D := D) (ci := 7) (v := .ref (a 4)) (C := RX8) (T := TX8) (N := 25) hx hb hts inX8 hown hK hP 0 rfl rfl 4 (by decide) (hts _ q_1081) (fun _ h9 => h9) rfl dX8_state_101 ?_
    refine lv_bipush (v := 22) hx hb dX8_state_104 (by decide) ?_
    refine ar_il (f := (T1.2 4)) (n := 342) (j := 22) hx hb hK hP 4 rfl (by decide) (okLit (by decide)) dX8_state_106 ?_
    exact W.iret (v := ((T1.2 4) 22)) hx hb hr (fun t ht hW => ⟨⟨((T1.2 4) 22), T1, rfl, h, by rw [ht]; exact hP, va_K.moved hW.alike hK, hD⟩, hS.F ht⟩) hS.2.2 dX8_state_107
  have h := h.2
  by_cases c2_3 : p0 = 3
  · have h := h.1 c2_3
    refine sw_in c2_3 ?_
    refine lv_tableIn (tgt := 108) hx hb dX8_state_6 (by decide) (by decide) rfl (by decide) ?_
    refine lv_aload_n hx hb dX8_state_108 rfl (lv_at hl 0 rfl) ?_
    refine va_get (D := D) (ci := 7) (v := .ref (a 4)) (C := RX8) (T := TX8) (N := 25) hx hb hts inX8 hown hK hP 0 rfl rfl 4 (by decide) (hts _ q_1081) (fun _ h9 => h9) rfl dX8_state_109 ?_
    refine lv_bipush (v := 23) hx hb dX8_state_112 (by decide) ?_
    refine ar_il (f := (T1.2 4)) (n := 342) (j := 23) hx hb hK hP 4 rfl (by decide) (okLit (by decide)) dX8_state_114 ?_
    exact W.iret (v := ((T1.2 4) 23)) hx hb hr (fun t ht hW => ⟨⟨((T1.2 4) 23), T1, rfl, h, by rw [ht]; exact hP, va_K.moved hW.alike hK, hD⟩, hS.F ht⟩) hS.2.2 dX8_state_115
  have h := h.2
  by_cases c2_4 : p0 = 4
  · have h := h.1 c2_4
    refine sw_in c2_4 ?_
    refine lv_tableIn (tgt := 116) hx hb dX8_state_6 (by decide) (by decide) rfl (by decide) ?_
    refine lv_aload_n hx hb dX8_state_116 rfl (lv_at hl 0 rfl) ?_
    refine va_get (D := D) (ci := 7) (v := .ref (a 4)) (C := RX8) (T := TX8) (N := 25) hx hb hts inX8 hown hK hP 0 rfl rfl 4 (by decide) (hts _ q_1081) (fun _ h9 => h9) rfl dX8_state_117 ?_
    refine lv_bipush (v := 12) hx hb dX8_state_120 (by decide) ?_
    refine ar_il (f := (T1.2 4)) (n := 342) (j := 12) hx hb hK hP 4 rfl (by decide) (okLit (by decide)) dX8_state_122 ?_
    exact W.iret (v := ((T1.2 4) 12)) hx hb hr (fun t ht hW => ⟨⟨((T1.2 4) 12), T1, rfl, h, by rw [ht]; exact hP, va_K.moved hW.alike hK, hD⟩, hS.F ht⟩) hS.2.2 dX8_state_123
  have h := h.2
  by_cases c2_5 : p0 = 5
  · have h := h.1 c2_5
    refine sw_in c2_5 ?_
    refine lv_tableIn (tgt := 124) hx hb dX8_state_6 (by decide) (by decide) rfl (by decide) ?_
    refine lv_aload_n hx hb dX8_state_124 rfl (lv_at hl 0 rfl) ?_
    refine va_get (D := D) (ci := 7) (v := .ref (a 4)) (C := RX8) (T := TX8) (N := 25) hx hb hts inX8 hown hK hP 0 rfl rfl 4 (by decide) (hts _ q_1081) (fun _ h9 => h9) rfl dX8_state_125 ?_
    refine lv_bipush (v := 15) hx hb dX8_state_128 (by decide) ?_
    refine ar_il (f := (T1.2 4)) (n := 342) (j := 15) hx hb hK hP 4 rfl (by decide) (okLit (by decide)) dX8_state_130 ?_
    exact W.iret (v := ((T1.2 4) 15)) hx hb hr (fun t ht hW => ⟨⟨((T1.2 4) 15), T1, rfl, h, by rw [ht]; exact hP, va_K.moved hW.alike hK, hD⟩, hS.F ht⟩) hS.2.2 dX8_state_131
  have h := h.2
  by_cases c2_6 : p0 = 6
  · have h := h.1 c2_6
    refine sw_in c2_6 ?_
    refine lv_tableIn (tgt := 132) hx hb dX8_state_6 (by decide) (by decide) rfl (by decide) ?_
    refine lv_aload_n hx hb dX8_state_132 rfl (lv_at hl 0 rfl) ?_
    refine va_get (D := D) (ci := 7) (v := .ref (a 4)) (C := RX8) (T := TX8) (N := 25) hx hb hts inX8 hown hK hP 0 rfl rfl 4 (by decide) (hts _ q_1081) (fun _ h9 => h9) rfl dX8_state_133 ?_
    refine lv_bipush (v := 13) hx hb dX8_state_136 (by decide) ?_
    refine ar_il (f := (T1.2 4)) (n := 342) (j := 13) hx hb hK hP 4 rfl (by decide) (okLit (by decide)) dX8_state_138 ?_
    exact W.iret (v := ((T1.2 4) 13)) hx hb hr (fun t ht hW => ⟨⟨((T1.2 4) 13), T1, rfl, h, by rw [ht]; exact hP, va_K.moved hW.alike hK, hD⟩, hS.F ht⟩) hS.2.2 dX8_state_139
  have h := h.2
  by_cases c2_7 : p0 = 7
  · have h := h.1 c2_7
    refine sw_in c2_7 ?_
    refine lv_tableIn (tgt := 140) hx hb dX8_state_6 (by decide) (by decide) rfl (by decide) ?_
    refine lv_aload_n hx hb dX8_state_140 rfl (lv_at hl 0 rfl) ?_
    refine va_get (D := D) (ci := 7) (v := .ref (a 4)) (C := RX8) (T := TX8) (N := 25) hx hb hts inX8 hown hK hP 0 rfl rfl 4 (by decide) (hts _ q_1081) (fun _ h9 => h9) rfl dX8_state_141 ?_
    refine lv_bipush (v := 14) hx hb dX8_state_144 (by decide) ?_
    refine ar_il (f := (T1.2 4)) (n := 342) (j := 14) hx hb hK hP 4 rfl (by decide) (okLit (by decide)) dX8_state_146 ?_
    exact W.iret (v := ((T1.2 4) 14)) hx hb hr (fun t ht hW => ⟨⟨((T1.2 4) 14), T1, rfl, h, by rw [ht]; exact hP, va_K.moved hW.alike hK, hD⟩, hS.F ht⟩) hS.2.2 dX8_state_147
  have h := h.2
  by_cases c2_8 : p0 = 8
  · have h := h.1 c2_8
    refine sw_in c2_8 ?_
    refine lv_tableIn (tgt := 148) hx hb dX8_state_6 (by decide) (by decide) rfl (by decide) ?_
    refine lv_aload_n hx hb dX8_state_148 rfl (lv_at hl 0 rfl) ?_
    refine va_get (D := D) (ci := 7) (v := .ref (a 4)) (C := RX8) (T := TX8) (N := 25) hx hb hts inX8 hown hK hP 0 rfl rfl 4 (by decide) (hts _ q_1081) (fun _ h9 => h9) rfl dX8_state_149 ?_
    refine lv_bipush (v := 16) hx hb dX8_state_152 (by decide) ?_
    refine ar_il (f := (T1.2 4)) (n := 342) (j := 16) hx hb hK hP 4 rfl (by decide) (okLit (by decide)) dX8_state_154 ?_
    exact W.iret (v := ((T1.2 4) 16)) hx hb hr (fun t ht hW => ⟨⟨((T1.2 4) 16), T1, rfl, h, by rw [ht]; exact hP, va_K.moved hW.alike hK, hD⟩, hS.F ht⟩) hS.2.2 dX8_state_155
  have h := h.2
  by_cases c2_9 : p0 = 9
  · have h := h.1 c2_9
    refine sw_in c2_9 ?_
    refine lv_tableIn (tgt := 156) hx hb dX8_state_6 (by decide) (by decide) rfl (by decide) ?_
    refine lv_aload_n hx hb dX8_state_156 rfl (lv_at hl 0 rfl) ?_
    refine va_get (D := D) (ci := 7) (v := .ref (a 4)) (C := RX8) (T := TX8) (N := 25) hx hb hts inX8 hown hK hP 0 rfl rfl 4 (by decide) (hts _ q_1081) (fun _ h9 => h9) rfl dX8_state_157 ?_
    refine lv_bipush (v := 17) hx hb dX8_state_160 (by decide) ?_
    refine ar_il (f := (T1.2 4)) (n := 342) (j := 17) hx hb hK hP 4 rfl (by decide) (okLit (by decide)) dX8_state_162 ?_
    exact W.iret (v := ((T1.2 4) 17)) hx hb hr (fun t ht hW => ⟨⟨((T1.2 4) 17), T1, rfl, h, by rw [ht]; exact hP, va_K.moved hW.alike hK, hD⟩, hS.F ht⟩) hS.2.2 dX8_state_163
  have h := h.2
  by_cases c2_10 : p0 = 10
  · have h := h.1 c2_10
    refine sw_in c2_10 ?_
    refine lv_tableIn (tgt := 164) hx hb dX8_state_6 (by decide) (by decide) rfl (by decide) ?_
    refine lv_aload_n hx hb dX8_state_164 rfl (lv_at hl 0 rfl) ?_
    refine va_get (D := D) (ci := 7) (v := .ref (a 4)) (C := RX8) (T := TX8) (N := 25) hx hb hts inX8 hown hK hP 0 rfl rfl 4 (by decide) (hts _ q_1081) (fun _ h9 => h9) rfl dX8_state_165 ?_
    refine lv_bipush (v := 18) hx hb dX8_state_168 (by decide) ?_
    refine ar_il (f := (T1.2 4)) (n := 342) (j := 18) hx hb hK hP 4 rfl (by decide) (okLit (by decide)) dX8_state_170 ?_
    exact W.iret (v := ((T1.2 4) 18)) hx hb hr (fun t ht hW => ⟨⟨((T1.2 4) 18), T1, rfl, h, by rw [ht]; exact hP, va_K.moved hW.alike hK, hD⟩, hS.F ht⟩) hS.2.2 dX8_state_171
  have h := h.2
  by_cases c2_11 : p0 = 11
  · have h := h.1 c2_11
    refine sw_in c2_11 ?_
    refine lv_tableIn (tgt := 172) hx hb dX8_state_6 (by decide) (by decide) rfl (by decide) ?_
    refine lv_aload_n hx hb dX8_state_172 rfl (lv_at hl 0 rfl) ?_
    refine va_get (D := D) (ci := 7) (v := .ref (a 4)) (C := RX8) (T := TX8) (N := 25) hx hb hts inX8 hown hK hP 0 rfl rfl 4 (by decide) (hts _ q_1081) (fun _ h9 => h9) rfl dX8_state_173 ?_
    refine lv_bipush (v := 19) hx hb dX8_state_176 (by decide) ?_
    refine ar_il (f := (T1.2 4)) (n := 342) (j := 19) hx hb hK hP 4 rfl (by decide) (okLit (by decide)) dX8_state_178 ?_
    exact W.iret (v := ((T1.2 4) 19)) hx hb hr (fun t ht hW => ⟨⟨((T1.2 4) 19), T1, rfl, h, by rw [ht]; exact hP, va_K.moved hW.alike hK, hD⟩, hS.F ht⟩) hS.2.2 dX8_state_179
  have h := h.2
  by_cases c2_12 : p0 = 12
  · have h := h.1 c2_12
    refine sw_in c2_12 ?_
    refine lv_tableIn (tgt := 180) hx hb dX8_state_6 (by decide) (by decide) rfl (by decide) ?_
    refine lv_aload_n hx hb dX8_state_180 rfl (lv_at hl 0 rfl) ?_
    refine va_get (D := D) (ci := 7) (v := .ref (a 4)) (C := RX8) (T := TX8) (N := 25) hx hb hts inX8 hown hK hP 0 rfl rfl 4 (by decide) (hts _ q_1081) (fun _ h9 => h9) rfl dX8_state_181 ?_
    refine lv_aload_n hx hb dX8_state_184 rfl (lv_at hl 0 rfl) ?_
    refine va_get (D := D) (ci := 7) (v := .int (T1.1 3)) (C := RX8) (T := TX8) (N := 25) hx hb hts inX8 hown hK hP 0 rfl rfl 3 (by decide) (hts _ q_1080) (fun _ h9 => h9) rfl dX8_state_185 ?_
    refine lv_aload_n hx hb dX8_state_188 rfl (lv_at hl 0 rfl) ?_
    refine va_get (D := D) (ci := 7) (v := .ref (a 4)) (C := RX8) (T := TX8) (N := 25) hx hb hts inX8 hown hK hP 0 rfl rfl 4 (by decide) (hts _ q_1081) (fun _ h9 => h9) rfl dX8_state_189 ?_
    refine lv_bipush (v := 16) hx hb dX8_state_192 (by decide) ?_
    refine ar_il (f := (T1.2 4)) (n := 342) (j := 16) hx hb hK hP 4 rfl (by decide) (okLit (by decide)) dX8_state_194 ?_
    refine lv_iconst (v := 1) hx hb dX8_state_195 (by decide) ?_
    refine lv_icmp_ne (tgt := 203) hx hb dX8_state_196 (by decide) (fun c3 => ?_) (fun c3 => ?_)
    · have h := h.1 c3
      refine lv_iconst (v := 0) hx hb dX8_state_203 (by decide) ?_
      refine cl_i (ws' := fun u4 => (wX8 cI cZ a (sa T1 4 u4))) (va_runS (As := [.ref (a 4), .int (T1.1 3), .int 0]) (rest := []) ⟨hx, hb, hml, hown, hts⟩ (c_X8_limitOf l D cI cZ (fun k => a (k + 4)) _ (T1.2 4) (T1.1 3) 0 _ h ) (va_cwS 3 hts (gS q_1237 q_1238 q_75 q_1239) rfl rfl rfl (by decide +kernel) ⟨Nat.le_of_ble_eq_true rfl, Nat.le_of_ble_eq_true rfl⟩) (preS_of hK hP hD [4] rfl rfl (by decide)) rfl rfl hl.1 rfl (lv_room (Nat.le_of_ble_eq_true rfl)) dX8_state_204 ⟨Nat.zero_le _, Nat.zero_le _⟩) hP hD hS hA [4] [.inr 0, .inr 1, .inr 2, .inr 3, .inl 0, .inr 5, .inr 6, .inr 7, .inr 8, .inr 9, .inr 10, .inr 11, .inr 12, .inr 13, .inr 14, .inr 15, .inr 16, .inr 17] rfl (by decide) (fun _ => rfl) (fun _ => rfl) (fun r5 u4 H locs h hP hD hS => ?_)
      exact W.iret (v := r5) hx hb hr (fun t ht hW => ⟨⟨r5, (sa T1 4 u4), rfl, h, by rw [ht]; exact hP, va_K.moved hW.alike hK, hD⟩, hS.F ht⟩) hS.2.2 dX8_state_207
    · have h := h.2 c3
      refine lv_iconst (v := 1) hx hb dX8_state_199 (by decide) ?_
      refine lv_goto (tgt := 204) hx hb dX8_state_200 (by decide) ?_
      refine cl_i (ws' := fun u6 => (wX8 cI cZ a (sa T1 4 u6))) (va_runS (As := [.ref (a 4), .int (T1.1 3), .int 1]) (rest := []) ⟨hx, hb, hml, hown, hts⟩ (c_X8_limitOf l D cI cZ (fun k => a (k + 4)) _ (T1.2 4) (T1.1 3) 1 _ h ) (va_cwS 3 hts (gS q_1237 q_1238 q_75 q_1239) rfl rfl rfl (by decide +kernel) ⟨Nat.le_of_ble_eq_true rfl, Nat.le_of_ble_eq_true rfl⟩) (preS_of hK hP hD [4] rfl rfl (by decide)) rfl rfl hl.1 rfl (lv_room (Nat.le_of_ble_eq_true rfl)) dX8_state_204 ⟨Nat.zero_le _, Nat.zero_le _⟩) hP hD hS hA [4] [.inr 0, .inr 1, .inr 2, .inr 3, .inl 0, .inr 5, .inr 6, .inr 7, .inr 8, .inr 9, .inr 10, .inr 11, .inr 12, .inr 13, .inr 14, .inr 15, .inr 16, .inr 17] rfl (by decide) (fun _ => rfl) (fun _ => rfl) (fun r7 u6 H locs h hP hD hS => ?_)
      exact W.iret (v := r7) hx hb hr (fun t ht hW => ⟨⟨r7, (sa T1 4 u6), rfl, h, by rw [ht]; exact hP, va_K.moved hW.alike hK, hD⟩, hS.F ht⟩) hS.2.2 dX8_state_207
  have h := h.2
  by_cases c2_13 : p0 = 13
  · have h := h.1 c2_13
    refine sw_in c2_13 ?_
    refine lv_tableIn (tgt := 208) hx hb dX8_state_6 (by decide) (by decide) rfl (by decide) ?_
    refine lv_aload_n hx hb dX8_state_208 rfl (lv_at hl 0 rfl) ?_
    refine lv_aload_n hx hb dX8_state_209 rfl (lv_at hl 0 rfl) ?_
    refine va_get (D := D) (ci := 7) (v := .ref (a 4)) (C := RX8) (T := TX8) (N := 25) hx hb hts inX8 hown hK hP 0 rfl rfl 4 (by decide) (hts _ q_1081) (fun _ h9 => h9) rfl dX8_state_210 ?_
    refine cl_i (ws' := fun u8 => (wX8 cI cZ a (mnow T1 u8.1 u8.2))) (va_runV (As := [.ref (a 4)]) (rest := []) ⟨hx, hb, hml, hown, hts⟩ (c_X8_nextOf_ l D cI cZ a (fun k => a (k + 4)) true _ (T1, (T1.2 4)) _ h (fun _ => rfl)) (cwV 1 hts (gV q_1229 q_1231 q_35 q_75 q_1232) rfl rfl rfl (by decide +kernel) ⟨Nat.le_of_ble_eq_true rfl, Nat.le_of_ble_eq_true rfl⟩) (preV_of (ci := 7) (q := (RX8, TX8, 25)) hK hP hD [0, 1, 2, 3, 6, 7, 8, 9, 10, 11, 12, 4] rfl rfl (by decide) 0 rfl rfl) rfl rfl hl.1 rfl (lv_room (Nat.le_of_ble_eq_true rfl)) dX8_state_213 ⟨Nat.zero_le _, Nat.zero_le _⟩) hP hD hS hA [0, 1, 2, 3, 6, 7, 8, 9, 10, 11, 12, 4] [.inl 0, .inl 1, .inl 2, .inl 3, .inl 11, .inr 5, .inl 4, .inl 5, .inl 6, .inl 7, .inl 8, .inl 9, .inl 10, .inr 13, .inr 14, .inr 15, .inr 16, .inr 17] rfl (by decide) (fun _ => rfl) (fun _ => rfl) (fun r9 u8 H locs h hP hD hS => ?_)
    exact W.iret (v := r9) hx hb hr (fun t ht hW => ⟨⟨r9, (mnow T1 u8.1 u8.2), rfl, h, by rw [ht]; exact hP, va_K.moved hW.alike hK, hD⟩, hS.F ht⟩) hS.2.2 dX8_state_216
  have h := h.2
  by_cases c2_14 : p0 = 14
  · have h := h.1 c2_14
    refine sw_in c2_14 ?_
    refine lv_tableIn (tgt := 217) hx hb dX8_state_6 (by decide) (by decide) rfl (by decide) ?_
    refine lv_aload_n hx hb dX8_state_217 rfl (lv_at hl 0 rfl) ?_
    refine va_get (D := D) (ci := 7) (v := .int (T1.1 3)) (C := RX8) (T := TX8) (N := 25) hx hb hts inX8 hown hK hP 0 rfl rfl 3 (by decide) (hts _ q_1080) (fun _ h9 => h9) rfl dX8_state_218 ?_
    exact W.iret (v := (T1.1 3)) hx hb hr (fun t ht hW => ⟨⟨(T1.1 3), T1, rfl, h, by rw [ht]; exact hP, va_K.moved hW.alike hK, hD⟩, hS.F ht⟩) hS.2.2 dX8_state_221
  have h := h.2
  by_cases c2_15 : p0 = 15
  · have h := h.1 c2_15
    refine sw_in c2_15 ?_
    refine lv_tableIn (tgt := 222) hx hb dX8_state_6 (by decide) (by decide) rfl (by decide) ?_
    refine lv_aload_n hx hb dX8_state_222 rfl (lv_at hl 0 rfl) ?_
    refine va_get (D := D) (ci := 7) (v := .ref (a 4)) (C := RX8) (T := TX8) (N := 25) hx hb hts inX8 hown hK hP 0 rfl rfl 4 (by decide) (hts _ q_1081) (fun _ h9 => h9) rfl dX8_state_223 ?_
    refine lv_bipush (v := 27) hx hb dX8_state_226 (by decide) ?_
    refine ar_il (f := (T1.2 4)) (n := 342) (j := 27) hx hb hK hP 4 rfl (by decide) (okLit (by decide)) dX8_state_228 ?_
    exact W.iret (v := ((T1.2 4) 27)) hx hb hr (fun t ht hW => ⟨⟨((T1.2 4) 27), T1, rfl, h, by rw [ht]; exact hP, va_K.moved hW.alike hK, hD⟩, hS.F ht⟩) hS.2.2 dX8_state_229
  have h := h.2
  have h := h c2_0 c2_1 c2_2 c2_3 c2_4 c2_5 c2_6 c2_7 c2_8 c2_9 c2_10 c2_11 c2_12 c2_13 c2_14 c2_15
  refine lv_tableOut (tgt := 230) hx hb dX8_state_6 (sw_out (lo := 0) (n := 16) (by decide) (by decide) (fun k hk => ?_)) (by decide) ?_
  · rcases (show k = 0 ∨ k = 1 ∨ k = 2 ∨ k = 3 ∨ k = 4 ∨ k = 5 ∨ k = 6 ∨ k = 7 ∨ k = 8 ∨ k = 9 ∨ k = 10 ∨ k = 11 ∨ k = 12 ∨ k = 13 ∨ k = 14 ∨ k = 15 by omega) with rfl | rfl | rfl | rfl | rfl | rfl | rfl | rfl | rfl | rfl | rfl | rfl | rfl | rfl | rfl | rfl
    · exact c2_0
    · exact c2_1
    · exact c2_2
    · exact c2_3
    · exact c2_4
    · exact c2_5
    · exact c2_6
    · exact c2_7
    · exact c2_8
    · exact c2_9
    · exact c2_10
    · exact c2_11
    · exact c2_12
    · exact c2_13
    · exact c2_14
    · exact c2_15
  refine lv_bipush (v := -2) hx hb dX8_state_230 (by decide) ?_
  exact W.iret (v := (-2)) hx hb hr (fun t ht hW => ⟨⟨(-2), T1, rfl, h, by rw [ht]; exact hP, va_K.moved hW.alike hK, hD⟩, hS.F ht⟩) hS.2.2 dX8_state_232
/-! X8_count -/
abbrev rmX8_count : Room := { frames := 1, cells := 0, slots := 0, locals := 22 }
set_option maxHeartbeats 4000000 in
set_option maxRecDepth 100000 in
theorem c_X8_count (l : Launch) (D : va_G) (cI cZ : ClassId) (a : Nat → Nat) (sz : Nat) (S : Ob) (p0 : Int32) (Q : Int32 → Ob → Prop) (h : wp_X8_count S p0 Q) : Met l yX8_count (wsm yX8_count cX8_count 2 (some .int)) rmX8_count (va_Pc [.ref (a 0), .int p0] (preW D cI cZ sz (wX8 cI cZ a S))) (va_Qi Q (fun u => atW D cI cZ (va_A (wX8 cI cZ a S) sz) (wX8 cI cZ a u)) (va_A (wX8 cI cZ a S) sz)) 0 0 (va_A (wX8 cI cZ a S) sz) := by
  refine Met.ofW (cc := cX8_count) (maxL := 2) (ret := (some .int)) (by decide) rfl ?_
  intro p e s m args below meth c s₁ B hml hv
  obtain ⟨rfl, hsz, hP, hK, hD0⟩ := hv
  have hx := B.exec
  have hb := B.bytes
  have hr := B.returns
  have hts0 := atoms_spec (ws := wsm yX8_count cX8_count 2 (some .int)) B.pre
  have hts : ∀ w ∈ lw_all, w.before _ s = true := fun w h => hts0 w (List.mem_cons_of_mem _ h)
  have hown : s.vm.findClass RX8 = some m.cls := findClass_of_methodNamed B.named
  have hlocks := B.notSynchronized
  subst hsz
  have hD := hD0.self (sz := s.heap.size)
  generalize hAe : va_A (wX8 cI cZ a S) s.heap.size = A at hD ⊢
  have hA : ∀ q : Nat, s.heap.size ≤ q → A q := fun q h => by rw [← hAe]; exact Or.inr h
  have hS : va_S A s.heap s.heap [] := va_S.rf
  have hml2 := hml
  have hl := lv_entry ([.ref (a 0), .int p0]) (n := 2) (Nat.le_of_ble_eq_true rfl)
  rw [lg_entry_eq]
  generalize (lg_sl ([.ref (a 0), .int p0]) ++ List.replicate (2 - (lg_sl ([.ref (a 0), .int p0])).length) Slot.unset).toArray = ls at hl ⊢
  have hl : lv_has ls 2 [(0, .ref (a 0)), (1, .int p0)] := hl
  unfold wp_X8_count at h
  refine lv_aload_n hx hb dX8_count_0 rfl (lv_at hl 0 rfl) ?_
  refine lv_iconst (v := 0) hx hb dX8_count_1 (by decide) ?_
  obtain ⟨T1, eT1⟩ : ∃ z : Ob, z = (si S 17 0) := ⟨_, rfl⟩
  refine pu_f (ci := 7) (v := .int 0) (ty := .int) (C := RX8) (T := TX8) (N := 25) hx hb hts inX8 tyX8 tyX8_ok nmX8 hown hK hP hD hS 0 rfl rfl 17 (by decide) (hts _ q_1094) (fun _ h9 => h9) rfl rfl rfl rfl (Nat.le_of_ble_eq_true rfl) dX8_count_2 (wX8 cI cZ a T1) (by subst eT1; rfl) (fun H locs hP hD hS => ?_)
  have h := h T1 eT1
  refine lv_iload_n hx hb dX8_count_5 rfl (lv_at hl 1 rfl) ?_
  refine lv_iconst (v := 0) hx hb dX8_count_6 (by decide) ?_
  refine lv_bipush (v := 16) hx hb dX8_count_7 (by decide) ?_
  refine cl_i (ws' := fun u2 => (wX8 cI cZ a T1)) (va_runS (As := [.int p0, .int 0, .int 16]) (rest := []) ⟨hx, hb, hml, hown, hts⟩ (c_X8_within l D cI cZ _ () p0 0 16 _ h ) (va_cwS 3 hts (gS q_1161 q_1162 q_75 q_1163) rfl rfl rfl (by decide +kernel) ⟨Nat.le_of_ble_eq_true rfl, Nat.le_of_ble_eq_true rfl⟩) (preS_of hK hP hD [] rfl rfl (by decide)) rfl rfl hl.1 rfl (lv_room (Nat.le_of_ble_eq_true rfl)) dX8_count_9 ⟨Nat.zero_le _, Nat.zero_le _⟩) hP hD hS hA [] [.inr 0, .inr 1, .inr 2, .inr 3, .inr 4, .inr 5, .inr 6, .inr 7, .inr 8, .inr 9, .inr 10, .inr 11, .inr 12, .inr 13, .inr 14, .inr 15, .inr 16, .inr 17] rfl (by decide) (fun _ => rfl) (fun _ => rfl) (fun r3 u2 H locs h hP hD hS => ?_)
  refine lv_if_ne (tgt := 17) hx hb dX8_count_12 (by decide) (fun c4 => ?_) (fun c4 => ?_)
  · have h := h.1 c4
    refine lv_iload_n hx hb dX8_count_17 rfl (lv_at hl 1 rfl) ?_
    refine lv_if_ne (tgt := 29) hx hb dX8_count_18 (by decide) (fun c5 => ?_) (fun c5 => ?_)
    · have h := h.1 c5
      refine lv_iload_n hx hb dX8_count_29 rfl (lv_at hl 1 rfl) ?_
      refine lv_bipush (v := 11) hx hb dX8_count_30 (by decide) ?_
      refine lv_icmp_ne (tgt := 43) hx hb dX8_count_32 (by decide) (fun c6 => ?_) (fun c6 => ?_)
      · have h := h.1 c6
        refine lv_iload_n hx hb dX8_count_43 rfl (lv_at hl 1 rfl) ?_
        refine lv_bipush (v := 14) hx hb dX8_count_44 (by decide) ?_
        refine lv_icmp_ne (tgt := 57) hx hb dX8_count_46 (by decide) (fun c7 => ?_) (fun c7 => ?_)
        · have h := h.1 c7
          refine lv_iload_n hx hb dX8_count_57 rfl (lv_at hl 1 rfl) ?_
          refine lv_bipush (v := 16) hx hb dX8_count_58 (by decide) ?_
          refine lv_icmp_ne (tgt := 82) hx hb dX8_count_60 (by decide) (fun c8 => ?_) (fun c8 => ?_)
          · have h := h.1 c8
            refine lv_aload_n hx hb dX8_count_82 rfl (lv_at hl 0 rfl) ?_
            refine va_get (D := D) (ci := 7) (v := .ref (a 6)) (C := RX8) (T := TX8) (N := 25) hx hb hts inX8 hown hK hP 0 rfl rfl 6 (by decide) (hts _ q_1083) (fun _ h9 => h9) rfl dX8_count_83 ?_
            refine lv_iload_n hx hb dX8_count_86 rfl (lv_at hl 1 rfl) ?_
            refine ar_il (f := (T1.2 6)) (n := 17) (j := (Int32.toNatClampNeg p0)) hx hb hK hP 6 rfl rfl h.1 dX8_count_87 ?_
            have h := h.2
            exact W.iret (v := ((T1.2 6) (Int32.toNatClampNeg p0))) hx hb hr (fun t ht hW => ⟨⟨((T1.2 6) (Int32.toNatClampNeg p0)), T1, rfl, h, by rw [ht]; exact hP, va_K.moved hW.alike hK, hD⟩, hS.F ht⟩) hS.2.2 dX8_count_88
          · have h := h.2 c8
            refine lv_aload_n hx hb dX8_count_63 rfl (lv_at hl 0 rfl) ?_
            refine va_get (D := D) (ci := 7) (v := .int (T1.1 11)) (C := RX8) (T := TX8) (N := 25) hx hb hts inX8 hown hK hP 0 rfl rfl 11 (by decide) (hts _ q_1088) (fun _ h9 => h9) rfl dX8_count_64 ?_
            refine lv_bipush (v := 24) hx hb dX8_count_67 (by decide) ?_
            refine lv_icmp_ge (tgt := 79) hx hb dX8_count_69 (by decide) (fun c9 => ?_) (fun c9 => ?_)
            · have h := h.1 c9
              refine lv_bipush (v := 24) hx hb dX8_count_79 (by decide) ?_
              exact W.iret (v := 24) hx hb hr (fun t ht hW => ⟨⟨24, T1, rfl, h, by rw [ht]; exact hP, va_K.moved hW.alike hK, hD⟩, hS.F ht⟩) hS.2.2 dX8_count_81
            · have h := h.2 c9
              refine lv_aload_n hx hb dX8_count_72 rfl (lv_at hl 0 rfl) ?_
              refine va_get (D := D) (ci := 7) (v := .int (T1.1 11)) (C := RX8) (T := TX8) (N := 25) hx hb hts inX8 hown hK hP 0 rfl rfl 11 (by decide) (hts _ q_1088) (fun _ h9 => h9) rfl dX8_count_73 ?_
              refine lv_goto (tgt := 81) hx hb dX8_count_76 (by decide) ?_
              exact W.iret (v := (T1.1 11)) hx hb hr (fun t ht hW => ⟨⟨(T1.1 11), T1, rfl, h, by rw [ht]; exact hP, va_K.moved hW.alike hK, hD⟩, hS.F ht⟩) hS.2.2 dX8_count_81
        · have h := h.2 c7
          refine lv_aload_n hx hb dX8_count_49 rfl (lv_at hl 0 rfl) ?_
          refine va_get (D := D) (ci := 7) (v := .ref (a 4)) (C := RX8) (T := TX8) (N := 25) hx hb hts inX8 hown hK hP 0 rfl rfl 4 (by decide) (hts _ q_1081) (fun _ h9 => h9) rfl dX8_count_50 ?_
          refine lv_bipush (v := 31) hx hb dX8_count_53 (by decide) ?_
          refine ar_il (f := (T1.2 4)) (n := 342) (j := 31) hx hb hK hP 4 rfl (by decide) (okLit (by decide)) dX8_count_55 ?_
          exact W.iret (v := ((T1.2 4) 31)) hx hb hr (fun t ht hW => ⟨⟨((T1.2 4) 31), T1, rfl, h, by rw [ht]; exact hP, va_K.moved hW.alike hK, hD⟩, hS.F ht⟩) hS.2.2 dX8_count_56
      · have h := h.2 c6
        refine lv_aload_n hx hb dX8_count_35 rfl (lv_at hl 0 rfl) ?_
        refine va_get (D := D) (ci := 7) (v := .ref (a 4)) (C := RX8) (T := TX8) (N := 25) hx hb hts inX8 hown hK hP 0 rfl rfl 4 (by decide) (hts _ q_1081) (fun _ h9 => h9) rfl dX8_count_36 ?_
        refine lv_bipush (v := 30) hx hb dX8_count_39 (by decide) ?_
        refine ar_il (f := (T1.2 4)) (n := 342) (j := 30) hx hb hK hP 4 rfl (by decide) (okLit (by decide)) dX8_count_41 ?_
        exact W.iret (v := ((T1.2 4) 30)) hx hb hr (fun t ht hW => ⟨⟨((T1.2 4) 30), T1, rfl, h, by rw [ht]; exact hP, va_K.moved hW.alike hK, hD⟩, hS.F ht⟩) hS.2.2 dX8_count_42
    · have h := h.2 c5
      refine lv_aload_n hx hb dX8_count_21 rfl (lv_at hl 0 rfl) ?_
      refine va_get (D := D) (ci := 7) (v := .ref (a 4)) (C := RX8) (T := TX8) (N := 25) hx hb hts inX8 hown hK hP 0 rfl rfl 4 (by decide) (hts _ q_1081) (fun _ h9 => h9) rfl dX8_count_22 ?_
      refine lv_bipush (v := 25) hx hb dX8_count_25 (by decide) ?_
      refine ar_il (f := (T1.2 4)) (n := 342) (j := 25) hx hb hK hP 4 rfl (by decide) (okLit (by decide)) dX8_count_27 ?_
      exact W.iret (v := ((T1.2 4) 25)) hx hb hr (fun t ht hW => ⟨⟨((T1.2 4) 25), T1, rfl, h, by rw [ht]; exact hP, va_K.moved hW.alike hK, hD⟩, hS.F ht⟩) hS.2.2 dX8_count_28
  · have h := h.2 c4
    refine lv_iconst (v := -1) hx hb dX8_count_15 (by decide) ?_
    exact W.iret (v := (-1)) hx hb hr (fun t ht hW => ⟨⟨(-1), T1, rfl, h, by rw [ht]; exact hP, va_K.moved hW.alike hK, hD⟩, hS.F ht⟩) hS.2.2 dX8_count_16
/-! X8_event -/
abbrev rmX8_event : Room := { frames := 1, cells := 0, slots := 0, locals := 22 }
set_option maxHeartbeats 4000000 in
set_option maxRecDepth 100000 in
theorem c_X8_event (l : Launch) (D : va_G) (cI cZ : ClassId) (a : Nat → Nat) (sz : Nat) (S : Ob) (p0 : Int32) (p1 : Int32) (Q : Int32 → Ob → Prop) (h : wp_X8_event S p0 p1 Q) : Met l yX8_event (wsm yX8_event cX8_event 5 (some .int)) rmX8_event (va_Pc [.ref (a 0), .int p0, .int p1] (preW D cI cZ sz (wX8 cI cZ a S))) (va_Qi Q (fun u => atW D cI cZ (va_A (wX8 cI cZ a S) sz) (wX8 cI cZ a u)) (va_A (wX8 cI cZ a S) sz)) 0 0 (va_A (wX8 cI cZ a S) sz) := by
  refine Met.ofW (cc := cX8_event) (maxL := 5) (ret := (some .int)) (by decide) rfl ?_
  intro p e s m args below meth c s₁ B hml hv
  obtain ⟨rfl, hsz, hP, hK, hD0⟩ := hv
  have hx := B.exec
  have hb := B.bytes
  have hr := B.returns
  have hts0 := atoms_spec (ws := wsm yX8_event cX8_event 5 (some .int)) B.pre
  have hts : ∀ w ∈ lw_all, w.before _ s = true := fun w h => hts0 w (List.mem_cons_of_mem _ h)
  have hown : s.vm.findClass RX8 = some m.cls := findClass_of_methodNamed B.named
  have hlocks := B.notSynchronized
  subst hsz
  have hD := hD0.self (sz := s.heap.size)
  generalize hAe : va_A (wX8 cI cZ a S) s.heap.size = A at hD ⊢
  have hA : ∀ q : Nat, s.heap.size ≤ q → A q := fun q h => by rw [← hAe]; exact Or.inr h
  have hS : va_S A s.heap s.heap [] := va_S.rf
  have hml2 := hml
  have L44 : ∀ (y1 : Int32) (y2 : Int32) (T : Ob) (H : Heap) (locs : List Loc) (ls : Array Slot), va_P D vwCl (wX8 cI cZ a T) H → va_D A (wX8 cI cZ a T) → va_S A s.heap H locs → lv_has ls 5 [(0, .ref (a 0)), (1, .int y1), (2, .int y2)] → wp_X8_event_L44 Q y1 y2 T → W p l e rmX8_event s m ([.ref (a 0), .int p0, .int p1] : List Value).toArray below meth c H locs 0 0 (MQ below (va_Qi Q (fun u => atW D cI cZ A (wX8 cI cZ a u)) A) ([.ref (a 0), .int p0, .int p1] : List Value).toArray s 0 0 A) (F0 m 44 ls [.ref (a 0)]) := by
    intro y1 y2 T H locs ls hP hD hS hl h
    unfold wp_X8_event_L44 at h
    refine lv_iconst (v := 1) hx hb dX8_event_44 (by decide) ?_
    obtain ⟨T14, eT14⟩ : ∃ z : Ob, z = (si T 17 1) := ⟨_, rfl⟩
    refine pu_f (ci := 7) (v := .int 1) (ty := .int) (C := RX8) (T := TX8) (N := 25) hx hb hts inX8 tyX8 tyX8_ok nmX8 hown hK hP hD hS 0 rfl rfl 17 (by decide) (hts _ q_1094) (fun _ h9 => h9) rfl rfl rfl rfl (Nat.le_of_ble_eq_true rfl) dX8_event_45 (wX8 cI cZ a T14) (by subst eT14; rfl) (fun H locs hP hD hS => ?_)
    have h := h T14 eT14
    refine lv_aload_n hx hb dX8_event_48 rfl (lv_at hl 0 rfl) ?_
    refine va_get (D := D) (ci := 7) (v := .int (T14.1 17)) (C := RX8) (T := TX8) (N := 25) hx hb hts inX8 hown hK hP 0 rfl rfl 17 (by decide) (hts _ q_1094) (fun _ h9 => h9) rfl dX8_event_49 ?_
    refine lv_iconst (v := 1) hx hb dX8_event_52 (by decide) ?_
    refine lv_icmp_ne (tgt := 58) hx hb dX8_event_53 (by decide) (fun c15 => ?_) (fun c15 => ?_)
    · have h := h.1 c15
      refine lv_aload_n hx hb dX8_event_58 rfl (lv_at hl 0 rfl) ?_
      refine va_get (D := D) (ci := 7) (v := .int (T14.1 11)) (C := RX8) (T := TX8) (N := 25) hx hb hts inX8 hown hK hP 0 rfl rfl 11 (by decide) (hts _ q_1088) (fun _ h9 => h9) rfl dX8_event_59 ?_
      refine lv_iconst (v := 1) hx hb dX8_event_62 (by decide) ?_
      refine lv_isub hx hb dX8_event_63 ?_
      refine lv_iload_n hx hb dX8_event_64 rfl (lv_at hl 1 rfl) ?_
      refine lv_isub hx hb dX8_event_65 ?_
      refine lv_bipush (v := 24) hx hb dX8_event_66 (by decide) ?_
      refine lv_irem hx hb dX8_event_68 (by decide) ?_
      refine lv_topi (fun x16 ex16 => ?_)
      have h := h x16 ex16
      refine lv_istore (lv' := [(4, .int x16), (0, .ref (a 0)), (1, .int y1), (2, .int y2)]) hx hb dX8_event_69 hl (by decide) rfl (fun ls hl => ?_)
      refine lv_iload_n hx hb dX8_event_71 rfl (lv_at hl 3 rfl) ?_
      refine lv_if_ne (tgt := 85) hx hb dX8_event_72 (by decide) (fun c17 => ?_) (fun c17 => ?_)
      · have h := h.1 c17
        refine lv_iload_n hx hb dX8_event_85 rfl (lv_at hl 3 rfl) ?_
        refine lv_iconst (v := 1) hx hb dX8_event_86 (by decide) ?_
        refine lv_icmp_ne (tgt := 100) hx hb dX8_event_87 (by decide) (fun c18 => ?_) (fun c18 => ?_)
        · have h := h.1 c18
          refine lv_iload_n hx hb dX8_event_100 rfl (lv_at hl 3 rfl) ?_
          refine lv_iconst (v := 2) hx hb dX8_event_101 (by decide) ?_
          refine lv_icmp_ne (tgt := 115) hx hb dX8_event_102 (by decide) (fun c19 => ?_) (fun c19 => ?_)
          · have h := h.1 c19
            refine lv_aload_n hx hb dX8_event_115 rfl (lv_at hl 1 rfl) ?_
            refine va_get (D := D) (ci := 7) (v := .ref (a 10)) (C := RX8) (T := TX8) (N := 25) hx hb hts inX8 hown hK hP 0 rfl rfl 10 (by decide) (hts _ q_1087) (fun _ h9 => h9) rfl dX8_event_116 ?_
            refine lv_iload hx hb dX8_event_119 (lv_at hl 0 rfl) ?_
            refine ar_il (f := (T14.2 10)) (n := 24) (j := (Int32.toNatClampNeg x16)) hx hb hK hP 10 rfl rfl h.1 dX8_event_121 ?_
            have h := h.2
            exact W.iret (v := ((T14.2 10) (Int32.toNatClampNeg x16))) hx hb hr (fun t ht hW => ⟨⟨((T14.2 10) (Int32.toNatClampNeg x16)), T14, rfl, h, by rw [ht]; exact hP, va_K.moved hW.alike hK, hD⟩, hS.F ht⟩) hS.2.2 dX8_event_122
          · have h := h.2 c19
            refine lv_aload_n hx hb dX8_event_105 rfl (lv_at hl 1 rfl) ?_
            refine va_get (D := D) (ci := 7) (v := .ref (a 9)) (C := RX8) (T := TX8) (N := 25) hx hb hts inX8 hown hK hP 0 rfl rfl 9 (by decide) (hts _ q_1086) (fun _ h9 => h9) rfl dX8_event_106 ?_
            refine lv_iload hx hb dX8_event_109 (lv_at hl 0 rfl) ?_
            refine ar_il (f := (T14.2 9)) (n := 24) (j := (Int32.toNatClampNeg x16)) hx hb hK hP 9 rfl rfl h.1 dX8_event_111 ?_
            have h := h.2
            refine lv_goto (tgt := 122) hx hb dX8_event_112 (by decide) ?_
            exact W.iret (v := ((T14.2 9) (Int32.toNatClampNeg x16))) hx hb hr (fun t ht hW => ⟨⟨((T14.2 9) (Int32.toNatClampNeg x16)), T14, rfl, h, by rw [ht]; exact hP, va_K.moved hW.alike hK, hD⟩, hS.F ht⟩) hS.2.2 dX8_event_122
        · have h := h.2 c18
          refine lv_aload_n hx hb dX8_event_90 rfl (lv_at hl 1 rfl) ?_
          refine va_get (D := D) (ci := 7) (v := .ref (a 8)) (C := RX8) (T := TX8) (N := 25) hx hb hts inX8 hown hK hP 0 rfl rfl 8 (by decide) (hts _ q_1085) (fun _ h9 => h9) rfl dX8_event_91 ?_
          refine lv_iload hx hb dX8_event_94 (lv_at hl 0 rfl) ?_
          refine ar_il (f := (T14.2 8)) (n := 24) (j := (Int32.toNatClampNeg x16)) hx hb hK hP 8 rfl rfl h.1 dX8_event_96 ?_
          have h := h.2
          refine lv_goto (tgt := 122) hx hb dX8_event_97 (by decide) ?_
          exact W.iret (v := ((T14.2 8) (Int32.toNatClampNeg x16))) hx hb hr (fun t ht hW => ⟨⟨((T14.2 8) (Int32.toNatClampNeg x16)), T14, rfl, h, by rw [ht]; exact hP, va_K.moved hW.alike hK, hD⟩, hS.F ht⟩) hS.2.2 dX8_event_122
      · have h := h.2 c17
        refine lv_aload_n hx hb dX8_event_75 rfl (lv_at hl 1 rfl) ?_
        refine va_get (D := D) (ci := 7) (v := .ref (a 7)) (C := RX8) (T := TX8) (N := 25) hx hb hts inX8 hown hK hP 0 rfl rfl 7 (by decide) (hts _ q_1084) (fun _ h9 => h9) rfl dX8_event_76 ?_
        refine lv_iload hx hb dX8_event_79 (lv_at hl 0 rfl) ?_
        refine ar_il (f := (T14.2 7)) (n := 24) (j := (Int32.toNatClampNeg x16)) hx hb hK hP 7 rfl rfl h.1 dX8_event_81 ?_
        have h := h.2
        refine lv_goto (tgt := 122) hx hb dX8_event_82 (by decide) ?_
        exact W.iret (v := ((T14.2 7) (Int32.toNatClampNeg x16))) hx hb hr (fun t ht hW => ⟨⟨((T14.2 7) (Int32.toNatClampNeg x16)), T14, rfl, h, by rw [ht]; exact hP, va_K.moved hW.alike hK, hD⟩, hS.F ht⟩) hS.2.2 dX8_event_122
    · have h := h.2 c15
      refine lv_iconst (v := 0) hx hb dX8_event_56 (by decide) ?_
      exact W.iret (v := 0) hx hb hr (fun t ht hW => ⟨⟨0, T14, rfl, h, by rw [ht]; exact hP, va_K.moved hW.alike hK, hD⟩, hS.F ht⟩) hS.2.2 dX8_event_57
  have L18 : ∀ (y1 : Int32) (y2 : Int32) (z0 : Int32) (T : Ob) (H : Heap) (locs : List Loc) (ls : Array Slot), va_P D vwCl (wX8 cI cZ a T) H → va_D A (wX8 cI cZ a T) → va_S A s.heap H locs → lv_has ls 5 [(0, .ref (a 0)), (1, .int y1), (2, .int y2)] → wp_X8_event_L18 Q y1 y2 z0 T → W p l e rmX8_event s m ([.ref (a 0), .int p0, .int p1] : List Value).toArray below meth c H locs 0 0 (MQ below (va_Qi Q (fun u => atW D cI cZ A (wX8 cI cZ a u)) A) ([.ref (a 0), .int p0, .int p1] : List Value).toArray s 0 0 A) (F0 m 18 ls [.int z0]) := by
    intro y1 y2 z0 T H locs ls hP hD hS hl h
    unfold wp_X8_event_L18 at h
    refine lv_istore_n (lv' := [(3, .int z0), (0, .ref (a 0)), (1, .int y1), (2, .int y2)]) hx hb dX8_event_18 rfl hl (by decide) rfl (fun ls hl => ?_)
    refine lv_aload_n hx hb dX8_event_19 rfl (lv_at hl 1 rfl) ?_
    refine lv_iload_n hx hb dX8_event_20 rfl (lv_at hl 2 rfl) ?_
    refine lv_iconst (v := 0) hx hb dX8_event_21 (by decide) ?_
    refine lv_iload_n hx hb dX8_event_22 rfl (lv_at hl 0 rfl) ?_
    refine lv_iconst (v := 1) hx hb dX8_event_23 (by decide) ?_
    refine lv_isub hx hb dX8_event_24 ?_
    refine cl_i (ws' := fun u2 => (wX8 cI cZ a T)) (va_runS (As := [.int y1, .int 0, .int (z0 - 1)]) (rest := [.ref (a 0)]) ⟨hx, hb, hml, hown, hts⟩ (c_X8_within l D cI cZ _ () y1 0 (z0 - 1) _ h ) (va_cwS 3 hts (gS q_1161 q_1162 q_75 q_1163) rfl rfl rfl (by decide +kernel) ⟨Nat.le_of_ble_eq_true rfl, Nat.le_of_ble_eq_true rfl⟩) (preS_of hK hP hD [] rfl rfl (by decide)) rfl rfl hl.1 rfl (lv_room (Nat.le_of_ble_eq_true rfl)) dX8_event_25 ⟨Nat.zero_le _, Nat.zero_le _⟩) hP hD hS hA [] [.inr 0, .inr 1, .inr 2, .inr 3, .inr 4, .inr 5, .inr 6, .inr 7, .inr 8, .inr 9, .inr 10, .inr 11, .inr 12, .inr 13, .inr 14, .inr 15, .inr 16, .inr 17] rfl (by decide) (fun _ => rfl) (fun _ => rfl) (fun r3 u2 H locs h hP hD hS => ?_)
    refine lv_if_eq (tgt := 44) hx hb dX8_event_28 (by decide) (fun c4 => ?_) (fun c4 => ?_)
    · have h := h.1 c4
      exact L44 y1 y2 T _ _ _ hP hD hS (lv_sub hl [1, 2, 3] rfl) h
    · have h := h.2 c4
      refine lv_iload_n hx hb dX8_event_31 rfl (lv_at hl 3 rfl) ?_
      refine lv_iconst (v := 0) hx hb dX8_event_32 (by decide) ?_
      refine lv_iconst (v := 3) hx hb dX8_event_33 (by decide) ?_
      refine cl_i (ws' := fun u5 => (wX8 cI cZ a T)) (va_runS (As := [.int y2, .int 0, .int 3]) (rest := [.ref (a 0)]) ⟨hx, hb, hml, hown, hts⟩ (c_X8_within l D cI cZ _ () y2 0 3 _ h ) (va_cwS 3 hts (gS q_1161 q_1162 q_75 q_1163) rfl rfl rfl (by decide +kernel) ⟨Nat.le_of_ble_eq_true rfl, Nat.le_of_ble_eq_true rfl⟩) (preS_of hK hP hD [] rfl rfl (by decide)) rfl rfl hl.1 rfl (lv_room (Nat.le_of_ble_eq_true rfl)) dX8_event_34 ⟨Nat.zero_le _, Nat.zero_le _⟩) hP hD hS hA [] [.inr 0, .inr 1, .inr 2, .inr 3, .inr 4, .inr 5, .inr 6, .inr 7, .inr 8, .inr 9, .inr 10, .inr 11, .inr 12, .inr 13, .inr 14, .inr 15, .inr 16, .inr 17] rfl (by decide) (fun _ => rfl) (fun _ => rfl) (fun r6 u5 H locs h hP hD hS => ?_)
      refine lv_if_eq (tgt := 44) hx hb dX8_event_37 (by decide) (fun c7 => ?_) (fun c7 => ?_)
      · have h := h.1 c7
        exact L44 y1 y2 T _ _ _ hP hD hS (lv_sub hl [1, 2, 3] rfl) h
      · have h := h.2 c7
        refine lv_iconst (v := 0) hx hb dX8_event_40 (by decide) ?_
        refine lv_goto (tgt := 45) hx hb dX8_event_41 (by decide) ?_
        obtain ⟨T8, eT8⟩ : ∃ z : Ob, z = (si T 17 0) := ⟨_, rfl⟩
        refine pu_f (ci := 7) (v := .int 0) (ty := .int) (C := RX8) (T := TX8) (N := 25) hx hb hts inX8 tyX8 tyX8_ok nmX8 hown hK hP hD hS 0 rfl rfl 17 (by decide) (hts _ q_1094) (fun _ h9 => h9) rfl rfl rfl rfl (Nat.le_of_ble_eq_true rfl) dX8_event_45 (wX8 cI cZ a T8) (by subst eT8; rfl) (fun H locs hP hD hS => ?_)
        have h := h T8 eT8
        refine lv_aload_n hx hb dX8_event_48 rfl (lv_at hl 1 rfl) ?_
        refine va_get (D := D) (ci := 7) (v := .int (T8.1 17)) (C := RX8) (T := TX8) (N := 25) hx hb hts inX8 hown hK hP 0 rfl rfl 17 (by decide) (hts _ q_1094) (fun _ h9 => h9) rfl dX8_event_49 ?_
        refine lv_iconst (v := 1) hx hb dX8_event_52 (by decide) ?_
        refine lv_icmp_ne (tgt := 58) hx hb dX8_event_53 (by decide) (fun c9 => ?_) (fun c9 => ?_)
        · have h := h.1 c9
          refine lv_aload_n hx hb dX8_event_58 rfl (lv_at hl 1 rfl) ?_
          refine va_get (D := D) (ci := 7) (v := .int (T8.1 11)) (C := RX8) (T := TX8) (N := 25) hx hb hts inX8 hown hK hP 0 rfl rfl 11 (by decide) (hts _ q_1088) (fun _ h9 => h9) rfl dX8_event_59 ?_
          refine lv_iconst (v := 1) hx hb dX8_event_62 (by decide) ?_
          refine lv_isub hx hb dX8_event_63 ?_
          refine lv_iload_n hx hb dX8_event_64 rfl (lv_at hl 2 rfl) ?_
          refine lv_isub hx hb dX8_event_65 ?_
          refine lv_bipush (v := 24) hx hb dX8_event_66 (by decide) ?_
          refine lv_irem hx hb dX8_event_68 (by decide) ?_
          refine lv_topi (fun x10 ex10 => ?_)
          have h := h x10 ex10
          refine lv_istore (lv' := [(4, .int x10), (3, .int z0), (0, .ref (a 0)), (1, .int y1), (2, .int y2)]) hx hb dX8_event_69 hl (by decide) rfl (fun ls hl => ?_)
          refine lv_iload_n hx hb dX8_event_71 rfl (lv_at hl 4 rfl) ?_
          refine lv_if_ne (tgt := 85) hx hb dX8_event_72 (by decide) (fun c11 => ?_) (fun c11 => ?_)
          · have h := h.1 c11
            refine lv_iload_n hx hb dX8_event_85 rfl (lv_at hl 4 rfl) ?_
            refine lv_iconst (v := 1) hx hb dX8_event_86 (by decide) ?_
            refine lv_icmp_ne (tgt := 100) hx hb dX8_event_87 (by decide) (fun c12 => ?_) (fun c12 => ?_)
            · have h := h.1 c12
              refine lv_iload_n hx hb dX8_event_100 rfl (lv_at hl 4 rfl) ?_
              refine lv_iconst (v := 2) hx hb dX8_event_101 (by decide) ?_
              refine lv_icmp_ne (tgt := 115) hx hb dX8_event_102 (by decide) (fun c13 => ?_) (fun c13 => ?_)
              · have h := h.1 c13
                refine lv_aload_n hx hb dX8_event_115 rfl (lv_at hl 2 rfl) ?_
                refine va_get (D := D) (ci := 7) (v := .ref (a 10)) (C := RX8) (T := TX8) (N := 25) hx hb hts inX8 hown hK hP 0 rfl rfl 10 (by decide) (hts _ q_1087) (fun _ h9 => h9) rfl dX8_event_116 ?_
                refine lv_iload hx hb dX8_event_119 (lv_at hl 0 rfl) ?_
                refine ar_il (f := (T8.2 10)) (n := 24) (j := (Int32.toNatClampNeg x10)) hx hb hK hP 10 rfl rfl h.1 dX8_event_121 ?_
                have h := h.2
                exact W.iret (v := ((T8.2 10) (Int32.toNatClampNeg x10))) hx hb hr (fun t ht hW => ⟨⟨((T8.2 10) (Int32.toNatClampNeg x10)), T8, rfl, h, by rw [ht]; exact hP, va_K.moved hW.alike hK, hD⟩, hS.F ht⟩) hS.2.2 dX8_event_122
              · have h := h.2 c13
                refine lv_aload_n hx hb dX8_event_105 rfl (lv_at hl 2 rfl) ?_
                refine va_get (D := D) (ci := 7) (v := .ref (a 9)) (C := RX8) (T := TX8) (N := 25) hx hb hts inX8 hown hK hP 0 rfl rfl 9 (by decide) (hts _ q_1086) (fun _ h9 => h9) rfl dX8_event_106 ?_
                refine lv_iload hx hb dX8_event_109 (lv_at hl 0 rfl) ?_
                refine ar_il (f := (T8.2 9)) (n := 24) (j := (Int32.toNatClampNeg x10)) hx hb hK hP 9 rfl rfl h.1 dX8_event_111 ?_
                have h := h.2
                refine lv_goto (tgt := 122) hx hb dX8_event_112 (by decide) ?_
                exact W.iret (v := ((T8.2 9) (Int32.toNatClampNeg x10))) hx hb hr (fun t ht hW => ⟨⟨((T8.2 9) (Int32.toNatClampNeg x10)), T8, rfl, h, by rw [ht]; exact hP, va_K.moved hW.alike hK, hD⟩, hS.F ht⟩) hS.2.2 dX8_event_122
            · have h := h.2 c12
              refine lv_aload_n hx hb dX8_event_90 rfl (lv_at hl 2 rfl) ?_
              refine va_get (D := D) (ci := 7) (v := .ref (a 8)) (C := RX8) (T := TX8) (N := 25) hx hb hts inX8 hown hK hP 0 rfl rfl 8 (by decide) (hts _ q_1085) (fun _ h9 => h9) rfl dX8_event_91 ?_
              refine lv_iload hx hb dX8_event_94 (lv_at hl 0 rfl) ?_
              refine ar_il (f := (T8.2 8)) (n := 24) (j := (Int32.toNatClampNeg x10)) hx hb hK hP 8 rfl rfl h.1 dX8_event_96 ?_
              have h := h.2
              refine lv_goto (tgt := 122) hx hb dX8_event_97 (by decide) ?_
              exact W.iret (v := ((T8.2 8) (Int32.toNatClampNeg x10))) hx hb hr (fun t ht hW => ⟨⟨((T8.2 8) (Int32.toNatClampNeg x10)), T8, rfl, h, by rw [ht]; exact hP, va_K.moved hW.alike hK, hD⟩, hS.F ht⟩) hS.2.2 dX8_event_122
          · have h := h.2 c11
            refine lv_aload_n hx hb dX8_event_75 rfl (lv_at hl 2 rfl) ?_
            refine va_get (D := D) (ci := 7) (v := .ref (a 7)) (C := RX8) (T := TX8) (N := 25) hx hb hts inX8 hown hK hP 0 rfl rfl 7 (by decide) (hts _ q_1084) (fun _ h9 => h9) rfl dX8_event_76 ?_
            refine lv_iload hx hb dX8_event_79 (lv_at hl 0 rfl) ?_
            refine ar_il (f := (T8.2 7)) (n := 24) (j := (Int32.toNatClampNeg x10)) hx hb hK hP 7 rfl rfl h.1 dX8_event_81 ?_
            have h := h.2
            refine lv_goto (tgt := 122) hx hb dX8_event_82 (by decide) ?_
            exact W.iret (v := ((T8.2 7) (Int32.toNatClampNeg x10))) hx hb hr (fun t ht hW => ⟨⟨((T8.2 7) (Int32.toNatClampNeg x10)), T8, rfl, h, by rw [ht]; exact hP, va_K.moved hW.alike hK, hD⟩, hS.F ht⟩) hS.2.2 dX8_event_122
        · have h := h.2 c9
          refine lv_iconst (v := 0) hx hb dX8_event_56 (by decide) ?_
          exact W.iret (v := 0) hx hb hr (fun t ht hW => ⟨⟨0, T8, rfl, h, by rw [ht]; exact hP, va_K.moved hW.alike hK, hD⟩, hS.F ht⟩) hS.2.2 dX8_event_57
  have hl := lv_entry ([.ref (a 0), .int p0, .int p1]) (n := 5) (Nat.le_of_ble_eq_true rfl)
  rw [lg_entry_eq]
  generalize (lg_sl ([.ref (a 0), .int p0, .int p1]) ++ List.replicate (5 - (lg_sl ([.ref (a 0), .int p0, .int p1])).length) Slot.unset).toArray = ls at hl ⊢
  have hl : lv_has ls 5 [(0, .ref (a 0)), (1, .int p0), (2, .int p1)] := hl
  unfold wp_X8_event at h
  refine lv_aload_n hx hb dX8_event_0 rfl (lv_at hl 0 rfl) ?_
  refine va_get (D := D) (ci := 7) (v := .int (S.1 11)) (C := RX8) (T := TX8) (N := 25) hx hb hts inX8 hown hK hP 0 rfl rfl 11 (by decide) (hts _ q_1088) (fun _ h9 => h9) rfl dX8_event_1 ?_
  refine lv_bipush (v := 24) hx hb dX8_event_4 (by decide) ?_
  refine lv_icmp_ge (tgt := 16) hx hb dX8_event_6 (by decide) (fun c1 => ?_) (fun c1 => ?_)
  · have h := h.1 c1
    refine lv_bipush (v := 24) hx hb dX8_event_16 (by decide) ?_
    exact L18 p0 p1 24 S _ _ _ hP hD hS (lv_sub hl [0, 1, 2] rfl) h
  · have h := h.2 c1
    refine lv_aload_n hx hb dX8_event_9 rfl (lv_at hl 0 rfl) ?_
    refine va_get (D := D) (ci := 7) (v := .int (S.1 11)) (C := RX8) (T := TX8) (N := 25) hx hb hts inX8 hown hK hP 0 rfl rfl 11 (by decide) (hts _ q_1088) (fun _ h9 => h9) rfl dX8_event_10 ?_
    refine lv_goto (tgt := 18) hx hb dX8_event_13 (by decide) ?_
    exact L18 p0 p1 (S.1 11) S _ _ _ hP hD hS (lv_sub hl [0, 1, 2] rfl) h
/-! X8_waited -/
abbrev rmX8_waited : Room := { frames := 1, cells := 0, slots := 0, locals := 22 }
set_option maxHeartbeats 4000000 in
set_option maxRecDepth 100000 in
theorem c_X8_waited (l : Launch) (D : va_G) (cI cZ : ClassId) (a : Nat → Nat) (sz : Nat) (S : Ob) (p0 : Int32) (Q : Int32 → Ob → Prop) (h : wp_X8_waited S p0 Q) : Met l yX8_waited (wsm yX8_waited cX8_waited 2 (some .int)) rmX8_waited (va_Pc [.ref (a 0), .int p0] (preW D cI cZ sz (wX8 cI cZ a S))) (va_Qi Q (fun u => atW D cI cZ (va_A (wX8 cI cZ a S) sz) (wX8 cI cZ a u)) (va_A (wX8 cI cZ a S) sz)) 0 0 (va_A (wX8 cI cZ a S) sz) := by
  refine Met.ofW (cc := cX8_waited) (maxL := 2) (ret := (some .int)) (by decide) rfl ?_
  intro p e s m args below meth c s₁ B hml hv
  obtain ⟨rfl, hsz, hP, hK, hD0⟩ := hv
  have hx := B.exec
  have hb := B.bytes
  have hr := B.returns
  have hts0 := atoms_spec (ws := wsm yX8_waited cX8_waited 2 (some .int)) B.pre
  have hts : ∀ w ∈ lw_all, w.before _ s = true := fun w h => hts0 w (List.mem_cons_of_mem _ h)
  have hown : s.vm.findClass RX8 = some m.cls := findClass_of_methodNamed B.named
  have hlocks := B.notSynchronized
  subst hsz
  have hD := hD0.self (sz := s.heap.size)
  generalize hAe : va_A (wX8 cI cZ a S) s.heap.size = A at hD ⊢
  have hA : ∀ q : Nat, s.heap.size ≤ q → A q := fun q h => by rw [← hAe]; exact Or.inr h
  have hS : va_S A s.heap s.heap [] := va_S.rf
  have hml2 := hml
  have hl := lv_entry ([.ref (a 0), .int p0]) (n := 2) (Nat.le_of_ble_eq_true rfl)
  rw [lg_entry_eq]
  generalize (lg_sl ([.ref (a 0), .int p0]) ++ List.replicate (2 - (lg_sl ([.ref (a 0), .int p0])).length) Slot.unset).toArray = ls at hl ⊢
  have hl : lv_has ls 2 [(0, .ref (a 0)), (1, .int p0)] := hl
  unfold wp_X8_waited at h
  refine lv_aload_n hx hb dX8_waited_0 rfl (lv_at hl 0 rfl) ?_
  refine lv_iconst (v := 0) hx hb dX8_waited_1 (by decide) ?_
  obtain ⟨T1, eT1⟩ : ∃ z : Ob, z = (si S 17 0) := ⟨_, rfl⟩
  refine pu_f (ci := 7) (v := .int 0) (ty := .int) (C := RX8) (T := TX8) (N := 25) hx hb hts inX8 tyX8 tyX8_ok nmX8 hown hK hP hD hS 0 rfl rfl 17 (by decide) (hts _ q_1094) (fun _ h9 => h9) rfl rfl rfl rfl (Nat.le_of_ble_eq_true rfl) dX8_waited_2 (wX8 cI cZ a T1) (by subst eT1; rfl) (fun H locs hP hD hS => ?_)
  have h := h T1 eT1
  refine lv_iload_n hx hb dX8_waited_5 rfl (lv_at hl 1 rfl) ?_
  refine lv_iconst (v := 0) hx hb dX8_waited_6 (by decide) ?_
  refine lv_bipush (v := 20) hx hb dX8_waited_7 (by decide) ?_
  refine cl_i (ws' := fun u2 => (wX8 cI cZ a T1)) (va_runS (As := [.int p0, .int 0, .int 20]) (rest := []) ⟨hx, hb, hml, hown, hts⟩ (c_X8_within l D cI cZ _ () p0 0 20 _ h ) (va_cwS 3 hts (gS q_1161 q_1162 q_75 q_1163) rfl rfl rfl (by decide +kernel) ⟨Nat.le_of_ble_eq_true rfl, Nat.le_of_ble_eq_true rfl⟩) (preS_of hK hP hD [] rfl rfl (by decide)) rfl rfl hl.1 rfl (lv_room (Nat.le_of_ble_eq_true rfl)) dX8_waited_9 ⟨Nat.zero_le _, Nat.zero_le _⟩) hP hD hS hA [] [.inr 0, .inr 1, .inr 2, .inr 3, .inr 4, .inr 5, .inr 6, .inr 7, .inr 8, .inr 9, .inr 10, .inr 11, .inr 12, .inr 13, .inr 14, .inr 15, .inr 16, .inr 17] rfl (by decide) (fun _ => rfl) (fun _ => rfl) (fun r3 u2 H locs h hP hD hS => ?_)
  refine lv_if_eq (tgt := 24) hx hb dX8_waited_12 (by decide) (fun c4 => ?_) (fun c4 => ?_)
  · have h := h.1 c4
    refine lv_iconst (v := -1) hx hb dX8_waited_24 (by decide) ?_
    exact W.iret (v := (-1)) hx hb hr (fun t ht hW => ⟨⟨(-1), T1, rfl, h, by rw [ht]; exact hP, va_K.moved hW.alike hK, hD⟩, hS.F ht⟩) hS.2.2 dX8_waited_25
  · have h := h.2 c4
    refine lv_aload_n hx hb dX8_waited_15 rfl (lv_at hl 0 rfl) ?_
    refine va_get (D := D) (ci := 7) (v := .ref (a 12)) (C := RX8) (T := TX8) (N := 25) hx hb hts inX8 hown hK hP 0 rfl rfl 13 (by decide) (hts _ q_1090) (fun _ h9 => h9) rfl dX8_waited_16 ?_
    refine lv_iload_n hx hb dX8_waited_19 rfl (lv_at hl 1 rfl) ?_
    refine ar_il (f := (T1.2 13)) (n := 21) (j := (Int32.toNatClampNeg p0)) hx hb hK hP 12 rfl rfl h.1 dX8_waited_20 ?_
    have h := h.2
    refine lv_goto (tgt := 25) hx hb dX8_waited_21 (by decide) ?_
    exact W.iret (v := ((T1.2 13) (Int32.toNatClampNeg p0))) hx hb hr (fun t ht hW => ⟨⟨((T1.2 13) (Int32.toNatClampNeg p0)), T1, rfl, h, by rw [ht]; exact hP, va_K.moved hW.alike hK, hD⟩, hS.F ht⟩) hS.2.2 dX8_waited_25
/-! X8_ahead -/
abbrev rmX8_ahead : Room := { frames := 2, cells := 0, slots := 0, locals := 47 }
set_option maxHeartbeats 4000000 in
set_option maxRecDepth 100000 in
theorem c_X8_ahead (l : Launch) (D : va_G) (cI cZ : ClassId) (a : Nat → Nat) (sz : Nat) (S : Ob) (p0 : Int32) (p1 : Int32) (Q : Int32 → Ob → Prop) (h : wp_X8_ahead S p0 p1 Q) : Met l yX8_ahead (wsm yX8_ahead cX8_ahead 3 (some .boolean)) rmX8_ahead (va_Pc [.ref (a 0), .int p0, .int p1] (preW D cI cZ sz (wX8 cI cZ a S))) (va_Qi Q (fun u => atW D cI cZ (va_A (wX8 cI cZ a S) sz) (wX8 cI cZ a u)) (va_A (wX8 cI cZ a S) sz)) 0 0 (va_A (wX8 cI cZ a S) sz) := by
  refine Met.ofW (cc := cX8_ahead) (maxL := 3) (ret := (some .boolean)) (by decide) rfl ?_
  intro p e s m args below meth c s₁ B hml hv
  obtain ⟨rfl, hsz, hP, hK, hD0⟩ := hv
  have hx := B.exec
  have hb := B.bytes
  have hr := B.returns
  have hts0 := atoms_spec (ws := wsm yX8_ahead cX8_ahead 3 (some .boolean)) B.pre
  have hts : ∀ w ∈ lw_all, w.before _ s = true := fun w h => hts0 w (List.mem_cons_of_mem _ h)
  have hown : s.vm.findClass RX8 = some m.cls := findClass_of_methodNamed B.named
  have hlocks := B.notSynchronized
  subst hsz
  have hD := hD0.self (sz := s.heap.size)
  generalize hAe : va_A (wX8 cI cZ a S) s.heap.size = A at hD ⊢
  have hA : ∀ q : Nat, s.heap.size ≤ q → A q := fun q h => by rw [← hAe]; exact Or.inr h
  have hS : va_S A s.heap s.heap [] := va_S.rf
  have hml2 := hml
  have hl := lv_entry ([.ref (a 0), .int p0, .int p1]) (n := 3) (Nat.le_of_ble_eq_true rfl)
  rw [lg_entry_eq]
  generalize (lg_sl ([.ref (a 0), .int p0, .int p1]) ++ List.replicate (3 - (lg_sl ([.ref (a 0), .int p0, .int p1])).length) Slot.unset).toArray = ls at hl ⊢
  have hl : lv_has ls 3 [(0, .ref (a 0)), (1, .int p0), (2, .int p1)] := hl
  unfold wp_X8_ahead at h
  refine lv_aload_n hx hb dX8_ahead_0 rfl (lv_at hl 0 rfl) ?_
  refine lv_iconst (v := 0) hx hb dX8_ahead_1 (by decide) ?_
  obtain ⟨T1, eT1⟩ : ∃ z : Ob, z = (si S 17 0) := ⟨_, rfl⟩
  refine pu_f (ci := 7) (v := .int 0) (ty := .int) (C := RX8) (T := TX8) (N := 25) hx hb hts inX8 tyX8 tyX8_ok nmX8 hown hK hP hD hS 0 rfl rfl 17 (by decide) (hts _ q_1094) (fun _ h9 => h9) rfl rfl rfl rfl (Nat.le_of_ble_eq_true rfl) dX8_ahead_2 (wX8 cI cZ a T1) (by subst eT1; rfl) (fun H locs hP hD hS => ?_)
  have h := h T1 eT1
  refine lv_iload_n hx hb dX8_ahead_5 rfl (lv_at hl 1 rfl) ?_
  refine lv_iconst (v := 0) hx hb dX8_ahead_6 (by decide) ?_
  refine lv_bipush (v := 20) hx hb dX8_ahead_7 (by decide) ?_
  refine cl_i (ws' := fun u2 => (wX8 cI cZ a T1)) (va_runS (As := [.int p0, .int 0, .int 20]) (rest := []) ⟨hx, hb, hml, hown, hts⟩ (c_X8_within l D cI cZ _ () p0 0 20 _ h ) (va_cwS 3 hts (gS q_1161 q_1162 q_75 q_1163) rfl rfl rfl (by decide +kernel) ⟨Nat.le_of_ble_eq_true rfl, Nat.le_of_ble_eq_true rfl⟩) (preS_of hK hP hD [] rfl rfl (by decide)) rfl rfl hl.1 rfl (lv_room (Nat.le_of_ble_eq_true rfl)) dX8_ahead_9 ⟨Nat.zero_le _, Nat.zero_le _⟩) hP hD hS hA [] [.inr 0, .inr 1, .inr 2, .inr 3, .inr 4, .inr 5, .inr 6, .inr 7, .inr 8, .inr 9, .inr 10, .inr 11, .inr 12, .inr 13, .inr 14, .inr 15, .inr 16, .inr 17] rfl (by decide) (fun _ => rfl) (fun _ => rfl) (fun r3 u2 H locs h hP hD hS => ?_)
  refine lv_if_eq (tgt := 47) hx hb dX8_ahead_12 (by decide) (fun c4 => ?_) (fun c4 => ?_)
  · have h := h.1 c4
    refine lv_iconst (v := 0) hx hb dX8_ahead_47 (by decide) ?_
    exact W.zret (ty := .boolean) (v := 0) hx hb hr (narB isB0) (fun t ht hW => ⟨⟨0, T1, rfl, h, by rw [ht]; exact hP, va_K.moved hW.alike hK, hD⟩, hS.F ht⟩) hS.2.2 dX8_ahead_48
  · have h := h.2 c4
    refine lv_iload_n hx hb dX8_ahead_15 rfl (lv_at hl 2 rfl) ?_
    refine lv_iconst (v := 0) hx hb dX8_ahead_16 (by decide) ?_
    refine lv_bipush (v := 20) hx hb dX8_ahead_17 (by decide) ?_
    refine cl_i (ws' := fun u5 => (wX8 cI cZ a T1)) (va_runS (As := [.int p1, .int 0, .int 20]) (rest := []) ⟨hx, hb, hml, hown, hts⟩ (c_X8_within l D cI cZ _ () p1 0 20 _ h ) (va_cwS 3 hts (gS q_1161 q_1162 q_75 q_1163) rfl rfl rfl (by decide +kernel) ⟨Nat.le_of_ble_eq_true rfl, Nat.le_of_ble_eq_true rfl⟩) (preS_of hK hP hD [] rfl rfl (by decide)) rfl rfl hl.1 rfl (lv_room (Nat.le_of_ble_eq_true rfl)) dX8_ahead_19 ⟨Nat.zero_le _, Nat.zero_le _⟩) hP hD hS hA [] [.inr 0, .inr 1, .inr 2, .inr 3, .inr 4, .inr 5, .inr 6, .inr 7, .inr 8, .inr 9, .inr 10, .inr 11, .inr 12, .inr 13, .inr 14, .inr 15, .inr 16, .inr 17] rfl (by decide) (fun _ => rfl) (fun _ => rfl) (fun r6 u5 H locs h hP hD hS => ?_)
    refine lv_if_eq (tgt := 47) hx hb dX8_ahead_22 (by decide) (fun c7 => ?_) (fun c7 => ?_)
    · have h := h.1 c7
      refine lv_iconst (v := 0) hx hb dX8_ahead_47 (by decide) ?_
      exact W.zret (ty := .boolean) (v := 0) hx hb hr (narB isB0) (fun t ht hW => ⟨⟨0, T1, rfl, h, by rw [ht]; exact hP, va_K.moved hW.alike hK, hD⟩, hS.F ht⟩) hS.2.2 dX8_ahead_48
    · have h := h.2 c7
      refine lv_iload_n hx hb dX8_ahead_25 rfl (lv_at hl 1 rfl) ?_
      refine lv_iload_n hx hb dX8_ahead_26 rfl (lv_at hl 2 rfl) ?_
      refine lv_icmp_eq (tgt := 47) hx hb dX8_ahead_27 (by decide) (fun c8 => ?_) (fun c8 => ?_)
      · have h := h.1 c8
        refine lv_iconst (v := 0) hx hb dX8_ahead_47 (by decide) ?_
        exact W.zret (ty := .boolean) (v := 0) hx hb hr (narB isB0) (fun t ht hW => ⟨⟨0, T1, rfl, h, by rw [ht]; exact hP, va_K.moved hW.alike hK, hD⟩, hS.F ht⟩) hS.2.2 dX8_ahead_48
      · have h := h.2 c8
        refine lv_aload_n hx hb dX8_ahead_30 rfl (lv_at hl 0 rfl) ?_
        refine lv_aload_n hx hb dX8_ahead_31 rfl (lv_at hl 0 rfl) ?_
        refine va_get (D := D) (ci := 7) (v := .ref (a 4)) (C := RX8) (T := TX8) (N := 25) hx hb hts inX8 hown hK hP 0 rfl rfl 4 (by decide) (hts _ q_1081) (fun _ h9 => h9) rfl dX8_ahead_32 ?_
        refine lv_iload_n hx hb dX8_ahead_35 rfl (lv_at hl 1 rfl) ?_
        refine lv_iload_n hx hb dX8_ahead_36 rfl (lv_at hl 2 rfl) ?_
        refine cl_i (ws' := fun u9 => (wX8 cI cZ a (mnow T1 u9.1 u9.2))) (va_runV (As := [.ref (a 4), .int p0, .int p1]) (rest := []) ⟨hx, hb, hml, hown, hts⟩ (c_X8_isLess l D cI cZ a (fun k => a (k + 4)) true _ (T1, (T1.2 4)) p0 p1 _ h (fun _ => rfl)) (cwV 3 hts (gV q_1243 q_1245 q_37 q_75 q_1246) rfl rfl rfl (by decide +kernel) ⟨Nat.le_of_ble_eq_true rfl, Nat.le_of_ble_eq_true rfl⟩) (preV_of (ci := 7) (q := (RX8, TX8, 25)) hK hP hD [0, 1, 2, 3, 6, 7, 8, 9, 10, 11, 12, 4] rfl rfl (by decide) 0 rfl rfl) rfl rfl hl.1 rfl (lv_room (Nat.le_of_ble_eq_true rfl)) dX8_ahead_37 ⟨Nat.zero_le _, Nat.zero_le _⟩) hP hD hS hA [0, 1, 2, 3, 6, 7, 8, 9, 10, 11, 12, 4] [.inl 0, .inl 1, .inl 2, .inl 3, .inl 11, .inr 5, .inl 4, .inl 5, .inl 6, .inl 7, .inl 8, .inl 9, .inl 10, .inr 13, .inr 14, .inr 15, .inr 16, .inr 17] rfl (by decide) (fun _ => rfl) (fun _ => rfl) (fun r10 u9 H locs h hP hD hS => ?_)
        refine lv_if_eq (tgt := 47) hx hb dX8_ahead_40 (by decide) (fun c11 => ?_) (fun c11 => ?_)
        · have h := h.1 c11
          refine lv_iconst (v := 0) hx hb dX8_ahead_47 (by decide) ?_
          exact W.zret (ty := .boolean) (v := 0) hx hb hr (narB isB0) (fun t ht hW => ⟨⟨0, (mnow T1 u9.1 u9.2), rfl, h, by rw [ht]; exact hP, va_K.moved hW.alike hK, hD⟩, hS.F ht⟩) hS.2.2 dX8_ahead_48
        · have h := h.2 c11
          refine lv_iconst (v := 1) hx hb dX8_ahead_43 (by decide) ?_
          refine lv_goto (tgt := 48) hx hb dX8_ahead_44 (by decide) ?_
          exact W.zret (ty := .boolean) (v := 1) hx hb hr (narB isB1) (fun t ht hW => ⟨⟨1, (mnow T1 u9.1 u9.2), rfl, h, by rw [ht]; exact hP, va_K.moved hW.alike hK, hD⟩, hS.F ht⟩) hS.2.2 dX8_ahead_48
/-! X8_splits -/
abbrev rmX8_splits : Room := { frames := 2, cells := 0, slots := 0, locals := 47 }
set_option maxHeartbeats 4000000 in
set_option maxRecDepth 100000 in
theorem c_X8_splits (l : Launch) (D : va_G) (cI cZ : ClassId) (a : Nat → Nat) (sz : Nat) (S : Ob) (p0 : Int32) (Q : Int32 → Ob → Prop) (h : wp_X8_splits S p0 Q) : Met l yX8_splits (wsm yX8_splits cX8_splits 4 (some .int)) rmX8_splits (va_Pc [.ref (a 0), .int p0] (preW D cI cZ sz (wX8 cI cZ a S))) (va_Qi Q (fun u => atW D cI cZ (va_A (wX8 cI cZ a S) sz) (wX8 cI cZ a u)) (va_A (wX8 cI cZ a S) sz)) 0 0 (va_A (wX8 cI cZ a S) sz) := by
  refine Met.ofW (cc := cX8_splits) (maxL := 4) (ret := (some .int)) (by decide) rfl ?_
  intro p e s m args below meth c s₁ B hml hv
  obtain ⟨rfl, hsz, hP, hK, hD0⟩ := hv
  have hx := B.exec
  have hb := B.bytes
  have hr := B.returns
  have hts0 := atoms_spec (ws := wsm yX8_splits cX8_splits 4 (some .int)) B.pre
  have hts : ∀ w ∈ lw_all, w.before _ s = true := fun w h => hts0 w (List.mem_cons_of_mem _ h)
  have hown : s.vm.findClass RX8 = some m.cls := findClass_of_methodNamed B.named
  have hlocks := B.notSynchronized
  subst hsz
  have hD := hD0.self (sz := s.heap.size)
  generalize hAe : va_A (wX8 cI cZ a S) s.heap.size = A at hD ⊢
  have hA : ∀ q : Nat, s.heap.size ≤ q → A q := fun q h => by rw [← hAe]; exact Or.inr h
  have hS : va_S A s.heap s.heap [] := va_S.rf
  have hml2 := hml
  have L22 : ∀ (n : Nat), ∀ (y1 : Int32) (y2 : Int32) (y3 : Int32) (T : Ob) (H : Heap) (locs : List Loc) (ls : Array Slot), va_P D vwCl (wX8 cI cZ a T) H → va_D A (wX8 cI cZ a T) → va_S A s.heap H locs → lv_has ls 4 [(0, .ref (a 0)), (1, .int y1), (2, .int y2), (3, .int y3)] → wp_X8_splits_L22 Q n y1 y2 y3 T → W p l e rmX8_splits s m ([.ref (a 0), .int p0] : List Value).toArray below meth c H locs 0 0 (MQ below (va_Qi Q (fun u => atW D cI cZ A (wX8 cI cZ a u)) A) ([.ref (a 0), .int p0] : List Value).toArray s 0 0 A) (F0 m 22 ls []) := by
    intro n
    induction n with
    | zero =>
      intro y1 y2 y3 T H locs ls hP hD hS hl h
      exact False.elim h
    | succ n ih =>
      intro y1 y2 y3 T H locs ls hP hD hS hl h
      unfold wp_X8_splits_L22 at h
      refine lv_iload_n hx hb dX8_splits_22 rfl (lv_at hl 3 rfl) ?_
      refine lv_if_lt (tgt := 78) hx hb dX8_splits_23 (by decide) (fun c5 => ?_) (fun c5 => ?_)
      · have h := h.1 c5
        refine lv_iload_n hx hb dX8_splits_78 rfl (lv_at hl 2 rfl) ?_
        exact W.iret (v := y2) hx hb hr (fun t ht hW => ⟨⟨y2, T, rfl, h, by rw [ht]; exact hP, va_K.moved hW.alike hK, hD⟩, hS.F ht⟩) hS.2.2 dX8_splits_79
      · have h := h.2 c5
        refine lv_iconst (v := 2) hx hb dX8_splits_26 (by decide) ?_
        refine lv_iload_n hx hb dX8_splits_27 rfl (lv_at hl 2 rfl) ?_
        refine lv_imul hx hb dX8_splits_28 ?_
        refine lv_aload_n hx hb dX8_splits_29 rfl (lv_at hl 0 rfl) ?_
        refine va_get (D := D) (ci := 7) (v := .ref (a 4)) (C := RX8) (T := TX8) (N := 25) hx hb hts inX8 hown hK hP 0 rfl rfl 4 (by decide) (hts _ q_1081) (fun _ h9 => h9) rfl dX8_splits_30 ?_
        refine lv_iload_n hx hb dX8_splits_33 rfl (lv_at hl 1 rfl) ?_
        refine lv_iload_n hx hb dX8_splits_34 rfl (lv_at hl 3 rfl) ?_
        refine cl_i (ws' := fun u6 => (wX8 cI cZ a (sa T 4 u6))) (va_runS (As := [.ref (a 4), .int y1, .int y3]) (rest := [.int (2 * y2)]) ⟨hx, hb, hml, hown, hts⟩ (c_X8_groupOf l D cI cZ (fun k => a (k + 4)) _ (T.2 4) y1 y3 _ h ) (va_cwS 3 hts (gS q_1240 q_1241 q_75 q_1242) rfl rfl rfl (by decide +kernel) ⟨Nat.le_of_ble_eq_true rfl, Nat.le_of_ble_eq_true rfl⟩) (preS_of hK hP hD [4] rfl rfl (by decide)) rfl rfl hl.1 rfl (lv_room (Nat.le_of_ble_eq_true rfl)) dX8_splits_35 ⟨Nat.zero_le _, Nat.zero_le _⟩) hP hD hS hA [4] [.inr 0, .inr 1, .inr 2, .inr 3, .inl 0, .inr 5, .inr 6, .inr 7, .inr 8, .inr 9, .inr 10, .inr 11, .inr 12, .inr 13, .inr 14, .inr 15, .inr 16, .inr 17] rfl (by decide) (fun _ => rfl) (fun _ => rfl) (fun r7 u6 H locs h hP hD hS => ?_)
        refine lv_aload_n hx hb dX8_splits_38 rfl (lv_at hl 0 rfl) ?_
        refine va_get (D := D) (ci := 7) (v := .ref (a 4)) (C := RX8) (T := TX8) (N := 25) hx hb hts inX8 hown hK hP 0 rfl rfl 4 (by decide) (hts _ q_1081) (fun _ h9 => h9) rfl dX8_splits_39 ?_
        refine lv_iload_n hx hb dX8_splits_42 rfl (lv_at hl 3 rfl) ?_
        refine lv_aload_n hx hb dX8_splits_43 rfl (lv_at hl 0 rfl) ?_
        refine va_get (D := D) (ci := 7) (v := .ref (a 4)) (C := RX8) (T := TX8) (N := 25) hx hb hts inX8 hown hK hP 0 rfl rfl 4 (by decide) (hts _ q_1081) (fun _ h9 => h9) rfl dX8_splits_44 ?_
        refine lv_bipush (v := 16) hx hb dX8_splits_47 (by decide) ?_
        refine ar_il (f := u6) (n := 342) (j := 16) hx hb hK hP 4 rfl (by decide) (okLit (by decide)) dX8_splits_49 ?_
        refine lv_iconst (v := 1) hx hb dX8_splits_50 (by decide) ?_
        refine lv_icmp_ne (tgt := 58) hx hb dX8_splits_51 (by decide) (fun c8 => ?_) (fun c8 => ?_)
        · have h := h.1 c8
          refine lv_iconst (v := 0) hx hb dX8_splits_58 (by decide) ?_
          refine cl_i (ws' := fun u9 => (wX8 cI cZ a (sa (sa T 4 u6) 4 u9))) (va_runS (As := [.ref (a 4), .int y3, .int 0]) (rest := [.int r7, .int (2 * y2)]) ⟨hx, hb, hml, hown, hts⟩ (c_X8_limitOf l D cI cZ (fun k => a (k + 4)) _ u6 y3 0 _ h ) (va_cwS 3 hts (gS q_1237 q_1238 q_75 q_1239) rfl rfl rfl (by decide +kernel) ⟨Nat.le_of_ble_eq_true rfl, Nat.le_of_ble_eq_true rfl⟩) (preS_of hK hP hD [4] rfl rfl (by decide)) rfl rfl hl.1 rfl (lv_room (Nat.le_of_ble_eq_true rfl)) dX8_splits_59 ⟨Nat.zero_le _, Nat.zero_le _⟩) hP hD hS hA [4] [.inr 0, .inr 1, .inr 2, .inr 3, .inl 0, .inr 5, .inr 6, .inr 7, .inr 8, .inr 9, .inr 10, .inr 11, .inr 12, .inr 13, .inr 14, .inr 15, .inr 16, .inr 17] rfl (by decide) (fun _ => rfl) (fun _ => rfl) (fun r10 u9 H locs h hP hD hS => ?_)
          refine lv_icmp_ge (tgt := 69) hx hb dX8_splits_62 (by decide) (fun c11 => ?_) (fun c11 => ?_)
          · have h := h.1 c11
            refine lv_iconst (v := 0) hx hb dX8_splits_69 (by decide) ?_
            refine lv_iadd hx hb dX8_splits_70 ?_
            refine lv_topi (fun x12 ex12 => ?_)
            have h := h x12 ex12
            refine lv_istore_n (lv' := [(2, .int x12), (0, .ref (a 0)), (1, .int y1), (3, .int y3)]) hx hb dX8_splits_71 rfl hl (by decide) rfl (fun ls hl => ?_)
            obtain ⟨x13, ex13⟩ : ∃ y : Int32, y = (y3 + (-1)) := ⟨_, rfl⟩
            have h := h x13 ex13
            refine lv_iinc (v := x13) (lv' := [(3, .int x13), (2, .int x12), (0, .ref (a 0)), (1, .int y1)]) hx hb dX8_splits_72 hl (k := 3) rfl (by rw [ex13]; rfl) (by decide) rfl (fun ls hl => ?_)
            refine lv_goto (tgt := 22) hx hb dX8_splits_75 (by decide) ?_
            exact ih y1 x12 x13 (sa (sa T 4 u6) 4 u9) _ _ _ hP hD hS (lv_sub hl [2, 3, 1, 0] rfl) h
          · have h := h.2 c11
            refine lv_iconst (v := 1) hx hb dX8_splits_65 (by decide) ?_
            refine lv_goto (tgt := 70) hx hb dX8_splits_66 (by decide) ?_
            refine lv_iadd hx hb dX8_splits_70 ?_
            refine lv_topi (fun x14 ex14 => ?_)
            have h := h x14 ex14
            refine lv_istore_n (lv' := [(2, .int x14), (0, .ref (a 0)), (1, .int y1), (3, .int y3)]) hx hb dX8_splits_71 rfl hl (by decide) rfl (fun ls hl => ?_)
            obtain ⟨x15, ex15⟩ : ∃ y : Int32, y = (y3 + (-1)) := ⟨_, rfl⟩
            have h := h x15 ex15
            refine lv_iinc (v := x15) (lv' := [(3, .int x15), (2, .int x14), (0, .ref (a 0)), (1, .int y1)]) hx hb dX8_splits_72 hl (k := 3) rfl (by rw [ex15]; rfl) (by decide) rfl (fun ls hl => ?_)
            refine lv_goto (tgt := 22) hx hb dX8_splits_75 (by decide) ?_
            exact ih y1 x14 x15 (sa (sa T 4 u6) 4 u9) _ _ _ hP hD hS (lv_sub hl [2, 3, 1, 0] rfl) h
        · have h := h.2 c8
          refine lv_iconst (v := 1) hx hb dX8_splits_54 (by decide) ?_
          refine lv_goto (tgt := 59) hx hb dX8_splits_55 (by decide) ?_
          refine cl_i (ws' := fun u16 => (wX8 cI cZ a (sa (sa T 4 u6) 4 u16))) (va_runS (As := [.ref (a 4), .int y3, .int 1]) (rest := [.int r7, .int (2 * y2)]) ⟨hx, hb, hml, hown, hts⟩ (c_X8_limitOf l D cI cZ (fun k => a (k + 4)) _ u6 y3 1 _ h ) (va_cwS 3 hts (gS q_1237 q_1238 q_75 q_1239) rfl rfl rfl (by decide +kernel) ⟨Nat.le_of_ble_eq_true rfl, Nat.le_of_ble_eq_true rfl⟩) (preS_of hK hP hD [4] rfl rfl (by decide)) rfl rfl hl.1 rfl (lv_room (Nat.le_of_ble_eq_true rfl)) dX8_splits_59 ⟨Nat.zero_le _, Nat.zero_le _⟩) hP hD hS hA [4] [.inr 0, .inr 1, .inr 2, .inr 3, .inl 0, .inr 5, .inr 6, .inr 7, .inr 8, .inr 9, .inr 10, .inr 11, .inr 12, .inr 13, .inr 14, .inr 15, .inr 16, .inr 17] rfl (by decide) (fun _ => rfl) (fun _ => rfl) (fun r17 u16 H locs h hP hD hS => ?_)
          refine lv_icmp_ge (tgt := 69) hx hb dX8_splits_62 (by decide) (fun c18 => ?_) (fun c18 => ?_)
          · have h := h.1 c18
            refine lv_iconst (v := 0) hx hb dX8_splits_69 (by decide) ?_
            refine lv_iadd hx hb dX8_splits_70 ?_
            refine lv_topi (fun x19 ex19 => ?_)
            have h := h x19 ex19
            refine lv_istore_n (lv' := [(2, .int x19), (0, .ref (a 0)), (1, .int y1), (3, .int y3)]) hx hb dX8_splits_71 rfl hl (by decide) rfl (fun ls hl => ?_)
            obtain ⟨x20, ex20⟩ : ∃ y : Int32, y = (y3 + (-1)) := ⟨_, rfl⟩
            have h := h x20 ex20
            refine lv_iinc (v := x20) (lv' := [(3, .int x20), (2, .int x19), (0, .ref (a 0)), (1, .int y1)]) hx hb dX8_splits_72 hl (k := 3) rfl (by rw [ex20]; rfl) (by decide) rfl (fun ls hl => ?_)
            refine lv_goto (tgt := 22) hx hb dX8_splits_75 (by decide) ?_
            exact ih y1 x19 x20 (sa (sa T 4 u6) 4 u16) _ _ _ hP hD hS (lv_sub hl [2, 3, 1, 0] rfl) h
          · have h := h.2 c18
            refine lv_iconst (v := 1) hx hb dX8_splits_65 (by decide) ?_
            refine lv_goto (tgt := 70) hx hb dX8_splits_66 (by decide) ?_
            refine lv_iadd hx hb dX8_splits_70 ?_
            refine lv_topi (fun x21 ex21 => ?_)
            have h := h x21 ex21
            refine lv_istore_n (lv' := [(2, .int x21), (0, .ref (a 0)), (1, .int y1), (3, .int y3)]) hx hb dX8_splits_71 rfl hl (by decide) rfl (fun ls hl => ?_)
            obtain ⟨x22, ex22⟩ : ∃ y : Int32, y = (y3 + (-1)) := ⟨_, rfl⟩
            have h := h x22 ex22
            refine lv_iinc (v := x22) (lv' := [(3, .int x22), (2, .int x21), (0, .ref (a 0)), (1, .int y1)]) hx hb dX8_splits_72 hl (k := 3) rfl (by rw [ex22]; rfl) (by decide) rfl (fun ls hl => ?_)
            refine lv_goto (tgt := 22) hx hb dX8_splits_75 (by decide) ?_
            exact ih y1 x21 x22 (sa (sa T 4 u6) 4 u16) _ _ _ hP hD hS (lv_sub hl [2, 3, 1, 0] rfl) h
  have hl := lv_entry ([.ref (a 0), .int p0]) (n := 4) (Nat.le_of_ble_eq_true rfl)
  rw [lg_entry_eq]
  generalize (lg_sl ([.ref (a 0), .int p0]) ++ List.replicate (4 - (lg_sl ([.ref (a 0), .int p0])).length) Slot.unset).toArray = ls at hl ⊢
  have hl : lv_has ls 4 [(0, .ref (a 0)), (1, .int p0)] := hl
  unfold wp_X8_splits at h
  refine lv_aload_n hx hb dX8_splits_0 rfl (lv_at hl 0 rfl) ?_
  refine lv_iconst (v := 0) hx hb dX8_splits_1 (by decide) ?_
  obtain ⟨T1, eT1⟩ : ∃ z : Ob, z = (si S 17 0) := ⟨_, rfl⟩
  refine pu_f (ci := 7) (v := .int 0) (ty := .int) (C := RX8) (T := TX8) (N := 25) hx hb hts inX8 tyX8 tyX8_ok nmX8 hown hK hP hD hS 0 rfl rfl 17 (by decide) (hts _ q_1094) (fun _ h9 => h9) rfl rfl rfl rfl (Nat.le_of_ble_eq_true rfl) dX8_splits_2 (wX8 cI cZ a T1) (by subst eT1; rfl) (fun H locs hP hD hS => ?_)
  have h := h T1 eT1
  refine lv_iload_n hx hb dX8_splits_5 rfl (lv_at hl 1 rfl) ?_
  refine lv_iconst (v := 0) hx hb dX8_splits_6 (by decide) ?_
  refine lv_bipush (v := 20) hx hb dX8_splits_7 (by decide) ?_
  refine cl_i (ws' := fun u2 => (wX8 cI cZ a T1)) (va_runS (As := [.int p0, .int 0, .int 20]) (rest := []) ⟨hx, hb, hml, hown, hts⟩ (c_X8_within l D cI cZ _ () p0 0 20 _ h ) (va_cwS 3 hts (gS q_1161 q_1162 q_75 q_1163) rfl rfl rfl (by decide +kernel) ⟨Nat.le_of_ble_eq_true rfl, Nat.le_of_ble_eq_true rfl⟩) (preS_of hK hP hD [] rfl rfl (by decide)) rfl rfl hl.1 rfl (lv_room (Nat.le_of_ble_eq_true rfl)) dX8_splits_9 ⟨Nat.zero_le _, Nat.zero_le _⟩) hP hD hS hA [] [.inr 0, .inr 1, .inr 2, .inr 3, .inr 4, .inr 5, .inr 6, .inr 7, .inr 8, .inr 9, .inr 10, .inr 11, .inr 12, .inr 13, .inr 14, .inr 15, .inr 16, .inr 17] rfl (by decide) (fun _ => rfl) (fun _ => rfl) (fun r3 u2 H locs h hP hD hS => ?_)
  refine lv_if_ne (tgt := 17) hx hb dX8_splits_12 (by decide) (fun c4 => ?_) (fun c4 => ?_)
  · have h := h.1 c4
    refine lv_iconst (v := 0) hx hb dX8_splits_17 (by decide) ?_
    refine lv_istore_n (lv' := [(2, .int 0), (0, .ref (a 0)), (1, .int p0)]) hx hb dX8_splits_18 rfl hl (by decide) rfl (fun ls hl => ?_)
    refine lv_bipush (v := 7) hx hb dX8_splits_19 (by decide) ?_
    refine lv_istore_n (lv' := [(3, .int 7), (2, .int 0), (0, .ref (a 0)), (1, .int p0)]) hx hb dX8_splits_21 rfl hl (by decide) rfl (fun ls hl => ?_)
    exact L22 2000 p0 0 7 T1 _ _ _ hP hD hS (lv_sub hl [2, 3, 1, 0] rfl) h
  · have h := h.2 c4
    refine lv_iconst (v := -1) hx hb dX8_splits_15 (by decide) ?_
    exact W.iret (v := (-1)) hx hb hr (fun t ht hW => ⟨⟨(-1), T1, rfl, h, by rw [ht]; exact hP, va_K.moved hW.alike hK, hD⟩, hS.F ht⟩) hS.2.2 dX8_splits_16
/-! X8_escalates -/
abbrev rmX8_escalates : Room := { frames := 4, cells := 0, slots := 0, locals := 91 }
set_option maxHeartbeats 4000000 in
set_option maxRecDepth 100000 in
theorem c_X8_escalates (l : Launch) (D : va_G) (cI cZ : ClassId) (a : Nat → Nat) (sz : Nat) (S : Ob) (p0 : Int32) (Q : Int32 → Ob → Prop) (h : wp_X8_escalates S p0 Q) : Met l yX8_escalates (wsm yX8_escalates cX8_escalates 3 (some .int)) rmX8_escalates (va_Pc [.ref (a 0), .int p0] (preW D cI cZ sz (wX8 cI cZ a S))) (va_Qi Q (fun u => atW D cI cZ (va_A (wX8 cI cZ a S) sz) (wX8 cI cZ a u)) (va_A (wX8 cI cZ a S) sz)) 0 0 (va_A (wX8 cI cZ a S) sz) := by
  refine Met.ofW (cc := cX8_escalates) (maxL := 3) (ret := (some .int)) (by decide) rfl ?_
  intro p e s m args below meth c s₁ B hml hv
  obtain ⟨rfl, hsz, hP, hK, hD0⟩ := hv
  have hx := B.exec
  have hb := B.bytes
  have hr := B.returns
  have hts0 := atoms_spec (ws := wsm yX8_escalates cX8_escalates 3 (some .int)) B.pre
  have hts : ∀ w ∈ lw_all, w.before _ s = true := fun w h => hts0 w (List.mem_cons_of_mem _ h)
  have hown : s.vm.findClass RX8 = some m.cls := findClass_of_methodNamed B.named
  have hlocks := B.notSynchronized
  subst hsz
  have hD := hD0.self (sz := s.heap.size)
  generalize hAe : va_A (wX8 cI cZ a S) s.heap.size = A at hD ⊢
  have hA : ∀ q : Nat, s.heap.size ≤ q → A q := fun q h => by rw [← hAe]; exact Or.inr h
  have hS : va_S A s.heap s.heap [] := va_S.rf
  have hml2 := hml
  have hl := lv_entry ([.ref (a 0), .int p0]) (n := 3) (Nat.le_of_ble_eq_true rfl)
  rw [lg_entry_eq]
  generalize (lg_sl ([.ref (a 0), .int p0]) ++ List.replicate (3 - (lg_sl ([.ref (a 0), .int p0])).length) Slot.unset).toArray = ls at hl ⊢
  have hl : lv_has ls 3 [(0, .ref (a 0)), (1, .int p0)] := hl
  unfold wp_X8_escalates at h
  refine lv_aload_n hx hb dX8_escalates_0 rfl (lv_at hl 0 rfl) ?_
  refine lv_iconst (v := 0) hx hb dX8_escalates_1 (by decide) ?_
  obtain ⟨T1, eT1⟩ : ∃ z : Ob, z = (si S 17 0) := ⟨_, rfl⟩
  refine pu_f (ci := 7) (v := .int 0) (ty := .int) (C := RX8) (T := TX8) (N := 25) hx hb hts inX8 tyX8 tyX8_ok nmX8 hown hK hP hD hS 0 rfl rfl 17 (by decide) (hts _ q_1094) (fun _ h9 => h9) rfl rfl rfl rfl (Nat.le_of_ble_eq_true rfl) dX8_escalates_2 (wX8 cI cZ a T1) (by subst eT1; rfl) (fun H locs hP hD hS => ?_)
  have h := h T1 eT1
  refine lv_iload_n hx hb dX8_escalates_5 rfl (lv_at hl 1 rfl) ?_
  refine lv_bipush (v := 18) hx hb dX8_escalates_6 (by decide) ?_
  refine lv_icmp_eq (tgt := 19) hx hb dX8_escalates_8 (by decide) (fun c2 => ?_) (fun c2 => ?_)
  · have h := h.1 c2
    refine lv_aload_n hx hb dX8_escalates_19 rfl (lv_at hl 0 rfl) ?_
    refine va_get (D := D) (ci := 7) (v := .ref (a 4)) (C := RX8) (T := TX8) (N := 25) hx hb hts inX8 hown hK hP 0 rfl rfl 4 (by decide) (hts _ q_1081) (fun _ h9 => h9) rfl dX8_escalates_20 ?_
    refine lv_bipush (v := 20) hx hb dX8_escalates_23 (by decide) ?_
    refine ar_il (f := (T1.2 4)) (n := 342) (j := 20) hx hb hK hP 4 rfl (by decide) (okLit (by decide)) dX8_escalates_25 ?_
    refine lv_iconst (v := 5) hx hb dX8_escalates_26 (by decide) ?_
    refine lv_icmp_ne (tgt := 34) hx hb dX8_escalates_27 (by decide) (fun c3 => ?_) (fun c3 => ?_)
    · have h := h.1 c3
      refine lv_aload_n hx hb dX8_escalates_34 rfl (lv_at hl 0 rfl) ?_
      refine lv_aload_n hx hb dX8_escalates_35 rfl (lv_at hl 0 rfl) ?_
      refine va_get (D := D) (ci := 7) (v := .ref (a 4)) (C := RX8) (T := TX8) (N := 25) hx hb hts inX8 hown hK hP 0 rfl rfl 4 (by decide) (hts _ q_1081) (fun _ h9 => h9) rfl dX8_escalates_36 ?_
      refine lv_iload_n hx hb dX8_escalates_39 rfl (lv_at hl 1 rfl) ?_
      refine cl_i (ws' := fun u4 => (wX8 cI cZ a (mnow T1 u4.1 u4.2))) (va_runV (As := [.ref (a 4), .int p0]) (rest := []) ⟨hx, hb, hml, hown, hts⟩ (c_X8_targetOf l D cI cZ a (fun k => a (k + 4)) true _ (T1, (T1.2 4)) p0 _ h (fun _ => rfl)) (cwV 2 hts (gV q_1266 q_1268 q_42 q_75 q_1269) rfl rfl rfl (by decide +kernel) ⟨Nat.le_of_ble_eq_true rfl, Nat.le_of_ble_eq_true rfl⟩) (preV_of (ci := 7) (q := (RX8, TX8, 25)) hK hP hD [0, 1, 2, 3, 6, 7, 8, 9, 10, 11, 12, 4] rfl rfl (by decide) 0 rfl rfl) rfl rfl hl.1 rfl (lv_room (Nat.le_of_ble_eq_true rfl)) dX8_escalates_40 ⟨Nat.zero_le _, Nat.zero_le _⟩) hP hD hS hA [0, 1, 2, 3, 6, 7, 8, 9, 10, 11, 12, 4] [.inl 0, .inl 1, .inl 2, .inl 3, .inl 11, .inr 5, .inl 4, .inl 5, .inl 6, .inl 7, .inl 8, .inl 9, .inl 10, .inr 13, .inr 14, .inr 15, .inr 16, .inr 17] rfl (by decide) (fun _ => rfl) (fun _ => rfl) (fun r5 u4 H locs h hP hD hS => ?_)
      refine lv_istore_n (lv' := [(2, .int r5), (0, .ref (a 0)), (1, .int p0)]) hx hb dX8_escalates_43 rfl hl (by decide) rfl (fun ls hl => ?_)
      refine lv_iload_n hx hb dX8_escalates_44 rfl (lv_at hl 0 rfl) ?_
      refine lv_if_ge (tgt := 53) hx hb dX8_escalates_45 (by decide) (fun c6 => ?_) (fun c6 => ?_)
      · have h := h.1 c6
        refine lv_iload_n hx hb dX8_escalates_53 rfl (lv_at hl 0 rfl) ?_
        exact W.iret (v := r5) hx hb hr (fun t ht hW => ⟨⟨r5, (mnow T1 u4.1 u4.2), rfl, h, by rw [ht]; exact hP, va_K.moved hW.alike hK, hD⟩, hS.F ht⟩) hS.2.2 dX8_escalates_54
      · have h := h.2 c6
        refine lv_bipush (v := -2) hx hb dX8_escalates_48 (by decide) ?_
        refine lv_goto (tgt := 54) hx hb dX8_escalates_50 (by decide) ?_
        exact W.iret (v := (-2)) hx hb hr (fun t ht hW => ⟨⟨(-2), (mnow T1 u4.1 u4.2), rfl, h, by rw [ht]; exact hP, va_K.moved hW.alike hK, hD⟩, hS.F ht⟩) hS.2.2 dX8_escalates_54
    · have h := h.2 c3
      refine lv_iconst (v := -1) hx hb dX8_escalates_30 (by decide) ?_
      refine lv_goto (tgt := 43) hx hb dX8_escalates_31 (by decide) ?_
      refine lv_istore_n (lv' := [(2, .int (-1)), (0, .ref (a 0)), (1, .int p0)]) hx hb dX8_escalates_43 rfl hl (by decide) rfl (fun ls hl => ?_)
      refine lv_iload_n hx hb dX8_escalates_44 rfl (lv_at hl 0 rfl) ?_
      refine lv_if_ge (tgt := 53) hx hb dX8_escalates_45 (by decide) (fun c7 => ?_) (fun c7 => ?_)
      · have h := h.1 c7
        refine lv_iload_n hx hb dX8_escalates_53 rfl (lv_at hl 0 rfl) ?_
        exact W.iret (v := (-1)) hx hb hr (fun t ht hW => ⟨⟨(-1), T1, rfl, h, by rw [ht]; exact hP, va_K.moved hW.alike hK, hD⟩, hS.F ht⟩) hS.2.2 dX8_escalates_54
      · have h := h.2 c7
        refine lv_bipush (v := -2) hx hb dX8_escalates_48 (by decide) ?_
        refine lv_goto (tgt := 54) hx hb dX8_escalates_50 (by decide) ?_
        exact W.iret (v := (-2)) hx hb hr (fun t ht hW => ⟨⟨(-2), T1, rfl, h, by rw [ht]; exact hP, va_K.moved hW.alike hK, hD⟩, hS.F ht⟩) hS.2.2 dX8_escalates_54
  · have h := h.2 c2
    refine lv_iload_n hx hb dX8_escalates_11 rfl (lv_at hl 1 rfl) ?_
    refine lv_bipush (v := 19) hx hb dX8_escalates_12 (by decide) ?_
    refine lv_icmp_eq (tgt := 19) hx hb dX8_escalates_14 (by decide) (fun c8 => ?_) (fun c8 => ?_)
    · have h := h.1 c8
      refine lv_aload_n hx hb dX8_escalates_19 rfl (lv_at hl 0 rfl) ?_
      refine va_get (D := D) (ci := 7) (v := .ref (a 4)) (C := RX8) (T := TX8) (N := 25) hx hb hts inX8 hown hK hP 0 rfl rfl 4 (by decide) (hts _ q_1081) (fun _ h9 => h9) rfl dX8_escalates_20 ?_
      refine lv_bipush (v := 20) hx hb dX8_escalates_23 (by decide) ?_
      refine ar_il (f := (T1.2 4)) (n := 342) (j := 20) hx hb hK hP 4 rfl (by decide) (okLit (by decide)) dX8_escalates_25 ?_
      refine lv_iconst (v := 5) hx hb dX8_escalates_26 (by decide) ?_
      refine lv_icmp_ne (tgt := 34) hx hb dX8_escalates_27 (by decide) (fun c9 => ?_) (fun c9 => ?_)
      · have h := h.1 c9
        refine lv_aload_n hx hb dX8_escalates_34 rfl (lv_at hl 0 rfl) ?_
        refine lv_aload_n hx hb dX8_escalates_35 rfl (lv_at hl 0 rfl) ?_
        refine va_get (D := D) (ci := 7) (v := .ref (a 4)) (C := RX8) (T := TX8) (N := 25) hx hb hts inX8 hown hK hP 0 rfl rfl 4 (by decide) (hts _ q_1081) (fun _ h9 => h9) rfl dX8_escalates_36 ?_
        refine lv_iload_n hx hb dX8_escalates_39 rfl (lv_at hl 1 rfl) ?_
        refine cl_i (ws' := fun u10 => (wX8 cI cZ a (mnow T1 u10.1 u10.2))) (va_runV (As := [.ref (a 4), .int p0]) (rest := []) ⟨hx, hb, hml, hown, hts⟩ (c_X8_targetOf l D cI cZ a (fun k => a (k + 4)) true _ (T1, (T1.2 4)) p0 _ h (fun _ => rfl)) (cwV 2 hts (gV q_1266 q_1268 q_42 q_75 q_1269) rfl rfl rfl (by decide +kernel) ⟨Nat.le_of_ble_eq_true rfl, Nat.le_of_ble_eq_true rfl⟩) (preV_of (ci := 7) (q := (RX8, TX8, 25)) hK hP hD [0, 1, 2, 3, 6, 7, 8, 9, 10, 11, 12, 4] rfl rfl (by decide) 0 rfl rfl) rfl rfl hl.1 rfl (lv_room (Nat.le_of_ble_eq_true rfl)) dX8_escalates_40 ⟨Nat.zero_le _, Nat.zero_le _⟩) hP hD hS hA [0, 1, 2, 3, 6, 7, 8, 9, 10, 11, 12, 4] [.inl 0, .inl 1, .inl 2, .inl 3, .inl 11, .inr 5, .inl 4, .inl 5, .inl 6, .inl 7, .inl 8, .inl 9, .inl 10, .inr 13, .inr 14, .inr 15, .inr 16, .inr 17] rfl (by decide) (fun _ => rfl) (fun _ => rfl) (fun r11 u10 H locs h hP hD hS => ?_)
        refine lv_istore_n (lv' := [(2, .int r11), (0, .ref (a 0)), (1, .int p0)]) hx hb dX8_escalates_43 rfl hl (by decide) rfl (fun ls hl => ?_)
        refine lv_iload_n hx hb dX8_escalates_44 rfl (lv_at hl 0 rfl) ?_
        refine lv_if_ge (tgt := 53) hx hb dX8_escalates_45 (by decide) (fun c12 => ?_) (fun c12 => ?_)
        · have h := h.1 c12
          refine lv_iload_n hx hb dX8_escalates_53 rfl (lv_at hl 0 rfl) ?_
          exact W.iret (v := r11) hx hb hr (fun t ht hW => ⟨⟨r11, (mnow T1 u10.1 u10.2), rfl, h, by rw [ht]; exact hP, va_K.moved hW.alike hK, hD⟩, hS.F ht⟩) hS.2.2 dX8_escalates_54
        · have h := h.2 c12
          refine lv_bipush (v := -2) hx hb dX8_escalates_48 (by decide) ?_
          refine lv_goto (tgt := 54) hx hb dX8_escalates_50 (by decide) ?_
          exact W.iret (v := (-2)) hx hb hr (fun t ht hW => ⟨⟨(-2), (mnow T1 u10.1 u10.2), rfl, h, by rw [ht]; exact hP, va_K.moved hW.alike hK, hD⟩, hS.F ht⟩) hS.2.2 dX8_escalates_54
      · have h := h.2 c9
        refine lv_iconst (v := -1) hx hb dX8_escalates_30 (by decide) ?_
        refine lv_goto (tgt := 43) hx hb dX8_escalates_31 (by decide) ?_
        refine lv_istore_n (lv' := [(2, .int (-1)), (0, .ref (a 0)), (1, .int p0)]) hx hb dX8_escalates_43 rfl hl (by decide) rfl (fun ls hl => ?_)
        refine lv_iload_n hx hb dX8_escalates_44 rfl (lv_at hl 0 rfl) ?_
        refine lv_if_ge (tgt := 53) hx hb dX8_escalates_45 (by decide) (fun c13 => ?_) (fun c13 => ?_)
        · have h := h.1 c13
          refine lv_iload_n hx hb dX8_escalates_53 rfl (lv_at hl 0 rfl) ?_
          exact W.iret (v := (-1)) hx hb hr (fun t ht hW => ⟨⟨(-1), T1, rfl, h, by rw [ht]; exact hP, va_K.moved hW.alike hK, hD⟩, hS.F ht⟩) hS.2.2 dX8_escalates_54
        · have h := h.2 c13
          refine lv_bipush (v := -2) hx hb dX8_escalates_48 (by decide) ?_
          refine lv_goto (tgt := 54) hx hb dX8_escalates_50 (by decide) ?_
          exact W.iret (v := (-2)) hx hb hr (fun t ht hW => ⟨⟨(-2), T1, rfl, h, by rw [ht]; exact hP, va_K.moved hW.alike hK, hD⟩, hS.F ht⟩) hS.2.2 dX8_escalates_54
    · have h := h.2 c8
      refine lv_iconst (v := -1) hx hb dX8_escalates_17 (by decide) ?_
      exact W.iret (v := (-1)) hx hb hr (fun t ht hW => ⟨⟨(-1), T1, rfl, h, by rw [ht]; exact hP, va_K.moved hW.alike hK, hD⟩, hS.F ht⟩) hS.2.2 dX8_escalates_18
/-! X8_likeNow -/
abbrev rmX8_likeNow : Room := { frames := 0, cells := 0, slots := 0, locals := 0 }
set_option maxHeartbeats 4000000 in
set_option maxRecDepth 100000 in
theorem c_X8_likeNow (l : Launch) (D : va_G) (cI cZ : ClassId) (a : Nat → Nat) (sz : Nat) (S : Ob) (p0 : Int32) (Q : Ob → Prop) (h : wp_X8_likeNow S p0 Q) : Met l yX8_likeNow (wsm yX8_likeNow cX8_likeNow 3 none) rmX8_likeNow (va_Pc [.ref (a 0), .int p0] (preW D cI cZ sz (wX8 cI cZ a S))) (va_Qv Q (fun u => atW D cI cZ (va_A (wX8 cI cZ a S) sz) (wX8 cI cZ a u)) (va_A (wX8 cI cZ a S) sz)) 0 0 (va_A (wX8 cI cZ a S) sz) := by
  refine Met.ofW (cc := cX8_likeNow) (maxL := 3) (ret := none) (by decide) rfl ?_
  intro p e s m args below meth c s₁ B hml hv
  obtain ⟨rfl, hsz, hP, hK, hD0⟩ := hv
  have hx := B.exec
  have hb := B.bytes
  have hr := B.returns
  have hts0 := atoms_spec (ws := wsm yX8_likeNow cX8_likeNow 3 none) B.pre
  have hts : ∀ w ∈ lw_all, w.before _ s = true := fun w h => hts0 w (List.mem_cons_of_mem _ h)
  have hown : s.vm.findClass RX8 = some m.cls := findClass_of_methodNamed B.named
  have hlocks := B.notSynchronized
  subst hsz
  have hD := hD0.self (sz := s.heap.size)
  generalize hAe : va_A (wX8 cI cZ a S) s.heap.size = A at hD ⊢
  have hA : ∀ q : Nat, s.heap.size ≤ q → A q := fun q h => by rw [← hAe]; exact Or.inr h
  have hS : va_S A s.heap s.heap [] := va_S.rf
  have hml2 := hml
  have L2 : ∀ (n : Nat), ∀ (y1 : Int32) (y2 : Int32) (T : Ob) (H : Heap) (locs : List Loc) (ls : Array Slot), va_P D vwCl (wX8 cI cZ a T) H → va_D A (wX8 cI cZ a T) → va_S A s.heap H locs → lv_has ls 3 [(0, .ref (a 0)), (1, .int y1), (2, .int y2)] → wp_X8_likeNow_L2 Q n y1 y2 T → W p l e rmX8_likeNow s m ([.ref (a 0), .int p0] : List Value).toArray below meth c H locs 0 0 (MQ below (va_Qv Q (fun u => atW D cI cZ A (wX8 cI cZ a u)) A) ([.ref (a 0), .int p0] : List Value).toArray s 0 0 A) (F0 m 2 ls []) := by
    intro n
    induction n with
    | zero =>
      intro y1 y2 T H locs ls hP hD hS hl h
      exact False.elim h
    | succ n ih =>
      intro y1 y2 T H locs ls hP hD hS hl h
      unfold wp_X8_likeNow_L2 at h
      refine lv_iload_n hx hb dX8_likeNow_2 rfl (lv_at hl 2 rfl) ?_
      refine lv_sipush (v := 342) hx hb dX8_likeNow_3 (by decide) ?_
      refine lv_icmp_ge (tgt := 27) hx hb dX8_likeNow_6 (by decide) (fun c1 => ?_) (fun c1 => ?_)
      · have h := h.1 c1
        refine lv_aload_n hx hb dX8_likeNow_27 rfl (lv_at hl 0 rfl) ?_
        refine lv_iconst (v := 0) hx hb dX8_likeNow_28 (by decide) ?_
        obtain ⟨T2, eT2⟩ : ∃ z : Ob, z = (si T 14 0) := ⟨_, rfl⟩
        refine pu_f (ci := 7) (v := .int 0) (ty := .boolean) (C := RX8) (T := TX8) (N := 25) hx hb hts inX8 tyX8 tyX8_ok nmX8 hown hK hP hD hS 0 rfl rfl 14 (by decide) (hts _ q_1091) (fun _ h9 => h9) rfl rfl (narB isB0) (fitB isB0) (Nat.le_of_ble_eq_true rfl) dX8_likeNow_29 (wX8 cI cZ a T2) (by subst eT2; rfl) (fun H locs hP hD hS => ?_)
        have h := h T2 eT2
        refine lv_aload_n hx hb dX8_likeNow_32 rfl (lv_at hl 0 rfl) ?_
        refine lv_iload_n hx hb dX8_likeNow_33 rfl (lv_at hl 1 rfl) ?_
        obtain ⟨T3, eT3⟩ : ∃ z : Ob, z = (si T2 15 y1) := ⟨_, rfl⟩
        refine pu_f (ci := 7) (v := .int y1) (ty := .boolean) (C := RX8) (T := TX8) (N := 25) hx hb hts inX8 tyX8 tyX8_ok nmX8 hown hK hP hD hS 0 rfl rfl 15 (by decide) (hts _ q_1092) (fun _ h9 => h9) rfl rfl (narB h.1) (fitB h.1) (Nat.le_of_ble_eq_true rfl) dX8_likeNow_34 (wX8 cI cZ a T3) (by subst eT3; rfl) (fun H locs hP hD hS => ?_)
        have h := h.2
        have h := h T3 eT3
        exact W.vret hx hb hr (fun t ht hW => ⟨⟨T3, rfl, h, by rw [ht]; exact hP, va_K.moved hW.alike hK, hD⟩, hS.F ht⟩) hS.2.2 dX8_likeNow_37
      · have h := h.2 c1
        refine lv_aload_n hx hb dX8_likeNow_9 rfl (lv_at hl 0 rfl) ?_
        refine va_get (D := D) (ci := 7) (v := .ref (a 5)) (C := RX8) (T := TX8) (N := 25) hx hb hts inX8 hown hK hP 0 rfl rfl 5 (by decide) (hts _ q_1082) (fun _ h9 => h9) rfl dX8_likeNow_10 ?_
        refine lv_iload_n hx hb dX8_likeNow_13 rfl (lv_at hl 2 rfl) ?_
        refine lv_aload_n hx hb dX8_likeNow_14 rfl (lv_at hl 0 rfl) ?_
        refine va_get (D := D) (ci := 7) (v := .ref (a 4)) (C := RX8) (T := TX8) (N := 25) hx hb hts inX8 hown hK hP 0 rfl rfl 4 (by decide) (hts _ q_1081) (fun _ h9 => h9) rfl dX8_likeNow_15 ?_
        refine lv_iload_n hx hb dX8_likeNow_18 rfl (lv_at hl 2 rfl) ?_
        refine ar_il (f := (T.2 4)) (n := 342) (j := (Int32.toNatClampNeg y2)) hx hb hK hP 4 rfl rfl h.1 dX8_likeNow_19 ?_
        have h := h.2
        obtain ⟨T4, eT4⟩ : ∃ z : Ob, z = (sa T 5 (upd (T.2 5) (Int32.toNatClampNeg y2) ((T.2 4) (Int32.toNatClampNeg y2)))) := ⟨_, rfl⟩
        refine ar_is (f := (T.2 5)) (n := 342) (j := (Int32.toNatClampNeg y2)) (x := ((T.2 4) (Int32.toNatClampNeg y2))) hx hb hK hP hD hS 5 rfl rfl h.1 dX8_likeNow_20 (wX8 cI cZ a T4) (by subst eT4; rfl) (fun H locs hP hD hS => ?_)
        have h := h.2
        have h := h T4 eT4
        obtain ⟨x5, ex5⟩ : ∃ y : Int32, y = (y2 + 1) := ⟨_, rfl⟩
        have h := h x5 ex5
        refine lv_iinc (v := x5) (lv' := [(2, .int x5), (0, .ref (a 0)), (1, .int y1)]) hx hb dX8_likeNow_21 hl (k := 2) rfl (by rw [ex5]; rfl) (by decide) rfl (fun ls hl => ?_)
        refine lv_goto (tgt := 2) hx hb dX8_likeNow_24 (by decide) ?_
        exact ih y1 x5 T4 _ _ _ hP hD hS (lv_sub hl [1, 2, 0] rfl) h
  have hl := lv_entry ([.ref (a 0), .int p0]) (n := 3) (Nat.le_of_ble_eq_true rfl)
  rw [lg_entry_eq]
  generalize (lg_sl ([.ref (a 0), .int p0]) ++ List.replicate (3 - (lg_sl ([.ref (a 0), .int p0])).length) Slot.unset).toArray = ls at hl ⊢
  have hl : lv_has ls 3 [(0, .ref (a 0)), (1, .int p0)] := hl
  unfold wp_X8_likeNow at h
  refine lv_iconst (v := 0) hx hb dX8_likeNow_0 (by decide) ?_
  refine lv_istore_n (lv' := [(2, .int 0), (0, .ref (a 0)), (1, .int p0)]) hx hb dX8_likeNow_1 rfl hl (by decide) rfl (fun ls hl => ?_)
  exact L2 2000 p0 0 S _ _ _ hP hD hS (lv_sub hl [1, 2, 0] rfl) h
/-! X8_soon -/
abbrev rmX8_soon : Room := { frames := 9, cells := 0, slots := 0, locals := 211 }
set_option maxHeartbeats 4000000 in
set_option maxRecDepth 100000 in
theorem c_X8_soon (l : Launch) (D : va_G) (cI cZ : ClassId) (a : Nat → Nat) (sz : Nat) (S : Ob) (p0 : Int32) (Q : Int32 → Ob → Prop) (h : wp_X8_soon S p0 Q) : Met l yX8_soon (wsm yX8_soon cX8_soon 3 (some .int)) rmX8_soon (va_Pc [.ref (a 0), .int p0] (preT D cI cZ sz (wX8 cI cZ a S))) (va_Qi Q (fun u => atW D cI cZ (va_A (wX8 cI cZ a S) sz) (wX8 cI cZ a u)) (va_A (wX8 cI cZ a S) sz)) 0 0 (va_A (wX8 cI cZ a S) sz) := by
  refine Met.ofW (cc := cX8_soon) (maxL := 3) (ret := (some .int)) (by decide) rfl ?_
  intro p e s m args below meth c s₁ B hml hv
  obtain ⟨rfl, ⟨hsz, hP, hK, hD0⟩, hF⟩ := hv
  have hx := B.exec
  have hb := B.bytes
  have hr := B.returns
  have hts0 := atoms_spec (ws := wsm yX8_soon cX8_soon 3 (some .int)) B.pre
  have hts : ∀ w ∈ lw_all, w.before _ s = true := fun w h => hts0 w (List.mem_cons_of_mem _ h)
  have hown : s.vm.findClass RX8 = some m.cls := findClass_of_methodNamed B.named
  have hlocks := B.notSynchronized
  subst hsz
  have hD := hD0.self (sz := s.heap.size)
  generalize hAe : va_A (wX8 cI cZ a S) s.heap.size = A at hD hF ⊢
  have hA : ∀ q : Nat, s.heap.size ≤ q → A q := fun q h => by rw [← hAe]; exact Or.inr h
  have hS : va_S A s.heap s.heap [] := va_S.rf
  have hml2 := hml
  have L24 : ∀ (n : Nat), ∀ (y1 : Int32) (y2 : Int32) (T : Ob) (H : Heap) (locs : List Loc) (ls : Array Slot), va_P D vwCl (wX8 cI cZ a T) H → va_D A (wX8 cI cZ a T) → va_S A s.heap H locs → lv_has ls 3 [(0, .ref (a 0)), (1, .int y1), (2, .int y2)] → wp_X8_soon_L24 Q n y1 y2 T → W p l e rmX8_soon s m ([.ref (a 0), .int p0] : List Value).toArray below meth c H locs 0 0 (MQ below (va_Qi Q (fun u => atW D cI cZ A (wX8 cI cZ a u)) A) ([.ref (a 0), .int p0] : List Value).toArray s 0 0 A) (F0 m 24 ls []) := by
    intro n
    induction n with
    | zero =>
      intro y1 y2 T H locs ls hP hD hS hl h
      exact False.elim h
    | succ n ih =>
      intro y1 y2 T H locs ls hP hD hS hl h
      unfold wp_X8_soon_L24 at h
      refine lv_iload_n hx hb dX8_soon_24 rfl (lv_at hl 2 rfl) ?_
      refine lv_sipush (v := 300) hx hb dX8_soon_25 (by decide) ?_
      refine lv_icmp_gt (tgt := 55) hx hb dX8_soon_28 (by decide) (fun c6 => ?_) (fun c6 => ?_)
      · have h := h.1 c6
        refine lv_iconst (v := -1) hx hb dX8_soon_55 (by decide) ?_
        exact W.iret (v := (-1)) hx hb hr (fun t ht hW => ⟨⟨(-1), T, rfl, h, by rw [ht]; exact hP, va_K.moved hW.alike hK, hD⟩, hS.F ht⟩) hS.2.2 dX8_soon_56
      · have h := h.2 c6
        refine lv_aload_n hx hb dX8_soon_31 rfl (lv_at hl 0 rfl) ?_
        refine lv_aload_n hx hb dX8_soon_32 rfl (lv_at hl 0 rfl) ?_
        refine va_get (D := D) (ci := 7) (v := .ref (a 5)) (C := RX8) (T := TX8) (N := 25) hx hb hts inX8 hown hK hP 0 rfl rfl 5 (by decide) (hts _ q_1082) (fun _ h9 => h9) rfl dX8_soon_33 ?_
        refine cl_v (ws' := fun u7 => (wX8 cI cZ a (mthen T u7.1 u7.2))) (va_runV (As := [.ref (a 5)]) (rest := []) ⟨hx, hb, hml, hown, hts⟩ (c_X8_cycle l D cI cZ a (fun k => a (k + 5)) false _ (T, (T.2 5)) _ h (fun h => absurd h (by decide))) (cwV 1 hts (gV q_1221 q_1223 q_33 q_75 q_1224) rfl rfl rfl (by decide +kernel) ⟨Nat.le_of_ble_eq_true rfl, Nat.le_of_ble_eq_true rfl⟩) (preTV_of (ci := 7) (q := (RX8, TX8, 25)) hF hS hA hK hP hD [0, 1, 2, 3, 6, 7, 8, 9, 10, 11, 12, 5] rfl rfl (by decide) 0 rfl rfl) rfl rfl hl.1 rfl (lv_room (Nat.le_of_ble_eq_true rfl)) dX8_soon_36 ⟨Nat.zero_le _, Nat.zero_le _⟩) hP hD hS hA [0, 1, 2, 3, 6, 7, 8, 9, 10, 11, 12, 5] [.inl 0, .inl 1, .inl 2, .inl 3, .inr 4, .inl 11, .inl 4, .inl 5, .inl 6, .inl 7, .inl 8, .inl 9, .inl 10, .inr 13, .inr 14, .inr 15, .inr 16, .inr 17] rfl (by decide) (fun _ => rfl) (fun _ => rfl) (fun u7 H locs h hP hD hS => ?_)
        refine lv_aload_n hx hb dX8_soon_39 rfl (lv_at hl 0 rfl) ?_
        refine va_get (D := D) (ci := 7) (v := .int (u7.1.1 16)) (C := RX8) (T := TX8) (N := 25) hx hb hts inX8 hown hK hP 0 rfl rfl 16 (by decide) (hts _ q_1093) (fun _ h9 => h9) rfl dX8_soon_40 ?_
        refine lv_iload_n hx hb dX8_soon_43 rfl (lv_at hl 1 rfl) ?_
        refine lv_icmp_ne (tgt := 49) hx hb dX8_soon_44 (by decide) (fun c8 => ?_) (fun c8 => ?_)
        · have h := h.1 c8
          obtain ⟨x9, ex9⟩ : ∃ y : Int32, y = (y2 + 1) := ⟨_, rfl⟩
          have h := h x9 ex9
          refine lv_iinc (v := x9) (lv' := [(2, .int x9), (0, .ref (a 0)), (1, .int y1)]) hx hb dX8_soon_49 hl (k := 2) rfl (by rw [ex9]; rfl) (by decide) rfl (fun ls hl => ?_)
          refine lv_goto (tgt := 24) hx hb dX8_soon_52 (by decide) ?_
          exact ih y1 x9 (mthen T u7.1 u7.2) _ _ _ hP hD hS (lv_sub hl [1, 2, 0] rfl) h
        · have h := h.2 c8
          refine lv_iload_n hx hb dX8_soon_47 rfl (lv_at hl 2 rfl) ?_
          exact W.iret (v := y2) hx hb hr (fun t ht hW => ⟨⟨y2, (mthen T u7.1 u7.2), rfl, h, by rw [ht]; exact hP, va_K.moved hW.alike hK, hD⟩, hS.F ht⟩) hS.2.2 dX8_soon_48
  have hl := lv_entry ([.ref (a 0), .int p0]) (n := 3) (Nat.le_of_ble_eq_true rfl)
  rw [lg_entry_eq]
  generalize (lg_sl ([.ref (a 0), .int p0]) ++ List.replicate (3 - (lg_sl ([.ref (a 0), .int p0])).length) Slot.unset).toArray = ls at hl ⊢
  have hl : lv_has ls 3 [(0, .ref (a 0)), (1, .int p0)] := hl
  unfold wp_X8_soon at h
  refine lv_aload_n hx hb dX8_soon_0 rfl (lv_at hl 0 rfl) ?_
  refine lv_iconst (v := 0) hx hb dX8_soon_1 (by decide) ?_
  obtain ⟨T1, eT1⟩ : ∃ z : Ob, z = (si S 17 0) := ⟨_, rfl⟩
  refine pu_f (ci := 7) (v := .int 0) (ty := .int) (C := RX8) (T := TX8) (N := 25) hx hb hts inX8 tyX8 tyX8_ok nmX8 hown hK hP hD hS 0 rfl rfl 17 (by decide) (hts _ q_1094) (fun _ h9 => h9) rfl rfl rfl rfl (Nat.le_of_ble_eq_true rfl) dX8_soon_2 (wX8 cI cZ a T1) (by subst eT1; rfl) (fun H locs hP hD hS => ?_)
  have h := h T1 eT1
  refine lv_iload_n hx hb dX8_soon_5 rfl (lv_at hl 1 rfl) ?_
  refine lv_iconst (v := 0) hx hb dX8_soon_6 (by decide) ?_
  refine lv_bipush (v := 20) hx hb dX8_soon_7 (by decide) ?_
  refine cl_i (ws' := fun u2 => (wX8 cI cZ a T1)) (va_runS (As := [.int p0, .int 0, .int 20]) (rest := []) ⟨hx, hb, hml, hown, hts⟩ (c_X8_within l D cI cZ _ () p0 0 20 _ h ) (va_cwS 3 hts (gS q_1161 q_1162 q_75 q_1163) rfl rfl rfl (by decide +kernel) ⟨Nat.le_of_ble_eq_true rfl, Nat.le_of_ble_eq_true rfl⟩) (preS_of hK hP hD [] rfl rfl (by decide)) rfl rfl hl.1 rfl (lv_room (Nat.le_of_ble_eq_true rfl)) dX8_soon_9 ⟨Nat.zero_le _, Nat.zero_le _⟩) hP hD hS hA [] [.inr 0, .inr 1, .inr 2, .inr 3, .inr 4, .inr 5, .inr 6, .inr 7, .inr 8, .inr 9, .inr 10, .inr 11, .inr 12, .inr 13, .inr 14, .inr 15, .inr 16, .inr 17] rfl (by decide) (fun _ => rfl) (fun _ => rfl) (fun r3 u2 H locs h hP hD hS => ?_)
  refine lv_if_ne (tgt := 17) hx hb dX8_soon_12 (by decide) (fun c4 => ?_) (fun c4 => ?_)
  · have h := h.1 c4
    refine lv_aload_n hx hb dX8_soon_17 rfl (lv_at hl 0 rfl) ?_
    refine lv_iconst (v := 0) hx hb dX8_soon_18 (by decide) ?_
    refine cl_v (ws' := fun u5 => (wX8 cI cZ a u5)) (va_runV (As := [.int 0]) (rest := []) ⟨hx, hb, hml, hown, hts⟩ (c_X8_likeNow l D cI cZ a _ T1 0 _ h ) (cwV 1 hts (gV q_1450 q_1452 q_60 q_75 q_1453) rfl rfl rfl (by decide +kernel) ⟨Nat.le_of_ble_eq_true rfl, Nat.le_of_ble_eq_true rfl⟩) (preV_of (ci := 7) (q := (RX8, TX8, 25)) hK hP hD [0, 1, 2, 3, 4, 5, 6, 7, 8, 9, 10, 11, 12, 13, 14, 15, 16, 17] rfl rfl (by decide) 0 rfl rfl) rfl rfl hl.1 rfl (lv_room (Nat.le_of_ble_eq_true rfl)) dX8_soon_19 ⟨Nat.zero_le _, Nat.zero_le _⟩) hP hD hS hA [0, 1, 2, 3, 4, 5, 6, 7, 8, 9, 10, 11, 12, 13, 14, 15, 16, 17] [.inl 0, .inl 1, .inl 2, .inl 3, .inl 4, .inl 5, .inl 6, .inl 7, .inl 8, .inl 9, .inl 10, .inl 11, .inl 12, .inl 13, .inl 14, .inl 15, .inl 16, .inl 17] rfl (by decide) (fun _ => rfl) (fun _ => rfl) (fun u5 H locs h hP hD hS => ?_)
    refine lv_iconst (v := 1) hx hb dX8_soon_22 (by decide) ?_
    refine lv_istore_n (lv' := [(2, .int 1), (0, .ref (a 0)), (1, .int p0)]) hx hb dX8_soon_23 rfl hl (by decide) rfl (fun ls hl => ?_)
    exact L24 2000 p0 1 u5 _ _ _ hP hD hS (lv_sub hl [1, 2, 0] rfl) h
  · have h := h.2 c4
    refine lv_iconst (v := -1) hx hb dX8_soon_15 (by decide) ?_
    exact W.iret (v := (-1)) hx hb hr (fun t ht hW => ⟨⟨(-1), T1, rfl, h, by rw [ht]; exact hP, va_K.moved hW.alike hK, hD⟩, hS.F ht⟩) hS.2.2 dX8_soon_16
/-! X8_order -/
abbrev rmX8_order : Room := { frames := 9, cells := 0, slots := 0, locals := 211 }
set_option maxHeartbeats 4000000 in
set_option maxRecDepth 100000 in
theorem c_X8_order (l : Launch) (D : va_G) (cI cZ : ClassId) (a : Nat → Nat) (sz : Nat) (S : Ob) (p0 : Int32) (p1 : Int32) (Q : Int32 → Ob → Prop) (h : wp_X8_order S p0 p1 Q) : Met l yX8_order (wsm yX8_order cX8_order 5 (some .int)) rmX8_order (va_Pc [.ref (a 0), .int p0, .int p1] (preT D cI cZ sz (wX8 cI cZ a S))) (va_Qi Q (fun u => atW D cI cZ (va_A (wX8 cI cZ a S) sz) (wX8 cI cZ a u)) (va_A (wX8 cI cZ a S) sz)) 0 0 (va_A (wX8 cI cZ a S) sz) := by
  refine Met.ofW (cc := cX8_order) (maxL := 5) (ret := (some .int)) (by decide) rfl ?_
  intro p e s m args below meth c s₁ B hml hv
  obtain ⟨rfl, ⟨hsz, hP, hK, hD0⟩, hF⟩ := hv
  have hx := B.exec
  have hb := B.bytes
  have hr := B.returns
  have hts0 := atoms_spec (ws := wsm yX8_order cX8_order 5 (some .int)) B.pre
  have hts : ∀ w ∈ lw_all, w.before _ s = true := fun w h => hts0 w (List.mem_cons_of_mem _ h)
  have hown : s.vm.findClass RX8 = some m.cls := findClass_of_methodNamed B.named
  have hlocks := B.notSynchronized
  subst hsz
  have hD := hD0.self (sz := s.heap.size)
  generalize hAe : va_A (wX8 cI cZ a S) s.heap.size = A at hD hF ⊢
  have hA : ∀ q : Nat, s.heap.size ≤ q → A q := fun q h => by rw [← hAe]; exact Or.inr h
  have hS : va_S A s.heap s.heap [] := va_S.rf
  have hml2 := hml
  have L21 : ∀ (n : Nat), ∀ (y3 : Int32) (y4 : Int32) (T : Ob) (H : Heap) (locs : List Loc) (ls : Array Slot), va_P D vwCl (wX8 cI cZ a T) H → va_D A (wX8 cI cZ a T) → va_S A s.heap H locs → lv_has ls 5 [(0, .ref (a 0)), (3, .int y3), (4, .int y4)] → wp_X8_order_L21 Q n y3 y4 T → W p l e rmX8_order s m ([.ref (a 0), .int p0, .int p1] : List Value).toArray below meth c H locs 0 0 (MQ below (va_Qi Q (fun u => atW D cI cZ A (wX8 cI cZ a u)) A) ([.ref (a 0), .int p0, .int p1] : List Value).toArray s 0 0 A) (F0 m 21 ls []) := by
    intro n
    induction n with
    | zero =>
      intro y3 y4 T H locs ls hP hD hS hl h
      exact False.elim h
    | succ n ih =>
      intro y3 y4 T H locs ls hP hD hS hl h
      unfold wp_X8_order_L21 at h
      refine lv_iload hx hb dX8_order_21 (lv_at hl 2 rfl) ?_
      refine lv_sipush (v := 300) hx hb dX8_order_23 (by decide) ?_
      refine lv_icmp_gt (tgt := 65) hx hb dX8_order_26 (by decide) (fun c4 => ?_) (fun c4 => ?_)
      · have h := h.1 c4
        refine lv_iconst (v := -1) hx hb dX8_order_65 (by decide) ?_
        exact W.iret (v := (-1)) hx hb hr (fun t ht hW => ⟨⟨(-1), T, rfl, h, by rw [ht]; exact hP, va_K.moved hW.alike hK, hD⟩, hS.F ht⟩) hS.2.2 dX8_order_66
      · have h := h.2 c4
        refine lv_aload_n hx hb dX8_order_29 rfl (lv_at hl 0 rfl) ?_
        refine lv_aload_n hx hb dX8_order_30 rfl (lv_at hl 0 rfl) ?_
        refine va_get (D := D) (ci := 7) (v := .ref (a 5)) (C := RX8) (T := TX8) (N := 25) hx hb hts inX8 hown hK hP 0 rfl rfl 5 (by decide) (hts _ q_1082) (fun _ h9 => h9) rfl dX8_order_31 ?_
        refine cl_v (ws' := fun u5 => (wX8 cI cZ a (mthen T u5.1 u5.2))) (va_runV (As := [.ref (a 5)]) (rest := []) ⟨hx, hb, hml, hown, hts⟩ (c_X8_cycle l D cI cZ a (fun k => a (k + 5)) false _ (T, (T.2 5)) _ h (fun h => absurd h (by decide))) (cwV 1 hts (gV q_1221 q_1223 q_33 q_75 q_1224) rfl rfl rfl (by decide +kernel) ⟨Nat.le_of_ble_eq_true rfl, Nat.le_of_ble_eq_true rfl⟩) (preTV_of (ci := 7) (q := (RX8, TX8, 25)) hF hS hA hK hP hD [0, 1, 2, 3, 6, 7, 8, 9, 10, 11, 12, 5] rfl rfl (by decide) 0 rfl rfl) rfl rfl hl.1 rfl (lv_room (Nat.le_of_ble_eq_true rfl)) dX8_order_34 ⟨Nat.zero_le _, Nat.zero_le _⟩) hP hD hS hA [0, 1, 2, 3, 6, 7, 8, 9, 10, 11, 12, 5] [.inl 0, .inl 1, .inl 2, .inl 3, .inr 4, .inl 11, .inl 4, .inl 5, .inl 6, .inl 7, .inl 8, .inl 9, .inl 10, .inr 13, .inr 14, .inr 15, .inr 16, .inr 17] rfl (by decide) (fun _ => rfl) (fun _ => rfl) (fun u5 H locs h hP hD hS => ?_)
        refine lv_aload_n hx hb dX8_order_37 rfl (lv_at hl 0 rfl) ?_
        refine va_get (D := D) (ci := 7) (v := .int (u5.1.1 16)) (C := RX8) (T := TX8) (N := 25) hx hb hts inX8 hown hK hP 0 rfl rfl 16 (by decide) (hts _ q_1093) (fun _ h9 => h9) rfl dX8_order_38 ?_
        refine lv_if_ge (tgt := 47) hx hb dX8_order_41 (by decide) (fun c6 => ?_) (fun c6 => ?_)
        · have h := h.1 c6
          refine lv_iload_n hx hb dX8_order_47 rfl (lv_at hl 1 rfl) ?_
          refine lv_if_ne (tgt := 56) hx hb dX8_order_48 (by decide) (fun c7 => ?_) (fun c7 => ?_)
          · have h := h.1 c7
            obtain ⟨x8, ex8⟩ : ∃ y : Int32, y = (y3 + (-1)) := ⟨_, rfl⟩
            have h := h x8 ex8
            refine lv_iinc (v := x8) (lv' := [(3, .int x8), (0, .ref (a 0)), (4, .int y4)]) hx hb dX8_order_56 hl (k := 1) rfl (by rw [ex8]; rfl) (by decide) rfl (fun ls hl => ?_)
            obtain ⟨x9, ex9⟩ : ∃ y : Int32, y = (y4 + 1) := ⟨_, rfl⟩
            have h := h x9 ex9
            refine lv_iinc (v := x9) (lv' := [(4, .int x9), (3, .int x8), (0, .ref (a 0))]) hx hb dX8_order_59 hl (k := 2) rfl (by rw [ex9]; rfl) (by decide) rfl (fun ls hl => ?_)
            refine lv_goto (tgt := 21) hx hb dX8_order_62 (by decide) ?_
            exact ih x8 x9 (mthen T u5.1 u5.2) _ _ _ hP hD hS (lv_sub hl [2, 1, 0] rfl) h
          · have h := h.2 c7
            refine lv_aload_n hx hb dX8_order_51 rfl (lv_at hl 0 rfl) ?_
            refine va_get (D := D) (ci := 7) (v := .int (u5.1.1 16)) (C := RX8) (T := TX8) (N := 25) hx hb hts inX8 hown hK hP 0 rfl rfl 16 (by decide) (hts _ q_1093) (fun _ h9 => h9) rfl dX8_order_52 ?_
            exact W.iret (v := (u5.1.1 16)) hx hb hr (fun t ht hW => ⟨⟨(u5.1.1 16), (mthen T u5.1 u5.2), rfl, h, by rw [ht]; exact hP, va_K.moved hW.alike hK, hD⟩, hS.F ht⟩) hS.2.2 dX8_order_55
        · have h := h.2 c6
          refine lv_goto (tgt := 59) hx hb dX8_order_44 (by decide) ?_
          obtain ⟨x10, ex10⟩ : ∃ y : Int32, y = (y4 + 1) := ⟨_, rfl⟩
          have h := h x10 ex10
          refine lv_iinc (v := x10) (lv' := [(4, .int x10), (0, .ref (a 0)), (3, .int y3)]) hx hb dX8_order_59 hl (k := 2) rfl (by rw [ex10]; rfl) (by decide) rfl (fun ls hl => ?_)
          refine lv_goto (tgt := 21) hx hb dX8_order_62 (by decide) ?_
          exact ih y3 x10 (mthen T u5.1 u5.2) _ _ _ hP hD hS (lv_sub hl [1, 2, 0] rfl) h
  have hl := lv_entry ([.ref (a 0), .int p0, .int p1]) (n := 5) (Nat.le_of_ble_eq_true rfl)
  rw [lg_entry_eq]
  generalize (lg_sl ([.ref (a 0), .int p0, .int p1]) ++ List.replicate (5 - (lg_sl ([.ref (a 0), .int p0, .int p1])).length) Slot.unset).toArray = ls at hl ⊢
  have hl : lv_has ls 5 [(0, .ref (a 0)), (1, .int p0), (2, .int p1)] := hl
  unfold wp_X8_order at h
  refine lv_aload_n hx hb dX8_order_0 rfl (lv_at hl 0 rfl) ?_
  refine lv_iconst (v := 0) hx hb dX8_order_1 (by decide) ?_
  obtain ⟨T1, eT1⟩ : ∃ z : Ob, z = (si S 17 0) := ⟨_, rfl⟩
  refine pu_f (ci := 7) (v := .int 0) (ty := .int) (C := RX8) (T := TX8) (N := 25) hx hb hts inX8 tyX8 tyX8_ok nmX8 hown hK hP hD hS 0 rfl rfl 17 (by decide) (hts _ q_1094) (fun _ h9 => h9) rfl rfl rfl rfl (Nat.le_of_ble_eq_true rfl) dX8_order_2 (wX8 cI cZ a T1) (by subst eT1; rfl) (fun H locs hP hD hS => ?_)
  have h := h T1 eT1
  refine lv_iload_n hx hb dX8_order_5 rfl (lv_at hl 1 rfl) ?_
  refine lv_if_ge (tgt := 11) hx hb dX8_order_6 (by decide) (fun c2 => ?_) (fun c2 => ?_)
  · have h := h.1 c2
    refine lv_aload_n hx hb dX8_order_11 rfl (lv_at hl 0 rfl) ?_
    refine lv_iload_n hx hb dX8_order_12 rfl (lv_at hl 2 rfl) ?_
    refine cl_v (ws' := fun u3 => (wX8 cI cZ a u3)) (va_runV (As := [.int p1]) (rest := []) ⟨hx, hb, hml, hown, hts⟩ (c_X8_likeNow l D cI cZ a _ T1 p1 _ h ) (cwV 1 hts (gV q_1450 q_1452 q_60 q_75 q_1453) rfl rfl rfl (by decide +kernel) ⟨Nat.le_of_ble_eq_true rfl, Nat.le_of_ble_eq_true rfl⟩) (preV_of (ci := 7) (q := (RX8, TX8, 25)) hK hP hD [0, 1, 2, 3, 4, 5, 6, 7, 8, 9, 10, 11, 12, 13, 14, 15, 16, 17] rfl rfl (by decide) 0 rfl rfl) rfl rfl hl.1 rfl (lv_room (Nat.le_of_ble_eq_true rfl)) dX8_order_13 ⟨Nat.zero_le _, Nat.zero_le _⟩) hP hD hS hA [0, 1, 2, 3, 4, 5, 6, 7, 8, 9, 10, 11, 12, 13, 14, 15, 16, 17] [.inl 0, .inl 1, .inl 2, .inl 3, .inl 4, .inl 5, .inl 6, .inl 7, .inl 8, .inl 9, .inl 10, .inl 11, .inl 12, .inl 13, .inl 14, .inl 15, .inl 16, .inl 17] rfl (by decide) (fun _ => rfl) (fun _ => rfl) (fun u3 H locs h hP hD hS => ?_)
    refine lv_iload_n hx hb dX8_order_16 rfl (lv_at hl 1 rfl) ?_
    refine lv_istore_n (lv' := [(3, .int p0), (0, .ref (a 0)), (1, .int p0), (2, .int p1)]) hx hb dX8_order_17 rfl hl (by decide) rfl (fun ls hl => ?_)
    refine lv_iconst (v := 1) hx hb dX8_order_18 (by decide) ?_
    refine lv_istore (lv' := [(4, .int 1), (3, .int p0), (0, .ref (a 0)), (1, .int p0), (2, .int p1)]) hx hb dX8_order_19 hl (by decide) rfl (fun ls hl => ?_)
    exact L21 2000 p0 1 u3 _ _ _ hP hD hS (lv_sub hl [2, 1, 0] rfl) h
  · have h := h.2 c2
    refine lv_iconst (v := -1) hx hb dX8_order_9 (by decide) ?_
    exact W.iret (v := (-1)) hx hb hr (fun t ht hW => ⟨⟨(-1), T1, rfl, h, by rw [ht]; exact hP, va_K.moved hW.alike hK, hD⟩, hS.F ht⟩) hS.2.2 dX8_order_10
/-! X8_quiet -/
abbrev rmX8_quiet : Room := { frames := 9, cells := 0, slots := 0, locals := 211 }
set_option maxHeartbeats 4000000 in
set_option maxRecDepth 100000 in
theorem c_X8_quiet (l : Launch) (D : va_G) (cI cZ : ClassId) (a : Nat → Nat) (sz : Nat) (S : Ob) (p0 : Int32) (Q : Int32 → Ob → Prop) (h : wp_X8_quiet S p0 Q) : Met l yX8_quiet (wsm yX8_quiet cX8_quiet 3 (some .int)) rmX8_quiet (va_Pc [.ref (a 0), .int p0] (preT D cI cZ sz (wX8 cI cZ a S))) (va_Qi Q (fun u => atW D cI cZ (va_A (wX8 cI cZ a S) sz) (wX8 cI cZ a u)) (va_A (wX8 cI cZ a S) sz)) 0 0 (va_A (wX8 cI cZ a S) sz) := by
  refine Met.ofW (cc := cX8_quiet) (maxL := 3) (ret := (some .int)) (by decide) rfl ?_
  intro p e s m args below meth c s₁ B hml hv
  obtain ⟨rfl, ⟨hsz, hP, hK, hD0⟩, hF⟩ := hv
  have hx := B.exec
  have hb := B.bytes
  have hr := B.returns
  have hts0 := atoms_spec (ws := wsm yX8_quiet cX8_quiet 3 (some .int)) B.pre
  have hts : ∀ w ∈ lw_all, w.before _ s = true := fun w h => hts0 w (List.mem_cons_of_mem _ h)
  have hown : s.vm.findClass RX8 = some m.cls := findClass_of_methodNamed B.named
  have hlocks := B.notSynchronized
  subst hsz
  have hD := hD0.self (sz := s.heap.size)
  generalize hAe : va_A (wX8 cI cZ a S) s.heap.size = A at hD hF ⊢
  have hA : ∀ q : Nat, s.heap.size ≤ q → A q := fun q h => by rw [← hAe]; exact Or.inr h
  have hS : va_S A s.heap s.heap [] := va_S.rf
  have hml2 := hml
  have L12 : ∀ (n : Nat), ∀ (y2 : Int32) (T : Ob) (H : Heap) (locs : List Loc) (ls : Array Slot), va_P D vwCl (wX8 cI cZ a T) H → va_D A (wX8 cI cZ a T) → va_S A s.heap H locs → lv_has ls 3 [(0, .ref (a 0)), (2, .int y2)] → wp_X8_quiet_L12 Q n y2 T → W p l e rmX8_quiet s m ([.ref (a 0), .int p0] : List Value).toArray below meth c H locs 0 0 (MQ below (va_Qi Q (fun u => atW D cI cZ A (wX8 cI cZ a u)) A) ([.ref (a 0), .int p0] : List Value).toArray s 0 0 A) (F0 m 12 ls []) := by
    intro n
    induction n with
    | zero =>
      intro y2 T H locs ls hP hD hS hl h
      exact False.elim h
    | succ n ih =>
      intro y2 T H locs ls hP hD hS hl h
      unfold wp_X8_quiet_L12 at h
      refine lv_iload_n hx hb dX8_quiet_12 rfl (lv_at hl 1 rfl) ?_
      refine lv_sipush (v := 300) hx hb dX8_quiet_13 (by decide) ?_
      refine lv_icmp_gt (tgt := 66) hx hb dX8_quiet_16 (by decide) (fun c3 => ?_) (fun c3 => ?_)
      · have h := h.1 c3
        refine lv_iconst (v := -1) hx hb dX8_quiet_66 (by decide) ?_
        exact W.iret (v := (-1)) hx hb hr (fun t ht hW => ⟨⟨(-1), T, rfl, h, by rw [ht]; exact hP, va_K.moved hW.alike hK, hD⟩, hS.F ht⟩) hS.2.2 dX8_quiet_67
      · have h := h.2 c3
        refine lv_aload_n hx hb dX8_quiet_19 rfl (lv_at hl 0 rfl) ?_
        refine va_get (D := D) (ci := 7) (v := .ref (a 5)) (C := RX8) (T := TX8) (N := 25) hx hb hts inX8 hown hK hP 0 rfl rfl 5 (by decide) (hts _ q_1082) (fun _ h9 => h9) rfl dX8_quiet_20 ?_
        refine lv_bipush (v := 20) hx hb dX8_quiet_23 (by decide) ?_
        refine ar_il (f := (T.2 5)) (n := 342) (j := 20) hx hb hK hP 5 rfl (by decide) (okLit (by decide)) dX8_quiet_25 ?_
        refine lv_if_ne (tgt := 52) hx hb dX8_quiet_26 (by decide) (fun c4 => ?_) (fun c4 => ?_)
        · have h := h.1 c4
          refine lv_aload_n hx hb dX8_quiet_52 rfl (lv_at hl 0 rfl) ?_
          refine lv_aload_n hx hb dX8_quiet_53 rfl (lv_at hl 0 rfl) ?_
          refine va_get (D := D) (ci := 7) (v := .ref (a 5)) (C := RX8) (T := TX8) (N := 25) hx hb hts inX8 hown hK hP 0 rfl rfl 5 (by decide) (hts _ q_1082) (fun _ h9 => h9) rfl dX8_quiet_54 ?_
          refine cl_v (ws' := fun u5 => (wX8 cI cZ a (mthen T u5.1 u5.2))) (va_runV (As := [.ref (a 5)]) (rest := []) ⟨hx, hb, hml, hown, hts⟩ (c_X8_cycle l D cI cZ a (fun k => a (k + 5)) false _ (T, (T.2 5)) _ h (fun h => absurd h (by decide))) (cwV 1 hts (gV q_1221 q_1223 q_33 q_75 q_1224) rfl rfl rfl (by decide +kernel) ⟨Nat.le_of_ble_eq_true rfl, Nat.le_of_ble_eq_true rfl⟩) (preTV_of (ci := 7) (q := (RX8, TX8, 25)) hF hS hA hK hP hD [0, 1, 2, 3, 6, 7, 8, 9, 10, 11, 12, 5] rfl rfl (by decide) 0 rfl rfl) rfl rfl hl.1 rfl (lv_room (Nat.le_of_ble_eq_true rfl)) dX8_quiet_57 ⟨Nat.zero_le _, Nat.zero_le _⟩) hP hD hS hA [0, 1, 2, 3, 6, 7, 8, 9, 10, 11, 12, 5] [.inl 0, .inl 1, .inl 2, .inl 3, .inr 4, .inl 11, .inl 4, .inl 5, .inl 6, .inl 7, .inl 8, .inl 9, .inl 10, .inr 13, .inr 14, .inr 15, .inr 16, .inr 17] rfl (by decide) (fun _ => rfl) (fun _ => rfl) (fun u5 H locs h hP hD hS => ?_)
          obtain ⟨x6, ex6⟩ : ∃ y : Int32, y = (y2 + 1) := ⟨_, rfl⟩
          have h := h x6 ex6
          refine lv_iinc (v := x6) (lv' := [(2, .int x6), (0, .ref (a 0))]) hx hb dX8_quiet_60 hl (k := 1) rfl (by rw [ex6]; rfl) (by decide) rfl (fun ls hl => ?_)
          refine lv_goto (tgt := 12) hx hb dX8_quiet_63 (by decide) ?_
          exact ih x6 (mthen T u5.1 u5.2) _ _ _ hP hD hS (lv_sub hl [1, 0] rfl) h
        · have h := h.2 c4
          refine lv_aload_n hx hb dX8_quiet_29 rfl (lv_at hl 0 rfl) ?_
          refine va_get (D := D) (ci := 7) (v := .ref (a 5)) (C := RX8) (T := TX8) (N := 25) hx hb hts inX8 hown hK hP 0 rfl rfl 5 (by decide) (hts _ q_1082) (fun _ h9 => h9) rfl dX8_quiet_30 ?_
          refine lv_bipush (v := 30) hx hb dX8_quiet_33 (by decide) ?_
          refine ar_il (f := (T.2 5)) (n := 342) (j := 30) hx hb hK hP 5 rfl (by decide) (okLit (by decide)) dX8_quiet_35 ?_
          refine lv_if_ne (tgt := 52) hx hb dX8_quiet_36 (by decide) (fun c7 => ?_) (fun c7 => ?_)
          · have h := h.1 c7
            refine lv_aload_n hx hb dX8_quiet_52 rfl (lv_at hl 0 rfl) ?_
            refine lv_aload_n hx hb dX8_quiet_53 rfl (lv_at hl 0 rfl) ?_
            refine va_get (D := D) (ci := 7) (v := .ref (a 5)) (C := RX8) (T := TX8) (N := 25) hx hb hts inX8 hown hK hP 0 rfl rfl 5 (by decide) (hts _ q_1082) (fun _ h9 => h9) rfl dX8_quiet_54 ?_
            refine cl_v (ws' := fun u8 => (wX8 cI cZ a (mthen T u8.1 u8.2))) (va_runV (As := [.ref (a 5)]) (rest := []) ⟨hx, hb, hml, hown, hts⟩ (c_X8_cycle l D cI cZ a (fun k => a (k + 5)) false _ (T, (T.2 5)) _ h (fun h => absurd h (by decide))) (cwV 1 hts (gV q_1221 q_1223 q_33 q_75 q_1224) rfl rfl rfl (by decide +kernel) ⟨Nat.le_of_ble_eq_true rfl, Nat.le_of_ble_eq_true rfl⟩) (preTV_of (ci := 7) (q := (RX8, TX8, 25)) hF hS hA hK hP hD [0, 1, 2, 3, 6, 7, 8, 9, 10, 11, 12, 5] rfl rfl (by decide) 0 rfl rfl) rfl rfl hl.1 rfl (lv_room (Nat.le_of_ble_eq_true rfl)) dX8_quiet_57 ⟨Nat.zero_le _, Nat.zero_le _⟩) hP hD hS hA [0, 1, 2, 3, 6, 7, 8, 9, 10, 11, 12, 5] [.inl 0, .inl 1, .inl 2, .inl 3, .inr 4, .inl 11, .inl 4, .inl 5, .inl 6, .inl 7, .inl 8, .inl 9, .inl 10, .inr 13, .inr 14, .inr 15, .inr 16, .inr 17] rfl (by decide) (fun _ => rfl) (fun _ => rfl) (fun u8 H locs h hP hD hS => ?_)
            obtain ⟨x9, ex9⟩ : ∃ y : Int32, y = (y2 + 1) := ⟨_, rfl⟩
            have h := h x9 ex9
            refine lv_iinc (v := x9) (lv' := [(2, .int x9), (0, .ref (a 0))]) hx hb dX8_quiet_60 hl (k := 1) rfl (by rw [ex9]; rfl) (by decide) rfl (fun ls hl => ?_)
            refine lv_goto (tgt := 12) hx hb dX8_quiet_63 (by decide) ?_
            exact ih x9 (mthen T u8.1 u8.2) _ _ _ hP hD hS (lv_sub hl [1, 0] rfl) h
          · have h := h.2 c7
            refine lv_aload_n hx hb dX8_quiet_39 rfl (lv_at hl 0 rfl) ?_
            refine lv_aload_n hx hb dX8_quiet_40 rfl (lv_at hl 0 rfl) ?_
            refine va_get (D := D) (ci := 7) (v := .ref (a 5)) (C := RX8) (T := TX8) (N := 25) hx hb hts inX8 hown hK hP 0 rfl rfl 5 (by decide) (hts _ q_1082) (fun _ h9 => h9) rfl dX8_quiet_41 ?_
            refine cl_i (ws' := fun u10 => (wX8 cI cZ a (mthen T u10.1 u10.2))) (va_runV (As := [.ref (a 5)]) (rest := []) ⟨hx, hb, hml, hown, hts⟩ (c_X8_nextOf_ l D cI cZ a (fun k => a (k + 5)) false _ (T, (T.2 5)) _ h (fun h => absurd h (by decide))) (cwV 1 hts (gV q_1229 q_1231 q_35 q_75 q_1232) rfl rfl rfl (by decide +kernel) ⟨Nat.le_of_ble_eq_true rfl, Nat.le_of_ble_eq_true rfl⟩) (preV_of (ci := 7) (q := (RX8, TX8, 25)) hK hP hD [0, 1, 2, 3, 6, 7, 8, 9, 10, 11, 12, 5] rfl rfl (by decide) 0 rfl rfl) rfl rfl hl.1 rfl (lv_room (Nat.le_of_ble_eq_true rfl)) dX8_quiet_44 ⟨Nat.zero_le _, Nat.zero_le _⟩) hP hD hS hA [0, 1, 2, 3, 6, 7, 8, 9, 10, 11, 12, 5] [.inl 0, .inl 1, .inl 2, .inl 3, .inr 4, .inl 11, .inl 4, .inl 5, .inl 6, .inl 7, .inl 8, .inl 9, .inl 10, .inr 13, .inr 14, .inr 15, .inr 16, .inr 17] rfl (by decide) (fun _ => rfl) (fun _ => rfl) (fun r11 u10 H locs h hP hD hS => ?_)
            refine lv_if_ge (tgt := 52) hx hb dX8_quiet_47 (by decide) (fun c12 => ?_) (fun c12 => ?_)
            · have h := h.1 c12
              refine lv_aload_n hx hb dX8_quiet_52 rfl (lv_at hl 0 rfl) ?_
              refine lv_aload_n hx hb dX8_quiet_53 rfl (lv_at hl 0 rfl) ?_
              refine va_get (D := D) (ci := 7) (v := .ref (a 5)) (C := RX8) (T := TX8) (N := 25) hx hb hts inX8 hown hK hP 0 rfl rfl 5 (by decide) (hts _ q_1082) (fun _ h9 => h9) rfl dX8_quiet_54 ?_
              refine cl_v (ws' := fun u13 => (wX8 cI cZ a (mthen (mthen T u10.1 u10.2) u13.1 u13.2))) (va_runV (As := [.ref (a 5)]) (rest := []) ⟨hx, hb, hml, hown, hts⟩ (c_X8_cycle l D cI cZ a (fun k => a (k + 5)) false _ ((mthen T u10.1 u10.2), u10.2) _ h (fun h => absurd h (by decide))) (cwV 1 hts (gV q_1221 q_1223 q_33 q_75 q_1224) rfl rfl rfl (by decide +kernel) ⟨Nat.le_of_ble_eq_true rfl, Nat.le_of_ble_eq_true rfl⟩) (preTV_of (ci := 7) (q := (RX8, TX8, 25)) hF hS hA hK hP hD [0, 1, 2, 3, 6, 7, 8, 9, 10, 11, 12, 5] rfl rfl (by decide) 0 rfl rfl) rfl rfl hl.1 rfl (lv_room (Nat.le_of_ble_eq_true rfl)) dX8_quiet_57 ⟨Nat.zero_le _, Nat.zero_le _⟩) hP hD hS hA [0, 1, 2, 3, 6, 7, 8, 9, 10, 11, 12, 5] [.inl 0, .inl 1, .inl 2, .inl 3, .inr 4, .inl 11, .inl 4, .inl 5, .inl 6, .inl 7, .inl 8, .inl 9, .inl 10, .inr 13, .inr 14, .inr 15, .inr 16, .inr 17] rfl (by decide) (fun _ => rfl) (fun _ => rfl) (fun u13 H locs h hP hD hS => ?_)
              obtain ⟨x14, ex14⟩ : ∃ y : Int32, y = (y2 + 1) := ⟨_, rfl⟩
              have h := h x14 ex14
              refine lv_iinc (v := x14) (lv' := [(2, .int x14), (0, .ref (a 0))]) hx hb dX8_quiet_60 hl (k := 1) rfl (by rw [ex14]; rfl) (by decide) rfl (fun ls hl => ?_)
              refine lv_goto (tgt := 12) hx hb dX8_quiet_63 (by decide) ?_
              exact ih x14 (mthen (mthen T u10.1 u10.2) u13.1 u13.2) _ _ _ hP hD hS (lv_sub hl [1, 0] rfl) h
            · have h := h.2 c12
              refine lv_iload_n hx hb dX8_quiet_50 rfl (lv_at hl 1 rfl) ?_
              exact W.iret (v := y2) hx hb hr (fun t ht hW => ⟨⟨y2, (mthen T u10.1 u10.2), rfl, h, by rw [ht]; exact hP, va_K.moved hW.alike hK, hD⟩, hS.F ht⟩) hS.2.2 dX8_quiet_51
  have hl := lv_entry ([.ref (a 0), .int p0]) (n := 3) (Nat.le_of_ble_eq_true rfl)
  rw [lg_entry_eq]
  generalize (lg_sl ([.ref (a 0), .int p0]) ++ List.replicate (3 - (lg_sl ([.ref (a 0), .int p0])).length) Slot.unset).toArray = ls at hl ⊢
  have hl : lv_has ls 3 [(0, .ref (a 0)), (1, .int p0)] := hl
  unfold wp_X8_quiet at h
  refine lv_aload_n hx hb dX8_quiet_0 rfl (lv_at hl 0 rfl) ?_
  refine lv_iconst (v := 0) hx hb dX8_quiet_1 (by decide) ?_
  obtain ⟨T1, eT1⟩ : ∃ z : Ob, z = (si S 17 0) := ⟨_, rfl⟩
  refine pu_f (ci := 7) (v := .int 0) (ty := .int) (C := RX8) (T := TX8) (N := 25) hx hb hts inX8 tyX8 tyX8_ok nmX8 hown hK hP hD hS 0 rfl rfl 17 (by decide) (hts _ q_1094) (fun _ h9 => h9) rfl rfl rfl rfl (Nat.le_of_ble_eq_true rfl) dX8_quiet_2 (wX8 cI cZ a T1) (by subst eT1; rfl) (fun H locs hP hD hS => ?_)
  have h := h T1 eT1
  refine lv_aload_n hx hb dX8_quiet_5 rfl (lv_at hl 0 rfl) ?_
  refine lv_iload_n hx hb dX8_quiet_6 rfl (lv_at hl 1 rfl) ?_
  refine cl_v (ws' := fun u2 => (wX8 cI cZ a u2)) (va_runV (As := [.int p0]) (rest := []) ⟨hx, hb, hml, hown, hts⟩ (c_X8_likeNow l D cI cZ a _ T1 p0 _ h ) (cwV 1 hts (gV q_1450 q_1452 q_60 q_75 q_1453) rfl rfl rfl (by decide +kernel) ⟨Nat.le_of_ble_eq_true rfl, Nat.le_of_ble_eq_true rfl⟩) (preV_of (ci := 7) (q := (RX8, TX8, 25)) hK hP hD [0, 1, 2, 3, 4, 5, 6, 7, 8, 9, 10, 11, 12, 13, 14, 15, 16, 17] rfl rfl (by decide) 0 rfl rfl) rfl rfl hl.1 rfl (lv_room (Nat.le_of_ble_eq_true rfl)) dX8_quiet_7 ⟨Nat.zero_le _, Nat.zero_le _⟩) hP hD hS hA [0, 1, 2, 3, 4, 5, 6, 7, 8, 9, 10, 11, 12, 13, 14, 15, 16, 17] [.inl 0, .inl 1, .inl 2, .inl 3, .inl 4, .inl 5, .inl 6, .inl 7, .inl 8, .inl 9, .inl 10, .inl 11, .inl 12, .inl 13, .inl 14, .inl 15, .inl 16, .inl 17] rfl (by decide) (fun _ => rfl) (fun _ => rfl) (fun u2 H locs h hP hD hS => ?_)
  refine lv_iconst (v := 0) hx hb dX8_quiet_10 (by decide) ?_
  refine lv_istore_n (lv' := [(2, .int 0), (0, .ref (a 0)), (1, .int p0)]) hx hb dX8_quiet_11 rfl hl (by decide) rfl (fun ls hl => ?_)
  exact L12 2000 0 u2 _ _ _ hP hD hS (lv_sub hl [1, 0] rfl) h
/-! X8_window -/
abbrev rmX8_window : Room := { frames := 9, cells := 0, slots := 0, locals := 211 }
set_option maxHeartbeats 4000000 in
set_option maxRecDepth 100000 in
theorem c_X8_window (l : Launch) (D : va_G) (cI cZ : ClassId) (a : Nat → Nat) (sz : Nat) (S : Ob) (p0 : Int32) (Q : Int32 → Ob → Prop) (h : wp_X8_window S p0 Q) : Met l yX8_window (wsm yX8_window cX8_window 5 (some .int)) rmX8_window (va_Pc [.ref (a 0), .int p0] (preT D cI cZ sz (wX8 cI cZ a S))) (va_Qi Q (fun u => atW D cI cZ (va_A (wX8 cI cZ a S) sz) (wX8 cI cZ a u)) (va_A (wX8 cI cZ a S) sz)) 0 0 (va_A (wX8 cI cZ a S) sz) := by
  refine Met.ofW (cc := cX8_window) (maxL := 5) (ret := (some .int)) (by decide) rfl ?_
  intro p e s m args below meth c s₁ B hml hv
  obtain ⟨rfl, ⟨hsz, hP, hK, hD0⟩, hF⟩ := hv
  have hx := B.exec
  have hb := B.bytes
  have hr := B.returns
  have hts0 := atoms_spec (ws := wsm yX8_window cX8_window 5 (some .int)) B.pre
  have hts : ∀ w ∈ lw_all, w.before _ s = true := fun w h => hts0 w (List.mem_cons_of_mem _ h)
  have hown : s.vm.findClass RX8 = some m.cls := findClass_of_methodNamed B.named
  have hlocks := B.notSynchronized
  subst hsz
  have hD := hD0.self (sz := s.heap.size)
  generalize hAe : va_A (wX8 cI cZ a S) s.heap.size = A at hD hF ⊢
  have hA : ∀ q : Nat, s.heap.size ≤ q → A q := fun q h => by rw [← hAe]; exact Or.inr h
  have hS : va_S A s.heap s.heap [] := va_S.rf
  have hml2 := hml
  have L72 : ∀ (k21 : Int32 → Int32 → Int32 → Ob → Prop) (K21 : ∀ (y1 : Int32) (y2 : Int32) (y3 : Int32) (T : Ob) (H : Heap) (locs : List Loc) (ls : Array Slot), va_P D vwCl (wX8 cI cZ a T) H → va_D A (wX8 cI cZ a T) → va_S A s.heap H locs → lv_has ls 5 [(0, .ref (a 0)), (1, .int y1), (2, .int y2), (3, .int y3)] → k21 y1 y2 y3 T → W p l e rmX8_window s m ([.ref (a 0), .int p0] : List Value).toArray below meth c H locs 0 0 (MQ below (va_Qi Q (fun u => atW D cI cZ A (wX8 cI cZ a u)) A) ([.ref (a 0), .int p0] : List Value).toArray s 0 0 A) (F0 m 21 ls [])) (n : Nat), ∀ (y1 : Int32) (y2 : Int32) (y3 : Int32) (y4 : Int32) (T : Ob) (H : Heap) (locs : List Loc) (ls : Array Slot), va_P D vwCl (wX8 cI cZ a T) H → va_D A (wX8 cI cZ a T) → va_S A s.heap H locs → lv_has ls 5 [(0, .ref (a 0)), (1, .int y1), (2, .int y2), (3, .int y3), (4, .int y4)] → wp_X8_window_L72 Q k21 n y1 y2 y3 y4 T → W p l e rmX8_window s m ([.ref (a 0), .int p0] : List Value).toArray below meth c H locs 0 0 (MQ below (va_Qi Q (fun u => atW D cI cZ A (wX8 cI cZ a u)) A) ([.ref (a 0), .int p0] : List Value).toArray s 0 0 A) (F0 m 72 ls []) := by
    intro k21 K21 n
    induction n with
    | zero =>
      intro y1 y2 y3 y4 T H locs ls hP hD hS hl h
      exact False.elim h
    | succ n ih =>
      intro y1 y2 y3 y4 T H locs ls hP hD hS hl h
      unfold wp_X8_window_L72 at h
      refine lv_iload hx hb dX8_window_72 (lv_at hl 4 rfl) ?_
      refine lv_bipush (v := 40) hx hb dX8_window_74 (by decide) ?_
      refine lv_icmp_ge (tgt := 100) hx hb dX8_window_76 (by decide) (fun c12 => ?_) (fun c12 => ?_)
      · have h := h.1 c12
        refine lv_aload_n hx hb dX8_window_100 rfl (lv_at hl 0 rfl) ?_
        refine va_get (D := D) (ci := 7) (v := .int (T.1 16)) (C := RX8) (T := TX8) (N := 25) hx hb hts inX8 hown hK hP 0 rfl rfl 16 (by decide) (hts _ q_1093) (fun _ h9 => h9) rfl dX8_window_101 ?_
        refine lv_iload_n hx hb dX8_window_104 rfl (lv_at hl 1 rfl) ?_
        refine lv_icmp_ne (tgt := 114) hx hb dX8_window_105 (by decide) (fun c13 => ?_) (fun c13 => ?_)
        · have h := h.1 c13
          obtain ⟨x14, ex14⟩ : ∃ y : Int32, y = (y3 + 1) := ⟨_, rfl⟩
          have h := h x14 ex14
          refine lv_iinc (v := x14) (lv' := [(3, .int x14), (0, .ref (a 0)), (1, .int y1), (2, .int y2), (4, .int y4)]) hx hb dX8_window_114 hl (k := 3) rfl (by rw [ex14]; rfl) (by decide) rfl (fun ls hl => ?_)
          refine lv_goto (tgt := 21) hx hb dX8_window_117 (by decide) ?_
          exact K21 y1 y2 x14 T _ _ _ hP hD hS (lv_sub hl [1, 2, 3, 0] rfl) h
        · have h := h.2 c13
          refine lv_iload_n hx hb dX8_window_108 rfl (lv_at hl 2 rfl) ?_
          refine lv_iconst (v := 1) hx hb dX8_window_109 (by decide) ?_
          refine lv_iload_n hx hb dX8_window_110 rfl (lv_at hl 3 rfl) ?_
          refine lv_ishl hx hb dX8_window_111 ?_
          refine lv_ior hx hb dX8_window_112 ?_
          refine lv_topi (fun x15 ex15 => ?_)
          have h := h x15 ex15
          refine lv_istore_n (lv' := [(2, .int x15), (0, .ref (a 0)), (1, .int y1), (3, .int y3), (4, .int y4)]) hx hb dX8_window_113 rfl hl (by decide) rfl (fun ls hl => ?_)
          obtain ⟨x16, ex16⟩ : ∃ y : Int32, y = (y3 + 1) := ⟨_, rfl⟩
          have h := h x16 ex16
          refine lv_iinc (v := x16) (lv' := [(3, .int x16), (2, .int x15), (0, .ref (a 0)), (1, .int y1), (4, .int y4)]) hx hb dX8_window_114 hl (k := 3) rfl (by rw [ex16]; rfl) (by decide) rfl (fun ls hl => ?_)
          refine lv_goto (tgt := 21) hx hb dX8_window_117 (by decide) ?_
          exact K21 y1 x15 x16 T _ _ _ hP hD hS (lv_sub hl [2, 3, 1, 0] rfl) h
      · have h := h.2 c12
        refine lv_aload_n hx hb dX8_window_79 rfl (lv_at hl 0 rfl) ?_
        refine va_get (D := D) (ci := 7) (v := .int (T.1 16)) (C := RX8) (T := TX8) (N := 25) hx hb hts inX8 hown hK hP 0 rfl rfl 16 (by decide) (hts _ q_1093) (fun _ h9 => h9) rfl dX8_window_80 ?_
        refine lv_if_ge (tgt := 100) hx hb dX8_window_83 (by decide) (fun c17 => ?_) (fun c17 => ?_)
        · have h := h.1 c17
          refine lv_aload_n hx hb dX8_window_100 rfl (lv_at hl 0 rfl) ?_
          refine va_get (D := D) (ci := 7) (v := .int (T.1 16)) (C := RX8) (T := TX8) (N := 25) hx hb hts inX8 hown hK hP 0 rfl rfl 16 (by decide) (hts _ q_1093) (fun _ h9 => h9) rfl dX8_window_101 ?_
          refine lv_iload_n hx hb dX8_window_104 rfl (lv_at hl 1 rfl) ?_
          refine lv_icmp_ne (tgt := 114) hx hb dX8_window_105 (by decide) (fun c18 => ?_) (fun c18 => ?_)
          · have h := h.1 c18
            obtain ⟨x19, ex19⟩ : ∃ y : Int32, y = (y3 + 1) := ⟨_, rfl⟩
            have h := h x19 ex19
            refine lv_iinc (v := x19) (lv' := [(3, .int x19), (0, .ref (a 0)), (1, .int y1), (2, .int y2), (4, .int y4)]) hx hb dX8_window_114 hl (k := 3) rfl (by rw [ex19]; rfl) (by decide) rfl (fun ls hl => ?_)
            refine lv_goto (tgt := 21) hx hb dX8_window_117 (by decide) ?_
            exact K21 y1 y2 x19 T _ _ _ hP hD hS (lv_sub hl [1, 2, 3, 0] rfl) h
          · have h := h.2 c18
            refine lv_iload_n hx hb dX8_window_108 rfl (lv_at hl 2 rfl) ?_
            refine lv_iconst (v := 1) hx hb dX8_window_109 (by decide) ?_
            refine lv_iload_n hx hb dX8_window_110 rfl (lv_at hl 3 rfl) ?_
            refine lv_ishl hx hb dX8_window_111 ?_
            refine lv_ior hx hb dX8_window_112 ?_
            refine lv_topi (fun x20 ex20 => ?_)
            have h := h x20 ex20
            refine lv_istore_n (lv' := [(2, .int x20), (0, .ref (a 0)), (1, .int y1), (3, .int y3), (4, .int y4)]) hx hb dX8_window_113 rfl hl (by decide) rfl (fun ls hl => ?_)
            obtain ⟨x21, ex21⟩ : ∃ y : Int32, y = (y3 + 1) := ⟨_, rfl⟩
            have h := h x21 ex21
            refine lv_iinc (v := x21) (lv' := [(3, .int x21), (2, .int x20), (0, .ref (a 0)), (1, .int y1), (4, .int y4)]) hx hb dX8_window_114 hl (k := 3) rfl (by rw [ex21]; rfl) (by decide) rfl (fun ls hl => ?_)
            refine lv_goto (tgt := 21) hx hb dX8_window_117 (by decide) ?_
            exact K21 y1 x20 x21 T _ _ _ hP hD hS (lv_sub hl [2, 3, 1, 0] rfl) h
        · have h := h.2 c17
          refine lv_aload_n hx hb dX8_window_86 rfl (lv_at hl 0 rfl) ?_
          refine lv_aload_n hx hb dX8_window_87 rfl (lv_at hl 0 rfl) ?_
          refine va_get (D := D) (ci := 7) (v := .ref (a 5)) (C := RX8) (T := TX8) (N := 25) hx hb hts inX8 hown hK hP 0 rfl rfl 5 (by decide) (hts _ q_1082) (fun _ h9 => h9) rfl dX8_window_88 ?_
          refine cl_v (ws' := fun u22 => (wX8 cI cZ a (mthen T u22.1 u22.2))) (va_runV (As := [.ref (a 5)]) (rest := []) ⟨hx, hb, hml, hown, hts⟩ (c_X8_cycle l D cI cZ a (fun k => a (k + 5)) false _ (T, (T.2 5)) _ h (fun h => absurd h (by decide))) (cwV 1 hts (gV q_1221 q_1223 q_33 q_75 q_1224) rfl rfl rfl (by decide +kernel) ⟨Nat.le_of_ble_eq_true rfl, Nat.le_of_ble_eq_true rfl⟩) (preTV_of (ci := 7) (q := (RX8, TX8, 25)) hF hS hA hK hP hD [0, 1, 2, 3, 6, 7, 8, 9, 10, 11, 12, 5] rfl rfl (by decide) 0 rfl rfl) rfl rfl hl.1 rfl (lv_room (Nat.le_of_ble_eq_true rfl)) dX8_window_91 ⟨Nat.zero_le _, Nat.zero_le _⟩) hP hD hS hA [0, 1, 2, 3, 6, 7, 8, 9, 10, 11, 12, 5] [.inl 0, .inl 1, .inl 2, .inl 3, .inr 4, .inl 11, .inl 4, .inl 5, .inl 6, .inl 7, .inl 8, .inl 9, .inl 10, .inr 13, .inr 14, .inr 15, .inr 16, .inr 17] rfl (by decide) (fun _ => rfl) (fun _ => rfl) (fun u22 H locs h hP hD hS => ?_)
          obtain ⟨x23, ex23⟩ : ∃ y : Int32, y = (y4 + 1) := ⟨_, rfl⟩
          have h := h x23 ex23
          refine lv_iinc (v := x23) (lv' := [(4, .int x23), (0, .ref (a 0)), (1, .int y1), (2, .int y2), (3, .int y3)]) hx hb dX8_window_94 hl (k := 4) rfl (by rw [ex23]; rfl) (by decide) rfl (fun ls hl => ?_)
          refine lv_goto (tgt := 72) hx hb dX8_window_97 (by decide) ?_
          exact ih y1 y2 y3 x23 (mthen T u22.1 u22.2) _ _ _ hP hD hS (lv_sub hl [1, 2, 3, 4, 0] rfl) h
  have L35 : ∀ (k21 : Int32 → Int32 → Int32 → Ob → Prop) (K21 : ∀ (y1 : Int32) (y2 : Int32) (y3 : Int32) (T : Ob) (H : Heap) (locs : List Loc) (ls : Array Slot), va_P D vwCl (wX8 cI cZ a T) H → va_D A (wX8 cI cZ a T) → va_S A s.heap H locs → lv_has ls 5 [(0, .ref (a 0)), (1, .int y1), (2, .int y2), (3, .int y3)] → k21 y1 y2 y3 T → W p l e rmX8_window s m ([.ref (a 0), .int p0] : List Value).toArray below meth c H locs 0 0 (MQ below (va_Qi Q (fun u => atW D cI cZ A (wX8 cI cZ a u)) A) ([.ref (a 0), .int p0] : List Value).toArray s 0 0 A) (F0 m 21 ls [])) (n : Nat), ∀ (y1 : Int32) (y2 : Int32) (y3 : Int32) (y4 : Int32) (T : Ob) (H : Heap) (locs : List Loc) (ls : Array Slot), va_P D vwCl (wX8 cI cZ a T) H → va_D A (wX8 cI cZ a T) → va_S A s.heap H locs → lv_has ls 5 [(0, .ref (a 0)), (1, .int y1), (2, .int y2), (3, .int y3), (4, .int y4)] → wp_X8_window_L35 Q k21 n y1 y2 y3 y4 T → W p l e rmX8_window s m ([.ref (a 0), .int p0] : List Value).toArray below meth c H locs 0 0 (MQ below (va_Qi Q (fun u => atW D cI cZ A (wX8 cI cZ a u)) A) ([.ref (a 0), .int p0] : List Value).toArray s 0 0 A) (F0 m 35 ls []) := by
    intro k21 K21 n
    induction n with
    | zero =>
      intro y1 y2 y3 y4 T H locs ls hP hD hS hl h
      exact False.elim h
    | succ n ih =>
      intro y1 y2 y3 y4 T H locs ls hP hD hS hl h
      unfold wp_X8_window_L35 at h
      refine lv_iload hx hb dX8_window_35 (lv_at hl 4 rfl) ?_
      refine lv_iload_n hx hb dX8_window_37 rfl (lv_at hl 3 rfl) ?_
      refine lv_icmp_ge (tgt := 55) hx hb dX8_window_38 (by decide) (fun c7 => ?_) (fun c7 => ?_)
      · have h := h.1 c7
        refine lv_aload_n hx hb dX8_window_55 rfl (lv_at hl 0 rfl) ?_
        refine lv_aload_n hx hb dX8_window_56 rfl (lv_at hl 0 rfl) ?_
        refine va_get (D := D) (ci := 7) (v := .ref (a 5)) (C := RX8) (T := TX8) (N := 25) hx hb hts inX8 hown hK hP 0 rfl rfl 5 (by decide) (hts _ q_1082) (fun _ h9 => h9) rfl dX8_window_57 ?_
        refine lv_iload_n hx hb dX8_window_60 rfl (lv_at hl 1 rfl) ?_
        refine cl_v (ws' := fun u8 => (wX8 cI cZ a (mthen T u8.1 u8.2))) (va_runV (As := [.ref (a 5), .int y1]) (rest := []) ⟨hx, hb, hml, hown, hts⟩ (c_X8_pends l D cI cZ a (fun k => a (k + 5)) false _ (T, (T.2 5)) y1 _ h (fun h => absurd h (by decide))) (cwV 2 hts (gV q_1189 q_1191 q_30 q_75 q_1192) rfl rfl rfl (by decide +kernel) ⟨Nat.le_of_ble_eq_true rfl, Nat.le_of_ble_eq_true rfl⟩) (preV_of (ci := 7) (q := (RX8, TX8, 25)) hK hP hD [0, 1, 2, 3, 6, 7, 8, 9, 10, 11, 12, 5] rfl rfl (by decide) 0 rfl rfl) rfl rfl hl.1 rfl (lv_room (Nat.le_of_ble_eq_true rfl)) dX8_window_61 ⟨Nat.zero_le _, Nat.zero_le _⟩) hP hD hS hA [0, 1, 2, 3, 6, 7, 8, 9, 10, 11, 12, 5] [.inl 0, .inl 1, .inl 2, .inl 3, .inr 4, .inl 11, .inl 4, .inl 5, .inl 6, .inl 7, .inl 8, .inl 9, .inl 10, .inr 13, .inr 14, .inr 15, .inr 16, .inr 17] rfl (by decide) (fun _ => rfl) (fun _ => rfl) (fun u8 H locs h hP hD hS => ?_)
        refine lv_aload_n hx hb dX8_window_64 rfl (lv_at hl 0 rfl) ?_
        refine lv_iconst (v := -1) hx hb dX8_window_65 (by decide) ?_
        obtain ⟨T9, eT9⟩ : ∃ z : Ob, z = (si (mthen T u8.1 u8.2) 16 (-1)) := ⟨_, rfl⟩
        refine pu_f (ci := 7) (v := .int (-1)) (ty := .int) (C := RX8) (T := TX8) (N := 25) hx hb hts inX8 tyX8 tyX8_ok nmX8 hown hK hP hD hS 0 rfl rfl 16 (by decide) (hts _ q_1093) (fun _ h9 => h9) rfl rfl rfl rfl (Nat.le_of_ble_eq_true rfl) dX8_window_66 (wX8 cI cZ a T9) (by subst eT9; rfl) (fun H locs hP hD hS => ?_)
        have h := h T9 eT9
        refine lv_iconst (v := 0) hx hb dX8_window_69 (by decide) ?_
        refine lv_istore (lv' := [(4, .int 0), (0, .ref (a 0)), (1, .int y1), (2, .int y2), (3, .int y3)]) hx hb dX8_window_70 hl (by decide) rfl (fun ls hl => ?_)
        exact L72 _ K21 2000 y1 y2 y3 0 T9 _ _ _ hP hD hS (lv_sub hl [1, 2, 3, 4, 0] rfl) h
      · have h := h.2 c7
        refine lv_aload_n hx hb dX8_window_41 rfl (lv_at hl 0 rfl) ?_
        refine lv_aload_n hx hb dX8_window_42 rfl (lv_at hl 0 rfl) ?_
        refine va_get (D := D) (ci := 7) (v := .ref (a 5)) (C := RX8) (T := TX8) (N := 25) hx hb hts inX8 hown hK hP 0 rfl rfl 5 (by decide) (hts _ q_1082) (fun _ h9 => h9) rfl dX8_window_43 ?_
        refine cl_v (ws' := fun u10 => (wX8 cI cZ a (mthen T u10.1 u10.2))) (va_runV (As := [.ref (a 5)]) (rest := []) ⟨hx, hb, hml, hown, hts⟩ (c_X8_cycle l D cI cZ a (fun k => a (k + 5)) false _ (T, (T.2 5)) _ h (fun h => absurd h (by decide))) (cwV 1 hts (gV q_1221 q_1223 q_33 q_75 q_1224) rfl rfl rfl (by decide +kernel) ⟨Nat.le_of_ble_eq_true rfl, Nat.le_of_ble_eq_true rfl⟩) (preTV_of (ci := 7) (q := (RX8, TX8, 25)) hF hS hA hK hP hD [0, 1, 2, 3, 6, 7, 8, 9, 10, 11, 12, 5] rfl rfl (by decide) 0 rfl rfl) rfl rfl hl.1 rfl (lv_room (Nat.le_of_ble_eq_true rfl)) dX8_window_46 ⟨Nat.zero_le _, Nat.zero_le _⟩) hP hD hS hA [0, 1, 2, 3, 6, 7, 8, 9, 10, 11, 12, 5] [.inl 0, .inl 1, .inl 2, .inl 3, .inr 4, .inl 11, .inl 4, .inl 5, .inl 6, .inl 7, .inl 8, .inl 9, .inl 10, .inr 13, .inr 14, .inr 15, .inr 16, .inr 17] rfl (by decide) (fun _ => rfl) (fun _ => rfl) (fun u10 H locs h hP hD hS => ?_)
        obtain ⟨x11, ex11⟩ : ∃ y : Int32, y = (y4 + 1) := ⟨_, rfl⟩
        have h := h x11 ex11
        refine lv_iinc (v := x11) (lv' := [(4, .int x11), (0, .ref (a 0)), (1, .int y1), (2, .int y2), (3, .int y3)]) hx hb dX8_window_49 hl (k := 4) rfl (by rw [ex11]; rfl) (by decide) rfl (fun ls hl => ?_)
        refine lv_goto (tgt := 35) hx hb dX8_window_52 (by decide) ?_
        exact ih y1 y2 y3 x11 (mthen T u10.1 u10.2) _ _ _ hP hD hS (lv_sub hl [1, 2, 3, 4, 0] rfl) h
  have L21 : ∀ (n : Nat), ∀ (y1 : Int32) (y2 : Int32) (y3 : Int32) (T : Ob) (H : Heap) (locs : List Loc) (ls : Array Slot), va_P D vwCl (wX8 cI cZ a T) H → va_D A (wX8 cI cZ a T) → va_S A s.heap H locs → lv_has ls 5 [(0, .ref (a 0)), (1, .int y1), (2, .int y2), (3, .int y3)] → wp_X8_window_L21 Q n y1 y2 y3 T → W p l e rmX8_window s m ([.ref (a 0), .int p0] : List Value).toArray below meth c H locs 0 0 (MQ below (va_Qi Q (fun u => atW D cI cZ A (wX8 cI cZ a u)) A) ([.ref (a 0), .int p0] : List Value).toArray s 0 0 A) (F0 m 21 ls []) := by
    intro n
    induction n with
    | zero =>
      intro y1 y2 y3 T H locs ls hP hD hS hl h
      exact False.elim h
    | succ n ih =>
      intro y1 y2 y3 T H locs ls hP hD hS hl h
      unfold wp_X8_window_L21 at h
      refine lv_iload_n hx hb dX8_window_21 rfl (lv_at hl 3 rfl) ?_
      refine lv_bipush (v := 20) hx hb dX8_window_22 (by decide) ?_
      refine lv_icmp_ge (tgt := 120) hx hb dX8_window_24 (by decide) (fun c5 => ?_) (fun c5 => ?_)
      · have h := h.1 c5
        refine lv_iload_n hx hb dX8_window_120 rfl (lv_at hl 2 rfl) ?_
        exact W.iret (v := y2) hx hb hr (fun t ht hW => ⟨⟨y2, T, rfl, h, by rw [ht]; exact hP, va_K.moved hW.alike hK, hD⟩, hS.F ht⟩) hS.2.2 dX8_window_121
      · have h := h.2 c5
        refine lv_aload_n hx hb dX8_window_27 rfl (lv_at hl 0 rfl) ?_
        refine lv_iconst (v := 0) hx hb dX8_window_28 (by decide) ?_
        refine cl_v (ws' := fun u6 => (wX8 cI cZ a u6)) (va_runV (As := [.int 0]) (rest := []) ⟨hx, hb, hml, hown, hts⟩ (c_X8_likeNow l D cI cZ a _ T 0 _ h ) (cwV 1 hts (gV q_1450 q_1452 q_60 q_75 q_1453) rfl rfl rfl (by decide +kernel) ⟨Nat.le_of_ble_eq_true rfl, Nat.le_of_ble_eq_true rfl⟩) (preV_of (ci := 7) (q := (RX8, TX8, 25)) hK hP hD [0, 1, 2, 3, 4, 5, 6, 7, 8, 9, 10, 11, 12, 13, 14, 15, 16, 17] rfl rfl (by decide) 0 rfl rfl) rfl rfl hl.1 rfl (lv_room (Nat.le_of_ble_eq_true rfl)) dX8_window_29 ⟨Nat.zero_le _, Nat.zero_le _⟩) hP hD hS hA [0, 1, 2, 3, 4, 5, 6, 7, 8, 9, 10, 11, 12, 13, 14, 15, 16, 17] [.inl 0, .inl 1, .inl 2, .inl 3, .inl 4, .inl 5, .inl 6, .inl 7, .inl 8, .inl 9, .inl 10, .inl 11, .inl 12, .inl 13, .inl 14, .inl 15, .inl 16, .inl 17] rfl (by decide) (fun _ => rfl) (fun _ => rfl) (fun u6 H locs h hP hD hS => ?_)
        refine lv_iconst (v := 0) hx hb dX8_window_32 (by decide) ?_
        refine lv_istore (lv' := [(4, .int 0), (0, .ref (a 0)), (1, .int y1), (2, .int y2), (3, .int y3)]) hx hb dX8_window_33 hl (by decide) rfl (fun ls hl => ?_)
        exact L35 _ ih 2000 y1 y2 y3 0 u6 _ _ _ hP hD hS (lv_sub hl [1, 2, 3, 4, 0] rfl) h
  have hl := lv_entry ([.ref (a 0), .int p0]) (n := 5) (Nat.le_of_ble_eq_true rfl)
  rw [lg_entry_eq]
  generalize (lg_sl ([.ref (a 0), .int p0]) ++ List.replicate (5 - (lg_sl ([.ref (a 0), .int p0])).length) Slot.unset).toArray = ls at hl ⊢
  have hl : lv_has ls 5 [(0, .ref (a 0)), (1, .int p0)] := hl
  unfold wp_X8_window at h
  refine lv_aload_n hx hb dX8_window_0 rfl (lv_at hl 0 rfl) ?_
  refine lv_iconst (v := 0) hx hb dX8_window_1 (by decide) ?_
  obtain ⟨T1, eT1⟩ : ∃ z : Ob, z = (si S 17 0) := ⟨_, rfl⟩
  refine pu_f (ci := 7) (v := .int 0) (ty := .int) (C := RX8) (T := TX8) (N := 25) hx hb hts inX8 tyX8 tyX8_ok nmX8 hown hK hP hD hS 0 rfl rfl 17 (by decide) (hts _ q_1094) (fun _ h9 => h9) rfl rfl rfl rfl (Nat.le_of_ble_eq_true rfl) dX8_window_2 (wX8 cI cZ a T1) (by subst eT1; rfl) (fun H locs hP hD hS => ?_)
  have h := h T1 eT1
  refine lv_iload_n hx hb dX8_window_5 rfl (lv_at hl 1 rfl) ?_
  refine lv_iconst (v := 0) hx hb dX8_window_6 (by decide) ?_
  refine lv_bipush (v := 17) hx hb dX8_window_7 (by decide) ?_
  refine cl_i (ws' := fun u2 => (wX8 cI cZ a T1)) (va_runS (As := [.int p0, .int 0, .int 17]) (rest := []) ⟨hx, hb, hml, hown, hts⟩ (c_X8_within l D cI cZ _ () p0 0 17 _ h ) (va_cwS 3 hts (gS q_1161 q_1162 q_75 q_1163) rfl rfl rfl (by decide +kernel) ⟨Nat.le_of_ble_eq_true rfl, Nat.le_of_ble_eq_true rfl⟩) (preS_of hK hP hD [] rfl rfl (by decide)) rfl rfl hl.1 rfl (lv_room (Nat.le_of_ble_eq_true rfl)) dX8_window_9 ⟨Nat.zero_le _, Nat.zero_le _⟩) hP hD hS hA [] [.inr 0, .inr 1, .inr 2, .inr 3, .inr 4, .inr 5, .inr 6, .inr 7, .inr 8, .inr 9, .inr 10, .inr 11, .inr 12, .inr 13, .inr 14, .inr 15, .inr 16, .inr 17] rfl (by decide) (fun _ => rfl) (fun _ => rfl) (fun r3 u2 H locs h hP hD hS => ?_)
  refine lv_if_ne (tgt := 17) hx hb dX8_window_12 (by decide) (fun c4 => ?_) (fun c4 => ?_)
  · have h := h.1 c4
    refine lv_iconst (v := 0) hx hb dX8_window_17 (by decide) ?_
    refine lv_istore_n (lv' := [(2, .int 0), (0, .ref (a 0)), (1, .int p0)]) hx hb dX8_window_18 rfl hl (by decide) rfl (fun ls hl => ?_)
    refine lv_iconst (v := 0) hx hb dX8_window_19 (by decide) ?_
    refine lv_istore_n (lv' := [(3, .int 0), (2, .int 0), (0, .ref (a 0)), (1, .int p0)]) hx hb dX8_window_20 rfl hl (by decide) rfl (fun ls hl => ?_)
    exact L21 2000 p0 0 0 T1 _ _ _ hP hD hS (lv_sub hl [2, 3, 1, 0] rfl) h
  · have h := h.2 c4
    refine lv_iconst (v := -1) hx hb dX8_window_15 (by decide) ?_
    exact W.iret (v := (-1)) hx hb hr (fun t ht hW => ⟨⟨(-1), T1, rfl, h, by rw [ht]; exact hP, va_K.moved hW.alike hK, hD⟩, hS.F ht⟩) hS.2.2 dX8_window_16
/-! X8_isLikeNow -/
abbrev rmX8_isLikeNow : Room := { frames := 0, cells := 0, slots := 0, locals := 0 }
set_option maxHeartbeats 4000000 in
set_option maxRecDepth 100000 in
theorem c_X8_isLikeNow (l : Launch) (D : va_G) (cI cZ : ClassId) (a : Nat → Nat) (sz : Nat) (S : Ob) (Q : Int32 → Ob → Prop) (h : wp_X8_isLikeNow S Q) : Met l yX8_isLikeNow (wsm yX8_isLikeNow cX8_isLikeNow 2 (some .boolean)) rmX8_isLikeNow (va_Pc [.ref (a 0)] (preW D cI cZ sz (wX8 cI cZ a S))) (va_Qi Q (fun u => atW D cI cZ (va_A (wX8 cI cZ a S) sz) (wX8 cI cZ a u)) (va_A (wX8 cI cZ a S) sz)) 0 0 (va_A (wX8 cI cZ a S) sz) := by
  refine Met.ofW (cc := cX8_isLikeNow) (maxL := 2) (ret := (some .boolean)) (by decide) rfl ?_
  intro p e s m args below meth c s₁ B hml hv
  obtain ⟨rfl, hsz, hP, hK, hD0⟩ := hv
  have hx := B.exec
  have hb := B.bytes
  have hr := B.returns
  have hts0 := atoms_spec (ws := wsm yX8_isLikeNow cX8_isLikeNow 2 (some .boolean)) B.pre
  have hts : ∀ w ∈ lw_all, w.before _ s = true := fun w h => hts0 w (List.mem_cons_of_mem _ h)
  have hown : s.vm.findClass RX8 = some m.cls := findClass_of_methodNamed B.named
  have hlocks := B.notSynchronized
  subst hsz
  have hD := hD0.self (sz := s.heap.size)
  generalize hAe : va_A (wX8 cI cZ a S) s.heap.size = A at hD ⊢
  have hA : ∀ q : Nat, s.heap.size ≤ q → A q := fun q h => by rw [← hAe]; exact Or.inr h
  have hS : va_S A s.heap s.heap [] := va_S.rf
  have hml2 := hml
  have L2 : ∀ (n : Nat), ∀ (y1 : Int32) (T : Ob) (H : Heap) (locs : List Loc) (ls : Array Slot), va_P D vwCl (wX8 cI cZ a T) H → va_D A (wX8 cI cZ a T) → va_S A s.heap H locs → lv_has ls 2 [(0, .ref (a 0)), (1, .int y1)] → wp_X8_isLikeNow_L2 Q n y1 T → W p l e rmX8_isLikeNow s m ([.ref (a 0)] : List Value).toArray below meth c H locs 0 0 (MQ below (va_Qi Q (fun u => atW D cI cZ A (wX8 cI cZ a u)) A) ([.ref (a 0)] : List Value).toArray s 0 0 A) (F0 m 2 ls []) := by
    intro n
    induction n with
    | zero =>
      intro y1 T H locs ls hP hD hS hl h
      exact False.elim h
    | succ n ih =>
      intro y1 T H locs ls hP hD hS hl h
      unfold wp_X8_isLikeNow_L2 at h
      refine lv_iload_n hx hb dX8_isLikeNow_2 rfl (lv_at hl 1 rfl) ?_
      refine lv_iconst (v := 4) hx hb dX8_isLikeNow_3 (by decide) ?_
      refine lv_icmp_ge (tgt := 55) hx hb dX8_isLikeNow_4 (by decide) (fun c1 => ?_) (fun c1 => ?_)
      · have h := h.1 c1
        refine lv_aload_n hx hb dX8_isLikeNow_55 rfl (lv_at hl 0 rfl) ?_
        refine va_get (D := D) (ci := 7) (v := .ref (a 5)) (C := RX8) (T := TX8) (N := 25) hx hb hts inX8 hown hK hP 0 rfl rfl 5 (by decide) (hts _ q_1082) (fun _ h9 => h9) rfl dX8_isLikeNow_56 ?_
        refine lv_bipush (v := 12) hx hb dX8_isLikeNow_59 (by decide) ?_
        refine ar_il (f := (T.2 5)) (n := 342) (j := 12) hx hb hK hP 5 rfl (by decide) (okLit (by decide)) dX8_isLikeNow_61 ?_
        refine lv_aload_n hx hb dX8_isLikeNow_62 rfl (lv_at hl 0 rfl) ?_
        refine va_get (D := D) (ci := 7) (v := .ref (a 4)) (C := RX8) (T := TX8) (N := 25) hx hb hts inX8 hown hK hP 0 rfl rfl 4 (by decide) (hts _ q_1081) (fun _ h9 => h9) rfl dX8_isLikeNow_63 ?_
        refine lv_bipush (v := 12) hx hb dX8_isLikeNow_66 (by decide) ?_
        refine ar_il (f := (T.2 4)) (n := 342) (j := 12) hx hb hK hP 4 rfl (by decide) (okLit (by decide)) dX8_isLikeNow_68 ?_
        refine lv_icmp_ne (tgt := 127) hx hb dX8_isLikeNow_69 (by decide) (fun c2 => ?_) (fun c2 => ?_)
        · have h := h.1 c2
          refine lv_iconst (v := 0) hx hb dX8_isLikeNow_127 (by decide) ?_
          exact W.zret (ty := .boolean) (v := 0) hx hb hr (narB isB0) (fun t ht hW => ⟨⟨0, T, rfl, h, by rw [ht]; exact hP, va_K.moved hW.alike hK, hD⟩, hS.F ht⟩) hS.2.2 dX8_isLikeNow_128
        · have h := h.2 c2
          refine lv_aload_n hx hb dX8_isLikeNow_72 rfl (lv_at hl 0 rfl) ?_
          refine va_get (D := D) (ci := 7) (v := .ref (a 5)) (C := RX8) (T := TX8) (N := 25) hx hb hts inX8 hown hK hP 0 rfl rfl 5 (by decide) (hts _ q_1082) (fun _ h9 => h9) rfl dX8_isLikeNow_73 ?_
          refine lv_bipush (v := 13) hx hb dX8_isLikeNow_76 (by decide) ?_
          refine ar_il (f := (T.2 5)) (n := 342) (j := 13) hx hb hK hP 5 rfl (by decide) (okLit (by decide)) dX8_isLikeNow_78 ?_
          refine lv_aload_n hx hb dX8_isLikeNow_79 rfl (lv_at hl 0 rfl) ?_
          refine va_get (D := D) (ci := 7) (v := .ref (a 4)) (C := RX8) (T := TX8) (N := 25) hx hb hts inX8 hown hK hP 0 rfl rfl 4 (by decide) (hts _ q_1081) (fun _ h9 => h9) rfl dX8_isLikeNow_80 ?_
          refine lv_bipush (v := 13) hx hb dX8_isLikeNow_83 (by decide) ?_
          refine ar_il (f := (T.2 4)) (n := 342) (j := 13) hx hb hK hP 4 rfl (by decide) (okLit (by decide)) dX8_isLikeNow_85 ?_
          refine lv_icmp_ne (tgt := 127) hx hb dX8_isLikeNow_86 (by decide) (fun c3 => ?_) (fun c3 => ?_)
          · have h := h.1 c3
            refine lv_iconst (v := 0) hx hb dX8_isLikeNow_127 (by decide) ?_
            exact W.zret (ty := .boolean) (v := 0) hx hb hr (narB isB0) (fun t ht hW => ⟨⟨0, T, rfl, h, by rw [ht]; exact hP, va_K.moved hW.alike hK, hD⟩, hS.F ht⟩) hS.2.2 dX8_isLikeNow_128
          · have h := h.2 c3
            refine lv_aload_n hx hb dX8_isLikeNow_89 rfl (lv_at hl 0 rfl) ?_
            refine va_get (D := D) (ci := 7) (v := .ref (a 5)) (C := RX8) (T := TX8) (N := 25) hx hb hts inX8 hown hK hP 0 rfl rfl 5 (by decide) (hts _ q_1082) (fun _ h9 => h9) rfl dX8_isLikeNow_90 ?_
            refine lv_bipush (v := 14) hx hb dX8_isLikeNow_93 (by decide) ?_
            refine ar_il (f := (T.2 5)) (n := 342) (j := 14) hx hb hK hP 5 rfl (by decide) (okLit (by decide)) dX8_isLikeNow_95 ?_
            refine lv_aload_n hx hb dX8_isLikeNow_96 rfl (lv_at hl 0 rfl) ?_
            refine va_get (D := D) (ci := 7) (v := .ref (a 4)) (C := RX8) (T := TX8) (N := 25) hx hb hts inX8 hown hK hP 0 rfl rfl 4 (by decide) (hts _ q_1081) (fun _ h9 => h9) rfl dX8_isLikeNow_97 ?_
            refine lv_bipush (v := 14) hx hb dX8_isLikeNow_100 (by decide) ?_
            refine ar_il (f := (T.2 4)) (n := 342) (j := 14) hx hb hK hP 4 rfl (by decide) (okLit (by decide)) dX8_isLikeNow_102 ?_
            refine lv_icmp_ne (tgt := 127) hx hb dX8_isLikeNow_103 (by decide) (fun c4 => ?_) (fun c4 => ?_)
            · have h := h.1 c4
              refine lv_iconst (v := 0) hx hb dX8_isLikeNow_127 (by decide) ?_
              exact W.zret (ty := .boolean) (v := 0) hx hb hr (narB isB0) (fun t ht hW => ⟨⟨0, T, rfl, h, by rw [ht]; exact hP, va_K.moved hW.alike hK, hD⟩, hS.F ht⟩) hS.2.2 dX8_isLikeNow_128
            · have h := h.2 c4
              refine lv_aload_n hx hb dX8_isLikeNow_106 rfl (lv_at hl 0 rfl) ?_
              refine va_get (D := D) (ci := 7) (v := .ref (a 5)) (C := RX8) (T := TX8) (N := 25) hx hb hts inX8 hown hK hP 0 rfl rfl 5 (by decide) (hts _ q_1082) (fun _ h9 => h9) rfl dX8_isLikeNow_107 ?_
              refine lv_bipush (v := 15) hx hb dX8_isLikeNow_110 (by decide) ?_
              refine ar_il (f := (T.2 5)) (n := 342) (j := 15) hx hb hK hP 5 rfl (by decide) (okLit (by decide)) dX8_isLikeNow_112 ?_
              refine lv_aload_n hx hb dX8_isLikeNow_113 rfl (lv_at hl 0 rfl) ?_
              refine va_get (D := D) (ci := 7) (v := .ref (a 4)) (C := RX8) (T := TX8) (N := 25) hx hb hts inX8 hown hK hP 0 rfl rfl 4 (by decide) (hts _ q_1081) (fun _ h9 => h9) rfl dX8_isLikeNow_114 ?_
              refine lv_bipush (v := 15) hx hb dX8_isLikeNow_117 (by decide) ?_
              refine ar_il (f := (T.2 4)) (n := 342) (j := 15) hx hb hK hP 4 rfl (by decide) (okLit (by decide)) dX8_isLikeNow_119 ?_
              refine lv_icmp_ne (tgt := 127) hx hb dX8_isLikeNow_120 (by decide) (fun c5 => ?_) (fun c5 => ?_)
              · have h := h.1 c5
                refine lv_iconst (v := 0) hx hb dX8_isLikeNow_127 (by decide) ?_
                exact W.zret (ty := .boolean) (v := 0) hx hb hr (narB isB0) (fun t ht hW => ⟨⟨0, T, rfl, h, by rw [ht]; exact hP, va_K.moved hW.alike hK, hD⟩, hS.F ht⟩) hS.2.2 dX8_isLikeNow_128
              · have h := h.2 c5
                refine lv_iconst (v := 1) hx hb dX8_isLikeNow_123 (by decide) ?_
                refine lv_goto (tgt := 128) hx hb dX8_isLikeNow_124 (by decide) ?_
                exact W.zret (ty := .boolean) (v := 1) hx hb hr (narB isB1) (fun t ht hW => ⟨⟨1, T, rfl, h, by rw [ht]; exact hP, va_K.moved hW.alike hK, hD⟩, hS.F ht⟩) hS.2.2 dX8_isLikeNow_128
      · have h := h.2 c1
        refine lv_aload_n hx hb dX8_isLikeNow_7 rfl (lv_at hl 0 rfl) ?_
        refine va_get (D := D) (ci := 7) (v := .ref (a 5)) (C := RX8) (T := TX8) (N := 25) hx hb hts inX8 hown hK hP 0 rfl rfl 5 (by decide) (hts _ q_1082) (fun _ h9 => h9) rfl dX8_isLikeNow_8 ?_
        refine lv_iconst (v := 0) hx hb dX8_isLikeNow_11 (by decide) ?_
        refine lv_iload_n hx hb dX8_isLikeNow_12 rfl (lv_at hl 1 rfl) ?_
        refine lv_iadd hx hb dX8_isLikeNow_13 ?_
        refine ar_il (f := (T.2 5)) (n := 342) (j := (Int32.toNatClampNeg (0 + y1))) hx hb hK hP 5 rfl rfl h.1 dX8_isLikeNow_14 ?_
        have h := h.2
        refine lv_aload_n hx hb dX8_isLikeNow_15 rfl (lv_at hl 0 rfl) ?_
        refine va_get (D := D) (ci := 7) (v := .ref (a 4)) (C := RX8) (T := TX8) (N := 25) hx hb hts inX8 hown hK hP 0 rfl rfl 4 (by decide) (hts _ q_1081) (fun _ h9 => h9) rfl dX8_isLikeNow_16 ?_
        refine lv_iconst (v := 0) hx hb dX8_isLikeNow_19 (by decide) ?_
        refine lv_iload_n hx hb dX8_isLikeNow_20 rfl (lv_at hl 1 rfl) ?_
        refine lv_iadd hx hb dX8_isLikeNow_21 ?_
        refine ar_il (f := (T.2 4)) (n := 342) (j := (Int32.toNatClampNeg (0 + y1))) hx hb hK hP 4 rfl rfl h.1 dX8_isLikeNow_22 ?_
        have h := h.2
        refine lv_icmp_ne (tgt := 47) hx hb dX8_isLikeNow_23 (by decide) (fun c6 => ?_) (fun c6 => ?_)
        · have h := h.1 c6
          refine lv_iconst (v := 0) hx hb dX8_isLikeNow_47 (by decide) ?_
          exact W.zret (ty := .boolean) (v := 0) hx hb hr (narB isB0) (fun t ht hW => ⟨⟨0, T, rfl, h, by rw [ht]; exact hP, va_K.moved hW.alike hK, hD⟩, hS.F ht⟩) hS.2.2 dX8_isLikeNow_48
        · have h := h.2 c6
          refine lv_aload_n hx hb dX8_isLikeNow_26 rfl (lv_at hl 0 rfl) ?_
          refine va_get (D := D) (ci := 7) (v := .ref (a 5)) (C := RX8) (T := TX8) (N := 25) hx hb hts inX8 hown hK hP 0 rfl rfl 5 (by decide) (hts _ q_1082) (fun _ h9 => h9) rfl dX8_isLikeNow_27 ?_
          refine lv_bipush (v := 8) hx hb dX8_isLikeNow_30 (by decide) ?_
          refine lv_iload_n hx hb dX8_isLikeNow_32 rfl (lv_at hl 1 rfl) ?_
          refine lv_iadd hx hb dX8_isLikeNow_33 ?_
          refine ar_il (f := (T.2 5)) (n := 342) (j := (Int32.toNatClampNeg (8 + y1))) hx hb hK hP 5 rfl rfl h.1 dX8_isLikeNow_34 ?_
          have h := h.2
          refine lv_aload_n hx hb dX8_isLikeNow_35 rfl (lv_at hl 0 rfl) ?_
          refine va_get (D := D) (ci := 7) (v := .ref (a 4)) (C := RX8) (T := TX8) (N := 25) hx hb hts inX8 hown hK hP 0 rfl rfl 4 (by decide) (hts _ q_1081) (fun _ h9 => h9) rfl dX8_isLikeNow_36 ?_
          refine lv_bipush (v := 8) hx hb dX8_isLikeNow_39 (by decide) ?_
          refine lv_iload_n hx hb dX8_isLikeNow_41 rfl (lv_at hl 1 rfl) ?_
          refine lv_iadd hx hb dX8_isLikeNow_42 ?_
          refine ar_il (f := (T.2 4)) (n := 342) (j := (Int32.toNatClampNeg (8 + y1))) hx hb hK hP 4 rfl rfl h.1 dX8_isLikeNow_43 ?_
          have h := h.2
          refine lv_icmp_eq (tgt := 49) hx hb dX8_isLikeNow_44 (by decide) (fun c7 => ?_) (fun c7 => ?_)
          · have h := h.1 c7
            obtain ⟨x8, ex8⟩ : ∃ y : Int32, y = (y1 + 1) := ⟨_, rfl⟩
            have h := h x8 ex8
            refine lv_iinc (v := x8) (lv' := [(1, .int x8), (0, .ref (a 0))]) hx hb dX8_isLikeNow_49 hl (k := 1) rfl (by rw [ex8]; rfl) (by decide) rfl (fun ls hl => ?_)
            refine lv_goto (tgt := 2) hx hb dX8_isLikeNow_52 (by decide) ?_
            exact ih x8 T _ _ _ hP hD hS (lv_sub hl [1, 0] rfl) h
          · have h := h.2 c7
            refine lv_iconst (v := 0) hx hb dX8_isLikeNow_47 (by decide) ?_
            exact W.zret (ty := .boolean) (v := 0) hx hb hr (narB isB0) (fun t ht hW => ⟨⟨0, T, rfl, h, by rw [ht]; exact hP, va_K.moved hW.alike hK, hD⟩, hS.F ht⟩) hS.2.2 dX8_isLikeNow_48
  have hl := lv_entry ([.ref (a 0)]) (n := 2) (Nat.le_of_ble_eq_true rfl)
  rw [lg_entry_eq]
  generalize (lg_sl ([.ref (a 0)]) ++ List.replicate (2 - (lg_sl ([.ref (a 0)])).length) Slot.unset).toArray = ls at hl ⊢
  have hl : lv_has ls 2 [(0, .ref (a 0))] := hl
  unfold wp_X8_isLikeNow at h
  refine lv_iconst (v := 0) hx hb dX8_isLikeNow_0 (by decide) ?_
  refine lv_istore_n (lv' := [(1, .int 0), (0, .ref (a 0))]) hx hb dX8_isLikeNow_1 rfl hl (by decide) rfl (fun ls hl => ?_)
  exact L2 2000 0 S _ _ _ hP hD hS (lv_sub hl [1, 0] rfl) h
/-! X8_keeps -/
abbrev rmX8_keeps : Room := { frames := 9, cells := 0, slots := 0, locals := 211 }
set_option maxHeartbeats 4000000 in
set_option maxRecDepth 100000 in
theorem c_X8_keeps (l : Launch) (D : va_G) (cI cZ : ClassId) (a : Nat → Nat) (sz : Nat) (S : Ob) (Q : Int32 → Ob → Prop) (h : wp_X8_keeps S Q) : Met l yX8_keeps (wsm yX8_keeps cX8_keeps 3 (some .int)) rmX8_keeps (va_Pc [.ref (a 0)] (preT D cI cZ sz (wX8 cI cZ a S))) (va_Qi Q (fun u => atW D cI cZ (va_A (wX8 cI cZ a S) sz) (wX8 cI cZ a u)) (va_A (wX8 cI cZ a S) sz)) 0 0 (va_A (wX8 cI cZ a S) sz) := by
  refine Met.ofW (cc := cX8_keeps) (maxL := 3) (ret := (some .int)) (by decide) rfl ?_
  intro p e s m args below meth c s₁ B hml hv
  obtain ⟨rfl, ⟨hsz, hP, hK, hD0⟩, hF⟩ := hv
  have hx := B.exec
  have hb := B.bytes
  have hr := B.returns
  have hts0 := atoms_spec (ws := wsm yX8_keeps cX8_keeps 3 (some .int)) B.pre
  have hts : ∀ w ∈ lw_all, w.before _ s = true := fun w h => hts0 w (List.mem_cons_of_mem _ h)
  have hown : s.vm.findClass RX8 = some m.cls := findClass_of_methodNamed B.named
  have hlocks := B.notSynchronized
  subst hsz
  have hD := hD0.self (sz := s.heap.size)
  generalize hAe : va_A (wX8 cI cZ a S) s.heap.size = A at hD hF ⊢
  have hA : ∀ q : Nat, s.heap.size ≤ q → A q := fun q h => by rw [← hAe]; exact Or.inr h
  have hS : va_S A s.heap s.heap [] := va_S.rf
  have hml2 := hml
  have L47 : ∀ (n : Nat), ∀ (y1 : Int32) (y2 : Int32) (T : Ob) (H : Heap) (locs : List Loc) (ls : Array Slot), va_P D vwCl (wX8 cI cZ a T) H → va_D A (wX8 cI cZ a T) → va_S A s.heap H locs → lv_has ls 3 [(0, .ref (a 0)), (1, .int y1), (2, .int y2)] → wp_X8_keeps_L47 Q n y1 y2 T → W p l e rmX8_keeps s m ([.ref (a 0)] : List Value).toArray below meth c H locs 0 0 (MQ below (va_Qi Q (fun u => atW D cI cZ A (wX8 cI cZ a u)) A) ([.ref (a 0)] : List Value).toArray s 0 0 A) (F0 m 47 ls []) := by
    intro n
    induction n with
    | zero =>
      intro y1 y2 T H locs ls hP hD hS hl h
      exact False.elim h
    | succ n ih =>
      intro y1 y2 T H locs ls hP hD hS hl h
      unfold wp_X8_keeps_L47 at h
      refine lv_iload_n hx hb dX8_keeps_47 rfl (lv_at hl 2 rfl) ?_
      refine lv_sipush (v := 300) hx hb dX8_keeps_48 (by decide) ?_
      refine lv_icmp_ge (tgt := 131) hx hb dX8_keeps_51 (by decide) (fun c8 => ?_) (fun c8 => ?_)
      · have h := h.1 c8
        refine lv_iconst (v := -1) hx hb dX8_keeps_131 (by decide) ?_
        exact W.iret (v := (-1)) hx hb hr (fun t ht hW => ⟨⟨(-1), T, rfl, h, by rw [ht]; exact hP, va_K.moved hW.alike hK, hD⟩, hS.F ht⟩) hS.2.2 dX8_keeps_132
      · have h := h.2 c8
        refine lv_aload_n hx hb dX8_keeps_54 rfl (lv_at hl 0 rfl) ?_
        refine lv_aload_n hx hb dX8_keeps_55 rfl (lv_at hl 0 rfl) ?_
        refine va_get (D := D) (ci := 7) (v := .ref (a 5)) (C := RX8) (T := TX8) (N := 25) hx hb hts inX8 hown hK hP 0 rfl rfl 5 (by decide) (hts _ q_1082) (fun _ h9 => h9) rfl dX8_keeps_56 ?_
        refine cl_v (ws' := fun u9 => (wX8 cI cZ a (mthen T u9.1 u9.2))) (va_runV (As := [.ref (a 5)]) (rest := []) ⟨hx, hb, hml, hown, hts⟩ (c_X8_cycle l D cI cZ a (fun k => a (k + 5)) false _ (T, (T.2 5)) _ h (fun h => absurd h (by decide))) (cwV 1 hts (gV q_1221 q_1223 q_33 q_75 q_1224) rfl rfl rfl (by decide +kernel) ⟨Nat.le_of_ble_eq_true rfl, Nat.le_of_ble_eq_true rfl⟩) (preTV_of (ci := 7) (q := (RX8, TX8, 25)) hF hS hA hK hP hD [0, 1, 2, 3, 6, 7, 8, 9, 10, 11, 12, 5] rfl rfl (by decide) 0 rfl rfl) rfl rfl hl.1 rfl (lv_room (Nat.le_of_ble_eq_true rfl)) dX8_keeps_59 ⟨Nat.zero_le _, Nat.zero_le _⟩) hP hD hS hA [0, 1, 2, 3, 6, 7, 8, 9, 10, 11, 12, 5] [.inl 0, .inl 1, .inl 2, .inl 3, .inr 4, .inl 11, .inl 4, .inl 5, .inl 6, .inl 7, .inl 8, .inl 9, .inl 10, .inr 13, .inr 14, .inr 15, .inr 16, .inr 17] rfl (by decide) (fun _ => rfl) (fun _ => rfl) (fun u9 H locs h hP hD hS => ?_)
        refine lv_aload_n hx hb dX8_keeps_62 rfl (lv_at hl 0 rfl) ?_
        refine va_get (D := D) (ci := 7) (v := .ref (a 5)) (C := RX8) (T := TX8) (N := 25) hx hb hts inX8 hown hK hP 0 rfl rfl 5 (by decide) (hts _ q_1082) (fun _ h9 => h9) rfl dX8_keeps_63 ?_
        refine lv_bipush (v := 30) hx hb dX8_keeps_66 (by decide) ?_
        refine ar_il (f := u9.2) (n := 342) (j := 30) hx hb hK hP 5 rfl (by decide) (okLit (by decide)) dX8_keeps_68 ?_
        refine lv_aload_n hx hb dX8_keeps_69 rfl (lv_at hl 0 rfl) ?_
        refine va_get (D := D) (ci := 7) (v := .ref (a 4)) (C := RX8) (T := TX8) (N := 25) hx hb hts inX8 hown hK hP 0 rfl rfl 4 (by decide) (hts _ q_1081) (fun _ h9 => h9) rfl dX8_keeps_70 ?_
        refine lv_bipush (v := 30) hx hb dX8_keeps_73 (by decide) ?_
        refine ar_il (f := (T.2 4)) (n := 342) (j := 30) hx hb hK hP 4 rfl (by decide) (okLit (by decide)) dX8_keeps_75 ?_
        refine lv_icmp_le (tgt := 81) hx hb dX8_keeps_76 (by decide) (fun c10 => ?_) (fun c10 => ?_)
        · have h := h.1 c10
          refine lv_iload_n hx hb dX8_keeps_81 rfl (lv_at hl 1 rfl) ?_
          refine lv_if_eq (tgt := 125) hx hb dX8_keeps_82 (by decide) (fun c11 => ?_) (fun c11 => ?_)
          · have h := h.1 c11
            obtain ⟨x12, ex12⟩ : ∃ y : Int32, y = (y2 + 1) := ⟨_, rfl⟩
            have h := h x12 ex12
            refine lv_iinc (v := x12) (lv' := [(2, .int x12), (0, .ref (a 0)), (1, .int y1)]) hx hb dX8_keeps_125 hl (k := 2) rfl (by rw [ex12]; rfl) (by decide) rfl (fun ls hl => ?_)
            refine lv_goto (tgt := 47) hx hb dX8_keeps_128 (by decide) ?_
            exact ih y1 x12 (mthen T u9.1 u9.2) _ _ _ hP hD hS (lv_sub hl [1, 2, 0] rfl) h
          · have h := h.2 c11
            refine lv_aload_n hx hb dX8_keeps_85 rfl (lv_at hl 0 rfl) ?_
            refine va_get (D := D) (ci := 7) (v := .ref (a 5)) (C := RX8) (T := TX8) (N := 25) hx hb hts inX8 hown hK hP 0 rfl rfl 5 (by decide) (hts _ q_1082) (fun _ h9 => h9) rfl dX8_keeps_86 ?_
            refine lv_bipush (v := 30) hx hb dX8_keeps_89 (by decide) ?_
            refine ar_il (f := u9.2) (n := 342) (j := 30) hx hb hK hP 5 rfl (by decide) (okLit (by decide)) dX8_keeps_91 ?_
            refine lv_aload_n hx hb dX8_keeps_92 rfl (lv_at hl 0 rfl) ?_
            refine va_get (D := D) (ci := 7) (v := .ref (a 4)) (C := RX8) (T := TX8) (N := 25) hx hb hts inX8 hown hK hP 0 rfl rfl 4 (by decide) (hts _ q_1081) (fun _ h9 => h9) rfl dX8_keeps_93 ?_
            refine lv_bipush (v := 30) hx hb dX8_keeps_96 (by decide) ?_
            refine ar_il (f := (T.2 4)) (n := 342) (j := 30) hx hb hK hP 4 rfl (by decide) (okLit (by decide)) dX8_keeps_98 ?_
            refine lv_icmp_ne (tgt := 125) hx hb dX8_keeps_99 (by decide) (fun c13 => ?_) (fun c13 => ?_)
            · have h := h.1 c13
              obtain ⟨x14, ex14⟩ : ∃ y : Int32, y = (y2 + 1) := ⟨_, rfl⟩
              have h := h x14 ex14
              refine lv_iinc (v := x14) (lv' := [(2, .int x14), (0, .ref (a 0)), (1, .int y1)]) hx hb dX8_keeps_125 hl (k := 2) rfl (by rw [ex14]; rfl) (by decide) rfl (fun ls hl => ?_)
              refine lv_goto (tgt := 47) hx hb dX8_keeps_128 (by decide) ?_
              exact ih y1 x14 (mthen T u9.1 u9.2) _ _ _ hP hD hS (lv_sub hl [1, 2, 0] rfl) h
            · have h := h.2 c13
              refine lv_aload_n hx hb dX8_keeps_102 rfl (lv_at hl 0 rfl) ?_
              refine va_get (D := D) (ci := 7) (v := .ref (a 5)) (C := RX8) (T := TX8) (N := 25) hx hb hts inX8 hown hK hP 0 rfl rfl 5 (by decide) (hts _ q_1082) (fun _ h9 => h9) rfl dX8_keeps_103 ?_
              refine lv_bipush (v := 20) hx hb dX8_keeps_106 (by decide) ?_
              refine ar_il (f := u9.2) (n := 342) (j := 20) hx hb hK hP 5 rfl (by decide) (okLit (by decide)) dX8_keeps_108 ?_
              refine lv_if_ne (tgt := 125) hx hb dX8_keeps_109 (by decide) (fun c15 => ?_) (fun c15 => ?_)
              · have h := h.1 c15
                obtain ⟨x16, ex16⟩ : ∃ y : Int32, y = (y2 + 1) := ⟨_, rfl⟩
                have h := h x16 ex16
                refine lv_iinc (v := x16) (lv' := [(2, .int x16), (0, .ref (a 0)), (1, .int y1)]) hx hb dX8_keeps_125 hl (k := 2) rfl (by rw [ex16]; rfl) (by decide) rfl (fun ls hl => ?_)
                refine lv_goto (tgt := 47) hx hb dX8_keeps_128 (by decide) ?_
                exact ih y1 x16 (mthen T u9.1 u9.2) _ _ _ hP hD hS (lv_sub hl [1, 2, 0] rfl) h
              · have h := h.2 c15
                refine lv_aload_n hx hb dX8_keeps_112 rfl (lv_at hl 0 rfl) ?_
                refine cl_i (ws' := fun u17 => (wX8 cI cZ a u17)) (va_runV (As := []) (rest := []) ⟨hx, hb, hml, hown, hts⟩ (c_X8_isLikeNow l D cI cZ a _ (mthen T u9.1 u9.2) _ h ) (cwV 0 hts (gV q_1470 q_1472 q_61 q_75 q_1473) rfl rfl rfl (by decide +kernel) ⟨Nat.le_of_ble_eq_true rfl, Nat.le_of_ble_eq_true rfl⟩) (preV_of (ci := 7) (q := (RX8, TX8, 25)) hK hP hD [0, 1, 2, 3, 4, 5, 6, 7, 8, 9, 10, 11, 12, 13, 14, 15, 16, 17] rfl rfl (by decide) 0 rfl rfl) rfl rfl hl.1 rfl (lv_room (Nat.le_of_ble_eq_true rfl)) dX8_keeps_113 ⟨Nat.zero_le _, Nat.zero_le _⟩) hP hD hS hA [0, 1, 2, 3, 4, 5, 6, 7, 8, 9, 10, 11, 12, 13, 14, 15, 16, 17] [.inl 0, .inl 1, .inl 2, .inl 3, .inl 4, .inl 5, .inl 6, .inl 7, .inl 8, .inl 9, .inl 10, .inl 11, .inl 12, .inl 13, .inl 14, .inl 15, .inl 16, .inl 17] rfl (by decide) (fun _ => rfl) (fun _ => rfl) (fun r18 u17 H locs h hP hD hS => ?_)
                refine lv_if_eq (tgt := 123) hx hb dX8_keeps_116 (by decide) (fun c19 => ?_) (fun c19 => ?_)
                · have h := h.1 c19
                  refine lv_iconst (v := 0) hx hb dX8_keeps_123 (by decide) ?_
                  exact W.iret (v := 0) hx hb hr (fun t ht hW => ⟨⟨0, u17, rfl, h, by rw [ht]; exact hP, va_K.moved hW.alike hK, hD⟩, hS.F ht⟩) hS.2.2 dX8_keeps_124
                · have h := h.2 c19
                  refine lv_iconst (v := 1) hx hb dX8_keeps_119 (by decide) ?_
                  refine lv_goto (tgt := 124) hx hb dX8_keeps_120 (by decide) ?_
                  exact W.iret (v := 1) hx hb hr (fun t ht hW => ⟨⟨1, u17, rfl, h, by rw [ht]; exact hP, va_K.moved hW.alike hK, hD⟩, hS.F ht⟩) hS.2.2 dX8_keeps_124
        · have h := h.2 c10
          refine lv_iconst (v := 1) hx hb dX8_keeps_79 (by decide) ?_
          refine lv_istore_n (lv' := [(1, .int 1), (0, .ref (a 0)), (2, .int y2)]) hx hb dX8_keeps_80 rfl hl (by decide) rfl (fun ls hl => ?_)
          refine lv_iload_n hx hb dX8_keeps_81 rfl (lv_at hl 0 rfl) ?_
          refine lv_if_eq (tgt := 125) hx hb dX8_keeps_82 (by decide) (fun c20 => ?_) (fun c20 => ?_)
          · have h := h.1 c20
            obtain ⟨x21, ex21⟩ : ∃ y : Int32, y = (y2 + 1) := ⟨_, rfl⟩
            have h := h x21 ex21
            refine lv_iinc (v := x21) (lv' := [(2, .int x21), (1, .int 1), (0, .ref (a 0))]) hx hb dX8_keeps_125 hl (k := 2) rfl (by rw [ex21]; rfl) (by decide) rfl (fun ls hl => ?_)
            refine lv_goto (tgt := 47) hx hb dX8_keeps_128 (by decide) ?_
            exact ih 1 x21 (mthen T u9.1 u9.2) _ _ _ hP hD hS (lv_sub hl [2, 1, 0] rfl) h
          · have h := h.2 c20
            refine lv_aload_n hx hb dX8_keeps_85 rfl (lv_at hl 1 rfl) ?_
            refine va_get (D := D) (ci := 7) (v := .ref (a 5)) (C := RX8) (T := TX8) (N := 25) hx hb hts inX8 hown hK hP 0 rfl rfl 5 (by decide) (hts _ q_1082) (fun _ h9 => h9) rfl dX8_keeps_86 ?_
            refine lv_bipush (v := 30) hx hb dX8_keeps_89 (by decide) ?_
            refine ar_il (f := u9.2) (n := 342) (j := 30) hx hb hK hP 5 rfl (by decide) (okLit (by decide)) dX8_keeps_91 ?_
            refine lv_aload_n hx hb dX8_keeps_92 rfl (lv_at hl 1 rfl) ?_
            refine va_get (D := D) (ci := 7) (v := .ref (a 4)) (C := RX8) (T := TX8) (N := 25) hx hb hts inX8 hown hK hP 0 rfl rfl 4 (by decide) (hts _ q_1081) (fun _ h9 => h9) rfl dX8_keeps_93 ?_
            refine lv_bipush (v := 30) hx hb dX8_keeps_96 (by decide) ?_
            refine ar_il (f := (T.2 4)) (n := 342) (j := 30) hx hb hK hP 4 rfl (by decide) (okLit (by decide)) dX8_keeps_98 ?_
            refine lv_icmp_ne (tgt := 125) hx hb dX8_keeps_99 (by decide) (fun c22 => ?_) (fun c22 => ?_)
            · have h := h.1 c22
              obtain ⟨x23, ex23⟩ : ∃ y : Int32, y = (y2 + 1) := ⟨_, rfl⟩
              have h := h x23 ex23
              refine lv_iinc (v := x23) (lv' := [(2, .int x23), (1, .int 1), (0, .ref (a 0))]) hx hb dX8_keeps_125 hl (k := 2) rfl (by rw [ex23]; rfl) (by decide) rfl (fun ls hl => ?_)
              refine lv_goto (tgt := 47) hx hb dX8_keeps_128 (by decide) ?_
              exact ih 1 x23 (mthen T u9.1 u9.2) _ _ _ hP hD hS (lv_sub hl [2, 1, 0] rfl) h
            · have h := h.2 c22
              refine lv_aload_n hx hb dX8_keeps_102 rfl (lv_at hl 1 rfl) ?_
              refine va_get (D := D) (ci := 7) (v := .ref (a 5)) (C := RX8) (T := TX8) (N := 25) hx hb hts inX8 hown hK hP 0 rfl rfl 5 (by decide) (hts _ q_1082) (fun _ h9 => h9) rfl dX8_keeps_103 ?_
              refine lv_bipush (v := 20) hx hb dX8_keeps_106 (by decide) ?_
              refine ar_il (f := u9.2) (n := 342) (j := 20) hx hb hK hP 5 rfl (by decide) (okLit (by decide)) dX8_keeps_108 ?_
              refine lv_if_ne (tgt := 125) hx hb dX8_keeps_109 (by decide) (fun c24 => ?_) (fun c24 => ?_)
              · have h := h.1 c24
                obtain ⟨x25, ex25⟩ : ∃ y : Int32, y = (y2 + 1) := ⟨_, rfl⟩
                have h := h x25 ex25
                refine lv_iinc (v := x25) (lv' := [(2, .int x25), (1, .int 1), (0, .ref (a 0))]) hx hb dX8_keeps_125 hl (k := 2) rfl (by rw [ex25]; rfl) (by decide) rfl (fun ls hl => ?_)
                refine lv_goto (tgt := 47) hx hb dX8_keeps_128 (by decide) ?_
                exact ih 1 x25 (mthen T u9.1 u9.2) _ _ _ hP hD hS (lv_sub hl [2, 1, 0] rfl) h
              · have h := h.2 c24
                refine lv_aload_n hx hb dX8_keeps_112 rfl (lv_at hl 1 rfl) ?_
                refine cl_i (ws' := fun u26 => (wX8 cI cZ a u26)) (va_runV (As := []) (rest := []) ⟨hx, hb, hml, hown, hts⟩ (c_X8_isLikeNow l D cI cZ a _ (mthen T u9.1 u9.2) _ h ) (cwV 0 hts (gV q_1470 q_1472 q_61 q_75 q_1473) rfl rfl rfl (by decide +kernel) ⟨Nat.le_of_ble_eq_true rfl, Nat.le_of_ble_eq_true rfl⟩) (preV_of (ci := 7) (q := (RX8, TX8, 25)) hK hP hD [0, 1, 2, 3, 4, 5, 6, 7, 8, 9, 10, 11, 12, 13, 14, 15, 16, 17] rfl rfl (by decide) 0 rfl rfl) rfl rfl hl.1 rfl (lv_room (Nat.le_of_ble_eq_true rfl)) dX8_keeps_113 ⟨Nat.zero_le _, Nat.zero_le _⟩) hP hD hS hA [0, 1, 2, 3, 4, 5, 6, 7, 8, 9, 10, 11, 12, 13, 14, 15, 16, 17] [.inl 0, .inl 1, .inl 2, .inl 3, .inl 4, .inl 5, .inl 6, .inl 7, .inl 8, .inl 9, .inl 10, .inl 11, .inl 12, .inl 13, .inl 14, .inl 15, .inl 16, .inl 17] rfl (by decide) (fun _ => rfl) (fun _ => rfl) (fun r27 u26 H locs h hP hD hS => ?_)
                refine lv_if_eq (tgt := 123) hx hb dX8_keeps_116 (by decide) (fun c28 => ?_) (fun c28 => ?_)
                · have h := h.1 c28
                  refine lv_iconst (v := 0) hx hb dX8_keeps_123 (by decide) ?_
                  exact W.iret (v := 0) hx hb hr (fun t ht hW => ⟨⟨0, u26, rfl, h, by rw [ht]; exact hP, va_K.moved hW.alike hK, hD⟩, hS.F ht⟩) hS.2.2 dX8_keeps_124
                · have h := h.2 c28
                  refine lv_iconst (v := 1) hx hb dX8_keeps_119 (by decide) ?_
                  refine lv_goto (tgt := 124) hx hb dX8_keeps_120 (by decide) ?_
                  exact W.iret (v := 1) hx hb hr (fun t ht hW => ⟨⟨1, u26, rfl, h, by rw [ht]; exact hP, va_K.moved hW.alike hK, hD⟩, hS.F ht⟩) hS.2.2 dX8_keeps_124
  have hl := lv_entry ([.ref (a 0)]) (n := 3) (Nat.le_of_ble_eq_true rfl)
  rw [lg_entry_eq]
  generalize (lg_sl ([.ref (a 0)]) ++ List.replicate (3 - (lg_sl ([.ref (a 0)])).length) Slot.unset).toArray = ls at hl ⊢
  have hl : lv_has ls 3 [(0, .ref (a 0))] := hl
  unfold wp_X8_keeps at h
  refine lv_aload_n hx hb dX8_keeps_0 rfl (lv_at hl 0 rfl) ?_
  refine lv_iconst (v := 0) hx hb dX8_keeps_1 (by decide) ?_
  obtain ⟨T1, eT1⟩ : ∃ z : Ob, z = (si S 17 0) := ⟨_, rfl⟩
  refine pu_f (ci := 7) (v := .int 0) (ty := .int) (C := RX8) (T := TX8) (N := 25) hx hb hts inX8 tyX8 tyX8_ok nmX8 hown hK hP hD hS 0 rfl rfl 17 (by decide) (hts _ q_1094) (fun _ h9 => h9) rfl rfl rfl rfl (Nat.le_of_ble_eq_true rfl) dX8_keeps_2 (wX8 cI cZ a T1) (by subst eT1; rfl) (fun H locs hP hD hS => ?_)
  have h := h T1 eT1
  refine lv_aload_n hx hb dX8_keeps_5 rfl (lv_at hl 0 rfl) ?_
  refine va_get (D := D) (ci := 7) (v := .ref (a 4)) (C := RX8) (T := TX8) (N := 25) hx hb hts inX8 hown hK hP 0 rfl rfl 4 (by decide) (hts _ q_1081) (fun _ h9 => h9) rfl dX8_keeps_6 ?_
  refine lv_bipush (v := 20) hx hb dX8_keeps_9 (by decide) ?_
  refine ar_il (f := (T1.2 4)) (n := 342) (j := 20) hx hb hK hP 4 rfl (by decide) (okLit (by decide)) dX8_keeps_11 ?_
  refine lv_if_ne (tgt := 36) hx hb dX8_keeps_12 (by decide) (fun c2 => ?_) (fun c2 => ?_)
  · have h := h.1 c2
    refine lv_iconst (v := -1) hx hb dX8_keeps_36 (by decide) ?_
    exact W.iret (v := (-1)) hx hb hr (fun t ht hW => ⟨⟨(-1), T1, rfl, h, by rw [ht]; exact hP, va_K.moved hW.alike hK, hD⟩, hS.F ht⟩) hS.2.2 dX8_keeps_37
  · have h := h.2 c2
    refine lv_aload_n hx hb dX8_keeps_15 rfl (lv_at hl 0 rfl) ?_
    refine va_get (D := D) (ci := 7) (v := .ref (a 4)) (C := RX8) (T := TX8) (N := 25) hx hb hts inX8 hown hK hP 0 rfl rfl 4 (by decide) (hts _ q_1081) (fun _ h9 => h9) rfl dX8_keeps_16 ?_
    refine lv_bipush (v := 22) hx hb dX8_keeps_19 (by decide) ?_
    refine ar_il (f := (T1.2 4)) (n := 342) (j := 22) hx hb hK hP 4 rfl (by decide) (okLit (by decide)) dX8_keeps_21 ?_
    refine lv_if_ne (tgt := 36) hx hb dX8_keeps_22 (by decide) (fun c3 => ?_) (fun c3 => ?_)
    · have h := h.1 c3
      refine lv_iconst (v := -1) hx hb dX8_keeps_36 (by decide) ?_
      exact W.iret (v := (-1)) hx hb hr (fun t ht hW => ⟨⟨(-1), T1, rfl, h, by rw [ht]; exact hP, va_K.moved hW.alike hK, hD⟩, hS.F ht⟩) hS.2.2 dX8_keeps_37
    · have h := h.2 c3
      refine lv_aload_n hx hb dX8_keeps_25 rfl (lv_at hl 0 rfl) ?_
      refine lv_aload_n hx hb dX8_keeps_26 rfl (lv_at hl 0 rfl) ?_
      refine va_get (D := D) (ci := 7) (v := .ref (a 4)) (C := RX8) (T := TX8) (N := 25) hx hb hts inX8 hown hK hP 0 rfl rfl 4 (by decide) (hts _ q_1081) (fun _ h9 => h9) rfl dX8_keeps_27 ?_
      refine cl_i (ws' := fun u4 => (wX8 cI cZ a (mnow T1 u4.1 u4.2))) (va_runV (As := [.ref (a 4)]) (rest := []) ⟨hx, hb, hml, hown, hts⟩ (c_X8_nextOf_ l D cI cZ a (fun k => a (k + 4)) true _ (T1, (T1.2 4)) _ h (fun _ => rfl)) (cwV 1 hts (gV q_1229 q_1231 q_35 q_75 q_1232) rfl rfl rfl (by decide +kernel) ⟨Nat.le_of_ble_eq_true rfl, Nat.le_of_ble_eq_true rfl⟩) (preV_of (ci := 7) (q := (RX8, TX8, 25)) hK hP hD [0, 1, 2, 3, 6, 7, 8, 9, 10, 11, 12, 4] rfl rfl (by decide) 0 rfl rfl) rfl rfl hl.1 rfl (lv_room (Nat.le_of_ble_eq_true rfl)) dX8_keeps_30 ⟨Nat.zero_le _, Nat.zero_le _⟩) hP hD hS hA [0, 1, 2, 3, 6, 7, 8, 9, 10, 11, 12, 4] [.inl 0, .inl 1, .inl 2, .inl 3, .inl 11, .inr 5, .inl 4, .inl 5, .inl 6, .inl 7, .inl 8, .inl 9, .inl 10, .inr 13, .inr 14, .inr 15, .inr 16, .inr 17] rfl (by decide) (fun _ => rfl) (fun _ => rfl) (fun r5 u4 H locs h hP hD hS => ?_)
      refine lv_if_ge (tgt := 38) hx hb dX8_keeps_33 (by decide) (fun c6 => ?_) (fun c6 => ?_)
      · have h := h.1 c6
        refine lv_aload_n hx hb dX8_keeps_38 rfl (lv_at hl 0 rfl) ?_
        refine lv_iconst (v := 0) hx hb dX8_keeps_39 (by decide) ?_
        refine cl_v (ws' := fun u7 => (wX8 cI cZ a u7)) (va_runV (As := [.int 0]) (rest := []) ⟨hx, hb, hml, hown, hts⟩ (c_X8_likeNow l D cI cZ a _ (mnow T1 u4.1 u4.2) 0 _ h ) (cwV 1 hts (gV q_1450 q_1452 q_60 q_75 q_1453) rfl rfl rfl (by decide +kernel) ⟨Nat.le_of_ble_eq_true rfl, Nat.le_of_ble_eq_true rfl⟩) (preV_of (ci := 7) (q := (RX8, TX8, 25)) hK hP hD [0, 1, 2, 3, 4, 5, 6, 7, 8, 9, 10, 11, 12, 13, 14, 15, 16, 17] rfl rfl (by decide) 0 rfl rfl) rfl rfl hl.1 rfl (lv_room (Nat.le_of_ble_eq_true rfl)) dX8_keeps_40 ⟨Nat.zero_le _, Nat.zero_le _⟩) hP hD hS hA [0, 1, 2, 3, 4, 5, 6, 7, 8, 9, 10, 11, 12, 13, 14, 15, 16, 17] [.inl 0, .inl 1, .inl 2, .inl 3, .inl 4, .inl 5, .inl 6, .inl 7, .inl 8, .inl 9, .inl 10, .inl 11, .inl 12, .inl 13, .inl 14, .inl 15, .inl 16, .inl 17] rfl (by decide) (fun _ => rfl) (fun _ => rfl) (fun u7 H locs h hP hD hS => ?_)
        refine lv_iconst (v := 0) hx hb dX8_keeps_43 (by decide) ?_
        refine lv_istore_n (lv' := [(1, .int 0), (0, .ref (a 0))]) hx hb dX8_keeps_44 rfl hl (by decide) rfl (fun ls hl => ?_)
        refine lv_iconst (v := 0) hx hb dX8_keeps_45 (by decide) ?_
        refine lv_istore_n (lv' := [(2, .int 0), (1, .int 0), (0, .ref (a 0))]) hx hb dX8_keeps_46 rfl hl (by decide) rfl (fun ls hl => ?_)
        exact L47 2000 0 0 u7 _ _ _ hP hD hS (lv_sub hl [2, 1, 0] rfl) h
      · have h := h.2 c6
        refine lv_iconst (v := -1) hx hb dX8_keeps_36 (by decide) ?_
        exact W.iret (v := (-1)) hx hb hr (fun t ht hW => ⟨⟨(-1), (mnow T1 u4.1 u4.2), rfl, h, by rw [ht]; exact hP, va_K.moved hW.alike hK, hD⟩, hS.F ht⟩) hS.2.2 dX8_keeps_37
/-! X8_branches -/
abbrev rmX8_branches : Room := { frames := 0, cells := 0, slots := 0, locals := 0 }
set_option maxHeartbeats 4000000 in
set_option maxRecDepth 100000 in
theorem c_X8_branches (l : Launch) (D : va_G) (cI cZ : ClassId) (a : Nat → Nat) (sz : Nat) (S : Ob) (p0 : Int32) (Q : Int32 → Ob → Prop) (h : wp_X8_branches S p0 Q) : Met l yX8_branches (wsm yX8_branches cX8_branches 2 (some .boolean)) rmX8_branches (va_Pc [.ref (a 0), .int p0] (preW D cI cZ sz (wX8 cI cZ a S))) (va_Qi Q (fun u => atW D cI cZ (va_A (wX8 cI cZ a S) sz) (wX8 cI cZ a u)) (va_A (wX8 cI cZ a S) sz)) 0 0 (va_A (wX8 cI cZ a S) sz) := by
  refine Met.ofW (cc := cX8_branches) (maxL := 2) (ret := (some .boolean)) (by decide) rfl ?_
  intro p e s m args below meth c s₁ B hml hv
  obtain ⟨rfl, hsz, hP, hK, hD0⟩ := hv
  have hx := B.exec
  have hb := B.bytes
  have hr := B.returns
  have hts0 := atoms_spec (ws := wsm yX8_branches cX8_branches 2 (some .boolean)) B.pre
  have hts : ∀ w ∈ lw_all, w.before _ s = true := fun w h => hts0 w (List.mem_cons_of_mem _ h)
  have hown : s.vm.findClass RX8 = some m.cls := findClass_of_methodNamed B.named
  have hlocks := B.notSynchronized
  subst hsz
  have hD := hD0.self (sz := s.heap.size)
  generalize hAe : va_A (wX8 cI cZ a S) s.heap.size = A at hD ⊢
  have hA : ∀ q : Nat, s.heap.size ≤ q → A q := fun q h => by rw [← hAe]; exact Or.inr h
  have hS : va_S A s.heap s.heap [] := va_S.rf
  have hml2 := hml
  have hl := lv_entry ([.ref (a 0), .int p0]) (n := 2) (Nat.le_of_ble_eq_true rfl)
  rw [lg_entry_eq]
  generalize (lg_sl ([.ref (a 0), .int p0]) ++ List.replicate (2 - (lg_sl ([.ref (a 0), .int p0])).length) Slot.unset).toArray = ls at hl ⊢
  have hl : lv_has ls 2 [(0, .ref (a 0)), (1, .int p0)] := hl
  unfold wp_X8_branches at h
  refine lv_aload_n hx hb dX8_branches_0 rfl (lv_at hl 0 rfl) ?_
  refine va_get (D := D) (ci := 7) (v := .ref (a 1)) (C := RX8) (T := TX8) (N := 25) hx hb hts inX8 hown hK hP 0 rfl rfl 0 (by decide) (hts _ q_1077) (fun _ h9 => h9) rfl dX8_branches_1 ?_
  refine lv_iload_n hx hb dX8_branches_4 rfl (lv_at hl 1 rfl) ?_
  refine ar_il (f := (S.2 0)) (n := 512) (j := (Int32.toNatClampNeg p0)) hx hb hK hP 1 rfl rfl h.1 dX8_branches_5 ?_
  have h := h.2
  refine lv_bipush (v := 12) hx hb dX8_branches_6 (by decide) ?_
  refine lv_icmp_eq (tgt := 22) hx hb dX8_branches_8 (by decide) (fun c1 => ?_) (fun c1 => ?_)
  · have h := h.1 c1
    refine lv_iconst (v := 1) hx hb dX8_branches_22 (by decide) ?_
    refine lv_goto (tgt := 27) hx hb dX8_branches_23 (by decide) ?_
    exact W.zret (ty := .boolean) (v := 1) hx hb hr (narB isB1) (fun t ht hW => ⟨⟨1, S, rfl, h, by rw [ht]; exact hP, va_K.moved hW.alike hK, hD⟩, hS.F ht⟩) hS.2.2 dX8_branches_27
  · have h := h.2 c1
    refine lv_aload_n hx hb dX8_branches_11 rfl (lv_at hl 0 rfl) ?_
    refine va_get (D := D) (ci := 7) (v := .ref (a 1)) (C := RX8) (T := TX8) (N := 25) hx hb hts inX8 hown hK hP 0 rfl rfl 0 (by decide) (hts _ q_1077) (fun _ h9 => h9) rfl dX8_branches_12 ?_
    refine lv_iload_n hx hb dX8_branches_15 rfl (lv_at hl 1 rfl) ?_
    refine ar_il (f := (S.2 0)) (n := 512) (j := (Int32.toNatClampNeg p0)) hx hb hK hP 1 rfl rfl h.1 dX8_branches_16 ?_
    have h := h.2
    refine lv_bipush (v := 13) hx hb dX8_branches_17 (by decide) ?_
    refine lv_icmp_ne (tgt := 26) hx hb dX8_branches_19 (by decide) (fun c2 => ?_) (fun c2 => ?_)
    · have h := h.1 c2
      refine lv_iconst (v := 0) hx hb dX8_branches_26 (by decide) ?_
      exact W.zret (ty := .boolean) (v := 0) hx hb hr (narB isB0) (fun t ht hW => ⟨⟨0, S, rfl, h, by rw [ht]; exact hP, va_K.moved hW.alike hK, hD⟩, hS.F ht⟩) hS.2.2 dX8_branches_27
    · have h := h.2 c2
      refine lv_iconst (v := 1) hx hb dX8_branches_22 (by decide) ?_
      refine lv_goto (tgt := 27) hx hb dX8_branches_23 (by decide) ?_
      exact W.zret (ty := .boolean) (v := 1) hx hb hr (narB isB1) (fun t ht hW => ⟨⟨1, S, rfl, h, by rw [ht]; exact hP, va_K.moved hW.alike hK, hD⟩, hS.F ht⟩) hS.2.2 dX8_branches_27
/-! X8_goesTo -/
abbrev rmX8_goesTo : Room := { frames := 0, cells := 0, slots := 0, locals := 0 }
set_option maxHeartbeats 4000000 in
set_option maxRecDepth 100000 in
theorem c_X8_goesTo (l : Launch) (D : va_G) (cI cZ : ClassId) (a : Nat → Nat) (sz : Nat) (S : Ob) (p0 : Int32) (p1 : Int32) (Q : Int32 → Ob → Prop) (h : wp_X8_goesTo S p0 p1 Q) : Met l yX8_goesTo (wsm yX8_goesTo cX8_goesTo 3 (some .int)) rmX8_goesTo (va_Pc [.ref (a 0), .int p0, .int p1] (preT D cI cZ sz (wX8 cI cZ a S))) (va_Qi Q (fun u => atW D cI cZ (va_A (wX8 cI cZ a S) sz) (wX8 cI cZ a u)) (va_A (wX8 cI cZ a S) sz)) 0 0 (va_A (wX8 cI cZ a S) sz) := by
  refine Met.ofW (cc := cX8_goesTo) (maxL := 3) (ret := (some .int)) (by decide) rfl ?_
  intro p e s m args below meth c s₁ B hml hv
  obtain ⟨rfl, ⟨hsz, hP, hK, hD0⟩, hF⟩ := hv
  have hx := B.exec
  have hb := B.bytes
  have hr := B.returns
  have hts0 := atoms_spec (ws := wsm yX8_goesTo cX8_goesTo 3 (some .int)) B.pre
  have hts : ∀ w ∈ lw_all, w.before _ s = true := fun w h => hts0 w (List.mem_cons_of_mem _ h)
  have hown : s.vm.findClass RX8 = some m.cls := findClass_of_methodNamed B.named
  have hlocks := B.notSynchronized
  subst hsz
  have hD := hD0.self (sz := s.heap.size)
  generalize hAe : va_A (wX8 cI cZ a S) s.heap.size = A at hD hF ⊢
  have hA : ∀ q : Nat, s.heap.size ≤ q → A q := fun q h => by rw [← hAe]; exact Or.inr h
  have hS : va_S A s.heap s.heap [] := va_S.rf
  have hml2 := hml
  have hl := lv_entry ([.ref (a 0), .int p0, .int p1]) (n := 3) (Nat.le_of_ble_eq_true rfl)
  rw [lg_entry_eq]
  generalize (lg_sl ([.ref (a 0), .int p0, .int p1]) ++ List.replicate (3 - (lg_sl ([.ref (a 0), .int p0, .int p1])).length) Slot.unset).toArray = ls at hl ⊢
  have hl : lv_has ls 3 [(0, .ref (a 0)), (1, .int p0), (2, .int p1)] := hl
  unfold wp_X8_goesTo at h
  refine lv_aload_n hx hb dX8_goesTo_0 rfl (lv_at hl 0 rfl) ?_
  refine va_get (D := D) (ci := 7) (v := .ref (a 1)) (C := RX8) (T := TX8) (N := 25) hx hb hts inX8 hown hK hP 0 rfl rfl 0 (by decide) (hts _ q_1077) (fun _ h9 => h9) rfl dX8_goesTo_1 ?_
  refine lv_iload_n hx hb dX8_goesTo_4 rfl (lv_at hl 1 rfl) ?_
  refine ar_il (f := (S.2 0)) (n := 512) (j := (Int32.toNatClampNeg p0)) hx hb hK hP 1 rfl rfl h.1 dX8_goesTo_5 ?_
  have h := h.2
  refine lv_bipush (v := 11) hx hb dX8_goesTo_6 (by decide) ?_
  refine lv_icmp_eq (tgt := 16) hx hb dX8_goesTo_8 (by decide) (fun c1 => ?_) (fun c1 => ?_)
  · have h := h.1 c1
    refine lv_sipush (v := 256) hx hb dX8_goesTo_16 (by decide) ?_
    refine lv_aload_n hx hb dX8_goesTo_19 rfl (lv_at hl 0 rfl) ?_
    refine va_get (D := D) (ci := 7) (v := .ref (a 1)) (C := RX8) (T := TX8) (N := 25) hx hb hts inX8 hown hK hP 0 rfl rfl 0 (by decide) (hts _ q_1077) (fun _ h9 => h9) rfl dX8_goesTo_20 ?_
    refine lv_iload_n hx hb dX8_goesTo_23 rfl (lv_at hl 1 rfl) ?_
    refine lv_iconst (v := 1) hx hb dX8_goesTo_24 (by decide) ?_
    refine lv_iadd hx hb dX8_goesTo_25 ?_
    refine lv_sipush (v := 512) hx hb dX8_goesTo_26 (by decide) ?_
    refine lv_irem hx hb dX8_goesTo_29 (by decide) ?_
    refine ar_il (f := (S.2 0)) (n := 512) (j := (Int32.toNatClampNeg ((p0 + 1) - (p0 + 1) / 512 * 512))) hx hb hK hP 1 rfl rfl h.1 dX8_goesTo_30 ?_
    have h := h.2
    refine lv_imul hx hb dX8_goesTo_31 ?_
    refine lv_aload_n hx hb dX8_goesTo_32 rfl (lv_at hl 0 rfl) ?_
    refine va_get (D := D) (ci := 7) (v := .ref (a 1)) (C := RX8) (T := TX8) (N := 25) hx hb hts inX8 hown hK hP 0 rfl rfl 0 (by decide) (hts _ q_1077) (fun _ h9 => h9) rfl dX8_goesTo_33 ?_
    refine lv_iload_n hx hb dX8_goesTo_36 rfl (lv_at hl 1 rfl) ?_
    refine lv_iconst (v := 2) hx hb dX8_goesTo_37 (by decide) ?_
    refine lv_iadd hx hb dX8_goesTo_38 ?_
    refine lv_sipush (v := 512) hx hb dX8_goesTo_39 (by decide) ?_
    refine lv_irem hx hb dX8_goesTo_42 (by decide) ?_
    refine ar_il (f := (S.2 0)) (n := 512) (j := (Int32.toNatClampNeg ((p0 + 2) - (p0 + 2) / 512 * 512))) hx hb hK hP 1 rfl rfl h.1 dX8_goesTo_43 ?_
    have h := h.2
    refine lv_iadd hx hb dX8_goesTo_44 ?_
    refine lv_sipush (v := 512) hx hb dX8_goesTo_45 (by decide) ?_
    refine lv_irem hx hb dX8_goesTo_48 (by decide) ?_
    refine lv_goto (tgt := 68) hx hb dX8_goesTo_49 (by decide) ?_
    exact W.iret (v := (((256 * ((S.2 0) (Int32.toNatClampNeg ((p0 + 1) - (p0 + 1) / 512 * 512)))) + ((S.2 0) (Int32.toNatClampNeg ((p0 + 2) - (p0 + 2) / 512 * 512)))) - ((256 * ((S.2 0) (Int32.toNatClampNeg ((p0 + 1) - (p0 + 1) / 512 * 512)))) + ((S.2 0) (Int32.toNatClampNeg ((p0 + 2) - (p0 + 2) / 512 * 512)))) / 512 * 512)) hx hb hr (fun t ht hW => ⟨⟨(((256 * ((S.2 0) (Int32.toNatClampNeg ((p0 + 1) - (p0 + 1) / 512 * 512)))) + ((S.2 0) (Int32.toNatClampNeg ((p0 + 2) - (p0 + 2) / 512 * 512)))) - ((256 * ((S.2 0) (Int32.toNatClampNeg ((p0 + 1) - (p0 + 1) / 512 * 512)))) + ((S.2 0) (Int32.toNatClampNeg ((p0 + 2) - (p0 + 2) / 512 * 512)))) / 512 * 512), S, rfl, h, by rw [ht]; exact hP, va_K.moved hW.alike hK, hD⟩, hS.F ht⟩) hS.2.2 dX8_goesTo_68
  · have h := h.2 c1
    refine lv_iload_n hx hb dX8_goesTo_11 rfl (lv_at hl 2 rfl) ?_
    refine lv_iconst (v := 1) hx hb dX8_goesTo_12 (by decide) ?_
    refine lv_icmp_ne (tgt := 52) hx hb dX8_goesTo_13 (by decide) (fun c2 => ?_) (fun c2 => ?_)
    · have h := h.1 c2
      refine lv_iload_n hx hb dX8_goesTo_52 rfl (lv_at hl 1 rfl) ?_
      obtain ⟨t3, hZt3, hTt3⟩ := hF.1.2.2.1
      refine va_gets (C := RX8) hx hb hZt3 hS hown (hts _ q_1328) (fun _ h9 => h9) dX8_goesTo_53 ?_
      refine lv_aload_n hx hb dX8_goesTo_56 rfl (lv_at hl 0 rfl) ?_
      refine va_get (D := D) (ci := 7) (v := .ref (a 1)) (C := RX8) (T := TX8) (N := 25) hx hb hts inX8 hown hK hP 0 rfl rfl 0 (by decide) (hts _ q_1077) (fun _ h9 => h9) rfl dX8_goesTo_57 ?_
      refine lv_iload_n hx hb dX8_goesTo_60 rfl (lv_at hl 1 rfl) ?_
      refine ar_il (f := (S.2 0)) (n := 512) (j := (Int32.toNatClampNeg p0)) hx hb hK hP 1 rfl rfl h.1 dX8_goesTo_61 ?_
      have h := h.2
      refine va_ti hx hb hTt3 hS h.1 (v := .int (tabL (Int32.toNatClampNeg ((S.2 0) (Int32.toNatClampNeg p0))))) rfl dX8_goesTo_62 ?_
      have h := h.2
      refine lv_iadd hx hb dX8_goesTo_63 ?_
      refine lv_sipush (v := 512) hx hb dX8_goesTo_64 (by decide) ?_
      refine lv_irem hx hb dX8_goesTo_67 (by decide) ?_
      exact W.iret (v := ((p0 + (tabL (Int32.toNatClampNeg ((S.2 0) (Int32.toNatClampNeg p0))))) - (p0 + (tabL (Int32.toNatClampNeg ((S.2 0) (Int32.toNatClampNeg p0))))) / 512 * 512)) hx hb hr (fun t ht hW => ⟨⟨((p0 + (tabL (Int32.toNatClampNeg ((S.2 0) (Int32.toNatClampNeg p0))))) - (p0 + (tabL (Int32.toNatClampNeg ((S.2 0) (Int32.toNatClampNeg p0))))) / 512 * 512), S, rfl, h, by rw [ht]; exact hP, va_K.moved hW.alike hK, hD⟩, hS.F ht⟩) hS.2.2 dX8_goesTo_68
    · have h := h.2 c2
      refine lv_sipush (v := 256) hx hb dX8_goesTo_16 (by decide) ?_
      refine lv_aload_n hx hb dX8_goesTo_19 rfl (lv_at hl 0 rfl) ?_
      refine va_get (D := D) (ci := 7) (v := .ref (a 1)) (C := RX8) (T := TX8) (N := 25) hx hb hts inX8 hown hK hP 0 rfl rfl 0 (by decide) (hts _ q_1077) (fun _ h9 => h9) rfl dX8_goesTo_20 ?_
      refine lv_iload_n hx hb dX8_goesTo_23 rfl (lv_at hl 1 rfl) ?_
      refine lv_iconst (v := 1) hx hb dX8_goesTo_24 (by decide) ?_
      refine lv_iadd hx hb dX8_goesTo_25 ?_
      refine lv_sipush (v := 512) hx hb dX8_goesTo_26 (by decide) ?_
      refine lv_irem hx hb dX8_goesTo_29 (by decide) ?_
      refine ar_il (f := (S.2 0)) (n := 512) (j := (Int32.toNatClampNeg ((p0 + 1) - (p0 + 1) / 512 * 512))) hx hb hK hP 1 rfl rfl h.1 dX8_goesTo_30 ?_
      have h := h.2
      refine lv_imul hx hb dX8_goesTo_31 ?_
      refine lv_aload_n hx hb dX8_goesTo_32 rfl (lv_at hl 0 rfl) ?_
      refine va_get (D := D) (ci := 7) (v := .ref (a 1)) (C := RX8) (T := TX8) (N := 25) hx hb hts inX8 hown hK hP 0 rfl rfl 0 (by decide) (hts _ q_1077) (fun _ h9 => h9) rfl dX8_goesTo_33 ?_
      refine lv_iload_n hx hb dX8_goesTo_36 rfl (lv_at hl 1 rfl) ?_
      refine lv_iconst (v := 2) hx hb dX8_goesTo_37 (by decide) ?_
      refine lv_iadd hx hb dX8_goesTo_38 ?_
      refine lv_sipush (v := 512) hx hb dX8_goesTo_39 (by decide) ?_
      refine lv_irem hx hb dX8_goesTo_42 (by decide) ?_
      refine ar_il (f := (S.2 0)) (n := 512) (j := (Int32.toNatClampNeg ((p0 + 2) - (p0 + 2) / 512 * 512))) hx hb hK hP 1 rfl rfl h.1 dX8_goesTo_43 ?_
      have h := h.2
      refine lv_iadd hx hb dX8_goesTo_44 ?_
      refine lv_sipush (v := 512) hx hb dX8_goesTo_45 (by decide) ?_
      refine lv_irem hx hb dX8_goesTo_48 (by decide) ?_
      refine lv_goto (tgt := 68) hx hb dX8_goesTo_49 (by decide) ?_
      exact W.iret (v := (((256 * ((S.2 0) (Int32.toNatClampNeg ((p0 + 1) - (p0 + 1) / 512 * 512)))) + ((S.2 0) (Int32.toNatClampNeg ((p0 + 2) - (p0 + 2) / 512 * 512)))) - ((256 * ((S.2 0) (Int32.toNatClampNeg ((p0 + 1) - (p0 + 1) / 512 * 512)))) + ((S.2 0) (Int32.toNatClampNeg ((p0 + 2) - (p0 + 2) / 512 * 512)))) / 512 * 512)) hx hb hr (fun t ht hW => ⟨⟨(((256 * ((S.2 0) (Int32.toNatClampNeg ((p0 + 1) - (p0 + 1) / 512 * 512)))) + ((S.2 0) (Int32.toNatClampNeg ((p0 + 2) - (p0 + 2) / 512 * 512)))) - ((256 * ((S.2 0) (Int32.toNatClampNeg ((p0 + 1) - (p0 + 1) / 512 * 512)))) + ((S.2 0) (Int32.toNatClampNeg ((p0 + 2) - (p0 + 2) / 512 * 512)))) / 512 * 512), S, rfl, h, by rw [ht]; exact hP, va_K.moved hW.alike hK, hD⟩, hS.F ht⟩) hS.2.2 dX8_goesTo_68
/-! X8_meets -/
abbrev rmX8_meets : Room := { frames := 1, cells := 0, slots := 0, locals := 22 }
set_option maxHeartbeats 4000000 in
set_option maxRecDepth 100000 in
theorem c_X8_meets (l : Launch) (D : va_G) (cI cZ : ClassId) (a : Nat → Nat) (sz : Nat) (S : Ob) (p0 : Int32) (Q : Int32 → Ob → Prop) (h : wp_X8_meets S p0 Q) : Met l yX8_meets (wsm yX8_meets cX8_meets 7 (some .boolean)) rmX8_meets (va_Pc [.ref (a 0), .int p0] (preT D cI cZ sz (wX8 cI cZ a S))) (va_Qi Q (fun u => atW D cI cZ (va_A (wX8 cI cZ a S) sz) (wX8 cI cZ a u)) (va_A (wX8 cI cZ a S) sz)) 0 0 (va_A (wX8 cI cZ a S) sz) := by
  refine Met.ofW (cc := cX8_meets) (maxL := 7) (ret := (some .boolean)) (by decide) rfl ?_
  intro p e s m args below meth c s₁ B hml hv
  obtain ⟨rfl, ⟨hsz, hP, hK, hD0⟩, hF⟩ := hv
  have hx := B.exec
  have hb := B.bytes
  have hr := B.returns
  have hts0 := atoms_spec (ws := wsm yX8_meets cX8_meets 7 (some .boolean)) B.pre
  have hts : ∀ w ∈ lw_all, w.before _ s = true := fun w h => hts0 w (List.mem_cons_of_mem _ h)
  have hown : s.vm.findClass RX8 = some m.cls := findClass_of_methodNamed B.named
  have hlocks := B.notSynchronized
  subst hsz
  have hD := hD0.self (sz := s.heap.size)
  generalize hAe : va_A (wX8 cI cZ a S) s.heap.size = A at hD hF ⊢
  have hA : ∀ q : Nat, s.heap.size ≤ q → A q := fun q h => by rw [← hAe]; exact Or.inr h
  have hS : va_S A s.heap s.heap [] := va_S.rf
  have hml2 := hml
  have L128 : ∀ (k61 : Int32 → Int32 → Ob → Prop) (K61 : ∀ (y2 : Int32) (y3 : Int32) (T : Ob) (H : Heap) (locs : List Loc) (ls : Array Slot), va_P D vwCl (wX8 cI cZ a T) H → va_D A (wX8 cI cZ a T) → va_S A s.heap H locs → lv_has ls 7 [(0, .ref (a 0)), (2, .int y2), (3, .int y3)] → k61 y2 y3 T → W p l e rmX8_meets s m ([.ref (a 0), .int p0] : List Value).toArray below meth c H locs 0 0 (MQ below (va_Qi Q (fun u => atW D cI cZ A (wX8 cI cZ a u)) A) ([.ref (a 0), .int p0] : List Value).toArray s 0 0 A) (F0 m 61 ls [])) (n : Nat), ∀ (y2 : Int32) (y3 : Int32) (y4 : Int32) (y5 : Int32) (T : Ob) (H : Heap) (locs : List Loc) (ls : Array Slot), va_P D vwCl (wX8 cI cZ a T) H → va_D A (wX8 cI cZ a T) → va_S A s.heap H locs → lv_has ls 7 [(0, .ref (a 0)), (2, .int y2), (3, .int y3), (4, .int y4), (5, .int y5)] → wp_X8_meets_L128 Q k61 n y2 y3 y4 y5 T → W p l e rmX8_meets s m ([.ref (a 0), .int p0] : List Value).toArray below meth c H locs 0 0 (MQ below (va_Qi Q (fun u => atW D cI cZ A (wX8 cI cZ a u)) A) ([.ref (a 0), .int p0] : List Value).toArray s 0 0 A) (F0 m 128 ls []) := by
    intro k61 K61 n
    induction n with
    | zero =>
      intro y2 y3 y4 y5 T H locs ls hP hD hS hl h
      exact False.elim h
    | succ n ih =>
      intro y2 y3 y4 y5 T H locs ls hP hD hS hl h
      unfold wp_X8_meets_L128 at h
      refine lv_iload hx hb dX8_meets_128 (lv_at hl 4 rfl) ?_
      refine lv_aload_n hx hb dX8_meets_130 rfl (lv_at hl 0 rfl) ?_
      refine lv_iload hx hb dX8_meets_131 (lv_at hl 3 rfl) ?_
      refine cl_i (ws' := fun u16 => (wX8 cI cZ a u16)) (va_runV (As := [.int y4]) (rest := [.int y5]) ⟨hx, hb, hml, hown, hts⟩ (c_X8_branches l D cI cZ a _ T y4 _ h ) (cwV 1 hts (gV q_1486 q_1488 q_64 q_75 q_1489) rfl rfl rfl (by decide +kernel) ⟨Nat.le_of_ble_eq_true rfl, Nat.le_of_ble_eq_true rfl⟩) (preV_of (ci := 7) (q := (RX8, TX8, 25)) hK hP hD [0, 1, 2, 3, 4, 5, 6, 7, 8, 9, 10, 11, 12, 13, 14, 15, 16, 17] rfl rfl (by decide) 0 rfl rfl) rfl rfl hl.1 rfl (lv_room (Nat.le_of_ble_eq_true rfl)) dX8_meets_133 ⟨Nat.zero_le _, Nat.zero_le _⟩) hP hD hS hA [0, 1, 2, 3, 4, 5, 6, 7, 8, 9, 10, 11, 12, 13, 14, 15, 16, 17] [.inl 0, .inl 1, .inl 2, .inl 3, .inl 4, .inl 5, .inl 6, .inl 7, .inl 8, .inl 9, .inl 10, .inl 11, .inl 12, .inl 13, .inl 14, .inl 15, .inl 16, .inl 17] rfl (by decide) (fun _ => rfl) (fun _ => rfl) (fun r17 u16 H locs h hP hD hS => ?_)
      refine lv_if_eq (tgt := 143) hx hb dX8_meets_136 (by decide) (fun c18 => ?_) (fun c18 => ?_)
      · have h := h.1 c18
        refine lv_iconst (v := 1) hx hb dX8_meets_143 (by decide) ?_
        refine lv_icmp_ge (tgt := 206) hx hb dX8_meets_144 (by decide) (fun c19 => ?_) (fun c19 => ?_)
        · have h := h.1 c19
          obtain ⟨x20, ex20⟩ : ∃ y : Int32, y = (y3 + 1) := ⟨_, rfl⟩
          have h := h x20 ex20
          refine lv_iinc (v := x20) (lv' := [(3, .int x20), (0, .ref (a 0)), (2, .int y2), (4, .int y4), (5, .int y5)]) hx hb dX8_meets_206 hl (k := 2) rfl (by rw [ex20]; rfl) (by decide) rfl (fun ls hl => ?_)
          refine lv_goto (tgt := 61) hx hb dX8_meets_209 (by decide) ?_
          exact K61 y2 x20 u16 _ _ _ hP hD hS (lv_sub hl [1, 2, 0] rfl) h
        · have h := h.2 c19
          refine lv_aload_n hx hb dX8_meets_147 rfl (lv_at hl 0 rfl) ?_
          refine lv_iload hx hb dX8_meets_148 (lv_at hl 3 rfl) ?_
          refine lv_iload hx hb dX8_meets_150 (lv_at hl 4 rfl) ?_
          refine cl_i (ws' := fun u21 => (wX8 cI cZ a u21)) (va_runV (As := [.int y4, .int y5]) (rest := []) ⟨hx, hb, hml, hown, hts⟩ (c_X8_goesTo l D cI cZ a _ u16 y4 y5 _ h ) (cwV 2 hts (gV q_1490 q_1492 q_65 q_75 q_1493) rfl rfl rfl (by decide +kernel) ⟨Nat.le_of_ble_eq_true rfl, Nat.le_of_ble_eq_true rfl⟩) (preTV_of (ci := 7) (q := (RX8, TX8, 25)) hF hS hA hK hP hD [0, 1, 2, 3, 4, 5, 6, 7, 8, 9, 10, 11, 12, 13, 14, 15, 16, 17] rfl rfl (by decide) 0 rfl rfl) rfl rfl hl.1 rfl (lv_room (Nat.le_of_ble_eq_true rfl)) dX8_meets_152 ⟨Nat.zero_le _, Nat.zero_le _⟩) hP hD hS hA [0, 1, 2, 3, 4, 5, 6, 7, 8, 9, 10, 11, 12, 13, 14, 15, 16, 17] [.inl 0, .inl 1, .inl 2, .inl 3, .inl 4, .inl 5, .inl 6, .inl 7, .inl 8, .inl 9, .inl 10, .inl 11, .inl 12, .inl 13, .inl 14, .inl 15, .inl 16, .inl 17] rfl (by decide) (fun _ => rfl) (fun _ => rfl) (fun r22 u21 H locs h hP hD hS => ?_)
          refine lv_istore (lv' := [(6, .int r22), (0, .ref (a 0)), (2, .int y2), (3, .int y3), (4, .int y4), (5, .int y5)]) hx hb dX8_meets_155 hl (by decide) rfl (fun ls hl => ?_)
          refine lv_aload_n hx hb dX8_meets_157 rfl (lv_at hl 1 rfl) ?_
          refine va_get (D := D) (ci := 7) (v := .ref (a 14)) (C := RX8) (T := TX8) (N := 25) hx hb hts inX8 hown hK hP 0 rfl rfl 19 (by decide) (hts _ q_1096) (fun _ h9 => h9) rfl dX8_meets_158 ?_
          refine lv_iload hx hb dX8_meets_161 (lv_at hl 0 rfl) ?_
          refine lv_dup2_11 hx hb dX8_meets_163 rfl rfl ?_
          refine ar_il (f := (u21.2 19)) (n := 512) (j := (Int32.toNatClampNeg r22)) hx hb hK hP 14 rfl rfl h.1 dX8_meets_164 ?_
          have h := h.2
          refine lv_iconst (v := 1) hx hb dX8_meets_165 (by decide) ?_
          refine lv_iadd hx hb dX8_meets_166 ?_
          obtain ⟨T23, eT23⟩ : ∃ z : Ob, z = (sa u21 19 (upd (u21.2 19) (Int32.toNatClampNeg r22) (((u21.2 19) (Int32.toNatClampNeg r22)) + 1))) := ⟨_, rfl⟩
          refine ar_is (f := (u21.2 19)) (n := 512) (j := (Int32.toNatClampNeg r22)) (x := (((u21.2 19) (Int32.toNatClampNeg r22)) + 1)) hx hb hK hP hD hS 14 rfl rfl h.1 dX8_meets_167 (wX8 cI cZ a T23) (by subst eT23; rfl) (fun H locs hP hD hS => ?_)
          have h := h.2
          have h := h T23 eT23
          refine lv_aload_n hx hb dX8_meets_168 rfl (lv_at hl 1 rfl) ?_
          refine va_get (D := D) (ci := 7) (v := .ref (a 13)) (C := RX8) (T := TX8) (N := 25) hx hb hts inX8 hown hK hP 0 rfl rfl 18 (by decide) (hts _ q_1095) (fun _ h9 => h9) rfl dX8_meets_169 ?_
          refine lv_iload hx hb dX8_meets_172 (lv_at hl 0 rfl) ?_
          refine ar_zl (f := (T23.2 18)) (n := 512) (j := (Int32.toNatClampNeg r22)) hx hb hK hP 13 rfl rfl h.1 dX8_meets_174 ?_
          have h := h.2
          refine lv_if_eq (tgt := 181) hx hb dX8_meets_175 (by decide) (fun c24 => ?_) (fun c24 => ?_)
          · have h := h.1 c24
            refine lv_aload_n hx hb dX8_meets_181 rfl (lv_at hl 1 rfl) ?_
            refine va_get (D := D) (ci := 7) (v := .ref (a 13)) (C := RX8) (T := TX8) (N := 25) hx hb hts inX8 hown hK hP 0 rfl rfl 18 (by decide) (hts _ q_1095) (fun _ h9 => h9) rfl dX8_meets_182 ?_
            refine lv_iload hx hb dX8_meets_185 (lv_at hl 0 rfl) ?_
            refine lv_iconst (v := 1) hx hb dX8_meets_187 (by decide) ?_
            obtain ⟨T25, eT25⟩ : ∃ z : Ob, z = (sa T23 18 (upd (T23.2 18) (Int32.toNatClampNeg r22) 1)) := ⟨_, rfl⟩
            refine ar_zs (f := (T23.2 18)) (n := 512) (j := (Int32.toNatClampNeg r22)) (x := 1) hx hb hK hP hD hS 13 rfl rfl isB1 h.1 dX8_meets_188 (wX8 cI cZ a T25) (by subst eT25; rfl) (fun H locs hP hD hS => ?_)
            have h := h.2
            have h := h T25 eT25
            refine lv_aload_n hx hb dX8_meets_189 rfl (lv_at hl 1 rfl) ?_
            refine va_get (D := D) (ci := 7) (v := .ref (a 17)) (C := RX8) (T := TX8) (N := 25) hx hb hts inX8 hown hK hP 0 rfl rfl 22 (by decide) (hts _ q_1099) (fun _ h9 => h9) rfl dX8_meets_190 ?_
            refine lv_iload_n hx hb dX8_meets_193 rfl (lv_at hl 2 rfl) ?_
            refine lv_iload hx hb dX8_meets_194 (lv_at hl 0 rfl) ?_
            obtain ⟨T26, eT26⟩ : ∃ z : Ob, z = (sa T25 22 (upd (T25.2 22) (Int32.toNatClampNeg y2) r22)) := ⟨_, rfl⟩
            refine ar_is (f := (T25.2 22)) (n := 512) (j := (Int32.toNatClampNeg y2)) (x := r22) hx hb hK hP hD hS 17 rfl rfl h.1 dX8_meets_196 (wX8 cI cZ a T26) (by subst eT26; rfl) (fun H locs hP hD hS => ?_)
            have h := h.2
            have h := h T26 eT26
            obtain ⟨x27, ex27⟩ : ∃ y : Int32, y = (y2 + 1) := ⟨_, rfl⟩
            have h := h x27 ex27
            refine lv_iinc (v := x27) (lv' := [(2, .int x27), (6, .int r22), (0, .ref (a 0)), (3, .int y3), (4, .int y4), (5, .int y5)]) hx hb dX8_meets_197 hl (k := 2) rfl (by rw [ex27]; rfl) (by decide) rfl (fun ls hl => ?_)
            obtain ⟨x28, ex28⟩ : ∃ y : Int32, y = (y5 + 1) := ⟨_, rfl⟩
            have h := h x28 ex28
            refine lv_iinc (v := x28) (lv' := [(5, .int x28), (2, .int x27), (6, .int r22), (0, .ref (a 0)), (3, .int y3), (4, .int y4)]) hx hb dX8_meets_200 hl (k := 5) rfl (by rw [ex28]; rfl) (by decide) rfl (fun ls hl => ?_)
            refine lv_goto (tgt := 128) hx hb dX8_meets_203 (by decide) ?_
            exact ih x27 y3 y4 x28 T26 _ _ _ hP hD hS (lv_sub hl [3, 1, 4, 5, 0] rfl) h
          · have h := h.2 c24
            refine lv_goto (tgt := 200) hx hb dX8_meets_178 (by decide) ?_
            obtain ⟨x29, ex29⟩ : ∃ y : Int32, y = (y5 + 1) := ⟨_, rfl⟩
            have h := h x29 ex29
            refine lv_iinc (v := x29) (lv' := [(5, .int x29), (6, .int r22), (0, .ref (a 0)), (2, .int y2), (3, .int y3), (4, .int y4)]) hx hb dX8_meets_200 hl (k := 5) rfl (by rw [ex29]; rfl) (by decide) rfl (fun ls hl => ?_)
            refine lv_goto (tgt := 128) hx hb dX8_meets_203 (by decide) ?_
            exact ih y2 y3 y4 x29 T23 _ _ _ hP hD hS (lv_sub hl [2, 3, 4, 5, 0] rfl) h
      · have h := h.2 c18
        refine lv_iconst (v := 2) hx hb dX8_meets_139 (by decide) ?_
        refine lv_goto (tgt := 144) hx hb dX8_meets_140 (by decide) ?_
        refine lv_icmp_ge (tgt := 206) hx hb dX8_meets_144 (by decide) (fun c30 => ?_) (fun c30 => ?_)
        · have h := h.1 c30
          obtain ⟨x31, ex31⟩ : ∃ y : Int32, y = (y3 + 1) := ⟨_, rfl⟩
          have h := h x31 ex31
          refine lv_iinc (v := x31) (lv' := [(3, .int x31), (0, .ref (a 0)), (2, .int y2), (4, .int y4), (5, .int y5)]) hx hb dX8_meets_206 hl (k := 2) rfl (by rw [ex31]; rfl) (by decide) rfl (fun ls hl => ?_)
          refine lv_goto (tgt := 61) hx hb dX8_meets_209 (by decide) ?_
          exact K61 y2 x31 u16 _ _ _ hP hD hS (lv_sub hl [1, 2, 0] rfl) h
        · have h := h.2 c30
          refine lv_aload_n hx hb dX8_meets_147 rfl (lv_at hl 0 rfl) ?_
          refine lv_iload hx hb dX8_meets_148 (lv_at hl 3 rfl) ?_
          refine lv_iload hx hb dX8_meets_150 (lv_at hl 4 rfl) ?_
          refine cl_i (ws' := fun u32 => (wX8 cI cZ a u32)) (va_runV (As := [.int y4, .int y5]) (rest := []) ⟨hx, hb, hml, hown, hts⟩ (c_X8_goesTo l D cI cZ a _ u16 y4 y5 _ h ) (cwV 2 hts (gV q_1490 q_1492 q_65 q_75 q_1493) rfl rfl rfl (by decide +kernel) ⟨Nat.le_of_ble_eq_true rfl, Nat.le_of_ble_eq_true rfl⟩) (preTV_of (ci := 7) (q := (RX8, TX8, 25)) hF hS hA hK hP hD [0, 1, 2, 3, 4, 5, 6, 7, 8, 9, 10, 11, 12, 13, 14, 15, 16, 17] rfl rfl (by decide) 0 rfl rfl) rfl rfl hl.1 rfl (lv_room (Nat.le_of_ble_eq_true rfl)) dX8_meets_152 ⟨Nat.zero_le _, Nat.zero_le _⟩) hP hD hS hA [0, 1, 2, 3, 4, 5, 6, 7, 8, 9, 10, 11, 12, 13, 14, 15, 16, 17] [.inl 0, .inl 1, .inl 2, .inl 3, .inl 4, .inl 5, .inl 6, .inl 7, .inl 8, .inl 9, .inl 10, .inl 11, .inl 12, .inl 13, .inl 14, .inl 15, .inl 16, .inl 17] rfl (by decide) (fun _ => rfl) (fun _ => rfl) (fun r33 u32 H locs h hP hD hS => ?_)
          refine lv_istore (lv' := [(6, .int r33), (0, .ref (a 0)), (2, .int y2), (3, .int y3), (4, .int y4), (5, .int y5)]) hx hb dX8_meets_155 hl (by decide) rfl (fun ls hl => ?_)
          refine lv_aload_n hx hb dX8_meets_157 rfl (lv_at hl 1 rfl) ?_
          refine va_get (D := D) (ci := 7) (v := .ref (a 14)) (C := RX8) (T := TX8) (N := 25) hx hb hts inX8 hown hK hP 0 rfl rfl 19 (by decide) (hts _ q_1096) (fun _ h9 => h9) rfl dX8_meets_158 ?_
          refine lv_iload hx hb dX8_meets_161 (lv_at hl 0 rfl) ?_
          refine lv_dup2_11 hx hb dX8_meets_163 rfl rfl ?_
          refine ar_il (f := (u32.2 19)) (n := 512) (j := (Int32.toNatClampNeg r33)) hx hb hK hP 14 rfl rfl h.1 dX8_meets_164 ?_
          have h := h.2
          refine lv_iconst (v := 1) hx hb dX8_meets_165 (by decide) ?_
          refine lv_iadd hx hb dX8_meets_166 ?_
          obtain ⟨T34, eT34⟩ : ∃ z : Ob, z = (sa u32 19 (upd (u32.2 19) (Int32.toNatClampNeg r33) (((u32.2 19) (Int32.toNatClampNeg r33)) + 1))) := ⟨_, rfl⟩
          refine ar_is (f := (u32.2 19)) (n := 512) (j := (Int32.toNatClampNeg r33)) (x := (((u32.2 19) (Int32.toNatClampNeg r33)) + 1)) hx hb hK hP hD hS 14 rfl rfl h.1 dX8_meets_167 (wX8 cI cZ a T34) (by subst eT34; rfl) (fun H locs hP hD hS => ?_)
          have h := h.2
          have h := h T34 eT34
          refine lv_aload_n hx hb dX8_meets_168 rfl (lv_at hl 1 rfl) ?_
          refine va_get (D := D) (ci := 7) (v := .ref (a 13)) (C := RX8) (T := TX8) (N := 25) hx hb hts inX8 hown hK hP 0 rfl rfl 18 (by decide) (hts _ q_1095) (fun _ h9 => h9) rfl dX8_meets_169 ?_
          refine lv_iload hx hb dX8_meets_172 (lv_at hl 0 rfl) ?_
          refine ar_zl (f := (T34.2 18)) (n := 512) (j := (Int32.toNatClampNeg r33)) hx hb hK hP 13 rfl rfl h.1 dX8_meets_174 ?_
          have h := h.2
          refine lv_if_eq (tgt := 181) hx hb dX8_meets_175 (by decide) (fun c35 => ?_) (fun c35 => ?_)
          · have h := h.1 c35
            refine lv_aload_n hx hb dX8_meets_181 rfl (lv_at hl 1 rfl) ?_
            refine va_get (D := D) (ci := 7) (v := .ref (a 13)) (C := RX8) (T := TX8) (N := 25) hx hb hts inX8 hown hK hP 0 rfl rfl 18 (by decide) (hts _ q_1095) (fun _ h9 => h9) rfl dX8_meets_182 ?_
            refine lv_iload hx hb dX8_meets_185 (lv_at hl 0 rfl) ?_
            refine lv_iconst (v := 1) hx hb dX8_meets_187 (by decide) ?_
            obtain ⟨T36, eT36⟩ : ∃ z : Ob, z = (sa T34 18 (upd (T34.2 18) (Int32.toNatClampNeg r33) 1)) := ⟨_, rfl⟩
            refine ar_zs (f := (T34.2 18)) (n := 512) (j := (Int32.toNatClampNeg r33)) (x := 1) hx hb hK hP hD hS 13 rfl rfl isB1 h.1 dX8_meets_188 (wX8 cI cZ a T36) (by subst eT36; rfl) (fun H locs hP hD hS => ?_)
            have h := h.2
            have h := h T36 eT36
            refine lv_aload_n hx hb dX8_meets_189 rfl (lv_at hl 1 rfl) ?_
            refine va_get (D := D) (ci := 7) (v := .ref (a 17)) (C := RX8) (T := TX8) (N := 25) hx hb hts inX8 hown hK hP 0 rfl rfl 22 (by decide) (hts _ q_1099) (fun _ h9 => h9) rfl dX8_meets_190 ?_
            refine lv_iload_n hx hb dX8_meets_193 rfl (lv_at hl 2 rfl) ?_
            refine lv_iload hx hb dX8_meets_194 (lv_at hl 0 rfl) ?_
            obtain ⟨T37, eT37⟩ : ∃ z : Ob, z = (sa T36 22 (upd (T36.2 22) (Int32.toNatClampNeg y2) r33)) := ⟨_, rfl⟩
            refine ar_is (f := (T36.2 22)) (n := 512) (j := (Int32.toNatClampNeg y2)) (x := r33) hx hb hK hP hD hS 17 rfl rfl h.1 dX8_meets_196 (wX8 cI cZ a T37) (by subst eT37; rfl) (fun H locs hP hD hS => ?_)
            have h := h.2
            have h := h T37 eT37
            obtain ⟨x38, ex38⟩ : ∃ y : Int32, y = (y2 + 1) := ⟨_, rfl⟩
            have h := h x38 ex38
            refine lv_iinc (v := x38) (lv' := [(2, .int x38), (6, .int r33), (0, .ref (a 0)), (3, .int y3), (4, .int y4), (5, .int y5)]) hx hb dX8_meets_197 hl (k := 2) rfl (by rw [ex38]; rfl) (by decide) rfl (fun ls hl => ?_)
            obtain ⟨x39, ex39⟩ : ∃ y : Int32, y = (y5 + 1) := ⟨_, rfl⟩
            have h := h x39 ex39
            refine lv_iinc (v := x39) (lv' := [(5, .int x39), (2, .int x38), (6, .int r33), (0, .ref (a 0)), (3, .int y3), (4, .int y4)]) hx hb dX8_meets_200 hl (k := 5) rfl (by rw [ex39]; rfl) (by decide) rfl (fun ls hl => ?_)
            refine lv_goto (tgt := 128) hx hb dX8_meets_203 (by decide) ?_
            exact ih x38 y3 y4 x39 T37 _ _ _ hP hD hS (lv_sub hl [3, 1, 4, 5, 0] rfl) h
          · have h := h.2 c35
            refine lv_goto (tgt := 200) hx hb dX8_meets_178 (by decide) ?_
            obtain ⟨x40, ex40⟩ : ∃ y : Int32, y = (y5 + 1) := ⟨_, rfl⟩
            have h := h x40 ex40
            refine lv_iinc (v := x40) (lv' := [(5, .int x40), (6, .int r33), (0, .ref (a 0)), (2, .int y2), (3, .int y3), (4, .int y4)]) hx hb dX8_meets_200 hl (k := 5) rfl (by rw [ex40]; rfl) (by decide) rfl (fun ls hl => ?_)
            refine lv_goto (tgt := 128) hx hb dX8_meets_203 (by decide) ?_
            exact ih y2 y3 y4 x40 T34 _ _ _ hP hD hS (lv_sub hl [2, 3, 4, 5, 0] rfl) h
  have L61 : ∀ (n : Nat), ∀ (y2 : Int32) (y3 : Int32) (T : Ob) (H : Heap) (locs : List Loc) (ls : Array Slot), va_P D vwCl (wX8 cI cZ a T) H → va_D A (wX8 cI cZ a T) → va_S A s.heap H locs → lv_has ls 7 [(0, .ref (a 0)), (2, .int y2), (3, .int y3)] → wp_X8_meets_L61 Q n y2 y3 T → W p l e rmX8_meets s m ([.ref (a 0), .int p0] : List Value).toArray below meth c H locs 0 0 (MQ below (va_Qi Q (fun u => atW D cI cZ A (wX8 cI cZ a u)) A) ([.ref (a 0), .int p0] : List Value).toArray s 0 0 A) (F0 m 61 ls []) := by
    intro n
    induction n with
    | zero =>
      intro y2 y3 T H locs ls hP hD hS hl h
      exact False.elim h
    | succ n ih =>
      intro y2 y3 T H locs ls hP hD hS hl h
      unfold wp_X8_meets_L61 at h
      refine lv_iload_n hx hb dX8_meets_61 rfl (lv_at hl 2 rfl) ?_
      refine lv_iload_n hx hb dX8_meets_62 rfl (lv_at hl 1 rfl) ?_
      refine lv_icmp_ge (tgt := 212) hx hb dX8_meets_63 (by decide) (fun c9 => ?_) (fun c9 => ?_)
      · have h := h.1 c9
        refine lv_iconst (v := 1) hx hb dX8_meets_212 (by decide) ?_
        exact W.zret (ty := .boolean) (v := 1) hx hb hr (narB isB1) (fun t ht hW => ⟨⟨1, T, rfl, h, by rw [ht]; exact hP, va_K.moved hW.alike hK, hD⟩, hS.F ht⟩) hS.2.2 dX8_meets_213
      · have h := h.2 c9
        refine lv_aload_n hx hb dX8_meets_66 rfl (lv_at hl 0 rfl) ?_
        refine va_get (D := D) (ci := 7) (v := .ref (a 17)) (C := RX8) (T := TX8) (N := 25) hx hb hts inX8 hown hK hP 0 rfl rfl 22 (by decide) (hts _ q_1099) (fun _ h9 => h9) rfl dX8_meets_67 ?_
        refine lv_iload_n hx hb dX8_meets_70 rfl (lv_at hl 2 rfl) ?_
        refine ar_il (f := (T.2 22)) (n := 512) (j := (Int32.toNatClampNeg y3)) hx hb hK hP 17 rfl rfl h.1 dX8_meets_71 ?_
        have h := h.2
        refine lv_topi (fun x10 ex10 => ?_)
        have h := h x10 ex10
        refine lv_istore (lv' := [(4, .int x10), (0, .ref (a 0)), (2, .int y2), (3, .int y3)]) hx hb dX8_meets_72 hl (by decide) rfl (fun ls hl => ?_)
        refine lv_aload_n hx hb dX8_meets_74 rfl (lv_at hl 1 rfl) ?_
        refine va_get (D := D) (ci := 7) (v := .ref (a 1)) (C := RX8) (T := TX8) (N := 25) hx hb hts inX8 hown hK hP 0 rfl rfl 0 (by decide) (hts _ q_1077) (fun _ h9 => h9) rfl dX8_meets_75 ?_
        refine lv_iload hx hb dX8_meets_78 (lv_at hl 0 rfl) ?_
        refine ar_il (f := (T.2 0)) (n := 512) (j := (Int32.toNatClampNeg x10)) hx hb hK hP 1 rfl rfl h.1 dX8_meets_80 ?_
        have h := h.2
        refine lv_if_eq (tgt := 108) hx hb dX8_meets_81 (by decide) (fun c11 => ?_) (fun c11 => ?_)
        · have h := h.1 c11
          refine lv_iconst (v := 0) hx hb dX8_meets_108 (by decide) ?_
          exact W.zret (ty := .boolean) (v := 0) hx hb hr (narB isB0) (fun t ht hW => ⟨⟨0, T, rfl, h, by rw [ht]; exact hP, va_K.moved hW.alike hK, hD⟩, hS.F ht⟩) hS.2.2 dX8_meets_109
        · have h := h.2 c11
          refine lv_aload_n hx hb dX8_meets_84 rfl (lv_at hl 1 rfl) ?_
          refine va_get (D := D) (ci := 7) (v := .ref (a 1)) (C := RX8) (T := TX8) (N := 25) hx hb hts inX8 hown hK hP 0 rfl rfl 0 (by decide) (hts _ q_1077) (fun _ h9 => h9) rfl dX8_meets_85 ?_
          refine lv_iload hx hb dX8_meets_88 (lv_at hl 0 rfl) ?_
          refine ar_il (f := (T.2 0)) (n := 512) (j := (Int32.toNatClampNeg x10)) hx hb hK hP 1 rfl rfl h.1 dX8_meets_90 ?_
          have h := h.2
          refine lv_bipush (v := 19) hx hb dX8_meets_91 (by decide) ?_
          refine lv_icmp_eq (tgt := 108) hx hb dX8_meets_93 (by decide) (fun c12 => ?_) (fun c12 => ?_)
          · have h := h.1 c12
            refine lv_iconst (v := 0) hx hb dX8_meets_108 (by decide) ?_
            exact W.zret (ty := .boolean) (v := 0) hx hb hr (narB isB0) (fun t ht hW => ⟨⟨0, T, rfl, h, by rw [ht]; exact hP, va_K.moved hW.alike hK, hD⟩, hS.F ht⟩) hS.2.2 dX8_meets_109
          · have h := h.2 c12
            refine lv_aload_n hx hb dX8_meets_96 rfl (lv_at hl 1 rfl) ?_
            refine va_get (D := D) (ci := 7) (v := .ref (a 1)) (C := RX8) (T := TX8) (N := 25) hx hb hts inX8 hown hK hP 0 rfl rfl 0 (by decide) (hts _ q_1077) (fun _ h9 => h9) rfl dX8_meets_97 ?_
            refine lv_iload hx hb dX8_meets_100 (lv_at hl 0 rfl) ?_
            refine ar_il (f := (T.2 0)) (n := 512) (j := (Int32.toNatClampNeg x10)) hx hb hK hP 1 rfl rfl h.1 dX8_meets_102 ?_
            have h := h.2
            refine lv_bipush (v := 29) hx hb dX8_meets_103 (by decide) ?_
            refine lv_icmp_le (tgt := 110) hx hb dX8_meets_105 (by decide) (fun c13 => ?_) (fun c13 => ?_)
            · have h := h.1 c13
              refine lv_aload_n hx hb dX8_meets_110 rfl (lv_at hl 1 rfl) ?_
              refine va_get (D := D) (ci := 7) (v := .ref (a 1)) (C := RX8) (T := TX8) (N := 25) hx hb hts inX8 hown hK hP 0 rfl rfl 0 (by decide) (hts _ q_1077) (fun _ h9 => h9) rfl dX8_meets_111 ?_
              refine lv_iload hx hb dX8_meets_114 (lv_at hl 0 rfl) ?_
              refine ar_il (f := (T.2 0)) (n := 512) (j := (Int32.toNatClampNeg x10)) hx hb hK hP 1 rfl rfl h.1 dX8_meets_116 ?_
              have h := h.2
              refine lv_bipush (v := 18) hx hb dX8_meets_117 (by decide) ?_
              refine lv_icmp_ne (tgt := 125) hx hb dX8_meets_119 (by decide) (fun c14 => ?_) (fun c14 => ?_)
              · have h := h.1 c14
                refine lv_iconst (v := 0) hx hb dX8_meets_125 (by decide) ?_
                refine lv_istore (lv' := [(5, .int 0), (4, .int x10), (0, .ref (a 0)), (2, .int y2), (3, .int y3)]) hx hb dX8_meets_126 hl (by decide) rfl (fun ls hl => ?_)
                exact L128 _ ih 2000 y2 y3 x10 0 T _ _ _ hP hD hS (lv_sub hl [2, 3, 4, 1, 0] rfl) h
              · have h := h.2 c14
                refine lv_goto (tgt := 206) hx hb dX8_meets_122 (by decide) ?_
                obtain ⟨x15, ex15⟩ : ∃ y : Int32, y = (y3 + 1) := ⟨_, rfl⟩
                have h := h x15 ex15
                refine lv_iinc (v := x15) (lv' := [(3, .int x15), (4, .int x10), (0, .ref (a 0)), (2, .int y2)]) hx hb dX8_meets_206 hl (k := 3) rfl (by rw [ex15]; rfl) (by decide) rfl (fun ls hl => ?_)
                refine lv_goto (tgt := 61) hx hb dX8_meets_209 (by decide) ?_
                exact ih y2 x15 T _ _ _ hP hD hS (lv_sub hl [2, 3, 0] rfl) h
            · have h := h.2 c13
              refine lv_iconst (v := 0) hx hb dX8_meets_108 (by decide) ?_
              exact W.zret (ty := .boolean) (v := 0) hx hb hr (narB isB0) (fun t ht hW => ⟨⟨0, T, rfl, h, by rw [ht]; exact hP, va_K.moved hW.alike hK, hD⟩, hS.F ht⟩) hS.2.2 dX8_meets_109
  have L2 : ∀ (n : Nat), ∀ (y1 : Int32) (y2 : Int32) (T : Ob) (H : Heap) (locs : List Loc) (ls : Array Slot), va_P D vwCl (wX8 cI cZ a T) H → va_D A (wX8 cI cZ a T) → va_S A s.heap H locs → lv_has ls 7 [(0, .ref (a 0)), (1, .int y1), (2, .int y2)] → wp_X8_meets_L2 Q n y1 y2 T → W p l e rmX8_meets s m ([.ref (a 0), .int p0] : List Value).toArray below meth c H locs 0 0 (MQ below (va_Qi Q (fun u => atW D cI cZ A (wX8 cI cZ a u)) A) ([.ref (a 0), .int p0] : List Value).toArray s 0 0 A) (F0 m 2 ls []) := by
    intro n
    induction n with
    | zero =>
      intro y1 y2 T H locs ls hP hD hS hl h
      exact False.elim h
    | succ n ih =>
      intro y1 y2 T H locs ls hP hD hS hl h
      unfold wp_X8_meets_L2 at h
      refine lv_iload_n hx hb dX8_meets_2 rfl (lv_at hl 2 rfl) ?_
      refine lv_sipush (v := 512) hx hb dX8_meets_3 (by decide) ?_
      refine lv_icmp_ge (tgt := 43) hx hb dX8_meets_6 (by decide) (fun c1 => ?_) (fun c1 => ?_)
      · have h := h.1 c1
        refine lv_iconst (v := 1) hx hb dX8_meets_43 (by decide) ?_
        refine lv_istore_n (lv' := [(2, .int 1), (0, .ref (a 0)), (1, .int y1)]) hx hb dX8_meets_44 rfl hl (by decide) rfl (fun ls hl => ?_)
        refine lv_aload_n hx hb dX8_meets_45 rfl (lv_at hl 1 rfl) ?_
        refine va_get (D := D) (ci := 7) (v := .ref (a 17)) (C := RX8) (T := TX8) (N := 25) hx hb hts inX8 hown hK hP 0 rfl rfl 22 (by decide) (hts _ q_1099) (fun _ h9 => h9) rfl dX8_meets_46 ?_
        refine lv_iconst (v := 0) hx hb dX8_meets_49 (by decide) ?_
        refine lv_iload_n hx hb dX8_meets_50 rfl (lv_at hl 2 rfl) ?_
        obtain ⟨T2, eT2⟩ : ∃ z : Ob, z = (sa T 22 (upd (T.2 22) 0 y1)) := ⟨_, rfl⟩
        refine ar_is (f := (T.2 22)) (n := 512) (j := 0) (x := y1) hx hb hK hP hD hS 17 rfl (by decide) (okLit (by decide)) dX8_meets_51 (wX8 cI cZ a T2) (by subst eT2; rfl) (fun H locs hP hD hS => ?_)
        have h := h T2 eT2
        refine lv_aload_n hx hb dX8_meets_52 rfl (lv_at hl 1 rfl) ?_
        refine va_get (D := D) (ci := 7) (v := .ref (a 13)) (C := RX8) (T := TX8) (N := 25) hx hb hts inX8 hown hK hP 0 rfl rfl 18 (by decide) (hts _ q_1095) (fun _ h9 => h9) rfl dX8_meets_53 ?_
        refine lv_iload_n hx hb dX8_meets_56 rfl (lv_at hl 2 rfl) ?_
        refine lv_iconst (v := 1) hx hb dX8_meets_57 (by decide) ?_
        obtain ⟨T3, eT3⟩ : ∃ z : Ob, z = (sa T2 18 (upd (T2.2 18) (Int32.toNatClampNeg y1) 1)) := ⟨_, rfl⟩
        refine ar_zs (f := (T2.2 18)) (n := 512) (j := (Int32.toNatClampNeg y1)) (x := 1) hx hb hK hP hD hS 13 rfl rfl isB1 h.1 dX8_meets_58 (wX8 cI cZ a T3) (by subst eT3; rfl) (fun H locs hP hD hS => ?_)
        have h := h.2
        have h := h T3 eT3
        refine lv_iconst (v := 0) hx hb dX8_meets_59 (by decide) ?_
        refine lv_istore_n (lv' := [(3, .int 0), (2, .int 1), (0, .ref (a 0)), (1, .int y1)]) hx hb dX8_meets_60 rfl hl (by decide) rfl (fun ls hl => ?_)
        exact L61 2000 1 0 T3 _ _ _ hP hD hS (lv_sub hl [2, 1, 0] rfl) h
      · have h := h.2 c1
        refine lv_aload_n hx hb dX8_meets_9 rfl (lv_at hl 0 rfl) ?_
        refine va_get (D := D) (ci := 7) (v := .ref (a 13)) (C := RX8) (T := TX8) (N := 25) hx hb hts inX8 hown hK hP 0 rfl rfl 18 (by decide) (hts _ q_1095) (fun _ h9 => h9) rfl dX8_meets_10 ?_
        refine lv_iload_n hx hb dX8_meets_13 rfl (lv_at hl 2 rfl) ?_
        refine lv_iconst (v := 0) hx hb dX8_meets_14 (by decide) ?_
        obtain ⟨T4, eT4⟩ : ∃ z : Ob, z = (sa T 18 (upd (T.2 18) (Int32.toNatClampNeg y2) 0)) := ⟨_, rfl⟩
        refine ar_zs (f := (T.2 18)) (n := 512) (j := (Int32.toNatClampNeg y2)) (x := 0) hx hb hK hP hD hS 13 rfl rfl isB0 h.1 dX8_meets_15 (wX8 cI cZ a T4) (by subst eT4; rfl) (fun H locs hP hD hS => ?_)
        have h := h.2
        have h := h T4 eT4
        refine lv_aload_n hx hb dX8_meets_16 rfl (lv_at hl 0 rfl) ?_
        refine va_get (D := D) (ci := 7) (v := .ref (a 14)) (C := RX8) (T := TX8) (N := 25) hx hb hts inX8 hown hK hP 0 rfl rfl 19 (by decide) (hts _ q_1096) (fun _ h9 => h9) rfl dX8_meets_17 ?_
        refine lv_iload_n hx hb dX8_meets_20 rfl (lv_at hl 2 rfl) ?_
        refine lv_iconst (v := 0) hx hb dX8_meets_21 (by decide) ?_
        obtain ⟨T5, eT5⟩ : ∃ z : Ob, z = (sa T4 19 (upd (T4.2 19) (Int32.toNatClampNeg y2) 0)) := ⟨_, rfl⟩
        refine ar_is (f := (T4.2 19)) (n := 512) (j := (Int32.toNatClampNeg y2)) (x := 0) hx hb hK hP hD hS 14 rfl rfl h.1 dX8_meets_22 (wX8 cI cZ a T5) (by subst eT5; rfl) (fun H locs hP hD hS => ?_)
        have h := h.2
        have h := h T5 eT5
        refine lv_aload_n hx hb dX8_meets_23 rfl (lv_at hl 0 rfl) ?_
        refine va_get (D := D) (ci := 7) (v := .ref (a 15)) (C := RX8) (T := TX8) (N := 25) hx hb hts inX8 hown hK hP 0 rfl rfl 20 (by decide) (hts _ q_1097) (fun _ h9 => h9) rfl dX8_meets_24 ?_
        refine lv_iload_n hx hb dX8_meets_27 rfl (lv_at hl 2 rfl) ?_
        refine lv_iconst (v := 0) hx hb dX8_meets_28 (by decide) ?_
        obtain ⟨T6, eT6⟩ : ∃ z : Ob, z = (sa T5 20 (upd (T5.2 20) (Int32.toNatClampNeg y2) 0)) := ⟨_, rfl⟩
        refine ar_is (f := (T5.2 20)) (n := 512) (j := (Int32.toNatClampNeg y2)) (x := 0) hx hb hK hP hD hS 15 rfl rfl h.1 dX8_meets_29 (wX8 cI cZ a T6) (by subst eT6; rfl) (fun H locs hP hD hS => ?_)
        have h := h.2
        have h := h T6 eT6
        refine lv_aload_n hx hb dX8_meets_30 rfl (lv_at hl 0 rfl) ?_
        refine va_get (D := D) (ci := 7) (v := .ref (a 16)) (C := RX8) (T := TX8) (N := 25) hx hb hts inX8 hown hK hP 0 rfl rfl 21 (by decide) (hts _ q_1098) (fun _ h9 => h9) rfl dX8_meets_31 ?_
        refine lv_iload_n hx hb dX8_meets_34 rfl (lv_at hl 2 rfl) ?_
        refine lv_iconst (v := 0) hx hb dX8_meets_35 (by decide) ?_
        obtain ⟨T7, eT7⟩ : ∃ z : Ob, z = (sa T6 21 (upd (T6.2 21) (Int32.toNatClampNeg y2) 0)) := ⟨_, rfl⟩
        refine ar_is (f := (T6.2 21)) (n := 512) (j := (Int32.toNatClampNeg y2)) (x := 0) hx hb hK hP hD hS 16 rfl rfl h.1 dX8_meets_36 (wX8 cI cZ a T7) (by subst eT7; rfl) (fun H locs hP hD hS => ?_)
        have h := h.2
        have h := h T7 eT7
        obtain ⟨x8, ex8⟩ : ∃ y : Int32, y = (y2 + 1) := ⟨_, rfl⟩
        have h := h x8 ex8
        refine lv_iinc (v := x8) (lv' := [(2, .int x8), (0, .ref (a 0)), (1, .int y1)]) hx hb dX8_meets_37 hl (k := 2) rfl (by rw [ex8]; rfl) (by decide) rfl (fun ls hl => ?_)
        refine lv_goto (tgt := 2) hx hb dX8_meets_40 (by decide) ?_
        exact ih y1 x8 T7 _ _ _ hP hD hS (lv_sub hl [1, 2, 0] rfl) h
  have hl := lv_entry ([.ref (a 0), .int p0]) (n := 7) (Nat.le_of_ble_eq_true rfl)
  rw [lg_entry_eq]
  generalize (lg_sl ([.ref (a 0), .int p0]) ++ List.replicate (7 - (lg_sl ([.ref (a 0), .int p0])).length) Slot.unset).toArray = ls at hl ⊢
  have hl : lv_has ls 7 [(0, .ref (a 0)), (1, .int p0)] := hl
  unfold wp_X8_meets at h
  refine lv_iconst (v := 0) hx hb dX8_meets_0 (by decide) ?_
  refine lv_istore_n (lv' := [(2, .int 0), (0, .ref (a 0)), (1, .int p0)]) hx hb dX8_meets_1 rfl hl (by decide) rfl (fun ls hl => ?_)
  exact L2 2000 p0 0 S _ _ _ hP hD hS (lv_sub hl [1, 2, 0] rfl) h
/-! X8_walks -/
abbrev rmX8_walks : Room := { frames := 2, cells := 0, slots := 0, locals := 48 }
set_option maxHeartbeats 4000000 in
set_option maxRecDepth 100000 in
theorem c_X8_walks (l : Launch) (D : va_G) (cI cZ : ClassId) (a : Nat → Nat) (sz : Nat) (S : Ob) (p0 : Int32) (Q : Int32 → Ob → Prop) (h : wp_X8_walks S p0 Q) : Met l yX8_walks (wsm yX8_walks cX8_walks 10 (some .boolean)) rmX8_walks (va_Pc [.ref (a 0), .int p0] (preT D cI cZ sz (wX8 cI cZ a S))) (va_Qi Q (fun u => atW D cI cZ (va_A (wX8 cI cZ a S) sz) (wX8 cI cZ a u)) (va_A (wX8 cI cZ a S) sz)) 0 0 (va_A (wX8 cI cZ a S) sz) := by
  refine Met.ofW (cc := cX8_walks) (maxL := 10) (ret := (some .boolean)) (by decide) rfl ?_
  intro p e s m args below meth c s₁ B hml hv
  obtain ⟨rfl, ⟨hsz, hP, hK, hD0⟩, hF⟩ := hv
  have hx := B.exec
  have hb := B.bytes
  have hr := B.returns
  have hts0 := atoms_spec (ws := wsm yX8_walks cX8_walks 10 (some .boolean)) B.pre
  have hts : ∀ w ∈ lw_all, w.before _ s = true := fun w h => hts0 w (List.mem_cons_of_mem _ h)
  have hown : s.vm.findClass RX8 = some m.cls := findClass_of_methodNamed B.named
  have hlocks := B.notSynchronized
  subst hsz
  have hD := hD0.self (sz := s.heap.size)
  generalize hAe : va_A (wX8 cI cZ a S) s.heap.size = A at hD hF ⊢
  have hA : ∀ q : Nat, s.heap.size ≤ q → A q := fun q h => by rw [← hAe]; exact Or.inr h
  have hS : va_S A s.heap s.heap [] := va_S.rf
  have hml2 := hml
  have L260 : ∀ (k70 : Int32 → Int32 → Int32 → Ob → Prop) (K70 : ∀ (y2 : Int32) (y3 : Int32) (y4 : Int32) (T : Ob) (H : Heap) (locs : List Loc) (ls : Array Slot), va_P D vwCl (wX8 cI cZ a T) H → va_D A (wX8 cI cZ a T) → va_S A s.heap H locs → lv_has ls 10 [(0, .ref (a 0)), (2, .int y2), (3, .int y3), (4, .int y4)] → k70 y2 y3 y4 T → W p l e rmX8_walks s m ([.ref (a 0), .int p0] : List Value).toArray below meth c H locs 0 0 (MQ below (va_Qi Q (fun u => atW D cI cZ A (wX8 cI cZ a u)) A) ([.ref (a 0), .int p0] : List Value).toArray s 0 0 A) (F0 m 70 ls [])) (k200 : Int32 → Int32 → Int32 → Int32 → Int32 → Int32 → Int32 → Ob → Prop) (K200 : ∀ (y2 : Int32) (y3 : Int32) (y4 : Int32) (y5 : Int32) (y6 : Int32) (y7 : Int32) (y8 : Int32) (T : Ob) (H : Heap) (locs : List Loc) (ls : Array Slot), va_P D vwCl (wX8 cI cZ a T) H → va_D A (wX8 cI cZ a T) → va_S A s.heap H locs → lv_has ls 10 [(0, .ref (a 0)), (2, .int y2), (3, .int y3), (4, .int y4), (5, .int y5), (6, .int y6), (7, .int y7), (8, .int y8)] → k200 y2 y3 y4 y5 y6 y7 y8 T → W p l e rmX8_walks s m ([.ref (a 0), .int p0] : List Value).toArray below meth c H locs 0 0 (MQ below (va_Qi Q (fun u => atW D cI cZ A (wX8 cI cZ a u)) A) ([.ref (a 0), .int p0] : List Value).toArray s 0 0 A) (F0 m 200 ls [])) (y2 : Int32) (y3 : Int32) (y4 : Int32) (y5 : Int32) (y6 : Int32) (y7 : Int32) (y8 : Int32) (y9 : Int32) (T : Ob) (H : Heap) (locs : List Loc) (ls : Array Slot), va_P D vwCl (wX8 cI cZ a T) H → va_D A (wX8 cI cZ a T) → va_S A s.heap H locs → lv_has ls 10 [(0, .ref (a 0)), (2, .int y2), (3, .int y3), (4, .int y4), (5, .int y5), (6, .int y6), (7, .int y7), (8, .int y8), (9, .int y9)] → wp_X8_walks_L260 Q k70 k200 y2 y3 y4 y5 y6 y7 y8 y9 T → W p l e rmX8_walks s m ([.ref (a 0), .int p0] : List Value).toArray below meth c H locs 0 0 (MQ below (va_Qi Q (fun u => atW D cI cZ A (wX8 cI cZ a u)) A) ([.ref (a 0), .int p0] : List Value).toArray s 0 0 A) (F0 m 260 ls []) := by
    intro k70 K70 k200 K200 y2 y3 y4 y5 y6 y7 y8 y9 T H locs ls hP hD hS hl h
    unfold wp_X8_walks_L260 at h
    refine lv_iload hx hb dX8_walks_260 (lv_at hl 5 rfl) ?_
    refine lv_aload_n hx hb dX8_walks_262 rfl (lv_at hl 0 rfl) ?_
    refine va_get (D := D) (ci := 7) (v := .ref (a 15)) (C := RX8) (T := TX8) (N := 25) hx hb hts inX8 hown hK hP 0 rfl rfl 20 (by decide) (hts _ q_1097) (fun _ h9 => h9) rfl dX8_walks_263 ?_
    refine lv_iload hx hb dX8_walks_266 (lv_at hl 8 rfl) ?_
    refine ar_il (f := (T.2 20)) (n := 512) (j := (Int32.toNatClampNeg y9)) hx hb hK hP 15 rfl rfl h.1 dX8_walks_268 ?_
    have h := h.2
    refine lv_icmp_le (tgt := 281) hx hb dX8_walks_269 (by decide) (fun c48 => ?_) (fun c48 => ?_)
    · have h := h.1 c48
      refine lv_aload_n hx hb dX8_walks_281 rfl (lv_at hl 0 rfl) ?_
      refine va_get (D := D) (ci := 7) (v := .ref (a 14)) (C := RX8) (T := TX8) (N := 25) hx hb hts inX8 hown hK hP 0 rfl rfl 19 (by decide) (hts _ q_1096) (fun _ h9 => h9) rfl dX8_walks_282 ?_
      refine lv_iload hx hb dX8_walks_285 (lv_at hl 8 rfl) ?_
      refine lv_dup2_11 hx hb dX8_walks_287 rfl rfl ?_
      refine ar_il (f := (T.2 19)) (n := 512) (j := (Int32.toNatClampNeg y9)) hx hb hK hP 14 rfl rfl h.1 dX8_walks_288 ?_
      have h := h.2
      refine lv_iconst (v := 1) hx hb dX8_walks_289 (by decide) ?_
      refine lv_isub hx hb dX8_walks_290 ?_
      obtain ⟨T49, eT49⟩ : ∃ z : Ob, z = (sa T 19 (upd (T.2 19) (Int32.toNatClampNeg y9) (((T.2 19) (Int32.toNatClampNeg y9)) - 1))) := ⟨_, rfl⟩
      refine ar_is (f := (T.2 19)) (n := 512) (j := (Int32.toNatClampNeg y9)) (x := (((T.2 19) (Int32.toNatClampNeg y9)) - 1)) hx hb hK hP hD hS 14 rfl rfl h.1 dX8_walks_291 (wX8 cI cZ a T49) (by subst eT49; rfl) (fun H locs hP hD hS => ?_)
      have h := h.2
      have h := h T49 eT49
      refine lv_aload_n hx hb dX8_walks_292 rfl (lv_at hl 0 rfl) ?_
      refine va_get (D := D) (ci := 7) (v := .ref (a 14)) (C := RX8) (T := TX8) (N := 25) hx hb hts inX8 hown hK hP 0 rfl rfl 19 (by decide) (hts _ q_1096) (fun _ h9 => h9) rfl dX8_walks_293 ?_
      refine lv_iload hx hb dX8_walks_296 (lv_at hl 8 rfl) ?_
      refine ar_il (f := (T49.2 19)) (n := 512) (j := (Int32.toNatClampNeg y9)) hx hb hK hP 14 rfl rfl h.1 dX8_walks_298 ?_
      have h := h.2
      refine lv_if_le (tgt := 305) hx hb dX8_walks_299 (by decide) (fun c50 => ?_) (fun c50 => ?_)
      · have h := h.1 c50
        refine lv_aload_n hx hb dX8_walks_305 rfl (lv_at hl 0 rfl) ?_
        refine va_get (D := D) (ci := 7) (v := .ref (a 17)) (C := RX8) (T := TX8) (N := 25) hx hb hts inX8 hown hK hP 0 rfl rfl 22 (by decide) (hts _ q_1099) (fun _ h9 => h9) rfl dX8_walks_306 ?_
        refine lv_iload_n hx hb dX8_walks_309 rfl (lv_at hl 2 rfl) ?_
        refine lv_iload hx hb dX8_walks_310 (lv_at hl 8 rfl) ?_
        obtain ⟨T51, eT51⟩ : ∃ z : Ob, z = (sa T49 22 (upd (T49.2 22) (Int32.toNatClampNeg y3) y9)) := ⟨_, rfl⟩
        refine ar_is (f := (T49.2 22)) (n := 512) (j := (Int32.toNatClampNeg y3)) (x := y9) hx hb hK hP hD hS 17 rfl rfl h.1 dX8_walks_312 (wX8 cI cZ a T51) (by subst eT51; rfl) (fun H locs hP hD hS => ?_)
        have h := h.2
        have h := h T51 eT51
        obtain ⟨x52, ex52⟩ : ∃ y : Int32, y = (y3 + 1) := ⟨_, rfl⟩
        have h := h x52 ex52
        refine lv_iinc (v := x52) (lv' := [(3, .int x52), (0, .ref (a 0)), (2, .int y2), (4, .int y4), (5, .int y5), (6, .int y6), (7, .int y7), (8, .int y8), (9, .int y9)]) hx hb dX8_walks_313 hl (k := 2) rfl (by rw [ex52]; rfl) (by decide) rfl (fun ls hl => ?_)
        obtain ⟨x53, ex53⟩ : ∃ y : Int32, y = (y8 + 1) := ⟨_, rfl⟩
        have h := h x53 ex53
        refine lv_iinc (v := x53) (lv' := [(8, .int x53), (3, .int x52), (0, .ref (a 0)), (2, .int y2), (4, .int y4), (5, .int y5), (6, .int y6), (7, .int y7), (9, .int y9)]) hx hb dX8_walks_316 hl (k := 7) rfl (by rw [ex53]; rfl) (by decide) rfl (fun ls hl => ?_)
        refine lv_goto (tgt := 200) hx hb dX8_walks_319 (by decide) ?_
        exact K200 y2 x52 y4 y5 y6 y7 x53 T51 _ _ _ hP hD hS (lv_sub hl [2, 3, 1, 4, 5, 6, 7, 0] rfl) h
      · have h := h.2 c50
        refine lv_goto (tgt := 316) hx hb dX8_walks_302 (by decide) ?_
        obtain ⟨x54, ex54⟩ : ∃ y : Int32, y = (y8 + 1) := ⟨_, rfl⟩
        have h := h x54 ex54
        refine lv_iinc (v := x54) (lv' := [(8, .int x54), (0, .ref (a 0)), (2, .int y2), (3, .int y3), (4, .int y4), (5, .int y5), (6, .int y6), (7, .int y7), (9, .int y9)]) hx hb dX8_walks_316 hl (k := 7) rfl (by rw [ex54]; rfl) (by decide) rfl (fun ls hl => ?_)
        refine lv_goto (tgt := 200) hx hb dX8_walks_319 (by decide) ?_
        exact K200 y2 y3 y4 y5 y6 y7 x54 T49 _ _ _ hP hD hS (lv_sub hl [1, 2, 3, 4, 5, 6, 7, 0] rfl) h
    · have h := h.2 c48
      refine lv_aload_n hx hb dX8_walks_272 rfl (lv_at hl 0 rfl) ?_
      refine va_get (D := D) (ci := 7) (v := .ref (a 15)) (C := RX8) (T := TX8) (N := 25) hx hb hts inX8 hown hK hP 0 rfl rfl 20 (by decide) (hts _ q_1097) (fun _ h9 => h9) rfl dX8_walks_273 ?_
      refine lv_iload hx hb dX8_walks_276 (lv_at hl 8 rfl) ?_
      refine lv_iload hx hb dX8_walks_278 (lv_at hl 5 rfl) ?_
      obtain ⟨T55, eT55⟩ : ∃ z : Ob, z = (sa T 20 (upd (T.2 20) (Int32.toNatClampNeg y9) y6)) := ⟨_, rfl⟩
      refine ar_is (f := (T.2 20)) (n := 512) (j := (Int32.toNatClampNeg y9)) (x := y6) hx hb hK hP hD hS 15 rfl rfl h.1 dX8_walks_280 (wX8 cI cZ a T55) (by subst eT55; rfl) (fun H locs hP hD hS => ?_)
      have h := h.2
      have h := h T55 eT55
      refine lv_aload_n hx hb dX8_walks_281 rfl (lv_at hl 0 rfl) ?_
      refine va_get (D := D) (ci := 7) (v := .ref (a 14)) (C := RX8) (T := TX8) (N := 25) hx hb hts inX8 hown hK hP 0 rfl rfl 19 (by decide) (hts _ q_1096) (fun _ h9 => h9) rfl dX8_walks_282 ?_
      refine lv_iload hx hb dX8_walks_285 (lv_at hl 8 rfl) ?_
      refine lv_dup2_11 hx hb dX8_walks_287 rfl rfl ?_
      refine ar_il (f := (T55.2 19)) (n := 512) (j := (Int32.toNatClampNeg y9)) hx hb hK hP 14 rfl rfl h.1 dX8_walks_288 ?_
      have h := h.2
      refine lv_iconst (v := 1) hx hb dX8_walks_289 (by decide) ?_
      refine lv_isub hx hb dX8_walks_290 ?_
      obtain ⟨T56, eT56⟩ : ∃ z : Ob, z = (sa T55 19 (upd (T55.2 19) (Int32.toNatClampNeg y9) (((T55.2 19) (Int32.toNatClampNeg y9)) - 1))) := ⟨_, rfl⟩
      refine ar_is (f := (T55.2 19)) (n := 512) (j := (Int32.toNatClampNeg y9)) (x := (((T55.2 19) (Int32.toNatClampNeg y9)) - 1)) hx hb hK hP hD hS 14 rfl rfl h.1 dX8_walks_291 (wX8 cI cZ a T56) (by subst eT56; rfl) (fun H locs hP hD hS => ?_)
      have h := h.2
      have h := h T56 eT56
      refine lv_aload_n hx hb dX8_walks_292 rfl (lv_at hl 0 rfl) ?_
      refine va_get (D := D) (ci := 7) (v := .ref (a 14)) (C := RX8) (T := TX8) (N := 25) hx hb hts inX8 hown hK hP 0 rfl rfl 19 (by decide) (hts _ q_1096) (fun _ h9 => h9) rfl dX8_walks_293 ?_
      refine lv_iload hx hb dX8_walks_296 (lv_at hl 8 rfl) ?_
      refine ar_il (f := (T56.2 19)) (n := 512) (j := (Int32.toNatClampNeg y9)) hx hb hK hP 14 rfl rfl h.1 dX8_walks_298 ?_
      have h := h.2
      refine lv_if_le (tgt := 305) hx hb dX8_walks_299 (by decide) (fun c57 => ?_) (fun c57 => ?_)
      · have h := h.1 c57
        refine lv_aload_n hx hb dX8_walks_305 rfl (lv_at hl 0 rfl) ?_
        refine va_get (D := D) (ci := 7) (v := .ref (a 17)) (C := RX8) (T := TX8) (N := 25) hx hb hts inX8 hown hK hP 0 rfl rfl 22 (by decide) (hts _ q_1099) (fun _ h9 => h9) rfl dX8_walks_306 ?_
        refine lv_iload_n hx hb dX8_walks_309 rfl (lv_at hl 2 rfl) ?_
        refine lv_iload hx hb dX8_walks_310 (lv_at hl 8 rfl) ?_
        obtain ⟨T58, eT58⟩ : ∃ z : Ob, z = (sa T56 22 (upd (T56.2 22) (Int32.toNatClampNeg y3) y9)) := ⟨_, rfl⟩
        refine ar_is (f := (T56.2 22)) (n := 512) (j := (Int32.toNatClampNeg y3)) (x := y9) hx hb hK hP hD hS 17 rfl rfl h.1 dX8_walks_312 (wX8 cI cZ a T58) (by subst eT58; rfl) (fun H locs hP hD hS => ?_)
        have h := h.2
        have h := h T58 eT58
        obtain ⟨x59, ex59⟩ : ∃ y : Int32, y = (y3 + 1) := ⟨_, rfl⟩
        have h := h x59 ex59
        refine lv_iinc (v := x59) (lv' := [(3, .int x59), (0, .ref (a 0)), (2, .int y2), (4, .int y4), (5, .int y5), (6, .int y6), (7, .int y7), (8, .int y8), (9, .int y9)]) hx hb dX8_walks_313 hl (k := 2) rfl (by rw [ex59]; rfl) (by decide) rfl (fun ls hl => ?_)
        obtain ⟨x60, ex60⟩ : ∃ y : Int32, y = (y8 + 1) := ⟨_, rfl⟩
        have h := h x60 ex60
        refine lv_iinc (v := x60) (lv' := [(8, .int x60), (3, .int x59), (0, .ref (a 0)), (2, .int y2), (4, .int y4), (5, .int y5), (6, .int y6), (7, .int y7), (9, .int y9)]) hx hb dX8_walks_316 hl (k := 7) rfl (by rw [ex60]; rfl) (by decide) rfl (fun ls hl => ?_)
        refine lv_goto (tgt := 200) hx hb dX8_walks_319 (by decide) ?_
        exact K200 y2 x59 y4 y5 y6 y7 x60 T58 _ _ _ hP hD hS (lv_sub hl [2, 3, 1, 4, 5, 6, 7, 0] rfl) h
      · have h := h.2 c57
        refine lv_goto (tgt := 316) hx hb dX8_walks_302 (by decide) ?_
        obtain ⟨x61, ex61⟩ : ∃ y : Int32, y = (y8 + 1) := ⟨_, rfl⟩
        have h := h x61 ex61
        refine lv_iinc (v := x61) (lv' := [(8, .int x61), (0, .ref (a 0)), (2, .int y2), (3, .int y3), (4, .int y4), (5, .int y5), (6, .int y6), (7, .int y7), (9, .int y9)]) hx hb dX8_walks_316 hl (k := 7) rfl (by rw [ex61]; rfl) (by decide) rfl (fun ls hl => ?_)
        refine lv_goto (tgt := 200) hx hb dX8_walks_319 (by decide) ?_
        exact K200 y2 y3 y4 y5 y6 y7 x61 T56 _ _ _ hP hD hS (lv_sub hl [1, 2, 3, 4, 5, 6, 7, 0] rfl) h
  have L251 : ∀ (k70 : Int32 → Int32 → Int32 → Ob → Prop) (K70 : ∀ (y2 : Int32) (y3 : Int32) (y4 : Int32) (T : Ob) (H : Heap) (locs : List Loc) (ls : Array Slot), va_P D vwCl (wX8 cI cZ a T) H → va_D A (wX8 cI cZ a T) → va_S A s.heap H locs → lv_has ls 10 [(0, .ref (a 0)), (2, .int y2), (3, .int y3), (4, .int y4)] → k70 y2 y3 y4 T → W p l e rmX8_walks s m ([.ref (a 0), .int p0] : List Value).toArray below meth c H locs 0 0 (MQ below (va_Qi Q (fun u => atW D cI cZ A (wX8 cI cZ a u)) A) ([.ref (a 0), .int p0] : List Value).toArray s 0 0 A) (F0 m 70 ls [])) (k200 : Int32 → Int32 → Int32 → Int32 → Int32 → Int32 → Int32 → Ob → Prop) (K200 : ∀ (y2 : Int32) (y3 : Int32) (y4 : Int32) (y5 : Int32) (y6 : Int32) (y7 : Int32) (y8 : Int32) (T : Ob) (H : Heap) (locs : List Loc) (ls : Array Slot), va_P D vwCl (wX8 cI cZ a T) H → va_D A (wX8 cI cZ a T) → va_S A s.heap H locs → lv_has ls 10 [(0, .ref (a 0)), (2, .int y2), (3, .int y3), (4, .int y4), (5, .int y5), (6, .int y6), (7, .int y7), (8, .int y8)] → k200 y2 y3 y4 y5 y6 y7 y8 T → W p l e rmX8_walks s m ([.ref (a 0), .int p0] : List Value).toArray below meth c H locs 0 0 (MQ below (va_Qi Q (fun u => atW D cI cZ A (wX8 cI cZ a u)) A) ([.ref (a 0), .int p0] : List Value).toArray s 0 0 A) (F0 m 200 ls [])) (y2 : Int32) (y3 : Int32) (y4 : Int32) (y5 : Int32) (y6 : Int32) (y7 : Int32) (y8 : Int32) (y9 : Int32) (T : Ob) (H : Heap) (locs : List Loc) (ls : Array Slot), va_P D vwCl (wX8 cI cZ a T) H → va_D A (wX8 cI cZ a T) → va_S A s.heap H locs → lv_has ls 10 [(0, .ref (a 0)), (2, .int y2), (3, .int y3), (4, .int y4), (5, .int y5), (6, .int y6), (7, .int y7), (8, .int y8), (9, .int y9)] → wp_X8_walks_L251 Q k70 k200 y2 y3 y4 y5 y6 y7 y8 y9 T → W p l e rmX8_walks s m ([.ref (a 0), .int p0] : List Value).toArray below meth c H locs 0 0 (MQ below (va_Qi Q (fun u => atW D cI cZ A (wX8 cI cZ a u)) A) ([.ref (a 0), .int p0] : List Value).toArray s 0 0 A) (F0 m 251 ls []) := by
    intro k70 K70 k200 K200 y2 y3 y4 y5 y6 y7 y8 y9 T H locs ls hP hD hS hl h
    unfold wp_X8_walks_L251 at h
    refine lv_aload_n hx hb dX8_walks_251 rfl (lv_at hl 0 rfl) ?_
    refine va_get (D := D) (ci := 7) (v := .ref (a 16)) (C := RX8) (T := TX8) (N := 25) hx hb hts inX8 hown hK hP 0 rfl rfl 21 (by decide) (hts _ q_1098) (fun _ h9 => h9) rfl dX8_walks_252 ?_
    refine lv_iload hx hb dX8_walks_255 (lv_at hl 8 rfl) ?_
    refine lv_iload hx hb dX8_walks_257 (lv_at hl 6 rfl) ?_
    obtain ⟨T62, eT62⟩ : ∃ z : Ob, z = (sa T 21 (upd (T.2 21) (Int32.toNatClampNeg y9) y7)) := ⟨_, rfl⟩
    refine ar_is (f := (T.2 21)) (n := 512) (j := (Int32.toNatClampNeg y9)) (x := y7) hx hb hK hP hD hS 16 rfl rfl h.1 dX8_walks_259 (wX8 cI cZ a T62) (by subst eT62; rfl) (fun H locs hP hD hS => ?_)
    have h := h.2
    have h := h T62 eT62
    exact L260 _ K70 _ K200 y2 y3 y4 y5 y6 y7 y8 y9 T62 _ _ _ hP hD hS (lv_sub hl [0, 1, 2, 3, 4, 5, 6, 7, 8] rfl) h
  have L216 : ∀ (k70 : Int32 → Int32 → Int32 → Ob → Prop) (K70 : ∀ (y2 : Int32) (y3 : Int32) (y4 : Int32) (T : Ob) (H : Heap) (locs : List Loc) (ls : Array Slot), va_P D vwCl (wX8 cI cZ a T) H → va_D A (wX8 cI cZ a T) → va_S A s.heap H locs → lv_has ls 10 [(0, .ref (a 0)), (2, .int y2), (3, .int y3), (4, .int y4)] → k70 y2 y3 y4 T → W p l e rmX8_walks s m ([.ref (a 0), .int p0] : List Value).toArray below meth c H locs 0 0 (MQ below (va_Qi Q (fun u => atW D cI cZ A (wX8 cI cZ a u)) A) ([.ref (a 0), .int p0] : List Value).toArray s 0 0 A) (F0 m 70 ls [])) (k200 : Int32 → Int32 → Int32 → Int32 → Int32 → Int32 → Int32 → Ob → Prop) (K200 : ∀ (y2 : Int32) (y3 : Int32) (y4 : Int32) (y5 : Int32) (y6 : Int32) (y7 : Int32) (y8 : Int32) (T : Ob) (H : Heap) (locs : List Loc) (ls : Array Slot), va_P D vwCl (wX8 cI cZ a T) H → va_D A (wX8 cI cZ a T) → va_S A s.heap H locs → lv_has ls 10 [(0, .ref (a 0)), (2, .int y2), (3, .int y3), (4, .int y4), (5, .int y5), (6, .int y6), (7, .int y7), (8, .int y8)] → k200 y2 y3 y4 y5 y6 y7 y8 T → W p l e rmX8_walks s m ([.ref (a 0), .int p0] : List Value).toArray below meth c H locs 0 0 (MQ below (va_Qi Q (fun u => atW D cI cZ A (wX8 cI cZ a u)) A) ([.ref (a 0), .int p0] : List Value).toArray s 0 0 A) (F0 m 200 ls [])) (y2 : Int32) (y3 : Int32) (y4 : Int32) (y5 : Int32) (y6 : Int32) (y7 : Int32) (y8 : Int32) (z0 : Int32) (z1 : Int32) (T : Ob) (H : Heap) (locs : List Loc) (ls : Array Slot), va_P D vwCl (wX8 cI cZ a T) H → va_D A (wX8 cI cZ a T) → va_S A s.heap H locs → lv_has ls 10 [(0, .ref (a 0)), (2, .int y2), (3, .int y3), (4, .int y4), (5, .int y5), (6, .int y6), (7, .int y7), (8, .int y8)] → wp_X8_walks_L216 Q k70 k200 y2 y3 y4 y5 y6 y7 y8 z0 z1 T → W p l e rmX8_walks s m ([.ref (a 0), .int p0] : List Value).toArray below meth c H locs 0 0 (MQ below (va_Qi Q (fun u => atW D cI cZ A (wX8 cI cZ a u)) A) ([.ref (a 0), .int p0] : List Value).toArray s 0 0 A) (F0 m 216 ls [.int z0, .int z1]) := by
    intro k70 K70 k200 K200 y2 y3 y4 y5 y6 y7 y8 z0 z1 T H locs ls hP hD hS hl h
    unfold wp_X8_walks_L216 at h
    refine lv_icmp_ge (tgt := 322) hx hb dX8_walks_216 (by decide) (fun c42 => ?_) (fun c42 => ?_)
    · have h := h.1 c42
      obtain ⟨x43, ex43⟩ : ∃ y : Int32, y = (y4 + 1) := ⟨_, rfl⟩
      have h := h x43 ex43
      refine lv_iinc (v := x43) (lv' := [(4, .int x43), (0, .ref (a 0)), (2, .int y2), (3, .int y3), (5, .int y5), (6, .int y6), (7, .int y7), (8, .int y8)]) hx hb dX8_walks_322 hl (k := 3) rfl (by rw [ex43]; rfl) (by decide) rfl (fun ls hl => ?_)
      refine lv_goto (tgt := 70) hx hb dX8_walks_325 (by decide) ?_
      exact K70 y2 y3 x43 T _ _ _ hP hD hS (lv_sub hl [1, 2, 3, 0] rfl) h
    · have h := h.2 c42
      refine lv_aload_n hx hb dX8_walks_219 rfl (lv_at hl 0 rfl) ?_
      refine lv_iload hx hb dX8_walks_220 (lv_at hl 4 rfl) ?_
      refine lv_iload hx hb dX8_walks_222 (lv_at hl 7 rfl) ?_
      refine cl_i (ws' := fun u44 => (wX8 cI cZ a u44)) (va_runV (As := [.int y5, .int y8]) (rest := []) ⟨hx, hb, hml, hown, hts⟩ (c_X8_goesTo l D cI cZ a _ T y5 y8 _ h ) (cwV 2 hts (gV q_1490 q_1492 q_65 q_75 q_1493) rfl rfl rfl (by decide +kernel) ⟨Nat.le_of_ble_eq_true rfl, Nat.le_of_ble_eq_true rfl⟩) (preTV_of (ci := 7) (q := (RX8, TX8, 25)) hF hS hA hK hP hD [0, 1, 2, 3, 4, 5, 6, 7, 8, 9, 10, 11, 12, 13, 14, 15, 16, 17] rfl rfl (by decide) 0 rfl rfl) rfl rfl hl.1 rfl (lv_room (Nat.le_of_ble_eq_true rfl)) dX8_walks_224 ⟨Nat.zero_le _, Nat.zero_le _⟩) hP hD hS hA [0, 1, 2, 3, 4, 5, 6, 7, 8, 9, 10, 11, 12, 13, 14, 15, 16, 17] [.inl 0, .inl 1, .inl 2, .inl 3, .inl 4, .inl 5, .inl 6, .inl 7, .inl 8, .inl 9, .inl 10, .inl 11, .inl 12, .inl 13, .inl 14, .inl 15, .inl 16, .inl 17] rfl (by decide) (fun _ => rfl) (fun _ => rfl) (fun r45 u44 H locs h hP hD hS => ?_)
      refine lv_istore (lv' := [(9, .int r45), (0, .ref (a 0)), (2, .int y2), (3, .int y3), (4, .int y4), (5, .int y5), (6, .int y6), (7, .int y7), (8, .int y8)]) hx hb dX8_walks_227 hl (by decide) rfl (fun ls hl => ?_)
      refine lv_aload_n hx hb dX8_walks_229 rfl (lv_at hl 1 rfl) ?_
      refine va_get (D := D) (ci := 7) (v := .ref (a 15)) (C := RX8) (T := TX8) (N := 25) hx hb hts inX8 hown hK hP 0 rfl rfl 20 (by decide) (hts _ q_1097) (fun _ h9 => h9) rfl dX8_walks_230 ?_
      refine lv_iload hx hb dX8_walks_233 (lv_at hl 0 rfl) ?_
      refine ar_il (f := (u44.2 20)) (n := 512) (j := (Int32.toNatClampNeg r45)) hx hb hK hP 15 rfl rfl h.1 dX8_walks_235 ?_
      have h := h.2
      refine lv_if_eq (tgt := 251) hx hb dX8_walks_236 (by decide) (fun c46 => ?_) (fun c46 => ?_)
      · have h := h.1 c46
        exact L251 _ K70 _ K200 y2 y3 y4 y5 y6 y7 y8 r45 u44 _ _ _ hP hD hS (lv_sub hl [1, 2, 3, 4, 5, 6, 7, 8, 0] rfl) h
      · have h := h.2 c46
        refine lv_iload hx hb dX8_walks_239 (lv_at hl 7 rfl) ?_
        refine lv_aload_n hx hb dX8_walks_241 rfl (lv_at hl 1 rfl) ?_
        refine va_get (D := D) (ci := 7) (v := .ref (a 16)) (C := RX8) (T := TX8) (N := 25) hx hb hts inX8 hown hK hP 0 rfl rfl 21 (by decide) (hts _ q_1098) (fun _ h9 => h9) rfl dX8_walks_242 ?_
        refine lv_iload hx hb dX8_walks_245 (lv_at hl 0 rfl) ?_
        refine ar_il (f := (u44.2 21)) (n := 512) (j := (Int32.toNatClampNeg r45)) hx hb hK hP 16 rfl rfl h.1 dX8_walks_247 ?_
        have h := h.2
        refine lv_icmp_le (tgt := 260) hx hb dX8_walks_248 (by decide) (fun c47 => ?_) (fun c47 => ?_)
        · have h := h.1 c47
          exact L260 _ K70 _ K200 y2 y3 y4 y5 y6 y7 y8 r45 u44 _ _ _ hP hD hS (lv_sub hl [1, 2, 3, 4, 5, 6, 7, 8, 0] rfl) h
        · have h := h.2 c47
          exact L251 _ K70 _ K200 y2 y3 y4 y5 y6 y7 y8 r45 u44 _ _ _ hP hD hS (lv_sub hl [1, 2, 3, 4, 5, 6, 7, 8, 0] rfl) h
  have L200 : ∀ (k70 : Int32 → Int32 → Int32 → Ob → Prop) (K70 : ∀ (y2 : Int32) (y3 : Int32) (y4 : Int32) (T : Ob) (H : Heap) (locs : List Loc) (ls : Array Slot), va_P D vwCl (wX8 cI cZ a T) H → va_D A (wX8 cI cZ a T) → va_S A s.heap H locs → lv_has ls 10 [(0, .ref (a 0)), (2, .int y2), (3, .int y3), (4, .int y4)] → k70 y2 y3 y4 T → W p l e rmX8_walks s m ([.ref (a 0), .int p0] : List Value).toArray below meth c H locs 0 0 (MQ below (va_Qi Q (fun u => atW D cI cZ A (wX8 cI cZ a u)) A) ([.ref (a 0), .int p0] : List Value).toArray s 0 0 A) (F0 m 70 ls [])) (n : Nat), ∀ (y2 : Int32) (y3 : Int32) (y4 : Int32) (y5 : Int32) (y6 : Int32) (y7 : Int32) (y8 : Int32) (T : Ob) (H : Heap) (locs : List Loc) (ls : Array Slot), va_P D vwCl (wX8 cI cZ a T) H → va_D A (wX8 cI cZ a T) → va_S A s.heap H locs → lv_has ls 10 [(0, .ref (a 0)), (2, .int y2), (3, .int y3), (4, .int y4), (5, .int y5), (6, .int y6), (7, .int y7), (8, .int y8)] → wp_X8_walks_L200 Q k70 n y2 y3 y4 y5 y6 y7 y8 T → W p l e rmX8_walks s m ([.ref (a 0), .int p0] : List Value).toArray below meth c H locs 0 0 (MQ below (va_Qi Q (fun u => atW D cI cZ A (wX8 cI cZ a u)) A) ([.ref (a 0), .int p0] : List Value).toArray s 0 0 A) (F0 m 200 ls []) := by
    intro k70 K70 n
    induction n with
    | zero =>
      intro y2 y3 y4 y5 y6 y7 y8 T H locs ls hP hD hS hl h
      exact False.elim h
    | succ n ih =>
      intro y2 y3 y4 y5 y6 y7 y8 T H locs ls hP hD hS hl h
      unfold wp_X8_walks_L200 at h
      refine lv_iload hx hb dX8_walks_200 (lv_at hl 7 rfl) ?_
      refine lv_aload_n hx hb dX8_walks_202 rfl (lv_at hl 0 rfl) ?_
      refine lv_iload hx hb dX8_walks_203 (lv_at hl 4 rfl) ?_
      refine cl_i (ws' := fun u39 => (wX8 cI cZ a u39)) (va_runV (As := [.int y5]) (rest := [.int y8]) ⟨hx, hb, hml, hown, hts⟩ (c_X8_branches l D cI cZ a _ T y5 _ h ) (cwV 1 hts (gV q_1486 q_1488 q_64 q_75 q_1489) rfl rfl rfl (by decide +kernel) ⟨Nat.le_of_ble_eq_true rfl, Nat.le_of_ble_eq_true rfl⟩) (preV_of (ci := 7) (q := (RX8, TX8, 25)) hK hP hD [0, 1, 2, 3, 4, 5, 6, 7, 8, 9, 10, 11, 12, 13, 14, 15, 16, 17] rfl rfl (by decide) 0 rfl rfl) rfl rfl hl.1 rfl (lv_room (Nat.le_of_ble_eq_true rfl)) dX8_walks_205 ⟨Nat.zero_le _, Nat.zero_le _⟩) hP hD hS hA [0, 1, 2, 3, 4, 5, 6, 7, 8, 9, 10, 11, 12, 13, 14, 15, 16, 17] [.inl 0, .inl 1, .inl 2, .inl 3, .inl 4, .inl 5, .inl 6, .inl 7, .inl 8, .inl 9, .inl 10, .inl 11, .inl 12, .inl 13, .inl 14, .inl 15, .inl 16, .inl 17] rfl (by decide) (fun _ => rfl) (fun _ => rfl) (fun r40 u39 H locs h hP hD hS => ?_)
      refine lv_if_eq (tgt := 215) hx hb dX8_walks_208 (by decide) (fun c41 => ?_) (fun c41 => ?_)
      · have h := h.1 c41
        refine lv_iconst (v := 1) hx hb dX8_walks_215 (by decide) ?_
        exact L216 _ K70 _ ih y2 y3 y4 y5 y6 y7 y8 1 y8 u39 _ _ _ hP hD hS (lv_sub hl [0, 1, 2, 3, 4, 5, 6, 7] rfl) h
      · have h := h.2 c41
        refine lv_iconst (v := 2) hx hb dX8_walks_211 (by decide) ?_
        refine lv_goto (tgt := 216) hx hb dX8_walks_212 (by decide) ?_
        exact L216 _ K70 _ ih y2 y3 y4 y5 y6 y7 y8 2 y8 u39 _ _ _ hP hD hS (lv_sub hl [0, 1, 2, 3, 4, 5, 6, 7] rfl) h
  have L146 : ∀ (k70 : Int32 → Int32 → Int32 → Ob → Prop) (K70 : ∀ (y2 : Int32) (y3 : Int32) (y4 : Int32) (T : Ob) (H : Heap) (locs : List Loc) (ls : Array Slot), va_P D vwCl (wX8 cI cZ a T) H → va_D A (wX8 cI cZ a T) → va_S A s.heap H locs → lv_has ls 10 [(0, .ref (a 0)), (2, .int y2), (3, .int y3), (4, .int y4)] → k70 y2 y3 y4 T → W p l e rmX8_walks s m ([.ref (a 0), .int p0] : List Value).toArray below meth c H locs 0 0 (MQ below (va_Qi Q (fun u => atW D cI cZ A (wX8 cI cZ a u)) A) ([.ref (a 0), .int p0] : List Value).toArray s 0 0 A) (F0 m 70 ls [])) (y2 : Int32) (y3 : Int32) (y4 : Int32) (y5 : Int32) (y6 : Int32) (z0 : Int32) (z1 : Int32) (T : Ob) (H : Heap) (locs : List Loc) (ls : Array Slot), va_P D vwCl (wX8 cI cZ a T) H → va_D A (wX8 cI cZ a T) → va_S A s.heap H locs → lv_has ls 10 [(0, .ref (a 0)), (2, .int y2), (3, .int y3), (4, .int y4), (5, .int y5), (6, .int y6)] → wp_X8_walks_L146 Q k70 y2 y3 y4 y5 y6 z0 z1 T → W p l e rmX8_walks s m ([.ref (a 0), .int p0] : List Value).toArray below meth c H locs 0 0 (MQ below (va_Qi Q (fun u => atW D cI cZ A (wX8 cI cZ a u)) A) ([.ref (a 0), .int p0] : List Value).toArray s 0 0 A) (F0 m 146 ls [.int z0, .int z1]) := by
    intro k70 K70 y2 y3 y4 y5 y6 z0 z1 T H locs ls hP hD hS hl h
    unfold wp_X8_walks_L146 at h
    refine lv_iadd hx hb dX8_walks_146 ?_
    refine lv_topi (fun x20 ex20 => ?_)
    have h := h x20 ex20
    refine lv_istore (lv' := [(7, .int x20), (0, .ref (a 0)), (2, .int y2), (3, .int y3), (4, .int y4), (5, .int y5), (6, .int y6)]) hx hb dX8_walks_147 hl (by decide) rfl (fun ls hl => ?_)
    refine lv_iload hx hb dX8_walks_149 (lv_at hl 6 rfl) ?_
    refine lv_aload_n hx hb dX8_walks_151 rfl (lv_at hl 1 rfl) ?_
    refine va_get (D := D) (ci := 7) (v := .int (T.1 23)) (C := RX8) (T := TX8) (N := 25) hx hb hts inX8 hown hK hP 0 rfl rfl 23 (by decide) (hts _ q_1100) (fun _ h9 => h9) rfl dX8_walks_152 ?_
    refine lv_icmp_le (tgt := 164) hx hb dX8_walks_155 (by decide) (fun c21 => ?_) (fun c21 => ?_)
    · have h := h.1 c21
      refine lv_iload hx hb dX8_walks_164 (lv_at hl 0 rfl) ?_
      refine lv_aload_n hx hb dX8_walks_166 rfl (lv_at hl 1 rfl) ?_
      refine va_get (D := D) (ci := 7) (v := .int (T.1 24)) (C := RX8) (T := TX8) (N := 25) hx hb hts inX8 hown hK hP 0 rfl rfl 24 (by decide) (hts _ q_1101) (fun _ h9 => h9) rfl dX8_walks_167 ?_
      refine lv_icmp_le (tgt := 179) hx hb dX8_walks_170 (by decide) (fun c22 => ?_) (fun c22 => ?_)
      · have h := h.1 c22
        obtain ⟨x23, ex23⟩ : ∃ y : Int32, y = (y2 + (-1)) := ⟨_, rfl⟩
        have h := h x23 ex23
        refine lv_iinc (v := x23) (lv' := [(2, .int x23), (7, .int x20), (0, .ref (a 0)), (3, .int y3), (4, .int y4), (5, .int y5), (6, .int y6)]) hx hb dX8_walks_179 hl (k := 2) rfl (by rw [ex23]; rfl) (by decide) rfl (fun ls hl => ?_)
        refine lv_aload_n hx hb dX8_walks_182 rfl (lv_at hl 2 rfl) ?_
        refine va_get (D := D) (ci := 7) (v := .ref (a 1)) (C := RX8) (T := TX8) (N := 25) hx hb hts inX8 hown hK hP 0 rfl rfl 0 (by decide) (hts _ q_1077) (fun _ h9 => h9) rfl dX8_walks_183 ?_
        refine lv_iload hx hb dX8_walks_186 (lv_at hl 5 rfl) ?_
        refine ar_il (f := (T.2 0)) (n := 512) (j := (Int32.toNatClampNeg y5)) hx hb hK hP 1 rfl rfl h.1 dX8_walks_188 ?_
        have h := h.2
        refine lv_bipush (v := 18) hx hb dX8_walks_189 (by decide) ?_
        refine lv_icmp_ne (tgt := 197) hx hb dX8_walks_191 (by decide) (fun c24 => ?_) (fun c24 => ?_)
        · have h := h.1 c24
          refine lv_iconst (v := 0) hx hb dX8_walks_197 (by decide) ?_
          refine lv_istore (lv' := [(8, .int 0), (2, .int x23), (7, .int x20), (0, .ref (a 0)), (3, .int y3), (4, .int y4), (5, .int y5), (6, .int y6)]) hx hb dX8_walks_198 hl (by decide) rfl (fun ls hl => ?_)
          exact L200 _ K70 2000 x23 y3 y4 y5 y6 x20 0 T _ _ _ hP hD hS (lv_sub hl [3, 1, 4, 5, 6, 7, 2, 0] rfl) h
        · have h := h.2 c24
          refine lv_goto (tgt := 322) hx hb dX8_walks_194 (by decide) ?_
          obtain ⟨x25, ex25⟩ : ∃ y : Int32, y = (y4 + 1) := ⟨_, rfl⟩
          have h := h x25 ex25
          refine lv_iinc (v := x25) (lv' := [(4, .int x25), (2, .int x23), (7, .int x20), (0, .ref (a 0)), (3, .int y3), (5, .int y5), (6, .int y6)]) hx hb dX8_walks_322 hl (k := 4) rfl (by rw [ex25]; rfl) (by decide) rfl (fun ls hl => ?_)
          refine lv_goto (tgt := 70) hx hb dX8_walks_325 (by decide) ?_
          exact K70 x23 y3 x25 T _ _ _ hP hD hS (lv_sub hl [3, 1, 4, 0] rfl) h
      · have h := h.2 c22
        refine lv_aload_n hx hb dX8_walks_173 rfl (lv_at hl 1 rfl) ?_
        refine lv_iload hx hb dX8_walks_174 (lv_at hl 0 rfl) ?_
        obtain ⟨T26, eT26⟩ : ∃ z : Ob, z = (si T 24 x20) := ⟨_, rfl⟩
        refine pu_f (ci := 7) (v := .int x20) (ty := .int) (C := RX8) (T := TX8) (N := 25) hx hb hts inX8 tyX8 tyX8_ok nmX8 hown hK hP hD hS 0 rfl rfl 24 (by decide) (hts _ q_1101) (fun _ h9 => h9) rfl rfl rfl rfl (Nat.le_of_ble_eq_true rfl) dX8_walks_176 (wX8 cI cZ a T26) (by subst eT26; rfl) (fun H locs hP hD hS => ?_)
        have h := h T26 eT26
        obtain ⟨x27, ex27⟩ : ∃ y : Int32, y = (y2 + (-1)) := ⟨_, rfl⟩
        have h := h x27 ex27
        refine lv_iinc (v := x27) (lv' := [(2, .int x27), (7, .int x20), (0, .ref (a 0)), (3, .int y3), (4, .int y4), (5, .int y5), (6, .int y6)]) hx hb dX8_walks_179 hl (k := 2) rfl (by rw [ex27]; rfl) (by decide) rfl (fun ls hl => ?_)
        refine lv_aload_n hx hb dX8_walks_182 rfl (lv_at hl 2 rfl) ?_
        refine va_get (D := D) (ci := 7) (v := .ref (a 1)) (C := RX8) (T := TX8) (N := 25) hx hb hts inX8 hown hK hP 0 rfl rfl 0 (by decide) (hts _ q_1077) (fun _ h9 => h9) rfl dX8_walks_183 ?_
        refine lv_iload hx hb dX8_walks_186 (lv_at hl 5 rfl) ?_
        refine ar_il (f := (T26.2 0)) (n := 512) (j := (Int32.toNatClampNeg y5)) hx hb hK hP 1 rfl rfl h.1 dX8_walks_188 ?_
        have h := h.2
        refine lv_bipush (v := 18) hx hb dX8_walks_189 (by decide) ?_
        refine lv_icmp_ne (tgt := 197) hx hb dX8_walks_191 (by decide) (fun c28 => ?_) (fun c28 => ?_)
        · have h := h.1 c28
          refine lv_iconst (v := 0) hx hb dX8_walks_197 (by decide) ?_
          refine lv_istore (lv' := [(8, .int 0), (2, .int x27), (7, .int x20), (0, .ref (a 0)), (3, .int y3), (4, .int y4), (5, .int y5), (6, .int y6)]) hx hb dX8_walks_198 hl (by decide) rfl (fun ls hl => ?_)
          exact L200 _ K70 2000 x27 y3 y4 y5 y6 x20 0 T26 _ _ _ hP hD hS (lv_sub hl [3, 1, 4, 5, 6, 7, 2, 0] rfl) h
        · have h := h.2 c28
          refine lv_goto (tgt := 322) hx hb dX8_walks_194 (by decide) ?_
          obtain ⟨x29, ex29⟩ : ∃ y : Int32, y = (y4 + 1) := ⟨_, rfl⟩
          have h := h x29 ex29
          refine lv_iinc (v := x29) (lv' := [(4, .int x29), (2, .int x27), (7, .int x20), (0, .ref (a 0)), (3, .int y3), (5, .int y5), (6, .int y6)]) hx hb dX8_walks_322 hl (k := 4) rfl (by rw [ex29]; rfl) (by decide) rfl (fun ls hl => ?_)
          refine lv_goto (tgt := 70) hx hb dX8_walks_325 (by decide) ?_
          exact K70 x27 y3 x29 T26 _ _ _ hP hD hS (lv_sub hl [3, 1, 4, 0] rfl) h
    · have h := h.2 c21
      refine lv_aload_n hx hb dX8_walks_158 rfl (lv_at hl 1 rfl) ?_
      refine lv_iload hx hb dX8_walks_159 (lv_at hl 6 rfl) ?_
      obtain ⟨T30, eT30⟩ : ∃ z : Ob, z = (si T 23 y6) := ⟨_, rfl⟩
      refine pu_f (ci := 7) (v := .int y6) (ty := .int) (C := RX8) (T := TX8) (N := 25) hx hb hts inX8 tyX8 tyX8_ok nmX8 hown hK hP hD hS 0 rfl rfl 23 (by decide) (hts _ q_1100) (fun _ h9 => h9) rfl rfl rfl rfl (Nat.le_of_ble_eq_true rfl) dX8_walks_161 (wX8 cI cZ a T30) (by subst eT30; rfl) (fun H locs hP hD hS => ?_)
      have h := h T30 eT30
      refine lv_iload hx hb dX8_walks_164 (lv_at hl 0 rfl) ?_
      refine lv_aload_n hx hb dX8_walks_166 rfl (lv_at hl 1 rfl) ?_
      refine va_get (D := D) (ci := 7) (v := .int (T30.1 24)) (C := RX8) (T := TX8) (N := 25) hx hb hts inX8 hown hK hP 0 rfl rfl 24 (by decide) (hts _ q_1101) (fun _ h9 => h9) rfl dX8_walks_167 ?_
      refine lv_icmp_le (tgt := 179) hx hb dX8_walks_170 (by decide) (fun c31 => ?_) (fun c31 => ?_)
      · have h := h.1 c31
        obtain ⟨x32, ex32⟩ : ∃ y : Int32, y = (y2 + (-1)) := ⟨_, rfl⟩
        have h := h x32 ex32
        refine lv_iinc (v := x32) (lv' := [(2, .int x32), (7, .int x20), (0, .ref (a 0)), (3, .int y3), (4, .int y4), (5, .int y5), (6, .int y6)]) hx hb dX8_walks_179 hl (k := 2) rfl (by rw [ex32]; rfl) (by decide) rfl (fun ls hl => ?_)
        refine lv_aload_n hx hb dX8_walks_182 rfl (lv_at hl 2 rfl) ?_
        refine va_get (D := D) (ci := 7) (v := .ref (a 1)) (C := RX8) (T := TX8) (N := 25) hx hb hts inX8 hown hK hP 0 rfl rfl 0 (by decide) (hts _ q_1077) (fun _ h9 => h9) rfl dX8_walks_183 ?_
        refine lv_iload hx hb dX8_walks_186 (lv_at hl 5 rfl) ?_
        refine ar_il (f := (T30.2 0)) (n := 512) (j := (Int32.toNatClampNeg y5)) hx hb hK hP 1 rfl rfl h.1 dX8_walks_188 ?_
        have h := h.2
        refine lv_bipush (v := 18) hx hb dX8_walks_189 (by decide) ?_
        refine lv_icmp_ne (tgt := 197) hx hb dX8_walks_191 (by decide) (fun c33 => ?_) (fun c33 => ?_)
        · have h := h.1 c33
          refine lv_iconst (v := 0) hx hb dX8_walks_197 (by decide) ?_
          refine lv_istore (lv' := [(8, .int 0), (2, .int x32), (7, .int x20), (0, .ref (a 0)), (3, .int y3), (4, .int y4), (5, .int y5), (6, .int y6)]) hx hb dX8_walks_198 hl (by decide) rfl (fun ls hl => ?_)
          exact L200 _ K70 2000 x32 y3 y4 y5 y6 x20 0 T30 _ _ _ hP hD hS (lv_sub hl [3, 1, 4, 5, 6, 7, 2, 0] rfl) h
        · have h := h.2 c33
          refine lv_goto (tgt := 322) hx hb dX8_walks_194 (by decide) ?_
          obtain ⟨x34, ex34⟩ : ∃ y : Int32, y = (y4 + 1) := ⟨_, rfl⟩
          have h := h x34 ex34
          refine lv_iinc (v := x34) (lv' := [(4, .int x34), (2, .int x32), (7, .int x20), (0, .ref (a 0)), (3, .int y3), (5, .int y5), (6, .int y6)]) hx hb dX8_walks_322 hl (k := 4) rfl (by rw [ex34]; rfl) (by decide) rfl (fun ls hl => ?_)
          refine lv_goto (tgt := 70) hx hb dX8_walks_325 (by decide) ?_
          exact K70 x32 y3 x34 T30 _ _ _ hP hD hS (lv_sub hl [3, 1, 4, 0] rfl) h
      · have h := h.2 c31
        refine lv_aload_n hx hb dX8_walks_173 rfl (lv_at hl 1 rfl) ?_
        refine lv_iload hx hb dX8_walks_174 (lv_at hl 0 rfl) ?_
        obtain ⟨T35, eT35⟩ : ∃ z : Ob, z = (si T30 24 x20) := ⟨_, rfl⟩
        refine pu_f (ci := 7) (v := .int x20) (ty := .int) (C := RX8) (T := TX8) (N := 25) hx hb hts inX8 tyX8 tyX8_ok nmX8 hown hK hP hD hS 0 rfl rfl 24 (by decide) (hts _ q_1101) (fun _ h9 => h9) rfl rfl rfl rfl (Nat.le_of_ble_eq_true rfl) dX8_walks_176 (wX8 cI cZ a T35) (by subst eT35; rfl) (fun H locs hP hD hS => ?_)
        have h := h T35 eT35
        obtain ⟨x36, ex36⟩ : ∃ y : Int32, y = (y2 + (-1)) := ⟨_, rfl⟩
        have h := h x36 ex36
        refine lv_iinc (v := x36) (lv' := [(2, .int x36), (7, .int x20), (0, .ref (a 0)), (3, .int y3), (4, .int y4), (5, .int y5), (6, .int y6)]) hx hb dX8_walks_179 hl (k := 2) rfl (by rw [ex36]; rfl) (by decide) rfl (fun ls hl => ?_)
        refine lv_aload_n hx hb dX8_walks_182 rfl (lv_at hl 2 rfl) ?_
        refine va_get (D := D) (ci := 7) (v := .ref (a 1)) (C := RX8) (T := TX8) (N := 25) hx hb hts inX8 hown hK hP 0 rfl rfl 0 (by decide) (hts _ q_1077) (fun _ h9 => h9) rfl dX8_walks_183 ?_
        refine lv_iload hx hb dX8_walks_186 (lv_at hl 5 rfl) ?_
        refine ar_il (f := (T35.2 0)) (n := 512) (j := (Int32.toNatClampNeg y5)) hx hb hK hP 1 rfl rfl h.1 dX8_walks_188 ?_
        have h := h.2
        refine lv_bipush (v := 18) hx hb dX8_walks_189 (by decide) ?_
        refine lv_icmp_ne (tgt := 197) hx hb dX8_walks_191 (by decide) (fun c37 => ?_) (fun c37 => ?_)
        · have h := h.1 c37
          refine lv_iconst (v := 0) hx hb dX8_walks_197 (by decide) ?_
          refine lv_istore (lv' := [(8, .int 0), (2, .int x36), (7, .int x20), (0, .ref (a 0)), (3, .int y3), (4, .int y4), (5, .int y5), (6, .int y6)]) hx hb dX8_walks_198 hl (by decide) rfl (fun ls hl => ?_)
          exact L200 _ K70 2000 x36 y3 y4 y5 y6 x20 0 T35 _ _ _ hP hD hS (lv_sub hl [3, 1, 4, 5, 6, 7, 2, 0] rfl) h
        · have h := h.2 c37
          refine lv_goto (tgt := 322) hx hb dX8_walks_194 (by decide) ?_
          obtain ⟨x38, ex38⟩ : ∃ y : Int32, y = (y4 + 1) := ⟨_, rfl⟩
          have h := h x38 ex38
          refine lv_iinc (v := x38) (lv' := [(4, .int x38), (2, .int x36), (7, .int x20), (0, .ref (a 0)), (3, .int y3), (5, .int y5), (6, .int y6)]) hx hb dX8_walks_322 hl (k := 4) rfl (by rw [ex38]; rfl) (by decide) rfl (fun ls hl => ?_)
          refine lv_goto (tgt := 70) hx hb dX8_walks_325 (by decide) ?_
          exact K70 x36 y3 x38 T35 _ _ _ hP hD hS (lv_sub hl [3, 1, 4, 0] rfl) h
  have L70 : ∀ (n : Nat), ∀ (y2 : Int32) (y3 : Int32) (y4 : Int32) (T : Ob) (H : Heap) (locs : List Loc) (ls : Array Slot), va_P D vwCl (wX8 cI cZ a T) H → va_D A (wX8 cI cZ a T) → va_S A s.heap H locs → lv_has ls 10 [(0, .ref (a 0)), (2, .int y2), (3, .int y3), (4, .int y4)] → wp_X8_walks_L70 Q n y2 y3 y4 T → W p l e rmX8_walks s m ([.ref (a 0), .int p0] : List Value).toArray below meth c H locs 0 0 (MQ below (va_Qi Q (fun u => atW D cI cZ A (wX8 cI cZ a u)) A) ([.ref (a 0), .int p0] : List Value).toArray s 0 0 A) (F0 m 70 ls []) := by
    intro n
    induction n with
    | zero =>
      intro y2 y3 y4 T H locs ls hP hD hS hl h
      exact False.elim h
    | succ n ih =>
      intro y2 y3 y4 T H locs ls hP hD hS hl h
      unfold wp_X8_walks_L70 at h
      refine lv_iload hx hb dX8_walks_70 (lv_at hl 3 rfl) ?_
      refine lv_iload_n hx hb dX8_walks_72 rfl (lv_at hl 2 rfl) ?_
      refine lv_icmp_ge (tgt := 328) hx hb dX8_walks_73 (by decide) (fun c13 => ?_) (fun c13 => ?_)
      · have h := h.1 c13
        refine lv_iload_n hx hb dX8_walks_328 rfl (lv_at hl 1 rfl) ?_
        refine lv_if_ne (tgt := 336) hx hb dX8_walks_329 (by decide) (fun c14 => ?_) (fun c14 => ?_)
        · have h := h.1 c14
          refine lv_iconst (v := 0) hx hb dX8_walks_336 (by decide) ?_
          exact W.zret (ty := .boolean) (v := 0) hx hb hr (narB isB0) (fun t ht hW => ⟨⟨0, T, rfl, h, by rw [ht]; exact hP, va_K.moved hW.alike hK, hD⟩, hS.F ht⟩) hS.2.2 dX8_walks_337
        · have h := h.2 c14
          refine lv_iconst (v := 1) hx hb dX8_walks_332 (by decide) ?_
          refine lv_goto (tgt := 337) hx hb dX8_walks_333 (by decide) ?_
          exact W.zret (ty := .boolean) (v := 1) hx hb hr (narB isB1) (fun t ht hW => ⟨⟨1, T, rfl, h, by rw [ht]; exact hP, va_K.moved hW.alike hK, hD⟩, hS.F ht⟩) hS.2.2 dX8_walks_337
      · have h := h.2 c13
        refine lv_aload_n hx hb dX8_walks_76 rfl (lv_at hl 0 rfl) ?_
        refine va_get (D := D) (ci := 7) (v := .ref (a 17)) (C := RX8) (T := TX8) (N := 25) hx hb hts inX8 hown hK hP 0 rfl rfl 22 (by decide) (hts _ q_1099) (fun _ h9 => h9) rfl dX8_walks_77 ?_
        refine lv_iload hx hb dX8_walks_80 (lv_at hl 3 rfl) ?_
        refine ar_il (f := (T.2 22)) (n := 512) (j := (Int32.toNatClampNeg y4)) hx hb hK hP 17 rfl rfl h.1 dX8_walks_82 ?_
        have h := h.2
        refine lv_topi (fun x15 ex15 => ?_)
        have h := h x15 ex15
        refine lv_istore (lv' := [(5, .int x15), (0, .ref (a 0)), (2, .int y2), (3, .int y3), (4, .int y4)]) hx hb dX8_walks_83 hl (by decide) rfl (fun ls hl => ?_)
        refine lv_aload_n hx hb dX8_walks_85 rfl (lv_at hl 1 rfl) ?_
        refine va_get (D := D) (ci := 7) (v := .ref (a 15)) (C := RX8) (T := TX8) (N := 25) hx hb hts inX8 hown hK hP 0 rfl rfl 20 (by decide) (hts _ q_1097) (fun _ h9 => h9) rfl dX8_walks_86 ?_
        refine lv_iload hx hb dX8_walks_89 (lv_at hl 0 rfl) ?_
        refine ar_il (f := (T.2 20)) (n := 512) (j := (Int32.toNatClampNeg x15)) hx hb hK hP 15 rfl rfl h.1 dX8_walks_91 ?_
        have h := h.2
        obtain ⟨t16, hZt16, hTt16⟩ := hF.1.2.2.2
        refine va_gets (C := RX8) hx hb hZt16 hS hown (hts _ q_1326) (fun _ h9 => h9) dX8_walks_92 ?_
        refine lv_aload_n hx hb dX8_walks_95 rfl (lv_at hl 1 rfl) ?_
        refine va_get (D := D) (ci := 7) (v := .ref (a 1)) (C := RX8) (T := TX8) (N := 25) hx hb hts inX8 hown hK hP 0 rfl rfl 0 (by decide) (hts _ q_1077) (fun _ h9 => h9) rfl dX8_walks_96 ?_
        refine lv_iload hx hb dX8_walks_99 (lv_at hl 0 rfl) ?_
        refine ar_il (f := (T.2 0)) (n := 512) (j := (Int32.toNatClampNeg x15)) hx hb hK hP 1 rfl rfl h.1 dX8_walks_101 ?_
        have h := h.2
        refine va_ti hx hb hTt16 hS h.1 (v := .int (tabC (Int32.toNatClampNeg ((T.2 0) (Int32.toNatClampNeg x15))))) rfl dX8_walks_102 ?_
        have h := h.2
        refine lv_iadd hx hb dX8_walks_103 ?_
        refine lv_topi (fun x17 ex17 => ?_)
        have h := h x17 ex17
        refine lv_istore (lv' := [(6, .int x17), (5, .int x15), (0, .ref (a 0)), (2, .int y2), (3, .int y3), (4, .int y4)]) hx hb dX8_walks_104 hl (by decide) rfl (fun ls hl => ?_)
        refine lv_aload_n hx hb dX8_walks_106 rfl (lv_at hl 2 rfl) ?_
        refine va_get (D := D) (ci := 7) (v := .ref (a 16)) (C := RX8) (T := TX8) (N := 25) hx hb hts inX8 hown hK hP 0 rfl rfl 21 (by decide) (hts _ q_1098) (fun _ h9 => h9) rfl dX8_walks_107 ?_
        refine lv_iload hx hb dX8_walks_110 (lv_at hl 1 rfl) ?_
        refine ar_il (f := (T.2 21)) (n := 512) (j := (Int32.toNatClampNeg x15)) hx hb hK hP 16 rfl rfl h.1 dX8_walks_112 ?_
        have h := h.2
        refine lv_aload_n hx hb dX8_walks_113 rfl (lv_at hl 2 rfl) ?_
        refine va_get (D := D) (ci := 7) (v := .ref (a 1)) (C := RX8) (T := TX8) (N := 25) hx hb hts inX8 hown hK hP 0 rfl rfl 0 (by decide) (hts _ q_1077) (fun _ h9 => h9) rfl dX8_walks_114 ?_
        refine lv_iload hx hb dX8_walks_117 (lv_at hl 1 rfl) ?_
        refine ar_il (f := (T.2 0)) (n := 512) (j := (Int32.toNatClampNeg x15)) hx hb hK hP 1 rfl rfl h.1 dX8_walks_119 ?_
        have h := h.2
        refine lv_bipush (v := 9) hx hb dX8_walks_120 (by decide) ?_
        refine lv_icmp_ne (tgt := 129) hx hb dX8_walks_122 (by decide) (fun c18 => ?_) (fun c18 => ?_)
        · have h := h.1 c18
          refine lv_aload_n hx hb dX8_walks_129 rfl (lv_at hl 2 rfl) ?_
          refine va_get (D := D) (ci := 7) (v := .ref (a 1)) (C := RX8) (T := TX8) (N := 25) hx hb hts inX8 hown hK hP 0 rfl rfl 0 (by decide) (hts _ q_1077) (fun _ h9 => h9) rfl dX8_walks_130 ?_
          refine lv_iload hx hb dX8_walks_133 (lv_at hl 1 rfl) ?_
          refine ar_il (f := (T.2 0)) (n := 512) (j := (Int32.toNatClampNeg x15)) hx hb hK hP 1 rfl rfl h.1 dX8_walks_135 ?_
          have h := h.2
          refine lv_bipush (v := 10) hx hb dX8_walks_136 (by decide) ?_
          refine lv_icmp_ne (tgt := 145) hx hb dX8_walks_138 (by decide) (fun c19 => ?_) (fun c19 => ?_)
          · have h := h.1 c19
            refine lv_iconst (v := 0) hx hb dX8_walks_145 (by decide) ?_
            exact L146 _ ih y2 y3 y4 x15 x17 0 ((T.2 21) (Int32.toNatClampNeg x15)) T _ _ _ hP hD hS (lv_sub hl [2, 3, 4, 5, 1, 0] rfl) h
          · have h := h.2 c19
            refine lv_iconst (v := -1) hx hb dX8_walks_141 (by decide) ?_
            refine lv_goto (tgt := 146) hx hb dX8_walks_142 (by decide) ?_
            exact L146 _ ih y2 y3 y4 x15 x17 (-1) ((T.2 21) (Int32.toNatClampNeg x15)) T _ _ _ hP hD hS (lv_sub hl [2, 3, 4, 5, 1, 0] rfl) h
        · have h := h.2 c18
          refine lv_iconst (v := 1) hx hb dX8_walks_125 (by decide) ?_
          refine lv_goto (tgt := 146) hx hb dX8_walks_126 (by decide) ?_
          exact L146 _ ih y2 y3 y4 x15 x17 1 ((T.2 21) (Int32.toNatClampNeg x15)) T _ _ _ hP hD hS (lv_sub hl [2, 3, 4, 5, 1, 0] rfl) h
  have L33 : ∀ (n : Nat), ∀ (y1 : Int32) (y2 : Int32) (y3 : Int32) (T : Ob) (H : Heap) (locs : List Loc) (ls : Array Slot), va_P D vwCl (wX8 cI cZ a T) H → va_D A (wX8 cI cZ a T) → va_S A s.heap H locs → lv_has ls 10 [(0, .ref (a 0)), (1, .int y1), (2, .int y2), (3, .int y3)] → wp_X8_walks_L33 Q n y1 y2 y3 T → W p l e rmX8_walks s m ([.ref (a 0), .int p0] : List Value).toArray below meth c H locs 0 0 (MQ below (va_Qi Q (fun u => atW D cI cZ A (wX8 cI cZ a u)) A) ([.ref (a 0), .int p0] : List Value).toArray s 0 0 A) (F0 m 33 ls []) := by
    intro n
    induction n with
    | zero =>
      intro y1 y2 y3 T H locs ls hP hD hS hl h
      exact False.elim h
    | succ n ih =>
      intro y1 y2 y3 T H locs ls hP hD hS hl h
      unfold wp_X8_walks_L33 at h
      refine lv_iload_n hx hb dX8_walks_33 rfl (lv_at hl 3 rfl) ?_
      refine lv_sipush (v := 512) hx hb dX8_walks_34 (by decide) ?_
      refine lv_icmp_ge (tgt := 58) hx hb dX8_walks_37 (by decide) (fun c7 => ?_) (fun c7 => ?_)
      · have h := h.1 c7
        refine lv_iconst (v := 1) hx hb dX8_walks_58 (by decide) ?_
        refine lv_istore_n (lv' := [(3, .int 1), (0, .ref (a 0)), (1, .int y1), (2, .int y2)]) hx hb dX8_walks_59 rfl hl (by decide) rfl (fun ls hl => ?_)
        refine lv_aload_n hx hb dX8_walks_60 rfl (lv_at hl 1 rfl) ?_
        refine va_get (D := D) (ci := 7) (v := .ref (a 17)) (C := RX8) (T := TX8) (N := 25) hx hb hts inX8 hown hK hP 0 rfl rfl 22 (by decide) (hts _ q_1099) (fun _ h9 => h9) rfl dX8_walks_61 ?_
        refine lv_iconst (v := 0) hx hb dX8_walks_64 (by decide) ?_
        refine lv_iload_n hx hb dX8_walks_65 rfl (lv_at hl 2 rfl) ?_
        obtain ⟨T8, eT8⟩ : ∃ z : Ob, z = (sa T 22 (upd (T.2 22) 0 y1)) := ⟨_, rfl⟩
        refine ar_is (f := (T.2 22)) (n := 512) (j := 0) (x := y1) hx hb hK hP hD hS 17 rfl (by decide) (okLit (by decide)) dX8_walks_66 (wX8 cI cZ a T8) (by subst eT8; rfl) (fun H locs hP hD hS => ?_)
        have h := h T8 eT8
        refine lv_iconst (v := 0) hx hb dX8_walks_67 (by decide) ?_
        refine lv_istore (lv' := [(4, .int 0), (3, .int 1), (0, .ref (a 0)), (1, .int y1), (2, .int y2)]) hx hb dX8_walks_68 hl (by decide) rfl (fun ls hl => ?_)
        exact L70 2000 y2 1 0 T8 _ _ _ hP hD hS (lv_sub hl [2, 4, 1, 0] rfl) h
      · have h := h.2 c7
        refine lv_aload_n hx hb dX8_walks_40 rfl (lv_at hl 0 rfl) ?_
        refine va_get (D := D) (ci := 7) (v := .ref (a 13)) (C := RX8) (T := TX8) (N := 25) hx hb hts inX8 hown hK hP 0 rfl rfl 18 (by decide) (hts _ q_1095) (fun _ h9 => h9) rfl dX8_walks_41 ?_
        refine lv_iload_n hx hb dX8_walks_44 rfl (lv_at hl 3 rfl) ?_
        refine ar_zl (f := (T.2 18)) (n := 512) (j := (Int32.toNatClampNeg y3)) hx hb hK hP 13 rfl rfl h.1 dX8_walks_45 ?_
        have h := h.2
        refine lv_if_eq (tgt := 52) hx hb dX8_walks_46 (by decide) (fun c9 => ?_) (fun c9 => ?_)
        · have h := h.1 c9
          obtain ⟨x10, ex10⟩ : ∃ y : Int32, y = (y3 + 1) := ⟨_, rfl⟩
          have h := h x10 ex10
          refine lv_iinc (v := x10) (lv' := [(3, .int x10), (0, .ref (a 0)), (1, .int y1), (2, .int y2)]) hx hb dX8_walks_52 hl (k := 3) rfl (by rw [ex10]; rfl) (by decide) rfl (fun ls hl => ?_)
          refine lv_goto (tgt := 33) hx hb dX8_walks_55 (by decide) ?_
          exact ih y1 y2 x10 T _ _ _ hP hD hS (lv_sub hl [1, 2, 3, 0] rfl) h
        · have h := h.2 c9
          obtain ⟨x11, ex11⟩ : ∃ y : Int32, y = (y2 + 1) := ⟨_, rfl⟩
          have h := h x11 ex11
          refine lv_iinc (v := x11) (lv' := [(2, .int x11), (0, .ref (a 0)), (1, .int y1), (3, .int y3)]) hx hb dX8_walks_49 hl (k := 2) rfl (by rw [ex11]; rfl) (by decide) rfl (fun ls hl => ?_)
          obtain ⟨x12, ex12⟩ : ∃ y : Int32, y = (y3 + 1) := ⟨_, rfl⟩
          have h := h x12 ex12
          refine lv_iinc (v := x12) (lv' := [(3, .int x12), (2, .int x11), (0, .ref (a 0)), (1, .int y1)]) hx hb dX8_walks_52 hl (k := 3) rfl (by rw [ex12]; rfl) (by decide) rfl (fun ls hl => ?_)
          refine lv_goto (tgt := 33) hx hb dX8_walks_55 (by decide) ?_
          exact ih y1 x11 x12 T _ _ _ hP hD hS (lv_sub hl [2, 3, 1, 0] rfl) h
  have hl := lv_entry ([.ref (a 0), .int p0]) (n := 10) (Nat.le_of_ble_eq_true rfl)
  rw [lg_entry_eq]
  generalize (lg_sl ([.ref (a 0), .int p0]) ++ List.replicate (10 - (lg_sl ([.ref (a 0), .int p0])).length) Slot.unset).toArray = ls at hl ⊢
  have hl : lv_has ls 10 [(0, .ref (a 0)), (1, .int p0)] := hl
  unfold wp_X8_walks at h
  refine lv_aload_n hx hb dX8_walks_0 rfl (lv_at hl 0 rfl) ?_
  refine lv_iconst (v := 0) hx hb dX8_walks_1 (by decide) ?_
  obtain ⟨T1, eT1⟩ : ∃ z : Ob, z = (si S 23 0) := ⟨_, rfl⟩
  refine pu_f (ci := 7) (v := .int 0) (ty := .int) (C := RX8) (T := TX8) (N := 25) hx hb hts inX8 tyX8 tyX8_ok nmX8 hown hK hP hD hS 0 rfl rfl 23 (by decide) (hts _ q_1100) (fun _ h9 => h9) rfl rfl rfl rfl (Nat.le_of_ble_eq_true rfl) dX8_walks_2 (wX8 cI cZ a T1) (by subst eT1; rfl) (fun H locs hP hD hS => ?_)
  have h := h T1 eT1
  refine lv_aload_n hx hb dX8_walks_5 rfl (lv_at hl 0 rfl) ?_
  refine lv_iconst (v := 0) hx hb dX8_walks_6 (by decide) ?_
  obtain ⟨T2, eT2⟩ : ∃ z : Ob, z = (si T1 24 0) := ⟨_, rfl⟩
  refine pu_f (ci := 7) (v := .int 0) (ty := .int) (C := RX8) (T := TX8) (N := 25) hx hb hts inX8 tyX8 tyX8_ok nmX8 hown hK hP hD hS 0 rfl rfl 24 (by decide) (hts _ q_1101) (fun _ h9 => h9) rfl rfl rfl rfl (Nat.le_of_ble_eq_true rfl) dX8_walks_7 (wX8 cI cZ a T2) (by subst eT2; rfl) (fun H locs hP hD hS => ?_)
  have h := h T2 eT2
  refine lv_aload_n hx hb dX8_walks_10 rfl (lv_at hl 0 rfl) ?_
  refine lv_iload_n hx hb dX8_walks_11 rfl (lv_at hl 1 rfl) ?_
  refine cl_i (ws' := fun u3 => (wX8 cI cZ a u3)) (va_runV (As := [.int p0]) (rest := []) ⟨hx, hb, hml, hown, hts⟩ (c_X8_meets l D cI cZ a _ T2 p0 _ h ) (cwV 1 hts (gV q_1482 q_1484 q_63 q_75 q_1485) rfl rfl rfl (by decide +kernel) ⟨Nat.le_of_ble_eq_true rfl, Nat.le_of_ble_eq_true rfl⟩) (preTV_of (ci := 7) (q := (RX8, TX8, 25)) hF hS hA hK hP hD [0, 1, 2, 3, 4, 5, 6, 7, 8, 9, 10, 11, 12, 13, 14, 15, 16, 17] rfl rfl (by decide) 0 rfl rfl) rfl rfl hl.1 rfl (lv_room (Nat.le_of_ble_eq_true rfl)) dX8_walks_12 ⟨Nat.zero_le _, Nat.zero_le _⟩) hP hD hS hA [0, 1, 2, 3, 4, 5, 6, 7, 8, 9, 10, 11, 12, 13, 14, 15, 16, 17] [.inl 0, .inl 1, .inl 2, .inl 3, .inl 4, .inl 5, .inl 6, .inl 7, .inl 8, .inl 9, .inl 10, .inl 11, .inl 12, .inl 13, .inl 14, .inl 15, .inl 16, .inl 17] rfl (by decide) (fun _ => rfl) (fun _ => rfl) (fun r4 u3 H locs h hP hD hS => ?_)
  refine lv_if_eq (tgt := 27) hx hb dX8_walks_15 (by decide) (fun c5 => ?_) (fun c5 => ?_)
  · have h := h.1 c5
    refine lv_iconst (v := 0) hx hb dX8_walks_27 (by decide) ?_
    exact W.zret (ty := .boolean) (v := 0) hx hb hr (narB isB0) (fun t ht hW => ⟨⟨0, u3, rfl, h, by rw [ht]; exact hP, va_K.moved hW.alike hK, hD⟩, hS.F ht⟩) hS.2.2 dX8_walks_28
  · have h := h.2 c5
    refine lv_aload_n hx hb dX8_walks_18 rfl (lv_at hl 0 rfl) ?_
    refine va_get (D := D) (ci := 7) (v := .ref (a 14)) (C := RX8) (T := TX8) (N := 25) hx hb hts inX8 hown hK hP 0 rfl rfl 19 (by decide) (hts _ q_1096) (fun _ h9 => h9) rfl dX8_walks_19 ?_
    refine lv_iload_n hx hb dX8_walks_22 rfl (lv_at hl 1 rfl) ?_
    refine ar_il (f := (u3.2 19)) (n := 512) (j := (Int32.toNatClampNeg p0)) hx hb hK hP 14 rfl rfl h.1 dX8_walks_23 ?_
    have h := h.2
    refine lv_if_le (tgt := 29) hx hb dX8_walks_24 (by decide) (fun c6 => ?_) (fun c6 => ?_)
    · have h := h.1 c6
      refine lv_iconst (v := 0) hx hb dX8_walks_29 (by decide) ?_
      refine lv_istore_n (lv' := [(2, .int 0), (0, .ref (a 0)), (1, .int p0)]) hx hb dX8_walks_30 rfl hl (by decide) rfl (fun ls hl => ?_)
      refine lv_iconst (v := 0) hx hb dX8_walks_31 (by decide) ?_
      refine lv_istore_n (lv' := [(3, .int 0), (2, .int 0), (0, .ref (a 0)), (1, .int p0)]) hx hb dX8_walks_32 rfl hl (by decide) rfl (fun ls hl => ?_)
      exact L33 2000 p0 0 0 u3 _ _ _ hP hD hS (lv_sub hl [2, 3, 1, 0] rfl) h
    · have h := h.2 c6
      refine lv_iconst (v := 0) hx hb dX8_walks_27 (by decide) ?_
      exact W.zret (ty := .boolean) (v := 0) hx hb hr (narB isB0) (fun t ht hW => ⟨⟨0, u3, rfl, h, by rw [ht]; exact hP, va_K.moved hW.alike hK, hD⟩, hS.F ht⟩) hS.2.2 dX8_walks_28
/-! X8_cost -/
abbrev rmX8_cost : Room := { frames := 3, cells := 0, slots := 0, locals := 77 }
set_option maxHeartbeats 4000000 in
set_option maxRecDepth 100000 in
theorem c_X8_cost (l : Launch) (D : va_G) (cI cZ : ClassId) (a : Nat → Nat) (sz : Nat) (S : Ob) (p0 : Int32) (Q : Int32 → Ob → Prop) (h : wp_X8_cost S p0 Q) : Met l yX8_cost (wsm yX8_cost cX8_cost 2 (some .int)) rmX8_cost (va_Pc [.ref (a 0), .int p0] (preT D cI cZ sz (wX8 cI cZ a S))) (va_Qi Q (fun u => atW D cI cZ (va_A (wX8 cI cZ a S) sz) (wX8 cI cZ a u)) (va_A (wX8 cI cZ a S) sz)) 0 0 (va_A (wX8 cI cZ a S) sz) := by
  refine Met.ofW (cc := cX8_cost) (maxL := 2) (ret := (some .int)) (by decide) rfl ?_
  intro p e s m args below meth c s₁ B hml hv
  obtain ⟨rfl, ⟨hsz, hP, hK, hD0⟩, hF⟩ := hv
  have hx := B.exec
  have hb := B.bytes
  have hr := B.returns
  have hts0 := atoms_spec (ws := wsm yX8_cost cX8_cost 2 (some .int)) B.pre
  have hts : ∀ w ∈ lw_all, w.before _ s = true := fun w h => hts0 w (List.mem_cons_of_mem _ h)
  have hown : s.vm.findClass RX8 = some m.cls := findClass_of_methodNamed B.named
  have hlocks := B.notSynchronized
  subst hsz
  have hD := hD0.self (sz := s.heap.size)
  generalize hAe : va_A (wX8 cI cZ a S) s.heap.size = A at hD hF ⊢
  have hA : ∀ q : Nat, s.heap.size ≤ q → A q := fun q h => by rw [← hAe]; exact Or.inr h
  have hS : va_S A s.heap s.heap [] := va_S.rf
  have hml2 := hml
  have hl := lv_entry ([.ref (a 0), .int p0]) (n := 2) (Nat.le_of_ble_eq_true rfl)
  rw [lg_entry_eq]
  generalize (lg_sl ([.ref (a 0), .int p0]) ++ List.replicate (2 - (lg_sl ([.ref (a 0), .int p0])).length) Slot.unset).toArray = ls at hl ⊢
  have hl : lv_has ls 2 [(0, .ref (a 0)), (1, .int p0)] := hl
  unfold wp_X8_cost at h
  refine lv_aload_n hx hb dX8_cost_0 rfl (lv_at hl 0 rfl) ?_
  refine lv_iconst (v := 0) hx hb dX8_cost_1 (by decide) ?_
  obtain ⟨T1, eT1⟩ : ∃ z : Ob, z = (si S 17 0) := ⟨_, rfl⟩
  refine pu_f (ci := 7) (v := .int 0) (ty := .int) (C := RX8) (T := TX8) (N := 25) hx hb hts inX8 tyX8 tyX8_ok nmX8 hown hK hP hD hS 0 rfl rfl 17 (by decide) (hts _ q_1094) (fun _ h9 => h9) rfl rfl rfl rfl (Nat.le_of_ble_eq_true rfl) dX8_cost_2 (wX8 cI cZ a T1) (by subst eT1; rfl) (fun H locs hP hD hS => ?_)
  have h := h T1 eT1
  refine lv_iload_n hx hb dX8_cost_5 rfl (lv_at hl 1 rfl) ?_
  refine lv_iconst (v := 0) hx hb dX8_cost_6 (by decide) ?_
  refine lv_bipush (v := 20) hx hb dX8_cost_7 (by decide) ?_
  refine cl_i (ws' := fun u2 => (wX8 cI cZ a T1)) (va_runS (As := [.int p0, .int 0, .int 20]) (rest := []) ⟨hx, hb, hml, hown, hts⟩ (c_X8_within l D cI cZ _ () p0 0 20 _ h ) (va_cwS 3 hts (gS q_1161 q_1162 q_75 q_1163) rfl rfl rfl (by decide +kernel) ⟨Nat.le_of_ble_eq_true rfl, Nat.le_of_ble_eq_true rfl⟩) (preS_of hK hP hD [] rfl rfl (by decide)) rfl rfl hl.1 rfl (lv_room (Nat.le_of_ble_eq_true rfl)) dX8_cost_9 ⟨Nat.zero_le _, Nat.zero_le _⟩) hP hD hS hA [] [.inr 0, .inr 1, .inr 2, .inr 3, .inr 4, .inr 5, .inr 6, .inr 7, .inr 8, .inr 9, .inr 10, .inr 11, .inr 12, .inr 13, .inr 14, .inr 15, .inr 16, .inr 17] rfl (by decide) (fun _ => rfl) (fun _ => rfl) (fun r3 u2 H locs h hP hD hS => ?_)
  refine lv_if_eq (tgt := 35) hx hb dX8_cost_12 (by decide) (fun c4 => ?_) (fun c4 => ?_)
  · have h := h.1 c4
    refine lv_iconst (v := -1) hx hb dX8_cost_35 (by decide) ?_
    exact W.iret (v := (-1)) hx hb hr (fun t ht hW => ⟨⟨(-1), T1, rfl, h, by rw [ht]; exact hP, va_K.moved hW.alike hK, hD⟩, hS.F ht⟩) hS.2.2 dX8_cost_36
  · have h := h.2 c4
    refine lv_aload_n hx hb dX8_cost_15 rfl (lv_at hl 0 rfl) ?_
    refine lv_aload_n hx hb dX8_cost_16 rfl (lv_at hl 0 rfl) ?_
    refine va_get (D := D) (ci := 7) (v := .ref (a 2)) (C := RX8) (T := TX8) (N := 25) hx hb hts inX8 hown hK hP 0 rfl rfl 1 (by decide) (hts _ q_1078) (fun _ h9 => h9) rfl dX8_cost_17 ?_
    refine lv_iload_n hx hb dX8_cost_20 rfl (lv_at hl 1 rfl) ?_
    refine ar_il (f := (T1.2 1)) (n := 21) (j := (Int32.toNatClampNeg p0)) hx hb hK hP 2 rfl rfl h.1 dX8_cost_21 ?_
    have h := h.2
    refine cl_i (ws' := fun u5 => (wX8 cI cZ a u5)) (va_runV (As := [.int ((T1.2 1) (Int32.toNatClampNeg p0))]) (rest := []) ⟨hx, hb, hml, hown, hts⟩ (c_X8_walks l D cI cZ a _ T1 ((T1.2 1) (Int32.toNatClampNeg p0)) _ h ) (cwV 1 hts (gV q_1478 q_1480 q_62 q_75 q_1481) rfl rfl rfl (by decide +kernel) ⟨Nat.le_of_ble_eq_true rfl, Nat.le_of_ble_eq_true rfl⟩) (preTV_of (ci := 7) (q := (RX8, TX8, 25)) hF hS hA hK hP hD [0, 1, 2, 3, 4, 5, 6, 7, 8, 9, 10, 11, 12, 13, 14, 15, 16, 17] rfl rfl (by decide) 0 rfl rfl) rfl rfl hl.1 rfl (lv_room (Nat.le_of_ble_eq_true rfl)) dX8_cost_22 ⟨Nat.zero_le _, Nat.zero_le _⟩) hP hD hS hA [0, 1, 2, 3, 4, 5, 6, 7, 8, 9, 10, 11, 12, 13, 14, 15, 16, 17] [.inl 0, .inl 1, .inl 2, .inl 3, .inl 4, .inl 5, .inl 6, .inl 7, .inl 8, .inl 9, .inl 10, .inl 11, .inl 12, .inl 13, .inl 14, .inl 15, .inl 16, .inl 17] rfl (by decide) (fun _ => rfl) (fun _ => rfl) (fun r6 u5 H locs h hP hD hS => ?_)
    refine lv_if_eq (tgt := 35) hx hb dX8_cost_25 (by decide) (fun c7 => ?_) (fun c7 => ?_)
    · have h := h.1 c7
      refine lv_iconst (v := -1) hx hb dX8_cost_35 (by decide) ?_
      exact W.iret (v := (-1)) hx hb hr (fun t ht hW => ⟨⟨(-1), u5, rfl, h, by rw [ht]; exact hP, va_K.moved hW.alike hK, hD⟩, hS.F ht⟩) hS.2.2 dX8_cost_36
    · have h := h.2 c7
      refine lv_aload_n hx hb dX8_cost_28 rfl (lv_at hl 0 rfl) ?_
      refine va_get (D := D) (ci := 7) (v := .int (u5.1 23)) (C := RX8) (T := TX8) (N := 25) hx hb hts inX8 hown hK hP 0 rfl rfl 23 (by decide) (hts _ q_1100) (fun _ h9 => h9) rfl dX8_cost_29 ?_
      refine lv_goto (tgt := 36) hx hb dX8_cost_32 (by decide) ?_
      exact W.iret (v := (u5.1 23)) hx hb hr (fun t ht hW => ⟨⟨(u5.1 23), u5, rfl, h, by rw [ht]; exact hP, va_K.moved hW.alike hK, hD⟩, hS.F ht⟩) hS.2.2 dX8_cost_36
/-! X8_pushes -/
abbrev rmX8_pushes : Room := { frames := 3, cells := 0, slots := 0, locals := 77 }
set_option maxHeartbeats 4000000 in
set_option maxRecDepth 100000 in
theorem c_X8_pushes (l : Launch) (D : va_G) (cI cZ : ClassId) (a : Nat → Nat) (sz : Nat) (S : Ob) (p0 : Int32) (Q : Int32 → Ob → Prop) (h : wp_X8_pushes S p0 Q) : Met l yX8_pushes (wsm yX8_pushes cX8_pushes 2 (some .int)) rmX8_pushes (va_Pc [.ref (a 0), .int p0] (preT D cI cZ sz (wX8 cI cZ a S))) (va_Qi Q (fun u => atW D cI cZ (va_A (wX8 cI cZ a S) sz) (wX8 cI cZ a u)) (va_A (wX8 cI cZ a S) sz)) 0 0 (va_A (wX8 cI cZ a S) sz) := by
  refine Met.ofW (cc := cX8_pushes) (maxL := 2) (ret := (some .int)) (by decide) rfl ?_
  intro p e s m args below meth c s₁ B hml hv
  obtain ⟨rfl, ⟨hsz, hP, hK, hD0⟩, hF⟩ := hv
  have hx := B.exec
  have hb := B.bytes
  have hr := B.returns
  have hts0 := atoms_spec (ws := wsm yX8_pushes cX8_pushes 2 (some .int)) B.pre
  have hts : ∀ w ∈ lw_all, w.before _ s = true := fun w h => hts0 w (List.mem_cons_of_mem _ h)
  have hown : s.vm.findClass RX8 = some m.cls := findClass_of_methodNamed B.named
  have hlocks := B.notSynchronized
  subst hsz
  have hD := hD0.self (sz := s.heap.size)
  generalize hAe : va_A (wX8 cI cZ a S) s.heap.size = A at hD hF ⊢
  have hA : ∀ q : Nat, s.heap.size ≤ q → A q := fun q h => by rw [← hAe]; exact Or.inr h
  have hS : va_S A s.heap s.heap [] := va_S.rf
  have hml2 := hml
  have hl := lv_entry ([.ref (a 0), .int p0]) (n := 2) (Nat.le_of_ble_eq_true rfl)
  rw [lg_entry_eq]
  generalize (lg_sl ([.ref (a 0), .int p0]) ++ List.replicate (2 - (lg_sl ([.ref (a 0), .int p0])).length) Slot.unset).toArray = ls at hl ⊢
  have hl : lv_has ls 2 [(0, .ref (a 0)), (1, .int p0)] := hl
  unfold wp_X8_pushes at h
  refine lv_aload_n hx hb dX8_pushes_0 rfl (lv_at hl 0 rfl) ?_
  refine lv_iconst (v := 0) hx hb dX8_pushes_1 (by decide) ?_
  obtain ⟨T1, eT1⟩ : ∃ z : Ob, z = (si S 17 0) := ⟨_, rfl⟩
  refine pu_f (ci := 7) (v := .int 0) (ty := .int) (C := RX8) (T := TX8) (N := 25) hx hb hts inX8 tyX8 tyX8_ok nmX8 hown hK hP hD hS 0 rfl rfl 17 (by decide) (hts _ q_1094) (fun _ h9 => h9) rfl rfl rfl rfl (Nat.le_of_ble_eq_true rfl) dX8_pushes_2 (wX8 cI cZ a T1) (by subst eT1; rfl) (fun H locs hP hD hS => ?_)
  have h := h T1 eT1
  refine lv_iload_n hx hb dX8_pushes_5 rfl (lv_at hl 1 rfl) ?_
  refine lv_iconst (v := 0) hx hb dX8_pushes_6 (by decide) ?_
  refine lv_bipush (v := 20) hx hb dX8_pushes_7 (by decide) ?_
  refine cl_i (ws' := fun u2 => (wX8 cI cZ a T1)) (va_runS (As := [.int p0, .int 0, .int 20]) (rest := []) ⟨hx, hb, hml, hown, hts⟩ (c_X8_within l D cI cZ _ () p0 0 20 _ h ) (va_cwS 3 hts (gS q_1161 q_1162 q_75 q_1163) rfl rfl rfl (by decide +kernel) ⟨Nat.le_of_ble_eq_true rfl, Nat.le_of_ble_eq_true rfl⟩) (preS_of hK hP hD [] rfl rfl (by decide)) rfl rfl hl.1 rfl (lv_room (Nat.le_of_ble_eq_true rfl)) dX8_pushes_9 ⟨Nat.zero_le _, Nat.zero_le _⟩) hP hD hS hA [] [.inr 0, .inr 1, .inr 2, .inr 3, .inr 4, .inr 5, .inr 6, .inr 7, .inr 8, .inr 9, .inr 10, .inr 11, .inr 12, .inr 13, .inr 14, .inr 15, .inr 16, .inr 17] rfl (by decide) (fun _ => rfl) (fun _ => rfl) (fun r3 u2 H locs h hP hD hS => ?_)
  refine lv_if_eq (tgt := 35) hx hb dX8_pushes_12 (by decide) (fun c4 => ?_) (fun c4 => ?_)
  · have h := h.1 c4
    refine lv_iconst (v := -1) hx hb dX8_pushes_35 (by decide) ?_
    exact W.iret (v := (-1)) hx hb hr (fun t ht hW => ⟨⟨(-1), T1, rfl, h, by rw [ht]; exact hP, va_K.moved hW.alike hK, hD⟩, hS.F ht⟩) hS.2.2 dX8_pushes_36
  · have h := h.2 c4
    refine lv_aload_n hx hb dX8_pushes_15 rfl (lv_at hl 0 rfl) ?_
    refine lv_aload_n hx hb dX8_pushes_16 rfl (lv_at hl 0 rfl) ?_
    refine va_get (D := D) (ci := 7) (v := .ref (a 2)) (C := RX8) (T := TX8) (N := 25) hx hb hts inX8 hown hK hP 0 rfl rfl 1 (by decide) (hts _ q_1078) (fun _ h9 => h9) rfl dX8_pushes_17 ?_
    refine lv_iload_n hx hb dX8_pushes_20 rfl (lv_at hl 1 rfl) ?_
    refine ar_il (f := (T1.2 1)) (n := 21) (j := (Int32.toNatClampNeg p0)) hx hb hK hP 2 rfl rfl h.1 dX8_pushes_21 ?_
    have h := h.2
    refine cl_i (ws' := fun u5 => (wX8 cI cZ a u5)) (va_runV (As := [.int ((T1.2 1) (Int32.toNatClampNeg p0))]) (rest := []) ⟨hx, hb, hml, hown, hts⟩ (c_X8_walks l D cI cZ a _ T1 ((T1.2 1) (Int32.toNatClampNeg p0)) _ h ) (cwV 1 hts (gV q_1478 q_1480 q_62 q_75 q_1481) rfl rfl rfl (by decide +kernel) ⟨Nat.le_of_ble_eq_true rfl, Nat.le_of_ble_eq_true rfl⟩) (preTV_of (ci := 7) (q := (RX8, TX8, 25)) hF hS hA hK hP hD [0, 1, 2, 3, 4, 5, 6, 7, 8, 9, 10, 11, 12, 13, 14, 15, 16, 17] rfl rfl (by decide) 0 rfl rfl) rfl rfl hl.1 rfl (lv_room (Nat.le_of_ble_eq_true rfl)) dX8_pushes_22 ⟨Nat.zero_le _, Nat.zero_le _⟩) hP hD hS hA [0, 1, 2, 3, 4, 5, 6, 7, 8, 9, 10, 11, 12, 13, 14, 15, 16, 17] [.inl 0, .inl 1, .inl 2, .inl 3, .inl 4, .inl 5, .inl 6, .inl 7, .inl 8, .inl 9, .inl 10, .inl 11, .inl 12, .inl 13, .inl 14, .inl 15, .inl 16, .inl 17] rfl (by decide) (fun _ => rfl) (fun _ => rfl) (fun r6 u5 H locs h hP hD hS => ?_)
    refine lv_if_eq (tgt := 35) hx hb dX8_pushes_25 (by decide) (fun c7 => ?_) (fun c7 => ?_)
    · have h := h.1 c7
      refine lv_iconst (v := -1) hx hb dX8_pushes_35 (by decide) ?_
      exact W.iret (v := (-1)) hx hb hr (fun t ht hW => ⟨⟨(-1), u5, rfl, h, by rw [ht]; exact hP, va_K.moved hW.alike hK, hD⟩, hS.F ht⟩) hS.2.2 dX8_pushes_36
    · have h := h.2 c7
      refine lv_aload_n hx hb dX8_pushes_28 rfl (lv_at hl 0 rfl) ?_
      refine va_get (D := D) (ci := 7) (v := .int (u5.1 24)) (C := RX8) (T := TX8) (N := 25) hx hb hts inX8 hown hK hP 0 rfl rfl 24 (by decide) (hts _ q_1101) (fun _ h9 => h9) rfl dX8_pushes_29 ?_
      refine lv_goto (tgt := 36) hx hb dX8_pushes_32 (by decide) ?_
      exact W.iret (v := (u5.1 24)) hx hb hr (fun t ht hW => ⟨⟨(u5.1 24), u5, rfl, h, by rw [ht]; exact hP, va_K.moved hW.alike hK, hD⟩, hS.F ht⟩) hS.2.2 dX8_pushes_36
/-! X8_room -/
abbrev rmX8_room : Room := { frames := 3, cells := 0, slots := 0, locals := 77 }
set_option maxHeartbeats 4000000 in
set_option maxRecDepth 100000 in
theorem c_X8_room (l : Launch) (D : va_G) (cI cZ : ClassId) (a : Nat → Nat) (sz : Nat) (S : Ob) (p0 : Int32) (Q : Int32 → Ob → Prop) (h : wp_X8_room S p0 Q) : Met l yX8_room (wsm yX8_room cX8_room 7 (some .int)) rmX8_room (va_Pc [.ref (a 0), .int p0] (preT D cI cZ sz (wX8 cI cZ a S))) (va_Qi Q (fun u => atW D cI cZ (va_A (wX8 cI cZ a S) sz) (wX8 cI cZ a u)) (va_A (wX8 cI cZ a S) sz)) 0 0 (va_A (wX8 cI cZ a S) sz) := by
  refine Met.ofW (cc := cX8_room) (maxL := 7) (ret := (some .int)) (by decide) rfl ?_
  intro p e s m args below meth c s₁ B hml hv
  obtain ⟨rfl, ⟨hsz, hP, hK, hD0⟩, hF⟩ := hv
  have hx := B.exec
  have hb := B.bytes
  have hr := B.returns
  have hts0 := atoms_spec (ws := wsm yX8_room cX8_room 7 (some .int)) B.pre
  have hts : ∀ w ∈ lw_all, w.before _ s = true := fun w h => hts0 w (List.mem_cons_of_mem _ h)
  have hown : s.vm.findClass RX8 = some m.cls := findClass_of_methodNamed B.named
  have hlocks := B.notSynchronized
  subst hsz
  have hD := hD0.self (sz := s.heap.size)
  generalize hAe : va_A (wX8 cI cZ a S) s.heap.size = A at hD hF ⊢
  have hA : ∀ q : Nat, s.heap.size ≤ q → A q := fun q h => by rw [← hAe]; exact Or.inr h
  have hS : va_S A s.heap s.heap [] := va_S.rf
  have hml2 := hml
  have L36 : ∀ (k9 : Int32 → Int32 → Int32 → Ob → Prop) (K9 : ∀ (y1 : Int32) (y2 : Int32) (y3 : Int32) (T : Ob) (H : Heap) (locs : List Loc) (ls : Array Slot), va_P D vwCl (wX8 cI cZ a T) H → va_D A (wX8 cI cZ a T) → va_S A s.heap H locs → lv_has ls 7 [(0, .ref (a 0)), (1, .int y1), (2, .int y2), (3, .int y3)] → k9 y1 y2 y3 T → W p l e rmX8_room s m ([.ref (a 0), .int p0] : List Value).toArray below meth c H locs 0 0 (MQ below (va_Qi Q (fun u => atW D cI cZ A (wX8 cI cZ a u)) A) ([.ref (a 0), .int p0] : List Value).toArray s 0 0 A) (F0 m 9 ls [])) (n : Nat), ∀ (y1 : Int32) (y2 : Int32) (y3 : Int32) (y4 : Int32) (y5 : Int32) (y6 : Int32) (T : Ob) (H : Heap) (locs : List Loc) (ls : Array Slot), va_P D vwCl (wX8 cI cZ a T) H → va_D A (wX8 cI cZ a T) → va_S A s.heap H locs → lv_has ls 7 [(0, .ref (a 0)), (1, .int y1), (2, .int y2), (3, .int y3), (4, .int y4), (5, .int y5), (6, .int y6)] → wp_X8_room_L36 Q k9 n y1 y2 y3 y4 y5 y6 T → W p l e rmX8_room s m ([.ref (a 0), .int p0] : List Value).toArray below meth c H locs 0 0 (MQ below (va_Qi Q (fun u => atW D cI cZ A (wX8 cI cZ a u)) A) ([.ref (a 0), .int p0] : List Value).toArray s 0 0 A) (F0 m 36 ls []) := by
    intro k9 K9 n
    induction n with
    | zero =>
      intro y1 y2 y3 y4 y5 y6 T H locs ls hP hD hS hl h
      exact False.elim h
    | succ n ih =>
      intro y1 y2 y3 y4 y5 y6 T H locs ls hP hD hS hl h
      unfold wp_X8_room_L36 at h
      refine lv_iload hx hb dX8_room_36 (lv_at hl 6 rfl) ?_
      refine lv_bipush (v := 21) hx hb dX8_room_38 (by decide) ?_
      refine lv_icmp_ge (tgt := 130) hx hb dX8_room_40 (by decide) (fun c5 => ?_) (fun c5 => ?_)
      · have h := h.1 c5
        refine lv_iload hx hb dX8_room_130 (lv_at hl 4 rfl) ?_
        refine lv_if_eq (tgt := 152) hx hb dX8_room_132 (by decide) (fun c6 => ?_) (fun c6 => ?_)
        · have h := h.1 c6
          obtain ⟨x7, ex7⟩ : ∃ y : Int32, y = (y3 + 1) := ⟨_, rfl⟩
          have h := h x7 ex7
          refine lv_iinc (v := x7) (lv' := [(3, .int x7), (0, .ref (a 0)), (1, .int y1), (2, .int y2), (4, .int y4), (5, .int y5), (6, .int y6)]) hx hb dX8_room_152 hl (k := 3) rfl (by rw [ex7]; rfl) (by decide) rfl (fun ls hl => ?_)
          refine lv_goto (tgt := 9) hx hb dX8_room_155 (by decide) ?_
          exact K9 y1 y2 x7 T _ _ _ hP hD hS (lv_sub hl [1, 2, 3, 0] rfl) h
        · have h := h.2 c6
          refine lv_iload_n hx hb dX8_room_135 rfl (lv_at hl 2 rfl) ?_
          refine lv_iload hx hb dX8_room_136 (lv_at hl 5 rfl) ?_
          refine lv_iload_n hx hb dX8_room_138 rfl (lv_at hl 1 rfl) ?_
          refine lv_if_eq (tgt := 147) hx hb dX8_room_139 (by decide) (fun c8 => ?_) (fun c8 => ?_)
          · have h := h.1 c8
            refine lv_bipush (v := 6) hx hb dX8_room_147 (by decide) ?_
            refine lv_iadd hx hb dX8_room_149 ?_
            refine lv_iadd hx hb dX8_room_150 ?_
            refine lv_topi (fun x9 ex9 => ?_)
            have h := h x9 ex9
            refine lv_istore_n (lv' := [(2, .int x9), (0, .ref (a 0)), (1, .int y1), (3, .int y3), (4, .int y4), (5, .int y5), (6, .int y6)]) hx hb dX8_room_151 rfl hl (by decide) rfl (fun ls hl => ?_)
            obtain ⟨x10, ex10⟩ : ∃ y : Int32, y = (y3 + 1) := ⟨_, rfl⟩
            have h := h x10 ex10
            refine lv_iinc (v := x10) (lv' := [(3, .int x10), (2, .int x9), (0, .ref (a 0)), (1, .int y1), (4, .int y4), (5, .int y5), (6, .int y6)]) hx hb dX8_room_152 hl (k := 3) rfl (by rw [ex10]; rfl) (by decide) rfl (fun ls hl => ?_)
            refine lv_goto (tgt := 9) hx hb dX8_room_155 (by decide) ?_
            exact K9 y1 x9 x10 T _ _ _ hP hD hS (lv_sub hl [2, 3, 1, 0] rfl) h
          · have h := h.2 c8
            refine lv_bipush (v := 10) hx hb dX8_room_142 (by decide) ?_
            refine lv_goto (tgt := 149) hx hb dX8_room_144 (by decide) ?_
            refine lv_iadd hx hb dX8_room_149 ?_
            refine lv_iadd hx hb dX8_room_150 ?_
            refine lv_topi (fun x11 ex11 => ?_)
            have h := h x11 ex11
            refine lv_istore_n (lv' := [(2, .int x11), (0, .ref (a 0)), (1, .int y1), (3, .int y3), (4, .int y4), (5, .int y5), (6, .int y6)]) hx hb dX8_room_151 rfl hl (by decide) rfl (fun ls hl => ?_)
            obtain ⟨x12, ex12⟩ : ∃ y : Int32, y = (y3 + 1) := ⟨_, rfl⟩
            have h := h x12 ex12
            refine lv_iinc (v := x12) (lv' := [(3, .int x12), (2, .int x11), (0, .ref (a 0)), (1, .int y1), (4, .int y4), (5, .int y5), (6, .int y6)]) hx hb dX8_room_152 hl (k := 3) rfl (by rw [ex12]; rfl) (by decide) rfl (fun ls hl => ?_)
            refine lv_goto (tgt := 9) hx hb dX8_room_155 (by decide) ?_
            exact K9 y1 x11 x12 T _ _ _ hP hD hS (lv_sub hl [2, 3, 1, 0] rfl) h
      · have h := h.2 c5
        refine lv_aload_n hx hb dX8_room_43 rfl (lv_at hl 0 rfl) ?_
        refine va_get (D := D) (ci := 7) (v := .ref (a 3)) (C := RX8) (T := TX8) (N := 25) hx hb hts inX8 hown hK hP 0 rfl rfl 2 (by decide) (hts _ q_1079) (fun _ h9 => h9) rfl dX8_room_44 ?_
        refine lv_iload hx hb dX8_room_47 (lv_at hl 6 rfl) ?_
        refine ar_zl (f := (T.2 2)) (n := 21) (j := (Int32.toNatClampNeg y6)) hx hb hK hP 3 rfl rfl h.1 dX8_room_49 ?_
        have h := h.2
        refine lv_if_eq (tgt := 124) hx hb dX8_room_50 (by decide) (fun c13 => ?_) (fun c13 => ?_)
        · have h := h.1 c13
          obtain ⟨x14, ex14⟩ : ∃ y : Int32, y = (y6 + 1) := ⟨_, rfl⟩
          have h := h x14 ex14
          refine lv_iinc (v := x14) (lv' := [(6, .int x14), (0, .ref (a 0)), (1, .int y1), (2, .int y2), (3, .int y3), (4, .int y4), (5, .int y5)]) hx hb dX8_room_124 hl (k := 6) rfl (by rw [ex14]; rfl) (by decide) rfl (fun ls hl => ?_)
          refine lv_goto (tgt := 36) hx hb dX8_room_127 (by decide) ?_
          exact ih y1 y2 y3 y4 y5 x14 T _ _ _ hP hD hS (lv_sub hl [1, 2, 3, 4, 5, 6, 0] rfl) h
        · have h := h.2 c13
          refine lv_aload_n hx hb dX8_room_53 rfl (lv_at hl 0 rfl) ?_
          refine va_get (D := D) (ci := 7) (v := .ref (a 4)) (C := RX8) (T := TX8) (N := 25) hx hb hts inX8 hown hK hP 0 rfl rfl 4 (by decide) (hts _ q_1081) (fun _ h9 => h9) rfl dX8_room_54 ?_
          refine lv_iload hx hb dX8_room_57 (lv_at hl 6 rfl) ?_
          refine lv_aload_n hx hb dX8_room_59 rfl (lv_at hl 0 rfl) ?_
          refine va_get (D := D) (ci := 7) (v := .int (T.1 3)) (C := RX8) (T := TX8) (N := 25) hx hb hts inX8 hown hK hP 0 rfl rfl 3 (by decide) (hts _ q_1080) (fun _ h9 => h9) rfl dX8_room_60 ?_
          refine cl_i (ws' := fun u15 => (wX8 cI cZ a (sa T 4 u15))) (va_runS (As := [.ref (a 4), .int y6, .int (T.1 3)]) (rest := []) ⟨hx, hb, hml, hown, hts⟩ (c_X8_groupOf l D cI cZ (fun k => a (k + 4)) _ (T.2 4) y6 (T.1 3) _ h ) (va_cwS 3 hts (gS q_1240 q_1241 q_75 q_1242) rfl rfl rfl (by decide +kernel) ⟨Nat.le_of_ble_eq_true rfl, Nat.le_of_ble_eq_true rfl⟩) (preS_of hK hP hD [4] rfl rfl (by decide)) rfl rfl hl.1 rfl (lv_room (Nat.le_of_ble_eq_true rfl)) dX8_room_63 ⟨Nat.zero_le _, Nat.zero_le _⟩) hP hD hS hA [4] [.inr 0, .inr 1, .inr 2, .inr 3, .inl 0, .inr 5, .inr 6, .inr 7, .inr 8, .inr 9, .inr 10, .inr 11, .inr 12, .inr 13, .inr 14, .inr 15, .inr 16, .inr 17] rfl (by decide) (fun _ => rfl) (fun _ => rfl) (fun r16 u15 H locs h hP hD hS => ?_)
          refine lv_aload_n hx hb dX8_room_66 rfl (lv_at hl 0 rfl) ?_
          refine va_get (D := D) (ci := 7) (v := .ref (a 4)) (C := RX8) (T := TX8) (N := 25) hx hb hts inX8 hown hK hP 0 rfl rfl 4 (by decide) (hts _ q_1081) (fun _ h9 => h9) rfl dX8_room_67 ?_
          refine lv_iload_n hx hb dX8_room_70 rfl (lv_at hl 3 rfl) ?_
          refine lv_aload_n hx hb dX8_room_71 rfl (lv_at hl 0 rfl) ?_
          refine va_get (D := D) (ci := 7) (v := .int (T.1 3)) (C := RX8) (T := TX8) (N := 25) hx hb hts inX8 hown hK hP 0 rfl rfl 3 (by decide) (hts _ q_1080) (fun _ h9 => h9) rfl dX8_room_72 ?_
          refine cl_i (ws' := fun u17 => (wX8 cI cZ a (sa (sa T 4 u15) 4 u17))) (va_runS (As := [.ref (a 4), .int y3, .int (T.1 3)]) (rest := [.int r16]) ⟨hx, hb, hml, hown, hts⟩ (c_X8_groupOf l D cI cZ (fun k => a (k + 4)) _ u15 y3 (T.1 3) _ h ) (va_cwS 3 hts (gS q_1240 q_1241 q_75 q_1242) rfl rfl rfl (by decide +kernel) ⟨Nat.le_of_ble_eq_true rfl, Nat.le_of_ble_eq_true rfl⟩) (preS_of hK hP hD [4] rfl rfl (by decide)) rfl rfl hl.1 rfl (lv_room (Nat.le_of_ble_eq_true rfl)) dX8_room_75 ⟨Nat.zero_le _, Nat.zero_le _⟩) hP hD hS hA [4] [.inr 0, .inr 1, .inr 2, .inr 3, .inl 0, .inr 5, .inr 6, .inr 7, .inr 8, .inr 9, .inr 10, .inr 11, .inr 12, .inr 13, .inr 14, .inr 15, .inr 16, .inr 17] rfl (by decide) (fun _ => rfl) (fun _ => rfl) (fun r18 u17 H locs h hP hD hS => ?_)
          refine lv_icmp_eq (tgt := 84) hx hb dX8_room_78 (by decide) (fun c19 => ?_) (fun c19 => ?_)
          · have h := h.1 c19
            refine lv_iload hx hb dX8_room_84 (lv_at hl 6 rfl) ?_
            refine lv_iload_n hx hb dX8_room_86 rfl (lv_at hl 3 rfl) ?_
            refine lv_icmp_ge (tgt := 93) hx hb dX8_room_87 (by decide) (fun c20 => ?_) (fun c20 => ?_)
            · have h := h.1 c20
              refine lv_aload_n hx hb dX8_room_93 rfl (lv_at hl 0 rfl) ?_
              refine lv_aload_n hx hb dX8_room_94 rfl (lv_at hl 0 rfl) ?_
              refine va_get (D := D) (ci := 7) (v := .ref (a 2)) (C := RX8) (T := TX8) (N := 25) hx hb hts inX8 hown hK hP 0 rfl rfl 1 (by decide) (hts _ q_1078) (fun _ h9 => h9) rfl dX8_room_95 ?_
              refine lv_iload hx hb dX8_room_98 (lv_at hl 6 rfl) ?_
              refine ar_il (f := (T.2 1)) (n := 21) (j := (Int32.toNatClampNeg y6)) hx hb hK hP 2 rfl rfl h.1 dX8_room_100 ?_
              have h := h.2
              refine cl_i (ws' := fun u21 => (wX8 cI cZ a u21)) (va_runV (As := [.int ((T.2 1) (Int32.toNatClampNeg y6))]) (rest := []) ⟨hx, hb, hml, hown, hts⟩ (c_X8_walks l D cI cZ a _ (sa (sa T 4 u15) 4 u17) ((T.2 1) (Int32.toNatClampNeg y6)) _ h ) (cwV 1 hts (gV q_1478 q_1480 q_62 q_75 q_1481) rfl rfl rfl (by decide +kernel) ⟨Nat.le_of_ble_eq_true rfl, Nat.le_of_ble_eq_true rfl⟩) (preTV_of (ci := 7) (q := (RX8, TX8, 25)) hF hS hA hK hP hD [0, 1, 2, 3, 4, 5, 6, 7, 8, 9, 10, 11, 12, 13, 14, 15, 16, 17] rfl rfl (by decide) 0 rfl rfl) rfl rfl hl.1 rfl (lv_room (Nat.le_of_ble_eq_true rfl)) dX8_room_101 ⟨Nat.zero_le _, Nat.zero_le _⟩) hP hD hS hA [0, 1, 2, 3, 4, 5, 6, 7, 8, 9, 10, 11, 12, 13, 14, 15, 16, 17] [.inl 0, .inl 1, .inl 2, .inl 3, .inl 4, .inl 5, .inl 6, .inl 7, .inl 8, .inl 9, .inl 10, .inl 11, .inl 12, .inl 13, .inl 14, .inl 15, .inl 16, .inl 17] rfl (by decide) (fun _ => rfl) (fun _ => rfl) (fun r22 u21 H locs h hP hD hS => ?_)
              refine lv_if_ne (tgt := 109) hx hb dX8_room_104 (by decide) (fun c23 => ?_) (fun c23 => ?_)
              · have h := h.1 c23
                refine lv_aload_n hx hb dX8_room_109 rfl (lv_at hl 0 rfl) ?_
                refine va_get (D := D) (ci := 7) (v := .int (u21.1 24)) (C := RX8) (T := TX8) (N := 25) hx hb hts inX8 hown hK hP 0 rfl rfl 24 (by decide) (hts _ q_1101) (fun _ h9 => h9) rfl dX8_room_110 ?_
                refine lv_iload hx hb dX8_room_113 (lv_at hl 5 rfl) ?_
                refine lv_icmp_le (tgt := 124) hx hb dX8_room_115 (by decide) (fun c24 => ?_) (fun c24 => ?_)
                · have h := h.1 c24
                  obtain ⟨x25, ex25⟩ : ∃ y : Int32, y = (y6 + 1) := ⟨_, rfl⟩
                  have h := h x25 ex25
                  refine lv_iinc (v := x25) (lv' := [(6, .int x25), (0, .ref (a 0)), (1, .int y1), (2, .int y2), (3, .int y3), (4, .int y4), (5, .int y5)]) hx hb dX8_room_124 hl (k := 6) rfl (by rw [ex25]; rfl) (by decide) rfl (fun ls hl => ?_)
                  refine lv_goto (tgt := 36) hx hb dX8_room_127 (by decide) ?_
                  exact ih y1 y2 y3 y4 y5 x25 u21 _ _ _ hP hD hS (lv_sub hl [1, 2, 3, 4, 5, 6, 0] rfl) h
                · have h := h.2 c24
                  refine lv_aload_n hx hb dX8_room_118 rfl (lv_at hl 0 rfl) ?_
                  refine va_get (D := D) (ci := 7) (v := .int (u21.1 24)) (C := RX8) (T := TX8) (N := 25) hx hb hts inX8 hown hK hP 0 rfl rfl 24 (by decide) (hts _ q_1101) (fun _ h9 => h9) rfl dX8_room_119 ?_
                  refine lv_topi (fun x26 ex26 => ?_)
                  have h := h x26 ex26
                  refine lv_istore (lv' := [(5, .int x26), (0, .ref (a 0)), (1, .int y1), (2, .int y2), (3, .int y3), (4, .int y4), (6, .int y6)]) hx hb dX8_room_122 hl (by decide) rfl (fun ls hl => ?_)
                  obtain ⟨x27, ex27⟩ : ∃ y : Int32, y = (y6 + 1) := ⟨_, rfl⟩
                  have h := h x27 ex27
                  refine lv_iinc (v := x27) (lv' := [(6, .int x27), (5, .int x26), (0, .ref (a 0)), (1, .int y1), (2, .int y2), (3, .int y3), (4, .int y4)]) hx hb dX8_room_124 hl (k := 6) rfl (by rw [ex27]; rfl) (by decide) rfl (fun ls hl => ?_)
                  refine lv_goto (tgt := 36) hx hb dX8_room_127 (by decide) ?_
                  exact ih y1 y2 y3 y4 x26 x27 u21 _ _ _ hP hD hS (lv_sub hl [2, 3, 4, 5, 6, 1, 0] rfl) h
              · have h := h.2 c23
                refine lv_iconst (v := -1) hx hb dX8_room_107 (by decide) ?_
                exact W.iret (v := (-1)) hx hb hr (fun t ht hW => ⟨⟨(-1), u21, rfl, h, by rw [ht]; exact hP, va_K.moved hW.alike hK, hD⟩, hS.F ht⟩) hS.2.2 dX8_room_108
            · have h := h.2 c20
              refine lv_iconst (v := 0) hx hb dX8_room_90 (by decide) ?_
              refine lv_istore (lv' := [(4, .int 0), (0, .ref (a 0)), (1, .int y1), (2, .int y2), (3, .int y3), (5, .int y5), (6, .int y6)]) hx hb dX8_room_91 hl (by decide) rfl (fun ls hl => ?_)
              refine lv_aload_n hx hb dX8_room_93 rfl (lv_at hl 1 rfl) ?_
              refine lv_aload_n hx hb dX8_room_94 rfl (lv_at hl 1 rfl) ?_
              refine va_get (D := D) (ci := 7) (v := .ref (a 2)) (C := RX8) (T := TX8) (N := 25) hx hb hts inX8 hown hK hP 0 rfl rfl 1 (by decide) (hts _ q_1078) (fun _ h9 => h9) rfl dX8_room_95 ?_
              refine lv_iload hx hb dX8_room_98 (lv_at hl 6 rfl) ?_
              refine ar_il (f := (T.2 1)) (n := 21) (j := (Int32.toNatClampNeg y6)) hx hb hK hP 2 rfl rfl h.1 dX8_room_100 ?_
              have h := h.2
              refine cl_i (ws' := fun u28 => (wX8 cI cZ a u28)) (va_runV (As := [.int ((T.2 1) (Int32.toNatClampNeg y6))]) (rest := []) ⟨hx, hb, hml, hown, hts⟩ (c_X8_walks l D cI cZ a _ (sa (sa T 4 u15) 4 u17) ((T.2 1) (Int32.toNatClampNeg y6)) _ h ) (cwV 1 hts (gV q_1478 q_1480 q_62 q_75 q_1481) rfl rfl rfl (by decide +kernel) ⟨Nat.le_of_ble_eq_true rfl, Nat.le_of_ble_eq_true rfl⟩) (preTV_of (ci := 7) (q := (RX8, TX8, 25)) hF hS hA hK hP hD [0, 1, 2, 3, 4, 5, 6, 7, 8, 9, 10, 11, 12, 13, 14, 15, 16, 17] rfl rfl (by decide) 0 rfl rfl) rfl rfl hl.1 rfl (lv_room (Nat.le_of_ble_eq_true rfl)) dX8_room_101 ⟨Nat.zero_le _, Nat.zero_le _⟩) hP hD hS hA [0, 1, 2, 3, 4, 5, 6, 7, 8, 9, 10, 11, 12, 13, 14, 15, 16, 17] [.inl 0, .inl 1, .inl 2, .inl 3, .inl 4, .inl 5, .inl 6, .inl 7, .inl 8, .inl 9, .inl 10, .inl 11, .inl 12, .inl 13, .inl 14, .inl 15, .inl 16, .inl 17] rfl (by decide) (fun _ => rfl) (fun _ => rfl) (fun r29 u28 H locs h hP hD hS => ?_)
              refine lv_if_ne (tgt := 109) hx hb dX8_room_104 (by decide) (fun c30 => ?_) (fun c30 => ?_)
              · have h := h.1 c30
                refine lv_aload_n hx hb dX8_room_109 rfl (lv_at hl 1 rfl) ?_
                refine va_get (D := D) (ci := 7) (v := .int (u28.1 24)) (C := RX8) (T := TX8) (N := 25) hx hb hts inX8 hown hK hP 0 rfl rfl 24 (by decide) (hts _ q_1101) (fun _ h9 => h9) rfl dX8_room_110 ?_
                refine lv_iload hx hb dX8_room_113 (lv_at hl 5 rfl) ?_
                refine lv_icmp_le (tgt := 124) hx hb dX8_room_115 (by decide) (fun c31 => ?_) (fun c31 => ?_)
                · have h := h.1 c31
                  obtain ⟨x32, ex32⟩ : ∃ y : Int32, y = (y6 + 1) := ⟨_, rfl⟩
                  have h := h x32 ex32
                  refine lv_iinc (v := x32) (lv' := [(6, .int x32), (4, .int 0), (0, .ref (a 0)), (1, .int y1), (2, .int y2), (3, .int y3), (5, .int y5)]) hx hb dX8_room_124 hl (k := 6) rfl (by rw [ex32]; rfl) (by decide) rfl (fun ls hl => ?_)
                  refine lv_goto (tgt := 36) hx hb dX8_room_127 (by decide) ?_
                  exact ih y1 y2 y3 0 y5 x32 u28 _ _ _ hP hD hS (lv_sub hl [2, 3, 4, 5, 1, 6, 0] rfl) h
                · have h := h.2 c31
                  refine lv_aload_n hx hb dX8_room_118 rfl (lv_at hl 1 rfl) ?_
                  refine va_get (D := D) (ci := 7) (v := .int (u28.1 24)) (C := RX8) (T := TX8) (N := 25) hx hb hts inX8 hown hK hP 0 rfl rfl 24 (by decide) (hts _ q_1101) (fun _ h9 => h9) rfl dX8_room_119 ?_
                  refine lv_topi (fun x33 ex33 => ?_)
                  have h := h x33 ex33
                  refine lv_istore (lv' := [(5, .int x33), (4, .int 0), (0, .ref (a 0)), (1, .int y1), (2, .int y2), (3, .int y3), (6, .int y6)]) hx hb dX8_room_122 hl (by decide) rfl (fun ls hl => ?_)
                  obtain ⟨x34, ex34⟩ : ∃ y : Int32, y = (y6 + 1) := ⟨_, rfl⟩
                  have h := h x34 ex34
                  refine lv_iinc (v := x34) (lv' := [(6, .int x34), (5, .int x33), (4, .int 0), (0, .ref (a 0)), (1, .int y1), (2, .int y2), (3, .int y3)]) hx hb dX8_room_124 hl (k := 6) rfl (by rw [ex34]; rfl) (by decide) rfl (fun ls hl => ?_)
                  refine lv_goto (tgt := 36) hx hb dX8_room_127 (by decide) ?_
                  exact ih y1 y2 y3 0 x33 x34 u28 _ _ _ hP hD hS (lv_sub hl [3, 4, 5, 6, 2, 1, 0] rfl) h
              · have h := h.2 c30
                refine lv_iconst (v := -1) hx hb dX8_room_107 (by decide) ?_
                exact W.iret (v := (-1)) hx hb hr (fun t ht hW => ⟨⟨(-1), u28, rfl, h, by rw [ht]; exact hP, va_K.moved hW.alike hK, hD⟩, hS.F ht⟩) hS.2.2 dX8_room_108
          · have h := h.2 c19
            refine lv_goto (tgt := 124) hx hb dX8_room_81 (by decide) ?_
            obtain ⟨x35, ex35⟩ : ∃ y : Int32, y = (y6 + 1) := ⟨_, rfl⟩
            have h := h x35 ex35
            refine lv_iinc (v := x35) (lv' := [(6, .int x35), (0, .ref (a 0)), (1, .int y1), (2, .int y2), (3, .int y3), (4, .int y4), (5, .int y5)]) hx hb dX8_room_124 hl (k := 6) rfl (by rw [ex35]; rfl) (by decide) rfl (fun ls hl => ?_)
            refine lv_goto (tgt := 36) hx hb dX8_room_127 (by decide) ?_
            exact ih y1 y2 y3 y4 y5 x35 (sa (sa T 4 u15) 4 u17) _ _ _ hP hD hS (lv_sub hl [1, 2, 3, 4, 5, 6, 0] rfl) h
  have L9 : ∀ (n : Nat), ∀ (y1 : Int32) (y2 : Int32) (y3 : Int32) (T : Ob) (H : Heap) (locs : List Loc) (ls : Array Slot), va_P D vwCl (wX8 cI cZ a T) H → va_D A (wX8 cI cZ a T) → va_S A s.heap H locs → lv_has ls 7 [(0, .ref (a 0)), (1, .int y1), (2, .int y2), (3, .int y3)] → wp_X8_room_L9 Q n y1 y2 y3 T → W p l e rmX8_room s m ([.ref (a 0), .int p0] : List Value).toArray below meth c H locs 0 0 (MQ below (va_Qi Q (fun u => atW D cI cZ A (wX8 cI cZ a u)) A) ([.ref (a 0), .int p0] : List Value).toArray s 0 0 A) (F0 m 9 ls []) := by
    intro n
    induction n with
    | zero =>
      intro y1 y2 y3 T H locs ls hP hD hS hl h
      exact False.elim h
    | succ n ih =>
      intro y1 y2 y3 T H locs ls hP hD hS hl h
      unfold wp_X8_room_L9 at h
      refine lv_iload_n hx hb dX8_room_9 rfl (lv_at hl 3 rfl) ?_
      refine lv_bipush (v := 21) hx hb dX8_room_10 (by decide) ?_
      refine lv_icmp_ge (tgt := 158) hx hb dX8_room_12 (by decide) (fun c2 => ?_) (fun c2 => ?_)
      · have h := h.1 c2
        refine lv_iload_n hx hb dX8_room_158 rfl (lv_at hl 2 rfl) ?_
        exact W.iret (v := y2) hx hb hr (fun t ht hW => ⟨⟨y2, T, rfl, h, by rw [ht]; exact hP, va_K.moved hW.alike hK, hD⟩, hS.F ht⟩) hS.2.2 dX8_room_159
      · have h := h.2 c2
        refine lv_aload_n hx hb dX8_room_15 rfl (lv_at hl 0 rfl) ?_
        refine va_get (D := D) (ci := 7) (v := .ref (a 3)) (C := RX8) (T := TX8) (N := 25) hx hb hts inX8 hown hK hP 0 rfl rfl 2 (by decide) (hts _ q_1079) (fun _ h9 => h9) rfl dX8_room_16 ?_
        refine lv_iload_n hx hb dX8_room_19 rfl (lv_at hl 3 rfl) ?_
        refine ar_zl (f := (T.2 2)) (n := 21) (j := (Int32.toNatClampNeg y3)) hx hb hK hP 3 rfl rfl h.1 dX8_room_20 ?_
        have h := h.2
        refine lv_if_ne (tgt := 27) hx hb dX8_room_21 (by decide) (fun c3 => ?_) (fun c3 => ?_)
        · have h := h.1 c3
          refine lv_iconst (v := 1) hx hb dX8_room_27 (by decide) ?_
          refine lv_istore (lv' := [(4, .int 1), (0, .ref (a 0)), (1, .int y1), (2, .int y2), (3, .int y3)]) hx hb dX8_room_28 hl (by decide) rfl (fun ls hl => ?_)
          refine lv_iconst (v := 0) hx hb dX8_room_30 (by decide) ?_
          refine lv_istore (lv' := [(5, .int 0), (4, .int 1), (0, .ref (a 0)), (1, .int y1), (2, .int y2), (3, .int y3)]) hx hb dX8_room_31 hl (by decide) rfl (fun ls hl => ?_)
          refine lv_iconst (v := 0) hx hb dX8_room_33 (by decide) ?_
          refine lv_istore (lv' := [(6, .int 0), (5, .int 0), (4, .int 1), (0, .ref (a 0)), (1, .int y1), (2, .int y2), (3, .int y3)]) hx hb dX8_room_34 hl (by decide) rfl (fun ls hl => ?_)
          exact L36 _ ih 2000 y1 y2 y3 1 0 0 T _ _ _ hP hD hS (lv_sub hl [3, 4, 5, 6, 2, 1, 0] rfl) h
        · have h := h.2 c3
          refine lv_goto (tgt := 152) hx hb dX8_room_24 (by decide) ?_
          obtain ⟨x4, ex4⟩ : ∃ y : Int32, y = (y3 + 1) := ⟨_, rfl⟩
          have h := h x4 ex4
          refine lv_iinc (v := x4) (lv' := [(3, .int x4), (0, .ref (a 0)), (1, .int y1), (2, .int y2)]) hx hb dX8_room_152 hl (k := 3) rfl (by rw [ex4]; rfl) (by decide) rfl (fun ls hl => ?_)
          refine lv_goto (tgt := 9) hx hb dX8_room_155 (by decide) ?_
          exact ih y1 y2 x4 T _ _ _ hP hD hS (lv_sub hl [1, 2, 3, 0] rfl) h
  have hl := lv_entry ([.ref (a 0), .int p0]) (n := 7) (Nat.le_of_ble_eq_true rfl)
  rw [lg_entry_eq]
  generalize (lg_sl ([.ref (a 0), .int p0]) ++ List.replicate (7 - (lg_sl ([.ref (a 0), .int p0])).length) Slot.unset).toArray = ls at hl ⊢
  have hl : lv_has ls 7 [(0, .ref (a 0)), (1, .int p0)] := hl
  unfold wp_X8_room at h
  refine lv_aload_n hx hb dX8_room_0 rfl (lv_at hl 0 rfl) ?_
  refine lv_iconst (v := 0) hx hb dX8_room_1 (by decide) ?_
  obtain ⟨T1, eT1⟩ : ∃ z : Ob, z = (si S 17 0) := ⟨_, rfl⟩
  refine pu_f (ci := 7) (v := .int 0) (ty := .int) (C := RX8) (T := TX8) (N := 25) hx hb hts inX8 tyX8 tyX8_ok nmX8 hown hK hP hD hS 0 rfl rfl 17 (by decide) (hts _ q_1094) (fun _ h9 => h9) rfl rfl rfl rfl (Nat.le_of_ble_eq_true rfl) dX8_room_2 (wX8 cI cZ a T1) (by subst eT1; rfl) (fun H locs hP hD hS => ?_)
  have h := h T1 eT1
  refine lv_iconst (v := 0) hx hb dX8_room_5 (by decide) ?_
  refine lv_istore_n (lv' := [(2, .int 0), (0, .ref (a 0)), (1, .int p0)]) hx hb dX8_room_6 rfl hl (by decide) rfl (fun ls hl => ?_)
  refine lv_iconst (v := 0) hx hb dX8_room_7 (by decide) ?_
  refine lv_istore_n (lv' := [(3, .int 0), (2, .int 0), (0, .ref (a 0)), (1, .int p0)]) hx hb dX8_room_8 rfl hl (by decide) rfl (fun ls hl => ?_)
  exact L9 2000 p0 0 0 T1 _ _ _ hP hD hS (lv_sub hl [2, 3, 1, 0] rfl) h
