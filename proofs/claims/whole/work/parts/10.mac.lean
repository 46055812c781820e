/-! X3_restart -/
abbrev rmX3_restart : Room := { frames := 2, cells := 0, slots := 0, locals := 43 }
set_option maxHeartbeats 4000000 in
set_option maxRecDepth 100000 in
theorem c_X3_restart (l : Launch) (D : va_G) (cI cZ : ClassId) (a : Nat → Nat) (sz : Nat) (S : (Nat → Int32) × Ob × Ob × Ob × Ob × (Nat → Int32)) (Q : ((Nat → Int32) × Ob × Ob × Ob × Ob × (Nat → Int32)) → Prop) (h : wp_X3_restart S Q) : Met l yX3_restart (wsm yX3_restart cX3_restart 1 none) rmX3_restart (va_Pc [.ref (a 0)] (preW D cI cZ sz (wX3 cI cZ a S))) (va_Qv Q (fun u => atW D cI cZ (va_A (wX3 cI cZ a S) sz) (wX3 cI cZ a u)) (va_A (wX3 cI cZ a S) sz)) 0 0 (va_A (wX3 cI cZ a S) sz) := by
  refine Met.ofW (cc := cX3_restart) (maxL := 1) (ret := none) (by decide) rfl ?_
  intro p e s m args below meth c s₁ B hml hv
  obtain ⟨rfl, hsz, hP, hK, hD0⟩ := hv
  have hx := B.exec
  have hb := B.bytes
  have hr := B.returns
  have hts0 := atoms_spec (ws := wsm yX3_restart cX3_restart 1 none) B.pre
  have hts : ∀ w ∈ lw_all, w.before _ s = true := fun w h => hts0 w (List.mem_cons_of_mem _ h)
  have hown : s.vm.findClass RX3 = some m.cls := findClass_of_methodNamed B.named
  have hlocks := B.notSynchronized
  subst hsz
  have hD := hD0.self (sz := s.heap.size)
  generalize hAe : va_A (wX3 cI cZ a S) s.heap.size = A at hD ⊢
  have hA : ∀ q : Nat, s.heap.size ≤ q → A q := fun q h => by rw [← hAe]; exact Or.inr h
  have hS : va_S A s.heap s.heap [] := va_S.rf
  have hml2 := hml
  have hl := lv_entry ([.ref (a 0)]) (n := 1) (Nat.le_of_ble_eq_true rfl)
  rw [lg_entry_eq]
  generalize (lg_sl ([.ref (a 0)]) ++ List.replicate (1 - (lg_sl ([.ref (a 0)])).length) Slot.unset).toArray = ls at hl ⊢
  have hl : lv_has ls 1 [(0, .ref (a 0))] := hl
  unfold wp_X3_restart at h
  refine lv_aload_n hx hb dX3_restart_0 rfl (lv_at hl 0 rfl) ?_
  refine va_get (D := D) (ci := 3) (v := .ref (a 1)) (C := RX3) (T := TX3) (N := 12) hx hb hts inX3 hown hK hP 0 rfl rfl 0 (by decide) (hts _ q_348) (fun _ h9 => h9) rfl dX3_restart_1 ?_
  refine cl_v (ws' := fun u1 => (wX3 cI cZ a (S.1, u1, S.2.2.1, S.2.2.2.1, S.2.2.2.2.1, S.2.2.2.2.2))) (va_runV (As := []) (rest := []) ⟨hx, hb, hml, hown, hts⟩ (c_X5_restart l D cI cZ (fun k => a (k + 1)) _ S.2.1 _ h ) (cwV 0 hts (gV q_776 q_777 q_778 q_69 q_779) rfl rfl rfl (by decide +kernel) ⟨Nat.le_of_ble_eq_true rfl, Nat.le_of_ble_eq_true rfl⟩) (preV_of (ci := 4) (q := (RX5, TX5, 16)) hK hP hD [1, 2, 3, 4, 5, 6, 7, 8, 9, 10, 11] rfl rfl (by decide) 1 rfl rfl) rfl rfl hl.1 rfl (lv_room (Nat.le_of_ble_eq_true rfl)) dX3_restart_4 ⟨Nat.zero_le _, Nat.zero_le _⟩) hP hD hS hA [1, 2, 3, 4, 5, 6, 7, 8, 9, 10, 11] [.inr 0, .inl 0, .inl 1, .inl 2, .inl 3, .inl 4, .inl 5, .inl 6, .inl 7, .inl 8, .inl 9, .inl 10, .inr 12, .inr 13, .inr 14, .inr 15, .inr 16, .inr 17, .inr 18, .inr 19, .inr 20, .inr 21, .inr 22, .inr 23] rfl (by decide) (fun _ => rfl) (fun _ => rfl) (fun u1 H locs h hP hD hS => ?_)
  refine lv_aload_n hx hb dX3_restart_7 rfl (lv_at hl 0 rfl) ?_
  refine va_get (D := D) (ci := 3) (v := .ref (a 12)) (C := RX3) (T := TX3) (N := 12) hx hb hts inX3 hown hK hP 0 rfl rfl 1 (by decide) (hts _ q_350) (fun _ h9 => h9) rfl dX3_restart_8 ?_
  refine cl_v (ws' := fun u2 => (wX3 cI cZ a (S.1, u1, u2, S.2.2.2.1, S.2.2.2.2.1, S.2.2.2.2.2))) (va_runV (As := []) (rest := []) ⟨hx, hb, hml, hown, hts⟩ (c_X0_restart l D cI cZ (fun k => a (k + 12)) _ S.2.2.1 _ h ) (cwV 0 hts (gV q_780 q_781 q_782 q_71 q_783) rfl rfl rfl (by decide +kernel) ⟨Nat.le_of_ble_eq_true rfl, Nat.le_of_ble_eq_true rfl⟩) (preV_of (ci := 0) (q := (RX0, TX0, 5)) hK hP hD [12, 13, 14] rfl rfl (by decide) 12 rfl rfl) rfl rfl hl.1 rfl (lv_room (Nat.le_of_ble_eq_true rfl)) dX3_restart_11 ⟨Nat.zero_le _, Nat.zero_le _⟩) hP hD hS hA [12, 13, 14] [.inr 0, .inr 1, .inr 2, .inr 3, .inr 4, .inr 5, .inr 6, .inr 7, .inr 8, .inr 9, .inr 10, .inr 11, .inl 0, .inl 1, .inl 2, .inr 15, .inr 16, .inr 17, .inr 18, .inr 19, .inr 20, .inr 21, .inr 22, .inr 23] rfl (by decide) (fun _ => rfl) (fun _ => rfl) (fun u2 H locs h hP hD hS => ?_)
  refine lv_aload_n hx hb dX3_restart_14 rfl (lv_at hl 0 rfl) ?_
  refine va_get (D := D) (ci := 3) (v := .ref (a 15)) (C := RX3) (T := TX3) (N := 12) hx hb hts inX3 hown hK hP 0 rfl rfl 2 (by decide) (hts _ q_352) (fun _ h9 => h9) rfl dX3_restart_15 ?_
  refine cl_v (ws' := fun u3 => (wX3 cI cZ a (S.1, u1, u2, u3, S.2.2.2.2.1, S.2.2.2.2.2))) (va_runV (As := []) (rest := []) ⟨hx, hb, hml, hown, hts⟩ (c_X2_restart l D cI cZ (fun k => a (k + 15)) _ S.2.2.2.1 _ h ) (cwV 0 hts (gV q_784 q_785 q_786 q_72 q_787) rfl rfl rfl (by decide +kernel) ⟨Nat.le_of_ble_eq_true rfl, Nat.le_of_ble_eq_true rfl⟩) (preV_of (ci := 2) (q := (RX2, TX2, 14)) hK hP hD [15, 16, 17] rfl rfl (by decide) 15 rfl rfl) rfl rfl hl.1 rfl (lv_room (Nat.le_of_ble_eq_true rfl)) dX3_restart_18 ⟨Nat.zero_le _, Nat.zero_le _⟩) hP hD hS hA [15, 16, 17] [.inr 0, .inr 1, .inr 2, .inr 3, .inr 4, .inr 5, .inr 6, .inr 7, .inr 8, .inr 9, .inr 10, .inr 11, .inr 12, .inr 13, .inr 14, .inl 0, .inl 1, .inl 2, .inr 18, .inr 19, .inr 20, .inr 21, .inr 22, .inr 23] rfl (by decide) (fun _ => rfl) (fun _ => rfl) (fun u3 H locs h hP hD hS => ?_)
  refine lv_aload_n hx hb dX3_restart_21 rfl (lv_at hl 0 rfl) ?_
  refine va_get (D := D) (ci := 3) (v := .ref (a 18)) (C := RX3) (T := TX3) (N := 12) hx hb hts inX3 hown hK hP 0 rfl rfl 3 (by decide) (hts _ q_354) (fun _ h9 => h9) rfl dX3_restart_22 ?_
  refine cl_v (ws' := fun u4 => (wX3 cI cZ a (S.1, u1, u2, u3, u4, S.2.2.2.2.2))) (va_runV (As := []) (rest := []) ⟨hx, hb, hml, hown, hts⟩ (c_X1_restart l D cI cZ (fun k => a (k + 18)) _ S.2.2.2.2.1 _ h ) (cwV 0 hts (gV q_788 q_789 q_790 q_73 q_791) rfl rfl rfl (by decide +kernel) ⟨Nat.le_of_ble_eq_true rfl, Nat.le_of_ble_eq_true rfl⟩) (preV_of (ci := 1) (q := (RX1, TX1, 14)) hK hP hD [18, 19, 20, 21, 22] rfl rfl (by decide) 18 rfl rfl) rfl rfl hl.1 rfl (lv_room (Nat.le_of_ble_eq_true rfl)) dX3_restart_25 ⟨Nat.zero_le _, Nat.zero_le _⟩) hP hD hS hA [18, 19, 20, 21, 22] [.inr 0, .inr 1, .inr 2, .inr 3, .inr 4, .inr 5, .inr 6, .inr 7, .inr 8, .inr 9, .inr 10, .inr 11, .inr 12, .inr 13, .inr 14, .inr 15, .inr 16, .inr 17, .inl 0, .inl 1, .inl 2, .inl 3, .inl 4, .inr 23] rfl (by decide) (fun _ => rfl) (fun _ => rfl) (fun u4 H locs h hP hD hS => ?_)
  refine lv_aload_n hx hb dX3_restart_28 rfl (lv_at hl 0 rfl) ?_
  refine lv_iconst (v := 0) hx hb dX3_restart_29 (by decide) ?_
  obtain ⟨T5, eT5⟩ : ∃ z : (Nat → Int32), z = (upd S.1 4 0) := ⟨_, rfl⟩
  refine pu_f (ci := 3) (v := .int 0) (ty := .int) (C := RX3) (T := TX3) (N := 12) hx hb hts inX3 tyX3 tyX3_ok nmX3 hown hK hP hD hS 0 rfl rfl 4 (by decide) (hts _ q_356) (fun _ h9 => h9) rfl rfl rfl rfl (Nat.le_of_ble_eq_true rfl) dX3_restart_30 (wX3 cI cZ a (T5, u1, u2, u3, u4, S.2.2.2.2.2)) (by subst eT5; rfl) (fun H locs hP hD hS => ?_)
  have h := h T5 eT5
  refine lv_aload_n hx hb dX3_restart_33 rfl (lv_at hl 0 rfl) ?_
  refine lv_iconst (v := 0) hx hb dX3_restart_34 (by decide) ?_
  obtain ⟨T6, eT6⟩ : ∃ z : (Nat → Int32), z = (upd T5 5 0) := ⟨_, rfl⟩
  refine pu_f (ci := 3) (v := .int 0) (ty := .int) (C := RX3) (T := TX3) (N := 12) hx hb hts inX3 tyX3 tyX3_ok nmX3 hown hK hP hD hS 0 rfl rfl 5 (by decide) (hts _ q_358) (fun _ h9 => h9) rfl rfl rfl rfl (Nat.le_of_ble_eq_true rfl) dX3_restart_35 (wX3 cI cZ a (T6, u1, u2, u3, u4, S.2.2.2.2.2)) (by subst eT6; rfl) (fun H locs hP hD hS => ?_)
  have h := h T6 eT6
  refine lv_aload_n hx hb dX3_restart_38 rfl (lv_at hl 0 rfl) ?_
  refine lv_iconst (v := 0) hx hb dX3_restart_39 (by decide) ?_
  obtain ⟨T7, eT7⟩ : ∃ z : (Nat → Int32), z = (upd T6 6 0) := ⟨_, rfl⟩
  refine pu_f (ci := 3) (v := .int 0) (ty := .int) (C := RX3) (T := TX3) (N := 12) hx hb hts inX3 tyX3 tyX3_ok nmX3 hown hK hP hD hS 0 rfl rfl 6 (by decide) (hts _ q_360) (fun _ h9 => h9) rfl rfl rfl rfl (Nat.le_of_ble_eq_true rfl) dX3_restart_40 (wX3 cI cZ a (T7, u1, u2, u3, u4, S.2.2.2.2.2)) (by subst eT7; rfl) (fun H locs hP hD hS => ?_)
  have h := h T7 eT7
  exact W.vret hx hb hr (fun t ht hW => ⟨⟨(T7, u1, u2, u3, u4, S.2.2.2.2.2), rfl, h, by rw [ht]; exact hP, va_K.moved hW.alike hK, hD⟩, hS.F ht⟩) hS.2.2 dX3_restart_43
/-! X3_copyFrom -/
abbrev rmX3_copyFrom : Room := { frames := 2, cells := 0, slots := 0, locals := 81 }
set_option maxHeartbeats 4000000 in
set_option maxRecDepth 100000 in
theorem c_X3_copyFrom (l : Launch) (D : va_G) (cI cZ : ClassId) (a : Nat → Nat) (b : Nat → Nat) (sz : Nat) (S : (Nat → Int32) × Ob × Ob × Ob × Ob × (Nat → Int32) × Ob × Ob × Ob × Ob) (p0 : Int32) (Q : ((Nat → Int32) × Ob × Ob × Ob × Ob × (Nat → Int32) × Ob × Ob × Ob × Ob) → Prop) (h : wp_X3_copyFrom S p0 Q) : Met l yX3_copyFrom (wsm yX3_copyFrom cX3_copyFrom 3 none) rmX3_copyFrom (va_Pc [.ref (a 0), .ref (b 0), .int p0] (preW D cI cZ sz (wX3X3 cI cZ a b S))) (va_Qv Q (fun u => atW D cI cZ (va_A (wX3X3 cI cZ a b S) sz) (wX3X3 cI cZ a b u)) (va_A (wX3X3 cI cZ a b S) sz)) 0 0 (va_A (wX3X3 cI cZ a b S) sz) := by
  refine Met.ofW (cc := cX3_copyFrom) (maxL := 3) (ret := none) (by decide) rfl ?_
  intro p e s m args below meth c s₁ B hml hv
  obtain ⟨rfl, hsz, hP, hK, hD0⟩ := hv
  have hx := B.exec
  have hb := B.bytes
  have hr := B.returns
  have hts0 := atoms_spec (ws := wsm yX3_copyFrom cX3_copyFrom 3 none) B.pre
  have hts : ∀ w ∈ lw_all, w.before _ s = true := fun w h => hts0 w (List.mem_cons_of_mem _ h)
  have hown : s.vm.findClass RX3 = some m.cls := findClass_of_methodNamed B.named
  have hlocks := B.notSynchronized
  subst hsz
  have hD := hD0.self (sz := s.heap.size)
  generalize hAe : va_A (wX3X3 cI cZ a b S) s.heap.size = A at hD ⊢
  have hA : ∀ q : Nat, s.heap.size ≤ q → A q := fun q h => by rw [← hAe]; exact Or.inr h
  have hS : va_S A s.heap s.heap [] := va_S.rf
  have hml2 := hml
  have hl := lv_entry ([.ref (a 0), .ref (b 0), .int p0]) (n := 3) (Nat.le_of_ble_eq_true rfl)
  rw [lg_entry_eq]
  generalize (lg_sl ([.ref (a 0), .ref (b 0), .int p0]) ++ List.replicate (3 - (lg_sl ([.ref (a 0), .ref (b 0), .int p0])).length) Slot.unset).toArray = ls at hl ⊢
  have hl : lv_has ls 3 [(0, .ref (a 0)), (1, .ref (b 0)), (2, .int p0)] := hl
  unfold wp_X3_copyFrom at h
  refine lv_aload_n hx hb dX3_copyFrom_0 rfl (lv_at hl 0 rfl) ?_
  refine va_get (D := D) (ci := 3) (v := .ref (a 1)) (C := RX3) (T := TX3) (N := 12) hx hb hts inX3 hown hK hP 0 rfl rfl 0 (by decide) (hts _ q_348) (fun _ h9 => h9) rfl dX3_copyFrom_1 ?_
  refine lv_aload_n hx hb dX3_copyFrom_4 rfl (lv_at hl 1 rfl) ?_
  refine va_get (D := D) (ci := 3) (v := .ref (b 1)) (C := RX3) (T := TX3) (N := 12) hx hb hts inX3 hown hK hP 23 rfl rfl 0 (by decide) (hts _ q_348) (fun _ h9 => h9) rfl dX3_copyFrom_5 ?_
  refine cl_v (ws' := fun u1 => (wX3X3 cI cZ a b (S.1, u1.1, S.2.2.1, S.2.2.2.1, S.2.2.2.2.1, S.2.2.2.2.2.1, u1.2, S.2.2.2.2.2.2.2.1, S.2.2.2.2.2.2.2.2.1, S.2.2.2.2.2.2.2.2.2))) (va_runV (As := [.ref (b 1)]) (rest := []) ⟨hx, hb, hml, hown, hts⟩ (c_X5_copyFrom l D cI cZ (fun k => a (k + 1)) (fun k => b (k + 1)) _ (S.2.1, S.2.2.2.2.2.2.1) _ h ) (cwV 1 hts (gV q_849 q_850 q_851 q_69 q_852) rfl rfl rfl (by decide +kernel) ⟨Nat.le_of_ble_eq_true rfl, Nat.le_of_ble_eq_true rfl⟩) (preV_of (ci := 4) (q := (RX5, TX5, 16)) hK hP hD [1, 2, 3, 4, 5, 6, 7, 8, 9, 10, 11, 24, 25, 26, 27, 28, 29, 30, 31, 32, 33, 34] rfl rfl (by decide) 1 rfl rfl) rfl rfl hl.1 rfl (lv_room (Nat.le_of_ble_eq_true rfl)) dX3_copyFrom_8 ⟨Nat.zero_le _, Nat.zero_le _⟩) hP hD hS hA [1, 2, 3, 4, 5, 6, 7, 8, 9, 10, 11, 24, 25, 26, 27, 28, 29, 30, 31, 32, 33, 34] [.inr 0, .inl 0, .inl 1, .inl 2, .inl 3, .inl 4, .inl 5, .inl 6, .inl 7, .inl 8, .inl 9, .inl 10, .inr 12, .inr 13, .inr 14, .inr 15, .inr 16, .inr 17, .inr 18, .inr 19, .inr 20, .inr 21, .inr 22, .inr 23, .inl 11, .inl 12, .inl 13, .inl 14, .inl 15, .inl 16, .inl 17, .inl 18, .inl 19, .inl 20, .inl 21, .inr 35, .inr 36, .inr 37, .inr 38, .inr 39, .inr 40, .inr 41, .inr 42, .inr 43, .inr 44, .inr 45] rfl (by decide) (fun _ => rfl) (fun _ => rfl) (fun u1 H locs h hP hD hS => ?_)
  refine lv_aload_n hx hb dX3_copyFrom_11 rfl (lv_at hl 0 rfl) ?_
  refine va_get (D := D) (ci := 3) (v := .ref (a 12)) (C := RX3) (T := TX3) (N := 12) hx hb hts inX3 hown hK hP 0 rfl rfl 1 (by decide) (hts _ q_350) (fun _ h9 => h9) rfl dX3_copyFrom_12 ?_
  refine lv_aload_n hx hb dX3_copyFrom_15 rfl (lv_at hl 1 rfl) ?_
  refine va_get (D := D) (ci := 3) (v := .ref (b 12)) (C := RX3) (T := TX3) (N := 12) hx hb hts inX3 hown hK hP 23 rfl rfl 1 (by decide) (hts _ q_350) (fun _ h9 => h9) rfl dX3_copyFrom_16 ?_
  refine cl_v (ws' := fun u2 => (wX3X3 cI cZ a b (S.1, u1.1, u2.1, S.2.2.2.1, S.2.2.2.2.1, S.2.2.2.2.2.1, u1.2, u2.2, S.2.2.2.2.2.2.2.2.1, S.2.2.2.2.2.2.2.2.2))) (va_runV (As := [.ref (b 12)]) (rest := []) ⟨hx, hb, hml, hown, hts⟩ (c_X0_copyFrom l D cI cZ (fun k => a (k + 12)) (fun k => b (k + 12)) _ (S.2.2.1, S.2.2.2.2.2.2.2.1) _ h ) (cwV 1 hts (gV q_853 q_854 q_855 q_71 q_856) rfl rfl rfl (by decide +kernel) ⟨Nat.le_of_ble_eq_true rfl, Nat.le_of_ble_eq_true rfl⟩) (preV_of (ci := 0) (q := (RX0, TX0, 5)) hK hP hD [12, 13, 14, 35, 36, 37] rfl rfl (by decide) 12 rfl rfl) rfl rfl hl.1 rfl (lv_room (Nat.le_of_ble_eq_true rfl)) dX3_copyFrom_19 ⟨Nat.zero_le _, Nat.zero_le _⟩) hP hD hS hA [12, 13, 14, 35, 36, 37] [.inr 0, .inr 1, .inr 2, .inr 3, .inr 4, .inr 5, .inr 6, .inr 7, .inr 8, .inr 9, .inr 10, .inr 11, .inl 0, .inl 1, .inl 2, .inr 15, .inr 16, .inr 17, .inr 18, .inr 19, .inr 20, .inr 21, .inr 22, .inr 23, .inr 24, .inr 25, .inr 26, .inr 27, .inr 28, .inr 29, .inr 30, .inr 31, .inr 32, .inr 33, .inr 34, .inl 3, .inl 4, .inl 5, .inr 38, .inr 39, .inr 40, .inr 41, .inr 42, .inr 43, .inr 44, .inr 45] rfl (by decide) (fun _ => rfl) (fun _ => rfl) (fun u2 H locs h hP hD hS => ?_)
  refine lv_aload_n hx hb dX3_copyFrom_22 rfl (lv_at hl 0 rfl) ?_
  refine va_get (D := D) (ci := 3) (v := .ref (a 18)) (C := RX3) (T := TX3) (N := 12) hx hb hts inX3 hown hK hP 0 rfl rfl 3 (by decide) (hts _ q_354) (fun _ h9 => h9) rfl dX3_copyFrom_23 ?_
  refine lv_aload_n hx hb dX3_copyFrom_26 rfl (lv_at hl 1 rfl) ?_
  refine va_get (D := D) (ci := 3) (v := .ref (b 18)) (C := RX3) (T := TX3) (N := 12) hx hb hts inX3 hown hK hP 23 rfl rfl 3 (by decide) (hts _ q_354) (fun _ h9 => h9) rfl dX3_copyFrom_27 ?_
  refine cl_v (ws' := fun u3 => (wX3X3 cI cZ a b (S.1, u1.1, u2.1, S.2.2.2.1, u3.1, S.2.2.2.2.2.1, u1.2, u2.2, S.2.2.2.2.2.2.2.2.1, u3.2))) (va_runV (As := [.ref (b 18)]) (rest := []) ⟨hx, hb, hml, hown, hts⟩ (c_X1_copyFrom l D cI cZ (fun k => a (k + 18)) (fun k => b (k + 18)) _ (S.2.2.2.2.1, S.2.2.2.2.2.2.2.2.2) _ h ) (cwV 1 hts (gV q_858 q_859 q_860 q_73 q_861) rfl rfl rfl (by decide +kernel) ⟨Nat.le_of_ble_eq_true rfl, Nat.le_of_ble_eq_true rfl⟩) (preV_of (ci := 1) (q := (RX1, TX1, 14)) hK hP hD [18, 19, 20, 21, 22, 41, 42, 43, 44, 45] rfl rfl (by decide) 18 rfl rfl) rfl rfl hl.1 rfl (lv_room (Nat.le_of_ble_eq_true rfl)) dX3_copyFrom_30 ⟨Nat.zero_le _, Nat.zero_le _⟩) hP hD hS hA [18, 19, 20, 21, 22, 41, 42, 43, 44, 45] [.inr 0, .inr 1, .inr 2, .inr 3, .inr 4, .inr 5, .inr 6, .inr 7, .inr 8, .inr 9, .inr 10, .inr 11, .inr 12, .inr 13, .inr 14, .inr 15, .inr 16, .inr 17, .inl 0, .inl 1, .inl 2, .inl 3, .inl 4, .inr 23, .inr 24, .inr 25, .inr 26, .inr 27, .inr 28, .inr 29, .inr 30, .inr 31, .inr 32, .inr 33, .inr 34, .inr 35, .inr 36, .inr 37, .inr 38, .inr 39, .inr 40, .inl 5, .inl 6, .inl 7, .inl 8, .inl 9] rfl (by decide) (fun _ => rfl) (fun _ => rfl) (fun u3 H locs h hP hD hS => ?_)
  refine lv_aload_n hx hb dX3_copyFrom_33 rfl (lv_at hl 0 rfl) ?_
  refine lv_aload_n hx hb dX3_copyFrom_34 rfl (lv_at hl 1 rfl) ?_
  refine va_get (D := D) (ci := 3) (v := .int (S.2.2.2.2.2.1 4)) (C := RX3) (T := TX3) (N := 12) hx hb hts inX3 hown hK hP 23 rfl rfl 4 (by decide) (hts _ q_356) (fun _ h9 => h9) rfl dX3_copyFrom_35 ?_
  obtain ⟨T4, eT4⟩ : ∃ z : (Nat → Int32), z = (upd S.1 4 (S.2.2.2.2.2.1 4)) := ⟨_, rfl⟩
  refine pu_f (ci := 3) (v := .int (S.2.2.2.2.2.1 4)) (ty := .int) (C := RX3) (T := TX3) (N := 12) hx hb hts inX3 tyX3 tyX3_ok nmX3 hown hK hP hD hS 0 rfl rfl 4 (by decide) (hts _ q_356) (fun _ h9 => h9) rfl rfl rfl rfl (Nat.le_of_ble_eq_true rfl) dX3_copyFrom_38 (wX3X3 cI cZ a b (T4, u1.1, u2.1, S.2.2.2.1, u3.1, S.2.2.2.2.2.1, u1.2, u2.2, S.2.2.2.2.2.2.2.2.1, u3.2)) (by subst eT4; rfl) (fun H locs hP hD hS => ?_)
  have h := h T4 eT4
  refine lv_aload_n hx hb dX3_copyFrom_41 rfl (lv_at hl 0 rfl) ?_
  refine lv_aload_n hx hb dX3_copyFrom_42 rfl (lv_at hl 1 rfl) ?_
  refine va_get (D := D) (ci := 3) (v := .int (S.2.2.2.2.2.1 5)) (C := RX3) (T := TX3) (N := 12) hx hb hts inX3 hown hK hP 23 rfl rfl 5 (by decide) (hts _ q_358) (fun _ h9 => h9) rfl dX3_copyFrom_43 ?_
  obtain ⟨T5, eT5⟩ : ∃ z : (Nat → Int32), z = (upd T4 5 (S.2.2.2.2.2.1 5)) := ⟨_, rfl⟩
  refine pu_f (ci := 3) (v := .int (S.2.2.2.2.2.1 5)) (ty := .int) (C := RX3) (T := TX3) (N := 12) hx hb hts inX3 tyX3 tyX3_ok nmX3 hown hK hP hD hS 0 rfl rfl 5 (by decide) (hts _ q_358) (fun _ h9 => h9) rfl rfl rfl rfl (Nat.le_of_ble_eq_true rfl) dX3_copyFrom_46 (wX3X3 cI cZ a b (T5, u1.1, u2.1, S.2.2.2.1, u3.1, S.2.2.2.2.2.1, u1.2, u2.2, S.2.2.2.2.2.2.2.2.1, u3.2)) (by subst eT5; rfl) (fun H locs hP hD hS => ?_)
  have h := h T5 eT5
  refine lv_aload_n hx hb dX3_copyFrom_49 rfl (lv_at hl 0 rfl) ?_
  refine lv_aload_n hx hb dX3_copyFrom_50 rfl (lv_at hl 1 rfl) ?_
  refine va_get (D := D) (ci := 3) (v := .int (S.2.2.2.2.2.1 6)) (C := RX3) (T := TX3) (N := 12) hx hb hts inX3 hown hK hP 23 rfl rfl 6 (by decide) (hts _ q_360) (fun _ h9 => h9) rfl dX3_copyFrom_51 ?_
  obtain ⟨T6, eT6⟩ : ∃ z : (Nat → Int32), z = (upd T5 6 (S.2.2.2.2.2.1 6)) := ⟨_, rfl⟩
  refine pu_f (ci := 3) (v := .int (S.2.2.2.2.2.1 6)) (ty := .int) (C := RX3) (T := TX3) (N := 12) hx hb hts inX3 tyX3 tyX3_ok nmX3 hown hK hP hD hS 0 rfl rfl 6 (by decide) (hts _ q_360) (fun _ h9 => h9) rfl rfl rfl rfl (Nat.le_of_ble_eq_true rfl) dX3_copyFrom_54 (wX3X3 cI cZ a b (T6, u1.1, u2.1, S.2.2.2.1, u3.1, S.2.2.2.2.2.1, u1.2, u2.2, S.2.2.2.2.2.2.2.2.1, u3.2)) (by subst eT6; rfl) (fun H locs hP hD hS => ?_)
  have h := h T6 eT6
  refine lv_aload_n hx hb dX3_copyFrom_57 rfl (lv_at hl 0 rfl) ?_
  refine lv_aload_n hx hb dX3_copyFrom_58 rfl (lv_at hl 1 rfl) ?_
  refine va_get (D := D) (ci := 3) (v := .int (S.2.2.2.2.2.1 8)) (C := RX3) (T := TX3) (N := 12) hx hb hts inX3 hown hK hP 23 rfl rfl 8 (by decide) (hts _ q_364) (fun _ h9 => h9) rfl dX3_copyFrom_59 ?_
  obtain ⟨T7, eT7⟩ : ∃ z : (Nat → Int32), z = (upd T6 8 (S.2.2.2.2.2.1 8)) := ⟨_, rfl⟩
  refine pu_f (ci := 3) (v := .int (S.2.2.2.2.2.1 8)) (ty := .int) (C := RX3) (T := TX3) (N := 12) hx hb hts inX3 tyX3 tyX3_ok nmX3 hown hK hP hD hS 0 rfl rfl 8 (by decide) (hts _ q_364) (fun _ h9 => h9) rfl rfl rfl rfl (Nat.le_of_ble_eq_true rfl) dX3_copyFrom_62 (wX3X3 cI cZ a b (T7, u1.1, u2.1, S.2.2.2.1, u3.1, S.2.2.2.2.2.1, u1.2, u2.2, S.2.2.2.2.2.2.2.2.1, u3.2)) (by subst eT7; rfl) (fun H locs hP hD hS => ?_)
  have h := h T7 eT7
  refine lv_aload_n hx hb dX3_copyFrom_65 rfl (lv_at hl 0 rfl) ?_
  refine lv_aload_n hx hb dX3_copyFrom_66 rfl (lv_at hl 1 rfl) ?_
  refine va_get (D := D) (ci := 3) (v := .int (S.2.2.2.2.2.1 9)) (C := RX3) (T := TX3) (N := 12) hx hb hts inX3 hown hK hP 23 rfl rfl 9 (by decide) (hts _ q_365) (fun _ h9 => h9) rfl dX3_copyFrom_67 ?_
  obtain ⟨T8, eT8⟩ : ∃ z : (Nat → Int32), z = (upd T7 9 (S.2.2.2.2.2.1 9)) := ⟨_, rfl⟩
  refine pu_f (ci := 3) (v := .int (S.2.2.2.2.2.1 9)) (ty := .boolean) (C := RX3) (T := TX3) (N := 12) hx hb hts inX3 tyX3 tyX3_ok nmX3 hown hK hP hD hS 0 rfl rfl 9 (by decide) (hts _ q_365) (fun _ h9 => h9) rfl rfl (narB h.1) (fitB h.1) (Nat.le_of_ble_eq_true rfl) dX3_copyFrom_70 (wX3X3 cI cZ a b (T8, u1.1, u2.1, S.2.2.2.1, u3.1, S.2.2.2.2.2.1, u1.2, u2.2, S.2.2.2.2.2.2.2.2.1, u3.2)) (by subst eT8; rfl) (fun H locs hP hD hS => ?_)
  have h := h.2
  have h := h T8 eT8
  refine lv_aload_n hx hb dX3_copyFrom_73 rfl (lv_at hl 0 rfl) ?_
  refine lv_aload_n hx hb dX3_copyFrom_74 rfl (lv_at hl 1 rfl) ?_
  refine va_get (D := D) (ci := 3) (v := .int (S.2.2.2.2.2.1 10)) (C := RX3) (T := TX3) (N := 12) hx hb hts inX3 hown hK hP 23 rfl rfl 10 (by decide) (hts _ q_366) (fun _ h9 => h9) rfl dX3_copyFrom_75 ?_
  obtain ⟨T9, eT9⟩ : ∃ z : (Nat → Int32), z = (upd T8 10 (S.2.2.2.2.2.1 10)) := ⟨_, rfl⟩
  refine pu_f (ci := 3) (v := .int (S.2.2.2.2.2.1 10)) (ty := .boolean) (C := RX3) (T := TX3) (N := 12) hx hb hts inX3 tyX3 tyX3_ok nmX3 hown hK hP hD hS 0 rfl rfl 10 (by decide) (hts _ q_366) (fun _ h9 => h9) rfl rfl (narB h.1) (fitB h.1) (Nat.le_of_ble_eq_true rfl) dX3_copyFrom_78 (wX3X3 cI cZ a b (T9, u1.1, u2.1, S.2.2.2.1, u3.1, S.2.2.2.2.2.1, u1.2, u2.2, S.2.2.2.2.2.2.2.2.1, u3.2)) (by subst eT9; rfl) (fun H locs hP hD hS => ?_)
  have h := h.2
  have h := h T9 eT9
  refine lv_aload_n hx hb dX3_copyFrom_81 rfl (lv_at hl 0 rfl) ?_
  refine lv_iload_n hx hb dX3_copyFrom_82 rfl (lv_at hl 2 rfl) ?_
  obtain ⟨T10, eT10⟩ : ∃ z : (Nat → Int32), z = (upd T9 11 p0) := ⟨_, rfl⟩
  refine pu_f (ci := 3) (v := .int p0) (ty := .boolean) (C := RX3) (T := TX3) (N := 12) hx hb hts inX3 tyX3 tyX3_ok nmX3 hown hK hP hD hS 0 rfl rfl 11 (by decide) (hts _ q_367) (fun _ h9 => h9) rfl rfl (narB h.1) (fitB h.1) (Nat.le_of_ble_eq_true rfl) dX3_copyFrom_83 (wX3X3 cI cZ a b (T10, u1.1, u2.1, S.2.2.2.1, u3.1, S.2.2.2.2.2.1, u1.2, u2.2, S.2.2.2.2.2.2.2.2.1, u3.2)) (by subst eT10; rfl) (fun H locs hP hD hS => ?_)
  have h := h.2
  have h := h T10 eT10
  exact W.vret hx hb hr (fun t ht hW => ⟨⟨(T10, u1.1, u2.1, S.2.2.2.1, u3.1, S.2.2.2.2.2.1, u1.2, u2.2, S.2.2.2.2.2.2.2.2.1, u3.2), rfl, h, by rw [ht]; exact hP, va_K.moved hW.alike hK, hD⟩, hS.F ht⟩) hS.2.2 dX3_copyFrom_86
/-! X3_isQuiet -/
abbrev rmX3_isQuiet : Room := { frames := 3, cells := 0, slots := 0, locals := 69 }
set_option maxHeartbeats 4000000 in
set_option maxRecDepth 100000 in
theorem c_X3_isQuiet (l : Launch) (D : va_G) (cI cZ : ClassId) (a : Nat → Nat) (sz : Nat) (S : (Nat → Int32) × Ob × Ob × Ob × Ob × (Nat → Int32)) (Q : Int32 → ((Nat → Int32) × Ob × Ob × Ob × Ob × (Nat → Int32)) → Prop) (h : wp_X3_isQuiet S Q) : Met l yX3_isQuiet (wsm yX3_isQuiet cX3_isQuiet 1 (some .boolean)) rmX3_isQuiet (va_Pc [.ref (a 0)] (preW D cI cZ sz (wX3 cI cZ a S))) (va_Qi Q (fun u => atW D cI cZ (va_A (wX3 cI cZ a S) sz) (wX3 cI cZ a u)) (va_A (wX3 cI cZ a S) sz)) 0 0 (va_A (wX3 cI cZ a S) sz) := by
  refine Met.ofW (cc := cX3_isQuiet) (maxL := 1) (ret := (some .boolean)) (by decide) rfl ?_
  intro p e s m args below meth c s₁ B hml hv
  obtain ⟨rfl, hsz, hP, hK, hD0⟩ := hv
  have hx := B.exec
  have hb := B.bytes
  have hr := B.returns
  have hts0 := atoms_spec (ws := wsm yX3_isQuiet cX3_isQuiet 1 (some .boolean)) B.pre
  have hts : ∀ w ∈ lw_all, w.before _ s = true := fun w h => hts0 w (List.mem_cons_of_mem _ h)
  have hown : s.vm.findClass RX3 = some m.cls := findClass_of_methodNamed B.named
  have hlocks := B.notSynchronized
  subst hsz
  have hD := hD0.self (sz := s.heap.size)
  generalize hAe : va_A (wX3 cI cZ a S) s.heap.size = A at hD ⊢
  have hA : ∀ q : Nat, s.heap.size ≤ q → A q := fun q h => by rw [← hAe]; exact Or.inr h
  have hS : va_S A s.heap s.heap [] := va_S.rf
  have hml2 := hml
  have hl := lv_entry ([.ref (a 0)]) (n := 1) (Nat.le_of_ble_eq_true rfl)
  rw [lg_entry_eq]
  generalize (lg_sl ([.ref (a 0)]) ++ List.replicate (1 - (lg_sl ([.ref (a 0)])).length) Slot.unset).toArray = ls at hl ⊢
  have hl : lv_has ls 1 [(0, .ref (a 0))] := hl
  unfold wp_X3_isQuiet at h
  refine lv_aload_n hx hb dX3_isQuiet_0 rfl (lv_at hl 0 rfl) ?_
  refine va_get (D := D) (ci := 3) (v := .int (S.1 5)) (C := RX3) (T := TX3) (N := 12) hx hb hts inX3 hown hK hP 0 rfl rfl 5 (by decide) (hts _ q_358) (fun _ h9 => h9) rfl dX3_isQuiet_1 ?_
  refine lv_if_ne (tgt := 32) hx hb dX3_isQuiet_4 (by decide) (fun c1 => ?_) (fun c1 => ?_)
  · have h := h.1 c1
    refine lv_iconst (v := 0) hx hb dX3_isQuiet_32 (by decide) ?_
    exact W.zret (ty := .boolean) (v := 0) hx hb hr (narB isB0) (fun t ht hW => ⟨⟨0, S, rfl, h, by rw [ht]; exact hP, va_K.moved hW.alike hK, hD⟩, hS.F ht⟩) hS.2.2 dX3_isQuiet_33
  · have h := h.2 c1
    refine lv_aload_n hx hb dX3_isQuiet_7 rfl (lv_at hl 0 rfl) ?_
    refine va_get (D := D) (ci := 3) (v := .ref (a 1)) (C := RX3) (T := TX3) (N := 12) hx hb hts inX3 hown hK hP 0 rfl rfl 0 (by decide) (hts _ q_348) (fun _ h9 => h9) rfl dX3_isQuiet_8 ?_
    refine va_get (D := D) (ci := 4) (v := .int (S.2.1.1 10)) (C := RX5) (T := TX5) (N := 16) hx hb hts inX5 hown hK hP 1 rfl rfl 10 (by decide) (hts _ q_132) (fun _ h9 => h9) rfl dX3_isQuiet_11 ?_
    refine lv_if_ne (tgt := 32) hx hb dX3_isQuiet_14 (by decide) (fun c2 => ?_) (fun c2 => ?_)
    · have h := h.1 c2
      refine lv_iconst (v := 0) hx hb dX3_isQuiet_32 (by decide) ?_
      exact W.zret (ty := .boolean) (v := 0) hx hb hr (narB isB0) (fun t ht hW => ⟨⟨0, S, rfl, h, by rw [ht]; exact hP, va_K.moved hW.alike hK, hD⟩, hS.F ht⟩) hS.2.2 dX3_isQuiet_33
    · have h := h.2 c2
      refine lv_aload_n hx hb dX3_isQuiet_17 rfl (lv_at hl 0 rfl) ?_
      refine va_get (D := D) (ci := 3) (v := .ref (a 1)) (C := RX3) (T := TX3) (N := 12) hx hb hts inX3 hown hK hP 0 rfl rfl 0 (by decide) (hts _ q_348) (fun _ h9 => h9) rfl dX3_isQuiet_18 ?_
      refine cl_i (ws' := fun u3 => (wX3 cI cZ a (S.1, u3, S.2.2.1, S.2.2.2.1, S.2.2.2.2.1, S.2.2.2.2.2))) (va_runV (As := []) (rest := []) ⟨hx, hb, hml, hown, hts⟩ (c_X5_next l D cI cZ (fun k => a (k + 1)) _ S.2.1 _ h ) (cwV 0 hts (gV q_523 q_524 q_525 q_69 q_526) rfl rfl rfl (by decide +kernel) ⟨Nat.le_of_ble_eq_true rfl, Nat.le_of_ble_eq_true rfl⟩) (preV_of (ci := 4) (q := (RX5, TX5, 16)) hK hP hD [1, 2, 3, 4, 5, 6, 7, 8, 9, 10, 11] rfl rfl (by decide) 1 rfl rfl) rfl rfl hl.1 rfl (lv_room (Nat.le_of_ble_eq_true rfl)) dX3_isQuiet_21 ⟨Nat.zero_le _, Nat.zero_le _⟩) hP hD hS hA [1, 2, 3, 4, 5, 6, 7, 8, 9, 10, 11] [.inr 0, .inl 0, .inl 1, .inl 2, .inl 3, .inl 4, .inl 5, .inl 6, .inl 7, .inl 8, .inl 9, .inl 10, .inr 12, .inr 13, .inr 14, .inr 15, .inr 16, .inr 17, .inr 18, .inr 19, .inr 20, .inr 21, .inr 22, .inr 23] rfl (by decide) (fun _ => rfl) (fun _ => rfl) (fun r4 u3 H locs h hP hD hS => ?_)
      refine lv_iconst (v := -1) hx hb dX3_isQuiet_24 (by decide) ?_
      refine lv_icmp_ne (tgt := 32) hx hb dX3_isQuiet_25 (by decide) (fun c5 => ?_) (fun c5 => ?_)
      · have h := h.1 c5
        refine lv_iconst (v := 0) hx hb dX3_isQuiet_32 (by decide) ?_
        exact W.zret (ty := .boolean) (v := 0) hx hb hr (narB isB0) (fun t ht hW => ⟨⟨0, (S.1, u3, S.2.2.1, S.2.2.2.1, S.2.2.2.2.1, S.2.2.2.2.2), rfl, h, by rw [ht]; exact hP, va_K.moved hW.alike hK, hD⟩, hS.F ht⟩) hS.2.2 dX3_isQuiet_33
      · have h := h.2 c5
        refine lv_iconst (v := 1) hx hb dX3_isQuiet_28 (by decide) ?_
        refine lv_goto (tgt := 33) hx hb dX3_isQuiet_29 (by decide) ?_
        exact W.zret (ty := .boolean) (v := 1) hx hb hr (narB isB1) (fun t ht hW => ⟨⟨1, (S.1, u3, S.2.2.1, S.2.2.2.1, S.2.2.2.2.1, S.2.2.2.2.2), rfl, h, by rw [ht]; exact hP, va_K.moved hW.alike hK, hD⟩, hS.F ht⟩) hS.2.2 dX3_isQuiet_33
/-! X3_enter -/
abbrev rmX3_enter : Room := { frames := 0, cells := 0, slots := 0, locals := 0 }
set_option maxHeartbeats 4000000 in
set_option maxRecDepth 100000 in
theorem c_X3_enter (l : Launch) (D : va_G) (cI cZ : ClassId) (a : Nat → Nat) (sz : Nat) (S : (Nat → Int32) × Ob × Ob × Ob × Ob × (Nat → Int32)) (p0 : Int32) (Q : ((Nat → Int32) × Ob × Ob × Ob × Ob × (Nat → Int32)) → Prop) (h : wp_X3_enter S p0 Q) : Met l yX3_enter (wsm yX3_enter cX3_enter 2 none) rmX3_enter (va_Pc [.ref (a 0), .int p0] (preW D cI cZ sz (wX3 cI cZ a S))) (va_Qv Q (fun u => atW D cI cZ (va_A (wX3 cI cZ a S) sz) (wX3 cI cZ a u)) (va_A (wX3 cI cZ a S) sz)) 0 0 (va_A (wX3 cI cZ a S) sz) := by
  refine Met.ofW (cc := cX3_enter) (maxL := 2) (ret := none) (by decide) rfl ?_
  intro p e s m args below meth c s₁ B hml hv
  obtain ⟨rfl, hsz, hP, hK, hD0⟩ := hv
  have hx := B.exec
  have hb := B.bytes
  have hr := B.returns
  have hts0 := atoms_spec (ws := wsm yX3_enter cX3_enter 2 none) B.pre
  have hts : ∀ w ∈ lw_all, w.before _ s = true := fun w h => hts0 w (List.mem_cons_of_mem _ h)
  have hown : s.vm.findClass RX3 = some m.cls := findClass_of_methodNamed B.named
  have hlocks := B.notSynchronized
  subst hsz
  have hD := hD0.self (sz := s.heap.size)
  generalize hAe : va_A (wX3 cI cZ a S) s.heap.size = A at hD ⊢
  have hA : ∀ q : Nat, s.heap.size ≤ q → A q := fun q h => by rw [← hAe]; exact Or.inr h
  have hS : va_S A s.heap s.heap [] := va_S.rf
  have hml2 := hml
  have hl := lv_entry ([.ref (a 0), .int p0]) (n := 2) (Nat.le_of_ble_eq_true rfl)
  rw [lg_entry_eq]
  generalize (lg_sl ([.ref (a 0), .int p0]) ++ List.replicate (2 - (lg_sl ([.ref (a 0), .int p0])).length) Slot.unset).toArray = ls at hl ⊢
  have hl : lv_has ls 2 [(0, .ref (a 0)), (1, .int p0)] := hl
  unfold wp_X3_enter at h
  refine lv_aload_n hx hb dX3_enter_0 rfl (lv_at hl 0 rfl) ?_
  refine lv_iload_n hx hb dX3_enter_1 rfl (lv_at hl 1 rfl) ?_
  obtain ⟨T1, eT1⟩ : ∃ z : (Nat → Int32), z = (upd S.1 5 p0) := ⟨_, rfl⟩
  refine pu_f (ci := 3) (v := .int p0) (ty := .int) (C := RX3) (T := TX3) (N := 12) hx hb hts inX3 tyX3 tyX3_ok nmX3 hown hK hP hD hS 0 rfl rfl 5 (by decide) (hts _ q_358) (fun _ h9 => h9) rfl rfl rfl rfl (Nat.le_of_ble_eq_true rfl) dX3_enter_2 (wX3 cI cZ a (T1, S.2.1, S.2.2.1, S.2.2.2.1, S.2.2.2.2.1, S.2.2.2.2.2)) (by subst eT1; rfl) (fun H locs hP hD hS => ?_)
  have h := h T1 eT1
  refine lv_aload_n hx hb dX3_enter_5 rfl (lv_at hl 0 rfl) ?_
  refine lv_iconst (v := 0) hx hb dX3_enter_6 (by decide) ?_
  obtain ⟨T2, eT2⟩ : ∃ z : (Nat → Int32), z = (upd T1 6 0) := ⟨_, rfl⟩
  refine pu_f (ci := 3) (v := .int 0) (ty := .int) (C := RX3) (T := TX3) (N := 12) hx hb hts inX3 tyX3 tyX3_ok nmX3 hown hK hP hD hS 0 rfl rfl 6 (by decide) (hts _ q_360) (fun _ h9 => h9) rfl rfl rfl rfl (Nat.le_of_ble_eq_true rfl) dX3_enter_7 (wX3 cI cZ a (T2, S.2.1, S.2.2.1, S.2.2.2.1, S.2.2.2.2.1, S.2.2.2.2.2)) (by subst eT2; rfl) (fun H locs hP hD hS => ?_)
  have h := h T2 eT2
  exact W.vret hx hb hr (fun t ht hW => ⟨⟨(T2, S.2.1, S.2.2.1, S.2.2.2.1, S.2.2.2.2.1, S.2.2.2.2.2), rfl, h, by rw [ht]; exact hP, va_K.moved hW.alike hK, hD⟩, hS.F ht⟩) hS.2.2 dX3_enter_10
/-! X3_leaveRun -/
abbrev rmX3_leaveRun : Room := { frames := 3, cells := 0, slots := 0, locals := 69 }
set_option maxHeartbeats 4000000 in
set_option maxRecDepth 100000 in
theorem c_X3_leaveRun (l : Launch) (D : va_G) (cI cZ : ClassId) (a : Nat → Nat) (sz : Nat) (S : (Nat → Int32) × Ob × Ob × Ob × Ob × (Nat → Int32)) (Q : ((Nat → Int32) × Ob × Ob × Ob × Ob × (Nat → Int32)) → Prop) (h : wp_X3_leaveRun S Q) : Met l yX3_leaveRun (wsm yX3_leaveRun cX3_leaveRun 2 none) rmX3_leaveRun (va_Pc [.ref (a 0)] (preW D cI cZ sz (wX3 cI cZ a S))) (va_Qv Q (fun u => atW D cI cZ (va_A (wX3 cI cZ a S) sz) (wX3 cI cZ a u)) (va_A (wX3 cI cZ a S) sz)) 0 0 (va_A (wX3 cI cZ a S) sz) := by
  refine Met.ofW (cc := cX3_leaveRun) (maxL := 2) (ret := none) (by decide) rfl ?_
  intro p e s m args below meth c s₁ B hml hv
  obtain ⟨rfl, hsz, hP, hK, hD0⟩ := hv
  have hx := B.exec
  have hb := B.bytes
  have hr := B.returns
  have hts0 := atoms_spec (ws := wsm yX3_leaveRun cX3_leaveRun 2 none) B.pre
  have hts : ∀ w ∈ lw_all, w.before _ s = true := fun w h => hts0 w (List.mem_cons_of_mem _ h)
  have hown : s.vm.findClass RX3 = some m.cls := findClass_of_methodNamed B.named
  have hlocks := B.notSynchronized
  subst hsz
  have hD := hD0.self (sz := s.heap.size)
  generalize hAe : va_A (wX3 cI cZ a S) s.heap.size = A at hD ⊢
  have hA : ∀ q : Nat, s.heap.size ≤ q → A q := fun q h => by rw [← hAe]; exact Or.inr h
  have hS : va_S A s.heap s.heap [] := va_S.rf
  have hml2 := hml
  have hl := lv_entry ([.ref (a 0)]) (n := 2) (Nat.le_of_ble_eq_true rfl)
  rw [lg_entry_eq]
  generalize (lg_sl ([.ref (a 0)]) ++ List.replicate (2 - (lg_sl ([.ref (a 0)])).length) Slot.unset).toArray = ls at hl ⊢
  have hl : lv_has ls 2 [(0, .ref (a 0))] := hl
  unfold wp_X3_leaveRun at h
  refine lv_aload_n hx hb dX3_leaveRun_0 rfl (lv_at hl 0 rfl) ?_
  refine va_get (D := D) (ci := 3) (v := .ref (a 1)) (C := RX3) (T := TX3) (N := 12) hx hb hts inX3 hown hK hP 0 rfl rfl 0 (by decide) (hts _ q_348) (fun _ h9 => h9) rfl dX3_leaveRun_1 ?_
  refine cl_i (ws' := fun u1 => (wX3 cI cZ a (S.1, u1, S.2.2.1, S.2.2.2.1, S.2.2.2.2.1, S.2.2.2.2.2))) (va_runV (As := []) (rest := []) ⟨hx, hb, hml, hown, hts⟩ (c_X5_next l D cI cZ (fun k => a (k + 1)) _ S.2.1 _ h ) (cwV 0 hts (gV q_523 q_524 q_525 q_69 q_526) rfl rfl rfl (by decide +kernel) ⟨Nat.le_of_ble_eq_true rfl, Nat.le_of_ble_eq_true rfl⟩) (preV_of (ci := 4) (q := (RX5, TX5, 16)) hK hP hD [1, 2, 3, 4, 5, 6, 7, 8, 9, 10, 11] rfl rfl (by decide) 1 rfl rfl) rfl rfl hl.1 rfl (lv_room (Nat.le_of_ble_eq_true rfl)) dX3_leaveRun_4 ⟨Nat.zero_le _, Nat.zero_le _⟩) hP hD hS hA [1, 2, 3, 4, 5, 6, 7, 8, 9, 10, 11] [.inr 0, .inl 0, .inl 1, .inl 2, .inl 3, .inl 4, .inl 5, .inl 6, .inl 7, .inl 8, .inl 9, .inl 10, .inr 12, .inr 13, .inr 14, .inr 15, .inr 16, .inr 17, .inr 18, .inr 19, .inr 20, .inr 21, .inr 22, .inr 23] rfl (by decide) (fun _ => rfl) (fun _ => rfl) (fun r2 u1 H locs h hP hD hS => ?_)
  refine lv_istore_n (lv' := [(1, .int r2), (0, .ref (a 0))]) hx hb dX3_leaveRun_7 rfl hl (by decide) rfl (fun ls hl => ?_)
  refine lv_iload_n hx hb dX3_leaveRun_8 rfl (lv_at hl 0 rfl) ?_
  refine lv_iconst (v := -1) hx hb dX3_leaveRun_9 (by decide) ?_
  refine lv_icmp_eq (tgt := 42) hx hb dX3_leaveRun_10 (by decide) (fun c3 => ?_) (fun c3 => ?_)
  · have h := h.1 c3
    refine lv_aload_n hx hb dX3_leaveRun_42 rfl (lv_at hl 1 rfl) ?_
    refine va_get (D := D) (ci := 3) (v := .ref (a 18)) (C := RX3) (T := TX3) (N := 12) hx hb hts inX3 hown hK hP 0 rfl rfl 3 (by decide) (hts _ q_354) (fun _ h9 => h9) rfl dX3_leaveRun_43 ?_
    refine va_get (D := D) (ci := 1) (v := .int (S.2.2.2.2.1.1 13)) (C := RX1) (T := TX1) (N := 14) hx hb hts inX1 hown hK hP 18 rfl rfl 13 (by decide) (hts _ q_317) (fun _ h9 => h9) rfl dX3_leaveRun_46 ?_
    refine lv_if_eq (tgt := 72) hx hb dX3_leaveRun_49 (by decide) (fun c4 => ?_) (fun c4 => ?_)
    · have h := h.1 c4
      refine lv_aload_n hx hb dX3_leaveRun_72 rfl (lv_at hl 1 rfl) ?_
      refine va_get (D := D) (ci := 3) (v := .ref (a 18)) (C := RX3) (T := TX3) (N := 12) hx hb hts inX3 hown hK hP 0 rfl rfl 3 (by decide) (hts _ q_354) (fun _ h9 => h9) rfl dX3_leaveRun_73 ?_
      refine va_get (D := D) (ci := 1) (v := .int (S.2.2.2.2.1.1 13)) (C := RX1) (T := TX1) (N := 14) hx hb hts inX1 hown hK hP 18 rfl rfl 13 (by decide) (hts _ q_317) (fun _ h9 => h9) rfl dX3_leaveRun_76 ?_
      refine lv_if_ne (tgt := 97) hx hb dX3_leaveRun_79 (by decide) (fun c5 => ?_) (fun c5 => ?_)
      · have h := h.1 c5
        exact W.vret hx hb hr (fun t ht hW => ⟨⟨(S.1, u1, S.2.2.1, S.2.2.2.1, S.2.2.2.2.1, S.2.2.2.2.2), rfl, h, by rw [ht]; exact hP, va_K.moved hW.alike hK, hD⟩, hS.F ht⟩) hS.2.2 dX3_leaveRun_97
      · have h := h.2 c5
        refine lv_aload_n hx hb dX3_leaveRun_82 rfl (lv_at hl 1 rfl) ?_
        refine va_get (D := D) (ci := 3) (v := .ref (a 18)) (C := RX3) (T := TX3) (N := 12) hx hb hts inX3 hown hK hP 0 rfl rfl 3 (by decide) (hts _ q_354) (fun _ h9 => h9) rfl dX3_leaveRun_83 ?_
        refine cl_i (ws' := fun u6 => (wX3 cI cZ a (S.1, u1, S.2.2.1, S.2.2.2.1, u6.1, u6.2))) (va_runV (As := []) (rest := []) ⟨hx, hb, hml, hown, hts⟩ (c_X1_mustSave l D cI cZ (fun k => a (k + 18)) _ S.2.2.2.2 _ h ) (cwV 0 hts (gV q_544 q_545 q_546 q_73 q_547) rfl rfl rfl (by decide +kernel) ⟨Nat.le_of_ble_eq_true rfl, Nat.le_of_ble_eq_true rfl⟩) (preV_of (ci := 1) (q := (RX1, TX1, 14)) hK hP hD [18, 19, 20, 21, 22, 23] rfl rfl (by decide) 18 rfl rfl) rfl rfl hl.1 rfl (lv_room (Nat.le_of_ble_eq_true rfl)) dX3_leaveRun_86 ⟨Nat.zero_le _, Nat.zero_le _⟩) hP hD hS hA [18, 19, 20, 21, 22, 23] [.inr 0, .inr 1, .inr 2, .inr 3, .inr 4, .inr 5, .inr 6, .inr 7, .inr 8, .inr 9, .inr 10, .inr 11, .inr 12, .inr 13, .inr 14, .inr 15, .inr 16, .inr 17, .inl 0, .inl 1, .inl 2, .inl 3, .inl 4, .inl 5] rfl (by decide) (fun _ => rfl) (fun _ => rfl) (fun r7 u6 H locs h hP hD hS => ?_)
        refine lv_if_eq (tgt := 97) hx hb dX3_leaveRun_89 (by decide) (fun c8 => ?_) (fun c8 => ?_)
        · have h := h.1 c8
          exact W.vret hx hb hr (fun t ht hW => ⟨⟨(S.1, u1, S.2.2.1, S.2.2.2.1, u6.1, u6.2), rfl, h, by rw [ht]; exact hP, va_K.moved hW.alike hK, hD⟩, hS.F ht⟩) hS.2.2 dX3_leaveRun_97
        · have h := h.2 c8
          refine lv_aload_n hx hb dX3_leaveRun_92 rfl (lv_at hl 1 rfl) ?_
          refine lv_iconst (v := 4) hx hb dX3_leaveRun_93 (by decide) ?_
          refine cl_v (ws' := fun u9 => (wX3 cI cZ a u9)) (va_runV (As := [.int 4]) (rest := []) ⟨hx, hb, hml, hown, hts⟩ (c_X3_enter l D cI cZ a _ (S.1, u1, S.2.2.1, S.2.2.2.1, u6.1, u6.2) 4 _ h ) (cwV 1 hts (gV q_539 q_541 q_2 q_68 q_542) rfl rfl rfl (by decide +kernel) ⟨Nat.le_of_ble_eq_true rfl, Nat.le_of_ble_eq_true rfl⟩) (preV_of (ci := 3) (q := (RX3, TX3, 12)) hK hP hD [0, 1, 2, 3, 4, 5, 6, 7, 8, 9, 10, 11, 12, 13, 14, 15, 16, 17, 18, 19, 20, 21, 22, 23] rfl rfl (by decide) 0 rfl rfl) rfl rfl hl.1 rfl (lv_room (Nat.le_of_ble_eq_true rfl)) dX3_leaveRun_94 ⟨Nat.zero_le _, Nat.zero_le _⟩) hP hD hS hA [0, 1, 2, 3, 4, 5, 6, 7, 8, 9, 10, 11, 12, 13, 14, 15, 16, 17, 18, 19, 20, 21, 22, 23] [.inl 0, .inl 1, .inl 2, .inl 3, .inl 4, .inl 5, .inl 6, .inl 7, .inl 8, .inl 9, .inl 10, .inl 11, .inl 12, .inl 13, .inl 14, .inl 15, .inl 16, .inl 17, .inl 18, .inl 19, .inl 20, .inl 21, .inl 22, .inl 23] rfl (by decide) (fun _ => rfl) (fun _ => rfl) (fun u9 H locs h hP hD hS => ?_)
          exact W.vret hx hb hr (fun t ht hW => ⟨⟨u9, rfl, h, by rw [ht]; exact hP, va_K.moved hW.alike hK, hD⟩, hS.F ht⟩) hS.2.2 dX3_leaveRun_97
    · have h := h.2 c4
      refine lv_aload_n hx hb dX3_leaveRun_52 rfl (lv_at hl 1 rfl) ?_
      refine va_get (D := D) (ci := 3) (v := .ref (a 1)) (C := RX3) (T := TX3) (N := 12) hx hb hts inX3 hown hK hP 0 rfl rfl 0 (by decide) (hts _ q_348) (fun _ h9 => h9) rfl dX3_leaveRun_53 ?_
      refine lv_iconst (v := 0) hx hb dX3_leaveRun_56 (by decide) ?_
      refine cl_i (ws' := fun u10 => (wX3 cI cZ a (S.1, u10, S.2.2.1, S.2.2.2.1, S.2.2.2.2.1, S.2.2.2.2.2))) (va_runV (As := [.int 0]) (rest := []) ⟨hx, hb, hml, hown, hts⟩ (c_X5_nextBy l D cI cZ (fun k => a (k + 1)) _ u1 0 _ h ) (cwV 1 hts (gV q_543 q_528 q_529 q_69 q_530) rfl rfl rfl (by decide +kernel) ⟨Nat.le_of_ble_eq_true rfl, Nat.le_of_ble_eq_true rfl⟩) (preV_of (ci := 4) (q := (RX5, TX5, 16)) hK hP hD [1, 2, 3, 4, 5, 6, 7, 8, 9, 10, 11] rfl rfl (by decide) 1 rfl rfl) rfl rfl hl.1 rfl (lv_room (Nat.le_of_ble_eq_true rfl)) dX3_leaveRun_57 ⟨Nat.zero_le _, Nat.zero_le _⟩) hP hD hS hA [1, 2, 3, 4, 5, 6, 7, 8, 9, 10, 11] [.inr 0, .inl 0, .inl 1, .inl 2, .inl 3, .inl 4, .inl 5, .inl 6, .inl 7, .inl 8, .inl 9, .inl 10, .inr 12, .inr 13, .inr 14, .inr 15, .inr 16, .inr 17, .inr 18, .inr 19, .inr 20, .inr 21, .inr 22, .inr 23] rfl (by decide) (fun _ => rfl) (fun _ => rfl) (fun r11 u10 H locs h hP hD hS => ?_)
      refine lv_iconst (v := -1) hx hb dX3_leaveRun_60 (by decide) ?_
      refine lv_icmp_eq (tgt := 72) hx hb dX3_leaveRun_61 (by decide) (fun c12 => ?_) (fun c12 => ?_)
      · have h := h.1 c12
        refine lv_aload_n hx hb dX3_leaveRun_72 rfl (lv_at hl 1 rfl) ?_
        refine va_get (D := D) (ci := 3) (v := .ref (a 18)) (C := RX3) (T := TX3) (N := 12) hx hb hts inX3 hown hK hP 0 rfl rfl 3 (by decide) (hts _ q_354) (fun _ h9 => h9) rfl dX3_leaveRun_73 ?_
        refine va_get (D := D) (ci := 1) (v := .int (S.2.2.2.2.1.1 13)) (C := RX1) (T := TX1) (N := 14) hx hb hts inX1 hown hK hP 18 rfl rfl 13 (by decide) (hts _ q_317) (fun _ h9 => h9) rfl dX3_leaveRun_76 ?_
        refine lv_if_ne (tgt := 97) hx hb dX3_leaveRun_79 (by decide) (fun c13 => ?_) (fun c13 => ?_)
        · have h := h.1 c13
          exact W.vret hx hb hr (fun t ht hW => ⟨⟨(S.1, u10, S.2.2.1, S.2.2.2.1, S.2.2.2.2.1, S.2.2.2.2.2), rfl, h, by rw [ht]; exact hP, va_K.moved hW.alike hK, hD⟩, hS.F ht⟩) hS.2.2 dX3_leaveRun_97
        · have h := h.2 c13
          refine lv_aload_n hx hb dX3_leaveRun_82 rfl (lv_at hl 1 rfl) ?_
          refine va_get (D := D) (ci := 3) (v := .ref (a 18)) (C := RX3) (T := TX3) (N := 12) hx hb hts inX3 hown hK hP 0 rfl rfl 3 (by decide) (hts _ q_354) (fun _ h9 => h9) rfl dX3_leaveRun_83 ?_
          refine cl_i (ws' := fun u14 => (wX3 cI cZ a (S.1, u10, S.2.2.1, S.2.2.2.1, u14.1, u14.2))) (va_runV (As := []) (rest := []) ⟨hx, hb, hml, hown, hts⟩ (c_X1_mustSave l D cI cZ (fun k => a (k + 18)) _ S.2.2.2.2 _ h ) (cwV 0 hts (gV q_544 q_545 q_546 q_73 q_547) rfl rfl rfl (by decide +kernel) ⟨Nat.le_of_ble_eq_true rfl, Nat.le_of_ble_eq_true rfl⟩) (preV_of (ci := 1) (q := (RX1, TX1, 14)) hK hP hD [18, 19, 20, 21, 22, 23] rfl rfl (by decide) 18 rfl rfl) rfl rfl hl.1 rfl (lv_room (Nat.le_of_ble_eq_true rfl)) dX3_leaveRun_86 ⟨Nat.zero_le _, Nat.zero_le _⟩) hP hD hS hA [18, 19, 20, 21, 22, 23] [.inr 0, .inr 1, .inr 2, .inr 3, .inr 4, .inr 5, .inr 6, .inr 7, .inr 8, .inr 9, .inr 10, .inr 11, .inr 12, .inr 13, .inr 14, .inr 15, .inr 16, .inr 17, .inl 0, .inl 1, .inl 2, .inl 3, .inl 4, .inl 5] rfl (by decide) (fun _ => rfl) (fun _ => rfl) (fun r15 u14 H locs h hP hD hS => ?_)
          refine lv_if_eq (tgt := 97) hx hb dX3_leaveRun_89 (by decide) (fun c16 => ?_) (fun c16 => ?_)
          · have h := h.1 c16
            exact W.vret hx hb hr (fun t ht hW => ⟨⟨(S.1, u10, S.2.2.1, S.2.2.2.1, u14.1, u14.2), rfl, h, by rw [ht]; exact hP, va_K.moved hW.alike hK, hD⟩, hS.F ht⟩) hS.2.2 dX3_leaveRun_97
          · have h := h.2 c16
            refine lv_aload_n hx hb dX3_leaveRun_92 rfl (lv_at hl 1 rfl) ?_
            refine lv_iconst (v := 4) hx hb dX3_leaveRun_93 (by decide) ?_
            refine cl_v (ws' := fun u17 => (wX3 cI cZ a u17)) (va_runV (As := [.int 4]) (rest := []) ⟨hx, hb, hml, hown, hts⟩ (c_X3_enter l D cI cZ a _ (S.1, u10, S.2.2.1, S.2.2.2.1, u14.1, u14.2) 4 _ h ) (cwV 1 hts (gV q_539 q_541 q_2 q_68 q_542) rfl rfl rfl (by decide +kernel) ⟨Nat.le_of_ble_eq_true rfl, Nat.le_of_ble_eq_true rfl⟩) (preV_of (ci := 3) (q := (RX3, TX3, 12)) hK hP hD [0, 1, 2, 3, 4, 5, 6, 7, 8, 9, 10, 11, 12, 13, 14, 15, 16, 17, 18, 19, 20, 21, 22, 23] rfl rfl (by decide) 0 rfl rfl) rfl rfl hl.1 rfl (lv_room (Nat.le_of_ble_eq_true rfl)) dX3_leaveRun_94 ⟨Nat.zero_le _, Nat.zero_le _⟩) hP hD hS hA [0, 1, 2, 3, 4, 5, 6, 7, 8, 9, 10, 11, 12, 13, 14, 15, 16, 17, 18, 19, 20, 21, 22, 23] [.inl 0, .inl 1, .inl 2, .inl 3, .inl 4, .inl 5, .inl 6, .inl 7, .inl 8, .inl 9, .inl 10, .inl 11, .inl 12, .inl 13, .inl 14, .inl 15, .inl 16, .inl 17, .inl 18, .inl 19, .inl 20, .inl 21, .inl 22, .inl 23] rfl (by decide) (fun _ => rfl) (fun _ => rfl) (fun u17 H locs h hP hD hS => ?_)
            exact W.vret hx hb hr (fun t ht hW => ⟨⟨u17, rfl, h, by rw [ht]; exact hP, va_K.moved hW.alike hK, hD⟩, hS.F ht⟩) hS.2.2 dX3_leaveRun_97
      · have h := h.2 c12
        refine lv_aload_n hx hb dX3_leaveRun_64 rfl (lv_at hl 1 rfl) ?_
        refine va_get (D := D) (ci := 3) (v := .ref (a 18)) (C := RX3) (T := TX3) (N := 12) hx hb hts inX3 hown hK hP 0 rfl rfl 3 (by decide) (hts _ q_354) (fun _ h9 => h9) rfl dX3_leaveRun_65 ?_
        refine lv_iconst (v := 0) hx hb dX3_leaveRun_68 (by decide) ?_
        obtain ⟨T18, eT18⟩ : ∃ z : Ob, z = (si S.2.2.2.2.1 13 0) := ⟨_, rfl⟩
        refine pu_f (ci := 1) (v := .int 0) (ty := .boolean) (C := RX1) (T := TX1) (N := 14) hx hb hts inX1 tyX1 tyX1_ok nmX1 hown hK hP hD hS 18 rfl rfl 13 (by decide) (hts _ q_317) (fun _ h9 => h9) rfl rfl (narB isB0) (fitB isB0) (Nat.le_of_ble_eq_true rfl) dX3_leaveRun_69 (wX3 cI cZ a (S.1, u10, S.2.2.1, S.2.2.2.1, T18, S.2.2.2.2.2)) (by subst eT18; rfl) (fun H locs hP hD hS => ?_)
        have h := h T18 eT18
        refine lv_aload_n hx hb dX3_leaveRun_72 rfl (lv_at hl 1 rfl) ?_
        refine va_get (D := D) (ci := 3) (v := .ref (a 18)) (C := RX3) (T := TX3) (N := 12) hx hb hts inX3 hown hK hP 0 rfl rfl 3 (by decide) (hts _ q_354) (fun _ h9 => h9) rfl dX3_leaveRun_73 ?_
        refine va_get (D := D) (ci := 1) (v := .int (T18.1 13)) (C := RX1) (T := TX1) (N := 14) hx hb hts inX1 hown hK hP 18 rfl rfl 13 (by decide) (hts _ q_317) (fun _ h9 => h9) rfl dX3_leaveRun_76 ?_
        refine lv_if_ne (tgt := 97) hx hb dX3_leaveRun_79 (by decide) (fun c19 => ?_) (fun c19 => ?_)
        · have h := h.1 c19
          exact W.vret hx hb hr (fun t ht hW => ⟨⟨(S.1, u10, S.2.2.1, S.2.2.2.1, T18, S.2.2.2.2.2), rfl, h, by rw [ht]; exact hP, va_K.moved hW.alike hK, hD⟩, hS.F ht⟩) hS.2.2 dX3_leaveRun_97
        · have h := h.2 c19
          refine lv_aload_n hx hb dX3_leaveRun_82 rfl (lv_at hl 1 rfl) ?_
          refine va_get (D := D) (ci := 3) (v := .ref (a 18)) (C := RX3) (T := TX3) (N := 12) hx hb hts inX3 hown hK hP 0 rfl rfl 3 (by decide) (hts _ q_354) (fun _ h9 => h9) rfl dX3_leaveRun_83 ?_
          refine cl_i (ws' := fun u20 => (wX3 cI cZ a (S.1, u10, S.2.2.1, S.2.2.2.1, u20.1, u20.2))) (va_runV (As := []) (rest := []) ⟨hx, hb, hml, hown, hts⟩ (c_X1_mustSave l D cI cZ (fun k => a (k + 18)) _ (T18, S.2.2.2.2.2) _ h ) (cwV 0 hts (gV q_544 q_545 q_546 q_73 q_547) rfl rfl rfl (by decide +kernel) ⟨Nat.le_of_ble_eq_true rfl, Nat.le_of_ble_eq_true rfl⟩) (preV_of (ci := 1) (q := (RX1, TX1, 14)) hK hP hD [18, 19, 20, 21, 22, 23] rfl rfl (by decide) 18 rfl rfl) rfl rfl hl.1 rfl (lv_room (Nat.le_of_ble_eq_true rfl)) dX3_leaveRun_86 ⟨Nat.zero_le _, Nat.zero_le _⟩) hP hD hS hA [18, 19, 20, 21, 22, 23] [.inr 0, .inr 1, .inr 2, .inr 3, .inr 4, .inr 5, .inr 6, .inr 7, .inr 8, .inr 9, .inr 10, .inr 11, .inr 12, .inr 13, .inr 14, .inr 15, .inr 16, .inr 17, .inl 0, .inl 1, .inl 2, .inl 3, .inl 4, .inl 5] rfl (by decide) (fun _ => rfl) (fun _ => rfl) (fun r21 u20 H locs h hP hD hS => ?_)
          refine lv_if_eq (tgt := 97) hx hb dX3_leaveRun_89 (by decide) (fun c22 => ?_) (fun c22 => ?_)
          · have h := h.1 c22
            exact W.vret hx hb hr (fun t ht hW => ⟨⟨(S.1, u10, S.2.2.1, S.2.2.2.1, u20.1, u20.2), rfl, h, by rw [ht]; exact hP, va_K.moved hW.alike hK, hD⟩, hS.F ht⟩) hS.2.2 dX3_leaveRun_97
          · have h := h.2 c22
            refine lv_aload_n hx hb dX3_leaveRun_92 rfl (lv_at hl 1 rfl) ?_
            refine lv_iconst (v := 4) hx hb dX3_leaveRun_93 (by decide) ?_
            refine cl_v (ws' := fun u23 => (wX3 cI cZ a u23)) (va_runV (As := [.int 4]) (rest := []) ⟨hx, hb, hml, hown, hts⟩ (c_X3_enter l D cI cZ a _ (S.1, u10, S.2.2.1, S.2.2.2.1, u20.1, u20.2) 4 _ h ) (cwV 1 hts (gV q_539 q_541 q_2 q_68 q_542) rfl rfl rfl (by decide +kernel) ⟨Nat.le_of_ble_eq_true rfl, Nat.le_of_ble_eq_true rfl⟩) (preV_of (ci := 3) (q := (RX3, TX3, 12)) hK hP hD [0, 1, 2, 3, 4, 5, 6, 7, 8, 9, 10, 11, 12, 13, 14, 15, 16, 17, 18, 19, 20, 21, 22, 23] rfl rfl (by decide) 0 rfl rfl) rfl rfl hl.1 rfl (lv_room (Nat.le_of_ble_eq_true rfl)) dX3_leaveRun_94 ⟨Nat.zero_le _, Nat.zero_le _⟩) hP hD hS hA [0, 1, 2, 3, 4, 5, 6, 7, 8, 9, 10, 11, 12, 13, 14, 15, 16, 17, 18, 19, 20, 21, 22, 23] [.inl 0, .inl 1, .inl 2, .inl 3, .inl 4, .inl 5, .inl 6, .inl 7, .inl 8, .inl 9, .inl 10, .inl 11, .inl 12, .inl 13, .inl 14, .inl 15, .inl 16, .inl 17, .inl 18, .inl 19, .inl 20, .inl 21, .inl 22, .inl 23] rfl (by decide) (fun _ => rfl) (fun _ => rfl) (fun u23 H locs h hP hD hS => ?_)
            exact W.vret hx hb hr (fun t ht hW => ⟨⟨u23, rfl, h, by rw [ht]; exact hP, va_K.moved hW.alike hK, hD⟩, hS.F ht⟩) hS.2.2 dX3_leaveRun_97
  · have h := h.2 c3
    refine lv_aload_n hx hb dX3_leaveRun_13 rfl (lv_at hl 1 rfl) ?_
    refine va_get (D := D) (ci := 3) (v := .ref (a 18)) (C := RX3) (T := TX3) (N := 12) hx hb hts inX3 hown hK hP 0 rfl rfl 3 (by decide) (hts _ q_354) (fun _ h9 => h9) rfl dX3_leaveRun_14 ?_
    refine lv_iconst (v := 0) hx hb dX3_leaveRun_17 (by decide) ?_
    obtain ⟨T24, eT24⟩ : ∃ z : Ob, z = (si S.2.2.2.2.1 13 0) := ⟨_, rfl⟩
    refine pu_f (ci := 1) (v := .int 0) (ty := .boolean) (C := RX1) (T := TX1) (N := 14) hx hb hts inX1 tyX1 tyX1_ok nmX1 hown hK hP hD hS 18 rfl rfl 13 (by decide) (hts _ q_317) (fun _ h9 => h9) rfl rfl (narB isB0) (fitB isB0) (Nat.le_of_ble_eq_true rfl) dX3_leaveRun_18 (wX3 cI cZ a (S.1, u1, S.2.2.1, S.2.2.2.1, T24, S.2.2.2.2.2)) (by subst eT24; rfl) (fun H locs hP hD hS => ?_)
    have h := h T24 eT24
    refine lv_aload_n hx hb dX3_leaveRun_21 rfl (lv_at hl 1 rfl) ?_
    refine lv_iload_n hx hb dX3_leaveRun_22 rfl (lv_at hl 0 rfl) ?_
    obtain ⟨T25, eT25⟩ : ∃ z : (Nat → Int32), z = (upd S.1 8 r2) := ⟨_, rfl⟩
    refine pu_f (ci := 3) (v := .int r2) (ty := .int) (C := RX3) (T := TX3) (N := 12) hx hb hts inX3 tyX3 tyX3_ok nmX3 hown hK hP hD hS 0 rfl rfl 8 (by decide) (hts _ q_364) (fun _ h9 => h9) rfl rfl rfl rfl (Nat.le_of_ble_eq_true rfl) dX3_leaveRun_23 (wX3 cI cZ a (T25, u1, S.2.2.1, S.2.2.2.1, T24, S.2.2.2.2.2)) (by subst eT25; rfl) (fun H locs hP hD hS => ?_)
    have h := h T25 eT25
    refine lv_aload_n hx hb dX3_leaveRun_26 rfl (lv_at hl 1 rfl) ?_
    refine lv_iconst (v := 0) hx hb dX3_leaveRun_27 (by decide) ?_
    obtain ⟨T26, eT26⟩ : ∃ z : (Nat → Int32), z = (upd T25 9 0) := ⟨_, rfl⟩
    refine pu_f (ci := 3) (v := .int 0) (ty := .boolean) (C := RX3) (T := TX3) (N := 12) hx hb hts inX3 tyX3 tyX3_ok nmX3 hown hK hP hD hS 0 rfl rfl 9 (by decide) (hts _ q_365) (fun _ h9 => h9) rfl rfl (narB isB0) (fitB isB0) (Nat.le_of_ble_eq_true rfl) dX3_leaveRun_28 (wX3 cI cZ a (T26, u1, S.2.2.1, S.2.2.2.1, T24, S.2.2.2.2.2)) (by subst eT26; rfl) (fun H locs hP hD hS => ?_)
    have h := h T26 eT26
    refine lv_aload_n hx hb dX3_leaveRun_31 rfl (lv_at hl 1 rfl) ?_
    refine lv_iconst (v := 0) hx hb dX3_leaveRun_32 (by decide) ?_
    obtain ⟨T27, eT27⟩ : ∃ z : (Nat → Int32), z = (upd T26 10 0) := ⟨_, rfl⟩
    refine pu_f (ci := 3) (v := .int 0) (ty := .boolean) (C := RX3) (T := TX3) (N := 12) hx hb hts inX3 tyX3 tyX3_ok nmX3 hown hK hP hD hS 0 rfl rfl 10 (by decide) (hts _ q_366) (fun _ h9 => h9) rfl rfl (narB isB0) (fitB isB0) (Nat.le_of_ble_eq_true rfl) dX3_leaveRun_33 (wX3 cI cZ a (T27, u1, S.2.2.1, S.2.2.2.1, T24, S.2.2.2.2.2)) (by subst eT27; rfl) (fun H locs hP hD hS => ?_)
    have h := h T27 eT27
    refine lv_aload_n hx hb dX3_leaveRun_36 rfl (lv_at hl 1 rfl) ?_
    refine lv_iconst (v := 1) hx hb dX3_leaveRun_37 (by decide) ?_
    refine cl_v (ws' := fun u28 => (wX3 cI cZ a u28)) (va_runV (As := [.int 1]) (rest := []) ⟨hx, hb, hml, hown, hts⟩ (c_X3_enter l D cI cZ a _ (T27, u1, S.2.2.1, S.2.2.2.1, T24, S.2.2.2.2.2) 1 _ h ) (cwV 1 hts (gV q_539 q_541 q_2 q_68 q_542) rfl rfl rfl (by decide +kernel) ⟨Nat.le_of_ble_eq_true rfl, Nat.le_of_ble_eq_true rfl⟩) (preV_of (ci := 3) (q := (RX3, TX3, 12)) hK hP hD [0, 1, 2, 3, 4, 5, 6, 7, 8, 9, 10, 11, 12, 13, 14, 15, 16, 17, 18, 19, 20, 21, 22, 23] rfl rfl (by decide) 0 rfl rfl) rfl rfl hl.1 rfl (lv_room (Nat.le_of_ble_eq_true rfl)) dX3_leaveRun_38 ⟨Nat.zero_le _, Nat.zero_le _⟩) hP hD hS hA [0, 1, 2, 3, 4, 5, 6, 7, 8, 9, 10, 11, 12, 13, 14, 15, 16, 17, 18, 19, 20, 21, 22, 23] [.inl 0, .inl 1, .inl 2, .inl 3, .inl 4, .inl 5, .inl 6, .inl 7, .inl 8, .inl 9, .inl 10, .inl 11, .inl 12, .inl 13, .inl 14, .inl 15, .inl 16, .inl 17, .inl 18, .inl 19, .inl 20, .inl 21, .inl 22, .inl 23] rfl (by decide) (fun _ => rfl) (fun _ => rfl) (fun u28 H locs h hP hD hS => ?_)
    exact W.vret hx hb hr (fun t ht hW => ⟨⟨u28, rfl, h, by rw [ht]; exact hP, va_K.moved hW.alike hK, hD⟩, hS.F ht⟩) hS.2.2 dX3_leaveRun_41
/-! X3_abandon -/
abbrev rmX3_abandon : Room := { frames := 3, cells := 0, slots := 0, locals := 69 }
set_option maxHeartbeats 4000000 in
set_option maxRecDepth 100000 in
theorem c_X3_abandon (l : Launch) (D : va_G) (cI cZ : ClassId) (a : Nat → Nat) (sz : Nat) (S : (Nat → Int32) × Ob × Ob × Ob × Ob × (Nat → Int32)) (Q : ((Nat → Int32) × Ob × Ob × Ob × Ob × (Nat → Int32)) → Prop) (h : wp_X3_abandon S Q) : Met l yX3_abandon (wsm yX3_abandon cX3_abandon 2 none) rmX3_abandon (va_Pc [.ref (a 0)] (preW D cI cZ sz (wX3 cI cZ a S))) (va_Qv Q (fun u => atW D cI cZ (va_A (wX3 cI cZ a S) sz) (wX3 cI cZ a u)) (va_A (wX3 cI cZ a S) sz)) 0 0 (va_A (wX3 cI cZ a S) sz) := by
  refine Met.ofW (cc := cX3_abandon) (maxL := 2) (ret := none) (by decide) rfl ?_
  intro p e s m args below meth c s₁ B hml hv
  obtain ⟨rfl, hsz, hP, hK, hD0⟩ := hv
  have hx := B.exec
  have hb := B.bytes
  have hr := B.returns
  have hts0 := atoms_spec (ws := wsm yX3_abandon cX3_abandon 2 none) B.pre
  have hts : ∀ w ∈ lw_all, w.before _ s = true := fun w h => hts0 w (List.mem_cons_of_mem _ h)
  have hown : s.vm.findClass RX3 = some m.cls := findClass_of_methodNamed B.named
  have hlocks := B.notSynchronized
  subst hsz
  have hD := hD0.self (sz := s.heap.size)
  generalize hAe : va_A (wX3 cI cZ a S) s.heap.size = A at hD ⊢
  have hA : ∀ q : Nat, s.heap.size ≤ q → A q := fun q h => by rw [← hAe]; exact Or.inr h
  have hS : va_S A s.heap s.heap [] := va_S.rf
  have hml2 := hml
  have hl := lv_entry ([.ref (a 0)]) (n := 2) (Nat.le_of_ble_eq_true rfl)
  rw [lg_entry_eq]
  generalize (lg_sl ([.ref (a 0)]) ++ List.replicate (2 - (lg_sl ([.ref (a 0)])).length) Slot.unset).toArray = ls at hl ⊢
  have hl : lv_has ls 2 [(0, .ref (a 0))] := hl
  unfold wp_X3_abandon at h
  refine lv_aload_n hx hb dX3_abandon_0 rfl (lv_at hl 0 rfl) ?_
  refine va_get (D := D) (ci := 3) (v := .ref (a 1)) (C := RX3) (T := TX3) (N := 12) hx hb hts inX3 hown hK hP 0 rfl rfl 0 (by decide) (hts _ q_348) (fun _ h9 => h9) rfl dX3_abandon_1 ?_
  refine cl_i (ws' := fun u1 => (wX3 cI cZ a (S.1, u1, S.2.2.1, S.2.2.2.1, S.2.2.2.2.1, S.2.2.2.2.2))) (va_runV (As := []) (rest := []) ⟨hx, hb, hml, hown, hts⟩ (c_X5_next l D cI cZ (fun k => a (k + 1)) _ S.2.1 _ h ) (cwV 0 hts (gV q_523 q_524 q_525 q_69 q_526) rfl rfl rfl (by decide +kernel) ⟨Nat.le_of_ble_eq_true rfl, Nat.le_of_ble_eq_true rfl⟩) (preV_of (ci := 4) (q := (RX5, TX5, 16)) hK hP hD [1, 2, 3, 4, 5, 6, 7, 8, 9, 10, 11] rfl rfl (by decide) 1 rfl rfl) rfl rfl hl.1 rfl (lv_room (Nat.le_of_ble_eq_true rfl)) dX3_abandon_4 ⟨Nat.zero_le _, Nat.zero_le _⟩) hP hD hS hA [1, 2, 3, 4, 5, 6, 7, 8, 9, 10, 11] [.inr 0, .inl 0, .inl 1, .inl 2, .inl 3, .inl 4, .inl 5, .inl 6, .inl 7, .inl 8, .inl 9, .inl 10, .inr 12, .inr 13, .inr 14, .inr 15, .inr 16, .inr 17, .inr 18, .inr 19, .inr 20, .inr 21, .inr 22, .inr 23] rfl (by decide) (fun _ => rfl) (fun _ => rfl) (fun r2 u1 H locs h hP hD hS => ?_)
  refine lv_istore_n (lv' := [(1, .int r2), (0, .ref (a 0))]) hx hb dX3_abandon_7 rfl hl (by decide) rfl (fun ls hl => ?_)
  refine lv_iload_n hx hb dX3_abandon_8 rfl (lv_at hl 0 rfl) ?_
  refine lv_iconst (v := -1) hx hb dX3_abandon_9 (by decide) ?_
  refine lv_icmp_eq (tgt := 48) hx hb dX3_abandon_10 (by decide) (fun c3 => ?_) (fun c3 => ?_)
  · have h := h.1 c3
    exact W.vret hx hb hr (fun t ht hW => ⟨⟨(S.1, u1, S.2.2.1, S.2.2.2.1, S.2.2.2.2.1, S.2.2.2.2.2), rfl, h, by rw [ht]; exact hP, va_K.moved hW.alike hK, hD⟩, hS.F ht⟩) hS.2.2 dX3_abandon_48
  · have h := h.2 c3
    refine lv_aload_n hx hb dX3_abandon_13 rfl (lv_at hl 1 rfl) ?_
    refine va_get (D := D) (ci := 3) (v := .ref (a 15)) (C := RX3) (T := TX3) (N := 12) hx hb hts inX3 hown hK hP 0 rfl rfl 2 (by decide) (hts _ q_352) (fun _ h9 => h9) rfl dX3_abandon_14 ?_
    refine lv_dup hx hb dX3_abandon_17 rfl ?_
    refine va_get (D := D) (ci := 2) (v := .int (S.2.2.2.1.1 8)) (C := RX2) (T := TX2) (N := 14) hx hb hts inX2 hown hK hP 15 rfl rfl 8 (by decide) (hts _ q_231) (fun _ h9 => h9) rfl dX3_abandon_18 ?_
    refine lv_iconst (v := 1) hx hb dX3_abandon_21 (by decide) ?_
    refine lv_iadd hx hb dX3_abandon_22 ?_
    obtain ⟨T4, eT4⟩ : ∃ z : Ob, z = (si S.2.2.2.1 8 ((S.2.2.2.1.1 8) + 1)) := ⟨_, rfl⟩
    refine pu_f (ci := 2) (v := .int ((S.2.2.2.1.1 8) + 1)) (ty := .int) (C := RX2) (T := TX2) (N := 14) hx hb hts inX2 tyX2 tyX2_ok nmX2 hown hK hP hD hS 15 rfl rfl 8 (by decide) (hts _ q_231) (fun _ h9 => h9) rfl rfl rfl rfl (Nat.le_of_ble_eq_true rfl) dX3_abandon_23 (wX3 cI cZ a (S.1, u1, S.2.2.1, T4, S.2.2.2.2.1, S.2.2.2.2.2)) (by subst eT4; rfl) (fun H locs hP hD hS => ?_)
    have h := h T4 eT4
    refine lv_aload_n hx hb dX3_abandon_26 rfl (lv_at hl 1 rfl) ?_
    refine va_get (D := D) (ci := 3) (v := .ref (a 15)) (C := RX3) (T := TX3) (N := 12) hx hb hts inX3 hown hK hP 0 rfl rfl 2 (by decide) (hts _ q_352) (fun _ h9 => h9) rfl dX3_abandon_27 ?_
    refine lv_iconst (v := 4) hx hb dX3_abandon_30 (by decide) ?_
    refine lv_iload_n hx hb dX3_abandon_31 rfl (lv_at hl 0 rfl) ?_
    refine lv_aload_n hx hb dX3_abandon_32 rfl (lv_at hl 1 rfl) ?_
    refine va_get (D := D) (ci := 3) (v := .int (S.1 4)) (C := RX3) (T := TX3) (N := 12) hx hb hts inX3 hown hK hP 0 rfl rfl 4 (by decide) (hts _ q_356) (fun _ h9 => h9) rfl dX3_abandon_33 ?_
    refine lv_aload_n hx hb dX3_abandon_36 rfl (lv_at hl 1 rfl) ?_
    refine va_get (D := D) (ci := 3) (v := .int (S.1 6)) (C := RX3) (T := TX3) (N := 12) hx hb hts inX3 hown hK hP 0 rfl rfl 6 (by decide) (hts _ q_360) (fun _ h9 => h9) rfl dX3_abandon_37 ?_
    refine cl_v (ws' := fun u5 => (wX3 cI cZ a (S.1, u1, S.2.2.1, u5, S.2.2.2.2.1, S.2.2.2.2.2))) (va_runV (As := [.int 4, .int r2, .int (S.1 4), .int (S.1 6)]) (rest := []) ⟨hx, hb, hml, hown, hts⟩ (c_X2_record l D cI cZ (fun k => a (k + 15)) _ T4 4 r2 (S.1 4) (S.1 6) _ h ) (cwV 4 hts (gV q_559 q_560 q_561 q_72 q_562) rfl rfl rfl (by decide +kernel) ⟨Nat.le_of_ble_eq_true rfl, Nat.le_of_ble_eq_true rfl⟩) (preV_of (ci := 2) (q := (RX2, TX2, 14)) hK hP hD [15, 16, 17] rfl rfl (by decide) 15 rfl rfl) rfl rfl hl.1 rfl (lv_room (Nat.le_of_ble_eq_true rfl)) dX3_abandon_40 ⟨Nat.zero_le _, Nat.zero_le _⟩) hP hD hS hA [15, 16, 17] [.inr 0, .inr 1, .inr 2, .inr 3, .inr 4, .inr 5, .inr 6, .inr 7, .inr 8, .inr 9, .inr 10, .inr 11, .inr 12, .inr 13, .inr 14, .inl 0, .inl 1, .inl 2, .inr 18, .inr 19, .inr 20, .inr 21, .inr 22, .inr 23] rfl (by decide) (fun _ => rfl) (fun _ => rfl) (fun u5 H locs h hP hD hS => ?_)
    refine lv_aload_n hx hb dX3_abandon_43 rfl (lv_at hl 1 rfl) ?_
    refine lv_iconst (v := 2) hx hb dX3_abandon_44 (by decide) ?_
    refine cl_v (ws' := fun u6 => (wX3 cI cZ a u6)) (va_runV (As := [.int 2]) (rest := []) ⟨hx, hb, hml, hown, hts⟩ (c_X3_enter l D cI cZ a _ (S.1, u1, S.2.2.1, u5, S.2.2.2.2.1, S.2.2.2.2.2) 2 _ h ) (cwV 1 hts (gV q_539 q_541 q_2 q_68 q_542) rfl rfl rfl (by decide +kernel) ⟨Nat.le_of_ble_eq_true rfl, Nat.le_of_ble_eq_true rfl⟩) (preV_of (ci := 3) (q := (RX3, TX3, 12)) hK hP hD [0, 1, 2, 3, 4, 5, 6, 7, 8, 9, 10, 11, 12, 13, 14, 15, 16, 17, 18, 19, 20, 21, 22, 23] rfl rfl (by decide) 0 rfl rfl) rfl rfl hl.1 rfl (lv_room (Nat.le_of_ble_eq_true rfl)) dX3_abandon_45 ⟨Nat.zero_le _, Nat.zero_le _⟩) hP hD hS hA [0, 1, 2, 3, 4, 5, 6, 7, 8, 9, 10, 11, 12, 13, 14, 15, 16, 17, 18, 19, 20, 21, 22, 23] [.inl 0, .inl 1, .inl 2, .inl 3, .inl 4, .inl 5, .inl 6, .inl 7, .inl 8, .inl 9, .inl 10, .inl 11, .inl 12, .inl 13, .inl 14, .inl 15, .inl 16, .inl 17, .inl 18, .inl 19, .inl 20, .inl 21, .inl 22, .inl 23] rfl (by decide) (fun _ => rfl) (fun _ => rfl) (fun u6 H locs h hP hD hS => ?_)
    exact W.vret hx hb hr (fun t ht hW => ⟨⟨u6, rfl, h, by rw [ht]; exact hP, va_K.moved hW.alike hK, hD⟩, hS.F ht⟩) hS.2.2 dX3_abandon_48
/-! X3_turn -/
abbrev rmX3_turn : Room := { frames := 4, cells := 0, slots := 0, locals := 90 }
set_option maxHeartbeats 4000000 in
set_option maxRecDepth 100000 in
theorem c_X3_turn (l : Launch) (D : va_G) (cI cZ : ClassId) (a : Nat → Nat) (sz : Nat) (S : (Nat → Int32) × Ob × Ob × Ob × Ob × (Nat → Int32)) (Q : ((Nat → Int32) × Ob × Ob × Ob × Ob × (Nat → Int32)) → Prop) (h : wp_X3_turn S Q) : Met l yX3_turn (wsm yX3_turn cX3_turn 1 none) rmX3_turn (va_Pc [.ref (a 0)] (preW D cI cZ sz (wX3 cI cZ a S))) (va_Qv Q (fun u => atW D cI cZ (va_A (wX3 cI cZ a S) sz) (wX3 cI cZ a u)) (va_A (wX3 cI cZ a S) sz)) 0 0 (va_A (wX3 cI cZ a S) sz) := by
  refine Met.ofW (cc := cX3_turn) (maxL := 1) (ret := none) (by decide) rfl ?_
  intro p e s m args below meth c s₁ B hml hv
  obtain ⟨rfl, hsz, hP, hK, hD0⟩ := hv
  have hx := B.exec
  have hb := B.bytes
  have hr := B.returns
  have hts0 := atoms_spec (ws := wsm yX3_turn cX3_turn 1 none) B.pre
  have hts : ∀ w ∈ lw_all, w.before _ s = true := fun w h => hts0 w (List.mem_cons_of_mem _ h)
  have hown : s.vm.findClass RX3 = some m.cls := findClass_of_methodNamed B.named
  have hlocks := B.notSynchronized
  subst hsz
  have hD := hD0.self (sz := s.heap.size)
  generalize hAe : va_A (wX3 cI cZ a S) s.heap.size = A at hD ⊢
  have hA : ∀ q : Nat, s.heap.size ≤ q → A q := fun q h => by rw [← hAe]; exact Or.inr h
  have hS : va_S A s.heap s.heap [] := va_S.rf
  have hml2 := hml
  have hl := lv_entry ([.ref (a 0)]) (n := 1) (Nat.le_of_ble_eq_true rfl)
  rw [lg_entry_eq]
  generalize (lg_sl ([.ref (a 0)]) ++ List.replicate (1 - (lg_sl ([.ref (a 0)])).length) Slot.unset).toArray = ls at hl ⊢
  have hl : lv_has ls 1 [(0, .ref (a 0))] := hl
  unfold wp_X3_turn at h
  refine lv_aload_n hx hb dX3_turn_0 rfl (lv_at hl 0 rfl) ?_
  refine va_get (D := D) (ci := 3) (v := .int (S.1 5)) (C := RX3) (T := TX3) (N := 12) hx hb hts inX3 hown hK hP 0 rfl rfl 5 (by decide) (hts _ q_358) (fun _ h9 => h9) rfl dX3_turn_1 ?_
  refine lv_if_ne (tgt := 24) hx hb dX3_turn_4 (by decide) (fun c1 => ?_) (fun c1 => ?_)
  · have h := h.1 c1
    refine lv_aload_n hx hb dX3_turn_24 rfl (lv_at hl 0 rfl) ?_
    refine va_get (D := D) (ci := 3) (v := .int (S.1 5)) (C := RX3) (T := TX3) (N := 12) hx hb hts inX3 hown hK hP 0 rfl rfl 5 (by decide) (hts _ q_358) (fun _ h9 => h9) rfl dX3_turn_25 ?_
    refine lv_iconst (v := 3) hx hb dX3_turn_28 (by decide) ?_
    refine lv_icmp_ne (tgt := 43) hx hb dX3_turn_29 (by decide) (fun c2 => ?_) (fun c2 => ?_)
    · have h := h.1 c2
      exact W.vret hx hb hr (fun t ht hW => ⟨⟨S, rfl, h, by rw [ht]; exact hP, va_K.moved hW.alike hK, hD⟩, hS.F ht⟩) hS.2.2 dX3_turn_43
    · have h := h.2 c2
      refine lv_aload_n hx hb dX3_turn_32 rfl (lv_at hl 0 rfl) ?_
      refine va_get (D := D) (ci := 3) (v := .int (S.1 11)) (C := RX3) (T := TX3) (N := 12) hx hb hts inX3 hown hK hP 0 rfl rfl 11 (by decide) (hts _ q_367) (fun _ h9 => h9) rfl dX3_turn_33 ?_
      refine lv_if_ne (tgt := 43) hx hb dX3_turn_36 (by decide) (fun c3 => ?_) (fun c3 => ?_)
      · have h := h.1 c3
        exact W.vret hx hb hr (fun t ht hW => ⟨⟨S, rfl, h, by rw [ht]; exact hP, va_K.moved hW.alike hK, hD⟩, hS.F ht⟩) hS.2.2 dX3_turn_43
      · have h := h.2 c3
        refine lv_aload_n hx hb dX3_turn_39 rfl (lv_at hl 0 rfl) ?_
        refine cl_v (ws' := fun u4 => (wX3 cI cZ a u4)) (va_runV (As := []) (rest := []) ⟨hx, hb, hml, hown, hts⟩ (c_X3_abandon l D cI cZ a _ S _ h ) (cwV 0 hts (gV q_555 q_557 q_3 q_68 q_558) rfl rfl rfl (by decide +kernel) ⟨Nat.le_of_ble_eq_true rfl, Nat.le_of_ble_eq_true rfl⟩) (preV_of (ci := 3) (q := (RX3, TX3, 12)) hK hP hD [0, 1, 2, 3, 4, 5, 6, 7, 8, 9, 10, 11, 12, 13, 14, 15, 16, 17, 18, 19, 20, 21, 22, 23] rfl rfl (by decide) 0 rfl rfl) rfl rfl hl.1 rfl (lv_room (Nat.le_of_ble_eq_true rfl)) dX3_turn_40 ⟨Nat.zero_le _, Nat.zero_le _⟩) hP hD hS hA [0, 1, 2, 3, 4, 5, 6, 7, 8, 9, 10, 11, 12, 13, 14, 15, 16, 17, 18, 19, 20, 21, 22, 23] [.inl 0, .inl 1, .inl 2, .inl 3, .inl 4, .inl 5, .inl 6, .inl 7, .inl 8, .inl 9, .inl 10, .inl 11, .inl 12, .inl 13, .inl 14, .inl 15, .inl 16, .inl 17, .inl 18, .inl 19, .inl 20, .inl 21, .inl 22, .inl 23] rfl (by decide) (fun _ => rfl) (fun _ => rfl) (fun u4 H locs h hP hD hS => ?_)
        exact W.vret hx hb hr (fun t ht hW => ⟨⟨u4, rfl, h, by rw [ht]; exact hP, va_K.moved hW.alike hK, hD⟩, hS.F ht⟩) hS.2.2 dX3_turn_43
  · have h := h.2 c1
    refine lv_aload_n hx hb dX3_turn_7 rfl (lv_at hl 0 rfl) ?_
    refine va_get (D := D) (ci := 3) (v := .ref (a 18)) (C := RX3) (T := TX3) (N := 12) hx hb hts inX3 hown hK hP 0 rfl rfl 3 (by decide) (hts _ q_354) (fun _ h9 => h9) rfl dX3_turn_8 ?_
    refine va_get (D := D) (ci := 1) (v := .int (S.2.2.2.2.1.1 10)) (C := RX1) (T := TX1) (N := 14) hx hb hts inX1 hown hK hP 18 rfl rfl 10 (by decide) (hts _ q_308) (fun _ h9 => h9) rfl dX3_turn_11 ?_
    refine lv_if_ne (tgt := 24) hx hb dX3_turn_14 (by decide) (fun c5 => ?_) (fun c5 => ?_)
    · have h := h.1 c5
      refine lv_aload_n hx hb dX3_turn_24 rfl (lv_at hl 0 rfl) ?_
      refine va_get (D := D) (ci := 3) (v := .int (S.1 5)) (C := RX3) (T := TX3) (N := 12) hx hb hts inX3 hown hK hP 0 rfl rfl 5 (by decide) (hts _ q_358) (fun _ h9 => h9) rfl dX3_turn_25 ?_
      refine lv_iconst (v := 3) hx hb dX3_turn_28 (by decide) ?_
      refine lv_icmp_ne (tgt := 43) hx hb dX3_turn_29 (by decide) (fun c6 => ?_) (fun c6 => ?_)
      · have h := h.1 c6
        exact W.vret hx hb hr (fun t ht hW => ⟨⟨S, rfl, h, by rw [ht]; exact hP, va_K.moved hW.alike hK, hD⟩, hS.F ht⟩) hS.2.2 dX3_turn_43
      · have h := h.2 c6
        refine lv_aload_n hx hb dX3_turn_32 rfl (lv_at hl 0 rfl) ?_
        refine va_get (D := D) (ci := 3) (v := .int (S.1 11)) (C := RX3) (T := TX3) (N := 12) hx hb hts inX3 hown hK hP 0 rfl rfl 11 (by decide) (hts _ q_367) (fun _ h9 => h9) rfl dX3_turn_33 ?_
        refine lv_if_ne (tgt := 43) hx hb dX3_turn_36 (by decide) (fun c7 => ?_) (fun c7 => ?_)
        · have h := h.1 c7
          exact W.vret hx hb hr (fun t ht hW => ⟨⟨S, rfl, h, by rw [ht]; exact hP, va_K.moved hW.alike hK, hD⟩, hS.F ht⟩) hS.2.2 dX3_turn_43
        · have h := h.2 c7
          refine lv_aload_n hx hb dX3_turn_39 rfl (lv_at hl 0 rfl) ?_
          refine cl_v (ws' := fun u8 => (wX3 cI cZ a u8)) (va_runV (As := []) (rest := []) ⟨hx, hb, hml, hown, hts⟩ (c_X3_abandon l D cI cZ a _ S _ h ) (cwV 0 hts (gV q_555 q_557 q_3 q_68 q_558) rfl rfl rfl (by decide +kernel) ⟨Nat.le_of_ble_eq_true rfl, Nat.le_of_ble_eq_true rfl⟩) (preV_of (ci := 3) (q := (RX3, TX3, 12)) hK hP hD [0, 1, 2, 3, 4, 5, 6, 7, 8, 9, 10, 11, 12, 13, 14, 15, 16, 17, 18, 19, 20, 21, 22, 23] rfl rfl (by decide) 0 rfl rfl) rfl rfl hl.1 rfl (lv_room (Nat.le_of_ble_eq_true rfl)) dX3_turn_40 ⟨Nat.zero_le _, Nat.zero_le _⟩) hP hD hS hA [0, 1, 2, 3, 4, 5, 6, 7, 8, 9, 10, 11, 12, 13, 14, 15, 16, 17, 18, 19, 20, 21, 22, 23] [.inl 0, .inl 1, .inl 2, .inl 3, .inl 4, .inl 5, .inl 6, .inl 7, .inl 8, .inl 9, .inl 10, .inl 11, .inl 12, .inl 13, .inl 14, .inl 15, .inl 16, .inl 17, .inl 18, .inl 19, .inl 20, .inl 21, .inl 22, .inl 23] rfl (by decide) (fun _ => rfl) (fun _ => rfl) (fun u8 H locs h hP hD hS => ?_)
          exact W.vret hx hb hr (fun t ht hW => ⟨⟨u8, rfl, h, by rw [ht]; exact hP, va_K.moved hW.alike hK, hD⟩, hS.F ht⟩) hS.2.2 dX3_turn_43
    · have h := h.2 c5
      refine lv_aload_n hx hb dX3_turn_17 rfl (lv_at hl 0 rfl) ?_
      refine cl_v (ws' := fun u9 => (wX3 cI cZ a u9)) (va_runV (As := []) (rest := []) ⟨hx, hb, hml, hown, hts⟩ (c_X3_leaveRun l D cI cZ a _ S _ h ) (cwV 0 hts (gV q_519 q_521 q_1 q_68 q_522) rfl rfl rfl (by decide +kernel) ⟨Nat.le_of_ble_eq_true rfl, Nat.le_of_ble_eq_true rfl⟩) (preV_of (ci := 3) (q := (RX3, TX3, 12)) hK hP hD [0, 1, 2, 3, 4, 5, 6, 7, 8, 9, 10, 11, 12, 13, 14, 15, 16, 17, 18, 19, 20, 21, 22, 23] rfl rfl (by decide) 0 rfl rfl) rfl rfl hl.1 rfl (lv_room (Nat.le_of_ble_eq_true rfl)) dX3_turn_18 ⟨Nat.zero_le _, Nat.zero_le _⟩) hP hD hS hA [0, 1, 2, 3, 4, 5, 6, 7, 8, 9, 10, 11, 12, 13, 14, 15, 16, 17, 18, 19, 20, 21, 22, 23] [.inl 0, .inl 1, .inl 2, .inl 3, .inl 4, .inl 5, .inl 6, .inl 7, .inl 8, .inl 9, .inl 10, .inl 11, .inl 12, .inl 13, .inl 14, .inl 15, .inl 16, .inl 17, .inl 18, .inl 19, .inl 20, .inl 21, .inl 22, .inl 23] rfl (by decide) (fun _ => rfl) (fun _ => rfl) (fun u9 H locs h hP hD hS => ?_)
      refine lv_goto (tgt := 43) hx hb dX3_turn_21 (by decide) ?_
      exact W.vret hx hb hr (fun t ht hW => ⟨⟨u9, rfl, h, by rw [ht]; exact hP, va_K.moved hW.alike hK, hD⟩, hS.F ht⟩) hS.2.2 dX3_turn_43
/-! X3_raise -/
abbrev rmX3_raise : Room := { frames := 2, cells := 0, slots := 0, locals := 55 }
set_option maxHeartbeats 4000000 in
set_option maxRecDepth 100000 in
theorem c_X3_raise (l : Launch) (D : va_G) (cI cZ : ClassId) (a : Nat → Nat) (sz : Nat) (S : (Nat → Int32) × Ob × Ob × Ob × Ob × (Nat → Int32)) (p0 : Int32) (Q : ((Nat → Int32) × Ob × Ob × Ob × Ob × (Nat → Int32)) → Prop) (h : wp_X3_raise S p0 Q) : Met l yX3_raise (wsm yX3_raise cX3_raise 3 none) rmX3_raise (va_Pc [.ref (a 0), .int p0] (preW D cI cZ sz (wX3 cI cZ a S))) (va_Qv Q (fun u => atW D cI cZ (va_A (wX3 cI cZ a S) sz) (wX3 cI cZ a u)) (va_A (wX3 cI cZ a S) sz)) 0 0 (va_A (wX3 cI cZ a S) sz) := by
  refine Met.ofW (cc := cX3_raise) (maxL := 3) (ret := none) (by decide) rfl ?_
  intro p e s m args below meth c s₁ B hml hv
  obtain ⟨rfl, hsz, hP, hK, hD0⟩ := hv
  have hx := B.exec
  have hb := B.bytes
  have hr := B.returns
  have hts0 := atoms_spec (ws := wsm yX3_raise cX3_raise 3 none) B.pre
  have hts : ∀ w ∈ lw_all, w.before _ s = true := fun w h => hts0 w (List.mem_cons_of_mem _ h)
  have hown : s.vm.findClass RX3 = some m.cls := findClass_of_methodNamed B.named
  have hlocks := B.notSynchronized
  subst hsz
  have hD := hD0.self (sz := s.heap.size)
  generalize hAe : va_A (wX3 cI cZ a S) s.heap.size = A at hD ⊢
  have hA : ∀ q : Nat, s.heap.size ≤ q → A q := fun q h => by rw [← hAe]; exact Or.inr h
  have hS : va_S A s.heap s.heap [] := va_S.rf
  have hml2 := hml
  have hl := lv_entry ([.ref (a 0), .int p0]) (n := 3) (Nat.le_of_ble_eq_true rfl)
  rw [lg_entry_eq]
  generalize (lg_sl ([.ref (a 0), .int p0]) ++ List.replicate (3 - (lg_sl ([.ref (a 0), .int p0])).length) Slot.unset).toArray = ls at hl ⊢
  have hl : lv_has ls 3 [(0, .ref (a 0)), (1, .int p0)] := hl
  unfold wp_X3_raise at h
  refine lv_aload_n hx hb dX3_raise_0 rfl (lv_at hl 0 rfl) ?_
  refine va_get (D := D) (ci := 3) (v := .ref (a 1)) (C := RX3) (T := TX3) (N := 12) hx hb hts inX3 hown hK hP 0 rfl rfl 0 (by decide) (hts _ q_348) (fun _ h9 => h9) rfl dX3_raise_1 ?_
  refine lv_iload_n hx hb dX3_raise_4 rfl (lv_at hl 1 rfl) ?_
  refine cl_i (ws' := fun u1 => (wX3 cI cZ a (S.1, u1, S.2.2.1, S.2.2.2.1, S.2.2.2.2.1, S.2.2.2.2.2))) (va_runV (As := [.int p0]) (rest := []) ⟨hx, hb, hml, hown, hts⟩ (c_X5_takerOf l D cI cZ (fun k => a (k + 1)) _ S.2.1 p0 _ h ) (cwV 1 hts (gV q_614 q_615 q_616 q_69 q_617) rfl rfl rfl (by decide +kernel) ⟨Nat.le_of_ble_eq_true rfl, Nat.le_of_ble_eq_true rfl⟩) (preV_of (ci := 4) (q := (RX5, TX5, 16)) hK hP hD [1, 2, 3, 4, 5, 6, 7, 8, 9, 10, 11] rfl rfl (by decide) 1 rfl rfl) rfl rfl hl.1 rfl (lv_room (Nat.le_of_ble_eq_true rfl)) dX3_raise_5 ⟨Nat.zero_le _, Nat.zero_le _⟩) hP hD hS hA [1, 2, 3, 4, 5, 6, 7, 8, 9, 10, 11] [.inr 0, .inl 0, .inl 1, .inl 2, .inl 3, .inl 4, .inl 5, .inl 6, .inl 7, .inl 8, .inl 9, .inl 10, .inr 12, .inr 13, .inr 14, .inr 15, .inr 16, .inr 17, .inr 18, .inr 19, .inr 20, .inr 21, .inr 22, .inr 23] rfl (by decide) (fun _ => rfl) (fun _ => rfl) (fun r2 u1 H locs h hP hD hS => ?_)
  refine lv_istore_n (lv' := [(2, .int r2), (0, .ref (a 0)), (1, .int p0)]) hx hb dX3_raise_8 rfl hl (by decide) rfl (fun ls hl => ?_)
  refine lv_aload_n hx hb dX3_raise_9 rfl (lv_at hl 1 rfl) ?_
  refine va_get (D := D) (ci := 3) (v := .ref (a 15)) (C := RX3) (T := TX3) (N := 12) hx hb hts inX3 hown hK hP 0 rfl rfl 2 (by decide) (hts _ q_352) (fun _ h9 => h9) rfl dX3_raise_10 ?_
  refine lv_dup hx hb dX3_raise_13 rfl ?_
  refine va_get (D := D) (ci := 2) (v := .int (S.2.2.2.1.1 11)) (C := RX2) (T := TX2) (N := 14) hx hb hts inX2 hown hK hP 15 rfl rfl 11 (by decide) (hts _ q_240) (fun _ h9 => h9) rfl dX3_raise_14 ?_
  refine lv_iconst (v := 1) hx hb dX3_raise_17 (by decide) ?_
  refine lv_iadd hx hb dX3_raise_18 ?_
  obtain ⟨T3, eT3⟩ : ∃ z : Ob, z = (si S.2.2.2.1 11 ((S.2.2.2.1.1 11) + 1)) := ⟨_, rfl⟩
  refine pu_f (ci := 2) (v := .int ((S.2.2.2.1.1 11) + 1)) (ty := .int) (C := RX2) (T := TX2) (N := 14) hx hb hts inX2 tyX2 tyX2_ok nmX2 hown hK hP hD hS 15 rfl rfl 11 (by decide) (hts _ q_240) (fun _ h9 => h9) rfl rfl rfl rfl (Nat.le_of_ble_eq_true rfl) dX3_raise_19 (wX3 cI cZ a (S.1, u1, S.2.2.1, T3, S.2.2.2.2.1, S.2.2.2.2.2)) (by subst eT3; rfl) (fun H locs hP hD hS => ?_)
  have h := h T3 eT3
  refine lv_aload_n hx hb dX3_raise_22 rfl (lv_at hl 1 rfl) ?_
  refine va_get (D := D) (ci := 3) (v := .ref (a 15)) (C := RX3) (T := TX3) (N := 12) hx hb hts inX3 hown hK hP 0 rfl rfl 2 (by decide) (hts _ q_352) (fun _ h9 => h9) rfl dX3_raise_23 ?_
  refine lv_iconst (v := 3) hx hb dX3_raise_26 (by decide) ?_
  refine lv_iload_n hx hb dX3_raise_27 rfl (lv_at hl 0 rfl) ?_
  refine lv_aload_n hx hb dX3_raise_28 rfl (lv_at hl 1 rfl) ?_
  refine va_get (D := D) (ci := 3) (v := .int (S.1 4)) (C := RX3) (T := TX3) (N := 12) hx hb hts inX3 hown hK hP 0 rfl rfl 4 (by decide) (hts _ q_356) (fun _ h9 => h9) rfl dX3_raise_29 ?_
  refine lv_aload_n hx hb dX3_raise_32 rfl (lv_at hl 1 rfl) ?_
  refine va_get (D := D) (ci := 3) (v := .ref (a 18)) (C := RX3) (T := TX3) (N := 12) hx hb hts inX3 hown hK hP 0 rfl rfl 3 (by decide) (hts _ q_354) (fun _ h9 => h9) rfl dX3_raise_33 ?_
  refine va_get (D := D) (ci := 1) (v := .int (S.2.2.2.2.1.1 5)) (C := RX1) (T := TX1) (N := 14) hx hb hts inX1 hown hK hP 18 rfl rfl 5 (by decide) (hts _ q_294) (fun _ h9 => h9) rfl dX3_raise_36 ?_
  refine cl_v (ws' := fun u4 => (wX3 cI cZ a (S.1, u1, S.2.2.1, u4, S.2.2.2.2.1, S.2.2.2.2.2))) (va_runV (As := [.int 3, .int r2, .int (S.1 4), .int (S.2.2.2.2.1.1 5)]) (rest := []) ⟨hx, hb, hml, hown, hts⟩ (c_X2_record l D cI cZ (fun k => a (k + 15)) _ T3 3 r2 (S.1 4) (S.2.2.2.2.1.1 5) _ h ) (cwV 4 hts (gV q_559 q_560 q_561 q_72 q_562) rfl rfl rfl (by decide +kernel) ⟨Nat.le_of_ble_eq_true rfl, Nat.le_of_ble_eq_true rfl⟩) (preV_of (ci := 2) (q := (RX2, TX2, 14)) hK hP hD [15, 16, 17] rfl rfl (by decide) 15 rfl rfl) rfl rfl hl.1 rfl (lv_room (Nat.le_of_ble_eq_true rfl)) dX3_raise_39 ⟨Nat.zero_le _, Nat.zero_le _⟩) hP hD hS hA [15, 16, 17] [.inr 0, .inr 1, .inr 2, .inr 3, .inr 4, .inr 5, .inr 6, .inr 7, .inr 8, .inr 9, .inr 10, .inr 11, .inr 12, .inr 13, .inr 14, .inl 0, .inl 1, .inl 2, .inr 18, .inr 19, .inr 20, .inr 21, .inr 22, .inr 23] rfl (by decide) (fun _ => rfl) (fun _ => rfl) (fun u4 H locs h hP hD hS => ?_)
  refine lv_iload_n hx hb dX3_raise_42 rfl (lv_at hl 0 rfl) ?_
  refine lv_iconst (v := -1) hx hb dX3_raise_43 (by decide) ?_
  refine lv_icmp_ne (tgt := 53) hx hb dX3_raise_44 (by decide) (fun c5 => ?_) (fun c5 => ?_)
  · have h := h.1 c5
    refine lv_iload_n hx hb dX3_raise_53 rfl (lv_at hl 0 rfl) ?_
    refine lv_bipush (v := 20) hx hb dX3_raise_54 (by decide) ?_
    refine lv_icmp_ne (tgt := 72) hx hb dX3_raise_56 (by decide) (fun c6 => ?_) (fun c6 => ?_)
    · have h := h.1 c6
      refine lv_aload_n hx hb dX3_raise_72 rfl (lv_at hl 1 rfl) ?_
      refine va_get (D := D) (ci := 3) (v := .ref (a 1)) (C := RX3) (T := TX3) (N := 12) hx hb hts inX3 hown hK hP 0 rfl rfl 0 (by decide) (hts _ q_348) (fun _ h9 => h9) rfl dX3_raise_73 ?_
      refine lv_iload_n hx hb dX3_raise_76 rfl (lv_at hl 0 rfl) ?_
      refine lv_aload_n hx hb dX3_raise_77 rfl (lv_at hl 1 rfl) ?_
      refine va_get (D := D) (ci := 3) (v := .int (S.1 4)) (C := RX3) (T := TX3) (N := 12) hx hb hts inX3 hown hK hP 0 rfl rfl 4 (by decide) (hts _ q_356) (fun _ h9 => h9) rfl dX3_raise_78 ?_
      refine cl_i (ws' := fun u7 => (wX3 cI cZ a (S.1, u7, S.2.2.1, u4, S.2.2.2.2.1, S.2.2.2.2.2))) (va_runV (As := [.int r2, .int (S.1 4)]) (rest := []) ⟨hx, hb, hml, hown, hts⟩ (c_X5_request l D cI cZ (fun k => a (k + 1)) _ u1 r2 (S.1 4) _ h ) (cwV 2 hts (gV q_618 q_471 q_472 q_69 q_473) rfl rfl rfl (by decide +kernel) ⟨Nat.le_of_ble_eq_true rfl, Nat.le_of_ble_eq_true rfl⟩) (preV_of (ci := 4) (q := (RX5, TX5, 16)) hK hP hD [1, 2, 3, 4, 5, 6, 7, 8, 9, 10, 11] rfl rfl (by decide) 1 rfl rfl) rfl rfl hl.1 rfl (lv_room (Nat.le_of_ble_eq_true rfl)) dX3_raise_81 ⟨Nat.zero_le _, Nat.zero_le _⟩) hP hD hS hA [1, 2, 3, 4, 5, 6, 7, 8, 9, 10, 11] [.inr 0, .inl 0, .inl 1, .inl 2, .inl 3, .inl 4, .inl 5, .inl 6, .inl 7, .inl 8, .inl 9, .inl 10, .inr 12, .inr 13, .inr 14, .inr 15, .inr 16, .inr 17, .inr 18, .inr 19, .inr 20, .inr 21, .inr 22, .inr 23] rfl (by decide) (fun _ => rfl) (fun _ => rfl) (fun r8 u7 H locs h hP hD hS => ?_)
      refine lv_pop hx hb dX3_raise_84 rfl ?_
      exact W.vret hx hb hr (fun t ht hW => ⟨⟨(S.1, u7, S.2.2.1, u4, S.2.2.2.2.1, S.2.2.2.2.2), rfl, h, by rw [ht]; exact hP, va_K.moved hW.alike hK, hD⟩, hS.F ht⟩) hS.2.2 dX3_raise_85
    · have h := h.2 c6
      refine lv_aload_n hx hb dX3_raise_59 rfl (lv_at hl 1 rfl) ?_
      refine va_get (D := D) (ci := 3) (v := .ref (a 15)) (C := RX3) (T := TX3) (N := 12) hx hb hts inX3 hown hK hP 0 rfl rfl 2 (by decide) (hts _ q_352) (fun _ h9 => h9) rfl dX3_raise_60 ?_
      refine lv_dup hx hb dX3_raise_63 rfl ?_
      refine va_get (D := D) (ci := 2) (v := .int (u4.1 12)) (C := RX2) (T := TX2) (N := 14) hx hb hts inX2 hown hK hP 15 rfl rfl 12 (by decide) (hts _ q_243) (fun _ h9 => h9) rfl dX3_raise_64 ?_
      refine lv_iconst (v := 1) hx hb dX3_raise_67 (by decide) ?_
      refine lv_iadd hx hb dX3_raise_68 ?_
      obtain ⟨T9, eT9⟩ : ∃ z : Ob, z = (si u4 12 ((u4.1 12) + 1)) := ⟨_, rfl⟩
      refine pu_f (ci := 2) (v := .int ((u4.1 12) + 1)) (ty := .int) (C := RX2) (T := TX2) (N := 14) hx hb hts inX2 tyX2 tyX2_ok nmX2 hown hK hP hD hS 15 rfl rfl 12 (by decide) (hts _ q_243) (fun _ h9 => h9) rfl rfl rfl rfl (Nat.le_of_ble_eq_true rfl) dX3_raise_69 (wX3 cI cZ a (S.1, u1, S.2.2.1, T9, S.2.2.2.2.1, S.2.2.2.2.2)) (by subst eT9; rfl) (fun H locs hP hD hS => ?_)
      have h := h T9 eT9
      refine lv_aload_n hx hb dX3_raise_72 rfl (lv_at hl 1 rfl) ?_
      refine va_get (D := D) (ci := 3) (v := .ref (a 1)) (C := RX3) (T := TX3) (N := 12) hx hb hts inX3 hown hK hP 0 rfl rfl 0 (by decide) (hts _ q_348) (fun _ h9 => h9) rfl dX3_raise_73 ?_
      refine lv_iload_n hx hb dX3_raise_76 rfl (lv_at hl 0 rfl) ?_
      refine lv_aload_n hx hb dX3_raise_77 rfl (lv_at hl 1 rfl) ?_
      refine va_get (D := D) (ci := 3) (v := .int (S.1 4)) (C := RX3) (T := TX3) (N := 12) hx hb hts inX3 hown hK hP 0 rfl rfl 4 (by decide) (hts _ q_356) (fun _ h9 => h9) rfl dX3_raise_78 ?_
      refine cl_i (ws' := fun u10 => (wX3 cI cZ a (S.1, u10, S.2.2.1, T9, S.2.2.2.2.1, S.2.2.2.2.2))) (va_runV (As := [.int r2, .int (S.1 4)]) (rest := []) ⟨hx, hb, hml, hown, hts⟩ (c_X5_request l D cI cZ (fun k => a (k + 1)) _ u1 r2 (S.1 4) _ h ) (cwV 2 hts (gV q_618 q_471 q_472 q_69 q_473) rfl rfl rfl (by decide +kernel) ⟨Nat.le_of_ble_eq_true rfl, Nat.le_of_ble_eq_true rfl⟩) (preV_of (ci := 4) (q := (RX5, TX5, 16)) hK hP hD [1, 2, 3, 4, 5, 6, 7, 8, 9, 10, 11] rfl rfl (by decide) 1 rfl rfl) rfl rfl hl.1 rfl (lv_room (Nat.le_of_ble_eq_true rfl)) dX3_raise_81 ⟨Nat.zero_le _, Nat.zero_le _⟩) hP hD hS hA [1, 2, 3, 4, 5, 6, 7, 8, 9, 10, 11] [.inr 0, .inl 0, .inl 1, .inl 2, .inl 3, .inl 4, .inl 5, .inl 6, .inl 7, .inl 8, .inl 9, .inl 10, .inr 12, .inr 13, .inr 14, .inr 15, .inr 16, .inr 17, .inr 18, .inr 19, .inr 20, .inr 21, .inr 22, .inr 23] rfl (by decide) (fun _ => rfl) (fun _ => rfl) (fun r11 u10 H locs h hP hD hS => ?_)
      refine lv_pop hx hb dX3_raise_84 rfl ?_
      exact W.vret hx hb hr (fun t ht hW => ⟨⟨(S.1, u10, S.2.2.1, T9, S.2.2.2.2.1, S.2.2.2.2.2), rfl, h, by rw [ht]; exact hP, va_K.moved hW.alike hK, hD⟩, hS.F ht⟩) hS.2.2 dX3_raise_85
  · have h := h.2 c5
    refine lv_aload_n hx hb dX3_raise_47 rfl (lv_at hl 1 rfl) ?_
    refine lv_iconst (v := 5) hx hb dX3_raise_48 (by decide) ?_
    refine cl_v (ws' := fun u12 => (wX3 cI cZ a u12)) (va_runV (As := [.int 5]) (rest := []) ⟨hx, hb, hml, hown, hts⟩ (c_X3_enter l D cI cZ a _ (S.1, u1, S.2.2.1, u4, S.2.2.2.2.1, S.2.2.2.2.2) 5 _ h ) (cwV 1 hts (gV q_539 q_541 q_2 q_68 q_542) rfl rfl rfl (by decide +kernel) ⟨Nat.le_of_ble_eq_true rfl, Nat.le_of_ble_eq_true rfl⟩) (preV_of (ci := 3) (q := (RX3, TX3, 12)) hK hP hD [0, 1, 2, 3, 4, 5, 6, 7, 8, 9, 10, 11, 12, 13, 14, 15, 16, 17, 18, 19, 20, 21, 22, 23] rfl rfl (by decide) 0 rfl rfl) rfl rfl hl.1 rfl (lv_room (Nat.le_of_ble_eq_true rfl)) dX3_raise_49 ⟨Nat.zero_le _, Nat.zero_le _⟩) hP hD hS hA [0, 1, 2, 3, 4, 5, 6, 7, 8, 9, 10, 11, 12, 13, 14, 15, 16, 17, 18, 19, 20, 21, 22, 23] [.inl 0, .inl 1, .inl 2, .inl 3, .inl 4, .inl 5, .inl 6, .inl 7, .inl 8, .inl 9, .inl 10, .inl 11, .inl 12, .inl 13, .inl 14, .inl 15, .inl 16, .inl 17, .inl 18, .inl 19, .inl 20, .inl 21, .inl 22, .inl 23] rfl (by decide) (fun _ => rfl) (fun _ => rfl) (fun u12 H locs h hP hD hS => ?_)
    exact W.vret hx hb hr (fun t ht hW => ⟨⟨u12, rfl, h, by rw [ht]; exact hP, va_K.moved hW.alike hK, hD⟩, hS.F ht⟩) hS.2.2 dX3_raise_52
/-! X3_endInnermost -/
abbrev rmX3_endInnermost : Room := { frames := 3, cells := 0, slots := 0, locals := 69 }
set_option maxHeartbeats 4000000 in
set_option maxRecDepth 100000 in
theorem c_X3_endInnermost (l : Launch) (D : va_G) (cI cZ : ClassId) (a : Nat → Nat) (sz : Nat) (S : (Nat → Int32) × Ob × Ob × Ob × Ob × (Nat → Int32)) (Q : ((Nat → Int32) × Ob × Ob × Ob × Ob × (Nat → Int32)) → Prop) (h : wp_X3_endInnermost S Q) : Met l yX3_endInnermost (wsm yX3_endInnermost cX3_endInnermost 2 none) rmX3_endInnermost (va_Pc [.ref (a 0)] (preW D cI cZ sz (wX3 cI cZ a S))) (va_Qv Q (fun u => atW D cI cZ (va_A (wX3 cI cZ a S) sz) (wX3 cI cZ a u)) (va_A (wX3 cI cZ a S) sz)) 0 0 (va_A (wX3 cI cZ a S) sz) := by
  refine Met.ofW (cc := cX3_endInnermost) (maxL := 2) (ret := none) (by decide) rfl ?_
  intro p e s m args below meth c s₁ B hml hv
  obtain ⟨rfl, hsz, hP, hK, hD0⟩ := hv
  have hx := B.exec
  have hb := B.bytes
  have hr := B.returns
  have hts0 := atoms_spec (ws := wsm yX3_endInnermost cX3_endInnermost 2 none) B.pre
  have hts : ∀ w ∈ lw_all, w.before _ s = true := fun w h => hts0 w (List.mem_cons_of_mem _ h)
  have hown : s.vm.findClass RX3 = some m.cls := findClass_of_methodNamed B.named
  have hlocks := B.notSynchronized
  subst hsz
  have hD := hD0.self (sz := s.heap.size)
  generalize hAe : va_A (wX3 cI cZ a S) s.heap.size = A at hD ⊢
  have hA : ∀ q : Nat, s.heap.size ≤ q → A q := fun q h => by rw [← hAe]; exact Or.inr h
  have hS : va_S A s.heap s.heap [] := va_S.rf
  have hml2 := hml
  have hl := lv_entry ([.ref (a 0)]) (n := 2) (Nat.le_of_ble_eq_true rfl)
  rw [lg_entry_eq]
  generalize (lg_sl ([.ref (a 0)]) ++ List.replicate (2 - (lg_sl ([.ref (a 0)])).length) Slot.unset).toArray = ls at hl ⊢
  have hl : lv_has ls 2 [(0, .ref (a 0))] := hl
  unfold wp_X3_endInnermost at h
  refine lv_aload_n hx hb dX3_endInnermost_0 rfl (lv_at hl 0 rfl) ?_
  refine va_get (D := D) (ci := 3) (v := .ref (a 1)) (C := RX3) (T := TX3) (N := 12) hx hb hts inX3 hown hK hP 0 rfl rfl 0 (by decide) (hts _ q_348) (fun _ h9 => h9) rfl dX3_endInnermost_1 ?_
  refine cl_i (ws' := fun u1 => (wX3 cI cZ a (S.1, u1, S.2.2.1, S.2.2.2.1, S.2.2.2.2.1, S.2.2.2.2.2))) (va_runV (As := []) (rest := []) ⟨hx, hb, hml, hown, hts⟩ (c_X5_innermost l D cI cZ (fun k => a (k + 1)) _ S.2.1 _ h ) (cwV 0 hts (gV q_643 q_644 q_645 q_69 q_646) rfl rfl rfl (by decide +kernel) ⟨Nat.le_of_ble_eq_true rfl, Nat.le_of_ble_eq_true rfl⟩) (preV_of (ci := 4) (q := (RX5, TX5, 16)) hK hP hD [1, 2, 3, 4, 5, 6, 7, 8, 9, 10, 11] rfl rfl (by decide) 1 rfl rfl) rfl rfl hl.1 rfl (lv_room (Nat.le_of_ble_eq_true rfl)) dX3_endInnermost_4 ⟨Nat.zero_le _, Nat.zero_le _⟩) hP hD hS hA [1, 2, 3, 4, 5, 6, 7, 8, 9, 10, 11] [.inr 0, .inl 0, .inl 1, .inl 2, .inl 3, .inl 4, .inl 5, .inl 6, .inl 7, .inl 8, .inl 9, .inl 10, .inr 12, .inr 13, .inr 14, .inr 15, .inr 16, .inr 17, .inr 18, .inr 19, .inr 20, .inr 21, .inr 22, .inr 23] rfl (by decide) (fun _ => rfl) (fun _ => rfl) (fun r2 u1 H locs h hP hD hS => ?_)
  refine lv_istore_n (lv' := [(1, .int r2), (0, .ref (a 0))]) hx hb dX3_endInnermost_7 rfl hl (by decide) rfl (fun ls hl => ?_)
  refine lv_iload_n hx hb dX3_endInnermost_8 rfl (lv_at hl 0 rfl) ?_
  refine lv_iconst (v := -1) hx hb dX3_endInnermost_9 (by decide) ?_
  refine lv_icmp_ne (tgt := 14) hx hb dX3_endInnermost_10 (by decide) (fun c3 => ?_) (fun c3 => ?_)
  · have h := h.1 c3
    refine lv_aload_n hx hb dX3_endInnermost_14 rfl (lv_at hl 1 rfl) ?_
    refine va_get (D := D) (ci := 3) (v := .ref (a 15)) (C := RX3) (T := TX3) (N := 12) hx hb hts inX3 hown hK hP 0 rfl rfl 2 (by decide) (hts _ q_352) (fun _ h9 => h9) rfl dX3_endInnermost_15 ?_
    refine lv_iconst (v := 2) hx hb dX3_endInnermost_18 (by decide) ?_
    refine lv_iload_n hx hb dX3_endInnermost_19 rfl (lv_at hl 0 rfl) ?_
    refine lv_aload_n hx hb dX3_endInnermost_20 rfl (lv_at hl 1 rfl) ?_
    refine va_get (D := D) (ci := 3) (v := .int (S.1 4)) (C := RX3) (T := TX3) (N := 12) hx hb hts inX3 hown hK hP 0 rfl rfl 4 (by decide) (hts _ q_356) (fun _ h9 => h9) rfl dX3_endInnermost_21 ?_
    refine lv_aload_n hx hb dX3_endInnermost_24 rfl (lv_at hl 1 rfl) ?_
    refine va_get (D := D) (ci := 3) (v := .int (S.1 4)) (C := RX3) (T := TX3) (N := 12) hx hb hts inX3 hown hK hP 0 rfl rfl 4 (by decide) (hts _ q_356) (fun _ h9 => h9) rfl dX3_endInnermost_25 ?_
    refine lv_aload_n hx hb dX3_endInnermost_28 rfl (lv_at hl 1 rfl) ?_
    refine va_get (D := D) (ci := 3) (v := .ref (a 1)) (C := RX3) (T := TX3) (N := 12) hx hb hts inX3 hown hK hP 0 rfl rfl 0 (by decide) (hts _ q_348) (fun _ h9 => h9) rfl dX3_endInnermost_29 ?_
    refine va_get (D := D) (ci := 4) (v := .ref (a 9)) (C := RX5) (T := TX5) (N := 16) hx hb hts inX5 hown hK hP 1 rfl rfl 7 (by decide) (hts _ q_126) (fun _ h9 => h9) rfl dX3_endInnermost_32 ?_
    refine lv_iload_n hx hb dX3_endInnermost_35 rfl (lv_at hl 0 rfl) ?_
    refine ar_il (f := (u1.2 7)) (n := 21) (j := (Int32.toNatClampNeg r2)) hx hb hK hP 9 rfl rfl h.1 dX3_endInnermost_36 ?_
    have h := h.2
    refine lv_isub hx hb dX3_endInnermost_37 ?_
    refine cl_v (ws' := fun u4 => (wX3 cI cZ a (S.1, u1, S.2.2.1, u4, S.2.2.2.2.1, S.2.2.2.2.2))) (va_runV (As := [.int 2, .int r2, .int (S.1 4), .int ((S.1 4) - ((u1.2 7) (Int32.toNatClampNeg r2)))]) (rest := []) ⟨hx, hb, hml, hown, hts⟩ (c_X2_record l D cI cZ (fun k => a (k + 15)) _ S.2.2.2.1 2 r2 (S.1 4) ((S.1 4) - ((u1.2 7) (Int32.toNatClampNeg r2))) _ h ) (cwV 4 hts (gV q_559 q_560 q_561 q_72 q_562) rfl rfl rfl (by decide +kernel) ⟨Nat.le_of_ble_eq_true rfl, Nat.le_of_ble_eq_true rfl⟩) (preV_of (ci := 2) (q := (RX2, TX2, 14)) hK hP hD [15, 16, 17] rfl rfl (by decide) 15 rfl rfl) rfl rfl hl.1 rfl (lv_room (Nat.le_of_ble_eq_true rfl)) dX3_endInnermost_38 ⟨Nat.zero_le _, Nat.zero_le _⟩) hP hD hS hA [15, 16, 17] [.inr 0, .inr 1, .inr 2, .inr 3, .inr 4, .inr 5, .inr 6, .inr 7, .inr 8, .inr 9, .inr 10, .inr 11, .inr 12, .inr 13, .inr 14, .inl 0, .inl 1, .inl 2, .inr 18, .inr 19, .inr 20, .inr 21, .inr 22, .inr 23] rfl (by decide) (fun _ => rfl) (fun _ => rfl) (fun u4 H locs h hP hD hS => ?_)
    refine lv_aload_n hx hb dX3_endInnermost_41 rfl (lv_at hl 1 rfl) ?_
    refine va_get (D := D) (ci := 3) (v := .ref (a 1)) (C := RX3) (T := TX3) (N := 12) hx hb hts inX3 hown hK hP 0 rfl rfl 0 (by decide) (hts _ q_348) (fun _ h9 => h9) rfl dX3_endInnermost_42 ?_
    refine lv_aload_n hx hb dX3_endInnermost_45 rfl (lv_at hl 1 rfl) ?_
    refine va_get (D := D) (ci := 3) (v := .int (S.1 4)) (C := RX3) (T := TX3) (N := 12) hx hb hts inX3 hown hK hP 0 rfl rfl 4 (by decide) (hts _ q_356) (fun _ h9 => h9) rfl dX3_endInnermost_46 ?_
    refine cl_v (ws' := fun u5 => (wX3 cI cZ a (S.1, u5, S.2.2.1, u4, S.2.2.2.2.1, S.2.2.2.2.2))) (va_runV (As := [.int (S.1 4)]) (rest := []) ⟨hx, hb, hml, hown, hts⟩ (c_X5_endInnermost l D cI cZ (fun k => a (k + 1)) _ u1 (S.1 4) _ h ) (cwV 1 hts (gV q_647 q_648 q_649 q_69 q_650) rfl rfl rfl (by decide +kernel) ⟨Nat.le_of_ble_eq_true rfl, Nat.le_of_ble_eq_true rfl⟩) (preV_of (ci := 4) (q := (RX5, TX5, 16)) hK hP hD [1, 2, 3, 4, 5, 6, 7, 8, 9, 10, 11] rfl rfl (by decide) 1 rfl rfl) rfl rfl hl.1 rfl (lv_room (Nat.le_of_ble_eq_true rfl)) dX3_endInnermost_49 ⟨Nat.zero_le _, Nat.zero_le _⟩) hP hD hS hA [1, 2, 3, 4, 5, 6, 7, 8, 9, 10, 11] [.inr 0, .inl 0, .inl 1, .inl 2, .inl 3, .inl 4, .inl 5, .inl 6, .inl 7, .inl 8, .inl 9, .inl 10, .inr 12, .inr 13, .inr 14, .inr 15, .inr 16, .inr 17, .inr 18, .inr 19, .inr 20, .inr 21, .inr 22, .inr 23] rfl (by decide) (fun _ => rfl) (fun _ => rfl) (fun u5 H locs h hP hD hS => ?_)
    refine lv_aload_n hx hb dX3_endInnermost_52 rfl (lv_at hl 1 rfl) ?_
    refine lv_aload_n hx hb dX3_endInnermost_53 rfl (lv_at hl 1 rfl) ?_
    refine va_get (D := D) (ci := 3) (v := .int (S.1 11)) (C := RX3) (T := TX3) (N := 12) hx hb hts inX3 hown hK hP 0 rfl rfl 11 (by decide) (hts _ q_367) (fun _ h9 => h9) rfl dX3_endInnermost_54 ?_
    refine lv_if_ne (tgt := 75) hx hb dX3_endInnermost_57 (by decide) (fun c6 => ?_) (fun c6 => ?_)
    · have h := h.1 c6
      refine lv_iconst (v := 3) hx hb dX3_endInnermost_75 (by decide) ?_
      refine cl_v (ws' := fun u7 => (wX3 cI cZ a u7)) (va_runV (As := [.int 3]) (rest := []) ⟨hx, hb, hml, hown, hts⟩ (c_X3_enter l D cI cZ a _ (S.1, u5, S.2.2.1, u4, S.2.2.2.2.1, S.2.2.2.2.2) 3 _ h ) (cwV 1 hts (gV q_539 q_541 q_2 q_68 q_542) rfl rfl rfl (by decide +kernel) ⟨Nat.le_of_ble_eq_true rfl, Nat.le_of_ble_eq_true rfl⟩) (preV_of (ci := 3) (q := (RX3, TX3, 12)) hK hP hD [0, 1, 2, 3, 4, 5, 6, 7, 8, 9, 10, 11, 12, 13, 14, 15, 16, 17, 18, 19, 20, 21, 22, 23] rfl rfl (by decide) 0 rfl rfl) rfl rfl hl.1 rfl (lv_room (Nat.le_of_ble_eq_true rfl)) dX3_endInnermost_76 ⟨Nat.zero_le _, Nat.zero_le _⟩) hP hD hS hA [0, 1, 2, 3, 4, 5, 6, 7, 8, 9, 10, 11, 12, 13, 14, 15, 16, 17, 18, 19, 20, 21, 22, 23] [.inl 0, .inl 1, .inl 2, .inl 3, .inl 4, .inl 5, .inl 6, .inl 7, .inl 8, .inl 9, .inl 10, .inl 11, .inl 12, .inl 13, .inl 14, .inl 15, .inl 16, .inl 17, .inl 18, .inl 19, .inl 20, .inl 21, .inl 22, .inl 23] rfl (by decide) (fun _ => rfl) (fun _ => rfl) (fun u7 H locs h hP hD hS => ?_)
      exact W.vret hx hb hr (fun t ht hW => ⟨⟨u7, rfl, h, by rw [ht]; exact hP, va_K.moved hW.alike hK, hD⟩, hS.F ht⟩) hS.2.2 dX3_endInnermost_79
    · have h := h.2 c6
      refine lv_aload_n hx hb dX3_endInnermost_60 rfl (lv_at hl 1 rfl) ?_
      refine va_get (D := D) (ci := 3) (v := .ref (a 1)) (C := RX3) (T := TX3) (N := 12) hx hb hts inX3 hown hK hP 0 rfl rfl 0 (by decide) (hts _ q_348) (fun _ h9 => h9) rfl dX3_endInnermost_61 ?_
      refine cl_i (ws' := fun u8 => (wX3 cI cZ a (S.1, u8, S.2.2.1, u4, S.2.2.2.2.1, S.2.2.2.2.2))) (va_runV (As := []) (rest := [.ref (a 0)]) ⟨hx, hb, hml, hown, hts⟩ (c_X5_next l D cI cZ (fun k => a (k + 1)) _ u5 _ h ) (cwV 0 hts (gV q_523 q_524 q_525 q_69 q_526) rfl rfl rfl (by decide +kernel) ⟨Nat.le_of_ble_eq_true rfl, Nat.le_of_ble_eq_true rfl⟩) (preV_of (ci := 4) (q := (RX5, TX5, 16)) hK hP hD [1, 2, 3, 4, 5, 6, 7, 8, 9, 10, 11] rfl rfl (by decide) 1 rfl rfl) rfl rfl hl.1 rfl (lv_room (Nat.le_of_ble_eq_true rfl)) dX3_endInnermost_64 ⟨Nat.zero_le _, Nat.zero_le _⟩) hP hD hS hA [1, 2, 3, 4, 5, 6, 7, 8, 9, 10, 11] [.inr 0, .inl 0, .inl 1, .inl 2, .inl 3, .inl 4, .inl 5, .inl 6, .inl 7, .inl 8, .inl 9, .inl 10, .inr 12, .inr 13, .inr 14, .inr 15, .inr 16, .inr 17, .inr 18, .inr 19, .inr 20, .inr 21, .inr 22, .inr 23] rfl (by decide) (fun _ => rfl) (fun _ => rfl) (fun r9 u8 H locs h hP hD hS => ?_)
      refine lv_iconst (v := -1) hx hb dX3_endInnermost_67 (by decide) ?_
      refine lv_icmp_eq (tgt := 75) hx hb dX3_endInnermost_68 (by decide) (fun c10 => ?_) (fun c10 => ?_)
      · have h := h.1 c10
        refine lv_iconst (v := 3) hx hb dX3_endInnermost_75 (by decide) ?_
        refine cl_v (ws' := fun u11 => (wX3 cI cZ a u11)) (va_runV (As := [.int 3]) (rest := []) ⟨hx, hb, hml, hown, hts⟩ (c_X3_enter l D cI cZ a _ (S.1, u8, S.2.2.1, u4, S.2.2.2.2.1, S.2.2.2.2.2) 3 _ h ) (cwV 1 hts (gV q_539 q_541 q_2 q_68 q_542) rfl rfl rfl (by decide +kernel) ⟨Nat.le_of_ble_eq_true rfl, Nat.le_of_ble_eq_true rfl⟩) (preV_of (ci := 3) (q := (RX3, TX3, 12)) hK hP hD [0, 1, 2, 3, 4, 5, 6, 7, 8, 9, 10, 11, 12, 13, 14, 15, 16, 17, 18, 19, 20, 21, 22, 23] rfl rfl (by decide) 0 rfl rfl) rfl rfl hl.1 rfl (lv_room (Nat.le_of_ble_eq_true rfl)) dX3_endInnermost_76 ⟨Nat.zero_le _, Nat.zero_le _⟩) hP hD hS hA [0, 1, 2, 3, 4, 5, 6, 7, 8, 9, 10, 11, 12, 13, 14, 15, 16, 17, 18, 19, 20, 21, 22, 23] [.inl 0, .inl 1, .inl 2, .inl 3, .inl 4, .inl 5, .inl 6, .inl 7, .inl 8, .inl 9, .inl 10, .inl 11, .inl 12, .inl 13, .inl 14, .inl 15, .inl 16, .inl 17, .inl 18, .inl 19, .inl 20, .inl 21, .inl 22, .inl 23] rfl (by decide) (fun _ => rfl) (fun _ => rfl) (fun u11 H locs h hP hD hS => ?_)
        exact W.vret hx hb hr (fun t ht hW => ⟨⟨u11, rfl, h, by rw [ht]; exact hP, va_K.moved hW.alike hK, hD⟩, hS.F ht⟩) hS.2.2 dX3_endInnermost_79
      · have h := h.2 c10
        refine lv_iconst (v := 2) hx hb dX3_endInnermost_71 (by decide) ?_
        refine lv_goto (tgt := 76) hx hb dX3_endInnermost_72 (by decide) ?_
        refine cl_v (ws' := fun u12 => (wX3 cI cZ a u12)) (va_runV (As := [.int 2]) (rest := []) ⟨hx, hb, hml, hown, hts⟩ (c_X3_enter l D cI cZ a _ (S.1, u8, S.2.2.1, u4, S.2.2.2.2.1, S.2.2.2.2.2) 2 _ h ) (cwV 1 hts (gV q_539 q_541 q_2 q_68 q_542) rfl rfl rfl (by decide +kernel) ⟨Nat.le_of_ble_eq_true rfl, Nat.le_of_ble_eq_true rfl⟩) (preV_of (ci := 3) (q := (RX3, TX3, 12)) hK hP hD [0, 1, 2, 3, 4, 5, 6, 7, 8, 9, 10, 11, 12, 13, 14, 15, 16, 17, 18, 19, 20, 21, 22, 23] rfl rfl (by decide) 0 rfl rfl) rfl rfl hl.1 rfl (lv_room (Nat.le_of_ble_eq_true rfl)) dX3_endInnermost_76 ⟨Nat.zero_le _, Nat.zero_le _⟩) hP hD hS hA [0, 1, 2, 3, 4, 5, 6, 7, 8, 9, 10, 11, 12, 13, 14, 15, 16, 17, 18, 19, 20, 21, 22, 23] [.inl 0, .inl 1, .inl 2, .inl 3, .inl 4, .inl 5, .inl 6, .inl 7, .inl 8, .inl 9, .inl 10, .inl 11, .inl 12, .inl 13, .inl 14, .inl 15, .inl 16, .inl 17, .inl 18, .inl 19, .inl 20, .inl 21, .inl 22, .inl 23] rfl (by decide) (fun _ => rfl) (fun _ => rfl) (fun u12 H locs h hP hD hS => ?_)
        exact W.vret hx hb hr (fun t ht hW => ⟨⟨u12, rfl, h, by rw [ht]; exact hP, va_K.moved hW.alike hK, hD⟩, hS.F ht⟩) hS.2.2 dX3_endInnermost_79
  · have h := h.2 c3
    exact W.vret hx hb hr (fun t ht hW => ⟨⟨(S.1, u1, S.2.2.1, S.2.2.2.1, S.2.2.2.2.1, S.2.2.2.2.2), rfl, h, by rw [ht]; exact hP, va_K.moved hW.alike hK, hD⟩, hS.F ht⟩) hS.2.2 dX3_endInnermost_13
/-! X3_govern -/
abbrev rmX3_govern : Room := { frames := 1, cells := 0, slots := 0, locals := 22 }
set_option maxHeartbeats 4000000 in
set_option maxRecDepth 100000 in
theorem c_X3_govern (l : Launch) (D : va_G) (cI cZ : ClassId) (a : Nat → Nat) (sz : Nat) (S : (Nat → Int32) × Ob × Ob × Ob × Ob × (Nat → Int32)) (p0 : Int32) (p1 : Int32) (p2 : Int32) (Q : ((Nat → Int32) × Ob × Ob × Ob × Ob × (Nat → Int32)) → Prop) (h : wp_X3_govern S p0 p1 p2 Q) : Met l yX3_govern (wsm yX3_govern cX3_govern 4 none) rmX3_govern (va_Pc [.ref (a 0), .int p0, .int p1, .int p2] (preW D cI cZ sz (wX3 cI cZ a S))) (va_Qv Q (fun u => atW D cI cZ (va_A (wX3 cI cZ a S) sz) (wX3 cI cZ a u)) (va_A (wX3 cI cZ a S) sz)) 0 0 (va_A (wX3 cI cZ a S) sz) := by
  refine Met.ofW (cc := cX3_govern) (maxL := 4) (ret := none) (by decide) rfl ?_
  intro p e s m args below meth c s₁ B hml hv
  obtain ⟨rfl, hsz, hP, hK, hD0⟩ := hv
  have hx := B.exec
  have hb := B.bytes
  have hr := B.returns
  have hts0 := atoms_spec (ws := wsm yX3_govern cX3_govern 4 none) B.pre
  have hts : ∀ w ∈ lw_all, w.before _ s = true := fun w h => hts0 w (List.mem_cons_of_mem _ h)
  have hown : s.vm.findClass RX3 = some m.cls := findClass_of_methodNamed B.named
  have hlocks := B.notSynchronized
  subst hsz
  have hD := hD0.self (sz := s.heap.size)
  generalize hAe : va_A (wX3 cI cZ a S) s.heap.size = A at hD ⊢
  have hA : ∀ q : Nat, s.heap.size ≤ q → A q := fun q h => by rw [← hAe]; exact Or.inr h
  have hS : va_S A s.heap s.heap [] := va_S.rf
  have hml2 := hml
  have hl := lv_entry ([.ref (a 0), .int p0, .int p1, .int p2]) (n := 4) (Nat.le_of_ble_eq_true rfl)
  rw [lg_entry_eq]
  generalize (lg_sl ([.ref (a 0), .int p0, .int p1, .int p2]) ++ List.replicate (4 - (lg_sl ([.ref (a 0), .int p0, .int p1, .int p2])).length) Slot.unset).toArray = ls at hl ⊢
  have hl : lv_has ls 4 [(0, .ref (a 0)), (1, .int p0), (2, .int p1), (3, .int p2)] := hl
  unfold wp_X3_govern at h
  refine lv_iload_n hx hb dX3_govern_0 rfl (lv_at hl 1 rfl) ?_
  by_cases c1_14 : p0 = 14
  · have h := h.1 c1_14
    refine sw_in c1_14 ?_
    refine lv_tableIn (tgt := 72) hx hb dX3_govern_1 (by decide) (by decide) rfl (by decide) ?_
    refine lv_aload_n hx hb dX3_govern_72 rfl (lv_at hl 0 rfl) ?_
    refine va_get (D := D) (ci := 3) (v := .ref (a 1)) (C := RX3) (T := TX3) (N := 12) hx hb hts inX3 hown hK hP 0 rfl rfl 0 (by decide) (hts _ q_348) (fun _ h9 => h9) rfl dX3_govern_73 ?_
    refine lv_iload_n hx hb dX3_govern_76 rfl (lv_at hl 2 rfl) ?_
    refine lv_bipush (v := 18) hx hb dX3_govern_77 (by decide) ?_
    refine lv_irem hx hb dX3_govern_79 (by decide) ?_
    refine lv_aload_n hx hb dX3_govern_80 rfl (lv_at hl 0 rfl) ?_
    refine va_get (D := D) (ci := 3) (v := .int (S.1 4)) (C := RX3) (T := TX3) (N := 12) hx hb hts inX3 hown hK hP 0 rfl rfl 4 (by decide) (hts _ q_356) (fun _ h9 => h9) rfl dX3_govern_81 ?_
    refine cl_i (ws' := fun u2 => (wX3 cI cZ a (S.1, u2, S.2.2.1, S.2.2.2.1, S.2.2.2.2.1, S.2.2.2.2.2))) (va_runV (As := [.int (p1 - p1 / 18 * 18), .int (S.1 4)]) (rest := []) ⟨hx, hb, hml, hown, hts⟩ (c_X5_request l D cI cZ (fun k => a (k + 1)) _ S.2.1 (p1 - p1 / 18 * 18) (S.1 4) _ h ) (cwV 2 hts (gV q_618 q_471 q_472 q_69 q_473) rfl rfl rfl (by decide +kernel) ⟨Nat.le_of_ble_eq_true rfl, Nat.le_of_ble_eq_true rfl⟩) (preV_of (ci := 4) (q := (RX5, TX5, 16)) hK hP hD [1, 2, 3, 4, 5, 6, 7, 8, 9, 10, 11] rfl rfl (by decide) 1 rfl rfl) rfl rfl hl.1 rfl (lv_room (Nat.le_of_ble_eq_true rfl)) dX3_govern_84 ⟨Nat.zero_le _, Nat.zero_le _⟩) hP hD hS hA [1, 2, 3, 4, 5, 6, 7, 8, 9, 10, 11] [.inr 0, .inl 0, .inl 1, .inl 2, .inl 3, .inl 4, .inl 5, .inl 6, .inl 7, .inl 8, .inl 9, .inl 10, .inr 12, .inr 13, .inr 14, .inr 15, .inr 16, .inr 17, .inr 18, .inr 19, .inr 20, .inr 21, .inr 22, .inr 23] rfl (by decide) (fun _ => rfl) (fun _ => rfl) (fun r3 u2 H locs h hP hD hS => ?_)
    refine lv_pop hx hb dX3_govern_87 rfl ?_
    refine lv_goto (tgt := 194) hx hb dX3_govern_88 (by decide) ?_
    exact W.vret hx hb hr (fun t ht hW => ⟨⟨(S.1, u2, S.2.2.1, S.2.2.2.1, S.2.2.2.2.1, S.2.2.2.2.2), rfl, h, by rw [ht]; exact hP, va_K.moved hW.alike hK, hD⟩, hS.F ht⟩) hS.2.2 dX3_govern_194
  have h := h.2
  by_cases c1_15 : p0 = 15
  · have h := h.1 c1_15
    refine sw_in c1_15 ?_
    refine lv_tableIn (tgt := 91) hx hb dX3_govern_1 (by decide) (by decide) rfl (by decide) ?_
    refine lv_aload_n hx hb dX3_govern_91 rfl (lv_at hl 0 rfl) ?_
    refine va_get (D := D) (ci := 3) (v := .ref (a 1)) (C := RX3) (T := TX3) (N := 12) hx hb hts inX3 hown hK hP 0 rfl rfl 0 (by decide) (hts _ q_348) (fun _ h9 => h9) rfl dX3_govern_92 ?_
    refine lv_iload_n hx hb dX3_govern_95 rfl (lv_at hl 2 rfl) ?_
    refine lv_bipush (v := 18) hx hb dX3_govern_96 (by decide) ?_
    refine lv_irem hx hb dX3_govern_98 (by decide) ?_
    refine cl_i (ws' := fun u4 => (wX3 cI cZ a (S.1, u4, S.2.2.1, S.2.2.2.1, S.2.2.2.2.1, S.2.2.2.2.2))) (va_runV (As := [.int (p1 - p1 / 18 * 18)]) (rest := []) ⟨hx, hb, hml, hown, hts⟩ (c_X5_withdraw l D cI cZ (fun k => a (k + 1)) _ S.2.1 (p1 - p1 / 18 * 18) _ h ) (cwV 1 hts (gV q_680 q_483 q_484 q_69 q_485) rfl rfl rfl (by decide +kernel) ⟨Nat.le_of_ble_eq_true rfl, Nat.le_of_ble_eq_true rfl⟩) (preV_of (ci := 4) (q := (RX5, TX5, 16)) hK hP hD [1, 2, 3, 4, 5, 6, 7, 8, 9, 10, 11] rfl rfl (by decide) 1 rfl rfl) rfl rfl hl.1 rfl (lv_room (Nat.le_of_ble_eq_true rfl)) dX3_govern_99 ⟨Nat.zero_le _, Nat.zero_le _⟩) hP hD hS hA [1, 2, 3, 4, 5, 6, 7, 8, 9, 10, 11] [.inr 0, .inl 0, .inl 1, .inl 2, .inl 3, .inl 4, .inl 5, .inl 6, .inl 7, .inl 8, .inl 9, .inl 10, .inr 12, .inr 13, .inr 14, .inr 15, .inr 16, .inr 17, .inr 18, .inr 19, .inr 20, .inr 21, .inr 22, .inr 23] rfl (by decide) (fun _ => rfl) (fun _ => rfl) (fun r5 u4 H locs h hP hD hS => ?_)
    refine lv_pop hx hb dX3_govern_102 rfl ?_
    refine lv_goto (tgt := 194) hx hb dX3_govern_103 (by decide) ?_
    exact W.vret hx hb hr (fun t ht hW => ⟨⟨(S.1, u4, S.2.2.1, S.2.2.2.1, S.2.2.2.2.1, S.2.2.2.2.2), rfl, h, by rw [ht]; exact hP, va_K.moved hW.alike hK, hD⟩, hS.F ht⟩) hS.2.2 dX3_govern_194
  have h := h.2
  by_cases c1_16 : p0 = 16
  · have h := h.1 c1_16
    refine sw_in c1_16 ?_
    refine lv_tableIn (tgt := 106) hx hb dX3_govern_1 (by decide) (by decide) rfl (by decide) ?_
    refine lv_aload_n hx hb dX3_govern_106 rfl (lv_at hl 0 rfl) ?_
    refine va_get (D := D) (ci := 3) (v := .ref (a 1)) (C := RX3) (T := TX3) (N := 12) hx hb hts inX3 hown hK hP 0 rfl rfl 0 (by decide) (hts _ q_348) (fun _ h9 => h9) rfl dX3_govern_107 ?_
    refine lv_iload_n hx hb dX3_govern_110 rfl (lv_at hl 2 rfl) ?_
    refine lv_iconst (v := 1) hx hb dX3_govern_111 (by decide) ?_
    refine lv_iand hx hb dX3_govern_112 ?_
    obtain ⟨T6, eT6⟩ : ∃ z : Ob, z = (si S.2.1 14 (p1 &&& 1)) := ⟨_, rfl⟩
    refine pu_f (ci := 4) (v := .int (p1 &&& 1)) (ty := .int) (C := RX5) (T := TX5) (N := 16) hx hb hts inX5 tyX5 tyX5_ok nmX5 hown hK hP hD hS 1 rfl rfl 14 (by decide) (hts _ q_143) (fun _ h9 => h9) rfl rfl rfl rfl (Nat.le_of_ble_eq_true rfl) dX3_govern_113 (wX3 cI cZ a (S.1, T6, S.2.2.1, S.2.2.2.1, S.2.2.2.2.1, S.2.2.2.2.2)) (by subst eT6; rfl) (fun H locs hP hD hS => ?_)
    have h := h T6 eT6
    refine lv_goto (tgt := 194) hx hb dX3_govern_116 (by decide) ?_
    exact W.vret hx hb hr (fun t ht hW => ⟨⟨(S.1, T6, S.2.2.1, S.2.2.2.1, S.2.2.2.2.1, S.2.2.2.2.2), rfl, h, by rw [ht]; exact hP, va_K.moved hW.alike hK, hD⟩, hS.F ht⟩) hS.2.2 dX3_govern_194
  have h := h.2
  by_cases c1_17 : p0 = 17
  · have h := h.1 c1_17
    refine sw_in c1_17 ?_
    refine lv_tableIn (tgt := 119) hx hb dX3_govern_1 (by decide) (by decide) rfl (by decide) ?_
    refine lv_aload_n hx hb dX3_govern_119 rfl (lv_at hl 0 rfl) ?_
    refine va_get (D := D) (ci := 3) (v := .ref (a 1)) (C := RX3) (T := TX3) (N := 12) hx hb hts inX3 hown hK hP 0 rfl rfl 0 (by decide) (hts _ q_348) (fun _ h9 => h9) rfl dX3_govern_120 ?_
    refine lv_iload_n hx hb dX3_govern_123 rfl (lv_at hl 2 rfl) ?_
    obtain ⟨T7, eT7⟩ : ∃ z : Ob, z = (si S.2.1 13 p1) := ⟨_, rfl⟩
    refine pu_f (ci := 4) (v := .int p1) (ty := .int) (C := RX5) (T := TX5) (N := 16) hx hb hts inX5 tyX5 tyX5_ok nmX5 hown hK hP hD hS 1 rfl rfl 13 (by decide) (hts _ q_140) (fun _ h9 => h9) rfl rfl rfl rfl (Nat.le_of_ble_eq_true rfl) dX3_govern_124 (wX3 cI cZ a (S.1, T7, S.2.2.1, S.2.2.2.1, S.2.2.2.2.1, S.2.2.2.2.2)) (by subst eT7; rfl) (fun H locs hP hD hS => ?_)
    have h := h T7 eT7
    refine lv_goto (tgt := 194) hx hb dX3_govern_127 (by decide) ?_
    exact W.vret hx hb hr (fun t ht hW => ⟨⟨(S.1, T7, S.2.2.1, S.2.2.2.1, S.2.2.2.2.1, S.2.2.2.2.2), rfl, h, by rw [ht]; exact hP, va_K.moved hW.alike hK, hD⟩, hS.F ht⟩) hS.2.2 dX3_govern_194
  have h := h.2
  by_cases c1_19 : p0 = 19
  · have h := h.1 c1_19
    refine sw_in c1_19 ?_
    refine lv_tableIn (tgt := 130) hx hb dX3_govern_1 (by decide) (by decide) rfl (by decide) ?_
    refine lv_aload_n hx hb dX3_govern_130 rfl (lv_at hl 0 rfl) ?_
    refine va_get (D := D) (ci := 3) (v := .ref (a 18)) (C := RX3) (T := TX3) (N := 12) hx hb hts inX3 hown hK hP 0 rfl rfl 3 (by decide) (hts _ q_354) (fun _ h9 => h9) rfl dX3_govern_131 ?_
    refine lv_iconst (v := 1) hx hb dX3_govern_134 (by decide) ?_
    obtain ⟨T8, eT8⟩ : ∃ z : Ob, z = (si S.2.2.2.2.1 13 1) := ⟨_, rfl⟩
    refine pu_f (ci := 1) (v := .int 1) (ty := .boolean) (C := RX1) (T := TX1) (N := 14) hx hb hts inX1 tyX1 tyX1_ok nmX1 hown hK hP hD hS 18 rfl rfl 13 (by decide) (hts _ q_317) (fun _ h9 => h9) rfl rfl (narB isB1) (fitB isB1) (Nat.le_of_ble_eq_true rfl) dX3_govern_135 (wX3 cI cZ a (S.1, S.2.1, S.2.2.1, S.2.2.2.1, T8, S.2.2.2.2.2)) (by subst eT8; rfl) (fun H locs hP hD hS => ?_)
    have h := h T8 eT8
    refine lv_goto (tgt := 194) hx hb dX3_govern_138 (by decide) ?_
    exact W.vret hx hb hr (fun t ht hW => ⟨⟨(S.1, S.2.1, S.2.2.1, S.2.2.2.1, T8, S.2.2.2.2.2), rfl, h, by rw [ht]; exact hP, va_K.moved hW.alike hK, hD⟩, hS.F ht⟩) hS.2.2 dX3_govern_194
  have h := h.2
  by_cases c1_25 : p0 = 25
  · have h := h.1 c1_25
    refine sw_in c1_25 ?_
    refine lv_tableIn (tgt := 141) hx hb dX3_govern_1 (by decide) (by decide) rfl (by decide) ?_
    refine lv_aload_n hx hb dX3_govern_141 rfl (lv_at hl 0 rfl) ?_
    refine va_get (D := D) (ci := 3) (v := .ref (a 1)) (C := RX3) (T := TX3) (N := 12) hx hb hts inX3 hown hK hP 0 rfl rfl 0 (by decide) (hts _ q_348) (fun _ h9 => h9) rfl dX3_govern_142 ?_
    refine va_get (D := D) (ci := 4) (v := .ref (a 2)) (C := RX5) (T := TX5) (N := 16) hx hb hts inX5 hown hK hP 1 rfl rfl 0 (by decide) (hts _ q_109) (fun _ h9 => h9) rfl dX3_govern_145 ?_
    refine lv_iload_n hx hb dX3_govern_148 rfl (lv_at hl 2 rfl) ?_
    refine lv_bipush (v := 20) hx hb dX3_govern_149 (by decide) ?_
    refine lv_irem hx hb dX3_govern_151 (by decide) ?_
    refine lv_aload_n hx hb dX3_govern_152 rfl (lv_at hl 0 rfl) ?_
    refine va_get (D := D) (ci := 3) (v := .ref (a 18)) (C := RX3) (T := TX3) (N := 12) hx hb hts inX3 hown hK hP 0 rfl rfl 3 (by decide) (hts _ q_354) (fun _ h9 => h9) rfl dX3_govern_153 ?_
    refine va_get (D := D) (ci := 1) (v := .ref (a 19)) (C := RX1) (T := TX1) (N := 14) hx hb hts inX1 hown hK hP 18 rfl rfl 1 (by decide) (hts _ q_285) (fun _ h9 => h9) rfl dX3_govern_156 ?_
    refine lv_iload_n hx hb dX3_govern_159 rfl (lv_at hl 3 rfl) ?_
    refine lv_bipush (v := 7) hx hb dX3_govern_160 (by decide) ?_
    refine lv_iand hx hb dX3_govern_162 ?_
    refine ar_il (f := (S.2.2.2.2.1.2 1)) (n := 8) (j := (Int32.toNatClampNeg (p2 &&& 7))) hx hb hK hP 19 rfl rfl h.1 dX3_govern_163 ?_
    have h := h.2
    refine lv_sipush (v := 255) hx hb dX3_govern_164 (by decide) ?_
    refine lv_iand hx hb dX3_govern_167 ?_
    obtain ⟨T9, eT9⟩ : ∃ z : Ob, z = (sa S.2.1 0 (upd (S.2.1.2 0) (Int32.toNatClampNeg (p1 - p1 / 20 * 20)) (((S.2.2.2.2.1.2 1) (Int32.toNatClampNeg (p2 &&& 7))) &&& 255))) := ⟨_, rfl⟩
    refine ar_is (f := (S.2.1.2 0)) (n := 21) (j := (Int32.toNatClampNeg (p1 - p1 / 20 * 20))) (x := (((S.2.2.2.2.1.2 1) (Int32.toNatClampNeg (p2 &&& 7))) &&& 255)) hx hb hK hP hD hS 2 rfl rfl h.1 dX3_govern_168 (wX3 cI cZ a (S.1, T9, S.2.2.1, S.2.2.2.1, S.2.2.2.2.1, S.2.2.2.2.2)) (by subst eT9; rfl) (fun H locs hP hD hS => ?_)
    have h := h.2
    have h := h T9 eT9
    refine lv_goto (tgt := 194) hx hb dX3_govern_169 (by decide) ?_
    exact W.vret hx hb hr (fun t ht hW => ⟨⟨(S.1, T9, S.2.2.1, S.2.2.2.1, S.2.2.2.2.1, S.2.2.2.2.2), rfl, h, by rw [ht]; exact hP, va_K.moved hW.alike hK, hD⟩, hS.F ht⟩) hS.2.2 dX3_govern_194
  have h := h.2
  by_cases c1_27 : p0 = 27
  · have h := h.1 c1_27
    refine sw_in c1_27 ?_
    refine lv_tableIn (tgt := 172) hx hb dX3_govern_1 (by decide) (by decide) rfl (by decide) ?_
    refine lv_aload_n hx hb dX3_govern_172 rfl (lv_at hl 0 rfl) ?_
    refine va_get (D := D) (ci := 3) (v := .ref (a 15)) (C := RX3) (T := TX3) (N := 12) hx hb hts inX3 hown hK hP 0 rfl rfl 2 (by decide) (hts _ q_352) (fun _ h9 => h9) rfl dX3_govern_173 ?_
    refine lv_aload_n hx hb dX3_govern_176 rfl (lv_at hl 0 rfl) ?_
    refine va_get (D := D) (ci := 3) (v := .ref (a 18)) (C := RX3) (T := TX3) (N := 12) hx hb hts inX3 hown hK hP 0 rfl rfl 3 (by decide) (hts _ q_354) (fun _ h9 => h9) rfl dX3_govern_177 ?_
    refine va_get (D := D) (ci := 1) (v := .ref (a 19)) (C := RX1) (T := TX1) (N := 14) hx hb hts inX1 hown hK hP 18 rfl rfl 1 (by decide) (hts _ q_285) (fun _ h9 => h9) rfl dX3_govern_180 ?_
    refine lv_iload_n hx hb dX3_govern_183 rfl (lv_at hl 2 rfl) ?_
    refine lv_bipush (v := 7) hx hb dX3_govern_184 (by decide) ?_
    refine lv_iand hx hb dX3_govern_186 ?_
    refine ar_il (f := (S.2.2.2.2.1.2 1)) (n := 8) (j := (Int32.toNatClampNeg (p1 &&& 7))) hx hb hK hP 19 rfl rfl h.1 dX3_govern_187 ?_
    have h := h.2
    refine cl_v (ws' := fun u10 => (wX3 cI cZ a (S.1, S.2.1, S.2.2.1, u10, S.2.2.2.2.1, S.2.2.2.2.2))) (va_runV (As := [.int ((S.2.2.2.2.1.2 1) (Int32.toNatClampNeg (p1 &&& 7)))]) (rest := []) ⟨hx, hb, hml, hown, hts⟩ (c_X2_tell l D cI cZ (fun k => a (k + 15)) _ S.2.2.2.1 ((S.2.2.2.2.1.2 1) (Int32.toNatClampNeg (p1 &&& 7))) _ h ) (cwV 1 hts (gV q_681 q_682 q_683 q_72 q_684) rfl rfl rfl (by decide +kernel) ⟨Nat.le_of_ble_eq_true rfl, Nat.le_of_ble_eq_true rfl⟩) (preV_of (ci := 2) (q := (RX2, TX2, 14)) hK hP hD [15, 16, 17] rfl rfl (by decide) 15 rfl rfl) rfl rfl hl.1 rfl (lv_room (Nat.le_of_ble_eq_true rfl)) dX3_govern_188 ⟨Nat.zero_le _, Nat.zero_le _⟩) hP hD hS hA [15, 16, 17] [.inr 0, .inr 1, .inr 2, .inr 3, .inr 4, .inr 5, .inr 6, .inr 7, .inr 8, .inr 9, .inr 10, .inr 11, .inr 12, .inr 13, .inr 14, .inl 0, .inl 1, .inl 2, .inr 18, .inr 19, .inr 20, .inr 21, .inr 22, .inr 23] rfl (by decide) (fun _ => rfl) (fun _ => rfl) (fun u10 H locs h hP hD hS => ?_)
    refine lv_goto (tgt := 194) hx hb dX3_govern_191 (by decide) ?_
    exact W.vret hx hb hr (fun t ht hW => ⟨⟨(S.1, S.2.1, S.2.2.1, u10, S.2.2.2.2.1, S.2.2.2.2.2), rfl, h, by rw [ht]; exact hP, va_K.moved hW.alike hK, hD⟩, hS.F ht⟩) hS.2.2 dX3_govern_194
  have h := h.2
  have h := h c1_14 c1_15 c1_16 c1_17 c1_19 c1_25 c1_27
  by_cases c1_18 : p0 = 18
  · refine sw_in c1_18 ?_
    refine lv_tableIn (tgt := 194) hx hb dX3_govern_1 (by decide) (by decide) rfl (by decide) ?_
    exact W.vret hx hb hr (fun t ht hW => ⟨⟨S, rfl, h, by rw [ht]; exact hP, va_K.moved hW.alike hK, hD⟩, hS.F ht⟩) hS.2.2 dX3_govern_194
  by_cases c1_20 : p0 = 20
  · refine sw_in c1_20 ?_
    refine lv_tableIn (tgt := 194) hx hb dX3_govern_1 (by decide) (by decide) rfl (by decide) ?_
    exact W.vret hx hb hr (fun t ht hW => ⟨⟨S, rfl, h, by rw [ht]; exact hP, va_K.moved hW.alike hK, hD⟩, hS.F ht⟩) hS.2.2 dX3_govern_194
  by_cases c1_21 : p0 = 21
  · refine sw_in c1_21 ?_
    refine lv_tableIn (tgt := 194) hx hb dX3_govern_1 (by decide) (by decide) rfl (by decide) ?_
    exact W.vret hx hb hr (fun t ht hW => ⟨⟨S, rfl, h, by rw [ht]; exact hP, va_K.moved hW.alike hK, hD⟩, hS.F ht⟩) hS.2.2 dX3_govern_194
  by_cases c1_22 : p0 = 22
  · refine sw_in c1_22 ?_
    refine lv_tableIn (tgt := 194) hx hb dX3_govern_1 (by decide) (by decide) rfl (by decide) ?_
    exact W.vret hx hb hr (fun t ht hW => ⟨⟨S, rfl, h, by rw [ht]; exact hP, va_K.moved hW.alike hK, hD⟩, hS.F ht⟩) hS.2.2 dX3_govern_194
  by_cases c1_23 : p0 = 23
  · refine sw_in c1_23 ?_
    refine lv_tableIn (tgt := 194) hx hb dX3_govern_1 (by decide) (by decide) rfl (by decide) ?_
    exact W.vret hx hb hr (fun t ht hW => ⟨⟨S, rfl, h, by rw [ht]; exact hP, va_K.moved hW.alike hK, hD⟩, hS.F ht⟩) hS.2.2 dX3_govern_194
  by_cases c1_24 : p0 = 24
  · refine sw_in c1_24 ?_
    refine lv_tableIn (tgt := 194) hx hb dX3_govern_1 (by decide) (by decide) rfl (by decide) ?_
    exact W.vret hx hb hr (fun t ht hW => ⟨⟨S, rfl, h, by rw [ht]; exact hP, va_K.moved hW.alike hK, hD⟩, hS.F ht⟩) hS.2.2 dX3_govern_194
  by_cases c1_26 : p0 = 26
  · refine sw_in c1_26 ?_
    refine lv_tableIn (tgt := 194) hx hb dX3_govern_1 (by decide) (by decide) rfl (by decide) ?_
    exact W.vret hx hb hr (fun t ht hW => ⟨⟨S, rfl, h, by rw [ht]; exact hP, va_K.moved hW.alike hK, hD⟩, hS.F ht⟩) hS.2.2 dX3_govern_194
  refine lv_tableOut (tgt := 194) hx hb dX3_govern_1 (sw_out (lo := 14) (n := 14) (by decide) (by decide) (fun k hk => ?_)) (by decide) ?_
  · rcases (show k = 0 ∨ k = 1 ∨ k = 2 ∨ k = 3 ∨ k = 4 ∨ k = 5 ∨ k = 6 ∨ k = 7 ∨ k = 8 ∨ k = 9 ∨ k = 10 ∨ k = 11 ∨ k = 12 ∨ k = 13 by omega) with rfl | rfl | rfl | rfl | rfl | rfl | rfl | rfl | rfl | rfl | rfl | rfl | rfl | rfl
    · exact c1_14
    · exact c1_15
    · exact c1_16
    · exact c1_17
    · exact c1_18
    · exact c1_19
    · exact c1_20
    · exact c1_21
    · exact c1_22
    · exact c1_23
    · exact c1_24
    · exact c1_25
    · exact c1_26
    · exact c1_27
  exact W.vret hx hb hr (fun t ht hW => ⟨⟨S, rfl, h, by rw [ht]; exact hP, va_K.moved hW.alike hK, hD⟩, hS.F ht⟩) hS.2.2 dX3_govern_194
/-! X3_running -/
abbrev rmX3_running : Room := { frames := 4, cells := 0, slots := 0, locals := 96 }
set_option maxHeartbeats 4000000 in
set_option maxRecDepth 100000 in
theorem c_X3_running (l : Launch) (D : va_G) (cI cZ : ClassId) (a : Nat → Nat) (sz : Nat) (S : (Nat → Int32) × Ob × Ob × Ob × Ob × (Nat → Int32)) (Q : ((Nat → Int32) × Ob × Ob × Ob × Ob × (Nat → Int32)) → Prop) (h : wp_X3_running S Q) : Met l yX3_running (wsm yX3_running cX3_running 5 none) rmX3_running (va_Pc [.ref (a 0)] (preT D cI cZ sz (wX3 cI cZ a S))) (va_Qv Q (fun u => atW D cI cZ (va_A (wX3 cI cZ a S) sz) (wX3 cI cZ a u)) (va_A (wX3 cI cZ a S) sz)) 0 0 (va_A (wX3 cI cZ a S) sz) := by
  refine Met.ofW (cc := cX3_running) (maxL := 5) (ret := none) (by decide) rfl ?_
  intro p e s m args below meth c s₁ B hml hv
  obtain ⟨rfl, ⟨hsz, hP, hK, hD0⟩, hF⟩ := hv
  have hx := B.exec
  have hb := B.bytes
  have hr := B.returns
  have hts0 := atoms_spec (ws := wsm yX3_running cX3_running 5 none) B.pre
  have hts : ∀ w ∈ lw_all, w.before _ s = true := fun w h => hts0 w (List.mem_cons_of_mem _ h)
  have hown : s.vm.findClass RX3 = some m.cls := findClass_of_methodNamed B.named
  have hlocks := B.notSynchronized
  subst hsz
  have hD := hD0.self (sz := s.heap.size)
  generalize hAe : va_A (wX3 cI cZ a S) s.heap.size = A at hD hF ⊢
  have hA : ∀ q : Nat, s.heap.size ≤ q → A q := fun q h => by rw [← hAe]; exact Or.inr h
  have hS : va_S A s.heap s.heap [] := va_S.rf
  have hml2 := hml
  have L91 : ∀ (y1 : Int32) (y2 : Int32) (y3 : Int32) (y4 : Int32) (T : (Nat → Int32) × Ob × Ob × Ob × Ob × (Nat → Int32)) (H : Heap) (locs : List Loc) (ls : Array Slot), va_P D vwCl (wX3 cI cZ a T) H → va_D A (wX3 cI cZ a T) → va_S A s.heap H locs → lv_has ls 5 [(0, .ref (a 0)), (1, .int y1), (2, .int y2), (3, .int y3), (4, .int y4)] → wp_X3_running_L91 Q y1 y2 y3 y4 T → W p l e rmX3_running s m ([.ref (a 0)] : List Value).toArray below meth c H locs 0 0 (MQ below (va_Qv Q (fun u => atW D cI cZ A (wX3 cI cZ a u)) A) ([.ref (a 0)] : List Value).toArray s 0 0 A) (F0 m 91 ls []) := by
    intro y1 y2 y3 y4 T H locs ls hP hD hS hl h
    unfold wp_X3_running_L91 at h
    refine lv_iload hx hb dX3_running_91 (lv_at hl 4 rfl) ?_
    refine lv_iconst (v := -1) hx hb dX3_running_93 (by decide) ?_
    refine lv_icmp_eq (tgt := 104) hx hb dX3_running_94 (by decide) (fun c14 => ?_) (fun c14 => ?_)
    · have h := h.1 c14
      refine lv_aload_n hx hb dX3_running_104 rfl (lv_at hl 0 rfl) ?_
      refine va_get (D := D) (ci := 3) (v := .ref (a 18)) (C := RX3) (T := TX3) (N := 12) hx hb hts inX3 hown hK hP 0 rfl rfl 3 (by decide) (hts _ q_354) (fun _ h9 => h9) rfl dX3_running_105 ?_
      obtain ⟨t15, hZt15, hTt15⟩ := hF.1.2.1
      refine va_getsN (C := "RankEntry") hx hb hZt15 hS hown (va_Nw.use rfl hF.2.1.1) (fun _ h9 => h9) dX3_running_108 ?_
      refine lv_iload_n hx hb dX3_running_111 rfl (lv_at hl 1 rfl) ?_
      refine va_ti hx hb hTt15 hS h.1 (v := .int (tabC (Int32.toNatClampNeg y1))) rfl dX3_running_112 ?_
      have h := h.2
      refine lv_iconst (v := 1) hx hb dX3_running_113 (by decide) ?_
      refine lv_isub hx hb dX3_running_114 ?_
      obtain ⟨T16, eT16⟩ : ∃ z : Ob, z = (si T.2.2.2.2.1 10 ((tabC (Int32.toNatClampNeg y1)) - 1)) := ⟨_, rfl⟩
      refine pu_f (ci := 1) (v := .int ((tabC (Int32.toNatClampNeg y1)) - 1)) (ty := .int) (C := RX1) (T := TX1) (N := 14) hx hb hts inX1 tyX1 tyX1_ok nmX1 hown hK hP hD hS 18 rfl rfl 10 (by decide) (hts _ q_308) (fun _ h9 => h9) rfl rfl rfl rfl (Nat.le_of_ble_eq_true rfl) dX3_running_115 (wX3 cI cZ a (T.1, T.2.1, T.2.2.1, T.2.2.2.1, T16, T.2.2.2.2.2)) (by subst eT16; rfl) (fun H locs hP hD hS => ?_)
      have h := h T16 eT16
      refine lv_aload_n hx hb dX3_running_118 rfl (lv_at hl 0 rfl) ?_
      refine va_get (D := D) (ci := 3) (v := .ref (a 18)) (C := RX3) (T := TX3) (N := 12) hx hb hts inX3 hown hK hP 0 rfl rfl 3 (by decide) (hts _ q_354) (fun _ h9 => h9) rfl dX3_running_119 ?_
      refine lv_aload_n hx hb dX3_running_122 rfl (lv_at hl 0 rfl) ?_
      refine va_get (D := D) (ci := 3) (v := .ref (a 18)) (C := RX3) (T := TX3) (N := 12) hx hb hts inX3 hown hK hP 0 rfl rfl 3 (by decide) (hts _ q_354) (fun _ h9 => h9) rfl dX3_running_123 ?_
      refine va_get (D := D) (ci := 1) (v := .int (T16.1 5)) (C := RX1) (T := TX1) (N := 14) hx hb hts inX1 hown hK hP 18 rfl rfl 5 (by decide) (hts _ q_294) (fun _ h9 => h9) rfl dX3_running_126 ?_
      obtain ⟨t17, hZt17, hTt17⟩ := hF.1.1
      refine va_getsN (C := "RankEntry") hx hb hZt17 hS hown (va_Nw.use rfl hF.2.1.2.1) (fun _ h9 => h9) dX3_running_129 ?_
      refine lv_iload_n hx hb dX3_running_132 rfl (lv_at hl 1 rfl) ?_
      refine va_ti hx hb hTt17 hS h.1 (v := .int (tabL (Int32.toNatClampNeg y1))) rfl dX3_running_133 ?_
      have h := h.2
      refine lv_iadd hx hb dX3_running_134 ?_
      refine lv_sipush (v := 511) hx hb dX3_running_135 (by decide) ?_
      refine lv_iand hx hb dX3_running_138 ?_
      obtain ⟨T18, eT18⟩ : ∃ z : Ob, z = (si T16 5 (((T16.1 5) + (tabL (Int32.toNatClampNeg y1))) &&& 511)) := ⟨_, rfl⟩
      refine pu_f (ci := 1) (v := .int (((T16.1 5) + (tabL (Int32.toNatClampNeg y1))) &&& 511)) (ty := .int) (C := RX1) (T := TX1) (N := 14) hx hb hts inX1 tyX1 tyX1_ok nmX1 hown hK hP hD hS 18 rfl rfl 5 (by decide) (hts _ q_294) (fun _ h9 => h9) rfl rfl rfl rfl (Nat.le_of_ble_eq_true rfl) dX3_running_139 (wX3 cI cZ a (T.1, T.2.1, T.2.2.1, T.2.2.2.1, T18, T.2.2.2.2.2)) (by subst eT18; rfl) (fun H locs hP hD hS => ?_)
      have h := h T18 eT18
      refine lv_iload_n hx hb dX3_running_142 rfl (lv_at hl 1 rfl) ?_
      refine lv_bipush (v := 8) hx hb dX3_running_143 (by decide) ?_
      refine lv_icmp_gt (tgt := 161) hx hb dX3_running_145 (by decide) (fun c19 => ?_) (fun c19 => ?_)
      · have h := h.1 c19
        refine lv_iload_n hx hb dX3_running_161 rfl (lv_at hl 1 rfl) ?_
        refine cl_i (ws' := fun u20 => (wX3 cI cZ a (T.1, T.2.1, T.2.2.1, T.2.2.2.1, T18, T.2.2.2.2.2))) (va_runS (As := [.int y1]) (rest := []) ⟨hx, hb, hml, hown, hts⟩ (c_X4_isFor l D cI cZ _ () y1 _ h ) (va_cwS 1 hts (gS q_631 q_553 q_76 q_554) rfl rfl rfl (by decide +kernel) ⟨Nat.le_of_ble_eq_true rfl, Nat.le_of_ble_eq_true rfl⟩) (preS_of hK hP hD [] rfl rfl (by decide)) rfl rfl hl.1 rfl (lv_room (Nat.le_of_ble_eq_true rfl)) dX3_running_162 ⟨Nat.zero_le _, Nat.zero_le _⟩) hP hD hS hA [] [.inr 0, .inr 1, .inr 2, .inr 3, .inr 4, .inr 5, .inr 6, .inr 7, .inr 8, .inr 9, .inr 10, .inr 11, .inr 12, .inr 13, .inr 14, .inr 15, .inr 16, .inr 17, .inr 18, .inr 19, .inr 20, .inr 21, .inr 22, .inr 23] rfl (by decide) (fun _ => rfl) (fun _ => rfl) (fun r21 u20 H locs h hP hD hS => ?_)
        refine lv_if_eq (tgt := 181) hx hb dX3_running_165 (by decide) (fun c22 => ?_) (fun c22 => ?_)
        · have h := h.1 c22
          refine lv_iload_n hx hb dX3_running_181 rfl (lv_at hl 1 rfl) ?_
          refine lv_bipush (v := 18) hx hb dX3_running_182 (by decide) ?_
          refine lv_icmp_ne (tgt := 194) hx hb dX3_running_184 (by decide) (fun c23 => ?_) (fun c23 => ?_)
          · have h := h.1 c23
            refine lv_aload_n hx hb dX3_running_194 rfl (lv_at hl 0 rfl) ?_
            refine va_get (D := D) (ci := 3) (v := .ref (a 18)) (C := RX3) (T := TX3) (N := 12) hx hb hts inX3 hown hK hP 0 rfl rfl 3 (by decide) (hts _ q_354) (fun _ h9 => h9) rfl dX3_running_195 ?_
            refine lv_iload_n hx hb dX3_running_198 rfl (lv_at hl 1 rfl) ?_
            refine lv_iload_n hx hb dX3_running_199 rfl (lv_at hl 2 rfl) ?_
            refine lv_iload_n hx hb dX3_running_200 rfl (lv_at hl 3 rfl) ?_
            refine cl_v (ws' := fun u24 => (wX3 cI cZ a (T.1, T.2.1, T.2.2.1, T.2.2.2.1, u24, T.2.2.2.2.2))) (va_runV (As := [.int y1, .int y2, .int y3]) (rest := []) ⟨hx, hb, hml, hown, hts⟩ (c_X1_move l D cI cZ (fun k => a (k + 18)) _ T18 y1 y2 y3 _ h ) (cwV 3 hts (gV q_653 q_654 q_655 q_73 q_656) rfl rfl rfl (by decide +kernel) ⟨Nat.le_of_ble_eq_true rfl, Nat.le_of_ble_eq_true rfl⟩) (preV_of (ci := 1) (q := (RX1, TX1, 14)) hK hP hD [18, 19, 20, 21, 22] rfl rfl (by decide) 18 rfl rfl) rfl rfl hl.1 rfl (lv_room (Nat.le_of_ble_eq_true rfl)) dX3_running_201 ⟨Nat.zero_le _, Nat.zero_le _⟩) hP hD hS hA [18, 19, 20, 21, 22] [.inr 0, .inr 1, .inr 2, .inr 3, .inr 4, .inr 5, .inr 6, .inr 7, .inr 8, .inr 9, .inr 10, .inr 11, .inr 12, .inr 13, .inr 14, .inr 15, .inr 16, .inr 17, .inl 0, .inl 1, .inl 2, .inl 3, .inl 4, .inr 23] rfl (by decide) (fun _ => rfl) (fun _ => rfl) (fun u24 H locs h hP hD hS => ?_)
            refine lv_aload_n hx hb dX3_running_204 rfl (lv_at hl 0 rfl) ?_
            refine lv_iload_n hx hb dX3_running_205 rfl (lv_at hl 1 rfl) ?_
            refine lv_iload_n hx hb dX3_running_206 rfl (lv_at hl 2 rfl) ?_
            refine lv_iload_n hx hb dX3_running_207 rfl (lv_at hl 3 rfl) ?_
            refine cl_v (ws' := fun u25 => (wX3 cI cZ a u25)) (va_runV (As := [.int y1, .int y2, .int y3]) (rest := []) ⟨hx, hb, hml, hown, hts⟩ (c_X3_govern l D cI cZ a _ (T.1, T.2.1, T.2.2.1, T.2.2.2.1, u24, T.2.2.2.2.2) y1 y2 y3 _ h ) (cwV 3 hts (gV q_676 q_678 q_11 q_68 q_679) rfl rfl rfl (by decide +kernel) ⟨Nat.le_of_ble_eq_true rfl, Nat.le_of_ble_eq_true rfl⟩) (preV_of (ci := 3) (q := (RX3, TX3, 12)) hK hP hD [0, 1, 2, 3, 4, 5, 6, 7, 8, 9, 10, 11, 12, 13, 14, 15, 16, 17, 18, 19, 20, 21, 22, 23] rfl rfl (by decide) 0 rfl rfl) rfl rfl hl.1 rfl (lv_room (Nat.le_of_ble_eq_true rfl)) dX3_running_208 ⟨Nat.zero_le _, Nat.zero_le _⟩) hP hD hS hA [0, 1, 2, 3, 4, 5, 6, 7, 8, 9, 10, 11, 12, 13, 14, 15, 16, 17, 18, 19, 20, 21, 22, 23] [.inl 0, .inl 1, .inl 2, .inl 3, .inl 4, .inl 5, .inl 6, .inl 7, .inl 8, .inl 9, .inl 10, .inl 11, .inl 12, .inl 13, .inl 14, .inl 15, .inl 16, .inl 17, .inl 18, .inl 19, .inl 20, .inl 21, .inl 22, .inl 23] rfl (by decide) (fun _ => rfl) (fun _ => rfl) (fun u25 H locs h hP hD hS => ?_)
            refine lv_aload_n hx hb dX3_running_211 rfl (lv_at hl 0 rfl) ?_
            refine va_get (D := D) (ci := 3) (v := .ref (a 15)) (C := RX3) (T := TX3) (N := 12) hx hb hts inX3 hown hK hP 0 rfl rfl 2 (by decide) (hts _ q_352) (fun _ h9 => h9) rfl dX3_running_212 ?_
            refine lv_dup hx hb dX3_running_215 rfl ?_
            refine va_get (D := D) (ci := 2) (v := .int (u25.2.2.2.1.1 13)) (C := RX2) (T := TX2) (N := 14) hx hb hts inX2 hown hK hP 15 rfl rfl 13 (by decide) (hts _ q_246) (fun _ h9 => h9) rfl dX3_running_216 ?_
            refine lv_iconst (v := 1) hx hb dX3_running_219 (by decide) ?_
            refine lv_iadd hx hb dX3_running_220 ?_
            obtain ⟨T26, eT26⟩ : ∃ z : Ob, z = (si u25.2.2.2.1 13 ((u25.2.2.2.1.1 13) + 1)) := ⟨_, rfl⟩
            refine pu_f (ci := 2) (v := .int ((u25.2.2.2.1.1 13) + 1)) (ty := .int) (C := RX2) (T := TX2) (N := 14) hx hb hts inX2 tyX2 tyX2_ok nmX2 hown hK hP hD hS 15 rfl rfl 13 (by decide) (hts _ q_246) (fun _ h9 => h9) rfl rfl rfl rfl (Nat.le_of_ble_eq_true rfl) dX3_running_221 (wX3 cI cZ a (u25.1, u25.2.1, u25.2.2.1, T26, u25.2.2.2.2.1, u25.2.2.2.2.2)) (by subst eT26; rfl) (fun H locs hP hD hS => ?_)
            have h := h T26 eT26
            exact W.vret hx hb hr (fun t ht hW => ⟨⟨(u25.1, u25.2.1, u25.2.2.1, T26, u25.2.2.2.2.1, u25.2.2.2.2.2), rfl, h, by rw [ht]; exact hP, va_K.moved hW.alike hK, hD⟩, hS.F ht⟩) hS.2.2 dX3_running_224
          · have h := h.2 c23
            refine lv_aload_n hx hb dX3_running_187 rfl (lv_at hl 0 rfl) ?_
            refine cl_v (ws' := fun u27 => (wX3 cI cZ a u27)) (va_runV (As := []) (rest := []) ⟨hx, hb, hml, hown, hts⟩ (c_X3_endInnermost l D cI cZ a _ (T.1, T.2.1, T.2.2.1, T.2.2.2.1, T18, T.2.2.2.2.2) _ h ) (cwV 0 hts (gV q_639 q_641 q_7 q_68 q_642) rfl rfl rfl (by decide +kernel) ⟨Nat.le_of_ble_eq_true rfl, Nat.le_of_ble_eq_true rfl⟩) (preV_of (ci := 3) (q := (RX3, TX3, 12)) hK hP hD [0, 1, 2, 3, 4, 5, 6, 7, 8, 9, 10, 11, 12, 13, 14, 15, 16, 17, 18, 19, 20, 21, 22, 23] rfl rfl (by decide) 0 rfl rfl) rfl rfl hl.1 rfl (lv_room (Nat.le_of_ble_eq_true rfl)) dX3_running_188 ⟨Nat.zero_le _, Nat.zero_le _⟩) hP hD hS hA [0, 1, 2, 3, 4, 5, 6, 7, 8, 9, 10, 11, 12, 13, 14, 15, 16, 17, 18, 19, 20, 21, 22, 23] [.inl 0, .inl 1, .inl 2, .inl 3, .inl 4, .inl 5, .inl 6, .inl 7, .inl 8, .inl 9, .inl 10, .inl 11, .inl 12, .inl 13, .inl 14, .inl 15, .inl 16, .inl 17, .inl 18, .inl 19, .inl 20, .inl 21, .inl 22, .inl 23] rfl (by decide) (fun _ => rfl) (fun _ => rfl) (fun u27 H locs h hP hD hS => ?_)
            refine lv_goto (tgt := 211) hx hb dX3_running_191 (by decide) ?_
            refine lv_aload_n hx hb dX3_running_211 rfl (lv_at hl 0 rfl) ?_
            refine va_get (D := D) (ci := 3) (v := .ref (a 15)) (C := RX3) (T := TX3) (N := 12) hx hb hts inX3 hown hK hP 0 rfl rfl 2 (by decide) (hts _ q_352) (fun _ h9 => h9) rfl dX3_running_212 ?_
            refine lv_dup hx hb dX3_running_215 rfl ?_
            refine va_get (D := D) (ci := 2) (v := .int (u27.2.2.2.1.1 13)) (C := RX2) (T := TX2) (N := 14) hx hb hts inX2 hown hK hP 15 rfl rfl 13 (by decide) (hts _ q_246) (fun _ h9 => h9) rfl dX3_running_216 ?_
            refine lv_iconst (v := 1) hx hb dX3_running_219 (by decide) ?_
            refine lv_iadd hx hb dX3_running_220 ?_
            obtain ⟨T28, eT28⟩ : ∃ z : Ob, z = (si u27.2.2.2.1 13 ((u27.2.2.2.1.1 13) + 1)) := ⟨_, rfl⟩
            refine pu_f (ci := 2) (v := .int ((u27.2.2.2.1.1 13) + 1)) (ty := .int) (C := RX2) (T := TX2) (N := 14) hx hb hts inX2 tyX2 tyX2_ok nmX2 hown hK hP hD hS 15 rfl rfl 13 (by decide) (hts _ q_246) (fun _ h9 => h9) rfl rfl rfl rfl (Nat.le_of_ble_eq_true rfl) dX3_running_221 (wX3 cI cZ a (u27.1, u27.2.1, u27.2.2.1, T28, u27.2.2.2.2.1, u27.2.2.2.2.2)) (by subst eT28; rfl) (fun H locs hP hD hS => ?_)
            have h := h T28 eT28
            exact W.vret hx hb hr (fun t ht hW => ⟨⟨(u27.1, u27.2.1, u27.2.2.1, T28, u27.2.2.2.2.1, u27.2.2.2.2.2), rfl, h, by rw [ht]; exact hP, va_K.moved hW.alike hK, hD⟩, hS.F ht⟩) hS.2.2 dX3_running_224
        · have h := h.2 c22
          refine lv_aload_n hx hb dX3_running_168 rfl (lv_at hl 0 rfl) ?_
          refine va_get (D := D) (ci := 3) (v := .ref (a 18)) (C := RX3) (T := TX3) (N := 12) hx hb hts inX3 hown hK hP 0 rfl rfl 3 (by decide) (hts _ q_354) (fun _ h9 => h9) rfl dX3_running_169 ?_
          refine lv_iload_n hx hb dX3_running_172 rfl (lv_at hl 1 rfl) ?_
          refine lv_iload_n hx hb dX3_running_173 rfl (lv_at hl 2 rfl) ?_
          refine lv_iload_n hx hb dX3_running_174 rfl (lv_at hl 3 rfl) ?_
          refine cl_v (ws' := fun u29 => (wX3 cI cZ a (T.1, T.2.1, T.2.2.1, T.2.2.2.1, u29, T.2.2.2.2.2))) (va_runV (As := [.int y1, .int y2, .int y3]) (rest := []) ⟨hx, hb, hml, hown, hts⟩ (c_X1_reckonSingles l D cI cZ (fun k => a (k + 18)) _ T18 y1 y2 y3 _ h ) (cwV 3 hts (gV q_632 q_633 q_634 q_73 q_635) rfl rfl rfl (by decide +kernel) ⟨Nat.le_of_ble_eq_true rfl, Nat.le_of_ble_eq_true rfl⟩) (preV_of (ci := 1) (q := (RX1, TX1, 14)) hK hP hD [18, 19, 20, 21, 22] rfl rfl (by decide) 18 rfl rfl) rfl rfl hl.1 rfl (lv_room (Nat.le_of_ble_eq_true rfl)) dX3_running_175 ⟨Nat.zero_le _, Nat.zero_le _⟩) hP hD hS hA [18, 19, 20, 21, 22] [.inr 0, .inr 1, .inr 2, .inr 3, .inr 4, .inr 5, .inr 6, .inr 7, .inr 8, .inr 9, .inr 10, .inr 11, .inr 12, .inr 13, .inr 14, .inr 15, .inr 16, .inr 17, .inl 0, .inl 1, .inl 2, .inl 3, .inl 4, .inr 23] rfl (by decide) (fun _ => rfl) (fun _ => rfl) (fun u29 H locs h hP hD hS => ?_)
          refine lv_goto (tgt := 211) hx hb dX3_running_178 (by decide) ?_
          refine lv_aload_n hx hb dX3_running_211 rfl (lv_at hl 0 rfl) ?_
          refine va_get (D := D) (ci := 3) (v := .ref (a 15)) (C := RX3) (T := TX3) (N := 12) hx hb hts inX3 hown hK hP 0 rfl rfl 2 (by decide) (hts _ q_352) (fun _ h9 => h9) rfl dX3_running_212 ?_
          refine lv_dup hx hb dX3_running_215 rfl ?_
          refine va_get (D := D) (ci := 2) (v := .int (T.2.2.2.1.1 13)) (C := RX2) (T := TX2) (N := 14) hx hb hts inX2 hown hK hP 15 rfl rfl 13 (by decide) (hts _ q_246) (fun _ h9 => h9) rfl dX3_running_216 ?_
          refine lv_iconst (v := 1) hx hb dX3_running_219 (by decide) ?_
          refine lv_iadd hx hb dX3_running_220 ?_
          obtain ⟨T30, eT30⟩ : ∃ z : Ob, z = (si T.2.2.2.1 13 ((T.2.2.2.1.1 13) + 1)) := ⟨_, rfl⟩
          refine pu_f (ci := 2) (v := .int ((T.2.2.2.1.1 13) + 1)) (ty := .int) (C := RX2) (T := TX2) (N := 14) hx hb hts inX2 tyX2 tyX2_ok nmX2 hown hK hP hD hS 15 rfl rfl 13 (by decide) (hts _ q_246) (fun _ h9 => h9) rfl rfl rfl rfl (Nat.le_of_ble_eq_true rfl) dX3_running_221 (wX3 cI cZ a (T.1, T.2.1, T.2.2.1, T30, u29, T.2.2.2.2.2)) (by subst eT30; rfl) (fun H locs hP hD hS => ?_)
          have h := h T30 eT30
          exact W.vret hx hb hr (fun t ht hW => ⟨⟨(T.1, T.2.1, T.2.2.1, T30, u29, T.2.2.2.2.2), rfl, h, by rw [ht]; exact hP, va_K.moved hW.alike hK, hD⟩, hS.F ht⟩) hS.2.2 dX3_running_224
      · have h := h.2 c19
        refine lv_aload_n hx hb dX3_running_148 rfl (lv_at hl 0 rfl) ?_
        refine va_get (D := D) (ci := 3) (v := .ref (a 18)) (C := RX3) (T := TX3) (N := 12) hx hb hts inX3 hown hK hP 0 rfl rfl 3 (by decide) (hts _ q_354) (fun _ h9 => h9) rfl dX3_running_149 ?_
        refine lv_iload_n hx hb dX3_running_152 rfl (lv_at hl 1 rfl) ?_
        refine lv_iload_n hx hb dX3_running_153 rfl (lv_at hl 2 rfl) ?_
        refine lv_iload_n hx hb dX3_running_154 rfl (lv_at hl 3 rfl) ?_
        refine cl_v (ws' := fun u31 => (wX3 cI cZ a (T.1, T.2.1, T.2.2.1, T.2.2.2.1, u31, T.2.2.2.2.2))) (va_runV (As := [.int y1, .int y2, .int y3]) (rest := []) ⟨hx, hb, hml, hown, hts⟩ (c_X1_reckon l D cI cZ (fun k => a (k + 18)) _ T18 y1 y2 y3 _ h ) (cwV 3 hts (gV q_623 q_624 q_625 q_73 q_626) rfl rfl rfl (by decide +kernel) ⟨Nat.le_of_ble_eq_true rfl, Nat.le_of_ble_eq_true rfl⟩) (preV_of (ci := 1) (q := (RX1, TX1, 14)) hK hP hD [18, 19, 20, 21, 22] rfl rfl (by decide) 18 rfl rfl) rfl rfl hl.1 rfl (lv_room (Nat.le_of_ble_eq_true rfl)) dX3_running_155 ⟨Nat.zero_le _, Nat.zero_le _⟩) hP hD hS hA [18, 19, 20, 21, 22] [.inr 0, .inr 1, .inr 2, .inr 3, .inr 4, .inr 5, .inr 6, .inr 7, .inr 8, .inr 9, .inr 10, .inr 11, .inr 12, .inr 13, .inr 14, .inr 15, .inr 16, .inr 17, .inl 0, .inl 1, .inl 2, .inl 3, .inl 4, .inr 23] rfl (by decide) (fun _ => rfl) (fun _ => rfl) (fun u31 H locs h hP hD hS => ?_)
        refine lv_goto (tgt := 211) hx hb dX3_running_158 (by decide) ?_
        refine lv_aload_n hx hb dX3_running_211 rfl (lv_at hl 0 rfl) ?_
        refine va_get (D := D) (ci := 3) (v := .ref (a 15)) (C := RX3) (T := TX3) (N := 12) hx hb hts inX3 hown hK hP 0 rfl rfl 2 (by decide) (hts _ q_352) (fun _ h9 => h9) rfl dX3_running_212 ?_
        refine lv_dup hx hb dX3_running_215 rfl ?_
        refine va_get (D := D) (ci := 2) (v := .int (T.2.2.2.1.1 13)) (C := RX2) (T := TX2) (N := 14) hx hb hts inX2 hown hK hP 15 rfl rfl 13 (by decide) (hts _ q_246) (fun _ h9 => h9) rfl dX3_running_216 ?_
        refine lv_iconst (v := 1) hx hb dX3_running_219 (by decide) ?_
        refine lv_iadd hx hb dX3_running_220 ?_
        obtain ⟨T32, eT32⟩ : ∃ z : Ob, z = (si T.2.2.2.1 13 ((T.2.2.2.1.1 13) + 1)) := ⟨_, rfl⟩
        refine pu_f (ci := 2) (v := .int ((T.2.2.2.1.1 13) + 1)) (ty := .int) (C := RX2) (T := TX2) (N := 14) hx hb hts inX2 tyX2 tyX2_ok nmX2 hown hK hP hD hS 15 rfl rfl 13 (by decide) (hts _ q_246) (fun _ h9 => h9) rfl rfl rfl rfl (Nat.le_of_ble_eq_true rfl) dX3_running_221 (wX3 cI cZ a (T.1, T.2.1, T.2.2.1, T32, u31, T.2.2.2.2.2)) (by subst eT32; rfl) (fun H locs hP hD hS => ?_)
        have h := h T32 eT32
        exact W.vret hx hb hr (fun t ht hW => ⟨⟨(T.1, T.2.1, T.2.2.1, T32, u31, T.2.2.2.2.2), rfl, h, by rw [ht]; exact hP, va_K.moved hW.alike hK, hD⟩, hS.F ht⟩) hS.2.2 dX3_running_224
    · have h := h.2 c14
      refine lv_aload_n hx hb dX3_running_97 rfl (lv_at hl 0 rfl) ?_
      refine lv_iload hx hb dX3_running_98 (lv_at hl 4 rfl) ?_
      refine cl_v (ws' := fun u33 => (wX3 cI cZ a u33)) (va_runV (As := [.int y4]) (rest := []) ⟨hx, hb, hml, hown, hts⟩ (c_X3_raise l D cI cZ a _ T y4 _ h ) (cwV 1 hts (gV q_610 q_612 q_5 q_68 q_613) rfl rfl rfl (by decide +kernel) ⟨Nat.le_of_ble_eq_true rfl, Nat.le_of_ble_eq_true rfl⟩) (preV_of (ci := 3) (q := (RX3, TX3, 12)) hK hP hD [0, 1, 2, 3, 4, 5, 6, 7, 8, 9, 10, 11, 12, 13, 14, 15, 16, 17, 18, 19, 20, 21, 22, 23] rfl rfl (by decide) 0 rfl rfl) rfl rfl hl.1 rfl (lv_room (Nat.le_of_ble_eq_true rfl)) dX3_running_100 ⟨Nat.zero_le _, Nat.zero_le _⟩) hP hD hS hA [0, 1, 2, 3, 4, 5, 6, 7, 8, 9, 10, 11, 12, 13, 14, 15, 16, 17, 18, 19, 20, 21, 22, 23] [.inl 0, .inl 1, .inl 2, .inl 3, .inl 4, .inl 5, .inl 6, .inl 7, .inl 8, .inl 9, .inl 10, .inl 11, .inl 12, .inl 13, .inl 14, .inl 15, .inl 16, .inl 17, .inl 18, .inl 19, .inl 20, .inl 21, .inl 22, .inl 23] rfl (by decide) (fun _ => rfl) (fun _ => rfl) (fun u33 H locs h hP hD hS => ?_)
      exact W.vret hx hb hr (fun t ht hW => ⟨⟨u33, rfl, h, by rw [ht]; exact hP, va_K.moved hW.alike hK, hD⟩, hS.F ht⟩) hS.2.2 dX3_running_103
  have L66 : ∀ (y1 : Int32) (y2 : Int32) (y3 : Int32) (y4 : Int32) (T : (Nat → Int32) × Ob × Ob × Ob × Ob × (Nat → Int32)) (H : Heap) (locs : List Loc) (ls : Array Slot), va_P D vwCl (wX3 cI cZ a T) H → va_D A (wX3 cI cZ a T) → va_S A s.heap H locs → lv_has ls 5 [(0, .ref (a 0)), (1, .int y1), (2, .int y2), (3, .int y3), (4, .int y4)] → wp_X3_running_L66 Q y1 y2 y3 y4 T → W p l e rmX3_running s m ([.ref (a 0)] : List Value).toArray below meth c H locs 0 0 (MQ below (va_Qv Q (fun u => atW D cI cZ A (wX3 cI cZ a u)) A) ([.ref (a 0)] : List Value).toArray s 0 0 A) (F0 m 66 ls []) := by
    intro y1 y2 y3 y4 T H locs ls hP hD hS hl h
    unfold wp_X3_running_L66 at h
    refine lv_iload_n hx hb dX3_running_66 rfl (lv_at hl 1 rfl) ?_
    refine lv_bipush (v := 25) hx hb dX3_running_67 (by decide) ?_
    refine lv_icmp_ne (tgt := 91) hx hb dX3_running_69 (by decide) (fun c34 => ?_) (fun c34 => ?_)
    · have h := h.1 c34
      exact L91 y1 y2 y3 y4 T _ _ _ hP hD hS (lv_sub hl [0, 1, 2, 3, 4] rfl) h
    · have h := h.2 c34
      refine lv_aload_n hx hb dX3_running_72 rfl (lv_at hl 0 rfl) ?_
      refine va_get (D := D) (ci := 3) (v := .ref (a 1)) (C := RX3) (T := TX3) (N := 12) hx hb hts inX3 hown hK hP 0 rfl rfl 0 (by decide) (hts _ q_348) (fun _ h9 => h9) rfl dX3_running_73 ?_
      refine va_get (D := D) (ci := 4) (v := .ref (a 6)) (C := RX5) (T := TX5) (N := 16) hx hb hts inX5 hown hK hP 1 rfl rfl 4 (by decide) (hts _ q_121) (fun _ h9 => h9) rfl dX3_running_76 ?_
      refine lv_iload_n hx hb dX3_running_79 rfl (lv_at hl 2 rfl) ?_
      refine lv_bipush (v := 20) hx hb dX3_running_80 (by decide) ?_
      refine lv_irem hx hb dX3_running_82 (by decide) ?_
      refine ar_zl (f := (T.2.1.2 4)) (n := 21) (j := (Int32.toNatClampNeg (y2 - y2 / 20 * 20))) hx hb hK hP 6 rfl rfl h.1 dX3_running_83 ?_
      have h := h.2
      refine lv_if_eq (tgt := 91) hx hb dX3_running_84 (by decide) (fun c35 => ?_) (fun c35 => ?_)
      · have h := h.1 c35
        exact L91 y1 y2 y3 y4 T _ _ _ hP hD hS (lv_sub hl [0, 1, 2, 3, 4] rfl) h
      · have h := h.2 c35
        refine lv_bipush (v := 18) hx hb dX3_running_87 (by decide) ?_
        refine lv_istore (lv' := [(4, .int 18), (0, .ref (a 0)), (1, .int y1), (2, .int y2), (3, .int y3)]) hx hb dX3_running_89 hl (by decide) rfl (fun ls hl => ?_)
        exact L91 y1 y2 y3 18 T _ _ _ hP hD hS (lv_sub hl [1, 2, 3, 4, 0] rfl) h
  have hl := lv_entry ([.ref (a 0)]) (n := 5) (Nat.le_of_ble_eq_true rfl)
  rw [lg_entry_eq]
  generalize (lg_sl ([.ref (a 0)]) ++ List.replicate (5 - (lg_sl ([.ref (a 0)])).length) Slot.unset).toArray = ls at hl ⊢
  have hl : lv_has ls 5 [(0, .ref (a 0))] := hl
  unfold wp_X3_running at h
  refine lv_aload_n hx hb dX3_running_0 rfl (lv_at hl 0 rfl) ?_
  refine va_get (D := D) (ci := 3) (v := .ref (a 18)) (C := RX3) (T := TX3) (N := 12) hx hb hts inX3 hown hK hP 0 rfl rfl 3 (by decide) (hts _ q_354) (fun _ h9 => h9) rfl dX3_running_1 ?_
  refine cl_i (ws' := fun u1 => (wX3 cI cZ a (S.1, S.2.1, S.2.2.1, S.2.2.2.1, u1, S.2.2.2.2.2))) (va_runV (As := []) (rest := []) ⟨hx, hb, hml, hown, hts⟩ (c_X1_passes l D cI cZ (fun k => a (k + 18)) _ S.2.2.2.2.1 _ h ) (cwV 0 hts (gV q_570 q_571 q_572 q_73 q_573) rfl rfl rfl (by decide +kernel) ⟨Nat.le_of_ble_eq_true rfl, Nat.le_of_ble_eq_true rfl⟩) (preV_of (ci := 1) (q := (RX1, TX1, 14)) hK hP hD [18, 19, 20, 21, 22] rfl rfl (by decide) 18 rfl rfl) rfl rfl hl.1 rfl (lv_room (Nat.le_of_ble_eq_true rfl)) dX3_running_4 ⟨Nat.zero_le _, Nat.zero_le _⟩) hP hD hS hA [18, 19, 20, 21, 22] [.inr 0, .inr 1, .inr 2, .inr 3, .inr 4, .inr 5, .inr 6, .inr 7, .inr 8, .inr 9, .inr 10, .inr 11, .inr 12, .inr 13, .inr 14, .inr 15, .inr 16, .inr 17, .inl 0, .inl 1, .inl 2, .inl 3, .inl 4, .inr 23] rfl (by decide) (fun _ => rfl) (fun _ => rfl) (fun r2 u1 H locs h hP hD hS => ?_)
  refine lv_if_eq (tgt := 11) hx hb dX3_running_7 (by decide) (fun c3 => ?_) (fun c3 => ?_)
  · have h := h.1 c3
    refine lv_aload_n hx hb dX3_running_11 rfl (lv_at hl 0 rfl) ?_
    refine va_get (D := D) (ci := 3) (v := .ref (a 18)) (C := RX3) (T := TX3) (N := 12) hx hb hts inX3 hown hK hP 0 rfl rfl 3 (by decide) (hts _ q_354) (fun _ h9 => h9) rfl dX3_running_12 ?_
    refine lv_iconst (v := 0) hx hb dX3_running_15 (by decide) ?_
    refine cl_i (ws' := fun u4 => (wX3 cI cZ a (S.1, S.2.1, S.2.2.1, S.2.2.2.1, u4.1, u4.2))) (va_runV (As := [.int 0]) (rest := []) ⟨hx, hb, hml, hown, hts⟩ (c_X1_byteBehind l D cI cZ (fun k => a (k + 18)) _ (u1, S.2.2.2.2.2) 0 _ h ) (cwV 1 hts (gV q_574 q_549 q_550 q_73 q_551) rfl rfl rfl (by decide +kernel) ⟨Nat.le_of_ble_eq_true rfl, Nat.le_of_ble_eq_true rfl⟩) (preV_of (ci := 1) (q := (RX1, TX1, 14)) hK hP hD [18, 19, 20, 21, 22, 23] rfl rfl (by decide) 18 rfl rfl) rfl rfl hl.1 rfl (lv_room (Nat.le_of_ble_eq_true rfl)) dX3_running_16 ⟨Nat.zero_le _, Nat.zero_le _⟩) hP hD hS hA [18, 19, 20, 21, 22, 23] [.inr 0, .inr 1, .inr 2, .inr 3, .inr 4, .inr 5, .inr 6, .inr 7, .inr 8, .inr 9, .inr 10, .inr 11, .inr 12, .inr 13, .inr 14, .inr 15, .inr 16, .inr 17, .inl 0, .inl 1, .inl 2, .inl 3, .inl 4, .inl 5] rfl (by decide) (fun _ => rfl) (fun _ => rfl) (fun r5 u4 H locs h hP hD hS => ?_)
    refine lv_istore_n (lv' := [(1, .int r5), (0, .ref (a 0))]) hx hb dX3_running_19 rfl hl (by decide) rfl (fun ls hl => ?_)
    refine lv_aload_n hx hb dX3_running_20 rfl (lv_at hl 1 rfl) ?_
    refine va_get (D := D) (ci := 3) (v := .ref (a 18)) (C := RX3) (T := TX3) (N := 12) hx hb hts inX3 hown hK hP 0 rfl rfl 3 (by decide) (hts _ q_354) (fun _ h9 => h9) rfl dX3_running_21 ?_
    refine lv_iconst (v := 1) hx hb dX3_running_24 (by decide) ?_
    refine cl_i (ws' := fun u6 => (wX3 cI cZ a (S.1, S.2.1, S.2.2.1, S.2.2.2.1, u6.1, u6.2))) (va_runV (As := [.int 1]) (rest := []) ⟨hx, hb, hml, hown, hts⟩ (c_X1_byteBehind l D cI cZ (fun k => a (k + 18)) _ u4 1 _ h ) (cwV 1 hts (gV q_574 q_549 q_550 q_73 q_551) rfl rfl rfl (by decide +kernel) ⟨Nat.le_of_ble_eq_true rfl, Nat.le_of_ble_eq_true rfl⟩) (preV_of (ci := 1) (q := (RX1, TX1, 14)) hK hP hD [18, 19, 20, 21, 22, 23] rfl rfl (by decide) 18 rfl rfl) rfl rfl hl.1 rfl (lv_room (Nat.le_of_ble_eq_true rfl)) dX3_running_25 ⟨Nat.zero_le _, Nat.zero_le _⟩) hP hD hS hA [18, 19, 20, 21, 22, 23] [.inr 0, .inr 1, .inr 2, .inr 3, .inr 4, .inr 5, .inr 6, .inr 7, .inr 8, .inr 9, .inr 10, .inr 11, .inr 12, .inr 13, .inr 14, .inr 15, .inr 16, .inr 17, .inl 0, .inl 1, .inl 2, .inl 3, .inl 4, .inl 5] rfl (by decide) (fun _ => rfl) (fun _ => rfl) (fun r7 u6 H locs h hP hD hS => ?_)
    refine lv_istore_n (lv' := [(2, .int r7), (1, .int r5), (0, .ref (a 0))]) hx hb dX3_running_28 rfl hl (by decide) rfl (fun ls hl => ?_)
    refine lv_aload_n hx hb dX3_running_29 rfl (lv_at hl 2 rfl) ?_
    refine va_get (D := D) (ci := 3) (v := .ref (a 18)) (C := RX3) (T := TX3) (N := 12) hx hb hts inX3 hown hK hP 0 rfl rfl 3 (by decide) (hts _ q_354) (fun _ h9 => h9) rfl dX3_running_30 ?_
    refine lv_iconst (v := 2) hx hb dX3_running_33 (by decide) ?_
    refine cl_i (ws' := fun u8 => (wX3 cI cZ a (S.1, S.2.1, S.2.2.1, S.2.2.2.1, u8.1, u8.2))) (va_runV (As := [.int 2]) (rest := []) ⟨hx, hb, hml, hown, hts⟩ (c_X1_byteBehind l D cI cZ (fun k => a (k + 18)) _ u6 2 _ h ) (cwV 1 hts (gV q_574 q_549 q_550 q_73 q_551) rfl rfl rfl (by decide +kernel) ⟨Nat.le_of_ble_eq_true rfl, Nat.le_of_ble_eq_true rfl⟩) (preV_of (ci := 1) (q := (RX1, TX1, 14)) hK hP hD [18, 19, 20, 21, 22, 23] rfl rfl (by decide) 18 rfl rfl) rfl rfl hl.1 rfl (lv_room (Nat.le_of_ble_eq_true rfl)) dX3_running_34 ⟨Nat.zero_le _, Nat.zero_le _⟩) hP hD hS hA [18, 19, 20, 21, 22, 23] [.inr 0, .inr 1, .inr 2, .inr 3, .inr 4, .inr 5, .inr 6, .inr 7, .inr 8, .inr 9, .inr 10, .inr 11, .inr 12, .inr 13, .inr 14, .inr 15, .inr 16, .inr 17, .inl 0, .inl 1, .inl 2, .inl 3, .inl 4, .inl 5] rfl (by decide) (fun _ => rfl) (fun _ => rfl) (fun r9 u8 H locs h hP hD hS => ?_)
    refine lv_istore_n (lv' := [(3, .int r9), (2, .int r7), (1, .int r5), (0, .ref (a 0))]) hx hb dX3_running_37 rfl hl (by decide) rfl (fun ls hl => ?_)
    refine lv_aload_n hx hb dX3_running_38 rfl (lv_at hl 3 rfl) ?_
    refine va_get (D := D) (ci := 3) (v := .ref (a 18)) (C := RX3) (T := TX3) (N := 12) hx hb hts inX3 hown hK hP 0 rfl rfl 3 (by decide) (hts _ q_354) (fun _ h9 => h9) rfl dX3_running_39 ?_
    refine lv_iload_n hx hb dX3_running_42 rfl (lv_at hl 2 rfl) ?_
    refine lv_iload_n hx hb dX3_running_43 rfl (lv_at hl 1 rfl) ?_
    refine lv_iload_n hx hb dX3_running_44 rfl (lv_at hl 0 rfl) ?_
    refine cl_i (ws' := fun u10 => (wX3 cI cZ a (S.1, S.2.1, S.2.2.1, S.2.2.2.1, u10, u8.2))) (va_runV (As := [.int r5, .int r7, .int r9]) (rest := []) ⟨hx, hb, hml, hown, hts⟩ (c_X1_faultOf l D cI cZ (fun k => a (k + 18)) _ u8.1 r5 r7 r9 _ h ) (cwV 3 hts (gV q_575 q_576 q_577 q_73 q_578) rfl rfl rfl (by decide +kernel) ⟨Nat.le_of_ble_eq_true rfl, Nat.le_of_ble_eq_true rfl⟩) (preV_of (ci := 1) (q := (RX1, TX1, 14)) hK hP hD [18, 19, 20, 21, 22] rfl rfl (by decide) 18 rfl rfl) rfl rfl hl.1 rfl (lv_room (Nat.le_of_ble_eq_true rfl)) dX3_running_45 ⟨Nat.zero_le _, Nat.zero_le _⟩) hP hD hS hA [18, 19, 20, 21, 22] [.inr 0, .inr 1, .inr 2, .inr 3, .inr 4, .inr 5, .inr 6, .inr 7, .inr 8, .inr 9, .inr 10, .inr 11, .inr 12, .inr 13, .inr 14, .inr 15, .inr 16, .inr 17, .inl 0, .inl 1, .inl 2, .inl 3, .inl 4, .inr 23] rfl (by decide) (fun _ => rfl) (fun _ => rfl) (fun r11 u10 H locs h hP hD hS => ?_)
    refine lv_istore (lv' := [(4, .int r11), (3, .int r9), (2, .int r7), (1, .int r5), (0, .ref (a 0))]) hx hb dX3_running_48 hl (by decide) rfl (fun ls hl => ?_)
    refine lv_iload_n hx hb dX3_running_50 rfl (lv_at hl 3 rfl) ?_
    refine lv_bipush (v := 18) hx hb dX3_running_51 (by decide) ?_
    refine lv_icmp_ne (tgt := 66) hx hb dX3_running_53 (by decide) (fun c12 => ?_) (fun c12 => ?_)
    · have h := h.1 c12
      exact L66 r5 r7 r9 r11 (S.1, S.2.1, S.2.2.1, S.2.2.2.1, u10, u8.2) _ _ _ hP hD hS (lv_sub hl [4, 3, 2, 1, 0] rfl) h
    · have h := h.2 c12
      refine lv_aload_n hx hb dX3_running_56 rfl (lv_at hl 4 rfl) ?_
      refine va_get (D := D) (ci := 3) (v := .ref (a 1)) (C := RX3) (T := TX3) (N := 12) hx hb hts inX3 hown hK hP 0 rfl rfl 0 (by decide) (hts _ q_348) (fun _ h9 => h9) rfl dX3_running_57 ?_
      refine va_get (D := D) (ci := 4) (v := .int (S.2.1.1 10)) (C := RX5) (T := TX5) (N := 16) hx hb hts inX5 hown hK hP 1 rfl rfl 10 (by decide) (hts _ q_132) (fun _ h9 => h9) rfl dX3_running_60 ?_
      refine lv_if_eq (tgt := 87) hx hb dX3_running_63 (by decide) (fun c13 => ?_) (fun c13 => ?_)
      · have h := h.1 c13
        refine lv_bipush (v := 18) hx hb dX3_running_87 (by decide) ?_
        refine lv_istore (lv' := [(4, .int 18), (3, .int r9), (2, .int r7), (1, .int r5), (0, .ref (a 0))]) hx hb dX3_running_89 hl (by decide) rfl (fun ls hl => ?_)
        exact L91 r5 r7 r9 18 (S.1, S.2.1, S.2.2.1, S.2.2.2.1, u10, u8.2) _ _ _ hP hD hS (lv_sub hl [4, 3, 2, 1, 0] rfl) h
      · have h := h.2 c13
        exact L66 r5 r7 r9 r11 (S.1, S.2.1, S.2.2.1, S.2.2.2.1, u10, u8.2) _ _ _ hP hD hS (lv_sub hl [4, 3, 2, 1, 0] rfl) h
  · have h := h.2 c3
    exact W.vret hx hb hr (fun t ht hW => ⟨⟨(S.1, S.2.1, S.2.2.1, S.2.2.2.1, u1, S.2.2.2.2.2), rfl, h, by rw [ht]; exact hP, va_K.moved hW.alike hK, hD⟩, hS.F ht⟩) hS.2.2 dX3_running_10
/-! X3_frameWord -/
abbrev rmX3_frameWord : Room := { frames := 0, cells := 0, slots := 0, locals := 0 }
set_option maxHeartbeats 4000000 in
set_option maxRecDepth 100000 in
theorem c_X3_frameWord (l : Launch) (D : va_G) (cI cZ : ClassId) (a : Nat → Nat) (sz : Nat) (S : (Nat → Int32) × Ob × Ob × Ob × Ob × (Nat → Int32)) (Q : Int32 → ((Nat → Int32) × Ob × Ob × Ob × Ob × (Nat → Int32)) → Prop) (h : wp_X3_frameWord S Q) : Met l yX3_frameWord (wsm yX3_frameWord cX3_frameWord 1 (some .int)) rmX3_frameWord (va_Pc [.ref (a 0)] (preW D cI cZ sz (wX3 cI cZ a S))) (va_Qi Q (fun u => atW D cI cZ (va_A (wX3 cI cZ a S) sz) (wX3 cI cZ a u)) (va_A (wX3 cI cZ a S) sz)) 0 0 (va_A (wX3 cI cZ a S) sz) := by
  refine Met.ofW (cc := cX3_frameWord) (maxL := 1) (ret := (some .int)) (by decide) rfl ?_
  intro p e s m args below meth c s₁ B hml hv
  obtain ⟨rfl, hsz, hP, hK, hD0⟩ := hv
  have hx := B.exec
  have hb := B.bytes
  have hr := B.returns
  have hts0 := atoms_spec (ws := wsm yX3_frameWord cX3_frameWord 1 (some .int)) B.pre
  have hts : ∀ w ∈ lw_all, w.before _ s = true := fun w h => hts0 w (List.mem_cons_of_mem _ h)
  have hown : s.vm.findClass RX3 = some m.cls := findClass_of_methodNamed B.named
  have hlocks := B.notSynchronized
  subst hsz
  have hD := hD0.self (sz := s.heap.size)
  generalize hAe : va_A (wX3 cI cZ a S) s.heap.size = A at hD ⊢
  have hA : ∀ q : Nat, s.heap.size ≤ q → A q := fun q h => by rw [← hAe]; exact Or.inr h
  have hS : va_S A s.heap s.heap [] := va_S.rf
  have hml2 := hml
  have hl := lv_entry ([.ref (a 0)]) (n := 1) (Nat.le_of_ble_eq_true rfl)
  rw [lg_entry_eq]
  generalize (lg_sl ([.ref (a 0)]) ++ List.replicate (1 - (lg_sl ([.ref (a 0)])).length) Slot.unset).toArray = ls at hl ⊢
  have hl : lv_has ls 1 [(0, .ref (a 0))] := hl
  unfold wp_X3_frameWord at h
  refine lv_aload_n hx hb dX3_frameWord_0 rfl (lv_at hl 0 rfl) ?_
  refine va_get (D := D) (ci := 3) (v := .int (S.1 6)) (C := RX3) (T := TX3) (N := 12) hx hb hts inX3 hown hK hP 0 rfl rfl 6 (by decide) (hts _ q_360) (fun _ h9 => h9) rfl dX3_frameWord_1 ?_
  refine lv_iconst (v := 4) hx hb dX3_frameWord_4 (by decide) ?_
  refine lv_icmp_ge (tgt := 21) hx hb dX3_frameWord_5 (by decide) (fun c1 => ?_) (fun c1 => ?_)
  · have h := h.1 c1
    refine lv_aload_n hx hb dX3_frameWord_21 rfl (lv_at hl 0 rfl) ?_
    refine va_get (D := D) (ci := 3) (v := .int (S.1 6)) (C := RX3) (T := TX3) (N := 12) hx hb hts inX3 hown hK hP 0 rfl rfl 6 (by decide) (hts _ q_360) (fun _ h9 => h9) rfl dX3_frameWord_22 ?_
    refine lv_iconst (v := 4) hx hb dX3_frameWord_25 (by decide) ?_
    refine lv_icmp_ne (tgt := 37) hx hb dX3_frameWord_26 (by decide) (fun c2 => ?_) (fun c2 => ?_)
    · have h := h.1 c2
      refine lv_sipush (v := 23040) hx hb dX3_frameWord_37 (by decide) ?_
      refine lv_aload_n hx hb dX3_frameWord_40 rfl (lv_at hl 0 rfl) ?_
      refine va_get (D := D) (ci := 3) (v := .ref (a 18)) (C := RX3) (T := TX3) (N := 12) hx hb hts inX3 hown hK hP 0 rfl rfl 3 (by decide) (hts _ q_354) (fun _ h9 => h9) rfl dX3_frameWord_41 ?_
      refine va_get (D := D) (ci := 1) (v := .int (S.2.2.2.2.1.1 8)) (C := RX1) (T := TX1) (N := 14) hx hb hts inX1 hown hK hP 18 rfl rfl 8 (by decide) (hts _ q_302) (fun _ h9 => h9) rfl dX3_frameWord_44 ?_
      refine lv_iadd hx hb dX3_frameWord_47 ?_
      refine lv_iconst (v := 2) hx hb dX3_frameWord_48 (by decide) ?_
      refine lv_aload_n hx hb dX3_frameWord_49 rfl (lv_at hl 0 rfl) ?_
      refine va_get (D := D) (ci := 3) (v := .ref (a 18)) (C := RX3) (T := TX3) (N := 12) hx hb hts inX3 hown hK hP 0 rfl rfl 3 (by decide) (hts _ q_354) (fun _ h9 => h9) rfl dX3_frameWord_50 ?_
      refine va_get (D := D) (ci := 1) (v := .int (S.2.2.2.2.1.1 9)) (C := RX1) (T := TX1) (N := 14) hx hb hts inX1 hown hK hP 18 rfl rfl 9 (by decide) (hts _ q_305) (fun _ h9 => h9) rfl dX3_frameWord_53 ?_
      refine lv_imul hx hb dX3_frameWord_56 ?_
      refine lv_iadd hx hb dX3_frameWord_57 ?_
      refine lv_aload_n hx hb dX3_frameWord_58 rfl (lv_at hl 0 rfl) ?_
      refine va_get (D := D) (ci := 3) (v := .int (S.1 10)) (C := RX3) (T := TX3) (N := 12) hx hb hts inX3 hown hK hP 0 rfl rfl 10 (by decide) (hts _ q_366) (fun _ h9 => h9) rfl dX3_frameWord_59 ?_
      refine lv_if_eq (tgt := 69) hx hb dX3_frameWord_62 (by decide) (fun c3 => ?_) (fun c3 => ?_)
      · have h := h.1 c3
        refine lv_iconst (v := 0) hx hb dX3_frameWord_69 (by decide) ?_
        refine lv_iadd hx hb dX3_frameWord_70 ?_
        exact W.iret (v := (((23040 + (S.2.2.2.2.1.1 8)) + (2 * (S.2.2.2.2.1.1 9))) + 0)) hx hb hr (fun t ht hW => ⟨⟨(((23040 + (S.2.2.2.2.1.1 8)) + (2 * (S.2.2.2.2.1.1 9))) + 0), S, rfl, h, by rw [ht]; exact hP, va_K.moved hW.alike hK, hD⟩, hS.F ht⟩) hS.2.2 dX3_frameWord_71
      · have h := h.2 c3
        refine lv_iconst (v := 4) hx hb dX3_frameWord_65 (by decide) ?_
        refine lv_goto (tgt := 70) hx hb dX3_frameWord_66 (by decide) ?_
        refine lv_iadd hx hb dX3_frameWord_70 ?_
        exact W.iret (v := (((23040 + (S.2.2.2.2.1.1 8)) + (2 * (S.2.2.2.2.1.1 9))) + 4)) hx hb hr (fun t ht hW => ⟨⟨(((23040 + (S.2.2.2.2.1.1 8)) + (2 * (S.2.2.2.2.1.1 9))) + 4), S, rfl, h, by rw [ht]; exact hP, va_K.moved hW.alike hK, hD⟩, hS.F ht⟩) hS.2.2 dX3_frameWord_71
    · have h := h.2 c2
      refine lv_aload_n hx hb dX3_frameWord_29 rfl (lv_at hl 0 rfl) ?_
      refine va_get (D := D) (ci := 3) (v := .ref (a 18)) (C := RX3) (T := TX3) (N := 12) hx hb hts inX3 hown hK hP 0 rfl rfl 3 (by decide) (hts _ q_354) (fun _ h9 => h9) rfl dX3_frameWord_30 ?_
      refine va_get (D := D) (ci := 1) (v := .int (S.2.2.2.2.1.1 5)) (C := RX1) (T := TX1) (N := 14) hx hb hts inX1 hown hK hP 18 rfl rfl 5 (by decide) (hts _ q_294) (fun _ h9 => h9) rfl dX3_frameWord_33 ?_
      exact W.iret (v := (S.2.2.2.2.1.1 5)) hx hb hr (fun t ht hW => ⟨⟨(S.2.2.2.2.1.1 5), S, rfl, h, by rw [ht]; exact hP, va_K.moved hW.alike hK, hD⟩, hS.F ht⟩) hS.2.2 dX3_frameWord_36
  · have h := h.2 c1
    refine lv_aload_n hx hb dX3_frameWord_8 rfl (lv_at hl 0 rfl) ?_
    refine va_get (D := D) (ci := 3) (v := .ref (a 18)) (C := RX3) (T := TX3) (N := 12) hx hb hts inX3 hown hK hP 0 rfl rfl 3 (by decide) (hts _ q_354) (fun _ h9 => h9) rfl dX3_frameWord_9 ?_
    refine va_get (D := D) (ci := 1) (v := .ref (a 19)) (C := RX1) (T := TX1) (N := 14) hx hb hts inX1 hown hK hP 18 rfl rfl 1 (by decide) (hts _ q_285) (fun _ h9 => h9) rfl dX3_frameWord_12 ?_
    refine lv_aload_n hx hb dX3_frameWord_15 rfl (lv_at hl 0 rfl) ?_
    refine va_get (D := D) (ci := 3) (v := .int (S.1 6)) (C := RX3) (T := TX3) (N := 12) hx hb hts inX3 hown hK hP 0 rfl rfl 6 (by decide) (hts _ q_360) (fun _ h9 => h9) rfl dX3_frameWord_16 ?_
    refine ar_il (f := (S.2.2.2.2.1.2 1)) (n := 8) (j := (Int32.toNatClampNeg (S.1 6))) hx hb hK hP 19 rfl rfl h.1 dX3_frameWord_19 ?_
    have h := h.2
    exact W.iret (v := ((S.2.2.2.2.1.2 1) (Int32.toNatClampNeg (S.1 6)))) hx hb hr (fun t ht hW => ⟨⟨((S.2.2.2.2.1.2 1) (Int32.toNatClampNeg (S.1 6))), S, rfl, h, by rw [ht]; exact hP, va_K.moved hW.alike hK, hD⟩, hS.F ht⟩) hS.2.2 dX3_frameWord_20
/-! X3_beginOrUnstack -/
abbrev rmX3_beginOrUnstack : Room := { frames := 2, cells := 0, slots := 0, locals := 55 }
set_option maxHeartbeats 4000000 in
set_option maxRecDepth 100000 in
theorem c_X3_beginOrUnstack (l : Launch) (D : va_G) (cI cZ : ClassId) (a : Nat → Nat) (sz : Nat) (S : (Nat → Int32) × Ob × Ob × Ob × Ob × (Nat → Int32)) (p0 : Int32) (p1 : Int32) (Q : ((Nat → Int32) × Ob × Ob × Ob × Ob × (Nat → Int32)) → Prop) (h : wp_X3_beginOrUnstack S p0 p1 Q) : Met l yX3_beginOrUnstack (wsm yX3_beginOrUnstack cX3_beginOrUnstack 4 none) rmX3_beginOrUnstack (va_Pc [.ref (a 0), .int p0, .int p1] (preW D cI cZ sz (wX3 cI cZ a S))) (va_Qv Q (fun u => atW D cI cZ (va_A (wX3 cI cZ a S) sz) (wX3 cI cZ a u)) (va_A (wX3 cI cZ a S) sz)) 0 0 (va_A (wX3 cI cZ a S) sz) := by
  refine Met.ofW (cc := cX3_beginOrUnstack) (maxL := 4) (ret := none) (by decide) rfl ?_
  intro p e s m args below meth c s₁ B hml hv
  obtain ⟨rfl, hsz, hP, hK, hD0⟩ := hv
  have hx := B.exec
  have hb := B.bytes
  have hr := B.returns
  have hts0 := atoms_spec (ws := wsm yX3_beginOrUnstack cX3_beginOrUnstack 4 none) B.pre
  have hts : ∀ w ∈ lw_all, w.before _ s = true := fun w h => hts0 w (List.mem_cons_of_mem _ h)
  have hown : s.vm.findClass RX3 = some m.cls := findClass_of_methodNamed B.named
  have hlocks := B.notSynchronized
  subst hsz
  have hD := hD0.self (sz := s.heap.size)
  generalize hAe : va_A (wX3 cI cZ a S) s.heap.size = A at hD ⊢
  have hA : ∀ q : Nat, s.heap.size ≤ q → A q := fun q h => by rw [← hAe]; exact Or.inr h
  have hS : va_S A s.heap s.heap [] := va_S.rf
  have hml2 := hml
  have hl := lv_entry ([.ref (a 0), .int p0, .int p1]) (n := 4) (Nat.le_of_ble_eq_true rfl)
  rw [lg_entry_eq]
  generalize (lg_sl ([.ref (a 0), .int p0, .int p1]) ++ List.replicate (4 - (lg_sl ([.ref (a 0), .int p0, .int p1])).length) Slot.unset).toArray = ls at hl ⊢
  have hl : lv_has ls 4 [(0, .ref (a 0)), (1, .int p0), (2, .int p1)] := hl
  unfold wp_X3_beginOrUnstack at h
  refine lv_iload_n hx hb dX3_beginOrUnstack_0 rfl (lv_at hl 1 rfl) ?_
  refine lv_iconst (v := -1) hx hb dX3_beginOrUnstack_1 (by decide) ?_
  refine lv_icmp_ne (tgt := 11) hx hb dX3_beginOrUnstack_2 (by decide) (fun c1 => ?_) (fun c1 => ?_)
  · have h := h.1 c1
    refine lv_aload_n hx hb dX3_beginOrUnstack_11 rfl (lv_at hl 0 rfl) ?_
    refine va_get (D := D) (ci := 3) (v := .ref (a 1)) (C := RX3) (T := TX3) (N := 12) hx hb hts inX3 hown hK hP 0 rfl rfl 0 (by decide) (hts _ q_348) (fun _ h9 => h9) rfl dX3_beginOrUnstack_12 ?_
    refine lv_iload_n hx hb dX3_beginOrUnstack_15 rfl (lv_at hl 1 rfl) ?_
    refine lv_aload_n hx hb dX3_beginOrUnstack_16 rfl (lv_at hl 0 rfl) ?_
    refine va_get (D := D) (ci := 3) (v := .int (S.1 4)) (C := RX3) (T := TX3) (N := 12) hx hb hts inX3 hown hK hP 0 rfl rfl 4 (by decide) (hts _ q_356) (fun _ h9 => h9) rfl dX3_beginOrUnstack_17 ?_
    refine cl_i (ws' := fun u2 => (wX3 cI cZ a (S.1, u2, S.2.2.1, S.2.2.2.1, S.2.2.2.2.1, S.2.2.2.2.2))) (va_runV (As := [.int p0, .int (S.1 4)]) (rest := []) ⟨hx, hb, hml, hown, hts⟩ (c_X5_start l D cI cZ (fun k => a (k + 1)) _ S.2.1 p0 (S.1 4) _ h ) (cwV 2 hts (gV q_706 q_707 q_708 q_69 q_709) rfl rfl rfl (by decide +kernel) ⟨Nat.le_of_ble_eq_true rfl, Nat.le_of_ble_eq_true rfl⟩) (preV_of (ci := 4) (q := (RX5, TX5, 16)) hK hP hD [1, 2, 3, 4, 5, 6, 7, 8, 9, 10, 11] rfl rfl (by decide) 1 rfl rfl) rfl rfl hl.1 rfl (lv_room (Nat.le_of_ble_eq_true rfl)) dX3_beginOrUnstack_20 ⟨Nat.zero_le _, Nat.zero_le _⟩) hP hD hS hA [1, 2, 3, 4, 5, 6, 7, 8, 9, 10, 11] [.inr 0, .inl 0, .inl 1, .inl 2, .inl 3, .inl 4, .inl 5, .inl 6, .inl 7, .inl 8, .inl 9, .inl 10, .inr 12, .inr 13, .inr 14, .inr 15, .inr 16, .inr 17, .inr 18, .inr 19, .inr 20, .inr 21, .inr 22, .inr 23] rfl (by decide) (fun _ => rfl) (fun _ => rfl) (fun r3 u2 H locs h hP hD hS => ?_)
    refine lv_istore_n (lv' := [(3, .int r3), (0, .ref (a 0)), (1, .int p0), (2, .int p1)]) hx hb dX3_beginOrUnstack_23 rfl hl (by decide) rfl (fun ls hl => ?_)
    refine lv_aload_n hx hb dX3_beginOrUnstack_24 rfl (lv_at hl 1 rfl) ?_
    refine va_get (D := D) (ci := 3) (v := .ref (a 18)) (C := RX3) (T := TX3) (N := 12) hx hb hts inX3 hown hK hP 0 rfl rfl 3 (by decide) (hts _ q_354) (fun _ h9 => h9) rfl dX3_beginOrUnstack_25 ?_
    refine lv_aload_n hx hb dX3_beginOrUnstack_28 rfl (lv_at hl 1 rfl) ?_
    refine va_get (D := D) (ci := 3) (v := .ref (a 1)) (C := RX3) (T := TX3) (N := 12) hx hb hts inX3 hown hK hP 0 rfl rfl 0 (by decide) (hts _ q_348) (fun _ h9 => h9) rfl dX3_beginOrUnstack_29 ?_
    refine va_get (D := D) (ci := 4) (v := .ref (a 3)) (C := RX5) (T := TX5) (N := 16) hx hb hts inX5 hown hK hP 1 rfl rfl 1 (by decide) (hts _ q_113) (fun _ h9 => h9) rfl dX3_beginOrUnstack_32 ?_
    refine lv_iload_n hx hb dX3_beginOrUnstack_35 rfl (lv_at hl 2 rfl) ?_
    refine ar_il (f := (u2.2 1)) (n := 21) (j := (Int32.toNatClampNeg p0)) hx hb hK hP 3 rfl rfl h.1 dX3_beginOrUnstack_36 ?_
    have h := h.2
    obtain ⟨T4, eT4⟩ : ∃ z : Ob, z = (si S.2.2.2.2.1 5 ((u2.2 1) (Int32.toNatClampNeg p0))) := ⟨_, rfl⟩
    refine pu_f (ci := 1) (v := .int ((u2.2 1) (Int32.toNatClampNeg p0))) (ty := .int) (C := RX1) (T := TX1) (N := 14) hx hb hts inX1 tyX1 tyX1_ok nmX1 hown hK hP hD hS 18 rfl rfl 5 (by decide) (hts _ q_294) (fun _ h9 => h9) rfl rfl rfl rfl (Nat.le_of_ble_eq_true rfl) dX3_beginOrUnstack_37 (wX3 cI cZ a (S.1, u2, S.2.2.1, S.2.2.2.1, T4, S.2.2.2.2.2)) (by subst eT4; rfl) (fun H locs hP hD hS => ?_)
    have h := h T4 eT4
    refine lv_aload_n hx hb dX3_beginOrUnstack_40 rfl (lv_at hl 1 rfl) ?_
    refine va_get (D := D) (ci := 3) (v := .ref (a 18)) (C := RX3) (T := TX3) (N := 12) hx hb hts inX3 hown hK hP 0 rfl rfl 3 (by decide) (hts _ q_354) (fun _ h9 => h9) rfl dX3_beginOrUnstack_41 ?_
    refine lv_iconst (v := 0) hx hb dX3_beginOrUnstack_44 (by decide) ?_
    obtain ⟨T5, eT5⟩ : ∃ z : Ob, z = (si T4 12 0) := ⟨_, rfl⟩
    refine pu_f (ci := 1) (v := .int 0) (ty := .boolean) (C := RX1) (T := TX1) (N := 14) hx hb hts inX1 tyX1 tyX1_ok nmX1 hown hK hP hD hS 18 rfl rfl 12 (by decide) (hts _ q_314) (fun _ h9 => h9) rfl rfl (narB isB0) (fitB isB0) (Nat.le_of_ble_eq_true rfl) dX3_beginOrUnstack_45 (wX3 cI cZ a (S.1, u2, S.2.2.1, S.2.2.2.1, T5, S.2.2.2.2.2)) (by subst eT5; rfl) (fun H locs hP hD hS => ?_)
    have h := h T5 eT5
    refine lv_aload_n hx hb dX3_beginOrUnstack_48 rfl (lv_at hl 1 rfl) ?_
    refine lv_iconst (v := 0) hx hb dX3_beginOrUnstack_49 (by decide) ?_
    refine cl_v (ws' := fun u6 => (wX3 cI cZ a u6)) (va_runV (As := [.int 0]) (rest := []) ⟨hx, hb, hml, hown, hts⟩ (c_X3_enter l D cI cZ a _ (S.1, u2, S.2.2.1, S.2.2.2.1, T5, S.2.2.2.2.2) 0 _ h ) (cwV 1 hts (gV q_539 q_541 q_2 q_68 q_542) rfl rfl rfl (by decide +kernel) ⟨Nat.le_of_ble_eq_true rfl, Nat.le_of_ble_eq_true rfl⟩) (preV_of (ci := 3) (q := (RX3, TX3, 12)) hK hP hD [0, 1, 2, 3, 4, 5, 6, 7, 8, 9, 10, 11, 12, 13, 14, 15, 16, 17, 18, 19, 20, 21, 22, 23] rfl rfl (by decide) 0 rfl rfl) rfl rfl hl.1 rfl (lv_room (Nat.le_of_ble_eq_true rfl)) dX3_beginOrUnstack_50 ⟨Nat.zero_le _, Nat.zero_le _⟩) hP hD hS hA [0, 1, 2, 3, 4, 5, 6, 7, 8, 9, 10, 11, 12, 13, 14, 15, 16, 17, 18, 19, 20, 21, 22, 23] [.inl 0, .inl 1, .inl 2, .inl 3, .inl 4, .inl 5, .inl 6, .inl 7, .inl 8, .inl 9, .inl 10, .inl 11, .inl 12, .inl 13, .inl 14, .inl 15, .inl 16, .inl 17, .inl 18, .inl 19, .inl 20, .inl 21, .inl 22, .inl 23] rfl (by decide) (fun _ => rfl) (fun _ => rfl) (fun u6 H locs h hP hD hS => ?_)
    refine lv_aload_n hx hb dX3_beginOrUnstack_53 rfl (lv_at hl 1 rfl) ?_
    refine lv_iload_n hx hb dX3_beginOrUnstack_54 rfl (lv_at hl 2 rfl) ?_
    obtain ⟨T7, eT7⟩ : ∃ z : (Nat → Int32), z = (upd u6.1 7 p0) := ⟨_, rfl⟩
    refine pu_f (ci := 3) (v := .int p0) (ty := .int) (C := RX3) (T := TX3) (N := 12) hx hb hts inX3 tyX3 tyX3_ok nmX3 hown hK hP hD hS 0 rfl rfl 7 (by decide) (hts _ q_362) (fun _ h9 => h9) rfl rfl rfl rfl (Nat.le_of_ble_eq_true rfl) dX3_beginOrUnstack_55 (wX3 cI cZ a (T7, u6.2.1, u6.2.2.1, u6.2.2.2.1, u6.2.2.2.2.1, u6.2.2.2.2.2)) (by subst eT7; rfl) (fun H locs hP hD hS => ?_)
    have h := h T7 eT7
    refine lv_aload_n hx hb dX3_beginOrUnstack_58 rfl (lv_at hl 1 rfl) ?_
    refine va_get (D := D) (ci := 3) (v := .ref (a 15)) (C := RX3) (T := TX3) (N := 12) hx hb hts inX3 hown hK hP 0 rfl rfl 2 (by decide) (hts _ q_352) (fun _ h9 => h9) rfl dX3_beginOrUnstack_59 ?_
    refine lv_dup hx hb dX3_beginOrUnstack_62 rfl ?_
    refine va_get (D := D) (ci := 2) (v := .int (u6.2.2.2.1.1 5)) (C := RX2) (T := TX2) (N := 14) hx hb hts inX2 hown hK hP 15 rfl rfl 5 (by decide) (hts _ q_222) (fun _ h9 => h9) rfl dX3_beginOrUnstack_63 ?_
    refine lv_iconst (v := 1) hx hb dX3_beginOrUnstack_66 (by decide) ?_
    refine lv_iadd hx hb dX3_beginOrUnstack_67 ?_
    obtain ⟨T8, eT8⟩ : ∃ z : Ob, z = (si u6.2.2.2.1 5 ((u6.2.2.2.1.1 5) + 1)) := ⟨_, rfl⟩
    refine pu_f (ci := 2) (v := .int ((u6.2.2.2.1.1 5) + 1)) (ty := .int) (C := RX2) (T := TX2) (N := 14) hx hb hts inX2 tyX2 tyX2_ok nmX2 hown hK hP hD hS 15 rfl rfl 5 (by decide) (hts _ q_222) (fun _ h9 => h9) rfl rfl rfl rfl (Nat.le_of_ble_eq_true rfl) dX3_beginOrUnstack_68 (wX3 cI cZ a (T7, u6.2.1, u6.2.2.1, T8, u6.2.2.2.2.1, u6.2.2.2.2.2)) (by subst eT8; rfl) (fun H locs hP hD hS => ?_)
    have h := h T8 eT8
    refine lv_iload_n hx hb dX3_beginOrUnstack_71 rfl (lv_at hl 3 rfl) ?_
    refine lv_iconst (v := 1) hx hb dX3_beginOrUnstack_72 (by decide) ?_
    refine lv_icmp_ne (tgt := 92) hx hb dX3_beginOrUnstack_73 (by decide) (fun c9 => ?_) (fun c9 => ?_)
    · have h := h.1 c9
      refine lv_iload_n hx hb dX3_beginOrUnstack_92 rfl (lv_at hl 2 rfl) ?_
      refine lv_aload_n hx hb dX3_beginOrUnstack_93 rfl (lv_at hl 1 rfl) ?_
      refine va_get (D := D) (ci := 3) (v := .int (T7 8)) (C := RX3) (T := TX3) (N := 12) hx hb hts inX3 hown hK hP 0 rfl rfl 8 (by decide) (hts _ q_364) (fun _ h9 => h9) rfl dX3_beginOrUnstack_94 ?_
      refine lv_icmp_eq (tgt := 113) hx hb dX3_beginOrUnstack_97 (by decide) (fun c10 => ?_) (fun c10 => ?_)
      · have h := h.1 c10
        refine lv_aload_n hx hb dX3_beginOrUnstack_113 rfl (lv_at hl 1 rfl) ?_
        refine va_get (D := D) (ci := 3) (v := .ref (a 15)) (C := RX3) (T := TX3) (N := 12) hx hb hts inX3 hown hK hP 0 rfl rfl 2 (by decide) (hts _ q_352) (fun _ h9 => h9) rfl dX3_beginOrUnstack_114 ?_
        refine lv_iload_n hx hb dX3_beginOrUnstack_117 rfl (lv_at hl 3 rfl) ?_
        refine lv_iload_n hx hb dX3_beginOrUnstack_118 rfl (lv_at hl 2 rfl) ?_
        refine lv_aload_n hx hb dX3_beginOrUnstack_119 rfl (lv_at hl 1 rfl) ?_
        refine va_get (D := D) (ci := 3) (v := .int (T7 4)) (C := RX3) (T := TX3) (N := 12) hx hb hts inX3 hown hK hP 0 rfl rfl 4 (by decide) (hts _ q_356) (fun _ h9 => h9) rfl dX3_beginOrUnstack_120 ?_
        refine lv_iload_n hx hb dX3_beginOrUnstack_123 rfl (lv_at hl 0 rfl) ?_
        refine cl_v (ws' := fun u11 => (wX3 cI cZ a (T7, u6.2.1, u6.2.2.1, u11, u6.2.2.2.2.1, u6.2.2.2.2.2))) (va_runV (As := [.int p1, .int p0, .int (T7 4), .int r3]) (rest := []) ⟨hx, hb, hml, hown, hts⟩ (c_X2_record l D cI cZ (fun k => a (k + 15)) _ T8 p1 p0 (T7 4) r3 _ h ) (cwV 4 hts (gV q_559 q_560 q_561 q_72 q_562) rfl rfl rfl (by decide +kernel) ⟨Nat.le_of_ble_eq_true rfl, Nat.le_of_ble_eq_true rfl⟩) (preV_of (ci := 2) (q := (RX2, TX2, 14)) hK hP hD [15, 16, 17] rfl rfl (by decide) 15 rfl rfl) rfl rfl hl.1 rfl (lv_room (Nat.le_of_ble_eq_true rfl)) dX3_beginOrUnstack_124 ⟨Nat.zero_le _, Nat.zero_le _⟩) hP hD hS hA [15, 16, 17] [.inr 0, .inr 1, .inr 2, .inr 3, .inr 4, .inr 5, .inr 6, .inr 7, .inr 8, .inr 9, .inr 10, .inr 11, .inr 12, .inr 13, .inr 14, .inl 0, .inl 1, .inl 2, .inr 18, .inr 19, .inr 20, .inr 21, .inr 22, .inr 23] rfl (by decide) (fun _ => rfl) (fun _ => rfl) (fun u11 H locs h hP hD hS => ?_)
        exact W.vret hx hb hr (fun t ht hW => ⟨⟨(T7, u6.2.1, u6.2.2.1, u11, u6.2.2.2.2.1, u6.2.2.2.2.2), rfl, h, by rw [ht]; exact hP, va_K.moved hW.alike hK, hD⟩, hS.F ht⟩) hS.2.2 dX3_beginOrUnstack_127
      · have h := h.2 c10
        refine lv_aload_n hx hb dX3_beginOrUnstack_100 rfl (lv_at hl 1 rfl) ?_
        refine va_get (D := D) (ci := 3) (v := .ref (a 15)) (C := RX3) (T := TX3) (N := 12) hx hb hts inX3 hown hK hP 0 rfl rfl 2 (by decide) (hts _ q_352) (fun _ h9 => h9) rfl dX3_beginOrUnstack_101 ?_
        refine lv_dup hx hb dX3_beginOrUnstack_104 rfl ?_
        refine va_get (D := D) (ci := 2) (v := .int (T8.1 7)) (C := RX2) (T := TX2) (N := 14) hx hb hts inX2 hown hK hP 15 rfl rfl 7 (by decide) (hts _ q_228) (fun _ h9 => h9) rfl dX3_beginOrUnstack_105 ?_
        refine lv_iconst (v := 1) hx hb dX3_beginOrUnstack_108 (by decide) ?_
        refine lv_iadd hx hb dX3_beginOrUnstack_109 ?_
        obtain ⟨T12, eT12⟩ : ∃ z : Ob, z = (si T8 7 ((T8.1 7) + 1)) := ⟨_, rfl⟩
        refine pu_f (ci := 2) (v := .int ((T8.1 7) + 1)) (ty := .int) (C := RX2) (T := TX2) (N := 14) hx hb hts inX2 tyX2 tyX2_ok nmX2 hown hK hP hD hS 15 rfl rfl 7 (by decide) (hts _ q_228) (fun _ h9 => h9) rfl rfl rfl rfl (Nat.le_of_ble_eq_true rfl) dX3_beginOrUnstack_110 (wX3 cI cZ a (T7, u6.2.1, u6.2.2.1, T12, u6.2.2.2.2.1, u6.2.2.2.2.2)) (by subst eT12; rfl) (fun H locs hP hD hS => ?_)
        have h := h T12 eT12
        refine lv_aload_n hx hb dX3_beginOrUnstack_113 rfl (lv_at hl 1 rfl) ?_
        refine va_get (D := D) (ci := 3) (v := .ref (a 15)) (C := RX3) (T := TX3) (N := 12) hx hb hts inX3 hown hK hP 0 rfl rfl 2 (by decide) (hts _ q_352) (fun _ h9 => h9) rfl dX3_beginOrUnstack_114 ?_
        refine lv_iload_n hx hb dX3_beginOrUnstack_117 rfl (lv_at hl 3 rfl) ?_
        refine lv_iload_n hx hb dX3_beginOrUnstack_118 rfl (lv_at hl 2 rfl) ?_
        refine lv_aload_n hx hb dX3_beginOrUnstack_119 rfl (lv_at hl 1 rfl) ?_
        refine va_get (D := D) (ci := 3) (v := .int (T7 4)) (C := RX3) (T := TX3) (N := 12) hx hb hts inX3 hown hK hP 0 rfl rfl 4 (by decide) (hts _ q_356) (fun _ h9 => h9) rfl dX3_beginOrUnstack_120 ?_
        refine lv_iload_n hx hb dX3_beginOrUnstack_123 rfl (lv_at hl 0 rfl) ?_
        refine cl_v (ws' := fun u13 => (wX3 cI cZ a (T7, u6.2.1, u6.2.2.1, u13, u6.2.2.2.2.1, u6.2.2.2.2.2))) (va_runV (As := [.int p1, .int p0, .int (T7 4), .int r3]) (rest := []) ⟨hx, hb, hml, hown, hts⟩ (c_X2_record l D cI cZ (fun k => a (k + 15)) _ T12 p1 p0 (T7 4) r3 _ h ) (cwV 4 hts (gV q_559 q_560 q_561 q_72 q_562) rfl rfl rfl (by decide +kernel) ⟨Nat.le_of_ble_eq_true rfl, Nat.le_of_ble_eq_true rfl⟩) (preV_of (ci := 2) (q := (RX2, TX2, 14)) hK hP hD [15, 16, 17] rfl rfl (by decide) 15 rfl rfl) rfl rfl hl.1 rfl (lv_room (Nat.le_of_ble_eq_true rfl)) dX3_beginOrUnstack_124 ⟨Nat.zero_le _, Nat.zero_le _⟩) hP hD hS hA [15, 16, 17] [.inr 0, .inr 1, .inr 2, .inr 3, .inr 4, .inr 5, .inr 6, .inr 7, .inr 8, .inr 9, .inr 10, .inr 11, .inr 12, .inr 13, .inr 14, .inl 0, .inl 1, .inl 2, .inr 18, .inr 19, .inr 20, .inr 21, .inr 22, .inr 23] rfl (by decide) (fun _ => rfl) (fun _ => rfl) (fun u13 H locs h hP hD hS => ?_)
        exact W.vret hx hb hr (fun t ht hW => ⟨⟨(T7, u6.2.1, u6.2.2.1, u13, u6.2.2.2.2.1, u6.2.2.2.2.2), rfl, h, by rw [ht]; exact hP, va_K.moved hW.alike hK, hD⟩, hS.F ht⟩) hS.2.2 dX3_beginOrUnstack_127
    · have h := h.2 c9
      refine lv_aload_n hx hb dX3_beginOrUnstack_76 rfl (lv_at hl 1 rfl) ?_
      refine va_get (D := D) (ci := 3) (v := .ref (a 15)) (C := RX3) (T := TX3) (N := 12) hx hb hts inX3 hown hK hP 0 rfl rfl 2 (by decide) (hts _ q_352) (fun _ h9 => h9) rfl dX3_beginOrUnstack_77 ?_
      refine lv_dup hx hb dX3_beginOrUnstack_80 rfl ?_
      refine va_get (D := D) (ci := 2) (v := .int (T8.1 6)) (C := RX2) (T := TX2) (N := 14) hx hb hts inX2 hown hK hP 15 rfl rfl 6 (by decide) (hts _ q_225) (fun _ h9 => h9) rfl dX3_beginOrUnstack_81 ?_
      refine lv_iconst (v := 1) hx hb dX3_beginOrUnstack_84 (by decide) ?_
      refine lv_iadd hx hb dX3_beginOrUnstack_85 ?_
      obtain ⟨T14, eT14⟩ : ∃ z : Ob, z = (si T8 6 ((T8.1 6) + 1)) := ⟨_, rfl⟩
      refine pu_f (ci := 2) (v := .int ((T8.1 6) + 1)) (ty := .int) (C := RX2) (T := TX2) (N := 14) hx hb hts inX2 tyX2 tyX2_ok nmX2 hown hK hP hD hS 15 rfl rfl 6 (by decide) (hts _ q_225) (fun _ h9 => h9) rfl rfl rfl rfl (Nat.le_of_ble_eq_true rfl) dX3_beginOrUnstack_86 (wX3 cI cZ a (T7, u6.2.1, u6.2.2.1, T14, u6.2.2.2.2.1, u6.2.2.2.2.2)) (by subst eT14; rfl) (fun H locs hP hD hS => ?_)
      have h := h T14 eT14
      refine lv_goto (tgt := 113) hx hb dX3_beginOrUnstack_89 (by decide) ?_
      refine lv_aload_n hx hb dX3_beginOrUnstack_113 rfl (lv_at hl 1 rfl) ?_
      refine va_get (D := D) (ci := 3) (v := .ref (a 15)) (C := RX3) (T := TX3) (N := 12) hx hb hts inX3 hown hK hP 0 rfl rfl 2 (by decide) (hts _ q_352) (fun _ h9 => h9) rfl dX3_beginOrUnstack_114 ?_
      refine lv_iload_n hx hb dX3_beginOrUnstack_117 rfl (lv_at hl 3 rfl) ?_
      refine lv_iload_n hx hb dX3_beginOrUnstack_118 rfl (lv_at hl 2 rfl) ?_
      refine lv_aload_n hx hb dX3_beginOrUnstack_119 rfl (lv_at hl 1 rfl) ?_
      refine va_get (D := D) (ci := 3) (v := .int (T7 4)) (C := RX3) (T := TX3) (N := 12) hx hb hts inX3 hown hK hP 0 rfl rfl 4 (by decide) (hts _ q_356) (fun _ h9 => h9) rfl dX3_beginOrUnstack_120 ?_
      refine lv_iload_n hx hb dX3_beginOrUnstack_123 rfl (lv_at hl 0 rfl) ?_
      refine cl_v (ws' := fun u15 => (wX3 cI cZ a (T7, u6.2.1, u6.2.2.1, u15, u6.2.2.2.2.1, u6.2.2.2.2.2))) (va_runV (As := [.int p1, .int p0, .int (T7 4), .int r3]) (rest := []) ⟨hx, hb, hml, hown, hts⟩ (c_X2_record l D cI cZ (fun k => a (k + 15)) _ T14 p1 p0 (T7 4) r3 _ h ) (cwV 4 hts (gV q_559 q_560 q_561 q_72 q_562) rfl rfl rfl (by decide +kernel) ⟨Nat.le_of_ble_eq_true rfl, Nat.le_of_ble_eq_true rfl⟩) (preV_of (ci := 2) (q := (RX2, TX2, 14)) hK hP hD [15, 16, 17] rfl rfl (by decide) 15 rfl rfl) rfl rfl hl.1 rfl (lv_room (Nat.le_of_ble_eq_true rfl)) dX3_beginOrUnstack_124 ⟨Nat.zero_le _, Nat.zero_le _⟩) hP hD hS hA [15, 16, 17] [.inr 0, .inr 1, .inr 2, .inr 3, .inr 4, .inr 5, .inr 6, .inr 7, .inr 8, .inr 9, .inr 10, .inr 11, .inr 12, .inr 13, .inr 14, .inl 0, .inl 1, .inl 2, .inr 18, .inr 19, .inr 20, .inr 21, .inr 22, .inr 23] rfl (by decide) (fun _ => rfl) (fun _ => rfl) (fun u15 H locs h hP hD hS => ?_)
      exact W.vret hx hb hr (fun t ht hW => ⟨⟨(T7, u6.2.1, u6.2.2.1, u15, u6.2.2.2.2.1, u6.2.2.2.2.2), rfl, h, by rw [ht]; exact hP, va_K.moved hW.alike hK, hD⟩, hS.F ht⟩) hS.2.2 dX3_beginOrUnstack_127
  · have h := h.2 c1
    refine lv_aload_n hx hb dX3_beginOrUnstack_5 rfl (lv_at hl 0 rfl) ?_
    refine lv_iconst (v := 3) hx hb dX3_beginOrUnstack_6 (by decide) ?_
    refine cl_v (ws' := fun u16 => (wX3 cI cZ a u16)) (va_runV (As := [.int 3]) (rest := []) ⟨hx, hb, hml, hown, hts⟩ (c_X3_enter l D cI cZ a _ S 3 _ h ) (cwV 1 hts (gV q_539 q_541 q_2 q_68 q_542) rfl rfl rfl (by decide +kernel) ⟨Nat.le_of_ble_eq_true rfl, Nat.le_of_ble_eq_true rfl⟩) (preV_of (ci := 3) (q := (RX3, TX3, 12)) hK hP hD [0, 1, 2, 3, 4, 5, 6, 7, 8, 9, 10, 11, 12, 13, 14, 15, 16, 17, 18, 19, 20, 21, 22, 23] rfl rfl (by decide) 0 rfl rfl) rfl rfl hl.1 rfl (lv_room (Nat.le_of_ble_eq_true rfl)) dX3_beginOrUnstack_7 ⟨Nat.zero_le _, Nat.zero_le _⟩) hP hD hS hA [0, 1, 2, 3, 4, 5, 6, 7, 8, 9, 10, 11, 12, 13, 14, 15, 16, 17, 18, 19, 20, 21, 22, 23] [.inl 0, .inl 1, .inl 2, .inl 3, .inl 4, .inl 5, .inl 6, .inl 7, .inl 8, .inl 9, .inl 10, .inl 11, .inl 12, .inl 13, .inl 14, .inl 15, .inl 16, .inl 17, .inl 18, .inl 19, .inl 20, .inl 21, .inl 22, .inl 23] rfl (by decide) (fun _ => rfl) (fun _ => rfl) (fun u16 H locs h hP hD hS => ?_)
    exact W.vret hx hb hr (fun t ht hW => ⟨⟨u16, rfl, h, by rw [ht]; exact hP, va_K.moved hW.alike hK, hD⟩, hS.F ht⟩) hS.2.2 dX3_beginOrUnstack_10
/-! X3_stacking -/
abbrev rmX3_stacking : Room := { frames := 3, cells := 0, slots := 0, locals := 78 }
set_option maxHeartbeats 4000000 in
set_option maxRecDepth 100000 in
theorem c_X3_stacking (l : Launch) (D : va_G) (cI cZ : ClassId) (a : Nat → Nat) (sz : Nat) (S : (Nat → Int32) × Ob × Ob × Ob × Ob × (Nat → Int32)) (Q : ((Nat → Int32) × Ob × Ob × Ob × Ob × (Nat → Int32)) → Prop) (h : wp_X3_stacking S Q) : Met l yX3_stacking (wsm yX3_stacking cX3_stacking 1 none) rmX3_stacking (va_Pc [.ref (a 0)] (preW D cI cZ sz (wX3 cI cZ a S))) (va_Qv Q (fun u => atW D cI cZ (va_A (wX3 cI cZ a S) sz) (wX3 cI cZ a u)) (va_A (wX3 cI cZ a S) sz)) 0 0 (va_A (wX3 cI cZ a S) sz) := by
  refine Met.ofW (cc := cX3_stacking) (maxL := 1) (ret := none) (by decide) rfl ?_
  intro p e s m args below meth c s₁ B hml hv
  obtain ⟨rfl, hsz, hP, hK, hD0⟩ := hv
  have hx := B.exec
  have hb := B.bytes
  have hr := B.returns
  have hts0 := atoms_spec (ws := wsm yX3_stacking cX3_stacking 1 none) B.pre
  have hts : ∀ w ∈ lw_all, w.before _ s = true := fun w h => hts0 w (List.mem_cons_of_mem _ h)
  have hown : s.vm.findClass RX3 = some m.cls := findClass_of_methodNamed B.named
  have hlocks := B.notSynchronized
  subst hsz
  have hD := hD0.self (sz := s.heap.size)
  generalize hAe : va_A (wX3 cI cZ a S) s.heap.size = A at hD ⊢
  have hA : ∀ q : Nat, s.heap.size ≤ q → A q := fun q h => by rw [← hAe]; exact Or.inr h
  have hS : va_S A s.heap s.heap [] := va_S.rf
  have hml2 := hml
  have L89 : ∀ (T : (Nat → Int32) × Ob × Ob × Ob × Ob × (Nat → Int32)) (H : Heap) (locs : List Loc) (ls : Array Slot), va_P D vwCl (wX3 cI cZ a T) H → va_D A (wX3 cI cZ a T) → va_S A s.heap H locs → lv_has ls 1 [(0, .ref (a 0))] → wp_X3_stacking_L89 Q T → W p l e rmX3_stacking s m ([.ref (a 0)] : List Value).toArray below meth c H locs 0 0 (MQ below (va_Qv Q (fun u => atW D cI cZ A (wX3 cI cZ a u)) A) ([.ref (a 0)] : List Value).toArray s 0 0 A) (F0 m 89 ls []) := by
    intro T H locs ls hP hD hS hl h
    unfold wp_X3_stacking_L89 at h
    refine lv_aload_n hx hb dX3_stacking_89 rfl (lv_at hl 0 rfl) ?_
    refine va_get (D := D) (ci := 3) (v := .int (T.1 5)) (C := RX3) (T := TX3) (N := 12) hx hb hts inX3 hown hK hP 0 rfl rfl 5 (by decide) (hts _ q_358) (fun _ h9 => h9) rfl dX3_stacking_90 ?_
    refine lv_iconst (v := 5) hx hb dX3_stacking_93 (by decide) ?_
    refine lv_icmp_ne (tgt := 98) hx hb dX3_stacking_94 (by decide) (fun c21 => ?_) (fun c21 => ?_)
    · have h := h.1 c21
      refine lv_aload_n hx hb dX3_stacking_98 rfl (lv_at hl 0 rfl) ?_
      refine lv_dup hx hb dX3_stacking_99 rfl ?_
      refine va_get (D := D) (ci := 3) (v := .int (T.1 6)) (C := RX3) (T := TX3) (N := 12) hx hb hts inX3 hown hK hP 0 rfl rfl 6 (by decide) (hts _ q_360) (fun _ h9 => h9) rfl dX3_stacking_100 ?_
      refine lv_iconst (v := 1) hx hb dX3_stacking_103 (by decide) ?_
      refine lv_iadd hx hb dX3_stacking_104 ?_
      obtain ⟨T22, eT22⟩ : ∃ z : (Nat → Int32), z = (upd T.1 6 ((T.1 6) + 1)) := ⟨_, rfl⟩
      refine pu_f (ci := 3) (v := .int ((T.1 6) + 1)) (ty := .int) (C := RX3) (T := TX3) (N := 12) hx hb hts inX3 tyX3 tyX3_ok nmX3 hown hK hP hD hS 0 rfl rfl 6 (by decide) (hts _ q_360) (fun _ h9 => h9) rfl rfl rfl rfl (Nat.le_of_ble_eq_true rfl) dX3_stacking_105 (wX3 cI cZ a (T22, T.2.1, T.2.2.1, T.2.2.2.1, T.2.2.2.2.1, T.2.2.2.2.2)) (by subst eT22; rfl) (fun H locs hP hD hS => ?_)
      have h := h T22 eT22
      refine lv_aload_n hx hb dX3_stacking_108 rfl (lv_at hl 0 rfl) ?_
      refine va_get (D := D) (ci := 3) (v := .int (T22 6)) (C := RX3) (T := TX3) (N := 12) hx hb hts inX3 hown hK hP 0 rfl rfl 6 (by decide) (hts _ q_360) (fun _ h9 => h9) rfl dX3_stacking_109 ?_
      refine lv_bipush (v := 6) hx hb dX3_stacking_112 (by decide) ?_
      refine lv_icmp_lt (tgt := 157) hx hb dX3_stacking_114 (by decide) (fun c23 => ?_) (fun c23 => ?_)
      · have h := h.1 c23
        exact W.vret hx hb hr (fun t ht hW => ⟨⟨(T22, T.2.1, T.2.2.1, T.2.2.2.1, T.2.2.2.2.1, T.2.2.2.2.2), rfl, h, by rw [ht]; exact hP, va_K.moved hW.alike hK, hD⟩, hS.F ht⟩) hS.2.2 dX3_stacking_157
      · have h := h.2 c23
        refine lv_aload_n hx hb dX3_stacking_117 rfl (lv_at hl 0 rfl) ?_
        refine lv_aload_n hx hb dX3_stacking_118 rfl (lv_at hl 0 rfl) ?_
        refine va_get (D := D) (ci := 3) (v := .int (T22 11)) (C := RX3) (T := TX3) (N := 12) hx hb hts inX3 hown hK hP 0 rfl rfl 11 (by decide) (hts _ q_367) (fun _ h9 => h9) rfl dX3_stacking_119 ?_
        refine lv_if_eq (tgt := 146) hx hb dX3_stacking_122 (by decide) (fun c24 => ?_) (fun c24 => ?_)
        · have h := h.1 c24
          refine lv_aload_n hx hb dX3_stacking_146 rfl (lv_at hl 0 rfl) ?_
          refine va_get (D := D) (ci := 3) (v := .ref (a 1)) (C := RX3) (T := TX3) (N := 12) hx hb hts inX3 hown hK hP 0 rfl rfl 0 (by decide) (hts _ q_348) (fun _ h9 => h9) rfl dX3_stacking_147 ?_
          refine cl_i (ws' := fun u25 => (wX3 cI cZ a (T22, u25, T.2.2.1, T.2.2.2.1, T.2.2.2.2.1, T.2.2.2.2.2))) (va_runV (As := []) (rest := [.ref (a 0)]) ⟨hx, hb, hml, hown, hts⟩ (c_X5_next l D cI cZ (fun k => a (k + 1)) _ T.2.1 _ h ) (cwV 0 hts (gV q_523 q_524 q_525 q_69 q_526) rfl rfl rfl (by decide +kernel) ⟨Nat.le_of_ble_eq_true rfl, Nat.le_of_ble_eq_true rfl⟩) (preV_of (ci := 4) (q := (RX5, TX5, 16)) hK hP hD [1, 2, 3, 4, 5, 6, 7, 8, 9, 10, 11] rfl rfl (by decide) 1 rfl rfl) rfl rfl hl.1 rfl (lv_room (Nat.le_of_ble_eq_true rfl)) dX3_stacking_150 ⟨Nat.zero_le _, Nat.zero_le _⟩) hP hD hS hA [1, 2, 3, 4, 5, 6, 7, 8, 9, 10, 11] [.inr 0, .inl 0, .inl 1, .inl 2, .inl 3, .inl 4, .inl 5, .inl 6, .inl 7, .inl 8, .inl 9, .inl 10, .inr 12, .inr 13, .inr 14, .inr 15, .inr 16, .inr 17, .inr 18, .inr 19, .inr 20, .inr 21, .inr 22, .inr 23] rfl (by decide) (fun _ => rfl) (fun _ => rfl) (fun r26 u25 H locs h hP hD hS => ?_)
          refine lv_iconst (v := 0) hx hb dX3_stacking_153 (by decide) ?_
          refine cl_v (ws' := fun u27 => (wX3 cI cZ a u27)) (va_runV (As := [.int r26, .int 0]) (rest := []) ⟨hx, hb, hml, hown, hts⟩ (c_X3_beginOrUnstack l D cI cZ a _ (T22, u25, T.2.2.1, T.2.2.2.1, T.2.2.2.2.1, T.2.2.2.2.2) r26 0 _ h ) (cwV 2 hts (gV q_702 q_704 q_14 q_68 q_705) rfl rfl rfl (by decide +kernel) ⟨Nat.le_of_ble_eq_true rfl, Nat.le_of_ble_eq_true rfl⟩) (preV_of (ci := 3) (q := (RX3, TX3, 12)) hK hP hD [0, 1, 2, 3, 4, 5, 6, 7, 8, 9, 10, 11, 12, 13, 14, 15, 16, 17, 18, 19, 20, 21, 22, 23] rfl rfl (by decide) 0 rfl rfl) rfl rfl hl.1 rfl (lv_room (Nat.le_of_ble_eq_true rfl)) dX3_stacking_154 ⟨Nat.zero_le _, Nat.zero_le _⟩) hP hD hS hA [0, 1, 2, 3, 4, 5, 6, 7, 8, 9, 10, 11, 12, 13, 14, 15, 16, 17, 18, 19, 20, 21, 22, 23] [.inl 0, .inl 1, .inl 2, .inl 3, .inl 4, .inl 5, .inl 6, .inl 7, .inl 8, .inl 9, .inl 10, .inl 11, .inl 12, .inl 13, .inl 14, .inl 15, .inl 16, .inl 17, .inl 18, .inl 19, .inl 20, .inl 21, .inl 22, .inl 23] rfl (by decide) (fun _ => rfl) (fun _ => rfl) (fun u27 H locs h hP hD hS => ?_)
          exact W.vret hx hb hr (fun t ht hW => ⟨⟨u27, rfl, h, by rw [ht]; exact hP, va_K.moved hW.alike hK, hD⟩, hS.F ht⟩) hS.2.2 dX3_stacking_157
        · have h := h.2 c24
          refine lv_aload_n hx hb dX3_stacking_125 rfl (lv_at hl 0 rfl) ?_
          refine va_get (D := D) (ci := 3) (v := .ref (a 1)) (C := RX3) (T := TX3) (N := 12) hx hb hts inX3 hown hK hP 0 rfl rfl 0 (by decide) (hts _ q_348) (fun _ h9 => h9) rfl dX3_stacking_126 ?_
          refine lv_aload_n hx hb dX3_stacking_129 rfl (lv_at hl 0 rfl) ?_
          refine va_get (D := D) (ci := 3) (v := .int (T22 8)) (C := RX3) (T := TX3) (N := 12) hx hb hts inX3 hown hK hP 0 rfl rfl 8 (by decide) (hts _ q_364) (fun _ h9 => h9) rfl dX3_stacking_130 ?_
          refine cl_i (ws' := fun u28 => (wX3 cI cZ a (T22, u28, T.2.2.1, T.2.2.2.1, T.2.2.2.2.1, T.2.2.2.2.2))) (va_runV (As := [.int (T22 8)]) (rest := [.ref (a 0)]) ⟨hx, hb, hml, hown, hts⟩ (c_X5_can l D cI cZ (fun k => a (k + 1)) _ T.2.1 (T22 8) _ h ) (cwV 1 hts (gV q_698 q_699 q_700 q_69 q_701) rfl rfl rfl (by decide +kernel) ⟨Nat.le_of_ble_eq_true rfl, Nat.le_of_ble_eq_true rfl⟩) (preV_of (ci := 4) (q := (RX5, TX5, 16)) hK hP hD [1, 2, 3, 4, 5, 6, 7, 8, 9, 10, 11] rfl rfl (by decide) 1 rfl rfl) rfl rfl hl.1 rfl (lv_room (Nat.le_of_ble_eq_true rfl)) dX3_stacking_133 ⟨Nat.zero_le _, Nat.zero_le _⟩) hP hD hS hA [1, 2, 3, 4, 5, 6, 7, 8, 9, 10, 11] [.inr 0, .inl 0, .inl 1, .inl 2, .inl 3, .inl 4, .inl 5, .inl 6, .inl 7, .inl 8, .inl 9, .inl 10, .inr 12, .inr 13, .inr 14, .inr 15, .inr 16, .inr 17, .inr 18, .inr 19, .inr 20, .inr 21, .inr 22, .inr 23] rfl (by decide) (fun _ => rfl) (fun _ => rfl) (fun r29 u28 H locs h hP hD hS => ?_)
          refine lv_if_eq (tgt := 146) hx hb dX3_stacking_136 (by decide) (fun c30 => ?_) (fun c30 => ?_)
          · have h := h.1 c30
            refine lv_aload_n hx hb dX3_stacking_146 rfl (lv_at hl 0 rfl) ?_
            refine va_get (D := D) (ci := 3) (v := .ref (a 1)) (C := RX3) (T := TX3) (N := 12) hx hb hts inX3 hown hK hP 0 rfl rfl 0 (by decide) (hts _ q_348) (fun _ h9 => h9) rfl dX3_stacking_147 ?_
            refine cl_i (ws' := fun u31 => (wX3 cI cZ a (T22, u31, T.2.2.1, T.2.2.2.1, T.2.2.2.2.1, T.2.2.2.2.2))) (va_runV (As := []) (rest := [.ref (a 0)]) ⟨hx, hb, hml, hown, hts⟩ (c_X5_next l D cI cZ (fun k => a (k + 1)) _ u28 _ h ) (cwV 0 hts (gV q_523 q_524 q_525 q_69 q_526) rfl rfl rfl (by decide +kernel) ⟨Nat.le_of_ble_eq_true rfl, Nat.le_of_ble_eq_true rfl⟩) (preV_of (ci := 4) (q := (RX5, TX5, 16)) hK hP hD [1, 2, 3, 4, 5, 6, 7, 8, 9, 10, 11] rfl rfl (by decide) 1 rfl rfl) rfl rfl hl.1 rfl (lv_room (Nat.le_of_ble_eq_true rfl)) dX3_stacking_150 ⟨Nat.zero_le _, Nat.zero_le _⟩) hP hD hS hA [1, 2, 3, 4, 5, 6, 7, 8, 9, 10, 11] [.inr 0, .inl 0, .inl 1, .inl 2, .inl 3, .inl 4, .inl 5, .inl 6, .inl 7, .inl 8, .inl 9, .inl 10, .inr 12, .inr 13, .inr 14, .inr 15, .inr 16, .inr 17, .inr 18, .inr 19, .inr 20, .inr 21, .inr 22, .inr 23] rfl (by decide) (fun _ => rfl) (fun _ => rfl) (fun r32 u31 H locs h hP hD hS => ?_)
            refine lv_iconst (v := 0) hx hb dX3_stacking_153 (by decide) ?_
            refine cl_v (ws' := fun u33 => (wX3 cI cZ a u33)) (va_runV (As := [.int r32, .int 0]) (rest := []) ⟨hx, hb, hml, hown, hts⟩ (c_X3_beginOrUnstack l D cI cZ a _ (T22, u31, T.2.2.1, T.2.2.2.1, T.2.2.2.2.1, T.2.2.2.2.2) r32 0 _ h ) (cwV 2 hts (gV q_702 q_704 q_14 q_68 q_705) rfl rfl rfl (by decide +kernel) ⟨Nat.le_of_ble_eq_true rfl, Nat.le_of_ble_eq_true rfl⟩) (preV_of (ci := 3) (q := (RX3, TX3, 12)) hK hP hD [0, 1, 2, 3, 4, 5, 6, 7, 8, 9, 10, 11, 12, 13, 14, 15, 16, 17, 18, 19, 20, 21, 22, 23] rfl rfl (by decide) 0 rfl rfl) rfl rfl hl.1 rfl (lv_room (Nat.le_of_ble_eq_true rfl)) dX3_stacking_154 ⟨Nat.zero_le _, Nat.zero_le _⟩) hP hD hS hA [0, 1, 2, 3, 4, 5, 6, 7, 8, 9, 10, 11, 12, 13, 14, 15, 16, 17, 18, 19, 20, 21, 22, 23] [.inl 0, .inl 1, .inl 2, .inl 3, .inl 4, .inl 5, .inl 6, .inl 7, .inl 8, .inl 9, .inl 10, .inl 11, .inl 12, .inl 13, .inl 14, .inl 15, .inl 16, .inl 17, .inl 18, .inl 19, .inl 20, .inl 21, .inl 22, .inl 23] rfl (by decide) (fun _ => rfl) (fun _ => rfl) (fun u33 H locs h hP hD hS => ?_)
            exact W.vret hx hb hr (fun t ht hW => ⟨⟨u33, rfl, h, by rw [ht]; exact hP, va_K.moved hW.alike hK, hD⟩, hS.F ht⟩) hS.2.2 dX3_stacking_157
          · have h := h.2 c30
            refine lv_aload_n hx hb dX3_stacking_139 rfl (lv_at hl 0 rfl) ?_
            refine va_get (D := D) (ci := 3) (v := .int (T22 8)) (C := RX3) (T := TX3) (N := 12) hx hb hts inX3 hown hK hP 0 rfl rfl 8 (by decide) (hts _ q_364) (fun _ h9 => h9) rfl dX3_stacking_140 ?_
            refine lv_goto (tgt := 153) hx hb dX3_stacking_143 (by decide) ?_
            refine lv_iconst (v := 0) hx hb dX3_stacking_153 (by decide) ?_
            refine cl_v (ws' := fun u34 => (wX3 cI cZ a u34)) (va_runV (As := [.int (T22 8), .int 0]) (rest := []) ⟨hx, hb, hml, hown, hts⟩ (c_X3_beginOrUnstack l D cI cZ a _ (T22, u28, T.2.2.1, T.2.2.2.1, T.2.2.2.2.1, T.2.2.2.2.2) (T22 8) 0 _ h ) (cwV 2 hts (gV q_702 q_704 q_14 q_68 q_705) rfl rfl rfl (by decide +kernel) ⟨Nat.le_of_ble_eq_true rfl, Nat.le_of_ble_eq_true rfl⟩) (preV_of (ci := 3) (q := (RX3, TX3, 12)) hK hP hD [0, 1, 2, 3, 4, 5, 6, 7, 8, 9, 10, 11, 12, 13, 14, 15, 16, 17, 18, 19, 20, 21, 22, 23] rfl rfl (by decide) 0 rfl rfl) rfl rfl hl.1 rfl (lv_room (Nat.le_of_ble_eq_true rfl)) dX3_stacking_154 ⟨Nat.zero_le _, Nat.zero_le _⟩) hP hD hS hA [0, 1, 2, 3, 4, 5, 6, 7, 8, 9, 10, 11, 12, 13, 14, 15, 16, 17, 18, 19, 20, 21, 22, 23] [.inl 0, .inl 1, .inl 2, .inl 3, .inl 4, .inl 5, .inl 6, .inl 7, .inl 8, .inl 9, .inl 10, .inl 11, .inl 12, .inl 13, .inl 14, .inl 15, .inl 16, .inl 17, .inl 18, .inl 19, .inl 20, .inl 21, .inl 22, .inl 23] rfl (by decide) (fun _ => rfl) (fun _ => rfl) (fun u34 H locs h hP hD hS => ?_)
            exact W.vret hx hb hr (fun t ht hW => ⟨⟨u34, rfl, h, by rw [ht]; exact hP, va_K.moved hW.alike hK, hD⟩, hS.F ht⟩) hS.2.2 dX3_stacking_157
    · have h := h.2 c21
      exact W.vret hx hb hr (fun t ht hW => ⟨⟨T, rfl, h, by rw [ht]; exact hP, va_K.moved hW.alike hK, hD⟩, hS.F ht⟩) hS.2.2 dX3_stacking_97
  have L57 : ∀ (T : (Nat → Int32) × Ob × Ob × Ob × Ob × (Nat → Int32)) (H : Heap) (locs : List Loc) (ls : Array Slot), va_P D vwCl (wX3 cI cZ a T) H → va_D A (wX3 cI cZ a T) → va_S A s.heap H locs → lv_has ls 1 [(0, .ref (a 0))] → wp_X3_stacking_L57 Q T → W p l e rmX3_stacking s m ([.ref (a 0)] : List Value).toArray below meth c H locs 0 0 (MQ below (va_Qv Q (fun u => atW D cI cZ A (wX3 cI cZ a u)) A) ([.ref (a 0)] : List Value).toArray s 0 0 A) (F0 m 57 ls []) := by
    intro T H locs ls hP hD hS hl h
    unfold wp_X3_stacking_L57 at h
    refine lv_aload_n hx hb dX3_stacking_57 rfl (lv_at hl 0 rfl) ?_
    refine va_get (D := D) (ci := 3) (v := .int (T.1 9)) (C := RX3) (T := TX3) (N := 12) hx hb hts inX3 hown hK hP 0 rfl rfl 9 (by decide) (hts _ q_365) (fun _ h9 => h9) rfl dX3_stacking_58 ?_
    refine lv_if_ne (tgt := 89) hx hb dX3_stacking_61 (by decide) (fun c13 => ?_) (fun c13 => ?_)
    · have h := h.1 c13
      exact L89 T _ _ _ hP hD hS (lv_sub hl [0] rfl) h
    · have h := h.2 c13
      refine lv_aload_n hx hb dX3_stacking_64 rfl (lv_at hl 0 rfl) ?_
      refine va_get (D := D) (ci := 3) (v := .ref (a 18)) (C := RX3) (T := TX3) (N := 12) hx hb hts inX3 hown hK hP 0 rfl rfl 3 (by decide) (hts _ q_354) (fun _ h9 => h9) rfl dX3_stacking_65 ?_
      refine lv_aload_n hx hb dX3_stacking_68 rfl (lv_at hl 0 rfl) ?_
      refine cl_i (ws' := fun u14 => (wX3 cI cZ a u14)) (va_runV (As := []) (rest := [.ref (a 18)]) ⟨hx, hb, hml, hown, hts⟩ (c_X3_frameWord l D cI cZ a _ T _ h ) (cwV 0 hts (gV q_693 q_695 q_13 q_68 q_696) rfl rfl rfl (by decide +kernel) ⟨Nat.le_of_ble_eq_true rfl, Nat.le_of_ble_eq_true rfl⟩) (preV_of (ci := 3) (q := (RX3, TX3, 12)) hK hP hD [0, 1, 2, 3, 4, 5, 6, 7, 8, 9, 10, 11, 12, 13, 14, 15, 16, 17, 18, 19, 20, 21, 22, 23] rfl rfl (by decide) 0 rfl rfl) rfl rfl hl.1 rfl (lv_room (Nat.le_of_ble_eq_true rfl)) dX3_stacking_69 ⟨Nat.zero_le _, Nat.zero_le _⟩) hP hD hS hA [0, 1, 2, 3, 4, 5, 6, 7, 8, 9, 10, 11, 12, 13, 14, 15, 16, 17, 18, 19, 20, 21, 22, 23] [.inl 0, .inl 1, .inl 2, .inl 3, .inl 4, .inl 5, .inl 6, .inl 7, .inl 8, .inl 9, .inl 10, .inl 11, .inl 12, .inl 13, .inl 14, .inl 15, .inl 16, .inl 17, .inl 18, .inl 19, .inl 20, .inl 21, .inl 22, .inl 23] rfl (by decide) (fun _ => rfl) (fun _ => rfl) (fun r15 u14 H locs h hP hD hS => ?_)
      refine cl_i (ws' := fun u16 => (wX3 cI cZ a (u14.1, u14.2.1, u14.2.2.1, u14.2.2.2.1, u16, u14.2.2.2.2.2))) (va_runV (As := [.int r15]) (rest := []) ⟨hx, hb, hml, hown, hts⟩ (c_X1_push l D cI cZ (fun k => a (k + 18)) _ u14.2.2.2.2.1 r15 _ h ) (cwV 1 hts (gV q_697 q_658 q_659 q_73 q_660) rfl rfl rfl (by decide +kernel) ⟨Nat.le_of_ble_eq_true rfl, Nat.le_of_ble_eq_true rfl⟩) (preV_of (ci := 1) (q := (RX1, TX1, 14)) hK hP hD [18, 19, 20, 21, 22] rfl rfl (by decide) 18 rfl rfl) rfl rfl hl.1 rfl (lv_room (Nat.le_of_ble_eq_true rfl)) dX3_stacking_72 ⟨Nat.zero_le _, Nat.zero_le _⟩) hP hD hS hA [18, 19, 20, 21, 22] [.inr 0, .inr 1, .inr 2, .inr 3, .inr 4, .inr 5, .inr 6, .inr 7, .inr 8, .inr 9, .inr 10, .inr 11, .inr 12, .inr 13, .inr 14, .inr 15, .inr 16, .inr 17, .inl 0, .inl 1, .inl 2, .inl 3, .inl 4, .inr 23] rfl (by decide) (fun _ => rfl) (fun _ => rfl) (fun r17 u16 H locs h hP hD hS => ?_)
      refine lv_if_ne (tgt := 89) hx hb dX3_stacking_75 (by decide) (fun c18 => ?_) (fun c18 => ?_)
      · have h := h.1 c18
        exact L89 (u14.1, u14.2.1, u14.2.2.1, u14.2.2.2.1, u16, u14.2.2.2.2.2) _ _ _ hP hD hS (lv_sub hl [0] rfl) h
      · have h := h.2 c18
        refine lv_aload_n hx hb dX3_stacking_78 rfl (lv_at hl 0 rfl) ?_
        refine lv_iconst (v := 1) hx hb dX3_stacking_79 (by decide) ?_
        obtain ⟨T19, eT19⟩ : ∃ z : (Nat → Int32), z = (upd u14.1 9 1) := ⟨_, rfl⟩
        refine pu_f (ci := 3) (v := .int 1) (ty := .boolean) (C := RX3) (T := TX3) (N := 12) hx hb hts inX3 tyX3 tyX3_ok nmX3 hown hK hP hD hS 0 rfl rfl 9 (by decide) (hts _ q_365) (fun _ h9 => h9) rfl rfl (narB isB1) (fitB isB1) (Nat.le_of_ble_eq_true rfl) dX3_stacking_80 (wX3 cI cZ a (T19, u14.2.1, u14.2.2.1, u14.2.2.2.1, u16, u14.2.2.2.2.2)) (by subst eT19; rfl) (fun H locs hP hD hS => ?_)
        have h := h T19 eT19
        refine lv_aload_n hx hb dX3_stacking_83 rfl (lv_at hl 0 rfl) ?_
        refine lv_bipush (v := 19) hx hb dX3_stacking_84 (by decide) ?_
        refine cl_v (ws' := fun u20 => (wX3 cI cZ a u20)) (va_runV (As := [.int 19]) (rest := []) ⟨hx, hb, hml, hown, hts⟩ (c_X3_raise l D cI cZ a _ (T19, u14.2.1, u14.2.2.1, u14.2.2.2.1, u16, u14.2.2.2.2.2) 19 _ h ) (cwV 1 hts (gV q_610 q_612 q_5 q_68 q_613) rfl rfl rfl (by decide +kernel) ⟨Nat.le_of_ble_eq_true rfl, Nat.le_of_ble_eq_true rfl⟩) (preV_of (ci := 3) (q := (RX3, TX3, 12)) hK hP hD [0, 1, 2, 3, 4, 5, 6, 7, 8, 9, 10, 11, 12, 13, 14, 15, 16, 17, 18, 19, 20, 21, 22, 23] rfl rfl (by decide) 0 rfl rfl) rfl rfl hl.1 rfl (lv_room (Nat.le_of_ble_eq_true rfl)) dX3_stacking_86 ⟨Nat.zero_le _, Nat.zero_le _⟩) hP hD hS hA [0, 1, 2, 3, 4, 5, 6, 7, 8, 9, 10, 11, 12, 13, 14, 15, 16, 17, 18, 19, 20, 21, 22, 23] [.inl 0, .inl 1, .inl 2, .inl 3, .inl 4, .inl 5, .inl 6, .inl 7, .inl 8, .inl 9, .inl 10, .inl 11, .inl 12, .inl 13, .inl 14, .inl 15, .inl 16, .inl 17, .inl 18, .inl 19, .inl 20, .inl 21, .inl 22, .inl 23] rfl (by decide) (fun _ => rfl) (fun _ => rfl) (fun u20 H locs h hP hD hS => ?_)
        exact L89 u20 _ _ _ hP hD hS (lv_sub hl [0] rfl) h
  have hl := lv_entry ([.ref (a 0)]) (n := 1) (Nat.le_of_ble_eq_true rfl)
  rw [lg_entry_eq]
  generalize (lg_sl ([.ref (a 0)]) ++ List.replicate (1 - (lg_sl ([.ref (a 0)])).length) Slot.unset).toArray = ls at hl ⊢
  have hl : lv_has ls 1 [(0, .ref (a 0))] := hl
  unfold wp_X3_stacking at h
  refine lv_aload_n hx hb dX3_stacking_0 rfl (lv_at hl 0 rfl) ?_
  refine va_get (D := D) (ci := 3) (v := .int (S.1 6)) (C := RX3) (T := TX3) (N := 12) hx hb hts inX3 hown hK hP 0 rfl rfl 6 (by decide) (hts _ q_360) (fun _ h9 => h9) rfl dX3_stacking_1 ?_
  refine lv_if_ne (tgt := 57) hx hb dX3_stacking_4 (by decide) (fun c1 => ?_) (fun c1 => ?_)
  · have h := h.1 c1
    exact L57 S _ _ _ hP hD hS (lv_sub hl [0] rfl) h
  · have h := h.2 c1
    refine lv_aload_n hx hb dX3_stacking_7 rfl (lv_at hl 0 rfl) ?_
    refine va_get (D := D) (ci := 3) (v := .ref (a 18)) (C := RX3) (T := TX3) (N := 12) hx hb hts inX3 hown hK hP 0 rfl rfl 3 (by decide) (hts _ q_354) (fun _ h9 => h9) rfl dX3_stacking_8 ?_
    refine va_get (D := D) (ci := 1) (v := .int (S.2.2.2.2.1.1 12)) (C := RX1) (T := TX1) (N := 14) hx hb hts inX1 hown hK hP 18 rfl rfl 12 (by decide) (hts _ q_314) (fun _ h9 => h9) rfl dX3_stacking_11 ?_
    refine lv_if_eq (tgt := 57) hx hb dX3_stacking_14 (by decide) (fun c2 => ?_) (fun c2 => ?_)
    · have h := h.1 c2
      exact L57 S _ _ _ hP hD hS (lv_sub hl [0] rfl) h
    · have h := h.2 c2
      refine lv_aload_n hx hb dX3_stacking_17 rfl (lv_at hl 0 rfl) ?_
      refine lv_aload_n hx hb dX3_stacking_18 rfl (lv_at hl 0 rfl) ?_
      refine va_get (D := D) (ci := 3) (v := .ref (a 18)) (C := RX3) (T := TX3) (N := 12) hx hb hts inX3 hown hK hP 0 rfl rfl 3 (by decide) (hts _ q_354) (fun _ h9 => h9) rfl dX3_stacking_19 ?_
      refine cl_i (ws' := fun u3 => (wX3 cI cZ a (S.1, S.2.1, S.2.2.1, S.2.2.2.1, u3, S.2.2.2.2.2))) (va_runV (As := []) (rest := [.ref (a 0)]) ⟨hx, hb, hml, hown, hts⟩ (c_X1_pushFours l D cI cZ (fun k => a (k + 18)) _ S.2.2.2.2.1 _ h ) (cwV 0 hts (gV q_689 q_690 q_691 q_73 q_692) rfl rfl rfl (by decide +kernel) ⟨Nat.le_of_ble_eq_true rfl, Nat.le_of_ble_eq_true rfl⟩) (preV_of (ci := 1) (q := (RX1, TX1, 14)) hK hP hD [18, 19, 20, 21, 22] rfl rfl (by decide) 18 rfl rfl) rfl rfl hl.1 rfl (lv_room (Nat.le_of_ble_eq_true rfl)) dX3_stacking_22 ⟨Nat.zero_le _, Nat.zero_le _⟩) hP hD hS hA [18, 19, 20, 21, 22] [.inr 0, .inr 1, .inr 2, .inr 3, .inr 4, .inr 5, .inr 6, .inr 7, .inr 8, .inr 9, .inr 10, .inr 11, .inr 12, .inr 13, .inr 14, .inr 15, .inr 16, .inr 17, .inl 0, .inl 1, .inl 2, .inl 3, .inl 4, .inr 23] rfl (by decide) (fun _ => rfl) (fun _ => rfl) (fun r4 u3 H locs h hP hD hS => ?_)
      obtain ⟨T5, eT5⟩ : ∃ z : (Nat → Int32), z = (upd S.1 10 r4) := ⟨_, rfl⟩
      refine pu_f (ci := 3) (v := .int r4) (ty := .boolean) (C := RX3) (T := TX3) (N := 12) hx hb hts inX3 tyX3 tyX3_ok nmX3 hown hK hP hD hS 0 rfl rfl 10 (by decide) (hts _ q_366) (fun _ h9 => h9) rfl rfl (narB h.1) (fitB h.1) (Nat.le_of_ble_eq_true rfl) dX3_stacking_25 (wX3 cI cZ a (T5, S.2.1, S.2.2.1, S.2.2.2.1, u3, S.2.2.2.2.2)) (by subst eT5; rfl) (fun H locs hP hD hS => ?_)
      have h := h.2
      have h := h T5 eT5
      refine lv_aload_n hx hb dX3_stacking_28 rfl (lv_at hl 0 rfl) ?_
      refine lv_aload_n hx hb dX3_stacking_29 rfl (lv_at hl 0 rfl) ?_
      refine va_get (D := D) (ci := 3) (v := .int (T5 10)) (C := RX3) (T := TX3) (N := 12) hx hb hts inX3 hown hK hP 0 rfl rfl 10 (by decide) (hts _ q_366) (fun _ h9 => h9) rfl dX3_stacking_30 ?_
      refine lv_if_ne (tgt := 40) hx hb dX3_stacking_33 (by decide) (fun c6 => ?_) (fun c6 => ?_)
      · have h := h.1 c6
        refine lv_iconst (v := 0) hx hb dX3_stacking_40 (by decide) ?_
        obtain ⟨T7, eT7⟩ : ∃ z : (Nat → Int32), z = (upd T5 9 0) := ⟨_, rfl⟩
        refine pu_f (ci := 3) (v := .int 0) (ty := .boolean) (C := RX3) (T := TX3) (N := 12) hx hb hts inX3 tyX3 tyX3_ok nmX3 hown hK hP hD hS 0 rfl rfl 9 (by decide) (hts _ q_365) (fun _ h9 => h9) rfl rfl (narB isB0) (fitB isB0) (Nat.le_of_ble_eq_true rfl) dX3_stacking_41 (wX3 cI cZ a (T7, S.2.1, S.2.2.1, S.2.2.2.1, u3, S.2.2.2.2.2)) (by subst eT7; rfl) (fun H locs hP hD hS => ?_)
        have h := h T7 eT7
        refine lv_aload_n hx hb dX3_stacking_44 rfl (lv_at hl 0 rfl) ?_
        refine va_get (D := D) (ci := 3) (v := .int (T7 9)) (C := RX3) (T := TX3) (N := 12) hx hb hts inX3 hown hK hP 0 rfl rfl 9 (by decide) (hts _ q_365) (fun _ h9 => h9) rfl dX3_stacking_45 ?_
        refine lv_if_eq (tgt := 57) hx hb dX3_stacking_48 (by decide) (fun c8 => ?_) (fun c8 => ?_)
        · have h := h.1 c8
          exact L57 (T7, S.2.1, S.2.2.1, S.2.2.2.1, u3, S.2.2.2.2.2) _ _ _ hP hD hS (lv_sub hl [0] rfl) h
        · have h := h.2 c8
          refine lv_aload_n hx hb dX3_stacking_51 rfl (lv_at hl 0 rfl) ?_
          refine lv_bipush (v := 19) hx hb dX3_stacking_52 (by decide) ?_
          refine cl_v (ws' := fun u9 => (wX3 cI cZ a u9)) (va_runV (As := [.int 19]) (rest := []) ⟨hx, hb, hml, hown, hts⟩ (c_X3_raise l D cI cZ a _ (T7, S.2.1, S.2.2.1, S.2.2.2.1, u3, S.2.2.2.2.2) 19 _ h ) (cwV 1 hts (gV q_610 q_612 q_5 q_68 q_613) rfl rfl rfl (by decide +kernel) ⟨Nat.le_of_ble_eq_true rfl, Nat.le_of_ble_eq_true rfl⟩) (preV_of (ci := 3) (q := (RX3, TX3, 12)) hK hP hD [0, 1, 2, 3, 4, 5, 6, 7, 8, 9, 10, 11, 12, 13, 14, 15, 16, 17, 18, 19, 20, 21, 22, 23] rfl rfl (by decide) 0 rfl rfl) rfl rfl hl.1 rfl (lv_room (Nat.le_of_ble_eq_true rfl)) dX3_stacking_54 ⟨Nat.zero_le _, Nat.zero_le _⟩) hP hD hS hA [0, 1, 2, 3, 4, 5, 6, 7, 8, 9, 10, 11, 12, 13, 14, 15, 16, 17, 18, 19, 20, 21, 22, 23] [.inl 0, .inl 1, .inl 2, .inl 3, .inl 4, .inl 5, .inl 6, .inl 7, .inl 8, .inl 9, .inl 10, .inl 11, .inl 12, .inl 13, .inl 14, .inl 15, .inl 16, .inl 17, .inl 18, .inl 19, .inl 20, .inl 21, .inl 22, .inl 23] rfl (by decide) (fun _ => rfl) (fun _ => rfl) (fun u9 H locs h hP hD hS => ?_)
          exact L57 u9 _ _ _ hP hD hS (lv_sub hl [0] rfl) h
      · have h := h.2 c6
        refine lv_iconst (v := 1) hx hb dX3_stacking_36 (by decide) ?_
        refine lv_goto (tgt := 41) hx hb dX3_stacking_37 (by decide) ?_
        obtain ⟨T10, eT10⟩ : ∃ z : (Nat → Int32), z = (upd T5 9 1) := ⟨_, rfl⟩
        refine pu_f (ci := 3) (v := .int 1) (ty := .boolean) (C := RX3) (T := TX3) (N := 12) hx hb hts inX3 tyX3 tyX3_ok nmX3 hown hK hP hD hS 0 rfl rfl 9 (by decide) (hts _ q_365) (fun _ h9 => h9) rfl rfl (narB isB1) (fitB isB1) (Nat.le_of_ble_eq_true rfl) dX3_stacking_41 (wX3 cI cZ a (T10, S.2.1, S.2.2.1, S.2.2.2.1, u3, S.2.2.2.2.2)) (by subst eT10; rfl) (fun H locs hP hD hS => ?_)
        have h := h T10 eT10
        refine lv_aload_n hx hb dX3_stacking_44 rfl (lv_at hl 0 rfl) ?_
        refine va_get (D := D) (ci := 3) (v := .int (T10 9)) (C := RX3) (T := TX3) (N := 12) hx hb hts inX3 hown hK hP 0 rfl rfl 9 (by decide) (hts _ q_365) (fun _ h9 => h9) rfl dX3_stacking_45 ?_
        refine lv_if_eq (tgt := 57) hx hb dX3_stacking_48 (by decide) (fun c11 => ?_) (fun c11 => ?_)
        · have h := h.1 c11
          exact L57 (T10, S.2.1, S.2.2.1, S.2.2.2.1, u3, S.2.2.2.2.2) _ _ _ hP hD hS (lv_sub hl [0] rfl) h
        · have h := h.2 c11
          refine lv_aload_n hx hb dX3_stacking_51 rfl (lv_at hl 0 rfl) ?_
          refine lv_bipush (v := 19) hx hb dX3_stacking_52 (by decide) ?_
          refine cl_v (ws' := fun u12 => (wX3 cI cZ a u12)) (va_runV (As := [.int 19]) (rest := []) ⟨hx, hb, hml, hown, hts⟩ (c_X3_raise l D cI cZ a _ (T10, S.2.1, S.2.2.1, S.2.2.2.1, u3, S.2.2.2.2.2) 19 _ h ) (cwV 1 hts (gV q_610 q_612 q_5 q_68 q_613) rfl rfl rfl (by decide +kernel) ⟨Nat.le_of_ble_eq_true rfl, Nat.le_of_ble_eq_true rfl⟩) (preV_of (ci := 3) (q := (RX3, TX3, 12)) hK hP hD [0, 1, 2, 3, 4, 5, 6, 7, 8, 9, 10, 11, 12, 13, 14, 15, 16, 17, 18, 19, 20, 21, 22, 23] rfl rfl (by decide) 0 rfl rfl) rfl rfl hl.1 rfl (lv_room (Nat.le_of_ble_eq_true rfl)) dX3_stacking_54 ⟨Nat.zero_le _, Nat.zero_le _⟩) hP hD hS hA [0, 1, 2, 3, 4, 5, 6, 7, 8, 9, 10, 11, 12, 13, 14, 15, 16, 17, 18, 19, 20, 21, 22, 23] [.inl 0, .inl 1, .inl 2, .inl 3, .inl 4, .inl 5, .inl 6, .inl 7, .inl 8, .inl 9, .inl 10, .inl 11, .inl 12, .inl 13, .inl 14, .inl 15, .inl 16, .inl 17, .inl 18, .inl 19, .inl 20, .inl 21, .inl 22, .inl 23] rfl (by decide) (fun _ => rfl) (fun _ => rfl) (fun u12 H locs h hP hD hS => ?_)
          exact L57 u12 _ _ _ hP hD hS (lv_sub hl [0] rfl) h
/-! X3_chaining -/
abbrev rmX3_chaining : Room := { frames := 3, cells := 0, slots := 0, locals := 78 }
set_option maxHeartbeats 4000000 in
set_option maxRecDepth 100000 in
theorem c_X3_chaining (l : Launch) (D : va_G) (cI cZ : ClassId) (a : Nat → Nat) (sz : Nat) (S : (Nat → Int32) × Ob × Ob × Ob × Ob × (Nat → Int32)) (Q : ((Nat → Int32) × Ob × Ob × Ob × Ob × (Nat → Int32)) → Prop) (h : wp_X3_chaining S Q) : Met l yX3_chaining (wsm yX3_chaining cX3_chaining 1 none) rmX3_chaining (va_Pc [.ref (a 0)] (preW D cI cZ sz (wX3 cI cZ a S))) (va_Qv Q (fun u => atW D cI cZ (va_A (wX3 cI cZ a S) sz) (wX3 cI cZ a u)) (va_A (wX3 cI cZ a S) sz)) 0 0 (va_A (wX3 cI cZ a S) sz) := by
  refine Met.ofW (cc := cX3_chaining) (maxL := 1) (ret := none) (by decide) rfl ?_
  intro p e s m args below meth c s₁ B hml hv
  obtain ⟨rfl, hsz, hP, hK, hD0⟩ := hv
  have hx := B.exec
  have hb := B.bytes
  have hr := B.returns
  have hts0 := atoms_spec (ws := wsm yX3_chaining cX3_chaining 1 none) B.pre
  have hts : ∀ w ∈ lw_all, w.before _ s = true := fun w h => hts0 w (List.mem_cons_of_mem _ h)
  have hown : s.vm.findClass RX3 = some m.cls := findClass_of_methodNamed B.named
  have hlocks := B.notSynchronized
  subst hsz
  have hD := hD0.self (sz := s.heap.size)
  generalize hAe : va_A (wX3 cI cZ a S) s.heap.size = A at hD ⊢
  have hA : ∀ q : Nat, s.heap.size ≤ q → A q := fun q h => by rw [← hAe]; exact Or.inr h
  have hS : va_S A s.heap s.heap [] := va_S.rf
  have hml2 := hml
  have hl := lv_entry ([.ref (a 0)]) (n := 1) (Nat.le_of_ble_eq_true rfl)
  rw [lg_entry_eq]
  generalize (lg_sl ([.ref (a 0)]) ++ List.replicate (1 - (lg_sl ([.ref (a 0)])).length) Slot.unset).toArray = ls at hl ⊢
  have hl : lv_has ls 1 [(0, .ref (a 0))] := hl
  unfold wp_X3_chaining at h
  refine lv_aload_n hx hb dX3_chaining_0 rfl (lv_at hl 0 rfl) ?_
  refine lv_dup hx hb dX3_chaining_1 rfl ?_
  refine va_get (D := D) (ci := 3) (v := .int (S.1 6)) (C := RX3) (T := TX3) (N := 12) hx hb hts inX3 hown hK hP 0 rfl rfl 6 (by decide) (hts _ q_360) (fun _ h9 => h9) rfl dX3_chaining_2 ?_
  refine lv_iconst (v := 1) hx hb dX3_chaining_5 (by decide) ?_
  refine lv_iadd hx hb dX3_chaining_6 ?_
  obtain ⟨T1, eT1⟩ : ∃ z : (Nat → Int32), z = (upd S.1 6 ((S.1 6) + 1)) := ⟨_, rfl⟩
  refine pu_f (ci := 3) (v := .int ((S.1 6) + 1)) (ty := .int) (C := RX3) (T := TX3) (N := 12) hx hb hts inX3 tyX3 tyX3_ok nmX3 hown hK hP hD hS 0 rfl rfl 6 (by decide) (hts _ q_360) (fun _ h9 => h9) rfl rfl rfl rfl (Nat.le_of_ble_eq_true rfl) dX3_chaining_7 (wX3 cI cZ a (T1, S.2.1, S.2.2.1, S.2.2.2.1, S.2.2.2.2.1, S.2.2.2.2.2)) (by subst eT1; rfl) (fun H locs hP hD hS => ?_)
  have h := h T1 eT1
  refine lv_aload_n hx hb dX3_chaining_10 rfl (lv_at hl 0 rfl) ?_
  refine va_get (D := D) (ci := 3) (v := .int (T1 6)) (C := RX3) (T := TX3) (N := 12) hx hb hts inX3 hown hK hP 0 rfl rfl 6 (by decide) (hts _ q_360) (fun _ h9 => h9) rfl dX3_chaining_11 ?_
  refine lv_iconst (v := 2) hx hb dX3_chaining_14 (by decide) ?_
  refine lv_icmp_lt (tgt := 30) hx hb dX3_chaining_15 (by decide) (fun c2 => ?_) (fun c2 => ?_)
  · have h := h.1 c2
    exact W.vret hx hb hr (fun t ht hW => ⟨⟨(T1, S.2.1, S.2.2.1, S.2.2.2.1, S.2.2.2.2.1, S.2.2.2.2.2), rfl, h, by rw [ht]; exact hP, va_K.moved hW.alike hK, hD⟩, hS.F ht⟩) hS.2.2 dX3_chaining_30
  · have h := h.2 c2
    refine lv_aload_n hx hb dX3_chaining_18 rfl (lv_at hl 0 rfl) ?_
    refine lv_aload_n hx hb dX3_chaining_19 rfl (lv_at hl 0 rfl) ?_
    refine va_get (D := D) (ci := 3) (v := .ref (a 1)) (C := RX3) (T := TX3) (N := 12) hx hb hts inX3 hown hK hP 0 rfl rfl 0 (by decide) (hts _ q_348) (fun _ h9 => h9) rfl dX3_chaining_20 ?_
    refine cl_i (ws' := fun u3 => (wX3 cI cZ a (T1, u3, S.2.2.1, S.2.2.2.1, S.2.2.2.2.1, S.2.2.2.2.2))) (va_runV (As := []) (rest := [.ref (a 0)]) ⟨hx, hb, hml, hown, hts⟩ (c_X5_next l D cI cZ (fun k => a (k + 1)) _ S.2.1 _ h ) (cwV 0 hts (gV q_523 q_524 q_525 q_69 q_526) rfl rfl rfl (by decide +kernel) ⟨Nat.le_of_ble_eq_true rfl, Nat.le_of_ble_eq_true rfl⟩) (preV_of (ci := 4) (q := (RX5, TX5, 16)) hK hP hD [1, 2, 3, 4, 5, 6, 7, 8, 9, 10, 11] rfl rfl (by decide) 1 rfl rfl) rfl rfl hl.1 rfl (lv_room (Nat.le_of_ble_eq_true rfl)) dX3_chaining_23 ⟨Nat.zero_le _, Nat.zero_le _⟩) hP hD hS hA [1, 2, 3, 4, 5, 6, 7, 8, 9, 10, 11] [.inr 0, .inl 0, .inl 1, .inl 2, .inl 3, .inl 4, .inl 5, .inl 6, .inl 7, .inl 8, .inl 9, .inl 10, .inr 12, .inr 13, .inr 14, .inr 15, .inr 16, .inr 17, .inr 18, .inr 19, .inr 20, .inr 21, .inr 22, .inr 23] rfl (by decide) (fun _ => rfl) (fun _ => rfl) (fun r4 u3 H locs h hP hD hS => ?_)
    refine lv_iconst (v := 1) hx hb dX3_chaining_26 (by decide) ?_
    refine cl_v (ws' := fun u5 => (wX3 cI cZ a u5)) (va_runV (As := [.int r4, .int 1]) (rest := []) ⟨hx, hb, hml, hown, hts⟩ (c_X3_beginOrUnstack l D cI cZ a _ (T1, u3, S.2.2.1, S.2.2.2.1, S.2.2.2.2.1, S.2.2.2.2.2) r4 1 _ h ) (cwV 2 hts (gV q_702 q_704 q_14 q_68 q_705) rfl rfl rfl (by decide +kernel) ⟨Nat.le_of_ble_eq_true rfl, Nat.le_of_ble_eq_true rfl⟩) (preV_of (ci := 3) (q := (RX3, TX3, 12)) hK hP hD [0, 1, 2, 3, 4, 5, 6, 7, 8, 9, 10, 11, 12, 13, 14, 15, 16, 17, 18, 19, 20, 21, 22, 23] rfl rfl (by decide) 0 rfl rfl) rfl rfl hl.1 rfl (lv_room (Nat.le_of_ble_eq_true rfl)) dX3_chaining_27 ⟨Nat.zero_le _, Nat.zero_le _⟩) hP hD hS hA [0, 1, 2, 3, 4, 5, 6, 7, 8, 9, 10, 11, 12, 13, 14, 15, 16, 17, 18, 19, 20, 21, 22, 23] [.inl 0, .inl 1, .inl 2, .inl 3, .inl 4, .inl 5, .inl 6, .inl 7, .inl 8, .inl 9, .inl 10, .inl 11, .inl 12, .inl 13, .inl 14, .inl 15, .inl 16, .inl 17, .inl 18, .inl 19, .inl 20, .inl 21, .inl 22, .inl 23] rfl (by decide) (fun _ => rfl) (fun _ => rfl) (fun u5 H locs h hP hD hS => ?_)
    exact W.vret hx hb hr (fun t ht hW => ⟨⟨u5, rfl, h, by rw [ht]; exact hP, va_K.moved hW.alike hK, hD⟩, hS.F ht⟩) hS.2.2 dX3_chaining_30
/-! X3_takeBack -/
abbrev rmX3_takeBack : Room := { frames := 3, cells := 0, slots := 0, locals := 83 }
set_option maxHeartbeats 4000000 in
set_option maxRecDepth 100000 in
theorem c_X3_takeBack (l : Launch) (D : va_G) (cI cZ : ClassId) (a : Nat → Nat) (sz : Nat) (S : (Nat → Int32) × Ob × Ob × Ob × Ob × (Nat → Int32)) (Q : ((Nat → Int32) × Ob × Ob × Ob × Ob × (Nat → Int32)) → Prop) (h : wp_X3_takeBack S Q) : Met l yX3_takeBack (wsm yX3_takeBack cX3_takeBack 1 none) rmX3_takeBack (va_Pc [.ref (a 0)] (preW D cI cZ sz (wX3 cI cZ a S))) (va_Qv Q (fun u => atW D cI cZ (va_A (wX3 cI cZ a S) sz) (wX3 cI cZ a u)) (va_A (wX3 cI cZ a S) sz)) 0 0 (va_A (wX3 cI cZ a S) sz) := by
  refine Met.ofW (cc := cX3_takeBack) (maxL := 1) (ret := none) (by decide) rfl ?_
  intro p e s m args below meth c s₁ B hml hv
  obtain ⟨rfl, hsz, hP, hK, hD0⟩ := hv
  have hx := B.exec
  have hb := B.bytes
  have hr := B.returns
  have hts0 := atoms_spec (ws := wsm yX3_takeBack cX3_takeBack 1 none) B.pre
  have hts : ∀ w ∈ lw_all, w.before _ s = true := fun w h => hts0 w (List.mem_cons_of_mem _ h)
  have hown : s.vm.findClass RX3 = some m.cls := findClass_of_methodNamed B.named
  have hlocks := B.notSynchronized
  subst hsz
  have hD := hD0.self (sz := s.heap.size)
  generalize hAe : va_A (wX3 cI cZ a S) s.heap.size = A at hD ⊢
  have hA : ∀ q : Nat, s.heap.size ≤ q → A q := fun q h => by rw [← hAe]; exact Or.inr h
  have hS : va_S A s.heap s.heap [] := va_S.rf
  have hml2 := hml
  have hl := lv_entry ([.ref (a 0)]) (n := 1) (Nat.le_of_ble_eq_true rfl)
  rw [lg_entry_eq]
  generalize (lg_sl ([.ref (a 0)]) ++ List.replicate (1 - (lg_sl ([.ref (a 0)])).length) Slot.unset).toArray = ls at hl ⊢
  have hl : lv_has ls 1 [(0, .ref (a 0))] := hl
  unfold wp_X3_takeBack at h
  refine lv_aload_n hx hb dX3_takeBack_0 rfl (lv_at hl 0 rfl) ?_
  refine va_get (D := D) (ci := 3) (v := .ref (a 18)) (C := RX3) (T := TX3) (N := 12) hx hb hts inX3 hown hK hP 0 rfl rfl 3 (by decide) (hts _ q_354) (fun _ h9 => h9) rfl dX3_takeBack_1 ?_
  refine cl_i (ws' := fun u1 => (wX3 cI cZ a (S.1, S.2.1, S.2.2.1, S.2.2.2.1, u1, S.2.2.2.2.2))) (va_runV (As := []) (rest := []) ⟨hx, hb, hml, hown, hts⟩ (c_X1_popFrame l D cI cZ (fun k => a (k + 18)) _ S.2.2.2.2.1 _ h ) (cwV 0 hts (gV q_740 q_741 q_742 q_73 q_743) rfl rfl rfl (by decide +kernel) ⟨Nat.le_of_ble_eq_true rfl, Nat.le_of_ble_eq_true rfl⟩) (preV_of (ci := 1) (q := (RX1, TX1, 14)) hK hP hD [18, 19, 20, 21, 22] rfl rfl (by decide) 18 rfl rfl) rfl rfl hl.1 rfl (lv_room (Nat.le_of_ble_eq_true rfl)) dX3_takeBack_4 ⟨Nat.zero_le _, Nat.zero_le _⟩) hP hD hS hA [18, 19, 20, 21, 22] [.inr 0, .inr 1, .inr 2, .inr 3, .inr 4, .inr 5, .inr 6, .inr 7, .inr 8, .inr 9, .inr 10, .inr 11, .inr 12, .inr 13, .inr 14, .inr 15, .inr 16, .inr 17, .inl 0, .inl 1, .inl 2, .inl 3, .inl 4, .inr 23] rfl (by decide) (fun _ => rfl) (fun _ => rfl) (fun r2 u1 H locs h hP hD hS => ?_)
  refine lv_if_eq (tgt := 23) hx hb dX3_takeBack_7 (by decide) (fun c3 => ?_) (fun c3 => ?_)
  · have h := h.1 c3
    refine lv_aload_n hx hb dX3_takeBack_23 rfl (lv_at hl 0 rfl) ?_
    refine lv_iconst (v := 0) hx hb dX3_takeBack_24 (by decide) ?_
    refine cl_v (ws' := fun u4 => (wX3 cI cZ a u4)) (va_runV (As := [.int 0]) (rest := []) ⟨hx, hb, hml, hown, hts⟩ (c_X3_enter l D cI cZ a _ (S.1, S.2.1, S.2.2.1, S.2.2.2.1, u1, S.2.2.2.2.2) 0 _ h ) (cwV 1 hts (gV q_539 q_541 q_2 q_68 q_542) rfl rfl rfl (by decide +kernel) ⟨Nat.le_of_ble_eq_true rfl, Nat.le_of_ble_eq_true rfl⟩) (preV_of (ci := 3) (q := (RX3, TX3, 12)) hK hP hD [0, 1, 2, 3, 4, 5, 6, 7, 8, 9, 10, 11, 12, 13, 14, 15, 16, 17, 18, 19, 20, 21, 22, 23] rfl rfl (by decide) 0 rfl rfl) rfl rfl hl.1 rfl (lv_room (Nat.le_of_ble_eq_true rfl)) dX3_takeBack_25 ⟨Nat.zero_le _, Nat.zero_le _⟩) hP hD hS hA [0, 1, 2, 3, 4, 5, 6, 7, 8, 9, 10, 11, 12, 13, 14, 15, 16, 17, 18, 19, 20, 21, 22, 23] [.inl 0, .inl 1, .inl 2, .inl 3, .inl 4, .inl 5, .inl 6, .inl 7, .inl 8, .inl 9, .inl 10, .inl 11, .inl 12, .inl 13, .inl 14, .inl 15, .inl 16, .inl 17, .inl 18, .inl 19, .inl 20, .inl 21, .inl 22, .inl 23] rfl (by decide) (fun _ => rfl) (fun _ => rfl) (fun u4 H locs h hP hD hS => ?_)
    refine lv_aload_n hx hb dX3_takeBack_28 rfl (lv_at hl 0 rfl) ?_
    refine va_get (D := D) (ci := 3) (v := .ref (a 15)) (C := RX3) (T := TX3) (N := 12) hx hb hts inX3 hown hK hP 0 rfl rfl 2 (by decide) (hts _ q_352) (fun _ h9 => h9) rfl dX3_takeBack_29 ?_
    refine lv_iconst (v := 5) hx hb dX3_takeBack_32 (by decide) ?_
    refine lv_aload_n hx hb dX3_takeBack_33 rfl (lv_at hl 0 rfl) ?_
    refine va_get (D := D) (ci := 3) (v := .ref (a 1)) (C := RX3) (T := TX3) (N := 12) hx hb hts inX3 hown hK hP 0 rfl rfl 0 (by decide) (hts _ q_348) (fun _ h9 => h9) rfl dX3_takeBack_34 ?_
    refine cl_i (ws' := fun u5 => (wX3 cI cZ a (u4.1, u5, u4.2.2.1, u4.2.2.2.1, u4.2.2.2.2.1, u4.2.2.2.2.2))) (va_runV (As := []) (rest := [.int 5, .ref (a 15)]) ⟨hx, hb, hml, hown, hts⟩ (c_X5_innermost l D cI cZ (fun k => a (k + 1)) _ u4.2.1 _ h ) (cwV 0 hts (gV q_643 q_644 q_645 q_69 q_646) rfl rfl rfl (by decide +kernel) ⟨Nat.le_of_ble_eq_true rfl, Nat.le_of_ble_eq_true rfl⟩) (preV_of (ci := 4) (q := (RX5, TX5, 16)) hK hP hD [1, 2, 3, 4, 5, 6, 7, 8, 9, 10, 11] rfl rfl (by decide) 1 rfl rfl) rfl rfl hl.1 rfl (lv_room (Nat.le_of_ble_eq_true rfl)) dX3_takeBack_37 ⟨Nat.zero_le _, Nat.zero_le _⟩) hP hD hS hA [1, 2, 3, 4, 5, 6, 7, 8, 9, 10, 11] [.inr 0, .inl 0, .inl 1, .inl 2, .inl 3, .inl 4, .inl 5, .inl 6, .inl 7, .inl 8, .inl 9, .inl 10, .inr 12, .inr 13, .inr 14, .inr 15, .inr 16, .inr 17, .inr 18, .inr 19, .inr 20, .inr 21, .inr 22, .inr 23] rfl (by decide) (fun _ => rfl) (fun _ => rfl) (fun r6 u5 H locs h hP hD hS => ?_)
    refine lv_aload_n hx hb dX3_takeBack_40 rfl (lv_at hl 0 rfl) ?_
    refine va_get (D := D) (ci := 3) (v := .int (u4.1 4)) (C := RX3) (T := TX3) (N := 12) hx hb hts inX3 hown hK hP 0 rfl rfl 4 (by decide) (hts _ q_356) (fun _ h9 => h9) rfl dX3_takeBack_41 ?_
    refine lv_aload_n hx hb dX3_takeBack_44 rfl (lv_at hl 0 rfl) ?_
    refine va_get (D := D) (ci := 3) (v := .ref (a 18)) (C := RX3) (T := TX3) (N := 12) hx hb hts inX3 hown hK hP 0 rfl rfl 3 (by decide) (hts _ q_354) (fun _ h9 => h9) rfl dX3_takeBack_45 ?_
    refine va_get (D := D) (ci := 1) (v := .int (u4.2.2.2.2.1.1 6)) (C := RX1) (T := TX1) (N := 14) hx hb hts inX1 hown hK hP 18 rfl rfl 6 (by decide) (hts _ q_297) (fun _ h9 => h9) rfl dX3_takeBack_48 ?_
    refine cl_v (ws' := fun u7 => (wX3 cI cZ a (u4.1, u5, u4.2.2.1, u7, u4.2.2.2.2.1, u4.2.2.2.2.2))) (va_runV (As := [.int 5, .int r6, .int (u4.1 4), .int (u4.2.2.2.2.1.1 6)]) (rest := []) ⟨hx, hb, hml, hown, hts⟩ (c_X2_record l D cI cZ (fun k => a (k + 15)) _ u4.2.2.2.1 5 r6 (u4.1 4) (u4.2.2.2.2.1.1 6) _ h ) (cwV 4 hts (gV q_559 q_560 q_561 q_72 q_562) rfl rfl rfl (by decide +kernel) ⟨Nat.le_of_ble_eq_true rfl, Nat.le_of_ble_eq_true rfl⟩) (preV_of (ci := 2) (q := (RX2, TX2, 14)) hK hP hD [15, 16, 17] rfl rfl (by decide) 15 rfl rfl) rfl rfl hl.1 rfl (lv_room (Nat.le_of_ble_eq_true rfl)) dX3_takeBack_51 ⟨Nat.zero_le _, Nat.zero_le _⟩) hP hD hS hA [15, 16, 17] [.inr 0, .inr 1, .inr 2, .inr 3, .inr 4, .inr 5, .inr 6, .inr 7, .inr 8, .inr 9, .inr 10, .inr 11, .inr 12, .inr 13, .inr 14, .inl 0, .inl 1, .inl 2, .inr 18, .inr 19, .inr 20, .inr 21, .inr 22, .inr 23] rfl (by decide) (fun _ => rfl) (fun _ => rfl) (fun u7 H locs h hP hD hS => ?_)
    exact W.vret hx hb hr (fun t ht hW => ⟨⟨(u4.1, u5, u4.2.2.1, u7, u4.2.2.2.2.1, u4.2.2.2.2.2), rfl, h, by rw [ht]; exact hP, va_K.moved hW.alike hK, hD⟩, hS.F ht⟩) hS.2.2 dX3_takeBack_54
  · have h := h.2 c3
    refine lv_aload_n hx hb dX3_takeBack_10 rfl (lv_at hl 0 rfl) ?_
    refine va_get (D := D) (ci := 3) (v := .ref (a 15)) (C := RX3) (T := TX3) (N := 12) hx hb hts inX3 hown hK hP 0 rfl rfl 2 (by decide) (hts _ q_352) (fun _ h9 => h9) rfl dX3_takeBack_11 ?_
    refine lv_dup hx hb dX3_takeBack_14 rfl ?_
    refine va_get (D := D) (ci := 2) (v := .int (S.2.2.2.1.1 10)) (C := RX2) (T := TX2) (N := 14) hx hb hts inX2 hown hK hP 15 rfl rfl 10 (by decide) (hts _ q_237) (fun _ h9 => h9) rfl dX3_takeBack_15 ?_
    refine lv_iconst (v := 1) hx hb dX3_takeBack_18 (by decide) ?_
    refine lv_iadd hx hb dX3_takeBack_19 ?_
    obtain ⟨T8, eT8⟩ : ∃ z : Ob, z = (si S.2.2.2.1 10 ((S.2.2.2.1.1 10) + 1)) := ⟨_, rfl⟩
    refine pu_f (ci := 2) (v := .int ((S.2.2.2.1.1 10) + 1)) (ty := .int) (C := RX2) (T := TX2) (N := 14) hx hb hts inX2 tyX2 tyX2_ok nmX2 hown hK hP hD hS 15 rfl rfl 10 (by decide) (hts _ q_237) (fun _ h9 => h9) rfl rfl rfl rfl (Nat.le_of_ble_eq_true rfl) dX3_takeBack_20 (wX3 cI cZ a (S.1, S.2.1, S.2.2.1, T8, u1, S.2.2.2.2.2)) (by subst eT8; rfl) (fun H locs hP hD hS => ?_)
    have h := h T8 eT8
    refine lv_aload_n hx hb dX3_takeBack_23 rfl (lv_at hl 0 rfl) ?_
    refine lv_iconst (v := 0) hx hb dX3_takeBack_24 (by decide) ?_
    refine cl_v (ws' := fun u9 => (wX3 cI cZ a u9)) (va_runV (As := [.int 0]) (rest := []) ⟨hx, hb, hml, hown, hts⟩ (c_X3_enter l D cI cZ a _ (S.1, S.2.1, S.2.2.1, T8, u1, S.2.2.2.2.2) 0 _ h ) (cwV 1 hts (gV q_539 q_541 q_2 q_68 q_542) rfl rfl rfl (by decide +kernel) ⟨Nat.le_of_ble_eq_true rfl, Nat.le_of_ble_eq_true rfl⟩) (preV_of (ci := 3) (q := (RX3, TX3, 12)) hK hP hD [0, 1, 2, 3, 4, 5, 6, 7, 8, 9, 10, 11, 12, 13, 14, 15, 16, 17, 18, 19, 20, 21, 22, 23] rfl rfl (by decide) 0 rfl rfl) rfl rfl hl.1 rfl (lv_room (Nat.le_of_ble_eq_true rfl)) dX3_takeBack_25 ⟨Nat.zero_le _, Nat.zero_le _⟩) hP hD hS hA [0, 1, 2, 3, 4, 5, 6, 7, 8, 9, 10, 11, 12, 13, 14, 15, 16, 17, 18, 19, 20, 21, 22, 23] [.inl 0, .inl 1, .inl 2, .inl 3, .inl 4, .inl 5, .inl 6, .inl 7, .inl 8, .inl 9, .inl 10, .inl 11, .inl 12, .inl 13, .inl 14, .inl 15, .inl 16, .inl 17, .inl 18, .inl 19, .inl 20, .inl 21, .inl 22, .inl 23] rfl (by decide) (fun _ => rfl) (fun _ => rfl) (fun u9 H locs h hP hD hS => ?_)
    refine lv_aload_n hx hb dX3_takeBack_28 rfl (lv_at hl 0 rfl) ?_
    refine va_get (D := D) (ci := 3) (v := .ref (a 15)) (C := RX3) (T := TX3) (N := 12) hx hb hts inX3 hown hK hP 0 rfl rfl 2 (by decide) (hts _ q_352) (fun _ h9 => h9) rfl dX3_takeBack_29 ?_
    refine lv_iconst (v := 5) hx hb dX3_takeBack_32 (by decide) ?_
    refine lv_aload_n hx hb dX3_takeBack_33 rfl (lv_at hl 0 rfl) ?_
    refine va_get (D := D) (ci := 3) (v := .ref (a 1)) (C := RX3) (T := TX3) (N := 12) hx hb hts inX3 hown hK hP 0 rfl rfl 0 (by decide) (hts _ q_348) (fun _ h9 => h9) rfl dX3_takeBack_34 ?_
    refine cl_i (ws' := fun u10 => (wX3 cI cZ a (u9.1, u10, u9.2.2.1, u9.2.2.2.1, u9.2.2.2.2.1, u9.2.2.2.2.2))) (va_runV (As := []) (rest := [.int 5, .ref (a 15)]) ⟨hx, hb, hml, hown, hts⟩ (c_X5_innermost l D cI cZ (fun k => a (k + 1)) _ u9.2.1 _ h ) (cwV 0 hts (gV q_643 q_644 q_645 q_69 q_646) rfl rfl rfl (by decide +kernel) ⟨Nat.le_of_ble_eq_true rfl, Nat.le_of_ble_eq_true rfl⟩) (preV_of (ci := 4) (q := (RX5, TX5, 16)) hK hP hD [1, 2, 3, 4, 5, 6, 7, 8, 9, 10, 11] rfl rfl (by decide) 1 rfl rfl) rfl rfl hl.1 rfl (lv_room (Nat.le_of_ble_eq_true rfl)) dX3_takeBack_37 ⟨Nat.zero_le _, Nat.zero_le _⟩) hP hD hS hA [1, 2, 3, 4, 5, 6, 7, 8, 9, 10, 11] [.inr 0, .inl 0, .inl 1, .inl 2, .inl 3, .inl 4, .inl 5, .inl 6, .inl 7, .inl 8, .inl 9, .inl 10, .inr 12, .inr 13, .inr 14, .inr 15, .inr 16, .inr 17, .inr 18, .inr 19, .inr 20, .inr 21, .inr 22, .inr 23] rfl (by decide) (fun _ => rfl) (fun _ => rfl) (fun r11 u10 H locs h hP hD hS => ?_)
    refine lv_aload_n hx hb dX3_takeBack_40 rfl (lv_at hl 0 rfl) ?_
    refine va_get (D := D) (ci := 3) (v := .int (u9.1 4)) (C := RX3) (T := TX3) (N := 12) hx hb hts inX3 hown hK hP 0 rfl rfl 4 (by decide) (hts _ q_356) (fun _ h9 => h9) rfl dX3_takeBack_41 ?_
    refine lv_aload_n hx hb dX3_takeBack_44 rfl (lv_at hl 0 rfl) ?_
    refine va_get (D := D) (ci := 3) (v := .ref (a 18)) (C := RX3) (T := TX3) (N := 12) hx hb hts inX3 hown hK hP 0 rfl rfl 3 (by decide) (hts _ q_354) (fun _ h9 => h9) rfl dX3_takeBack_45 ?_
    refine va_get (D := D) (ci := 1) (v := .int (u9.2.2.2.2.1.1 6)) (C := RX1) (T := TX1) (N := 14) hx hb hts inX1 hown hK hP 18 rfl rfl 6 (by decide) (hts _ q_297) (fun _ h9 => h9) rfl dX3_takeBack_48 ?_
    refine cl_v (ws' := fun u12 => (wX3 cI cZ a (u9.1, u10, u9.2.2.1, u12, u9.2.2.2.2.1, u9.2.2.2.2.2))) (va_runV (As := [.int 5, .int r11, .int (u9.1 4), .int (u9.2.2.2.2.1.1 6)]) (rest := []) ⟨hx, hb, hml, hown, hts⟩ (c_X2_record l D cI cZ (fun k => a (k + 15)) _ u9.2.2.2.1 5 r11 (u9.1 4) (u9.2.2.2.2.1.1 6) _ h ) (cwV 4 hts (gV q_559 q_560 q_561 q_72 q_562) rfl rfl rfl (by decide +kernel) ⟨Nat.le_of_ble_eq_true rfl, Nat.le_of_ble_eq_true rfl⟩) (preV_of (ci := 2) (q := (RX2, TX2, 14)) hK hP hD [15, 16, 17] rfl rfl (by decide) 15 rfl rfl) rfl rfl hl.1 rfl (lv_room (Nat.le_of_ble_eq_true rfl)) dX3_takeBack_51 ⟨Nat.zero_le _, Nat.zero_le _⟩) hP hD hS hA [15, 16, 17] [.inr 0, .inr 1, .inr 2, .inr 3, .inr 4, .inr 5, .inr 6, .inr 7, .inr 8, .inr 9, .inr 10, .inr 11, .inr 12, .inr 13, .inr 14, .inl 0, .inl 1, .inl 2, .inr 18, .inr 19, .inr 20, .inr 21, .inr 22, .inr 23] rfl (by decide) (fun _ => rfl) (fun _ => rfl) (fun u12 H locs h hP hD hS => ?_)
    exact W.vret hx hb hr (fun t ht hW => ⟨⟨(u9.1, u10, u9.2.2.1, u12, u9.2.2.2.2.1, u9.2.2.2.2.2), rfl, h, by rw [ht]; exact hP, va_K.moved hW.alike hK, hD⟩, hS.F ht⟩) hS.2.2 dX3_takeBack_54
/-! X3_unstacking -/
abbrev rmX3_unstacking : Room := { frames := 4, cells := 0, slots := 0, locals := 103 }
set_option maxHeartbeats 4000000 in
set_option maxRecDepth 100000 in
theorem c_X3_unstacking (l : Launch) (D : va_G) (cI cZ : ClassId) (a : Nat → Nat) (sz : Nat) (S : (Nat → Int32) × Ob × Ob × Ob × Ob × (Nat → Int32)) (Q : ((Nat → Int32) × Ob × Ob × Ob × Ob × (Nat → Int32)) → Prop) (h : wp_X3_unstacking S Q) : Met l yX3_unstacking (wsm yX3_unstacking cX3_unstacking 2 none) rmX3_unstacking (va_Pc [.ref (a 0)] (preT D cI cZ sz (wX3 cI cZ a S))) (va_Qv Q (fun u => atW D cI cZ (va_A (wX3 cI cZ a S) sz) (wX3 cI cZ a u)) (va_A (wX3 cI cZ a S) sz)) 0 0 (va_A (wX3 cI cZ a S) sz) := by
  refine Met.ofW (cc := cX3_unstacking) (maxL := 2) (ret := none) (by decide) rfl ?_
  intro p e s m args below meth c s₁ B hml hv
  obtain ⟨rfl, ⟨hsz, hP, hK, hD0⟩, hF⟩ := hv
  have hx := B.exec
  have hb := B.bytes
  have hr := B.returns
  have hts0 := atoms_spec (ws := wsm yX3_unstacking cX3_unstacking 2 none) B.pre
  have hts : ∀ w ∈ lw_all, w.before _ s = true := fun w h => hts0 w (List.mem_cons_of_mem _ h)
  have hown : s.vm.findClass RX3 = some m.cls := findClass_of_methodNamed B.named
  have hlocks := B.notSynchronized
  subst hsz
  have hD := hD0.self (sz := s.heap.size)
  generalize hAe : va_A (wX3 cI cZ a S) s.heap.size = A at hD hF ⊢
  have hA : ∀ q : Nat, s.heap.size ≤ q → A q := fun q h => by rw [← hAe]; exact Or.inr h
  have hS : va_S A s.heap s.heap [] := va_S.rf
  have hml2 := hml
  have hl := lv_entry ([.ref (a 0)]) (n := 2) (Nat.le_of_ble_eq_true rfl)
  rw [lg_entry_eq]
  generalize (lg_sl ([.ref (a 0)]) ++ List.replicate (2 - (lg_sl ([.ref (a 0)])).length) Slot.unset).toArray = ls at hl ⊢
  have hl : lv_has ls 2 [(0, .ref (a 0))] := hl
  unfold wp_X3_unstacking at h
  refine lv_aload_n hx hb dX3_unstacking_0 rfl (lv_at hl 0 rfl) ?_
  refine va_get (D := D) (ci := 3) (v := .ref (a 18)) (C := RX3) (T := TX3) (N := 12) hx hb hts inX3 hown hK hP 0 rfl rfl 3 (by decide) (hts _ q_354) (fun _ h9 => h9) rfl dX3_unstacking_1 ?_
  refine cl_i (ws' := fun u1 => (wX3 cI cZ a (S.1, S.2.1, S.2.2.1, S.2.2.2.1, u1, S.2.2.2.2.2))) (va_runV (As := []) (rest := []) ⟨hx, hb, hml, hown, hts⟩ (c_X1_frameFault l D cI cZ (fun k => a (k + 18)) _ S.2.2.2.2.1 _ h ) (cwV 0 hts (gV q_719 q_720 q_721 q_73 q_722) rfl rfl rfl (by decide +kernel) ⟨Nat.le_of_ble_eq_true rfl, Nat.le_of_ble_eq_true rfl⟩) (preTV_of (ci := 1) (q := (RX1, TX1, 14)) hF hS hA hK hP hD [18, 19, 20, 21, 22] rfl rfl (by decide) 18 rfl rfl) rfl rfl hl.1 rfl (lv_room (Nat.le_of_ble_eq_true rfl)) dX3_unstacking_4 ⟨Nat.zero_le _, Nat.zero_le _⟩) hP hD hS hA [18, 19, 20, 21, 22] [.inr 0, .inr 1, .inr 2, .inr 3, .inr 4, .inr 5, .inr 6, .inr 7, .inr 8, .inr 9, .inr 10, .inr 11, .inr 12, .inr 13, .inr 14, .inr 15, .inr 16, .inr 17, .inl 0, .inl 1, .inl 2, .inl 3, .inl 4, .inr 23] rfl (by decide) (fun _ => rfl) (fun _ => rfl) (fun r2 u1 H locs h hP hD hS => ?_)
  refine lv_istore_n (lv' := [(1, .int r2), (0, .ref (a 0))]) hx hb dX3_unstacking_7 rfl hl (by decide) rfl (fun ls hl => ?_)
  refine lv_iload_n hx hb dX3_unstacking_8 rfl (lv_at hl 0 rfl) ?_
  refine lv_iconst (v := -1) hx hb dX3_unstacking_9 (by decide) ?_
  refine lv_icmp_eq (tgt := 32) hx hb dX3_unstacking_10 (by decide) (fun c3 => ?_) (fun c3 => ?_)
  · have h := h.1 c3
    refine lv_aload_n hx hb dX3_unstacking_32 rfl (lv_at hl 1 rfl) ?_
    refine lv_dup hx hb dX3_unstacking_33 rfl ?_
    refine va_get (D := D) (ci := 3) (v := .int (S.1 6)) (C := RX3) (T := TX3) (N := 12) hx hb hts inX3 hown hK hP 0 rfl rfl 6 (by decide) (hts _ q_360) (fun _ h9 => h9) rfl dX3_unstacking_34 ?_
    refine lv_iconst (v := 1) hx hb dX3_unstacking_37 (by decide) ?_
    refine lv_iadd hx hb dX3_unstacking_38 ?_
    obtain ⟨T4, eT4⟩ : ∃ z : (Nat → Int32), z = (upd S.1 6 ((S.1 6) + 1)) := ⟨_, rfl⟩
    refine pu_f (ci := 3) (v := .int ((S.1 6) + 1)) (ty := .int) (C := RX3) (T := TX3) (N := 12) hx hb hts inX3 tyX3 tyX3_ok nmX3 hown hK hP hD hS 0 rfl rfl 6 (by decide) (hts _ q_360) (fun _ h9 => h9) rfl rfl rfl rfl (Nat.le_of_ble_eq_true rfl) dX3_unstacking_39 (wX3 cI cZ a (T4, S.2.1, S.2.2.1, S.2.2.2.1, u1, S.2.2.2.2.2)) (by subst eT4; rfl) (fun H locs hP hD hS => ?_)
    have h := h T4 eT4
    refine lv_aload_n hx hb dX3_unstacking_42 rfl (lv_at hl 1 rfl) ?_
    refine va_get (D := D) (ci := 3) (v := .int (T4 6)) (C := RX3) (T := TX3) (N := 12) hx hb hts inX3 hown hK hP 0 rfl rfl 6 (by decide) (hts _ q_360) (fun _ h9 => h9) rfl dX3_unstacking_43 ?_
    refine lv_aload_n hx hb dX3_unstacking_46 rfl (lv_at hl 1 rfl) ?_
    refine va_get (D := D) (ci := 3) (v := .ref (a 18)) (C := RX3) (T := TX3) (N := 12) hx hb hts inX3 hown hK hP 0 rfl rfl 3 (by decide) (hts _ q_354) (fun _ h9 => h9) rfl dX3_unstacking_47 ?_
    refine cl_i (ws' := fun u5 => (wX3 cI cZ a (T4, S.2.1, S.2.2.1, S.2.2.2.1, u5, S.2.2.2.2.2))) (va_runV (As := []) (rest := [.int (T4 6)]) ⟨hx, hb, hml, hown, hts⟩ (c_X1_frameSteps l D cI cZ (fun k => a (k + 18)) _ u1 _ h ) (cwV 0 hts (gV q_728 q_729 q_730 q_73 q_731) rfl rfl rfl (by decide +kernel) ⟨Nat.le_of_ble_eq_true rfl, Nat.le_of_ble_eq_true rfl⟩) (preV_of (ci := 1) (q := (RX1, TX1, 14)) hK hP hD [18, 19, 20, 21, 22] rfl rfl (by decide) 18 rfl rfl) rfl rfl hl.1 rfl (lv_room (Nat.le_of_ble_eq_true rfl)) dX3_unstacking_50 ⟨Nat.zero_le _, Nat.zero_le _⟩) hP hD hS hA [18, 19, 20, 21, 22] [.inr 0, .inr 1, .inr 2, .inr 3, .inr 4, .inr 5, .inr 6, .inr 7, .inr 8, .inr 9, .inr 10, .inr 11, .inr 12, .inr 13, .inr 14, .inr 15, .inr 16, .inr 17, .inl 0, .inl 1, .inl 2, .inl 3, .inl 4, .inr 23] rfl (by decide) (fun _ => rfl) (fun _ => rfl) (fun r6 u5 H locs h hP hD hS => ?_)
    refine lv_icmp_lt (tgt := 60) hx hb dX3_unstacking_53 (by decide) (fun c7 => ?_) (fun c7 => ?_)
    · have h := h.1 c7
      exact W.vret hx hb hr (fun t ht hW => ⟨⟨(T4, S.2.1, S.2.2.1, S.2.2.2.1, u5, S.2.2.2.2.2), rfl, h, by rw [ht]; exact hP, va_K.moved hW.alike hK, hD⟩, hS.F ht⟩) hS.2.2 dX3_unstacking_60
    · have h := h.2 c7
      refine lv_aload_n hx hb dX3_unstacking_56 rfl (lv_at hl 1 rfl) ?_
      refine cl_v (ws' := fun u8 => (wX3 cI cZ a u8)) (va_runV (As := []) (rest := []) ⟨hx, hb, hml, hown, hts⟩ (c_X3_takeBack l D cI cZ a _ (T4, S.2.1, S.2.2.1, S.2.2.2.1, u5, S.2.2.2.2.2) _ h ) (cwV 0 hts (gV q_736 q_738 q_19 q_68 q_739) rfl rfl rfl (by decide +kernel) ⟨Nat.le_of_ble_eq_true rfl, Nat.le_of_ble_eq_true rfl⟩) (preV_of (ci := 3) (q := (RX3, TX3, 12)) hK hP hD [0, 1, 2, 3, 4, 5, 6, 7, 8, 9, 10, 11, 12, 13, 14, 15, 16, 17, 18, 19, 20, 21, 22, 23] rfl rfl (by decide) 0 rfl rfl) rfl rfl hl.1 rfl (lv_room (Nat.le_of_ble_eq_true rfl)) dX3_unstacking_57 ⟨Nat.zero_le _, Nat.zero_le _⟩) hP hD hS hA [0, 1, 2, 3, 4, 5, 6, 7, 8, 9, 10, 11, 12, 13, 14, 15, 16, 17, 18, 19, 20, 21, 22, 23] [.inl 0, .inl 1, .inl 2, .inl 3, .inl 4, .inl 5, .inl 6, .inl 7, .inl 8, .inl 9, .inl 10, .inl 11, .inl 12, .inl 13, .inl 14, .inl 15, .inl 16, .inl 17, .inl 18, .inl 19, .inl 20, .inl 21, .inl 22, .inl 23] rfl (by decide) (fun _ => rfl) (fun _ => rfl) (fun u8 H locs h hP hD hS => ?_)
      exact W.vret hx hb hr (fun t ht hW => ⟨⟨u8, rfl, h, by rw [ht]; exact hP, va_K.moved hW.alike hK, hD⟩, hS.F ht⟩) hS.2.2 dX3_unstacking_60
  · have h := h.2 c3
    refine lv_aload_n hx hb dX3_unstacking_13 rfl (lv_at hl 1 rfl) ?_
    refine lv_iload_n hx hb dX3_unstacking_14 rfl (lv_at hl 0 rfl) ?_
    refine cl_v (ws' := fun u9 => (wX3 cI cZ a u9)) (va_runV (As := [.int r2]) (rest := []) ⟨hx, hb, hml, hown, hts⟩ (c_X3_raise l D cI cZ a _ (S.1, S.2.1, S.2.2.1, S.2.2.2.1, u1, S.2.2.2.2.2) r2 _ h ) (cwV 1 hts (gV q_610 q_612 q_5 q_68 q_613) rfl rfl rfl (by decide +kernel) ⟨Nat.le_of_ble_eq_true rfl, Nat.le_of_ble_eq_true rfl⟩) (preV_of (ci := 3) (q := (RX3, TX3, 12)) hK hP hD [0, 1, 2, 3, 4, 5, 6, 7, 8, 9, 10, 11, 12, 13, 14, 15, 16, 17, 18, 19, 20, 21, 22, 23] rfl rfl (by decide) 0 rfl rfl) rfl rfl hl.1 rfl (lv_room (Nat.le_of_ble_eq_true rfl)) dX3_unstacking_15 ⟨Nat.zero_le _, Nat.zero_le _⟩) hP hD hS hA [0, 1, 2, 3, 4, 5, 6, 7, 8, 9, 10, 11, 12, 13, 14, 15, 16, 17, 18, 19, 20, 21, 22, 23] [.inl 0, .inl 1, .inl 2, .inl 3, .inl 4, .inl 5, .inl 6, .inl 7, .inl 8, .inl 9, .inl 10, .inl 11, .inl 12, .inl 13, .inl 14, .inl 15, .inl 16, .inl 17, .inl 18, .inl 19, .inl 20, .inl 21, .inl 22, .inl 23] rfl (by decide) (fun _ => rfl) (fun _ => rfl) (fun u9 H locs h hP hD hS => ?_)
    refine lv_aload_n hx hb dX3_unstacking_18 rfl (lv_at hl 1 rfl) ?_
    refine va_get (D := D) (ci := 3) (v := .int (u9.1 5)) (C := RX3) (T := TX3) (N := 12) hx hb hts inX3 hown hK hP 0 rfl rfl 5 (by decide) (hts _ q_358) (fun _ h9 => h9) rfl dX3_unstacking_19 ?_
    refine lv_iconst (v := 5) hx hb dX3_unstacking_22 (by decide) ?_
    refine lv_icmp_eq (tgt := 31) hx hb dX3_unstacking_23 (by decide) (fun c10 => ?_) (fun c10 => ?_)
    · have h := h.1 c10
      exact W.vret hx hb hr (fun t ht hW => ⟨⟨u9, rfl, h, by rw [ht]; exact hP, va_K.moved hW.alike hK, hD⟩, hS.F ht⟩) hS.2.2 dX3_unstacking_31
    · have h := h.2 c10
      refine lv_aload_n hx hb dX3_unstacking_26 rfl (lv_at hl 1 rfl) ?_
      refine lv_iconst (v := 2) hx hb dX3_unstacking_27 (by decide) ?_
      refine cl_v (ws' := fun u11 => (wX3 cI cZ a u11)) (va_runV (As := [.int 2]) (rest := []) ⟨hx, hb, hml, hown, hts⟩ (c_X3_enter l D cI cZ a _ u9 2 _ h ) (cwV 1 hts (gV q_539 q_541 q_2 q_68 q_542) rfl rfl rfl (by decide +kernel) ⟨Nat.le_of_ble_eq_true rfl, Nat.le_of_ble_eq_true rfl⟩) (preV_of (ci := 3) (q := (RX3, TX3, 12)) hK hP hD [0, 1, 2, 3, 4, 5, 6, 7, 8, 9, 10, 11, 12, 13, 14, 15, 16, 17, 18, 19, 20, 21, 22, 23] rfl rfl (by decide) 0 rfl rfl) rfl rfl hl.1 rfl (lv_room (Nat.le_of_ble_eq_true rfl)) dX3_unstacking_28 ⟨Nat.zero_le _, Nat.zero_le _⟩) hP hD hS hA [0, 1, 2, 3, 4, 5, 6, 7, 8, 9, 10, 11, 12, 13, 14, 15, 16, 17, 18, 19, 20, 21, 22, 23] [.inl 0, .inl 1, .inl 2, .inl 3, .inl 4, .inl 5, .inl 6, .inl 7, .inl 8, .inl 9, .inl 10, .inl 11, .inl 12, .inl 13, .inl 14, .inl 15, .inl 16, .inl 17, .inl 18, .inl 19, .inl 20, .inl 21, .inl 22, .inl 23] rfl (by decide) (fun _ => rfl) (fun _ => rfl) (fun u11 H locs h hP hD hS => ?_)
      exact W.vret hx hb hr (fun t ht hW => ⟨⟨u11, rfl, h, by rw [ht]; exact hP, va_K.moved hW.alike hK, hD⟩, hS.F ht⟩) hS.2.2 dX3_unstacking_31
/-! X3_saving -/
abbrev rmX3_saving : Room := { frames := 1, cells := 0, slots := 0, locals := 21 }
set_option maxHeartbeats 4000000 in
set_option maxRecDepth 100000 in
theorem c_X3_saving (l : Launch) (D : va_G) (cI cZ : ClassId) (a : Nat → Nat) (sz : Nat) (S : (Nat → Int32) × Ob × Ob × Ob × Ob × (Nat → Int32)) (Q : ((Nat → Int32) × Ob × Ob × Ob × Ob × (Nat → Int32)) → Prop) (h : wp_X3_saving S Q) : Met l yX3_saving (wsm yX3_saving cX3_saving 1 none) rmX3_saving (va_Pc [.ref (a 0)] (preW D cI cZ sz (wX3 cI cZ a S))) (va_Qv Q (fun u => atW D cI cZ (va_A (wX3 cI cZ a S) sz) (wX3 cI cZ a u)) (va_A (wX3 cI cZ a S) sz)) 0 0 (va_A (wX3 cI cZ a S) sz) := by
  refine Met.ofW (cc := cX3_saving) (maxL := 1) (ret := none) (by decide) rfl ?_
  intro p e s m args below meth c s₁ B hml hv
  obtain ⟨rfl, hsz, hP, hK, hD0⟩ := hv
  have hx := B.exec
  have hb := B.bytes
  have hr := B.returns
  have hts0 := atoms_spec (ws := wsm yX3_saving cX3_saving 1 none) B.pre
  have hts : ∀ w ∈ lw_all, w.before _ s = true := fun w h => hts0 w (List.mem_cons_of_mem _ h)
  have hown : s.vm.findClass RX3 = some m.cls := findClass_of_methodNamed B.named
  have hlocks := B.notSynchronized
  subst hsz
  have hD := hD0.self (sz := s.heap.size)
  generalize hAe : va_A (wX3 cI cZ a S) s.heap.size = A at hD ⊢
  have hA : ∀ q : Nat, s.heap.size ≤ q → A q := fun q h => by rw [← hAe]; exact Or.inr h
  have hS : va_S A s.heap s.heap [] := va_S.rf
  have hml2 := hml
  have hl := lv_entry ([.ref (a 0)]) (n := 1) (Nat.le_of_ble_eq_true rfl)
  rw [lg_entry_eq]
  generalize (lg_sl ([.ref (a 0)]) ++ List.replicate (1 - (lg_sl ([.ref (a 0)])).length) Slot.unset).toArray = ls at hl ⊢
  have hl : lv_has ls 1 [(0, .ref (a 0))] := hl
  unfold wp_X3_saving at h
  refine lv_aload_n hx hb dX3_saving_0 rfl (lv_at hl 0 rfl) ?_
  refine va_get (D := D) (ci := 3) (v := .ref (a 18)) (C := RX3) (T := TX3) (N := 12) hx hb hts inX3 hown hK hP 0 rfl rfl 3 (by decide) (hts _ q_354) (fun _ h9 => h9) rfl dX3_saving_1 ?_
  refine lv_aload_n hx hb dX3_saving_4 rfl (lv_at hl 0 rfl) ?_
  refine va_get (D := D) (ci := 3) (v := .int (S.1 6)) (C := RX3) (T := TX3) (N := 12) hx hb hts inX3 hown hK hP 0 rfl rfl 6 (by decide) (hts _ q_360) (fun _ h9 => h9) rfl dX3_saving_5 ?_
  refine cl_v (ws' := fun u1 => (wX3 cI cZ a (S.1, S.2.1, S.2.2.1, S.2.2.2.1, u1, S.2.2.2.2.2))) (va_runV (As := [.int (S.1 6)]) (rest := []) ⟨hx, hb, hml, hown, hts⟩ (c_X1_saveSingle l D cI cZ (fun k => a (k + 18)) _ S.2.2.2.2.1 (S.1 6) _ h ) (cwV 1 hts (gV q_755 q_756 q_757 q_73 q_758) rfl rfl rfl (by decide +kernel) ⟨Nat.le_of_ble_eq_true rfl, Nat.le_of_ble_eq_true rfl⟩) (preV_of (ci := 1) (q := (RX1, TX1, 14)) hK hP hD [18, 19, 20, 21, 22] rfl rfl (by decide) 18 rfl rfl) rfl rfl hl.1 rfl (lv_room (Nat.le_of_ble_eq_true rfl)) dX3_saving_8 ⟨Nat.zero_le _, Nat.zero_le _⟩) hP hD hS hA [18, 19, 20, 21, 22] [.inr 0, .inr 1, .inr 2, .inr 3, .inr 4, .inr 5, .inr 6, .inr 7, .inr 8, .inr 9, .inr 10, .inr 11, .inr 12, .inr 13, .inr 14, .inr 15, .inr 16, .inr 17, .inl 0, .inl 1, .inl 2, .inl 3, .inl 4, .inr 23] rfl (by decide) (fun _ => rfl) (fun _ => rfl) (fun u1 H locs h hP hD hS => ?_)
  refine lv_aload_n hx hb dX3_saving_11 rfl (lv_at hl 0 rfl) ?_
  refine lv_dup hx hb dX3_saving_12 rfl ?_
  refine va_get (D := D) (ci := 3) (v := .int (S.1 6)) (C := RX3) (T := TX3) (N := 12) hx hb hts inX3 hown hK hP 0 rfl rfl 6 (by decide) (hts _ q_360) (fun _ h9 => h9) rfl dX3_saving_13 ?_
  refine lv_iconst (v := 1) hx hb dX3_saving_16 (by decide) ?_
  refine lv_iadd hx hb dX3_saving_17 ?_
  obtain ⟨T2, eT2⟩ : ∃ z : (Nat → Int32), z = (upd S.1 6 ((S.1 6) + 1)) := ⟨_, rfl⟩
  refine pu_f (ci := 3) (v := .int ((S.1 6) + 1)) (ty := .int) (C := RX3) (T := TX3) (N := 12) hx hb hts inX3 tyX3 tyX3_ok nmX3 hown hK hP hD hS 0 rfl rfl 6 (by decide) (hts _ q_360) (fun _ h9 => h9) rfl rfl rfl rfl (Nat.le_of_ble_eq_true rfl) dX3_saving_18 (wX3 cI cZ a (T2, S.2.1, S.2.2.1, S.2.2.2.1, u1, S.2.2.2.2.2)) (by subst eT2; rfl) (fun H locs hP hD hS => ?_)
  have h := h T2 eT2
  refine lv_aload_n hx hb dX3_saving_21 rfl (lv_at hl 0 rfl) ?_
  refine va_get (D := D) (ci := 3) (v := .int (T2 6)) (C := RX3) (T := TX3) (N := 12) hx hb hts inX3 hown hK hP 0 rfl rfl 6 (by decide) (hts _ q_360) (fun _ h9 => h9) rfl dX3_saving_22 ?_
  refine lv_iconst (v := 4) hx hb dX3_saving_25 (by decide) ?_
  refine lv_icmp_lt (tgt := 55) hx hb dX3_saving_26 (by decide) (fun c3 => ?_) (fun c3 => ?_)
  · have h := h.1 c3
    exact W.vret hx hb hr (fun t ht hW => ⟨⟨(T2, S.2.1, S.2.2.1, S.2.2.2.1, u1, S.2.2.2.2.2), rfl, h, by rw [ht]; exact hP, va_K.moved hW.alike hK, hD⟩, hS.F ht⟩) hS.2.2 dX3_saving_55
  · have h := h.2 c3
    refine lv_aload_n hx hb dX3_saving_29 rfl (lv_at hl 0 rfl) ?_
    refine va_get (D := D) (ci := 3) (v := .ref (a 18)) (C := RX3) (T := TX3) (N := 12) hx hb hts inX3 hown hK hP 0 rfl rfl 3 (by decide) (hts _ q_354) (fun _ h9 => h9) rfl dX3_saving_30 ?_
    refine lv_iconst (v := -1) hx hb dX3_saving_33 (by decide) ?_
    obtain ⟨T4, eT4⟩ : ∃ z : Ob, z = (si u1 11 (-1)) := ⟨_, rfl⟩
    refine pu_f (ci := 1) (v := .int (-1)) (ty := .int) (C := RX1) (T := TX1) (N := 14) hx hb hts inX1 tyX1 tyX1_ok nmX1 hown hK hP hD hS 18 rfl rfl 11 (by decide) (hts _ q_311) (fun _ h9 => h9) rfl rfl rfl rfl (Nat.le_of_ble_eq_true rfl) dX3_saving_34 (wX3 cI cZ a (T2, S.2.1, S.2.2.1, S.2.2.2.1, T4, S.2.2.2.2.2)) (by subst eT4; rfl) (fun H locs hP hD hS => ?_)
    have h := h T4 eT4
    refine lv_aload_n hx hb dX3_saving_37 rfl (lv_at hl 0 rfl) ?_
    refine va_get (D := D) (ci := 3) (v := .ref (a 15)) (C := RX3) (T := TX3) (N := 12) hx hb hts inX3 hown hK hP 0 rfl rfl 2 (by decide) (hts _ q_352) (fun _ h9 => h9) rfl dX3_saving_38 ?_
    refine lv_dup hx hb dX3_saving_41 rfl ?_
    refine va_get (D := D) (ci := 2) (v := .int (S.2.2.2.1.1 9)) (C := RX2) (T := TX2) (N := 14) hx hb hts inX2 hown hK hP 15 rfl rfl 9 (by decide) (hts _ q_234) (fun _ h9 => h9) rfl dX3_saving_42 ?_
    refine lv_iconst (v := 1) hx hb dX3_saving_45 (by decide) ?_
    refine lv_iadd hx hb dX3_saving_46 ?_
    obtain ⟨T5, eT5⟩ : ∃ z : Ob, z = (si S.2.2.2.1 9 ((S.2.2.2.1.1 9) + 1)) := ⟨_, rfl⟩
    refine pu_f (ci := 2) (v := .int ((S.2.2.2.1.1 9) + 1)) (ty := .int) (C := RX2) (T := TX2) (N := 14) hx hb hts inX2 tyX2 tyX2_ok nmX2 hown hK hP hD hS 15 rfl rfl 9 (by decide) (hts _ q_234) (fun _ h9 => h9) rfl rfl rfl rfl (Nat.le_of_ble_eq_true rfl) dX3_saving_47 (wX3 cI cZ a (T2, S.2.1, S.2.2.1, T5, T4, S.2.2.2.2.2)) (by subst eT5; rfl) (fun H locs hP hD hS => ?_)
    have h := h T5 eT5
    refine lv_aload_n hx hb dX3_saving_50 rfl (lv_at hl 0 rfl) ?_
    refine lv_iconst (v := 0) hx hb dX3_saving_51 (by decide) ?_
    refine cl_v (ws' := fun u6 => (wX3 cI cZ a u6)) (va_runV (As := [.int 0]) (rest := []) ⟨hx, hb, hml, hown, hts⟩ (c_X3_enter l D cI cZ a _ (T2, S.2.1, S.2.2.1, T5, T4, S.2.2.2.2.2) 0 _ h ) (cwV 1 hts (gV q_539 q_541 q_2 q_68 q_542) rfl rfl rfl (by decide +kernel) ⟨Nat.le_of_ble_eq_true rfl, Nat.le_of_ble_eq_true rfl⟩) (preV_of (ci := 3) (q := (RX3, TX3, 12)) hK hP hD [0, 1, 2, 3, 4, 5, 6, 7, 8, 9, 10, 11, 12, 13, 14, 15, 16, 17, 18, 19, 20, 21, 22, 23] rfl rfl (by decide) 0 rfl rfl) rfl rfl hl.1 rfl (lv_room (Nat.le_of_ble_eq_true rfl)) dX3_saving_52 ⟨Nat.zero_le _, Nat.zero_le _⟩) hP hD hS hA [0, 1, 2, 3, 4, 5, 6, 7, 8, 9, 10, 11, 12, 13, 14, 15, 16, 17, 18, 19, 20, 21, 22, 23] [.inl 0, .inl 1, .inl 2, .inl 3, .inl 4, .inl 5, .inl 6, .inl 7, .inl 8, .inl 9, .inl 10, .inl 11, .inl 12, .inl 13, .inl 14, .inl 15, .inl 16, .inl 17, .inl 18, .inl 19, .inl 20, .inl 21, .inl 22, .inl 23] rfl (by decide) (fun _ => rfl) (fun _ => rfl) (fun u6 H locs h hP hD hS => ?_)
    exact W.vret hx hb hr (fun t ht hW => ⟨⟨u6, rfl, h, by rw [ht]; exact hP, va_K.moved hW.alike hK, hD⟩, hS.F ht⟩) hS.2.2 dX3_saving_55
/-! X3_cycle -/
abbrev rmX3_cycle : Room := { frames := 5, cells := 0, slots := 0, locals := 124 }
set_option maxHeartbeats 4000000 in
set_option maxRecDepth 100000 in
theorem c_X3_cycle (l : Launch) (D : va_G) (cI cZ : ClassId) (a : Nat → Nat) (sz : Nat) (S : (Nat → Int32) × Ob × Ob × Ob × Ob × (Nat → Int32)) (Q : ((Nat → Int32) × Ob × Ob × Ob × Ob × (Nat → Int32)) → Prop) (h : wp_X3_cycle S Q) : Met l yX3_cycle (wsm yX3_cycle cX3_cycle 1 none) rmX3_cycle (va_Pc [.ref (a 0)] (preT D cI cZ sz (wX3 cI cZ a S))) (va_Qv Q (fun u => atW D cI cZ (va_A (wX3 cI cZ a S) sz) (wX3 cI cZ a u)) (va_A (wX3 cI cZ a S) sz)) 0 0 (va_A (wX3 cI cZ a S) sz) := by
  refine Met.ofW (cc := cX3_cycle) (maxL := 1) (ret := none) (by decide) rfl ?_
  intro p e s m args below meth c s₁ B hml hv
  obtain ⟨rfl, ⟨hsz, hP, hK, hD0⟩, hF⟩ := hv
  have hx := B.exec
  have hb := B.bytes
  have hr := B.returns
  have hts0 := atoms_spec (ws := wsm yX3_cycle cX3_cycle 1 none) B.pre
  have hts : ∀ w ∈ lw_all, w.before _ s = true := fun w h => hts0 w (List.mem_cons_of_mem _ h)
  have hown : s.vm.findClass RX3 = some m.cls := findClass_of_methodNamed B.named
  have hlocks := B.notSynchronized
  subst hsz
  have hD := hD0.self (sz := s.heap.size)
  generalize hAe : va_A (wX3 cI cZ a S) s.heap.size = A at hD hF ⊢
  have hA : ∀ q : Nat, s.heap.size ≤ q → A q := fun q h => by rw [← hAe]; exact Or.inr h
  have hS : va_S A s.heap s.heap [] := va_S.rf
  have hml2 := hml
  have hl := lv_entry ([.ref (a 0)]) (n := 1) (Nat.le_of_ble_eq_true rfl)
  rw [lg_entry_eq]
  generalize (lg_sl ([.ref (a 0)]) ++ List.replicate (1 - (lg_sl ([.ref (a 0)])).length) Slot.unset).toArray = ls at hl ⊢
  have hl : lv_has ls 1 [(0, .ref (a 0))] := hl
  unfold wp_X3_cycle at h
  refine lv_aload_n hx hb dX3_cycle_0 rfl (lv_at hl 0 rfl) ?_
  refine lv_dup hx hb dX3_cycle_1 rfl ?_
  refine va_get (D := D) (ci := 3) (v := .int (S.1 4)) (C := RX3) (T := TX3) (N := 12) hx hb hts inX3 hown hK hP 0 rfl rfl 4 (by decide) (hts _ q_356) (fun _ h9 => h9) rfl dX3_cycle_2 ?_
  refine lv_iconst (v := 1) hx hb dX3_cycle_5 (by decide) ?_
  refine lv_iadd hx hb dX3_cycle_6 ?_
  obtain ⟨T1, eT1⟩ : ∃ z : (Nat → Int32), z = (upd S.1 4 ((S.1 4) + 1)) := ⟨_, rfl⟩
  refine pu_f (ci := 3) (v := .int ((S.1 4) + 1)) (ty := .int) (C := RX3) (T := TX3) (N := 12) hx hb hts inX3 tyX3 tyX3_ok nmX3 hown hK hP hD hS 0 rfl rfl 4 (by decide) (hts _ q_356) (fun _ h9 => h9) rfl rfl rfl rfl (Nat.le_of_ble_eq_true rfl) dX3_cycle_7 (wX3 cI cZ a (T1, S.2.1, S.2.2.1, S.2.2.2.1, S.2.2.2.2.1, S.2.2.2.2.2)) (by subst eT1; rfl) (fun H locs hP hD hS => ?_)
  have h := h T1 eT1
  refine lv_aload_n hx hb dX3_cycle_10 rfl (lv_at hl 0 rfl) ?_
  refine lv_iconst (v := -1) hx hb dX3_cycle_11 (by decide) ?_
  obtain ⟨T2, eT2⟩ : ∃ z : (Nat → Int32), z = (upd T1 7 (-1)) := ⟨_, rfl⟩
  refine pu_f (ci := 3) (v := .int (-1)) (ty := .int) (C := RX3) (T := TX3) (N := 12) hx hb hts inX3 tyX3 tyX3_ok nmX3 hown hK hP hD hS 0 rfl rfl 7 (by decide) (hts _ q_362) (fun _ h9 => h9) rfl rfl rfl rfl (Nat.le_of_ble_eq_true rfl) dX3_cycle_12 (wX3 cI cZ a (T2, S.2.1, S.2.2.1, S.2.2.2.1, S.2.2.2.2.1, S.2.2.2.2.2)) (by subst eT2; rfl) (fun H locs hP hD hS => ?_)
  have h := h T2 eT2
  refine lv_aload_n hx hb dX3_cycle_15 rfl (lv_at hl 0 rfl) ?_
  refine va_get (D := D) (ci := 3) (v := .ref (a 12)) (C := RX3) (T := TX3) (N := 12) hx hb hts inX3 hown hK hP 0 rfl rfl 1 (by decide) (hts _ q_350) (fun _ h9 => h9) rfl dX3_cycle_16 ?_
  refine lv_aload_n hx hb dX3_cycle_19 rfl (lv_at hl 0 rfl) ?_
  refine va_get (D := D) (ci := 3) (v := .ref (a 1)) (C := RX3) (T := TX3) (N := 12) hx hb hts inX3 hown hK hP 0 rfl rfl 0 (by decide) (hts _ q_348) (fun _ h9 => h9) rfl dX3_cycle_20 ?_
  refine lv_aload_n hx hb dX3_cycle_23 rfl (lv_at hl 0 rfl) ?_
  refine va_get (D := D) (ci := 3) (v := .int (T2 4)) (C := RX3) (T := TX3) (N := 12) hx hb hts inX3 hown hK hP 0 rfl rfl 4 (by decide) (hts _ q_356) (fun _ h9 => h9) rfl dX3_cycle_24 ?_
  refine cl_v (ws' := fun u3 => (wX3 cI cZ a (T2, u3.2, u3.1, S.2.2.2.1, S.2.2.2.2.1, S.2.2.2.2.2))) (va_runV (As := [.ref (a 1), .int (T2 4)]) (rest := []) ⟨hx, hb, hml, hown, hts⟩ (c_X0_admit l D cI cZ (fun k => a (k + 12)) (fun k => a (k + 1)) _ (S.2.2.1, S.2.1) (T2 4) _ h ) (cwV 2 hts (gV q_506 q_507 q_508 q_71 q_509) rfl rfl rfl (by decide +kernel) ⟨Nat.le_of_ble_eq_true rfl, Nat.le_of_ble_eq_true rfl⟩) (preV_of (ci := 0) (q := (RX0, TX0, 5)) hK hP hD [12, 13, 14, 1, 2, 3, 4, 5, 6, 7, 8, 9, 10, 11] rfl rfl (by decide) 12 rfl rfl) rfl rfl hl.1 rfl (lv_room (Nat.le_of_ble_eq_true rfl)) dX3_cycle_27 ⟨Nat.zero_le _, Nat.zero_le _⟩) hP hD hS hA [12, 13, 14, 1, 2, 3, 4, 5, 6, 7, 8, 9, 10, 11] [.inr 0, .inl 3, .inl 4, .inl 5, .inl 6, .inl 7, .inl 8, .inl 9, .inl 10, .inl 11, .inl 12, .inl 13, .inl 0, .inl 1, .inl 2, .inr 15, .inr 16, .inr 17, .inr 18, .inr 19, .inr 20, .inr 21, .inr 22, .inr 23] rfl (by decide) (fun _ => rfl) (fun _ => rfl) (fun u3 H locs h hP hD hS => ?_)
  refine lv_aload_n hx hb dX3_cycle_30 rfl (lv_at hl 0 rfl) ?_
  refine va_get (D := D) (ci := 3) (v := .ref (a 12)) (C := RX3) (T := TX3) (N := 12) hx hb hts inX3 hown hK hP 0 rfl rfl 1 (by decide) (hts _ q_350) (fun _ h9 => h9) rfl dX3_cycle_31 ?_
  refine lv_aload_n hx hb dX3_cycle_34 rfl (lv_at hl 0 rfl) ?_
  refine va_get (D := D) (ci := 3) (v := .ref (a 1)) (C := RX3) (T := TX3) (N := 12) hx hb hts inX3 hown hK hP 0 rfl rfl 0 (by decide) (hts _ q_348) (fun _ h9 => h9) rfl dX3_cycle_35 ?_
  refine lv_aload_n hx hb dX3_cycle_38 rfl (lv_at hl 0 rfl) ?_
  refine va_get (D := D) (ci := 3) (v := .int (T2 4)) (C := RX3) (T := TX3) (N := 12) hx hb hts inX3 hown hK hP 0 rfl rfl 4 (by decide) (hts _ q_356) (fun _ h9 => h9) rfl dX3_cycle_39 ?_
  refine cl_v (ws' := fun u4 => (wX3 cI cZ a (T2, u4.2, u4.1, S.2.2.2.1, S.2.2.2.2.1, S.2.2.2.2.2))) (va_runV (As := [.ref (a 1), .int (T2 4)]) (rest := []) ⟨hx, hb, hml, hown, hts⟩ (c_X0_tick l D cI cZ (fun k => a (k + 12)) (fun k => a (k + 1)) _ u3 (T2 4) _ h ) (cwV 2 hts (gV q_511 q_512 q_513 q_71 q_514) rfl rfl rfl (by decide +kernel) ⟨Nat.le_of_ble_eq_true rfl, Nat.le_of_ble_eq_true rfl⟩) (preV_of (ci := 0) (q := (RX0, TX0, 5)) hK hP hD [12, 13, 14, 1, 2, 3, 4, 5, 6, 7, 8, 9, 10, 11] rfl rfl (by decide) 12 rfl rfl) rfl rfl hl.1 rfl (lv_room (Nat.le_of_ble_eq_true rfl)) dX3_cycle_42 ⟨Nat.zero_le _, Nat.zero_le _⟩) hP hD hS hA [12, 13, 14, 1, 2, 3, 4, 5, 6, 7, 8, 9, 10, 11] [.inr 0, .inl 3, .inl 4, .inl 5, .inl 6, .inl 7, .inl 8, .inl 9, .inl 10, .inl 11, .inl 12, .inl 13, .inl 0, .inl 1, .inl 2, .inr 15, .inr 16, .inr 17, .inr 18, .inr 19, .inr 20, .inr 21, .inr 22, .inr 23] rfl (by decide) (fun _ => rfl) (fun _ => rfl) (fun u4 H locs h hP hD hS => ?_)
  refine lv_aload_n hx hb dX3_cycle_45 rfl (lv_at hl 0 rfl) ?_
  refine cl_v (ws' := fun u5 => (wX3 cI cZ a u5)) (va_runV (As := []) (rest := []) ⟨hx, hb, hml, hown, hts⟩ (c_X3_turn l D cI cZ a _ (T2, u4.2, u4.1, S.2.2.2.1, S.2.2.2.2.1, S.2.2.2.2.2) _ h ) (cwV 0 hts (gV q_515 q_517 q_0 q_68 q_518) rfl rfl rfl (by decide +kernel) ⟨Nat.le_of_ble_eq_true rfl, Nat.le_of_ble_eq_true rfl⟩) (preV_of (ci := 3) (q := (RX3, TX3, 12)) hK hP hD [0, 1, 2, 3, 4, 5, 6, 7, 8, 9, 10, 11, 12, 13, 14, 15, 16, 17, 18, 19, 20, 21, 22, 23] rfl rfl (by decide) 0 rfl rfl) rfl rfl hl.1 rfl (lv_room (Nat.le_of_ble_eq_true rfl)) dX3_cycle_46 ⟨Nat.zero_le _, Nat.zero_le _⟩) hP hD hS hA [0, 1, 2, 3, 4, 5, 6, 7, 8, 9, 10, 11, 12, 13, 14, 15, 16, 17, 18, 19, 20, 21, 22, 23] [.inl 0, .inl 1, .inl 2, .inl 3, .inl 4, .inl 5, .inl 6, .inl 7, .inl 8, .inl 9, .inl 10, .inl 11, .inl 12, .inl 13, .inl 14, .inl 15, .inl 16, .inl 17, .inl 18, .inl 19, .inl 20, .inl 21, .inl 22, .inl 23] rfl (by decide) (fun _ => rfl) (fun _ => rfl) (fun u5 H locs h hP hD hS => ?_)
  refine lv_aload_n hx hb dX3_cycle_49 rfl (lv_at hl 0 rfl) ?_
  refine va_get (D := D) (ci := 3) (v := .int (u5.1 5)) (C := RX3) (T := TX3) (N := 12) hx hb hts inX3 hown hK hP 0 rfl rfl 5 (by decide) (hts _ q_358) (fun _ h9 => h9) rfl dX3_cycle_50 ?_
  by_cases c6_0 : (u5.1 5) = 0
  · have h := h.1 c6_0
    refine sw_in c6_0 ?_
    refine lv_tableIn (tgt := 88) hx hb dX3_cycle_53 (by decide) (by decide) rfl (by decide) ?_
    refine lv_aload_n hx hb dX3_cycle_88 rfl (lv_at hl 0 rfl) ?_
    refine cl_v (ws' := fun u7 => (wX3 cI cZ a u7)) (va_runV (As := []) (rest := []) ⟨hx, hb, hml, hown, hts⟩ (c_X3_running l D cI cZ a _ u5 _ h ) (cwV 0 hts (gV q_566 q_568 q_4 q_68 q_569) rfl rfl rfl (by decide +kernel) ⟨Nat.le_of_ble_eq_true rfl, Nat.le_of_ble_eq_true rfl⟩) (preTV_of (ci := 3) (q := (RX3, TX3, 12)) hF hS hA hK hP hD [0, 1, 2, 3, 4, 5, 6, 7, 8, 9, 10, 11, 12, 13, 14, 15, 16, 17, 18, 19, 20, 21, 22, 23] rfl rfl (by decide) 0 rfl rfl) rfl rfl hl.1 rfl (lv_room (Nat.le_of_ble_eq_true rfl)) dX3_cycle_89 ⟨Nat.zero_le _, Nat.zero_le _⟩) hP hD hS hA [0, 1, 2, 3, 4, 5, 6, 7, 8, 9, 10, 11, 12, 13, 14, 15, 16, 17, 18, 19, 20, 21, 22, 23] [.inl 0, .inl 1, .inl 2, .inl 3, .inl 4, .inl 5, .inl 6, .inl 7, .inl 8, .inl 9, .inl 10, .inl 11, .inl 12, .inl 13, .inl 14, .inl 15, .inl 16, .inl 17, .inl 18, .inl 19, .inl 20, .inl 21, .inl 22, .inl 23] rfl (by decide) (fun _ => rfl) (fun _ => rfl) (fun u7 H locs h hP hD hS => ?_)
    refine lv_goto (tgt := 123) hx hb dX3_cycle_92 (by decide) ?_
    exact W.vret hx hb hr (fun t ht hW => ⟨⟨u7, rfl, h, by rw [ht]; exact hP, va_K.moved hW.alike hK, hD⟩, hS.F ht⟩) hS.2.2 dX3_cycle_123
  have h := h.2
  by_cases c6_1 : (u5.1 5) = 1
  · have h := h.1 c6_1
    refine sw_in c6_1 ?_
    refine lv_tableIn (tgt := 95) hx hb dX3_cycle_53 (by decide) (by decide) rfl (by decide) ?_
    refine lv_aload_n hx hb dX3_cycle_95 rfl (lv_at hl 0 rfl) ?_
    refine cl_v (ws' := fun u8 => (wX3 cI cZ a u8)) (va_runV (As := []) (rest := []) ⟨hx, hb, hml, hown, hts⟩ (c_X3_stacking l D cI cZ a _ u5 _ h ) (cwV 0 hts (gV q_685 q_687 q_12 q_68 q_688) rfl rfl rfl (by decide +kernel) ⟨Nat.le_of_ble_eq_true rfl, Nat.le_of_ble_eq_true rfl⟩) (preV_of (ci := 3) (q := (RX3, TX3, 12)) hK hP hD [0, 1, 2, 3, 4, 5, 6, 7, 8, 9, 10, 11, 12, 13, 14, 15, 16, 17, 18, 19, 20, 21, 22, 23] rfl rfl (by decide) 0 rfl rfl) rfl rfl hl.1 rfl (lv_room (Nat.le_of_ble_eq_true rfl)) dX3_cycle_96 ⟨Nat.zero_le _, Nat.zero_le _⟩) hP hD hS hA [0, 1, 2, 3, 4, 5, 6, 7, 8, 9, 10, 11, 12, 13, 14, 15, 16, 17, 18, 19, 20, 21, 22, 23] [.inl 0, .inl 1, .inl 2, .inl 3, .inl 4, .inl 5, .inl 6, .inl 7, .inl 8, .inl 9, .inl 10, .inl 11, .inl 12, .inl 13, .inl 14, .inl 15, .inl 16, .inl 17, .inl 18, .inl 19, .inl 20, .inl 21, .inl 22, .inl 23] rfl (by decide) (fun _ => rfl) (fun _ => rfl) (fun u8 H locs h hP hD hS => ?_)
    refine lv_goto (tgt := 123) hx hb dX3_cycle_99 (by decide) ?_
    exact W.vret hx hb hr (fun t ht hW => ⟨⟨u8, rfl, h, by rw [ht]; exact hP, va_K.moved hW.alike hK, hD⟩, hS.F ht⟩) hS.2.2 dX3_cycle_123
  have h := h.2
  by_cases c6_2 : (u5.1 5) = 2
  · have h := h.1 c6_2
    refine sw_in c6_2 ?_
    refine lv_tableIn (tgt := 102) hx hb dX3_cycle_53 (by decide) (by decide) rfl (by decide) ?_
    refine lv_aload_n hx hb dX3_cycle_102 rfl (lv_at hl 0 rfl) ?_
    refine cl_v (ws' := fun u9 => (wX3 cI cZ a u9)) (va_runV (As := []) (rest := []) ⟨hx, hb, hml, hown, hts⟩ (c_X3_chaining l D cI cZ a _ u5 _ h ) (cwV 0 hts (gV q_711 q_713 q_15 q_68 q_714) rfl rfl rfl (by decide +kernel) ⟨Nat.le_of_ble_eq_true rfl, Nat.le_of_ble_eq_true rfl⟩) (preV_of (ci := 3) (q := (RX3, TX3, 12)) hK hP hD [0, 1, 2, 3, 4, 5, 6, 7, 8, 9, 10, 11, 12, 13, 14, 15, 16, 17, 18, 19, 20, 21, 22, 23] rfl rfl (by decide) 0 rfl rfl) rfl rfl hl.1 rfl (lv_room (Nat.le_of_ble_eq_true rfl)) dX3_cycle_103 ⟨Nat.zero_le _, Nat.zero_le _⟩) hP hD hS hA [0, 1, 2, 3, 4, 5, 6, 7, 8, 9, 10, 11, 12, 13, 14, 15, 16, 17, 18, 19, 20, 21, 22, 23] [.inl 0, .inl 1, .inl 2, .inl 3, .inl 4, .inl 5, .inl 6, .inl 7, .inl 8, .inl 9, .inl 10, .inl 11, .inl 12, .inl 13, .inl 14, .inl 15, .inl 16, .inl 17, .inl 18, .inl 19, .inl 20, .inl 21, .inl 22, .inl 23] rfl (by decide) (fun _ => rfl) (fun _ => rfl) (fun u9 H locs h hP hD hS => ?_)
    refine lv_goto (tgt := 123) hx hb dX3_cycle_106 (by decide) ?_
    exact W.vret hx hb hr (fun t ht hW => ⟨⟨u9, rfl, h, by rw [ht]; exact hP, va_K.moved hW.alike hK, hD⟩, hS.F ht⟩) hS.2.2 dX3_cycle_123
  have h := h.2
  by_cases c6_3 : (u5.1 5) = 3
  · have h := h.1 c6_3
    refine sw_in c6_3 ?_
    refine lv_tableIn (tgt := 109) hx hb dX3_cycle_53 (by decide) (by decide) rfl (by decide) ?_
    refine lv_aload_n hx hb dX3_cycle_109 rfl (lv_at hl 0 rfl) ?_
    refine cl_v (ws' := fun u10 => (wX3 cI cZ a u10)) (va_runV (As := []) (rest := []) ⟨hx, hb, hml, hown, hts⟩ (c_X3_unstacking l D cI cZ a _ u5 _ h ) (cwV 0 hts (gV q_715 q_717 q_16 q_68 q_718) rfl rfl rfl (by decide +kernel) ⟨Nat.le_of_ble_eq_true rfl, Nat.le_of_ble_eq_true rfl⟩) (preTV_of (ci := 3) (q := (RX3, TX3, 12)) hF hS hA hK hP hD [0, 1, 2, 3, 4, 5, 6, 7, 8, 9, 10, 11, 12, 13, 14, 15, 16, 17, 18, 19, 20, 21, 22, 23] rfl rfl (by decide) 0 rfl rfl) rfl rfl hl.1 rfl (lv_room (Nat.le_of_ble_eq_true rfl)) dX3_cycle_110 ⟨Nat.zero_le _, Nat.zero_le _⟩) hP hD hS hA [0, 1, 2, 3, 4, 5, 6, 7, 8, 9, 10, 11, 12, 13, 14, 15, 16, 17, 18, 19, 20, 21, 22, 23] [.inl 0, .inl 1, .inl 2, .inl 3, .inl 4, .inl 5, .inl 6, .inl 7, .inl 8, .inl 9, .inl 10, .inl 11, .inl 12, .inl 13, .inl 14, .inl 15, .inl 16, .inl 17, .inl 18, .inl 19, .inl 20, .inl 21, .inl 22, .inl 23] rfl (by decide) (fun _ => rfl) (fun _ => rfl) (fun u10 H locs h hP hD hS => ?_)
    refine lv_goto (tgt := 123) hx hb dX3_cycle_113 (by decide) ?_
    exact W.vret hx hb hr (fun t ht hW => ⟨⟨u10, rfl, h, by rw [ht]; exact hP, va_K.moved hW.alike hK, hD⟩, hS.F ht⟩) hS.2.2 dX3_cycle_123
  have h := h.2
  by_cases c6_4 : (u5.1 5) = 4
  · have h := h.1 c6_4
    refine sw_in c6_4 ?_
    refine lv_tableIn (tgt := 116) hx hb dX3_cycle_53 (by decide) (by decide) rfl (by decide) ?_
    refine lv_aload_n hx hb dX3_cycle_116 rfl (lv_at hl 0 rfl) ?_
    refine cl_v (ws' := fun u11 => (wX3 cI cZ a u11)) (va_runV (As := []) (rest := []) ⟨hx, hb, hml, hown, hts⟩ (c_X3_saving l D cI cZ a _ u5 _ h ) (cwV 0 hts (gV q_751 q_753 q_21 q_68 q_754) rfl rfl rfl (by decide +kernel) ⟨Nat.le_of_ble_eq_true rfl, Nat.le_of_ble_eq_true rfl⟩) (preV_of (ci := 3) (q := (RX3, TX3, 12)) hK hP hD [0, 1, 2, 3, 4, 5, 6, 7, 8, 9, 10, 11, 12, 13, 14, 15, 16, 17, 18, 19, 20, 21, 22, 23] rfl rfl (by decide) 0 rfl rfl) rfl rfl hl.1 rfl (lv_room (Nat.le_of_ble_eq_true rfl)) dX3_cycle_117 ⟨Nat.zero_le _, Nat.zero_le _⟩) hP hD hS hA [0, 1, 2, 3, 4, 5, 6, 7, 8, 9, 10, 11, 12, 13, 14, 15, 16, 17, 18, 19, 20, 21, 22, 23] [.inl 0, .inl 1, .inl 2, .inl 3, .inl 4, .inl 5, .inl 6, .inl 7, .inl 8, .inl 9, .inl 10, .inl 11, .inl 12, .inl 13, .inl 14, .inl 15, .inl 16, .inl 17, .inl 18, .inl 19, .inl 20, .inl 21, .inl 22, .inl 23] rfl (by decide) (fun _ => rfl) (fun _ => rfl) (fun u11 H locs h hP hD hS => ?_)
    refine lv_goto (tgt := 123) hx hb dX3_cycle_120 (by decide) ?_
    exact W.vret hx hb hr (fun t ht hW => ⟨⟨u11, rfl, h, by rw [ht]; exact hP, va_K.moved hW.alike hK, hD⟩, hS.F ht⟩) hS.2.2 dX3_cycle_123
  have h := h.2
  have h := h c6_0 c6_1 c6_2 c6_3 c6_4
  refine lv_tableOut (tgt := 123) hx hb dX3_cycle_53 (sw_out (lo := 0) (n := 5) (by decide) (by decide) (fun k hk => ?_)) (by decide) ?_
  · rcases (show k = 0 ∨ k = 1 ∨ k = 2 ∨ k = 3 ∨ k = 4 by omega) with rfl | rfl | rfl | rfl | rfl
    · exact c6_0
    · exact c6_1
    · exact c6_2
    · exact c6_3
    · exact c6_4
  exact W.vret hx hb hr (fun t ht hW => ⟨⟨u5, rfl, h, by rw [ht]; exact hP, va_K.moved hW.alike hK, hD⟩, hS.F ht⟩) hS.2.2 dX3_cycle_123
/-! X3_cyclesTill -/
abbrev rmX3_cyclesTill : Room := { frames := 6, cells := 0, slots := 0, locals := 144 }
set_option maxHeartbeats 4000000 in
set_option maxRecDepth 100000 in
theorem c_X3_cyclesTill (l : Launch) (D : va_G) (cI cZ : ClassId) (a : Nat → Nat) (sz : Nat) (S : (Nat → Int32) × Ob × Ob × Ob × Ob × (Nat → Int32)) (p0 : Int32) (Q : Int32 → ((Nat → Int32) × Ob × Ob × Ob × Ob × (Nat → Int32)) → Prop) (h : wp_X3_cyclesTill S p0 Q) : Met l yX3_cyclesTill (wsm yX3_cyclesTill cX3_cyclesTill 3 (some .int)) rmX3_cyclesTill (va_Pc [.ref (a 0), .int p0] (preT D cI cZ sz (wX3 cI cZ a S))) (va_Qi Q (fun u => atW D cI cZ (va_A (wX3 cI cZ a S) sz) (wX3 cI cZ a u)) (va_A (wX3 cI cZ a S) sz)) 0 0 (va_A (wX3 cI cZ a S) sz) := by
  refine Met.ofW (cc := cX3_cyclesTill) (maxL := 3) (ret := (some .int)) (by decide) rfl ?_
  intro p e s m args below meth c s₁ B hml hv
  obtain ⟨rfl, ⟨hsz, hP, hK, hD0⟩, hF⟩ := hv
  have hx := B.exec
  have hb := B.bytes
  have hr := B.returns
  have hts0 := atoms_spec (ws := wsm yX3_cyclesTill cX3_cyclesTill 3 (some .int)) B.pre
  have hts : ∀ w ∈ lw_all, w.before _ s = true := fun w h => hts0 w (List.mem_cons_of_mem _ h)
  have hown : s.vm.findClass RX3 = some m.cls := findClass_of_methodNamed B.named
  have hlocks := B.notSynchronized
  subst hsz
  have hD := hD0.self (sz := s.heap.size)
  generalize hAe : va_A (wX3 cI cZ a S) s.heap.size = A at hD hF ⊢
  have hA : ∀ q : Nat, s.heap.size ≤ q → A q := fun q h => by rw [← hAe]; exact Or.inr h
  have hS : va_S A s.heap s.heap [] := va_S.rf
  have hml2 := hml
  have L2 : ∀ (n : Nat), ∀ (y1 : Int32) (y2 : Int32) (T : (Nat → Int32) × Ob × Ob × Ob × Ob × (Nat → Int32)) (H : Heap) (locs : List Loc) (ls : Array Slot), va_P D vwCl (wX3 cI cZ a T) H → va_D A (wX3 cI cZ a T) → va_S A s.heap H locs → lv_has ls 3 [(0, .ref (a 0)), (1, .int y1), (2, .int y2)] → wp_X3_cyclesTill_L2 Q n y1 y2 T → W p l e rmX3_cyclesTill s m ([.ref (a 0), .int p0] : List Value).toArray below meth c H locs 0 0 (MQ below (va_Qi Q (fun u => atW D cI cZ A (wX3 cI cZ a u)) A) ([.ref (a 0), .int p0] : List Value).toArray s 0 0 A) (F0 m 2 ls []) := by
    intro n
    induction n with
    | zero =>
      intro y1 y2 T H locs ls hP hD hS hl h
      exact False.elim h
    | succ n ih =>
      intro y1 y2 T H locs ls hP hD hS hl h
      unfold wp_X3_cyclesTill_L2 at h
      refine lv_iload_n hx hb dX3_cyclesTill_2 rfl (lv_at hl 2 rfl) ?_
      refine lv_sipush (v := 300) hx hb dX3_cyclesTill_3 (by decide) ?_
      refine lv_icmp_gt (tgt := 37) hx hb dX3_cyclesTill_6 (by decide) (fun c1 => ?_) (fun c1 => ?_)
      · have h := h.1 c1
        refine lv_iconst (v := -1) hx hb dX3_cyclesTill_37 (by decide) ?_
        exact W.iret (v := (-1)) hx hb hr (fun t ht hW => ⟨⟨(-1), T, rfl, h, by rw [ht]; exact hP, va_K.moved hW.alike hK, hD⟩, hS.F ht⟩) hS.2.2 dX3_cyclesTill_38
      · have h := h.2 c1
        refine lv_aload_n hx hb dX3_cyclesTill_9 rfl (lv_at hl 0 rfl) ?_
        refine va_get (D := D) (ci := 3) (v := .int (T.1 5)) (C := RX3) (T := TX3) (N := 12) hx hb hts inX3 hown hK hP 0 rfl rfl 5 (by decide) (hts _ q_358) (fun _ h9 => h9) rfl dX3_cyclesTill_10 ?_
        refine lv_iconst (v := 5) hx hb dX3_cyclesTill_13 (by decide) ?_
        refine lv_icmp_eq (tgt := 37) hx hb dX3_cyclesTill_14 (by decide) (fun c2 => ?_) (fun c2 => ?_)
        · have h := h.1 c2
          refine lv_iconst (v := -1) hx hb dX3_cyclesTill_37 (by decide) ?_
          exact W.iret (v := (-1)) hx hb hr (fun t ht hW => ⟨⟨(-1), T, rfl, h, by rw [ht]; exact hP, va_K.moved hW.alike hK, hD⟩, hS.F ht⟩) hS.2.2 dX3_cyclesTill_38
        · have h := h.2 c2
          refine lv_aload_n hx hb dX3_cyclesTill_17 rfl (lv_at hl 0 rfl) ?_
          refine cl_v (ws' := fun u3 => (wX3 cI cZ a u3)) (va_runV (As := []) (rest := []) ⟨hx, hb, hml, hown, hts⟩ (c_X3_cycle l D cI cZ a _ T _ h ) (cwV 0 hts (gV q_767 q_503 q_504 q_68 q_505) rfl rfl rfl (by decide +kernel) ⟨Nat.le_of_ble_eq_true rfl, Nat.le_of_ble_eq_true rfl⟩) (preTV_of (ci := 3) (q := (RX3, TX3, 12)) hF hS hA hK hP hD [0, 1, 2, 3, 4, 5, 6, 7, 8, 9, 10, 11, 12, 13, 14, 15, 16, 17, 18, 19, 20, 21, 22, 23] rfl rfl (by decide) 0 rfl rfl) rfl rfl hl.1 rfl (lv_room (Nat.le_of_ble_eq_true rfl)) dX3_cyclesTill_18 ⟨Nat.zero_le _, Nat.zero_le _⟩) hP hD hS hA [0, 1, 2, 3, 4, 5, 6, 7, 8, 9, 10, 11, 12, 13, 14, 15, 16, 17, 18, 19, 20, 21, 22, 23] [.inl 0, .inl 1, .inl 2, .inl 3, .inl 4, .inl 5, .inl 6, .inl 7, .inl 8, .inl 9, .inl 10, .inl 11, .inl 12, .inl 13, .inl 14, .inl 15, .inl 16, .inl 17, .inl 18, .inl 19, .inl 20, .inl 21, .inl 22, .inl 23] rfl (by decide) (fun _ => rfl) (fun _ => rfl) (fun u3 H locs h hP hD hS => ?_)
          refine lv_aload_n hx hb dX3_cyclesTill_21 rfl (lv_at hl 0 rfl) ?_
          refine va_get (D := D) (ci := 3) (v := .int (u3.1 7)) (C := RX3) (T := TX3) (N := 12) hx hb hts inX3 hown hK hP 0 rfl rfl 7 (by decide) (hts _ q_362) (fun _ h9 => h9) rfl dX3_cyclesTill_22 ?_
          refine lv_iload_n hx hb dX3_cyclesTill_25 rfl (lv_at hl 1 rfl) ?_
          refine lv_icmp_ne (tgt := 31) hx hb dX3_cyclesTill_26 (by decide) (fun c4 => ?_) (fun c4 => ?_)
          · have h := h.1 c4
            obtain ⟨x5, ex5⟩ : ∃ y : Int32, y = (y2 + 1) := ⟨_, rfl⟩
            have h := h x5 ex5
            refine lv_iinc (v := x5) (lv' := [(2, .int x5), (0, .ref (a 0)), (1, .int y1)]) hx hb dX3_cyclesTill_31 hl (k := 2) rfl (by rw [ex5]; rfl) (by decide) rfl (fun ls hl => ?_)
            refine lv_goto (tgt := 2) hx hb dX3_cyclesTill_34 (by decide) ?_
            exact ih y1 x5 u3 _ _ _ hP hD hS (lv_sub hl [1, 2, 0] rfl) h
          · have h := h.2 c4
            refine lv_iload_n hx hb dX3_cyclesTill_29 rfl (lv_at hl 2 rfl) ?_
            exact W.iret (v := y2) hx hb hr (fun t ht hW => ⟨⟨y2, u3, rfl, h, by rw [ht]; exact hP, va_K.moved hW.alike hK, hD⟩, hS.F ht⟩) hS.2.2 dX3_cyclesTill_30
  have hl := lv_entry ([.ref (a 0), .int p0]) (n := 3) (Nat.le_of_ble_eq_true rfl)
  rw [lg_entry_eq]
  generalize (lg_sl ([.ref (a 0), .int p0]) ++ List.replicate (3 - (lg_sl ([.ref (a 0), .int p0])).length) Slot.unset).toArray = ls at hl ⊢
  have hl : lv_has ls 3 [(0, .ref (a 0)), (1, .int p0)] := hl
  unfold wp_X3_cyclesTill at h
  refine lv_iconst (v := 1) hx hb dX3_cyclesTill_0 (by decide) ?_
  refine lv_istore_n (lv' := [(2, .int 1), (0, .ref (a 0)), (1, .int p0)]) hx hb dX3_cyclesTill_1 rfl hl (by decide) rfl (fun ls hl => ?_)
  exact L2 2000 p0 1 S _ _ _ hP hD hS (lv_sub hl [1, 2, 0] rfl) h
/-! X3_firstToBegin -/
abbrev rmX3_firstToBegin : Room := { frames := 6, cells := 0, slots := 0, locals := 144 }
set_option maxHeartbeats 4000000 in
set_option maxRecDepth 100000 in
theorem c_X3_firstToBegin (l : Launch) (D : va_G) (cI cZ : ClassId) (a : Nat → Nat) (sz : Nat) (S : (Nat → Int32) × Ob × Ob × Ob × Ob × (Nat → Int32)) (p0 : Int32) (Q : Int32 → ((Nat → Int32) × Ob × Ob × Ob × Ob × (Nat → Int32)) → Prop) (h : wp_X3_firstToBegin S p0 Q) : Met l yX3_firstToBegin (wsm yX3_firstToBegin cX3_firstToBegin 3 (some .int)) rmX3_firstToBegin (va_Pc [.ref (a 0), .int p0] (preT D cI cZ sz (wX3 cI cZ a S))) (va_Qi Q (fun u => atW D cI cZ (va_A (wX3 cI cZ a S) sz) (wX3 cI cZ a u)) (va_A (wX3 cI cZ a S) sz)) 0 0 (va_A (wX3 cI cZ a S) sz) := by
  refine Met.ofW (cc := cX3_firstToBegin) (maxL := 3) (ret := (some .int)) (by decide) rfl ?_
  intro p e s m args below meth c s₁ B hml hv
  obtain ⟨rfl, ⟨hsz, hP, hK, hD0⟩, hF⟩ := hv
  have hx := B.exec
  have hb := B.bytes
  have hr := B.returns
  have hts0 := atoms_spec (ws := wsm yX3_firstToBegin cX3_firstToBegin 3 (some .int)) B.pre
  have hts : ∀ w ∈ lw_all, w.before _ s = true := fun w h => hts0 w (List.mem_cons_of_mem _ h)
  have hown : s.vm.findClass RX3 = some m.cls := findClass_of_methodNamed B.named
  have hlocks := B.notSynchronized
  subst hsz
  have hD := hD0.self (sz := s.heap.size)
  generalize hAe : va_A (wX3 cI cZ a S) s.heap.size = A at hD hF ⊢
  have hA : ∀ q : Nat, s.heap.size ≤ q → A q := fun q h => by rw [← hAe]; exact Or.inr h
  have hS : va_S A s.heap s.heap [] := va_S.rf
  have hml2 := hml
  have L2 : ∀ (n : Nat), ∀ (y1 : Int32) (y2 : Int32) (T : (Nat → Int32) × Ob × Ob × Ob × Ob × (Nat → Int32)) (H : Heap) (locs : List Loc) (ls : Array Slot), va_P D vwCl (wX3 cI cZ a T) H → va_D A (wX3 cI cZ a T) → va_S A s.heap H locs → lv_has ls 3 [(0, .ref (a 0)), (1, .int y1), (2, .int y2)] → wp_X3_firstToBegin_L2 Q n y1 y2 T → W p l e rmX3_firstToBegin s m ([.ref (a 0), .int p0] : List Value).toArray below meth c H locs 0 0 (MQ below (va_Qi Q (fun u => atW D cI cZ A (wX3 cI cZ a u)) A) ([.ref (a 0), .int p0] : List Value).toArray s 0 0 A) (F0 m 2 ls []) := by
    intro n
    induction n with
    | zero =>
      intro y1 y2 T H locs ls hP hD hS hl h
      exact False.elim h
    | succ n ih =>
      intro y1 y2 T H locs ls hP hD hS hl h
      unfold wp_X3_firstToBegin_L2 at h
      refine lv_iload_n hx hb dX3_firstToBegin_2 rfl (lv_at hl 2 rfl) ?_
      refine lv_iload_n hx hb dX3_firstToBegin_3 rfl (lv_at hl 1 rfl) ?_
      refine lv_icmp_ge (tgt := 38) hx hb dX3_firstToBegin_4 (by decide) (fun c1 => ?_) (fun c1 => ?_)
      · have h := h.1 c1
        refine lv_iconst (v := -1) hx hb dX3_firstToBegin_38 (by decide) ?_
        exact W.iret (v := (-1)) hx hb hr (fun t ht hW => ⟨⟨(-1), T, rfl, h, by rw [ht]; exact hP, va_K.moved hW.alike hK, hD⟩, hS.F ht⟩) hS.2.2 dX3_firstToBegin_39
      · have h := h.2 c1
        refine lv_aload_n hx hb dX3_firstToBegin_7 rfl (lv_at hl 0 rfl) ?_
        refine va_get (D := D) (ci := 3) (v := .int (T.1 5)) (C := RX3) (T := TX3) (N := 12) hx hb hts inX3 hown hK hP 0 rfl rfl 5 (by decide) (hts _ q_358) (fun _ h9 => h9) rfl dX3_firstToBegin_8 ?_
        refine lv_iconst (v := 5) hx hb dX3_firstToBegin_11 (by decide) ?_
        refine lv_icmp_eq (tgt := 38) hx hb dX3_firstToBegin_12 (by decide) (fun c2 => ?_) (fun c2 => ?_)
        · have h := h.1 c2
          refine lv_iconst (v := -1) hx hb dX3_firstToBegin_38 (by decide) ?_
          exact W.iret (v := (-1)) hx hb hr (fun t ht hW => ⟨⟨(-1), T, rfl, h, by rw [ht]; exact hP, va_K.moved hW.alike hK, hD⟩, hS.F ht⟩) hS.2.2 dX3_firstToBegin_39
        · have h := h.2 c2
          refine lv_aload_n hx hb dX3_firstToBegin_15 rfl (lv_at hl 0 rfl) ?_
          refine cl_v (ws' := fun u3 => (wX3 cI cZ a u3)) (va_runV (As := []) (rest := []) ⟨hx, hb, hml, hown, hts⟩ (c_X3_cycle l D cI cZ a _ T _ h ) (cwV 0 hts (gV q_767 q_503 q_504 q_68 q_505) rfl rfl rfl (by decide +kernel) ⟨Nat.le_of_ble_eq_true rfl, Nat.le_of_ble_eq_true rfl⟩) (preTV_of (ci := 3) (q := (RX3, TX3, 12)) hF hS hA hK hP hD [0, 1, 2, 3, 4, 5, 6, 7, 8, 9, 10, 11, 12, 13, 14, 15, 16, 17, 18, 19, 20, 21, 22, 23] rfl rfl (by decide) 0 rfl rfl) rfl rfl hl.1 rfl (lv_room (Nat.le_of_ble_eq_true rfl)) dX3_firstToBegin_16 ⟨Nat.zero_le _, Nat.zero_le _⟩) hP hD hS hA [0, 1, 2, 3, 4, 5, 6, 7, 8, 9, 10, 11, 12, 13, 14, 15, 16, 17, 18, 19, 20, 21, 22, 23] [.inl 0, .inl 1, .inl 2, .inl 3, .inl 4, .inl 5, .inl 6, .inl 7, .inl 8, .inl 9, .inl 10, .inl 11, .inl 12, .inl 13, .inl 14, .inl 15, .inl 16, .inl 17, .inl 18, .inl 19, .inl 20, .inl 21, .inl 22, .inl 23] rfl (by decide) (fun _ => rfl) (fun _ => rfl) (fun u3 H locs h hP hD hS => ?_)
          refine lv_aload_n hx hb dX3_firstToBegin_19 rfl (lv_at hl 0 rfl) ?_
          refine va_get (D := D) (ci := 3) (v := .int (u3.1 7)) (C := RX3) (T := TX3) (N := 12) hx hb hts inX3 hown hK hP 0 rfl rfl 7 (by decide) (hts _ q_362) (fun _ h9 => h9) rfl dX3_firstToBegin_20 ?_
          refine lv_iconst (v := -1) hx hb dX3_firstToBegin_23 (by decide) ?_
          refine lv_icmp_eq (tgt := 32) hx hb dX3_firstToBegin_24 (by decide) (fun c4 => ?_) (fun c4 => ?_)
          · have h := h.1 c4
            obtain ⟨x5, ex5⟩ : ∃ y : Int32, y = (y2 + 1) := ⟨_, rfl⟩
            have h := h x5 ex5
            refine lv_iinc (v := x5) (lv' := [(2, .int x5), (0, .ref (a 0)), (1, .int y1)]) hx hb dX3_firstToBegin_32 hl (k := 2) rfl (by rw [ex5]; rfl) (by decide) rfl (fun ls hl => ?_)
            refine lv_goto (tgt := 2) hx hb dX3_firstToBegin_35 (by decide) ?_
            exact ih y1 x5 u3 _ _ _ hP hD hS (lv_sub hl [1, 2, 0] rfl) h
          · have h := h.2 c4
            refine lv_aload_n hx hb dX3_firstToBegin_27 rfl (lv_at hl 0 rfl) ?_
            refine va_get (D := D) (ci := 3) (v := .int (u3.1 7)) (C := RX3) (T := TX3) (N := 12) hx hb hts inX3 hown hK hP 0 rfl rfl 7 (by decide) (hts _ q_362) (fun _ h9 => h9) rfl dX3_firstToBegin_28 ?_
            exact W.iret (v := (u3.1 7)) hx hb hr (fun t ht hW => ⟨⟨(u3.1 7), u3, rfl, h, by rw [ht]; exact hP, va_K.moved hW.alike hK, hD⟩, hS.F ht⟩) hS.2.2 dX3_firstToBegin_31
  have hl := lv_entry ([.ref (a 0), .int p0]) (n := 3) (Nat.le_of_ble_eq_true rfl)
  rw [lg_entry_eq]
  generalize (lg_sl ([.ref (a 0), .int p0]) ++ List.replicate (3 - (lg_sl ([.ref (a 0), .int p0])).length) Slot.unset).toArray = ls at hl ⊢
  have hl : lv_has ls 3 [(0, .ref (a 0)), (1, .int p0)] := hl
  unfold wp_X3_firstToBegin at h
  refine lv_iconst (v := 0) hx hb dX3_firstToBegin_0 (by decide) ?_
  refine lv_istore_n (lv' := [(2, .int 0), (0, .ref (a 0)), (1, .int p0)]) hx hb dX3_firstToBegin_1 rfl hl (by decide) rfl (fun ls hl => ?_)
  exact L2 2000 p0 0 S _ _ _ hP hD hS (lv_sub hl [1, 2, 0] rfl) h
