/-! X1_restart -/
abbrev rmX1_restart : Room := { frames := 1, cells := 0, slots := 0, locals := 23 }
set_option maxHeartbeats 4000000 in
set_option maxRecDepth 100000 in
theorem c_X1_restart (l : Launch) (D : va_G) (cI cZ : ClassId) (a : Nat → Nat) (sz : Nat) (S : Ob) (Q : Ob → Prop) (h : wp_X1_restart S Q) : Met l yX1_restart (wsm yX1_restart cX1_restart 1 none) rmX1_restart (va_Pc [.ref (a 0)] (preW D cI cZ sz (wX1 cI cZ a S))) (va_Qv Q (fun u => atW D cI cZ (va_A (wX1 cI cZ a S) sz) (wX1 cI cZ a u)) (va_A (wX1 cI cZ a S) sz)) 0 0 (va_A (wX1 cI cZ a S) sz) := by
  refine Met.ofW (cc := cX1_restart) (maxL := 1) (ret := none) (by decide) rfl ?_
  intro p e s m args below meth c s₁ B hml hv
  obtain ⟨rfl, hsz, hP, hK, hD0⟩ := hv
  have hx := B.exec
  have hb := B.bytes
  have hr := B.returns
  have hts0 := atoms_spec (ws := wsm yX1_restart cX1_restart 1 none) B.pre
  have hts : ∀ w ∈ lw_all, w.before _ s = true := fun w h => hts0 w (List.mem_cons_of_mem _ h)
  have hown : s.vm.findClass RX1 = some m.cls := findClass_of_methodNamed B.named
  have hlocks := B.notSynchronized
  subst hsz
  have hD := hD0.self (sz := s.heap.size)
  generalize hAe : va_A (wX1 cI cZ a S) s.heap.size = A at hD ⊢
  have hA : ∀ q : Nat, s.heap.size ≤ q → A q := fun q h => by rw [← hAe]; exact Or.inr h
  have hS : va_S A s.heap s.heap [] := va_S.rf
  have hml2 := hml
  have hl := lv_entry ([.ref (a 0)]) (n := 1) (Nat.le_of_ble_eq_true rfl)
  rw [lg_entry_eq]
  generalize (lg_sl ([.ref (a 0)]) ++ List.replicate (1 - (lg_sl ([.ref (a 0)])).length) Slot.unset).toArray = ls at hl ⊢
  have hl : lv_has ls 1 [(0, .ref (a 0))] := hl
  unfold wp_X1_restart at h
  refine lv_aload_n hx hb dX1_restart_0 rfl (lv_at hl 0 rfl) ?_
  refine va_get (D := D) (ci := 1) (v := .ref (a 1)) (C := RX1) (T := TX1) (N := 14) hx hb hts inX1 hown hK hP 0 rfl rfl 1 (by decide) (hts _ q_284) (fun _ h9 => h9) rfl dX1_restart_1 ?_
  refine lv_iconst (v := 0) hx hb dX1_restart_4 (by decide) ?_
  refine cl_v (ws' := fun u1 => (wX1 cI cZ a (sa S 1 u1))) (va_runS (As := [.ref (a 1), .int 0]) (rest := []) ⟨hx, hb, hml, hown, hts⟩ (c_J7_fill_53178 l D cI cZ (fun k => a (k + 1)) 8 _ (S.2 1) 0 _ h ) (va_cwS 2 hts (gS q_792 q_105 q_70 q_106) rfl rfl rfl (by decide +kernel) ⟨Nat.le_of_ble_eq_true rfl, Nat.le_of_ble_eq_true rfl⟩) (preS_of hK hP hD [1] rfl rfl (by decide)) rfl rfl hl.1 rfl (lv_room (Nat.le_of_ble_eq_true rfl)) dX1_restart_5 ⟨Nat.zero_le _, Nat.zero_le _⟩) hP hD hS hA [1] [.inr 0, .inl 0, .inr 2, .inr 3, .inr 4] rfl (by decide) (fun _ => rfl) (fun _ => rfl) (fun u1 H locs h hP hD hS => ?_)
  refine lv_aload_n hx hb dX1_restart_8 rfl (lv_at hl 0 rfl) ?_
  refine va_get (D := D) (ci := 1) (v := .ref (a 2)) (C := RX1) (T := TX1) (N := 14) hx hb hts inX1 hown hK hP 0 rfl rfl 2 (by decide) (hts _ q_287) (fun _ h9 => h9) rfl dX1_restart_9 ?_
  refine lv_iconst (v := 0) hx hb dX1_restart_12 (by decide) ?_
  refine cl_v (ws' := fun u2 => (wX1 cI cZ a (sa (sa S 1 u1) 2 u2))) (va_runS (As := [.ref (a 2), .int 0]) (rest := []) ⟨hx, hb, hml, hown, hts⟩ (c_J7_fill_53178 l D cI cZ (fun k => a (k + 2)) 4 _ (S.2 2) 0 _ h ) (va_cwS 2 hts (gS q_792 q_105 q_70 q_106) rfl rfl rfl (by decide +kernel) ⟨Nat.le_of_ble_eq_true rfl, Nat.le_of_ble_eq_true rfl⟩) (preS_of hK hP hD [2] rfl rfl (by decide)) rfl rfl hl.1 rfl (lv_room (Nat.le_of_ble_eq_true rfl)) dX1_restart_13 ⟨Nat.zero_le _, Nat.zero_le _⟩) hP hD hS hA [2] [.inr 0, .inr 1, .inl 0, .inr 3, .inr 4] rfl (by decide) (fun _ => rfl) (fun _ => rfl) (fun u2 H locs h hP hD hS => ?_)
  refine lv_aload_n hx hb dX1_restart_16 rfl (lv_at hl 0 rfl) ?_
  refine va_get (D := D) (ci := 1) (v := .ref (a 3)) (C := RX1) (T := TX1) (N := 14) hx hb hts inX1 hown hK hP 0 rfl rfl 3 (by decide) (hts _ q_289) (fun _ h9 => h9) rfl dX1_restart_17 ?_
  refine lv_iconst (v := 0) hx hb dX1_restart_20 (by decide) ?_
  refine cl_v (ws' := fun u3 => (wX1 cI cZ a (sa (sa (sa S 1 u1) 2 u2) 3 u3))) (va_runS (As := [.ref (a 3), .int 0]) (rest := []) ⟨hx, hb, hml, hown, hts⟩ (c_J7_fill_53178 l D cI cZ (fun k => a (k + 3)) 16 _ (S.2 3) 0 _ h ) (va_cwS 2 hts (gS q_792 q_105 q_70 q_106) rfl rfl rfl (by decide +kernel) ⟨Nat.le_of_ble_eq_true rfl, Nat.le_of_ble_eq_true rfl⟩) (preS_of hK hP hD [3] rfl rfl (by decide)) rfl rfl hl.1 rfl (lv_room (Nat.le_of_ble_eq_true rfl)) dX1_restart_21 ⟨Nat.zero_le _, Nat.zero_le _⟩) hP hD hS hA [3] [.inr 0, .inr 1, .inr 2, .inl 0, .inr 4] rfl (by decide) (fun _ => rfl) (fun _ => rfl) (fun u3 H locs h hP hD hS => ?_)
  refine lv_aload_n hx hb dX1_restart_24 rfl (lv_at hl 0 rfl) ?_
  refine va_get (D := D) (ci := 1) (v := .ref (a 4)) (C := RX1) (T := TX1) (N := 14) hx hb hts inX1 hown hK hP 0 rfl rfl 4 (by decide) (hts _ q_291) (fun _ h9 => h9) rfl dX1_restart_25 ?_
  refine lv_iconst (v := 0) hx hb dX1_restart_28 (by decide) ?_
  refine cl_v (ws' := fun u4 => (wX1 cI cZ a (sa (sa (sa (sa S 1 u1) 2 u2) 3 u3) 4 u4))) (va_runS (As := [.ref (a 4), .int 0]) (rest := []) ⟨hx, hb, hml, hown, hts⟩ (c_J7_fill_53178 l D cI cZ (fun k => a (k + 4)) 96 _ (S.2 4) 0 _ h ) (va_cwS 2 hts (gS q_792 q_105 q_70 q_106) rfl rfl rfl (by decide +kernel) ⟨Nat.le_of_ble_eq_true rfl, Nat.le_of_ble_eq_true rfl⟩) (preS_of hK hP hD [4] rfl rfl (by decide)) rfl rfl hl.1 rfl (lv_room (Nat.le_of_ble_eq_true rfl)) dX1_restart_29 ⟨Nat.zero_le _, Nat.zero_le _⟩) hP hD hS hA [4] [.inr 0, .inr 1, .inr 2, .inr 3, .inl 0] rfl (by decide) (fun _ => rfl) (fun _ => rfl) (fun u4 H locs h hP hD hS => ?_)
  refine lv_aload_n hx hb dX1_restart_32 rfl (lv_at hl 0 rfl) ?_
  refine lv_iconst (v := 0) hx hb dX1_restart_33 (by decide) ?_
  obtain ⟨T5, eT5⟩ : ∃ z : Ob, z = (si (sa (sa (sa (sa S 1 u1) 2 u2) 3 u3) 4 u4) 5 0) := ⟨_, rfl⟩
  refine pu_f (ci := 1) (v := .int 0) (ty := .int) (C := RX1) (T := TX1) (N := 14) hx hb hts inX1 tyX1 tyX1_ok nmX1 hown hK hP hD hS 0 rfl rfl 5 (by decide) (hts _ q_293) (fun _ h9 => h9) rfl rfl rfl rfl (Nat.le_of_ble_eq_true rfl) dX1_restart_34 (wX1 cI cZ a T5) (by subst eT5; rfl) (fun H locs hP hD hS => ?_)
  have h := h T5 eT5
  refine lv_aload_n hx hb dX1_restart_37 rfl (lv_at hl 0 rfl) ?_
  refine lv_iconst (v := 0) hx hb dX1_restart_38 (by decide) ?_
  obtain ⟨T6, eT6⟩ : ∃ z : Ob, z = (si T5 6 0) := ⟨_, rfl⟩
  refine pu_f (ci := 1) (v := .int 0) (ty := .int) (C := RX1) (T := TX1) (N := 14) hx hb hts inX1 tyX1 tyX1_ok nmX1 hown hK hP hD hS 0 rfl rfl 6 (by decide) (hts _ q_296) (fun _ h9 => h9) rfl rfl rfl rfl (Nat.le_of_ble_eq_true rfl) dX1_restart_39 (wX1 cI cZ a T6) (by subst eT6; rfl) (fun H locs hP hD hS => ?_)
  have h := h T6 eT6
  refine lv_aload_n hx hb dX1_restart_42 rfl (lv_at hl 0 rfl) ?_
  refine lv_iconst (v := 0) hx hb dX1_restart_43 (by decide) ?_
  obtain ⟨T7, eT7⟩ : ∃ z : Ob, z = (si T6 7 0) := ⟨_, rfl⟩
  refine pu_f (ci := 1) (v := .int 0) (ty := .int) (C := RX1) (T := TX1) (N := 14) hx hb hts inX1 tyX1 tyX1_ok nmX1 hown hK hP hD hS 0 rfl rfl 7 (by decide) (hts _ q_299) (fun _ h9 => h9) rfl rfl rfl rfl (Nat.le_of_ble_eq_true rfl) dX1_restart_44 (wX1 cI cZ a T7) (by subst eT7; rfl) (fun H locs hP hD hS => ?_)
  have h := h T7 eT7
  refine lv_aload_n hx hb dX1_restart_47 rfl (lv_at hl 0 rfl) ?_
  refine lv_iconst (v := 0) hx hb dX1_restart_48 (by decide) ?_
  obtain ⟨T8, eT8⟩ : ∃ z : Ob, z = (si T7 8 0) := ⟨_, rfl⟩
  refine pu_f (ci := 1) (v := .int 0) (ty := .int) (C := RX1) (T := TX1) (N := 14) hx hb hts inX1 tyX1 tyX1_ok nmX1 hown hK hP hD hS 0 rfl rfl 8 (by decide) (hts _ q_301) (fun _ h9 => h9) rfl rfl rfl rfl (Nat.le_of_ble_eq_true rfl) dX1_restart_49 (wX1 cI cZ a T8) (by subst eT8; rfl) (fun H locs hP hD hS => ?_)
  have h := h T8 eT8
  refine lv_aload_n hx hb dX1_restart_52 rfl (lv_at hl 0 rfl) ?_
  refine lv_iconst (v := 0) hx hb dX1_restart_53 (by decide) ?_
  obtain ⟨T9, eT9⟩ : ∃ z : Ob, z = (si T8 9 0) := ⟨_, rfl⟩
  refine pu_f (ci := 1) (v := .int 0) (ty := .int) (C := RX1) (T := TX1) (N := 14) hx hb hts inX1 tyX1 tyX1_ok nmX1 hown hK hP hD hS 0 rfl rfl 9 (by decide) (hts _ q_304) (fun _ h9 => h9) rfl rfl rfl rfl (Nat.le_of_ble_eq_true rfl) dX1_restart_54 (wX1 cI cZ a T9) (by subst eT9; rfl) (fun H locs hP hD hS => ?_)
  have h := h T9 eT9
  refine lv_aload_n hx hb dX1_restart_57 rfl (lv_at hl 0 rfl) ?_
  refine lv_iconst (v := 0) hx hb dX1_restart_58 (by decide) ?_
  obtain ⟨T10, eT10⟩ : ∃ z : Ob, z = (si T9 10 0) := ⟨_, rfl⟩
  refine pu_f (ci := 1) (v := .int 0) (ty := .int) (C := RX1) (T := TX1) (N := 14) hx hb hts inX1 tyX1 tyX1_ok nmX1 hown hK hP hD hS 0 rfl rfl 10 (by decide) (hts _ q_307) (fun _ h9 => h9) rfl rfl rfl rfl (Nat.le_of_ble_eq_true rfl) dX1_restart_59 (wX1 cI cZ a T10) (by subst eT10; rfl) (fun H locs hP hD hS => ?_)
  have h := h T10 eT10
  refine lv_aload_n hx hb dX1_restart_62 rfl (lv_at hl 0 rfl) ?_
  refine lv_iconst (v := -1) hx hb dX1_restart_63 (by decide) ?_
  obtain ⟨T11, eT11⟩ : ∃ z : Ob, z = (si T10 11 (-1)) := ⟨_, rfl⟩
  refine pu_f (ci := 1) (v := .int (-1)) (ty := .int) (C := RX1) (T := TX1) (N := 14) hx hb hts inX1 tyX1 tyX1_ok nmX1 hown hK hP hD hS 0 rfl rfl 11 (by decide) (hts _ q_310) (fun _ h9 => h9) rfl rfl rfl rfl (Nat.le_of_ble_eq_true rfl) dX1_restart_64 (wX1 cI cZ a T11) (by subst eT11; rfl) (fun H locs hP hD hS => ?_)
  have h := h T11 eT11
  refine lv_aload_n hx hb dX1_restart_67 rfl (lv_at hl 0 rfl) ?_
  refine lv_iconst (v := 0) hx hb dX1_restart_68 (by decide) ?_
  obtain ⟨T12, eT12⟩ : ∃ z : Ob, z = (si T11 12 0) := ⟨_, rfl⟩
  refine pu_f (ci := 1) (v := .int 0) (ty := .boolean) (C := RX1) (T := TX1) (N := 14) hx hb hts inX1 tyX1 tyX1_ok nmX1 hown hK hP hD hS 0 rfl rfl 12 (by decide) (hts _ q_313) (fun _ h9 => h9) rfl rfl (narB isB0) (fitB isB0) (Nat.le_of_ble_eq_true rfl) dX1_restart_69 (wX1 cI cZ a T12) (by subst eT12; rfl) (fun H locs hP hD hS => ?_)
  have h := h T12 eT12
  refine lv_aload_n hx hb dX1_restart_72 rfl (lv_at hl 0 rfl) ?_
  refine lv_iconst (v := 0) hx hb dX1_restart_73 (by decide) ?_
  obtain ⟨T13, eT13⟩ : ∃ z : Ob, z = (si T12 13 0) := ⟨_, rfl⟩
  refine pu_f (ci := 1) (v := .int 0) (ty := .boolean) (C := RX1) (T := TX1) (N := 14) hx hb hts inX1 tyX1 tyX1_ok nmX1 hown hK hP hD hS 0 rfl rfl 13 (by decide) (hts _ q_316) (fun _ h9 => h9) rfl rfl (narB isB0) (fitB isB0) (Nat.le_of_ble_eq_true rfl) dX1_restart_74 (wX1 cI cZ a T13) (by subst eT13; rfl) (fun H locs hP hD hS => ?_)
  have h := h T13 eT13
  exact W.vret hx hb hr (fun t ht hW => ⟨⟨T13, rfl, h, by rw [ht]; exact hP, va_K.moved hW.alike hK, hD⟩, hS.F ht⟩) hS.2.2 dX1_restart_77
/-! X1_copyFrom -/
abbrev rmX1_copyFrom : Room := { frames := 1, cells := 0, slots := 0, locals := 60 }
set_option maxHeartbeats 4000000 in
set_option maxRecDepth 100000 in
theorem c_X1_copyFrom (l : Launch) (D : va_G) (cI cZ : ClassId) (a : Nat → Nat) (b : Nat → Nat) (sz : Nat) (S : Ob × Ob) (Q : (Ob × Ob) → Prop) (h : wp_X1_copyFrom S Q) : Met l yX1_copyFrom (wsm yX1_copyFrom cX1_copyFrom 2 none) rmX1_copyFrom (va_Pc [.ref (a 0), .ref (b 0)] (preW D cI cZ sz (wX1X1 cI cZ a b S))) (va_Qv Q (fun u => atW D cI cZ (va_A (wX1X1 cI cZ a b S) sz) (wX1X1 cI cZ a b u)) (va_A (wX1X1 cI cZ a b S) sz)) 0 0 (va_A (wX1X1 cI cZ a b S) sz) := by
  refine Met.ofW (cc := cX1_copyFrom) (maxL := 2) (ret := none) (by decide) rfl ?_
  intro p e s m args below meth c s₁ B hml hv
  obtain ⟨rfl, hsz, hP, hK, hD0⟩ := hv
  have hx := B.exec
  have hb := B.bytes
  have hr := B.returns
  have hts0 := atoms_spec (ws := wsm yX1_copyFrom cX1_copyFrom 2 none) B.pre
  have hts : ∀ w ∈ lw_all, w.before _ s = true := fun w h => hts0 w (List.mem_cons_of_mem _ h)
  have hown : s.vm.findClass RX1 = some m.cls := findClass_of_methodNamed B.named
  have hlocks := B.notSynchronized
  subst hsz
  have hD := hD0.self (sz := s.heap.size)
  generalize hAe : va_A (wX1X1 cI cZ a b S) s.heap.size = A at hD ⊢
  have hA : ∀ q : Nat, s.heap.size ≤ q → A q := fun q h => by rw [← hAe]; exact Or.inr h
  have hS : va_S A s.heap s.heap [] := va_S.rf
  have hml2 := hml
  have hl := lv_entry ([.ref (a 0), .ref (b 0)]) (n := 2) (Nat.le_of_ble_eq_true rfl)
  rw [lg_entry_eq]
  generalize (lg_sl ([.ref (a 0), .ref (b 0)]) ++ List.replicate (2 - (lg_sl ([.ref (a 0), .ref (b 0)])).length) Slot.unset).toArray = ls at hl ⊢
  have hl : lv_has ls 2 [(0, .ref (a 0)), (1, .ref (b 0))] := hl
  unfold wp_X1_copyFrom at h
  refine lv_aload_n hx hb dX1_copyFrom_0 rfl (lv_at hl 1 rfl) ?_
  refine va_get (D := D) (ci := 1) (v := .ref (b 1)) (C := RX1) (T := TX1) (N := 14) hx hb hts inX1 hown hK hP 5 rfl rfl 1 (by decide) (hts _ q_284) (fun _ h9 => h9) rfl dX1_copyFrom_1 ?_
  refine lv_iconst (v := 0) hx hb dX1_copyFrom_4 (by decide) ?_
  refine lv_aload_n hx hb dX1_copyFrom_5 rfl (lv_at hl 0 rfl) ?_
  refine va_get (D := D) (ci := 1) (v := .ref (a 1)) (C := RX1) (T := TX1) (N := 14) hx hb hts inX1 hown hK hP 0 rfl rfl 1 (by decide) (hts _ q_284) (fun _ h9 => h9) rfl dX1_copyFrom_6 ?_
  refine lv_iconst (v := 0) hx hb dX1_copyFrom_9 (by decide) ?_
  refine lv_bipush (v := 8) hx hb dX1_copyFrom_10 (by decide) ?_
  obtain ⟨T1, eT1⟩ : ∃ z : Ob, z = (sa S.1 1 (va_cpy (S.2.2 1) (S.1.2 1) 0 0 8)) := ⟨_, rfl⟩
  refine ar_cp (f := (S.2.2 1)) (g := (S.1.2 1)) (n0 := 8) (n1 := 8) (jsp := 0) (jdp := 0) (jn := 8) hx hb hml2 hown (hts _ q_748) (hts _ q_750) (hts _ q_749) (hts _ q_78) hK hP hD hS 6 1 rfl rfl (by decide) (by decide) (by decide) (by decide) (by decide) (by decide) (by decide) (by decide) (Nat.le_of_ble_eq_true rfl) (Nat.le_of_ble_eq_true rfl) dX1_copyFrom_12 hl.1 (wX1X1 cI cZ a b (T1, S.2)) (by subst eT1; rfl) (fun H locs hP hD hS => ?_)
  have h := h T1 eT1
  refine lv_aload_n hx hb dX1_copyFrom_15 rfl (lv_at hl 1 rfl) ?_
  refine va_get (D := D) (ci := 1) (v := .ref (b 2)) (C := RX1) (T := TX1) (N := 14) hx hb hts inX1 hown hK hP 5 rfl rfl 2 (by decide) (hts _ q_287) (fun _ h9 => h9) rfl dX1_copyFrom_16 ?_
  refine lv_iconst (v := 0) hx hb dX1_copyFrom_19 (by decide) ?_
  refine lv_aload_n hx hb dX1_copyFrom_20 rfl (lv_at hl 0 rfl) ?_
  refine va_get (D := D) (ci := 1) (v := .ref (a 2)) (C := RX1) (T := TX1) (N := 14) hx hb hts inX1 hown hK hP 0 rfl rfl 2 (by decide) (hts _ q_287) (fun _ h9 => h9) rfl dX1_copyFrom_21 ?_
  refine lv_iconst (v := 0) hx hb dX1_copyFrom_24 (by decide) ?_
  refine lv_iconst (v := 4) hx hb dX1_copyFrom_25 (by decide) ?_
  obtain ⟨T2, eT2⟩ : ∃ z : Ob, z = (sa T1 2 (va_cpy (S.2.2 2) (T1.2 2) 0 0 4)) := ⟨_, rfl⟩
  refine ar_cp (f := (S.2.2 2)) (g := (T1.2 2)) (n0 := 4) (n1 := 4) (jsp := 0) (jdp := 0) (jn := 4) hx hb hml2 hown (hts _ q_748) (hts _ q_750) (hts _ q_749) (hts _ q_78) hK hP hD hS 7 2 rfl rfl (by decide) (by decide) (by decide) (by decide) (by decide) (by decide) (by decide) (by decide) (Nat.le_of_ble_eq_true rfl) (Nat.le_of_ble_eq_true rfl) dX1_copyFrom_26 hl.1 (wX1X1 cI cZ a b (T2, S.2)) (by subst eT2; rfl) (fun H locs hP hD hS => ?_)
  have h := h T2 eT2
  refine lv_aload_n hx hb dX1_copyFrom_29 rfl (lv_at hl 1 rfl) ?_
  refine va_get (D := D) (ci := 1) (v := .ref (b 3)) (C := RX1) (T := TX1) (N := 14) hx hb hts inX1 hown hK hP 5 rfl rfl 3 (by decide) (hts _ q_289) (fun _ h9 => h9) rfl dX1_copyFrom_30 ?_
  refine lv_iconst (v := 0) hx hb dX1_copyFrom_33 (by decide) ?_
  refine lv_aload_n hx hb dX1_copyFrom_34 rfl (lv_at hl 0 rfl) ?_
  refine va_get (D := D) (ci := 1) (v := .ref (a 3)) (C := RX1) (T := TX1) (N := 14) hx hb hts inX1 hown hK hP 0 rfl rfl 3 (by decide) (hts _ q_289) (fun _ h9 => h9) rfl dX1_copyFrom_35 ?_
  refine lv_iconst (v := 0) hx hb dX1_copyFrom_38 (by decide) ?_
  refine lv_bipush (v := 16) hx hb dX1_copyFrom_39 (by decide) ?_
  obtain ⟨T3, eT3⟩ : ∃ z : Ob, z = (sa T2 3 (va_cpy (S.2.2 3) (T2.2 3) 0 0 16)) := ⟨_, rfl⟩
  refine ar_cp (f := (S.2.2 3)) (g := (T2.2 3)) (n0 := 16) (n1 := 16) (jsp := 0) (jdp := 0) (jn := 16) hx hb hml2 hown (hts _ q_748) (hts _ q_750) (hts _ q_749) (hts _ q_78) hK hP hD hS 8 3 rfl rfl (by decide) (by decide) (by decide) (by decide) (by decide) (by decide) (by decide) (by decide) (Nat.le_of_ble_eq_true rfl) (Nat.le_of_ble_eq_true rfl) dX1_copyFrom_41 hl.1 (wX1X1 cI cZ a b (T3, S.2)) (by subst eT3; rfl) (fun H locs hP hD hS => ?_)
  have h := h T3 eT3
  refine lv_aload_n hx hb dX1_copyFrom_44 rfl (lv_at hl 1 rfl) ?_
  refine va_get (D := D) (ci := 1) (v := .ref (b 4)) (C := RX1) (T := TX1) (N := 14) hx hb hts inX1 hown hK hP 5 rfl rfl 4 (by decide) (hts _ q_291) (fun _ h9 => h9) rfl dX1_copyFrom_45 ?_
  refine lv_iconst (v := 0) hx hb dX1_copyFrom_48 (by decide) ?_
  refine lv_aload_n hx hb dX1_copyFrom_49 rfl (lv_at hl 0 rfl) ?_
  refine va_get (D := D) (ci := 1) (v := .ref (a 4)) (C := RX1) (T := TX1) (N := 14) hx hb hts inX1 hown hK hP 0 rfl rfl 4 (by decide) (hts _ q_291) (fun _ h9 => h9) rfl dX1_copyFrom_50 ?_
  refine lv_iconst (v := 0) hx hb dX1_copyFrom_53 (by decide) ?_
  refine lv_bipush (v := 96) hx hb dX1_copyFrom_54 (by decide) ?_
  obtain ⟨T4, eT4⟩ : ∃ z : Ob, z = (sa T3 4 (va_cpy (S.2.2 4) (T3.2 4) 0 0 96)) := ⟨_, rfl⟩
  refine ar_cp (f := (S.2.2 4)) (g := (T3.2 4)) (n0 := 96) (n1 := 96) (jsp := 0) (jdp := 0) (jn := 96) hx hb hml2 hown (hts _ q_748) (hts _ q_750) (hts _ q_749) (hts _ q_78) hK hP hD hS 9 4 rfl rfl (by decide) (by decide) (by decide) (by decide) (by decide) (by decide) (by decide) (by decide) (Nat.le_of_ble_eq_true rfl) (Nat.le_of_ble_eq_true rfl) dX1_copyFrom_56 hl.1 (wX1X1 cI cZ a b (T4, S.2)) (by subst eT4; rfl) (fun H locs hP hD hS => ?_)
  have h := h T4 eT4
  refine lv_aload_n hx hb dX1_copyFrom_59 rfl (lv_at hl 0 rfl) ?_
  refine lv_aload_n hx hb dX1_copyFrom_60 rfl (lv_at hl 1 rfl) ?_
  refine va_get (D := D) (ci := 1) (v := .int (S.2.1 5)) (C := RX1) (T := TX1) (N := 14) hx hb hts inX1 hown hK hP 5 rfl rfl 5 (by decide) (hts _ q_293) (fun _ h9 => h9) rfl dX1_copyFrom_61 ?_
  obtain ⟨T5, eT5⟩ : ∃ z : Ob, z = (si T4 5 (S.2.1 5)) := ⟨_, rfl⟩
  refine pu_f (ci := 1) (v := .int (S.2.1 5)) (ty := .int) (C := RX1) (T := TX1) (N := 14) hx hb hts inX1 tyX1 tyX1_ok nmX1 hown hK hP hD hS 0 rfl rfl 5 (by decide) (hts _ q_293) (fun _ h9 => h9) rfl rfl rfl rfl (Nat.le_of_ble_eq_true rfl) dX1_copyFrom_64 (wX1X1 cI cZ a b (T5, S.2)) (by subst eT5; rfl) (fun H locs hP hD hS => ?_)
  have h := h T5 eT5
  refine lv_aload_n hx hb dX1_copyFrom_67 rfl (lv_at hl 0 rfl) ?_
  refine lv_aload_n hx hb dX1_copyFrom_68 rfl (lv_at hl 1 rfl) ?_
  refine va_get (D := D) (ci := 1) (v := .int (S.2.1 6)) (C := RX1) (T := TX1) (N := 14) hx hb hts inX1 hown hK hP 5 rfl rfl 6 (by decide) (hts _ q_296) (fun _ h9 => h9) rfl dX1_copyFrom_69 ?_
  obtain ⟨T6, eT6⟩ : ∃ z : Ob, z = (si T5 6 (S.2.1 6)) := ⟨_, rfl⟩
  refine pu_f (ci := 1) (v := .int (S.2.1 6)) (ty := .int) (C := RX1) (T := TX1) (N := 14) hx hb hts inX1 tyX1 tyX1_ok nmX1 hown hK hP hD hS 0 rfl rfl 6 (by decide) (hts _ q_296) (fun _ h9 => h9) rfl rfl rfl rfl (Nat.le_of_ble_eq_true rfl) dX1_copyFrom_72 (wX1X1 cI cZ a b (T6, S.2)) (by subst eT6; rfl) (fun H locs hP hD hS => ?_)
  have h := h T6 eT6
  refine lv_aload_n hx hb dX1_copyFrom_75 rfl (lv_at hl 0 rfl) ?_
  refine lv_aload_n hx hb dX1_copyFrom_76 rfl (lv_at hl 1 rfl) ?_
  refine va_get (D := D) (ci := 1) (v := .int (S.2.1 8)) (C := RX1) (T := TX1) (N := 14) hx hb hts inX1 hown hK hP 5 rfl rfl 8 (by decide) (hts _ q_301) (fun _ h9 => h9) rfl dX1_copyFrom_77 ?_
  obtain ⟨T7, eT7⟩ : ∃ z : Ob, z = (si T6 8 (S.2.1 8)) := ⟨_, rfl⟩
  refine pu_f (ci := 1) (v := .int (S.2.1 8)) (ty := .int) (C := RX1) (T := TX1) (N := 14) hx hb hts inX1 tyX1 tyX1_ok nmX1 hown hK hP hD hS 0 rfl rfl 8 (by decide) (hts _ q_301) (fun _ h9 => h9) rfl rfl rfl rfl (Nat.le_of_ble_eq_true rfl) dX1_copyFrom_80 (wX1X1 cI cZ a b (T7, S.2)) (by subst eT7; rfl) (fun H locs hP hD hS => ?_)
  have h := h T7 eT7
  refine lv_aload_n hx hb dX1_copyFrom_83 rfl (lv_at hl 0 rfl) ?_
  refine lv_aload_n hx hb dX1_copyFrom_84 rfl (lv_at hl 1 rfl) ?_
  refine va_get (D := D) (ci := 1) (v := .int (S.2.1 9)) (C := RX1) (T := TX1) (N := 14) hx hb hts inX1 hown hK hP 5 rfl rfl 9 (by decide) (hts _ q_304) (fun _ h9 => h9) rfl dX1_copyFrom_85 ?_
  obtain ⟨T8, eT8⟩ : ∃ z : Ob, z = (si T7 9 (S.2.1 9)) := ⟨_, rfl⟩
  refine pu_f (ci := 1) (v := .int (S.2.1 9)) (ty := .int) (C := RX1) (T := TX1) (N := 14) hx hb hts inX1 tyX1 tyX1_ok nmX1 hown hK hP hD hS 0 rfl rfl 9 (by decide) (hts _ q_304) (fun _ h9 => h9) rfl rfl rfl rfl (Nat.le_of_ble_eq_true rfl) dX1_copyFrom_88 (wX1X1 cI cZ a b (T8, S.2)) (by subst eT8; rfl) (fun H locs hP hD hS => ?_)
  have h := h T8 eT8
  refine lv_aload_n hx hb dX1_copyFrom_91 rfl (lv_at hl 0 rfl) ?_
  refine lv_aload_n hx hb dX1_copyFrom_92 rfl (lv_at hl 1 rfl) ?_
  refine va_get (D := D) (ci := 1) (v := .int (S.2.1 10)) (C := RX1) (T := TX1) (N := 14) hx hb hts inX1 hown hK hP 5 rfl rfl 10 (by decide) (hts _ q_307) (fun _ h9 => h9) rfl dX1_copyFrom_93 ?_
  obtain ⟨T9, eT9⟩ : ∃ z : Ob, z = (si T8 10 (S.2.1 10)) := ⟨_, rfl⟩
  refine pu_f (ci := 1) (v := .int (S.2.1 10)) (ty := .int) (C := RX1) (T := TX1) (N := 14) hx hb hts inX1 tyX1 tyX1_ok nmX1 hown hK hP hD hS 0 rfl rfl 10 (by decide) (hts _ q_307) (fun _ h9 => h9) rfl rfl rfl rfl (Nat.le_of_ble_eq_true rfl) dX1_copyFrom_96 (wX1X1 cI cZ a b (T9, S.2)) (by subst eT9; rfl) (fun H locs hP hD hS => ?_)
  have h := h T9 eT9
  refine lv_aload_n hx hb dX1_copyFrom_99 rfl (lv_at hl 0 rfl) ?_
  refine lv_aload_n hx hb dX1_copyFrom_100 rfl (lv_at hl 1 rfl) ?_
  refine va_get (D := D) (ci := 1) (v := .int (S.2.1 11)) (C := RX1) (T := TX1) (N := 14) hx hb hts inX1 hown hK hP 5 rfl rfl 11 (by decide) (hts _ q_310) (fun _ h9 => h9) rfl dX1_copyFrom_101 ?_
  obtain ⟨T10, eT10⟩ : ∃ z : Ob, z = (si T9 11 (S.2.1 11)) := ⟨_, rfl⟩
  refine pu_f (ci := 1) (v := .int (S.2.1 11)) (ty := .int) (C := RX1) (T := TX1) (N := 14) hx hb hts inX1 tyX1 tyX1_ok nmX1 hown hK hP hD hS 0 rfl rfl 11 (by decide) (hts _ q_310) (fun _ h9 => h9) rfl rfl rfl rfl (Nat.le_of_ble_eq_true rfl) dX1_copyFrom_104 (wX1X1 cI cZ a b (T10, S.2)) (by subst eT10; rfl) (fun H locs hP hD hS => ?_)
  have h := h T10 eT10
  refine lv_aload_n hx hb dX1_copyFrom_107 rfl (lv_at hl 0 rfl) ?_
  refine lv_aload_n hx hb dX1_copyFrom_108 rfl (lv_at hl 1 rfl) ?_
  refine va_get (D := D) (ci := 1) (v := .int (S.2.1 12)) (C := RX1) (T := TX1) (N := 14) hx hb hts inX1 hown hK hP 5 rfl rfl 12 (by decide) (hts _ q_313) (fun _ h9 => h9) rfl dX1_copyFrom_109 ?_
  obtain ⟨T11, eT11⟩ : ∃ z : Ob, z = (si T10 12 (S.2.1 12)) := ⟨_, rfl⟩
  refine pu_f (ci := 1) (v := .int (S.2.1 12)) (ty := .boolean) (C := RX1) (T := TX1) (N := 14) hx hb hts inX1 tyX1 tyX1_ok nmX1 hown hK hP hD hS 0 rfl rfl 12 (by decide) (hts _ q_313) (fun _ h9 => h9) rfl rfl (narB h.1) (fitB h.1) (Nat.le_of_ble_eq_true rfl) dX1_copyFrom_112 (wX1X1 cI cZ a b (T11, S.2)) (by subst eT11; rfl) (fun H locs hP hD hS => ?_)
  have h := h.2
  have h := h T11 eT11
  refine lv_aload_n hx hb dX1_copyFrom_115 rfl (lv_at hl 0 rfl) ?_
  refine lv_aload_n hx hb dX1_copyFrom_116 rfl (lv_at hl 1 rfl) ?_
  refine va_get (D := D) (ci := 1) (v := .int (S.2.1 13)) (C := RX1) (T := TX1) (N := 14) hx hb hts inX1 hown hK hP 5 rfl rfl 13 (by decide) (hts _ q_316) (fun _ h9 => h9) rfl dX1_copyFrom_117 ?_
  obtain ⟨T12, eT12⟩ : ∃ z : Ob, z = (si T11 13 (S.2.1 13)) := ⟨_, rfl⟩
  refine pu_f (ci := 1) (v := .int (S.2.1 13)) (ty := .boolean) (C := RX1) (T := TX1) (N := 14) hx hb hts inX1 tyX1 tyX1_ok nmX1 hown hK hP hD hS 0 rfl rfl 13 (by decide) (hts _ q_316) (fun _ h9 => h9) rfl rfl (narB h.1) (fitB h.1) (Nat.le_of_ble_eq_true rfl) dX1_copyFrom_120 (wX1X1 cI cZ a b (T12, S.2)) (by subst eT12; rfl) (fun H locs hP hD hS => ?_)
  have h := h.2
  have h := h T12 eT12
  exact W.vret hx hb hr (fun t ht hW => ⟨⟨(T12, S.2), rfl, h, by rw [ht]; exact hP, va_K.moved hW.alike hK, hD⟩, hS.F ht⟩) hS.2.2 dX1_copyFrom_123
/-! X1_isLike -/
abbrev rmX1_isLike : Room := { frames := 0, cells := 0, slots := 0, locals := 0 }
set_option maxHeartbeats 4000000 in
set_option maxRecDepth 100000 in
theorem c_X1_isLike (l : Launch) (D : va_G) (cI cZ : ClassId) (a : Nat → Nat) (b : Nat → Nat) (sz : Nat) (S : Ob × Ob) (Q : Int32 → (Ob × Ob) → Prop) (h : wp_X1_isLike S Q) : Met l yX1_isLike (wsm yX1_isLike cX1_isLike 3 (some .boolean)) rmX1_isLike (va_Pc [.ref (a 0), .ref (b 0)] (preW D cI cZ sz (wX1X1 cI cZ a b S))) (va_Qi Q (fun u => atW D cI cZ (va_A (wX1X1 cI cZ a b S) sz) (wX1X1 cI cZ a b u)) (va_A (wX1X1 cI cZ a b S) sz)) 0 0 (va_A (wX1X1 cI cZ a b S) sz) := by
  refine Met.ofW (cc := cX1_isLike) (maxL := 3) (ret := (some .boolean)) (by decide) rfl ?_
  intro p e s m args below meth c s₁ B hml hv
  obtain ⟨rfl, hsz, hP, hK, hD0⟩ := hv
  have hx := B.exec
  have hb := B.bytes
  have hr := B.returns
  have hts0 := atoms_spec (ws := wsm yX1_isLike cX1_isLike 3 (some .boolean)) B.pre
  have hts : ∀ w ∈ lw_all, w.before _ s = true := fun w h => hts0 w (List.mem_cons_of_mem _ h)
  have hown : s.vm.findClass RX1 = some m.cls := findClass_of_methodNamed B.named
  have hlocks := B.notSynchronized
  subst hsz
  have hD := hD0.self (sz := s.heap.size)
  generalize hAe : va_A (wX1X1 cI cZ a b S) s.heap.size = A at hD ⊢
  have hA : ∀ q : Nat, s.heap.size ≤ q → A q := fun q h => by rw [← hAe]; exact Or.inr h
  have hS : va_S A s.heap s.heap [] := va_S.rf
  have hml2 := hml
  have L2 : ∀ (n : Nat), ∀ (y2 : Int32) (T : Ob × Ob) (H : Heap) (locs : List Loc) (ls : Array Slot), va_P D vwCl (wX1X1 cI cZ a b T) H → va_D A (wX1X1 cI cZ a b T) → va_S A s.heap H locs → lv_has ls 3 [(0, .ref (a 0)), (1, .ref (b 0)), (2, .int y2)] → wp_X1_isLike_L2 Q n y2 T → W p l e rmX1_isLike s m ([.ref (a 0), .ref (b 0)] : List Value).toArray below meth c H locs 0 0 (MQ below (va_Qi Q (fun u => atW D cI cZ A (wX1X1 cI cZ a b u)) A) ([.ref (a 0), .ref (b 0)] : List Value).toArray s 0 0 A) (F0 m 2 ls []) := by
    intro n
    induction n with
    | zero =>
      intro y2 T H locs ls hP hD hS hl h
      exact False.elim h
    | succ n ih =>
      intro y2 T H locs ls hP hD hS hl h
      unfold wp_X1_isLike_L2 at h
      refine lv_iload_n hx hb dX1_isLike_2 rfl (lv_at hl 2 rfl) ?_
      refine lv_iconst (v := 4) hx hb dX1_isLike_3 (by decide) ?_
      refine lv_icmp_ge (tgt := 45) hx hb dX1_isLike_4 (by decide) (fun c1 => ?_) (fun c1 => ?_)
      · have h := h.1 c1
        refine lv_aload_n hx hb dX1_isLike_45 rfl (lv_at hl 0 rfl) ?_
        refine va_get (D := D) (ci := 1) (v := .int (T.1.1 5)) (C := RX1) (T := TX1) (N := 14) hx hb hts inX1 hown hK hP 0 rfl rfl 5 (by decide) (hts _ q_293) (fun _ h9 => h9) rfl dX1_isLike_46 ?_
        refine lv_aload_n hx hb dX1_isLike_49 rfl (lv_at hl 1 rfl) ?_
        refine va_get (D := D) (ci := 1) (v := .int (T.2.1 5)) (C := RX1) (T := TX1) (N := 14) hx hb hts inX1 hown hK hP 5 rfl rfl 5 (by decide) (hts _ q_293) (fun _ h9 => h9) rfl dX1_isLike_50 ?_
        refine lv_icmp_ne (tgt := 93) hx hb dX1_isLike_53 (by decide) (fun c2 => ?_) (fun c2 => ?_)
        · have h := h.1 c2
          refine lv_iconst (v := 0) hx hb dX1_isLike_93 (by decide) ?_
          exact W.zret (ty := .boolean) (v := 0) hx hb hr (narB isB0) (fun t ht hW => ⟨⟨0, T, rfl, h, by rw [ht]; exact hP, va_K.moved hW.alike hK, hD⟩, hS.F ht⟩) hS.2.2 dX1_isLike_94
        · have h := h.2 c2
          refine lv_aload_n hx hb dX1_isLike_56 rfl (lv_at hl 0 rfl) ?_
          refine va_get (D := D) (ci := 1) (v := .int (T.1.1 8)) (C := RX1) (T := TX1) (N := 14) hx hb hts inX1 hown hK hP 0 rfl rfl 8 (by decide) (hts _ q_301) (fun _ h9 => h9) rfl dX1_isLike_57 ?_
          refine lv_aload_n hx hb dX1_isLike_60 rfl (lv_at hl 1 rfl) ?_
          refine va_get (D := D) (ci := 1) (v := .int (T.2.1 8)) (C := RX1) (T := TX1) (N := 14) hx hb hts inX1 hown hK hP 5 rfl rfl 8 (by decide) (hts _ q_301) (fun _ h9 => h9) rfl dX1_isLike_61 ?_
          refine lv_icmp_ne (tgt := 93) hx hb dX1_isLike_64 (by decide) (fun c3 => ?_) (fun c3 => ?_)
          · have h := h.1 c3
            refine lv_iconst (v := 0) hx hb dX1_isLike_93 (by decide) ?_
            exact W.zret (ty := .boolean) (v := 0) hx hb hr (narB isB0) (fun t ht hW => ⟨⟨0, T, rfl, h, by rw [ht]; exact hP, va_K.moved hW.alike hK, hD⟩, hS.F ht⟩) hS.2.2 dX1_isLike_94
          · have h := h.2 c3
            refine lv_aload_n hx hb dX1_isLike_67 rfl (lv_at hl 0 rfl) ?_
            refine va_get (D := D) (ci := 1) (v := .int (T.1.1 9)) (C := RX1) (T := TX1) (N := 14) hx hb hts inX1 hown hK hP 0 rfl rfl 9 (by decide) (hts _ q_304) (fun _ h9 => h9) rfl dX1_isLike_68 ?_
            refine lv_aload_n hx hb dX1_isLike_71 rfl (lv_at hl 1 rfl) ?_
            refine va_get (D := D) (ci := 1) (v := .int (T.2.1 9)) (C := RX1) (T := TX1) (N := 14) hx hb hts inX1 hown hK hP 5 rfl rfl 9 (by decide) (hts _ q_304) (fun _ h9 => h9) rfl dX1_isLike_72 ?_
            refine lv_icmp_ne (tgt := 93) hx hb dX1_isLike_75 (by decide) (fun c4 => ?_) (fun c4 => ?_)
            · have h := h.1 c4
              refine lv_iconst (v := 0) hx hb dX1_isLike_93 (by decide) ?_
              exact W.zret (ty := .boolean) (v := 0) hx hb hr (narB isB0) (fun t ht hW => ⟨⟨0, T, rfl, h, by rw [ht]; exact hP, va_K.moved hW.alike hK, hD⟩, hS.F ht⟩) hS.2.2 dX1_isLike_94
            · have h := h.2 c4
              refine lv_aload_n hx hb dX1_isLike_78 rfl (lv_at hl 0 rfl) ?_
              refine va_get (D := D) (ci := 1) (v := .int (T.1.1 6)) (C := RX1) (T := TX1) (N := 14) hx hb hts inX1 hown hK hP 0 rfl rfl 6 (by decide) (hts _ q_296) (fun _ h9 => h9) rfl dX1_isLike_79 ?_
              refine lv_aload_n hx hb dX1_isLike_82 rfl (lv_at hl 1 rfl) ?_
              refine va_get (D := D) (ci := 1) (v := .int (T.2.1 6)) (C := RX1) (T := TX1) (N := 14) hx hb hts inX1 hown hK hP 5 rfl rfl 6 (by decide) (hts _ q_296) (fun _ h9 => h9) rfl dX1_isLike_83 ?_
              refine lv_icmp_ne (tgt := 93) hx hb dX1_isLike_86 (by decide) (fun c5 => ?_) (fun c5 => ?_)
              · have h := h.1 c5
                refine lv_iconst (v := 0) hx hb dX1_isLike_93 (by decide) ?_
                exact W.zret (ty := .boolean) (v := 0) hx hb hr (narB isB0) (fun t ht hW => ⟨⟨0, T, rfl, h, by rw [ht]; exact hP, va_K.moved hW.alike hK, hD⟩, hS.F ht⟩) hS.2.2 dX1_isLike_94
              · have h := h.2 c5
                refine lv_iconst (v := 1) hx hb dX1_isLike_89 (by decide) ?_
                refine lv_goto (tgt := 94) hx hb dX1_isLike_90 (by decide) ?_
                exact W.zret (ty := .boolean) (v := 1) hx hb hr (narB isB1) (fun t ht hW => ⟨⟨1, T, rfl, h, by rw [ht]; exact hP, va_K.moved hW.alike hK, hD⟩, hS.F ht⟩) hS.2.2 dX1_isLike_94
      · have h := h.2 c1
        refine lv_aload_n hx hb dX1_isLike_7 rfl (lv_at hl 0 rfl) ?_
        refine va_get (D := D) (ci := 1) (v := .ref (a 1)) (C := RX1) (T := TX1) (N := 14) hx hb hts inX1 hown hK hP 0 rfl rfl 1 (by decide) (hts _ q_284) (fun _ h9 => h9) rfl dX1_isLike_8 ?_
        refine lv_iload_n hx hb dX1_isLike_11 rfl (lv_at hl 2 rfl) ?_
        refine ar_il (f := (T.1.2 1)) (n := 8) (j := (Int32.toNatClampNeg y2)) hx hb hK hP 1 rfl rfl h.1 dX1_isLike_12 ?_
        have h := h.2
        refine lv_aload_n hx hb dX1_isLike_13 rfl (lv_at hl 1 rfl) ?_
        refine va_get (D := D) (ci := 1) (v := .ref (b 1)) (C := RX1) (T := TX1) (N := 14) hx hb hts inX1 hown hK hP 5 rfl rfl 1 (by decide) (hts _ q_284) (fun _ h9 => h9) rfl dX1_isLike_14 ?_
        refine lv_iload_n hx hb dX1_isLike_17 rfl (lv_at hl 2 rfl) ?_
        refine ar_il (f := (T.2.2 1)) (n := 8) (j := (Int32.toNatClampNeg y2)) hx hb hK hP 6 rfl rfl h.1 dX1_isLike_18 ?_
        have h := h.2
        refine lv_icmp_ne (tgt := 37) hx hb dX1_isLike_19 (by decide) (fun c6 => ?_) (fun c6 => ?_)
        · have h := h.1 c6
          refine lv_iconst (v := 0) hx hb dX1_isLike_37 (by decide) ?_
          exact W.zret (ty := .boolean) (v := 0) hx hb hr (narB isB0) (fun t ht hW => ⟨⟨0, T, rfl, h, by rw [ht]; exact hP, va_K.moved hW.alike hK, hD⟩, hS.F ht⟩) hS.2.2 dX1_isLike_38
        · have h := h.2 c6
          refine lv_aload_n hx hb dX1_isLike_22 rfl (lv_at hl 0 rfl) ?_
          refine va_get (D := D) (ci := 1) (v := .ref (a 2)) (C := RX1) (T := TX1) (N := 14) hx hb hts inX1 hown hK hP 0 rfl rfl 2 (by decide) (hts _ q_287) (fun _ h9 => h9) rfl dX1_isLike_23 ?_
          refine lv_iload_n hx hb dX1_isLike_26 rfl (lv_at hl 2 rfl) ?_
          refine ar_il (f := (T.1.2 2)) (n := 4) (j := (Int32.toNatClampNeg y2)) hx hb hK hP 2 rfl rfl h.1 dX1_isLike_27 ?_
          have h := h.2
          refine lv_aload_n hx hb dX1_isLike_28 rfl (lv_at hl 1 rfl) ?_
          refine va_get (D := D) (ci := 1) (v := .ref (b 2)) (C := RX1) (T := TX1) (N := 14) hx hb hts inX1 hown hK hP 5 rfl rfl 2 (by decide) (hts _ q_287) (fun _ h9 => h9) rfl dX1_isLike_29 ?_
          refine lv_iload_n hx hb dX1_isLike_32 rfl (lv_at hl 2 rfl) ?_
          refine ar_il (f := (T.2.2 2)) (n := 4) (j := (Int32.toNatClampNeg y2)) hx hb hK hP 7 rfl rfl h.1 dX1_isLike_33 ?_
          have h := h.2
          refine lv_icmp_eq (tgt := 39) hx hb dX1_isLike_34 (by decide) (fun c7 => ?_) (fun c7 => ?_)
          · have h := h.1 c7
            obtain ⟨x8, ex8⟩ : ∃ y : Int32, y = (y2 + 1) := ⟨_, rfl⟩
            have h := h x8 ex8
            refine lv_iinc (v := x8) (lv' := [(2, .int x8), (0, .ref (a 0)), (1, .ref (b 0))]) hx hb dX1_isLike_39 hl (k := 2) rfl (by rw [ex8]; rfl) (by decide) rfl (fun ls hl => ?_)
            refine lv_goto (tgt := 2) hx hb dX1_isLike_42 (by decide) ?_
            exact ih x8 T _ _ _ hP hD hS (lv_sub hl [1, 2, 0] rfl) h
          · have h := h.2 c7
            refine lv_iconst (v := 0) hx hb dX1_isLike_37 (by decide) ?_
            exact W.zret (ty := .boolean) (v := 0) hx hb hr (narB isB0) (fun t ht hW => ⟨⟨0, T, rfl, h, by rw [ht]; exact hP, va_K.moved hW.alike hK, hD⟩, hS.F ht⟩) hS.2.2 dX1_isLike_38
  have hl := lv_entry ([.ref (a 0), .ref (b 0)]) (n := 3) (Nat.le_of_ble_eq_true rfl)
  rw [lg_entry_eq]
  generalize (lg_sl ([.ref (a 0), .ref (b 0)]) ++ List.replicate (3 - (lg_sl ([.ref (a 0), .ref (b 0)])).length) Slot.unset).toArray = ls at hl ⊢
  have hl : lv_has ls 3 [(0, .ref (a 0)), (1, .ref (b 0))] := hl
  unfold wp_X1_isLike at h
  refine lv_iconst (v := 0) hx hb dX1_isLike_0 (by decide) ?_
  refine lv_istore_n (lv' := [(2, .int 0), (0, .ref (a 0)), (1, .ref (b 0))]) hx hb dX1_isLike_1 rfl hl (by decide) rfl (fun ls hl => ?_)
  exact L2 2000 0 S _ _ _ hP hD hS (lv_sub hl [1, 2, 0] rfl) h
/-! X1_passes -/
abbrev rmX1_passes : Room := { frames := 0, cells := 0, slots := 0, locals := 0 }
set_option maxHeartbeats 4000000 in
set_option maxRecDepth 100000 in
theorem c_X1_passes (l : Launch) (D : va_G) (cI cZ : ClassId) (a : Nat → Nat) (sz : Nat) (S : Ob) (Q : Int32 → Ob → Prop) (h : wp_X1_passes S Q) : Met l yX1_passes (wsm yX1_passes cX1_passes 1 (some .boolean)) rmX1_passes (va_Pc [.ref (a 0)] (preW D cI cZ sz (wX1 cI cZ a S))) (va_Qi Q (fun u => atW D cI cZ (va_A (wX1 cI cZ a S) sz) (wX1 cI cZ a u)) (va_A (wX1 cI cZ a S) sz)) 0 0 (va_A (wX1 cI cZ a S) sz) := by
  refine Met.ofW (cc := cX1_passes) (maxL := 1) (ret := (some .boolean)) (by decide) rfl ?_
  intro p e s m args below meth c s₁ B hml hv
  obtain ⟨rfl, hsz, hP, hK, hD0⟩ := hv
  have hx := B.exec
  have hb := B.bytes
  have hr := B.returns
  have hts0 := atoms_spec (ws := wsm yX1_passes cX1_passes 1 (some .boolean)) B.pre
  have hts : ∀ w ∈ lw_all, w.before _ s = true := fun w h => hts0 w (List.mem_cons_of_mem _ h)
  have hown : s.vm.findClass RX1 = some m.cls := findClass_of_methodNamed B.named
  have hlocks := B.notSynchronized
  subst hsz
  have hD := hD0.self (sz := s.heap.size)
  generalize hAe : va_A (wX1 cI cZ a S) s.heap.size = A at hD ⊢
  have hA : ∀ q : Nat, s.heap.size ≤ q → A q := fun q h => by rw [← hAe]; exact Or.inr h
  have hS : va_S A s.heap s.heap [] := va_S.rf
  have hml2 := hml
  have hl := lv_entry ([.ref (a 0)]) (n := 1) (Nat.le_of_ble_eq_true rfl)
  rw [lg_entry_eq]
  generalize (lg_sl ([.ref (a 0)]) ++ List.replicate (1 - (lg_sl ([.ref (a 0)])).length) Slot.unset).toArray = ls at hl ⊢
  have hl : lv_has ls 1 [(0, .ref (a 0))] := hl
  unfold wp_X1_passes at h
  refine lv_aload_n hx hb dX1_passes_0 rfl (lv_at hl 0 rfl) ?_
  refine va_get (D := D) (ci := 1) (v := .int (S.1 10)) (C := RX1) (T := TX1) (N := 14) hx hb hts inX1 hown hK hP 0 rfl rfl 10 (by decide) (hts _ q_307) (fun _ h9 => h9) rfl dX1_passes_1 ?_
  refine lv_if_le (tgt := 19) hx hb dX1_passes_4 (by decide) (fun c1 => ?_) (fun c1 => ?_)
  · have h := h.1 c1
    refine lv_aload_n hx hb dX1_passes_19 rfl (lv_at hl 0 rfl) ?_
    refine va_get (D := D) (ci := 1) (v := .int (S.1 13)) (C := RX1) (T := TX1) (N := 14) hx hb hts inX1 hown hK hP 0 rfl rfl 13 (by decide) (hts _ q_316) (fun _ h9 => h9) rfl dX1_passes_20 ?_
    exact W.zret (ty := .boolean) (v := (S.1 13)) hx hb hr (narB h.1) (fun t ht hW => ⟨⟨(S.1 13), S, rfl, h.2, by rw [ht]; exact hP, va_K.moved hW.alike hK, hD⟩, hS.F ht⟩) hS.2.2 dX1_passes_23
  · have h := h.2 c1
    refine lv_aload_n hx hb dX1_passes_7 rfl (lv_at hl 0 rfl) ?_
    refine lv_dup hx hb dX1_passes_8 rfl ?_
    refine va_get (D := D) (ci := 1) (v := .int (S.1 10)) (C := RX1) (T := TX1) (N := 14) hx hb hts inX1 hown hK hP 0 rfl rfl 10 (by decide) (hts _ q_307) (fun _ h9 => h9) rfl dX1_passes_9 ?_
    refine lv_iconst (v := 1) hx hb dX1_passes_12 (by decide) ?_
    refine lv_isub hx hb dX1_passes_13 ?_
    obtain ⟨T2, eT2⟩ : ∃ z : Ob, z = (si S 10 ((S.1 10) - 1)) := ⟨_, rfl⟩
    refine pu_f (ci := 1) (v := .int ((S.1 10) - 1)) (ty := .int) (C := RX1) (T := TX1) (N := 14) hx hb hts inX1 tyX1 tyX1_ok nmX1 hown hK hP hD hS 0 rfl rfl 10 (by decide) (hts _ q_307) (fun _ h9 => h9) rfl rfl rfl rfl (Nat.le_of_ble_eq_true rfl) dX1_passes_14 (wX1 cI cZ a T2) (by subst eT2; rfl) (fun H locs hP hD hS => ?_)
    have h := h T2 eT2
    refine lv_iconst (v := 1) hx hb dX1_passes_17 (by decide) ?_
    exact W.zret (ty := .boolean) (v := 1) hx hb hr (narB isB1) (fun t ht hW => ⟨⟨1, T2, rfl, h, by rw [ht]; exact hP, va_K.moved hW.alike hK, hD⟩, hS.F ht⟩) hS.2.2 dX1_passes_18
/-! X1_byteBehind -/
abbrev rmX1_byteBehind : Room := { frames := 0, cells := 0, slots := 0, locals := 0 }
set_option maxHeartbeats 4000000 in
set_option maxRecDepth 100000 in
theorem c_X1_byteBehind (l : Launch) (D : va_G) (cI cZ : ClassId) (a : Nat → Nat) (sz : Nat) (S : Ob × (Nat → Int32)) (p0 : Int32) (Q : Int32 → (Ob × (Nat → Int32)) → Prop) (h : wp_X1_byteBehind S p0 Q) : Met l yX1_byteBehind (wsm yX1_byteBehind cX1_byteBehind 2 (some .int)) rmX1_byteBehind (va_Pc [.ref (a 0), .int p0] (preW D cI cZ sz (wX1b cI cZ a S))) (va_Qi Q (fun u => atW D cI cZ (va_A (wX1b cI cZ a S) sz) (wX1b cI cZ a u)) (va_A (wX1b cI cZ a S) sz)) 0 0 (va_A (wX1b cI cZ a S) sz) := by
  refine Met.ofW (cc := cX1_byteBehind) (maxL := 2) (ret := (some .int)) (by decide) rfl ?_
  intro p e s m args below meth c s₁ B hml hv
  obtain ⟨rfl, hsz, hP, hK, hD0⟩ := hv
  have hx := B.exec
  have hb := B.bytes
  have hr := B.returns
  have hts0 := atoms_spec (ws := wsm yX1_byteBehind cX1_byteBehind 2 (some .int)) B.pre
  have hts : ∀ w ∈ lw_all, w.before _ s = true := fun w h => hts0 w (List.mem_cons_of_mem _ h)
  have hown : s.vm.findClass RX1 = some m.cls := findClass_of_methodNamed B.named
  have hlocks := B.notSynchronized
  subst hsz
  have hD := hD0.self (sz := s.heap.size)
  generalize hAe : va_A (wX1b cI cZ a S) s.heap.size = A at hD ⊢
  have hA : ∀ q : Nat, s.heap.size ≤ q → A q := fun q h => by rw [← hAe]; exact Or.inr h
  have hS : va_S A s.heap s.heap [] := va_S.rf
  have hml2 := hml
  have hl := lv_entry ([.ref (a 0), .int p0]) (n := 2) (Nat.le_of_ble_eq_true rfl)
  rw [lg_entry_eq]
  generalize (lg_sl ([.ref (a 0), .int p0]) ++ List.replicate (2 - (lg_sl ([.ref (a 0), .int p0])).length) Slot.unset).toArray = ls at hl ⊢
  have hl : lv_has ls 2 [(0, .ref (a 0)), (1, .int p0)] := hl
  unfold wp_X1_byteBehind at h
  refine lv_aload_n hx hb dX1_byteBehind_0 rfl (lv_at hl 0 rfl) ?_
  refine va_get (D := D) (ci := 1) (v := .ref (a 5)) (C := RX1) (T := TX1) (N := 14) hx hb hts inX1 hown hK hP 0 rfl rfl 0 (by decide) (hts _ q_283) (fun _ h9 => h9) rfl dX1_byteBehind_1 ?_
  refine lv_aload_n hx hb dX1_byteBehind_4 rfl (lv_at hl 0 rfl) ?_
  refine va_get (D := D) (ci := 1) (v := .int (S.1.1 5)) (C := RX1) (T := TX1) (N := 14) hx hb hts inX1 hown hK hP 0 rfl rfl 5 (by decide) (hts _ q_293) (fun _ h9 => h9) rfl dX1_byteBehind_5 ?_
  refine lv_iload_n hx hb dX1_byteBehind_8 rfl (lv_at hl 1 rfl) ?_
  refine lv_iadd hx hb dX1_byteBehind_9 ?_
  refine lv_sipush (v := 511) hx hb dX1_byteBehind_10 (by decide) ?_
  refine lv_iand hx hb dX1_byteBehind_13 ?_
  refine ar_il (f := S.2) (n := 512) (j := (Int32.toNatClampNeg (((S.1.1 5) + p0) &&& 511))) hx hb hK hP 5 rfl rfl h.1 dX1_byteBehind_14 ?_
  have h := h.2
  exact W.iret (v := (S.2 (Int32.toNatClampNeg (((S.1.1 5) + p0) &&& 511)))) hx hb hr (fun t ht hW => ⟨⟨(S.2 (Int32.toNatClampNeg (((S.1.1 5) + p0) &&& 511))), S, rfl, h, by rw [ht]; exact hP, va_K.moved hW.alike hK, hD⟩, hS.F ht⟩) hS.2.2 dX1_byteBehind_15
/-! X1_mustSave -/
abbrev rmX1_mustSave : Room := { frames := 1, cells := 0, slots := 0, locals := 21 }
set_option maxHeartbeats 4000000 in
set_option maxRecDepth 100000 in
theorem c_X1_mustSave (l : Launch) (D : va_G) (cI cZ : ClassId) (a : Nat → Nat) (sz : Nat) (S : Ob × (Nat → Int32)) (Q : Int32 → (Ob × (Nat → Int32)) → Prop) (h : wp_X1_mustSave S Q) : Met l yX1_mustSave (wsm yX1_mustSave cX1_mustSave 1 (some .boolean)) rmX1_mustSave (va_Pc [.ref (a 0)] (preW D cI cZ sz (wX1b cI cZ a S))) (va_Qi Q (fun u => atW D cI cZ (va_A (wX1b cI cZ a S) sz) (wX1b cI cZ a u)) (va_A (wX1b cI cZ a S) sz)) 0 0 (va_A (wX1b cI cZ a S) sz) := by
  refine Met.ofW (cc := cX1_mustSave) (maxL := 1) (ret := (some .boolean)) (by decide) rfl ?_
  intro p e s m args below meth c s₁ B hml hv
  obtain ⟨rfl, hsz, hP, hK, hD0⟩ := hv
  have hx := B.exec
  have hb := B.bytes
  have hr := B.returns
  have hts0 := atoms_spec (ws := wsm yX1_mustSave cX1_mustSave 1 (some .boolean)) B.pre
  have hts : ∀ w ∈ lw_all, w.before _ s = true := fun w h => hts0 w (List.mem_cons_of_mem _ h)
  have hown : s.vm.findClass RX1 = some m.cls := findClass_of_methodNamed B.named
  have hlocks := B.notSynchronized
  subst hsz
  have hD := hD0.self (sz := s.heap.size)
  generalize hAe : va_A (wX1b cI cZ a S) s.heap.size = A at hD ⊢
  have hA : ∀ q : Nat, s.heap.size ≤ q → A q := fun q h => by rw [← hAe]; exact Or.inr h
  have hS : va_S A s.heap s.heap [] := va_S.rf
  have hml2 := hml
  have hl := lv_entry ([.ref (a 0)]) (n := 1) (Nat.le_of_ble_eq_true rfl)
  rw [lg_entry_eq]
  generalize (lg_sl ([.ref (a 0)]) ++ List.replicate (1 - (lg_sl ([.ref (a 0)])).length) Slot.unset).toArray = ls at hl ⊢
  have hl : lv_has ls 1 [(0, .ref (a 0))] := hl
  unfold wp_X1_mustSave at h
  refine lv_aload_n hx hb dX1_mustSave_0 rfl (lv_at hl 0 rfl) ?_
  refine va_get (D := D) (ci := 1) (v := .int (S.1.1 11)) (C := RX1) (T := TX1) (N := 14) hx hb hts inX1 hown hK hP 0 rfl rfl 11 (by decide) (hts _ q_310) (fun _ h9 => h9) rfl dX1_mustSave_1 ?_
  refine lv_iconst (v := -1) hx hb dX1_mustSave_4 (by decide) ?_
  refine lv_icmp_eq (tgt := 23) hx hb dX1_mustSave_5 (by decide) (fun c1 => ?_) (fun c1 => ?_)
  · have h := h.1 c1
    refine lv_iconst (v := 0) hx hb dX1_mustSave_23 (by decide) ?_
    exact W.zret (ty := .boolean) (v := 0) hx hb hr (narB isB0) (fun t ht hW => ⟨⟨0, S, rfl, h, by rw [ht]; exact hP, va_K.moved hW.alike hK, hD⟩, hS.F ht⟩) hS.2.2 dX1_mustSave_24
  · have h := h.2 c1
    refine lv_aload_n hx hb dX1_mustSave_8 rfl (lv_at hl 0 rfl) ?_
    refine lv_iconst (v := 0) hx hb dX1_mustSave_9 (by decide) ?_
    refine cl_i (ws' := fun u2 => (wX1b cI cZ a u2)) (va_runV (As := [.int 0]) (rest := []) ⟨hx, hb, hml, hown, hts⟩ (c_X1_byteBehind l D cI cZ a _ S 0 _ h ) (cwV 1 hts (gV q_548 q_549 q_550 q_73 q_551) rfl rfl rfl (by decide +kernel) ⟨Nat.le_of_ble_eq_true rfl, Nat.le_of_ble_eq_true rfl⟩) (preV_of (ci := 1) (q := (RX1, TX1, 14)) hK hP hD [0, 1, 2, 3, 4, 5] rfl rfl (by decide) 0 rfl rfl) rfl rfl hl.1 rfl (lv_room (Nat.le_of_ble_eq_true rfl)) dX1_mustSave_10 ⟨Nat.zero_le _, Nat.zero_le _⟩) hP hD hS hA [0, 1, 2, 3, 4, 5] [.inl 0, .inl 1, .inl 2, .inl 3, .inl 4, .inl 5] rfl (by decide) (fun _ => rfl) (fun _ => rfl) (fun r3 u2 H locs h hP hD hS => ?_)
    refine cl_i (ws' := fun u4 => (wX1b cI cZ a u2)) (va_runS (As := [.int r3]) (rest := []) ⟨hx, hb, hml, hown, hts⟩ (c_X4_isFor l D cI cZ _ () r3 _ h ) (va_cwS 1 hts (gS q_552 q_553 q_76 q_554) rfl rfl rfl (by decide +kernel) ⟨Nat.le_of_ble_eq_true rfl, Nat.le_of_ble_eq_true rfl⟩) (preS_of hK hP hD [] rfl rfl (by decide)) rfl rfl hl.1 rfl (lv_room (Nat.le_of_ble_eq_true rfl)) dX1_mustSave_13 ⟨Nat.zero_le _, Nat.zero_le _⟩) hP hD hS hA [] [.inr 0, .inr 1, .inr 2, .inr 3, .inr 4, .inr 5] rfl (by decide) (fun _ => rfl) (fun _ => rfl) (fun r5 u4 H locs h hP hD hS => ?_)
    refine lv_if_eq (tgt := 23) hx hb dX1_mustSave_16 (by decide) (fun c6 => ?_) (fun c6 => ?_)
    · have h := h.1 c6
      refine lv_iconst (v := 0) hx hb dX1_mustSave_23 (by decide) ?_
      exact W.zret (ty := .boolean) (v := 0) hx hb hr (narB isB0) (fun t ht hW => ⟨⟨0, u2, rfl, h, by rw [ht]; exact hP, va_K.moved hW.alike hK, hD⟩, hS.F ht⟩) hS.2.2 dX1_mustSave_24
    · have h := h.2 c6
      refine lv_iconst (v := 1) hx hb dX1_mustSave_19 (by decide) ?_
      refine lv_goto (tgt := 24) hx hb dX1_mustSave_20 (by decide) ?_
      exact W.zret (ty := .boolean) (v := 1) hx hb hr (narB isB1) (fun t ht hW => ⟨⟨1, u2, rfl, h, by rw [ht]; exact hP, va_K.moved hW.alike hK, hD⟩, hS.F ht⟩) hS.2.2 dX1_mustSave_24
/-! X1_faultOf -/
abbrev rmX1_faultOf : Room := { frames := 2, cells := 0, slots := 0, locals := 48 }
set_option maxHeartbeats 4000000 in
set_option maxRecDepth 100000 in
theorem c_X1_faultOf (l : Launch) (D : va_G) (cI cZ : ClassId) (a : Nat → Nat) (sz : Nat) (S : Ob) (p0 : Int32) (p1 : Int32) (p2 : Int32) (Q : Int32 → Ob → Prop) (h : wp_X1_faultOf S p0 p1 p2 Q) : Met l yX1_faultOf (wsm yX1_faultOf cX1_faultOf 4 (some .int)) rmX1_faultOf (va_Pc [.ref (a 0), .int p0, .int p1, .int p2] (preW D cI cZ sz (wX1 cI cZ a S))) (va_Qi Q (fun u => atW D cI cZ (va_A (wX1 cI cZ a S) sz) (wX1 cI cZ a u)) (va_A (wX1 cI cZ a S) sz)) 0 0 (va_A (wX1 cI cZ a S) sz) := by
  refine Met.ofW (cc := cX1_faultOf) (maxL := 4) (ret := (some .int)) (by decide) rfl ?_
  intro p e s m args below meth c s₁ B hml hv
  obtain ⟨rfl, hsz, hP, hK, hD0⟩ := hv
  have hx := B.exec
  have hb := B.bytes
  have hr := B.returns
  have hts0 := atoms_spec (ws := wsm yX1_faultOf cX1_faultOf 4 (some .int)) B.pre
  have hts : ∀ w ∈ lw_all, w.before _ s = true := fun w h => hts0 w (List.mem_cons_of_mem _ h)
  have hown : s.vm.findClass RX1 = some m.cls := findClass_of_methodNamed B.named
  have hlocks := B.notSynchronized
  subst hsz
  have hD := hD0.self (sz := s.heap.size)
  generalize hAe : va_A (wX1 cI cZ a S) s.heap.size = A at hD ⊢
  have hA : ∀ q : Nat, s.heap.size ≤ q → A q := fun q h => by rw [← hAe]; exact Or.inr h
  have hS : va_S A s.heap s.heap [] := va_S.rf
  have hml2 := hml
  have hl := lv_entry ([.ref (a 0), .int p0, .int p1, .int p2]) (n := 4) (Nat.le_of_ble_eq_true rfl)
  rw [lg_entry_eq]
  generalize (lg_sl ([.ref (a 0), .int p0, .int p1, .int p2]) ++ List.replicate (4 - (lg_sl ([.ref (a 0), .int p0, .int p1, .int p2])).length) Slot.unset).toArray = ls at hl ⊢
  have hl : lv_has ls 4 [(0, .ref (a 0)), (1, .int p0), (2, .int p1), (3, .int p2)] := hl
  unfold wp_X1_faultOf at h
  refine lv_iload_n hx hb dX1_faultOf_0 rfl (lv_at hl 1 rfl) ?_
  refine lv_iconst (v := 1) hx hb dX1_faultOf_1 (by decide) ?_
  refine lv_icmp_lt (tgt := 11) hx hb dX1_faultOf_2 (by decide) (fun c1 => ?_) (fun c1 => ?_)
  · have h := h.1 c1
    refine lv_bipush (v := 18) hx hb dX1_faultOf_11 (by decide) ?_
    exact W.iret (v := 18) hx hb hr (fun t ht hW => ⟨⟨18, S, rfl, h, by rw [ht]; exact hP, va_K.moved hW.alike hK, hD⟩, hS.F ht⟩) hS.2.2 dX1_faultOf_13
  · have h := h.2 c1
    refine lv_iload_n hx hb dX1_faultOf_5 rfl (lv_at hl 1 rfl) ?_
    refine lv_bipush (v := 29) hx hb dX1_faultOf_6 (by decide) ?_
    refine lv_icmp_le (tgt := 14) hx hb dX1_faultOf_8 (by decide) (fun c2 => ?_) (fun c2 => ?_)
    · have h := h.1 c2
      refine lv_iload_n hx hb dX1_faultOf_14 rfl (lv_at hl 1 rfl) ?_
      by_cases c3_5 : p0 = 5
      · have h := h.1 c3_5
        refine sw_in c3_5 ?_
        refine lv_lookup (off := 57) (tgt := 72) hx hb dX1_faultOf_15 (by decide) (by decide) (by decide) ?_
        refine lv_aload_n hx hb dX1_faultOf_72 rfl (lv_at hl 0 rfl) ?_
        refine va_get (D := D) (ci := 1) (v := .ref (a 1)) (C := RX1) (T := TX1) (N := 14) hx hb hts inX1 hown hK hP 0 rfl rfl 1 (by decide) (hts _ q_284) (fun _ h9 => h9) rfl dX1_faultOf_73 ?_
        refine lv_iload_n hx hb dX1_faultOf_76 rfl (lv_at hl 3 rfl) ?_
        refine lv_bipush (v := 7) hx hb dX1_faultOf_77 (by decide) ?_
        refine lv_iand hx hb dX1_faultOf_79 ?_
        refine ar_il (f := (S.2 1)) (n := 8) (j := (Int32.toNatClampNeg (p2 &&& 7))) hx hb hK hP 1 rfl rfl h.1 dX1_faultOf_80 ?_
        have h := h.2
        refine lv_if_ne (tgt := 89) hx hb dX1_faultOf_81 (by decide) (fun c4 => ?_) (fun c4 => ?_)
        · have h := h.1 c4
          refine lv_iconst (v := -1) hx hb dX1_faultOf_89 (by decide) ?_
          exact W.iret (v := (-1)) hx hb hr (fun t ht hW => ⟨⟨(-1), S, rfl, h, by rw [ht]; exact hP, va_K.moved hW.alike hK, hD⟩, hS.F ht⟩) hS.2.2 dX1_faultOf_90
        · have h := h.2 c4
          refine lv_bipush (v := 18) hx hb dX1_faultOf_84 (by decide) ?_
          refine lv_goto (tgt := 90) hx hb dX1_faultOf_86 (by decide) ?_
          exact W.iret (v := 18) hx hb hr (fun t ht hW => ⟨⟨18, S, rfl, h, by rw [ht]; exact hP, va_K.moved hW.alike hK, hD⟩, hS.F ht⟩) hS.2.2 dX1_faultOf_90
      have h := h.2
      by_cases c3_9 : p0 = 9
      · have h := h.1 c3_9
        refine sw_in c3_9 ?_
        refine lv_lookup (off := 76) (tgt := 91) hx hb dX1_faultOf_15 (by decide) (by decide) (by decide) ?_
        refine lv_aload_n hx hb dX1_faultOf_91 rfl (lv_at hl 0 rfl) ?_
        refine va_get (D := D) (ci := 1) (v := .int (S.1 6)) (C := RX1) (T := TX1) (N := 14) hx hb hts inX1 hown hK hP 0 rfl rfl 6 (by decide) (hts _ q_296) (fun _ h9 => h9) rfl dX1_faultOf_92 ?_
        refine lv_bipush (v := 96) hx hb dX1_faultOf_95 (by decide) ?_
        refine lv_icmp_lt (tgt := 105) hx hb dX1_faultOf_97 (by decide) (fun c5 => ?_) (fun c5 => ?_)
        · have h := h.1 c5
          refine lv_iconst (v := -1) hx hb dX1_faultOf_105 (by decide) ?_
          exact W.iret (v := (-1)) hx hb hr (fun t ht hW => ⟨⟨(-1), S, rfl, h, by rw [ht]; exact hP, va_K.moved hW.alike hK, hD⟩, hS.F ht⟩) hS.2.2 dX1_faultOf_106
        · have h := h.2 c5
          refine lv_bipush (v := 19) hx hb dX1_faultOf_100 (by decide) ?_
          refine lv_goto (tgt := 106) hx hb dX1_faultOf_102 (by decide) ?_
          exact W.iret (v := 19) hx hb hr (fun t ht hW => ⟨⟨19, S, rfl, h, by rw [ht]; exact hP, va_K.moved hW.alike hK, hD⟩, hS.F ht⟩) hS.2.2 dX1_faultOf_106
      have h := h.2
      by_cases c3_10 : p0 = 10
      · have h := h.1 c3_10
        refine sw_in c3_10 ?_
        refine lv_lookup (off := 92) (tgt := 107) hx hb dX1_faultOf_15 (by decide) (by decide) (by decide) ?_
        refine lv_aload_n hx hb dX1_faultOf_107 rfl (lv_at hl 0 rfl) ?_
        refine va_get (D := D) (ci := 1) (v := .int (S.1 6)) (C := RX1) (T := TX1) (N := 14) hx hb hts inX1 hown hK hP 0 rfl rfl 6 (by decide) (hts _ q_296) (fun _ h9 => h9) rfl dX1_faultOf_108 ?_
        refine lv_iconst (v := 1) hx hb dX1_faultOf_111 (by decide) ?_
        refine lv_icmp_ge (tgt := 120) hx hb dX1_faultOf_112 (by decide) (fun c6 => ?_) (fun c6 => ?_)
        · have h := h.1 c6
          refine lv_iconst (v := -1) hx hb dX1_faultOf_120 (by decide) ?_
          exact W.iret (v := (-1)) hx hb hr (fun t ht hW => ⟨⟨(-1), S, rfl, h, by rw [ht]; exact hP, va_K.moved hW.alike hK, hD⟩, hS.F ht⟩) hS.2.2 dX1_faultOf_121
        · have h := h.2 c6
          refine lv_bipush (v := 19) hx hb dX1_faultOf_115 (by decide) ?_
          refine lv_goto (tgt := 121) hx hb dX1_faultOf_117 (by decide) ?_
          exact W.iret (v := 19) hx hb hr (fun t ht hW => ⟨⟨19, S, rfl, h, by rw [ht]; exact hP, va_K.moved hW.alike hK, hD⟩, hS.F ht⟩) hS.2.2 dX1_faultOf_121
      have h := h.2
      by_cases c3_21 : p0 = 21
      · have h := h.1 c3_21
        refine sw_in c3_21 ?_
        refine lv_lookup (off := 107) (tgt := 122) hx hb dX1_faultOf_15 (by decide) (by decide) (by decide) ?_
        refine lv_aload_n hx hb dX1_faultOf_122 rfl (lv_at hl 0 rfl) ?_
        refine va_get (D := D) (ci := 1) (v := .ref (a 2)) (C := RX1) (T := TX1) (N := 14) hx hb hts inX1 hown hK hP 0 rfl rfl 2 (by decide) (hts _ q_287) (fun _ h9 => h9) rfl dX1_faultOf_123 ?_
        refine lv_iload_n hx hb dX1_faultOf_126 rfl (lv_at hl 2 rfl) ?_
        refine lv_iconst (v := 3) hx hb dX1_faultOf_127 (by decide) ?_
        refine lv_iand hx hb dX1_faultOf_128 ?_
        refine ar_il (f := (S.2 2)) (n := 4) (j := (Int32.toNatClampNeg (p1 &&& 3))) hx hb hK hP 2 rfl rfl h.1 dX1_faultOf_129 ?_
        have h := h.2
        refine lv_aload_n hx hb dX1_faultOf_130 rfl (lv_at hl 0 rfl) ?_
        refine va_get (D := D) (ci := 1) (v := .ref (a 2)) (C := RX1) (T := TX1) (N := 14) hx hb hts inX1 hown hK hP 0 rfl rfl 2 (by decide) (hts _ q_287) (fun _ h9 => h9) rfl dX1_faultOf_131 ?_
        refine lv_iload_n hx hb dX1_faultOf_134 rfl (lv_at hl 3 rfl) ?_
        refine lv_iconst (v := 3) hx hb dX1_faultOf_135 (by decide) ?_
        refine lv_iand hx hb dX1_faultOf_136 ?_
        refine ar_il (f := (S.2 2)) (n := 4) (j := (Int32.toNatClampNeg (p2 &&& 3))) hx hb hK hP 2 rfl rfl h.1 dX1_faultOf_137 ?_
        have h := h.2
        refine cl_i (ws' := fun u7 => (wX1 cI cZ a S)) (va_runS (As := [.int ((S.2 2) (Int32.toNatClampNeg (p1 &&& 3))), .int ((S.2 2) (Int32.toNatClampNeg (p2 &&& 3)))]) (rest := []) ⟨hx, hb, hml, hown, hts⟩ (c_X4_sum l D cI cZ _ () ((S.2 2) (Int32.toNatClampNeg (p1 &&& 3))) ((S.2 2) (Int32.toNatClampNeg (p2 &&& 3))) _ h ) (va_cwS 2 hts (gS q_579 q_580 q_76 q_581) rfl rfl rfl (by decide +kernel) ⟨Nat.le_of_ble_eq_true rfl, Nat.le_of_ble_eq_true rfl⟩) (preS_of hK hP hD [] rfl rfl (by decide)) rfl rfl hl.1 rfl (lv_room (Nat.le_of_ble_eq_true rfl)) dX1_faultOf_138 ⟨Nat.zero_le _, Nat.zero_le _⟩) hP hD hS hA [] [.inr 0, .inr 1, .inr 2, .inr 3, .inr 4] rfl (by decide) (fun _ => rfl) (fun _ => rfl) (fun r8 u7 H locs h hP hD hS => ?_)
        refine cl_i (ws' := fun u9 => (wX1 cI cZ a S)) (va_runS (As := [.int r8]) (rest := []) ⟨hx, hb, hml, hown, hts⟩ (c_X4_isFinite l D cI cZ _ () r8 _ h ) (va_cwS 1 hts (gS q_604 q_605 q_76 q_606) rfl rfl rfl (by decide +kernel) ⟨Nat.le_of_ble_eq_true rfl, Nat.le_of_ble_eq_true rfl⟩) (preS_of hK hP hD [] rfl rfl (by decide)) rfl rfl hl.1 rfl (lv_room (Nat.le_of_ble_eq_true rfl)) dX1_faultOf_141 ⟨Nat.zero_le _, Nat.zero_le _⟩) hP hD hS hA [] [.inr 0, .inr 1, .inr 2, .inr 3, .inr 4] rfl (by decide) (fun _ => rfl) (fun _ => rfl) (fun r10 u9 H locs h hP hD hS => ?_)
        refine lv_if_eq (tgt := 151) hx hb dX1_faultOf_144 (by decide) (fun c11 => ?_) (fun c11 => ?_)
        · have h := h.1 c11
          refine lv_bipush (v := 18) hx hb dX1_faultOf_151 (by decide) ?_
          exact W.iret (v := 18) hx hb hr (fun t ht hW => ⟨⟨18, S, rfl, h, by rw [ht]; exact hP, va_K.moved hW.alike hK, hD⟩, hS.F ht⟩) hS.2.2 dX1_faultOf_153
        · have h := h.2 c11
          refine lv_iconst (v := -1) hx hb dX1_faultOf_147 (by decide) ?_
          refine lv_goto (tgt := 153) hx hb dX1_faultOf_148 (by decide) ?_
          exact W.iret (v := (-1)) hx hb hr (fun t ht hW => ⟨⟨(-1), S, rfl, h, by rw [ht]; exact hP, va_K.moved hW.alike hK, hD⟩, hS.F ht⟩) hS.2.2 dX1_faultOf_153
      have h := h.2
      by_cases c3_22 : p0 = 22
      · have h := h.1 c3_22
        refine sw_in c3_22 ?_
        refine lv_lookup (off := 139) (tgt := 154) hx hb dX1_faultOf_15 (by decide) (by decide) (by decide) ?_
        refine lv_aload_n hx hb dX1_faultOf_154 rfl (lv_at hl 0 rfl) ?_
        refine va_get (D := D) (ci := 1) (v := .ref (a 2)) (C := RX1) (T := TX1) (N := 14) hx hb hts inX1 hown hK hP 0 rfl rfl 2 (by decide) (hts _ q_287) (fun _ h9 => h9) rfl dX1_faultOf_155 ?_
        refine lv_iload_n hx hb dX1_faultOf_158 rfl (lv_at hl 2 rfl) ?_
        refine lv_iconst (v := 3) hx hb dX1_faultOf_159 (by decide) ?_
        refine lv_iand hx hb dX1_faultOf_160 ?_
        refine ar_il (f := (S.2 2)) (n := 4) (j := (Int32.toNatClampNeg (p1 &&& 3))) hx hb hK hP 2 rfl rfl h.1 dX1_faultOf_161 ?_
        have h := h.2
        refine lv_aload_n hx hb dX1_faultOf_162 rfl (lv_at hl 0 rfl) ?_
        refine va_get (D := D) (ci := 1) (v := .ref (a 2)) (C := RX1) (T := TX1) (N := 14) hx hb hts inX1 hown hK hP 0 rfl rfl 2 (by decide) (hts _ q_287) (fun _ h9 => h9) rfl dX1_faultOf_163 ?_
        refine lv_iload_n hx hb dX1_faultOf_166 rfl (lv_at hl 3 rfl) ?_
        refine lv_iconst (v := 3) hx hb dX1_faultOf_167 (by decide) ?_
        refine lv_iand hx hb dX1_faultOf_168 ?_
        refine ar_il (f := (S.2 2)) (n := 4) (j := (Int32.toNatClampNeg (p2 &&& 3))) hx hb hK hP 2 rfl rfl h.1 dX1_faultOf_169 ?_
        have h := h.2
        refine cl_i (ws' := fun u12 => (wX1 cI cZ a S)) (va_runS (As := [.int ((S.2 2) (Int32.toNatClampNeg (p1 &&& 3))), .int ((S.2 2) (Int32.toNatClampNeg (p2 &&& 3)))]) (rest := []) ⟨hx, hb, hml, hown, hts⟩ (c_X4_product l D cI cZ _ () ((S.2 2) (Int32.toNatClampNeg (p1 &&& 3))) ((S.2 2) (Int32.toNatClampNeg (p2 &&& 3))) _ h ) (va_cwS 2 hts (gS q_607 q_608 q_76 q_609) rfl rfl rfl (by decide +kernel) ⟨Nat.le_of_ble_eq_true rfl, Nat.le_of_ble_eq_true rfl⟩) (preS_of hK hP hD [] rfl rfl (by decide)) rfl rfl hl.1 rfl (lv_room (Nat.le_of_ble_eq_true rfl)) dX1_faultOf_170 ⟨Nat.zero_le _, Nat.zero_le _⟩) hP hD hS hA [] [.inr 0, .inr 1, .inr 2, .inr 3, .inr 4] rfl (by decide) (fun _ => rfl) (fun _ => rfl) (fun r13 u12 H locs h hP hD hS => ?_)
        refine cl_i (ws' := fun u14 => (wX1 cI cZ a S)) (va_runS (As := [.int r13]) (rest := []) ⟨hx, hb, hml, hown, hts⟩ (c_X4_isFinite l D cI cZ _ () r13 _ h ) (va_cwS 1 hts (gS q_604 q_605 q_76 q_606) rfl rfl rfl (by decide +kernel) ⟨Nat.le_of_ble_eq_true rfl, Nat.le_of_ble_eq_true rfl⟩) (preS_of hK hP hD [] rfl rfl (by decide)) rfl rfl hl.1 rfl (lv_room (Nat.le_of_ble_eq_true rfl)) dX1_faultOf_173 ⟨Nat.zero_le _, Nat.zero_le _⟩) hP hD hS hA [] [.inr 0, .inr 1, .inr 2, .inr 3, .inr 4] rfl (by decide) (fun _ => rfl) (fun _ => rfl) (fun r15 u14 H locs h hP hD hS => ?_)
        refine lv_if_eq (tgt := 183) hx hb dX1_faultOf_176 (by decide) (fun c16 => ?_) (fun c16 => ?_)
        · have h := h.1 c16
          refine lv_bipush (v := 18) hx hb dX1_faultOf_183 (by decide) ?_
          exact W.iret (v := 18) hx hb hr (fun t ht hW => ⟨⟨18, S, rfl, h, by rw [ht]; exact hP, va_K.moved hW.alike hK, hD⟩, hS.F ht⟩) hS.2.2 dX1_faultOf_185
        · have h := h.2 c16
          refine lv_iconst (v := -1) hx hb dX1_faultOf_179 (by decide) ?_
          refine lv_goto (tgt := 185) hx hb dX1_faultOf_180 (by decide) ?_
          exact W.iret (v := (-1)) hx hb hr (fun t ht hW => ⟨⟨(-1), S, rfl, h, by rw [ht]; exact hP, va_K.moved hW.alike hK, hD⟩, hS.F ht⟩) hS.2.2 dX1_faultOf_185
      have h := h.2
      by_cases c3_26 : p0 = 26
      · have h := h.1 c3_26
        refine sw_in c3_26 ?_
        refine lv_lookup (off := 171) (tgt := 186) hx hb dX1_faultOf_15 (by decide) (by decide) (by decide) ?_
        refine lv_aload_n hx hb dX1_faultOf_186 rfl (lv_at hl 0 rfl) ?_
        refine va_get (D := D) (ci := 1) (v := .int (S.1 6)) (C := RX1) (T := TX1) (N := 14) hx hb hts inX1 hown hK hP 0 rfl rfl 6 (by decide) (hts _ q_296) (fun _ h9 => h9) rfl dX1_faultOf_187 ?_
        refine lv_iconst (v := 2) hx hb dX1_faultOf_190 (by decide) ?_
        refine lv_icmp_ge (tgt := 199) hx hb dX1_faultOf_191 (by decide) (fun c17 => ?_) (fun c17 => ?_)
        · have h := h.1 c17
          refine lv_iconst (v := -1) hx hb dX1_faultOf_199 (by decide) ?_
          exact W.iret (v := (-1)) hx hb hr (fun t ht hW => ⟨⟨(-1), S, rfl, h, by rw [ht]; exact hP, va_K.moved hW.alike hK, hD⟩, hS.F ht⟩) hS.2.2 dX1_faultOf_200
        · have h := h.2 c17
          refine lv_bipush (v := 19) hx hb dX1_faultOf_194 (by decide) ?_
          refine lv_goto (tgt := 200) hx hb dX1_faultOf_196 (by decide) ?_
          exact W.iret (v := 19) hx hb hr (fun t ht hW => ⟨⟨19, S, rfl, h, by rw [ht]; exact hP, va_K.moved hW.alike hK, hD⟩, hS.F ht⟩) hS.2.2 dX1_faultOf_200
      have h := h.2
      have h := h c3_5 c3_9 c3_10 c3_21 c3_22 c3_26
      refine lv_lookup (off := 186) (tgt := 201) hx hb dX1_faultOf_15 (by decide) ((lv_osw c3_5 (by decide)).trans ((lv_osw c3_9 (by decide)).trans ((lv_osw c3_10 (by decide)).trans ((lv_osw c3_21 (by decide)).trans ((lv_osw c3_22 (by decide)).trans ((lv_osw c3_26 (by decide)).trans rfl)))))) (by decide) ?_
      refine lv_iconst (v := -1) hx hb dX1_faultOf_201 (by decide) ?_
      exact W.iret (v := (-1)) hx hb hr (fun t ht hW => ⟨⟨(-1), S, rfl, h, by rw [ht]; exact hP, va_K.moved hW.alike hK, hD⟩, hS.F ht⟩) hS.2.2 dX1_faultOf_202
    · have h := h.2 c2
      refine lv_bipush (v := 18) hx hb dX1_faultOf_11 (by decide) ?_
      exact W.iret (v := 18) hx hb hr (fun t ht hW => ⟨⟨18, S, rfl, h, by rw [ht]; exact hP, va_K.moved hW.alike hK, hD⟩, hS.F ht⟩) hS.2.2 dX1_faultOf_13
/-! X1_result -/
abbrev rmX1_result : Room := { frames := 0, cells := 0, slots := 0, locals := 0 }
set_option maxHeartbeats 4000000 in
set_option maxRecDepth 100000 in
theorem c_X1_result (l : Launch) (D : va_G) (cI cZ : ClassId) (a : Nat → Nat) (sz : Nat) (S : Ob) (p0 : Int32) (p1 : Int32) (Q : Ob → Prop) (h : wp_X1_result S p0 p1 Q) : Met l yX1_result (wsm yX1_result cX1_result 3 none) rmX1_result (va_Pc [.ref (a 0), .int p0, .int p1] (preW D cI cZ sz (wX1 cI cZ a S))) (va_Qv Q (fun u => atW D cI cZ (va_A (wX1 cI cZ a S) sz) (wX1 cI cZ a u)) (va_A (wX1 cI cZ a S) sz)) 0 0 (va_A (wX1 cI cZ a S) sz) := by
  refine Met.ofW (cc := cX1_result) (maxL := 3) (ret := none) (by decide) rfl ?_
  intro p e s m args below meth c s₁ B hml hv
  obtain ⟨rfl, hsz, hP, hK, hD0⟩ := hv
  have hx := B.exec
  have hb := B.bytes
  have hr := B.returns
  have hts0 := atoms_spec (ws := wsm yX1_result cX1_result 3 none) B.pre
  have hts : ∀ w ∈ lw_all, w.before _ s = true := fun w h => hts0 w (List.mem_cons_of_mem _ h)
  have hown : s.vm.findClass RX1 = some m.cls := findClass_of_methodNamed B.named
  have hlocks := B.notSynchronized
  subst hsz
  have hD := hD0.self (sz := s.heap.size)
  generalize hAe : va_A (wX1 cI cZ a S) s.heap.size = A at hD ⊢
  have hA : ∀ q : Nat, s.heap.size ≤ q → A q := fun q h => by rw [← hAe]; exact Or.inr h
  have hS : va_S A s.heap s.heap [] := va_S.rf
  have hml2 := hml
  have hl := lv_entry ([.ref (a 0), .int p0, .int p1]) (n := 3) (Nat.le_of_ble_eq_true rfl)
  rw [lg_entry_eq]
  generalize (lg_sl ([.ref (a 0), .int p0, .int p1]) ++ List.replicate (3 - (lg_sl ([.ref (a 0), .int p0, .int p1])).length) Slot.unset).toArray = ls at hl ⊢
  have hl : lv_has ls 3 [(0, .ref (a 0)), (1, .int p0), (2, .int p1)] := hl
  unfold wp_X1_result at h
  refine lv_aload_n hx hb dX1_result_0 rfl (lv_at hl 0 rfl) ?_
  refine va_get (D := D) (ci := 1) (v := .ref (a 1)) (C := RX1) (T := TX1) (N := 14) hx hb hts inX1 hown hK hP 0 rfl rfl 1 (by decide) (hts _ q_284) (fun _ h9 => h9) rfl dX1_result_1 ?_
  refine lv_iload_n hx hb dX1_result_4 rfl (lv_at hl 1 rfl) ?_
  refine lv_iload_n hx hb dX1_result_5 rfl (lv_at hl 2 rfl) ?_
  obtain ⟨T1, eT1⟩ : ∃ z : Ob, z = (sa S 1 (upd (S.2 1) (Int32.toNatClampNeg p0) p1)) := ⟨_, rfl⟩
  refine ar_is (f := (S.2 1)) (n := 8) (j := (Int32.toNatClampNeg p0)) (x := p1) hx hb hK hP hD hS 1 rfl rfl h.1 dX1_result_6 (wX1 cI cZ a T1) (by subst eT1; rfl) (fun H locs hP hD hS => ?_)
  have h := h.2
  have h := h T1 eT1
  refine lv_aload_n hx hb dX1_result_7 rfl (lv_at hl 0 rfl) ?_
  refine lv_iload_n hx hb dX1_result_8 rfl (lv_at hl 2 rfl) ?_
  refine lv_if_ne (tgt := 16) hx hb dX1_result_9 (by decide) (fun c2 => ?_) (fun c2 => ?_)
  · have h := h.1 c2
    refine lv_iconst (v := 0) hx hb dX1_result_16 (by decide) ?_
    obtain ⟨T3, eT3⟩ : ∃ z : Ob, z = (si T1 8 0) := ⟨_, rfl⟩
    refine pu_f (ci := 1) (v := .int 0) (ty := .int) (C := RX1) (T := TX1) (N := 14) hx hb hts inX1 tyX1 tyX1_ok nmX1 hown hK hP hD hS 0 rfl rfl 8 (by decide) (hts _ q_301) (fun _ h9 => h9) rfl rfl rfl rfl (Nat.le_of_ble_eq_true rfl) dX1_result_17 (wX1 cI cZ a T3) (by subst eT3; rfl) (fun H locs hP hD hS => ?_)
    have h := h T3 eT3
    refine lv_aload_n hx hb dX1_result_20 rfl (lv_at hl 0 rfl) ?_
    refine lv_iload_n hx hb dX1_result_21 rfl (lv_at hl 2 rfl) ?_
    refine lv_if_ge (tgt := 29) hx hb dX1_result_22 (by decide) (fun c4 => ?_) (fun c4 => ?_)
    · have h := h.1 c4
      refine lv_iconst (v := 0) hx hb dX1_result_29 (by decide) ?_
      obtain ⟨T5, eT5⟩ : ∃ z : Ob, z = (si T3 9 0) := ⟨_, rfl⟩
      refine pu_f (ci := 1) (v := .int 0) (ty := .int) (C := RX1) (T := TX1) (N := 14) hx hb hts inX1 tyX1 tyX1_ok nmX1 hown hK hP hD hS 0 rfl rfl 9 (by decide) (hts _ q_304) (fun _ h9 => h9) rfl rfl rfl rfl (Nat.le_of_ble_eq_true rfl) dX1_result_30 (wX1 cI cZ a T5) (by subst eT5; rfl) (fun H locs hP hD hS => ?_)
      have h := h T5 eT5
      exact W.vret hx hb hr (fun t ht hW => ⟨⟨T5, rfl, h, by rw [ht]; exact hP, va_K.moved hW.alike hK, hD⟩, hS.F ht⟩) hS.2.2 dX1_result_33
    · have h := h.2 c4
      refine lv_iconst (v := 1) hx hb dX1_result_25 (by decide) ?_
      refine lv_goto (tgt := 30) hx hb dX1_result_26 (by decide) ?_
      obtain ⟨T6, eT6⟩ : ∃ z : Ob, z = (si T3 9 1) := ⟨_, rfl⟩
      refine pu_f (ci := 1) (v := .int 1) (ty := .int) (C := RX1) (T := TX1) (N := 14) hx hb hts inX1 tyX1 tyX1_ok nmX1 hown hK hP hD hS 0 rfl rfl 9 (by decide) (hts _ q_304) (fun _ h9 => h9) rfl rfl rfl rfl (Nat.le_of_ble_eq_true rfl) dX1_result_30 (wX1 cI cZ a T6) (by subst eT6; rfl) (fun H locs hP hD hS => ?_)
      have h := h T6 eT6
      exact W.vret hx hb hr (fun t ht hW => ⟨⟨T6, rfl, h, by rw [ht]; exact hP, va_K.moved hW.alike hK, hD⟩, hS.F ht⟩) hS.2.2 dX1_result_33
  · have h := h.2 c2
    refine lv_iconst (v := 1) hx hb dX1_result_12 (by decide) ?_
    refine lv_goto (tgt := 17) hx hb dX1_result_13 (by decide) ?_
    obtain ⟨T7, eT7⟩ : ∃ z : Ob, z = (si T1 8 1) := ⟨_, rfl⟩
    refine pu_f (ci := 1) (v := .int 1) (ty := .int) (C := RX1) (T := TX1) (N := 14) hx hb hts inX1 tyX1 tyX1_ok nmX1 hown hK hP hD hS 0 rfl rfl 8 (by decide) (hts _ q_301) (fun _ h9 => h9) rfl rfl rfl rfl (Nat.le_of_ble_eq_true rfl) dX1_result_17 (wX1 cI cZ a T7) (by subst eT7; rfl) (fun H locs hP hD hS => ?_)
    have h := h T7 eT7
    refine lv_aload_n hx hb dX1_result_20 rfl (lv_at hl 0 rfl) ?_
    refine lv_iload_n hx hb dX1_result_21 rfl (lv_at hl 2 rfl) ?_
    refine lv_if_ge (tgt := 29) hx hb dX1_result_22 (by decide) (fun c8 => ?_) (fun c8 => ?_)
    · have h := h.1 c8
      refine lv_iconst (v := 0) hx hb dX1_result_29 (by decide) ?_
      obtain ⟨T9, eT9⟩ : ∃ z : Ob, z = (si T7 9 0) := ⟨_, rfl⟩
      refine pu_f (ci := 1) (v := .int 0) (ty := .int) (C := RX1) (T := TX1) (N := 14) hx hb hts inX1 tyX1 tyX1_ok nmX1 hown hK hP hD hS 0 rfl rfl 9 (by decide) (hts _ q_304) (fun _ h9 => h9) rfl rfl rfl rfl (Nat.le_of_ble_eq_true rfl) dX1_result_30 (wX1 cI cZ a T9) (by subst eT9; rfl) (fun H locs hP hD hS => ?_)
      have h := h T9 eT9
      exact W.vret hx hb hr (fun t ht hW => ⟨⟨T9, rfl, h, by rw [ht]; exact hP, va_K.moved hW.alike hK, hD⟩, hS.F ht⟩) hS.2.2 dX1_result_33
    · have h := h.2 c8
      refine lv_iconst (v := 1) hx hb dX1_result_25 (by decide) ?_
      refine lv_goto (tgt := 30) hx hb dX1_result_26 (by decide) ?_
      obtain ⟨T10, eT10⟩ : ∃ z : Ob, z = (si T7 9 1) := ⟨_, rfl⟩
      refine pu_f (ci := 1) (v := .int 1) (ty := .int) (C := RX1) (T := TX1) (N := 14) hx hb hts inX1 tyX1 tyX1_ok nmX1 hown hK hP hD hS 0 rfl rfl 9 (by decide) (hts _ q_304) (fun _ h9 => h9) rfl rfl rfl rfl (Nat.le_of_ble_eq_true rfl) dX1_result_30 (wX1 cI cZ a T10) (by subst eT10; rfl) (fun H locs hP hD hS => ?_)
      have h := h T10 eT10
      exact W.vret hx hb hr (fun t ht hW => ⟨⟨T10, rfl, h, by rw [ht]; exact hP, va_K.moved hW.alike hK, hD⟩, hS.F ht⟩) hS.2.2 dX1_result_33
/-! X1_reckon -/
abbrev rmX1_reckon : Room := { frames := 1, cells := 0, slots := 0, locals := 22 }
set_option maxHeartbeats 4000000 in
set_option maxRecDepth 100000 in
theorem c_X1_reckon (l : Launch) (D : va_G) (cI cZ : ClassId) (a : Nat → Nat) (sz : Nat) (S : Ob) (p0 : Int32) (p1 : Int32) (p2 : Int32) (Q : Ob → Prop) (h : wp_X1_reckon S p0 p1 p2 Q) : Met l yX1_reckon (wsm yX1_reckon cX1_reckon 6 none) rmX1_reckon (va_Pc [.ref (a 0), .int p0, .int p1, .int p2] (preW D cI cZ sz (wX1 cI cZ a S))) (va_Qv Q (fun u => atW D cI cZ (va_A (wX1 cI cZ a S) sz) (wX1 cI cZ a u)) (va_A (wX1 cI cZ a S) sz)) 0 0 (va_A (wX1 cI cZ a S) sz) := by
  refine Met.ofW (cc := cX1_reckon) (maxL := 6) (ret := none) (by decide) rfl ?_
  intro p e s m args below meth c s₁ B hml hv
  obtain ⟨rfl, hsz, hP, hK, hD0⟩ := hv
  have hx := B.exec
  have hb := B.bytes
  have hr := B.returns
  have hts0 := atoms_spec (ws := wsm yX1_reckon cX1_reckon 6 none) B.pre
  have hts : ∀ w ∈ lw_all, w.before _ s = true := fun w h => hts0 w (List.mem_cons_of_mem _ h)
  have hown : s.vm.findClass RX1 = some m.cls := findClass_of_methodNamed B.named
  have hlocks := B.notSynchronized
  subst hsz
  have hD := hD0.self (sz := s.heap.size)
  generalize hAe : va_A (wX1 cI cZ a S) s.heap.size = A at hD ⊢
  have hA : ∀ q : Nat, s.heap.size ≤ q → A q := fun q h => by rw [← hAe]; exact Or.inr h
  have hS : va_S A s.heap s.heap [] := va_S.rf
  have hml2 := hml
  have hl := lv_entry ([.ref (a 0), .int p0, .int p1, .int p2]) (n := 6) (Nat.le_of_ble_eq_true rfl)
  rw [lg_entry_eq]
  generalize (lg_sl ([.ref (a 0), .int p0, .int p1, .int p2]) ++ List.replicate (6 - (lg_sl ([.ref (a 0), .int p0, .int p1, .int p2])).length) Slot.unset).toArray = ls at hl ⊢
  have hl : lv_has ls 6 [(0, .ref (a 0)), (1, .int p0), (2, .int p1), (3, .int p2)] := hl
  unfold wp_X1_reckon at h
  refine lv_iload_n hx hb dX1_reckon_0 rfl (lv_at hl 2 rfl) ?_
  refine lv_bipush (v := 7) hx hb dX1_reckon_1 (by decide) ?_
  refine lv_iand hx hb dX1_reckon_3 ?_
  refine lv_topi (fun x1 ex1 => ?_)
  have h := h x1 ex1
  refine lv_istore (lv' := [(4, .int x1), (0, .ref (a 0)), (1, .int p0), (2, .int p1), (3, .int p2)]) hx hb dX1_reckon_4 hl (by decide) rfl (fun ls hl => ?_)
  refine lv_aload_n hx hb dX1_reckon_6 rfl (lv_at hl 1 rfl) ?_
  refine va_get (D := D) (ci := 1) (v := .ref (a 1)) (C := RX1) (T := TX1) (N := 14) hx hb hts inX1 hown hK hP 0 rfl rfl 1 (by decide) (hts _ q_284) (fun _ h9 => h9) rfl dX1_reckon_7 ?_
  refine lv_iload_n hx hb dX1_reckon_10 rfl (lv_at hl 4 rfl) ?_
  refine lv_bipush (v := 7) hx hb dX1_reckon_11 (by decide) ?_
  refine lv_iand hx hb dX1_reckon_13 ?_
  refine ar_il (f := (S.2 1)) (n := 8) (j := (Int32.toNatClampNeg (p2 &&& 7))) hx hb hK hP 1 rfl rfl h.1 dX1_reckon_14 ?_
  have h := h.2
  refine lv_topi (fun x2 ex2 => ?_)
  have h := h x2 ex2
  refine lv_istore (lv' := [(5, .int x2), (4, .int x1), (0, .ref (a 0)), (1, .int p0), (2, .int p1), (3, .int p2)]) hx hb dX1_reckon_15 hl (by decide) rfl (fun ls hl => ?_)
  refine lv_iload_n hx hb dX1_reckon_17 rfl (lv_at hl 3 rfl) ?_
  by_cases c3_1 : p0 = 1
  · have h := h.1 c3_1
    refine sw_in c3_1 ?_
    refine lv_tableIn (tgt := 64) hx hb dX1_reckon_18 (by decide) (by decide) rfl (by decide) ?_
    refine lv_aload_n hx hb dX1_reckon_64 rfl (lv_at hl 2 rfl) ?_
    refine va_get (D := D) (ci := 1) (v := .ref (a 1)) (C := RX1) (T := TX1) (N := 14) hx hb hts inX1 hown hK hP 0 rfl rfl 1 (by decide) (hts _ q_284) (fun _ h9 => h9) rfl dX1_reckon_65 ?_
    refine lv_iload hx hb dX1_reckon_68 (lv_at hl 1 rfl) ?_
    refine lv_iload_n hx hb dX1_reckon_70 rfl (lv_at hl 5 rfl) ?_
    obtain ⟨T4, eT4⟩ : ∃ z : Ob, z = (sa S 1 (upd (S.2 1) (Int32.toNatClampNeg x1) p2)) := ⟨_, rfl⟩
    refine ar_is (f := (S.2 1)) (n := 8) (j := (Int32.toNatClampNeg x1)) (x := p2) hx hb hK hP hD hS 1 rfl rfl h.1 dX1_reckon_71 (wX1 cI cZ a T4) (by subst eT4; rfl) (fun H locs hP hD hS => ?_)
    have h := h.2
    have h := h T4 eT4
    refine lv_goto (tgt := 234) hx hb dX1_reckon_72 (by decide) ?_
    exact W.vret hx hb hr (fun t ht hW => ⟨⟨T4, rfl, h, by rw [ht]; exact hP, va_K.moved hW.alike hK, hD⟩, hS.F ht⟩) hS.2.2 dX1_reckon_234
  have h := h.2
  by_cases c3_2 : p0 = 2
  · have h := h.1 c3_2
    refine sw_in c3_2 ?_
    refine lv_tableIn (tgt := 75) hx hb dX1_reckon_18 (by decide) (by decide) rfl (by decide) ?_
    refine lv_aload_n hx hb dX1_reckon_75 rfl (lv_at hl 2 rfl) ?_
    refine lv_iload hx hb dX1_reckon_76 (lv_at hl 1 rfl) ?_
    refine lv_aload_n hx hb dX1_reckon_78 rfl (lv_at hl 2 rfl) ?_
    refine va_get (D := D) (ci := 1) (v := .ref (a 1)) (C := RX1) (T := TX1) (N := 14) hx hb hts inX1 hown hK hP 0 rfl rfl 1 (by decide) (hts _ q_284) (fun _ h9 => h9) rfl dX1_reckon_79 ?_
    refine lv_iload hx hb dX1_reckon_82 (lv_at hl 1 rfl) ?_
    refine ar_il (f := (S.2 1)) (n := 8) (j := (Int32.toNatClampNeg x1)) hx hb hK hP 1 rfl rfl h.1 dX1_reckon_84 ?_
    have h := h.2
    refine lv_iload hx hb dX1_reckon_85 (lv_at hl 0 rfl) ?_
    refine lv_iadd hx hb dX1_reckon_87 ?_
    refine cl_v (ws' := fun u5 => (wX1 cI cZ a u5)) (va_runV (As := [.int x1, .int (((S.2 1) (Int32.toNatClampNeg x1)) + x2)]) (rest := []) ⟨hx, hb, hml, hown, hts⟩ (c_X1_result l D cI cZ a _ S x1 (((S.2 1) (Int32.toNatClampNeg x1)) + x2) _ h ) (cwV 2 hts (gV q_627 q_629 q_6 q_73 q_630) rfl rfl rfl (by decide +kernel) ⟨Nat.le_of_ble_eq_true rfl, Nat.le_of_ble_eq_true rfl⟩) (preV_of (ci := 1) (q := (RX1, TX1, 14)) hK hP hD [0, 1, 2, 3, 4] rfl rfl (by decide) 0 rfl rfl) rfl rfl hl.1 rfl (lv_room (Nat.le_of_ble_eq_true rfl)) dX1_reckon_88 ⟨Nat.zero_le _, Nat.zero_le _⟩) hP hD hS hA [0, 1, 2, 3, 4] [.inl 0, .inl 1, .inl 2, .inl 3, .inl 4] rfl (by decide) (fun _ => rfl) (fun _ => rfl) (fun u5 H locs h hP hD hS => ?_)
    refine lv_goto (tgt := 234) hx hb dX1_reckon_91 (by decide) ?_
    exact W.vret hx hb hr (fun t ht hW => ⟨⟨u5, rfl, h, by rw [ht]; exact hP, va_K.moved hW.alike hK, hD⟩, hS.F ht⟩) hS.2.2 dX1_reckon_234
  have h := h.2
  by_cases c3_3 : p0 = 3
  · have h := h.1 c3_3
    refine sw_in c3_3 ?_
    refine lv_tableIn (tgt := 94) hx hb dX1_reckon_18 (by decide) (by decide) rfl (by decide) ?_
    refine lv_aload_n hx hb dX1_reckon_94 rfl (lv_at hl 2 rfl) ?_
    refine lv_iload hx hb dX1_reckon_95 (lv_at hl 1 rfl) ?_
    refine lv_aload_n hx hb dX1_reckon_97 rfl (lv_at hl 2 rfl) ?_
    refine va_get (D := D) (ci := 1) (v := .ref (a 1)) (C := RX1) (T := TX1) (N := 14) hx hb hts inX1 hown hK hP 0 rfl rfl 1 (by decide) (hts _ q_284) (fun _ h9 => h9) rfl dX1_reckon_98 ?_
    refine lv_iload hx hb dX1_reckon_101 (lv_at hl 1 rfl) ?_
    refine ar_il (f := (S.2 1)) (n := 8) (j := (Int32.toNatClampNeg x1)) hx hb hK hP 1 rfl rfl h.1 dX1_reckon_103 ?_
    have h := h.2
    refine lv_iload hx hb dX1_reckon_104 (lv_at hl 0 rfl) ?_
    refine lv_isub hx hb dX1_reckon_106 ?_
    refine cl_v (ws' := fun u6 => (wX1 cI cZ a u6)) (va_runV (As := [.int x1, .int (((S.2 1) (Int32.toNatClampNeg x1)) - x2)]) (rest := []) ⟨hx, hb, hml, hown, hts⟩ (c_X1_result l D cI cZ a _ S x1 (((S.2 1) (Int32.toNatClampNeg x1)) - x2) _ h ) (cwV 2 hts (gV q_627 q_629 q_6 q_73 q_630) rfl rfl rfl (by decide +kernel) ⟨Nat.le_of_ble_eq_true rfl, Nat.le_of_ble_eq_true rfl⟩) (preV_of (ci := 1) (q := (RX1, TX1, 14)) hK hP hD [0, 1, 2, 3, 4] rfl rfl (by decide) 0 rfl rfl) rfl rfl hl.1 rfl (lv_room (Nat.le_of_ble_eq_true rfl)) dX1_reckon_107 ⟨Nat.zero_le _, Nat.zero_le _⟩) hP hD hS hA [0, 1, 2, 3, 4] [.inl 0, .inl 1, .inl 2, .inl 3, .inl 4] rfl (by decide) (fun _ => rfl) (fun _ => rfl) (fun u6 H locs h hP hD hS => ?_)
    refine lv_goto (tgt := 234) hx hb dX1_reckon_110 (by decide) ?_
    exact W.vret hx hb hr (fun t ht hW => ⟨⟨u6, rfl, h, by rw [ht]; exact hP, va_K.moved hW.alike hK, hD⟩, hS.F ht⟩) hS.2.2 dX1_reckon_234
  have h := h.2
  by_cases c3_4 : p0 = 4
  · have h := h.1 c3_4
    refine sw_in c3_4 ?_
    refine lv_tableIn (tgt := 113) hx hb dX1_reckon_18 (by decide) (by decide) rfl (by decide) ?_
    refine lv_aload_n hx hb dX1_reckon_113 rfl (lv_at hl 2 rfl) ?_
    refine lv_iload hx hb dX1_reckon_114 (lv_at hl 1 rfl) ?_
    refine lv_aload_n hx hb dX1_reckon_116 rfl (lv_at hl 2 rfl) ?_
    refine va_get (D := D) (ci := 1) (v := .ref (a 1)) (C := RX1) (T := TX1) (N := 14) hx hb hts inX1 hown hK hP 0 rfl rfl 1 (by decide) (hts _ q_284) (fun _ h9 => h9) rfl dX1_reckon_117 ?_
    refine lv_iload hx hb dX1_reckon_120 (lv_at hl 1 rfl) ?_
    refine ar_il (f := (S.2 1)) (n := 8) (j := (Int32.toNatClampNeg x1)) hx hb hK hP 1 rfl rfl h.1 dX1_reckon_122 ?_
    have h := h.2
    refine lv_iload hx hb dX1_reckon_123 (lv_at hl 0 rfl) ?_
    refine lv_imul hx hb dX1_reckon_125 ?_
    refine cl_v (ws' := fun u7 => (wX1 cI cZ a u7)) (va_runV (As := [.int x1, .int (((S.2 1) (Int32.toNatClampNeg x1)) * x2)]) (rest := []) ⟨hx, hb, hml, hown, hts⟩ (c_X1_result l D cI cZ a _ S x1 (((S.2 1) (Int32.toNatClampNeg x1)) * x2) _ h ) (cwV 2 hts (gV q_627 q_629 q_6 q_73 q_630) rfl rfl rfl (by decide +kernel) ⟨Nat.le_of_ble_eq_true rfl, Nat.le_of_ble_eq_true rfl⟩) (preV_of (ci := 1) (q := (RX1, TX1, 14)) hK hP hD [0, 1, 2, 3, 4] rfl rfl (by decide) 0 rfl rfl) rfl rfl hl.1 rfl (lv_room (Nat.le_of_ble_eq_true rfl)) dX1_reckon_126 ⟨Nat.zero_le _, Nat.zero_le _⟩) hP hD hS hA [0, 1, 2, 3, 4] [.inl 0, .inl 1, .inl 2, .inl 3, .inl 4] rfl (by decide) (fun _ => rfl) (fun _ => rfl) (fun u7 H locs h hP hD hS => ?_)
    refine lv_goto (tgt := 234) hx hb dX1_reckon_129 (by decide) ?_
    exact W.vret hx hb hr (fun t ht hW => ⟨⟨u7, rfl, h, by rw [ht]; exact hP, va_K.moved hW.alike hK, hD⟩, hS.F ht⟩) hS.2.2 dX1_reckon_234
  have h := h.2
  by_cases c3_5 : p0 = 5
  · have h := h.1 c3_5
    refine sw_in c3_5 ?_
    refine lv_tableIn (tgt := 132) hx hb dX1_reckon_18 (by decide) (by decide) rfl (by decide) ?_
    refine lv_aload_n hx hb dX1_reckon_132 rfl (lv_at hl 2 rfl) ?_
    refine lv_iload hx hb dX1_reckon_133 (lv_at hl 1 rfl) ?_
    refine lv_iload hx hb dX1_reckon_135 (lv_at hl 0 rfl) ?_
    refine lv_if_ne (tgt := 144) hx hb dX1_reckon_137 (by decide) (fun c8 => ?_) (fun c8 => ?_)
    · have h := h.1 c8
      refine lv_aload_n hx hb dX1_reckon_144 rfl (lv_at hl 2 rfl) ?_
      refine va_get (D := D) (ci := 1) (v := .ref (a 1)) (C := RX1) (T := TX1) (N := 14) hx hb hts inX1 hown hK hP 0 rfl rfl 1 (by decide) (hts _ q_284) (fun _ h9 => h9) rfl dX1_reckon_145 ?_
      refine lv_iload hx hb dX1_reckon_148 (lv_at hl 1 rfl) ?_
      refine ar_il (f := (S.2 1)) (n := 8) (j := (Int32.toNatClampNeg x1)) hx hb hK hP 1 rfl rfl h.1 dX1_reckon_150 ?_
      have h := h.2
      refine lv_iload hx hb dX1_reckon_151 (lv_at hl 0 rfl) ?_
      refine lv_idiv hx hb dX1_reckon_153 h.1 ?_
      have h := h.2
      refine cl_v (ws' := fun u9 => (wX1 cI cZ a u9)) (va_runV (As := [.int x1, .int (((S.2 1) (Int32.toNatClampNeg x1)) / x2)]) (rest := []) ⟨hx, hb, hml, hown, hts⟩ (c_X1_result l D cI cZ a _ S x1 (((S.2 1) (Int32.toNatClampNeg x1)) / x2) _ h ) (cwV 2 hts (gV q_627 q_629 q_6 q_73 q_630) rfl rfl rfl (by decide +kernel) ⟨Nat.le_of_ble_eq_true rfl, Nat.le_of_ble_eq_true rfl⟩) (preV_of (ci := 1) (q := (RX1, TX1, 14)) hK hP hD [0, 1, 2, 3, 4] rfl rfl (by decide) 0 rfl rfl) rfl rfl hl.1 rfl (lv_room (Nat.le_of_ble_eq_true rfl)) dX1_reckon_154 ⟨Nat.zero_le _, Nat.zero_le _⟩) hP hD hS hA [0, 1, 2, 3, 4] [.inl 0, .inl 1, .inl 2, .inl 3, .inl 4] rfl (by decide) (fun _ => rfl) (fun _ => rfl) (fun u9 H locs h hP hD hS => ?_)
      refine lv_goto (tgt := 234) hx hb dX1_reckon_157 (by decide) ?_
      exact W.vret hx hb hr (fun t ht hW => ⟨⟨u9, rfl, h, by rw [ht]; exact hP, va_K.moved hW.alike hK, hD⟩, hS.F ht⟩) hS.2.2 dX1_reckon_234
    · have h := h.2 c8
      refine lv_iconst (v := 0) hx hb dX1_reckon_140 (by decide) ?_
      refine lv_goto (tgt := 154) hx hb dX1_reckon_141 (by decide) ?_
      refine cl_v (ws' := fun u10 => (wX1 cI cZ a u10)) (va_runV (As := [.int x1, .int 0]) (rest := []) ⟨hx, hb, hml, hown, hts⟩ (c_X1_result l D cI cZ a _ S x1 0 _ h ) (cwV 2 hts (gV q_627 q_629 q_6 q_73 q_630) rfl rfl rfl (by decide +kernel) ⟨Nat.le_of_ble_eq_true rfl, Nat.le_of_ble_eq_true rfl⟩) (preV_of (ci := 1) (q := (RX1, TX1, 14)) hK hP hD [0, 1, 2, 3, 4] rfl rfl (by decide) 0 rfl rfl) rfl rfl hl.1 rfl (lv_room (Nat.le_of_ble_eq_true rfl)) dX1_reckon_154 ⟨Nat.zero_le _, Nat.zero_le _⟩) hP hD hS hA [0, 1, 2, 3, 4] [.inl 0, .inl 1, .inl 2, .inl 3, .inl 4] rfl (by decide) (fun _ => rfl) (fun _ => rfl) (fun u10 H locs h hP hD hS => ?_)
      refine lv_goto (tgt := 234) hx hb dX1_reckon_157 (by decide) ?_
      exact W.vret hx hb hr (fun t ht hW => ⟨⟨u10, rfl, h, by rw [ht]; exact hP, va_K.moved hW.alike hK, hD⟩, hS.F ht⟩) hS.2.2 dX1_reckon_234
  have h := h.2
  by_cases c3_6 : p0 = 6
  · have h := h.1 c3_6
    refine sw_in c3_6 ?_
    refine lv_tableIn (tgt := 160) hx hb dX1_reckon_18 (by decide) (by decide) rfl (by decide) ?_
    refine lv_aload_n hx hb dX1_reckon_160 rfl (lv_at hl 2 rfl) ?_
    refine lv_iload hx hb dX1_reckon_161 (lv_at hl 1 rfl) ?_
    refine lv_aload_n hx hb dX1_reckon_163 rfl (lv_at hl 2 rfl) ?_
    refine va_get (D := D) (ci := 1) (v := .ref (a 1)) (C := RX1) (T := TX1) (N := 14) hx hb hts inX1 hown hK hP 0 rfl rfl 1 (by decide) (hts _ q_284) (fun _ h9 => h9) rfl dX1_reckon_164 ?_
    refine lv_iload hx hb dX1_reckon_167 (lv_at hl 1 rfl) ?_
    refine ar_il (f := (S.2 1)) (n := 8) (j := (Int32.toNatClampNeg x1)) hx hb hK hP 1 rfl rfl h.1 dX1_reckon_169 ?_
    have h := h.2
    refine lv_iload hx hb dX1_reckon_170 (lv_at hl 0 rfl) ?_
    refine lv_ixor hx hb dX1_reckon_172 ?_
    refine cl_v (ws' := fun u11 => (wX1 cI cZ a u11)) (va_runV (As := [.int x1, .int (((S.2 1) (Int32.toNatClampNeg x1)) ^^^ x2)]) (rest := []) ⟨hx, hb, hml, hown, hts⟩ (c_X1_result l D cI cZ a _ S x1 (((S.2 1) (Int32.toNatClampNeg x1)) ^^^ x2) _ h ) (cwV 2 hts (gV q_627 q_629 q_6 q_73 q_630) rfl rfl rfl (by decide +kernel) ⟨Nat.le_of_ble_eq_true rfl, Nat.le_of_ble_eq_true rfl⟩) (preV_of (ci := 1) (q := (RX1, TX1, 14)) hK hP hD [0, 1, 2, 3, 4] rfl rfl (by decide) 0 rfl rfl) rfl rfl hl.1 rfl (lv_room (Nat.le_of_ble_eq_true rfl)) dX1_reckon_173 ⟨Nat.zero_le _, Nat.zero_le _⟩) hP hD hS hA [0, 1, 2, 3, 4] [.inl 0, .inl 1, .inl 2, .inl 3, .inl 4] rfl (by decide) (fun _ => rfl) (fun _ => rfl) (fun u11 H locs h hP hD hS => ?_)
    refine lv_goto (tgt := 234) hx hb dX1_reckon_176 (by decide) ?_
    exact W.vret hx hb hr (fun t ht hW => ⟨⟨u11, rfl, h, by rw [ht]; exact hP, va_K.moved hW.alike hK, hD⟩, hS.F ht⟩) hS.2.2 dX1_reckon_234
  have h := h.2
  by_cases c3_7 : p0 = 7
  · have h := h.1 c3_7
    refine sw_in c3_7 ?_
    refine lv_tableIn (tgt := 179) hx hb dX1_reckon_18 (by decide) (by decide) rfl (by decide) ?_
    refine lv_aload_n hx hb dX1_reckon_179 rfl (lv_at hl 2 rfl) ?_
    refine lv_iload hx hb dX1_reckon_180 (lv_at hl 1 rfl) ?_
    refine lv_iload_n hx hb dX1_reckon_182 rfl (lv_at hl 5 rfl) ?_
    refine lv_bipush (v := 32) hx hb dX1_reckon_183 (by decide) ?_
    refine lv_iand hx hb dX1_reckon_185 ?_
    refine lv_if_ne (tgt := 204) hx hb dX1_reckon_186 (by decide) (fun c12 => ?_) (fun c12 => ?_)
    · have h := h.1 c12
      refine lv_aload_n hx hb dX1_reckon_204 rfl (lv_at hl 2 rfl) ?_
      refine va_get (D := D) (ci := 1) (v := .ref (a 1)) (C := RX1) (T := TX1) (N := 14) hx hb hts inX1 hown hK hP 0 rfl rfl 1 (by decide) (hts _ q_284) (fun _ h9 => h9) rfl dX1_reckon_205 ?_
      refine lv_iload hx hb dX1_reckon_208 (lv_at hl 1 rfl) ?_
      refine ar_il (f := (S.2 1)) (n := 8) (j := (Int32.toNatClampNeg x1)) hx hb hK hP 1 rfl rfl h.1 dX1_reckon_210 ?_
      have h := h.2
      refine lv_iload_n hx hb dX1_reckon_211 rfl (lv_at hl 5 rfl) ?_
      refine lv_bipush (v := 31) hx hb dX1_reckon_212 (by decide) ?_
      refine lv_iand hx hb dX1_reckon_214 ?_
      refine lv_ishr hx hb dX1_reckon_215 ?_
      refine cl_v (ws' := fun u13 => (wX1 cI cZ a u13)) (va_runV (As := [.int x1, .int (((S.2 1) (Int32.toNatClampNeg x1)) >>> ((p2 &&& 31) &&& 31))]) (rest := []) ⟨hx, hb, hml, hown, hts⟩ (c_X1_result l D cI cZ a _ S x1 (((S.2 1) (Int32.toNatClampNeg x1)) >>> ((p2 &&& 31) &&& 31)) _ h ) (cwV 2 hts (gV q_627 q_629 q_6 q_73 q_630) rfl rfl rfl (by decide +kernel) ⟨Nat.le_of_ble_eq_true rfl, Nat.le_of_ble_eq_true rfl⟩) (preV_of (ci := 1) (q := (RX1, TX1, 14)) hK hP hD [0, 1, 2, 3, 4] rfl rfl (by decide) 0 rfl rfl) rfl rfl hl.1 rfl (lv_room (Nat.le_of_ble_eq_true rfl)) dX1_reckon_216 ⟨Nat.zero_le _, Nat.zero_le _⟩) hP hD hS hA [0, 1, 2, 3, 4] [.inl 0, .inl 1, .inl 2, .inl 3, .inl 4] rfl (by decide) (fun _ => rfl) (fun _ => rfl) (fun u13 H locs h hP hD hS => ?_)
      refine lv_goto (tgt := 234) hx hb dX1_reckon_219 (by decide) ?_
      exact W.vret hx hb hr (fun t ht hW => ⟨⟨u13, rfl, h, by rw [ht]; exact hP, va_K.moved hW.alike hK, hD⟩, hS.F ht⟩) hS.2.2 dX1_reckon_234
    · have h := h.2 c12
      refine lv_aload_n hx hb dX1_reckon_189 rfl (lv_at hl 2 rfl) ?_
      refine va_get (D := D) (ci := 1) (v := .ref (a 1)) (C := RX1) (T := TX1) (N := 14) hx hb hts inX1 hown hK hP 0 rfl rfl 1 (by decide) (hts _ q_284) (fun _ h9 => h9) rfl dX1_reckon_190 ?_
      refine lv_iload hx hb dX1_reckon_193 (lv_at hl 1 rfl) ?_
      refine ar_il (f := (S.2 1)) (n := 8) (j := (Int32.toNatClampNeg x1)) hx hb hK hP 1 rfl rfl h.1 dX1_reckon_195 ?_
      have h := h.2
      refine lv_iload_n hx hb dX1_reckon_196 rfl (lv_at hl 5 rfl) ?_
      refine lv_bipush (v := 31) hx hb dX1_reckon_197 (by decide) ?_
      refine lv_iand hx hb dX1_reckon_199 ?_
      refine lv_ishl hx hb dX1_reckon_200 ?_
      refine lv_goto (tgt := 216) hx hb dX1_reckon_201 (by decide) ?_
      refine cl_v (ws' := fun u14 => (wX1 cI cZ a u14)) (va_runV (As := [.int x1, .int (((S.2 1) (Int32.toNatClampNeg x1)) <<< ((p2 &&& 31) &&& 31))]) (rest := []) ⟨hx, hb, hml, hown, hts⟩ (c_X1_result l D cI cZ a _ S x1 (((S.2 1) (Int32.toNatClampNeg x1)) <<< ((p2 &&& 31) &&& 31)) _ h ) (cwV 2 hts (gV q_627 q_629 q_6 q_73 q_630) rfl rfl rfl (by decide +kernel) ⟨Nat.le_of_ble_eq_true rfl, Nat.le_of_ble_eq_true rfl⟩) (preV_of (ci := 1) (q := (RX1, TX1, 14)) hK hP hD [0, 1, 2, 3, 4] rfl rfl (by decide) 0 rfl rfl) rfl rfl hl.1 rfl (lv_room (Nat.le_of_ble_eq_true rfl)) dX1_reckon_216 ⟨Nat.zero_le _, Nat.zero_le _⟩) hP hD hS hA [0, 1, 2, 3, 4] [.inl 0, .inl 1, .inl 2, .inl 3, .inl 4] rfl (by decide) (fun _ => rfl) (fun _ => rfl) (fun u14 H locs h hP hD hS => ?_)
      refine lv_goto (tgt := 234) hx hb dX1_reckon_219 (by decide) ?_
      exact W.vret hx hb hr (fun t ht hW => ⟨⟨u14, rfl, h, by rw [ht]; exact hP, va_K.moved hW.alike hK, hD⟩, hS.F ht⟩) hS.2.2 dX1_reckon_234
  have h := h.2
  by_cases c3_8 : p0 = 8
  · have h := h.1 c3_8
    refine sw_in c3_8 ?_
    refine lv_tableIn (tgt := 222) hx hb dX1_reckon_18 (by decide) (by decide) rfl (by decide) ?_
    refine lv_aload_n hx hb dX1_reckon_222 rfl (lv_at hl 2 rfl) ?_
    refine va_get (D := D) (ci := 1) (v := .ref (a 1)) (C := RX1) (T := TX1) (N := 14) hx hb hts inX1 hown hK hP 0 rfl rfl 1 (by decide) (hts _ q_284) (fun _ h9 => h9) rfl dX1_reckon_223 ?_
    refine lv_iload hx hb dX1_reckon_226 (lv_at hl 1 rfl) ?_
    refine lv_iload hx hb dX1_reckon_228 (lv_at hl 0 rfl) ?_
    obtain ⟨T15, eT15⟩ : ∃ z : Ob, z = (sa S 1 (upd (S.2 1) (Int32.toNatClampNeg x1) x2)) := ⟨_, rfl⟩
    refine ar_is (f := (S.2 1)) (n := 8) (j := (Int32.toNatClampNeg x1)) (x := x2) hx hb hK hP hD hS 1 rfl rfl h.1 dX1_reckon_230 (wX1 cI cZ a T15) (by subst eT15; rfl) (fun H locs hP hD hS => ?_)
    have h := h.2
    have h := h T15 eT15
    refine lv_goto (tgt := 234) hx hb dX1_reckon_231 (by decide) ?_
    exact W.vret hx hb hr (fun t ht hW => ⟨⟨T15, rfl, h, by rw [ht]; exact hP, va_K.moved hW.alike hK, hD⟩, hS.F ht⟩) hS.2.2 dX1_reckon_234
  have h := h.2
  have h := h c3_1 c3_2 c3_3 c3_4 c3_5 c3_6 c3_7 c3_8
  refine lv_tableOut (tgt := 234) hx hb dX1_reckon_18 (sw_out (lo := 1) (n := 8) (by decide) (by decide) (fun k hk => ?_)) (by decide) ?_
  · rcases (show k = 0 ∨ k = 1 ∨ k = 2 ∨ k = 3 ∨ k = 4 ∨ k = 5 ∨ k = 6 ∨ k = 7 by omega) with rfl | rfl | rfl | rfl | rfl | rfl | rfl | rfl
    · exact c3_1
    · exact c3_2
    · exact c3_3
    · exact c3_4
    · exact c3_5
    · exact c3_6
    · exact c3_7
    · exact c3_8
  exact W.vret hx hb hr (fun t ht hW => ⟨⟨S, rfl, h, by rw [ht]; exact hP, va_K.moved hW.alike hK, hD⟩, hS.F ht⟩) hS.2.2 dX1_reckon_234
/-! X1_rise -/
abbrev rmX1_rise : Room := { frames := 1, cells := 0, slots := 0, locals := 30 }
set_option maxHeartbeats 4000000 in
set_option maxRecDepth 100000 in
theorem c_X1_rise (l : Launch) (D : va_G) (cI cZ : ClassId) (a : Nat → Nat) (sz : Nat) (S : Ob) (p0 : Int32) (Q : Ob → Prop) (h : wp_X1_rise S p0 Q) : Met l yX1_rise (wsm yX1_rise cX1_rise 2 none) rmX1_rise (va_Pc [.ref (a 0), .int p0] (preW D cI cZ sz (wX1 cI cZ a S))) (va_Qv Q (fun u => atW D cI cZ (va_A (wX1 cI cZ a S) sz) (wX1 cI cZ a u)) (va_A (wX1 cI cZ a S) sz)) 0 0 (va_A (wX1 cI cZ a S) sz) := by
  refine Met.ofW (cc := cX1_rise) (maxL := 2) (ret := none) (by decide) rfl ?_
  intro p e s m args below meth c s₁ B hml hv
  obtain ⟨rfl, hsz, hP, hK, hD0⟩ := hv
  have hx := B.exec
  have hb := B.bytes
  have hr := B.returns
  have hts0 := atoms_spec (ws := wsm yX1_rise cX1_rise 2 none) B.pre
  have hts : ∀ w ∈ lw_all, w.before _ s = true := fun w h => hts0 w (List.mem_cons_of_mem _ h)
  have hown : s.vm.findClass RX1 = some m.cls := findClass_of_methodNamed B.named
  have hlocks := B.notSynchronized
  subst hsz
  have hD := hD0.self (sz := s.heap.size)
  generalize hAe : va_A (wX1 cI cZ a S) s.heap.size = A at hD ⊢
  have hA : ∀ q : Nat, s.heap.size ≤ q → A q := fun q h => by rw [← hAe]; exact Or.inr h
  have hS : va_S A s.heap s.heap [] := va_S.rf
  have hml2 := hml
  have hl := lv_entry ([.ref (a 0), .int p0]) (n := 2) (Nat.le_of_ble_eq_true rfl)
  rw [lg_entry_eq]
  generalize (lg_sl ([.ref (a 0), .int p0]) ++ List.replicate (2 - (lg_sl ([.ref (a 0), .int p0])).length) Slot.unset).toArray = ls at hl ⊢
  have hl : lv_has ls 2 [(0, .ref (a 0)), (1, .int p0)] := hl
  unfold wp_X1_rise at h
  refine lv_aload_n hx hb dX1_rise_0 rfl (lv_at hl 0 rfl) ?_
  refine lv_dup hx hb dX1_rise_1 rfl ?_
  refine va_get (D := D) (ci := 1) (v := .int (S.1 6)) (C := RX1) (T := TX1) (N := 14) hx hb hts inX1 hown hK hP 0 rfl rfl 6 (by decide) (hts _ q_296) (fun _ h9 => h9) rfl dX1_rise_2 ?_
  refine lv_iload_n hx hb dX1_rise_5 rfl (lv_at hl 1 rfl) ?_
  refine lv_iadd hx hb dX1_rise_6 ?_
  obtain ⟨T1, eT1⟩ : ∃ z : Ob, z = (si S 6 ((S.1 6) + p0)) := ⟨_, rfl⟩
  refine pu_f (ci := 1) (v := .int ((S.1 6) + p0)) (ty := .int) (C := RX1) (T := TX1) (N := 14) hx hb hts inX1 tyX1 tyX1_ok nmX1 hown hK hP hD hS 0 rfl rfl 6 (by decide) (hts _ q_296) (fun _ h9 => h9) rfl rfl rfl rfl (Nat.le_of_ble_eq_true rfl) dX1_rise_7 (wX1 cI cZ a T1) (by subst eT1; rfl) (fun H locs hP hD hS => ?_)
  have h := h T1 eT1
  refine lv_aload_n hx hb dX1_rise_10 rfl (lv_at hl 0 rfl) ?_
  refine lv_aload_n hx hb dX1_rise_11 rfl (lv_at hl 0 rfl) ?_
  refine va_get (D := D) (ci := 1) (v := .int (T1.1 7)) (C := RX1) (T := TX1) (N := 14) hx hb hts inX1 hown hK hP 0 rfl rfl 7 (by decide) (hts _ q_299) (fun _ h9 => h9) rfl dX1_rise_12 ?_
  refine lv_aload_n hx hb dX1_rise_15 rfl (lv_at hl 0 rfl) ?_
  refine va_get (D := D) (ci := 1) (v := .int (T1.1 6)) (C := RX1) (T := TX1) (N := 14) hx hb hts inX1 hown hK hP 0 rfl rfl 6 (by decide) (hts _ q_296) (fun _ h9 => h9) rfl dX1_rise_16 ?_
  refine mm_max hx hb hml2 hown (hts _ q_665) (hts _ q_666) (hts _ q_77) (hts _ q_667) (Nat.le_of_ble_eq_true rfl) (Nat.le_of_ble_eq_true rfl) (Nat.zero_le _) (Nat.zero_le _) dX1_rise_19 hl.1 ?_
  refine lv_topi (fun x2 ex2 => ?_)
  have h := h x2 ex2
  obtain ⟨T3, eT3⟩ : ∃ z : Ob, z = (si T1 7 x2) := ⟨_, rfl⟩
  refine pu_f (ci := 1) (v := .int x2) (ty := .int) (C := RX1) (T := TX1) (N := 14) hx hb hts inX1 tyX1 tyX1_ok nmX1 hown hK hP hD hS 0 rfl rfl 7 (by decide) (hts _ q_299) (fun _ h9 => h9) rfl rfl rfl rfl (Nat.le_of_ble_eq_true rfl) dX1_rise_22 (wX1 cI cZ a T3) (by subst eT3; rfl) (fun H locs hP hD hS => ?_)
  have h := h T3 eT3
  exact W.vret hx hb hr (fun t ht hW => ⟨⟨T3, rfl, h, by rw [ht]; exact hP, va_K.moved hW.alike hK, hD⟩, hS.F ht⟩) hS.2.2 dX1_rise_25
/-! X1_push -/
abbrev rmX1_push : Room := { frames := 2, cells := 0, slots := 0, locals := 51 }
set_option maxHeartbeats 4000000 in
set_option maxRecDepth 100000 in
theorem c_X1_push (l : Launch) (D : va_G) (cI cZ : ClassId) (a : Nat → Nat) (sz : Nat) (S : Ob) (p0 : Int32) (Q : Int32 → Ob → Prop) (h : wp_X1_push S p0 Q) : Met l yX1_push (wsm yX1_push cX1_push 2 (some .boolean)) rmX1_push (va_Pc [.ref (a 0), .int p0] (preW D cI cZ sz (wX1 cI cZ a S))) (va_Qi Q (fun u => atW D cI cZ (va_A (wX1 cI cZ a S) sz) (wX1 cI cZ a u)) (va_A (wX1 cI cZ a S) sz)) 0 0 (va_A (wX1 cI cZ a S) sz) := by
  refine Met.ofW (cc := cX1_push) (maxL := 2) (ret := (some .boolean)) (by decide) rfl ?_
  intro p e s m args below meth c s₁ B hml hv
  obtain ⟨rfl, hsz, hP, hK, hD0⟩ := hv
  have hx := B.exec
  have hb := B.bytes
  have hr := B.returns
  have hts0 := atoms_spec (ws := wsm yX1_push cX1_push 2 (some .boolean)) B.pre
  have hts : ∀ w ∈ lw_all, w.before _ s = true := fun w h => hts0 w (List.mem_cons_of_mem _ h)
  have hown : s.vm.findClass RX1 = some m.cls := findClass_of_methodNamed B.named
  have hlocks := B.notSynchronized
  subst hsz
  have hD := hD0.self (sz := s.heap.size)
  generalize hAe : va_A (wX1 cI cZ a S) s.heap.size = A at hD ⊢
  have hA : ∀ q : Nat, s.heap.size ≤ q → A q := fun q h => by rw [← hAe]; exact Or.inr h
  have hS : va_S A s.heap s.heap [] := va_S.rf
  have hml2 := hml
  have hl := lv_entry ([.ref (a 0), .int p0]) (n := 2) (Nat.le_of_ble_eq_true rfl)
  rw [lg_entry_eq]
  generalize (lg_sl ([.ref (a 0), .int p0]) ++ List.replicate (2 - (lg_sl ([.ref (a 0), .int p0])).length) Slot.unset).toArray = ls at hl ⊢
  have hl : lv_has ls 2 [(0, .ref (a 0)), (1, .int p0)] := hl
  unfold wp_X1_push at h
  refine lv_aload_n hx hb dX1_push_0 rfl (lv_at hl 0 rfl) ?_
  refine va_get (D := D) (ci := 1) (v := .int (S.1 6)) (C := RX1) (T := TX1) (N := 14) hx hb hts inX1 hown hK hP 0 rfl rfl 6 (by decide) (hts _ q_296) (fun _ h9 => h9) rfl dX1_push_1 ?_
  refine lv_bipush (v := 96) hx hb dX1_push_4 (by decide) ?_
  refine lv_icmp_lt (tgt := 11) hx hb dX1_push_6 (by decide) (fun c1 => ?_) (fun c1 => ?_)
  · have h := h.1 c1
    refine lv_aload_n hx hb dX1_push_11 rfl (lv_at hl 0 rfl) ?_
    refine va_get (D := D) (ci := 1) (v := .ref (a 4)) (C := RX1) (T := TX1) (N := 14) hx hb hts inX1 hown hK hP 0 rfl rfl 4 (by decide) (hts _ q_291) (fun _ h9 => h9) rfl dX1_push_12 ?_
    refine lv_aload_n hx hb dX1_push_15 rfl (lv_at hl 0 rfl) ?_
    refine va_get (D := D) (ci := 1) (v := .int (S.1 6)) (C := RX1) (T := TX1) (N := 14) hx hb hts inX1 hown hK hP 0 rfl rfl 6 (by decide) (hts _ q_296) (fun _ h9 => h9) rfl dX1_push_16 ?_
    refine lv_iload_n hx hb dX1_push_19 rfl (lv_at hl 1 rfl) ?_
    obtain ⟨T2, eT2⟩ : ∃ z : Ob, z = (sa S 4 (upd (S.2 4) (Int32.toNatClampNeg (S.1 6)) p0)) := ⟨_, rfl⟩
    refine ar_is (f := (S.2 4)) (n := 96) (j := (Int32.toNatClampNeg (S.1 6))) (x := p0) hx hb hK hP hD hS 4 rfl rfl h.1 dX1_push_20 (wX1 cI cZ a T2) (by subst eT2; rfl) (fun H locs hP hD hS => ?_)
    have h := h.2
    have h := h T2 eT2
    refine lv_aload_n hx hb dX1_push_21 rfl (lv_at hl 0 rfl) ?_
    refine lv_iconst (v := 1) hx hb dX1_push_22 (by decide) ?_
    refine cl_v (ws' := fun u3 => (wX1 cI cZ a u3)) (va_runV (As := [.int 1]) (rest := []) ⟨hx, hb, hml, hown, hts⟩ (c_X1_rise l D cI cZ a _ T2 1 _ h ) (cwV 1 hts (gV q_661 q_663 q_8 q_73 q_664) rfl rfl rfl (by decide +kernel) ⟨Nat.le_of_ble_eq_true rfl, Nat.le_of_ble_eq_true rfl⟩) (preV_of (ci := 1) (q := (RX1, TX1, 14)) hK hP hD [0, 1, 2, 3, 4] rfl rfl (by decide) 0 rfl rfl) rfl rfl hl.1 rfl (lv_room (Nat.le_of_ble_eq_true rfl)) dX1_push_23 ⟨Nat.zero_le _, Nat.zero_le _⟩) hP hD hS hA [0, 1, 2, 3, 4] [.inl 0, .inl 1, .inl 2, .inl 3, .inl 4] rfl (by decide) (fun _ => rfl) (fun _ => rfl) (fun u3 H locs h hP hD hS => ?_)
    refine lv_iconst (v := 1) hx hb dX1_push_26 (by decide) ?_
    exact W.zret (ty := .boolean) (v := 1) hx hb hr (narB isB1) (fun t ht hW => ⟨⟨1, u3, rfl, h, by rw [ht]; exact hP, va_K.moved hW.alike hK, hD⟩, hS.F ht⟩) hS.2.2 dX1_push_27
  · have h := h.2 c1
    refine lv_iconst (v := 0) hx hb dX1_push_9 (by decide) ?_
    exact W.zret (ty := .boolean) (v := 0) hx hb hr (narB isB0) (fun t ht hW => ⟨⟨0, S, rfl, h, by rw [ht]; exact hP, va_K.moved hW.alike hK, hD⟩, hS.F ht⟩) hS.2.2 dX1_push_10
/-! X1_pop -/
abbrev rmX1_pop : Room := { frames := 0, cells := 0, slots := 0, locals := 0 }
set_option maxHeartbeats 4000000 in
set_option maxRecDepth 100000 in
theorem c_X1_pop (l : Launch) (D : va_G) (cI cZ : ClassId) (a : Nat → Nat) (sz : Nat) (S : Ob) (Q : Int32 → Ob → Prop) (h : wp_X1_pop S Q) : Met l yX1_pop (wsm yX1_pop cX1_pop 1 (some .int)) rmX1_pop (va_Pc [.ref (a 0)] (preW D cI cZ sz (wX1 cI cZ a S))) (va_Qi Q (fun u => atW D cI cZ (va_A (wX1 cI cZ a S) sz) (wX1 cI cZ a u)) (va_A (wX1 cI cZ a S) sz)) 0 0 (va_A (wX1 cI cZ a S) sz) := by
  refine Met.ofW (cc := cX1_pop) (maxL := 1) (ret := (some .int)) (by decide) rfl ?_
  intro p e s m args below meth c s₁ B hml hv
  obtain ⟨rfl, hsz, hP, hK, hD0⟩ := hv
  have hx := B.exec
  have hb := B.bytes
  have hr := B.returns
  have hts0 := atoms_spec (ws := wsm yX1_pop cX1_pop 1 (some .int)) B.pre
  have hts : ∀ w ∈ lw_all, w.before _ s = true := fun w h => hts0 w (List.mem_cons_of_mem _ h)
  have hown : s.vm.findClass RX1 = some m.cls := findClass_of_methodNamed B.named
  have hlocks := B.notSynchronized
  subst hsz
  have hD := hD0.self (sz := s.heap.size)
  generalize hAe : va_A (wX1 cI cZ a S) s.heap.size = A at hD ⊢
  have hA : ∀ q : Nat, s.heap.size ≤ q → A q := fun q h => by rw [← hAe]; exact Or.inr h
  have hS : va_S A s.heap s.heap [] := va_S.rf
  have hml2 := hml
  have hl := lv_entry ([.ref (a 0)]) (n := 1) (Nat.le_of_ble_eq_true rfl)
  rw [lg_entry_eq]
  generalize (lg_sl ([.ref (a 0)]) ++ List.replicate (1 - (lg_sl ([.ref (a 0)])).length) Slot.unset).toArray = ls at hl ⊢
  have hl : lv_has ls 1 [(0, .ref (a 0))] := hl
  unfold wp_X1_pop at h
  refine lv_aload_n hx hb dX1_pop_0 rfl (lv_at hl 0 rfl) ?_
  refine va_get (D := D) (ci := 1) (v := .int (S.1 6)) (C := RX1) (T := TX1) (N := 14) hx hb hts inX1 hown hK hP 0 rfl rfl 6 (by decide) (hts _ q_296) (fun _ h9 => h9) rfl dX1_pop_1 ?_
  refine lv_iconst (v := 1) hx hb dX1_pop_4 (by decide) ?_
  refine lv_icmp_ge (tgt := 10) hx hb dX1_pop_5 (by decide) (fun c1 => ?_) (fun c1 => ?_)
  · have h := h.1 c1
    refine lv_aload_n hx hb dX1_pop_10 rfl (lv_at hl 0 rfl) ?_
    refine lv_dup hx hb dX1_pop_11 rfl ?_
    refine va_get (D := D) (ci := 1) (v := .int (S.1 6)) (C := RX1) (T := TX1) (N := 14) hx hb hts inX1 hown hK hP 0 rfl rfl 6 (by decide) (hts _ q_296) (fun _ h9 => h9) rfl dX1_pop_12 ?_
    refine lv_iconst (v := 1) hx hb dX1_pop_15 (by decide) ?_
    refine lv_isub hx hb dX1_pop_16 ?_
    obtain ⟨T2, eT2⟩ : ∃ z : Ob, z = (si S 6 ((S.1 6) - 1)) := ⟨_, rfl⟩
    refine pu_f (ci := 1) (v := .int ((S.1 6) - 1)) (ty := .int) (C := RX1) (T := TX1) (N := 14) hx hb hts inX1 tyX1 tyX1_ok nmX1 hown hK hP hD hS 0 rfl rfl 6 (by decide) (hts _ q_296) (fun _ h9 => h9) rfl rfl rfl rfl (Nat.le_of_ble_eq_true rfl) dX1_pop_17 (wX1 cI cZ a T2) (by subst eT2; rfl) (fun H locs hP hD hS => ?_)
    have h := h T2 eT2
    refine lv_aload_n hx hb dX1_pop_20 rfl (lv_at hl 0 rfl) ?_
    refine va_get (D := D) (ci := 1) (v := .ref (a 4)) (C := RX1) (T := TX1) (N := 14) hx hb hts inX1 hown hK hP 0 rfl rfl 4 (by decide) (hts _ q_291) (fun _ h9 => h9) rfl dX1_pop_21 ?_
    refine lv_aload_n hx hb dX1_pop_24 rfl (lv_at hl 0 rfl) ?_
    refine va_get (D := D) (ci := 1) (v := .int (T2.1 6)) (C := RX1) (T := TX1) (N := 14) hx hb hts inX1 hown hK hP 0 rfl rfl 6 (by decide) (hts _ q_296) (fun _ h9 => h9) rfl dX1_pop_25 ?_
    refine ar_il (f := (T2.2 4)) (n := 96) (j := (Int32.toNatClampNeg (T2.1 6))) hx hb hK hP 4 rfl rfl h.1 dX1_pop_28 ?_
    have h := h.2
    exact W.iret (v := ((T2.2 4) (Int32.toNatClampNeg (T2.1 6)))) hx hb hr (fun t ht hW => ⟨⟨((T2.2 4) (Int32.toNatClampNeg (T2.1 6))), T2, rfl, h, by rw [ht]; exact hP, va_K.moved hW.alike hK, hD⟩, hS.F ht⟩) hS.2.2 dX1_pop_29
  · have h := h.2 c1
    refine lv_iconst (v := 0) hx hb dX1_pop_8 (by decide) ?_
    exact W.iret (v := 0) hx hb hr (fun t ht hW => ⟨⟨0, S, rfl, h, by rw [ht]; exact hP, va_K.moved hW.alike hK, hD⟩, hS.F ht⟩) hS.2.2 dX1_pop_9
/-! X1_shiftReturn -/
abbrev rmX1_shiftReturn : Room := { frames := 0, cells := 0, slots := 0, locals := 0 }
set_option maxHeartbeats 4000000 in
set_option maxRecDepth 100000 in
theorem c_X1_shiftReturn (l : Launch) (D : va_G) (cI cZ : ClassId) (a : Nat → Nat) (sz : Nat) (S : Ob) (p0 : Int32) (Q : Ob → Prop) (h : wp_X1_shiftReturn S p0 Q) : Met l yX1_shiftReturn (wsm yX1_shiftReturn cX1_shiftReturn 2 none) rmX1_shiftReturn (va_Pc [.ref (a 0), .int p0] (preW D cI cZ sz (wX1 cI cZ a S))) (va_Qv Q (fun u => atW D cI cZ (va_A (wX1 cI cZ a S) sz) (wX1 cI cZ a u)) (va_A (wX1 cI cZ a S) sz)) 0 0 (va_A (wX1 cI cZ a S) sz) := by
  refine Met.ofW (cc := cX1_shiftReturn) (maxL := 2) (ret := none) (by decide) rfl ?_
  intro p e s m args below meth c s₁ B hml hv
  obtain ⟨rfl, hsz, hP, hK, hD0⟩ := hv
  have hx := B.exec
  have hb := B.bytes
  have hr := B.returns
  have hts0 := atoms_spec (ws := wsm yX1_shiftReturn cX1_shiftReturn 2 none) B.pre
  have hts : ∀ w ∈ lw_all, w.before _ s = true := fun w h => hts0 w (List.mem_cons_of_mem _ h)
  have hown : s.vm.findClass RX1 = some m.cls := findClass_of_methodNamed B.named
  have hlocks := B.notSynchronized
  subst hsz
  have hD := hD0.self (sz := s.heap.size)
  generalize hAe : va_A (wX1 cI cZ a S) s.heap.size = A at hD ⊢
  have hA : ∀ q : Nat, s.heap.size ≤ q → A q := fun q h => by rw [← hAe]; exact Or.inr h
  have hS : va_S A s.heap s.heap [] := va_S.rf
  have hml2 := hml
  have hl := lv_entry ([.ref (a 0), .int p0]) (n := 2) (Nat.le_of_ble_eq_true rfl)
  rw [lg_entry_eq]
  generalize (lg_sl ([.ref (a 0), .int p0]) ++ List.replicate (2 - (lg_sl ([.ref (a 0), .int p0])).length) Slot.unset).toArray = ls at hl ⊢
  have hl : lv_has ls 2 [(0, .ref (a 0)), (1, .int p0)] := hl
  unfold wp_X1_shiftReturn at h
  refine lv_aload_n hx hb dX1_shiftReturn_0 rfl (lv_at hl 0 rfl) ?_
  refine va_get (D := D) (ci := 1) (v := .int (S.1 6)) (C := RX1) (T := TX1) (N := 14) hx hb hts inX1 hown hK hP 0 rfl rfl 6 (by decide) (hts _ q_296) (fun _ h9 => h9) rfl dX1_shiftReturn_1 ?_
  refine lv_iconst (v := 2) hx hb dX1_shiftReturn_4 (by decide) ?_
  refine lv_icmp_lt (tgt := 36) hx hb dX1_shiftReturn_5 (by decide) (fun c1 => ?_) (fun c1 => ?_)
  · have h := h.1 c1
    exact W.vret hx hb hr (fun t ht hW => ⟨⟨S, rfl, h, by rw [ht]; exact hP, va_K.moved hW.alike hK, hD⟩, hS.F ht⟩) hS.2.2 dX1_shiftReturn_36
  · have h := h.2 c1
    refine lv_aload_n hx hb dX1_shiftReturn_8 rfl (lv_at hl 0 rfl) ?_
    refine va_get (D := D) (ci := 1) (v := .ref (a 4)) (C := RX1) (T := TX1) (N := 14) hx hb hts inX1 hown hK hP 0 rfl rfl 4 (by decide) (hts _ q_291) (fun _ h9 => h9) rfl dX1_shiftReturn_9 ?_
    refine lv_aload_n hx hb dX1_shiftReturn_12 rfl (lv_at hl 0 rfl) ?_
    refine va_get (D := D) (ci := 1) (v := .int (S.1 6)) (C := RX1) (T := TX1) (N := 14) hx hb hts inX1 hown hK hP 0 rfl rfl 6 (by decide) (hts _ q_296) (fun _ h9 => h9) rfl dX1_shiftReturn_13 ?_
    refine lv_iconst (v := 2) hx hb dX1_shiftReturn_16 (by decide) ?_
    refine lv_isub hx hb dX1_shiftReturn_17 ?_
    refine lv_aload_n hx hb dX1_shiftReturn_18 rfl (lv_at hl 0 rfl) ?_
    refine va_get (D := D) (ci := 1) (v := .ref (a 4)) (C := RX1) (T := TX1) (N := 14) hx hb hts inX1 hown hK hP 0 rfl rfl 4 (by decide) (hts _ q_291) (fun _ h9 => h9) rfl dX1_shiftReturn_19 ?_
    refine lv_aload_n hx hb dX1_shiftReturn_22 rfl (lv_at hl 0 rfl) ?_
    refine va_get (D := D) (ci := 1) (v := .int (S.1 6)) (C := RX1) (T := TX1) (N := 14) hx hb hts inX1 hown hK hP 0 rfl rfl 6 (by decide) (hts _ q_296) (fun _ h9 => h9) rfl dX1_shiftReturn_23 ?_
    refine lv_iconst (v := 2) hx hb dX1_shiftReturn_26 (by decide) ?_
    refine lv_isub hx hb dX1_shiftReturn_27 ?_
    refine ar_il (f := (S.2 4)) (n := 96) (j := (Int32.toNatClampNeg ((S.1 6) - 2))) hx hb hK hP 4 rfl rfl h.1 dX1_shiftReturn_28 ?_
    have h := h.2
    refine lv_iload_n hx hb dX1_shiftReturn_29 rfl (lv_at hl 1 rfl) ?_
    refine lv_iadd hx hb dX1_shiftReturn_30 ?_
    refine lv_sipush (v := 511) hx hb dX1_shiftReturn_31 (by decide) ?_
    refine lv_iand hx hb dX1_shiftReturn_34 ?_
    obtain ⟨T2, eT2⟩ : ∃ z : Ob, z = (sa S 4 (upd (S.2 4) (Int32.toNatClampNeg ((S.1 6) - 2)) ((((S.2 4) (Int32.toNatClampNeg ((S.1 6) - 2))) + p0) &&& 511))) := ⟨_, rfl⟩
    refine ar_is (f := (S.2 4)) (n := 96) (j := (Int32.toNatClampNeg ((S.1 6) - 2))) (x := ((((S.2 4) (Int32.toNatClampNeg ((S.1 6) - 2))) + p0) &&& 511)) hx hb hK hP hD hS 4 rfl rfl h.1 dX1_shiftReturn_35 (wX1 cI cZ a T2) (by subst eT2; rfl) (fun H locs hP hD hS => ?_)
    have h := h.2
    have h := h T2 eT2
    exact W.vret hx hb hr (fun t ht hW => ⟨⟨T2, rfl, h, by rw [ht]; exact hP, va_K.moved hW.alike hK, hD⟩, hS.F ht⟩) hS.2.2 dX1_shiftReturn_36
/-! X1_move -/
abbrev rmX1_move : Room := { frames := 3, cells := 0, slots := 0, locals := 72 }
set_option maxHeartbeats 4000000 in
set_option maxRecDepth 100000 in
theorem c_X1_move (l : Launch) (D : va_G) (cI cZ : ClassId) (a : Nat → Nat) (sz : Nat) (S : Ob) (p0 : Int32) (p1 : Int32) (p2 : Int32) (Q : Ob → Prop) (h : wp_X1_move S p0 p1 p2 Q) : Met l yX1_move (wsm yX1_move cX1_move 5 none) rmX1_move (va_Pc [.ref (a 0), .int p0, .int p1, .int p2] (preW D cI cZ sz (wX1 cI cZ a S))) (va_Qv Q (fun u => atW D cI cZ (va_A (wX1 cI cZ a S) sz) (wX1 cI cZ a u)) (va_A (wX1 cI cZ a S) sz)) 0 0 (va_A (wX1 cI cZ a S) sz) := by
  refine Met.ofW (cc := cX1_move) (maxL := 5) (ret := none) (by decide) rfl ?_
  intro p e s m args below meth c s₁ B hml hv
  obtain ⟨rfl, hsz, hP, hK, hD0⟩ := hv
  have hx := B.exec
  have hb := B.bytes
  have hr := B.returns
  have hts0 := atoms_spec (ws := wsm yX1_move cX1_move 5 none) B.pre
  have hts : ∀ w ∈ lw_all, w.before _ s = true := fun w h => hts0 w (List.mem_cons_of_mem _ h)
  have hown : s.vm.findClass RX1 = some m.cls := findClass_of_methodNamed B.named
  have hlocks := B.notSynchronized
  subst hsz
  have hD := hD0.self (sz := s.heap.size)
  generalize hAe : va_A (wX1 cI cZ a S) s.heap.size = A at hD ⊢
  have hA : ∀ q : Nat, s.heap.size ≤ q → A q := fun q h => by rw [← hAe]; exact Or.inr h
  have hS : va_S A s.heap s.heap [] := va_S.rf
  have hml2 := hml
  have hl := lv_entry ([.ref (a 0), .int p0, .int p1, .int p2]) (n := 5) (Nat.le_of_ble_eq_true rfl)
  rw [lg_entry_eq]
  generalize (lg_sl ([.ref (a 0), .int p0, .int p1, .int p2]) ++ List.replicate (5 - (lg_sl ([.ref (a 0), .int p0, .int p1, .int p2])).length) Slot.unset).toArray = ls at hl ⊢
  have hl : lv_has ls 5 [(0, .ref (a 0)), (1, .int p0), (2, .int p1), (3, .int p2)] := hl
  unfold wp_X1_move at h
  refine lv_sipush (v := 256) hx hb dX1_move_0 (by decide) ?_
  refine lv_iload_n hx hb dX1_move_3 rfl (lv_at hl 2 rfl) ?_
  refine lv_imul hx hb dX1_move_4 ?_
  refine lv_iload_n hx hb dX1_move_5 rfl (lv_at hl 3 rfl) ?_
  refine lv_iadd hx hb dX1_move_6 ?_
  refine lv_sipush (v := 511) hx hb dX1_move_7 (by decide) ?_
  refine lv_iand hx hb dX1_move_10 ?_
  refine lv_topi (fun x1 ex1 => ?_)
  have h := h x1 ex1
  refine lv_istore (lv' := [(4, .int x1), (0, .ref (a 0)), (1, .int p0), (2, .int p1), (3, .int p2)]) hx hb dX1_move_11 hl (by decide) rfl (fun ls hl => ?_)
  refine lv_iload_n hx hb dX1_move_13 rfl (lv_at hl 2 rfl) ?_
  by_cases c2_9 : p0 = 9
  · have h := h.1 c2_9
    refine sw_in c2_9 ?_
    refine lv_tableIn (tgt := 112) hx hb dX1_move_14 (by decide) (by decide) rfl (by decide) ?_
    refine lv_aload_n hx hb dX1_move_112 rfl (lv_at hl 1 rfl) ?_
    refine lv_aload_n hx hb dX1_move_113 rfl (lv_at hl 1 rfl) ?_
    refine va_get (D := D) (ci := 1) (v := .ref (a 1)) (C := RX1) (T := TX1) (N := 14) hx hb hts inX1 hown hK hP 0 rfl rfl 1 (by decide) (hts _ q_284) (fun _ h9 => h9) rfl dX1_move_114 ?_
    refine lv_iload_n hx hb dX1_move_117 rfl (lv_at hl 3 rfl) ?_
    refine lv_bipush (v := 7) hx hb dX1_move_118 (by decide) ?_
    refine lv_iand hx hb dX1_move_120 ?_
    refine ar_il (f := (S.2 1)) (n := 8) (j := (Int32.toNatClampNeg (p1 &&& 7))) hx hb hK hP 1 rfl rfl h.1 dX1_move_121 ?_
    have h := h.2
    refine cl_i (ws' := fun u3 => (wX1 cI cZ a u3)) (va_runV (As := [.int ((S.2 1) (Int32.toNatClampNeg (p1 &&& 7)))]) (rest := []) ⟨hx, hb, hml, hown, hts⟩ (c_X1_push l D cI cZ a _ S ((S.2 1) (Int32.toNatClampNeg (p1 &&& 7))) _ h ) (cwV 1 hts (gV q_657 q_658 q_659 q_73 q_660) rfl rfl rfl (by decide +kernel) ⟨Nat.le_of_ble_eq_true rfl, Nat.le_of_ble_eq_true rfl⟩) (preV_of (ci := 1) (q := (RX1, TX1, 14)) hK hP hD [0, 1, 2, 3, 4] rfl rfl (by decide) 0 rfl rfl) rfl rfl hl.1 rfl (lv_room (Nat.le_of_ble_eq_true rfl)) dX1_move_122 ⟨Nat.zero_le _, Nat.zero_le _⟩) hP hD hS hA [0, 1, 2, 3, 4] [.inl 0, .inl 1, .inl 2, .inl 3, .inl 4] rfl (by decide) (fun _ => rfl) (fun _ => rfl) (fun r4 u3 H locs h hP hD hS => ?_)
    refine lv_pop hx hb dX1_move_125 rfl ?_
    refine lv_goto (tgt := 252) hx hb dX1_move_126 (by decide) ?_
    exact W.vret hx hb hr (fun t ht hW => ⟨⟨u3, rfl, h, by rw [ht]; exact hP, va_K.moved hW.alike hK, hD⟩, hS.F ht⟩) hS.2.2 dX1_move_252
  have h := h.2
  by_cases c2_10 : p0 = 10
  · have h := h.1 c2_10
    refine sw_in c2_10 ?_
    refine lv_tableIn (tgt := 129) hx hb dX1_move_14 (by decide) (by decide) rfl (by decide) ?_
    refine lv_aload_n hx hb dX1_move_129 rfl (lv_at hl 1 rfl) ?_
    refine va_get (D := D) (ci := 1) (v := .ref (a 1)) (C := RX1) (T := TX1) (N := 14) hx hb hts inX1 hown hK hP 0 rfl rfl 1 (by decide) (hts _ q_284) (fun _ h9 => h9) rfl dX1_move_130 ?_
    refine lv_iload_n hx hb dX1_move_133 rfl (lv_at hl 3 rfl) ?_
    refine lv_bipush (v := 7) hx hb dX1_move_134 (by decide) ?_
    refine lv_iand hx hb dX1_move_136 ?_
    refine lv_aload_n hx hb dX1_move_137 rfl (lv_at hl 1 rfl) ?_
    refine cl_i (ws' := fun u5 => (wX1 cI cZ a u5)) (va_runV (As := []) (rest := [.int (p1 &&& 7), .ref (a 1)]) ⟨hx, hb, hml, hown, hts⟩ (c_X1_pop l D cI cZ a _ S _ h ) (cwV 0 hts (gV q_668 q_670 q_9 q_73 q_671) rfl rfl rfl (by decide +kernel) ⟨Nat.le_of_ble_eq_true rfl, Nat.le_of_ble_eq_true rfl⟩) (preV_of (ci := 1) (q := (RX1, TX1, 14)) hK hP hD [0, 1, 2, 3, 4] rfl rfl (by decide) 0 rfl rfl) rfl rfl hl.1 rfl (lv_room (Nat.le_of_ble_eq_true rfl)) dX1_move_138 ⟨Nat.zero_le _, Nat.zero_le _⟩) hP hD hS hA [0, 1, 2, 3, 4] [.inl 0, .inl 1, .inl 2, .inl 3, .inl 4] rfl (by decide) (fun _ => rfl) (fun _ => rfl) (fun r6 u5 H locs h hP hD hS => ?_)
    obtain ⟨T7, eT7⟩ : ∃ z : Ob, z = (sa u5 1 (upd (u5.2 1) (Int32.toNatClampNeg (p1 &&& 7)) r6)) := ⟨_, rfl⟩
    refine ar_is (f := (u5.2 1)) (n := 8) (j := (Int32.toNatClampNeg (p1 &&& 7))) (x := r6) hx hb hK hP hD hS 1 rfl rfl h.1 dX1_move_141 (wX1 cI cZ a T7) (by subst eT7; rfl) (fun H locs hP hD hS => ?_)
    have h := h.2
    have h := h T7 eT7
    refine lv_goto (tgt := 252) hx hb dX1_move_142 (by decide) ?_
    exact W.vret hx hb hr (fun t ht hW => ⟨⟨T7, rfl, h, by rw [ht]; exact hP, va_K.moved hW.alike hK, hD⟩, hS.F ht⟩) hS.2.2 dX1_move_252
  have h := h.2
  by_cases c2_11 : p0 = 11
  · have h := h.1 c2_11
    refine sw_in c2_11 ?_
    refine lv_tableIn (tgt := 145) hx hb dX1_move_14 (by decide) (by decide) rfl (by decide) ?_
    refine lv_aload_n hx hb dX1_move_145 rfl (lv_at hl 1 rfl) ?_
    refine lv_iload hx hb dX1_move_146 (lv_at hl 0 rfl) ?_
    obtain ⟨T8, eT8⟩ : ∃ z : Ob, z = (si S 5 x1) := ⟨_, rfl⟩
    refine pu_f (ci := 1) (v := .int x1) (ty := .int) (C := RX1) (T := TX1) (N := 14) hx hb hts inX1 tyX1 tyX1_ok nmX1 hown hK hP hD hS 0 rfl rfl 5 (by decide) (hts _ q_293) (fun _ h9 => h9) rfl rfl rfl rfl (Nat.le_of_ble_eq_true rfl) dX1_move_148 (wX1 cI cZ a T8) (by subst eT8; rfl) (fun H locs hP hD hS => ?_)
    have h := h T8 eT8
    refine lv_goto (tgt := 252) hx hb dX1_move_151 (by decide) ?_
    exact W.vret hx hb hr (fun t ht hW => ⟨⟨T8, rfl, h, by rw [ht]; exact hP, va_K.moved hW.alike hK, hD⟩, hS.F ht⟩) hS.2.2 dX1_move_252
  have h := h.2
  by_cases c2_12 : p0 = 12
  · have h := h.1 c2_12
    refine sw_in c2_12 ?_
    refine lv_tableIn (tgt := 154) hx hb dX1_move_14 (by decide) (by decide) rfl (by decide) ?_
    refine lv_aload_n hx hb dX1_move_154 rfl (lv_at hl 1 rfl) ?_
    refine lv_aload_n hx hb dX1_move_155 rfl (lv_at hl 1 rfl) ?_
    refine va_get (D := D) (ci := 1) (v := .int (S.1 8)) (C := RX1) (T := TX1) (N := 14) hx hb hts inX1 hown hK hP 0 rfl rfl 8 (by decide) (hts _ q_301) (fun _ h9 => h9) rfl dX1_move_156 ?_
    refine lv_iconst (v := 1) hx hb dX1_move_159 (by decide) ?_
    refine lv_icmp_ne (tgt := 168) hx hb dX1_move_160 (by decide) (fun c9 => ?_) (fun c9 => ?_)
    · have h := h.1 c9
      refine lv_aload_n hx hb dX1_move_168 rfl (lv_at hl 1 rfl) ?_
      refine va_get (D := D) (ci := 1) (v := .int (S.1 5)) (C := RX1) (T := TX1) (N := 14) hx hb hts inX1 hown hK hP 0 rfl rfl 5 (by decide) (hts _ q_293) (fun _ h9 => h9) rfl dX1_move_169 ?_
      obtain ⟨T10, eT10⟩ : ∃ z : Ob, z = (si S 5 (S.1 5)) := ⟨_, rfl⟩
      refine pu_f (ci := 1) (v := .int (S.1 5)) (ty := .int) (C := RX1) (T := TX1) (N := 14) hx hb hts inX1 tyX1 tyX1_ok nmX1 hown hK hP hD hS 0 rfl rfl 5 (by decide) (hts _ q_293) (fun _ h9 => h9) rfl rfl rfl rfl (Nat.le_of_ble_eq_true rfl) dX1_move_172 (wX1 cI cZ a T10) (by subst eT10; rfl) (fun H locs hP hD hS => ?_)
      have h := h T10 eT10
      refine lv_goto (tgt := 252) hx hb dX1_move_175 (by decide) ?_
      exact W.vret hx hb hr (fun t ht hW => ⟨⟨T10, rfl, h, by rw [ht]; exact hP, va_K.moved hW.alike hK, hD⟩, hS.F ht⟩) hS.2.2 dX1_move_252
    · have h := h.2 c9
      refine lv_iload hx hb dX1_move_163 (lv_at hl 0 rfl) ?_
      refine lv_goto (tgt := 172) hx hb dX1_move_165 (by decide) ?_
      obtain ⟨T11, eT11⟩ : ∃ z : Ob, z = (si S 5 x1) := ⟨_, rfl⟩
      refine pu_f (ci := 1) (v := .int x1) (ty := .int) (C := RX1) (T := TX1) (N := 14) hx hb hts inX1 tyX1 tyX1_ok nmX1 hown hK hP hD hS 0 rfl rfl 5 (by decide) (hts _ q_293) (fun _ h9 => h9) rfl rfl rfl rfl (Nat.le_of_ble_eq_true rfl) dX1_move_172 (wX1 cI cZ a T11) (by subst eT11; rfl) (fun H locs hP hD hS => ?_)
      have h := h T11 eT11
      refine lv_goto (tgt := 252) hx hb dX1_move_175 (by decide) ?_
      exact W.vret hx hb hr (fun t ht hW => ⟨⟨T11, rfl, h, by rw [ht]; exact hP, va_K.moved hW.alike hK, hD⟩, hS.F ht⟩) hS.2.2 dX1_move_252
  have h := h.2
  by_cases c2_13 : p0 = 13
  · have h := h.1 c2_13
    refine sw_in c2_13 ?_
    refine lv_tableIn (tgt := 178) hx hb dX1_move_14 (by decide) (by decide) rfl (by decide) ?_
    refine lv_aload_n hx hb dX1_move_178 rfl (lv_at hl 1 rfl) ?_
    refine lv_aload_n hx hb dX1_move_179 rfl (lv_at hl 1 rfl) ?_
    refine va_get (D := D) (ci := 1) (v := .int (S.1 9)) (C := RX1) (T := TX1) (N := 14) hx hb hts inX1 hown hK hP 0 rfl rfl 9 (by decide) (hts _ q_304) (fun _ h9 => h9) rfl dX1_move_180 ?_
    refine lv_iconst (v := 1) hx hb dX1_move_183 (by decide) ?_
    refine lv_icmp_ne (tgt := 192) hx hb dX1_move_184 (by decide) (fun c12 => ?_) (fun c12 => ?_)
    · have h := h.1 c12
      refine lv_aload_n hx hb dX1_move_192 rfl (lv_at hl 1 rfl) ?_
      refine va_get (D := D) (ci := 1) (v := .int (S.1 5)) (C := RX1) (T := TX1) (N := 14) hx hb hts inX1 hown hK hP 0 rfl rfl 5 (by decide) (hts _ q_293) (fun _ h9 => h9) rfl dX1_move_193 ?_
      obtain ⟨T13, eT13⟩ : ∃ z : Ob, z = (si S 5 (S.1 5)) := ⟨_, rfl⟩
      refine pu_f (ci := 1) (v := .int (S.1 5)) (ty := .int) (C := RX1) (T := TX1) (N := 14) hx hb hts inX1 tyX1 tyX1_ok nmX1 hown hK hP hD hS 0 rfl rfl 5 (by decide) (hts _ q_293) (fun _ h9 => h9) rfl rfl rfl rfl (Nat.le_of_ble_eq_true rfl) dX1_move_196 (wX1 cI cZ a T13) (by subst eT13; rfl) (fun H locs hP hD hS => ?_)
      have h := h T13 eT13
      refine lv_goto (tgt := 252) hx hb dX1_move_199 (by decide) ?_
      exact W.vret hx hb hr (fun t ht hW => ⟨⟨T13, rfl, h, by rw [ht]; exact hP, va_K.moved hW.alike hK, hD⟩, hS.F ht⟩) hS.2.2 dX1_move_252
    · have h := h.2 c12
      refine lv_iload hx hb dX1_move_187 (lv_at hl 0 rfl) ?_
      refine lv_goto (tgt := 196) hx hb dX1_move_189 (by decide) ?_
      obtain ⟨T14, eT14⟩ : ∃ z : Ob, z = (si S 5 x1) := ⟨_, rfl⟩
      refine pu_f (ci := 1) (v := .int x1) (ty := .int) (C := RX1) (T := TX1) (N := 14) hx hb hts inX1 tyX1 tyX1_ok nmX1 hown hK hP hD hS 0 rfl rfl 5 (by decide) (hts _ q_293) (fun _ h9 => h9) rfl rfl rfl rfl (Nat.le_of_ble_eq_true rfl) dX1_move_196 (wX1 cI cZ a T14) (by subst eT14; rfl) (fun H locs hP hD hS => ?_)
      have h := h T14 eT14
      refine lv_goto (tgt := 252) hx hb dX1_move_199 (by decide) ?_
      exact W.vret hx hb hr (fun t ht hW => ⟨⟨T14, rfl, h, by rw [ht]; exact hP, va_K.moved hW.alike hK, hD⟩, hS.F ht⟩) hS.2.2 dX1_move_252
  have h := h.2
  by_cases c2_26 : p0 = 26
  · have h := h.1 c2_26
    refine sw_in c2_26 ?_
    refine lv_tableIn (tgt := 202) hx hb dX1_move_14 (by decide) (by decide) rfl (by decide) ?_
    refine lv_aload_n hx hb dX1_move_202 rfl (lv_at hl 1 rfl) ?_
    refine lv_iload_n hx hb dX1_move_203 rfl (lv_at hl 3 rfl) ?_
    refine cl_v (ws' := fun u15 => (wX1 cI cZ a u15)) (va_runV (As := [.int p1]) (rest := []) ⟨hx, hb, hml, hown, hts⟩ (c_X1_shiftReturn l D cI cZ a _ S p1 _ h ) (cwV 1 hts (gV q_672 q_674 q_10 q_73 q_675) rfl rfl rfl (by decide +kernel) ⟨Nat.le_of_ble_eq_true rfl, Nat.le_of_ble_eq_true rfl⟩) (preV_of (ci := 1) (q := (RX1, TX1, 14)) hK hP hD [0, 1, 2, 3, 4] rfl rfl (by decide) 0 rfl rfl) rfl rfl hl.1 rfl (lv_room (Nat.le_of_ble_eq_true rfl)) dX1_move_204 ⟨Nat.zero_le _, Nat.zero_le _⟩) hP hD hS hA [0, 1, 2, 3, 4] [.inl 0, .inl 1, .inl 2, .inl 3, .inl 4] rfl (by decide) (fun _ => rfl) (fun _ => rfl) (fun u15 H locs h hP hD hS => ?_)
    refine lv_goto (tgt := 252) hx hb dX1_move_207 (by decide) ?_
    exact W.vret hx hb hr (fun t ht hW => ⟨⟨u15, rfl, h, by rw [ht]; exact hP, va_K.moved hW.alike hK, hD⟩, hS.F ht⟩) hS.2.2 dX1_move_252
  have h := h.2
  by_cases c2_28 : p0 = 28
  · have h := h.1 c2_28
    refine sw_in c2_28 ?_
    refine lv_tableIn (tgt := 210) hx hb dX1_move_14 (by decide) (by decide) rfl (by decide) ?_
    refine lv_aload_n hx hb dX1_move_210 rfl (lv_at hl 1 rfl) ?_
    refine va_get (D := D) (ci := 1) (v := .ref (a 1)) (C := RX1) (T := TX1) (N := 14) hx hb hts inX1 hown hK hP 0 rfl rfl 1 (by decide) (hts _ q_284) (fun _ h9 => h9) rfl dX1_move_211 ?_
    refine lv_iload_n hx hb dX1_move_214 rfl (lv_at hl 3 rfl) ?_
    refine lv_bipush (v := 7) hx hb dX1_move_215 (by decide) ?_
    refine lv_iand hx hb dX1_move_217 ?_
    refine lv_aload_n hx hb dX1_move_218 rfl (lv_at hl 1 rfl) ?_
    refine va_get (D := D) (ci := 1) (v := .ref (a 3)) (C := RX1) (T := TX1) (N := 14) hx hb hts inX1 hown hK hP 0 rfl rfl 3 (by decide) (hts _ q_289) (fun _ h9 => h9) rfl dX1_move_219 ?_
    refine lv_iload_n hx hb dX1_move_222 rfl (lv_at hl 4 rfl) ?_
    refine lv_bipush (v := 15) hx hb dX1_move_223 (by decide) ?_
    refine lv_iand hx hb dX1_move_225 ?_
    refine ar_il (f := (S.2 3)) (n := 16) (j := (Int32.toNatClampNeg (p2 &&& 15))) hx hb hK hP 3 rfl rfl h.1 dX1_move_226 ?_
    have h := h.2
    obtain ⟨T16, eT16⟩ : ∃ z : Ob, z = (sa S 1 (upd (S.2 1) (Int32.toNatClampNeg (p1 &&& 7)) ((S.2 3) (Int32.toNatClampNeg (p2 &&& 15))))) := ⟨_, rfl⟩
    refine ar_is (f := (S.2 1)) (n := 8) (j := (Int32.toNatClampNeg (p1 &&& 7))) (x := ((S.2 3) (Int32.toNatClampNeg (p2 &&& 15)))) hx hb hK hP hD hS 1 rfl rfl h.1 dX1_move_227 (wX1 cI cZ a T16) (by subst eT16; rfl) (fun H locs hP hD hS => ?_)
    have h := h.2
    have h := h T16 eT16
    refine lv_goto (tgt := 252) hx hb dX1_move_228 (by decide) ?_
    exact W.vret hx hb hr (fun t ht hW => ⟨⟨T16, rfl, h, by rw [ht]; exact hP, va_K.moved hW.alike hK, hD⟩, hS.F ht⟩) hS.2.2 dX1_move_252
  have h := h.2
  by_cases c2_29 : p0 = 29
  · have h := h.1 c2_29
    refine sw_in c2_29 ?_
    refine lv_tableIn (tgt := 231) hx hb dX1_move_14 (by decide) (by decide) rfl (by decide) ?_
    refine lv_aload_n hx hb dX1_move_231 rfl (lv_at hl 1 rfl) ?_
    refine va_get (D := D) (ci := 1) (v := .ref (a 3)) (C := RX1) (T := TX1) (N := 14) hx hb hts inX1 hown hK hP 0 rfl rfl 3 (by decide) (hts _ q_289) (fun _ h9 => h9) rfl dX1_move_232 ?_
    refine lv_iload_n hx hb dX1_move_235 rfl (lv_at hl 4 rfl) ?_
    refine lv_bipush (v := 15) hx hb dX1_move_236 (by decide) ?_
    refine lv_iand hx hb dX1_move_238 ?_
    refine lv_aload_n hx hb dX1_move_239 rfl (lv_at hl 1 rfl) ?_
    refine va_get (D := D) (ci := 1) (v := .ref (a 1)) (C := RX1) (T := TX1) (N := 14) hx hb hts inX1 hown hK hP 0 rfl rfl 1 (by decide) (hts _ q_284) (fun _ h9 => h9) rfl dX1_move_240 ?_
    refine lv_iload_n hx hb dX1_move_243 rfl (lv_at hl 3 rfl) ?_
    refine lv_bipush (v := 7) hx hb dX1_move_244 (by decide) ?_
    refine lv_iand hx hb dX1_move_246 ?_
    refine ar_il (f := (S.2 1)) (n := 8) (j := (Int32.toNatClampNeg (p1 &&& 7))) hx hb hK hP 1 rfl rfl h.1 dX1_move_247 ?_
    have h := h.2
    obtain ⟨T17, eT17⟩ : ∃ z : Ob, z = (sa S 3 (upd (S.2 3) (Int32.toNatClampNeg (p2 &&& 15)) ((S.2 1) (Int32.toNatClampNeg (p1 &&& 7))))) := ⟨_, rfl⟩
    refine ar_is (f := (S.2 3)) (n := 16) (j := (Int32.toNatClampNeg (p2 &&& 15))) (x := ((S.2 1) (Int32.toNatClampNeg (p1 &&& 7)))) hx hb hK hP hD hS 3 rfl rfl h.1 dX1_move_248 (wX1 cI cZ a T17) (by subst eT17; rfl) (fun H locs hP hD hS => ?_)
    have h := h.2
    have h := h T17 eT17
    refine lv_goto (tgt := 252) hx hb dX1_move_249 (by decide) ?_
    exact W.vret hx hb hr (fun t ht hW => ⟨⟨T17, rfl, h, by rw [ht]; exact hP, va_K.moved hW.alike hK, hD⟩, hS.F ht⟩) hS.2.2 dX1_move_252
  have h := h.2
  have h := h c2_9 c2_10 c2_11 c2_12 c2_13 c2_26 c2_28 c2_29
  by_cases c2_14 : p0 = 14
  · refine sw_in c2_14 ?_
    refine lv_tableIn (tgt := 252) hx hb dX1_move_14 (by decide) (by decide) rfl (by decide) ?_
    exact W.vret hx hb hr (fun t ht hW => ⟨⟨S, rfl, h, by rw [ht]; exact hP, va_K.moved hW.alike hK, hD⟩, hS.F ht⟩) hS.2.2 dX1_move_252
  by_cases c2_15 : p0 = 15
  · refine sw_in c2_15 ?_
    refine lv_tableIn (tgt := 252) hx hb dX1_move_14 (by decide) (by decide) rfl (by decide) ?_
    exact W.vret hx hb hr (fun t ht hW => ⟨⟨S, rfl, h, by rw [ht]; exact hP, va_K.moved hW.alike hK, hD⟩, hS.F ht⟩) hS.2.2 dX1_move_252
  by_cases c2_16 : p0 = 16
  · refine sw_in c2_16 ?_
    refine lv_tableIn (tgt := 252) hx hb dX1_move_14 (by decide) (by decide) rfl (by decide) ?_
    exact W.vret hx hb hr (fun t ht hW => ⟨⟨S, rfl, h, by rw [ht]; exact hP, va_K.moved hW.alike hK, hD⟩, hS.F ht⟩) hS.2.2 dX1_move_252
  by_cases c2_17 : p0 = 17
  · refine sw_in c2_17 ?_
    refine lv_tableIn (tgt := 252) hx hb dX1_move_14 (by decide) (by decide) rfl (by decide) ?_
    exact W.vret hx hb hr (fun t ht hW => ⟨⟨S, rfl, h, by rw [ht]; exact hP, va_K.moved hW.alike hK, hD⟩, hS.F ht⟩) hS.2.2 dX1_move_252
  by_cases c2_18 : p0 = 18
  · refine sw_in c2_18 ?_
    refine lv_tableIn (tgt := 252) hx hb dX1_move_14 (by decide) (by decide) rfl (by decide) ?_
    exact W.vret hx hb hr (fun t ht hW => ⟨⟨S, rfl, h, by rw [ht]; exact hP, va_K.moved hW.alike hK, hD⟩, hS.F ht⟩) hS.2.2 dX1_move_252
  by_cases c2_19 : p0 = 19
  · refine sw_in c2_19 ?_
    refine lv_tableIn (tgt := 252) hx hb dX1_move_14 (by decide) (by decide) rfl (by decide) ?_
    exact W.vret hx hb hr (fun t ht hW => ⟨⟨S, rfl, h, by rw [ht]; exact hP, va_K.moved hW.alike hK, hD⟩, hS.F ht⟩) hS.2.2 dX1_move_252
  by_cases c2_20 : p0 = 20
  · refine sw_in c2_20 ?_
    refine lv_tableIn (tgt := 252) hx hb dX1_move_14 (by decide) (by decide) rfl (by decide) ?_
    exact W.vret hx hb hr (fun t ht hW => ⟨⟨S, rfl, h, by rw [ht]; exact hP, va_K.moved hW.alike hK, hD⟩, hS.F ht⟩) hS.2.2 dX1_move_252
  by_cases c2_21 : p0 = 21
  · refine sw_in c2_21 ?_
    refine lv_tableIn (tgt := 252) hx hb dX1_move_14 (by decide) (by decide) rfl (by decide) ?_
    exact W.vret hx hb hr (fun t ht hW => ⟨⟨S, rfl, h, by rw [ht]; exact hP, va_K.moved hW.alike hK, hD⟩, hS.F ht⟩) hS.2.2 dX1_move_252
  by_cases c2_22 : p0 = 22
  · refine sw_in c2_22 ?_
    refine lv_tableIn (tgt := 252) hx hb dX1_move_14 (by decide) (by decide) rfl (by decide) ?_
    exact W.vret hx hb hr (fun t ht hW => ⟨⟨S, rfl, h, by rw [ht]; exact hP, va_K.moved hW.alike hK, hD⟩, hS.F ht⟩) hS.2.2 dX1_move_252
  by_cases c2_23 : p0 = 23
  · refine sw_in c2_23 ?_
    refine lv_tableIn (tgt := 252) hx hb dX1_move_14 (by decide) (by decide) rfl (by decide) ?_
    exact W.vret hx hb hr (fun t ht hW => ⟨⟨S, rfl, h, by rw [ht]; exact hP, va_K.moved hW.alike hK, hD⟩, hS.F ht⟩) hS.2.2 dX1_move_252
  by_cases c2_24 : p0 = 24
  · refine sw_in c2_24 ?_
    refine lv_tableIn (tgt := 252) hx hb dX1_move_14 (by decide) (by decide) rfl (by decide) ?_
    exact W.vret hx hb hr (fun t ht hW => ⟨⟨S, rfl, h, by rw [ht]; exact hP, va_K.moved hW.alike hK, hD⟩, hS.F ht⟩) hS.2.2 dX1_move_252
  by_cases c2_25 : p0 = 25
  · refine sw_in c2_25 ?_
    refine lv_tableIn (tgt := 252) hx hb dX1_move_14 (by decide) (by decide) rfl (by decide) ?_
    exact W.vret hx hb hr (fun t ht hW => ⟨⟨S, rfl, h, by rw [ht]; exact hP, va_K.moved hW.alike hK, hD⟩, hS.F ht⟩) hS.2.2 dX1_move_252
  by_cases c2_27 : p0 = 27
  · refine sw_in c2_27 ?_
    refine lv_tableIn (tgt := 252) hx hb dX1_move_14 (by decide) (by decide) rfl (by decide) ?_
    exact W.vret hx hb hr (fun t ht hW => ⟨⟨S, rfl, h, by rw [ht]; exact hP, va_K.moved hW.alike hK, hD⟩, hS.F ht⟩) hS.2.2 dX1_move_252
  refine lv_tableOut (tgt := 252) hx hb dX1_move_14 (sw_out (lo := 9) (n := 21) (by decide) (by decide) (fun k hk => ?_)) (by decide) ?_
  · rcases (show k = 0 ∨ k = 1 ∨ k = 2 ∨ k = 3 ∨ k = 4 ∨ k = 5 ∨ k = 6 ∨ k = 7 ∨ k = 8 ∨ k = 9 ∨ k = 10 ∨ k = 11 ∨ k = 12 ∨ k = 13 ∨ k = 14 ∨ k = 15 ∨ k = 16 ∨ k = 17 ∨ k = 18 ∨ k = 19 ∨ k = 20 by omega) with rfl | rfl | rfl | rfl | rfl | rfl | rfl | rfl | rfl | rfl | rfl | rfl | rfl | rfl | rfl | rfl | rfl | rfl | rfl | rfl | rfl
    · exact c2_9
    · exact c2_10
    · exact c2_11
    · exact c2_12
    · exact c2_13
    · exact c2_14
    · exact c2_15
    · exact c2_16
    · exact c2_17
    · exact c2_18
    · exact c2_19
    · exact c2_20
    · exact c2_21
    · exact c2_22
    · exact c2_23
    · exact c2_24
    · exact c2_25
    · exact c2_26
    · exact c2_27
    · exact c2_28
    · exact c2_29
  exact W.vret hx hb hr (fun t ht hW => ⟨⟨S, rfl, h, by rw [ht]; exact hP, va_K.moved hW.alike hK, hD⟩, hS.F ht⟩) hS.2.2 dX1_move_252
/-! X1_reckonSingles -/
abbrev rmX1_reckonSingles : Room := { frames := 2, cells := 0, slots := 0, locals := 48 }
set_option maxHeartbeats 4000000 in
set_option maxRecDepth 100000 in
theorem c_X1_reckonSingles (l : Launch) (D : va_G) (cI cZ : ClassId) (a : Nat → Nat) (sz : Nat) (S : Ob) (p0 : Int32) (p1 : Int32) (p2 : Int32) (Q : Ob → Prop) (h : wp_X1_reckonSingles S p0 p1 p2 Q) : Met l yX1_reckonSingles (wsm yX1_reckonSingles cX1_reckonSingles 6 none) rmX1_reckonSingles (va_Pc [.ref (a 0), .int p0, .int p1, .int p2] (preW D cI cZ sz (wX1 cI cZ a S))) (va_Qv Q (fun u => atW D cI cZ (va_A (wX1 cI cZ a S) sz) (wX1 cI cZ a u)) (va_A (wX1 cI cZ a S) sz)) 0 0 (va_A (wX1 cI cZ a S) sz) := by
  refine Met.ofW (cc := cX1_reckonSingles) (maxL := 6) (ret := none) (by decide) rfl ?_
  intro p e s m args below meth c s₁ B hml hv
  obtain ⟨rfl, hsz, hP, hK, hD0⟩ := hv
  have hx := B.exec
  have hb := B.bytes
  have hr := B.returns
  have hts0 := atoms_spec (ws := wsm yX1_reckonSingles cX1_reckonSingles 6 none) B.pre
  have hts : ∀ w ∈ lw_all, w.before _ s = true := fun w h => hts0 w (List.mem_cons_of_mem _ h)
  have hown : s.vm.findClass RX1 = some m.cls := findClass_of_methodNamed B.named
  have hlocks := B.notSynchronized
  subst hsz
  have hD := hD0.self (sz := s.heap.size)
  generalize hAe : va_A (wX1 cI cZ a S) s.heap.size = A at hD ⊢
  have hA : ∀ q : Nat, s.heap.size ≤ q → A q := fun q h => by rw [← hAe]; exact Or.inr h
  have hS : va_S A s.heap s.heap [] := va_S.rf
  have hml2 := hml
  have hl := lv_entry ([.ref (a 0), .int p0, .int p1, .int p2]) (n := 6) (Nat.le_of_ble_eq_true rfl)
  rw [lg_entry_eq]
  generalize (lg_sl ([.ref (a 0), .int p0, .int p1, .int p2]) ++ List.replicate (6 - (lg_sl ([.ref (a 0), .int p0, .int p1, .int p2])).length) Slot.unset).toArray = ls at hl ⊢
  have hl : lv_has ls 6 [(0, .ref (a 0)), (1, .int p0), (2, .int p1), (3, .int p2)] := hl
  unfold wp_X1_reckonSingles at h
  refine lv_iload_n hx hb dX1_reckonSingles_0 rfl (lv_at hl 2 rfl) ?_
  refine lv_iconst (v := 3) hx hb dX1_reckonSingles_1 (by decide) ?_
  refine lv_iand hx hb dX1_reckonSingles_2 ?_
  refine lv_topi (fun x1 ex1 => ?_)
  have h := h x1 ex1
  refine lv_istore (lv' := [(4, .int x1), (0, .ref (a 0)), (1, .int p0), (2, .int p1), (3, .int p2)]) hx hb dX1_reckonSingles_3 hl (by decide) rfl (fun ls hl => ?_)
  refine lv_iload_n hx hb dX1_reckonSingles_5 rfl (lv_at hl 4 rfl) ?_
  refine lv_iconst (v := 3) hx hb dX1_reckonSingles_6 (by decide) ?_
  refine lv_iand hx hb dX1_reckonSingles_7 ?_
  refine lv_topi (fun x2 ex2 => ?_)
  have h := h x2 ex2
  refine lv_istore (lv' := [(5, .int x2), (4, .int x1), (0, .ref (a 0)), (1, .int p0), (2, .int p1), (3, .int p2)]) hx hb dX1_reckonSingles_8 hl (by decide) rfl (fun ls hl => ?_)
  refine lv_iload_n hx hb dX1_reckonSingles_10 rfl (lv_at hl 3 rfl) ?_
  by_cases c3_20 : p0 = 20
  · have h := h.1 c3_20
    refine sw_in c3_20 ?_
    refine lv_tableIn (tgt := 44) hx hb dX1_reckonSingles_11 (by decide) (by decide) rfl (by decide) ?_
    refine lv_aload_n hx hb dX1_reckonSingles_44 rfl (lv_at hl 2 rfl) ?_
    refine va_get (D := D) (ci := 1) (v := .ref (a 2)) (C := RX1) (T := TX1) (N := 14) hx hb hts inX1 hown hK hP 0 rfl rfl 2 (by decide) (hts _ q_287) (fun _ h9 => h9) rfl dX1_reckonSingles_45 ?_
    refine lv_iload hx hb dX1_reckonSingles_48 (lv_at hl 1 rfl) ?_
    refine lv_iload_n hx hb dX1_reckonSingles_50 rfl (lv_at hl 5 rfl) ?_
    refine lv_i2f hx hb dX1_reckonSingles_51 ?_
    refine lv_ldcf hx hb hown (hts _ q_636) dX1_reckonSingles_52 ?_
    refine lv_fmul hx hb dX1_reckonSingles_54 h.1 ?_
    have h := h.2
    refine cl_i (ws' := fun u4 => (wX1 cI cZ a S)) (va_runS (As := [.float (FP.fmul (FP.i2f p2) 1031798784)]) (rest := [.int x1, .ref (a 2)]) ⟨hx, hb, hml, hown, hts⟩ (c_X4_bitsOf l D cI cZ _ () (FP.fmul (FP.i2f p2) 1031798784) _ h ) (va_cwS 1 hts (gS q_637 q_591 q_76 q_592) rfl rfl rfl (by decide +kernel) ⟨Nat.le_of_ble_eq_true rfl, Nat.le_of_ble_eq_true rfl⟩) (preS_of hK hP hD [] rfl rfl (by decide)) rfl rfl hl.1 rfl (lv_room (Nat.le_of_ble_eq_true rfl)) dX1_reckonSingles_55 ⟨Nat.zero_le _, Nat.zero_le _⟩) hP hD hS hA [] [.inr 0, .inr 1, .inr 2, .inr 3, .inr 4] rfl (by decide) (fun _ => rfl) (fun _ => rfl) (fun r5 u4 H locs h hP hD hS => ?_)
    obtain ⟨T6, eT6⟩ : ∃ z : Ob, z = (sa S 2 (upd (S.2 2) (Int32.toNatClampNeg x1) r5)) := ⟨_, rfl⟩
    refine ar_is (f := (S.2 2)) (n := 4) (j := (Int32.toNatClampNeg x1)) (x := r5) hx hb hK hP hD hS 2 rfl rfl h.1 dX1_reckonSingles_58 (wX1 cI cZ a T6) (by subst eT6; rfl) (fun H locs hP hD hS => ?_)
    have h := h.2
    have h := h T6 eT6
    refine lv_goto (tgt := 162) hx hb dX1_reckonSingles_59 (by decide) ?_
    refine lv_aload_n hx hb dX1_reckonSingles_162 rfl (lv_at hl 2 rfl) ?_
    refine lv_iconst (v := 1) hx hb dX1_reckonSingles_163 (by decide) ?_
    obtain ⟨T7, eT7⟩ : ∃ z : Ob, z = (si T6 12 1) := ⟨_, rfl⟩
    refine pu_f (ci := 1) (v := .int 1) (ty := .boolean) (C := RX1) (T := TX1) (N := 14) hx hb hts inX1 tyX1 tyX1_ok nmX1 hown hK hP hD hS 0 rfl rfl 12 (by decide) (hts _ q_313) (fun _ h9 => h9) rfl rfl (narB isB1) (fitB isB1) (Nat.le_of_ble_eq_true rfl) dX1_reckonSingles_164 (wX1 cI cZ a T7) (by subst eT7; rfl) (fun H locs hP hD hS => ?_)
    have h := h T7 eT7
    exact W.vret hx hb hr (fun t ht hW => ⟨⟨T7, rfl, h, by rw [ht]; exact hP, va_K.moved hW.alike hK, hD⟩, hS.F ht⟩) hS.2.2 dX1_reckonSingles_167
  have h := h.2
  by_cases c3_21 : p0 = 21
  · have h := h.1 c3_21
    refine sw_in c3_21 ?_
    refine lv_tableIn (tgt := 62) hx hb dX1_reckonSingles_11 (by decide) (by decide) rfl (by decide) ?_
    refine lv_aload_n hx hb dX1_reckonSingles_62 rfl (lv_at hl 2 rfl) ?_
    refine va_get (D := D) (ci := 1) (v := .ref (a 2)) (C := RX1) (T := TX1) (N := 14) hx hb hts inX1 hown hK hP 0 rfl rfl 2 (by decide) (hts _ q_287) (fun _ h9 => h9) rfl dX1_reckonSingles_63 ?_
    refine lv_iload hx hb dX1_reckonSingles_66 (lv_at hl 1 rfl) ?_
    refine lv_aload_n hx hb dX1_reckonSingles_68 rfl (lv_at hl 2 rfl) ?_
    refine va_get (D := D) (ci := 1) (v := .ref (a 2)) (C := RX1) (T := TX1) (N := 14) hx hb hts inX1 hown hK hP 0 rfl rfl 2 (by decide) (hts _ q_287) (fun _ h9 => h9) rfl dX1_reckonSingles_69 ?_
    refine lv_iload hx hb dX1_reckonSingles_72 (lv_at hl 1 rfl) ?_
    refine ar_il (f := (S.2 2)) (n := 4) (j := (Int32.toNatClampNeg x1)) hx hb hK hP 2 rfl rfl h.1 dX1_reckonSingles_74 ?_
    have h := h.2
    refine lv_aload_n hx hb dX1_reckonSingles_75 rfl (lv_at hl 2 rfl) ?_
    refine va_get (D := D) (ci := 1) (v := .ref (a 2)) (C := RX1) (T := TX1) (N := 14) hx hb hts inX1 hown hK hP 0 rfl rfl 2 (by decide) (hts _ q_287) (fun _ h9 => h9) rfl dX1_reckonSingles_76 ?_
    refine lv_iload hx hb dX1_reckonSingles_79 (lv_at hl 0 rfl) ?_
    refine ar_il (f := (S.2 2)) (n := 4) (j := (Int32.toNatClampNeg x2)) hx hb hK hP 2 rfl rfl h.1 dX1_reckonSingles_81 ?_
    have h := h.2
    refine cl_i (ws' := fun u8 => (wX1 cI cZ a S)) (va_runS (As := [.int ((S.2 2) (Int32.toNatClampNeg x1)), .int ((S.2 2) (Int32.toNatClampNeg x2))]) (rest := [.int x1, .ref (a 2)]) ⟨hx, hb, hml, hown, hts⟩ (c_X4_sum l D cI cZ _ () ((S.2 2) (Int32.toNatClampNeg x1)) ((S.2 2) (Int32.toNatClampNeg x2)) _ h ) (va_cwS 2 hts (gS q_579 q_580 q_76 q_581) rfl rfl rfl (by decide +kernel) ⟨Nat.le_of_ble_eq_true rfl, Nat.le_of_ble_eq_true rfl⟩) (preS_of hK hP hD [] rfl rfl (by decide)) rfl rfl hl.1 rfl (lv_room (Nat.le_of_ble_eq_true rfl)) dX1_reckonSingles_82 ⟨Nat.zero_le _, Nat.zero_le _⟩) hP hD hS hA [] [.inr 0, .inr 1, .inr 2, .inr 3, .inr 4] rfl (by decide) (fun _ => rfl) (fun _ => rfl) (fun r9 u8 H locs h hP hD hS => ?_)
    obtain ⟨T10, eT10⟩ : ∃ z : Ob, z = (sa S 2 (upd (S.2 2) (Int32.toNatClampNeg x1) r9)) := ⟨_, rfl⟩
    refine ar_is (f := (S.2 2)) (n := 4) (j := (Int32.toNatClampNeg x1)) (x := r9) hx hb hK hP hD hS 2 rfl rfl h.1 dX1_reckonSingles_85 (wX1 cI cZ a T10) (by subst eT10; rfl) (fun H locs hP hD hS => ?_)
    have h := h.2
    have h := h T10 eT10
    refine lv_goto (tgt := 162) hx hb dX1_reckonSingles_86 (by decide) ?_
    refine lv_aload_n hx hb dX1_reckonSingles_162 rfl (lv_at hl 2 rfl) ?_
    refine lv_iconst (v := 1) hx hb dX1_reckonSingles_163 (by decide) ?_
    obtain ⟨T11, eT11⟩ : ∃ z : Ob, z = (si T10 12 1) := ⟨_, rfl⟩
    refine pu_f (ci := 1) (v := .int 1) (ty := .boolean) (C := RX1) (T := TX1) (N := 14) hx hb hts inX1 tyX1 tyX1_ok nmX1 hown hK hP hD hS 0 rfl rfl 12 (by decide) (hts _ q_313) (fun _ h9 => h9) rfl rfl (narB isB1) (fitB isB1) (Nat.le_of_ble_eq_true rfl) dX1_reckonSingles_164 (wX1 cI cZ a T11) (by subst eT11; rfl) (fun H locs hP hD hS => ?_)
    have h := h T11 eT11
    exact W.vret hx hb hr (fun t ht hW => ⟨⟨T11, rfl, h, by rw [ht]; exact hP, va_K.moved hW.alike hK, hD⟩, hS.F ht⟩) hS.2.2 dX1_reckonSingles_167
  have h := h.2
  by_cases c3_22 : p0 = 22
  · have h := h.1 c3_22
    refine sw_in c3_22 ?_
    refine lv_tableIn (tgt := 89) hx hb dX1_reckonSingles_11 (by decide) (by decide) rfl (by decide) ?_
    refine lv_aload_n hx hb dX1_reckonSingles_89 rfl (lv_at hl 2 rfl) ?_
    refine va_get (D := D) (ci := 1) (v := .ref (a 2)) (C := RX1) (T := TX1) (N := 14) hx hb hts inX1 hown hK hP 0 rfl rfl 2 (by decide) (hts _ q_287) (fun _ h9 => h9) rfl dX1_reckonSingles_90 ?_
    refine lv_iload hx hb dX1_reckonSingles_93 (lv_at hl 1 rfl) ?_
    refine lv_aload_n hx hb dX1_reckonSingles_95 rfl (lv_at hl 2 rfl) ?_
    refine va_get (D := D) (ci := 1) (v := .ref (a 2)) (C := RX1) (T := TX1) (N := 14) hx hb hts inX1 hown hK hP 0 rfl rfl 2 (by decide) (hts _ q_287) (fun _ h9 => h9) rfl dX1_reckonSingles_96 ?_
    refine lv_iload hx hb dX1_reckonSingles_99 (lv_at hl 1 rfl) ?_
    refine ar_il (f := (S.2 2)) (n := 4) (j := (Int32.toNatClampNeg x1)) hx hb hK hP 2 rfl rfl h.1 dX1_reckonSingles_101 ?_
    have h := h.2
    refine lv_aload_n hx hb dX1_reckonSingles_102 rfl (lv_at hl 2 rfl) ?_
    refine va_get (D := D) (ci := 1) (v := .ref (a 2)) (C := RX1) (T := TX1) (N := 14) hx hb hts inX1 hown hK hP 0 rfl rfl 2 (by decide) (hts _ q_287) (fun _ h9 => h9) rfl dX1_reckonSingles_103 ?_
    refine lv_iload hx hb dX1_reckonSingles_106 (lv_at hl 0 rfl) ?_
    refine ar_il (f := (S.2 2)) (n := 4) (j := (Int32.toNatClampNeg x2)) hx hb hK hP 2 rfl rfl h.1 dX1_reckonSingles_108 ?_
    have h := h.2
    refine cl_i (ws' := fun u12 => (wX1 cI cZ a S)) (va_runS (As := [.int ((S.2 2) (Int32.toNatClampNeg x1)), .int ((S.2 2) (Int32.toNatClampNeg x2))]) (rest := [.int x1, .ref (a 2)]) ⟨hx, hb, hml, hown, hts⟩ (c_X4_product l D cI cZ _ () ((S.2 2) (Int32.toNatClampNeg x1)) ((S.2 2) (Int32.toNatClampNeg x2)) _ h ) (va_cwS 2 hts (gS q_607 q_608 q_76 q_609) rfl rfl rfl (by decide +kernel) ⟨Nat.le_of_ble_eq_true rfl, Nat.le_of_ble_eq_true rfl⟩) (preS_of hK hP hD [] rfl rfl (by decide)) rfl rfl hl.1 rfl (lv_room (Nat.le_of_ble_eq_true rfl)) dX1_reckonSingles_109 ⟨Nat.zero_le _, Nat.zero_le _⟩) hP hD hS hA [] [.inr 0, .inr 1, .inr 2, .inr 3, .inr 4] rfl (by decide) (fun _ => rfl) (fun _ => rfl) (fun r13 u12 H locs h hP hD hS => ?_)
    obtain ⟨T14, eT14⟩ : ∃ z : Ob, z = (sa S 2 (upd (S.2 2) (Int32.toNatClampNeg x1) r13)) := ⟨_, rfl⟩
    refine ar_is (f := (S.2 2)) (n := 4) (j := (Int32.toNatClampNeg x1)) (x := r13) hx hb hK hP hD hS 2 rfl rfl h.1 dX1_reckonSingles_112 (wX1 cI cZ a T14) (by subst eT14; rfl) (fun H locs hP hD hS => ?_)
    have h := h.2
    have h := h T14 eT14
    refine lv_goto (tgt := 162) hx hb dX1_reckonSingles_113 (by decide) ?_
    refine lv_aload_n hx hb dX1_reckonSingles_162 rfl (lv_at hl 2 rfl) ?_
    refine lv_iconst (v := 1) hx hb dX1_reckonSingles_163 (by decide) ?_
    obtain ⟨T15, eT15⟩ : ∃ z : Ob, z = (si T14 12 1) := ⟨_, rfl⟩
    refine pu_f (ci := 1) (v := .int 1) (ty := .boolean) (C := RX1) (T := TX1) (N := 14) hx hb hts inX1 tyX1 tyX1_ok nmX1 hown hK hP hD hS 0 rfl rfl 12 (by decide) (hts _ q_313) (fun _ h9 => h9) rfl rfl (narB isB1) (fitB isB1) (Nat.le_of_ble_eq_true rfl) dX1_reckonSingles_164 (wX1 cI cZ a T15) (by subst eT15; rfl) (fun H locs hP hD hS => ?_)
    have h := h T15 eT15
    exact W.vret hx hb hr (fun t ht hW => ⟨⟨T15, rfl, h, by rw [ht]; exact hP, va_K.moved hW.alike hK, hD⟩, hS.F ht⟩) hS.2.2 dX1_reckonSingles_167
  have h := h.2
  by_cases c3_23 : p0 = 23
  · have h := h.1 c3_23
    refine sw_in c3_23 ?_
    refine lv_tableIn (tgt := 116) hx hb dX1_reckonSingles_11 (by decide) (by decide) rfl (by decide) ?_
    refine lv_aload_n hx hb dX1_reckonSingles_116 rfl (lv_at hl 2 rfl) ?_
    refine va_get (D := D) (ci := 1) (v := .ref (a 1)) (C := RX1) (T := TX1) (N := 14) hx hb hts inX1 hown hK hP 0 rfl rfl 1 (by decide) (hts _ q_284) (fun _ h9 => h9) rfl dX1_reckonSingles_117 ?_
    refine lv_iload_n hx hb dX1_reckonSingles_120 rfl (lv_at hl 4 rfl) ?_
    refine lv_bipush (v := 7) hx hb dX1_reckonSingles_121 (by decide) ?_
    refine lv_iand hx hb dX1_reckonSingles_123 ?_
    refine lv_aload_n hx hb dX1_reckonSingles_124 rfl (lv_at hl 2 rfl) ?_
    refine va_get (D := D) (ci := 1) (v := .ref (a 2)) (C := RX1) (T := TX1) (N := 14) hx hb hts inX1 hown hK hP 0 rfl rfl 2 (by decide) (hts _ q_287) (fun _ h9 => h9) rfl dX1_reckonSingles_125 ?_
    refine lv_iload hx hb dX1_reckonSingles_128 (lv_at hl 0 rfl) ?_
    refine ar_il (f := (S.2 2)) (n := 4) (j := (Int32.toNatClampNeg x2)) hx hb hK hP 2 rfl rfl h.1 dX1_reckonSingles_130 ?_
    have h := h.2
    refine cl_f (ws' := fun u16 => (wX1 cI cZ a S)) (va_runS (As := [.int ((S.2 2) (Int32.toNatClampNeg x2))]) (rest := [.int (p1 &&& 7), .ref (a 1)]) ⟨hx, hb, hml, hown, hts⟩ (c_X4_valueOf l D cI cZ _ () ((S.2 2) (Int32.toNatClampNeg x2)) _ h ) (va_cwS 1 hts (gS q_638 q_584 q_76 q_585) rfl rfl rfl (by decide +kernel) ⟨Nat.le_of_ble_eq_true rfl, Nat.le_of_ble_eq_true rfl⟩) (preS_of hK hP hD [] rfl rfl (by decide)) rfl rfl hl.1 rfl (lv_room (Nat.le_of_ble_eq_true rfl)) dX1_reckonSingles_131 ⟨Nat.zero_le _, Nat.zero_le _⟩) hP hD hS hA [] [.inr 0, .inr 1, .inr 2, .inr 3, .inr 4] rfl (by decide) (fun _ => rfl) (fun _ => rfl) (fun r17 u16 H locs h hP hD hS => ?_)
    refine lv_f2i hx hb dX1_reckonSingles_134 ?_
    obtain ⟨T18, eT18⟩ : ∃ z : Ob, z = (sa S 1 (upd (S.2 1) (Int32.toNatClampNeg (p1 &&& 7)) (FP.f2i r17))) := ⟨_, rfl⟩
    refine ar_is (f := (S.2 1)) (n := 8) (j := (Int32.toNatClampNeg (p1 &&& 7))) (x := (FP.f2i r17)) hx hb hK hP hD hS 1 rfl rfl h.1 dX1_reckonSingles_135 (wX1 cI cZ a T18) (by subst eT18; rfl) (fun H locs hP hD hS => ?_)
    have h := h.2
    have h := h T18 eT18
    refine lv_goto (tgt := 162) hx hb dX1_reckonSingles_136 (by decide) ?_
    refine lv_aload_n hx hb dX1_reckonSingles_162 rfl (lv_at hl 2 rfl) ?_
    refine lv_iconst (v := 1) hx hb dX1_reckonSingles_163 (by decide) ?_
    obtain ⟨T19, eT19⟩ : ∃ z : Ob, z = (si T18 12 1) := ⟨_, rfl⟩
    refine pu_f (ci := 1) (v := .int 1) (ty := .boolean) (C := RX1) (T := TX1) (N := 14) hx hb hts inX1 tyX1 tyX1_ok nmX1 hown hK hP hD hS 0 rfl rfl 12 (by decide) (hts _ q_313) (fun _ h9 => h9) rfl rfl (narB isB1) (fitB isB1) (Nat.le_of_ble_eq_true rfl) dX1_reckonSingles_164 (wX1 cI cZ a T19) (by subst eT19; rfl) (fun H locs hP hD hS => ?_)
    have h := h T19 eT19
    exact W.vret hx hb hr (fun t ht hW => ⟨⟨T19, rfl, h, by rw [ht]; exact hP, va_K.moved hW.alike hK, hD⟩, hS.F ht⟩) hS.2.2 dX1_reckonSingles_167
  have h := h.2
  by_cases c3_24 : p0 = 24
  · have h := h.1 c3_24
    refine sw_in c3_24 ?_
    refine lv_tableIn (tgt := 139) hx hb dX1_reckonSingles_11 (by decide) (by decide) rfl (by decide) ?_
    refine lv_aload_n hx hb dX1_reckonSingles_139 rfl (lv_at hl 2 rfl) ?_
    refine va_get (D := D) (ci := 1) (v := .ref (a 2)) (C := RX1) (T := TX1) (N := 14) hx hb hts inX1 hown hK hP 0 rfl rfl 2 (by decide) (hts _ q_287) (fun _ h9 => h9) rfl dX1_reckonSingles_140 ?_
    refine lv_iload hx hb dX1_reckonSingles_143 (lv_at hl 1 rfl) ?_
    refine lv_aload_n hx hb dX1_reckonSingles_145 rfl (lv_at hl 2 rfl) ?_
    refine va_get (D := D) (ci := 1) (v := .ref (a 1)) (C := RX1) (T := TX1) (N := 14) hx hb hts inX1 hown hK hP 0 rfl rfl 1 (by decide) (hts _ q_284) (fun _ h9 => h9) rfl dX1_reckonSingles_146 ?_
    refine lv_iload_n hx hb dX1_reckonSingles_149 rfl (lv_at hl 5 rfl) ?_
    refine lv_bipush (v := 7) hx hb dX1_reckonSingles_150 (by decide) ?_
    refine lv_iand hx hb dX1_reckonSingles_152 ?_
    refine ar_il (f := (S.2 1)) (n := 8) (j := (Int32.toNatClampNeg (p2 &&& 7))) hx hb hK hP 1 rfl rfl h.1 dX1_reckonSingles_153 ?_
    have h := h.2
    refine lv_i2f hx hb dX1_reckonSingles_154 ?_
    refine cl_i (ws' := fun u20 => (wX1 cI cZ a S)) (va_runS (As := [.float (FP.i2f ((S.2 1) (Int32.toNatClampNeg (p2 &&& 7))))]) (rest := [.int x1, .ref (a 2)]) ⟨hx, hb, hml, hown, hts⟩ (c_X4_bitsOf l D cI cZ _ () (FP.i2f ((S.2 1) (Int32.toNatClampNeg (p2 &&& 7)))) _ h ) (va_cwS 1 hts (gS q_637 q_591 q_76 q_592) rfl rfl rfl (by decide +kernel) ⟨Nat.le_of_ble_eq_true rfl, Nat.le_of_ble_eq_true rfl⟩) (preS_of hK hP hD [] rfl rfl (by decide)) rfl rfl hl.1 rfl (lv_room (Nat.le_of_ble_eq_true rfl)) dX1_reckonSingles_155 ⟨Nat.zero_le _, Nat.zero_le _⟩) hP hD hS hA [] [.inr 0, .inr 1, .inr 2, .inr 3, .inr 4] rfl (by decide) (fun _ => rfl) (fun _ => rfl) (fun r21 u20 H locs h hP hD hS => ?_)
    obtain ⟨T22, eT22⟩ : ∃ z : Ob, z = (sa S 2 (upd (S.2 2) (Int32.toNatClampNeg x1) r21)) := ⟨_, rfl⟩
    refine ar_is (f := (S.2 2)) (n := 4) (j := (Int32.toNatClampNeg x1)) (x := r21) hx hb hK hP hD hS 2 rfl rfl h.1 dX1_reckonSingles_158 (wX1 cI cZ a T22) (by subst eT22; rfl) (fun H locs hP hD hS => ?_)
    have h := h.2
    have h := h T22 eT22
    refine lv_goto (tgt := 162) hx hb dX1_reckonSingles_159 (by decide) ?_
    refine lv_aload_n hx hb dX1_reckonSingles_162 rfl (lv_at hl 2 rfl) ?_
    refine lv_iconst (v := 1) hx hb dX1_reckonSingles_163 (by decide) ?_
    obtain ⟨T23, eT23⟩ : ∃ z : Ob, z = (si T22 12 1) := ⟨_, rfl⟩
    refine pu_f (ci := 1) (v := .int 1) (ty := .boolean) (C := RX1) (T := TX1) (N := 14) hx hb hts inX1 tyX1 tyX1_ok nmX1 hown hK hP hD hS 0 rfl rfl 12 (by decide) (hts _ q_313) (fun _ h9 => h9) rfl rfl (narB isB1) (fitB isB1) (Nat.le_of_ble_eq_true rfl) dX1_reckonSingles_164 (wX1 cI cZ a T23) (by subst eT23; rfl) (fun H locs hP hD hS => ?_)
    have h := h T23 eT23
    exact W.vret hx hb hr (fun t ht hW => ⟨⟨T23, rfl, h, by rw [ht]; exact hP, va_K.moved hW.alike hK, hD⟩, hS.F ht⟩) hS.2.2 dX1_reckonSingles_167
  have h := h.2
  have h := h c3_20 c3_21 c3_22 c3_23 c3_24
  refine lv_tableOut (tgt := 162) hx hb dX1_reckonSingles_11 (sw_out (lo := 20) (n := 5) (by decide) (by decide) (fun k hk => ?_)) (by decide) ?_
  · rcases (show k = 0 ∨ k = 1 ∨ k = 2 ∨ k = 3 ∨ k = 4 by omega) with rfl | rfl | rfl | rfl | rfl
    · exact c3_20
    · exact c3_21
    · exact c3_22
    · exact c3_23
    · exact c3_24
  refine lv_aload_n hx hb dX1_reckonSingles_162 rfl (lv_at hl 2 rfl) ?_
  refine lv_iconst (v := 1) hx hb dX1_reckonSingles_163 (by decide) ?_
  obtain ⟨T24, eT24⟩ : ∃ z : Ob, z = (si S 12 1) := ⟨_, rfl⟩
  refine pu_f (ci := 1) (v := .int 1) (ty := .boolean) (C := RX1) (T := TX1) (N := 14) hx hb hts inX1 tyX1 tyX1_ok nmX1 hown hK hP hD hS 0 rfl rfl 12 (by decide) (hts _ q_313) (fun _ h9 => h9) rfl rfl (narB isB1) (fitB isB1) (Nat.le_of_ble_eq_true rfl) dX1_reckonSingles_164 (wX1 cI cZ a T24) (by subst eT24; rfl) (fun H locs hP hD hS => ?_)
  have h := h T24 eT24
  exact W.vret hx hb hr (fun t ht hW => ⟨⟨T24, rfl, h, by rw [ht]; exact hP, va_K.moved hW.alike hK, hD⟩, hS.F ht⟩) hS.2.2 dX1_reckonSingles_167
/-! X1_pushFours -/
abbrev rmX1_pushFours : Room := { frames := 2, cells := 0, slots := 0, locals := 51 }
set_option maxHeartbeats 4000000 in
set_option maxRecDepth 100000 in
theorem c_X1_pushFours (l : Launch) (D : va_G) (cI cZ : ClassId) (a : Nat → Nat) (sz : Nat) (S : Ob) (Q : Int32 → Ob → Prop) (h : wp_X1_pushFours S Q) : Met l yX1_pushFours (wsm yX1_pushFours cX1_pushFours 1 (some .boolean)) rmX1_pushFours (va_Pc [.ref (a 0)] (preW D cI cZ sz (wX1 cI cZ a S))) (va_Qi Q (fun u => atW D cI cZ (va_A (wX1 cI cZ a S) sz) (wX1 cI cZ a u)) (va_A (wX1 cI cZ a S) sz)) 0 0 (va_A (wX1 cI cZ a S) sz) := by
  refine Met.ofW (cc := cX1_pushFours) (maxL := 1) (ret := (some .boolean)) (by decide) rfl ?_
  intro p e s m args below meth c s₁ B hml hv
  obtain ⟨rfl, hsz, hP, hK, hD0⟩ := hv
  have hx := B.exec
  have hb := B.bytes
  have hr := B.returns
  have hts0 := atoms_spec (ws := wsm yX1_pushFours cX1_pushFours 1 (some .boolean)) B.pre
  have hts : ∀ w ∈ lw_all, w.before _ s = true := fun w h => hts0 w (List.mem_cons_of_mem _ h)
  have hown : s.vm.findClass RX1 = some m.cls := findClass_of_methodNamed B.named
  have hlocks := B.notSynchronized
  subst hsz
  have hD := hD0.self (sz := s.heap.size)
  generalize hAe : va_A (wX1 cI cZ a S) s.heap.size = A at hD ⊢
  have hA : ∀ q : Nat, s.heap.size ≤ q → A q := fun q h => by rw [← hAe]; exact Or.inr h
  have hS : va_S A s.heap s.heap [] := va_S.rf
  have hml2 := hml
  have hl := lv_entry ([.ref (a 0)]) (n := 1) (Nat.le_of_ble_eq_true rfl)
  rw [lg_entry_eq]
  generalize (lg_sl ([.ref (a 0)]) ++ List.replicate (1 - (lg_sl ([.ref (a 0)])).length) Slot.unset).toArray = ls at hl ⊢
  have hl : lv_has ls 1 [(0, .ref (a 0))] := hl
  unfold wp_X1_pushFours at h
  refine lv_aload_n hx hb dX1_pushFours_0 rfl (lv_at hl 0 rfl) ?_
  refine va_get (D := D) (ci := 1) (v := .int (S.1 6)) (C := RX1) (T := TX1) (N := 14) hx hb hts inX1 hown hK hP 0 rfl rfl 6 (by decide) (hts _ q_296) (fun _ h9 => h9) rfl dX1_pushFours_1 ?_
  refine lv_bipush (v := 92) hx hb dX1_pushFours_4 (by decide) ?_
  refine lv_icmp_le (tgt := 11) hx hb dX1_pushFours_6 (by decide) (fun c1 => ?_) (fun c1 => ?_)
  · have h := h.1 c1
    refine lv_aload_n hx hb dX1_pushFours_11 rfl (lv_at hl 0 rfl) ?_
    refine lv_aload_n hx hb dX1_pushFours_12 rfl (lv_at hl 0 rfl) ?_
    refine va_get (D := D) (ci := 1) (v := .int (S.1 6)) (C := RX1) (T := TX1) (N := 14) hx hb hts inX1 hown hK hP 0 rfl rfl 6 (by decide) (hts _ q_296) (fun _ h9 => h9) rfl dX1_pushFours_13 ?_
    obtain ⟨T2, eT2⟩ : ∃ z : Ob, z = (si S 11 (S.1 6)) := ⟨_, rfl⟩
    refine pu_f (ci := 1) (v := .int (S.1 6)) (ty := .int) (C := RX1) (T := TX1) (N := 14) hx hb hts inX1 tyX1 tyX1_ok nmX1 hown hK hP hD hS 0 rfl rfl 11 (by decide) (hts _ q_310) (fun _ h9 => h9) rfl rfl rfl rfl (Nat.le_of_ble_eq_true rfl) dX1_pushFours_16 (wX1 cI cZ a T2) (by subst eT2; rfl) (fun H locs hP hD hS => ?_)
    have h := h T2 eT2
    refine lv_aload_n hx hb dX1_pushFours_19 rfl (lv_at hl 0 rfl) ?_
    refine lv_iconst (v := 4) hx hb dX1_pushFours_20 (by decide) ?_
    refine cl_v (ws' := fun u3 => (wX1 cI cZ a u3)) (va_runV (As := [.int 4]) (rest := []) ⟨hx, hb, hml, hown, hts⟩ (c_X1_rise l D cI cZ a _ T2 4 _ h ) (cwV 1 hts (gV q_661 q_663 q_8 q_73 q_664) rfl rfl rfl (by decide +kernel) ⟨Nat.le_of_ble_eq_true rfl, Nat.le_of_ble_eq_true rfl⟩) (preV_of (ci := 1) (q := (RX1, TX1, 14)) hK hP hD [0, 1, 2, 3, 4] rfl rfl (by decide) 0 rfl rfl) rfl rfl hl.1 rfl (lv_room (Nat.le_of_ble_eq_true rfl)) dX1_pushFours_21 ⟨Nat.zero_le _, Nat.zero_le _⟩) hP hD hS hA [0, 1, 2, 3, 4] [.inl 0, .inl 1, .inl 2, .inl 3, .inl 4] rfl (by decide) (fun _ => rfl) (fun _ => rfl) (fun u3 H locs h hP hD hS => ?_)
    refine lv_iconst (v := 1) hx hb dX1_pushFours_24 (by decide) ?_
    exact W.zret (ty := .boolean) (v := 1) hx hb hr (narB isB1) (fun t ht hW => ⟨⟨1, u3, rfl, h, by rw [ht]; exact hP, va_K.moved hW.alike hK, hD⟩, hS.F ht⟩) hS.2.2 dX1_pushFours_25
  · have h := h.2 c1
    refine lv_iconst (v := 0) hx hb dX1_pushFours_9 (by decide) ?_
    exact W.zret (ty := .boolean) (v := 0) hx hb hr (narB isB0) (fun t ht hW => ⟨⟨0, S, rfl, h, by rw [ht]; exact hP, va_K.moved hW.alike hK, hD⟩, hS.F ht⟩) hS.2.2 dX1_pushFours_10
/-! X1_saveSingle -/
abbrev rmX1_saveSingle : Room := { frames := 0, cells := 0, slots := 0, locals := 0 }
set_option maxHeartbeats 4000000 in
set_option maxRecDepth 100000 in
theorem c_X1_saveSingle (l : Launch) (D : va_G) (cI cZ : ClassId) (a : Nat → Nat) (sz : Nat) (S : Ob) (p0 : Int32) (Q : Ob → Prop) (h : wp_X1_saveSingle S p0 Q) : Met l yX1_saveSingle (wsm yX1_saveSingle cX1_saveSingle 2 none) rmX1_saveSingle (va_Pc [.ref (a 0), .int p0] (preW D cI cZ sz (wX1 cI cZ a S))) (va_Qv Q (fun u => atW D cI cZ (va_A (wX1 cI cZ a S) sz) (wX1 cI cZ a u)) (va_A (wX1 cI cZ a S) sz)) 0 0 (va_A (wX1 cI cZ a S) sz) := by
  refine Met.ofW (cc := cX1_saveSingle) (maxL := 2) (ret := none) (by decide) rfl ?_
  intro p e s m args below meth c s₁ B hml hv
  obtain ⟨rfl, hsz, hP, hK, hD0⟩ := hv
  have hx := B.exec
  have hb := B.bytes
  have hr := B.returns
  have hts0 := atoms_spec (ws := wsm yX1_saveSingle cX1_saveSingle 2 none) B.pre
  have hts : ∀ w ∈ lw_all, w.before _ s = true := fun w h => hts0 w (List.mem_cons_of_mem _ h)
  have hown : s.vm.findClass RX1 = some m.cls := findClass_of_methodNamed B.named
  have hlocks := B.notSynchronized
  subst hsz
  have hD := hD0.self (sz := s.heap.size)
  generalize hAe : va_A (wX1 cI cZ a S) s.heap.size = A at hD ⊢
  have hA : ∀ q : Nat, s.heap.size ≤ q → A q := fun q h => by rw [← hAe]; exact Or.inr h
  have hS : va_S A s.heap s.heap [] := va_S.rf
  have hml2 := hml
  have hl := lv_entry ([.ref (a 0), .int p0]) (n := 2) (Nat.le_of_ble_eq_true rfl)
  rw [lg_entry_eq]
  generalize (lg_sl ([.ref (a 0), .int p0]) ++ List.replicate (2 - (lg_sl ([.ref (a 0), .int p0])).length) Slot.unset).toArray = ls at hl ⊢
  have hl : lv_has ls 2 [(0, .ref (a 0)), (1, .int p0)] := hl
  unfold wp_X1_saveSingle at h
  refine lv_aload_n hx hb dX1_saveSingle_0 rfl (lv_at hl 0 rfl) ?_
  refine va_get (D := D) (ci := 1) (v := .int (S.1 11)) (C := RX1) (T := TX1) (N := 14) hx hb hts inX1 hown hK hP 0 rfl rfl 11 (by decide) (hts _ q_310) (fun _ h9 => h9) rfl dX1_saveSingle_1 ?_
  refine lv_if_lt (tgt := 35) hx hb dX1_saveSingle_4 (by decide) (fun c1 => ?_) (fun c1 => ?_)
  · have h := h.1 c1
    exact W.vret hx hb hr (fun t ht hW => ⟨⟨S, rfl, h, by rw [ht]; exact hP, va_K.moved hW.alike hK, hD⟩, hS.F ht⟩) hS.2.2 dX1_saveSingle_35
  · have h := h.2 c1
    refine lv_aload_n hx hb dX1_saveSingle_7 rfl (lv_at hl 0 rfl) ?_
    refine va_get (D := D) (ci := 1) (v := .int (S.1 11)) (C := RX1) (T := TX1) (N := 14) hx hb hts inX1 hown hK hP 0 rfl rfl 11 (by decide) (hts _ q_310) (fun _ h9 => h9) rfl dX1_saveSingle_8 ?_
    refine lv_iload_n hx hb dX1_saveSingle_11 rfl (lv_at hl 1 rfl) ?_
    refine lv_iadd hx hb dX1_saveSingle_12 ?_
    refine lv_bipush (v := 96) hx hb dX1_saveSingle_13 (by decide) ?_
    refine lv_icmp_ge (tgt := 35) hx hb dX1_saveSingle_15 (by decide) (fun c2 => ?_) (fun c2 => ?_)
    · have h := h.1 c2
      exact W.vret hx hb hr (fun t ht hW => ⟨⟨S, rfl, h, by rw [ht]; exact hP, va_K.moved hW.alike hK, hD⟩, hS.F ht⟩) hS.2.2 dX1_saveSingle_35
    · have h := h.2 c2
      refine lv_aload_n hx hb dX1_saveSingle_18 rfl (lv_at hl 0 rfl) ?_
      refine va_get (D := D) (ci := 1) (v := .ref (a 4)) (C := RX1) (T := TX1) (N := 14) hx hb hts inX1 hown hK hP 0 rfl rfl 4 (by decide) (hts _ q_291) (fun _ h9 => h9) rfl dX1_saveSingle_19 ?_
      refine lv_aload_n hx hb dX1_saveSingle_22 rfl (lv_at hl 0 rfl) ?_
      refine va_get (D := D) (ci := 1) (v := .int (S.1 11)) (C := RX1) (T := TX1) (N := 14) hx hb hts inX1 hown hK hP 0 rfl rfl 11 (by decide) (hts _ q_310) (fun _ h9 => h9) rfl dX1_saveSingle_23 ?_
      refine lv_iload_n hx hb dX1_saveSingle_26 rfl (lv_at hl 1 rfl) ?_
      refine lv_iadd hx hb dX1_saveSingle_27 ?_
      refine lv_aload_n hx hb dX1_saveSingle_28 rfl (lv_at hl 0 rfl) ?_
      refine va_get (D := D) (ci := 1) (v := .ref (a 2)) (C := RX1) (T := TX1) (N := 14) hx hb hts inX1 hown hK hP 0 rfl rfl 2 (by decide) (hts _ q_287) (fun _ h9 => h9) rfl dX1_saveSingle_29 ?_
      refine lv_iload_n hx hb dX1_saveSingle_32 rfl (lv_at hl 1 rfl) ?_
      refine ar_il (f := (S.2 2)) (n := 4) (j := (Int32.toNatClampNeg p0)) hx hb hK hP 2 rfl rfl h.1 dX1_saveSingle_33 ?_
      have h := h.2
      obtain ⟨T3, eT3⟩ : ∃ z : Ob, z = (sa S 4 (upd (S.2 4) (Int32.toNatClampNeg ((S.1 11) + p0)) ((S.2 2) (Int32.toNatClampNeg p0)))) := ⟨_, rfl⟩
      refine ar_is (f := (S.2 4)) (n := 96) (j := (Int32.toNatClampNeg ((S.1 11) + p0))) (x := ((S.2 2) (Int32.toNatClampNeg p0))) hx hb hK hP hD hS 4 rfl rfl h.1 dX1_saveSingle_34 (wX1 cI cZ a T3) (by subst eT3; rfl) (fun H locs hP hD hS => ?_)
      have h := h.2
      have h := h T3 eT3
      exact W.vret hx hb hr (fun t ht hW => ⟨⟨T3, rfl, h, by rw [ht]; exact hP, va_K.moved hW.alike hK, hD⟩, hS.F ht⟩) hS.2.2 dX1_saveSingle_35
/-! X1_hasFours -/
abbrev rmX1_hasFours : Room := { frames := 0, cells := 0, slots := 0, locals := 0 }
set_option maxHeartbeats 4000000 in
set_option maxRecDepth 100000 in
theorem c_X1_hasFours (l : Launch) (D : va_G) (cI cZ : ClassId) (a : Nat → Nat) (sz : Nat) (S : Ob) (Q : Int32 → Ob → Prop) (h : wp_X1_hasFours S Q) : Met l yX1_hasFours (wsm yX1_hasFours cX1_hasFours 1 (some .boolean)) rmX1_hasFours (va_Pc [.ref (a 0)] (preW D cI cZ sz (wX1 cI cZ a S))) (va_Qi Q (fun u => atW D cI cZ (va_A (wX1 cI cZ a S) sz) (wX1 cI cZ a u)) (va_A (wX1 cI cZ a S) sz)) 0 0 (va_A (wX1 cI cZ a S) sz) := by
  refine Met.ofW (cc := cX1_hasFours) (maxL := 1) (ret := (some .boolean)) (by decide) rfl ?_
  intro p e s m args below meth c s₁ B hml hv
  obtain ⟨rfl, hsz, hP, hK, hD0⟩ := hv
  have hx := B.exec
  have hb := B.bytes
  have hr := B.returns
  have hts0 := atoms_spec (ws := wsm yX1_hasFours cX1_hasFours 1 (some .boolean)) B.pre
  have hts : ∀ w ∈ lw_all, w.before _ s = true := fun w h => hts0 w (List.mem_cons_of_mem _ h)
  have hown : s.vm.findClass RX1 = some m.cls := findClass_of_methodNamed B.named
  have hlocks := B.notSynchronized
  subst hsz
  have hD := hD0.self (sz := s.heap.size)
  generalize hAe : va_A (wX1 cI cZ a S) s.heap.size = A at hD ⊢
  have hA : ∀ q : Nat, s.heap.size ≤ q → A q := fun q h => by rw [← hAe]; exact Or.inr h
  have hS : va_S A s.heap s.heap [] := va_S.rf
  have hml2 := hml
  have hl := lv_entry ([.ref (a 0)]) (n := 1) (Nat.le_of_ble_eq_true rfl)
  rw [lg_entry_eq]
  generalize (lg_sl ([.ref (a 0)]) ++ List.replicate (1 - (lg_sl ([.ref (a 0)])).length) Slot.unset).toArray = ls at hl ⊢
  have hl : lv_has ls 1 [(0, .ref (a 0))] := hl
  unfold wp_X1_hasFours at h
  refine lv_aload_n hx hb dX1_hasFours_0 rfl (lv_at hl 0 rfl) ?_
  refine va_get (D := D) (ci := 1) (v := .ref (a 4)) (C := RX1) (T := TX1) (N := 14) hx hb hts inX1 hown hK hP 0 rfl rfl 4 (by decide) (hts _ q_291) (fun _ h9 => h9) rfl dX1_hasFours_1 ?_
  refine lv_aload_n hx hb dX1_hasFours_4 rfl (lv_at hl 0 rfl) ?_
  refine va_get (D := D) (ci := 1) (v := .int (S.1 6)) (C := RX1) (T := TX1) (N := 14) hx hb hts inX1 hown hK hP 0 rfl rfl 6 (by decide) (hts _ q_296) (fun _ h9 => h9) rfl dX1_hasFours_5 ?_
  refine lv_iconst (v := 1) hx hb dX1_hasFours_8 (by decide) ?_
  refine lv_isub hx hb dX1_hasFours_9 ?_
  refine ar_il (f := (S.2 4)) (n := 96) (j := (Int32.toNatClampNeg ((S.1 6) - 1))) hx hb hK hP 4 rfl rfl h.1 dX1_hasFours_10 ?_
  have h := h.2
  refine lv_iconst (v := 4) hx hb dX1_hasFours_11 (by decide) ?_
  refine lv_iand hx hb dX1_hasFours_12 ?_
  refine lv_if_eq (tgt := 20) hx hb dX1_hasFours_13 (by decide) (fun c1 => ?_) (fun c1 => ?_)
  · have h := h.1 c1
    refine lv_iconst (v := 0) hx hb dX1_hasFours_20 (by decide) ?_
    exact W.zret (ty := .boolean) (v := 0) hx hb hr (narB isB0) (fun t ht hW => ⟨⟨0, S, rfl, h, by rw [ht]; exact hP, va_K.moved hW.alike hK, hD⟩, hS.F ht⟩) hS.2.2 dX1_hasFours_21
  · have h := h.2 c1
    refine lv_iconst (v := 1) hx hb dX1_hasFours_16 (by decide) ?_
    refine lv_goto (tgt := 21) hx hb dX1_hasFours_17 (by decide) ?_
    exact W.zret (ty := .boolean) (v := 1) hx hb hr (narB isB1) (fun t ht hW => ⟨⟨1, S, rfl, h, by rw [ht]; exact hP, va_K.moved hW.alike hK, hD⟩, hS.F ht⟩) hS.2.2 dX1_hasFours_21
/-! X1_frameFault -/
abbrev rmX1_frameFault : Room := { frames := 1, cells := 0, slots := 0, locals := 20 }
set_option maxHeartbeats 4000000 in
set_option maxRecDepth 100000 in
theorem c_X1_frameFault (l : Launch) (D : va_G) (cI cZ : ClassId) (a : Nat → Nat) (sz : Nat) (S : Ob) (Q : Int32 → Ob → Prop) (h : wp_X1_frameFault S Q) : Met l yX1_frameFault (wsm yX1_frameFault cX1_frameFault 2 (some .int)) rmX1_frameFault (va_Pc [.ref (a 0)] (preT D cI cZ sz (wX1 cI cZ a S))) (va_Qi Q (fun u => atW D cI cZ (va_A (wX1 cI cZ a S) sz) (wX1 cI cZ a u)) (va_A (wX1 cI cZ a S) sz)) 0 0 (va_A (wX1 cI cZ a S) sz) := by
  refine Met.ofW (cc := cX1_frameFault) (maxL := 2) (ret := (some .int)) (by decide) rfl ?_
  intro p e s m args below meth c s₁ B hml hv
  obtain ⟨rfl, ⟨hsz, hP, hK, hD0⟩, hF⟩ := hv
  have hx := B.exec
  have hb := B.bytes
  have hr := B.returns
  have hts0 := atoms_spec (ws := wsm yX1_frameFault cX1_frameFault 2 (some .int)) B.pre
  have hts : ∀ w ∈ lw_all, w.before _ s = true := fun w h => hts0 w (List.mem_cons_of_mem _ h)
  have hown : s.vm.findClass RX1 = some m.cls := findClass_of_methodNamed B.named
  have hlocks := B.notSynchronized
  subst hsz
  have hD := hD0.self (sz := s.heap.size)
  generalize hAe : va_A (wX1 cI cZ a S) s.heap.size = A at hD hF ⊢
  have hA : ∀ q : Nat, s.heap.size ≤ q → A q := fun q h => by rw [← hAe]; exact Or.inr h
  have hS : va_S A s.heap s.heap [] := va_S.rf
  have hml2 := hml
  have hl := lv_entry ([.ref (a 0)]) (n := 2) (Nat.le_of_ble_eq_true rfl)
  rw [lg_entry_eq]
  generalize (lg_sl ([.ref (a 0)]) ++ List.replicate (2 - (lg_sl ([.ref (a 0)])).length) Slot.unset).toArray = ls at hl ⊢
  have hl : lv_has ls 2 [(0, .ref (a 0))] := hl
  unfold wp_X1_frameFault at h
  refine lv_aload_n hx hb dX1_frameFault_0 rfl (lv_at hl 0 rfl) ?_
  refine va_get (D := D) (ci := 1) (v := .int (S.1 6)) (C := RX1) (T := TX1) (N := 14) hx hb hts inX1 hown hK hP 0 rfl rfl 6 (by decide) (hts _ q_296) (fun _ h9 => h9) rfl dX1_frameFault_1 ?_
  refine lv_bipush (v := 6) hx hb dX1_frameFault_4 (by decide) ?_
  refine lv_icmp_ge (tgt := 12) hx hb dX1_frameFault_6 (by decide) (fun c1 => ?_) (fun c1 => ?_)
  · have h := h.1 c1
    refine lv_aload_n hx hb dX1_frameFault_12 rfl (lv_at hl 0 rfl) ?_
    refine va_get (D := D) (ci := 1) (v := .ref (a 4)) (C := RX1) (T := TX1) (N := 14) hx hb hts inX1 hown hK hP 0 rfl rfl 4 (by decide) (hts _ q_291) (fun _ h9 => h9) rfl dX1_frameFault_13 ?_
    refine lv_aload_n hx hb dX1_frameFault_16 rfl (lv_at hl 0 rfl) ?_
    refine va_get (D := D) (ci := 1) (v := .int (S.1 6)) (C := RX1) (T := TX1) (N := 14) hx hb hts inX1 hown hK hP 0 rfl rfl 6 (by decide) (hts _ q_296) (fun _ h9 => h9) rfl dX1_frameFault_17 ?_
    refine lv_iconst (v := 1) hx hb dX1_frameFault_20 (by decide) ?_
    refine lv_isub hx hb dX1_frameFault_21 ?_
    refine ar_il (f := (S.2 4)) (n := 96) (j := (Int32.toNatClampNeg ((S.1 6) - 1))) hx hb hK hP 4 rfl rfl h.1 dX1_frameFault_22 ?_
    have h := h.2
    refine lv_topi (fun x2 ex2 => ?_)
    have h := h x2 ex2
    refine lv_istore_n (lv' := [(1, .int x2), (0, .ref (a 0))]) hx hb dX1_frameFault_23 rfl hl (by decide) rfl (fun ls hl => ?_)
    refine lv_iload_n hx hb dX1_frameFault_24 rfl (lv_at hl 0 rfl) ?_
    refine lv_sipush (v := 23040) hx hb dX1_frameFault_25 (by decide) ?_
    refine lv_icmp_lt (tgt := 38) hx hb dX1_frameFault_28 (by decide) (fun c3 => ?_) (fun c3 => ?_)
    · have h := h.1 c3
      refine lv_bipush (v := 18) hx hb dX1_frameFault_38 (by decide) ?_
      exact W.iret (v := 18) hx hb hr (fun t ht hW => ⟨⟨18, S, rfl, h, by rw [ht]; exact hP, va_K.moved hW.alike hK, hD⟩, hS.F ht⟩) hS.2.2 dX1_frameFault_40
    · have h := h.2 c3
      refine lv_iload_n hx hb dX1_frameFault_31 rfl (lv_at hl 0 rfl) ?_
      refine lv_sipush (v := 23047) hx hb dX1_frameFault_32 (by decide) ?_
      refine lv_icmp_le (tgt := 41) hx hb dX1_frameFault_35 (by decide) (fun c4 => ?_) (fun c4 => ?_)
      · have h := h.1 c4
        refine lv_aload_n hx hb dX1_frameFault_41 rfl (lv_at hl 1 rfl) ?_
        refine cl_i (ws' := fun u5 => (wX1 cI cZ a u5)) (va_runV (As := []) (rest := []) ⟨hx, hb, hml, hown, hts⟩ (c_X1_hasFours l D cI cZ a _ S _ h ) (cwV 0 hts (gV q_723 q_725 q_17 q_73 q_726) rfl rfl rfl (by decide +kernel) ⟨Nat.le_of_ble_eq_true rfl, Nat.le_of_ble_eq_true rfl⟩) (preV_of (ci := 1) (q := (RX1, TX1, 14)) hK hP hD [0, 1, 2, 3, 4] rfl rfl (by decide) 0 rfl rfl) rfl rfl hl.1 rfl (lv_room (Nat.le_of_ble_eq_true rfl)) dX1_frameFault_42 ⟨Nat.zero_le _, Nat.zero_le _⟩) hP hD hS hA [0, 1, 2, 3, 4] [.inl 0, .inl 1, .inl 2, .inl 3, .inl 4] rfl (by decide) (fun _ => rfl) (fun _ => rfl) (fun r6 u5 H locs h hP hD hS => ?_)
        refine lv_if_eq (tgt := 60) hx hb dX1_frameFault_45 (by decide) (fun c7 => ?_) (fun c7 => ?_)
        · have h := h.1 c7
          refine lv_aload_n hx hb dX1_frameFault_60 rfl (lv_at hl 1 rfl) ?_
          refine va_get (D := D) (ci := 1) (v := .ref (a 4)) (C := RX1) (T := TX1) (N := 14) hx hb hts inX1 hown hK hP 0 rfl rfl 4 (by decide) (hts _ q_291) (fun _ h9 => h9) rfl dX1_frameFault_61 ?_
          refine lv_aload_n hx hb dX1_frameFault_64 rfl (lv_at hl 1 rfl) ?_
          refine va_get (D := D) (ci := 1) (v := .int (u5.1 6)) (C := RX1) (T := TX1) (N := 14) hx hb hts inX1 hown hK hP 0 rfl rfl 6 (by decide) (hts _ q_296) (fun _ h9 => h9) rfl dX1_frameFault_65 ?_
          refine lv_iconst (v := 2) hx hb dX1_frameFault_68 (by decide) ?_
          refine lv_isub hx hb dX1_frameFault_69 ?_
          refine ar_il (f := (u5.2 4)) (n := 96) (j := (Int32.toNatClampNeg ((u5.1 6) - 2))) hx hb hK hP 4 rfl rfl h.1 dX1_frameFault_70 ?_
          have h := h.2
          refine cl_i (ws' := fun u8 => (wX1 cI cZ a u5)) (va_runSN (As := [.int ((u5.2 4) (Int32.toNatClampNeg ((u5.1 6) - 2)))]) (rest := []) ⟨hx, hb, hml, hown, hts⟩ (c_X7_isPlace l D cI cZ _ () ((u5.2 4) (Int32.toNatClampNeg ((u5.1 6) - 2))) _ h ) ⟨va_cnB 1 hts (gW q_446) rfl rfl rfl hF.2.2.1 (hts _ q_67) (by decide +kernel) ⟨Nat.le_of_ble_eq_true rfl, Nat.le_of_ble_eq_true rfl⟩, hts _ q_445, trivial⟩ (preS_of hK hP hD [] rfl rfl (by decide)) rfl rfl hl.1 rfl (lv_room (Nat.le_of_ble_eq_true rfl)) dX1_frameFault_71 ⟨Nat.zero_le _, Nat.zero_le _⟩) hP hD hS hA [] [.inr 0, .inr 1, .inr 2, .inr 3, .inr 4] rfl (by decide) (fun _ => rfl) (fun _ => rfl) (fun r9 u8 H locs h hP hD hS => ?_)
          refine lv_if_eq (tgt := 81) hx hb dX1_frameFault_74 (by decide) (fun c10 => ?_) (fun c10 => ?_)
          · have h := h.1 c10
            refine lv_bipush (v := 18) hx hb dX1_frameFault_81 (by decide) ?_
            exact W.iret (v := 18) hx hb hr (fun t ht hW => ⟨⟨18, u5, rfl, h, by rw [ht]; exact hP, va_K.moved hW.alike hK, hD⟩, hS.F ht⟩) hS.2.2 dX1_frameFault_83
          · have h := h.2 c10
            refine lv_iconst (v := -1) hx hb dX1_frameFault_77 (by decide) ?_
            refine lv_goto (tgt := 83) hx hb dX1_frameFault_78 (by decide) ?_
            exact W.iret (v := (-1)) hx hb hr (fun t ht hW => ⟨⟨(-1), u5, rfl, h, by rw [ht]; exact hP, va_K.moved hW.alike hK, hD⟩, hS.F ht⟩) hS.2.2 dX1_frameFault_83
        · have h := h.2 c7
          refine lv_aload_n hx hb dX1_frameFault_48 rfl (lv_at hl 1 rfl) ?_
          refine va_get (D := D) (ci := 1) (v := .int (u5.1 6)) (C := RX1) (T := TX1) (N := 14) hx hb hts inX1 hown hK hP 0 rfl rfl 6 (by decide) (hts _ q_296) (fun _ h9 => h9) rfl dX1_frameFault_49 ?_
          refine lv_bipush (v := 10) hx hb dX1_frameFault_52 (by decide) ?_
          refine lv_icmp_ge (tgt := 60) hx hb dX1_frameFault_54 (by decide) (fun c11 => ?_) (fun c11 => ?_)
          · have h := h.1 c11
            refine lv_aload_n hx hb dX1_frameFault_60 rfl (lv_at hl 1 rfl) ?_
            refine va_get (D := D) (ci := 1) (v := .ref (a 4)) (C := RX1) (T := TX1) (N := 14) hx hb hts inX1 hown hK hP 0 rfl rfl 4 (by decide) (hts _ q_291) (fun _ h9 => h9) rfl dX1_frameFault_61 ?_
            refine lv_aload_n hx hb dX1_frameFault_64 rfl (lv_at hl 1 rfl) ?_
            refine va_get (D := D) (ci := 1) (v := .int (u5.1 6)) (C := RX1) (T := TX1) (N := 14) hx hb hts inX1 hown hK hP 0 rfl rfl 6 (by decide) (hts _ q_296) (fun _ h9 => h9) rfl dX1_frameFault_65 ?_
            refine lv_iconst (v := 2) hx hb dX1_frameFault_68 (by decide) ?_
            refine lv_isub hx hb dX1_frameFault_69 ?_
            refine ar_il (f := (u5.2 4)) (n := 96) (j := (Int32.toNatClampNeg ((u5.1 6) - 2))) hx hb hK hP 4 rfl rfl h.1 dX1_frameFault_70 ?_
            have h := h.2
            refine cl_i (ws' := fun u12 => (wX1 cI cZ a u5)) (va_runSN (As := [.int ((u5.2 4) (Int32.toNatClampNeg ((u5.1 6) - 2)))]) (rest := []) ⟨hx, hb, hml, hown, hts⟩ (c_X7_isPlace l D cI cZ _ () ((u5.2 4) (Int32.toNatClampNeg ((u5.1 6) - 2))) _ h ) ⟨va_cnB 1 hts (gW q_446) rfl rfl rfl hF.2.2.1 (hts _ q_67) (by decide +kernel) ⟨Nat.le_of_ble_eq_true rfl, Nat.le_of_ble_eq_true rfl⟩, hts _ q_445, trivial⟩ (preS_of hK hP hD [] rfl rfl (by decide)) rfl rfl hl.1 rfl (lv_room (Nat.le_of_ble_eq_true rfl)) dX1_frameFault_71 ⟨Nat.zero_le _, Nat.zero_le _⟩) hP hD hS hA [] [.inr 0, .inr 1, .inr 2, .inr 3, .inr 4] rfl (by decide) (fun _ => rfl) (fun _ => rfl) (fun r13 u12 H locs h hP hD hS => ?_)
            refine lv_if_eq (tgt := 81) hx hb dX1_frameFault_74 (by decide) (fun c14 => ?_) (fun c14 => ?_)
            · have h := h.1 c14
              refine lv_bipush (v := 18) hx hb dX1_frameFault_81 (by decide) ?_
              exact W.iret (v := 18) hx hb hr (fun t ht hW => ⟨⟨18, u5, rfl, h, by rw [ht]; exact hP, va_K.moved hW.alike hK, hD⟩, hS.F ht⟩) hS.2.2 dX1_frameFault_83
            · have h := h.2 c14
              refine lv_iconst (v := -1) hx hb dX1_frameFault_77 (by decide) ?_
              refine lv_goto (tgt := 83) hx hb dX1_frameFault_78 (by decide) ?_
              exact W.iret (v := (-1)) hx hb hr (fun t ht hW => ⟨⟨(-1), u5, rfl, h, by rw [ht]; exact hP, va_K.moved hW.alike hK, hD⟩, hS.F ht⟩) hS.2.2 dX1_frameFault_83
          · have h := h.2 c11
            refine lv_bipush (v := 19) hx hb dX1_frameFault_57 (by decide) ?_
            exact W.iret (v := 19) hx hb hr (fun t ht hW => ⟨⟨19, u5, rfl, h, by rw [ht]; exact hP, va_K.moved hW.alike hK, hD⟩, hS.F ht⟩) hS.2.2 dX1_frameFault_59
      · have h := h.2 c4
        refine lv_bipush (v := 18) hx hb dX1_frameFault_38 (by decide) ?_
        exact W.iret (v := 18) hx hb hr (fun t ht hW => ⟨⟨18, S, rfl, h, by rw [ht]; exact hP, va_K.moved hW.alike hK, hD⟩, hS.F ht⟩) hS.2.2 dX1_frameFault_40
  · have h := h.2 c1
    refine lv_bipush (v := 19) hx hb dX1_frameFault_9 (by decide) ?_
    exact W.iret (v := 19) hx hb hr (fun t ht hW => ⟨⟨19, S, rfl, h, by rw [ht]; exact hP, va_K.moved hW.alike hK, hD⟩, hS.F ht⟩) hS.2.2 dX1_frameFault_11
/-! X1_isLazyFrame -/
abbrev rmX1_isLazyFrame : Room := { frames := 1, cells := 0, slots := 0, locals := 20 }
set_option maxHeartbeats 4000000 in
set_option maxRecDepth 100000 in
theorem c_X1_isLazyFrame (l : Launch) (D : va_G) (cI cZ : ClassId) (a : Nat → Nat) (sz : Nat) (S : Ob) (Q : Int32 → Ob → Prop) (h : wp_X1_isLazyFrame S Q) : Met l yX1_isLazyFrame (wsm yX1_isLazyFrame cX1_isLazyFrame 1 (some .boolean)) rmX1_isLazyFrame (va_Pc [.ref (a 0)] (preW D cI cZ sz (wX1 cI cZ a S))) (va_Qi Q (fun u => atW D cI cZ (va_A (wX1 cI cZ a S) sz) (wX1 cI cZ a u)) (va_A (wX1 cI cZ a S) sz)) 0 0 (va_A (wX1 cI cZ a S) sz) := by
  refine Met.ofW (cc := cX1_isLazyFrame) (maxL := 1) (ret := (some .boolean)) (by decide) rfl ?_
  intro p e s m args below meth c s₁ B hml hv
  obtain ⟨rfl, hsz, hP, hK, hD0⟩ := hv
  have hx := B.exec
  have hb := B.bytes
  have hr := B.returns
  have hts0 := atoms_spec (ws := wsm yX1_isLazyFrame cX1_isLazyFrame 1 (some .boolean)) B.pre
  have hts : ∀ w ∈ lw_all, w.before _ s = true := fun w h => hts0 w (List.mem_cons_of_mem _ h)
  have hown : s.vm.findClass RX1 = some m.cls := findClass_of_methodNamed B.named
  have hlocks := B.notSynchronized
  subst hsz
  have hD := hD0.self (sz := s.heap.size)
  generalize hAe : va_A (wX1 cI cZ a S) s.heap.size = A at hD ⊢
  have hA : ∀ q : Nat, s.heap.size ≤ q → A q := fun q h => by rw [← hAe]; exact Or.inr h
  have hS : va_S A s.heap s.heap [] := va_S.rf
  have hml2 := hml
  have hl := lv_entry ([.ref (a 0)]) (n := 1) (Nat.le_of_ble_eq_true rfl)
  rw [lg_entry_eq]
  generalize (lg_sl ([.ref (a 0)]) ++ List.replicate (1 - (lg_sl ([.ref (a 0)])).length) Slot.unset).toArray = ls at hl ⊢
  have hl : lv_has ls 1 [(0, .ref (a 0))] := hl
  unfold wp_X1_isLazyFrame at h
  refine lv_aload_n hx hb dX1_isLazyFrame_0 rfl (lv_at hl 0 rfl) ?_
  refine cl_i (ws' := fun u1 => (wX1 cI cZ a u1)) (va_runV (As := []) (rest := []) ⟨hx, hb, hml, hown, hts⟩ (c_X1_hasFours l D cI cZ a _ S _ h ) (cwV 0 hts (gV q_723 q_725 q_17 q_73 q_726) rfl rfl rfl (by decide +kernel) ⟨Nat.le_of_ble_eq_true rfl, Nat.le_of_ble_eq_true rfl⟩) (preV_of (ci := 1) (q := (RX1, TX1, 14)) hK hP hD [0, 1, 2, 3, 4] rfl rfl (by decide) 0 rfl rfl) rfl rfl hl.1 rfl (lv_room (Nat.le_of_ble_eq_true rfl)) dX1_isLazyFrame_1 ⟨Nat.zero_le _, Nat.zero_le _⟩) hP hD hS hA [0, 1, 2, 3, 4] [.inl 0, .inl 1, .inl 2, .inl 3, .inl 4] rfl (by decide) (fun _ => rfl) (fun _ => rfl) (fun r2 u1 H locs h hP hD hS => ?_)
  refine lv_if_eq (tgt := 25) hx hb dX1_isLazyFrame_4 (by decide) (fun c3 => ?_) (fun c3 => ?_)
  · have h := h.1 c3
    refine lv_iconst (v := 0) hx hb dX1_isLazyFrame_25 (by decide) ?_
    exact W.zret (ty := .boolean) (v := 0) hx hb hr (narB isB0) (fun t ht hW => ⟨⟨0, u1, rfl, h, by rw [ht]; exact hP, va_K.moved hW.alike hK, hD⟩, hS.F ht⟩) hS.2.2 dX1_isLazyFrame_26
  · have h := h.2 c3
    refine lv_aload_n hx hb dX1_isLazyFrame_7 rfl (lv_at hl 0 rfl) ?_
    refine va_get (D := D) (ci := 1) (v := .int (u1.1 11)) (C := RX1) (T := TX1) (N := 14) hx hb hts inX1 hown hK hP 0 rfl rfl 11 (by decide) (hts _ q_310) (fun _ h9 => h9) rfl dX1_isLazyFrame_8 ?_
    refine lv_aload_n hx hb dX1_isLazyFrame_11 rfl (lv_at hl 0 rfl) ?_
    refine va_get (D := D) (ci := 1) (v := .int (u1.1 6)) (C := RX1) (T := TX1) (N := 14) hx hb hts inX1 hown hK hP 0 rfl rfl 6 (by decide) (hts _ q_296) (fun _ h9 => h9) rfl dX1_isLazyFrame_12 ?_
    refine lv_bipush (v := 10) hx hb dX1_isLazyFrame_15 (by decide) ?_
    refine lv_isub hx hb dX1_isLazyFrame_17 ?_
    refine lv_icmp_ne (tgt := 25) hx hb dX1_isLazyFrame_18 (by decide) (fun c4 => ?_) (fun c4 => ?_)
    · have h := h.1 c4
      refine lv_iconst (v := 0) hx hb dX1_isLazyFrame_25 (by decide) ?_
      exact W.zret (ty := .boolean) (v := 0) hx hb hr (narB isB0) (fun t ht hW => ⟨⟨0, u1, rfl, h, by rw [ht]; exact hP, va_K.moved hW.alike hK, hD⟩, hS.F ht⟩) hS.2.2 dX1_isLazyFrame_26
    · have h := h.2 c4
      refine lv_iconst (v := 1) hx hb dX1_isLazyFrame_21 (by decide) ?_
      refine lv_goto (tgt := 26) hx hb dX1_isLazyFrame_22 (by decide) ?_
      exact W.zret (ty := .boolean) (v := 1) hx hb hr (narB isB1) (fun t ht hW => ⟨⟨1, u1, rfl, h, by rw [ht]; exact hP, va_K.moved hW.alike hK, hD⟩, hS.F ht⟩) hS.2.2 dX1_isLazyFrame_26
/-! X1_frameSteps -/
abbrev rmX1_frameSteps : Room := { frames := 2, cells := 0, slots := 0, locals := 40 }
set_option maxHeartbeats 4000000 in
set_option maxRecDepth 100000 in
theorem c_X1_frameSteps (l : Launch) (D : va_G) (cI cZ : ClassId) (a : Nat → Nat) (sz : Nat) (S : Ob) (Q : Int32 → Ob → Prop) (h : wp_X1_frameSteps S Q) : Met l yX1_frameSteps (wsm yX1_frameSteps cX1_frameSteps 1 (some .int)) rmX1_frameSteps (va_Pc [.ref (a 0)] (preW D cI cZ sz (wX1 cI cZ a S))) (va_Qi Q (fun u => atW D cI cZ (va_A (wX1 cI cZ a S) sz) (wX1 cI cZ a u)) (va_A (wX1 cI cZ a S) sz)) 0 0 (va_A (wX1 cI cZ a S) sz) := by
  refine Met.ofW (cc := cX1_frameSteps) (maxL := 1) (ret := (some .int)) (by decide) rfl ?_
  intro p e s m args below meth c s₁ B hml hv
  obtain ⟨rfl, hsz, hP, hK, hD0⟩ := hv
  have hx := B.exec
  have hb := B.bytes
  have hr := B.returns
  have hts0 := atoms_spec (ws := wsm yX1_frameSteps cX1_frameSteps 1 (some .int)) B.pre
  have hts : ∀ w ∈ lw_all, w.before _ s = true := fun w h => hts0 w (List.mem_cons_of_mem _ h)
  have hown : s.vm.findClass RX1 = some m.cls := findClass_of_methodNamed B.named
  have hlocks := B.notSynchronized
  subst hsz
  have hD := hD0.self (sz := s.heap.size)
  generalize hAe : va_A (wX1 cI cZ a S) s.heap.size = A at hD ⊢
  have hA : ∀ q : Nat, s.heap.size ≤ q → A q := fun q h => by rw [← hAe]; exact Or.inr h
  have hS : va_S A s.heap s.heap [] := va_S.rf
  have hml2 := hml
  have hl := lv_entry ([.ref (a 0)]) (n := 1) (Nat.le_of_ble_eq_true rfl)
  rw [lg_entry_eq]
  generalize (lg_sl ([.ref (a 0)]) ++ List.replicate (1 - (lg_sl ([.ref (a 0)])).length) Slot.unset).toArray = ls at hl ⊢
  have hl : lv_has ls 1 [(0, .ref (a 0))] := hl
  unfold wp_X1_frameSteps at h
  refine lv_aload_n hx hb dX1_frameSteps_0 rfl (lv_at hl 0 rfl) ?_
  refine cl_i (ws' := fun u1 => (wX1 cI cZ a u1)) (va_runV (As := []) (rest := []) ⟨hx, hb, hml, hown, hts⟩ (c_X1_hasFours l D cI cZ a _ S _ h ) (cwV 0 hts (gV q_723 q_725 q_17 q_73 q_726) rfl rfl rfl (by decide +kernel) ⟨Nat.le_of_ble_eq_true rfl, Nat.le_of_ble_eq_true rfl⟩) (preV_of (ci := 1) (q := (RX1, TX1, 14)) hK hP hD [0, 1, 2, 3, 4] rfl rfl (by decide) 0 rfl rfl) rfl rfl hl.1 rfl (lv_room (Nat.le_of_ble_eq_true rfl)) dX1_frameSteps_1 ⟨Nat.zero_le _, Nat.zero_le _⟩) hP hD hS hA [0, 1, 2, 3, 4] [.inl 0, .inl 1, .inl 2, .inl 3, .inl 4] rfl (by decide) (fun _ => rfl) (fun _ => rfl) (fun r2 u1 H locs h hP hD hS => ?_)
  refine lv_if_eq (tgt := 19) hx hb dX1_frameSteps_4 (by decide) (fun c3 => ?_) (fun c3 => ?_)
  · have h := h.1 c3
    refine lv_bipush (v := 6) hx hb dX1_frameSteps_19 (by decide) ?_
    exact W.iret (v := 6) hx hb hr (fun t ht hW => ⟨⟨6, u1, rfl, h, by rw [ht]; exact hP, va_K.moved hW.alike hK, hD⟩, hS.F ht⟩) hS.2.2 dX1_frameSteps_21
  · have h := h.2 c3
    refine lv_aload_n hx hb dX1_frameSteps_7 rfl (lv_at hl 0 rfl) ?_
    refine cl_i (ws' := fun u4 => (wX1 cI cZ a u4)) (va_runV (As := []) (rest := []) ⟨hx, hb, hml, hown, hts⟩ (c_X1_isLazyFrame l D cI cZ a _ u1 _ h ) (cwV 0 hts (gV q_732 q_734 q_18 q_73 q_735) rfl rfl rfl (by decide +kernel) ⟨Nat.le_of_ble_eq_true rfl, Nat.le_of_ble_eq_true rfl⟩) (preV_of (ci := 1) (q := (RX1, TX1, 14)) hK hP hD [0, 1, 2, 3, 4] rfl rfl (by decide) 0 rfl rfl) rfl rfl hl.1 rfl (lv_room (Nat.le_of_ble_eq_true rfl)) dX1_frameSteps_8 ⟨Nat.zero_le _, Nat.zero_le _⟩) hP hD hS hA [0, 1, 2, 3, 4] [.inl 0, .inl 1, .inl 2, .inl 3, .inl 4] rfl (by decide) (fun _ => rfl) (fun _ => rfl) (fun r5 u4 H locs h hP hD hS => ?_)
    refine lv_if_ne (tgt := 19) hx hb dX1_frameSteps_11 (by decide) (fun c6 => ?_) (fun c6 => ?_)
    · have h := h.1 c6
      refine lv_bipush (v := 6) hx hb dX1_frameSteps_19 (by decide) ?_
      exact W.iret (v := 6) hx hb hr (fun t ht hW => ⟨⟨6, u4, rfl, h, by rw [ht]; exact hP, va_K.moved hW.alike hK, hD⟩, hS.F ht⟩) hS.2.2 dX1_frameSteps_21
    · have h := h.2 c6
      refine lv_bipush (v := 10) hx hb dX1_frameSteps_14 (by decide) ?_
      refine lv_goto (tgt := 21) hx hb dX1_frameSteps_16 (by decide) ?_
      exact W.iret (v := 10) hx hb hr (fun t ht hW => ⟨⟨10, u4, rfl, h, by rw [ht]; exact hP, va_K.moved hW.alike hK, hD⟩, hS.F ht⟩) hS.2.2 dX1_frameSteps_21
/-! X1_takeSingles -/
abbrev rmX1_takeSingles : Room := { frames := 1, cells := 0, slots := 0, locals := 20 }
set_option maxHeartbeats 4000000 in
set_option maxRecDepth 100000 in
theorem c_X1_takeSingles (l : Launch) (D : va_G) (cI cZ : ClassId) (a : Nat → Nat) (sz : Nat) (S : Ob) (p0 : Int32) (Q : Ob → Prop) (h : wp_X1_takeSingles S p0 Q) : Met l yX1_takeSingles (wsm yX1_takeSingles cX1_takeSingles 3 none) rmX1_takeSingles (va_Pc [.ref (a 0), .int p0] (preW D cI cZ sz (wX1 cI cZ a S))) (va_Qv Q (fun u => atW D cI cZ (va_A (wX1 cI cZ a S) sz) (wX1 cI cZ a u)) (va_A (wX1 cI cZ a S) sz)) 0 0 (va_A (wX1 cI cZ a S) sz) := by
  refine Met.ofW (cc := cX1_takeSingles) (maxL := 3) (ret := none) (by decide) rfl ?_
  intro p e s m args below meth c s₁ B hml hv
  obtain ⟨rfl, hsz, hP, hK, hD0⟩ := hv
  have hx := B.exec
  have hb := B.bytes
  have hr := B.returns
  have hts0 := atoms_spec (ws := wsm yX1_takeSingles cX1_takeSingles 3 none) B.pre
  have hts : ∀ w ∈ lw_all, w.before _ s = true := fun w h => hts0 w (List.mem_cons_of_mem _ h)
  have hown : s.vm.findClass RX1 = some m.cls := findClass_of_methodNamed B.named
  have hlocks := B.notSynchronized
  subst hsz
  have hD := hD0.self (sz := s.heap.size)
  generalize hAe : va_A (wX1 cI cZ a S) s.heap.size = A at hD ⊢
  have hA : ∀ q : Nat, s.heap.size ≤ q → A q := fun q h => by rw [← hAe]; exact Or.inr h
  have hS : va_S A s.heap s.heap [] := va_S.rf
  have hml2 := hml
  have L2 : ∀ (n : Nat), ∀ (y1 : Int32) (y2 : Int32) (T : Ob) (H : Heap) (locs : List Loc) (ls : Array Slot), va_P D vwCl (wX1 cI cZ a T) H → va_D A (wX1 cI cZ a T) → va_S A s.heap H locs → lv_has ls 3 [(0, .ref (a 0)), (1, .int y1), (2, .int y2)] → wp_X1_takeSingles_L2 Q n y1 y2 T → W p l e rmX1_takeSingles s m ([.ref (a 0), .int p0] : List Value).toArray below meth c H locs 0 0 (MQ below (va_Qv Q (fun u => atW D cI cZ A (wX1 cI cZ a u)) A) ([.ref (a 0), .int p0] : List Value).toArray s 0 0 A) (F0 m 2 ls []) := by
    intro n
    induction n with
    | zero =>
      intro y1 y2 T H locs ls hP hD hS hl h
      exact False.elim h
    | succ n ih =>
      intro y1 y2 T H locs ls hP hD hS hl h
      unfold wp_X1_takeSingles_L2 at h
      refine lv_iload_n hx hb dX1_takeSingles_2 rfl (lv_at hl 2 rfl) ?_
      refine lv_iconst (v := 4) hx hb dX1_takeSingles_3 (by decide) ?_
      refine lv_icmp_ge (tgt := 45) hx hb dX1_takeSingles_4 (by decide) (fun c1 => ?_) (fun c1 => ?_)
      · have h := h.1 c1
        exact W.vret hx hb hr (fun t ht hW => ⟨⟨T, rfl, h, by rw [ht]; exact hP, va_K.moved hW.alike hK, hD⟩, hS.F ht⟩) hS.2.2 dX1_takeSingles_45
      · have h := h.2 c1
        refine lv_aload_n hx hb dX1_takeSingles_7 rfl (lv_at hl 0 rfl) ?_
        refine va_get (D := D) (ci := 1) (v := .ref (a 2)) (C := RX1) (T := TX1) (N := 14) hx hb hts inX1 hown hK hP 0 rfl rfl 2 (by decide) (hts _ q_287) (fun _ h9 => h9) rfl dX1_takeSingles_8 ?_
        refine lv_iload_n hx hb dX1_takeSingles_11 rfl (lv_at hl 2 rfl) ?_
        refine lv_aload_n hx hb dX1_takeSingles_12 rfl (lv_at hl 0 rfl) ?_
        refine va_get (D := D) (ci := 1) (v := .ref (a 4)) (C := RX1) (T := TX1) (N := 14) hx hb hts inX1 hown hK hP 0 rfl rfl 4 (by decide) (hts _ q_291) (fun _ h9 => h9) rfl dX1_takeSingles_13 ?_
        refine lv_iload_n hx hb dX1_takeSingles_16 rfl (lv_at hl 1 rfl) ?_
        refine lv_iload_n hx hb dX1_takeSingles_17 rfl (lv_at hl 2 rfl) ?_
        refine lv_iadd hx hb dX1_takeSingles_18 ?_
        refine ar_il (f := (T.2 4)) (n := 96) (j := (Int32.toNatClampNeg (y1 + y2))) hx hb hK hP 4 rfl rfl h.1 dX1_takeSingles_19 ?_
        have h := h.2
        refine cl_i (ws' := fun u2 => (wX1 cI cZ a T)) (va_runS (As := [.int ((T.2 4) (Int32.toNatClampNeg (y1 + y2)))]) (rest := [.int y2, .ref (a 2)]) ⟨hx, hb, hml, hown, hts⟩ (c_X4_isFinite l D cI cZ _ () ((T.2 4) (Int32.toNatClampNeg (y1 + y2))) _ h ) (va_cwS 1 hts (gS q_604 q_605 q_76 q_606) rfl rfl rfl (by decide +kernel) ⟨Nat.le_of_ble_eq_true rfl, Nat.le_of_ble_eq_true rfl⟩) (preS_of hK hP hD [] rfl rfl (by decide)) rfl rfl hl.1 rfl (lv_room (Nat.le_of_ble_eq_true rfl)) dX1_takeSingles_20 ⟨Nat.zero_le _, Nat.zero_le _⟩) hP hD hS hA [] [.inr 0, .inr 1, .inr 2, .inr 3, .inr 4] rfl (by decide) (fun _ => rfl) (fun _ => rfl) (fun r3 u2 H locs h hP hD hS => ?_)
        refine lv_if_eq (tgt := 37) hx hb dX1_takeSingles_23 (by decide) (fun c4 => ?_) (fun c4 => ?_)
        · have h := h.1 c4
          refine lv_iconst (v := 0) hx hb dX1_takeSingles_37 (by decide) ?_
          obtain ⟨T5, eT5⟩ : ∃ z : Ob, z = (sa T 2 (upd (T.2 2) (Int32.toNatClampNeg y2) 0)) := ⟨_, rfl⟩
          refine ar_is (f := (T.2 2)) (n := 4) (j := (Int32.toNatClampNeg y2)) (x := 0) hx hb hK hP hD hS 2 rfl rfl h.1 dX1_takeSingles_38 (wX1 cI cZ a T5) (by subst eT5; rfl) (fun H locs hP hD hS => ?_)
          have h := h.2
          have h := h T5 eT5
          obtain ⟨x6, ex6⟩ : ∃ y : Int32, y = (y2 + 1) := ⟨_, rfl⟩
          have h := h x6 ex6
          refine lv_iinc (v := x6) (lv' := [(2, .int x6), (0, .ref (a 0)), (1, .int y1)]) hx hb dX1_takeSingles_39 hl (k := 2) rfl (by rw [ex6]; rfl) (by decide) rfl (fun ls hl => ?_)
          refine lv_goto (tgt := 2) hx hb dX1_takeSingles_42 (by decide) ?_
          exact ih y1 x6 T5 _ _ _ hP hD hS (lv_sub hl [1, 2, 0] rfl) h
        · have h := h.2 c4
          refine lv_aload_n hx hb dX1_takeSingles_26 rfl (lv_at hl 0 rfl) ?_
          refine va_get (D := D) (ci := 1) (v := .ref (a 4)) (C := RX1) (T := TX1) (N := 14) hx hb hts inX1 hown hK hP 0 rfl rfl 4 (by decide) (hts _ q_291) (fun _ h9 => h9) rfl dX1_takeSingles_27 ?_
          refine lv_iload_n hx hb dX1_takeSingles_30 rfl (lv_at hl 1 rfl) ?_
          refine lv_iload_n hx hb dX1_takeSingles_31 rfl (lv_at hl 2 rfl) ?_
          refine lv_iadd hx hb dX1_takeSingles_32 ?_
          refine ar_il (f := (T.2 4)) (n := 96) (j := (Int32.toNatClampNeg (y1 + y2))) hx hb hK hP 4 rfl rfl h.1 dX1_takeSingles_33 ?_
          have h := h.2
          refine lv_goto (tgt := 38) hx hb dX1_takeSingles_34 (by decide) ?_
          obtain ⟨T7, eT7⟩ : ∃ z : Ob, z = (sa T 2 (upd (T.2 2) (Int32.toNatClampNeg y2) ((T.2 4) (Int32.toNatClampNeg (y1 + y2))))) := ⟨_, rfl⟩
          refine ar_is (f := (T.2 2)) (n := 4) (j := (Int32.toNatClampNeg y2)) (x := ((T.2 4) (Int32.toNatClampNeg (y1 + y2)))) hx hb hK hP hD hS 2 rfl rfl h.1 dX1_takeSingles_38 (wX1 cI cZ a T7) (by subst eT7; rfl) (fun H locs hP hD hS => ?_)
          have h := h.2
          have h := h T7 eT7
          obtain ⟨x8, ex8⟩ : ∃ y : Int32, y = (y2 + 1) := ⟨_, rfl⟩
          have h := h x8 ex8
          refine lv_iinc (v := x8) (lv' := [(2, .int x8), (0, .ref (a 0)), (1, .int y1)]) hx hb dX1_takeSingles_39 hl (k := 2) rfl (by rw [ex8]; rfl) (by decide) rfl (fun ls hl => ?_)
          refine lv_goto (tgt := 2) hx hb dX1_takeSingles_42 (by decide) ?_
          exact ih y1 x8 T7 _ _ _ hP hD hS (lv_sub hl [1, 2, 0] rfl) h
  have hl := lv_entry ([.ref (a 0), .int p0]) (n := 3) (Nat.le_of_ble_eq_true rfl)
  rw [lg_entry_eq]
  generalize (lg_sl ([.ref (a 0), .int p0]) ++ List.replicate (3 - (lg_sl ([.ref (a 0), .int p0])).length) Slot.unset).toArray = ls at hl ⊢
  have hl : lv_has ls 3 [(0, .ref (a 0)), (1, .int p0)] := hl
  unfold wp_X1_takeSingles at h
  refine lv_iconst (v := 0) hx hb dX1_takeSingles_0 (by decide) ?_
  refine lv_istore_n (lv' := [(2, .int 0), (0, .ref (a 0)), (1, .int p0)]) hx hb dX1_takeSingles_1 rfl hl (by decide) rfl (fun ls hl => ?_)
  exact L2 2000 p0 0 S _ _ _ hP hD hS (lv_sub hl [1, 2, 0] rfl) h
/-! X1_popFrame -/
abbrev rmX1_popFrame : Room := { frames := 2, cells := 0, slots := 0, locals := 60 }
set_option maxHeartbeats 4000000 in
set_option maxRecDepth 100000 in
theorem c_X1_popFrame (l : Launch) (D : va_G) (cI cZ : ClassId) (a : Nat → Nat) (sz : Nat) (S : Ob) (Q : Int32 → Ob → Prop) (h : wp_X1_popFrame S Q) : Met l yX1_popFrame (wsm yX1_popFrame cX1_popFrame 4 (some .boolean)) rmX1_popFrame (va_Pc [.ref (a 0)] (preW D cI cZ sz (wX1 cI cZ a S))) (va_Qi Q (fun u => atW D cI cZ (va_A (wX1 cI cZ a S) sz) (wX1 cI cZ a u)) (va_A (wX1 cI cZ a S) sz)) 0 0 (va_A (wX1 cI cZ a S) sz) := by
  refine Met.ofW (cc := cX1_popFrame) (maxL := 4) (ret := (some .boolean)) (by decide) rfl ?_
  intro p e s m args below meth c s₁ B hml hv
  obtain ⟨rfl, hsz, hP, hK, hD0⟩ := hv
  have hx := B.exec
  have hb := B.bytes
  have hr := B.returns
  have hts0 := atoms_spec (ws := wsm yX1_popFrame cX1_popFrame 4 (some .boolean)) B.pre
  have hts : ∀ w ∈ lw_all, w.before _ s = true := fun w h => hts0 w (List.mem_cons_of_mem _ h)
  have hown : s.vm.findClass RX1 = some m.cls := findClass_of_methodNamed B.named
  have hlocks := B.notSynchronized
  subst hsz
  have hD := hD0.self (sz := s.heap.size)
  generalize hAe : va_A (wX1 cI cZ a S) s.heap.size = A at hD ⊢
  have hA : ∀ q : Nat, s.heap.size ≤ q → A q := fun q h => by rw [← hAe]; exact Or.inr h
  have hS : va_S A s.heap s.heap [] := va_S.rf
  have hml2 := hml
  have L37 : ∀ (y1 : Int32) (y2 : Int32) (T : Ob) (H : Heap) (locs : List Loc) (ls : Array Slot), va_P D vwCl (wX1 cI cZ a T) H → va_D A (wX1 cI cZ a T) → va_S A s.heap H locs → lv_has ls 4 [(0, .ref (a 0)), (1, .int y1), (2, .int y2)] → wp_X1_popFrame_L37 Q y1 y2 T → W p l e rmX1_popFrame s m ([.ref (a 0)] : List Value).toArray below meth c H locs 0 0 (MQ below (va_Qi Q (fun u => atW D cI cZ A (wX1 cI cZ a u)) A) ([.ref (a 0)] : List Value).toArray s 0 0 A) (F0 m 37 ls []) := by
    intro y1 y2 T H locs ls hP hD hS hl h
    unfold wp_X1_popFrame_L37 at h
    refine lv_aload_n hx hb dX1_popFrame_37 rfl (lv_at hl 0 rfl) ?_
    refine va_get (D := D) (ci := 1) (v := .int (T.1 6)) (C := RX1) (T := TX1) (N := 14) hx hb hts inX1 hown hK hP 0 rfl rfl 6 (by decide) (hts _ q_296) (fun _ h9 => h9) rfl dX1_popFrame_38 ?_
    refine lv_bipush (v := 6) hx hb dX1_popFrame_41 (by decide) ?_
    refine lv_isub hx hb dX1_popFrame_43 ?_
    refine lv_topi (fun x9 ex9 => ?_)
    have h := h x9 ex9
    refine lv_istore_n (lv' := [(3, .int x9), (0, .ref (a 0)), (1, .int y1), (2, .int y2)]) hx hb dX1_popFrame_44 rfl hl (by decide) rfl (fun ls hl => ?_)
    refine lv_aload_n hx hb dX1_popFrame_45 rfl (lv_at hl 1 rfl) ?_
    refine va_get (D := D) (ci := 1) (v := .ref (a 4)) (C := RX1) (T := TX1) (N := 14) hx hb hts inX1 hown hK hP 0 rfl rfl 4 (by decide) (hts _ q_291) (fun _ h9 => h9) rfl dX1_popFrame_46 ?_
    refine lv_iload_n hx hb dX1_popFrame_49 rfl (lv_at hl 0 rfl) ?_
    refine lv_aload_n hx hb dX1_popFrame_50 rfl (lv_at hl 1 rfl) ?_
    refine va_get (D := D) (ci := 1) (v := .ref (a 1)) (C := RX1) (T := TX1) (N := 14) hx hb hts inX1 hown hK hP 0 rfl rfl 1 (by decide) (hts _ q_284) (fun _ h9 => h9) rfl dX1_popFrame_51 ?_
    refine lv_iconst (v := 0) hx hb dX1_popFrame_54 (by decide) ?_
    refine lv_iconst (v := 4) hx hb dX1_popFrame_55 (by decide) ?_
    obtain ⟨T10, eT10⟩ : ∃ z : Ob, z = (sa T 1 (va_cpy (T.2 4) (T.2 1) (Int32.toNatClampNeg x9) 0 4)) := ⟨_, rfl⟩
    refine ar_cp (f := (T.2 4)) (g := (T.2 1)) (n0 := 96) (n1 := 8) (jsp := (Int32.toNatClampNeg x9)) (jdp := 0) (jn := 4) hx hb hml2 hown (hts _ q_748) (hts _ q_750) (hts _ q_749) (hts _ q_78) hK hP hD hS 4 1 rfl rfl rfl (by decide) (by decide) h.1 (by decide) (by decide) h.2.1 (by decide) (Nat.le_of_ble_eq_true rfl) (Nat.le_of_ble_eq_true rfl) dX1_popFrame_56 hl.1 (wX1 cI cZ a T10) (by subst eT10; rfl) (fun H locs hP hD hS => ?_)
    have h := h.2.2
    have h := h T10 eT10
    refine lv_aload_n hx hb dX1_popFrame_59 rfl (lv_at hl 1 rfl) ?_
    refine lv_aload_n hx hb dX1_popFrame_60 rfl (lv_at hl 1 rfl) ?_
    refine va_get (D := D) (ci := 1) (v := .ref (a 4)) (C := RX1) (T := TX1) (N := 14) hx hb hts inX1 hown hK hP 0 rfl rfl 4 (by decide) (hts _ q_291) (fun _ h9 => h9) rfl dX1_popFrame_61 ?_
    refine lv_iload_n hx hb dX1_popFrame_64 rfl (lv_at hl 0 rfl) ?_
    refine lv_iconst (v := 4) hx hb dX1_popFrame_65 (by decide) ?_
    refine lv_iadd hx hb dX1_popFrame_66 ?_
    refine ar_il (f := (T10.2 4)) (n := 96) (j := (Int32.toNatClampNeg (x9 + 4))) hx hb hK hP 4 rfl rfl h.1 dX1_popFrame_67 ?_
    have h := h.2
    obtain ⟨T11, eT11⟩ : ∃ z : Ob, z = (si T10 5 ((T10.2 4) (Int32.toNatClampNeg (x9 + 4)))) := ⟨_, rfl⟩
    refine pu_f (ci := 1) (v := .int ((T10.2 4) (Int32.toNatClampNeg (x9 + 4)))) (ty := .int) (C := RX1) (T := TX1) (N := 14) hx hb hts inX1 tyX1 tyX1_ok nmX1 hown hK hP hD hS 0 rfl rfl 5 (by decide) (hts _ q_293) (fun _ h9 => h9) rfl rfl rfl rfl (Nat.le_of_ble_eq_true rfl) dX1_popFrame_68 (wX1 cI cZ a T11) (by subst eT11; rfl) (fun H locs hP hD hS => ?_)
    have h := h T11 eT11
    refine lv_aload_n hx hb dX1_popFrame_71 rfl (lv_at hl 1 rfl) ?_
    refine lv_aload_n hx hb dX1_popFrame_72 rfl (lv_at hl 1 rfl) ?_
    refine va_get (D := D) (ci := 1) (v := .ref (a 4)) (C := RX1) (T := TX1) (N := 14) hx hb hts inX1 hown hK hP 0 rfl rfl 4 (by decide) (hts _ q_291) (fun _ h9 => h9) rfl dX1_popFrame_73 ?_
    refine lv_iload_n hx hb dX1_popFrame_76 rfl (lv_at hl 0 rfl) ?_
    refine lv_iconst (v := 5) hx hb dX1_popFrame_77 (by decide) ?_
    refine lv_iadd hx hb dX1_popFrame_78 ?_
    refine ar_il (f := (T11.2 4)) (n := 96) (j := (Int32.toNatClampNeg (x9 + 5))) hx hb hK hP 4 rfl rfl h.1 dX1_popFrame_79 ?_
    have h := h.2
    refine lv_iconst (v := 1) hx hb dX1_popFrame_80 (by decide) ?_
    refine lv_iand hx hb dX1_popFrame_81 ?_
    obtain ⟨T12, eT12⟩ : ∃ z : Ob, z = (si T11 8 (((T11.2 4) (Int32.toNatClampNeg (x9 + 5))) &&& 1)) := ⟨_, rfl⟩
    refine pu_f (ci := 1) (v := .int (((T11.2 4) (Int32.toNatClampNeg (x9 + 5))) &&& 1)) (ty := .int) (C := RX1) (T := TX1) (N := 14) hx hb hts inX1 tyX1 tyX1_ok nmX1 hown hK hP hD hS 0 rfl rfl 8 (by decide) (hts _ q_301) (fun _ h9 => h9) rfl rfl rfl rfl (Nat.le_of_ble_eq_true rfl) dX1_popFrame_82 (wX1 cI cZ a T12) (by subst eT12; rfl) (fun H locs hP hD hS => ?_)
    have h := h T12 eT12
    refine lv_aload_n hx hb dX1_popFrame_85 rfl (lv_at hl 1 rfl) ?_
    refine lv_aload_n hx hb dX1_popFrame_86 rfl (lv_at hl 1 rfl) ?_
    refine va_get (D := D) (ci := 1) (v := .ref (a 4)) (C := RX1) (T := TX1) (N := 14) hx hb hts inX1 hown hK hP 0 rfl rfl 4 (by decide) (hts _ q_291) (fun _ h9 => h9) rfl dX1_popFrame_87 ?_
    refine lv_iload_n hx hb dX1_popFrame_90 rfl (lv_at hl 0 rfl) ?_
    refine lv_iconst (v := 5) hx hb dX1_popFrame_91 (by decide) ?_
    refine lv_iadd hx hb dX1_popFrame_92 ?_
    refine ar_il (f := (T12.2 4)) (n := 96) (j := (Int32.toNatClampNeg (x9 + 5))) hx hb hK hP 4 rfl rfl h.1 dX1_popFrame_93 ?_
    have h := h.2
    refine lv_iconst (v := 1) hx hb dX1_popFrame_94 (by decide) ?_
    refine lv_ishr hx hb dX1_popFrame_95 ?_
    refine lv_iconst (v := 1) hx hb dX1_popFrame_96 (by decide) ?_
    refine lv_iand hx hb dX1_popFrame_97 ?_
    obtain ⟨T13, eT13⟩ : ∃ z : Ob, z = (si T12 9 ((((T12.2 4) (Int32.toNatClampNeg (x9 + 5))) >>> (1 &&& 31)) &&& 1)) := ⟨_, rfl⟩
    refine pu_f (ci := 1) (v := .int ((((T12.2 4) (Int32.toNatClampNeg (x9 + 5))) >>> (1 &&& 31)) &&& 1)) (ty := .int) (C := RX1) (T := TX1) (N := 14) hx hb hts inX1 tyX1 tyX1_ok nmX1 hown hK hP hD hS 0 rfl rfl 9 (by decide) (hts _ q_304) (fun _ h9 => h9) rfl rfl rfl rfl (Nat.le_of_ble_eq_true rfl) dX1_popFrame_98 (wX1 cI cZ a T13) (by subst eT13; rfl) (fun H locs hP hD hS => ?_)
    have h := h T13 eT13
    refine lv_aload_n hx hb dX1_popFrame_101 rfl (lv_at hl 1 rfl) ?_
    refine lv_iload_n hx hb dX1_popFrame_102 rfl (lv_at hl 2 rfl) ?_
    obtain ⟨T14, eT14⟩ : ∃ z : Ob, z = (si T13 12 y1) := ⟨_, rfl⟩
    refine pu_f (ci := 1) (v := .int y1) (ty := .boolean) (C := RX1) (T := TX1) (N := 14) hx hb hts inX1 tyX1 tyX1_ok nmX1 hown hK hP hD hS 0 rfl rfl 12 (by decide) (hts _ q_313) (fun _ h9 => h9) rfl rfl (narB h.1) (fitB h.1) (Nat.le_of_ble_eq_true rfl) dX1_popFrame_103 (wX1 cI cZ a T14) (by subst eT14; rfl) (fun H locs hP hD hS => ?_)
    have h := h.2
    have h := h T14 eT14
    refine lv_aload_n hx hb dX1_popFrame_106 rfl (lv_at hl 1 rfl) ?_
    refine lv_dup hx hb dX1_popFrame_107 rfl ?_
    refine va_get (D := D) (ci := 1) (v := .int (T14.1 6)) (C := RX1) (T := TX1) (N := 14) hx hb hts inX1 hown hK hP 0 rfl rfl 6 (by decide) (hts _ q_296) (fun _ h9 => h9) rfl dX1_popFrame_108 ?_
    refine lv_iload_n hx hb dX1_popFrame_111 rfl (lv_at hl 2 rfl) ?_
    refine lv_if_eq (tgt := 120) hx hb dX1_popFrame_112 (by decide) (fun c15 => ?_) (fun c15 => ?_)
    · have h := h.1 c15
      refine lv_bipush (v := 6) hx hb dX1_popFrame_120 (by decide) ?_
      refine lv_isub hx hb dX1_popFrame_122 ?_
      obtain ⟨T16, eT16⟩ : ∃ z : Ob, z = (si T14 6 ((T14.1 6) - 6)) := ⟨_, rfl⟩
      refine pu_f (ci := 1) (v := .int ((T14.1 6) - 6)) (ty := .int) (C := RX1) (T := TX1) (N := 14) hx hb hts inX1 tyX1 tyX1_ok nmX1 hown hK hP hD hS 0 rfl rfl 6 (by decide) (hts _ q_296) (fun _ h9 => h9) rfl rfl rfl rfl (Nat.le_of_ble_eq_true rfl) dX1_popFrame_123 (wX1 cI cZ a T16) (by subst eT16; rfl) (fun H locs hP hD hS => ?_)
      have h := h T16 eT16
      refine lv_iload_n hx hb dX1_popFrame_126 rfl (lv_at hl 3 rfl) ?_
      exact W.zret (ty := .boolean) (v := y2) hx hb hr (narB h.1) (fun t ht hW => ⟨⟨y2, T16, rfl, h.2, by rw [ht]; exact hP, va_K.moved hW.alike hK, hD⟩, hS.F ht⟩) hS.2.2 dX1_popFrame_127
    · have h := h.2 c15
      refine lv_bipush (v := 10) hx hb dX1_popFrame_115 (by decide) ?_
      refine lv_goto (tgt := 122) hx hb dX1_popFrame_117 (by decide) ?_
      refine lv_isub hx hb dX1_popFrame_122 ?_
      obtain ⟨T17, eT17⟩ : ∃ z : Ob, z = (si T14 6 ((T14.1 6) - 10)) := ⟨_, rfl⟩
      refine pu_f (ci := 1) (v := .int ((T14.1 6) - 10)) (ty := .int) (C := RX1) (T := TX1) (N := 14) hx hb hts inX1 tyX1 tyX1_ok nmX1 hown hK hP hD hS 0 rfl rfl 6 (by decide) (hts _ q_296) (fun _ h9 => h9) rfl rfl rfl rfl (Nat.le_of_ble_eq_true rfl) dX1_popFrame_123 (wX1 cI cZ a T17) (by subst eT17; rfl) (fun H locs hP hD hS => ?_)
      have h := h T17 eT17
      refine lv_iload_n hx hb dX1_popFrame_126 rfl (lv_at hl 3 rfl) ?_
      exact W.zret (ty := .boolean) (v := y2) hx hb hr (narB h.1) (fun t ht hW => ⟨⟨y2, T17, rfl, h.2, by rw [ht]; exact hP, va_K.moved hW.alike hK, hD⟩, hS.F ht⟩) hS.2.2 dX1_popFrame_127
  have hl := lv_entry ([.ref (a 0)]) (n := 4) (Nat.le_of_ble_eq_true rfl)
  rw [lg_entry_eq]
  generalize (lg_sl ([.ref (a 0)]) ++ List.replicate (4 - (lg_sl ([.ref (a 0)])).length) Slot.unset).toArray = ls at hl ⊢
  have hl : lv_has ls 4 [(0, .ref (a 0))] := hl
  unfold wp_X1_popFrame at h
  refine lv_aload_n hx hb dX1_popFrame_0 rfl (lv_at hl 0 rfl) ?_
  refine cl_i (ws' := fun u1 => (wX1 cI cZ a u1)) (va_runV (As := []) (rest := []) ⟨hx, hb, hml, hown, hts⟩ (c_X1_hasFours l D cI cZ a _ S _ h ) (cwV 0 hts (gV q_723 q_725 q_17 q_73 q_726) rfl rfl rfl (by decide +kernel) ⟨Nat.le_of_ble_eq_true rfl, Nat.le_of_ble_eq_true rfl⟩) (preV_of (ci := 1) (q := (RX1, TX1, 14)) hK hP hD [0, 1, 2, 3, 4] rfl rfl (by decide) 0 rfl rfl) rfl rfl hl.1 rfl (lv_room (Nat.le_of_ble_eq_true rfl)) dX1_popFrame_1 ⟨Nat.zero_le _, Nat.zero_le _⟩) hP hD hS hA [0, 1, 2, 3, 4] [.inl 0, .inl 1, .inl 2, .inl 3, .inl 4] rfl (by decide) (fun _ => rfl) (fun _ => rfl) (fun r2 u1 H locs h hP hD hS => ?_)
  refine lv_istore_n (lv' := [(1, .int r2), (0, .ref (a 0))]) hx hb dX1_popFrame_4 rfl hl (by decide) rfl (fun ls hl => ?_)
  refine lv_aload_n hx hb dX1_popFrame_5 rfl (lv_at hl 1 rfl) ?_
  refine cl_i (ws' := fun u3 => (wX1 cI cZ a u3)) (va_runV (As := []) (rest := []) ⟨hx, hb, hml, hown, hts⟩ (c_X1_isLazyFrame l D cI cZ a _ u1 _ h ) (cwV 0 hts (gV q_732 q_734 q_18 q_73 q_735) rfl rfl rfl (by decide +kernel) ⟨Nat.le_of_ble_eq_true rfl, Nat.le_of_ble_eq_true rfl⟩) (preV_of (ci := 1) (q := (RX1, TX1, 14)) hK hP hD [0, 1, 2, 3, 4] rfl rfl (by decide) 0 rfl rfl) rfl rfl hl.1 rfl (lv_room (Nat.le_of_ble_eq_true rfl)) dX1_popFrame_6 ⟨Nat.zero_le _, Nat.zero_le _⟩) hP hD hS hA [0, 1, 2, 3, 4] [.inl 0, .inl 1, .inl 2, .inl 3, .inl 4] rfl (by decide) (fun _ => rfl) (fun _ => rfl) (fun r4 u3 H locs h hP hD hS => ?_)
  refine lv_istore_n (lv' := [(2, .int r4), (1, .int r2), (0, .ref (a 0))]) hx hb dX1_popFrame_9 rfl hl (by decide) rfl (fun ls hl => ?_)
  refine lv_iload_n hx hb dX1_popFrame_10 rfl (lv_at hl 0 rfl) ?_
  refine lv_if_eq (tgt := 22) hx hb dX1_popFrame_11 (by decide) (fun c5 => ?_) (fun c5 => ?_)
  · have h := h.1 c5
    refine lv_iload_n hx hb dX1_popFrame_22 rfl (lv_at hl 1 rfl) ?_
    refine lv_if_eq (tgt := 37) hx hb dX1_popFrame_23 (by decide) (fun c6 => ?_) (fun c6 => ?_)
    · have h := h.1 c6
      exact L37 r2 r4 u3 _ _ _ hP hD hS (lv_sub hl [2, 1, 0] rfl) h
    · have h := h.2 c6
      refine lv_aload_n hx hb dX1_popFrame_26 rfl (lv_at hl 2 rfl) ?_
      refine lv_aload_n hx hb dX1_popFrame_27 rfl (lv_at hl 2 rfl) ?_
      refine va_get (D := D) (ci := 1) (v := .int (u3.1 6)) (C := RX1) (T := TX1) (N := 14) hx hb hts inX1 hown hK hP 0 rfl rfl 6 (by decide) (hts _ q_296) (fun _ h9 => h9) rfl dX1_popFrame_28 ?_
      refine lv_bipush (v := 10) hx hb dX1_popFrame_31 (by decide) ?_
      refine lv_isub hx hb dX1_popFrame_33 ?_
      refine cl_v (ws' := fun u7 => (wX1 cI cZ a u7)) (va_runV (As := [.int ((u3.1 6) - 10)]) (rest := []) ⟨hx, hb, hml, hown, hts⟩ (c_X1_takeSingles l D cI cZ a _ u3 ((u3.1 6) - 10) _ h ) (cwV 1 hts (gV q_744 q_746 q_20 q_73 q_747) rfl rfl rfl (by decide +kernel) ⟨Nat.le_of_ble_eq_true rfl, Nat.le_of_ble_eq_true rfl⟩) (preV_of (ci := 1) (q := (RX1, TX1, 14)) hK hP hD [0, 1, 2, 3, 4] rfl rfl (by decide) 0 rfl rfl) rfl rfl hl.1 rfl (lv_room (Nat.le_of_ble_eq_true rfl)) dX1_popFrame_34 ⟨Nat.zero_le _, Nat.zero_le _⟩) hP hD hS hA [0, 1, 2, 3, 4] [.inl 0, .inl 1, .inl 2, .inl 3, .inl 4] rfl (by decide) (fun _ => rfl) (fun _ => rfl) (fun u7 H locs h hP hD hS => ?_)
      exact L37 r2 r4 u7 _ _ _ hP hD hS (lv_sub hl [2, 1, 0] rfl) h
  · have h := h.2 c5
    refine lv_aload_n hx hb dX1_popFrame_14 rfl (lv_at hl 2 rfl) ?_
    refine lv_iconst (v := -1) hx hb dX1_popFrame_15 (by decide) ?_
    obtain ⟨T8, eT8⟩ : ∃ z : Ob, z = (si u3 11 (-1)) := ⟨_, rfl⟩
    refine pu_f (ci := 1) (v := .int (-1)) (ty := .int) (C := RX1) (T := TX1) (N := 14) hx hb hts inX1 tyX1 tyX1_ok nmX1 hown hK hP hD hS 0 rfl rfl 11 (by decide) (hts _ q_310) (fun _ h9 => h9) rfl rfl rfl rfl (Nat.le_of_ble_eq_true rfl) dX1_popFrame_16 (wX1 cI cZ a T8) (by subst eT8; rfl) (fun H locs hP hD hS => ?_)
    have h := h T8 eT8
    refine lv_goto (tgt := 37) hx hb dX1_popFrame_19 (by decide) ?_
    exact L37 r2 r4 T8 _ _ _ hP hD hS (lv_sub hl [2, 1, 0] rfl) h
