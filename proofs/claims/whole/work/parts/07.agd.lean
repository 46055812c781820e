/-! X0_restart -/
abbrev rmX0_restart : Room := { frames := 0, cells := 0, slots := 0, locals := 0 }
set_option maxHeartbeats 4000000 in
set_option maxRecDepth 100000 in
theorem c_X0_restart (l : Launch) (D : va_G) (cI cZ : ClassId) (a : Nat → Nat) (sz : Nat) (S : Ob) (Q : Ob → Prop) (h : wp_X0_restart S Q) : Met l yX0_restart (wsm yX0_restart cX0_restart 1 none) rmX0_restart (va_Pc [.ref (a 0)] (preW D cI cZ sz (wX0 cI cZ a S))) (va_Qv Q (fun u => atW D cI cZ (va_A (wX0 cI cZ a S) sz) (wX0 cI cZ a u)) (va_A (wX0 cI cZ a S) sz)) 0 0 (va_A (wX0 cI cZ a S) sz) := by
  refine Met.ofW (cc := cX0_restart) (maxL := 1) (ret := none) (by decide) rfl ?_
  intro p e s m args below meth c s₁ B hml hv
  obtain ⟨rfl, hsz, hP, hK, hD0⟩ := hv
  have hx := B.exec
  have hb := B.bytes
  have hr := B.returns
  have hts0 := atoms_spec (ws := wsm yX0_restart cX0_restart 1 none) B.pre
  have hts : ∀ w ∈ lw_all, w.before _ s = true := fun w h => hts0 w (List.mem_cons_of_mem _ h)
  have hown : s.vm.findClass RX0 = some m.cls := findClass_of_methodNamed B.named
  have hlocks := B.notSynchronized
  subst hsz
  have hD := hD0.self (sz := s.heap.size)
  generalize hAe : va_A (wX0 cI cZ a S) s.heap.size = A at hD ⊢
  have hA : ∀ q : Nat, s.heap.size ≤ q → A q := fun q h => by rw [← hAe]; exact Or.inr h
  have hS : va_S A s.heap s.heap [] := va_S.rf
  have hml2 := hml
  have hl := lv_entry ([.ref (a 0)]) (n := 1) (Nat.le_of_ble_eq_true rfl)
  rw [lg_entry_eq]
  generalize (lg_sl ([.ref (a 0)]) ++ List.replicate (1 - (lg_sl ([.ref (a 0)])).length) Slot.unset).toArray = ls at hl ⊢
  have hl : lv_has ls 1 [(0, .ref (a 0))] := hl
  unfold wp_X0_restart at h
  refine lv_aload_n hx hb dX0_restart_0 rfl (lv_at hl 0 rfl) ?_
  refine lv_iconst (v := 0) hx hb dX0_restart_1 (by decide) ?_
  obtain ⟨T1, eT1⟩ : ∃ z : Ob, z = (si S 2 0) := ⟨_, rfl⟩
  refine pu_f (ci := 0) (v := .int 0) (ty := .int) (C := RX0) (T := TX0) (N := 5) hx hb hts inX0 tyX0 tyX0_ok nmX0 hown hK hP hD hS 0 rfl rfl 2 (by decide) (hts _ q_190) (fun _ h9 => h9) rfl rfl rfl rfl (Nat.le_of_ble_eq_true rfl) dX0_restart_2 (wX0 cI cZ a T1) (by subst eT1; rfl) (fun H locs hP hD hS => ?_)
  have h := h T1 eT1
  refine lv_aload_n hx hb dX0_restart_5 rfl (lv_at hl 0 rfl) ?_
  refine lv_aload_n hx hb dX0_restart_6 rfl (lv_at hl 0 rfl) ?_
  refine va_get (D := D) (ci := 0) (v := .int (T1.1 3)) (C := RX0) (T := TX0) (N := 5) hx hb hts inX0 hown hK hP 0 rfl rfl 3 (by decide) (hts _ q_192) (fun _ h9 => h9) rfl dX0_restart_7 ?_
  obtain ⟨T2, eT2⟩ : ∃ z : Ob, z = (si T1 4 (T1.1 3)) := ⟨_, rfl⟩
  refine pu_f (ci := 0) (v := .int (T1.1 3)) (ty := .int) (C := RX0) (T := TX0) (N := 5) hx hb hts inX0 tyX0 tyX0_ok nmX0 hown hK hP hD hS 0 rfl rfl 4 (by decide) (hts _ q_194) (fun _ h9 => h9) rfl rfl rfl rfl (Nat.le_of_ble_eq_true rfl) dX0_restart_10 (wX0 cI cZ a T2) (by subst eT2; rfl) (fun H locs hP hD hS => ?_)
  have h := h T2 eT2
  exact W.vret hx hb hr (fun t ht hW => ⟨⟨T2, rfl, h, by rw [ht]; exact hP, va_K.moved hW.alike hK, hD⟩, hS.F ht⟩) hS.2.2 dX0_restart_13
/-! X0_copyFrom -/
abbrev rmX0_copyFrom : Room := { frames := 1, cells := 0, slots := 0, locals := 60 }
set_option maxHeartbeats 4000000 in
set_option maxRecDepth 100000 in
theorem c_X0_copyFrom (l : Launch) (D : va_G) (cI cZ : ClassId) (a : Nat → Nat) (b : Nat → Nat) (sz : Nat) (S : Ob × Ob) (Q : (Ob × Ob) → Prop) (h : wp_X0_copyFrom S Q) : Met l yX0_copyFrom (wsm yX0_copyFrom cX0_copyFrom 2 none) rmX0_copyFrom (va_Pc [.ref (a 0), .ref (b 0)] (preW D cI cZ sz (wX0X0 cI cZ a b S))) (va_Qv Q (fun u => atW D cI cZ (va_A (wX0X0 cI cZ a b S) sz) (wX0X0 cI cZ a b u)) (va_A (wX0X0 cI cZ a b S) sz)) 0 0 (va_A (wX0X0 cI cZ a b S) sz) := by
  refine Met.ofW (cc := cX0_copyFrom) (maxL := 2) (ret := none) (by decide) rfl ?_
  intro p e s m args below meth c s₁ B hml hv
  obtain ⟨rfl, hsz, hP, hK, hD0⟩ := hv
  have hx := B.exec
  have hb := B.bytes
  have hr := B.returns
  have hts0 := atoms_spec (ws := wsm yX0_copyFrom cX0_copyFrom 2 none) B.pre
  have hts : ∀ w ∈ lw_all, w.before _ s = true := fun w h => hts0 w (List.mem_cons_of_mem _ h)
  have hown : s.vm.findClass RX0 = some m.cls := findClass_of_methodNamed B.named
  have hlocks := B.notSynchronized
  subst hsz
  have hD := hD0.self (sz := s.heap.size)
  generalize hAe : va_A (wX0X0 cI cZ a b S) s.heap.size = A at hD ⊢
  have hA : ∀ q : Nat, s.heap.size ≤ q → A q := fun q h => by rw [← hAe]; exact Or.inr h
  have hS : va_S A s.heap s.heap [] := va_S.rf
  have hml2 := hml
  have hl := lv_entry ([.ref (a 0), .ref (b 0)]) (n := 2) (Nat.le_of_ble_eq_true rfl)
  rw [lg_entry_eq]
  generalize (lg_sl ([.ref (a 0), .ref (b 0)]) ++ List.replicate (2 - (lg_sl ([.ref (a 0), .ref (b 0)])).length) Slot.unset).toArray = ls at hl ⊢
  have hl : lv_has ls 2 [(0, .ref (a 0)), (1, .ref (b 0))] := hl
  unfold wp_X0_copyFrom at h
  refine lv_aload_n hx hb dX0_copyFrom_0 rfl (lv_at hl 1 rfl) ?_
  refine va_get (D := D) (ci := 0) (v := .ref (b 1)) (C := RX0) (T := TX0) (N := 5) hx hb hts inX0 hown hK hP 3 rfl rfl 0 (by decide) (hts _ q_188) (fun _ h9 => h9) rfl dX0_copyFrom_1 ?_
  refine lv_iconst (v := 0) hx hb dX0_copyFrom_4 (by decide) ?_
  refine lv_aload_n hx hb dX0_copyFrom_5 rfl (lv_at hl 0 rfl) ?_
  refine va_get (D := D) (ci := 0) (v := .ref (a 1)) (C := RX0) (T := TX0) (N := 5) hx hb hts inX0 hown hK hP 0 rfl rfl 0 (by decide) (hts _ q_188) (fun _ h9 => h9) rfl dX0_copyFrom_6 ?_
  refine lv_iconst (v := 0) hx hb dX0_copyFrom_9 (by decide) ?_
  refine lv_bipush (v := 32) hx hb dX0_copyFrom_10 (by decide) ?_
  obtain ⟨T1, eT1⟩ : ∃ z : Ob, z = (sa S.1 0 (va_cpy (S.2.2 0) (S.1.2 0) 0 0 32)) := ⟨_, rfl⟩
  refine ar_cp (f := (S.2.2 0)) (g := (S.1.2 0)) (n0 := 32) (n1 := 32) (jsp := 0) (jdp := 0) (jn := 32) hx hb hml2 hown (hts _ q_857) (hts _ q_750) (hts _ q_749) (hts _ q_78) hK hP hD hS 4 1 rfl rfl (by decide) (by decide) (by decide) (by decide) (by decide) (by decide) (by decide) (by decide) (Nat.le_of_ble_eq_true rfl) (Nat.le_of_ble_eq_true rfl) dX0_copyFrom_12 hl.1 (wX0X0 cI cZ a b (T1, S.2)) (by subst eT1; rfl) (fun H locs hP hD hS => ?_)
  have h := h T1 eT1
  refine lv_aload_n hx hb dX0_copyFrom_15 rfl (lv_at hl 1 rfl) ?_
  refine va_get (D := D) (ci := 0) (v := .ref (b 2)) (C := RX0) (T := TX0) (N := 5) hx hb hts inX0 hown hK hP 3 rfl rfl 1 (by decide) (hts _ q_189) (fun _ h9 => h9) rfl dX0_copyFrom_16 ?_
  refine lv_iconst (v := 0) hx hb dX0_copyFrom_19 (by decide) ?_
  refine lv_aload_n hx hb dX0_copyFrom_20 rfl (lv_at hl 0 rfl) ?_
  refine va_get (D := D) (ci := 0) (v := .ref (a 2)) (C := RX0) (T := TX0) (N := 5) hx hb hts inX0 hown hK hP 0 rfl rfl 1 (by decide) (hts _ q_189) (fun _ h9 => h9) rfl dX0_copyFrom_21 ?_
  refine lv_iconst (v := 0) hx hb dX0_copyFrom_24 (by decide) ?_
  refine lv_bipush (v := 32) hx hb dX0_copyFrom_25 (by decide) ?_
  obtain ⟨T2, eT2⟩ : ∃ z : Ob, z = (sa T1 1 (va_cpy (S.2.2 1) (T1.2 1) 0 0 32)) := ⟨_, rfl⟩
  refine ar_cp (f := (S.2.2 1)) (g := (T1.2 1)) (n0 := 32) (n1 := 32) (jsp := 0) (jdp := 0) (jn := 32) hx hb hml2 hown (hts _ q_857) (hts _ q_750) (hts _ q_749) (hts _ q_78) hK hP hD hS 5 2 rfl rfl (by decide) (by decide) (by decide) (by decide) (by decide) (by decide) (by decide) (by decide) (Nat.le_of_ble_eq_true rfl) (Nat.le_of_ble_eq_true rfl) dX0_copyFrom_27 hl.1 (wX0X0 cI cZ a b (T2, S.2)) (by subst eT2; rfl) (fun H locs hP hD hS => ?_)
  have h := h T2 eT2
  refine lv_aload_n hx hb dX0_copyFrom_30 rfl (lv_at hl 0 rfl) ?_
  refine lv_aload_n hx hb dX0_copyFrom_31 rfl (lv_at hl 1 rfl) ?_
  refine va_get (D := D) (ci := 0) (v := .int (S.2.1 2)) (C := RX0) (T := TX0) (N := 5) hx hb hts inX0 hown hK hP 3 rfl rfl 2 (by decide) (hts _ q_190) (fun _ h9 => h9) rfl dX0_copyFrom_32 ?_
  obtain ⟨T3, eT3⟩ : ∃ z : Ob, z = (si T2 2 (S.2.1 2)) := ⟨_, rfl⟩
  refine pu_f (ci := 0) (v := .int (S.2.1 2)) (ty := .int) (C := RX0) (T := TX0) (N := 5) hx hb hts inX0 tyX0 tyX0_ok nmX0 hown hK hP hD hS 0 rfl rfl 2 (by decide) (hts _ q_190) (fun _ h9 => h9) rfl rfl rfl rfl (Nat.le_of_ble_eq_true rfl) dX0_copyFrom_35 (wX0X0 cI cZ a b (T3, S.2)) (by subst eT3; rfl) (fun H locs hP hD hS => ?_)
  have h := h T3 eT3
  refine lv_aload_n hx hb dX0_copyFrom_38 rfl (lv_at hl 0 rfl) ?_
  refine lv_aload_n hx hb dX0_copyFrom_39 rfl (lv_at hl 1 rfl) ?_
  refine va_get (D := D) (ci := 0) (v := .int (S.2.1 3)) (C := RX0) (T := TX0) (N := 5) hx hb hts inX0 hown hK hP 3 rfl rfl 3 (by decide) (hts _ q_192) (fun _ h9 => h9) rfl dX0_copyFrom_40 ?_
  obtain ⟨T4, eT4⟩ : ∃ z : Ob, z = (si T3 3 (S.2.1 3)) := ⟨_, rfl⟩
  refine pu_f (ci := 0) (v := .int (S.2.1 3)) (ty := .int) (C := RX0) (T := TX0) (N := 5) hx hb hts inX0 tyX0 tyX0_ok nmX0 hown hK hP hD hS 0 rfl rfl 3 (by decide) (hts _ q_192) (fun _ h9 => h9) rfl rfl rfl rfl (Nat.le_of_ble_eq_true rfl) dX0_copyFrom_43 (wX0X0 cI cZ a b (T4, S.2)) (by subst eT4; rfl) (fun H locs hP hD hS => ?_)
  have h := h T4 eT4
  refine lv_aload_n hx hb dX0_copyFrom_46 rfl (lv_at hl 0 rfl) ?_
  refine lv_aload_n hx hb dX0_copyFrom_47 rfl (lv_at hl 1 rfl) ?_
  refine va_get (D := D) (ci := 0) (v := .int (S.2.1 4)) (C := RX0) (T := TX0) (N := 5) hx hb hts inX0 hown hK hP 3 rfl rfl 4 (by decide) (hts _ q_194) (fun _ h9 => h9) rfl dX0_copyFrom_48 ?_
  obtain ⟨T5, eT5⟩ : ∃ z : Ob, z = (si T4 4 (S.2.1 4)) := ⟨_, rfl⟩
  refine pu_f (ci := 0) (v := .int (S.2.1 4)) (ty := .int) (C := RX0) (T := TX0) (N := 5) hx hb hts inX0 tyX0 tyX0_ok nmX0 hown hK hP hD hS 0 rfl rfl 4 (by decide) (hts _ q_194) (fun _ h9 => h9) rfl rfl rfl rfl (Nat.le_of_ble_eq_true rfl) dX0_copyFrom_51 (wX0X0 cI cZ a b (T5, S.2)) (by subst eT5; rfl) (fun H locs hP hD hS => ?_)
  have h := h T5 eT5
  exact W.vret hx hb hr (fun t ht hW => ⟨⟨(T5, S.2), rfl, h, by rw [ht]; exact hP, va_K.moved hW.alike hK, hD⟩, hS.F ht⟩) hS.2.2 dX0_copyFrom_54
/-! X0_note -/
abbrev rmX0_note : Room := { frames := 0, cells := 0, slots := 0, locals := 0 }
set_option maxHeartbeats 4000000 in
set_option maxRecDepth 100000 in
theorem c_X0_note (l : Launch) (D : va_G) (cI cZ : ClassId) (a : Nat → Nat) (sz : Nat) (S : Ob) (p0 : Int32) (p1 : Int32) (Q : Int32 → Ob → Prop) (h : wp_X0_note S p0 p1 Q) : Met l yX0_note (wsm yX0_note cX0_note 3 (some .boolean)) rmX0_note (va_Pc [.ref (a 0), .int p0, .int p1] (preW D cI cZ sz (wX0 cI cZ a S))) (va_Qi Q (fun u => atW D cI cZ (va_A (wX0 cI cZ a S) sz) (wX0 cI cZ a u)) (va_A (wX0 cI cZ a S) sz)) 0 0 (va_A (wX0 cI cZ a S) sz) := by
  refine Met.ofW (cc := cX0_note) (maxL := 3) (ret := (some .boolean)) (by decide) rfl ?_
  intro p e s m args below meth c s₁ B hml hv
  obtain ⟨rfl, hsz, hP, hK, hD0⟩ := hv
  have hx := B.exec
  have hb := B.bytes
  have hr := B.returns
  have hts0 := atoms_spec (ws := wsm yX0_note cX0_note 3 (some .boolean)) B.pre
  have hts : ∀ w ∈ lw_all, w.before _ s = true := fun w h => hts0 w (List.mem_cons_of_mem _ h)
  have hown : s.vm.findClass RX0 = some m.cls := findClass_of_methodNamed B.named
  have hlocks := B.notSynchronized
  subst hsz
  have hD := hD0.self (sz := s.heap.size)
  generalize hAe : va_A (wX0 cI cZ a S) s.heap.size = A at hD ⊢
  have hA : ∀ q : Nat, s.heap.size ≤ q → A q := fun q h => by rw [← hAe]; exact Or.inr h
  have hS : va_S A s.heap s.heap [] := va_S.rf
  have hml2 := hml
  have hl := lv_entry ([.ref (a 0), .int p0, .int p1]) (n := 3) (Nat.le_of_ble_eq_true rfl)
  rw [lg_entry_eq]
  generalize (lg_sl ([.ref (a 0), .int p0, .int p1]) ++ List.replicate (3 - (lg_sl ([.ref (a 0), .int p0, .int p1])).length) Slot.unset).toArray = ls at hl ⊢
  have hl : lv_has ls 3 [(0, .ref (a 0)), (1, .int p0), (2, .int p1)] := hl
  unfold wp_X0_note at h
  refine lv_aload_n hx hb dX0_note_0 rfl (lv_at hl 0 rfl) ?_
  refine va_get (D := D) (ci := 0) (v := .int (S.1 2)) (C := RX0) (T := TX0) (N := 5) hx hb hts inX0 hown hK hP 0 rfl rfl 2 (by decide) (hts _ q_190) (fun _ h9 => h9) rfl dX0_note_1 ?_
  refine lv_bipush (v := 32) hx hb dX0_note_4 (by decide) ?_
  refine lv_icmp_lt (tgt := 11) hx hb dX0_note_6 (by decide) (fun c1 => ?_) (fun c1 => ?_)
  · have h := h.1 c1
    refine lv_aload_n hx hb dX0_note_11 rfl (lv_at hl 0 rfl) ?_
    refine va_get (D := D) (ci := 0) (v := .ref (a 1)) (C := RX0) (T := TX0) (N := 5) hx hb hts inX0 hown hK hP 0 rfl rfl 0 (by decide) (hts _ q_188) (fun _ h9 => h9) rfl dX0_note_12 ?_
    refine lv_aload_n hx hb dX0_note_15 rfl (lv_at hl 0 rfl) ?_
    refine va_get (D := D) (ci := 0) (v := .int (S.1 2)) (C := RX0) (T := TX0) (N := 5) hx hb hts inX0 hown hK hP 0 rfl rfl 2 (by decide) (hts _ q_190) (fun _ h9 => h9) rfl dX0_note_16 ?_
    refine lv_iload_n hx hb dX0_note_19 rfl (lv_at hl 1 rfl) ?_
    obtain ⟨T2, eT2⟩ : ∃ z : Ob, z = (sa S 0 (upd (S.2 0) (Int32.toNatClampNeg (S.1 2)) p0)) := ⟨_, rfl⟩
    refine ar_is (f := (S.2 0)) (n := 32) (j := (Int32.toNatClampNeg (S.1 2))) (x := p0) hx hb hK hP hD hS 1 rfl rfl h.1 dX0_note_20 (wX0 cI cZ a T2) (by subst eT2; rfl) (fun H locs hP hD hS => ?_)
    have h := h.2
    have h := h T2 eT2
    refine lv_aload_n hx hb dX0_note_21 rfl (lv_at hl 0 rfl) ?_
    refine va_get (D := D) (ci := 0) (v := .ref (a 2)) (C := RX0) (T := TX0) (N := 5) hx hb hts inX0 hown hK hP 0 rfl rfl 1 (by decide) (hts _ q_189) (fun _ h9 => h9) rfl dX0_note_22 ?_
    refine lv_aload_n hx hb dX0_note_25 rfl (lv_at hl 0 rfl) ?_
    refine va_get (D := D) (ci := 0) (v := .int (T2.1 2)) (C := RX0) (T := TX0) (N := 5) hx hb hts inX0 hown hK hP 0 rfl rfl 2 (by decide) (hts _ q_190) (fun _ h9 => h9) rfl dX0_note_26 ?_
    refine lv_iload_n hx hb dX0_note_29 rfl (lv_at hl 2 rfl) ?_
    obtain ⟨T3, eT3⟩ : ∃ z : Ob, z = (sa T2 1 (upd (T2.2 1) (Int32.toNatClampNeg (T2.1 2)) p1)) := ⟨_, rfl⟩
    refine ar_is (f := (T2.2 1)) (n := 32) (j := (Int32.toNatClampNeg (T2.1 2))) (x := p1) hx hb hK hP hD hS 2 rfl rfl h.1 dX0_note_30 (wX0 cI cZ a T3) (by subst eT3; rfl) (fun H locs hP hD hS => ?_)
    have h := h.2
    have h := h T3 eT3
    refine lv_aload_n hx hb dX0_note_31 rfl (lv_at hl 0 rfl) ?_
    refine lv_dup hx hb dX0_note_32 rfl ?_
    refine va_get (D := D) (ci := 0) (v := .int (T3.1 2)) (C := RX0) (T := TX0) (N := 5) hx hb hts inX0 hown hK hP 0 rfl rfl 2 (by decide) (hts _ q_190) (fun _ h9 => h9) rfl dX0_note_33 ?_
    refine lv_iconst (v := 1) hx hb dX0_note_36 (by decide) ?_
    refine lv_iadd hx hb dX0_note_37 ?_
    obtain ⟨T4, eT4⟩ : ∃ z : Ob, z = (si T3 2 ((T3.1 2) + 1)) := ⟨_, rfl⟩
    refine pu_f (ci := 0) (v := .int ((T3.1 2) + 1)) (ty := .int) (C := RX0) (T := TX0) (N := 5) hx hb hts inX0 tyX0 tyX0_ok nmX0 hown hK hP hD hS 0 rfl rfl 2 (by decide) (hts _ q_190) (fun _ h9 => h9) rfl rfl rfl rfl (Nat.le_of_ble_eq_true rfl) dX0_note_38 (wX0 cI cZ a T4) (by subst eT4; rfl) (fun H locs hP hD hS => ?_)
    have h := h T4 eT4
    refine lv_iconst (v := 1) hx hb dX0_note_41 (by decide) ?_
    exact W.zret (ty := .boolean) (v := 1) hx hb hr (narB isB1) (fun t ht hW => ⟨⟨1, T4, rfl, h, by rw [ht]; exact hP, va_K.moved hW.alike hK, hD⟩, hS.F ht⟩) hS.2.2 dX0_note_42
  · have h := h.2 c1
    refine lv_iconst (v := 0) hx hb dX0_note_9 (by decide) ?_
    exact W.zret (ty := .boolean) (v := 0) hx hb hr (narB isB0) (fun t ht hW => ⟨⟨0, S, rfl, h, by rw [ht]; exact hP, va_K.moved hW.alike hK, hD⟩, hS.F ht⟩) hS.2.2 dX0_note_10
/-! X0_admit -/
abbrev rmX0_admit : Room := { frames := 1, cells := 0, slots := 0, locals := 22 }
set_option maxHeartbeats 4000000 in
set_option maxRecDepth 100000 in
theorem c_X0_admit (l : Launch) (D : va_G) (cI cZ : ClassId) (a : Nat → Nat) (b : Nat → Nat) (sz : Nat) (S : Ob × Ob) (p0 : Int32) (Q : (Ob × Ob) → Prop) (h : wp_X0_admit S p0 Q) : Met l yX0_admit (wsm yX0_admit cX0_admit 5 none) rmX0_admit (va_Pc [.ref (a 0), .ref (b 0), .int p0] (preW D cI cZ sz (wX0X5 cI cZ a b S))) (va_Qv Q (fun u => atW D cI cZ (va_A (wX0X5 cI cZ a b S) sz) (wX0X5 cI cZ a b u)) (va_A (wX0X5 cI cZ a b S) sz)) 0 0 (va_A (wX0X5 cI cZ a b S) sz) := by
  refine Met.ofW (cc := cX0_admit) (maxL := 5) (ret := none) (by decide) rfl ?_
  intro p e s m args below meth c s₁ B hml hv
  obtain ⟨rfl, hsz, hP, hK, hD0⟩ := hv
  have hx := B.exec
  have hb := B.bytes
  have hr := B.returns
  have hts0 := atoms_spec (ws := wsm yX0_admit cX0_admit 5 none) B.pre
  have hts : ∀ w ∈ lw_all, w.before _ s = true := fun w h => hts0 w (List.mem_cons_of_mem _ h)
  have hown : s.vm.findClass RX0 = some m.cls := findClass_of_methodNamed B.named
  have hlocks := B.notSynchronized
  subst hsz
  have hD := hD0.self (sz := s.heap.size)
  generalize hAe : va_A (wX0X5 cI cZ a b S) s.heap.size = A at hD ⊢
  have hA : ∀ q : Nat, s.heap.size ≤ q → A q := fun q h => by rw [← hAe]; exact Or.inr h
  have hS : va_S A s.heap s.heap [] := va_S.rf
  have hml2 := hml
  have L5 : ∀ (n : Nat), ∀ (y2 : Int32) (y3 : Int32) (y4 : Int32) (T : Ob × Ob) (H : Heap) (locs : List Loc) (ls : Array Slot), va_P D vwCl (wX0X5 cI cZ a b T) H → va_D A (wX0X5 cI cZ a b T) → va_S A s.heap H locs → lv_has ls 5 [(0, .ref (a 0)), (1, .ref (b 0)), (2, .int y2), (3, .int y3), (4, .int y4)] → wp_X0_admit_L5 Q n y2 y3 y4 T → W p l e rmX0_admit s m ([.ref (a 0), .ref (b 0), .int p0] : List Value).toArray below meth c H locs 0 0 (MQ below (va_Qv Q (fun u => atW D cI cZ A (wX0X5 cI cZ a b u)) A) ([.ref (a 0), .ref (b 0), .int p0] : List Value).toArray s 0 0 A) (F0 m 5 ls []) := by
    intro n
    induction n with
    | zero =>
      intro y2 y3 y4 T H locs ls hP hD hS hl h
      exact False.elim h
    | succ n ih =>
      intro y2 y3 y4 T H locs ls hP hD hS hl h
      unfold wp_X0_admit_L5 at h
      refine lv_iload hx hb dX0_admit_5 (lv_at hl 4 rfl) ?_
      refine lv_aload_n hx hb dX0_admit_7 rfl (lv_at hl 0 rfl) ?_
      refine va_get (D := D) (ci := 0) (v := .int (T.1.1 2)) (C := RX0) (T := TX0) (N := 5) hx hb hts inX0 hown hK hP 0 rfl rfl 2 (by decide) (hts _ q_190) (fun _ h9 => h9) rfl dX0_admit_8 ?_
      refine lv_icmp_ge (tgt := 76) hx hb dX0_admit_11 (by decide) (fun c1 => ?_) (fun c1 => ?_)
      · have h := h.1 c1
        refine lv_aload_n hx hb dX0_admit_76 rfl (lv_at hl 0 rfl) ?_
        refine lv_iload_n hx hb dX0_admit_77 rfl (lv_at hl 3 rfl) ?_
        obtain ⟨T2, eT2⟩ : ∃ z : Ob, z = (si T.1 2 y3) := ⟨_, rfl⟩
        refine pu_f (ci := 0) (v := .int y3) (ty := .int) (C := RX0) (T := TX0) (N := 5) hx hb hts inX0 tyX0 tyX0_ok nmX0 hown hK hP hD hS 0 rfl rfl 2 (by decide) (hts _ q_190) (fun _ h9 => h9) rfl rfl rfl rfl (Nat.le_of_ble_eq_true rfl) dX0_admit_78 (wX0X5 cI cZ a b (T2, T.2)) (by subst eT2; rfl) (fun H locs hP hD hS => ?_)
        have h := h T2 eT2
        exact W.vret hx hb hr (fun t ht hW => ⟨⟨(T2, T.2), rfl, h, by rw [ht]; exact hP, va_K.moved hW.alike hK, hD⟩, hS.F ht⟩) hS.2.2 dX0_admit_81
      · have h := h.2 c1
        refine lv_aload_n hx hb dX0_admit_14 rfl (lv_at hl 0 rfl) ?_
        refine va_get (D := D) (ci := 0) (v := .ref (a 2)) (C := RX0) (T := TX0) (N := 5) hx hb hts inX0 hown hK hP 0 rfl rfl 1 (by decide) (hts _ q_189) (fun _ h9 => h9) rfl dX0_admit_15 ?_
        refine lv_iload hx hb dX0_admit_18 (lv_at hl 4 rfl) ?_
        refine ar_il (f := (T.1.2 1)) (n := 32) (j := (Int32.toNatClampNeg y4)) hx hb hK hP 2 rfl rfl h.1 dX0_admit_20 ?_
        have h := h.2
        refine lv_iload_n hx hb dX0_admit_21 rfl (lv_at hl 2 rfl) ?_
        refine lv_icmp_ne (tgt := 41) hx hb dX0_admit_22 (by decide) (fun c3 => ?_) (fun c3 => ?_)
        · have h := h.1 c3
          refine lv_aload_n hx hb dX0_admit_41 rfl (lv_at hl 0 rfl) ?_
          refine va_get (D := D) (ci := 0) (v := .ref (a 1)) (C := RX0) (T := TX0) (N := 5) hx hb hts inX0 hown hK hP 0 rfl rfl 0 (by decide) (hts _ q_188) (fun _ h9 => h9) rfl dX0_admit_42 ?_
          refine lv_iload_n hx hb dX0_admit_45 rfl (lv_at hl 3 rfl) ?_
          refine lv_aload_n hx hb dX0_admit_46 rfl (lv_at hl 0 rfl) ?_
          refine va_get (D := D) (ci := 0) (v := .ref (a 1)) (C := RX0) (T := TX0) (N := 5) hx hb hts inX0 hown hK hP 0 rfl rfl 0 (by decide) (hts _ q_188) (fun _ h9 => h9) rfl dX0_admit_47 ?_
          refine lv_iload hx hb dX0_admit_50 (lv_at hl 4 rfl) ?_
          refine ar_il (f := (T.1.2 0)) (n := 32) (j := (Int32.toNatClampNeg y4)) hx hb hK hP 1 rfl rfl h.1 dX0_admit_52 ?_
          have h := h.2
          obtain ⟨T4, eT4⟩ : ∃ z : Ob, z = (sa T.1 0 (upd (T.1.2 0) (Int32.toNatClampNeg y3) ((T.1.2 0) (Int32.toNatClampNeg y4)))) := ⟨_, rfl⟩
          refine ar_is (f := (T.1.2 0)) (n := 32) (j := (Int32.toNatClampNeg y3)) (x := ((T.1.2 0) (Int32.toNatClampNeg y4))) hx hb hK hP hD hS 1 rfl rfl h.1 dX0_admit_53 (wX0X5 cI cZ a b (T4, T.2)) (by subst eT4; rfl) (fun H locs hP hD hS => ?_)
          have h := h.2
          have h := h T4 eT4
          refine lv_aload_n hx hb dX0_admit_54 rfl (lv_at hl 0 rfl) ?_
          refine va_get (D := D) (ci := 0) (v := .ref (a 2)) (C := RX0) (T := TX0) (N := 5) hx hb hts inX0 hown hK hP 0 rfl rfl 1 (by decide) (hts _ q_189) (fun _ h9 => h9) rfl dX0_admit_55 ?_
          refine lv_iload_n hx hb dX0_admit_58 rfl (lv_at hl 3 rfl) ?_
          refine lv_aload_n hx hb dX0_admit_59 rfl (lv_at hl 0 rfl) ?_
          refine va_get (D := D) (ci := 0) (v := .ref (a 2)) (C := RX0) (T := TX0) (N := 5) hx hb hts inX0 hown hK hP 0 rfl rfl 1 (by decide) (hts _ q_189) (fun _ h9 => h9) rfl dX0_admit_60 ?_
          refine lv_iload hx hb dX0_admit_63 (lv_at hl 4 rfl) ?_
          refine ar_il (f := (T4.2 1)) (n := 32) (j := (Int32.toNatClampNeg y4)) hx hb hK hP 2 rfl rfl h.1 dX0_admit_65 ?_
          have h := h.2
          obtain ⟨T5, eT5⟩ : ∃ z : Ob, z = (sa T4 1 (upd (T4.2 1) (Int32.toNatClampNeg y3) ((T4.2 1) (Int32.toNatClampNeg y4)))) := ⟨_, rfl⟩
          refine ar_is (f := (T4.2 1)) (n := 32) (j := (Int32.toNatClampNeg y3)) (x := ((T4.2 1) (Int32.toNatClampNeg y4))) hx hb hK hP hD hS 2 rfl rfl h.1 dX0_admit_66 (wX0X5 cI cZ a b (T5, T.2)) (by subst eT5; rfl) (fun H locs hP hD hS => ?_)
          have h := h.2
          have h := h T5 eT5
          obtain ⟨x6, ex6⟩ : ∃ y : Int32, y = (y3 + 1) := ⟨_, rfl⟩
          have h := h x6 ex6
          refine lv_iinc (v := x6) (lv' := [(3, .int x6), (0, .ref (a 0)), (1, .ref (b 0)), (2, .int y2), (4, .int y4)]) hx hb dX0_admit_67 hl (k := 3) rfl (by rw [ex6]; rfl) (by decide) rfl (fun ls hl => ?_)
          obtain ⟨x7, ex7⟩ : ∃ y : Int32, y = (y4 + 1) := ⟨_, rfl⟩
          have h := h x7 ex7
          refine lv_iinc (v := x7) (lv' := [(4, .int x7), (3, .int x6), (0, .ref (a 0)), (1, .ref (b 0)), (2, .int y2)]) hx hb dX0_admit_70 hl (k := 4) rfl (by rw [ex7]; rfl) (by decide) rfl (fun ls hl => ?_)
          refine lv_goto (tgt := 5) hx hb dX0_admit_73 (by decide) ?_
          exact ih y2 x6 x7 (T5, T.2) _ _ _ hP hD hS (lv_sub hl [2, 3, 4, 1, 0] rfl) h
        · have h := h.2 c3
          refine lv_aload_n hx hb dX0_admit_25 rfl (lv_at hl 1 rfl) ?_
          refine lv_aload_n hx hb dX0_admit_26 rfl (lv_at hl 0 rfl) ?_
          refine va_get (D := D) (ci := 0) (v := .ref (a 1)) (C := RX0) (T := TX0) (N := 5) hx hb hts inX0 hown hK hP 0 rfl rfl 0 (by decide) (hts _ q_188) (fun _ h9 => h9) rfl dX0_admit_27 ?_
          refine lv_iload hx hb dX0_admit_30 (lv_at hl 4 rfl) ?_
          refine ar_il (f := (T.1.2 0)) (n := 32) (j := (Int32.toNatClampNeg y4)) hx hb hK hP 1 rfl rfl h.1 dX0_admit_32 ?_
          have h := h.2
          refine lv_iload_n hx hb dX0_admit_33 rfl (lv_at hl 2 rfl) ?_
          refine cl_i (ws' := fun u8 => (wX0X5 cI cZ a b (T.1, u8))) (va_runV (As := [.int ((T.1.2 0) (Int32.toNatClampNeg y4)), .int y2]) (rest := []) ⟨hx, hb, hml, hown, hts⟩ (c_X5_request l D cI cZ b _ T.2 ((T.1.2 0) (Int32.toNatClampNeg y4)) y2 _ h ) (cwV 2 hts (gV q_510 q_471 q_472 q_69 q_473) rfl rfl rfl (by decide +kernel) ⟨Nat.le_of_ble_eq_true rfl, Nat.le_of_ble_eq_true rfl⟩) (preV_of (ci := 4) (q := (RX5, TX5, 16)) hK hP hD [3, 4, 5, 6, 7, 8, 9, 10, 11, 12, 13] rfl rfl (by decide) 3 rfl rfl) rfl rfl hl.1 rfl (lv_room (Nat.le_of_ble_eq_true rfl)) dX0_admit_34 ⟨Nat.zero_le _, Nat.zero_le _⟩) hP hD hS hA [3, 4, 5, 6, 7, 8, 9, 10, 11, 12, 13] [.inr 0, .inr 1, .inr 2, .inl 0, .inl 1, .inl 2, .inl 3, .inl 4, .inl 5, .inl 6, .inl 7, .inl 8, .inl 9, .inl 10] rfl (by decide) (fun _ => rfl) (fun _ => rfl) (fun r9 u8 H locs h hP hD hS => ?_)
          refine lv_pop hx hb dX0_admit_37 rfl ?_
          refine lv_goto (tgt := 70) hx hb dX0_admit_38 (by decide) ?_
          obtain ⟨x10, ex10⟩ : ∃ y : Int32, y = (y4 + 1) := ⟨_, rfl⟩
          have h := h x10 ex10
          refine lv_iinc (v := x10) (lv' := [(4, .int x10), (0, .ref (a 0)), (1, .ref (b 0)), (2, .int y2), (3, .int y3)]) hx hb dX0_admit_70 hl (k := 4) rfl (by rw [ex10]; rfl) (by decide) rfl (fun ls hl => ?_)
          refine lv_goto (tgt := 5) hx hb dX0_admit_73 (by decide) ?_
          exact ih y2 y3 x10 (T.1, u8) _ _ _ hP hD hS (lv_sub hl [1, 2, 3, 4, 0] rfl) h
  have hl := lv_entry ([.ref (a 0), .ref (b 0), .int p0]) (n := 5) (Nat.le_of_ble_eq_true rfl)
  rw [lg_entry_eq]
  generalize (lg_sl ([.ref (a 0), .ref (b 0), .int p0]) ++ List.replicate (5 - (lg_sl ([.ref (a 0), .ref (b 0), .int p0])).length) Slot.unset).toArray = ls at hl ⊢
  have hl : lv_has ls 5 [(0, .ref (a 0)), (1, .ref (b 0)), (2, .int p0)] := hl
  unfold wp_X0_admit at h
  refine lv_iconst (v := 0) hx hb dX0_admit_0 (by decide) ?_
  refine lv_istore_n (lv' := [(3, .int 0), (0, .ref (a 0)), (1, .ref (b 0)), (2, .int p0)]) hx hb dX0_admit_1 rfl hl (by decide) rfl (fun ls hl => ?_)
  refine lv_iconst (v := 0) hx hb dX0_admit_2 (by decide) ?_
  refine lv_istore (lv' := [(4, .int 0), (3, .int 0), (0, .ref (a 0)), (1, .ref (b 0)), (2, .int p0)]) hx hb dX0_admit_3 hl (by decide) rfl (fun ls hl => ?_)
  exact L5 2000 p0 0 0 S _ _ _ hP hD hS (lv_sub hl [2, 3, 4, 1, 0] rfl) h
/-! X0_tick -/
abbrev rmX0_tick : Room := { frames := 1, cells := 0, slots := 0, locals := 22 }
set_option maxHeartbeats 4000000 in
set_option maxRecDepth 100000 in
theorem c_X0_tick (l : Launch) (D : va_G) (cI cZ : ClassId) (a : Nat → Nat) (b : Nat → Nat) (sz : Nat) (S : Ob × Ob) (p0 : Int32) (Q : (Ob × Ob) → Prop) (h : wp_X0_tick S p0 Q) : Met l yX0_tick (wsm yX0_tick cX0_tick 3 none) rmX0_tick (va_Pc [.ref (a 0), .ref (b 0), .int p0] (preW D cI cZ sz (wX0X5 cI cZ a b S))) (va_Qv Q (fun u => atW D cI cZ (va_A (wX0X5 cI cZ a b S) sz) (wX0X5 cI cZ a b u)) (va_A (wX0X5 cI cZ a b S) sz)) 0 0 (va_A (wX0X5 cI cZ a b S) sz) := by
  refine Met.ofW (cc := cX0_tick) (maxL := 3) (ret := none) (by decide) rfl ?_
  intro p e s m args below meth c s₁ B hml hv
  obtain ⟨rfl, hsz, hP, hK, hD0⟩ := hv
  have hx := B.exec
  have hb := B.bytes
  have hr := B.returns
  have hts0 := atoms_spec (ws := wsm yX0_tick cX0_tick 3 none) B.pre
  have hts : ∀ w ∈ lw_all, w.before _ s = true := fun w h => hts0 w (List.mem_cons_of_mem _ h)
  have hown : s.vm.findClass RX0 = some m.cls := findClass_of_methodNamed B.named
  have hlocks := B.notSynchronized
  subst hsz
  have hD := hD0.self (sz := s.heap.size)
  generalize hAe : va_A (wX0X5 cI cZ a b S) s.heap.size = A at hD ⊢
  have hA : ∀ q : Nat, s.heap.size ≤ q → A q := fun q h => by rw [← hAe]; exact Or.inr h
  have hS : va_S A s.heap s.heap [] := va_S.rf
  have hml2 := hml
  have hl := lv_entry ([.ref (a 0), .ref (b 0), .int p0]) (n := 3) (Nat.le_of_ble_eq_true rfl)
  rw [lg_entry_eq]
  generalize (lg_sl ([.ref (a 0), .ref (b 0), .int p0]) ++ List.replicate (3 - (lg_sl ([.ref (a 0), .ref (b 0), .int p0])).length) Slot.unset).toArray = ls at hl ⊢
  have hl : lv_has ls 3 [(0, .ref (a 0)), (1, .ref (b 0)), (2, .int p0)] := hl
  unfold wp_X0_tick at h
  refine lv_aload_n hx hb dX0_tick_0 rfl (lv_at hl 0 rfl) ?_
  refine va_get (D := D) (ci := 0) (v := .int (S.1.1 3)) (C := RX0) (T := TX0) (N := 5) hx hb hts inX0 hown hK hP 0 rfl rfl 3 (by decide) (hts _ q_192) (fun _ h9 => h9) rfl dX0_tick_1 ?_
  refine lv_if_ne (tgt := 8) hx hb dX0_tick_4 (by decide) (fun c1 => ?_) (fun c1 => ?_)
  · have h := h.1 c1
    refine lv_aload_n hx hb dX0_tick_8 rfl (lv_at hl 0 rfl) ?_
    refine lv_dup hx hb dX0_tick_9 rfl ?_
    refine va_get (D := D) (ci := 0) (v := .int (S.1.1 4)) (C := RX0) (T := TX0) (N := 5) hx hb hts inX0 hown hK hP 0 rfl rfl 4 (by decide) (hts _ q_194) (fun _ h9 => h9) rfl dX0_tick_10 ?_
    refine lv_iconst (v := 1) hx hb dX0_tick_13 (by decide) ?_
    refine lv_isub hx hb dX0_tick_14 ?_
    obtain ⟨T2, eT2⟩ : ∃ z : Ob, z = (si S.1 4 ((S.1.1 4) - 1)) := ⟨_, rfl⟩
    refine pu_f (ci := 0) (v := .int ((S.1.1 4) - 1)) (ty := .int) (C := RX0) (T := TX0) (N := 5) hx hb hts inX0 tyX0 tyX0_ok nmX0 hown hK hP hD hS 0 rfl rfl 4 (by decide) (hts _ q_194) (fun _ h9 => h9) rfl rfl rfl rfl (Nat.le_of_ble_eq_true rfl) dX0_tick_15 (wX0X5 cI cZ a b (T2, S.2)) (by subst eT2; rfl) (fun H locs hP hD hS => ?_)
    have h := h T2 eT2
    refine lv_aload_n hx hb dX0_tick_18 rfl (lv_at hl 0 rfl) ?_
    refine va_get (D := D) (ci := 0) (v := .int (T2.1 4)) (C := RX0) (T := TX0) (N := 5) hx hb hts inX0 hown hK hP 0 rfl rfl 4 (by decide) (hts _ q_194) (fun _ h9 => h9) rfl dX0_tick_19 ?_
    refine lv_if_ne (tgt := 41) hx hb dX0_tick_22 (by decide) (fun c3 => ?_) (fun c3 => ?_)
    · have h := h.1 c3
      exact W.vret hx hb hr (fun t ht hW => ⟨⟨(T2, S.2), rfl, h, by rw [ht]; exact hP, va_K.moved hW.alike hK, hD⟩, hS.F ht⟩) hS.2.2 dX0_tick_41
    · have h := h.2 c3
      refine lv_aload_n hx hb dX0_tick_25 rfl (lv_at hl 1 rfl) ?_
      refine lv_bipush (v := 16) hx hb dX0_tick_26 (by decide) ?_
      refine lv_iload_n hx hb dX0_tick_28 rfl (lv_at hl 2 rfl) ?_
      refine cl_i (ws' := fun u4 => (wX0X5 cI cZ a b (T2, u4))) (va_runV (As := [.int 16, .int p0]) (rest := []) ⟨hx, hb, hml, hown, hts⟩ (c_X5_request l D cI cZ b _ S.2 16 p0 _ h ) (cwV 2 hts (gV q_510 q_471 q_472 q_69 q_473) rfl rfl rfl (by decide +kernel) ⟨Nat.le_of_ble_eq_true rfl, Nat.le_of_ble_eq_true rfl⟩) (preV_of (ci := 4) (q := (RX5, TX5, 16)) hK hP hD [3, 4, 5, 6, 7, 8, 9, 10, 11, 12, 13] rfl rfl (by decide) 3 rfl rfl) rfl rfl hl.1 rfl (lv_room (Nat.le_of_ble_eq_true rfl)) dX0_tick_29 ⟨Nat.zero_le _, Nat.zero_le _⟩) hP hD hS hA [3, 4, 5, 6, 7, 8, 9, 10, 11, 12, 13] [.inr 0, .inr 1, .inr 2, .inl 0, .inl 1, .inl 2, .inl 3, .inl 4, .inl 5, .inl 6, .inl 7, .inl 8, .inl 9, .inl 10] rfl (by decide) (fun _ => rfl) (fun _ => rfl) (fun r5 u4 H locs h hP hD hS => ?_)
      refine lv_pop hx hb dX0_tick_32 rfl ?_
      refine lv_aload_n hx hb dX0_tick_33 rfl (lv_at hl 0 rfl) ?_
      refine lv_aload_n hx hb dX0_tick_34 rfl (lv_at hl 0 rfl) ?_
      refine va_get (D := D) (ci := 0) (v := .int (T2.1 3)) (C := RX0) (T := TX0) (N := 5) hx hb hts inX0 hown hK hP 0 rfl rfl 3 (by decide) (hts _ q_192) (fun _ h9 => h9) rfl dX0_tick_35 ?_
      obtain ⟨T6, eT6⟩ : ∃ z : Ob, z = (si T2 4 (T2.1 3)) := ⟨_, rfl⟩
      refine pu_f (ci := 0) (v := .int (T2.1 3)) (ty := .int) (C := RX0) (T := TX0) (N := 5) hx hb hts inX0 tyX0 tyX0_ok nmX0 hown hK hP hD hS 0 rfl rfl 4 (by decide) (hts _ q_194) (fun _ h9 => h9) rfl rfl rfl rfl (Nat.le_of_ble_eq_true rfl) dX0_tick_38 (wX0X5 cI cZ a b (T6, u4)) (by subst eT6; rfl) (fun H locs hP hD hS => ?_)
      have h := h T6 eT6
      exact W.vret hx hb hr (fun t ht hW => ⟨⟨(T6, u4), rfl, h, by rw [ht]; exact hP, va_K.moved hW.alike hK, hD⟩, hS.F ht⟩) hS.2.2 dX0_tick_41
  · have h := h.2 c1
    exact W.vret hx hb hr (fun t ht hW => ⟨⟨S, rfl, h, by rw [ht]; exact hP, va_K.moved hW.alike hK, hD⟩, hS.F ht⟩) hS.2.2 dX0_tick_7
/-! X2_restart -/
abbrev rmX2_restart : Room := { frames := 0, cells := 0, slots := 0, locals := 0 }
set_option maxHeartbeats 4000000 in
set_option maxRecDepth 100000 in
theorem c_X2_restart (l : Launch) (D : va_G) (cI cZ : ClassId) (a : Nat → Nat) (sz : Nat) (S : Ob) (Q : Ob → Prop) (h : wp_X2_restart S Q) : Met l yX2_restart (wsm yX2_restart cX2_restart 1 none) rmX2_restart (va_Pc [.ref (a 0)] (preW D cI cZ sz (wX2 cI cZ a S))) (va_Qv Q (fun u => atW D cI cZ (va_A (wX2 cI cZ a S) sz) (wX2 cI cZ a u)) (va_A (wX2 cI cZ a S) sz)) 0 0 (va_A (wX2 cI cZ a S) sz) := by
  refine Met.ofW (cc := cX2_restart) (maxL := 1) (ret := none) (by decide) rfl ?_
  intro p e s m args below meth c s₁ B hml hv
  obtain ⟨rfl, hsz, hP, hK, hD0⟩ := hv
  have hx := B.exec
  have hb := B.bytes
  have hr := B.returns
  have hts0 := atoms_spec (ws := wsm yX2_restart cX2_restart 1 none) B.pre
  have hts : ∀ w ∈ lw_all, w.before _ s = true := fun w h => hts0 w (List.mem_cons_of_mem _ h)
  have hown : s.vm.findClass RX2 = some m.cls := findClass_of_methodNamed B.named
  have hlocks := B.notSynchronized
  subst hsz
  have hD := hD0.self (sz := s.heap.size)
  generalize hAe : va_A (wX2 cI cZ a S) s.heap.size = A at hD ⊢
  have hA : ∀ q : Nat, s.heap.size ≤ q → A q := fun q h => by rw [← hAe]; exact Or.inr h
  have hS : va_S A s.heap s.heap [] := va_S.rf
  have hml2 := hml
  have hl := lv_entry ([.ref (a 0)]) (n := 1) (Nat.le_of_ble_eq_true rfl)
  rw [lg_entry_eq]
  generalize (lg_sl ([.ref (a 0)]) ++ List.replicate (1 - (lg_sl ([.ref (a 0)])).length) Slot.unset).toArray = ls at hl ⊢
  have hl : lv_has ls 1 [(0, .ref (a 0))] := hl
  unfold wp_X2_restart at h
  refine lv_aload_n hx hb dX2_restart_0 rfl (lv_at hl 0 rfl) ?_
  refine lv_iconst (v := 0) hx hb dX2_restart_1 (by decide) ?_
  obtain ⟨T1, eT1⟩ : ∃ z : Ob, z = (si S 2 0) := ⟨_, rfl⟩
  refine pu_f (ci := 2) (v := .int 0) (ty := .int) (C := RX2) (T := TX2) (N := 14) hx hb hts inX2 tyX2 tyX2_ok nmX2 hown hK hP hD hS 0 rfl rfl 2 (by decide) (hts _ q_216) (fun _ h9 => h9) rfl rfl rfl rfl (Nat.le_of_ble_eq_true rfl) dX2_restart_2 (wX2 cI cZ a T1) (by subst eT1; rfl) (fun H locs hP hD hS => ?_)
  have h := h T1 eT1
  refine lv_aload_n hx hb dX2_restart_5 rfl (lv_at hl 0 rfl) ?_
  refine lv_iconst (v := 0) hx hb dX2_restart_6 (by decide) ?_
  obtain ⟨T2, eT2⟩ : ∃ z : Ob, z = (si T1 3 0) := ⟨_, rfl⟩
  refine pu_f (ci := 2) (v := .int 0) (ty := .int) (C := RX2) (T := TX2) (N := 14) hx hb hts inX2 tyX2 tyX2_ok nmX2 hown hK hP hD hS 0 rfl rfl 3 (by decide) (hts _ q_218) (fun _ h9 => h9) rfl rfl rfl rfl (Nat.le_of_ble_eq_true rfl) dX2_restart_7 (wX2 cI cZ a T2) (by subst eT2; rfl) (fun H locs hP hD hS => ?_)
  have h := h T2 eT2
  refine lv_aload_n hx hb dX2_restart_10 rfl (lv_at hl 0 rfl) ?_
  refine lv_iconst (v := 0) hx hb dX2_restart_11 (by decide) ?_
  obtain ⟨T3, eT3⟩ : ∃ z : Ob, z = (si T2 4 0) := ⟨_, rfl⟩
  refine pu_f (ci := 2) (v := .int 0) (ty := .int) (C := RX2) (T := TX2) (N := 14) hx hb hts inX2 tyX2 tyX2_ok nmX2 hown hK hP hD hS 0 rfl rfl 4 (by decide) (hts _ q_219) (fun _ h9 => h9) rfl rfl rfl rfl (Nat.le_of_ble_eq_true rfl) dX2_restart_12 (wX2 cI cZ a T3) (by subst eT3; rfl) (fun H locs hP hD hS => ?_)
  have h := h T3 eT3
  refine lv_aload_n hx hb dX2_restart_15 rfl (lv_at hl 0 rfl) ?_
  refine lv_iconst (v := 0) hx hb dX2_restart_16 (by decide) ?_
  obtain ⟨T4, eT4⟩ : ∃ z : Ob, z = (si T3 5 0) := ⟨_, rfl⟩
  refine pu_f (ci := 2) (v := .int 0) (ty := .int) (C := RX2) (T := TX2) (N := 14) hx hb hts inX2 tyX2 tyX2_ok nmX2 hown hK hP hD hS 0 rfl rfl 5 (by decide) (hts _ q_221) (fun _ h9 => h9) rfl rfl rfl rfl (Nat.le_of_ble_eq_true rfl) dX2_restart_17 (wX2 cI cZ a T4) (by subst eT4; rfl) (fun H locs hP hD hS => ?_)
  have h := h T4 eT4
  refine lv_aload_n hx hb dX2_restart_20 rfl (lv_at hl 0 rfl) ?_
  refine lv_iconst (v := 0) hx hb dX2_restart_21 (by decide) ?_
  obtain ⟨T5, eT5⟩ : ∃ z : Ob, z = (si T4 6 0) := ⟨_, rfl⟩
  refine pu_f (ci := 2) (v := .int 0) (ty := .int) (C := RX2) (T := TX2) (N := 14) hx hb hts inX2 tyX2 tyX2_ok nmX2 hown hK hP hD hS 0 rfl rfl 6 (by decide) (hts _ q_224) (fun _ h9 => h9) rfl rfl rfl rfl (Nat.le_of_ble_eq_true rfl) dX2_restart_22 (wX2 cI cZ a T5) (by subst eT5; rfl) (fun H locs hP hD hS => ?_)
  have h := h T5 eT5
  refine lv_aload_n hx hb dX2_restart_25 rfl (lv_at hl 0 rfl) ?_
  refine lv_iconst (v := 0) hx hb dX2_restart_26 (by decide) ?_
  obtain ⟨T6, eT6⟩ : ∃ z : Ob, z = (si T5 7 0) := ⟨_, rfl⟩
  refine pu_f (ci := 2) (v := .int 0) (ty := .int) (C := RX2) (T := TX2) (N := 14) hx hb hts inX2 tyX2 tyX2_ok nmX2 hown hK hP hD hS 0 rfl rfl 7 (by decide) (hts _ q_227) (fun _ h9 => h9) rfl rfl rfl rfl (Nat.le_of_ble_eq_true rfl) dX2_restart_27 (wX2 cI cZ a T6) (by subst eT6; rfl) (fun H locs hP hD hS => ?_)
  have h := h T6 eT6
  refine lv_aload_n hx hb dX2_restart_30 rfl (lv_at hl 0 rfl) ?_
  refine lv_iconst (v := 0) hx hb dX2_restart_31 (by decide) ?_
  obtain ⟨T7, eT7⟩ : ∃ z : Ob, z = (si T6 8 0) := ⟨_, rfl⟩
  refine pu_f (ci := 2) (v := .int 0) (ty := .int) (C := RX2) (T := TX2) (N := 14) hx hb hts inX2 tyX2 tyX2_ok nmX2 hown hK hP hD hS 0 rfl rfl 8 (by decide) (hts _ q_230) (fun _ h9 => h9) rfl rfl rfl rfl (Nat.le_of_ble_eq_true rfl) dX2_restart_32 (wX2 cI cZ a T7) (by subst eT7; rfl) (fun H locs hP hD hS => ?_)
  have h := h T7 eT7
  refine lv_aload_n hx hb dX2_restart_35 rfl (lv_at hl 0 rfl) ?_
  refine lv_iconst (v := 0) hx hb dX2_restart_36 (by decide) ?_
  obtain ⟨T8, eT8⟩ : ∃ z : Ob, z = (si T7 9 0) := ⟨_, rfl⟩
  refine pu_f (ci := 2) (v := .int 0) (ty := .int) (C := RX2) (T := TX2) (N := 14) hx hb hts inX2 tyX2 tyX2_ok nmX2 hown hK hP hD hS 0 rfl rfl 9 (by decide) (hts _ q_233) (fun _ h9 => h9) rfl rfl rfl rfl (Nat.le_of_ble_eq_true rfl) dX2_restart_37 (wX2 cI cZ a T8) (by subst eT8; rfl) (fun H locs hP hD hS => ?_)
  have h := h T8 eT8
  refine lv_aload_n hx hb dX2_restart_40 rfl (lv_at hl 0 rfl) ?_
  refine lv_iconst (v := 0) hx hb dX2_restart_41 (by decide) ?_
  obtain ⟨T9, eT9⟩ : ∃ z : Ob, z = (si T8 10 0) := ⟨_, rfl⟩
  refine pu_f (ci := 2) (v := .int 0) (ty := .int) (C := RX2) (T := TX2) (N := 14) hx hb hts inX2 tyX2 tyX2_ok nmX2 hown hK hP hD hS 0 rfl rfl 10 (by decide) (hts _ q_236) (fun _ h9 => h9) rfl rfl rfl rfl (Nat.le_of_ble_eq_true rfl) dX2_restart_42 (wX2 cI cZ a T9) (by subst eT9; rfl) (fun H locs hP hD hS => ?_)
  have h := h T9 eT9
  refine lv_aload_n hx hb dX2_restart_45 rfl (lv_at hl 0 rfl) ?_
  refine lv_iconst (v := 0) hx hb dX2_restart_46 (by decide) ?_
  obtain ⟨T10, eT10⟩ : ∃ z : Ob, z = (si T9 11 0) := ⟨_, rfl⟩
  refine pu_f (ci := 2) (v := .int 0) (ty := .int) (C := RX2) (T := TX2) (N := 14) hx hb hts inX2 tyX2 tyX2_ok nmX2 hown hK hP hD hS 0 rfl rfl 11 (by decide) (hts _ q_239) (fun _ h9 => h9) rfl rfl rfl rfl (Nat.le_of_ble_eq_true rfl) dX2_restart_47 (wX2 cI cZ a T10) (by subst eT10; rfl) (fun H locs hP hD hS => ?_)
  have h := h T10 eT10
  refine lv_aload_n hx hb dX2_restart_50 rfl (lv_at hl 0 rfl) ?_
  refine lv_iconst (v := 0) hx hb dX2_restart_51 (by decide) ?_
  obtain ⟨T11, eT11⟩ : ∃ z : Ob, z = (si T10 12 0) := ⟨_, rfl⟩
  refine pu_f (ci := 2) (v := .int 0) (ty := .int) (C := RX2) (T := TX2) (N := 14) hx hb hts inX2 tyX2 tyX2_ok nmX2 hown hK hP hD hS 0 rfl rfl 12 (by decide) (hts _ q_242) (fun _ h9 => h9) rfl rfl rfl rfl (Nat.le_of_ble_eq_true rfl) dX2_restart_52 (wX2 cI cZ a T11) (by subst eT11; rfl) (fun H locs hP hD hS => ?_)
  have h := h T11 eT11
  refine lv_aload_n hx hb dX2_restart_55 rfl (lv_at hl 0 rfl) ?_
  refine lv_iconst (v := 0) hx hb dX2_restart_56 (by decide) ?_
  obtain ⟨T12, eT12⟩ : ∃ z : Ob, z = (si T11 13 0) := ⟨_, rfl⟩
  refine pu_f (ci := 2) (v := .int 0) (ty := .int) (C := RX2) (T := TX2) (N := 14) hx hb hts inX2 tyX2 tyX2_ok nmX2 hown hK hP hD hS 0 rfl rfl 13 (by decide) (hts _ q_245) (fun _ h9 => h9) rfl rfl rfl rfl (Nat.le_of_ble_eq_true rfl) dX2_restart_57 (wX2 cI cZ a T12) (by subst eT12; rfl) (fun H locs hP hD hS => ?_)
  have h := h T12 eT12
  exact W.vret hx hb hr (fun t ht hW => ⟨⟨T12, rfl, h, by rw [ht]; exact hP, va_K.moved hW.alike hK, hD⟩, hS.F ht⟩) hS.2.2 dX2_restart_60
/-! X2_tell -/
abbrev rmX2_tell : Room := { frames := 0, cells := 0, slots := 0, locals := 0 }
set_option maxHeartbeats 4000000 in
set_option maxRecDepth 100000 in
theorem c_X2_tell (l : Launch) (D : va_G) (cI cZ : ClassId) (a : Nat → Nat) (sz : Nat) (S : Ob) (p0 : Int32) (Q : Ob → Prop) (h : wp_X2_tell S p0 Q) : Met l yX2_tell (wsm yX2_tell cX2_tell 2 none) rmX2_tell (va_Pc [.ref (a 0), .int p0] (preW D cI cZ sz (wX2 cI cZ a S))) (va_Qv Q (fun u => atW D cI cZ (va_A (wX2 cI cZ a S) sz) (wX2 cI cZ a u)) (va_A (wX2 cI cZ a S) sz)) 0 0 (va_A (wX2 cI cZ a S) sz) := by
  refine Met.ofW (cc := cX2_tell) (maxL := 2) (ret := none) (by decide) rfl ?_
  intro p e s m args below meth c s₁ B hml hv
  obtain ⟨rfl, hsz, hP, hK, hD0⟩ := hv
  have hx := B.exec
  have hb := B.bytes
  have hr := B.returns
  have hts0 := atoms_spec (ws := wsm yX2_tell cX2_tell 2 none) B.pre
  have hts : ∀ w ∈ lw_all, w.before _ s = true := fun w h => hts0 w (List.mem_cons_of_mem _ h)
  have hown : s.vm.findClass RX2 = some m.cls := findClass_of_methodNamed B.named
  have hlocks := B.notSynchronized
  subst hsz
  have hD := hD0.self (sz := s.heap.size)
  generalize hAe : va_A (wX2 cI cZ a S) s.heap.size = A at hD ⊢
  have hA : ∀ q : Nat, s.heap.size ≤ q → A q := fun q h => by rw [← hAe]; exact Or.inr h
  have hS : va_S A s.heap s.heap [] := va_S.rf
  have hml2 := hml
  have hl := lv_entry ([.ref (a 0), .int p0]) (n := 2) (Nat.le_of_ble_eq_true rfl)
  rw [lg_entry_eq]
  generalize (lg_sl ([.ref (a 0), .int p0]) ++ List.replicate (2 - (lg_sl ([.ref (a 0), .int p0])).length) Slot.unset).toArray = ls at hl ⊢
  have hl : lv_has ls 2 [(0, .ref (a 0)), (1, .int p0)] := hl
  unfold wp_X2_tell at h
  refine lv_aload_n hx hb dX2_tell_0 rfl (lv_at hl 0 rfl) ?_
  refine va_get (D := D) (ci := 2) (v := .int (S.1 4)) (C := RX2) (T := TX2) (N := 14) hx hb hts inX2 hown hK hP 0 rfl rfl 4 (by decide) (hts _ q_219) (fun _ h9 => h9) rfl dX2_tell_1 ?_
  refine lv_bipush (v := 64) hx hb dX2_tell_4 (by decide) ?_
  refine lv_icmp_ge (tgt := 19) hx hb dX2_tell_6 (by decide) (fun c1 => ?_) (fun c1 => ?_)
  · have h := h.1 c1
    refine lv_aload_n hx hb dX2_tell_19 rfl (lv_at hl 0 rfl) ?_
    refine lv_dup hx hb dX2_tell_20 rfl ?_
    refine va_get (D := D) (ci := 2) (v := .int (S.1 4)) (C := RX2) (T := TX2) (N := 14) hx hb hts inX2 hown hK hP 0 rfl rfl 4 (by decide) (hts _ q_219) (fun _ h9 => h9) rfl dX2_tell_21 ?_
    refine lv_iconst (v := 1) hx hb dX2_tell_24 (by decide) ?_
    refine lv_iadd hx hb dX2_tell_25 ?_
    obtain ⟨T2, eT2⟩ : ∃ z : Ob, z = (si S 4 ((S.1 4) + 1)) := ⟨_, rfl⟩
    refine pu_f (ci := 2) (v := .int ((S.1 4) + 1)) (ty := .int) (C := RX2) (T := TX2) (N := 14) hx hb hts inX2 tyX2 tyX2_ok nmX2 hown hK hP hD hS 0 rfl rfl 4 (by decide) (hts _ q_219) (fun _ h9 => h9) rfl rfl rfl rfl (Nat.le_of_ble_eq_true rfl) dX2_tell_26 (wX2 cI cZ a T2) (by subst eT2; rfl) (fun H locs hP hD hS => ?_)
    have h := h T2 eT2
    exact W.vret hx hb hr (fun t ht hW => ⟨⟨T2, rfl, h, by rw [ht]; exact hP, va_K.moved hW.alike hK, hD⟩, hS.F ht⟩) hS.2.2 dX2_tell_29
  · have h := h.2 c1
    refine lv_aload_n hx hb dX2_tell_9 rfl (lv_at hl 0 rfl) ?_
    refine va_get (D := D) (ci := 2) (v := .ref (a 1)) (C := RX2) (T := TX2) (N := 14) hx hb hts inX2 hown hK hP 0 rfl rfl 0 (by decide) (hts _ q_213) (fun _ h9 => h9) rfl dX2_tell_10 ?_
    refine lv_aload_n hx hb dX2_tell_13 rfl (lv_at hl 0 rfl) ?_
    refine va_get (D := D) (ci := 2) (v := .int (S.1 4)) (C := RX2) (T := TX2) (N := 14) hx hb hts inX2 hown hK hP 0 rfl rfl 4 (by decide) (hts _ q_219) (fun _ h9 => h9) rfl dX2_tell_14 ?_
    refine lv_iload_n hx hb dX2_tell_17 rfl (lv_at hl 1 rfl) ?_
    obtain ⟨T3, eT3⟩ : ∃ z : Ob, z = (sa S 0 (upd (S.2 0) (Int32.toNatClampNeg (S.1 4)) p0)) := ⟨_, rfl⟩
    refine ar_is (f := (S.2 0)) (n := 64) (j := (Int32.toNatClampNeg (S.1 4))) (x := p0) hx hb hK hP hD hS 1 rfl rfl h.1 dX2_tell_18 (wX2 cI cZ a T3) (by subst eT3; rfl) (fun H locs hP hD hS => ?_)
    have h := h.2
    have h := h T3 eT3
    refine lv_aload_n hx hb dX2_tell_19 rfl (lv_at hl 0 rfl) ?_
    refine lv_dup hx hb dX2_tell_20 rfl ?_
    refine va_get (D := D) (ci := 2) (v := .int (T3.1 4)) (C := RX2) (T := TX2) (N := 14) hx hb hts inX2 hown hK hP 0 rfl rfl 4 (by decide) (hts _ q_219) (fun _ h9 => h9) rfl dX2_tell_21 ?_
    refine lv_iconst (v := 1) hx hb dX2_tell_24 (by decide) ?_
    refine lv_iadd hx hb dX2_tell_25 ?_
    obtain ⟨T4, eT4⟩ : ∃ z : Ob, z = (si T3 4 ((T3.1 4) + 1)) := ⟨_, rfl⟩
    refine pu_f (ci := 2) (v := .int ((T3.1 4) + 1)) (ty := .int) (C := RX2) (T := TX2) (N := 14) hx hb hts inX2 tyX2 tyX2_ok nmX2 hown hK hP hD hS 0 rfl rfl 4 (by decide) (hts _ q_219) (fun _ h9 => h9) rfl rfl rfl rfl (Nat.le_of_ble_eq_true rfl) dX2_tell_26 (wX2 cI cZ a T4) (by subst eT4; rfl) (fun H locs hP hD hS => ?_)
    have h := h T4 eT4
    exact W.vret hx hb hr (fun t ht hW => ⟨⟨T4, rfl, h, by rw [ht]; exact hP, va_K.moved hW.alike hK, hD⟩, hS.F ht⟩) hS.2.2 dX2_tell_29
/-! X2_record -/
abbrev rmX2_record : Room := { frames := 1, cells := 0, slots := 0, locals := 30 }
set_option maxHeartbeats 4000000 in
set_option maxRecDepth 100000 in
theorem c_X2_record (l : Launch) (D : va_G) (cI cZ : ClassId) (a : Nat → Nat) (sz : Nat) (S : Ob) (p0 : Int32) (p1 : Int32) (p2 : Int32) (p3 : Int32) (Q : Ob → Prop) (h : wp_X2_record S p0 p1 p2 p3 Q) : Met l yX2_record (wsm yX2_record cX2_record 6 none) rmX2_record (va_Pc [.ref (a 0), .int p0, .int p1, .int p2, .int p3] (preW D cI cZ sz (wX2 cI cZ a S))) (va_Qv Q (fun u => atW D cI cZ (va_A (wX2 cI cZ a S) sz) (wX2 cI cZ a u)) (va_A (wX2 cI cZ a S) sz)) 0 0 (va_A (wX2 cI cZ a S) sz) := by
  refine Met.ofW (cc := cX2_record) (maxL := 6) (ret := none) (by decide) rfl ?_
  intro p e s m args below meth c s₁ B hml hv
  obtain ⟨rfl, hsz, hP, hK, hD0⟩ := hv
  have hx := B.exec
  have hb := B.bytes
  have hr := B.returns
  have hts0 := atoms_spec (ws := wsm yX2_record cX2_record 6 none) B.pre
  have hts : ∀ w ∈ lw_all, w.before _ s = true := fun w h => hts0 w (List.mem_cons_of_mem _ h)
  have hown : s.vm.findClass RX2 = some m.cls := findClass_of_methodNamed B.named
  have hlocks := B.notSynchronized
  subst hsz
  have hD := hD0.self (sz := s.heap.size)
  generalize hAe : va_A (wX2 cI cZ a S) s.heap.size = A at hD ⊢
  have hA : ∀ q : Nat, s.heap.size ≤ q → A q := fun q h => by rw [← hAe]; exact Or.inr h
  have hS : va_S A s.heap s.heap [] := va_S.rf
  have hml2 := hml
  have hl := lv_entry ([.ref (a 0), .int p0, .int p1, .int p2, .int p3]) (n := 6) (Nat.le_of_ble_eq_true rfl)
  rw [lg_entry_eq]
  generalize (lg_sl ([.ref (a 0), .int p0, .int p1, .int p2, .int p3]) ++ List.replicate (6 - (lg_sl ([.ref (a 0), .int p0, .int p1, .int p2, .int p3])).length) Slot.unset).toArray = ls at hl ⊢
  have hl : lv_has ls 6 [(0, .ref (a 0)), (1, .int p0), (2, .int p1), (3, .int p2), (4, .int p3)] := hl
  unfold wp_X2_record at h
  refine lv_aload_n hx hb dX2_record_0 rfl (lv_at hl 0 rfl) ?_
  refine lv_aload_n hx hb dX2_record_1 rfl (lv_at hl 0 rfl) ?_
  refine va_get (D := D) (ci := 2) (v := .int (S.1 3)) (C := RX2) (T := TX2) (N := 14) hx hb hts inX2 hown hK hP 0 rfl rfl 3 (by decide) (hts _ q_218) (fun _ h9 => h9) rfl dX2_record_2 ?_
  refine lv_iconst (v := 1) hx hb dX2_record_5 (by decide) ?_
  refine lv_iadd hx hb dX2_record_6 ?_
  refine lv_bipush (v := 24) hx hb dX2_record_7 (by decide) ?_
  refine lv_icmp_ge (tgt := 21) hx hb dX2_record_9 (by decide) (fun c1 => ?_) (fun c1 => ?_)
  · have h := h.1 c1
    refine lv_iconst (v := 0) hx hb dX2_record_21 (by decide) ?_
    obtain ⟨T2, eT2⟩ : ∃ z : Ob, z = (si S 3 0) := ⟨_, rfl⟩
    refine pu_f (ci := 2) (v := .int 0) (ty := .int) (C := RX2) (T := TX2) (N := 14) hx hb hts inX2 tyX2 tyX2_ok nmX2 hown hK hP hD hS 0 rfl rfl 3 (by decide) (hts _ q_218) (fun _ h9 => h9) rfl rfl rfl rfl (Nat.le_of_ble_eq_true rfl) dX2_record_22 (wX2 cI cZ a T2) (by subst eT2; rfl) (fun H locs hP hD hS => ?_)
    have h := h T2 eT2
    refine lv_aload_n hx hb dX2_record_25 rfl (lv_at hl 0 rfl) ?_
    refine va_get (D := D) (ci := 2) (v := .int (T2.1 3)) (C := RX2) (T := TX2) (N := 14) hx hb hts inX2 hown hK hP 0 rfl rfl 3 (by decide) (hts _ q_218) (fun _ h9 => h9) rfl dX2_record_26 ?_
    refine lv_iconst (v := 4) hx hb dX2_record_29 (by decide) ?_
    refine lv_imul hx hb dX2_record_30 ?_
    refine lv_topi (fun x3 ex3 => ?_)
    have h := h x3 ex3
    refine lv_istore (lv' := [(5, .int x3), (0, .ref (a 0)), (1, .int p0), (2, .int p1), (3, .int p2), (4, .int p3)]) hx hb dX2_record_31 hl (by decide) rfl (fun ls hl => ?_)
    refine lv_aload_n hx hb dX2_record_33 rfl (lv_at hl 1 rfl) ?_
    refine va_get (D := D) (ci := 2) (v := .ref (a 2)) (C := RX2) (T := TX2) (N := 14) hx hb hts inX2 hown hK hP 0 rfl rfl 1 (by decide) (hts _ q_215) (fun _ h9 => h9) rfl dX2_record_34 ?_
    refine lv_iload hx hb dX2_record_37 (lv_at hl 0 rfl) ?_
    refine lv_iload_n hx hb dX2_record_39 rfl (lv_at hl 2 rfl) ?_
    obtain ⟨T4, eT4⟩ : ∃ z : Ob, z = (sa T2 1 (upd (T2.2 1) (Int32.toNatClampNeg x3) p0)) := ⟨_, rfl⟩
    refine ar_is (f := (T2.2 1)) (n := 96) (j := (Int32.toNatClampNeg x3)) (x := p0) hx hb hK hP hD hS 2 rfl rfl h.1 dX2_record_40 (wX2 cI cZ a T4) (by subst eT4; rfl) (fun H locs hP hD hS => ?_)
    have h := h.2
    have h := h T4 eT4
    refine lv_aload_n hx hb dX2_record_41 rfl (lv_at hl 1 rfl) ?_
    refine va_get (D := D) (ci := 2) (v := .ref (a 2)) (C := RX2) (T := TX2) (N := 14) hx hb hts inX2 hown hK hP 0 rfl rfl 1 (by decide) (hts _ q_215) (fun _ h9 => h9) rfl dX2_record_42 ?_
    refine lv_iload hx hb dX2_record_45 (lv_at hl 0 rfl) ?_
    refine lv_iconst (v := 1) hx hb dX2_record_47 (by decide) ?_
    refine lv_iadd hx hb dX2_record_48 ?_
    refine lv_iload_n hx hb dX2_record_49 rfl (lv_at hl 3 rfl) ?_
    obtain ⟨T5, eT5⟩ : ∃ z : Ob, z = (sa T4 1 (upd (T4.2 1) (Int32.toNatClampNeg (x3 + 1)) p1)) := ⟨_, rfl⟩
    refine ar_is (f := (T4.2 1)) (n := 96) (j := (Int32.toNatClampNeg (x3 + 1))) (x := p1) hx hb hK hP hD hS 2 rfl rfl h.1 dX2_record_50 (wX2 cI cZ a T5) (by subst eT5; rfl) (fun H locs hP hD hS => ?_)
    have h := h.2
    have h := h T5 eT5
    refine lv_aload_n hx hb dX2_record_51 rfl (lv_at hl 1 rfl) ?_
    refine va_get (D := D) (ci := 2) (v := .ref (a 2)) (C := RX2) (T := TX2) (N := 14) hx hb hts inX2 hown hK hP 0 rfl rfl 1 (by decide) (hts _ q_215) (fun _ h9 => h9) rfl dX2_record_52 ?_
    refine lv_iload hx hb dX2_record_55 (lv_at hl 0 rfl) ?_
    refine lv_iconst (v := 2) hx hb dX2_record_57 (by decide) ?_
    refine lv_iadd hx hb dX2_record_58 ?_
    refine lv_iload_n hx hb dX2_record_59 rfl (lv_at hl 4 rfl) ?_
    obtain ⟨T6, eT6⟩ : ∃ z : Ob, z = (sa T5 1 (upd (T5.2 1) (Int32.toNatClampNeg (x3 + 2)) p2)) := ⟨_, rfl⟩
    refine ar_is (f := (T5.2 1)) (n := 96) (j := (Int32.toNatClampNeg (x3 + 2))) (x := p2) hx hb hK hP hD hS 2 rfl rfl h.1 dX2_record_60 (wX2 cI cZ a T6) (by subst eT6; rfl) (fun H locs hP hD hS => ?_)
    have h := h.2
    have h := h T6 eT6
    refine lv_aload_n hx hb dX2_record_61 rfl (lv_at hl 1 rfl) ?_
    refine va_get (D := D) (ci := 2) (v := .ref (a 2)) (C := RX2) (T := TX2) (N := 14) hx hb hts inX2 hown hK hP 0 rfl rfl 1 (by decide) (hts _ q_215) (fun _ h9 => h9) rfl dX2_record_62 ?_
    refine lv_iload hx hb dX2_record_65 (lv_at hl 0 rfl) ?_
    refine lv_iconst (v := 3) hx hb dX2_record_67 (by decide) ?_
    refine lv_iadd hx hb dX2_record_68 ?_
    refine lv_iload hx hb dX2_record_69 (lv_at hl 5 rfl) ?_
    obtain ⟨T7, eT7⟩ : ∃ z : Ob, z = (sa T6 1 (upd (T6.2 1) (Int32.toNatClampNeg (x3 + 3)) p3)) := ⟨_, rfl⟩
    refine ar_is (f := (T6.2 1)) (n := 96) (j := (Int32.toNatClampNeg (x3 + 3))) (x := p3) hx hb hK hP hD hS 2 rfl rfl h.1 dX2_record_71 (wX2 cI cZ a T7) (by subst eT7; rfl) (fun H locs hP hD hS => ?_)
    have h := h.2
    have h := h T7 eT7
    refine lv_aload_n hx hb dX2_record_72 rfl (lv_at hl 1 rfl) ?_
    refine lv_aload_n hx hb dX2_record_73 rfl (lv_at hl 1 rfl) ?_
    refine va_get (D := D) (ci := 2) (v := .int (T7.1 2)) (C := RX2) (T := TX2) (N := 14) hx hb hts inX2 hown hK hP 0 rfl rfl 2 (by decide) (hts _ q_216) (fun _ h9 => h9) rfl dX2_record_74 ?_
    refine lv_iconst (v := 1) hx hb dX2_record_77 (by decide) ?_
    refine lv_iadd hx hb dX2_record_78 ?_
    refine lv_bipush (v := 24) hx hb dX2_record_79 (by decide) ?_
    refine mm_min hx hb hml2 hown (hts _ q_563) (hts _ q_564) (hts _ q_77) (hts _ q_565) (Nat.le_of_ble_eq_true rfl) (Nat.le_of_ble_eq_true rfl) (Nat.zero_le _) (Nat.zero_le _) dX2_record_81 hl.1 ?_
    refine lv_topi (fun x8 ex8 => ?_)
    have h := h x8 ex8
    obtain ⟨T9, eT9⟩ : ∃ z : Ob, z = (si T7 2 x8) := ⟨_, rfl⟩
    refine pu_f (ci := 2) (v := .int x8) (ty := .int) (C := RX2) (T := TX2) (N := 14) hx hb hts inX2 tyX2 tyX2_ok nmX2 hown hK hP hD hS 0 rfl rfl 2 (by decide) (hts _ q_216) (fun _ h9 => h9) rfl rfl rfl rfl (Nat.le_of_ble_eq_true rfl) dX2_record_84 (wX2 cI cZ a T9) (by subst eT9; rfl) (fun H locs hP hD hS => ?_)
    have h := h T9 eT9
    exact W.vret hx hb hr (fun t ht hW => ⟨⟨T9, rfl, h, by rw [ht]; exact hP, va_K.moved hW.alike hK, hD⟩, hS.F ht⟩) hS.2.2 dX2_record_87
  · have h := h.2 c1
    refine lv_aload_n hx hb dX2_record_12 rfl (lv_at hl 0 rfl) ?_
    refine va_get (D := D) (ci := 2) (v := .int (S.1 3)) (C := RX2) (T := TX2) (N := 14) hx hb hts inX2 hown hK hP 0 rfl rfl 3 (by decide) (hts _ q_218) (fun _ h9 => h9) rfl dX2_record_13 ?_
    refine lv_iconst (v := 1) hx hb dX2_record_16 (by decide) ?_
    refine lv_iadd hx hb dX2_record_17 ?_
    refine lv_goto (tgt := 22) hx hb dX2_record_18 (by decide) ?_
    obtain ⟨T10, eT10⟩ : ∃ z : Ob, z = (si S 3 ((S.1 3) + 1)) := ⟨_, rfl⟩
    refine pu_f (ci := 2) (v := .int ((S.1 3) + 1)) (ty := .int) (C := RX2) (T := TX2) (N := 14) hx hb hts inX2 tyX2 tyX2_ok nmX2 hown hK hP hD hS 0 rfl rfl 3 (by decide) (hts _ q_218) (fun _ h9 => h9) rfl rfl rfl rfl (Nat.le_of_ble_eq_true rfl) dX2_record_22 (wX2 cI cZ a T10) (by subst eT10; rfl) (fun H locs hP hD hS => ?_)
    have h := h T10 eT10
    refine lv_aload_n hx hb dX2_record_25 rfl (lv_at hl 0 rfl) ?_
    refine va_get (D := D) (ci := 2) (v := .int (T10.1 3)) (C := RX2) (T := TX2) (N := 14) hx hb hts inX2 hown hK hP 0 rfl rfl 3 (by decide) (hts _ q_218) (fun _ h9 => h9) rfl dX2_record_26 ?_
    refine lv_iconst (v := 4) hx hb dX2_record_29 (by decide) ?_
    refine lv_imul hx hb dX2_record_30 ?_
    refine lv_topi (fun x11 ex11 => ?_)
    have h := h x11 ex11
    refine lv_istore (lv' := [(5, .int x11), (0, .ref (a 0)), (1, .int p0), (2, .int p1), (3, .int p2), (4, .int p3)]) hx hb dX2_record_31 hl (by decide) rfl (fun ls hl => ?_)
    refine lv_aload_n hx hb dX2_record_33 rfl (lv_at hl 1 rfl) ?_
    refine va_get (D := D) (ci := 2) (v := .ref (a 2)) (C := RX2) (T := TX2) (N := 14) hx hb hts inX2 hown hK hP 0 rfl rfl 1 (by decide) (hts _ q_215) (fun _ h9 => h9) rfl dX2_record_34 ?_
    refine lv_iload hx hb dX2_record_37 (lv_at hl 0 rfl) ?_
    refine lv_iload_n hx hb dX2_record_39 rfl (lv_at hl 2 rfl) ?_
    obtain ⟨T12, eT12⟩ : ∃ z : Ob, z = (sa T10 1 (upd (T10.2 1) (Int32.toNatClampNeg x11) p0)) := ⟨_, rfl⟩
    refine ar_is (f := (T10.2 1)) (n := 96) (j := (Int32.toNatClampNeg x11)) (x := p0) hx hb hK hP hD hS 2 rfl rfl h.1 dX2_record_40 (wX2 cI cZ a T12) (by subst eT12; rfl) (fun H locs hP hD hS => ?_)
    have h := h.2
    have h := h T12 eT12
    refine lv_aload_n hx hb dX2_record_41 rfl (lv_at hl 1 rfl) ?_
    refine va_get (D := D) (ci := 2) (v := .ref (a 2)) (C := RX2) (T := TX2) (N := 14) hx hb hts inX2 hown hK hP 0 rfl rfl 1 (by decide) (hts _ q_215) (fun _ h9 => h9) rfl dX2_record_42 ?_
    refine lv_iload hx hb dX2_record_45 (lv_at hl 0 rfl) ?_
    refine lv_iconst (v := 1) hx hb dX2_record_47 (by decide) ?_
    refine lv_iadd hx hb dX2_record_48 ?_
    refine lv_iload_n hx hb dX2_record_49 rfl (lv_at hl 3 rfl) ?_
    obtain ⟨T13, eT13⟩ : ∃ z : Ob, z = (sa T12 1 (upd (T12.2 1) (Int32.toNatClampNeg (x11 + 1)) p1)) := ⟨_, rfl⟩
    refine ar_is (f := (T12.2 1)) (n := 96) (j := (Int32.toNatClampNeg (x11 + 1))) (x := p1) hx hb hK hP hD hS 2 rfl rfl h.1 dX2_record_50 (wX2 cI cZ a T13) (by subst eT13; rfl) (fun H locs hP hD hS => ?_)
    have h := h.2
    have h := h T13 eT13
    refine lv_aload_n hx hb dX2_record_51 rfl (lv_at hl 1 rfl) ?_
    refine va_get (D := D) (ci := 2) (v := .ref (a 2)) (C := RX2) (T := TX2) (N := 14) hx hb hts inX2 hown hK hP 0 rfl rfl 1 (by decide) (hts _ q_215) (fun _ h9 => h9) rfl dX2_record_52 ?_
    refine lv_iload hx hb dX2_record_55 (lv_at hl 0 rfl) ?_
    refine lv_iconst (v := 2) hx hb dX2_record_57 (by decide) ?_
    refine lv_iadd hx hb dX2_record_58 ?_
    refine lv_iload_n hx hb dX2_record_59 rfl (lv_at hl 4 rfl) ?_
    obtain ⟨T14, eT14⟩ : ∃ z : Ob, z = (sa T13 1 (upd (T13.2 1) (Int32.toNatClampNeg (x11 + 2)) p2)) := ⟨_, rfl⟩
    refine ar_is (f := (T13.2 1)) (n := 96) (j := (Int32.toNatClampNeg (x11 + 2))) (x := p2) hx hb hK hP hD hS 2 rfl rfl h.1 dX2_record_60 (wX2 cI cZ a T14) (by subst eT14; rfl) (fun H locs hP hD hS => ?_)
    have h := h.2
    have h := h T14 eT14
    refine lv_aload_n hx hb dX2_record_61 rfl (lv_at hl 1 rfl) ?_
    refine va_get (D := D) (ci := 2) (v := .ref (a 2)) (C := RX2) (T := TX2) (N := 14) hx hb hts inX2 hown hK hP 0 rfl rfl 1 (by decide) (hts _ q_215) (fun _ h9 => h9) rfl dX2_record_62 ?_
    refine lv_iload hx hb dX2_record_65 (lv_at hl 0 rfl) ?_
    refine lv_iconst (v := 3) hx hb dX2_record_67 (by decide) ?_
    refine lv_iadd hx hb dX2_record_68 ?_
    refine lv_iload hx hb dX2_record_69 (lv_at hl 5 rfl) ?_
    obtain ⟨T15, eT15⟩ : ∃ z : Ob, z = (sa T14 1 (upd (T14.2 1) (Int32.toNatClampNeg (x11 + 3)) p3)) := ⟨_, rfl⟩
    refine ar_is (f := (T14.2 1)) (n := 96) (j := (Int32.toNatClampNeg (x11 + 3))) (x := p3) hx hb hK hP hD hS 2 rfl rfl h.1 dX2_record_71 (wX2 cI cZ a T15) (by subst eT15; rfl) (fun H locs hP hD hS => ?_)
    have h := h.2
    have h := h T15 eT15
    refine lv_aload_n hx hb dX2_record_72 rfl (lv_at hl 1 rfl) ?_
    refine lv_aload_n hx hb dX2_record_73 rfl (lv_at hl 1 rfl) ?_
    refine va_get (D := D) (ci := 2) (v := .int (T15.1 2)) (C := RX2) (T := TX2) (N := 14) hx hb hts inX2 hown hK hP 0 rfl rfl 2 (by decide) (hts _ q_216) (fun _ h9 => h9) rfl dX2_record_74 ?_
    refine lv_iconst (v := 1) hx hb dX2_record_77 (by decide) ?_
    refine lv_iadd hx hb dX2_record_78 ?_
    refine lv_bipush (v := 24) hx hb dX2_record_79 (by decide) ?_
    refine mm_min hx hb hml2 hown (hts _ q_563) (hts _ q_564) (hts _ q_77) (hts _ q_565) (Nat.le_of_ble_eq_true rfl) (Nat.le_of_ble_eq_true rfl) (Nat.zero_le _) (Nat.zero_le _) dX2_record_81 hl.1 ?_
    refine lv_topi (fun x16 ex16 => ?_)
    have h := h x16 ex16
    obtain ⟨T17, eT17⟩ : ∃ z : Ob, z = (si T15 2 x16) := ⟨_, rfl⟩
    refine pu_f (ci := 2) (v := .int x16) (ty := .int) (C := RX2) (T := TX2) (N := 14) hx hb hts inX2 tyX2 tyX2_ok nmX2 hown hK hP hD hS 0 rfl rfl 2 (by decide) (hts _ q_216) (fun _ h9 => h9) rfl rfl rfl rfl (Nat.le_of_ble_eq_true rfl) dX2_record_84 (wX2 cI cZ a T17) (by subst eT17; rfl) (fun H locs hP hD hS => ?_)
    have h := h T17 eT17
    exact W.vret hx hb hr (fun t ht hW => ⟨⟨T17, rfl, h, by rw [ht]; exact hP, va_K.moved hW.alike hK, hD⟩, hS.F ht⟩) hS.2.2 dX2_record_87
/-! X2_fieldOf -/
abbrev rmX2_fieldOf : Room := { frames := 0, cells := 0, slots := 0, locals := 0 }
set_option maxHeartbeats 4000000 in
set_option maxRecDepth 100000 in
theorem c_X2_fieldOf (l : Launch) (D : va_G) (cI cZ : ClassId) (a : Nat → Nat) (sz : Nat) (S : Ob) (p0 : Int32) (p1 : Int32) (Q : Int32 → Ob → Prop) (h : wp_X2_fieldOf S p0 p1 Q) : Met l yX2_fieldOf (wsm yX2_fieldOf cX2_fieldOf 4 (some .int)) rmX2_fieldOf (va_Pc [.ref (a 0), .int p0, .int p1] (preW D cI cZ sz (wX2 cI cZ a S))) (va_Qi Q (fun u => atW D cI cZ (va_A (wX2 cI cZ a S) sz) (wX2 cI cZ a u)) (va_A (wX2 cI cZ a S) sz)) 0 0 (va_A (wX2 cI cZ a S) sz) := by
  refine Met.ofW (cc := cX2_fieldOf) (maxL := 4) (ret := (some .int)) (by decide) rfl ?_
  intro p e s m args below meth c s₁ B hml hv
  obtain ⟨rfl, hsz, hP, hK, hD0⟩ := hv
  have hx := B.exec
  have hb := B.bytes
  have hr := B.returns
  have hts0 := atoms_spec (ws := wsm yX2_fieldOf cX2_fieldOf 4 (some .int)) B.pre
  have hts : ∀ w ∈ lw_all, w.before _ s = true := fun w h => hts0 w (List.mem_cons_of_mem _ h)
  have hown : s.vm.findClass RX2 = some m.cls := findClass_of_methodNamed B.named
  have hlocks := B.notSynchronized
  subst hsz
  have hD := hD0.self (sz := s.heap.size)
  generalize hAe : va_A (wX2 cI cZ a S) s.heap.size = A at hD ⊢
  have hA : ∀ q : Nat, s.heap.size ≤ q → A q := fun q h => by rw [← hAe]; exact Or.inr h
  have hS : va_S A s.heap s.heap [] := va_S.rf
  have hml2 := hml
  have hl := lv_entry ([.ref (a 0), .int p0, .int p1]) (n := 4) (Nat.le_of_ble_eq_true rfl)
  rw [lg_entry_eq]
  generalize (lg_sl ([.ref (a 0), .int p0, .int p1]) ++ List.replicate (4 - (lg_sl ([.ref (a 0), .int p0, .int p1])).length) Slot.unset).toArray = ls at hl ⊢
  have hl : lv_has ls 4 [(0, .ref (a 0)), (1, .int p0), (2, .int p1)] := hl
  unfold wp_X2_fieldOf at h
  refine lv_aload_n hx hb dX2_fieldOf_0 rfl (lv_at hl 0 rfl) ?_
  refine va_get (D := D) (ci := 2) (v := .int (S.1 3)) (C := RX2) (T := TX2) (N := 14) hx hb hts inX2 hown hK hP 0 rfl rfl 3 (by decide) (hts _ q_218) (fun _ h9 => h9) rfl dX2_fieldOf_1 ?_
  refine lv_iload_n hx hb dX2_fieldOf_4 rfl (lv_at hl 1 rfl) ?_
  refine lv_isub hx hb dX2_fieldOf_5 ?_
  refine lv_topi (fun x1 ex1 => ?_)
  have h := h x1 ex1
  refine lv_istore_n (lv' := [(3, .int x1), (0, .ref (a 0)), (1, .int p0), (2, .int p1)]) hx hb dX2_fieldOf_6 rfl hl (by decide) rfl (fun ls hl => ?_)
  refine lv_aload_n hx hb dX2_fieldOf_7 rfl (lv_at hl 1 rfl) ?_
  refine va_get (D := D) (ci := 2) (v := .ref (a 2)) (C := RX2) (T := TX2) (N := 14) hx hb hts inX2 hown hK hP 0 rfl rfl 1 (by decide) (hts _ q_215) (fun _ h9 => h9) rfl dX2_fieldOf_8 ?_
  refine lv_iload_n hx hb dX2_fieldOf_11 rfl (lv_at hl 0 rfl) ?_
  refine lv_if_ge (tgt := 22) hx hb dX2_fieldOf_12 (by decide) (fun c2 => ?_) (fun c2 => ?_)
  · have h := h.1 c2
    refine lv_iload_n hx hb dX2_fieldOf_22 rfl (lv_at hl 0 rfl) ?_
    refine lv_iconst (v := 4) hx hb dX2_fieldOf_23 (by decide) ?_
    refine lv_imul hx hb dX2_fieldOf_24 ?_
    refine lv_iload_n hx hb dX2_fieldOf_25 rfl (lv_at hl 3 rfl) ?_
    refine lv_iadd hx hb dX2_fieldOf_26 ?_
    refine ar_il (f := (S.2 1)) (n := 96) (j := (Int32.toNatClampNeg ((x1 * 4) + p1))) hx hb hK hP 2 rfl rfl h.1 dX2_fieldOf_27 ?_
    have h := h.2
    exact W.iret (v := ((S.2 1) (Int32.toNatClampNeg ((x1 * 4) + p1)))) hx hb hr (fun t ht hW => ⟨⟨((S.2 1) (Int32.toNatClampNeg ((x1 * 4) + p1))), S, rfl, h, by rw [ht]; exact hP, va_K.moved hW.alike hK, hD⟩, hS.F ht⟩) hS.2.2 dX2_fieldOf_28
  · have h := h.2 c2
    refine lv_iload_n hx hb dX2_fieldOf_15 rfl (lv_at hl 0 rfl) ?_
    refine lv_bipush (v := 24) hx hb dX2_fieldOf_16 (by decide) ?_
    refine lv_iadd hx hb dX2_fieldOf_18 ?_
    refine lv_goto (tgt := 23) hx hb dX2_fieldOf_19 (by decide) ?_
    refine lv_iconst (v := 4) hx hb dX2_fieldOf_23 (by decide) ?_
    refine lv_imul hx hb dX2_fieldOf_24 ?_
    refine lv_iload_n hx hb dX2_fieldOf_25 rfl (lv_at hl 3 rfl) ?_
    refine lv_iadd hx hb dX2_fieldOf_26 ?_
    refine ar_il (f := (S.2 1)) (n := 96) (j := (Int32.toNatClampNeg (((x1 + 24) * 4) + p1))) hx hb hK hP 2 rfl rfl h.1 dX2_fieldOf_27 ?_
    have h := h.2
    exact W.iret (v := ((S.2 1) (Int32.toNatClampNeg (((x1 + 24) * 4) + p1)))) hx hb hr (fun t ht hW => ⟨⟨((S.2 1) (Int32.toNatClampNeg (((x1 + 24) * 4) + p1))), S, rfl, h, by rw [ht]; exact hP, va_K.moved hW.alike hK, hD⟩, hS.F ht⟩) hS.2.2 dX2_fieldOf_28
