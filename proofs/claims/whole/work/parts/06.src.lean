/-! X5_restart -/
abbrev rmX5_restart : Room := { frames := 0, cells := 0, slots := 0, locals := 0 }
set_option maxHeartbeats 4000000 in
set_option maxRecDepth 100000 in
theorem c_X5_restart (l : Launch) (D : va_G) (cI cZ : ClassId) (a : Nat → Nat) (sz : Nat) (S : Ob) (Q : Ob → Prop) (h : wp_X5_restart S Q) : Met l yX5_restart (wsm yX5_restart cX5_restart 2 none) rmX5_restart (va_Pc [.ref (a 0)] (preW D cI cZ sz (wX5 cI cZ a S))) (va_Qv Q (fun u => atW D cI cZ (va_A (wX5 cI cZ a S) sz) (wX5 cI cZ a u)) (va_A (wX5 cI cZ a S) sz)) 0 0 (va_A (wX5 cI cZ a S) sz) := by
  refine Met.ofW (cc := cX5_restart) (maxL := 2) (ret := none) (by decide) rfl ?_
  intro p e s m args below meth c s₁ B hml hv
  obtain ⟨rfl, hsz, hP, hK, hD0⟩ := hv
  have hx := B.exec
  have hb := B.bytes
  have hr := B.returns
  have hts0 := atoms_spec (ws := wsm yX5_restart cX5_restart 2 none) B.pre
  have hts : ∀ w ∈ lw_all, w.before _ s = true := fun w h => hts0 w (List.mem_cons_of_mem _ h)
  have hown : s.vm.findClass RX5 = some m.cls := findClass_of_methodNamed B.named
  have hlocks := B.notSynchronized
  subst hsz
  have hD := hD0.self (sz := s.heap.size)
  generalize hAe : va_A (wX5 cI cZ a S) s.heap.size = A at hD ⊢
  have hA : ∀ q : Nat, s.heap.size ≤ q → A q := fun q h => by rw [← hAe]; exact Or.inr h
  have hS : va_S A s.heap s.heap [] := va_S.rf
  have hml2 := hml
  have L2 : ∀ (n : Nat), ∀ (y1 : Int32) (T : Ob) (H : Heap) (locs : List Loc) (ls : Array Slot), va_P D vwCl (wX5 cI cZ a T) H → va_D A (wX5 cI cZ a T) → va_S A s.heap H locs → lv_has ls 2 [(0, .ref (a 0)), (1, .int y1)] → wp_X5_restart_L2 Q n y1 T → W p l e rmX5_restart s m ([.ref (a 0)] : List Value).toArray below meth c H locs 0 0 (MQ below (va_Qv Q (fun u => atW D cI cZ A (wX5 cI cZ a u)) A) ([.ref (a 0)] : List Value).toArray s 0 0 A) (F0 m 2 ls []) := by
    intro n
    induction n with
    | zero =>
      intro y1 T H locs ls hP hD hS hl h
      exact False.elim h
    | succ n ih =>
      intro y1 T H locs ls hP hD hS hl h
      unfold wp_X5_restart_L2 at h
      refine lv_iload_n hx hb dX5_restart_2 rfl (lv_at hl 1 rfl) ?_
      refine lv_bipush (v := 21) hx hb dX5_restart_3 (by decide) ?_
      refine lv_icmp_ge (tgt := 42) hx hb dX5_restart_5 (by decide) (fun c1 => ?_) (fun c1 => ?_)
      · have h := h.1 c1
        refine lv_aload_n hx hb dX5_restart_42 rfl (lv_at hl 0 rfl) ?_
        refine lv_iconst (v := 0) hx hb dX5_restart_43 (by decide) ?_
        obtain ⟨T2, eT2⟩ : ∃ z : Ob, z = (si T 10 0) := ⟨_, rfl⟩
        refine pu_f (ci := 4) (v := .int 0) (ty := .int) (C := RX5) (T := TX5) (N := 16) hx hb hts inX5 tyX5 tyX5_ok nmX5 hown hK hP hD hS 0 rfl rfl 10 (by decide) (hts _ q_131) (fun _ h9 => h9) rfl rfl rfl rfl (Nat.le_of_ble_eq_true rfl) dX5_restart_44 (wX5 cI cZ a T2) (by subst eT2; rfl) (fun H locs hP hD hS => ?_)
        have h := h T2 eT2
        refine lv_aload_n hx hb dX5_restart_47 rfl (lv_at hl 0 rfl) ?_
        refine lv_iconst (v := 0) hx hb dX5_restart_48 (by decide) ?_
        obtain ⟨T3, eT3⟩ : ∃ z : Ob, z = (si T2 11 0) := ⟨_, rfl⟩
        refine pu_f (ci := 4) (v := .int 0) (ty := .int) (C := RX5) (T := TX5) (N := 16) hx hb hts inX5 tyX5 tyX5_ok nmX5 hown hK hP hD hS 0 rfl rfl 11 (by decide) (hts _ q_134) (fun _ h9 => h9) rfl rfl rfl rfl (Nat.le_of_ble_eq_true rfl) dX5_restart_49 (wX5 cI cZ a T3) (by subst eT3; rfl) (fun H locs hP hD hS => ?_)
        have h := h T3 eT3
        refine lv_aload_n hx hb dX5_restart_52 rfl (lv_at hl 0 rfl) ?_
        refine lv_iconst (v := 0) hx hb dX5_restart_53 (by decide) ?_
        obtain ⟨T4, eT4⟩ : ∃ z : Ob, z = (si T3 13 0) := ⟨_, rfl⟩
        refine pu_f (ci := 4) (v := .int 0) (ty := .int) (C := RX5) (T := TX5) (N := 16) hx hb hts inX5 tyX5 tyX5_ok nmX5 hown hK hP hD hS 0 rfl rfl 13 (by decide) (hts _ q_139) (fun _ h9 => h9) rfl rfl rfl rfl (Nat.le_of_ble_eq_true rfl) dX5_restart_54 (wX5 cI cZ a T4) (by subst eT4; rfl) (fun H locs hP hD hS => ?_)
        have h := h T4 eT4
        refine lv_aload_n hx hb dX5_restart_57 rfl (lv_at hl 0 rfl) ?_
        refine lv_iconst (v := 0) hx hb dX5_restart_58 (by decide) ?_
        obtain ⟨T5, eT5⟩ : ∃ z : Ob, z = (si T4 14 0) := ⟨_, rfl⟩
        refine pu_f (ci := 4) (v := .int 0) (ty := .int) (C := RX5) (T := TX5) (N := 16) hx hb hts inX5 tyX5 tyX5_ok nmX5 hown hK hP hD hS 0 rfl rfl 14 (by decide) (hts _ q_142) (fun _ h9 => h9) rfl rfl rfl rfl (Nat.le_of_ble_eq_true rfl) dX5_restart_59 (wX5 cI cZ a T5) (by subst eT5; rfl) (fun H locs hP hD hS => ?_)
        have h := h T5 eT5
        refine lv_aload_n hx hb dX5_restart_62 rfl (lv_at hl 0 rfl) ?_
        refine lv_iconst (v := 0) hx hb dX5_restart_63 (by decide) ?_
        obtain ⟨T6, eT6⟩ : ∃ z : Ob, z = (si T5 15 0) := ⟨_, rfl⟩
        refine pu_f (ci := 4) (v := .int 0) (ty := .int) (C := RX5) (T := TX5) (N := 16) hx hb hts inX5 tyX5 tyX5_ok nmX5 hown hK hP hD hS 0 rfl rfl 15 (by decide) (hts _ q_145) (fun _ h9 => h9) rfl rfl rfl rfl (Nat.le_of_ble_eq_true rfl) dX5_restart_64 (wX5 cI cZ a T6) (by subst eT6; rfl) (fun H locs hP hD hS => ?_)
        have h := h T6 eT6
        exact W.vret hx hb hr (fun t ht hW => ⟨⟨T6, rfl, h, by rw [ht]; exact hP, va_K.moved hW.alike hK, hD⟩, hS.F ht⟩) hS.2.2 dX5_restart_67
      · have h := h.2 c1
        refine lv_aload_n hx hb dX5_restart_8 rfl (lv_at hl 0 rfl) ?_
        refine va_get (D := D) (ci := 4) (v := .ref (a 4)) (C := RX5) (T := TX5) (N := 16) hx hb hts inX5 hown hK hP 0 rfl rfl 3 (by decide) (hts _ q_117) (fun _ h9 => h9) rfl dX5_restart_9 ?_
        refine lv_iload_n hx hb dX5_restart_12 rfl (lv_at hl 1 rfl) ?_
        refine lv_iconst (v := 0) hx hb dX5_restart_13 (by decide) ?_
        obtain ⟨T7, eT7⟩ : ∃ z : Ob, z = (sa T 3 (upd (T.2 3) (Int32.toNatClampNeg y1) 0)) := ⟨_, rfl⟩
        refine ar_zs (f := (T.2 3)) (n := 21) (j := (Int32.toNatClampNeg y1)) (x := 0) hx hb hK hP hD hS 4 rfl rfl isB0 h.1 dX5_restart_14 (wX5 cI cZ a T7) (by subst eT7; rfl) (fun H locs hP hD hS => ?_)
        have h := h.2
        have h := h T7 eT7
        refine lv_aload_n hx hb dX5_restart_15 rfl (lv_at hl 0 rfl) ?_
        refine va_get (D := D) (ci := 4) (v := .ref (a 5)) (C := RX5) (T := TX5) (N := 16) hx hb hts inX5 hown hK hP 0 rfl rfl 4 (by decide) (hts _ q_119) (fun _ h9 => h9) rfl dX5_restart_16 ?_
        refine lv_iload_n hx hb dX5_restart_19 rfl (lv_at hl 1 rfl) ?_
        refine lv_iconst (v := 0) hx hb dX5_restart_20 (by decide) ?_
        obtain ⟨T8, eT8⟩ : ∃ z : Ob, z = (sa T7 4 (upd (T7.2 4) (Int32.toNatClampNeg y1) 0)) := ⟨_, rfl⟩
        refine ar_zs (f := (T7.2 4)) (n := 21) (j := (Int32.toNatClampNeg y1)) (x := 0) hx hb hK hP hD hS 5 rfl rfl isB0 h.1 dX5_restart_21 (wX5 cI cZ a T8) (by subst eT8; rfl) (fun H locs hP hD hS => ?_)
        have h := h.2
        have h := h T8 eT8
        refine lv_aload_n hx hb dX5_restart_22 rfl (lv_at hl 0 rfl) ?_
        refine va_get (D := D) (ci := 4) (v := .ref (a 6)) (C := RX5) (T := TX5) (N := 16) hx hb hts inX5 hown hK hP 0 rfl rfl 5 (by decide) (hts _ q_122) (fun _ h9 => h9) rfl dX5_restart_23 ?_
        refine lv_iload_n hx hb dX5_restart_26 rfl (lv_at hl 1 rfl) ?_
        refine lv_iconst (v := 0) hx hb dX5_restart_27 (by decide) ?_
        obtain ⟨T9, eT9⟩ : ∃ z : Ob, z = (sa T8 5 (upd (T8.2 5) (Int32.toNatClampNeg y1) 0)) := ⟨_, rfl⟩
        refine ar_zs (f := (T8.2 5)) (n := 21) (j := (Int32.toNatClampNeg y1)) (x := 0) hx hb hK hP hD hS 6 rfl rfl isB0 h.1 dX5_restart_28 (wX5 cI cZ a T9) (by subst eT9; rfl) (fun H locs hP hD hS => ?_)
        have h := h.2
        have h := h T9 eT9
        refine lv_aload_n hx hb dX5_restart_29 rfl (lv_at hl 0 rfl) ?_
        refine va_get (D := D) (ci := 4) (v := .ref (a 9)) (C := RX5) (T := TX5) (N := 16) hx hb hts inX5 hown hK hP 0 rfl rfl 8 (by decide) (hts _ q_127) (fun _ h9 => h9) rfl dX5_restart_30 ?_
        refine lv_iload_n hx hb dX5_restart_33 rfl (lv_at hl 1 rfl) ?_
        refine lv_iconst (v := -1) hx hb dX5_restart_34 (by decide) ?_
        obtain ⟨T10, eT10⟩ : ∃ z : Ob, z = (sa T9 8 (upd (T9.2 8) (Int32.toNatClampNeg y1) (-1))) := ⟨_, rfl⟩
        refine ar_is (f := (T9.2 8)) (n := 21) (j := (Int32.toNatClampNeg y1)) (x := (-1)) hx hb hK hP hD hS 9 rfl rfl h.1 dX5_restart_35 (wX5 cI cZ a T10) (by subst eT10; rfl) (fun H locs hP hD hS => ?_)
        have h := h.2
        have h := h T10 eT10
        obtain ⟨x11, ex11⟩ : ∃ y : Int32, y = (y1 + 1) := ⟨_, rfl⟩
        have h := h x11 ex11
        refine lv_iinc (v := x11) (lv' := [(1, .int x11), (0, .ref (a 0))]) hx hb dX5_restart_36 hl (k := 1) rfl (by rw [ex11]; rfl) (by decide) rfl (fun ls hl => ?_)
        refine lv_goto (tgt := 2) hx hb dX5_restart_39 (by decide) ?_
        exact ih x11 T10 _ _ _ hP hD hS (lv_sub hl [1, 0] rfl) h
  have hl := lv_entry ([.ref (a 0)]) (n := 2) (Nat.le_of_ble_eq_true rfl)
  rw [lg_entry_eq]
  generalize (lg_sl ([.ref (a 0)]) ++ List.replicate (2 - (lg_sl ([.ref (a 0)])).length) Slot.unset).toArray = ls at hl ⊢
  have hl : lv_has ls 2 [(0, .ref (a 0))] := hl
  unfold wp_X5_restart at h
  refine lv_iconst (v := 0) hx hb dX5_restart_0 (by decide) ?_
  refine lv_istore_n (lv' := [(1, .int 0), (0, .ref (a 0))]) hx hb dX5_restart_1 rfl hl (by decide) rfl (fun ls hl => ?_)
  exact L2 2000 0 S _ _ _ hP hD hS (lv_sub hl [1, 0] rfl) h
/-! X5_copyFrom -/
abbrev rmX5_copyFrom : Room := { frames := 0, cells := 0, slots := 0, locals := 0 }
set_option maxHeartbeats 4000000 in
set_option maxRecDepth 100000 in
theorem c_X5_copyFrom (l : Launch) (D : va_G) (cI cZ : ClassId) (a : Nat → Nat) (b : Nat → Nat) (sz : Nat) (S : Ob × Ob) (Q : (Ob × Ob) → Prop) (h : wp_X5_copyFrom S Q) : Met l yX5_copyFrom (wsm yX5_copyFrom cX5_copyFrom 3 none) rmX5_copyFrom (va_Pc [.ref (a 0), .ref (b 0)] (preW D cI cZ sz (wX5X5 cI cZ a b S))) (va_Qv Q (fun u => atW D cI cZ (va_A (wX5X5 cI cZ a b S) sz) (wX5X5 cI cZ a b u)) (va_A (wX5X5 cI cZ a b S) sz)) 0 0 (va_A (wX5X5 cI cZ a b S) sz) := by
  refine Met.ofW (cc := cX5_copyFrom) (maxL := 3) (ret := none) (by decide) rfl ?_
  intro p e s m args below meth c s₁ B hml hv
  obtain ⟨rfl, hsz, hP, hK, hD0⟩ := hv
  have hx := B.exec
  have hb := B.bytes
  have hr := B.returns
  have hts0 := atoms_spec (ws := wsm yX5_copyFrom cX5_copyFrom 3 none) B.pre
  have hts : ∀ w ∈ lw_all, w.before _ s = true := fun w h => hts0 w (List.mem_cons_of_mem _ h)
  have hown : s.vm.findClass RX5 = some m.cls := findClass_of_methodNamed B.named
  have hlocks := B.notSynchronized
  subst hsz
  have hD := hD0.self (sz := s.heap.size)
  generalize hAe : va_A (wX5X5 cI cZ a b S) s.heap.size = A at hD ⊢
  have hA : ∀ q : Nat, s.heap.size ≤ q → A q := fun q h => by rw [← hAe]; exact Or.inr h
  have hS : va_S A s.heap s.heap [] := va_S.rf
  have hml2 := hml
  have L2 : ∀ (n : Nat), ∀ (y2 : Int32) (T : Ob × Ob) (H : Heap) (locs : List Loc) (ls : Array Slot), va_P D vwCl (wX5X5 cI cZ a b T) H → va_D A (wX5X5 cI cZ a b T) → va_S A s.heap H locs → lv_has ls 3 [(0, .ref (a 0)), (1, .ref (b 0)), (2, .int y2)] → wp_X5_copyFrom_L2 Q n y2 T → W p l e rmX5_copyFrom s m ([.ref (a 0), .ref (b 0)] : List Value).toArray below meth c H locs 0 0 (MQ below (va_Qv Q (fun u => atW D cI cZ A (wX5X5 cI cZ a b u)) A) ([.ref (a 0), .ref (b 0)] : List Value).toArray s 0 0 A) (F0 m 2 ls []) := by
    intro n
    induction n with
    | zero =>
      intro y2 T H locs ls hP hD hS hl h
      exact False.elim h
    | succ n ih =>
      intro y2 T H locs ls hP hD hS hl h
      unfold wp_X5_copyFrom_L2 at h
      refine lv_iload_n hx hb dX5_copyFrom_2 rfl (lv_at hl 2 rfl) ?_
      refine lv_bipush (v := 21) hx hb dX5_copyFrom_3 (by decide) ?_
      refine lv_icmp_ge (tgt := 98) hx hb dX5_copyFrom_5 (by decide) (fun c1 => ?_) (fun c1 => ?_)
      · have h := h.1 c1
        refine lv_aload_n hx hb dX5_copyFrom_98 rfl (lv_at hl 0 rfl) ?_
        refine lv_aload_n hx hb dX5_copyFrom_99 rfl (lv_at hl 1 rfl) ?_
        refine va_get (D := D) (ci := 4) (v := .int (T.2.1 10)) (C := RX5) (T := TX5) (N := 16) hx hb hts inX5 hown hK hP 11 rfl rfl 10 (by decide) (hts _ q_131) (fun _ h9 => h9) rfl dX5_copyFrom_100 ?_
        obtain ⟨T2, eT2⟩ : ∃ z : Ob, z = (si T.1 10 (T.2.1 10)) := ⟨_, rfl⟩
        refine pu_f (ci := 4) (v := .int (T.2.1 10)) (ty := .int) (C := RX5) (T := TX5) (N := 16) hx hb hts inX5 tyX5 tyX5_ok nmX5 hown hK hP hD hS 0 rfl rfl 10 (by decide) (hts _ q_131) (fun _ h9 => h9) rfl rfl rfl rfl (Nat.le_of_ble_eq_true rfl) dX5_copyFrom_103 (wX5X5 cI cZ a b (T2, T.2)) (by subst eT2; rfl) (fun H locs hP hD hS => ?_)
        have h := h T2 eT2
        refine lv_aload_n hx hb dX5_copyFrom_106 rfl (lv_at hl 0 rfl) ?_
        refine lv_aload_n hx hb dX5_copyFrom_107 rfl (lv_at hl 1 rfl) ?_
        refine va_get (D := D) (ci := 4) (v := .int (T.2.1 12)) (C := RX5) (T := TX5) (N := 16) hx hb hts inX5 hown hK hP 11 rfl rfl 12 (by decide) (hts _ q_136) (fun _ h9 => h9) rfl dX5_copyFrom_108 ?_
        obtain ⟨T3, eT3⟩ : ∃ z : Ob, z = (si T2 12 (T.2.1 12)) := ⟨_, rfl⟩
        refine pu_f (ci := 4) (v := .int (T.2.1 12)) (ty := .int) (C := RX5) (T := TX5) (N := 16) hx hb hts inX5 tyX5 tyX5_ok nmX5 hown hK hP hD hS 0 rfl rfl 12 (by decide) (hts _ q_136) (fun _ h9 => h9) rfl rfl rfl rfl (Nat.le_of_ble_eq_true rfl) dX5_copyFrom_111 (wX5X5 cI cZ a b (T3, T.2)) (by subst eT3; rfl) (fun H locs hP hD hS => ?_)
        have h := h T3 eT3
        refine lv_aload_n hx hb dX5_copyFrom_114 rfl (lv_at hl 0 rfl) ?_
        refine lv_aload_n hx hb dX5_copyFrom_115 rfl (lv_at hl 1 rfl) ?_
        refine va_get (D := D) (ci := 4) (v := .int (T.2.1 13)) (C := RX5) (T := TX5) (N := 16) hx hb hts inX5 hown hK hP 11 rfl rfl 13 (by decide) (hts _ q_139) (fun _ h9 => h9) rfl dX5_copyFrom_116 ?_
        obtain ⟨T4, eT4⟩ : ∃ z : Ob, z = (si T3 13 (T.2.1 13)) := ⟨_, rfl⟩
        refine pu_f (ci := 4) (v := .int (T.2.1 13)) (ty := .int) (C := RX5) (T := TX5) (N := 16) hx hb hts inX5 tyX5 tyX5_ok nmX5 hown hK hP hD hS 0 rfl rfl 13 (by decide) (hts _ q_139) (fun _ h9 => h9) rfl rfl rfl rfl (Nat.le_of_ble_eq_true rfl) dX5_copyFrom_119 (wX5X5 cI cZ a b (T4, T.2)) (by subst eT4; rfl) (fun H locs hP hD hS => ?_)
        have h := h T4 eT4
        refine lv_aload_n hx hb dX5_copyFrom_122 rfl (lv_at hl 0 rfl) ?_
        refine lv_aload_n hx hb dX5_copyFrom_123 rfl (lv_at hl 1 rfl) ?_
        refine va_get (D := D) (ci := 4) (v := .int (T.2.1 14)) (C := RX5) (T := TX5) (N := 16) hx hb hts inX5 hown hK hP 11 rfl rfl 14 (by decide) (hts _ q_142) (fun _ h9 => h9) rfl dX5_copyFrom_124 ?_
        obtain ⟨T5, eT5⟩ : ∃ z : Ob, z = (si T4 14 (T.2.1 14)) := ⟨_, rfl⟩
        refine pu_f (ci := 4) (v := .int (T.2.1 14)) (ty := .int) (C := RX5) (T := TX5) (N := 16) hx hb hts inX5 tyX5 tyX5_ok nmX5 hown hK hP hD hS 0 rfl rfl 14 (by decide) (hts _ q_142) (fun _ h9 => h9) rfl rfl rfl rfl (Nat.le_of_ble_eq_true rfl) dX5_copyFrom_127 (wX5X5 cI cZ a b (T5, T.2)) (by subst eT5; rfl) (fun H locs hP hD hS => ?_)
        have h := h T5 eT5
        exact W.vret hx hb hr (fun t ht hW => ⟨⟨(T5, T.2), rfl, h, by rw [ht]; exact hP, va_K.moved hW.alike hK, hD⟩, hS.F ht⟩) hS.2.2 dX5_copyFrom_130
      · have h := h.2 c1
        refine lv_aload_n hx hb dX5_copyFrom_8 rfl (lv_at hl 0 rfl) ?_
        refine va_get (D := D) (ci := 4) (v := .ref (a 1)) (C := RX5) (T := TX5) (N := 16) hx hb hts inX5 hown hK hP 0 rfl rfl 0 (by decide) (hts _ q_107) (fun _ h9 => h9) rfl dX5_copyFrom_9 ?_
        refine lv_iload_n hx hb dX5_copyFrom_12 rfl (lv_at hl 2 rfl) ?_
        refine lv_aload_n hx hb dX5_copyFrom_13 rfl (lv_at hl 1 rfl) ?_
        refine va_get (D := D) (ci := 4) (v := .ref (b 1)) (C := RX5) (T := TX5) (N := 16) hx hb hts inX5 hown hK hP 11 rfl rfl 0 (by decide) (hts _ q_107) (fun _ h9 => h9) rfl dX5_copyFrom_14 ?_
        refine lv_iload_n hx hb dX5_copyFrom_17 rfl (lv_at hl 2 rfl) ?_
        refine ar_il (f := (T.2.2 0)) (n := 21) (j := (Int32.toNatClampNeg y2)) hx hb hK hP 12 rfl rfl h.1 dX5_copyFrom_18 ?_
        have h := h.2
        obtain ⟨T6, eT6⟩ : ∃ z : Ob, z = (sa T.1 0 (upd (T.1.2 0) (Int32.toNatClampNeg y2) ((T.2.2 0) (Int32.toNatClampNeg y2)))) := ⟨_, rfl⟩
        refine ar_is (f := (T.1.2 0)) (n := 21) (j := (Int32.toNatClampNeg y2)) (x := ((T.2.2 0) (Int32.toNatClampNeg y2))) hx hb hK hP hD hS 1 rfl rfl h.1 dX5_copyFrom_19 (wX5X5 cI cZ a b (T6, T.2)) (by subst eT6; rfl) (fun H locs hP hD hS => ?_)
        have h := h.2
        have h := h T6 eT6
        refine lv_aload_n hx hb dX5_copyFrom_20 rfl (lv_at hl 0 rfl) ?_
        refine va_get (D := D) (ci := 4) (v := .ref (a 2)) (C := RX5) (T := TX5) (N := 16) hx hb hts inX5 hown hK hP 0 rfl rfl 1 (by decide) (hts _ q_110) (fun _ h9 => h9) rfl dX5_copyFrom_21 ?_
        refine lv_iload_n hx hb dX5_copyFrom_24 rfl (lv_at hl 2 rfl) ?_
        refine lv_aload_n hx hb dX5_copyFrom_25 rfl (lv_at hl 1 rfl) ?_
        refine va_get (D := D) (ci := 4) (v := .ref (b 2)) (C := RX5) (T := TX5) (N := 16) hx hb hts inX5 hown hK hP 11 rfl rfl 1 (by decide) (hts _ q_110) (fun _ h9 => h9) rfl dX5_copyFrom_26 ?_
        refine lv_iload_n hx hb dX5_copyFrom_29 rfl (lv_at hl 2 rfl) ?_
        refine ar_il (f := (T.2.2 1)) (n := 21) (j := (Int32.toNatClampNeg y2)) hx hb hK hP 13 rfl rfl h.1 dX5_copyFrom_30 ?_
        have h := h.2
        obtain ⟨T7, eT7⟩ : ∃ z : Ob, z = (sa T6 1 (upd (T6.2 1) (Int32.toNatClampNeg y2) ((T.2.2 1) (Int32.toNatClampNeg y2)))) := ⟨_, rfl⟩
        refine ar_is (f := (T6.2 1)) (n := 21) (j := (Int32.toNatClampNeg y2)) (x := ((T.2.2 1) (Int32.toNatClampNeg y2))) hx hb hK hP hD hS 2 rfl rfl h.1 dX5_copyFrom_31 (wX5X5 cI cZ a b (T7, T.2)) (by subst eT7; rfl) (fun H locs hP hD hS => ?_)
        have h := h.2
        have h := h T7 eT7
        refine lv_aload_n hx hb dX5_copyFrom_32 rfl (lv_at hl 0 rfl) ?_
        refine va_get (D := D) (ci := 4) (v := .ref (a 3)) (C := RX5) (T := TX5) (N := 16) hx hb hts inX5 hown hK hP 0 rfl rfl 2 (by decide) (hts _ q_114) (fun _ h9 => h9) rfl dX5_copyFrom_33 ?_
        refine lv_iload_n hx hb dX5_copyFrom_36 rfl (lv_at hl 2 rfl) ?_
        refine lv_aload_n hx hb dX5_copyFrom_37 rfl (lv_at hl 1 rfl) ?_
        refine va_get (D := D) (ci := 4) (v := .ref (b 3)) (C := RX5) (T := TX5) (N := 16) hx hb hts inX5 hown hK hP 11 rfl rfl 2 (by decide) (hts _ q_114) (fun _ h9 => h9) rfl dX5_copyFrom_38 ?_
        refine lv_iload_n hx hb dX5_copyFrom_41 rfl (lv_at hl 2 rfl) ?_
        refine ar_zl (f := (T.2.2 2)) (n := 21) (j := (Int32.toNatClampNeg y2)) hx hb hK hP 14 rfl rfl h.1 dX5_copyFrom_42 ?_
        have h := h.2
        obtain ⟨T8, eT8⟩ : ∃ z : Ob, z = (sa T7 2 (upd (T7.2 2) (Int32.toNatClampNeg y2) ((T.2.2 2) (Int32.toNatClampNeg y2)))) := ⟨_, rfl⟩
        refine ar_zs (f := (T7.2 2)) (n := 21) (j := (Int32.toNatClampNeg y2)) (x := ((T.2.2 2) (Int32.toNatClampNeg y2))) hx hb hK hP hD hS 3 rfl rfl h.1 h.2.1 dX5_copyFrom_43 (wX5X5 cI cZ a b (T8, T.2)) (by subst eT8; rfl) (fun H locs hP hD hS => ?_)
        have h := h.2
        have h := h.2
        have h := h T8 eT8
        refine lv_aload_n hx hb dX5_copyFrom_44 rfl (lv_at hl 0 rfl) ?_
        refine va_get (D := D) (ci := 4) (v := .ref (a 4)) (C := RX5) (T := TX5) (N := 16) hx hb hts inX5 hown hK hP 0 rfl rfl 3 (by decide) (hts _ q_117) (fun _ h9 => h9) rfl dX5_copyFrom_45 ?_
        refine lv_iload_n hx hb dX5_copyFrom_48 rfl (lv_at hl 2 rfl) ?_
        refine lv_aload_n hx hb dX5_copyFrom_49 rfl (lv_at hl 1 rfl) ?_
        refine va_get (D := D) (ci := 4) (v := .ref (b 4)) (C := RX5) (T := TX5) (N := 16) hx hb hts inX5 hown hK hP 11 rfl rfl 3 (by decide) (hts _ q_117) (fun _ h9 => h9) rfl dX5_copyFrom_50 ?_
        refine lv_iload_n hx hb dX5_copyFrom_53 rfl (lv_at hl 2 rfl) ?_
        refine ar_zl (f := (T.2.2 3)) (n := 21) (j := (Int32.toNatClampNeg y2)) hx hb hK hP 15 rfl rfl h.1 dX5_copyFrom_54 ?_
        have h := h.2
        obtain ⟨T9, eT9⟩ : ∃ z : Ob, z = (sa T8 3 (upd (T8.2 3) (Int32.toNatClampNeg y2) ((T.2.2 3) (Int32.toNatClampNeg y2)))) := ⟨_, rfl⟩
        refine ar_zs (f := (T8.2 3)) (n := 21) (j := (Int32.toNatClampNeg y2)) (x := ((T.2.2 3) (Int32.toNatClampNeg y2))) hx hb hK hP hD hS 4 rfl rfl h.1 h.2.1 dX5_copyFrom_55 (wX5X5 cI cZ a b (T9, T.2)) (by subst eT9; rfl) (fun H locs hP hD hS => ?_)
        have h := h.2
        have h := h.2
        have h := h T9 eT9
        refine lv_aload_n hx hb dX5_copyFrom_56 rfl (lv_at hl 0 rfl) ?_
        refine va_get (D := D) (ci := 4) (v := .ref (a 5)) (C := RX5) (T := TX5) (N := 16) hx hb hts inX5 hown hK hP 0 rfl rfl 4 (by decide) (hts _ q_119) (fun _ h9 => h9) rfl dX5_copyFrom_57 ?_
        refine lv_iload_n hx hb dX5_copyFrom_60 rfl (lv_at hl 2 rfl) ?_
        refine lv_aload_n hx hb dX5_copyFrom_61 rfl (lv_at hl 1 rfl) ?_
        refine va_get (D := D) (ci := 4) (v := .ref (b 5)) (C := RX5) (T := TX5) (N := 16) hx hb hts inX5 hown hK hP 11 rfl rfl 4 (by decide) (hts _ q_119) (fun _ h9 => h9) rfl dX5_copyFrom_62 ?_
        refine lv_iload_n hx hb dX5_copyFrom_65 rfl (lv_at hl 2 rfl) ?_
        refine ar_zl (f := (T.2.2 4)) (n := 21) (j := (Int32.toNatClampNeg y2)) hx hb hK hP 16 rfl rfl h.1 dX5_copyFrom_66 ?_
        have h := h.2
        obtain ⟨T10, eT10⟩ : ∃ z : Ob, z = (sa T9 4 (upd (T9.2 4) (Int32.toNatClampNeg y2) ((T.2.2 4) (Int32.toNatClampNeg y2)))) := ⟨_, rfl⟩
        refine ar_zs (f := (T9.2 4)) (n := 21) (j := (Int32.toNatClampNeg y2)) (x := ((T.2.2 4) (Int32.toNatClampNeg y2))) hx hb hK hP hD hS 5 rfl rfl h.1 h.2.1 dX5_copyFrom_67 (wX5X5 cI cZ a b (T10, T.2)) (by subst eT10; rfl) (fun H locs hP hD hS => ?_)
        have h := h.2
        have h := h.2
        have h := h T10 eT10
        refine lv_aload_n hx hb dX5_copyFrom_68 rfl (lv_at hl 0 rfl) ?_
        refine va_get (D := D) (ci := 4) (v := .ref (a 6)) (C := RX5) (T := TX5) (N := 16) hx hb hts inX5 hown hK hP 0 rfl rfl 5 (by decide) (hts _ q_122) (fun _ h9 => h9) rfl dX5_copyFrom_69 ?_
        refine lv_iload_n hx hb dX5_copyFrom_72 rfl (lv_at hl 2 rfl) ?_
        refine lv_aload_n hx hb dX5_copyFrom_73 rfl (lv_at hl 1 rfl) ?_
        refine va_get (D := D) (ci := 4) (v := .ref (b 6)) (C := RX5) (T := TX5) (N := 16) hx hb hts inX5 hown hK hP 11 rfl rfl 5 (by decide) (hts _ q_122) (fun _ h9 => h9) rfl dX5_copyFrom_74 ?_
        refine lv_iload_n hx hb dX5_copyFrom_77 rfl (lv_at hl 2 rfl) ?_
        refine ar_zl (f := (T.2.2 5)) (n := 21) (j := (Int32.toNatClampNeg y2)) hx hb hK hP 17 rfl rfl h.1 dX5_copyFrom_78 ?_
        have h := h.2
        obtain ⟨T11, eT11⟩ : ∃ z : Ob, z = (sa T10 5 (upd (T10.2 5) (Int32.toNatClampNeg y2) ((T.2.2 5) (Int32.toNatClampNeg y2)))) := ⟨_, rfl⟩
        refine ar_zs (f := (T10.2 5)) (n := 21) (j := (Int32.toNatClampNeg y2)) (x := ((T.2.2 5) (Int32.toNatClampNeg y2))) hx hb hK hP hD hS 6 rfl rfl h.1 h.2.1 dX5_copyFrom_79 (wX5X5 cI cZ a b (T11, T.2)) (by subst eT11; rfl) (fun H locs hP hD hS => ?_)
        have h := h.2
        have h := h.2
        have h := h T11 eT11
        refine lv_aload_n hx hb dX5_copyFrom_80 rfl (lv_at hl 0 rfl) ?_
        refine va_get (D := D) (ci := 4) (v := .ref (a 10)) (C := RX5) (T := TX5) (N := 16) hx hb hts inX5 hown hK hP 0 rfl rfl 9 (by decide) (hts _ q_129) (fun _ h9 => h9) rfl dX5_copyFrom_81 ?_
        refine lv_iload_n hx hb dX5_copyFrom_84 rfl (lv_at hl 2 rfl) ?_
        refine lv_aload_n hx hb dX5_copyFrom_85 rfl (lv_at hl 1 rfl) ?_
        refine va_get (D := D) (ci := 4) (v := .ref (b 10)) (C := RX5) (T := TX5) (N := 16) hx hb hts inX5 hown hK hP 11 rfl rfl 9 (by decide) (hts _ q_129) (fun _ h9 => h9) rfl dX5_copyFrom_86 ?_
        refine lv_iload_n hx hb dX5_copyFrom_89 rfl (lv_at hl 2 rfl) ?_
        refine ar_il (f := (T.2.2 9)) (n := 21) (j := (Int32.toNatClampNeg y2)) hx hb hK hP 21 rfl rfl h.1 dX5_copyFrom_90 ?_
        have h := h.2
        obtain ⟨T12, eT12⟩ : ∃ z : Ob, z = (sa T11 9 (upd (T11.2 9) (Int32.toNatClampNeg y2) ((T.2.2 9) (Int32.toNatClampNeg y2)))) := ⟨_, rfl⟩
        refine ar_is (f := (T11.2 9)) (n := 21) (j := (Int32.toNatClampNeg y2)) (x := ((T.2.2 9) (Int32.toNatClampNeg y2))) hx hb hK hP hD hS 10 rfl rfl h.1 dX5_copyFrom_91 (wX5X5 cI cZ a b (T12, T.2)) (by subst eT12; rfl) (fun H locs hP hD hS => ?_)
        have h := h.2
        have h := h T12 eT12
        obtain ⟨x13, ex13⟩ : ∃ y : Int32, y = (y2 + 1) := ⟨_, rfl⟩
        have h := h x13 ex13
        refine lv_iinc (v := x13) (lv' := [(2, .int x13), (0, .ref (a 0)), (1, .ref (b 0))]) hx hb dX5_copyFrom_92 hl (k := 2) rfl (by rw [ex13]; rfl) (by decide) rfl (fun ls hl => ?_)
        refine lv_goto (tgt := 2) hx hb dX5_copyFrom_95 (by decide) ?_
        exact ih x13 (T12, T.2) _ _ _ hP hD hS (lv_sub hl [1, 2, 0] rfl) h
  have hl := lv_entry ([.ref (a 0), .ref (b 0)]) (n := 3) (Nat.le_of_ble_eq_true rfl)
  rw [lg_entry_eq]
  generalize (lg_sl ([.ref (a 0), .ref (b 0)]) ++ List.replicate (3 - (lg_sl ([.ref (a 0), .ref (b 0)])).length) Slot.unset).toArray = ls at hl ⊢
  have hl : lv_has ls 3 [(0, .ref (a 0)), (1, .ref (b 0))] := hl
  unfold wp_X5_copyFrom at h
  refine lv_iconst (v := 0) hx hb dX5_copyFrom_0 (by decide) ?_
  refine lv_istore_n (lv' := [(2, .int 0), (0, .ref (a 0)), (1, .ref (b 0))]) hx hb dX5_copyFrom_1 rfl hl (by decide) rfl (fun ls hl => ?_)
  exact L2 2000 0 S _ _ _ hP hD hS (lv_sub hl [1, 2, 0] rfl) h
/-! X5_groupBy -/
abbrev rmX5_groupBy : Room := { frames := 0, cells := 0, slots := 0, locals := 0 }
set_option maxHeartbeats 4000000 in
set_option maxRecDepth 100000 in
theorem c_X5_groupBy (l : Launch) (D : va_G) (cI cZ : ClassId) (a : Nat → Nat) (sz : Nat) (S : Ob) (p0 : Int32) (p1 : Int32) (Q : Int32 → Ob → Prop) (h : wp_X5_groupBy S p0 p1 Q) : Met l yX5_groupBy (wsm yX5_groupBy cX5_groupBy 3 (some .int)) rmX5_groupBy (va_Pc [.ref (a 0), .int p0, .int p1] (preW D cI cZ sz (wX5 cI cZ a S))) (va_Qi Q (fun u => atW D cI cZ (va_A (wX5 cI cZ a S) sz) (wX5 cI cZ a u)) (va_A (wX5 cI cZ a S) sz)) 0 0 (va_A (wX5 cI cZ a S) sz) := by
  refine Met.ofW (cc := cX5_groupBy) (maxL := 3) (ret := (some .int)) (by decide) rfl ?_
  intro p e s m args below meth c s₁ B hml hv
  obtain ⟨rfl, hsz, hP, hK, hD0⟩ := hv
  have hx := B.exec
  have hb := B.bytes
  have hr := B.returns
  have hts0 := atoms_spec (ws := wsm yX5_groupBy cX5_groupBy 3 (some .int)) B.pre
  have hts : ∀ w ∈ lw_all, w.before _ s = true := fun w h => hts0 w (List.mem_cons_of_mem _ h)
  have hown : s.vm.findClass RX5 = some m.cls := findClass_of_methodNamed B.named
  have hlocks := B.notSynchronized
  subst hsz
  have hD := hD0.self (sz := s.heap.size)
  generalize hAe : va_A (wX5 cI cZ a S) s.heap.size = A at hD ⊢
  have hA : ∀ q : Nat, s.heap.size ≤ q → A q := fun q h => by rw [← hAe]; exact Or.inr h
  have hS : va_S A s.heap s.heap [] := va_S.rf
  have hml2 := hml
  have hl := lv_entry ([.ref (a 0), .int p0, .int p1]) (n := 3) (Nat.le_of_ble_eq_true rfl)
  rw [lg_entry_eq]
  generalize (lg_sl ([.ref (a 0), .int p0, .int p1]) ++ List.replicate (3 - (lg_sl ([.ref (a 0), .int p0, .int p1])).length) Slot.unset).toArray = ls at hl ⊢
  have hl : lv_has ls 3 [(0, .ref (a 0)), (1, .int p0), (2, .int p1)] := hl
  unfold wp_X5_groupBy at h
  refine lv_aload_n hx hb dX5_groupBy_0 rfl (lv_at hl 0 rfl) ?_
  refine va_get (D := D) (ci := 4) (v := .ref (a 1)) (C := RX5) (T := TX5) (N := 16) hx hb hts inX5 hown hK hP 0 rfl rfl 0 (by decide) (hts _ q_107) (fun _ h9 => h9) rfl dX5_groupBy_1 ?_
  refine lv_iload_n hx hb dX5_groupBy_4 rfl (lv_at hl 1 rfl) ?_
  refine ar_il (f := (S.2 0)) (n := 21) (j := (Int32.toNatClampNeg p0)) hx hb hK hP 1 rfl rfl h.1 dX5_groupBy_5 ?_
  have h := h.2
  refine lv_iload_n hx hb dX5_groupBy_6 rfl (lv_at hl 2 rfl) ?_
  refine lv_ishr hx hb dX5_groupBy_7 ?_
  exact W.iret (v := (((S.2 0) (Int32.toNatClampNeg p0)) >>> (p1 &&& 31))) hx hb hr (fun t ht hW => ⟨⟨(((S.2 0) (Int32.toNatClampNeg p0)) >>> (p1 &&& 31)), S, rfl, h, by rw [ht]; exact hP, va_K.moved hW.alike hK, hD⟩, hS.F ht⟩) hS.2.2 dX5_groupBy_8
/-! X5_subOf -/
abbrev rmX5_subOf : Room := { frames := 0, cells := 0, slots := 0, locals := 0 }
set_option maxHeartbeats 4000000 in
set_option maxRecDepth 100000 in
theorem c_X5_subOf (l : Launch) (D : va_G) (cI cZ : ClassId) (a : Nat → Nat) (sz : Nat) (S : Ob) (p0 : Int32) (Q : Int32 → Ob → Prop) (h : wp_X5_subOf S p0 Q) : Met l yX5_subOf (wsm yX5_subOf cX5_subOf 2 (some .int)) rmX5_subOf (va_Pc [.ref (a 0), .int p0] (preW D cI cZ sz (wX5 cI cZ a S))) (va_Qi Q (fun u => atW D cI cZ (va_A (wX5 cI cZ a S) sz) (wX5 cI cZ a u)) (va_A (wX5 cI cZ a S) sz)) 0 0 (va_A (wX5 cI cZ a S) sz) := by
  refine Met.ofW (cc := cX5_subOf) (maxL := 2) (ret := (some .int)) (by decide) rfl ?_
  intro p e s m args below meth c s₁ B hml hv
  obtain ⟨rfl, hsz, hP, hK, hD0⟩ := hv
  have hx := B.exec
  have hb := B.bytes
  have hr := B.returns
  have hts0 := atoms_spec (ws := wsm yX5_subOf cX5_subOf 2 (some .int)) B.pre
  have hts : ∀ w ∈ lw_all, w.before _ s = true := fun w h => hts0 w (List.mem_cons_of_mem _ h)
  have hown : s.vm.findClass RX5 = some m.cls := findClass_of_methodNamed B.named
  have hlocks := B.notSynchronized
  subst hsz
  have hD := hD0.self (sz := s.heap.size)
  generalize hAe : va_A (wX5 cI cZ a S) s.heap.size = A at hD ⊢
  have hA : ∀ q : Nat, s.heap.size ≤ q → A q := fun q h => by rw [← hAe]; exact Or.inr h
  have hS : va_S A s.heap s.heap [] := va_S.rf
  have hml2 := hml
  have hl := lv_entry ([.ref (a 0), .int p0]) (n := 2) (Nat.le_of_ble_eq_true rfl)
  rw [lg_entry_eq]
  generalize (lg_sl ([.ref (a 0), .int p0]) ++ List.replicate (2 - (lg_sl ([.ref (a 0), .int p0])).length) Slot.unset).toArray = ls at hl ⊢
  have hl : lv_has ls 2 [(0, .ref (a 0)), (1, .int p0)] := hl
  unfold wp_X5_subOf at h
  refine lv_iload_n hx hb dX5_subOf_0 rfl (lv_at hl 1 rfl) ?_
  refine lv_bipush (v := 20) hx hb dX5_subOf_1 (by decide) ?_
  refine lv_icmp_ne (tgt := 10) hx hb dX5_subOf_3 (by decide) (fun c1 => ?_) (fun c1 => ?_)
  · have h := h.1 c1
    refine lv_aload_n hx hb dX5_subOf_10 rfl (lv_at hl 0 rfl) ?_
    refine va_get (D := D) (ci := 4) (v := .ref (a 1)) (C := RX5) (T := TX5) (N := 16) hx hb hts inX5 hown hK hP 0 rfl rfl 0 (by decide) (hts _ q_107) (fun _ h9 => h9) rfl dX5_subOf_11 ?_
    refine lv_iload_n hx hb dX5_subOf_14 rfl (lv_at hl 1 rfl) ?_
    refine ar_il (f := (S.2 0)) (n := 21) (j := (Int32.toNatClampNeg p0)) hx hb hK hP 1 rfl rfl h.1 dX5_subOf_15 ?_
    have h := h.2
    refine lv_iconst (v := 1) hx hb dX5_subOf_16 (by decide) ?_
    refine lv_aload_n hx hb dX5_subOf_17 rfl (lv_at hl 0 rfl) ?_
    refine va_get (D := D) (ci := 4) (v := .int (S.1 12)) (C := RX5) (T := TX5) (N := 16) hx hb hts inX5 hown hK hP 0 rfl rfl 12 (by decide) (hts _ q_136) (fun _ h9 => h9) rfl dX5_subOf_18 ?_
    refine lv_ishl hx hb dX5_subOf_21 ?_
    refine lv_iconst (v := 1) hx hb dX5_subOf_22 (by decide) ?_
    refine lv_isub hx hb dX5_subOf_23 ?_
    refine lv_iand hx hb dX5_subOf_24 ?_
    exact W.iret (v := (((S.2 0) (Int32.toNatClampNeg p0)) &&& ((1 <<< ((S.1 12) &&& 31)) - 1))) hx hb hr (fun t ht hW => ⟨⟨(((S.2 0) (Int32.toNatClampNeg p0)) &&& ((1 <<< ((S.1 12) &&& 31)) - 1)), S, rfl, h, by rw [ht]; exact hP, va_K.moved hW.alike hK, hD⟩, hS.F ht⟩) hS.2.2 dX5_subOf_25
  · have h := h.2 c1
    refine lv_iconst (v := 0) hx hb dX5_subOf_6 (by decide) ?_
    refine lv_goto (tgt := 25) hx hb dX5_subOf_7 (by decide) ?_
    exact W.iret (v := 0) hx hb hr (fun t ht hW => ⟨⟨0, S, rfl, h, by rw [ht]; exact hP, va_K.moved hW.alike hK, hD⟩, hS.F ht⟩) hS.2.2 dX5_subOf_25
/-! X5_limitBy -/
abbrev rmX5_limitBy : Room := { frames := 0, cells := 0, slots := 0, locals := 0 }
set_option maxHeartbeats 4000000 in
set_option maxRecDepth 100000 in
theorem c_X5_limitBy (l : Launch) (D : va_G) (cI cZ : ClassId) (a : Nat → Nat) (sz : Nat) (S : Ob) (p0 : Int32) (p1 : Int32) (Q : Int32 → Ob → Prop) (h : wp_X5_limitBy S p0 p1 Q) : Met l yX5_limitBy (wsm yX5_limitBy cX5_limitBy 6 (some .int)) rmX5_limitBy (va_Pc [.ref (a 0), .int p0, .int p1] (preW D cI cZ sz (wX5 cI cZ a S))) (va_Qi Q (fun u => atW D cI cZ (va_A (wX5 cI cZ a S) sz) (wX5 cI cZ a u)) (va_A (wX5 cI cZ a S) sz)) 0 0 (va_A (wX5 cI cZ a S) sz) := by
  refine Met.ofW (cc := cX5_limitBy) (maxL := 6) (ret := (some .int)) (by decide) rfl ?_
  intro p e s m args below meth c s₁ B hml hv
  obtain ⟨rfl, hsz, hP, hK, hD0⟩ := hv
  have hx := B.exec
  have hb := B.bytes
  have hr := B.returns
  have hts0 := atoms_spec (ws := wsm yX5_limitBy cX5_limitBy 6 (some .int)) B.pre
  have hts : ∀ w ∈ lw_all, w.before _ s = true := fun w h => hts0 w (List.mem_cons_of_mem _ h)
  have hown : s.vm.findClass RX5 = some m.cls := findClass_of_methodNamed B.named
  have hlocks := B.notSynchronized
  subst hsz
  have hD := hD0.self (sz := s.heap.size)
  generalize hAe : va_A (wX5 cI cZ a S) s.heap.size = A at hD ⊢
  have hA : ∀ q : Nat, s.heap.size ≤ q → A q := fun q h => by rw [← hAe]; exact Or.inr h
  have hS : va_S A s.heap s.heap [] := va_S.rf
  have hml2 := hml
  have L40 : ∀ (n : Nat), ∀ (y1 : Int32) (y3 : Int32) (y4 : Int32) (T : Ob) (H : Heap) (locs : List Loc) (ls : Array Slot), va_P D vwCl (wX5 cI cZ a T) H → va_D A (wX5 cI cZ a T) → va_S A s.heap H locs → lv_has ls 6 [(0, .ref (a 0)), (1, .int y1), (3, .int y3), (4, .int y4)] → wp_X5_limitBy_L40 Q n y1 y3 y4 T → W p l e rmX5_limitBy s m ([.ref (a 0), .int p0, .int p1] : List Value).toArray below meth c H locs 0 0 (MQ below (va_Qi Q (fun u => atW D cI cZ A (wX5 cI cZ a u)) A) ([.ref (a 0), .int p0, .int p1] : List Value).toArray s 0 0 A) (F0 m 40 ls []) := by
    intro n
    induction n with
    | zero =>
      intro y1 y3 y4 T H locs ls hP hD hS hl h
      exact False.elim h
    | succ n ih =>
      intro y1 y3 y4 T H locs ls hP hD hS hl h
      unfold wp_X5_limitBy_L40 at h
      refine lv_iload hx hb dX5_limitBy_40 (lv_at hl 3 rfl) ?_
      refine lv_aload_n hx hb dX5_limitBy_42 rfl (lv_at hl 0 rfl) ?_
      refine va_get (D := D) (ci := 4) (v := .int (T.1 10)) (C := RX5) (T := TX5) (N := 16) hx hb hts inX5 hown hK hP 0 rfl rfl 10 (by decide) (hts _ q_131) (fun _ h9 => h9) rfl dX5_limitBy_43 ?_
      refine lv_icmp_ge (tgt := 84) hx hb dX5_limitBy_46 (by decide) (fun c8 => ?_) (fun c8 => ?_)
      · have h := h.1 c8
        refine lv_iload_n hx hb dX5_limitBy_84 rfl (lv_at hl 2 rfl) ?_
        exact W.iret (v := y3) hx hb hr (fun t ht hW => ⟨⟨y3, T, rfl, h, by rw [ht]; exact hP, va_K.moved hW.alike hK, hD⟩, hS.F ht⟩) hS.2.2 dX5_limitBy_85
      · have h := h.2 c8
        refine lv_aload_n hx hb dX5_limitBy_49 rfl (lv_at hl 0 rfl) ?_
        refine va_get (D := D) (ci := 4) (v := .ref (a 1)) (C := RX5) (T := TX5) (N := 16) hx hb hts inX5 hown hK hP 0 rfl rfl 0 (by decide) (hts _ q_107) (fun _ h9 => h9) rfl dX5_limitBy_50 ?_
        refine lv_aload_n hx hb dX5_limitBy_53 rfl (lv_at hl 0 rfl) ?_
        refine va_get (D := D) (ci := 4) (v := .ref (a 10)) (C := RX5) (T := TX5) (N := 16) hx hb hts inX5 hown hK hP 0 rfl rfl 9 (by decide) (hts _ q_129) (fun _ h9 => h9) rfl dX5_limitBy_54 ?_
        refine lv_iload hx hb dX5_limitBy_57 (lv_at hl 3 rfl) ?_
        refine ar_il (f := (T.2 9)) (n := 21) (j := (Int32.toNatClampNeg y4)) hx hb hK hP 10 rfl rfl h.1 dX5_limitBy_59 ?_
        have h := h.2
        refine ar_il (f := (T.2 0)) (n := 21) (j := (Int32.toNatClampNeg ((T.2 9) (Int32.toNatClampNeg y4)))) hx hb hK hP 1 rfl rfl h.1 dX5_limitBy_60 ?_
        have h := h.2
        refine lv_iload_n hx hb dX5_limitBy_61 rfl (lv_at hl 1 rfl) ?_
        refine lv_ishr hx hb dX5_limitBy_62 ?_
        refine lv_topi (fun x9 ex9 => ?_)
        have h := h x9 ex9
        refine lv_istore (lv' := [(5, .int x9), (0, .ref (a 0)), (1, .int y1), (3, .int y3), (4, .int y4)]) hx hb dX5_limitBy_63 hl (by decide) rfl (fun ls hl => ?_)
        refine lv_iload hx hb dX5_limitBy_65 (lv_at hl 0 rfl) ?_
        refine lv_iload_n hx hb dX5_limitBy_67 rfl (lv_at hl 3 rfl) ?_
        refine lv_icmp_ge (tgt := 76) hx hb dX5_limitBy_68 (by decide) (fun c10 => ?_) (fun c10 => ?_)
        · have h := h.1 c10
          refine lv_iload_n hx hb dX5_limitBy_76 rfl (lv_at hl 3 rfl) ?_
          refine lv_istore_n (lv' := [(3, .int y3), (5, .int x9), (0, .ref (a 0)), (1, .int y1), (4, .int y4)]) hx hb dX5_limitBy_77 rfl hl (by decide) rfl (fun ls hl => ?_)
          obtain ⟨x11, ex11⟩ : ∃ y : Int32, y = (y4 + 1) := ⟨_, rfl⟩
          have h := h x11 ex11
          refine lv_iinc (v := x11) (lv' := [(4, .int x11), (3, .int y3), (5, .int x9), (0, .ref (a 0)), (1, .int y1)]) hx hb dX5_limitBy_78 hl (k := 4) rfl (by rw [ex11]; rfl) (by decide) rfl (fun ls hl => ?_)
          refine lv_goto (tgt := 40) hx hb dX5_limitBy_81 (by decide) ?_
          exact ih y1 y3 x11 T _ _ _ hP hD hS (lv_sub hl [3, 4, 1, 0] rfl) h
        · have h := h.2 c10
          refine lv_iload hx hb dX5_limitBy_71 (lv_at hl 0 rfl) ?_
          refine lv_goto (tgt := 77) hx hb dX5_limitBy_73 (by decide) ?_
          refine lv_istore_n (lv' := [(3, .int x9), (5, .int x9), (0, .ref (a 0)), (1, .int y1), (4, .int y4)]) hx hb dX5_limitBy_77 rfl hl (by decide) rfl (fun ls hl => ?_)
          obtain ⟨x12, ex12⟩ : ∃ y : Int32, y = (y4 + 1) := ⟨_, rfl⟩
          have h := h x12 ex12
          refine lv_iinc (v := x12) (lv' := [(4, .int x12), (3, .int x9), (5, .int x9), (0, .ref (a 0)), (1, .int y1)]) hx hb dX5_limitBy_78 hl (k := 4) rfl (by rw [ex12]; rfl) (by decide) rfl (fun ls hl => ?_)
          refine lv_goto (tgt := 40) hx hb dX5_limitBy_81 (by decide) ?_
          exact ih y1 x9 x12 T _ _ _ hP hD hS (lv_sub hl [3, 4, 1, 0] rfl) h
  have hl := lv_entry ([.ref (a 0), .int p0, .int p1]) (n := 6) (Nat.le_of_ble_eq_true rfl)
  rw [lg_entry_eq]
  generalize (lg_sl ([.ref (a 0), .int p0, .int p1]) ++ List.replicate (6 - (lg_sl ([.ref (a 0), .int p0, .int p1])).length) Slot.unset).toArray = ls at hl ⊢
  have hl : lv_has ls 6 [(0, .ref (a 0)), (1, .int p0), (2, .int p1)] := hl
  unfold wp_X5_limitBy at h
  refine lv_iload_n hx hb dX5_limitBy_0 rfl (lv_at hl 2 rfl) ?_
  refine lv_iconst (v := 1) hx hb dX5_limitBy_1 (by decide) ?_
  refine lv_icmp_ne (tgt := 9) hx hb dX5_limitBy_2 (by decide) (fun c1 => ?_) (fun c1 => ?_)
  · have h := h.1 c1
    refine lv_sipush (v := 256) hx hb dX5_limitBy_9 (by decide) ?_
    refine lv_istore_n (lv' := [(3, .int 256), (0, .ref (a 0)), (1, .int p0), (2, .int p1)]) hx hb dX5_limitBy_12 rfl hl (by decide) rfl (fun ls hl => ?_)
    refine lv_aload_n hx hb dX5_limitBy_13 rfl (lv_at hl 1 rfl) ?_
    refine va_get (D := D) (ci := 4) (v := .int (S.1 13)) (C := RX5) (T := TX5) (N := 16) hx hb hts inX5 hown hK hP 0 rfl rfl 13 (by decide) (hts _ q_139) (fun _ h9 => h9) rfl dX5_limitBy_14 ?_
    refine lv_if_eq (tgt := 37) hx hb dX5_limitBy_17 (by decide) (fun c2 => ?_) (fun c2 => ?_)
    · have h := h.1 c2
      refine lv_iconst (v := 0) hx hb dX5_limitBy_37 (by decide) ?_
      refine lv_istore (lv' := [(4, .int 0), (3, .int 256), (0, .ref (a 0)), (1, .int p0), (2, .int p1)]) hx hb dX5_limitBy_38 hl (by decide) rfl (fun ls hl => ?_)
      exact L40 2000 p0 256 0 S _ _ _ hP hD hS (lv_sub hl [2, 3, 1, 0] rfl) h
    · have h := h.2 c2
      refine lv_aload_n hx hb dX5_limitBy_20 rfl (lv_at hl 1 rfl) ?_
      refine va_get (D := D) (ci := 4) (v := .int (S.1 13)) (C := RX5) (T := TX5) (N := 16) hx hb hts inX5 hown hK hP 0 rfl rfl 13 (by decide) (hts _ q_139) (fun _ h9 => h9) rfl dX5_limitBy_21 ?_
      refine lv_iload_n hx hb dX5_limitBy_24 rfl (lv_at hl 2 rfl) ?_
      refine lv_ishr hx hb dX5_limitBy_25 ?_
      refine lv_iload_n hx hb dX5_limitBy_26 rfl (lv_at hl 0 rfl) ?_
      refine lv_icmp_ge (tgt := 37) hx hb dX5_limitBy_27 (by decide) (fun c3 => ?_) (fun c3 => ?_)
      · have h := h.1 c3
        refine lv_iconst (v := 0) hx hb dX5_limitBy_37 (by decide) ?_
        refine lv_istore (lv' := [(4, .int 0), (3, .int 256), (0, .ref (a 0)), (1, .int p0), (2, .int p1)]) hx hb dX5_limitBy_38 hl (by decide) rfl (fun ls hl => ?_)
        exact L40 2000 p0 256 0 S _ _ _ hP hD hS (lv_sub hl [2, 3, 1, 0] rfl) h
      · have h := h.2 c3
        refine lv_aload_n hx hb dX5_limitBy_30 rfl (lv_at hl 1 rfl) ?_
        refine va_get (D := D) (ci := 4) (v := .int (S.1 13)) (C := RX5) (T := TX5) (N := 16) hx hb hts inX5 hown hK hP 0 rfl rfl 13 (by decide) (hts _ q_139) (fun _ h9 => h9) rfl dX5_limitBy_31 ?_
        refine lv_iload_n hx hb dX5_limitBy_34 rfl (lv_at hl 2 rfl) ?_
        refine lv_ishr hx hb dX5_limitBy_35 ?_
        refine lv_topi (fun x4 ex4 => ?_)
        have h := h x4 ex4
        refine lv_istore_n (lv' := [(3, .int x4), (0, .ref (a 0)), (1, .int p0), (2, .int p1)]) hx hb dX5_limitBy_36 rfl hl (by decide) rfl (fun ls hl => ?_)
        refine lv_iconst (v := 0) hx hb dX5_limitBy_37 (by decide) ?_
        refine lv_istore (lv' := [(4, .int 0), (3, .int x4), (0, .ref (a 0)), (1, .int p0), (2, .int p1)]) hx hb dX5_limitBy_38 hl (by decide) rfl (fun ls hl => ?_)
        exact L40 2000 p0 x4 0 S _ _ _ hP hD hS (lv_sub hl [2, 3, 1, 0] rfl) h
  · have h := h.2 c1
    refine lv_iconst (v := 0) hx hb dX5_limitBy_5 (by decide) ?_
    refine lv_goto (tgt := 12) hx hb dX5_limitBy_6 (by decide) ?_
    refine lv_istore_n (lv' := [(3, .int 0), (0, .ref (a 0)), (1, .int p0), (2, .int p1)]) hx hb dX5_limitBy_12 rfl hl (by decide) rfl (fun ls hl => ?_)
    refine lv_aload_n hx hb dX5_limitBy_13 rfl (lv_at hl 1 rfl) ?_
    refine va_get (D := D) (ci := 4) (v := .int (S.1 13)) (C := RX5) (T := TX5) (N := 16) hx hb hts inX5 hown hK hP 0 rfl rfl 13 (by decide) (hts _ q_139) (fun _ h9 => h9) rfl dX5_limitBy_14 ?_
    refine lv_if_eq (tgt := 37) hx hb dX5_limitBy_17 (by decide) (fun c5 => ?_) (fun c5 => ?_)
    · have h := h.1 c5
      refine lv_iconst (v := 0) hx hb dX5_limitBy_37 (by decide) ?_
      refine lv_istore (lv' := [(4, .int 0), (3, .int 0), (0, .ref (a 0)), (1, .int p0), (2, .int p1)]) hx hb dX5_limitBy_38 hl (by decide) rfl (fun ls hl => ?_)
      exact L40 2000 p0 0 0 S _ _ _ hP hD hS (lv_sub hl [2, 3, 1, 0] rfl) h
    · have h := h.2 c5
      refine lv_aload_n hx hb dX5_limitBy_20 rfl (lv_at hl 1 rfl) ?_
      refine va_get (D := D) (ci := 4) (v := .int (S.1 13)) (C := RX5) (T := TX5) (N := 16) hx hb hts inX5 hown hK hP 0 rfl rfl 13 (by decide) (hts _ q_139) (fun _ h9 => h9) rfl dX5_limitBy_21 ?_
      refine lv_iload_n hx hb dX5_limitBy_24 rfl (lv_at hl 2 rfl) ?_
      refine lv_ishr hx hb dX5_limitBy_25 ?_
      refine lv_iload_n hx hb dX5_limitBy_26 rfl (lv_at hl 0 rfl) ?_
      refine lv_icmp_ge (tgt := 37) hx hb dX5_limitBy_27 (by decide) (fun c6 => ?_) (fun c6 => ?_)
      · have h := h.1 c6
        refine lv_iconst (v := 0) hx hb dX5_limitBy_37 (by decide) ?_
        refine lv_istore (lv' := [(4, .int 0), (3, .int 0), (0, .ref (a 0)), (1, .int p0), (2, .int p1)]) hx hb dX5_limitBy_38 hl (by decide) rfl (fun ls hl => ?_)
        exact L40 2000 p0 0 0 S _ _ _ hP hD hS (lv_sub hl [2, 3, 1, 0] rfl) h
      · have h := h.2 c6
        refine lv_aload_n hx hb dX5_limitBy_30 rfl (lv_at hl 1 rfl) ?_
        refine va_get (D := D) (ci := 4) (v := .int (S.1 13)) (C := RX5) (T := TX5) (N := 16) hx hb hts inX5 hown hK hP 0 rfl rfl 13 (by decide) (hts _ q_139) (fun _ h9 => h9) rfl dX5_limitBy_31 ?_
        refine lv_iload_n hx hb dX5_limitBy_34 rfl (lv_at hl 2 rfl) ?_
        refine lv_ishr hx hb dX5_limitBy_35 ?_
        refine lv_topi (fun x7 ex7 => ?_)
        have h := h x7 ex7
        refine lv_istore_n (lv' := [(3, .int x7), (0, .ref (a 0)), (1, .int p0), (2, .int p1)]) hx hb dX5_limitBy_36 rfl hl (by decide) rfl (fun ls hl => ?_)
        refine lv_iconst (v := 0) hx hb dX5_limitBy_37 (by decide) ?_
        refine lv_istore (lv' := [(4, .int 0), (3, .int x7), (0, .ref (a 0)), (1, .int p0), (2, .int p1)]) hx hb dX5_limitBy_38 hl (by decide) rfl (fun ls hl => ?_)
        exact L40 2000 p0 x7 0 S _ _ _ hP hD hS (lv_sub hl [2, 3, 1, 0] rfl) h
/-! X5_limit -/
abbrev rmX5_limit : Room := { frames := 1, cells := 0, slots := 0, locals := 25 }
set_option maxHeartbeats 4000000 in
set_option maxRecDepth 100000 in
theorem c_X5_limit (l : Launch) (D : va_G) (cI cZ : ClassId) (a : Nat → Nat) (sz : Nat) (S : Ob) (Q : Int32 → Ob → Prop) (h : wp_X5_limit S Q) : Met l yX5_limit (wsm yX5_limit cX5_limit 1 (some .int)) rmX5_limit (va_Pc [.ref (a 0)] (preW D cI cZ sz (wX5 cI cZ a S))) (va_Qi Q (fun u => atW D cI cZ (va_A (wX5 cI cZ a S) sz) (wX5 cI cZ a u)) (va_A (wX5 cI cZ a S) sz)) 0 0 (va_A (wX5 cI cZ a S) sz) := by
  refine Met.ofW (cc := cX5_limit) (maxL := 1) (ret := (some .int)) (by decide) rfl ?_
  intro p e s m args below meth c s₁ B hml hv
  obtain ⟨rfl, hsz, hP, hK, hD0⟩ := hv
  have hx := B.exec
  have hb := B.bytes
  have hr := B.returns
  have hts0 := atoms_spec (ws := wsm yX5_limit cX5_limit 1 (some .int)) B.pre
  have hts : ∀ w ∈ lw_all, w.before _ s = true := fun w h => hts0 w (List.mem_cons_of_mem _ h)
  have hown : s.vm.findClass RX5 = some m.cls := findClass_of_methodNamed B.named
  have hlocks := B.notSynchronized
  subst hsz
  have hD := hD0.self (sz := s.heap.size)
  generalize hAe : va_A (wX5 cI cZ a S) s.heap.size = A at hD ⊢
  have hA : ∀ q : Nat, s.heap.size ≤ q → A q := fun q h => by rw [← hAe]; exact Or.inr h
  have hS : va_S A s.heap s.heap [] := va_S.rf
  have hml2 := hml
  have hl := lv_entry ([.ref (a 0)]) (n := 1) (Nat.le_of_ble_eq_true rfl)
  rw [lg_entry_eq]
  generalize (lg_sl ([.ref (a 0)]) ++ List.replicate (1 - (lg_sl ([.ref (a 0)])).length) Slot.unset).toArray = ls at hl ⊢
  have hl : lv_has ls 1 [(0, .ref (a 0))] := hl
  unfold wp_X5_limit at h
  refine lv_aload_n hx hb dX5_limit_0 rfl (lv_at hl 0 rfl) ?_
  refine lv_aload_n hx hb dX5_limit_1 rfl (lv_at hl 0 rfl) ?_
  refine va_get (D := D) (ci := 4) (v := .int (S.1 12)) (C := RX5) (T := TX5) (N := 16) hx hb hts inX5 hown hK hP 0 rfl rfl 12 (by decide) (hts _ q_136) (fun _ h9 => h9) rfl dX5_limit_2 ?_
  refine lv_aload_n hx hb dX5_limit_5 rfl (lv_at hl 0 rfl) ?_
  refine va_get (D := D) (ci := 4) (v := .int (S.1 14)) (C := RX5) (T := TX5) (N := 16) hx hb hts inX5 hown hK hP 0 rfl rfl 14 (by decide) (hts _ q_142) (fun _ h9 => h9) rfl dX5_limit_6 ?_
  refine cl_i (ws' := fun u1 => (wX5 cI cZ a u1)) (va_runV (As := [.int (S.1 12), .int (S.1 14)]) (rest := []) ⟨hx, hb, hml, hown, hts⟩ (c_X5_limitBy l D cI cZ a _ S (S.1 12) (S.1 14) _ h ) (cwV 2 hts (gV q_531 q_532 q_533 q_69 q_534) rfl rfl rfl (by decide +kernel) ⟨Nat.le_of_ble_eq_true rfl, Nat.le_of_ble_eq_true rfl⟩) (preV_of (ci := 4) (q := (RX5, TX5, 16)) hK hP hD [0, 1, 2, 3, 4, 5, 6, 7, 8, 9, 10] rfl rfl (by decide) 0 rfl rfl) rfl rfl hl.1 rfl (lv_room (Nat.le_of_ble_eq_true rfl)) dX5_limit_9 ⟨Nat.zero_le _, Nat.zero_le _⟩) hP hD hS hA [0, 1, 2, 3, 4, 5, 6, 7, 8, 9, 10] [.inl 0, .inl 1, .inl 2, .inl 3, .inl 4, .inl 5, .inl 6, .inl 7, .inl 8, .inl 9, .inl 10] rfl (by decide) (fun _ => rfl) (fun _ => rfl) (fun r2 u1 H locs h hP hD hS => ?_)
  exact W.iret (v := r2) hx hb hr (fun t ht hW => ⟨⟨r2, u1, rfl, h, by rw [ht]; exact hP, va_K.moved hW.alike hK, hD⟩, hS.F ht⟩) hS.2.2 dX5_limit_12
/-! X5_can -/
abbrev rmX5_can : Room := { frames := 1, cells := 0, slots := 0, locals := 25 }
set_option maxHeartbeats 4000000 in
set_option maxRecDepth 100000 in
theorem c_X5_can (l : Launch) (D : va_G) (cI cZ : ClassId) (a : Nat → Nat) (sz : Nat) (S : Ob) (p0 : Int32) (Q : Int32 → Ob → Prop) (h : wp_X5_can S p0 Q) : Met l yX5_can (wsm yX5_can cX5_can 2 (some .boolean)) rmX5_can (va_Pc [.ref (a 0), .int p0] (preW D cI cZ sz (wX5 cI cZ a S))) (va_Qi Q (fun u => atW D cI cZ (va_A (wX5 cI cZ a S) sz) (wX5 cI cZ a u)) (va_A (wX5 cI cZ a S) sz)) 0 0 (va_A (wX5 cI cZ a S) sz) := by
  refine Met.ofW (cc := cX5_can) (maxL := 2) (ret := (some .boolean)) (by decide) rfl ?_
  intro p e s m args below meth c s₁ B hml hv
  obtain ⟨rfl, hsz, hP, hK, hD0⟩ := hv
  have hx := B.exec
  have hb := B.bytes
  have hr := B.returns
  have hts0 := atoms_spec (ws := wsm yX5_can cX5_can 2 (some .boolean)) B.pre
  have hts : ∀ w ∈ lw_all, w.before _ s = true := fun w h => hts0 w (List.mem_cons_of_mem _ h)
  have hown : s.vm.findClass RX5 = some m.cls := findClass_of_methodNamed B.named
  have hlocks := B.notSynchronized
  subst hsz
  have hD := hD0.self (sz := s.heap.size)
  generalize hAe : va_A (wX5 cI cZ a S) s.heap.size = A at hD ⊢
  have hA : ∀ q : Nat, s.heap.size ≤ q → A q := fun q h => by rw [← hAe]; exact Or.inr h
  have hS : va_S A s.heap s.heap [] := va_S.rf
  have hml2 := hml
  have hl := lv_entry ([.ref (a 0), .int p0]) (n := 2) (Nat.le_of_ble_eq_true rfl)
  rw [lg_entry_eq]
  generalize (lg_sl ([.ref (a 0), .int p0]) ++ List.replicate (2 - (lg_sl ([.ref (a 0), .int p0])).length) Slot.unset).toArray = ls at hl ⊢
  have hl : lv_has ls 2 [(0, .ref (a 0)), (1, .int p0)] := hl
  unfold wp_X5_can at h
  refine lv_aload_n hx hb dX5_can_0 rfl (lv_at hl 0 rfl) ?_
  refine va_get (D := D) (ci := 4) (v := .ref (a 4)) (C := RX5) (T := TX5) (N := 16) hx hb hts inX5 hown hK hP 0 rfl rfl 3 (by decide) (hts _ q_117) (fun _ h9 => h9) rfl dX5_can_1 ?_
  refine lv_iload_n hx hb dX5_can_4 rfl (lv_at hl 1 rfl) ?_
  refine ar_zl (f := (S.2 3)) (n := 21) (j := (Int32.toNatClampNeg p0)) hx hb hK hP 4 rfl rfl h.1 dX5_can_5 ?_
  have h := h.2
  refine lv_if_eq (tgt := 48) hx hb dX5_can_6 (by decide) (fun c1 => ?_) (fun c1 => ?_)
  · have h := h.1 c1
    refine lv_iconst (v := 0) hx hb dX5_can_48 (by decide) ?_
    exact W.zret (ty := .boolean) (v := 0) hx hb hr (narB isB0) (fun t ht hW => ⟨⟨0, S, rfl, h, by rw [ht]; exact hP, va_K.moved hW.alike hK, hD⟩, hS.F ht⟩) hS.2.2 dX5_can_49
  · have h := h.2 c1
    refine lv_aload_n hx hb dX5_can_9 rfl (lv_at hl 0 rfl) ?_
    refine va_get (D := D) (ci := 4) (v := .ref (a 3)) (C := RX5) (T := TX5) (N := 16) hx hb hts inX5 hown hK hP 0 rfl rfl 2 (by decide) (hts _ q_114) (fun _ h9 => h9) rfl dX5_can_10 ?_
    refine lv_iload_n hx hb dX5_can_13 rfl (lv_at hl 1 rfl) ?_
    refine ar_zl (f := (S.2 2)) (n := 21) (j := (Int32.toNatClampNeg p0)) hx hb hK hP 3 rfl rfl h.1 dX5_can_14 ?_
    have h := h.2
    refine lv_if_eq (tgt := 48) hx hb dX5_can_15 (by decide) (fun c2 => ?_) (fun c2 => ?_)
    · have h := h.1 c2
      refine lv_iconst (v := 0) hx hb dX5_can_48 (by decide) ?_
      exact W.zret (ty := .boolean) (v := 0) hx hb hr (narB isB0) (fun t ht hW => ⟨⟨0, S, rfl, h, by rw [ht]; exact hP, va_K.moved hW.alike hK, hD⟩, hS.F ht⟩) hS.2.2 dX5_can_49
    · have h := h.2 c2
      refine lv_aload_n hx hb dX5_can_18 rfl (lv_at hl 0 rfl) ?_
      refine va_get (D := D) (ci := 4) (v := .ref (a 1)) (C := RX5) (T := TX5) (N := 16) hx hb hts inX5 hown hK hP 0 rfl rfl 0 (by decide) (hts _ q_107) (fun _ h9 => h9) rfl dX5_can_19 ?_
      refine lv_iload_n hx hb dX5_can_22 rfl (lv_at hl 1 rfl) ?_
      refine ar_il (f := (S.2 0)) (n := 21) (j := (Int32.toNatClampNeg p0)) hx hb hK hP 1 rfl rfl h.1 dX5_can_23 ?_
      have h := h.2
      refine lv_aload_n hx hb dX5_can_24 rfl (lv_at hl 0 rfl) ?_
      refine va_get (D := D) (ci := 4) (v := .int (S.1 12)) (C := RX5) (T := TX5) (N := 16) hx hb hts inX5 hown hK hP 0 rfl rfl 12 (by decide) (hts _ q_136) (fun _ h9 => h9) rfl dX5_can_25 ?_
      refine lv_ishr hx hb dX5_can_28 ?_
      refine lv_aload_n hx hb dX5_can_29 rfl (lv_at hl 0 rfl) ?_
      refine lv_aload_n hx hb dX5_can_30 rfl (lv_at hl 0 rfl) ?_
      refine va_get (D := D) (ci := 4) (v := .int (S.1 12)) (C := RX5) (T := TX5) (N := 16) hx hb hts inX5 hown hK hP 0 rfl rfl 12 (by decide) (hts _ q_136) (fun _ h9 => h9) rfl dX5_can_31 ?_
      refine lv_aload_n hx hb dX5_can_34 rfl (lv_at hl 0 rfl) ?_
      refine va_get (D := D) (ci := 4) (v := .int (S.1 14)) (C := RX5) (T := TX5) (N := 16) hx hb hts inX5 hown hK hP 0 rfl rfl 14 (by decide) (hts _ q_142) (fun _ h9 => h9) rfl dX5_can_35 ?_
      refine cl_i (ws' := fun u3 => (wX5 cI cZ a u3)) (va_runV (As := [.int (S.1 12), .int (S.1 14)]) (rest := [.int (((S.2 0) (Int32.toNatClampNeg p0)) >>> ((S.1 12) &&& 31))]) ⟨hx, hb, hml, hown, hts⟩ (c_X5_limitBy l D cI cZ a _ S (S.1 12) (S.1 14) _ h ) (cwV 2 hts (gV q_531 q_532 q_533 q_69 q_534) rfl rfl rfl (by decide +kernel) ⟨Nat.le_of_ble_eq_true rfl, Nat.le_of_ble_eq_true rfl⟩) (preV_of (ci := 4) (q := (RX5, TX5, 16)) hK hP hD [0, 1, 2, 3, 4, 5, 6, 7, 8, 9, 10] rfl rfl (by decide) 0 rfl rfl) rfl rfl hl.1 rfl (lv_room (Nat.le_of_ble_eq_true rfl)) dX5_can_38 ⟨Nat.zero_le _, Nat.zero_le _⟩) hP hD hS hA [0, 1, 2, 3, 4, 5, 6, 7, 8, 9, 10] [.inl 0, .inl 1, .inl 2, .inl 3, .inl 4, .inl 5, .inl 6, .inl 7, .inl 8, .inl 9, .inl 10] rfl (by decide) (fun _ => rfl) (fun _ => rfl) (fun r4 u3 H locs h hP hD hS => ?_)
      refine lv_icmp_ge (tgt := 48) hx hb dX5_can_41 (by decide) (fun c5 => ?_) (fun c5 => ?_)
      · have h := h.1 c5
        refine lv_iconst (v := 0) hx hb dX5_can_48 (by decide) ?_
        exact W.zret (ty := .boolean) (v := 0) hx hb hr (narB isB0) (fun t ht hW => ⟨⟨0, u3, rfl, h, by rw [ht]; exact hP, va_K.moved hW.alike hK, hD⟩, hS.F ht⟩) hS.2.2 dX5_can_49
      · have h := h.2 c5
        refine lv_iconst (v := 1) hx hb dX5_can_44 (by decide) ?_
        refine lv_goto (tgt := 49) hx hb dX5_can_45 (by decide) ?_
        exact W.zret (ty := .boolean) (v := 1) hx hb hr (narB isB1) (fun t ht hW => ⟨⟨1, u3, rfl, h, by rw [ht]; exact hP, va_K.moved hW.alike hK, hD⟩, hS.F ht⟩) hS.2.2 dX5_can_49
/-! X5_precedes -/
abbrev rmX5_precedes : Room := { frames := 0, cells := 0, slots := 0, locals := 0 }
set_option maxHeartbeats 4000000 in
set_option maxRecDepth 100000 in
theorem c_X5_precedes (l : Launch) (D : va_G) (cI cZ : ClassId) (a : Nat → Nat) (sz : Nat) (S : Ob) (p0 : Int32) (p1 : Int32) (Q : Int32 → Ob → Prop) (h : wp_X5_precedes S p0 p1 Q) : Met l yX5_precedes (wsm yX5_precedes cX5_precedes 3 (some .boolean)) rmX5_precedes (va_Pc [.ref (a 0), .int p0, .int p1] (preW D cI cZ sz (wX5 cI cZ a S))) (va_Qi Q (fun u => atW D cI cZ (va_A (wX5 cI cZ a S) sz) (wX5 cI cZ a u)) (va_A (wX5 cI cZ a S) sz)) 0 0 (va_A (wX5 cI cZ a S) sz) := by
  refine Met.ofW (cc := cX5_precedes) (maxL := 3) (ret := (some .boolean)) (by decide) rfl ?_
  intro p e s m args below meth c s₁ B hml hv
  obtain ⟨rfl, hsz, hP, hK, hD0⟩ := hv
  have hx := B.exec
  have hb := B.bytes
  have hr := B.returns
  have hts0 := atoms_spec (ws := wsm yX5_precedes cX5_precedes 3 (some .boolean)) B.pre
  have hts : ∀ w ∈ lw_all, w.before _ s = true := fun w h => hts0 w (List.mem_cons_of_mem _ h)
  have hown : s.vm.findClass RX5 = some m.cls := findClass_of_methodNamed B.named
  have hlocks := B.notSynchronized
  subst hsz
  have hD := hD0.self (sz := s.heap.size)
  generalize hAe : va_A (wX5 cI cZ a S) s.heap.size = A at hD ⊢
  have hA : ∀ q : Nat, s.heap.size ≤ q → A q := fun q h => by rw [← hAe]; exact Or.inr h
  have hS : va_S A s.heap s.heap [] := va_S.rf
  have hml2 := hml
  have hl := lv_entry ([.ref (a 0), .int p0, .int p1]) (n := 3) (Nat.le_of_ble_eq_true rfl)
  rw [lg_entry_eq]
  generalize (lg_sl ([.ref (a 0), .int p0, .int p1]) ++ List.replicate (3 - (lg_sl ([.ref (a 0), .int p0, .int p1])).length) Slot.unset).toArray = ls at hl ⊢
  have hl : lv_has ls 3 [(0, .ref (a 0)), (1, .int p0), (2, .int p1)] := hl
  unfold wp_X5_precedes at h
  refine lv_aload_n hx hb dX5_precedes_0 rfl (lv_at hl 0 rfl) ?_
  refine va_get (D := D) (ci := 4) (v := .ref (a 1)) (C := RX5) (T := TX5) (N := 16) hx hb hts inX5 hown hK hP 0 rfl rfl 0 (by decide) (hts _ q_107) (fun _ h9 => h9) rfl dX5_precedes_1 ?_
  refine lv_iload_n hx hb dX5_precedes_4 rfl (lv_at hl 1 rfl) ?_
  refine ar_il (f := (S.2 0)) (n := 21) (j := (Int32.toNatClampNeg p0)) hx hb hK hP 1 rfl rfl h.1 dX5_precedes_5 ?_
  have h := h.2
  refine lv_aload_n hx hb dX5_precedes_6 rfl (lv_at hl 0 rfl) ?_
  refine va_get (D := D) (ci := 4) (v := .ref (a 1)) (C := RX5) (T := TX5) (N := 16) hx hb hts inX5 hown hK hP 0 rfl rfl 0 (by decide) (hts _ q_107) (fun _ h9 => h9) rfl dX5_precedes_7 ?_
  refine lv_iload_n hx hb dX5_precedes_10 rfl (lv_at hl 2 rfl) ?_
  refine ar_il (f := (S.2 0)) (n := 21) (j := (Int32.toNatClampNeg p1)) hx hb hK hP 1 rfl rfl h.1 dX5_precedes_11 ?_
  have h := h.2
  refine lv_icmp_eq (tgt := 38) hx hb dX5_precedes_12 (by decide) (fun c1 => ?_) (fun c1 => ?_)
  · have h := h.1 c1
    refine lv_iload_n hx hb dX5_precedes_38 rfl (lv_at hl 1 rfl) ?_
    refine lv_iload_n hx hb dX5_precedes_39 rfl (lv_at hl 2 rfl) ?_
    refine lv_icmp_ge (tgt := 47) hx hb dX5_precedes_40 (by decide) (fun c2 => ?_) (fun c2 => ?_)
    · have h := h.1 c2
      refine lv_iconst (v := 0) hx hb dX5_precedes_47 (by decide) ?_
      exact W.zret (ty := .boolean) (v := 0) hx hb hr (narB isB0) (fun t ht hW => ⟨⟨0, S, rfl, h, by rw [ht]; exact hP, va_K.moved hW.alike hK, hD⟩, hS.F ht⟩) hS.2.2 dX5_precedes_48
    · have h := h.2 c2
      refine lv_iconst (v := 1) hx hb dX5_precedes_43 (by decide) ?_
      refine lv_goto (tgt := 48) hx hb dX5_precedes_44 (by decide) ?_
      exact W.zret (ty := .boolean) (v := 1) hx hb hr (narB isB1) (fun t ht hW => ⟨⟨1, S, rfl, h, by rw [ht]; exact hP, va_K.moved hW.alike hK, hD⟩, hS.F ht⟩) hS.2.2 dX5_precedes_48
  · have h := h.2 c1
    refine lv_aload_n hx hb dX5_precedes_15 rfl (lv_at hl 0 rfl) ?_
    refine va_get (D := D) (ci := 4) (v := .ref (a 1)) (C := RX5) (T := TX5) (N := 16) hx hb hts inX5 hown hK hP 0 rfl rfl 0 (by decide) (hts _ q_107) (fun _ h9 => h9) rfl dX5_precedes_16 ?_
    refine lv_iload_n hx hb dX5_precedes_19 rfl (lv_at hl 1 rfl) ?_
    refine ar_il (f := (S.2 0)) (n := 21) (j := (Int32.toNatClampNeg p0)) hx hb hK hP 1 rfl rfl h.1 dX5_precedes_20 ?_
    have h := h.2
    refine lv_aload_n hx hb dX5_precedes_21 rfl (lv_at hl 0 rfl) ?_
    refine va_get (D := D) (ci := 4) (v := .ref (a 1)) (C := RX5) (T := TX5) (N := 16) hx hb hts inX5 hown hK hP 0 rfl rfl 0 (by decide) (hts _ q_107) (fun _ h9 => h9) rfl dX5_precedes_22 ?_
    refine lv_iload_n hx hb dX5_precedes_25 rfl (lv_at hl 2 rfl) ?_
    refine ar_il (f := (S.2 0)) (n := 21) (j := (Int32.toNatClampNeg p1)) hx hb hK hP 1 rfl rfl h.1 dX5_precedes_26 ?_
    have h := h.2
    refine lv_icmp_ge (tgt := 34) hx hb dX5_precedes_27 (by decide) (fun c3 => ?_) (fun c3 => ?_)
    · have h := h.1 c3
      refine lv_iconst (v := 0) hx hb dX5_precedes_34 (by decide) ?_
      refine lv_goto (tgt := 48) hx hb dX5_precedes_35 (by decide) ?_
      exact W.zret (ty := .boolean) (v := 0) hx hb hr (narB isB0) (fun t ht hW => ⟨⟨0, S, rfl, h, by rw [ht]; exact hP, va_K.moved hW.alike hK, hD⟩, hS.F ht⟩) hS.2.2 dX5_precedes_48
    · have h := h.2 c3
      refine lv_iconst (v := 1) hx hb dX5_precedes_30 (by decide) ?_
      refine lv_goto (tgt := 48) hx hb dX5_precedes_31 (by decide) ?_
      exact W.zret (ty := .boolean) (v := 1) hx hb hr (narB isB1) (fun t ht hW => ⟨⟨1, S, rfl, h, by rw [ht]; exact hP, va_K.moved hW.alike hK, hD⟩, hS.F ht⟩) hS.2.2 dX5_precedes_48
/-! X5_nextBy -/
abbrev rmX5_nextBy : Room := { frames := 1, cells := 0, slots := 0, locals := 25 }
set_option maxHeartbeats 4000000 in
set_option maxRecDepth 100000 in
theorem c_X5_nextBy (l : Launch) (D : va_G) (cI cZ : ClassId) (a : Nat → Nat) (sz : Nat) (S : Ob) (p0 : Int32) (Q : Int32 → Ob → Prop) (h : wp_X5_nextBy S p0 Q) : Met l yX5_nextBy (wsm yX5_nextBy cX5_nextBy 5 (some .int)) rmX5_nextBy (va_Pc [.ref (a 0), .int p0] (preW D cI cZ sz (wX5 cI cZ a S))) (va_Qi Q (fun u => atW D cI cZ (va_A (wX5 cI cZ a S) sz) (wX5 cI cZ a u)) (va_A (wX5 cI cZ a S) sz)) 0 0 (va_A (wX5 cI cZ a S) sz) := by
  refine Met.ofW (cc := cX5_nextBy) (maxL := 5) (ret := (some .int)) (by decide) rfl ?_
  intro p e s m args below meth c s₁ B hml hv
  obtain ⟨rfl, hsz, hP, hK, hD0⟩ := hv
  have hx := B.exec
  have hb := B.bytes
  have hr := B.returns
  have hts0 := atoms_spec (ws := wsm yX5_nextBy cX5_nextBy 5 (some .int)) B.pre
  have hts : ∀ w ∈ lw_all, w.before _ s = true := fun w h => hts0 w (List.mem_cons_of_mem _ h)
  have hown : s.vm.findClass RX5 = some m.cls := findClass_of_methodNamed B.named
  have hlocks := B.notSynchronized
  subst hsz
  have hD := hD0.self (sz := s.heap.size)
  generalize hAe : va_A (wX5 cI cZ a S) s.heap.size = A at hD ⊢
  have hA : ∀ q : Nat, s.heap.size ≤ q → A q := fun q h => by rw [← hAe]; exact Or.inr h
  have hS : va_S A s.heap s.heap [] := va_S.rf
  have hml2 := hml
  have L15 : ∀ (n : Nat), ∀ (y2 : Int32) (y3 : Int32) (y4 : Int32) (T : Ob) (H : Heap) (locs : List Loc) (ls : Array Slot), va_P D vwCl (wX5 cI cZ a T) H → va_D A (wX5 cI cZ a T) → va_S A s.heap H locs → lv_has ls 5 [(0, .ref (a 0)), (2, .int y2), (3, .int y3), (4, .int y4)] → wp_X5_nextBy_L15 Q n y2 y3 y4 T → W p l e rmX5_nextBy s m ([.ref (a 0), .int p0] : List Value).toArray below meth c H locs 0 0 (MQ below (va_Qi Q (fun u => atW D cI cZ A (wX5 cI cZ a u)) A) ([.ref (a 0), .int p0] : List Value).toArray s 0 0 A) (F0 m 15 ls []) := by
    intro n
    induction n with
    | zero =>
      intro y2 y3 y4 T H locs ls hP hD hS hl h
      exact False.elim h
    | succ n ih =>
      intro y2 y3 y4 T H locs ls hP hD hS hl h
      unfold wp_X5_nextBy_L15 at h
      refine lv_iload hx hb dX5_nextBy_15 (lv_at hl 3 rfl) ?_
      refine lv_bipush (v := 21) hx hb dX5_nextBy_17 (by decide) ?_
      refine lv_icmp_ge (tgt := 82) hx hb dX5_nextBy_19 (by decide) (fun c3 => ?_) (fun c3 => ?_)
      · have h := h.1 c3
        refine lv_iload_n hx hb dX5_nextBy_82 rfl (lv_at hl 2 rfl) ?_
        exact W.iret (v := y3) hx hb hr (fun t ht hW => ⟨⟨y3, T, rfl, h, by rw [ht]; exact hP, va_K.moved hW.alike hK, hD⟩, hS.F ht⟩) hS.2.2 dX5_nextBy_83
      · have h := h.2 c3
        refine lv_aload_n hx hb dX5_nextBy_22 rfl (lv_at hl 0 rfl) ?_
        refine va_get (D := D) (ci := 4) (v := .ref (a 4)) (C := RX5) (T := TX5) (N := 16) hx hb hts inX5 hown hK hP 0 rfl rfl 3 (by decide) (hts _ q_117) (fun _ h9 => h9) rfl dX5_nextBy_23 ?_
        refine lv_iload hx hb dX5_nextBy_26 (lv_at hl 3 rfl) ?_
        refine ar_zl (f := (T.2 3)) (n := 21) (j := (Int32.toNatClampNeg y4)) hx hb hK hP 4 rfl rfl h.1 dX5_nextBy_28 ?_
        have h := h.2
        refine lv_if_eq (tgt := 76) hx hb dX5_nextBy_29 (by decide) (fun c4 => ?_) (fun c4 => ?_)
        · have h := h.1 c4
          obtain ⟨x5, ex5⟩ : ∃ y : Int32, y = (y4 + 1) := ⟨_, rfl⟩
          have h := h x5 ex5
          refine lv_iinc (v := x5) (lv' := [(4, .int x5), (0, .ref (a 0)), (2, .int y2), (3, .int y3)]) hx hb dX5_nextBy_76 hl (k := 3) rfl (by rw [ex5]; rfl) (by decide) rfl (fun ls hl => ?_)
          refine lv_goto (tgt := 15) hx hb dX5_nextBy_79 (by decide) ?_
          exact ih y2 y3 x5 T _ _ _ hP hD hS (lv_sub hl [1, 2, 3, 0] rfl) h
        · have h := h.2 c4
          refine lv_aload_n hx hb dX5_nextBy_32 rfl (lv_at hl 0 rfl) ?_
          refine va_get (D := D) (ci := 4) (v := .ref (a 3)) (C := RX5) (T := TX5) (N := 16) hx hb hts inX5 hown hK hP 0 rfl rfl 2 (by decide) (hts _ q_114) (fun _ h9 => h9) rfl dX5_nextBy_33 ?_
          refine lv_iload hx hb dX5_nextBy_36 (lv_at hl 3 rfl) ?_
          refine ar_zl (f := (T.2 2)) (n := 21) (j := (Int32.toNatClampNeg y4)) hx hb hK hP 3 rfl rfl h.1 dX5_nextBy_38 ?_
          have h := h.2
          refine lv_if_eq (tgt := 76) hx hb dX5_nextBy_39 (by decide) (fun c6 => ?_) (fun c6 => ?_)
          · have h := h.1 c6
            obtain ⟨x7, ex7⟩ : ∃ y : Int32, y = (y4 + 1) := ⟨_, rfl⟩
            have h := h x7 ex7
            refine lv_iinc (v := x7) (lv' := [(4, .int x7), (0, .ref (a 0)), (2, .int y2), (3, .int y3)]) hx hb dX5_nextBy_76 hl (k := 3) rfl (by rw [ex7]; rfl) (by decide) rfl (fun ls hl => ?_)
            refine lv_goto (tgt := 15) hx hb dX5_nextBy_79 (by decide) ?_
            exact ih y2 y3 x7 T _ _ _ hP hD hS (lv_sub hl [1, 2, 3, 0] rfl) h
          · have h := h.2 c6
            refine lv_aload_n hx hb dX5_nextBy_42 rfl (lv_at hl 0 rfl) ?_
            refine va_get (D := D) (ci := 4) (v := .ref (a 1)) (C := RX5) (T := TX5) (N := 16) hx hb hts inX5 hown hK hP 0 rfl rfl 0 (by decide) (hts _ q_107) (fun _ h9 => h9) rfl dX5_nextBy_43 ?_
            refine lv_iload hx hb dX5_nextBy_46 (lv_at hl 3 rfl) ?_
            refine ar_il (f := (T.2 0)) (n := 21) (j := (Int32.toNatClampNeg y4)) hx hb hK hP 1 rfl rfl h.1 dX5_nextBy_48 ?_
            have h := h.2
            refine lv_aload_n hx hb dX5_nextBy_49 rfl (lv_at hl 0 rfl) ?_
            refine va_get (D := D) (ci := 4) (v := .int (T.1 12)) (C := RX5) (T := TX5) (N := 16) hx hb hts inX5 hown hK hP 0 rfl rfl 12 (by decide) (hts _ q_136) (fun _ h9 => h9) rfl dX5_nextBy_50 ?_
            refine lv_ishr hx hb dX5_nextBy_53 ?_
            refine lv_iload_n hx hb dX5_nextBy_54 rfl (lv_at hl 1 rfl) ?_
            refine lv_icmp_ge (tgt := 76) hx hb dX5_nextBy_55 (by decide) (fun c8 => ?_) (fun c8 => ?_)
            · have h := h.1 c8
              obtain ⟨x9, ex9⟩ : ∃ y : Int32, y = (y4 + 1) := ⟨_, rfl⟩
              have h := h x9 ex9
              refine lv_iinc (v := x9) (lv' := [(4, .int x9), (0, .ref (a 0)), (2, .int y2), (3, .int y3)]) hx hb dX5_nextBy_76 hl (k := 3) rfl (by rw [ex9]; rfl) (by decide) rfl (fun ls hl => ?_)
              refine lv_goto (tgt := 15) hx hb dX5_nextBy_79 (by decide) ?_
              exact ih y2 y3 x9 T _ _ _ hP hD hS (lv_sub hl [1, 2, 3, 0] rfl) h
            · have h := h.2 c8
              refine lv_iload_n hx hb dX5_nextBy_58 rfl (lv_at hl 2 rfl) ?_
              refine lv_iconst (v := -1) hx hb dX5_nextBy_59 (by decide) ?_
              refine lv_icmp_eq (tgt := 73) hx hb dX5_nextBy_60 (by decide) (fun c10 => ?_) (fun c10 => ?_)
              · have h := h.1 c10
                refine lv_iload hx hb dX5_nextBy_73 (lv_at hl 3 rfl) ?_
                refine lv_istore_n (lv' := [(3, .int y4), (0, .ref (a 0)), (2, .int y2), (4, .int y4)]) hx hb dX5_nextBy_75 rfl hl (by decide) rfl (fun ls hl => ?_)
                obtain ⟨x11, ex11⟩ : ∃ y : Int32, y = (y4 + 1) := ⟨_, rfl⟩
                have h := h x11 ex11
                refine lv_iinc (v := x11) (lv' := [(4, .int x11), (3, .int y4), (0, .ref (a 0)), (2, .int y2)]) hx hb dX5_nextBy_76 hl (k := 3) rfl (by rw [ex11]; rfl) (by decide) rfl (fun ls hl => ?_)
                refine lv_goto (tgt := 15) hx hb dX5_nextBy_79 (by decide) ?_
                exact ih y2 y4 x11 T _ _ _ hP hD hS (lv_sub hl [2, 3, 1, 0] rfl) h
              · have h := h.2 c10
                refine lv_aload_n hx hb dX5_nextBy_63 rfl (lv_at hl 0 rfl) ?_
                refine lv_iload hx hb dX5_nextBy_64 (lv_at hl 3 rfl) ?_
                refine lv_iload_n hx hb dX5_nextBy_66 rfl (lv_at hl 2 rfl) ?_
                refine cl_i (ws' := fun u12 => (wX5 cI cZ a u12)) (va_runV (As := [.int y4, .int y3]) (rest := []) ⟨hx, hb, hml, hown, hts⟩ (c_X5_precedes l D cI cZ a _ T y4 y3 _ h ) (cwV 2 hts (gV q_535 q_536 q_537 q_69 q_538) rfl rfl rfl (by decide +kernel) ⟨Nat.le_of_ble_eq_true rfl, Nat.le_of_ble_eq_true rfl⟩) (preV_of (ci := 4) (q := (RX5, TX5, 16)) hK hP hD [0, 1, 2, 3, 4, 5, 6, 7, 8, 9, 10] rfl rfl (by decide) 0 rfl rfl) rfl rfl hl.1 rfl (lv_room (Nat.le_of_ble_eq_true rfl)) dX5_nextBy_67 ⟨Nat.zero_le _, Nat.zero_le _⟩) hP hD hS hA [0, 1, 2, 3, 4, 5, 6, 7, 8, 9, 10] [.inl 0, .inl 1, .inl 2, .inl 3, .inl 4, .inl 5, .inl 6, .inl 7, .inl 8, .inl 9, .inl 10] rfl (by decide) (fun _ => rfl) (fun _ => rfl) (fun r13 u12 H locs h hP hD hS => ?_)
                refine lv_if_eq (tgt := 76) hx hb dX5_nextBy_70 (by decide) (fun c14 => ?_) (fun c14 => ?_)
                · have h := h.1 c14
                  obtain ⟨x15, ex15⟩ : ∃ y : Int32, y = (y4 + 1) := ⟨_, rfl⟩
                  have h := h x15 ex15
                  refine lv_iinc (v := x15) (lv' := [(4, .int x15), (0, .ref (a 0)), (2, .int y2), (3, .int y3)]) hx hb dX5_nextBy_76 hl (k := 3) rfl (by rw [ex15]; rfl) (by decide) rfl (fun ls hl => ?_)
                  refine lv_goto (tgt := 15) hx hb dX5_nextBy_79 (by decide) ?_
                  exact ih y2 y3 x15 u12 _ _ _ hP hD hS (lv_sub hl [1, 2, 3, 0] rfl) h
                · have h := h.2 c14
                  refine lv_iload hx hb dX5_nextBy_73 (lv_at hl 3 rfl) ?_
                  refine lv_istore_n (lv' := [(3, .int y4), (0, .ref (a 0)), (2, .int y2), (4, .int y4)]) hx hb dX5_nextBy_75 rfl hl (by decide) rfl (fun ls hl => ?_)
                  obtain ⟨x16, ex16⟩ : ∃ y : Int32, y = (y4 + 1) := ⟨_, rfl⟩
                  have h := h x16 ex16
                  refine lv_iinc (v := x16) (lv' := [(4, .int x16), (3, .int y4), (0, .ref (a 0)), (2, .int y2)]) hx hb dX5_nextBy_76 hl (k := 3) rfl (by rw [ex16]; rfl) (by decide) rfl (fun ls hl => ?_)
                  refine lv_goto (tgt := 15) hx hb dX5_nextBy_79 (by decide) ?_
                  exact ih y2 y4 x16 u12 _ _ _ hP hD hS (lv_sub hl [2, 3, 1, 0] rfl) h
  have hl := lv_entry ([.ref (a 0), .int p0]) (n := 5) (Nat.le_of_ble_eq_true rfl)
  rw [lg_entry_eq]
  generalize (lg_sl ([.ref (a 0), .int p0]) ++ List.replicate (5 - (lg_sl ([.ref (a 0), .int p0])).length) Slot.unset).toArray = ls at hl ⊢
  have hl : lv_has ls 5 [(0, .ref (a 0)), (1, .int p0)] := hl
  unfold wp_X5_nextBy at h
  refine lv_aload_n hx hb dX5_nextBy_0 rfl (lv_at hl 0 rfl) ?_
  refine lv_aload_n hx hb dX5_nextBy_1 rfl (lv_at hl 0 rfl) ?_
  refine va_get (D := D) (ci := 4) (v := .int (S.1 12)) (C := RX5) (T := TX5) (N := 16) hx hb hts inX5 hown hK hP 0 rfl rfl 12 (by decide) (hts _ q_136) (fun _ h9 => h9) rfl dX5_nextBy_2 ?_
  refine lv_iload_n hx hb dX5_nextBy_5 rfl (lv_at hl 1 rfl) ?_
  refine cl_i (ws' := fun u1 => (wX5 cI cZ a u1)) (va_runV (As := [.int (S.1 12), .int p0]) (rest := []) ⟨hx, hb, hml, hown, hts⟩ (c_X5_limitBy l D cI cZ a _ S (S.1 12) p0 _ h ) (cwV 2 hts (gV q_531 q_532 q_533 q_69 q_534) rfl rfl rfl (by decide +kernel) ⟨Nat.le_of_ble_eq_true rfl, Nat.le_of_ble_eq_true rfl⟩) (preV_of (ci := 4) (q := (RX5, TX5, 16)) hK hP hD [0, 1, 2, 3, 4, 5, 6, 7, 8, 9, 10] rfl rfl (by decide) 0 rfl rfl) rfl rfl hl.1 rfl (lv_room (Nat.le_of_ble_eq_true rfl)) dX5_nextBy_6 ⟨Nat.zero_le _, Nat.zero_le _⟩) hP hD hS hA [0, 1, 2, 3, 4, 5, 6, 7, 8, 9, 10] [.inl 0, .inl 1, .inl 2, .inl 3, .inl 4, .inl 5, .inl 6, .inl 7, .inl 8, .inl 9, .inl 10] rfl (by decide) (fun _ => rfl) (fun _ => rfl) (fun r2 u1 H locs h hP hD hS => ?_)
  refine lv_istore_n (lv' := [(2, .int r2), (0, .ref (a 0)), (1, .int p0)]) hx hb dX5_nextBy_9 rfl hl (by decide) rfl (fun ls hl => ?_)
  refine lv_iconst (v := -1) hx hb dX5_nextBy_10 (by decide) ?_
  refine lv_istore_n (lv' := [(3, .int (-1)), (2, .int r2), (0, .ref (a 0)), (1, .int p0)]) hx hb dX5_nextBy_11 rfl hl (by decide) rfl (fun ls hl => ?_)
  refine lv_iconst (v := 0) hx hb dX5_nextBy_12 (by decide) ?_
  refine lv_istore (lv' := [(4, .int 0), (3, .int (-1)), (2, .int r2), (0, .ref (a 0)), (1, .int p0)]) hx hb dX5_nextBy_13 hl (by decide) rfl (fun ls hl => ?_)
  exact L15 2000 r2 (-1) 0 u1 _ _ _ hP hD hS (lv_sub hl [3, 2, 1, 0] rfl) h
/-! X5_next -/
abbrev rmX5_next : Room := { frames := 2, cells := 0, slots := 0, locals := 49 }
set_option maxHeartbeats 4000000 in
set_option maxRecDepth 100000 in
theorem c_X5_next (l : Launch) (D : va_G) (cI cZ : ClassId) (a : Nat → Nat) (sz : Nat) (S : Ob) (Q : Int32 → Ob → Prop) (h : wp_X5_next S Q) : Met l yX5_next (wsm yX5_next cX5_next 1 (some .int)) rmX5_next (va_Pc [.ref (a 0)] (preW D cI cZ sz (wX5 cI cZ a S))) (va_Qi Q (fun u => atW D cI cZ (va_A (wX5 cI cZ a S) sz) (wX5 cI cZ a u)) (va_A (wX5 cI cZ a S) sz)) 0 0 (va_A (wX5 cI cZ a S) sz) := by
  refine Met.ofW (cc := cX5_next) (maxL := 1) (ret := (some .int)) (by decide) rfl ?_
  intro p e s m args below meth c s₁ B hml hv
  obtain ⟨rfl, hsz, hP, hK, hD0⟩ := hv
  have hx := B.exec
  have hb := B.bytes
  have hr := B.returns
  have hts0 := atoms_spec (ws := wsm yX5_next cX5_next 1 (some .int)) B.pre
  have hts : ∀ w ∈ lw_all, w.before _ s = true := fun w h => hts0 w (List.mem_cons_of_mem _ h)
  have hown : s.vm.findClass RX5 = some m.cls := findClass_of_methodNamed B.named
  have hlocks := B.notSynchronized
  subst hsz
  have hD := hD0.self (sz := s.heap.size)
  generalize hAe : va_A (wX5 cI cZ a S) s.heap.size = A at hD ⊢
  have hA : ∀ q : Nat, s.heap.size ≤ q → A q := fun q h => by rw [← hAe]; exact Or.inr h
  have hS : va_S A s.heap s.heap [] := va_S.rf
  have hml2 := hml
  have hl := lv_entry ([.ref (a 0)]) (n := 1) (Nat.le_of_ble_eq_true rfl)
  rw [lg_entry_eq]
  generalize (lg_sl ([.ref (a 0)]) ++ List.replicate (1 - (lg_sl ([.ref (a 0)])).length) Slot.unset).toArray = ls at hl ⊢
  have hl : lv_has ls 1 [(0, .ref (a 0))] := hl
  unfold wp_X5_next at h
  refine lv_aload_n hx hb dX5_next_0 rfl (lv_at hl 0 rfl) ?_
  refine lv_aload_n hx hb dX5_next_1 rfl (lv_at hl 0 rfl) ?_
  refine va_get (D := D) (ci := 4) (v := .int (S.1 14)) (C := RX5) (T := TX5) (N := 16) hx hb hts inX5 hown hK hP 0 rfl rfl 14 (by decide) (hts _ q_142) (fun _ h9 => h9) rfl dX5_next_2 ?_
  refine cl_i (ws' := fun u1 => (wX5 cI cZ a u1)) (va_runV (As := [.int (S.1 14)]) (rest := []) ⟨hx, hb, hml, hown, hts⟩ (c_X5_nextBy l D cI cZ a _ S (S.1 14) _ h ) (cwV 1 hts (gV q_527 q_528 q_529 q_69 q_530) rfl rfl rfl (by decide +kernel) ⟨Nat.le_of_ble_eq_true rfl, Nat.le_of_ble_eq_true rfl⟩) (preV_of (ci := 4) (q := (RX5, TX5, 16)) hK hP hD [0, 1, 2, 3, 4, 5, 6, 7, 8, 9, 10] rfl rfl (by decide) 0 rfl rfl) rfl rfl hl.1 rfl (lv_room (Nat.le_of_ble_eq_true rfl)) dX5_next_5 ⟨Nat.zero_le _, Nat.zero_le _⟩) hP hD hS hA [0, 1, 2, 3, 4, 5, 6, 7, 8, 9, 10] [.inl 0, .inl 1, .inl 2, .inl 3, .inl 4, .inl 5, .inl 6, .inl 7, .inl 8, .inl 9, .inl 10] rfl (by decide) (fun _ => rfl) (fun _ => rfl) (fun r2 u1 H locs h hP hD hS => ?_)
  exact W.iret (v := r2) hx hb hr (fun t ht hW => ⟨⟨r2, u1, rfl, h, by rw [ht]; exact hP, va_K.moved hW.alike hK, hD⟩, hS.F ht⟩) hS.2.2 dX5_next_8
/-! X5_request -/
abbrev rmX5_request : Room := { frames := 0, cells := 0, slots := 0, locals := 0 }
set_option maxHeartbeats 4000000 in
set_option maxRecDepth 100000 in
theorem c_X5_request (l : Launch) (D : va_G) (cI cZ : ClassId) (a : Nat → Nat) (sz : Nat) (S : Ob) (p0 : Int32) (p1 : Int32) (Q : Int32 → Ob → Prop) (h : wp_X5_request S p0 p1 Q) : Met l yX5_request (wsm yX5_request cX5_request 3 (some .boolean)) rmX5_request (va_Pc [.ref (a 0), .int p0, .int p1] (preW D cI cZ sz (wX5 cI cZ a S))) (va_Qi Q (fun u => atW D cI cZ (va_A (wX5 cI cZ a S) sz) (wX5 cI cZ a u)) (va_A (wX5 cI cZ a S) sz)) 0 0 (va_A (wX5 cI cZ a S) sz) := by
  refine Met.ofW (cc := cX5_request) (maxL := 3) (ret := (some .boolean)) (by decide) rfl ?_
  intro p e s m args below meth c s₁ B hml hv
  obtain ⟨rfl, hsz, hP, hK, hD0⟩ := hv
  have hx := B.exec
  have hb := B.bytes
  have hr := B.returns
  have hts0 := atoms_spec (ws := wsm yX5_request cX5_request 3 (some .boolean)) B.pre
  have hts : ∀ w ∈ lw_all, w.before _ s = true := fun w h => hts0 w (List.mem_cons_of_mem _ h)
  have hown : s.vm.findClass RX5 = some m.cls := findClass_of_methodNamed B.named
  have hlocks := B.notSynchronized
  subst hsz
  have hD := hD0.self (sz := s.heap.size)
  generalize hAe : va_A (wX5 cI cZ a S) s.heap.size = A at hD ⊢
  have hA : ∀ q : Nat, s.heap.size ≤ q → A q := fun q h => by rw [← hAe]; exact Or.inr h
  have hS : va_S A s.heap s.heap [] := va_S.rf
  have hml2 := hml
  have hl := lv_entry ([.ref (a 0), .int p0, .int p1]) (n := 3) (Nat.le_of_ble_eq_true rfl)
  rw [lg_entry_eq]
  generalize (lg_sl ([.ref (a 0), .int p0, .int p1]) ++ List.replicate (3 - (lg_sl ([.ref (a 0), .int p0, .int p1])).length) Slot.unset).toArray = ls at hl ⊢
  have hl : lv_has ls 3 [(0, .ref (a 0)), (1, .int p0), (2, .int p1)] := hl
  unfold wp_X5_request at h
  refine lv_aload_n hx hb dX5_request_0 rfl (lv_at hl 0 rfl) ?_
  refine va_get (D := D) (ci := 4) (v := .ref (a 4)) (C := RX5) (T := TX5) (N := 16) hx hb hts inX5 hown hK hP 0 rfl rfl 3 (by decide) (hts _ q_117) (fun _ h9 => h9) rfl dX5_request_1 ?_
  refine lv_iload_n hx hb dX5_request_4 rfl (lv_at hl 1 rfl) ?_
  refine ar_zl (f := (S.2 3)) (n := 21) (j := (Int32.toNatClampNeg p0)) hx hb hK hP 4 rfl rfl h.1 dX5_request_5 ?_
  have h := h.2
  refine lv_if_eq (tgt := 21) hx hb dX5_request_6 (by decide) (fun c1 => ?_) (fun c1 => ?_)
  · have h := h.1 c1
    refine lv_aload_n hx hb dX5_request_21 rfl (lv_at hl 0 rfl) ?_
    refine va_get (D := D) (ci := 4) (v := .ref (a 4)) (C := RX5) (T := TX5) (N := 16) hx hb hts inX5 hown hK hP 0 rfl rfl 3 (by decide) (hts _ q_117) (fun _ h9 => h9) rfl dX5_request_22 ?_
    refine lv_iload_n hx hb dX5_request_25 rfl (lv_at hl 1 rfl) ?_
    refine lv_iconst (v := 1) hx hb dX5_request_26 (by decide) ?_
    obtain ⟨T2, eT2⟩ : ∃ z : Ob, z = (sa S 3 (upd (S.2 3) (Int32.toNatClampNeg p0) 1)) := ⟨_, rfl⟩
    refine ar_zs (f := (S.2 3)) (n := 21) (j := (Int32.toNatClampNeg p0)) (x := 1) hx hb hK hP hD hS 4 rfl rfl isB1 h.1 dX5_request_27 (wX5 cI cZ a T2) (by subst eT2; rfl) (fun H locs hP hD hS => ?_)
    have h := h.2
    have h := h T2 eT2
    refine lv_aload_n hx hb dX5_request_28 rfl (lv_at hl 0 rfl) ?_
    refine va_get (D := D) (ci := 4) (v := .ref (a 7)) (C := RX5) (T := TX5) (N := 16) hx hb hts inX5 hown hK hP 0 rfl rfl 6 (by decide) (hts _ q_124) (fun _ h9 => h9) rfl dX5_request_29 ?_
    refine lv_iload_n hx hb dX5_request_32 rfl (lv_at hl 1 rfl) ?_
    refine lv_iload_n hx hb dX5_request_33 rfl (lv_at hl 2 rfl) ?_
    obtain ⟨T3, eT3⟩ : ∃ z : Ob, z = (sa T2 6 (upd (T2.2 6) (Int32.toNatClampNeg p0) p1)) := ⟨_, rfl⟩
    refine ar_is (f := (T2.2 6)) (n := 21) (j := (Int32.toNatClampNeg p0)) (x := p1) hx hb hK hP hD hS 7 rfl rfl h.1 dX5_request_34 (wX5 cI cZ a T3) (by subst eT3; rfl) (fun H locs hP hD hS => ?_)
    have h := h.2
    have h := h T3 eT3
    refine lv_iconst (v := 1) hx hb dX5_request_35 (by decide) ?_
    exact W.zret (ty := .boolean) (v := 1) hx hb hr (narB isB1) (fun t ht hW => ⟨⟨1, T3, rfl, h, by rw [ht]; exact hP, va_K.moved hW.alike hK, hD⟩, hS.F ht⟩) hS.2.2 dX5_request_36
  · have h := h.2 c1
    refine lv_aload_n hx hb dX5_request_9 rfl (lv_at hl 0 rfl) ?_
    refine lv_dup hx hb dX5_request_10 rfl ?_
    refine va_get (D := D) (ci := 4) (v := .int (S.1 15)) (C := RX5) (T := TX5) (N := 16) hx hb hts inX5 hown hK hP 0 rfl rfl 15 (by decide) (hts _ q_145) (fun _ h9 => h9) rfl dX5_request_11 ?_
    refine lv_iconst (v := 1) hx hb dX5_request_14 (by decide) ?_
    refine lv_iadd hx hb dX5_request_15 ?_
    obtain ⟨T4, eT4⟩ : ∃ z : Ob, z = (si S 15 ((S.1 15) + 1)) := ⟨_, rfl⟩
    refine pu_f (ci := 4) (v := .int ((S.1 15) + 1)) (ty := .int) (C := RX5) (T := TX5) (N := 16) hx hb hts inX5 tyX5 tyX5_ok nmX5 hown hK hP hD hS 0 rfl rfl 15 (by decide) (hts _ q_145) (fun _ h9 => h9) rfl rfl rfl rfl (Nat.le_of_ble_eq_true rfl) dX5_request_16 (wX5 cI cZ a T4) (by subst eT4; rfl) (fun H locs hP hD hS => ?_)
    have h := h T4 eT4
    refine lv_iconst (v := 0) hx hb dX5_request_19 (by decide) ?_
    exact W.zret (ty := .boolean) (v := 0) hx hb hr (narB isB0) (fun t ht hW => ⟨⟨0, T4, rfl, h, by rw [ht]; exact hP, va_K.moved hW.alike hK, hD⟩, hS.F ht⟩) hS.2.2 dX5_request_20
/-! X5_withdraw -/
abbrev rmX5_withdraw : Room := { frames := 0, cells := 0, slots := 0, locals := 0 }
set_option maxHeartbeats 4000000 in
set_option maxRecDepth 100000 in
theorem c_X5_withdraw (l : Launch) (D : va_G) (cI cZ : ClassId) (a : Nat → Nat) (sz : Nat) (S : Ob) (p0 : Int32) (Q : Int32 → Ob → Prop) (h : wp_X5_withdraw S p0 Q) : Met l yX5_withdraw (wsm yX5_withdraw cX5_withdraw 2 (some .boolean)) rmX5_withdraw (va_Pc [.ref (a 0), .int p0] (preW D cI cZ sz (wX5 cI cZ a S))) (va_Qi Q (fun u => atW D cI cZ (va_A (wX5 cI cZ a S) sz) (wX5 cI cZ a u)) (va_A (wX5 cI cZ a S) sz)) 0 0 (va_A (wX5 cI cZ a S) sz) := by
  refine Met.ofW (cc := cX5_withdraw) (maxL := 2) (ret := (some .boolean)) (by decide) rfl ?_
  intro p e s m args below meth c s₁ B hml hv
  obtain ⟨rfl, hsz, hP, hK, hD0⟩ := hv
  have hx := B.exec
  have hb := B.bytes
  have hr := B.returns
  have hts0 := atoms_spec (ws := wsm yX5_withdraw cX5_withdraw 2 (some .boolean)) B.pre
  have hts : ∀ w ∈ lw_all, w.before _ s = true := fun w h => hts0 w (List.mem_cons_of_mem _ h)
  have hown : s.vm.findClass RX5 = some m.cls := findClass_of_methodNamed B.named
  have hlocks := B.notSynchronized
  subst hsz
  have hD := hD0.self (sz := s.heap.size)
  generalize hAe : va_A (wX5 cI cZ a S) s.heap.size = A at hD ⊢
  have hA : ∀ q : Nat, s.heap.size ≤ q → A q := fun q h => by rw [← hAe]; exact Or.inr h
  have hS : va_S A s.heap s.heap [] := va_S.rf
  have hml2 := hml
  have hl := lv_entry ([.ref (a 0), .int p0]) (n := 2) (Nat.le_of_ble_eq_true rfl)
  rw [lg_entry_eq]
  generalize (lg_sl ([.ref (a 0), .int p0]) ++ List.replicate (2 - (lg_sl ([.ref (a 0), .int p0])).length) Slot.unset).toArray = ls at hl ⊢
  have hl : lv_has ls 2 [(0, .ref (a 0)), (1, .int p0)] := hl
  unfold wp_X5_withdraw at h
  refine lv_aload_n hx hb dX5_withdraw_0 rfl (lv_at hl 0 rfl) ?_
  refine va_get (D := D) (ci := 4) (v := .ref (a 4)) (C := RX5) (T := TX5) (N := 16) hx hb hts inX5 hown hK hP 0 rfl rfl 3 (by decide) (hts _ q_117) (fun _ h9 => h9) rfl dX5_withdraw_1 ?_
  refine lv_iload_n hx hb dX5_withdraw_4 rfl (lv_at hl 1 rfl) ?_
  refine ar_zl (f := (S.2 3)) (n := 21) (j := (Int32.toNatClampNeg p0)) hx hb hK hP 4 rfl rfl h.1 dX5_withdraw_5 ?_
  have h := h.2
  refine lv_if_eq (tgt := 18) hx hb dX5_withdraw_6 (by decide) (fun c1 => ?_) (fun c1 => ?_)
  · have h := h.1 c1
    refine lv_iconst (v := 0) hx hb dX5_withdraw_18 (by decide) ?_
    exact W.zret (ty := .boolean) (v := 0) hx hb hr (narB isB0) (fun t ht hW => ⟨⟨0, S, rfl, h, by rw [ht]; exact hP, va_K.moved hW.alike hK, hD⟩, hS.F ht⟩) hS.2.2 dX5_withdraw_19
  · have h := h.2 c1
    refine lv_aload_n hx hb dX5_withdraw_9 rfl (lv_at hl 0 rfl) ?_
    refine va_get (D := D) (ci := 4) (v := .ref (a 6)) (C := RX5) (T := TX5) (N := 16) hx hb hts inX5 hown hK hP 0 rfl rfl 5 (by decide) (hts _ q_122) (fun _ h9 => h9) rfl dX5_withdraw_10 ?_
    refine lv_iload_n hx hb dX5_withdraw_13 rfl (lv_at hl 1 rfl) ?_
    refine ar_zl (f := (S.2 5)) (n := 21) (j := (Int32.toNatClampNeg p0)) hx hb hK hP 6 rfl rfl h.1 dX5_withdraw_14 ?_
    have h := h.2
    refine lv_if_eq (tgt := 20) hx hb dX5_withdraw_15 (by decide) (fun c2 => ?_) (fun c2 => ?_)
    · have h := h.1 c2
      refine lv_aload_n hx hb dX5_withdraw_20 rfl (lv_at hl 0 rfl) ?_
      refine va_get (D := D) (ci := 4) (v := .ref (a 4)) (C := RX5) (T := TX5) (N := 16) hx hb hts inX5 hown hK hP 0 rfl rfl 3 (by decide) (hts _ q_117) (fun _ h9 => h9) rfl dX5_withdraw_21 ?_
      refine lv_iload_n hx hb dX5_withdraw_24 rfl (lv_at hl 1 rfl) ?_
      refine lv_iconst (v := 0) hx hb dX5_withdraw_25 (by decide) ?_
      obtain ⟨T3, eT3⟩ : ∃ z : Ob, z = (sa S 3 (upd (S.2 3) (Int32.toNatClampNeg p0) 0)) := ⟨_, rfl⟩
      refine ar_zs (f := (S.2 3)) (n := 21) (j := (Int32.toNatClampNeg p0)) (x := 0) hx hb hK hP hD hS 4 rfl rfl isB0 h.1 dX5_withdraw_26 (wX5 cI cZ a T3) (by subst eT3; rfl) (fun H locs hP hD hS => ?_)
      have h := h.2
      have h := h T3 eT3
      refine lv_iconst (v := 1) hx hb dX5_withdraw_27 (by decide) ?_
      exact W.zret (ty := .boolean) (v := 1) hx hb hr (narB isB1) (fun t ht hW => ⟨⟨1, T3, rfl, h, by rw [ht]; exact hP, va_K.moved hW.alike hK, hD⟩, hS.F ht⟩) hS.2.2 dX5_withdraw_28
    · have h := h.2 c2
      refine lv_iconst (v := 0) hx hb dX5_withdraw_18 (by decide) ?_
      exact W.zret (ty := .boolean) (v := 0) hx hb hr (narB isB0) (fun t ht hW => ⟨⟨0, S, rfl, h, by rw [ht]; exact hP, va_K.moved hW.alike hK, hD⟩, hS.F ht⟩) hS.2.2 dX5_withdraw_19
/-! X5_takerOf -/
abbrev rmX5_takerOf : Room := { frames := 1, cells := 0, slots := 0, locals := 25 }
set_option maxHeartbeats 4000000 in
set_option maxRecDepth 100000 in
theorem c_X5_takerOf (l : Launch) (D : va_G) (cI cZ : ClassId) (a : Nat → Nat) (sz : Nat) (S : Ob) (p0 : Int32) (Q : Int32 → Ob → Prop) (h : wp_X5_takerOf S p0 Q) : Met l yX5_takerOf (wsm yX5_takerOf cX5_takerOf 2 (some .int)) rmX5_takerOf (va_Pc [.ref (a 0), .int p0] (preW D cI cZ sz (wX5 cI cZ a S))) (va_Qi Q (fun u => atW D cI cZ (va_A (wX5 cI cZ a S) sz) (wX5 cI cZ a u)) (va_A (wX5 cI cZ a S) sz)) 0 0 (va_A (wX5 cI cZ a S) sz) := by
  refine Met.ofW (cc := cX5_takerOf) (maxL := 2) (ret := (some .int)) (by decide) rfl ?_
  intro p e s m args below meth c s₁ B hml hv
  obtain ⟨rfl, hsz, hP, hK, hD0⟩ := hv
  have hx := B.exec
  have hb := B.bytes
  have hr := B.returns
  have hts0 := atoms_spec (ws := wsm yX5_takerOf cX5_takerOf 2 (some .int)) B.pre
  have hts : ∀ w ∈ lw_all, w.before _ s = true := fun w h => hts0 w (List.mem_cons_of_mem _ h)
  have hown : s.vm.findClass RX5 = some m.cls := findClass_of_methodNamed B.named
  have hlocks := B.notSynchronized
  subst hsz
  have hD := hD0.self (sz := s.heap.size)
  generalize hAe : va_A (wX5 cI cZ a S) s.heap.size = A at hD ⊢
  have hA : ∀ q : Nat, s.heap.size ≤ q → A q := fun q h => by rw [← hAe]; exact Or.inr h
  have hS : va_S A s.heap s.heap [] := va_S.rf
  have hml2 := hml
  have hl := lv_entry ([.ref (a 0), .int p0]) (n := 2) (Nat.le_of_ble_eq_true rfl)
  rw [lg_entry_eq]
  generalize (lg_sl ([.ref (a 0), .int p0]) ++ List.replicate (2 - (lg_sl ([.ref (a 0), .int p0])).length) Slot.unset).toArray = ls at hl ⊢
  have hl : lv_has ls 2 [(0, .ref (a 0)), (1, .int p0)] := hl
  unfold wp_X5_takerOf at h
  refine lv_aload_n hx hb dX5_takerOf_0 rfl (lv_at hl 0 rfl) ?_
  refine va_get (D := D) (ci := 4) (v := .ref (a 3)) (C := RX5) (T := TX5) (N := 16) hx hb hts inX5 hown hK hP 0 rfl rfl 2 (by decide) (hts _ q_114) (fun _ h9 => h9) rfl dX5_takerOf_1 ?_
  refine lv_iload_n hx hb dX5_takerOf_4 rfl (lv_at hl 1 rfl) ?_
  refine ar_zl (f := (S.2 2)) (n := 21) (j := (Int32.toNatClampNeg p0)) hx hb hK hP 3 rfl rfl h.1 dX5_takerOf_5 ?_
  have h := h.2
  refine lv_if_eq (tgt := 37) hx hb dX5_takerOf_6 (by decide) (fun c1 => ?_) (fun c1 => ?_)
  · have h := h.1 c1
    refine lv_aload_n hx hb dX5_takerOf_37 rfl (lv_at hl 0 rfl) ?_
    refine va_get (D := D) (ci := 4) (v := .ref (a 5)) (C := RX5) (T := TX5) (N := 16) hx hb hts inX5 hown hK hP 0 rfl rfl 4 (by decide) (hts _ q_119) (fun _ h9 => h9) rfl dX5_takerOf_38 ?_
    refine lv_bipush (v := 20) hx hb dX5_takerOf_41 (by decide) ?_
    refine ar_zl (f := (S.2 4)) (n := 21) (j := 20) hx hb hK hP 5 rfl (by decide) (okLit (by decide)) dX5_takerOf_43 ?_
    refine lv_if_eq (tgt := 51) hx hb dX5_takerOf_44 (by decide) (fun c2 => ?_) (fun c2 => ?_)
    · have h := h.1 c2
      refine lv_bipush (v := 20) hx hb dX5_takerOf_51 (by decide) ?_
      exact W.iret (v := 20) hx hb hr (fun t ht hW => ⟨⟨20, S, rfl, h, by rw [ht]; exact hP, va_K.moved hW.alike hK, hD⟩, hS.F ht⟩) hS.2.2 dX5_takerOf_53
    · have h := h.2 c2
      refine lv_iconst (v := -1) hx hb dX5_takerOf_47 (by decide) ?_
      refine lv_goto (tgt := 53) hx hb dX5_takerOf_48 (by decide) ?_
      exact W.iret (v := (-1)) hx hb hr (fun t ht hW => ⟨⟨(-1), S, rfl, h, by rw [ht]; exact hP, va_K.moved hW.alike hK, hD⟩, hS.F ht⟩) hS.2.2 dX5_takerOf_53
  · have h := h.2 c1
    refine lv_aload_n hx hb dX5_takerOf_9 rfl (lv_at hl 0 rfl) ?_
    refine va_get (D := D) (ci := 4) (v := .ref (a 1)) (C := RX5) (T := TX5) (N := 16) hx hb hts inX5 hown hK hP 0 rfl rfl 0 (by decide) (hts _ q_107) (fun _ h9 => h9) rfl dX5_takerOf_10 ?_
    refine lv_iload_n hx hb dX5_takerOf_13 rfl (lv_at hl 1 rfl) ?_
    refine ar_il (f := (S.2 0)) (n := 21) (j := (Int32.toNatClampNeg p0)) hx hb hK hP 1 rfl rfl h.1 dX5_takerOf_14 ?_
    have h := h.2
    refine lv_aload_n hx hb dX5_takerOf_15 rfl (lv_at hl 0 rfl) ?_
    refine va_get (D := D) (ci := 4) (v := .int (S.1 12)) (C := RX5) (T := TX5) (N := 16) hx hb hts inX5 hown hK hP 0 rfl rfl 12 (by decide) (hts _ q_136) (fun _ h9 => h9) rfl dX5_takerOf_16 ?_
    refine lv_ishr hx hb dX5_takerOf_19 ?_
    refine lv_aload_n hx hb dX5_takerOf_20 rfl (lv_at hl 0 rfl) ?_
    refine lv_aload_n hx hb dX5_takerOf_21 rfl (lv_at hl 0 rfl) ?_
    refine va_get (D := D) (ci := 4) (v := .int (S.1 12)) (C := RX5) (T := TX5) (N := 16) hx hb hts inX5 hown hK hP 0 rfl rfl 12 (by decide) (hts _ q_136) (fun _ h9 => h9) rfl dX5_takerOf_22 ?_
    refine lv_aload_n hx hb dX5_takerOf_25 rfl (lv_at hl 0 rfl) ?_
    refine va_get (D := D) (ci := 4) (v := .int (S.1 14)) (C := RX5) (T := TX5) (N := 16) hx hb hts inX5 hown hK hP 0 rfl rfl 14 (by decide) (hts _ q_142) (fun _ h9 => h9) rfl dX5_takerOf_26 ?_
    refine cl_i (ws' := fun u3 => (wX5 cI cZ a u3)) (va_runV (As := [.int (S.1 12), .int (S.1 14)]) (rest := [.int (((S.2 0) (Int32.toNatClampNeg p0)) >>> ((S.1 12) &&& 31))]) ⟨hx, hb, hml, hown, hts⟩ (c_X5_limitBy l D cI cZ a _ S (S.1 12) (S.1 14) _ h ) (cwV 2 hts (gV q_531 q_532 q_533 q_69 q_534) rfl rfl rfl (by decide +kernel) ⟨Nat.le_of_ble_eq_true rfl, Nat.le_of_ble_eq_true rfl⟩) (preV_of (ci := 4) (q := (RX5, TX5, 16)) hK hP hD [0, 1, 2, 3, 4, 5, 6, 7, 8, 9, 10] rfl rfl (by decide) 0 rfl rfl) rfl rfl hl.1 rfl (lv_room (Nat.le_of_ble_eq_true rfl)) dX5_takerOf_29 ⟨Nat.zero_le _, Nat.zero_le _⟩) hP hD hS hA [0, 1, 2, 3, 4, 5, 6, 7, 8, 9, 10] [.inl 0, .inl 1, .inl 2, .inl 3, .inl 4, .inl 5, .inl 6, .inl 7, .inl 8, .inl 9, .inl 10] rfl (by decide) (fun _ => rfl) (fun _ => rfl) (fun r4 u3 H locs h hP hD hS => ?_)
    refine lv_icmp_ge (tgt := 37) hx hb dX5_takerOf_32 (by decide) (fun c5 => ?_) (fun c5 => ?_)
    · have h := h.1 c5
      refine lv_aload_n hx hb dX5_takerOf_37 rfl (lv_at hl 0 rfl) ?_
      refine va_get (D := D) (ci := 4) (v := .ref (a 5)) (C := RX5) (T := TX5) (N := 16) hx hb hts inX5 hown hK hP 0 rfl rfl 4 (by decide) (hts _ q_119) (fun _ h9 => h9) rfl dX5_takerOf_38 ?_
      refine lv_bipush (v := 20) hx hb dX5_takerOf_41 (by decide) ?_
      refine ar_zl (f := (u3.2 4)) (n := 21) (j := 20) hx hb hK hP 5 rfl (by decide) (okLit (by decide)) dX5_takerOf_43 ?_
      refine lv_if_eq (tgt := 51) hx hb dX5_takerOf_44 (by decide) (fun c6 => ?_) (fun c6 => ?_)
      · have h := h.1 c6
        refine lv_bipush (v := 20) hx hb dX5_takerOf_51 (by decide) ?_
        exact W.iret (v := 20) hx hb hr (fun t ht hW => ⟨⟨20, u3, rfl, h, by rw [ht]; exact hP, va_K.moved hW.alike hK, hD⟩, hS.F ht⟩) hS.2.2 dX5_takerOf_53
      · have h := h.2 c6
        refine lv_iconst (v := -1) hx hb dX5_takerOf_47 (by decide) ?_
        refine lv_goto (tgt := 53) hx hb dX5_takerOf_48 (by decide) ?_
        exact W.iret (v := (-1)) hx hb hr (fun t ht hW => ⟨⟨(-1), u3, rfl, h, by rw [ht]; exact hP, va_K.moved hW.alike hK, hD⟩, hS.F ht⟩) hS.2.2 dX5_takerOf_53
    · have h := h.2 c5
      refine lv_iload_n hx hb dX5_takerOf_35 rfl (lv_at hl 1 rfl) ?_
      exact W.iret (v := p0) hx hb hr (fun t ht hW => ⟨⟨p0, u3, rfl, h, by rw [ht]; exact hP, va_K.moved hW.alike hK, hD⟩, hS.F ht⟩) hS.2.2 dX5_takerOf_36
/-! X5_start -/
abbrev rmX5_start : Room := { frames := 1, cells := 0, slots := 0, locals := 30 }
set_option maxHeartbeats 4000000 in
set_option maxRecDepth 100000 in
theorem c_X5_start (l : Launch) (D : va_G) (cI cZ : ClassId) (a : Nat → Nat) (sz : Nat) (S : Ob) (p0 : Int32) (p1 : Int32) (Q : Int32 → Ob → Prop) (h : wp_X5_start S p0 p1 Q) : Met l yX5_start (wsm yX5_start cX5_start 4 (some .int)) rmX5_start (va_Pc [.ref (a 0), .int p0, .int p1] (preW D cI cZ sz (wX5 cI cZ a S))) (va_Qi Q (fun u => atW D cI cZ (va_A (wX5 cI cZ a S) sz) (wX5 cI cZ a u)) (va_A (wX5 cI cZ a S) sz)) 0 0 (va_A (wX5 cI cZ a S) sz) := by
  refine Met.ofW (cc := cX5_start) (maxL := 4) (ret := (some .int)) (by decide) rfl ?_
  intro p e s m args below meth c s₁ B hml hv
  obtain ⟨rfl, hsz, hP, hK, hD0⟩ := hv
  have hx := B.exec
  have hb := B.bytes
  have hr := B.returns
  have hts0 := atoms_spec (ws := wsm yX5_start cX5_start 4 (some .int)) B.pre
  have hts : ∀ w ∈ lw_all, w.before _ s = true := fun w h => hts0 w (List.mem_cons_of_mem _ h)
  have hown : s.vm.findClass RX5 = some m.cls := findClass_of_methodNamed B.named
  have hlocks := B.notSynchronized
  subst hsz
  have hD := hD0.self (sz := s.heap.size)
  generalize hAe : va_A (wX5 cI cZ a S) s.heap.size = A at hD ⊢
  have hA : ∀ q : Nat, s.heap.size ≤ q → A q := fun q h => by rw [← hAe]; exact Or.inr h
  have hS : va_S A s.heap s.heap [] := va_S.rf
  have hml2 := hml
  have hl := lv_entry ([.ref (a 0), .int p0, .int p1]) (n := 4) (Nat.le_of_ble_eq_true rfl)
  rw [lg_entry_eq]
  generalize (lg_sl ([.ref (a 0), .int p0, .int p1]) ++ List.replicate (4 - (lg_sl ([.ref (a 0), .int p0, .int p1])).length) Slot.unset).toArray = ls at hl ⊢
  have hl : lv_has ls 4 [(0, .ref (a 0)), (1, .int p0), (2, .int p1)] := hl
  unfold wp_X5_start at h
  refine lv_iload_n hx hb dX5_start_0 rfl (lv_at hl 2 rfl) ?_
  refine lv_aload_n hx hb dX5_start_1 rfl (lv_at hl 0 rfl) ?_
  refine va_get (D := D) (ci := 4) (v := .ref (a 7)) (C := RX5) (T := TX5) (N := 16) hx hb hts inX5 hown hK hP 0 rfl rfl 6 (by decide) (hts _ q_124) (fun _ h9 => h9) rfl dX5_start_2 ?_
  refine lv_iload_n hx hb dX5_start_5 rfl (lv_at hl 1 rfl) ?_
  refine ar_il (f := (S.2 6)) (n := 21) (j := (Int32.toNatClampNeg p0)) hx hb hK hP 7 rfl rfl h.1 dX5_start_6 ?_
  have h := h.2
  refine lv_isub hx hb dX5_start_7 ?_
  refine lv_topi (fun x1 ex1 => ?_)
  have h := h x1 ex1
  refine lv_istore_n (lv' := [(3, .int x1), (0, .ref (a 0)), (1, .int p0), (2, .int p1)]) hx hb dX5_start_8 rfl hl (by decide) rfl (fun ls hl => ?_)
  refine lv_aload_n hx hb dX5_start_9 rfl (lv_at hl 1 rfl) ?_
  refine va_get (D := D) (ci := 4) (v := .ref (a 4)) (C := RX5) (T := TX5) (N := 16) hx hb hts inX5 hown hK hP 0 rfl rfl 3 (by decide) (hts _ q_117) (fun _ h9 => h9) rfl dX5_start_10 ?_
  refine lv_iload_n hx hb dX5_start_13 rfl (lv_at hl 2 rfl) ?_
  refine lv_iconst (v := 0) hx hb dX5_start_14 (by decide) ?_
  obtain ⟨T2, eT2⟩ : ∃ z : Ob, z = (sa S 3 (upd (S.2 3) (Int32.toNatClampNeg p0) 0)) := ⟨_, rfl⟩
  refine ar_zs (f := (S.2 3)) (n := 21) (j := (Int32.toNatClampNeg p0)) (x := 0) hx hb hK hP hD hS 4 rfl rfl isB0 h.1 dX5_start_15 (wX5 cI cZ a T2) (by subst eT2; rfl) (fun H locs hP hD hS => ?_)
  have h := h.2
  have h := h T2 eT2
  refine lv_aload_n hx hb dX5_start_16 rfl (lv_at hl 1 rfl) ?_
  refine va_get (D := D) (ci := 4) (v := .ref (a 5)) (C := RX5) (T := TX5) (N := 16) hx hb hts inX5 hown hK hP 0 rfl rfl 4 (by decide) (hts _ q_119) (fun _ h9 => h9) rfl dX5_start_17 ?_
  refine lv_iload_n hx hb dX5_start_20 rfl (lv_at hl 2 rfl) ?_
  refine lv_iconst (v := 1) hx hb dX5_start_21 (by decide) ?_
  obtain ⟨T3, eT3⟩ : ∃ z : Ob, z = (sa T2 4 (upd (T2.2 4) (Int32.toNatClampNeg p0) 1)) := ⟨_, rfl⟩
  refine ar_zs (f := (T2.2 4)) (n := 21) (j := (Int32.toNatClampNeg p0)) (x := 1) hx hb hK hP hD hS 5 rfl rfl isB1 h.1 dX5_start_22 (wX5 cI cZ a T3) (by subst eT3; rfl) (fun H locs hP hD hS => ?_)
  have h := h.2
  have h := h T3 eT3
  refine lv_aload_n hx hb dX5_start_23 rfl (lv_at hl 1 rfl) ?_
  refine va_get (D := D) (ci := 4) (v := .ref (a 8)) (C := RX5) (T := TX5) (N := 16) hx hb hts inX5 hown hK hP 0 rfl rfl 7 (by decide) (hts _ q_125) (fun _ h9 => h9) rfl dX5_start_24 ?_
  refine lv_iload_n hx hb dX5_start_27 rfl (lv_at hl 2 rfl) ?_
  refine lv_iload_n hx hb dX5_start_28 rfl (lv_at hl 3 rfl) ?_
  obtain ⟨T4, eT4⟩ : ∃ z : Ob, z = (sa T3 7 (upd (T3.2 7) (Int32.toNatClampNeg p0) p1)) := ⟨_, rfl⟩
  refine ar_is (f := (T3.2 7)) (n := 21) (j := (Int32.toNatClampNeg p0)) (x := p1) hx hb hK hP hD hS 8 rfl rfl h.1 dX5_start_29 (wX5 cI cZ a T4) (by subst eT4; rfl) (fun H locs hP hD hS => ?_)
  have h := h.2
  have h := h T4 eT4
  refine lv_aload_n hx hb dX5_start_30 rfl (lv_at hl 1 rfl) ?_
  refine va_get (D := D) (ci := 4) (v := .ref (a 9)) (C := RX5) (T := TX5) (N := 16) hx hb hts inX5 hown hK hP 0 rfl rfl 8 (by decide) (hts _ q_127) (fun _ h9 => h9) rfl dX5_start_31 ?_
  refine lv_iload_n hx hb dX5_start_34 rfl (lv_at hl 2 rfl) ?_
  refine lv_aload_n hx hb dX5_start_35 rfl (lv_at hl 1 rfl) ?_
  refine va_get (D := D) (ci := 4) (v := .ref (a 9)) (C := RX5) (T := TX5) (N := 16) hx hb hts inX5 hown hK hP 0 rfl rfl 8 (by decide) (hts _ q_127) (fun _ h9 => h9) rfl dX5_start_36 ?_
  refine lv_iload_n hx hb dX5_start_39 rfl (lv_at hl 2 rfl) ?_
  refine ar_il (f := (T4.2 8)) (n := 21) (j := (Int32.toNatClampNeg p0)) hx hb hK hP 9 rfl rfl h.1 dX5_start_40 ?_
  have h := h.2
  refine lv_iload_n hx hb dX5_start_41 rfl (lv_at hl 0 rfl) ?_
  refine mm_max hx hb hml2 hown (hts _ q_710) (hts _ q_666) (hts _ q_77) (hts _ q_667) (Nat.le_of_ble_eq_true rfl) (Nat.le_of_ble_eq_true rfl) (Nat.zero_le _) (Nat.zero_le _) dX5_start_42 hl.1 ?_
  refine lv_topi (fun x5 ex5 => ?_)
  have h := h x5 ex5
  obtain ⟨T6, eT6⟩ : ∃ z : Ob, z = (sa T4 8 (upd (T4.2 8) (Int32.toNatClampNeg p0) x5)) := ⟨_, rfl⟩
  refine ar_is (f := (T4.2 8)) (n := 21) (j := (Int32.toNatClampNeg p0)) (x := x5) hx hb hK hP hD hS 9 rfl rfl h.1 dX5_start_45 (wX5 cI cZ a T6) (by subst eT6; rfl) (fun H locs hP hD hS => ?_)
  have h := h.2
  have h := h T6 eT6
  refine lv_aload_n hx hb dX5_start_46 rfl (lv_at hl 1 rfl) ?_
  refine va_get (D := D) (ci := 4) (v := .int (T6.1 10)) (C := RX5) (T := TX5) (N := 16) hx hb hts inX5 hown hK hP 0 rfl rfl 10 (by decide) (hts _ q_131) (fun _ h9 => h9) rfl dX5_start_47 ?_
  refine lv_bipush (v := 21) hx hb dX5_start_50 (by decide) ?_
  refine lv_icmp_ge (tgt := 75) hx hb dX5_start_52 (by decide) (fun c7 => ?_) (fun c7 => ?_)
  · have h := h.1 c7
    refine lv_aload_n hx hb dX5_start_75 rfl (lv_at hl 1 rfl) ?_
    refine lv_aload_n hx hb dX5_start_76 rfl (lv_at hl 1 rfl) ?_
    refine va_get (D := D) (ci := 4) (v := .int (T6.1 11)) (C := RX5) (T := TX5) (N := 16) hx hb hts inX5 hown hK hP 0 rfl rfl 11 (by decide) (hts _ q_134) (fun _ h9 => h9) rfl dX5_start_77 ?_
    refine lv_aload_n hx hb dX5_start_80 rfl (lv_at hl 1 rfl) ?_
    refine va_get (D := D) (ci := 4) (v := .int (T6.1 10)) (C := RX5) (T := TX5) (N := 16) hx hb hts inX5 hown hK hP 0 rfl rfl 10 (by decide) (hts _ q_131) (fun _ h9 => h9) rfl dX5_start_81 ?_
    refine mm_max hx hb hml2 hown (hts _ q_710) (hts _ q_666) (hts _ q_77) (hts _ q_667) (Nat.le_of_ble_eq_true rfl) (Nat.le_of_ble_eq_true rfl) (Nat.zero_le _) (Nat.zero_le _) dX5_start_84 hl.1 ?_
    refine lv_topi (fun x8 ex8 => ?_)
    have h := h x8 ex8
    obtain ⟨T9, eT9⟩ : ∃ z : Ob, z = (si T6 11 x8) := ⟨_, rfl⟩
    refine pu_f (ci := 4) (v := .int x8) (ty := .int) (C := RX5) (T := TX5) (N := 16) hx hb hts inX5 tyX5 tyX5_ok nmX5 hown hK hP hD hS 0 rfl rfl 11 (by decide) (hts _ q_134) (fun _ h9 => h9) rfl rfl rfl rfl (Nat.le_of_ble_eq_true rfl) dX5_start_87 (wX5 cI cZ a T9) (by subst eT9; rfl) (fun H locs hP hD hS => ?_)
    have h := h T9 eT9
    refine lv_iload_n hx hb dX5_start_90 rfl (lv_at hl 0 rfl) ?_
    exact W.iret (v := x1) hx hb hr (fun t ht hW => ⟨⟨x1, T9, rfl, h, by rw [ht]; exact hP, va_K.moved hW.alike hK, hD⟩, hS.F ht⟩) hS.2.2 dX5_start_91
  · have h := h.2 c7
    refine lv_aload_n hx hb dX5_start_55 rfl (lv_at hl 1 rfl) ?_
    refine va_get (D := D) (ci := 4) (v := .ref (a 10)) (C := RX5) (T := TX5) (N := 16) hx hb hts inX5 hown hK hP 0 rfl rfl 9 (by decide) (hts _ q_129) (fun _ h9 => h9) rfl dX5_start_56 ?_
    refine lv_aload_n hx hb dX5_start_59 rfl (lv_at hl 1 rfl) ?_
    refine va_get (D := D) (ci := 4) (v := .int (T6.1 10)) (C := RX5) (T := TX5) (N := 16) hx hb hts inX5 hown hK hP 0 rfl rfl 10 (by decide) (hts _ q_131) (fun _ h9 => h9) rfl dX5_start_60 ?_
    refine lv_iload_n hx hb dX5_start_63 rfl (lv_at hl 2 rfl) ?_
    obtain ⟨T10, eT10⟩ : ∃ z : Ob, z = (sa T6 9 (upd (T6.2 9) (Int32.toNatClampNeg (T6.1 10)) p0)) := ⟨_, rfl⟩
    refine ar_is (f := (T6.2 9)) (n := 21) (j := (Int32.toNatClampNeg (T6.1 10))) (x := p0) hx hb hK hP hD hS 10 rfl rfl h.1 dX5_start_64 (wX5 cI cZ a T10) (by subst eT10; rfl) (fun H locs hP hD hS => ?_)
    have h := h.2
    have h := h T10 eT10
    refine lv_aload_n hx hb dX5_start_65 rfl (lv_at hl 1 rfl) ?_
    refine lv_dup hx hb dX5_start_66 rfl ?_
    refine va_get (D := D) (ci := 4) (v := .int (T10.1 10)) (C := RX5) (T := TX5) (N := 16) hx hb hts inX5 hown hK hP 0 rfl rfl 10 (by decide) (hts _ q_131) (fun _ h9 => h9) rfl dX5_start_67 ?_
    refine lv_iconst (v := 1) hx hb dX5_start_70 (by decide) ?_
    refine lv_iadd hx hb dX5_start_71 ?_
    obtain ⟨T11, eT11⟩ : ∃ z : Ob, z = (si T10 10 ((T10.1 10) + 1)) := ⟨_, rfl⟩
    refine pu_f (ci := 4) (v := .int ((T10.1 10) + 1)) (ty := .int) (C := RX5) (T := TX5) (N := 16) hx hb hts inX5 tyX5 tyX5_ok nmX5 hown hK hP hD hS 0 rfl rfl 10 (by decide) (hts _ q_131) (fun _ h9 => h9) rfl rfl rfl rfl (Nat.le_of_ble_eq_true rfl) dX5_start_72 (wX5 cI cZ a T11) (by subst eT11; rfl) (fun H locs hP hD hS => ?_)
    have h := h T11 eT11
    refine lv_aload_n hx hb dX5_start_75 rfl (lv_at hl 1 rfl) ?_
    refine lv_aload_n hx hb dX5_start_76 rfl (lv_at hl 1 rfl) ?_
    refine va_get (D := D) (ci := 4) (v := .int (T11.1 11)) (C := RX5) (T := TX5) (N := 16) hx hb hts inX5 hown hK hP 0 rfl rfl 11 (by decide) (hts _ q_134) (fun _ h9 => h9) rfl dX5_start_77 ?_
    refine lv_aload_n hx hb dX5_start_80 rfl (lv_at hl 1 rfl) ?_
    refine va_get (D := D) (ci := 4) (v := .int (T11.1 10)) (C := RX5) (T := TX5) (N := 16) hx hb hts inX5 hown hK hP 0 rfl rfl 10 (by decide) (hts _ q_131) (fun _ h9 => h9) rfl dX5_start_81 ?_
    refine mm_max hx hb hml2 hown (hts _ q_710) (hts _ q_666) (hts _ q_77) (hts _ q_667) (Nat.le_of_ble_eq_true rfl) (Nat.le_of_ble_eq_true rfl) (Nat.zero_le _) (Nat.zero_le _) dX5_start_84 hl.1 ?_
    refine lv_topi (fun x12 ex12 => ?_)
    have h := h x12 ex12
    obtain ⟨T13, eT13⟩ : ∃ z : Ob, z = (si T11 11 x12) := ⟨_, rfl⟩
    refine pu_f (ci := 4) (v := .int x12) (ty := .int) (C := RX5) (T := TX5) (N := 16) hx hb hts inX5 tyX5 tyX5_ok nmX5 hown hK hP hD hS 0 rfl rfl 11 (by decide) (hts _ q_134) (fun _ h9 => h9) rfl rfl rfl rfl (Nat.le_of_ble_eq_true rfl) dX5_start_87 (wX5 cI cZ a T13) (by subst eT13; rfl) (fun H locs hP hD hS => ?_)
    have h := h T13 eT13
    refine lv_iload_n hx hb dX5_start_90 rfl (lv_at hl 0 rfl) ?_
    exact W.iret (v := x1) hx hb hr (fun t ht hW => ⟨⟨x1, T13, rfl, h, by rw [ht]; exact hP, va_K.moved hW.alike hK, hD⟩, hS.F ht⟩) hS.2.2 dX5_start_91
/-! X5_innermost -/
abbrev rmX5_innermost : Room := { frames := 0, cells := 0, slots := 0, locals := 0 }
set_option maxHeartbeats 4000000 in
set_option maxRecDepth 100000 in
theorem c_X5_innermost (l : Launch) (D : va_G) (cI cZ : ClassId) (a : Nat → Nat) (sz : Nat) (S : Ob) (Q : Int32 → Ob → Prop) (h : wp_X5_innermost S Q) : Met l yX5_innermost (wsm yX5_innermost cX5_innermost 1 (some .int)) rmX5_innermost (va_Pc [.ref (a 0)] (preW D cI cZ sz (wX5 cI cZ a S))) (va_Qi Q (fun u => atW D cI cZ (va_A (wX5 cI cZ a S) sz) (wX5 cI cZ a u)) (va_A (wX5 cI cZ a S) sz)) 0 0 (va_A (wX5 cI cZ a S) sz) := by
  refine Met.ofW (cc := cX5_innermost) (maxL := 1) (ret := (some .int)) (by decide) rfl ?_
  intro p e s m args below meth c s₁ B hml hv
  obtain ⟨rfl, hsz, hP, hK, hD0⟩ := hv
  have hx := B.exec
  have hb := B.bytes
  have hr := B.returns
  have hts0 := atoms_spec (ws := wsm yX5_innermost cX5_innermost 1 (some .int)) B.pre
  have hts : ∀ w ∈ lw_all, w.before _ s = true := fun w h => hts0 w (List.mem_cons_of_mem _ h)
  have hown : s.vm.findClass RX5 = some m.cls := findClass_of_methodNamed B.named
  have hlocks := B.notSynchronized
  subst hsz
  have hD := hD0.self (sz := s.heap.size)
  generalize hAe : va_A (wX5 cI cZ a S) s.heap.size = A at hD ⊢
  have hA : ∀ q : Nat, s.heap.size ≤ q → A q := fun q h => by rw [← hAe]; exact Or.inr h
  have hS : va_S A s.heap s.heap [] := va_S.rf
  have hml2 := hml
  have hl := lv_entry ([.ref (a 0)]) (n := 1) (Nat.le_of_ble_eq_true rfl)
  rw [lg_entry_eq]
  generalize (lg_sl ([.ref (a 0)]) ++ List.replicate (1 - (lg_sl ([.ref (a 0)])).length) Slot.unset).toArray = ls at hl ⊢
  have hl : lv_has ls 1 [(0, .ref (a 0))] := hl
  unfold wp_X5_innermost at h
  refine lv_aload_n hx hb dX5_innermost_0 rfl (lv_at hl 0 rfl) ?_
  refine va_get (D := D) (ci := 4) (v := .int (S.1 10)) (C := RX5) (T := TX5) (N := 16) hx hb hts inX5 hown hK hP 0 rfl rfl 10 (by decide) (hts _ q_131) (fun _ h9 => h9) rfl dX5_innermost_1 ?_
  refine lv_if_le (tgt := 21) hx hb dX5_innermost_4 (by decide) (fun c1 => ?_) (fun c1 => ?_)
  · have h := h.1 c1
    refine lv_iconst (v := -1) hx hb dX5_innermost_21 (by decide) ?_
    exact W.iret (v := (-1)) hx hb hr (fun t ht hW => ⟨⟨(-1), S, rfl, h, by rw [ht]; exact hP, va_K.moved hW.alike hK, hD⟩, hS.F ht⟩) hS.2.2 dX5_innermost_22
  · have h := h.2 c1
    refine lv_aload_n hx hb dX5_innermost_7 rfl (lv_at hl 0 rfl) ?_
    refine va_get (D := D) (ci := 4) (v := .ref (a 10)) (C := RX5) (T := TX5) (N := 16) hx hb hts inX5 hown hK hP 0 rfl rfl 9 (by decide) (hts _ q_129) (fun _ h9 => h9) rfl dX5_innermost_8 ?_
    refine lv_aload_n hx hb dX5_innermost_11 rfl (lv_at hl 0 rfl) ?_
    refine va_get (D := D) (ci := 4) (v := .int (S.1 10)) (C := RX5) (T := TX5) (N := 16) hx hb hts inX5 hown hK hP 0 rfl rfl 10 (by decide) (hts _ q_131) (fun _ h9 => h9) rfl dX5_innermost_12 ?_
    refine lv_iconst (v := 1) hx hb dX5_innermost_15 (by decide) ?_
    refine lv_isub hx hb dX5_innermost_16 ?_
    refine ar_il (f := (S.2 9)) (n := 21) (j := (Int32.toNatClampNeg ((S.1 10) - 1))) hx hb hK hP 10 rfl rfl h.1 dX5_innermost_17 ?_
    have h := h.2
    refine lv_goto (tgt := 22) hx hb dX5_innermost_18 (by decide) ?_
    exact W.iret (v := ((S.2 9) (Int32.toNatClampNeg ((S.1 10) - 1)))) hx hb hr (fun t ht hW => ⟨⟨((S.2 9) (Int32.toNatClampNeg ((S.1 10) - 1))), S, rfl, h, by rw [ht]; exact hP, va_K.moved hW.alike hK, hD⟩, hS.F ht⟩) hS.2.2 dX5_innermost_22
/-! X5_endInnermost -/
abbrev rmX5_endInnermost : Room := { frames := 1, cells := 0, slots := 0, locals := 22 }
set_option maxHeartbeats 4000000 in
set_option maxRecDepth 100000 in
theorem c_X5_endInnermost (l : Launch) (D : va_G) (cI cZ : ClassId) (a : Nat → Nat) (sz : Nat) (S : Ob) (p0 : Int32) (Q : Ob → Prop) (h : wp_X5_endInnermost S p0 Q) : Met l yX5_endInnermost (wsm yX5_endInnermost cX5_endInnermost 3 none) rmX5_endInnermost (va_Pc [.ref (a 0), .int p0] (preW D cI cZ sz (wX5 cI cZ a S))) (va_Qv Q (fun u => atW D cI cZ (va_A (wX5 cI cZ a S) sz) (wX5 cI cZ a u)) (va_A (wX5 cI cZ a S) sz)) 0 0 (va_A (wX5 cI cZ a S) sz) := by
  refine Met.ofW (cc := cX5_endInnermost) (maxL := 3) (ret := none) (by decide) rfl ?_
  intro p e s m args below meth c s₁ B hml hv
  obtain ⟨rfl, hsz, hP, hK, hD0⟩ := hv
  have hx := B.exec
  have hb := B.bytes
  have hr := B.returns
  have hts0 := atoms_spec (ws := wsm yX5_endInnermost cX5_endInnermost 3 none) B.pre
  have hts : ∀ w ∈ lw_all, w.before _ s = true := fun w h => hts0 w (List.mem_cons_of_mem _ h)
  have hown : s.vm.findClass RX5 = some m.cls := findClass_of_methodNamed B.named
  have hlocks := B.notSynchronized
  subst hsz
  have hD := hD0.self (sz := s.heap.size)
  generalize hAe : va_A (wX5 cI cZ a S) s.heap.size = A at hD ⊢
  have hA : ∀ q : Nat, s.heap.size ≤ q → A q := fun q h => by rw [← hAe]; exact Or.inr h
  have hS : va_S A s.heap s.heap [] := va_S.rf
  have hml2 := hml
  have hl := lv_entry ([.ref (a 0), .int p0]) (n := 3) (Nat.le_of_ble_eq_true rfl)
  rw [lg_entry_eq]
  generalize (lg_sl ([.ref (a 0), .int p0]) ++ List.replicate (3 - (lg_sl ([.ref (a 0), .int p0])).length) Slot.unset).toArray = ls at hl ⊢
  have hl : lv_has ls 3 [(0, .ref (a 0)), (1, .int p0)] := hl
  unfold wp_X5_endInnermost at h
  refine lv_aload_n hx hb dX5_endInnermost_0 rfl (lv_at hl 0 rfl) ?_
  refine cl_i (ws' := fun u1 => (wX5 cI cZ a u1)) (va_runV (As := []) (rest := []) ⟨hx, hb, hml, hown, hts⟩ (c_X5_innermost l D cI cZ a _ S _ h ) (cwV 0 hts (gV q_651 q_644 q_645 q_69 q_646) rfl rfl rfl (by decide +kernel) ⟨Nat.le_of_ble_eq_true rfl, Nat.le_of_ble_eq_true rfl⟩) (preV_of (ci := 4) (q := (RX5, TX5, 16)) hK hP hD [0, 1, 2, 3, 4, 5, 6, 7, 8, 9, 10] rfl rfl (by decide) 0 rfl rfl) rfl rfl hl.1 rfl (lv_room (Nat.le_of_ble_eq_true rfl)) dX5_endInnermost_1 ⟨Nat.zero_le _, Nat.zero_le _⟩) hP hD hS hA [0, 1, 2, 3, 4, 5, 6, 7, 8, 9, 10] [.inl 0, .inl 1, .inl 2, .inl 3, .inl 4, .inl 5, .inl 6, .inl 7, .inl 8, .inl 9, .inl 10] rfl (by decide) (fun _ => rfl) (fun _ => rfl) (fun r2 u1 H locs h hP hD hS => ?_)
  refine lv_istore_n (lv' := [(2, .int r2), (0, .ref (a 0)), (1, .int p0)]) hx hb dX5_endInnermost_4 rfl hl (by decide) rfl (fun ls hl => ?_)
  refine lv_iload_n hx hb dX5_endInnermost_5 rfl (lv_at hl 0 rfl) ?_
  refine lv_iconst (v := -1) hx hb dX5_endInnermost_6 (by decide) ?_
  refine lv_icmp_ne (tgt := 11) hx hb dX5_endInnermost_7 (by decide) (fun c3 => ?_) (fun c3 => ?_)
  · have h := h.1 c3
    refine lv_aload_n hx hb dX5_endInnermost_11 rfl (lv_at hl 1 rfl) ?_
    refine va_get (D := D) (ci := 4) (v := .ref (a 5)) (C := RX5) (T := TX5) (N := 16) hx hb hts inX5 hown hK hP 0 rfl rfl 4 (by decide) (hts _ q_119) (fun _ h9 => h9) rfl dX5_endInnermost_12 ?_
    refine lv_iload_n hx hb dX5_endInnermost_15 rfl (lv_at hl 0 rfl) ?_
    refine lv_iconst (v := 0) hx hb dX5_endInnermost_16 (by decide) ?_
    obtain ⟨T4, eT4⟩ : ∃ z : Ob, z = (sa u1 4 (upd (u1.2 4) (Int32.toNatClampNeg r2) 0)) := ⟨_, rfl⟩
    refine ar_zs (f := (u1.2 4)) (n := 21) (j := (Int32.toNatClampNeg r2)) (x := 0) hx hb hK hP hD hS 5 rfl rfl isB0 h.1 dX5_endInnermost_17 (wX5 cI cZ a T4) (by subst eT4; rfl) (fun H locs hP hD hS => ?_)
    have h := h.2
    have h := h T4 eT4
    refine lv_aload_n hx hb dX5_endInnermost_18 rfl (lv_at hl 1 rfl) ?_
    refine lv_dup hx hb dX5_endInnermost_19 rfl ?_
    refine va_get (D := D) (ci := 4) (v := .int (T4.1 10)) (C := RX5) (T := TX5) (N := 16) hx hb hts inX5 hown hK hP 0 rfl rfl 10 (by decide) (hts _ q_131) (fun _ h9 => h9) rfl dX5_endInnermost_20 ?_
    refine lv_iconst (v := 1) hx hb dX5_endInnermost_23 (by decide) ?_
    refine lv_isub hx hb dX5_endInnermost_24 ?_
    obtain ⟨T5, eT5⟩ : ∃ z : Ob, z = (si T4 10 ((T4.1 10) - 1)) := ⟨_, rfl⟩
    refine pu_f (ci := 4) (v := .int ((T4.1 10) - 1)) (ty := .int) (C := RX5) (T := TX5) (N := 16) hx hb hts inX5 tyX5 tyX5_ok nmX5 hown hK hP hD hS 0 rfl rfl 10 (by decide) (hts _ q_131) (fun _ h9 => h9) rfl rfl rfl rfl (Nat.le_of_ble_eq_true rfl) dX5_endInnermost_25 (wX5 cI cZ a T5) (by subst eT5; rfl) (fun H locs hP hD hS => ?_)
    have h := h T5 eT5
    refine lv_aload_n hx hb dX5_endInnermost_28 rfl (lv_at hl 1 rfl) ?_
    refine va_get (D := D) (ci := 4) (v := .ref (a 6)) (C := RX5) (T := TX5) (N := 16) hx hb hts inX5 hown hK hP 0 rfl rfl 5 (by decide) (hts _ q_122) (fun _ h9 => h9) rfl dX5_endInnermost_29 ?_
    refine lv_iload_n hx hb dX5_endInnermost_32 rfl (lv_at hl 0 rfl) ?_
    refine ar_zl (f := (T5.2 5)) (n := 21) (j := (Int32.toNatClampNeg r2)) hx hb hK hP 6 rfl rfl h.1 dX5_endInnermost_33 ?_
    have h := h.2
    refine lv_if_eq (tgt := 44) hx hb dX5_endInnermost_34 (by decide) (fun c6 => ?_) (fun c6 => ?_)
    · have h := h.1 c6
      exact W.vret hx hb hr (fun t ht hW => ⟨⟨T5, rfl, h, by rw [ht]; exact hP, va_K.moved hW.alike hK, hD⟩, hS.F ht⟩) hS.2.2 dX5_endInnermost_44
    · have h := h.2 c6
      refine lv_aload_n hx hb dX5_endInnermost_37 rfl (lv_at hl 1 rfl) ?_
      refine lv_iload_n hx hb dX5_endInnermost_38 rfl (lv_at hl 0 rfl) ?_
      refine lv_iload_n hx hb dX5_endInnermost_39 rfl (lv_at hl 2 rfl) ?_
      refine cl_i (ws' := fun u7 => (wX5 cI cZ a u7)) (va_runV (As := [.int r2, .int p0]) (rest := []) ⟨hx, hb, hml, hown, hts⟩ (c_X5_request l D cI cZ a _ T5 r2 p0 _ h ) (cwV 2 hts (gV q_652 q_471 q_472 q_69 q_473) rfl rfl rfl (by decide +kernel) ⟨Nat.le_of_ble_eq_true rfl, Nat.le_of_ble_eq_true rfl⟩) (preV_of (ci := 4) (q := (RX5, TX5, 16)) hK hP hD [0, 1, 2, 3, 4, 5, 6, 7, 8, 9, 10] rfl rfl (by decide) 0 rfl rfl) rfl rfl hl.1 rfl (lv_room (Nat.le_of_ble_eq_true rfl)) dX5_endInnermost_40 ⟨Nat.zero_le _, Nat.zero_le _⟩) hP hD hS hA [0, 1, 2, 3, 4, 5, 6, 7, 8, 9, 10] [.inl 0, .inl 1, .inl 2, .inl 3, .inl 4, .inl 5, .inl 6, .inl 7, .inl 8, .inl 9, .inl 10] rfl (by decide) (fun _ => rfl) (fun _ => rfl) (fun r8 u7 H locs h hP hD hS => ?_)
      refine lv_pop hx hb dX5_endInnermost_43 rfl ?_
      exact W.vret hx hb hr (fun t ht hW => ⟨⟨u7, rfl, h, by rw [ht]; exact hP, va_K.moved hW.alike hK, hD⟩, hS.F ht⟩) hS.2.2 dX5_endInnermost_44
  · have h := h.2 c3
    exact W.vret hx hb hr (fun t ht hW => ⟨⟨u1, rfl, h, by rw [ht]; exact hP, va_K.moved hW.alike hK, hD⟩, hS.F ht⟩) hS.2.2 dX5_endInnermost_10
