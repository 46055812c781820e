/-! X6_stepOn -/
abbrev rmX6_stepOn : Room := { frames := 0, cells := 0, slots := 0, locals := 0 }
set_option maxHeartbeats 4000000 in
set_option maxRecDepth 100000 in
theorem c_X6_stepOn (l : Launch) (D : va_G) (cI cZ : ClassId) (a : Nat → Nat) (sz : Nat) (S : Ob × (Nat → Int32)) (p0 : Int32) (Q : (Ob × (Nat → Int32)) → Prop) (h : wp_X6_stepOn S p0 Q) : Met l yX6_stepOn (wsm yX6_stepOn cX6_stepOn 2 none) rmX6_stepOn (va_Pc [.ref (a 0), .int p0] (preW D cI cZ sz (wX6 cI cZ a S))) (va_Qv Q (fun u => atW D cI cZ (va_A (wX6 cI cZ a S) sz) (wX6 cI cZ a u)) (va_A (wX6 cI cZ a S) sz)) 0 0 (va_A (wX6 cI cZ a S) sz) := by
  refine Met.ofW (cc := cX6_stepOn) (maxL := 2) (ret := none) (by decide) rfl ?_
  intro p e s m args below meth c s₁ B hml hv
  obtain ⟨rfl, hsz, hP, hK, hD0⟩ := hv
  have hx := B.exec
  have hb := B.bytes
  have hr := B.returns
  have hts0 := atoms_spec (ws := wsm yX6_stepOn cX6_stepOn 2 none) B.pre
  have hts : ∀ w ∈ lw_all, w.before _ s = true := fun w h => hts0 w (List.mem_cons_of_mem _ h)
  have hown : s.vm.findClass RX6 = some m.cls := findClass_of_methodNamed B.named
  have hlocks := B.notSynchronized
  subst hsz
  have hD := hD0.self (sz := s.heap.size)
  generalize hAe : va_A (wX6 cI cZ a S) s.heap.size = A at hD ⊢
  have hA : ∀ q : Nat, s.heap.size ≤ q → A q := fun q h => by rw [← hAe]; exact Or.inr h
  have hS : va_S A s.heap s.heap [] := va_S.rf
  have hml2 := hml
  have hl := lv_entry ([.ref (a 0), .int p0]) (n := 2) (Nat.le_of_ble_eq_true rfl)
  rw [lg_entry_eq]
  generalize (lg_sl ([.ref (a 0), .int p0]) ++ List.replicate (2 - (lg_sl ([.ref (a 0), .int p0])).length) Slot.unset).toArray = ls at hl ⊢
  have hl : lv_has ls 2 [(0, .ref (a 0)), (1, .int p0)] := hl
  unfold wp_X6_stepOn at h
  refine lv_aload_n hx hb dX6_stepOn_0 rfl (lv_at hl 0 rfl) ?_
  refine va_get (D := D) (ci := 5) (v := .int (S.1.1 4)) (C := RX6) (T := TX6) (N := 7) hx hb hts inX6 hown hK hP 0 rfl rfl 4 (by decide) (hts _ q_403) (fun _ h9 => h9) rfl dX6_stepOn_1 ?_
  refine lv_sipush (v := 512) hx hb dX6_stepOn_4 (by decide) ?_
  refine lv_icmp_ge (tgt := 37) hx hb dX6_stepOn_7 (by decide) (fun c1 => ?_) (fun c1 => ?_)
  · have h := h.1 c1
    exact W.vret hx hb hr (fun t ht hW => ⟨⟨S, rfl, h, by rw [ht]; exact hP, va_K.moved hW.alike hK, hD⟩, hS.F ht⟩) hS.2.2 dX6_stepOn_37
  · have h := h.2 c1
    refine lv_aload_n hx hb dX6_stepOn_10 rfl (lv_at hl 0 rfl) ?_
    refine va_get (D := D) (ci := 5) (v := .ref (a 1)) (C := RX6) (T := TX6) (N := 7) hx hb hts inX6 hown hK hP 0 rfl rfl 1 (by decide) (hts _ q_400) (fun _ h9 => h9) rfl dX6_stepOn_11 ?_
    refine lv_iload_n hx hb dX6_stepOn_14 rfl (lv_at hl 1 rfl) ?_
    refine lv_iconst (v := 1) hx hb dX6_stepOn_15 (by decide) ?_
    obtain ⟨T2, eT2⟩ : ∃ z : Ob, z = (sa S.1 1 (upd (S.1.2 1) (Int32.toNatClampNeg p0) 1)) := ⟨_, rfl⟩
    refine ar_is (f := (S.1.2 1)) (n := 512) (j := (Int32.toNatClampNeg p0)) (x := 1) hx hb hK hP hD hS 1 rfl rfl h.1 dX6_stepOn_16 (wX6 cI cZ a (T2, S.2)) (by subst eT2; rfl) (fun H locs hP hD hS => ?_)
    have h := h.2
    have h := h T2 eT2
    refine lv_aload_n hx hb dX6_stepOn_17 rfl (lv_at hl 0 rfl) ?_
    refine va_get (D := D) (ci := 5) (v := .ref (a 2)) (C := RX6) (T := TX6) (N := 7) hx hb hts inX6 hown hK hP 0 rfl rfl 2 (by decide) (hts _ q_401) (fun _ h9 => h9) rfl dX6_stepOn_18 ?_
    refine lv_aload_n hx hb dX6_stepOn_21 rfl (lv_at hl 0 rfl) ?_
    refine va_get (D := D) (ci := 5) (v := .int (T2.1 4)) (C := RX6) (T := TX6) (N := 7) hx hb hts inX6 hown hK hP 0 rfl rfl 4 (by decide) (hts _ q_403) (fun _ h9 => h9) rfl dX6_stepOn_22 ?_
    refine lv_iload_n hx hb dX6_stepOn_25 rfl (lv_at hl 1 rfl) ?_
    obtain ⟨T3, eT3⟩ : ∃ z : Ob, z = (sa T2 2 (upd (T2.2 2) (Int32.toNatClampNeg (T2.1 4)) p0)) := ⟨_, rfl⟩
    refine ar_is (f := (T2.2 2)) (n := 512) (j := (Int32.toNatClampNeg (T2.1 4))) (x := p0) hx hb hK hP hD hS 2 rfl rfl h.1 dX6_stepOn_26 (wX6 cI cZ a (T3, S.2)) (by subst eT3; rfl) (fun H locs hP hD hS => ?_)
    have h := h.2
    have h := h T3 eT3
    refine lv_aload_n hx hb dX6_stepOn_27 rfl (lv_at hl 0 rfl) ?_
    refine lv_dup hx hb dX6_stepOn_28 rfl ?_
    refine va_get (D := D) (ci := 5) (v := .int (T3.1 4)) (C := RX6) (T := TX6) (N := 7) hx hb hts inX6 hown hK hP 0 rfl rfl 4 (by decide) (hts _ q_403) (fun _ h9 => h9) rfl dX6_stepOn_29 ?_
    refine lv_iconst (v := 1) hx hb dX6_stepOn_32 (by decide) ?_
    refine lv_iadd hx hb dX6_stepOn_33 ?_
    obtain ⟨T4, eT4⟩ : ∃ z : Ob, z = (si T3 4 ((T3.1 4) + 1)) := ⟨_, rfl⟩
    refine pu_f (ci := 5) (v := .int ((T3.1 4) + 1)) (ty := .int) (C := RX6) (T := TX6) (N := 7) hx hb hts inX6 tyX6 tyX6_ok nmX6 hown hK hP hD hS 0 rfl rfl 4 (by decide) (hts _ q_403) (fun _ h9 => h9) rfl rfl rfl rfl (Nat.le_of_ble_eq_true rfl) dX6_stepOn_34 (wX6 cI cZ a (T4, S.2)) (by subst eT4; rfl) (fun H locs hP hD hS => ?_)
    have h := h T4 eT4
    exact W.vret hx hb hr (fun t ht hW => ⟨⟨(T4, S.2), rfl, h, by rw [ht]; exact hP, va_K.moved hW.alike hK, hD⟩, hS.F ht⟩) hS.2.2 dX6_stepOn_37
/-! X6_isOpenEnd -/
abbrev rmX6_isOpenEnd : Room := { frames := 0, cells := 0, slots := 0, locals := 0 }
set_option maxHeartbeats 4000000 in
set_option maxRecDepth 100000 in
theorem c_X6_isOpenEnd (l : Launch) (D : va_G) (cI cZ : ClassId) (sz : Nat) (S : Unit) (p0 : Int32) (Q : Int32 → Unit → Prop) (h : wp_X6_isOpenEnd S p0 Q) : Met l yX6_isOpenEnd (wsm yX6_isOpenEnd cX6_isOpenEnd 1 (some .boolean)) rmX6_isOpenEnd (va_Pc [.int p0] (preW D cI cZ sz (w0_ cI cZ S))) (va_Qi Q (fun u => atW D cI cZ (va_A (w0_ cI cZ S) sz) (w0_ cI cZ u)) (va_A (w0_ cI cZ S) sz)) 0 0 (va_A (w0_ cI cZ S) sz) := by
  refine Met.ofW (cc := cX6_isOpenEnd) (maxL := 1) (ret := (some .boolean)) (by decide) rfl ?_
  intro p e s m args below meth c s₁ B hml hv
  obtain ⟨rfl, hsz, hP, hK, hD0⟩ := hv
  have hx := B.exec
  have hb := B.bytes
  have hr := B.returns
  have hts0 := atoms_spec (ws := wsm yX6_isOpenEnd cX6_isOpenEnd 1 (some .boolean)) B.pre
  have hts : ∀ w ∈ lw_all, w.before _ s = true := fun w h => hts0 w (List.mem_cons_of_mem _ h)
  have hown : s.vm.findClass RX6 = some m.cls := findClass_of_methodNamed B.named
  have hlocks := B.notSynchronized
  subst hsz
  have hD := hD0.self (sz := s.heap.size)
  generalize hAe : va_A (w0_ cI cZ S) s.heap.size = A at hD ⊢
  have hA : ∀ q : Nat, s.heap.size ≤ q → A q := fun q h => by rw [← hAe]; exact Or.inr h
  have hS : va_S A s.heap s.heap [] := va_S.rf
  have hml2 := hml
  have hl := lv_entry ([.int p0]) (n := 1) (Nat.le_of_ble_eq_true rfl)
  rw [lg_entry_eq]
  generalize (lg_sl ([.int p0]) ++ List.replicate (1 - (lg_sl ([.int p0])).length) Slot.unset).toArray = ls at hl ⊢
  have hl : lv_has ls 1 [(0, .int p0)] := hl
  unfold wp_X6_isOpenEnd at h
  refine lv_iload_n hx hb dX6_isOpenEnd_0 rfl (lv_at hl 0 rfl) ?_
  refine lv_iconst (v := 1) hx hb dX6_isOpenEnd_1 (by decide) ?_
  refine lv_icmp_lt (tgt := 17) hx hb dX6_isOpenEnd_2 (by decide) (fun c1 => ?_) (fun c1 => ?_)
  · have h := h.1 c1
    refine lv_iconst (v := 1) hx hb dX6_isOpenEnd_17 (by decide) ?_
    refine lv_goto (tgt := 22) hx hb dX6_isOpenEnd_18 (by decide) ?_
    exact W.zret (ty := .boolean) (v := 1) hx hb hr (narB isB1) (fun t ht hW => ⟨⟨1, (), rfl, h, by rw [ht]; exact hP, va_K.moved hW.alike hK, hD⟩, hS.F ht⟩) hS.2.2 dX6_isOpenEnd_22
  · have h := h.2 c1
    refine lv_iload_n hx hb dX6_isOpenEnd_5 rfl (lv_at hl 0 rfl) ?_
    refine lv_bipush (v := 29) hx hb dX6_isOpenEnd_6 (by decide) ?_
    refine lv_icmp_gt (tgt := 17) hx hb dX6_isOpenEnd_8 (by decide) (fun c2 => ?_) (fun c2 => ?_)
    · have h := h.1 c2
      refine lv_iconst (v := 1) hx hb dX6_isOpenEnd_17 (by decide) ?_
      refine lv_goto (tgt := 22) hx hb dX6_isOpenEnd_18 (by decide) ?_
      exact W.zret (ty := .boolean) (v := 1) hx hb hr (narB isB1) (fun t ht hW => ⟨⟨1, (), rfl, h, by rw [ht]; exact hP, va_K.moved hW.alike hK, hD⟩, hS.F ht⟩) hS.2.2 dX6_isOpenEnd_22
    · have h := h.2 c2
      refine lv_iload_n hx hb dX6_isOpenEnd_11 rfl (lv_at hl 0 rfl) ?_
      refine lv_bipush (v := 19) hx hb dX6_isOpenEnd_12 (by decide) ?_
      refine lv_icmp_ne (tgt := 21) hx hb dX6_isOpenEnd_14 (by decide) (fun c3 => ?_) (fun c3 => ?_)
      · have h := h.1 c3
        refine lv_iconst (v := 0) hx hb dX6_isOpenEnd_21 (by decide) ?_
        exact W.zret (ty := .boolean) (v := 0) hx hb hr (narB isB0) (fun t ht hW => ⟨⟨0, (), rfl, h, by rw [ht]; exact hP, va_K.moved hW.alike hK, hD⟩, hS.F ht⟩) hS.2.2 dX6_isOpenEnd_22
      · have h := h.2 c3
        refine lv_iconst (v := 1) hx hb dX6_isOpenEnd_17 (by decide) ?_
        refine lv_goto (tgt := 22) hx hb dX6_isOpenEnd_18 (by decide) ?_
        exact W.zret (ty := .boolean) (v := 1) hx hb hr (narB isB1) (fun t ht hW => ⟨⟨1, (), rfl, h, by rw [ht]; exact hP, va_K.moved hW.alike hK, hD⟩, hS.F ht⟩) hS.2.2 dX6_isOpenEnd_22
/-! X6_placeBehind -/
abbrev rmX6_placeBehind : Room := { frames := 1, cells := 0, slots := 0, locals := 20 }
set_option maxHeartbeats 4000000 in
set_option maxRecDepth 100000 in
theorem c_X6_placeBehind (l : Launch) (D : va_G) (cI cZ : ClassId) (a : Nat → Nat) (sz : Nat) (S : Ob × (Nat → Int32)) (p0 : Int32) (Q : Int32 → (Ob × (Nat → Int32)) → Prop) (h : wp_X6_placeBehind S p0 Q) : Met l yX6_placeBehind (wsm yX6_placeBehind cX6_placeBehind 3 (some .int)) rmX6_placeBehind (va_Pc [.ref (a 0), .int p0] (preT D cI cZ sz (wX6 cI cZ a S))) (va_Qi Q (fun u => atW D cI cZ (va_A (wX6 cI cZ a S) sz) (wX6 cI cZ a u)) (va_A (wX6 cI cZ a S) sz)) 0 0 (va_A (wX6 cI cZ a S) sz) := by
  refine Met.ofW (cc := cX6_placeBehind) (maxL := 3) (ret := (some .int)) (by decide) rfl ?_
  intro p e s m args below meth c s₁ B hml hv
  obtain ⟨rfl, ⟨hsz, hP, hK, hD0⟩, hF⟩ := hv
  have hx := B.exec
  have hb := B.bytes
  have hr := B.returns
  have hts0 := atoms_spec (ws := wsm yX6_placeBehind cX6_placeBehind 3 (some .int)) B.pre
  have hts : ∀ w ∈ lw_all, w.before _ s = true := fun w h => hts0 w (List.mem_cons_of_mem _ h)
  have hown : s.vm.findClass RX6 = some m.cls := findClass_of_methodNamed B.named
  have hlocks := B.notSynchronized
  subst hsz
  have hD := hD0.self (sz := s.heap.size)
  generalize hAe : va_A (wX6 cI cZ a S) s.heap.size = A at hD hF ⊢
  have hA : ∀ q : Nat, s.heap.size ≤ q → A q := fun q h => by rw [← hAe]; exact Or.inr h
  have hS : va_S A s.heap s.heap [] := va_S.rf
  have hml2 := hml
  have hl := lv_entry ([.ref (a 0), .int p0]) (n := 3) (Nat.le_of_ble_eq_true rfl)
  rw [lg_entry_eq]
  generalize (lg_sl ([.ref (a 0), .int p0]) ++ List.replicate (3 - (lg_sl ([.ref (a 0), .int p0])).length) Slot.unset).toArray = ls at hl ⊢
  have hl : lv_has ls 3 [(0, .ref (a 0)), (1, .int p0)] := hl
  unfold wp_X6_placeBehind at h
  refine lv_aload_n hx hb dX6_placeBehind_0 rfl (lv_at hl 0 rfl) ?_
  refine va_get (D := D) (ci := 5) (v := .ref (a 6)) (C := RX6) (T := TX6) (N := 7) hx hb hts inX6 hown hK hP 0 rfl rfl 0 (by decide) (hts _ q_399) (fun _ h9 => h9) rfl dX6_placeBehind_1 ?_
  refine lv_iload_n hx hb dX6_placeBehind_4 rfl (lv_at hl 1 rfl) ?_
  refine ar_il (f := S.2) (n := 512) (j := (Int32.toNatClampNeg p0)) hx hb hK hP 6 rfl rfl h.1 dX6_placeBehind_5 ?_
  have h := h.2
  refine lv_topi (fun x1 ex1 => ?_)
  have h := h x1 ex1
  refine lv_istore_n (lv' := [(2, .int x1), (0, .ref (a 0)), (1, .int p0)]) hx hb dX6_placeBehind_6 rfl hl (by decide) rfl (fun ls hl => ?_)
  refine lv_iload_n hx hb dX6_placeBehind_7 rfl (lv_at hl 0 rfl) ?_
  refine cl_i (ws' := fun u2 => (wX6 cI cZ a S)) (va_runS (As := [.int x1]) (rest := []) ⟨hx, hb, hml, hown, hts⟩ (c_X6_isOpenEnd l D cI cZ _ () x1 _ h ) (va_cwS 1 hts (gS q_907 q_908 q_74 q_909) rfl rfl rfl (by decide +kernel) ⟨Nat.le_of_ble_eq_true rfl, Nat.le_of_ble_eq_true rfl⟩) (preS_of hK hP hD [] rfl rfl (by decide)) rfl rfl hl.1 rfl (lv_room (Nat.le_of_ble_eq_true rfl)) dX6_placeBehind_8 ⟨Nat.zero_le _, Nat.zero_le _⟩) hP hD hS hA [] [.inr 0, .inr 1, .inr 2, .inr 3, .inr 4, .inr 5, .inr 6] rfl (by decide) (fun _ => rfl) (fun _ => rfl) (fun r3 u2 H locs h hP hD hS => ?_)
  refine lv_if_ne (tgt := 26) hx hb dX6_placeBehind_11 (by decide) (fun c4 => ?_) (fun c4 => ?_)
  · have h := h.1 c4
    refine lv_iconst (v := -1) hx hb dX6_placeBehind_26 (by decide) ?_
    exact W.iret (v := (-1)) hx hb hr (fun t ht hW => ⟨⟨(-1), S, rfl, h, by rw [ht]; exact hP, va_K.moved hW.alike hK, hD⟩, hS.F ht⟩) hS.2.2 dX6_placeBehind_27
  · have h := h.2 c4
    refine lv_iload_n hx hb dX6_placeBehind_14 rfl (lv_at hl 0 rfl) ?_
    refine lv_bipush (v := 11) hx hb dX6_placeBehind_15 (by decide) ?_
    refine lv_icmp_eq (tgt := 26) hx hb dX6_placeBehind_17 (by decide) (fun c5 => ?_) (fun c5 => ?_)
    · have h := h.1 c5
      refine lv_iconst (v := -1) hx hb dX6_placeBehind_26 (by decide) ?_
      exact W.iret (v := (-1)) hx hb hr (fun t ht hW => ⟨⟨(-1), S, rfl, h, by rw [ht]; exact hP, va_K.moved hW.alike hK, hD⟩, hS.F ht⟩) hS.2.2 dX6_placeBehind_27
    · have h := h.2 c5
      refine lv_iload_n hx hb dX6_placeBehind_20 rfl (lv_at hl 0 rfl) ?_
      refine lv_bipush (v := 18) hx hb dX6_placeBehind_21 (by decide) ?_
      refine lv_icmp_ne (tgt := 28) hx hb dX6_placeBehind_23 (by decide) (fun c6 => ?_) (fun c6 => ?_)
      · have h := h.1 c6
        refine lv_iload_n hx hb dX6_placeBehind_28 rfl (lv_at hl 2 rfl) ?_
        obtain ⟨t7, hZt7, hTt7⟩ := hF.1.1
        refine va_getsN (C := "RankEntry") hx hb hZt7 hS hown (va_Nw.use rfl hF.2.1.2.2.1) (fun _ h9 => h9) dX6_placeBehind_29 ?_
        refine lv_iload_n hx hb dX6_placeBehind_32 rfl (lv_at hl 0 rfl) ?_
        refine va_ti hx hb hTt7 hS h.1 (v := .int (tabL (Int32.toNatClampNeg x1))) rfl dX6_placeBehind_33 ?_
        have h := h.2
        refine lv_iadd hx hb dX6_placeBehind_34 ?_
        refine lv_sipush (v := 511) hx hb dX6_placeBehind_35 (by decide) ?_
        refine lv_iand hx hb dX6_placeBehind_38 ?_
        exact W.iret (v := ((p0 + (tabL (Int32.toNatClampNeg x1))) &&& 511)) hx hb hr (fun t ht hW => ⟨⟨((p0 + (tabL (Int32.toNatClampNeg x1))) &&& 511), S, rfl, h, by rw [ht]; exact hP, va_K.moved hW.alike hK, hD⟩, hS.F ht⟩) hS.2.2 dX6_placeBehind_39
      · have h := h.2 c6
        refine lv_iconst (v := -1) hx hb dX6_placeBehind_26 (by decide) ?_
        exact W.iret (v := (-1)) hx hb hr (fun t ht hW => ⟨⟨(-1), S, rfl, h, by rw [ht]; exact hP, va_K.moved hW.alike hK, hD⟩, hS.F ht⟩) hS.2.2 dX6_placeBehind_27
/-! X6_placeTold -/
abbrev rmX6_placeTold : Room := { frames := 0, cells := 0, slots := 0, locals := 0 }
set_option maxHeartbeats 4000000 in
set_option maxRecDepth 100000 in
theorem c_X6_placeTold (l : Launch) (D : va_G) (cI cZ : ClassId) (a : Nat → Nat) (sz : Nat) (S : Ob × (Nat → Int32)) (p0 : Int32) (Q : Int32 → (Ob × (Nat → Int32)) → Prop) (h : wp_X6_placeTold S p0 Q) : Met l yX6_placeTold (wsm yX6_placeTold cX6_placeTold 2 (some .int)) rmX6_placeTold (va_Pc [.ref (a 0), .int p0] (preW D cI cZ sz (wX6 cI cZ a S))) (va_Qi Q (fun u => atW D cI cZ (va_A (wX6 cI cZ a S) sz) (wX6 cI cZ a u)) (va_A (wX6 cI cZ a S) sz)) 0 0 (va_A (wX6 cI cZ a S) sz) := by
  refine Met.ofW (cc := cX6_placeTold) (maxL := 2) (ret := (some .int)) (by decide) rfl ?_
  intro p e s m args below meth c s₁ B hml hv
  obtain ⟨rfl, hsz, hP, hK, hD0⟩ := hv
  have hx := B.exec
  have hb := B.bytes
  have hr := B.returns
  have hts0 := atoms_spec (ws := wsm yX6_placeTold cX6_placeTold 2 (some .int)) B.pre
  have hts : ∀ w ∈ lw_all, w.before _ s = true := fun w h => hts0 w (List.mem_cons_of_mem _ h)
  have hown : s.vm.findClass RX6 = some m.cls := findClass_of_methodNamed B.named
  have hlocks := B.notSynchronized
  subst hsz
  have hD := hD0.self (sz := s.heap.size)
  generalize hAe : va_A (wX6 cI cZ a S) s.heap.size = A at hD ⊢
  have hA : ∀ q : Nat, s.heap.size ≤ q → A q := fun q h => by rw [← hAe]; exact Or.inr h
  have hS : va_S A s.heap s.heap [] := va_S.rf
  have hml2 := hml
  have hl := lv_entry ([.ref (a 0), .int p0]) (n := 2) (Nat.le_of_ble_eq_true rfl)
  rw [lg_entry_eq]
  generalize (lg_sl ([.ref (a 0), .int p0]) ++ List.replicate (2 - (lg_sl ([.ref (a 0), .int p0])).length) Slot.unset).toArray = ls at hl ⊢
  have hl : lv_has ls 2 [(0, .ref (a 0)), (1, .int p0)] := hl
  unfold wp_X6_placeTold at h
  refine lv_aload_n hx hb dX6_placeTold_0 rfl (lv_at hl 0 rfl) ?_
  refine va_get (D := D) (ci := 5) (v := .ref (a 6)) (C := RX6) (T := TX6) (N := 7) hx hb hts inX6 hown hK hP 0 rfl rfl 0 (by decide) (hts _ q_399) (fun _ h9 => h9) rfl dX6_placeTold_1 ?_
  refine lv_iload_n hx hb dX6_placeTold_4 rfl (lv_at hl 1 rfl) ?_
  refine ar_il (f := S.2) (n := 512) (j := (Int32.toNatClampNeg p0)) hx hb hK hP 6 rfl rfl h.1 dX6_placeTold_5 ?_
  have h := h.2
  refine lv_bipush (v := 11) hx hb dX6_placeTold_6 (by decide) ?_
  refine lv_icmp_lt (tgt := 22) hx hb dX6_placeTold_8 (by decide) (fun c1 => ?_) (fun c1 => ?_)
  · have h := h.1 c1
    refine lv_iconst (v := -1) hx hb dX6_placeTold_22 (by decide) ?_
    exact W.iret (v := (-1)) hx hb hr (fun t ht hW => ⟨⟨(-1), S, rfl, h, by rw [ht]; exact hP, va_K.moved hW.alike hK, hD⟩, hS.F ht⟩) hS.2.2 dX6_placeTold_23
  · have h := h.2 c1
    refine lv_aload_n hx hb dX6_placeTold_11 rfl (lv_at hl 0 rfl) ?_
    refine va_get (D := D) (ci := 5) (v := .ref (a 6)) (C := RX6) (T := TX6) (N := 7) hx hb hts inX6 hown hK hP 0 rfl rfl 0 (by decide) (hts _ q_399) (fun _ h9 => h9) rfl dX6_placeTold_12 ?_
    refine lv_iload_n hx hb dX6_placeTold_15 rfl (lv_at hl 1 rfl) ?_
    refine ar_il (f := S.2) (n := 512) (j := (Int32.toNatClampNeg p0)) hx hb hK hP 6 rfl rfl h.1 dX6_placeTold_16 ?_
    have h := h.2
    refine lv_bipush (v := 13) hx hb dX6_placeTold_17 (by decide) ?_
    refine lv_icmp_le (tgt := 24) hx hb dX6_placeTold_19 (by decide) (fun c2 => ?_) (fun c2 => ?_)
    · have h := h.1 c2
      refine lv_sipush (v := 256) hx hb dX6_placeTold_24 (by decide) ?_
      refine lv_aload_n hx hb dX6_placeTold_27 rfl (lv_at hl 0 rfl) ?_
      refine va_get (D := D) (ci := 5) (v := .ref (a 6)) (C := RX6) (T := TX6) (N := 7) hx hb hts inX6 hown hK hP 0 rfl rfl 0 (by decide) (hts _ q_399) (fun _ h9 => h9) rfl dX6_placeTold_28 ?_
      refine lv_iload_n hx hb dX6_placeTold_31 rfl (lv_at hl 1 rfl) ?_
      refine lv_iconst (v := 1) hx hb dX6_placeTold_32 (by decide) ?_
      refine lv_iadd hx hb dX6_placeTold_33 ?_
      refine lv_sipush (v := 511) hx hb dX6_placeTold_34 (by decide) ?_
      refine lv_iand hx hb dX6_placeTold_37 ?_
      refine ar_il (f := S.2) (n := 512) (j := (Int32.toNatClampNeg ((p0 + 1) &&& 511))) hx hb hK hP 6 rfl rfl h.1 dX6_placeTold_38 ?_
      have h := h.2
      refine lv_imul hx hb dX6_placeTold_39 ?_
      refine lv_aload_n hx hb dX6_placeTold_40 rfl (lv_at hl 0 rfl) ?_
      refine va_get (D := D) (ci := 5) (v := .ref (a 6)) (C := RX6) (T := TX6) (N := 7) hx hb hts inX6 hown hK hP 0 rfl rfl 0 (by decide) (hts _ q_399) (fun _ h9 => h9) rfl dX6_placeTold_41 ?_
      refine lv_iload_n hx hb dX6_placeTold_44 rfl (lv_at hl 1 rfl) ?_
      refine lv_iconst (v := 2) hx hb dX6_placeTold_45 (by decide) ?_
      refine lv_iadd hx hb dX6_placeTold_46 ?_
      refine lv_sipush (v := 511) hx hb dX6_placeTold_47 (by decide) ?_
      refine lv_iand hx hb dX6_placeTold_50 ?_
      refine ar_il (f := S.2) (n := 512) (j := (Int32.toNatClampNeg ((p0 + 2) &&& 511))) hx hb hK hP 6 rfl rfl h.1 dX6_placeTold_51 ?_
      have h := h.2
      refine lv_iadd hx hb dX6_placeTold_52 ?_
      refine lv_sipush (v := 511) hx hb dX6_placeTold_53 (by decide) ?_
      refine lv_iand hx hb dX6_placeTold_56 ?_
      exact W.iret (v := (((256 * (S.2 (Int32.toNatClampNeg ((p0 + 1) &&& 511)))) + (S.2 (Int32.toNatClampNeg ((p0 + 2) &&& 511)))) &&& 511)) hx hb hr (fun t ht hW => ⟨⟨(((256 * (S.2 (Int32.toNatClampNeg ((p0 + 1) &&& 511)))) + (S.2 (Int32.toNatClampNeg ((p0 + 2) &&& 511)))) &&& 511), S, rfl, h, by rw [ht]; exact hP, va_K.moved hW.alike hK, hD⟩, hS.F ht⟩) hS.2.2 dX6_placeTold_57
    · have h := h.2 c2
      refine lv_iconst (v := -1) hx hb dX6_placeTold_22 (by decide) ?_
      exact W.iret (v := (-1)) hx hb hr (fun t ht hW => ⟨⟨(-1), S, rfl, h, by rw [ht]; exact hP, va_K.moved hW.alike hK, hD⟩, hS.F ht⟩) hS.2.2 dX6_placeTold_23
/-! X6_isMarked -/
abbrev rmX6_isMarked : Room := { frames := 0, cells := 0, slots := 0, locals := 0 }
set_option maxHeartbeats 4000000 in
set_option maxRecDepth 100000 in
theorem c_X6_isMarked (l : Launch) (D : va_G) (cI cZ : ClassId) (a : Nat → Nat) (sz : Nat) (S : Ob × (Nat → Int32)) (p0 : Int32) (p1 : Int32) (Q : Int32 → (Ob × (Nat → Int32)) → Prop) (h : wp_X6_isMarked S p0 p1 Q) : Met l yX6_isMarked (wsm yX6_isMarked cX6_isMarked 3 (some .boolean)) rmX6_isMarked (va_Pc [.ref (a 0), .int p0, .int p1] (preW D cI cZ sz (wX6 cI cZ a S))) (va_Qi Q (fun u => atW D cI cZ (va_A (wX6 cI cZ a S) sz) (wX6 cI cZ a u)) (va_A (wX6 cI cZ a S) sz)) 0 0 (va_A (wX6 cI cZ a S) sz) := by
  refine Met.ofW (cc := cX6_isMarked) (maxL := 3) (ret := (some .boolean)) (by decide) rfl ?_
  intro p e s m args below meth c s₁ B hml hv
  obtain ⟨rfl, hsz, hP, hK, hD0⟩ := hv
  have hx := B.exec
  have hb := B.bytes
  have hr := B.returns
  have hts0 := atoms_spec (ws := wsm yX6_isMarked cX6_isMarked 3 (some .boolean)) B.pre
  have hts : ∀ w ∈ lw_all, w.before _ s = true := fun w h => hts0 w (List.mem_cons_of_mem _ h)
  have hown : s.vm.findClass RX6 = some m.cls := findClass_of_methodNamed B.named
  have hlocks := B.notSynchronized
  subst hsz
  have hD := hD0.self (sz := s.heap.size)
  generalize hAe : va_A (wX6 cI cZ a S) s.heap.size = A at hD ⊢
  have hA : ∀ q : Nat, s.heap.size ≤ q → A q := fun q h => by rw [← hAe]; exact Or.inr h
  have hS : va_S A s.heap s.heap [] := va_S.rf
  have hml2 := hml
  have hl := lv_entry ([.ref (a 0), .int p0, .int p1]) (n := 3) (Nat.le_of_ble_eq_true rfl)
  rw [lg_entry_eq]
  generalize (lg_sl ([.ref (a 0), .int p0, .int p1]) ++ List.replicate (3 - (lg_sl ([.ref (a 0), .int p0, .int p1])).length) Slot.unset).toArray = ls at hl ⊢
  have hl : lv_has ls 3 [(0, .ref (a 0)), (1, .int p0), (2, .int p1)] := hl
  unfold wp_X6_isMarked at h
  refine lv_iload_n hx hb dX6_isMarked_0 rfl (lv_at hl 1 rfl) ?_
  refine lv_iconst (v := -1) hx hb dX6_isMarked_1 (by decide) ?_
  refine lv_icmp_eq (tgt := 19) hx hb dX6_isMarked_2 (by decide) (fun c1 => ?_) (fun c1 => ?_)
  · have h := h.1 c1
    refine lv_iconst (v := 0) hx hb dX6_isMarked_19 (by decide) ?_
    exact W.zret (ty := .boolean) (v := 0) hx hb hr (narB isB0) (fun t ht hW => ⟨⟨0, S, rfl, h, by rw [ht]; exact hP, va_K.moved hW.alike hK, hD⟩, hS.F ht⟩) hS.2.2 dX6_isMarked_20
  · have h := h.2 c1
    refine lv_aload_n hx hb dX6_isMarked_5 rfl (lv_at hl 0 rfl) ?_
    refine va_get (D := D) (ci := 5) (v := .ref (a 1)) (C := RX6) (T := TX6) (N := 7) hx hb hts inX6 hown hK hP 0 rfl rfl 1 (by decide) (hts _ q_400) (fun _ h9 => h9) rfl dX6_isMarked_6 ?_
    refine lv_iload_n hx hb dX6_isMarked_9 rfl (lv_at hl 1 rfl) ?_
    refine ar_il (f := (S.1.2 1)) (n := 512) (j := (Int32.toNatClampNeg p0)) hx hb hK hP 1 rfl rfl h.1 dX6_isMarked_10 ?_
    have h := h.2
    refine lv_iload_n hx hb dX6_isMarked_11 rfl (lv_at hl 2 rfl) ?_
    refine lv_icmp_ne (tgt := 19) hx hb dX6_isMarked_12 (by decide) (fun c2 => ?_) (fun c2 => ?_)
    · have h := h.1 c2
      refine lv_iconst (v := 0) hx hb dX6_isMarked_19 (by decide) ?_
      exact W.zret (ty := .boolean) (v := 0) hx hb hr (narB isB0) (fun t ht hW => ⟨⟨0, S, rfl, h, by rw [ht]; exact hP, va_K.moved hW.alike hK, hD⟩, hS.F ht⟩) hS.2.2 dX6_isMarked_20
    · have h := h.2 c2
      refine lv_iconst (v := 1) hx hb dX6_isMarked_15 (by decide) ?_
      refine lv_goto (tgt := 20) hx hb dX6_isMarked_16 (by decide) ?_
      exact W.zret (ty := .boolean) (v := 1) hx hb hr (narB isB1) (fun t ht hW => ⟨⟨1, S, rfl, h, by rw [ht]; exact hP, va_K.moved hW.alike hK, hD⟩, hS.F ht⟩) hS.2.2 dX6_isMarked_20
/-! X6_measure -/
abbrev rmX6_measure : Room := { frames := 1, cells := 0, slots := 0, locals := 30 }
set_option maxHeartbeats 4000000 in
set_option maxRecDepth 100000 in
theorem c_X6_measure (l : Launch) (D : va_G) (cI cZ : ClassId) (a : Nat → Nat) (sz : Nat) (S : Ob × (Nat → Int32)) (p0 : Int32) (p1 : Int32) (p2 : Int32) (Q : (Ob × (Nat → Int32)) → Prop) (h : wp_X6_measure S p0 p1 p2 Q) : Met l yX6_measure (wsm yX6_measure cX6_measure 7 none) rmX6_measure (va_Pc [.ref (a 0), .int p0, .int p1, .int p2] (preT D cI cZ sz (wX6 cI cZ a S))) (va_Qv Q (fun u => atW D cI cZ (va_A (wX6 cI cZ a S) sz) (wX6 cI cZ a u)) (va_A (wX6 cI cZ a S) sz)) 0 0 (va_A (wX6 cI cZ a S) sz) := by
  refine Met.ofW (cc := cX6_measure) (maxL := 7) (ret := none) (by decide) rfl ?_
  intro p e s m args below meth c s₁ B hml hv
  obtain ⟨rfl, ⟨hsz, hP, hK, hD0⟩, hF⟩ := hv
  have hx := B.exec
  have hb := B.bytes
  have hr := B.returns
  have hts0 := atoms_spec (ws := wsm yX6_measure cX6_measure 7 none) B.pre
  have hts : ∀ w ∈ lw_all, w.before _ s = true := fun w h => hts0 w (List.mem_cons_of_mem _ h)
  have hown : s.vm.findClass RX6 = some m.cls := findClass_of_methodNamed B.named
  have hlocks := B.notSynchronized
  subst hsz
  have hD := hD0.self (sz := s.heap.size)
  generalize hAe : va_A (wX6 cI cZ a S) s.heap.size = A at hD hF ⊢
  have hA : ∀ q : Nat, s.heap.size ≤ q → A q := fun q h => by rw [← hAe]; exact Or.inr h
  have hS : va_S A s.heap s.heap [] := va_S.rf
  have hml2 := hml
  have L91 : ∀ (y1 : Int32) (y4 : Int32) (y6 : Int32) (z0 : Int32) (z1 : Int32) (z2 : Int32) (T : Ob × (Nat → Int32)) (H : Heap) (locs : List Loc) (ls : Array Slot), va_P D vwCl (wX6 cI cZ a T) H → va_D A (wX6 cI cZ a T) → va_S A s.heap H locs → lv_has ls 7 [(0, .ref (a 0)), (1, .int y1), (4, .int y4), (6, .int y6)] → wp_X6_measure_L91 Q y1 y4 y6 z0 z1 z2 T → W p l e rmX6_measure s m ([.ref (a 0), .int p0, .int p1, .int p2] : List Value).toArray below meth c H locs 0 0 (MQ below (va_Qv Q (fun u => atW D cI cZ A (wX6 cI cZ a u)) A) ([.ref (a 0), .int p0, .int p1, .int p2] : List Value).toArray s 0 0 A) (F0 m 91 ls [.int z0, .int z1, .int z2, .ref (a 4)]) := by
    intro y1 y4 y6 z0 z1 z2 T H locs ls hP hD hS hl h
    unfold wp_X6_measure_L91 at h
    refine lv_iadd hx hb dX6_measure_91 ?_
    obtain ⟨T12, eT12⟩ : ∃ z : Ob, z = (sa T.1 5 (upd (T.1.2 5) (Int32.toNatClampNeg z2) (z1 + z0))) := ⟨_, rfl⟩
    refine ar_is (f := (T.1.2 5)) (n := 512) (j := (Int32.toNatClampNeg z2)) (x := (z1 + z0)) hx hb hK hP hD hS 4 rfl rfl h.1 dX6_measure_92 (wX6 cI cZ a (T12, T.2)) (by subst eT12; rfl) (fun H locs hP hD hS => ?_)
    have h := h.2
    have h := h T12 eT12
    refine lv_aload_n hx hb dX6_measure_93 rfl (lv_at hl 0 rfl) ?_
    refine va_get (D := D) (ci := 5) (v := .ref (a 5)) (C := RX6) (T := TX6) (N := 7) hx hb hts inX6 hown hK hP 0 rfl rfl 6 (by decide) (hts _ q_406) (fun _ h9 => h9) rfl dX6_measure_94 ?_
    refine lv_iload_n hx hb dX6_measure_97 rfl (lv_at hl 1 rfl) ?_
    refine lv_iconst (v := 0) hx hb dX6_measure_98 (by decide) ?_
    refine lv_iload hx hb dX6_measure_99 (lv_at hl 3 rfl) ?_
    refine lv_iload hx hb dX6_measure_101 (lv_at hl 2 rfl) ?_
    refine lv_bipush (v := 9) hx hb dX6_measure_103 (by decide) ?_
    refine lv_icmp_ne (tgt := 112) hx hb dX6_measure_105 (by decide) (fun c13 => ?_) (fun c13 => ?_)
    · have h := h.1 c13
      refine lv_iconst (v := 0) hx hb dX6_measure_112 (by decide) ?_
      refine lv_iadd hx hb dX6_measure_113 ?_
      refine lv_iload hx hb dX6_measure_114 (lv_at hl 2 rfl) ?_
      refine lv_bipush (v := 10) hx hb dX6_measure_116 (by decide) ?_
      refine lv_icmp_ne (tgt := 125) hx hb dX6_measure_118 (by decide) (fun c14 => ?_) (fun c14 => ?_)
      · have h := h.1 c14
        refine lv_iconst (v := 0) hx hb dX6_measure_125 (by decide) ?_
        refine lv_isub hx hb dX6_measure_126 ?_
        refine mm_max hx hb hml2 hown (hts _ q_923) (hts _ q_666) (hts _ q_77) (hts _ q_667) (Nat.le_of_ble_eq_true rfl) (Nat.le_of_ble_eq_true rfl) (Nat.zero_le _) (Nat.zero_le _) dX6_measure_127 hl.1 ?_
        refine lv_topi (fun x15 ex15 => ?_)
        have h := h x15 ex15
        obtain ⟨T16, eT16⟩ : ∃ z : Ob, z = (sa T12 6 (upd (T12.2 6) (Int32.toNatClampNeg y1) x15)) := ⟨_, rfl⟩
        refine ar_is (f := (T12.2 6)) (n := 512) (j := (Int32.toNatClampNeg y1)) (x := x15) hx hb hK hP hD hS 5 rfl rfl h.1 dX6_measure_130 (wX6 cI cZ a (T16, T.2)) (by subst eT16; rfl) (fun H locs hP hD hS => ?_)
        have h := h.2
        have h := h T16 eT16
        refine lv_aload_n hx hb dX6_measure_131 rfl (lv_at hl 0 rfl) ?_
        refine va_get (D := D) (ci := 5) (v := .ref (a 1)) (C := RX6) (T := TX6) (N := 7) hx hb hts inX6 hown hK hP 0 rfl rfl 1 (by decide) (hts _ q_400) (fun _ h9 => h9) rfl dX6_measure_132 ?_
        refine lv_iload_n hx hb dX6_measure_135 rfl (lv_at hl 1 rfl) ?_
        refine lv_iconst (v := 2) hx hb dX6_measure_136 (by decide) ?_
        obtain ⟨T17, eT17⟩ : ∃ z : Ob, z = (sa T16 1 (upd (T16.2 1) (Int32.toNatClampNeg y1) 2)) := ⟨_, rfl⟩
        refine ar_is (f := (T16.2 1)) (n := 512) (j := (Int32.toNatClampNeg y1)) (x := 2) hx hb hK hP hD hS 1 rfl rfl h.1 dX6_measure_137 (wX6 cI cZ a (T17, T.2)) (by subst eT17; rfl) (fun H locs hP hD hS => ?_)
        have h := h.2
        have h := h T17 eT17
        exact W.vret hx hb hr (fun t ht hW => ⟨⟨(T17, T.2), rfl, h, by rw [ht]; exact hP, va_K.moved hW.alike hK, hD⟩, hS.F ht⟩) hS.2.2 dX6_measure_138
      · have h := h.2 c14
        refine lv_iconst (v := 1) hx hb dX6_measure_121 (by decide) ?_
        refine lv_goto (tgt := 126) hx hb dX6_measure_122 (by decide) ?_
        refine lv_isub hx hb dX6_measure_126 ?_
        refine mm_max hx hb hml2 hown (hts _ q_923) (hts _ q_666) (hts _ q_77) (hts _ q_667) (Nat.le_of_ble_eq_true rfl) (Nat.le_of_ble_eq_true rfl) (Nat.zero_le _) (Nat.zero_le _) dX6_measure_127 hl.1 ?_
        refine lv_topi (fun x18 ex18 => ?_)
        have h := h x18 ex18
        obtain ⟨T19, eT19⟩ : ∃ z : Ob, z = (sa T12 6 (upd (T12.2 6) (Int32.toNatClampNeg y1) x18)) := ⟨_, rfl⟩
        refine ar_is (f := (T12.2 6)) (n := 512) (j := (Int32.toNatClampNeg y1)) (x := x18) hx hb hK hP hD hS 5 rfl rfl h.1 dX6_measure_130 (wX6 cI cZ a (T19, T.2)) (by subst eT19; rfl) (fun H locs hP hD hS => ?_)
        have h := h.2
        have h := h T19 eT19
        refine lv_aload_n hx hb dX6_measure_131 rfl (lv_at hl 0 rfl) ?_
        refine va_get (D := D) (ci := 5) (v := .ref (a 1)) (C := RX6) (T := TX6) (N := 7) hx hb hts inX6 hown hK hP 0 rfl rfl 1 (by decide) (hts _ q_400) (fun _ h9 => h9) rfl dX6_measure_132 ?_
        refine lv_iload_n hx hb dX6_measure_135 rfl (lv_at hl 1 rfl) ?_
        refine lv_iconst (v := 2) hx hb dX6_measure_136 (by decide) ?_
        obtain ⟨T20, eT20⟩ : ∃ z : Ob, z = (sa T19 1 (upd (T19.2 1) (Int32.toNatClampNeg y1) 2)) := ⟨_, rfl⟩
        refine ar_is (f := (T19.2 1)) (n := 512) (j := (Int32.toNatClampNeg y1)) (x := 2) hx hb hK hP hD hS 1 rfl rfl h.1 dX6_measure_137 (wX6 cI cZ a (T20, T.2)) (by subst eT20; rfl) (fun H locs hP hD hS => ?_)
        have h := h.2
        have h := h T20 eT20
        exact W.vret hx hb hr (fun t ht hW => ⟨⟨(T20, T.2), rfl, h, by rw [ht]; exact hP, va_K.moved hW.alike hK, hD⟩, hS.F ht⟩) hS.2.2 dX6_measure_138
    · have h := h.2 c13
      refine lv_iconst (v := 1) hx hb dX6_measure_108 (by decide) ?_
      refine lv_goto (tgt := 113) hx hb dX6_measure_109 (by decide) ?_
      refine lv_iadd hx hb dX6_measure_113 ?_
      refine lv_iload hx hb dX6_measure_114 (lv_at hl 2 rfl) ?_
      refine lv_bipush (v := 10) hx hb dX6_measure_116 (by decide) ?_
      refine lv_icmp_ne (tgt := 125) hx hb dX6_measure_118 (by decide) (fun c21 => ?_) (fun c21 => ?_)
      · have h := h.1 c21
        refine lv_iconst (v := 0) hx hb dX6_measure_125 (by decide) ?_
        refine lv_isub hx hb dX6_measure_126 ?_
        refine mm_max hx hb hml2 hown (hts _ q_923) (hts _ q_666) (hts _ q_77) (hts _ q_667) (Nat.le_of_ble_eq_true rfl) (Nat.le_of_ble_eq_true rfl) (Nat.zero_le _) (Nat.zero_le _) dX6_measure_127 hl.1 ?_
        refine lv_topi (fun x22 ex22 => ?_)
        have h := h x22 ex22
        obtain ⟨T23, eT23⟩ : ∃ z : Ob, z = (sa T12 6 (upd (T12.2 6) (Int32.toNatClampNeg y1) x22)) := ⟨_, rfl⟩
        refine ar_is (f := (T12.2 6)) (n := 512) (j := (Int32.toNatClampNeg y1)) (x := x22) hx hb hK hP hD hS 5 rfl rfl h.1 dX6_measure_130 (wX6 cI cZ a (T23, T.2)) (by subst eT23; rfl) (fun H locs hP hD hS => ?_)
        have h := h.2
        have h := h T23 eT23
        refine lv_aload_n hx hb dX6_measure_131 rfl (lv_at hl 0 rfl) ?_
        refine va_get (D := D) (ci := 5) (v := .ref (a 1)) (C := RX6) (T := TX6) (N := 7) hx hb hts inX6 hown hK hP 0 rfl rfl 1 (by decide) (hts _ q_400) (fun _ h9 => h9) rfl dX6_measure_132 ?_
        refine lv_iload_n hx hb dX6_measure_135 rfl (lv_at hl 1 rfl) ?_
        refine lv_iconst (v := 2) hx hb dX6_measure_136 (by decide) ?_
        obtain ⟨T24, eT24⟩ : ∃ z : Ob, z = (sa T23 1 (upd (T23.2 1) (Int32.toNatClampNeg y1) 2)) := ⟨_, rfl⟩
        refine ar_is (f := (T23.2 1)) (n := 512) (j := (Int32.toNatClampNeg y1)) (x := 2) hx hb hK hP hD hS 1 rfl rfl h.1 dX6_measure_137 (wX6 cI cZ a (T24, T.2)) (by subst eT24; rfl) (fun H locs hP hD hS => ?_)
        have h := h.2
        have h := h T24 eT24
        exact W.vret hx hb hr (fun t ht hW => ⟨⟨(T24, T.2), rfl, h, by rw [ht]; exact hP, va_K.moved hW.alike hK, hD⟩, hS.F ht⟩) hS.2.2 dX6_measure_138
      · have h := h.2 c21
        refine lv_iconst (v := 1) hx hb dX6_measure_121 (by decide) ?_
        refine lv_goto (tgt := 126) hx hb dX6_measure_122 (by decide) ?_
        refine lv_isub hx hb dX6_measure_126 ?_
        refine mm_max hx hb hml2 hown (hts _ q_923) (hts _ q_666) (hts _ q_77) (hts _ q_667) (Nat.le_of_ble_eq_true rfl) (Nat.le_of_ble_eq_true rfl) (Nat.zero_le _) (Nat.zero_le _) dX6_measure_127 hl.1 ?_
        refine lv_topi (fun x25 ex25 => ?_)
        have h := h x25 ex25
        obtain ⟨T26, eT26⟩ : ∃ z : Ob, z = (sa T12 6 (upd (T12.2 6) (Int32.toNatClampNeg y1) x25)) := ⟨_, rfl⟩
        refine ar_is (f := (T12.2 6)) (n := 512) (j := (Int32.toNatClampNeg y1)) (x := x25) hx hb hK hP hD hS 5 rfl rfl h.1 dX6_measure_130 (wX6 cI cZ a (T26, T.2)) (by subst eT26; rfl) (fun H locs hP hD hS => ?_)
        have h := h.2
        have h := h T26 eT26
        refine lv_aload_n hx hb dX6_measure_131 rfl (lv_at hl 0 rfl) ?_
        refine va_get (D := D) (ci := 5) (v := .ref (a 1)) (C := RX6) (T := TX6) (N := 7) hx hb hts inX6 hown hK hP 0 rfl rfl 1 (by decide) (hts _ q_400) (fun _ h9 => h9) rfl dX6_measure_132 ?_
        refine lv_iload_n hx hb dX6_measure_135 rfl (lv_at hl 1 rfl) ?_
        refine lv_iconst (v := 2) hx hb dX6_measure_136 (by decide) ?_
        obtain ⟨T27, eT27⟩ : ∃ z : Ob, z = (sa T26 1 (upd (T26.2 1) (Int32.toNatClampNeg y1) 2)) := ⟨_, rfl⟩
        refine ar_is (f := (T26.2 1)) (n := 512) (j := (Int32.toNatClampNeg y1)) (x := 2) hx hb hK hP hD hS 1 rfl rfl h.1 dX6_measure_137 (wX6 cI cZ a (T27, T.2)) (by subst eT27; rfl) (fun H locs hP hD hS => ?_)
        have h := h.2
        have h := h T27 eT27
        exact W.vret hx hb hr (fun t ht hW => ⟨⟨(T27, T.2), rfl, h, by rw [ht]; exact hP, va_K.moved hW.alike hK, hD⟩, hS.F ht⟩) hS.2.2 dX6_measure_138
  have L66 : ∀ (y1 : Int32) (y4 : Int32) (y5 : Int32) (y6 : Int32) (T : Ob × (Nat → Int32)) (H : Heap) (locs : List Loc) (ls : Array Slot), va_P D vwCl (wX6 cI cZ a T) H → va_D A (wX6 cI cZ a T) → va_S A s.heap H locs → lv_has ls 7 [(0, .ref (a 0)), (1, .int y1), (4, .int y4), (5, .int y5), (6, .int y6)] → wp_X6_measure_L66 Q y1 y4 y5 y6 T → W p l e rmX6_measure s m ([.ref (a 0), .int p0, .int p1, .int p2] : List Value).toArray below meth c H locs 0 0 (MQ below (va_Qv Q (fun u => atW D cI cZ A (wX6 cI cZ a u)) A) ([.ref (a 0), .int p0, .int p1, .int p2] : List Value).toArray s 0 0 A) (F0 m 66 ls []) := by
    intro y1 y4 y5 y6 T H locs ls hP hD hS hl h
    unfold wp_X6_measure_L66 at h
    refine lv_aload_n hx hb dX6_measure_66 rfl (lv_at hl 0 rfl) ?_
    refine va_get (D := D) (ci := 5) (v := .ref (a 4)) (C := RX6) (T := TX6) (N := 7) hx hb hts inX6 hown hK hP 0 rfl rfl 5 (by decide) (hts _ q_404) (fun _ h9 => h9) rfl dX6_measure_67 ?_
    refine lv_iload_n hx hb dX6_measure_70 rfl (lv_at hl 1 rfl) ?_
    refine lv_iload hx hb dX6_measure_71 (lv_at hl 3 rfl) ?_
    refine lv_iload hx hb dX6_measure_73 (lv_at hl 2 rfl) ?_
    refine cl_i (ws' := fun u8 => (wX6 cI cZ a T)) (va_runS (As := [.int y4]) (rest := [.int y5, .int y1, .ref (a 4)]) ⟨hx, hb, hml, hown, hts⟩ (c_X6_isOpenEnd l D cI cZ _ () y4 _ h ) (va_cwS 1 hts (gS q_907 q_908 q_74 q_909) rfl rfl rfl (by decide +kernel) ⟨Nat.le_of_ble_eq_true rfl, Nat.le_of_ble_eq_true rfl⟩) (preS_of hK hP hD [] rfl rfl (by decide)) rfl rfl hl.1 rfl (lv_room (Nat.le_of_ble_eq_true rfl)) dX6_measure_75 ⟨Nat.zero_le _, Nat.zero_le _⟩) hP hD hS hA [] [.inr 0, .inr 1, .inr 2, .inr 3, .inr 4, .inr 5, .inr 6] rfl (by decide) (fun _ => rfl) (fun _ => rfl) (fun r9 u8 H locs h hP hD hS => ?_)
    refine lv_if_eq (tgt := 85) hx hb dX6_measure_78 (by decide) (fun c10 => ?_) (fun c10 => ?_)
    · have h := h.1 c10
      obtain ⟨t11, hZt11, hTt11⟩ := hF.1.2.1
      refine va_getsN (C := "RankEntry") hx hb hZt11 hS hown (va_Nw.use rfl hF.2.1.2.2.2) (fun _ h9 => h9) dX6_measure_85 ?_
      refine lv_iload hx hb dX6_measure_88 (lv_at hl 2 rfl) ?_
      refine va_ti hx hb hTt11 hS h.1 (v := .int (tabC (Int32.toNatClampNeg y4))) rfl dX6_measure_90 ?_
      have h := h.2
      exact L91 y1 y4 y6 (tabC (Int32.toNatClampNeg y4)) y5 y1 T _ _ _ hP hD hS (lv_sub hl [0, 1, 2, 4] rfl) h
    · have h := h.2 c10
      refine lv_iconst (v := 0) hx hb dX6_measure_81 (by decide) ?_
      refine lv_goto (tgt := 91) hx hb dX6_measure_82 (by decide) ?_
      exact L91 y1 y4 y6 0 y5 y1 T _ _ _ hP hD hS (lv_sub hl [0, 1, 2, 4] rfl) h
  have L35 : ∀ (y1 : Int32) (y3 : Int32) (y4 : Int32) (y5 : Int32) (y6 : Int32) (T : Ob × (Nat → Int32)) (H : Heap) (locs : List Loc) (ls : Array Slot), va_P D vwCl (wX6 cI cZ a T) H → va_D A (wX6 cI cZ a T) → va_S A s.heap H locs → lv_has ls 7 [(0, .ref (a 0)), (1, .int y1), (3, .int y3), (4, .int y4), (5, .int y5), (6, .int y6)] → wp_X6_measure_L35 Q y1 y3 y4 y5 y6 T → W p l e rmX6_measure s m ([.ref (a 0), .int p0, .int p1, .int p2] : List Value).toArray below meth c H locs 0 0 (MQ below (va_Qv Q (fun u => atW D cI cZ A (wX6 cI cZ a u)) A) ([.ref (a 0), .int p0, .int p1, .int p2] : List Value).toArray s 0 0 A) (F0 m 35 ls []) := by
    intro y1 y3 y4 y5 y6 T H locs ls hP hD hS hl h
    unfold wp_X6_measure_L35 at h
    refine lv_iload_n hx hb dX6_measure_35 rfl (lv_at hl 2 rfl) ?_
    refine lv_iconst (v := -1) hx hb dX6_measure_36 (by decide) ?_
    refine lv_icmp_eq (tgt := 66) hx hb dX6_measure_37 (by decide) (fun c5 => ?_) (fun c5 => ?_)
    · have h := h.1 c5
      exact L66 y1 y4 y5 y6 T _ _ _ hP hD hS (lv_sub hl [0, 1, 3, 4, 5] rfl) h
    · have h := h.2 c5
      refine lv_iload hx hb dX6_measure_40 (lv_at hl 4 rfl) ?_
      refine lv_aload_n hx hb dX6_measure_42 rfl (lv_at hl 0 rfl) ?_
      refine va_get (D := D) (ci := 5) (v := .ref (a 4)) (C := RX6) (T := TX6) (N := 7) hx hb hts inX6 hown hK hP 0 rfl rfl 5 (by decide) (hts _ q_404) (fun _ h9 => h9) rfl dX6_measure_43 ?_
      refine lv_iload_n hx hb dX6_measure_46 rfl (lv_at hl 2 rfl) ?_
      refine ar_il (f := (T.1.2 5)) (n := 512) (j := (Int32.toNatClampNeg y3)) hx hb hK hP 4 rfl rfl h.1 dX6_measure_47 ?_
      have h := h.2
      refine mm_max hx hb hml2 hown (hts _ q_923) (hts _ q_666) (hts _ q_77) (hts _ q_667) (Nat.le_of_ble_eq_true rfl) (Nat.le_of_ble_eq_true rfl) (Nat.zero_le _) (Nat.zero_le _) dX6_measure_48 hl.1 ?_
      refine lv_topi (fun x6 ex6 => ?_)
      have h := h x6 ex6
      refine lv_istore (lv' := [(5, .int x6), (0, .ref (a 0)), (1, .int y1), (3, .int y3), (4, .int y4), (6, .int y6)]) hx hb dX6_measure_51 hl (by decide) rfl (fun ls hl => ?_)
      refine lv_iload hx hb dX6_measure_53 (lv_at hl 5 rfl) ?_
      refine lv_aload_n hx hb dX6_measure_55 rfl (lv_at hl 1 rfl) ?_
      refine va_get (D := D) (ci := 5) (v := .ref (a 5)) (C := RX6) (T := TX6) (N := 7) hx hb hts inX6 hown hK hP 0 rfl rfl 6 (by decide) (hts _ q_406) (fun _ h9 => h9) rfl dX6_measure_56 ?_
      refine lv_iload_n hx hb dX6_measure_59 rfl (lv_at hl 3 rfl) ?_
      refine ar_il (f := (T.1.2 6)) (n := 512) (j := (Int32.toNatClampNeg y3)) hx hb hK hP 5 rfl rfl h.1 dX6_measure_60 ?_
      have h := h.2
      refine mm_max hx hb hml2 hown (hts _ q_923) (hts _ q_666) (hts _ q_77) (hts _ q_667) (Nat.le_of_ble_eq_true rfl) (Nat.le_of_ble_eq_true rfl) (Nat.zero_le _) (Nat.zero_le _) dX6_measure_61 hl.1 ?_
      refine lv_topi (fun x7 ex7 => ?_)
      have h := h x7 ex7
      refine lv_istore (lv' := [(6, .int x7), (5, .int x6), (0, .ref (a 0)), (1, .int y1), (3, .int y3), (4, .int y4)]) hx hb dX6_measure_64 hl (by decide) rfl (fun ls hl => ?_)
      exact L66 y1 y4 x6 x7 T _ _ _ hP hD hS (lv_sub hl [2, 3, 5, 1, 0] rfl) h
  have hl := lv_entry ([.ref (a 0), .int p0, .int p1, .int p2]) (n := 7) (Nat.le_of_ble_eq_true rfl)
  rw [lg_entry_eq]
  generalize (lg_sl ([.ref (a 0), .int p0, .int p1, .int p2]) ++ List.replicate (7 - (lg_sl ([.ref (a 0), .int p0, .int p1, .int p2])).length) Slot.unset).toArray = ls at hl ⊢
  have hl : lv_has ls 7 [(0, .ref (a 0)), (1, .int p0), (2, .int p1), (3, .int p2)] := hl
  unfold wp_X6_measure at h
  refine lv_aload_n hx hb dX6_measure_0 rfl (lv_at hl 0 rfl) ?_
  refine va_get (D := D) (ci := 5) (v := .ref (a 6)) (C := RX6) (T := TX6) (N := 7) hx hb hts inX6 hown hK hP 0 rfl rfl 0 (by decide) (hts _ q_399) (fun _ h9 => h9) rfl dX6_measure_1 ?_
  refine lv_iload_n hx hb dX6_measure_4 rfl (lv_at hl 1 rfl) ?_
  refine ar_il (f := S.2) (n := 512) (j := (Int32.toNatClampNeg p0)) hx hb hK hP 6 rfl rfl h.1 dX6_measure_5 ?_
  have h := h.2
  refine lv_topi (fun x1 ex1 => ?_)
  have h := h x1 ex1
  refine lv_istore (lv' := [(4, .int x1), (0, .ref (a 0)), (1, .int p0), (2, .int p1), (3, .int p2)]) hx hb dX6_measure_6 hl (by decide) rfl (fun ls hl => ?_)
  refine lv_iconst (v := 0) hx hb dX6_measure_8 (by decide) ?_
  refine lv_istore (lv' := [(5, .int 0), (4, .int x1), (0, .ref (a 0)), (1, .int p0), (2, .int p1), (3, .int p2)]) hx hb dX6_measure_9 hl (by decide) rfl (fun ls hl => ?_)
  refine lv_iconst (v := 0) hx hb dX6_measure_11 (by decide) ?_
  refine lv_istore (lv' := [(6, .int 0), (5, .int 0), (4, .int x1), (0, .ref (a 0)), (1, .int p0), (2, .int p1), (3, .int p2)]) hx hb dX6_measure_12 hl (by decide) rfl (fun ls hl => ?_)
  refine lv_iload_n hx hb dX6_measure_14 rfl (lv_at hl 5 rfl) ?_
  refine lv_iconst (v := -1) hx hb dX6_measure_15 (by decide) ?_
  refine lv_icmp_eq (tgt := 35) hx hb dX6_measure_16 (by decide) (fun c2 => ?_) (fun c2 => ?_)
  · have h := h.1 c2
    exact L35 p0 p2 x1 0 0 S _ _ _ hP hD hS (lv_sub hl [3, 4, 6, 2, 1, 0] rfl) h
  · have h := h.2 c2
    refine lv_aload_n hx hb dX6_measure_19 rfl (lv_at hl 3 rfl) ?_
    refine va_get (D := D) (ci := 5) (v := .ref (a 4)) (C := RX6) (T := TX6) (N := 7) hx hb hts inX6 hown hK hP 0 rfl rfl 5 (by decide) (hts _ q_404) (fun _ h9 => h9) rfl dX6_measure_20 ?_
    refine lv_iload_n hx hb dX6_measure_23 rfl (lv_at hl 5 rfl) ?_
    refine ar_il (f := (S.1.2 5)) (n := 512) (j := (Int32.toNatClampNeg p1)) hx hb hK hP 4 rfl rfl h.1 dX6_measure_24 ?_
    have h := h.2
    refine lv_topi (fun x3 ex3 => ?_)
    have h := h x3 ex3
    refine lv_istore (lv' := [(5, .int x3), (6, .int 0), (4, .int x1), (0, .ref (a 0)), (1, .int p0), (2, .int p1), (3, .int p2)]) hx hb dX6_measure_25 hl (by decide) rfl (fun ls hl => ?_)
    refine lv_aload_n hx hb dX6_measure_27 rfl (lv_at hl 3 rfl) ?_
    refine va_get (D := D) (ci := 5) (v := .ref (a 5)) (C := RX6) (T := TX6) (N := 7) hx hb hts inX6 hown hK hP 0 rfl rfl 6 (by decide) (hts _ q_406) (fun _ h9 => h9) rfl dX6_measure_28 ?_
    refine lv_iload_n hx hb dX6_measure_31 rfl (lv_at hl 5 rfl) ?_
    refine ar_il (f := (S.1.2 6)) (n := 512) (j := (Int32.toNatClampNeg p1)) hx hb hK hP 5 rfl rfl h.1 dX6_measure_32 ?_
    have h := h.2
    refine lv_topi (fun x4 ex4 => ?_)
    have h := h x4 ex4
    refine lv_istore (lv' := [(6, .int x4), (5, .int x3), (4, .int x1), (0, .ref (a 0)), (1, .int p0), (2, .int p1), (3, .int p2)]) hx hb dX6_measure_33 hl (by decide) rfl (fun ls hl => ?_)
    exact L35 p0 p2 x1 x3 x4 S _ _ _ hP hD hS (lv_sub hl [3, 4, 6, 2, 1, 0] rfl) h
/-! X6_survey -/
abbrev rmX6_survey : Room := { frames := 2, cells := 0, slots := 0, locals := 56 }
set_option maxHeartbeats 4000000 in
set_option maxRecDepth 100000 in
theorem c_X6_survey (l : Launch) (D : va_G) (cI cZ : ClassId) (a : Nat → Nat) (sz : Nat) (S : Ob × (Nat → Int32)) (p0 : Int32) (Q : Int32 → (Ob × (Nat → Int32)) → Prop) (h : wp_X6_survey S p0 Q) : Met l yX6_survey (wsm yX6_survey cX6_survey 6 (some .boolean)) rmX6_survey (va_Pc [.ref (a 0), .int p0] (preT D cI cZ sz (wX6 cI cZ a S))) (va_Qi Q (fun u => atW D cI cZ (va_A (wX6 cI cZ a S) sz) (wX6 cI cZ a u)) (va_A (wX6 cI cZ a S) sz)) 0 0 (va_A (wX6 cI cZ a S) sz) := by
  refine Met.ofW (cc := cX6_survey) (maxL := 6) (ret := (some .boolean)) (by decide) rfl ?_
  intro p e s m args below meth c s₁ B hml hv
  obtain ⟨rfl, ⟨hsz, hP, hK, hD0⟩, hF⟩ := hv
  have hx := B.exec
  have hb := B.bytes
  have hr := B.returns
  have hts0 := atoms_spec (ws := wsm yX6_survey cX6_survey 6 (some .boolean)) B.pre
  have hts : ∀ w ∈ lw_all, w.before _ s = true := fun w h => hts0 w (List.mem_cons_of_mem _ h)
  have hown : s.vm.findClass RX6 = some m.cls := findClass_of_methodNamed B.named
  have hlocks := B.notSynchronized
  subst hsz
  have hD := hD0.self (sz := s.heap.size)
  generalize hAe : va_A (wX6 cI cZ a S) s.heap.size = A at hD hF ⊢
  have hA : ∀ q : Nat, s.heap.size ≤ q → A q := fun q h => by rw [← hAe]; exact Or.inr h
  have hS : va_S A s.heap s.heap [] := va_S.rf
  have hml2 := hml
  have L20 : ∀ (n : Nat), ∀ (y2 : Int32) (T : Ob × (Nat → Int32)) (H : Heap) (locs : List Loc) (ls : Array Slot), va_P D vwCl (wX6 cI cZ a T) H → va_D A (wX6 cI cZ a T) → va_S A s.heap H locs → lv_has ls 6 [(0, .ref (a 0)), (2, .int y2)] → wp_X6_survey_L20 Q n y2 T → W p l e rmX6_survey s m ([.ref (a 0), .int p0] : List Value).toArray below meth c H locs 0 0 (MQ below (va_Qi Q (fun u => atW D cI cZ A (wX6 cI cZ a u)) A) ([.ref (a 0), .int p0] : List Value).toArray s 0 0 A) (F0 m 20 ls []) := by
    intro n
    induction n with
    | zero =>
      intro y2 T H locs ls hP hD hS hl h
      exact False.elim h
    | succ n ih =>
      intro y2 T H locs ls hP hD hS hl h
      unfold wp_X6_survey_L20 at h
      refine lv_iload_n hx hb dX6_survey_20 rfl (lv_at hl 1 rfl) ?_
      refine lv_sipush (v := 1536) hx hb dX6_survey_21 (by decide) ?_
      refine lv_icmp_ge (tgt := 157) hx hb dX6_survey_24 (by decide) (fun c4 => ?_) (fun c4 => ?_)
      · have h := h.1 c4
        refine lv_aload_n hx hb dX6_survey_157 rfl (lv_at hl 0 rfl) ?_
        refine va_get (D := D) (ci := 5) (v := .int (T.1.1 4)) (C := RX6) (T := TX6) (N := 7) hx hb hts inX6 hown hK hP 0 rfl rfl 4 (by decide) (hts _ q_403) (fun _ h9 => h9) rfl dX6_survey_158 ?_
        refine lv_if_ne (tgt := 168) hx hb dX6_survey_161 (by decide) (fun c5 => ?_) (fun c5 => ?_)
        · have h := h.1 c5
          refine lv_iconst (v := 0) hx hb dX6_survey_168 (by decide) ?_
          exact W.zret (ty := .boolean) (v := 0) hx hb hr (narB isB0) (fun t ht hW => ⟨⟨0, T, rfl, h, by rw [ht]; exact hP, va_K.moved hW.alike hK, hD⟩, hS.F ht⟩) hS.2.2 dX6_survey_169
        · have h := h.2 c5
          refine lv_iconst (v := 1) hx hb dX6_survey_164 (by decide) ?_
          refine lv_goto (tgt := 169) hx hb dX6_survey_165 (by decide) ?_
          exact W.zret (ty := .boolean) (v := 1) hx hb hr (narB isB1) (fun t ht hW => ⟨⟨1, T, rfl, h, by rw [ht]; exact hP, va_K.moved hW.alike hK, hD⟩, hS.F ht⟩) hS.2.2 dX6_survey_169
      · have h := h.2 c4
        refine lv_aload_n hx hb dX6_survey_27 rfl (lv_at hl 0 rfl) ?_
        refine va_get (D := D) (ci := 5) (v := .int (T.1.1 4)) (C := RX6) (T := TX6) (N := 7) hx hb hts inX6 hown hK hP 0 rfl rfl 4 (by decide) (hts _ q_403) (fun _ h9 => h9) rfl dX6_survey_28 ?_
        refine lv_if_le (tgt := 157) hx hb dX6_survey_31 (by decide) (fun c6 => ?_) (fun c6 => ?_)
        · have h := h.1 c6
          refine lv_aload_n hx hb dX6_survey_157 rfl (lv_at hl 0 rfl) ?_
          refine va_get (D := D) (ci := 5) (v := .int (T.1.1 4)) (C := RX6) (T := TX6) (N := 7) hx hb hts inX6 hown hK hP 0 rfl rfl 4 (by decide) (hts _ q_403) (fun _ h9 => h9) rfl dX6_survey_158 ?_
          refine lv_if_ne (tgt := 168) hx hb dX6_survey_161 (by decide) (fun c7 => ?_) (fun c7 => ?_)
          · have h := h.1 c7
            refine lv_iconst (v := 0) hx hb dX6_survey_168 (by decide) ?_
            exact W.zret (ty := .boolean) (v := 0) hx hb hr (narB isB0) (fun t ht hW => ⟨⟨0, T, rfl, h, by rw [ht]; exact hP, va_K.moved hW.alike hK, hD⟩, hS.F ht⟩) hS.2.2 dX6_survey_169
          · have h := h.2 c7
            refine lv_iconst (v := 1) hx hb dX6_survey_164 (by decide) ?_
            refine lv_goto (tgt := 169) hx hb dX6_survey_165 (by decide) ?_
            exact W.zret (ty := .boolean) (v := 1) hx hb hr (narB isB1) (fun t ht hW => ⟨⟨1, T, rfl, h, by rw [ht]; exact hP, va_K.moved hW.alike hK, hD⟩, hS.F ht⟩) hS.2.2 dX6_survey_169
        · have h := h.2 c6
          refine lv_aload_n hx hb dX6_survey_34 rfl (lv_at hl 0 rfl) ?_
          refine va_get (D := D) (ci := 5) (v := .ref (a 2)) (C := RX6) (T := TX6) (N := 7) hx hb hts inX6 hown hK hP 0 rfl rfl 2 (by decide) (hts _ q_401) (fun _ h9 => h9) rfl dX6_survey_35 ?_
          refine lv_aload_n hx hb dX6_survey_38 rfl (lv_at hl 0 rfl) ?_
          refine va_get (D := D) (ci := 5) (v := .int (T.1.1 4)) (C := RX6) (T := TX6) (N := 7) hx hb hts inX6 hown hK hP 0 rfl rfl 4 (by decide) (hts _ q_403) (fun _ h9 => h9) rfl dX6_survey_39 ?_
          refine lv_iconst (v := 1) hx hb dX6_survey_42 (by decide) ?_
          refine lv_isub hx hb dX6_survey_43 ?_
          refine ar_il (f := (T.1.2 2)) (n := 512) (j := (Int32.toNatClampNeg ((T.1.1 4) - 1))) hx hb hK hP 2 rfl rfl h.1 dX6_survey_44 ?_
          have h := h.2
          refine lv_topi (fun x8 ex8 => ?_)
          have h := h x8 ex8
          refine lv_istore_n (lv' := [(3, .int x8), (0, .ref (a 0)), (2, .int y2)]) hx hb dX6_survey_45 rfl hl (by decide) rfl (fun ls hl => ?_)
          refine lv_aload_n hx hb dX6_survey_46 rfl (lv_at hl 1 rfl) ?_
          refine lv_iload_n hx hb dX6_survey_47 rfl (lv_at hl 0 rfl) ?_
          refine cl_i (ws' := fun u9 => (wX6 cI cZ a u9)) (va_runV (As := [.int x8]) (rest := []) ⟨hx, hb, hml, hown, hts⟩ (c_X6_placeBehind l D cI cZ a _ T x8 _ h ) (cwV 1 hts (gV q_903 q_905 q_23 q_74 q_906) rfl rfl rfl (by decide +kernel) ⟨Nat.le_of_ble_eq_true rfl, Nat.le_of_ble_eq_true rfl⟩) (preTV_of (ci := 5) (q := (RX6, TX6, 7)) hF hS hA hK hP hD [0, 1, 2, 3, 4, 5, 6] rfl rfl (by decide) 0 rfl rfl) rfl rfl hl.1 rfl (lv_room (Nat.le_of_ble_eq_true rfl)) dX6_survey_48 ⟨Nat.zero_le _, Nat.zero_le _⟩) hP hD hS hA [0, 1, 2, 3, 4, 5, 6] [.inl 0, .inl 1, .inl 2, .inl 3, .inl 4, .inl 5, .inl 6] rfl (by decide) (fun _ => rfl) (fun _ => rfl) (fun r10 u9 H locs h hP hD hS => ?_)
          refine lv_istore (lv' := [(4, .int r10), (3, .int x8), (0, .ref (a 0)), (2, .int y2)]) hx hb dX6_survey_51 hl (by decide) rfl (fun ls hl => ?_)
          refine lv_aload_n hx hb dX6_survey_53 rfl (lv_at hl 2 rfl) ?_
          refine lv_iload_n hx hb dX6_survey_54 rfl (lv_at hl 1 rfl) ?_
          refine cl_i (ws' := fun u11 => (wX6 cI cZ a u11)) (va_runV (As := [.int x8]) (rest := []) ⟨hx, hb, hml, hown, hts⟩ (c_X6_placeTold l D cI cZ a _ u9 x8 _ h ) (cwV 1 hts (gV q_911 q_913 q_24 q_74 q_914) rfl rfl rfl (by decide +kernel) ⟨Nat.le_of_ble_eq_true rfl, Nat.le_of_ble_eq_true rfl⟩) (preV_of (ci := 5) (q := (RX6, TX6, 7)) hK hP hD [0, 1, 2, 3, 4, 5, 6] rfl rfl (by decide) 0 rfl rfl) rfl rfl hl.1 rfl (lv_room (Nat.le_of_ble_eq_true rfl)) dX6_survey_55 ⟨Nat.zero_le _, Nat.zero_le _⟩) hP hD hS hA [0, 1, 2, 3, 4, 5, 6] [.inl 0, .inl 1, .inl 2, .inl 3, .inl 4, .inl 5, .inl 6] rfl (by decide) (fun _ => rfl) (fun _ => rfl) (fun r12 u11 H locs h hP hD hS => ?_)
          refine lv_istore (lv' := [(5, .int r12), (4, .int r10), (3, .int x8), (0, .ref (a 0)), (2, .int y2)]) hx hb dX6_survey_58 hl (by decide) rfl (fun ls hl => ?_)
          refine lv_aload_n hx hb dX6_survey_60 rfl (lv_at hl 3 rfl) ?_
          refine va_get (D := D) (ci := 5) (v := .ref (a 6)) (C := RX6) (T := TX6) (N := 7) hx hb hts inX6 hown hK hP 0 rfl rfl 0 (by decide) (hts _ q_399) (fun _ h9 => h9) rfl dX6_survey_61 ?_
          refine lv_iload_n hx hb dX6_survey_64 rfl (lv_at hl 2 rfl) ?_
          refine ar_il (f := u11.2) (n := 512) (j := (Int32.toNatClampNeg x8)) hx hb hK hP 6 rfl rfl h.1 dX6_survey_65 ?_
          have h := h.2
          refine cl_i (ws' := fun u13 => (wX6 cI cZ a u11)) (va_runS (As := [.int (u11.2 (Int32.toNatClampNeg x8))]) (rest := []) ⟨hx, hb, hml, hown, hts⟩ (c_X6_isOpenEnd l D cI cZ _ () (u11.2 (Int32.toNatClampNeg x8)) _ h ) (va_cwS 1 hts (gS q_907 q_908 q_74 q_909) rfl rfl rfl (by decide +kernel) ⟨Nat.le_of_ble_eq_true rfl, Nat.le_of_ble_eq_true rfl⟩) (preS_of hK hP hD [] rfl rfl (by decide)) rfl rfl hl.1 rfl (lv_room (Nat.le_of_ble_eq_true rfl)) dX6_survey_66 ⟨Nat.zero_le _, Nat.zero_le _⟩) hP hD hS hA [] [.inr 0, .inr 1, .inr 2, .inr 3, .inr 4, .inr 5, .inr 6] rfl (by decide) (fun _ => rfl) (fun _ => rfl) (fun r14 u13 H locs h hP hD hS => ?_)
          refine lv_if_ne (tgt := 92) hx hb dX6_survey_69 (by decide) (fun c15 => ?_) (fun c15 => ?_)
          · have h := h.1 c15
            refine lv_iconst (v := 0) hx hb dX6_survey_92 (by decide) ?_
            exact W.zret (ty := .boolean) (v := 0) hx hb hr (narB isB0) (fun t ht hW => ⟨⟨0, u11, rfl, h, by rw [ht]; exact hP, va_K.moved hW.alike hK, hD⟩, hS.F ht⟩) hS.2.2 dX6_survey_93
          · have h := h.2 c15
            refine lv_aload_n hx hb dX6_survey_72 rfl (lv_at hl 3 rfl) ?_
            refine lv_iload hx hb dX6_survey_73 (lv_at hl 1 rfl) ?_
            refine lv_iconst (v := 1) hx hb dX6_survey_75 (by decide) ?_
            refine cl_i (ws' := fun u16 => (wX6 cI cZ a u16)) (va_runV (As := [.int r10, .int 1]) (rest := []) ⟨hx, hb, hml, hown, hts⟩ (c_X6_isMarked l D cI cZ a _ u11 r10 1 _ h ) (cwV 2 hts (gV q_915 q_917 q_25 q_74 q_918) rfl rfl rfl (by decide +kernel) ⟨Nat.le_of_ble_eq_true rfl, Nat.le_of_ble_eq_true rfl⟩) (preV_of (ci := 5) (q := (RX6, TX6, 7)) hK hP hD [0, 1, 2, 3, 4, 5, 6] rfl rfl (by decide) 0 rfl rfl) rfl rfl hl.1 rfl (lv_room (Nat.le_of_ble_eq_true rfl)) dX6_survey_76 ⟨Nat.zero_le _, Nat.zero_le _⟩) hP hD hS hA [0, 1, 2, 3, 4, 5, 6] [.inl 0, .inl 1, .inl 2, .inl 3, .inl 4, .inl 5, .inl 6] rfl (by decide) (fun _ => rfl) (fun _ => rfl) (fun r17 u16 H locs h hP hD hS => ?_)
            refine lv_if_ne (tgt := 92) hx hb dX6_survey_79 (by decide) (fun c18 => ?_) (fun c18 => ?_)
            · have h := h.1 c18
              refine lv_iconst (v := 0) hx hb dX6_survey_92 (by decide) ?_
              exact W.zret (ty := .boolean) (v := 0) hx hb hr (narB isB0) (fun t ht hW => ⟨⟨0, u16, rfl, h, by rw [ht]; exact hP, va_K.moved hW.alike hK, hD⟩, hS.F ht⟩) hS.2.2 dX6_survey_93
            · have h := h.2 c18
              refine lv_aload_n hx hb dX6_survey_82 rfl (lv_at hl 3 rfl) ?_
              refine lv_iload hx hb dX6_survey_83 (lv_at hl 0 rfl) ?_
              refine lv_iconst (v := 1) hx hb dX6_survey_85 (by decide) ?_
              refine cl_i (ws' := fun u19 => (wX6 cI cZ a u19)) (va_runV (As := [.int r12, .int 1]) (rest := []) ⟨hx, hb, hml, hown, hts⟩ (c_X6_isMarked l D cI cZ a _ u16 r12 1 _ h ) (cwV 2 hts (gV q_915 q_917 q_25 q_74 q_918) rfl rfl rfl (by decide +kernel) ⟨Nat.le_of_ble_eq_true rfl, Nat.le_of_ble_eq_true rfl⟩) (preV_of (ci := 5) (q := (RX6, TX6, 7)) hK hP hD [0, 1, 2, 3, 4, 5, 6] rfl rfl (by decide) 0 rfl rfl) rfl rfl hl.1 rfl (lv_room (Nat.le_of_ble_eq_true rfl)) dX6_survey_86 ⟨Nat.zero_le _, Nat.zero_le _⟩) hP hD hS hA [0, 1, 2, 3, 4, 5, 6] [.inl 0, .inl 1, .inl 2, .inl 3, .inl 4, .inl 5, .inl 6] rfl (by decide) (fun _ => rfl) (fun _ => rfl) (fun r20 u19 H locs h hP hD hS => ?_)
              refine lv_if_eq (tgt := 94) hx hb dX6_survey_89 (by decide) (fun c21 => ?_) (fun c21 => ?_)
              · have h := h.1 c21
                refine lv_aload_n hx hb dX6_survey_94 rfl (lv_at hl 3 rfl) ?_
                refine lv_iload hx hb dX6_survey_95 (lv_at hl 1 rfl) ?_
                refine lv_iconst (v := 0) hx hb dX6_survey_97 (by decide) ?_
                refine cl_i (ws' := fun u22 => (wX6 cI cZ a u22)) (va_runV (As := [.int r10, .int 0]) (rest := []) ⟨hx, hb, hml, hown, hts⟩ (c_X6_isMarked l D cI cZ a _ u19 r10 0 _ h ) (cwV 2 hts (gV q_915 q_917 q_25 q_74 q_918) rfl rfl rfl (by decide +kernel) ⟨Nat.le_of_ble_eq_true rfl, Nat.le_of_ble_eq_true rfl⟩) (preV_of (ci := 5) (q := (RX6, TX6, 7)) hK hP hD [0, 1, 2, 3, 4, 5, 6] rfl rfl (by decide) 0 rfl rfl) rfl rfl hl.1 rfl (lv_room (Nat.le_of_ble_eq_true rfl)) dX6_survey_98 ⟨Nat.zero_le _, Nat.zero_le _⟩) hP hD hS hA [0, 1, 2, 3, 4, 5, 6] [.inl 0, .inl 1, .inl 2, .inl 3, .inl 4, .inl 5, .inl 6] rfl (by decide) (fun _ => rfl) (fun _ => rfl) (fun r23 u22 H locs h hP hD hS => ?_)
                refine lv_if_eq (tgt := 113) hx hb dX6_survey_101 (by decide) (fun c24 => ?_) (fun c24 => ?_)
                · have h := h.1 c24
                  refine lv_aload_n hx hb dX6_survey_113 rfl (lv_at hl 3 rfl) ?_
                  refine lv_iload hx hb dX6_survey_114 (lv_at hl 0 rfl) ?_
                  refine lv_iconst (v := 0) hx hb dX6_survey_116 (by decide) ?_
                  refine cl_i (ws' := fun u25 => (wX6 cI cZ a u25)) (va_runV (As := [.int r12, .int 0]) (rest := []) ⟨hx, hb, hml, hown, hts⟩ (c_X6_isMarked l D cI cZ a _ u22 r12 0 _ h ) (cwV 2 hts (gV q_915 q_917 q_25 q_74 q_918) rfl rfl rfl (by decide +kernel) ⟨Nat.le_of_ble_eq_true rfl, Nat.le_of_ble_eq_true rfl⟩) (preV_of (ci := 5) (q := (RX6, TX6, 7)) hK hP hD [0, 1, 2, 3, 4, 5, 6] rfl rfl (by decide) 0 rfl rfl) rfl rfl hl.1 rfl (lv_room (Nat.le_of_ble_eq_true rfl)) dX6_survey_117 ⟨Nat.zero_le _, Nat.zero_le _⟩) hP hD hS hA [0, 1, 2, 3, 4, 5, 6] [.inl 0, .inl 1, .inl 2, .inl 3, .inl 4, .inl 5, .inl 6] rfl (by decide) (fun _ => rfl) (fun _ => rfl) (fun r26 u25 H locs h hP hD hS => ?_)
                  refine lv_if_eq (tgt := 132) hx hb dX6_survey_120 (by decide) (fun c27 => ?_) (fun c27 => ?_)
                  · have h := h.1 c27
                    refine lv_aload_n hx hb dX6_survey_132 rfl (lv_at hl 3 rfl) ?_
                    refine lv_iload_n hx hb dX6_survey_133 rfl (lv_at hl 2 rfl) ?_
                    refine lv_iload hx hb dX6_survey_134 (lv_at hl 1 rfl) ?_
                    refine lv_iload hx hb dX6_survey_136 (lv_at hl 0 rfl) ?_
                    refine cl_v (ws' := fun u28 => (wX6 cI cZ a u28)) (va_runV (As := [.int x8, .int r10, .int r12]) (rest := []) ⟨hx, hb, hml, hown, hts⟩ (c_X6_measure l D cI cZ a _ u25 x8 r10 r12 _ h ) (cwV 3 hts (gV q_919 q_921 q_26 q_74 q_922) rfl rfl rfl (by decide +kernel) ⟨Nat.le_of_ble_eq_true rfl, Nat.le_of_ble_eq_true rfl⟩) (preTV_of (ci := 5) (q := (RX6, TX6, 7)) hF hS hA hK hP hD [0, 1, 2, 3, 4, 5, 6] rfl rfl (by decide) 0 rfl rfl) rfl rfl hl.1 rfl (lv_room (Nat.le_of_ble_eq_true rfl)) dX6_survey_138 ⟨Nat.zero_le _, Nat.zero_le _⟩) hP hD hS hA [0, 1, 2, 3, 4, 5, 6] [.inl 0, .inl 1, .inl 2, .inl 3, .inl 4, .inl 5, .inl 6] rfl (by decide) (fun _ => rfl) (fun _ => rfl) (fun u28 H locs h hP hD hS => ?_)
                    refine lv_aload_n hx hb dX6_survey_141 rfl (lv_at hl 3 rfl) ?_
                    refine lv_dup hx hb dX6_survey_142 rfl ?_
                    refine va_get (D := D) (ci := 5) (v := .int (u28.1.1 4)) (C := RX6) (T := TX6) (N := 7) hx hb hts inX6 hown hK hP 0 rfl rfl 4 (by decide) (hts _ q_403) (fun _ h9 => h9) rfl dX6_survey_143 ?_
                    refine lv_iconst (v := 1) hx hb dX6_survey_146 (by decide) ?_
                    refine lv_isub hx hb dX6_survey_147 ?_
                    obtain ⟨T29, eT29⟩ : ∃ z : Ob, z = (si u28.1 4 ((u28.1.1 4) - 1)) := ⟨_, rfl⟩
                    refine pu_f (ci := 5) (v := .int ((u28.1.1 4) - 1)) (ty := .int) (C := RX6) (T := TX6) (N := 7) hx hb hts inX6 tyX6 tyX6_ok nmX6 hown hK hP hD hS 0 rfl rfl 4 (by decide) (hts _ q_403) (fun _ h9 => h9) rfl rfl rfl rfl (Nat.le_of_ble_eq_true rfl) dX6_survey_148 (wX6 cI cZ a (T29, u28.2)) (by subst eT29; rfl) (fun H locs hP hD hS => ?_)
                    have h := h T29 eT29
                    obtain ⟨x30, ex30⟩ : ∃ y : Int32, y = (y2 + 1) := ⟨_, rfl⟩
                    have h := h x30 ex30
                    refine lv_iinc (v := x30) (lv' := [(2, .int x30), (5, .int r12), (4, .int r10), (3, .int x8), (0, .ref (a 0))]) hx hb dX6_survey_151 hl (k := 4) rfl (by rw [ex30]; rfl) (by decide) rfl (fun ls hl => ?_)
                    refine lv_goto (tgt := 20) hx hb dX6_survey_154 (by decide) ?_
                    exact ih x30 (T29, u28.2) _ _ _ hP hD hS (lv_sub hl [4, 0] rfl) h
                  · have h := h.2 c27
                    refine lv_aload_n hx hb dX6_survey_123 rfl (lv_at hl 3 rfl) ?_
                    refine lv_iload hx hb dX6_survey_124 (lv_at hl 0 rfl) ?_
                    refine cl_v (ws' := fun u31 => (wX6 cI cZ a u31)) (va_runV (As := [.int r12]) (rest := []) ⟨hx, hb, hml, hown, hts⟩ (c_X6_stepOn l D cI cZ a _ u25 r12 _ h ) (cwV 1 hts (gV q_899 q_901 q_22 q_74 q_902) rfl rfl rfl (by decide +kernel) ⟨Nat.le_of_ble_eq_true rfl, Nat.le_of_ble_eq_true rfl⟩) (preV_of (ci := 5) (q := (RX6, TX6, 7)) hK hP hD [0, 1, 2, 3, 4, 5, 6] rfl rfl (by decide) 0 rfl rfl) rfl rfl hl.1 rfl (lv_room (Nat.le_of_ble_eq_true rfl)) dX6_survey_126 ⟨Nat.zero_le _, Nat.zero_le _⟩) hP hD hS hA [0, 1, 2, 3, 4, 5, 6] [.inl 0, .inl 1, .inl 2, .inl 3, .inl 4, .inl 5, .inl 6] rfl (by decide) (fun _ => rfl) (fun _ => rfl) (fun u31 H locs h hP hD hS => ?_)
                    refine lv_goto (tgt := 151) hx hb dX6_survey_129 (by decide) ?_
                    obtain ⟨x32, ex32⟩ : ∃ y : Int32, y = (y2 + 1) := ⟨_, rfl⟩
                    have h := h x32 ex32
                    refine lv_iinc (v := x32) (lv' := [(2, .int x32), (5, .int r12), (4, .int r10), (3, .int x8), (0, .ref (a 0))]) hx hb dX6_survey_151 hl (k := 4) rfl (by rw [ex32]; rfl) (by decide) rfl (fun ls hl => ?_)
                    refine lv_goto (tgt := 20) hx hb dX6_survey_154 (by decide) ?_
                    exact ih x32 u31 _ _ _ hP hD hS (lv_sub hl [4, 0] rfl) h
                · have h := h.2 c24
                  refine lv_aload_n hx hb dX6_survey_104 rfl (lv_at hl 3 rfl) ?_
                  refine lv_iload hx hb dX6_survey_105 (lv_at hl 1 rfl) ?_
                  refine cl_v (ws' := fun u33 => (wX6 cI cZ a u33)) (va_runV (As := [.int r10]) (rest := []) ⟨hx, hb, hml, hown, hts⟩ (c_X6_stepOn l D cI cZ a _ u22 r10 _ h ) (cwV 1 hts (gV q_899 q_901 q_22 q_74 q_902) rfl rfl rfl (by decide +kernel) ⟨Nat.le_of_ble_eq_true rfl, Nat.le_of_ble_eq_true rfl⟩) (preV_of (ci := 5) (q := (RX6, TX6, 7)) hK hP hD [0, 1, 2, 3, 4, 5, 6] rfl rfl (by decide) 0 rfl rfl) rfl rfl hl.1 rfl (lv_room (Nat.le_of_ble_eq_true rfl)) dX6_survey_107 ⟨Nat.zero_le _, Nat.zero_le _⟩) hP hD hS hA [0, 1, 2, 3, 4, 5, 6] [.inl 0, .inl 1, .inl 2, .inl 3, .inl 4, .inl 5, .inl 6] rfl (by decide) (fun _ => rfl) (fun _ => rfl) (fun u33 H locs h hP hD hS => ?_)
                  refine lv_goto (tgt := 151) hx hb dX6_survey_110 (by decide) ?_
                  obtain ⟨x34, ex34⟩ : ∃ y : Int32, y = (y2 + 1) := ⟨_, rfl⟩
                  have h := h x34 ex34
                  refine lv_iinc (v := x34) (lv' := [(2, .int x34), (5, .int r12), (4, .int r10), (3, .int x8), (0, .ref (a 0))]) hx hb dX6_survey_151 hl (k := 4) rfl (by rw [ex34]; rfl) (by decide) rfl (fun ls hl => ?_)
                  refine lv_goto (tgt := 20) hx hb dX6_survey_154 (by decide) ?_
                  exact ih x34 u33 _ _ _ hP hD hS (lv_sub hl [4, 0] rfl) h
              · have h := h.2 c21
                refine lv_iconst (v := 0) hx hb dX6_survey_92 (by decide) ?_
                exact W.zret (ty := .boolean) (v := 0) hx hb hr (narB isB0) (fun t ht hW => ⟨⟨0, u19, rfl, h, by rw [ht]; exact hP, va_K.moved hW.alike hK, hD⟩, hS.F ht⟩) hS.2.2 dX6_survey_93
  have hl := lv_entry ([.ref (a 0), .int p0]) (n := 6) (Nat.le_of_ble_eq_true rfl)
  rw [lg_entry_eq]
  generalize (lg_sl ([.ref (a 0), .int p0]) ++ List.replicate (6 - (lg_sl ([.ref (a 0), .int p0])).length) Slot.unset).toArray = ls at hl ⊢
  have hl : lv_has ls 6 [(0, .ref (a 0)), (1, .int p0)] := hl
  unfold wp_X6_survey at h
  refine lv_aload_n hx hb dX6_survey_0 rfl (lv_at hl 0 rfl) ?_
  refine va_get (D := D) (ci := 5) (v := .ref (a 1)) (C := RX6) (T := TX6) (N := 7) hx hb hts inX6 hown hK hP 0 rfl rfl 1 (by decide) (hts _ q_400) (fun _ h9 => h9) rfl dX6_survey_1 ?_
  refine lv_iconst (v := 0) hx hb dX6_survey_4 (by decide) ?_
  refine cl_v (ws' := fun u1 => (wX6 cI cZ a ((sa S.1 1 u1), S.2))) (va_runS (As := [.ref (a 1), .int 0]) (rest := []) ⟨hx, hb, hml, hown, hts⟩ (c_J7_fill_53178 l D cI cZ (fun k => a (k + 1)) 512 _ (S.1.2 1) 0 _ h ) (va_cwS 2 hts (gS q_898 q_105 q_70 q_106) rfl rfl rfl (by decide +kernel) ⟨Nat.le_of_ble_eq_true rfl, Nat.le_of_ble_eq_true rfl⟩) (preS_of hK hP hD [1] rfl rfl (by decide)) rfl rfl hl.1 rfl (lv_room (Nat.le_of_ble_eq_true rfl)) dX6_survey_5 ⟨Nat.zero_le _, Nat.zero_le _⟩) hP hD hS hA [1] [.inr 0, .inl 0, .inr 2, .inr 3, .inr 4, .inr 5, .inr 6] rfl (by decide) (fun _ => rfl) (fun _ => rfl) (fun u1 H locs h hP hD hS => ?_)
  refine lv_aload_n hx hb dX6_survey_8 rfl (lv_at hl 0 rfl) ?_
  refine lv_iconst (v := 0) hx hb dX6_survey_9 (by decide) ?_
  obtain ⟨T2, eT2⟩ : ∃ z : Ob, z = (si (sa S.1 1 u1) 4 0) := ⟨_, rfl⟩
  refine pu_f (ci := 5) (v := .int 0) (ty := .int) (C := RX6) (T := TX6) (N := 7) hx hb hts inX6 tyX6 tyX6_ok nmX6 hown hK hP hD hS 0 rfl rfl 4 (by decide) (hts _ q_403) (fun _ h9 => h9) rfl rfl rfl rfl (Nat.le_of_ble_eq_true rfl) dX6_survey_10 (wX6 cI cZ a (T2, S.2)) (by subst eT2; rfl) (fun H locs hP hD hS => ?_)
  have h := h T2 eT2
  refine lv_aload_n hx hb dX6_survey_13 rfl (lv_at hl 0 rfl) ?_
  refine lv_iload_n hx hb dX6_survey_14 rfl (lv_at hl 1 rfl) ?_
  refine cl_v (ws' := fun u3 => (wX6 cI cZ a u3)) (va_runV (As := [.int p0]) (rest := []) ⟨hx, hb, hml, hown, hts⟩ (c_X6_stepOn l D cI cZ a _ (T2, S.2) p0 _ h ) (cwV 1 hts (gV q_899 q_901 q_22 q_74 q_902) rfl rfl rfl (by decide +kernel) ⟨Nat.le_of_ble_eq_true rfl, Nat.le_of_ble_eq_true rfl⟩) (preV_of (ci := 5) (q := (RX6, TX6, 7)) hK hP hD [0, 1, 2, 3, 4, 5, 6] rfl rfl (by decide) 0 rfl rfl) rfl rfl hl.1 rfl (lv_room (Nat.le_of_ble_eq_true rfl)) dX6_survey_15 ⟨Nat.zero_le _, Nat.zero_le _⟩) hP hD hS hA [0, 1, 2, 3, 4, 5, 6] [.inl 0, .inl 1, .inl 2, .inl 3, .inl 4, .inl 5, .inl 6] rfl (by decide) (fun _ => rfl) (fun _ => rfl) (fun u3 H locs h hP hD hS => ?_)
  refine lv_iconst (v := 0) hx hb dX6_survey_18 (by decide) ?_
  refine lv_istore_n (lv' := [(2, .int 0), (0, .ref (a 0)), (1, .int p0)]) hx hb dX6_survey_19 rfl hl (by decide) rfl (fun ls hl => ?_)
  exact L20 2000 0 u3 _ _ _ hP hD hS (lv_sub hl [1, 0] rfl) h
/-! X6_areTogether -/
abbrev rmX6_areTogether : Room := { frames := 1, cells := 0, slots := 0, locals := 22 }
set_option maxHeartbeats 4000000 in
set_option maxRecDepth 100000 in
theorem c_X6_areTogether (l : Launch) (D : va_G) (cI cZ : ClassId) (a : Nat → Nat) (sz : Nat) (S : Ob) (p0 : Int32) (p1 : Int32) (Q : Int32 → Ob → Prop) (h : wp_X6_areTogether S p0 p1 Q) : Met l yX6_areTogether (wsm yX6_areTogether cX6_areTogether 3 (some .boolean)) rmX6_areTogether (va_Pc [.ref (a 0), .int p0, .int p1] (preW D cI cZ sz (wX5 cI cZ a S))) (va_Qi Q (fun u => atW D cI cZ (va_A (wX5 cI cZ a S) sz) (wX5 cI cZ a u)) (va_A (wX5 cI cZ a S) sz)) 0 0 (va_A (wX5 cI cZ a S) sz) := by
  refine Met.ofW (cc := cX6_areTogether) (maxL := 3) (ret := (some .boolean)) (by decide) rfl ?_
  intro p e s m args below meth c s₁ B hml hv
  obtain ⟨rfl, hsz, hP, hK, hD0⟩ := hv
  have hx := B.exec
  have hb := B.bytes
  have hr := B.returns
  have hts0 := atoms_spec (ws := wsm yX6_areTogether cX6_areTogether 3 (some .boolean)) B.pre
  have hts : ∀ w ∈ lw_all, w.before _ s = true := fun w h => hts0 w (List.mem_cons_of_mem _ h)
  have hown : s.vm.findClass RX6 = some m.cls := findClass_of_methodNamed B.named
  have hlocks := B.notSynchronized
  subst hsz
  have hD := hD0.self (sz := s.heap.size)
  generalize hAe : va_A (wX5 cI cZ a S) s.heap.size = A at hD ⊢
  have hA : ∀ q : Nat, s.heap.size ≤ q → A q := fun q h => by rw [← hAe]; exact Or.inr h
  have hS : va_S A s.heap s.heap [] := va_S.rf
  have hml2 := hml
  have hl := lv_entry ([.ref (a 0), .int p0, .int p1]) (n := 3) (Nat.le_of_ble_eq_true rfl)
  rw [lg_entry_eq]
  generalize (lg_sl ([.ref (a 0), .int p0, .int p1]) ++ List.replicate (3 - (lg_sl ([.ref (a 0), .int p0, .int p1])).length) Slot.unset).toArray = ls at hl ⊢
  have hl : lv_has ls 3 [(0, .ref (a 0)), (1, .int p0), (2, .int p1)] := hl
  unfold wp_X6_areTogether at h
  refine lv_aload_n hx hb dX6_areTogether_0 rfl (lv_at hl 0 rfl) ?_
  refine va_get (D := D) (ci := 4) (v := .ref (a 3)) (C := RX5) (T := TX5) (N := 16) hx hb hts inX5 hown hK hP 0 rfl rfl 2 (by decide) (hts _ q_116) (fun _ h9 => h9) rfl dX6_areTogether_1 ?_
  refine lv_iload_n hx hb dX6_areTogether_4 rfl (lv_at hl 1 rfl) ?_
  refine ar_zl (f := (S.2 2)) (n := 21) (j := (Int32.toNatClampNeg p0)) hx hb hK hP 3 rfl rfl h.1 dX6_areTogether_5 ?_
  have h := h.2
  refine lv_if_eq (tgt := 34) hx hb dX6_areTogether_6 (by decide) (fun c1 => ?_) (fun c1 => ?_)
  · have h := h.1 c1
    refine lv_iconst (v := 0) hx hb dX6_areTogether_34 (by decide) ?_
    exact W.zret (ty := .boolean) (v := 0) hx hb hr (narB isB0) (fun t ht hW => ⟨⟨0, S, rfl, h, by rw [ht]; exact hP, va_K.moved hW.alike hK, hD⟩, hS.F ht⟩) hS.2.2 dX6_areTogether_35
  · have h := h.2 c1
    refine lv_aload_n hx hb dX6_areTogether_9 rfl (lv_at hl 0 rfl) ?_
    refine lv_iload_n hx hb dX6_areTogether_10 rfl (lv_at hl 1 rfl) ?_
    refine lv_aload_n hx hb dX6_areTogether_11 rfl (lv_at hl 0 rfl) ?_
    refine va_get (D := D) (ci := 4) (v := .int (S.1 12)) (C := RX5) (T := TX5) (N := 16) hx hb hts inX5 hown hK hP 0 rfl rfl 12 (by decide) (hts _ q_138) (fun _ h9 => h9) rfl dX6_areTogether_12 ?_
    refine cl_i (ws' := fun u2 => (wX5 cI cZ a u2)) (va_runV (As := [.int p0, .int (S.1 12)]) (rest := []) ⟨hx, hb, hml, hown, hts⟩ (c_X5_groupBy l D cI cZ a _ S p0 (S.1 12) _ h ) (cwV 2 hts (gV q_944 q_798 q_799 q_69 q_800) rfl rfl rfl (by decide +kernel) ⟨Nat.le_of_ble_eq_true rfl, Nat.le_of_ble_eq_true rfl⟩) (preV_of (ci := 4) (q := (RX5, TX5, 16)) hK hP hD [0, 1, 2, 3, 4, 5, 6, 7, 8, 9, 10] rfl rfl (by decide) 0 rfl rfl) rfl rfl hl.1 rfl (lv_room (Nat.le_of_ble_eq_true rfl)) dX6_areTogether_15 ⟨Nat.zero_le _, Nat.zero_le _⟩) hP hD hS hA [0, 1, 2, 3, 4, 5, 6, 7, 8, 9, 10] [.inl 0, .inl 1, .inl 2, .inl 3, .inl 4, .inl 5, .inl 6, .inl 7, .inl 8, .inl 9, .inl 10] rfl (by decide) (fun _ => rfl) (fun _ => rfl) (fun r3 u2 H locs h hP hD hS => ?_)
    refine lv_aload_n hx hb dX6_areTogether_18 rfl (lv_at hl 0 rfl) ?_
    refine lv_iload_n hx hb dX6_areTogether_19 rfl (lv_at hl 2 rfl) ?_
    refine lv_aload_n hx hb dX6_areTogether_20 rfl (lv_at hl 0 rfl) ?_
    refine va_get (D := D) (ci := 4) (v := .int (u2.1 12)) (C := RX5) (T := TX5) (N := 16) hx hb hts inX5 hown hK hP 0 rfl rfl 12 (by decide) (hts _ q_138) (fun _ h9 => h9) rfl dX6_areTogether_21 ?_
    refine cl_i (ws' := fun u4 => (wX5 cI cZ a u4)) (va_runV (As := [.int p1, .int (u2.1 12)]) (rest := [.int r3]) ⟨hx, hb, hml, hown, hts⟩ (c_X5_groupBy l D cI cZ a _ u2 p1 (u2.1 12) _ h ) (cwV 2 hts (gV q_944 q_798 q_799 q_69 q_800) rfl rfl rfl (by decide +kernel) ⟨Nat.le_of_ble_eq_true rfl, Nat.le_of_ble_eq_true rfl⟩) (preV_of (ci := 4) (q := (RX5, TX5, 16)) hK hP hD [0, 1, 2, 3, 4, 5, 6, 7, 8, 9, 10] rfl rfl (by decide) 0 rfl rfl) rfl rfl hl.1 rfl (lv_room (Nat.le_of_ble_eq_true rfl)) dX6_areTogether_24 ⟨Nat.zero_le _, Nat.zero_le _⟩) hP hD hS hA [0, 1, 2, 3, 4, 5, 6, 7, 8, 9, 10] [.inl 0, .inl 1, .inl 2, .inl 3, .inl 4, .inl 5, .inl 6, .inl 7, .inl 8, .inl 9, .inl 10] rfl (by decide) (fun _ => rfl) (fun _ => rfl) (fun r5 u4 H locs h hP hD hS => ?_)
    refine lv_icmp_ne (tgt := 34) hx hb dX6_areTogether_27 (by decide) (fun c6 => ?_) (fun c6 => ?_)
    · have h := h.1 c6
      refine lv_iconst (v := 0) hx hb dX6_areTogether_34 (by decide) ?_
      exact W.zret (ty := .boolean) (v := 0) hx hb hr (narB isB0) (fun t ht hW => ⟨⟨0, u4, rfl, h, by rw [ht]; exact hP, va_K.moved hW.alike hK, hD⟩, hS.F ht⟩) hS.2.2 dX6_areTogether_35
    · have h := h.2 c6
      refine lv_iconst (v := 1) hx hb dX6_areTogether_30 (by decide) ?_
      refine lv_goto (tgt := 35) hx hb dX6_areTogether_31 (by decide) ?_
      exact W.zret (ty := .boolean) (v := 1) hx hb hr (narB isB1) (fun t ht hW => ⟨⟨1, u4, rfl, h, by rw [ht]; exact hP, va_K.moved hW.alike hK, hD⟩, hS.F ht⟩) hS.2.2 dX6_areTogether_35
/-! X6_isFirstOfGroup -/
abbrev rmX6_isFirstOfGroup : Room := { frames := 2, cells := 0, slots := 0, locals := 44 }
set_option maxHeartbeats 4000000 in
set_option maxRecDepth 100000 in
theorem c_X6_isFirstOfGroup (l : Launch) (D : va_G) (cI cZ : ClassId) (a : Nat → Nat) (sz : Nat) (S : Ob) (p0 : Int32) (Q : Int32 → Ob → Prop) (h : wp_X6_isFirstOfGroup S p0 Q) : Met l yX6_isFirstOfGroup (wsm yX6_isFirstOfGroup cX6_isFirstOfGroup 3 (some .boolean)) rmX6_isFirstOfGroup (va_Pc [.ref (a 0), .int p0] (preW D cI cZ sz (wX5 cI cZ a S))) (va_Qi Q (fun u => atW D cI cZ (va_A (wX5 cI cZ a S) sz) (wX5 cI cZ a u)) (va_A (wX5 cI cZ a S) sz)) 0 0 (va_A (wX5 cI cZ a S) sz) := by
  refine Met.ofW (cc := cX6_isFirstOfGroup) (maxL := 3) (ret := (some .boolean)) (by decide) rfl ?_
  intro p e s m args below meth c s₁ B hml hv
  obtain ⟨rfl, hsz, hP, hK, hD0⟩ := hv
  have hx := B.exec
  have hb := B.bytes
  have hr := B.returns
  have hts0 := atoms_spec (ws := wsm yX6_isFirstOfGroup cX6_isFirstOfGroup 3 (some .boolean)) B.pre
  have hts : ∀ w ∈ lw_all, w.before _ s = true := fun w h => hts0 w (List.mem_cons_of_mem _ h)
  have hown : s.vm.findClass RX6 = some m.cls := findClass_of_methodNamed B.named
  have hlocks := B.notSynchronized
  subst hsz
  have hD := hD0.self (sz := s.heap.size)
  generalize hAe : va_A (wX5 cI cZ a S) s.heap.size = A at hD ⊢
  have hA : ∀ q : Nat, s.heap.size ≤ q → A q := fun q h => by rw [← hAe]; exact Or.inr h
  have hS : va_S A s.heap s.heap [] := va_S.rf
  have hml2 := hml
  have L2 : ∀ (n : Nat), ∀ (y1 : Int32) (y2 : Int32) (T : Ob) (H : Heap) (locs : List Loc) (ls : Array Slot), va_P D vwCl (wX5 cI cZ a T) H → va_D A (wX5 cI cZ a T) → va_S A s.heap H locs → lv_has ls 3 [(0, .ref (a 0)), (1, .int y1), (2, .int y2)] → wp_X6_isFirstOfGroup_L2 Q n y1 y2 T → W p l e rmX6_isFirstOfGroup s m ([.ref (a 0), .int p0] : List Value).toArray below meth c H locs 0 0 (MQ below (va_Qi Q (fun u => atW D cI cZ A (wX5 cI cZ a u)) A) ([.ref (a 0), .int p0] : List Value).toArray s 0 0 A) (F0 m 2 ls []) := by
    intro n
    induction n with
    | zero =>
      intro y1 y2 T H locs ls hP hD hS hl h
      exact False.elim h
    | succ n ih =>
      intro y1 y2 T H locs ls hP hD hS hl h
      unfold wp_X6_isFirstOfGroup_L2 at h
      refine lv_iload_n hx hb dX6_isFirstOfGroup_2 rfl (lv_at hl 2 rfl) ?_
      refine lv_iload_n hx hb dX6_isFirstOfGroup_3 rfl (lv_at hl 1 rfl) ?_
      refine lv_icmp_ge (tgt := 24) hx hb dX6_isFirstOfGroup_4 (by decide) (fun c1 => ?_) (fun c1 => ?_)
      · have h := h.1 c1
        refine lv_aload_n hx hb dX6_isFirstOfGroup_24 rfl (lv_at hl 0 rfl) ?_
        refine va_get (D := D) (ci := 4) (v := .ref (a 3)) (C := RX5) (T := TX5) (N := 16) hx hb hts inX5 hown hK hP 0 rfl rfl 2 (by decide) (hts _ q_116) (fun _ h9 => h9) rfl dX6_isFirstOfGroup_25 ?_
        refine lv_iload_n hx hb dX6_isFirstOfGroup_28 rfl (lv_at hl 1 rfl) ?_
        refine ar_zl (f := (T.2 2)) (n := 21) (j := (Int32.toNatClampNeg y1)) hx hb hK hP 3 rfl rfl h.1 dX6_isFirstOfGroup_29 ?_
        have h := h.2
        exact W.zret (ty := .boolean) (v := ((T.2 2) (Int32.toNatClampNeg y1))) hx hb hr (narB h.1) (fun t ht hW => ⟨⟨((T.2 2) (Int32.toNatClampNeg y1)), T, rfl, h.2, by rw [ht]; exact hP, va_K.moved hW.alike hK, hD⟩, hS.F ht⟩) hS.2.2 dX6_isFirstOfGroup_30
      · have h := h.2 c1
        refine lv_aload_n hx hb dX6_isFirstOfGroup_7 rfl (lv_at hl 0 rfl) ?_
        refine lv_iload_n hx hb dX6_isFirstOfGroup_8 rfl (lv_at hl 2 rfl) ?_
        refine lv_iload_n hx hb dX6_isFirstOfGroup_9 rfl (lv_at hl 1 rfl) ?_
        refine cl_i (ws' := fun u2 => (wX5 cI cZ a u2)) (va_runS (As := [.ref (a 0), .int y2, .int y1]) (rest := []) ⟨hx, hb, hml, hown, hts⟩ (c_X6_areTogether l D cI cZ a _ T y2 y1 _ h ) (va_cwS 3 hts (gS q_941 q_942 q_74 q_943) rfl rfl rfl (by decide +kernel) ⟨Nat.le_of_ble_eq_true rfl, Nat.le_of_ble_eq_true rfl⟩) (preS_of hK hP hD [0, 1, 2, 3, 4, 5, 6, 7, 8, 9, 10] rfl rfl (by decide)) rfl rfl hl.1 rfl (lv_room (Nat.le_of_ble_eq_true rfl)) dX6_isFirstOfGroup_10 ⟨Nat.zero_le _, Nat.zero_le _⟩) hP hD hS hA [0, 1, 2, 3, 4, 5, 6, 7, 8, 9, 10] [.inl 0, .inl 1, .inl 2, .inl 3, .inl 4, .inl 5, .inl 6, .inl 7, .inl 8, .inl 9, .inl 10] rfl (by decide) (fun _ => rfl) (fun _ => rfl) (fun r3 u2 H locs h hP hD hS => ?_)
        refine lv_if_eq (tgt := 18) hx hb dX6_isFirstOfGroup_13 (by decide) (fun c4 => ?_) (fun c4 => ?_)
        · have h := h.1 c4
          obtain ⟨x5, ex5⟩ : ∃ y : Int32, y = (y2 + 1) := ⟨_, rfl⟩
          have h := h x5 ex5
          refine lv_iinc (v := x5) (lv' := [(2, .int x5), (0, .ref (a 0)), (1, .int y1)]) hx hb dX6_isFirstOfGroup_18 hl (k := 2) rfl (by rw [ex5]; rfl) (by decide) rfl (fun ls hl => ?_)
          refine lv_goto (tgt := 2) hx hb dX6_isFirstOfGroup_21 (by decide) ?_
          exact ih y1 x5 u2 _ _ _ hP hD hS (lv_sub hl [1, 2, 0] rfl) h
        · have h := h.2 c4
          refine lv_iconst (v := 0) hx hb dX6_isFirstOfGroup_16 (by decide) ?_
          exact W.zret (ty := .boolean) (v := 0) hx hb hr (narB isB0) (fun t ht hW => ⟨⟨0, u2, rfl, h, by rw [ht]; exact hP, va_K.moved hW.alike hK, hD⟩, hS.F ht⟩) hS.2.2 dX6_isFirstOfGroup_17
  have hl := lv_entry ([.ref (a 0), .int p0]) (n := 3) (Nat.le_of_ble_eq_true rfl)
  rw [lg_entry_eq]
  generalize (lg_sl ([.ref (a 0), .int p0]) ++ List.replicate (3 - (lg_sl ([.ref (a 0), .int p0])).length) Slot.unset).toArray = ls at hl ⊢
  have hl : lv_has ls 3 [(0, .ref (a 0)), (1, .int p0)] := hl
  unfold wp_X6_isFirstOfGroup at h
  refine lv_iconst (v := 0) hx hb dX6_isFirstOfGroup_0 (by decide) ?_
  refine lv_istore_n (lv' := [(2, .int 0), (0, .ref (a 0)), (1, .int p0)]) hx hb dX6_isFirstOfGroup_1 rfl hl (by decide) rfl (fun ls hl => ?_)
  exact L2 2000 p0 0 S _ _ _ hP hD hS (lv_sub hl [1, 2, 0] rfl) h
/-! X6_mostOfGroup -/
abbrev rmX6_mostOfGroup : Room := { frames := 2, cells := 0, slots := 0, locals := 44 }
set_option maxHeartbeats 4000000 in
set_option maxRecDepth 100000 in
theorem c_X6_mostOfGroup (l : Launch) (D : va_G) (cI cZ : ClassId) (a : Nat → Nat) (b : Nat → Nat) (sz : Nat) (S : Ob × (Nat → Int32) × Ob) (p0 : Int32) (Q : Int32 → (Ob × (Nat → Int32) × Ob) → Prop) (h : wp_X6_mostOfGroup S p0 Q) : Met l yX6_mostOfGroup (wsm yX6_mostOfGroup cX6_mostOfGroup 5 (some .int)) rmX6_mostOfGroup (va_Pc [.ref (a 0), .ref (b 0), .int p0] (preW D cI cZ sz (wX6X5 cI cZ a b S))) (va_Qi Q (fun u => atW D cI cZ (va_A (wX6X5 cI cZ a b S) sz) (wX6X5 cI cZ a b u)) (va_A (wX6X5 cI cZ a b S) sz)) 0 0 (va_A (wX6X5 cI cZ a b S) sz) := by
  refine Met.ofW (cc := cX6_mostOfGroup) (maxL := 5) (ret := (some .int)) (by decide) rfl ?_
  intro p e s m args below meth c s₁ B hml hv
  obtain ⟨rfl, hsz, hP, hK, hD0⟩ := hv
  have hx := B.exec
  have hb := B.bytes
  have hr := B.returns
  have hts0 := atoms_spec (ws := wsm yX6_mostOfGroup cX6_mostOfGroup 5 (some .int)) B.pre
  have hts : ∀ w ∈ lw_all, w.before _ s = true := fun w h => hts0 w (List.mem_cons_of_mem _ h)
  have hown : s.vm.findClass RX6 = some m.cls := findClass_of_methodNamed B.named
  have hlocks := B.notSynchronized
  subst hsz
  have hD := hD0.self (sz := s.heap.size)
  generalize hAe : va_A (wX6X5 cI cZ a b S) s.heap.size = A at hD ⊢
  have hA : ∀ q : Nat, s.heap.size ≤ q → A q := fun q h => by rw [← hAe]; exact Or.inr h
  have hS : va_S A s.heap s.heap [] := va_S.rf
  have hml2 := hml
  have L5 : ∀ (n : Nat), ∀ (y2 : Int32) (y3 : Int32) (y4 : Int32) (T : Ob × (Nat → Int32) × Ob) (H : Heap) (locs : List Loc) (ls : Array Slot), va_P D vwCl (wX6X5 cI cZ a b T) H → va_D A (wX6X5 cI cZ a b T) → va_S A s.heap H locs → lv_has ls 5 [(0, .ref (a 0)), (1, .ref (b 0)), (2, .int y2), (3, .int y3), (4, .int y4)] → wp_X6_mostOfGroup_L5 Q n y2 y3 y4 T → W p l e rmX6_mostOfGroup s m ([.ref (a 0), .ref (b 0), .int p0] : List Value).toArray below meth c H locs 0 0 (MQ below (va_Qi Q (fun u => atW D cI cZ A (wX6X5 cI cZ a b u)) A) ([.ref (a 0), .ref (b 0), .int p0] : List Value).toArray s 0 0 A) (F0 m 5 ls []) := by
    intro n
    induction n with
    | zero =>
      intro y2 y3 y4 T H locs ls hP hD hS hl h
      exact False.elim h
    | succ n ih =>
      intro y2 y3 y4 T H locs ls hP hD hS hl h
      unfold wp_X6_mostOfGroup_L5 at h
      refine lv_iload hx hb dX6_mostOfGroup_5 (lv_at hl 4 rfl) ?_
      refine lv_bipush (v := 21) hx hb dX6_mostOfGroup_7 (by decide) ?_
      refine lv_icmp_ge (tgt := 40) hx hb dX6_mostOfGroup_9 (by decide) (fun c1 => ?_) (fun c1 => ?_)
      · have h := h.1 c1
        refine lv_iload_n hx hb dX6_mostOfGroup_40 rfl (lv_at hl 3 rfl) ?_
        exact W.iret (v := y3) hx hb hr (fun t ht hW => ⟨⟨y3, T, rfl, h, by rw [ht]; exact hP, va_K.moved hW.alike hK, hD⟩, hS.F ht⟩) hS.2.2 dX6_mostOfGroup_41
      · have h := h.2 c1
        refine lv_aload_n hx hb dX6_mostOfGroup_12 rfl (lv_at hl 1 rfl) ?_
        refine lv_iload hx hb dX6_mostOfGroup_13 (lv_at hl 4 rfl) ?_
        refine lv_iload_n hx hb dX6_mostOfGroup_15 rfl (lv_at hl 2 rfl) ?_
        refine cl_i (ws' := fun u2 => (wX6X5 cI cZ a b (T.1, T.2.1, u2))) (va_runS (As := [.ref (b 0), .int y4, .int y2]) (rest := []) ⟨hx, hb, hml, hown, hts⟩ (c_X6_areTogether l D cI cZ b _ T.2.2 y4 y2 _ h ) (va_cwS 3 hts (gS q_941 q_942 q_74 q_943) rfl rfl rfl (by decide +kernel) ⟨Nat.le_of_ble_eq_true rfl, Nat.le_of_ble_eq_true rfl⟩) (preS_of hK hP hD [7, 8, 9, 10, 11, 12, 13, 14, 15, 16, 17] rfl rfl (by decide)) rfl rfl hl.1 rfl (lv_room (Nat.le_of_ble_eq_true rfl)) dX6_mostOfGroup_16 ⟨Nat.zero_le _, Nat.zero_le _⟩) hP hD hS hA [7, 8, 9, 10, 11, 12, 13, 14, 15, 16, 17] [.inr 0, .inr 1, .inr 2, .inr 3, .inr 4, .inr 5, .inr 6, .inl 0, .inl 1, .inl 2, .inl 3, .inl 4, .inl 5, .inl 6, .inl 7, .inl 8, .inl 9, .inl 10] rfl (by decide) (fun _ => rfl) (fun _ => rfl) (fun r3 u2 H locs h hP hD hS => ?_)
        refine lv_if_eq (tgt := 34) hx hb dX6_mostOfGroup_19 (by decide) (fun c4 => ?_) (fun c4 => ?_)
        · have h := h.1 c4
          obtain ⟨x5, ex5⟩ : ∃ y : Int32, y = (y4 + 1) := ⟨_, rfl⟩
          have h := h x5 ex5
          refine lv_iinc (v := x5) (lv' := [(4, .int x5), (0, .ref (a 0)), (1, .ref (b 0)), (2, .int y2), (3, .int y3)]) hx hb dX6_mostOfGroup_34 hl (k := 4) rfl (by rw [ex5]; rfl) (by decide) rfl (fun ls hl => ?_)
          refine lv_goto (tgt := 5) hx hb dX6_mostOfGroup_37 (by decide) ?_
          exact ih y2 y3 x5 (T.1, T.2.1, u2) _ _ _ hP hD hS (lv_sub hl [1, 2, 3, 4, 0] rfl) h
        · have h := h.2 c4
          refine lv_iload_n hx hb dX6_mostOfGroup_22 rfl (lv_at hl 3 rfl) ?_
          refine lv_aload_n hx hb dX6_mostOfGroup_23 rfl (lv_at hl 0 rfl) ?_
          refine va_get (D := D) (ci := 5) (v := .ref (a 3)) (C := RX6) (T := TX6) (N := 7) hx hb hts inX6 hown hK hP 0 rfl rfl 3 (by decide) (hts _ q_402) (fun _ h9 => h9) rfl dX6_mostOfGroup_24 ?_
          refine lv_iload hx hb dX6_mostOfGroup_27 (lv_at hl 4 rfl) ?_
          refine ar_il (f := (T.1.2 3)) (n := 21) (j := (Int32.toNatClampNeg y4)) hx hb hK hP 3 rfl rfl h.1 dX6_mostOfGroup_29 ?_
          have h := h.2
          refine mm_max hx hb hml2 hown (hts _ q_923) (hts _ q_666) (hts _ q_77) (hts _ q_667) (Nat.le_of_ble_eq_true rfl) (Nat.le_of_ble_eq_true rfl) (Nat.zero_le _) (Nat.zero_le _) dX6_mostOfGroup_30 hl.1 ?_
          refine lv_topi (fun x6 ex6 => ?_)
          have h := h x6 ex6
          refine lv_istore_n (lv' := [(3, .int x6), (0, .ref (a 0)), (1, .ref (b 0)), (2, .int y2), (4, .int y4)]) hx hb dX6_mostOfGroup_33 rfl hl (by decide) rfl (fun ls hl => ?_)
          obtain ⟨x7, ex7⟩ : ∃ y : Int32, y = (y4 + 1) := ⟨_, rfl⟩
          have h := h x7 ex7
          refine lv_iinc (v := x7) (lv' := [(4, .int x7), (3, .int x6), (0, .ref (a 0)), (1, .ref (b 0)), (2, .int y2)]) hx hb dX6_mostOfGroup_34 hl (k := 4) rfl (by rw [ex7]; rfl) (by decide) rfl (fun ls hl => ?_)
          refine lv_goto (tgt := 5) hx hb dX6_mostOfGroup_37 (by decide) ?_
          exact ih y2 x6 x7 (T.1, T.2.1, u2) _ _ _ hP hD hS (lv_sub hl [2, 3, 4, 1, 0] rfl) h
  have hl := lv_entry ([.ref (a 0), .ref (b 0), .int p0]) (n := 5) (Nat.le_of_ble_eq_true rfl)
  rw [lg_entry_eq]
  generalize (lg_sl ([.ref (a 0), .ref (b 0), .int p0]) ++ List.replicate (5 - (lg_sl ([.ref (a 0), .ref (b 0), .int p0])).length) Slot.unset).toArray = ls at hl ⊢
  have hl : lv_has ls 5 [(0, .ref (a 0)), (1, .ref (b 0)), (2, .int p0)] := hl
  unfold wp_X6_mostOfGroup at h
  refine lv_iconst (v := 0) hx hb dX6_mostOfGroup_0 (by decide) ?_
  refine lv_istore_n (lv' := [(3, .int 0), (0, .ref (a 0)), (1, .ref (b 0)), (2, .int p0)]) hx hb dX6_mostOfGroup_1 rfl hl (by decide) rfl (fun ls hl => ?_)
  refine lv_iload_n hx hb dX6_mostOfGroup_2 rfl (lv_at hl 3 rfl) ?_
  refine lv_istore (lv' := [(4, .int p0), (3, .int 0), (0, .ref (a 0)), (1, .ref (b 0)), (2, .int p0)]) hx hb dX6_mostOfGroup_3 hl (by decide) rfl (fun ls hl => ?_)
  exact L5 2000 p0 0 p0 S _ _ _ hP hD hS (lv_sub hl [2, 3, 4, 1, 0] rfl) h
/-! X6_roomFor -/
abbrev rmX6_roomFor : Room := { frames := 3, cells := 0, slots := 0, locals := 81 }
set_option maxHeartbeats 4000000 in
set_option maxRecDepth 100000 in
theorem c_X6_roomFor (l : Launch) (D : va_G) (cI cZ : ClassId) (a : Nat → Nat) (b : Nat → Nat) (sz : Nat) (S : Ob × (Nat → Int32) × Ob) (p0 : Int32) (Q : Int32 → (Ob × (Nat → Int32) × Ob) → Prop) (h : wp_X6_roomFor S p0 Q) : Met l yX6_roomFor (wsm yX6_roomFor cX6_roomFor 5 (some .int)) rmX6_roomFor (va_Pc [.ref (a 0), .ref (b 0), .int p0] (preT D cI cZ sz (wX6X5 cI cZ a b S))) (va_Qi Q (fun u => atW D cI cZ (va_A (wX6X5 cI cZ a b S) sz) (wX6X5 cI cZ a b u)) (va_A (wX6X5 cI cZ a b S) sz)) 0 0 (va_A (wX6X5 cI cZ a b S) sz) := by
  refine Met.ofW (cc := cX6_roomFor) (maxL := 5) (ret := (some .int)) (by decide) rfl ?_
  intro p e s m args below meth c s₁ B hml hv
  obtain ⟨rfl, ⟨hsz, hP, hK, hD0⟩, hF⟩ := hv
  have hx := B.exec
  have hb := B.bytes
  have hr := B.returns
  have hts0 := atoms_spec (ws := wsm yX6_roomFor cX6_roomFor 5 (some .int)) B.pre
  have hts : ∀ w ∈ lw_all, w.before _ s = true := fun w h => hts0 w (List.mem_cons_of_mem _ h)
  have hown : s.vm.findClass RX6 = some m.cls := findClass_of_methodNamed B.named
  have hlocks := B.notSynchronized
  subst hsz
  have hD := hD0.self (sz := s.heap.size)
  generalize hAe : va_A (wX6X5 cI cZ a b S) s.heap.size = A at hD hF ⊢
  have hA : ∀ q : Nat, s.heap.size ≤ q → A q := fun q h => by rw [← hAe]; exact Or.inr h
  have hS : va_S A s.heap s.heap [] := va_S.rf
  have hml2 := hml
  have L60 : ∀ (n : Nat), ∀ (y2 : Int32) (y3 : Int32) (y4 : Int32) (T : Ob × (Nat → Int32) × Ob) (H : Heap) (locs : List Loc) (ls : Array Slot), va_P D vwCl (wX6X5 cI cZ a b T) H → va_D A (wX6X5 cI cZ a b T) → va_S A s.heap H locs → lv_has ls 5 [(0, .ref (a 0)), (1, .ref (b 0)), (2, .int y2), (3, .int y3), (4, .int y4)] → wp_X6_roomFor_L60 Q n y2 y3 y4 T → W p l e rmX6_roomFor s m ([.ref (a 0), .ref (b 0), .int p0] : List Value).toArray below meth c H locs 0 0 (MQ below (va_Qi Q (fun u => atW D cI cZ A (wX6X5 cI cZ a b u)) A) ([.ref (a 0), .ref (b 0), .int p0] : List Value).toArray s 0 0 A) (F0 m 60 ls []) := by
    intro n
    induction n with
    | zero =>
      intro y2 y3 y4 T H locs ls hP hD hS hl h
      exact False.elim h
    | succ n ih =>
      intro y2 y3 y4 T H locs ls hP hD hS hl h
      unfold wp_X6_roomFor_L60 at h
      refine lv_iload hx hb dX6_roomFor_60 (lv_at hl 4 rfl) ?_
      refine lv_bipush (v := 21) hx hb dX6_roomFor_62 (by decide) ?_
      refine lv_icmp_ge (tgt := 94) hx hb dX6_roomFor_64 (by decide) (fun c9 => ?_) (fun c9 => ?_)
      · have h := h.1 c9
        refine lv_iload_n hx hb dX6_roomFor_94 rfl (lv_at hl 3 rfl) ?_
        exact W.iret (v := y3) hx hb hr (fun t ht hW => ⟨⟨y3, T, rfl, h, by rw [ht]; exact hP, va_K.moved hW.alike hK, hD⟩, hS.F ht⟩) hS.2.2 dX6_roomFor_95
      · have h := h.2 c9
        refine lv_aload_n hx hb dX6_roomFor_67 rfl (lv_at hl 1 rfl) ?_
        refine lv_iload hx hb dX6_roomFor_68 (lv_at hl 4 rfl) ?_
        refine cl_i (ws' := fun u10 => (wX6X5 cI cZ a b (T.1, T.2.1, u10))) (va_runS (As := [.ref (b 0), .int y4]) (rest := []) ⟨hx, hb, hml, hown, hts⟩ (c_X6_isFirstOfGroup l D cI cZ b _ T.2.2 y4 _ h ) (va_cwS 2 hts (gS q_938 q_939 q_74 q_940) rfl rfl rfl (by decide +kernel) ⟨Nat.le_of_ble_eq_true rfl, Nat.le_of_ble_eq_true rfl⟩) (preS_of hK hP hD [7, 8, 9, 10, 11, 12, 13, 14, 15, 16, 17] rfl rfl (by decide)) rfl rfl hl.1 rfl (lv_room (Nat.le_of_ble_eq_true rfl)) dX6_roomFor_70 ⟨Nat.zero_le _, Nat.zero_le _⟩) hP hD hS hA [7, 8, 9, 10, 11, 12, 13, 14, 15, 16, 17] [.inr 0, .inr 1, .inr 2, .inr 3, .inr 4, .inr 5, .inr 6, .inl 0, .inl 1, .inl 2, .inl 3, .inl 4, .inl 5, .inl 6, .inl 7, .inl 8, .inl 9, .inl 10] rfl (by decide) (fun _ => rfl) (fun _ => rfl) (fun r11 u10 H locs h hP hD hS => ?_)
        refine lv_if_eq (tgt := 88) hx hb dX6_roomFor_73 (by decide) (fun c12 => ?_) (fun c12 => ?_)
        · have h := h.1 c12
          obtain ⟨x13, ex13⟩ : ∃ y : Int32, y = (y4 + 1) := ⟨_, rfl⟩
          have h := h x13 ex13
          refine lv_iinc (v := x13) (lv' := [(4, .int x13), (0, .ref (a 0)), (1, .ref (b 0)), (2, .int y2), (3, .int y3)]) hx hb dX6_roomFor_88 hl (k := 4) rfl (by rw [ex13]; rfl) (by decide) rfl (fun ls hl => ?_)
          refine lv_goto (tgt := 60) hx hb dX6_roomFor_91 (by decide) ?_
          exact ih y2 y3 x13 (T.1, T.2.1, u10) _ _ _ hP hD hS (lv_sub hl [1, 2, 3, 4, 0] rfl) h
        · have h := h.2 c12
          refine lv_iload_n hx hb dX6_roomFor_76 rfl (lv_at hl 3 rfl) ?_
          refine lv_iload_n hx hb dX6_roomFor_77 rfl (lv_at hl 2 rfl) ?_
          refine lv_aload_n hx hb dX6_roomFor_78 rfl (lv_at hl 0 rfl) ?_
          refine lv_aload_n hx hb dX6_roomFor_79 rfl (lv_at hl 1 rfl) ?_
          refine lv_iload hx hb dX6_roomFor_80 (lv_at hl 4 rfl) ?_
          refine cl_i (ws' := fun u14 => (wX6X5 cI cZ a b u14)) (va_runV (As := [.ref (b 0), .int y4]) (rest := [.int y2, .int y3]) ⟨hx, hb, hml, hown, hts⟩ (c_X6_mostOfGroup l D cI cZ a b _ (T.1, T.2.1, u10) y4 _ h ) (cwV 2 hts (gV q_945 q_947 q_27 q_74 q_948) rfl rfl rfl (by decide +kernel) ⟨Nat.le_of_ble_eq_true rfl, Nat.le_of_ble_eq_true rfl⟩) (preV_of (ci := 5) (q := (RX6, TX6, 7)) hK hP hD [0, 1, 2, 3, 4, 5, 6, 7, 8, 9, 10, 11, 12, 13, 14, 15, 16, 17] rfl rfl (by decide) 0 rfl rfl) rfl rfl hl.1 rfl (lv_room (Nat.le_of_ble_eq_true rfl)) dX6_roomFor_82 ⟨Nat.zero_le _, Nat.zero_le _⟩) hP hD hS hA [0, 1, 2, 3, 4, 5, 6, 7, 8, 9, 10, 11, 12, 13, 14, 15, 16, 17] [.inl 0, .inl 1, .inl 2, .inl 3, .inl 4, .inl 5, .inl 6, .inl 7, .inl 8, .inl 9, .inl 10, .inl 11, .inl 12, .inl 13, .inl 14, .inl 15, .inl 16, .inl 17] rfl (by decide) (fun _ => rfl) (fun _ => rfl) (fun r15 u14 H locs h hP hD hS => ?_)
          refine lv_iadd hx hb dX6_roomFor_85 ?_
          refine lv_iadd hx hb dX6_roomFor_86 ?_
          refine lv_topi (fun x16 ex16 => ?_)
          have h := h x16 ex16
          refine lv_istore_n (lv' := [(3, .int x16), (0, .ref (a 0)), (1, .ref (b 0)), (2, .int y2), (4, .int y4)]) hx hb dX6_roomFor_87 rfl hl (by decide) rfl (fun ls hl => ?_)
          obtain ⟨x17, ex17⟩ : ∃ y : Int32, y = (y4 + 1) := ⟨_, rfl⟩
          have h := h x17 ex17
          refine lv_iinc (v := x17) (lv' := [(4, .int x17), (3, .int x16), (0, .ref (a 0)), (1, .ref (b 0)), (2, .int y2)]) hx hb dX6_roomFor_88 hl (k := 4) rfl (by rw [ex17]; rfl) (by decide) rfl (fun ls hl => ?_)
          refine lv_goto (tgt := 60) hx hb dX6_roomFor_91 (by decide) ?_
          exact ih y2 x16 x17 u14 _ _ _ hP hD hS (lv_sub hl [2, 3, 4, 1, 0] rfl) h
  have L2 : ∀ (n : Nat), ∀ (y2 : Int32) (y3 : Int32) (T : Ob × (Nat → Int32) × Ob) (H : Heap) (locs : List Loc) (ls : Array Slot), va_P D vwCl (wX6X5 cI cZ a b T) H → va_D A (wX6X5 cI cZ a b T) → va_S A s.heap H locs → lv_has ls 5 [(0, .ref (a 0)), (1, .ref (b 0)), (2, .int y2), (3, .int y3)] → wp_X6_roomFor_L2 Q n y2 y3 T → W p l e rmX6_roomFor s m ([.ref (a 0), .ref (b 0), .int p0] : List Value).toArray below meth c H locs 0 0 (MQ below (va_Qi Q (fun u => atW D cI cZ A (wX6X5 cI cZ a b u)) A) ([.ref (a 0), .ref (b 0), .int p0] : List Value).toArray s 0 0 A) (F0 m 2 ls []) := by
    intro n
    induction n with
    | zero =>
      intro y2 y3 T H locs ls hP hD hS hl h
      exact False.elim h
    | succ n ih =>
      intro y2 y3 T H locs ls hP hD hS hl h
      unfold wp_X6_roomFor_L2 at h
      refine lv_iload_n hx hb dX6_roomFor_2 rfl (lv_at hl 3 rfl) ?_
      refine lv_bipush (v := 21) hx hb dX6_roomFor_3 (by decide) ?_
      refine lv_icmp_ge (tgt := 55) hx hb dX6_roomFor_5 (by decide) (fun c1 => ?_) (fun c1 => ?_)
      · have h := h.1 c1
        refine lv_iconst (v := 0) hx hb dX6_roomFor_55 (by decide) ?_
        refine lv_istore_n (lv' := [(3, .int 0), (0, .ref (a 0)), (1, .ref (b 0)), (2, .int y2)]) hx hb dX6_roomFor_56 rfl hl (by decide) rfl (fun ls hl => ?_)
        refine lv_iconst (v := 0) hx hb dX6_roomFor_57 (by decide) ?_
        refine lv_istore (lv' := [(4, .int 0), (3, .int 0), (0, .ref (a 0)), (1, .ref (b 0)), (2, .int y2)]) hx hb dX6_roomFor_58 hl (by decide) rfl (fun ls hl => ?_)
        exact L60 2000 y2 0 0 T _ _ _ hP hD hS (lv_sub hl [2, 3, 4, 1, 0] rfl) h
      · have h := h.2 c1
        refine lv_aload_n hx hb dX6_roomFor_8 rfl (lv_at hl 1 rfl) ?_
        refine va_get (D := D) (ci := 4) (v := .ref (b 3)) (C := RX5) (T := TX5) (N := 16) hx hb hts inX5 hown hK hP 7 rfl rfl 2 (by decide) (hts _ q_116) (fun _ h9 => h9) rfl dX6_roomFor_9 ?_
        refine lv_iload_n hx hb dX6_roomFor_12 rfl (lv_at hl 3 rfl) ?_
        refine ar_zl (f := (T.2.2.2 2)) (n := 21) (j := (Int32.toNatClampNeg y3)) hx hb hK hP 10 rfl rfl h.1 dX6_roomFor_13 ?_
        have h := h.2
        refine lv_if_eq (tgt := 49) hx hb dX6_roomFor_14 (by decide) (fun c2 => ?_) (fun c2 => ?_)
        · have h := h.1 c2
          obtain ⟨x3, ex3⟩ : ∃ y : Int32, y = (y3 + 1) := ⟨_, rfl⟩
          have h := h x3 ex3
          refine lv_iinc (v := x3) (lv' := [(3, .int x3), (0, .ref (a 0)), (1, .ref (b 0)), (2, .int y2)]) hx hb dX6_roomFor_49 hl (k := 3) rfl (by rw [ex3]; rfl) (by decide) rfl (fun ls hl => ?_)
          refine lv_goto (tgt := 2) hx hb dX6_roomFor_52 (by decide) ?_
          exact ih y2 x3 T _ _ _ hP hD hS (lv_sub hl [1, 2, 3, 0] rfl) h
        · have h := h.2 c2
          refine lv_aload_n hx hb dX6_roomFor_17 rfl (lv_at hl 0 rfl) ?_
          refine lv_aload_n hx hb dX6_roomFor_18 rfl (lv_at hl 1 rfl) ?_
          refine va_get (D := D) (ci := 4) (v := .ref (b 2)) (C := RX5) (T := TX5) (N := 16) hx hb hts inX5 hown hK hP 7 rfl rfl 1 (by decide) (hts _ q_112) (fun _ h9 => h9) rfl dX6_roomFor_19 ?_
          refine lv_iload_n hx hb dX6_roomFor_22 rfl (lv_at hl 3 rfl) ?_
          refine ar_il (f := (T.2.2.2 1)) (n := 21) (j := (Int32.toNatClampNeg y3)) hx hb hK hP 9 rfl rfl h.1 dX6_roomFor_23 ?_
          have h := h.2
          refine cl_i (ws' := fun u4 => (wX6X5 cI cZ a b (u4.1, u4.2, T.2.2))) (va_runV (As := [.int ((T.2.2.2 1) (Int32.toNatClampNeg y3))]) (rest := []) ⟨hx, hb, hml, hown, hts⟩ (c_X6_survey l D cI cZ a _ (T.1, T.2.1) ((T.2.2.2 1) (Int32.toNatClampNeg y3)) _ h ) (cwV 1 hts (gV q_937 q_895 q_896 q_74 q_897) rfl rfl rfl (by decide +kernel) ⟨Nat.le_of_ble_eq_true rfl, Nat.le_of_ble_eq_true rfl⟩) (preTV_of (ci := 5) (q := (RX6, TX6, 7)) hF hS hA hK hP hD [0, 1, 2, 3, 4, 5, 6] rfl rfl (by decide) 0 rfl rfl) rfl rfl hl.1 rfl (lv_room (Nat.le_of_ble_eq_true rfl)) dX6_roomFor_24 ⟨Nat.zero_le _, Nat.zero_le _⟩) hP hD hS hA [0, 1, 2, 3, 4, 5, 6] [.inl 0, .inl 1, .inl 2, .inl 3, .inl 4, .inl 5, .inl 6, .inr 7, .inr 8, .inr 9, .inr 10, .inr 11, .inr 12, .inr 13, .inr 14, .inr 15, .inr 16, .inr 17] rfl (by decide) (fun _ => rfl) (fun _ => rfl) (fun r5 u4 H locs h hP hD hS => ?_)
          refine lv_if_ne (tgt := 32) hx hb dX6_roomFor_27 (by decide) (fun c6 => ?_) (fun c6 => ?_)
          · have h := h.1 c6
            refine lv_aload_n hx hb dX6_roomFor_32 rfl (lv_at hl 0 rfl) ?_
            refine va_get (D := D) (ci := 5) (v := .ref (a 3)) (C := RX6) (T := TX6) (N := 7) hx hb hts inX6 hown hK hP 0 rfl rfl 3 (by decide) (hts _ q_402) (fun _ h9 => h9) rfl dX6_roomFor_33 ?_
            refine lv_iload_n hx hb dX6_roomFor_36 rfl (lv_at hl 3 rfl) ?_
            refine lv_aload_n hx hb dX6_roomFor_37 rfl (lv_at hl 0 rfl) ?_
            refine va_get (D := D) (ci := 5) (v := .ref (a 5)) (C := RX6) (T := TX6) (N := 7) hx hb hts inX6 hown hK hP 0 rfl rfl 6 (by decide) (hts _ q_406) (fun _ h9 => h9) rfl dX6_roomFor_38 ?_
            refine lv_aload_n hx hb dX6_roomFor_41 rfl (lv_at hl 1 rfl) ?_
            refine va_get (D := D) (ci := 4) (v := .ref (b 2)) (C := RX5) (T := TX5) (N := 16) hx hb hts inX5 hown hK hP 7 rfl rfl 1 (by decide) (hts _ q_112) (fun _ h9 => h9) rfl dX6_roomFor_42 ?_
            refine lv_iload_n hx hb dX6_roomFor_45 rfl (lv_at hl 3 rfl) ?_
            refine ar_il (f := (T.2.2.2 1)) (n := 21) (j := (Int32.toNatClampNeg y3)) hx hb hK hP 9 rfl rfl h.1 dX6_roomFor_46 ?_
            have h := h.2
            refine ar_il (f := (u4.1.2 6)) (n := 512) (j := (Int32.toNatClampNeg ((T.2.2.2 1) (Int32.toNatClampNeg y3)))) hx hb hK hP 5 rfl rfl h.1 dX6_roomFor_47 ?_
            have h := h.2
            obtain ⟨T7, eT7⟩ : ∃ z : Ob, z = (sa u4.1 3 (upd (u4.1.2 3) (Int32.toNatClampNeg y3) ((u4.1.2 6) (Int32.toNatClampNeg ((T.2.2.2 1) (Int32.toNatClampNeg y3)))))) := ⟨_, rfl⟩
            refine ar_is (f := (u4.1.2 3)) (n := 21) (j := (Int32.toNatClampNeg y3)) (x := ((u4.1.2 6) (Int32.toNatClampNeg ((T.2.2.2 1) (Int32.toNatClampNeg y3))))) hx hb hK hP hD hS 3 rfl rfl h.1 dX6_roomFor_48 (wX6X5 cI cZ a b (T7, u4.2, T.2.2)) (by subst eT7; rfl) (fun H locs hP hD hS => ?_)
            have h := h.2
            have h := h T7 eT7
            obtain ⟨x8, ex8⟩ : ∃ y : Int32, y = (y3 + 1) := ⟨_, rfl⟩
            have h := h x8 ex8
            refine lv_iinc (v := x8) (lv' := [(3, .int x8), (0, .ref (a 0)), (1, .ref (b 0)), (2, .int y2)]) hx hb dX6_roomFor_49 hl (k := 3) rfl (by rw [ex8]; rfl) (by decide) rfl (fun ls hl => ?_)
            refine lv_goto (tgt := 2) hx hb dX6_roomFor_52 (by decide) ?_
            exact ih y2 x8 (T7, u4.2, T.2.2) _ _ _ hP hD hS (lv_sub hl [1, 2, 3, 0] rfl) h
          · have h := h.2 c6
            refine lv_iconst (v := -1) hx hb dX6_roomFor_30 (by decide) ?_
            exact W.iret (v := (-1)) hx hb hr (fun t ht hW => ⟨⟨(-1), (u4.1, u4.2, T.2.2), rfl, h, by rw [ht]; exact hP, va_K.moved hW.alike hK, hD⟩, hS.F ht⟩) hS.2.2 dX6_roomFor_31
  have hl := lv_entry ([.ref (a 0), .ref (b 0), .int p0]) (n := 5) (Nat.le_of_ble_eq_true rfl)
  rw [lg_entry_eq]
  generalize (lg_sl ([.ref (a 0), .ref (b 0), .int p0]) ++ List.replicate (5 - (lg_sl ([.ref (a 0), .ref (b 0), .int p0])).length) Slot.unset).toArray = ls at hl ⊢
  have hl : lv_has ls 5 [(0, .ref (a 0)), (1, .ref (b 0)), (2, .int p0)] := hl
  unfold wp_X6_roomFor at h
  refine lv_iconst (v := 0) hx hb dX6_roomFor_0 (by decide) ?_
  refine lv_istore_n (lv' := [(3, .int 0), (0, .ref (a 0)), (1, .ref (b 0)), (2, .int p0)]) hx hb dX6_roomFor_1 rfl hl (by decide) rfl (fun ls hl => ?_)
  exact L2 2000 p0 0 S _ _ _ hP hD hS (lv_sub hl [1, 2, 3, 0] rfl) h
