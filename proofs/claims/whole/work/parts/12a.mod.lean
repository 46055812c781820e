/-! X8_thrown -/
abbrev rmX8_thrown : Room := { frames := 0, cells := 0, slots := 0, locals := 0 }
set_option maxHeartbeats 4000000 in
set_option maxRecDepth 100000 in
theorem c_X8_thrown (l : Launch) (D : va_G) (cI cZ : ClassId) (a : Nat → Nat) (sz : Nat) (S : Ob) (Q : Int32 → Ob → Prop) (h : wp_X8_thrown S Q) : Met l yX8_thrown (wsm yX8_thrown cX8_thrown 1 (some .int)) rmX8_thrown (va_Pc [.ref (a 0)] (preW D cI cZ sz (wX8 cI cZ a S))) (va_Qi Q (fun u => atW D cI cZ (va_A (wX8 cI cZ a S) sz) (wX8 cI cZ a u)) (va_A (wX8 cI cZ a S) sz)) 0 0 (va_A (wX8 cI cZ a S) sz) := by
  refine Met.ofW (cc := cX8_thrown) (maxL := 1) (ret := (some .int)) (by decide) rfl ?_
  intro p e s m args below meth c s₁ B hml hv
  obtain ⟨rfl, hsz, hP, hK, hD0⟩ := hv
  have hx := B.exec
  have hb := B.bytes
  have hr := B.returns
  have hts0 := atoms_spec (ws := wsm yX8_thrown cX8_thrown 1 (some .int)) B.pre
  have hts : ∀ w ∈ lw_all, w.before _ s = true := fun w h => hts0 w (List.mem_cons_of_mem _ h)
  have hown : s.vm.findClass RX8 = some m.cls := findClass_of_methodNamed B.named
  have hlocks := B.notSynchronized
  subst hsz
  have hD := hD0.self (sz := s.heap.size)
  generalize hAe : va_A (wX8 cI cZ a S) s.heap.size = A at hD ⊢
  have hA : ∀ q : Nat, s.heap.size ≤ q → A q := fun q h => by rw [← hAe]; exact Or.inr h
  have hS : va_S A s.heap s.heap [] := va_S.rf
  have hml2 := hml
  have hl := lv_entry ([.ref (a 0)]) (n := 1) (Nat.le_of_ble_eq_true rfl)
  rw [lg_entry_eq]
  generalize (lg_sl ([.ref (a 0)]) ++ List.replicate (1 - (lg_sl ([.ref (a 0)])).length) Slot.unset).toArray = ls at hl ⊢
  have hl : lv_has ls 1 [(0, .ref (a 0))] := hl
  unfold wp_X8_thrown at h
  refine lv_aload_n hx hb dX8_thrown_0 rfl (lv_at hl 0 rfl) ?_
  refine va_get (D := D) (ci := 7) (v := .int (S.1 17)) (C := RX8) (T := TX8) (N := 25) hx hb hts inX8 hown hK hP 0 rfl rfl 17 (by decide) (hts _ q_1094) (fun _ h9 => h9) rfl dX8_thrown_1 ?_
  exact W.iret (v := (S.1 17)) hx hb hr (fun t ht hW => ⟨⟨(S.1 17), S, rfl, h, by rw [ht]; exact hP, va_K.moved hW.alike hK, hD⟩, hS.F ht⟩) hS.2.2 dX8_thrown_4
/-! X8_within -/
abbrev rmX8_within : Room := { frames := 0, cells := 0, slots := 0, locals := 0 }
set_option maxHeartbeats 4000000 in
set_option maxRecDepth 100000 in
theorem c_X8_within (l : Launch) (D : va_G) (cI cZ : ClassId) (sz : Nat) (S : Unit) (p0 : Int32) (p1 : Int32) (p2 : Int32) (Q : Int32 → Unit → Prop) (h : wp_X8_within S p0 p1 p2 Q) : Met l yX8_within (wsm yX8_within cX8_within 3 (some .boolean)) rmX8_within (va_Pc [.int p0, .int p1, .int p2] (preW D cI cZ sz (w0_ cI cZ S))) (va_Qi Q (fun u => atW D cI cZ (va_A (w0_ cI cZ S) sz) (w0_ cI cZ u)) (va_A (w0_ cI cZ S) sz)) 0 0 (va_A (w0_ cI cZ S) sz) := by
  refine Met.ofW (cc := cX8_within) (maxL := 3) (ret := (some .boolean)) (by decide) rfl ?_
  intro p e s m args below meth c s₁ B hml hv
  obtain ⟨rfl, hsz, hP, hK, hD0⟩ := hv
  have hx := B.exec
  have hb := B.bytes
  have hr := B.returns
  have hts0 := atoms_spec (ws := wsm yX8_within cX8_within 3 (some .boolean)) B.pre
  have hts : ∀ w ∈ lw_all, w.before _ s = true := fun w h => hts0 w (List.mem_cons_of_mem _ h)
  have hown : s.vm.findClass RX8 = some m.cls := findClass_of_methodNamed B.named
  have hlocks := B.notSynchronized
  subst hsz
  have hD := hD0.self (sz := s.heap.size)
  generalize hAe : va_A (w0_ cI cZ S) s.heap.size = A at hD ⊢
  have hA : ∀ q : Nat, s.heap.size ≤ q → A q := fun q h => by rw [← hAe]; exact Or.inr h
  have hS : va_S A s.heap s.heap [] := va_S.rf
  have hml2 := hml
  have hl := lv_entry ([.int p0, .int p1, .int p2]) (n := 3) (Nat.le_of_ble_eq_true rfl)
  rw [lg_entry_eq]
  generalize (lg_sl ([.int p0, .int p1, .int p2]) ++ List.replicate (3 - (lg_sl ([.int p0, .int p1, .int p2])).length) Slot.unset).toArray = ls at hl ⊢
  have hl : lv_has ls 3 [(0, .int p0), (1, .int p1), (2, .int p2)] := hl
  unfold wp_X8_within at h
  refine lv_iload_n hx hb dX8_within_0 rfl (lv_at hl 0 rfl) ?_
  refine lv_iload_n hx hb dX8_within_1 rfl (lv_at hl 1 rfl) ?_
  refine lv_icmp_lt (tgt := 14) hx hb dX8_within_2 (by decide) (fun c1 => ?_) (fun c1 => ?_)
  · have h := h.1 c1
    refine lv_iconst (v := 0) hx hb dX8_within_14 (by decide) ?_
    exact W.zret (ty := .boolean) (v := 0) hx hb hr (narB isB0) (fun t ht hW => ⟨⟨0, (), rfl, h, by rw [ht]; exact hP, va_K.moved hW.alike hK, hD⟩, hS.F ht⟩) hS.2.2 dX8_within_15
  · have h := h.2 c1
    refine lv_iload_n hx hb dX8_within_5 rfl (lv_at hl 0 rfl) ?_
    refine lv_iload_n hx hb dX8_within_6 rfl (lv_at hl 2 rfl) ?_
    refine lv_icmp_gt (tgt := 14) hx hb dX8_within_7 (by decide) (fun c2 => ?_) (fun c2 => ?_)
    · have h := h.1 c2
      refine lv_iconst (v := 0) hx hb dX8_within_14 (by decide) ?_
      exact W.zret (ty := .boolean) (v := 0) hx hb hr (narB isB0) (fun t ht hW => ⟨⟨0, (), rfl, h, by rw [ht]; exact hP, va_K.moved hW.alike hK, hD⟩, hS.F ht⟩) hS.2.2 dX8_within_15
    · have h := h.2 c2
      refine lv_iconst (v := 1) hx hb dX8_within_10 (by decide) ?_
      refine lv_goto (tgt := 15) hx hb dX8_within_11 (by decide) ?_
      exact W.zret (ty := .boolean) (v := 1) hx hb hr (narB isB1) (fun t ht hW => ⟨⟨1, (), rfl, h, by rw [ht]; exact hP, va_K.moved hW.alike hK, hD⟩, hS.F ht⟩) hS.2.2 dX8_within_15
/-! X8_mod -/
abbrev rmX8_mod : Room := { frames := 0, cells := 0, slots := 0, locals := 0 }
set_option maxHeartbeats 4000000 in
set_option maxRecDepth 100000 in
theorem c_X8_mod (l : Launch) (D : va_G) (cI cZ : ClassId) (sz : Nat) (S : Unit) (p0 : Int32) (p1 : Int32) (Q : Int32 → Unit → Prop) (h : wp_X8_mod S p0 p1 Q) : Met l yX8_mod (wsm yX8_mod cX8_mod 2 (some .int)) rmX8_mod (va_Pc [.int p0, .int p1] (preW D cI cZ sz (w0_ cI cZ S))) (va_Qi Q (fun u => atW D cI cZ (va_A (w0_ cI cZ S) sz) (w0_ cI cZ u)) (va_A (w0_ cI cZ S) sz)) 0 0 (va_A (w0_ cI cZ S) sz) := by
  refine Met.ofW (cc := cX8_mod) (maxL := 2) (ret := (some .int)) (by decide) rfl ?_
  intro p e s m args below meth c s₁ B hml hv
  obtain ⟨rfl, hsz, hP, hK, hD0⟩ := hv
  have hx := B.exec
  have hb := B.bytes
  have hr := B.returns
  have hts0 := atoms_spec (ws := wsm yX8_mod cX8_mod 2 (some .int)) B.pre
  have hts : ∀ w ∈ lw_all, w.before _ s = true := fun w h => hts0 w (List.mem_cons_of_mem _ h)
  have hown : s.vm.findClass RX8 = some m.cls := findClass_of_methodNamed B.named
  have hlocks := B.notSynchronized
  subst hsz
  have hD := hD0.self (sz := s.heap.size)
  generalize hAe : va_A (w0_ cI cZ S) s.heap.size = A at hD ⊢
  have hA : ∀ q : Nat, s.heap.size ≤ q → A q := fun q h => by rw [← hAe]; exact Or.inr h
  have hS : va_S A s.heap s.heap [] := va_S.rf
  have hml2 := hml
  have hl := lv_entry ([.int p0, .int p1]) (n := 2) (Nat.le_of_ble_eq_true rfl)
  rw [lg_entry_eq]
  generalize (lg_sl ([.int p0, .int p1]) ++ List.replicate (2 - (lg_sl ([.int p0, .int p1])).length) Slot.unset).toArray = ls at hl ⊢
  have hl : lv_has ls 2 [(0, .int p0), (1, .int p1)] := hl
  unfold wp_X8_mod at h
  refine lv_iload_n hx hb dX8_mod_0 rfl (lv_at hl 0 rfl) ?_
  refine lv_iload_n hx hb dX8_mod_1 rfl (lv_at hl 1 rfl) ?_
  refine lv_irem hx hb dX8_mod_2 h.1 ?_
  have h := h.2
  refine lv_iload_n hx hb dX8_mod_3 rfl (lv_at hl 1 rfl) ?_
  refine lv_iadd hx hb dX8_mod_4 ?_
  refine lv_iload_n hx hb dX8_mod_5 rfl (lv_at hl 1 rfl) ?_
  refine lv_irem hx hb dX8_mod_6 h.1 ?_
  have h := h.2
  exact W.iret (v := (((p0 - p0 / p1 * p1) + p1) - ((p0 - p0 / p1 * p1) + p1) / p1 * p1)) hx hb hr (fun t ht hW => ⟨⟨(((p0 - p0 / p1 * p1) + p1) - ((p0 - p0 / p1 * p1) + p1) / p1 * p1), (), rfl, h, by rw [ht]; exact hP, va_K.moved hW.alike hK, hD⟩, hS.F ht⟩) hS.2.2 dX8_mod_7
/-! X8_fresh -/
abbrev rmX8_fresh : Room := { frames := 0, cells := 0, slots := 0, locals := 0 }
set_option maxHeartbeats 4000000 in
set_option maxRecDepth 100000 in
theorem c_X8_fresh (l : Launch) (D : va_G) (cI cZ : ClassId) (a : Nat → Nat) (sz : Nat) (S : Ob) (Q : Ob → Prop) (h : wp_X8_fresh S Q) : Met l yX8_fresh (wsm yX8_fresh cX8_fresh 3 none) rmX8_fresh (va_Pc [.ref (a 0)] (preW D cI cZ sz (wX8 cI cZ a S))) (va_Qv Q (fun u => atW D cI cZ (va_A (wX8 cI cZ a S) sz) (wX8 cI cZ a u)) (va_A (wX8 cI cZ a S) sz)) 0 0 (va_A (wX8 cI cZ a S) sz) := by
  refine Met.ofW (cc := cX8_fresh) (maxL := 3) (ret := none) (by decide) rfl ?_
  intro p e s m args below meth c s₁ B hml hv
  obtain ⟨rfl, hsz, hP, hK, hD0⟩ := hv
  have hx := B.exec
  have hb := B.bytes
  have hr := B.returns
  have hts0 := atoms_spec (ws := wsm yX8_fresh cX8_fresh 3 none) B.pre
  have hts : ∀ w ∈ lw_all, w.before _ s = true := fun w h => hts0 w (List.mem_cons_of_mem _ h)
  have hown : s.vm.findClass RX8 = some m.cls := findClass_of_methodNamed B.named
  have hlocks := B.notSynchronized
  subst hsz
  have hD := hD0.self (sz := s.heap.size)
  generalize hAe : va_A (wX8 cI cZ a S) s.heap.size = A at hD ⊢
  have hA : ∀ q : Nat, s.heap.size ≤ q → A q := fun q h => by rw [← hAe]; exact Or.inr h
  have hS : va_S A s.heap s.heap [] := va_S.rf
  have hml2 := hml
  have L78 : ∀ (n : Nat), ∀ (y1 : Int32) (y2 : Int32) (T : Ob) (H : Heap) (locs : List Loc) (ls : Array Slot), va_P D vwCl (wX8 cI cZ a T) H → va_D A (wX8 cI cZ a T) → va_S A s.heap H locs → lv_has ls 3 [(0, .ref (a 0)), (1, .int y1), (2, .int y2)] → wp_X8_fresh_L78 Q n y1 y2 T → W p l e rmX8_fresh s m ([.ref (a 0)] : List Value).toArray below meth c H locs 0 0 (MQ below (va_Qv Q (fun u => atW D cI cZ A (wX8 cI cZ a u)) A) ([.ref (a 0)] : List Value).toArray s 0 0 A) (F0 m 78 ls []) := by
    intro n
    induction n with
    | zero =>
      intro y1 y2 T H locs ls hP hD hS hl h
      exact False.elim h
    | succ n ih =>
      intro y1 y2 T H locs ls hP hD hS hl h
      unfold wp_X8_fresh_L78 at h
      refine lv_iload_n hx hb dX8_fresh_78 rfl (lv_at hl 2 rfl) ?_
      refine lv_bipush (v := 17) hx hb dX8_fresh_79 (by decide) ?_
      refine lv_icmp_ge (tgt := 97) hx hb dX8_fresh_81 (by decide) (fun c14 => ?_) (fun c14 => ?_)
      · have h := h.1 c14
        refine lv_aload_n hx hb dX8_fresh_97 rfl (lv_at hl 0 rfl) ?_
        refine va_get (D := D) (ci := 7) (v := .ref (a 4)) (C := RX8) (T := TX8) (N := 25) hx hb hts inX8 hown hK hP 0 rfl rfl 4 (by decide) (hts _ q_1081) (fun _ h9 => h9) rfl dX8_fresh_98 ?_
        refine lv_bipush (v := 19) hx hb dX8_fresh_101 (by decide) ?_
        refine lv_iconst (v := -1) hx hb dX8_fresh_103 (by decide) ?_
        obtain ⟨T15, eT15⟩ : ∃ z : Ob, z = (sa T 4 (upd (T.2 4) 19 (-1))) := ⟨_, rfl⟩
        refine ar_is (f := (T.2 4)) (n := 342) (j := 19) (x := (-1)) hx hb hK hP hD hS 4 rfl (by decide) (okLit (by decide)) dX8_fresh_104 (wX8 cI cZ a T15) (by subst eT15; rfl) (fun H locs hP hD hS => ?_)
        have h := h T15 eT15
        refine lv_aload_n hx hb dX8_fresh_105 rfl (lv_at hl 0 rfl) ?_
        refine va_get (D := D) (ci := 7) (v := .ref (a 4)) (C := RX8) (T := TX8) (N := 25) hx hb hts inX8 hown hK hP 0 rfl rfl 4 (by decide) (hts _ q_1081) (fun _ h9 => h9) rfl dX8_fresh_106 ?_
        refine lv_bipush (v := 26) hx hb dX8_fresh_109 (by decide) ?_
        refine lv_iload_n hx hb dX8_fresh_111 rfl (lv_at hl 1 rfl) ?_
        obtain ⟨T16, eT16⟩ : ∃ z : Ob, z = (sa T15 4 (upd (T15.2 4) 26 y1)) := ⟨_, rfl⟩
        refine ar_is (f := (T15.2 4)) (n := 342) (j := 26) (x := y1) hx hb hK hP hD hS 4 rfl (by decide) (okLit (by decide)) dX8_fresh_112 (wX8 cI cZ a T16) (by subst eT16; rfl) (fun H locs hP hD hS => ?_)
        have h := h T16 eT16
        refine lv_aload_n hx hb dX8_fresh_113 rfl (lv_at hl 0 rfl) ?_
        refine va_get (D := D) (ci := 7) (v := .ref (a 4)) (C := RX8) (T := TX8) (N := 25) hx hb hts inX8 hown hK hP 0 rfl rfl 4 (by decide) (hts _ q_1081) (fun _ h9 => h9) rfl dX8_fresh_114 ?_
        refine lv_bipush (v := 27) hx hb dX8_fresh_117 (by decide) ?_
        refine lv_iload_n hx hb dX8_fresh_119 rfl (lv_at hl 1 rfl) ?_
        obtain ⟨T17, eT17⟩ : ∃ z : Ob, z = (sa T16 4 (upd (T16.2 4) 27 y1)) := ⟨_, rfl⟩
        refine ar_is (f := (T16.2 4)) (n := 342) (j := 27) (x := y1) hx hb hK hP hD hS 4 rfl (by decide) (okLit (by decide)) dX8_fresh_120 (wX8 cI cZ a T17) (by subst eT17; rfl) (fun H locs hP hD hS => ?_)
        have h := h T17 eT17
        refine lv_aload_n hx hb dX8_fresh_121 rfl (lv_at hl 0 rfl) ?_
        refine lv_iconst (v := 0) hx hb dX8_fresh_122 (by decide) ?_
        obtain ⟨T18, eT18⟩ : ∃ z : Ob, z = (si T17 11 0) := ⟨_, rfl⟩
        refine pu_f (ci := 7) (v := .int 0) (ty := .int) (C := RX8) (T := TX8) (N := 25) hx hb hts inX8 tyX8 tyX8_ok nmX8 hown hK hP hD hS 0 rfl rfl 11 (by decide) (hts _ q_1088) (fun _ h9 => h9) rfl rfl rfl rfl (Nat.le_of_ble_eq_true rfl) dX8_fresh_123 (wX8 cI cZ a T18) (by subst eT18; rfl) (fun H locs hP hD hS => ?_)
        have h := h T18 eT18
        exact W.vret hx hb hr (fun t ht hW => ⟨⟨T18, rfl, h, by rw [ht]; exact hP, va_K.moved hW.alike hK, hD⟩, hS.F ht⟩) hS.2.2 dX8_fresh_126
      · have h := h.2 c14
        refine lv_aload_n hx hb dX8_fresh_84 rfl (lv_at hl 0 rfl) ?_
        refine va_get (D := D) (ci := 7) (v := .ref (a 6)) (C := RX8) (T := TX8) (N := 25) hx hb hts inX8 hown hK hP 0 rfl rfl 6 (by decide) (hts _ q_1083) (fun _ h9 => h9) rfl dX8_fresh_85 ?_
        refine lv_iload_n hx hb dX8_fresh_88 rfl (lv_at hl 2 rfl) ?_
        refine lv_iconst (v := 0) hx hb dX8_fresh_89 (by decide) ?_
        obtain ⟨T19, eT19⟩ : ∃ z : Ob, z = (sa T 6 (upd (T.2 6) (Int32.toNatClampNeg y2) 0)) := ⟨_, rfl⟩
        refine ar_is (f := (T.2 6)) (n := 17) (j := (Int32.toNatClampNeg y2)) (x := 0) hx hb hK hP hD hS 6 rfl rfl h.1 dX8_fresh_90 (wX8 cI cZ a T19) (by subst eT19; rfl) (fun H locs hP hD hS => ?_)
        have h := h.2
        have h := h T19 eT19
        obtain ⟨x20, ex20⟩ : ∃ y : Int32, y = (y2 + 1) := ⟨_, rfl⟩
        have h := h x20 ex20
        refine lv_iinc (v := x20) (lv' := [(2, .int x20), (0, .ref (a 0)), (1, .int y1)]) hx hb dX8_fresh_91 hl (k := 2) rfl (by rw [ex20]; rfl) (by decide) rfl (fun ls hl => ?_)
        refine lv_goto (tgt := 78) hx hb dX8_fresh_94 (by decide) ?_
        exact ih y1 x20 T19 _ _ _ hP hD hS (lv_sub hl [1, 2, 0] rfl) h
  have L46 : ∀ (n : Nat), ∀ (y1 : Int32) (y2 : Int32) (T : Ob) (H : Heap) (locs : List Loc) (ls : Array Slot), va_P D vwCl (wX8 cI cZ a T) H → va_D A (wX8 cI cZ a T) → va_S A s.heap H locs → lv_has ls 3 [(0, .ref (a 0)), (1, .int y1), (2, .int y2)] → wp_X8_fresh_L46 Q n y1 y2 T → W p l e rmX8_fresh s m ([.ref (a 0)] : List Value).toArray below meth c H locs 0 0 (MQ below (va_Qv Q (fun u => atW D cI cZ A (wX8 cI cZ a u)) A) ([.ref (a 0)] : List Value).toArray s 0 0 A) (F0 m 46 ls []) := by
    intro n
    induction n with
    | zero =>
      intro y1 y2 T H locs ls hP hD hS hl h
      exact False.elim h
    | succ n ih =>
      intro y1 y2 T H locs ls hP hD hS hl h
      unfold wp_X8_fresh_L46 at h
      refine lv_iload_n hx hb dX8_fresh_46 rfl (lv_at hl 2 rfl) ?_
      refine lv_bipush (v := 21) hx hb dX8_fresh_47 (by decide) ?_
      refine lv_icmp_ge (tgt := 76) hx hb dX8_fresh_49 (by decide) (fun c10 => ?_) (fun c10 => ?_)
      · have h := h.1 c10
        refine lv_iconst (v := 0) hx hb dX8_fresh_76 (by decide) ?_
        refine lv_istore_n (lv' := [(2, .int 0), (0, .ref (a 0)), (1, .int y1)]) hx hb dX8_fresh_77 rfl hl (by decide) rfl (fun ls hl => ?_)
        exact L78 2000 y1 0 T _ _ _ hP hD hS (lv_sub hl [1, 2, 0] rfl) h
      · have h := h.2 c10
        refine lv_aload_n hx hb dX8_fresh_52 rfl (lv_at hl 0 rfl) ?_
        refine va_get (D := D) (ci := 7) (v := .ref (a 4)) (C := RX8) (T := TX8) (N := 25) hx hb hts inX8 hown hK hP 0 rfl rfl 4 (by decide) (hts _ q_1081) (fun _ h9 => h9) rfl dX8_fresh_53 ?_
        refine lv_sipush (v := 194) hx hb dX8_fresh_56 (by decide) ?_
        refine lv_iload_n hx hb dX8_fresh_59 rfl (lv_at hl 2 rfl) ?_
        refine lv_iadd hx hb dX8_fresh_60 ?_
        refine lv_iconst (v := -1) hx hb dX8_fresh_61 (by decide) ?_
        obtain ⟨T11, eT11⟩ : ∃ z : Ob, z = (sa T 4 (upd (T.2 4) (Int32.toNatClampNeg (194 + y2)) (-1))) := ⟨_, rfl⟩
        refine ar_is (f := (T.2 4)) (n := 342) (j := (Int32.toNatClampNeg (194 + y2))) (x := (-1)) hx hb hK hP hD hS 4 rfl rfl h.1 dX8_fresh_62 (wX8 cI cZ a T11) (by subst eT11; rfl) (fun H locs hP hD hS => ?_)
        have h := h.2
        have h := h T11 eT11
        refine lv_aload_n hx hb dX8_fresh_63 rfl (lv_at hl 0 rfl) ?_
        refine va_get (D := D) (ci := 7) (v := .ref (a 12)) (C := RX8) (T := TX8) (N := 25) hx hb hts inX8 hown hK hP 0 rfl rfl 13 (by decide) (hts _ q_1090) (fun _ h9 => h9) rfl dX8_fresh_64 ?_
        refine lv_iload_n hx hb dX8_fresh_67 rfl (lv_at hl 2 rfl) ?_
        refine lv_iconst (v := -1) hx hb dX8_fresh_68 (by decide) ?_
        obtain ⟨T12, eT12⟩ : ∃ z : Ob, z = (sa T11 13 (upd (T11.2 13) (Int32.toNatClampNeg y2) (-1))) := ⟨_, rfl⟩
        refine ar_is (f := (T11.2 13)) (n := 21) (j := (Int32.toNatClampNeg y2)) (x := (-1)) hx hb hK hP hD hS 12 rfl rfl h.1 dX8_fresh_69 (wX8 cI cZ a T12) (by subst eT12; rfl) (fun H locs hP hD hS => ?_)
        have h := h.2
        have h := h T12 eT12
        obtain ⟨x13, ex13⟩ : ∃ y : Int32, y = (y2 + 1) := ⟨_, rfl⟩
        have h := h x13 ex13
        refine lv_iinc (v := x13) (lv' := [(2, .int x13), (0, .ref (a 0)), (1, .int y1)]) hx hb dX8_fresh_70 hl (k := 2) rfl (by rw [ex13]; rfl) (by decide) rfl (fun ls hl => ?_)
        refine lv_goto (tgt := 46) hx hb dX8_fresh_73 (by decide) ?_
        exact ih y1 x13 T12 _ _ _ hP hD hS (lv_sub hl [1, 2, 0] rfl) h
  have L10 : ∀ (n : Nat), ∀ (y1 : Int32) (y2 : Int32) (T : Ob) (H : Heap) (locs : List Loc) (ls : Array Slot), va_P D vwCl (wX8 cI cZ a T) H → va_D A (wX8 cI cZ a T) → va_S A s.heap H locs → lv_has ls 3 [(0, .ref (a 0)), (1, .int y1), (2, .int y2)] → wp_X8_fresh_L10 Q n y1 y2 T → W p l e rmX8_fresh s m ([.ref (a 0)] : List Value).toArray below meth c H locs 0 0 (MQ below (va_Qv Q (fun u => atW D cI cZ A (wX8 cI cZ a u)) A) ([.ref (a 0)] : List Value).toArray s 0 0 A) (F0 m 10 ls []) := by
    intro n
    induction n with
    | zero =>
      intro y1 y2 T H locs ls hP hD hS hl h
      exact False.elim h
    | succ n ih =>
      intro y1 y2 T H locs ls hP hD hS hl h
      unfold wp_X8_fresh_L10 at h
      refine lv_iload_n hx hb dX8_fresh_10 rfl (lv_at hl 2 rfl) ?_
      refine lv_sipush (v := 342) hx hb dX8_fresh_11 (by decide) ?_
      refine lv_icmp_ge (tgt := 44) hx hb dX8_fresh_14 (by decide) (fun c2 => ?_) (fun c2 => ?_)
      · have h := h.1 c2
        refine lv_iconst (v := 0) hx hb dX8_fresh_44 (by decide) ?_
        refine lv_istore_n (lv' := [(2, .int 0), (0, .ref (a 0)), (1, .int y1)]) hx hb dX8_fresh_45 rfl hl (by decide) rfl (fun ls hl => ?_)
        exact L46 2000 y1 0 T _ _ _ hP hD hS (lv_sub hl [1, 2, 0] rfl) h
      · have h := h.2 c2
        refine lv_iload_n hx hb dX8_fresh_17 rfl (lv_at hl 2 rfl) ?_
        refine lv_sipush (v := 173) hx hb dX8_fresh_18 (by decide) ?_
        refine lv_icmp_lt (tgt := 31) hx hb dX8_fresh_21 (by decide) (fun c3 => ?_) (fun c3 => ?_)
        · have h := h.1 c3
          refine lv_aload_n hx hb dX8_fresh_31 rfl (lv_at hl 0 rfl) ?_
          refine va_get (D := D) (ci := 7) (v := .ref (a 4)) (C := RX8) (T := TX8) (N := 25) hx hb hts inX8 hown hK hP 0 rfl rfl 4 (by decide) (hts _ q_1081) (fun _ h9 => h9) rfl dX8_fresh_32 ?_
          refine lv_iload_n hx hb dX8_fresh_35 rfl (lv_at hl 2 rfl) ?_
          refine lv_iconst (v := 0) hx hb dX8_fresh_36 (by decide) ?_
          obtain ⟨T4, eT4⟩ : ∃ z : Ob, z = (sa T 4 (upd (T.2 4) (Int32.toNatClampNeg y2) 0)) := ⟨_, rfl⟩
          refine ar_is (f := (T.2 4)) (n := 342) (j := (Int32.toNatClampNeg y2)) (x := 0) hx hb hK hP hD hS 4 rfl rfl h.1 dX8_fresh_37 (wX8 cI cZ a T4) (by subst eT4; rfl) (fun H locs hP hD hS => ?_)
          have h := h.2
          have h := h T4 eT4
          obtain ⟨x5, ex5⟩ : ∃ y : Int32, y = (y2 + 1) := ⟨_, rfl⟩
          have h := h x5 ex5
          refine lv_iinc (v := x5) (lv' := [(2, .int x5), (0, .ref (a 0)), (1, .int y1)]) hx hb dX8_fresh_38 hl (k := 2) rfl (by rw [ex5]; rfl) (by decide) rfl (fun ls hl => ?_)
          refine lv_goto (tgt := 10) hx hb dX8_fresh_41 (by decide) ?_
          exact ih y1 x5 T4 _ _ _ hP hD hS (lv_sub hl [1, 2, 0] rfl) h
        · have h := h.2 c3
          refine lv_iload_n hx hb dX8_fresh_24 rfl (lv_at hl 2 rfl) ?_
          refine lv_sipush (v := 194) hx hb dX8_fresh_25 (by decide) ?_
          refine lv_icmp_lt (tgt := 38) hx hb dX8_fresh_28 (by decide) (fun c6 => ?_) (fun c6 => ?_)
          · have h := h.1 c6
            obtain ⟨x7, ex7⟩ : ∃ y : Int32, y = (y2 + 1) := ⟨_, rfl⟩
            have h := h x7 ex7
            refine lv_iinc (v := x7) (lv' := [(2, .int x7), (0, .ref (a 0)), (1, .int y1)]) hx hb dX8_fresh_38 hl (k := 2) rfl (by rw [ex7]; rfl) (by decide) rfl (fun ls hl => ?_)
            refine lv_goto (tgt := 10) hx hb dX8_fresh_41 (by decide) ?_
            exact ih y1 x7 T _ _ _ hP hD hS (lv_sub hl [1, 2, 0] rfl) h
          · have h := h.2 c6
            refine lv_aload_n hx hb dX8_fresh_31 rfl (lv_at hl 0 rfl) ?_
            refine va_get (D := D) (ci := 7) (v := .ref (a 4)) (C := RX8) (T := TX8) (N := 25) hx hb hts inX8 hown hK hP 0 rfl rfl 4 (by decide) (hts _ q_1081) (fun _ h9 => h9) rfl dX8_fresh_32 ?_
            refine lv_iload_n hx hb dX8_fresh_35 rfl (lv_at hl 2 rfl) ?_
            refine lv_iconst (v := 0) hx hb dX8_fresh_36 (by decide) ?_
            obtain ⟨T8, eT8⟩ : ∃ z : Ob, z = (sa T 4 (upd (T.2 4) (Int32.toNatClampNeg y2) 0)) := ⟨_, rfl⟩
            refine ar_is (f := (T.2 4)) (n := 342) (j := (Int32.toNatClampNeg y2)) (x := 0) hx hb hK hP hD hS 4 rfl rfl h.1 dX8_fresh_37 (wX8 cI cZ a T8) (by subst eT8; rfl) (fun H locs hP hD hS => ?_)
            have h := h.2
            have h := h T8 eT8
            obtain ⟨x9, ex9⟩ : ∃ y : Int32, y = (y2 + 1) := ⟨_, rfl⟩
            have h := h x9 ex9
            refine lv_iinc (v := x9) (lv' := [(2, .int x9), (0, .ref (a 0)), (1, .int y1)]) hx hb dX8_fresh_38 hl (k := 2) rfl (by rw [ex9]; rfl) (by decide) rfl (fun ls hl => ?_)
            refine lv_goto (tgt := 10) hx hb dX8_fresh_41 (by decide) ?_
            exact ih y1 x9 T8 _ _ _ hP hD hS (lv_sub hl [1, 2, 0] rfl) h
  have hl := lv_entry ([.ref (a 0)]) (n := 3) (Nat.le_of_ble_eq_true rfl)
  rw [lg_entry_eq]
  generalize (lg_sl ([.ref (a 0)]) ++ List.replicate (3 - (lg_sl ([.ref (a 0)])).length) Slot.unset).toArray = ls at hl ⊢
  have hl : lv_has ls 3 [(0, .ref (a 0))] := hl
  unfold wp_X8_fresh at h
  refine lv_aload_n hx hb dX8_fresh_0 rfl (lv_at hl 0 rfl) ?_
  refine va_get (D := D) (ci := 7) (v := .ref (a 4)) (C := RX8) (T := TX8) (N := 25) hx hb hts inX8 hown hK hP 0 rfl rfl 4 (by decide) (hts _ q_1081) (fun _ h9 => h9) rfl dX8_fresh_1 ?_
  refine lv_bipush (v := 26) hx hb dX8_fresh_4 (by decide) ?_
  refine ar_il (f := (S.2 4)) (n := 342) (j := 26) hx hb hK hP 4 rfl (by decide) (okLit (by decide)) dX8_fresh_6 ?_
  refine lv_topi (fun x1 ex1 => ?_)
  have h := h x1 ex1
  refine lv_istore_n (lv' := [(1, .int x1), (0, .ref (a 0))]) hx hb dX8_fresh_7 rfl hl (by decide) rfl (fun ls hl => ?_)
  refine lv_iconst (v := 0) hx hb dX8_fresh_8 (by decide) ?_
  refine lv_istore_n (lv' := [(2, .int 0), (1, .int x1), (0, .ref (a 0))]) hx hb dX8_fresh_9 rfl hl (by decide) rfl (fun ls hl => ?_)
  exact L10 2000 x1 0 S _ _ _ hP hD hS (lv_sub hl [2, 1, 0] rfl) h
/-! X8_notes -/
abbrev rmX8_notes : Room := { frames := 0, cells := 0, slots := 0, locals := 0 }
set_option maxHeartbeats 4000000 in
set_option maxRecDepth 100000 in
theorem c_X8_notes (l : Launch) (D : va_G) (cI cZ : ClassId) (a : Nat → Nat) (b : Nat → Nat) (nw : Bool) (sz : Nat) (S : Ob × (Nat → Int32)) (p0 : Int32) (p1 : Int32) (p2 : Int32) (Q : (Ob × (Nat → Int32)) → Prop) (h : wp_X8_notes nw S p0 p1 p2 Q) (hb4 : nw = true → b 0 = a 4) : Met l yX8_notes (wsm yX8_notes cX8_notes 5 none) rmX8_notes (va_Pc [.ref (a 0), .int p0, .int p1, .int p2] (preW D cI cZ sz (wX8s cI cZ a b S))) (va_Qv Q (fun u => atW D cI cZ (va_A (wX8s cI cZ a b S) sz) (wX8s cI cZ a b u)) (va_A (wX8s cI cZ a b S) sz)) 0 0 (va_A (wX8s cI cZ a b S) sz) := by
  refine Met.ofW (cc := cX8_notes) (maxL := 5) (ret := none) (by decide) rfl ?_
  intro p e s m args below meth c s₁ B hml hv
  obtain ⟨rfl, hsz, hP, hK, hD0⟩ := hv
  have hx := B.exec
  have hb := B.bytes
  have hr := B.returns
  have hts0 := atoms_spec (ws := wsm yX8_notes cX8_notes 5 none) B.pre
  have hts : ∀ w ∈ lw_all, w.before _ s = true := fun w h => hts0 w (List.mem_cons_of_mem _ h)
  have hown : s.vm.findClass RX8 = some m.cls := findClass_of_methodNamed B.named
  have hlocks := B.notSynchronized
  subst hsz
  have hD := hD0.self (sz := s.heap.size)
  generalize hAe : va_A (wX8s cI cZ a b S) s.heap.size = A at hD ⊢
  have hA : ∀ q : Nat, s.heap.size ≤ q → A q := fun q h => by rw [← hAe]; exact Or.inr h
  have hS : va_S A s.heap s.heap [] := va_S.rf
  have hml2 := hml
  have hl := lv_entry ([.ref (a 0), .int p0, .int p1, .int p2]) (n := 5) (Nat.le_of_ble_eq_true rfl)
  rw [lg_entry_eq]
  generalize (lg_sl ([.ref (a 0), .int p0, .int p1, .int p2]) ++ List.replicate (5 - (lg_sl ([.ref (a 0), .int p0, .int p1, .int p2])).length) Slot.unset).toArray = ls at hl ⊢
  have hl : lv_has ls 5 [(0, .ref (a 0)), (1, .int p0), (2, .int p1), (3, .int p2)] := hl
  unfold wp_X8_notes at h
  refine lv_aload_n hx hb dX8_notes_0 rfl (lv_at hl 0 rfl) ?_
  refine va_get (D := D) (ci := 7) (v := .int (S.1.1 14)) (C := RX8) (T := TX8) (N := 25) hx hb hts inX8 hown hK hP 0 rfl rfl 14 (by decide) (hts _ q_1091) (fun _ h9 => h9) rfl dX8_notes_1 ?_
  refine lv_if_ne (tgt := 8) hx hb dX8_notes_4 (by decide) (fun c1 => ?_) (fun c1 => ?_)
  · have h := h.1 c1
    refine lv_aload_n hx hb dX8_notes_8 rfl (lv_at hl 0 rfl) ?_
    refine va_get (D := D) (ci := 7) (v := .int (S.1.1 11)) (C := RX8) (T := TX8) (N := 25) hx hb hts inX8 hown hK hP 0 rfl rfl 11 (by decide) (hts _ q_1088) (fun _ h9 => h9) rfl dX8_notes_9 ?_
    refine lv_bipush (v := 24) hx hb dX8_notes_12 (by decide) ?_
    refine lv_irem hx hb dX8_notes_14 (by decide) ?_
    refine lv_topi (fun x2 ex2 => ?_)
    have h := h x2 ex2
    refine lv_istore (lv' := [(4, .int x2), (0, .ref (a 0)), (1, .int p0), (2, .int p1), (3, .int p2)]) hx hb dX8_notes_15 hl (by decide) rfl (fun ls hl => ?_)
    refine lv_aload_n hx hb dX8_notes_17 rfl (lv_at hl 1 rfl) ?_
    refine va_get (D := D) (ci := 7) (v := .ref (a 7)) (C := RX8) (T := TX8) (N := 25) hx hb hts inX8 hown hK hP 0 rfl rfl 7 (by decide) (hts _ q_1084) (fun _ h9 => h9) rfl dX8_notes_18 ?_
    refine lv_iload hx hb dX8_notes_21 (lv_at hl 0 rfl) ?_
    refine lv_iload_n hx hb dX8_notes_23 rfl (lv_at hl 2 rfl) ?_
    obtain ⟨T3, eT3⟩ : ∃ z : Ob, z = (sa S.1 7 (upd (S.1.2 7) (Int32.toNatClampNeg x2) p0)) := ⟨_, rfl⟩
    refine ar_is (f := (S.1.2 7)) (n := 24) (j := (Int32.toNatClampNeg x2)) (x := p0) hx hb hK hP hD hS 5 rfl rfl h.1 dX8_notes_24 (wX8s cI cZ a b (T3, S.2)) (by subst eT3; rfl) (fun H locs hP hD hS => ?_)
    have h := h.2
    have h := h T3 eT3
    refine lv_aload_n hx hb dX8_notes_25 rfl (lv_at hl 1 rfl) ?_
    refine va_get (D := D) (ci := 7) (v := .ref (a 8)) (C := RX8) (T := TX8) (N := 25) hx hb hts inX8 hown hK hP 0 rfl rfl 8 (by decide) (hts _ q_1085) (fun _ h9 => h9) rfl dX8_notes_26 ?_
    refine lv_iload hx hb dX8_notes_29 (lv_at hl 0 rfl) ?_
    refine lv_iload_n hx hb dX8_notes_31 rfl (lv_at hl 3 rfl) ?_
    obtain ⟨T4, eT4⟩ : ∃ z : Ob, z = (sa T3 8 (upd (T3.2 8) (Int32.toNatClampNeg x2) p1)) := ⟨_, rfl⟩
    refine ar_is (f := (T3.2 8)) (n := 24) (j := (Int32.toNatClampNeg x2)) (x := p1) hx hb hK hP hD hS 6 rfl rfl h.1 dX8_notes_32 (wX8s cI cZ a b (T4, S.2)) (by subst eT4; rfl) (fun H locs hP hD hS => ?_)
    have h := h.2
    have h := h T4 eT4
    refine lv_aload_n hx hb dX8_notes_33 rfl (lv_at hl 1 rfl) ?_
    refine va_get (D := D) (ci := 7) (v := .ref (a 9)) (C := RX8) (T := TX8) (N := 25) hx hb hts inX8 hown hK hP 0 rfl rfl 9 (by decide) (hts _ q_1086) (fun _ h9 => h9) rfl dX8_notes_34 ?_
    refine lv_iload hx hb dX8_notes_37 (lv_at hl 0 rfl) ?_
    refine lv_aload_n hx hb dX8_notes_39 rfl (lv_at hl 1 rfl) ?_
    refine va_get (D := D) (ci := 7) (v := .ref (a 4)) (C := RX8) (T := TX8) (N := 25) hx hb hts inX8 hown hK hP 0 rfl rfl 4 (by decide) (hts _ q_1081) (fun _ h9 => h9) rfl dX8_notes_40 ?_
    rw [← hb4 h.1]
    have h := h.2
    refine lv_bipush (v := 25) hx hb dX8_notes_43 (by decide) ?_
    refine ar_il (f := S.2) (n := 342) (j := 25) hx hb hK hP 11 rfl (by decide) (okLit (by decide)) dX8_notes_45 ?_
    obtain ⟨T5, eT5⟩ : ∃ z : Ob, z = (sa T4 9 (upd (T4.2 9) (Int32.toNatClampNeg x2) (S.2 25))) := ⟨_, rfl⟩
    refine ar_is (f := (T4.2 9)) (n := 24) (j := (Int32.toNatClampNeg x2)) (x := (S.2 25)) hx hb hK hP hD hS 7 rfl rfl h.1 dX8_notes_46 (wX8s cI cZ a b (T5, S.2)) (by subst eT5; rfl) (fun H locs hP hD hS => ?_)
    have h := h.2
    have h := h T5 eT5
    refine lv_aload_n hx hb dX8_notes_47 rfl (lv_at hl 1 rfl) ?_
    refine va_get (D := D) (ci := 7) (v := .ref (a 10)) (C := RX8) (T := TX8) (N := 25) hx hb hts inX8 hown hK hP 0 rfl rfl 10 (by decide) (hts _ q_1087) (fun _ h9 => h9) rfl dX8_notes_48 ?_
    refine lv_iload hx hb dX8_notes_51 (lv_at hl 0 rfl) ?_
    refine lv_iload_n hx hb dX8_notes_53 rfl (lv_at hl 4 rfl) ?_
    obtain ⟨T6, eT6⟩ : ∃ z : Ob, z = (sa T5 10 (upd (T5.2 10) (Int32.toNatClampNeg x2) p2)) := ⟨_, rfl⟩
    refine ar_is (f := (T5.2 10)) (n := 24) (j := (Int32.toNatClampNeg x2)) (x := p2) hx hb hK hP hD hS 8 rfl rfl h.1 dX8_notes_54 (wX8s cI cZ a b (T6, S.2)) (by subst eT6; rfl) (fun H locs hP hD hS => ?_)
    have h := h.2
    have h := h T6 eT6
    refine lv_aload_n hx hb dX8_notes_55 rfl (lv_at hl 1 rfl) ?_
    refine lv_dup hx hb dX8_notes_56 rfl ?_
    refine va_get (D := D) (ci := 7) (v := .int (T6.1 11)) (C := RX8) (T := TX8) (N := 25) hx hb hts inX8 hown hK hP 0 rfl rfl 11 (by decide) (hts _ q_1088) (fun _ h9 => h9) rfl dX8_notes_57 ?_
    refine lv_iconst (v := 1) hx hb dX8_notes_60 (by decide) ?_
    refine lv_iadd hx hb dX8_notes_61 ?_
    obtain ⟨T7, eT7⟩ : ∃ z : Ob, z = (si T6 11 ((T6.1 11) + 1)) := ⟨_, rfl⟩
    refine pu_f (ci := 7) (v := .int ((T6.1 11) + 1)) (ty := .int) (C := RX8) (T := TX8) (N := 25) hx hb hts inX8 tyX8 tyX8_ok nmX8 hown hK hP hD hS 0 rfl rfl 11 (by decide) (hts _ q_1088) (fun _ h9 => h9) rfl rfl rfl rfl (Nat.le_of_ble_eq_true rfl) dX8_notes_62 (wX8s cI cZ a b (T7, S.2)) (by subst eT7; rfl) (fun H locs hP hD hS => ?_)
    have h := h T7 eT7
    exact W.vret hx hb hr (fun t ht hW => ⟨⟨(T7, S.2), rfl, h, by rw [ht]; exact hP, va_K.moved hW.alike hK, hD⟩, hS.F ht⟩) hS.2.2 dX8_notes_65
  · have h := h.2 c1
    exact W.vret hx hb hr (fun t ht hW => ⟨⟨S, rfl, h, by rw [ht]; exact hP, va_K.moved hW.alike hK, hD⟩, hS.F ht⟩) hS.2.2 dX8_notes_7
/-! X8_counts -/
abbrev rmX8_counts : Room := { frames := 0, cells := 0, slots := 0, locals := 0 }
set_option maxHeartbeats 4000000 in
set_option maxRecDepth 100000 in
theorem c_X8_counts (l : Launch) (D : va_G) (cI cZ : ClassId) (a : Nat → Nat) (b : Nat → Nat) (nw : Bool) (sz : Nat) (S : Ob × (Nat → Int32)) (p0 : Int32) (Q : (Ob × (Nat → Int32)) → Prop) (h : wp_X8_counts nw S p0 Q) (hb4 : nw = true → b 0 = a 4) : Met l yX8_counts (wsm yX8_counts cX8_counts 2 none) rmX8_counts (va_Pc [.ref (a 0), .int p0] (preW D cI cZ sz (wX8s cI cZ a b S))) (va_Qv Q (fun u => atW D cI cZ (va_A (wX8s cI cZ a b S) sz) (wX8s cI cZ a b u)) (va_A (wX8s cI cZ a b S) sz)) 0 0 (va_A (wX8s cI cZ a b S) sz) := by
  refine Met.ofW (cc := cX8_counts) (maxL := 2) (ret := none) (by decide) rfl ?_
  intro p e s m args below meth c s₁ B hml hv
  obtain ⟨rfl, hsz, hP, hK, hD0⟩ := hv
  have hx := B.exec
  have hb := B.bytes
  have hr := B.returns
  have hts0 := atoms_spec (ws := wsm yX8_counts cX8_counts 2 none) B.pre
  have hts : ∀ w ∈ lw_all, w.before _ s = true := fun w h => hts0 w (List.mem_cons_of_mem _ h)
  have hown : s.vm.findClass RX8 = some m.cls := findClass_of_methodNamed B.named
  have hlocks := B.notSynchronized
  subst hsz
  have hD := hD0.self (sz := s.heap.size)
  generalize hAe : va_A (wX8s cI cZ a b S) s.heap.size = A at hD ⊢
  have hA : ∀ q : Nat, s.heap.size ≤ q → A q := fun q h => by rw [← hAe]; exact Or.inr h
  have hS : va_S A s.heap s.heap [] := va_S.rf
  have hml2 := hml
  have hl := lv_entry ([.ref (a 0), .int p0]) (n := 2) (Nat.le_of_ble_eq_true rfl)
  rw [lg_entry_eq]
  generalize (lg_sl ([.ref (a 0), .int p0]) ++ List.replicate (2 - (lg_sl ([.ref (a 0), .int p0])).length) Slot.unset).toArray = ls at hl ⊢
  have hl : lv_has ls 2 [(0, .ref (a 0)), (1, .int p0)] := hl
  unfold wp_X8_counts at h
  refine lv_aload_n hx hb dX8_counts_0 rfl (lv_at hl 0 rfl) ?_
  refine va_get (D := D) (ci := 7) (v := .int (S.1.1 14)) (C := RX8) (T := TX8) (N := 25) hx hb hts inX8 hown hK hP 0 rfl rfl 14 (by decide) (hts _ q_1091) (fun _ h9 => h9) rfl dX8_counts_1 ?_
  refine lv_if_eq (tgt := 17) hx hb dX8_counts_4 (by decide) (fun c1 => ?_) (fun c1 => ?_)
  · have h := h.1 c1
    exact W.vret hx hb hr (fun t ht hW => ⟨⟨S, rfl, h, by rw [ht]; exact hP, va_K.moved hW.alike hK, hD⟩, hS.F ht⟩) hS.2.2 dX8_counts_17
  · have h := h.2 c1
    refine lv_aload_n hx hb dX8_counts_7 rfl (lv_at hl 0 rfl) ?_
    refine va_get (D := D) (ci := 7) (v := .ref (a 6)) (C := RX8) (T := TX8) (N := 25) hx hb hts inX8 hown hK hP 0 rfl rfl 6 (by decide) (hts _ q_1083) (fun _ h9 => h9) rfl dX8_counts_8 ?_
    refine lv_iload_n hx hb dX8_counts_11 rfl (lv_at hl 1 rfl) ?_
    refine lv_dup2_11 hx hb dX8_counts_12 rfl rfl ?_
    refine ar_il (f := (S.1.2 6)) (n := 17) (j := (Int32.toNatClampNeg p0)) hx hb hK hP 4 rfl rfl h.1 dX8_counts_13 ?_
    have h := h.2
    refine lv_iconst (v := 1) hx hb dX8_counts_14 (by decide) ?_
    refine lv_iadd hx hb dX8_counts_15 ?_
    obtain ⟨T2, eT2⟩ : ∃ z : Ob, z = (sa S.1 6 (upd (S.1.2 6) (Int32.toNatClampNeg p0) (((S.1.2 6) (Int32.toNatClampNeg p0)) + 1))) := ⟨_, rfl⟩
    refine ar_is (f := (S.1.2 6)) (n := 17) (j := (Int32.toNatClampNeg p0)) (x := (((S.1.2 6) (Int32.toNatClampNeg p0)) + 1)) hx hb hK hP hD hS 4 rfl rfl h.1 dX8_counts_16 (wX8s cI cZ a b (T2, S.2)) (by subst eT2; rfl) (fun H locs hP hD hS => ?_)
    have h := h.2
    have h := h T2 eT2
    exact W.vret hx hb hr (fun t ht hW => ⟨⟨(T2, S.2), rfl, h, by rw [ht]; exact hP, va_K.moved hW.alike hK, hD⟩, hS.F ht⟩) hS.2.2 dX8_counts_17
/-! X8_lengthOf -/
abbrev rmX8_lengthOf : Room := { frames := 0, cells := 0, slots := 0, locals := 0 }
set_option maxHeartbeats 4000000 in
set_option maxRecDepth 100000 in
theorem c_X8_lengthOf (l : Launch) (D : va_G) (cI cZ : ClassId) (sz : Nat) (S : Unit) (p0 : Int64) (Q : Int32 → Unit → Prop) (h : wp_X8_lengthOf S p0 Q) : Met l yX8_lengthOf (wsm yX8_lengthOf cX8_lengthOf 5 (some .int)) rmX8_lengthOf (va_Pc [.long p0] (preW D cI cZ sz (w0_ cI cZ S))) (va_Qi Q (fun u => atW D cI cZ (va_A (w0_ cI cZ S) sz) (w0_ cI cZ u)) (va_A (w0_ cI cZ S) sz)) 0 0 (va_A (w0_ cI cZ S) sz) := by
  refine Met.ofW (cc := cX8_lengthOf) (maxL := 5) (ret := (some .int)) (by decide) rfl ?_
  intro p e s m args below meth c s₁ B hml hv
  obtain ⟨rfl, hsz, hP, hK, hD0⟩ := hv
  have hx := B.exec
  have hb := B.bytes
  have hr := B.returns
  have hts0 := atoms_spec (ws := wsm yX8_lengthOf cX8_lengthOf 5 (some .int)) B.pre
  have hts : ∀ w ∈ lw_all, w.before _ s = true := fun w h => hts0 w (List.mem_cons_of_mem _ h)
  have hown : s.vm.findClass RX8 = some m.cls := findClass_of_methodNamed B.named
  have hlocks := B.notSynchronized
  subst hsz
  have hD := hD0.self (sz := s.heap.size)
  generalize hAe : va_A (w0_ cI cZ S) s.heap.size = A at hD ⊢
  have hA : ∀ q : Nat, s.heap.size ≤ q → A q := fun q h => by rw [← hAe]; exact Or.inr h
  have hS : va_S A s.heap s.heap [] := va_S.rf
  have hml2 := hml
  have L4 : ∀ (n : Nat), ∀ (y2 : Int32) (y3 : Int64) (T : Unit) (H : Heap) (locs : List Loc) (ls : Array Slot), va_P D vwCl (w0_ cI cZ T) H → va_D A (w0_ cI cZ T) → va_S A s.heap H locs → lv_has ls 5 [(2, .int y2), (3, .long y3)] → wp_X8_lengthOf_L4 Q n y2 y3 T → W p l e rmX8_lengthOf s m ([.long p0] : List Value).toArray below meth c H locs 0 0 (MQ below (va_Qi Q (fun u => atW D cI cZ A (w0_ cI cZ u)) A) ([.long p0] : List Value).toArray s 0 0 A) (F0 m 4 ls []) := by
    intro n
    induction n with
    | zero =>
      intro y2 y3 T H locs ls hP hD hS hl h
      exact False.elim h
    | succ n ih =>
      intro y2 y3 T H locs ls hP hD hS hl h
      unfold wp_X8_lengthOf_L4 at h
      refine lv_lload_n hx hb dX8_lengthOf_4 rfl (lv_at hl 1 rfl) ?_
      refine lv_lconst (v := 0) hx hb dX8_lengthOf_5 (by decide) ?_
      refine W.lcmp hx hb dX8_lengthOf_6 ?_
      refine lv_if_le (tgt := 20) hx hb dX8_lengthOf_7 (by decide) (fun c1 => ?_) (fun c1 => ?_)
      · have h := h.1 c1
        refine lv_iload_n hx hb dX8_lengthOf_20 rfl (lv_at hl 0 rfl) ?_
        exact W.iret (v := y2) hx hb hr (fun t ht hW => ⟨⟨y2, (), rfl, h, by rw [ht]; exact hP, va_K.moved hW.alike hK, hD⟩, hS.F ht⟩) hS.2.2 dX8_lengthOf_21
      · have h := h.2 c1
        obtain ⟨x2, ex2⟩ : ∃ y : Int32, y = (y2 + 1) := ⟨_, rfl⟩
        have h := h x2 ex2
        refine lv_iinc (v := x2) (lv' := [(2, .int x2), (3, .long y3)]) hx hb dX8_lengthOf_10 hl (k := 0) rfl (by rw [ex2]; rfl) (by decide) rfl (fun ls hl => ?_)
        refine lv_lload_n hx hb dX8_lengthOf_13 rfl (lv_at hl 1 rfl) ?_
        refine lv_iconst (v := 1) hx hb dX8_lengthOf_14 (by decide) ?_
        refine lv_lshr (v := (y3 >>> ((Int32.toInt64 1) &&& 63))) hx hb dX8_lengthOf_15 rfl ?_
        refine lv_topl (fun x3 ex3 => ?_)
        have h := h x3 ex3
        refine lv_lstore_n (lv' := [(3, .long x3), (2, .int x2)]) hx hb dX8_lengthOf_16 rfl hl (by decide) rfl (fun ls hl => ?_)
        refine lv_goto (tgt := 4) hx hb dX8_lengthOf_17 (by decide) ?_
        exact ih x2 x3 () _ _ _ hP hD hS (lv_sub hl [1, 0] rfl) h
  have hl := lv_entry ([.long p0]) (n := 5) (Nat.le_of_ble_eq_true rfl)
  rw [lg_entry_eq]
  generalize (lg_sl ([.long p0]) ++ List.replicate (5 - (lg_sl ([.long p0])).length) Slot.unset).toArray = ls at hl ⊢
  have hl : lv_has ls 5 [(0, .long p0)] := hl
  unfold wp_X8_lengthOf at h
  refine lv_iconst (v := 0) hx hb dX8_lengthOf_0 (by decide) ?_
  refine lv_istore_n (lv' := [(2, .int 0), (0, .long p0)]) hx hb dX8_lengthOf_1 rfl hl (by decide) rfl (fun ls hl => ?_)
  refine lv_lload_n hx hb dX8_lengthOf_2 rfl (lv_at hl 1 rfl) ?_
  refine lv_lstore_n (lv' := [(3, .long p0), (2, .int 0), (0, .long p0)]) hx hb dX8_lengthOf_3 rfl hl (by decide) rfl (fun ls hl => ?_)
  exact L4 2000 0 p0 () _ _ _ hP hD hS (lv_sub hl [1, 0] rfl) h
/-! X8_isFinite -/
abbrev rmX8_isFinite : Room := { frames := 0, cells := 0, slots := 0, locals := 0 }
set_option maxHeartbeats 4000000 in
set_option maxRecDepth 100000 in
theorem c_X8_isFinite (l : Launch) (D : va_G) (cI cZ : ClassId) (sz : Nat) (S : Unit) (p0 : Int32) (Q : Int32 → Unit → Prop) (h : wp_X8_isFinite S p0 Q) : Met l yX8_isFinite (wsm yX8_isFinite cX8_isFinite 1 (some .boolean)) rmX8_isFinite (va_Pc [.int p0] (preW D cI cZ sz (w0_ cI cZ S))) (va_Qi Q (fun u => atW D cI cZ (va_A (w0_ cI cZ S) sz) (w0_ cI cZ u)) (va_A (w0_ cI cZ S) sz)) 0 0 (va_A (w0_ cI cZ S) sz) := by
  refine Met.ofW (cc := cX8_isFinite) (maxL := 1) (ret := (some .boolean)) (by decide) rfl ?_
  intro p e s m args below meth c s₁ B hml hv
  obtain ⟨rfl, hsz, hP, hK, hD0⟩ := hv
  have hx := B.exec
  have hb := B.bytes
  have hr := B.returns
  have hts0 := atoms_spec (ws := wsm yX8_isFinite cX8_isFinite 1 (some .boolean)) B.pre
  have hts : ∀ w ∈ lw_all, w.before _ s = true := fun w h => hts0 w (List.mem_cons_of_mem _ h)
  have hown : s.vm.findClass RX8 = some m.cls := findClass_of_methodNamed B.named
  have hlocks := B.notSynchronized
  subst hsz
  have hD := hD0.self (sz := s.heap.size)
  generalize hAe : va_A (w0_ cI cZ S) s.heap.size = A at hD ⊢
  have hA : ∀ q : Nat, s.heap.size ≤ q → A q := fun q h => by rw [← hAe]; exact Or.inr h
  have hS : va_S A s.heap s.heap [] := va_S.rf
  have hml2 := hml
  have hl := lv_entry ([.int p0]) (n := 1) (Nat.le_of_ble_eq_true rfl)
  rw [lg_entry_eq]
  generalize (lg_sl ([.int p0]) ++ List.replicate (1 - (lg_sl ([.int p0])).length) Slot.unset).toArray = ls at hl ⊢
  have hl : lv_has ls 1 [(0, .int p0)] := hl
  unfold wp_X8_isFinite at h
  refine lv_iload_n hx hb dX8_isFinite_0 rfl (lv_at hl 0 rfl) ?_
  refine lv_bipush (v := 23) hx hb dX8_isFinite_1 (by decide) ?_
  refine lv_ishr hx hb dX8_isFinite_3 ?_
  refine lv_sipush (v := 255) hx hb dX8_isFinite_4 (by decide) ?_
  refine lv_iand hx hb dX8_isFinite_7 ?_
  refine lv_sipush (v := 255) hx hb dX8_isFinite_8 (by decide) ?_
  refine lv_icmp_eq (tgt := 18) hx hb dX8_isFinite_11 (by decide) (fun c1 => ?_) (fun c1 => ?_)
  · have h := h.1 c1
    refine lv_iconst (v := 0) hx hb dX8_isFinite_18 (by decide) ?_
    exact W.zret (ty := .boolean) (v := 0) hx hb hr (narB isB0) (fun t ht hW => ⟨⟨0, (), rfl, h, by rw [ht]; exact hP, va_K.moved hW.alike hK, hD⟩, hS.F ht⟩) hS.2.2 dX8_isFinite_19
  · have h := h.2 c1
    refine lv_iconst (v := 1) hx hb dX8_isFinite_14 (by decide) ?_
    refine lv_goto (tgt := 19) hx hb dX8_isFinite_15 (by decide) ?_
    exact W.zret (ty := .boolean) (v := 1) hx hb hr (narB isB1) (fun t ht hW => ⟨⟨1, (), rfl, h, by rw [ht]; exact hP, va_K.moved hW.alike hK, hD⟩, hS.F ht⟩) hS.2.2 dX8_isFinite_19
/-! X8_fraction -/
abbrev rmX8_fraction : Room := { frames := 0, cells := 0, slots := 0, locals := 0 }
set_option maxHeartbeats 4000000 in
set_option maxRecDepth 100000 in
theorem c_X8_fraction (l : Launch) (D : va_G) (cI cZ : ClassId) (sz : Nat) (S : Unit) (p0 : Int32) (Q : Int64 → Unit → Prop) (h : wp_X8_fraction S p0 Q) : Met l yX8_fraction (wsm yX8_fraction cX8_fraction 1 (some .long)) rmX8_fraction (va_Pc [.int p0] (preW D cI cZ sz (w0_ cI cZ S))) (va_Ql Q (fun u => atW D cI cZ (va_A (w0_ cI cZ S) sz) (w0_ cI cZ u)) (va_A (w0_ cI cZ S) sz)) 0 0 (va_A (w0_ cI cZ S) sz) := by
  refine Met.ofW (cc := cX8_fraction) (maxL := 1) (ret := (some .long)) (by decide) rfl ?_
  intro p e s m args below meth c s₁ B hml hv
  obtain ⟨rfl, hsz, hP, hK, hD0⟩ := hv
  have hx := B.exec
  have hb := B.bytes
  have hr := B.returns
  have hts0 := atoms_spec (ws := wsm yX8_fraction cX8_fraction 1 (some .long)) B.pre
  have hts : ∀ w ∈ lw_all, w.before _ s = true := fun w h => hts0 w (List.mem_cons_of_mem _ h)
  have hown : s.vm.findClass RX8 = some m.cls := findClass_of_methodNamed B.named
  have hlocks := B.notSynchronized
  subst hsz
  have hD := hD0.self (sz := s.heap.size)
  generalize hAe : va_A (w0_ cI cZ S) s.heap.size = A at hD ⊢
  have hA : ∀ q : Nat, s.heap.size ≤ q → A q := fun q h => by rw [← hAe]; exact Or.inr h
  have hS : va_S A s.heap s.heap [] := va_S.rf
  have hml2 := hml
  have hl := lv_entry ([.int p0]) (n := 1) (Nat.le_of_ble_eq_true rfl)
  rw [lg_entry_eq]
  generalize (lg_sl ([.int p0]) ++ List.replicate (1 - (lg_sl ([.int p0])).length) Slot.unset).toArray = ls at hl ⊢
  have hl : lv_has ls 1 [(0, .int p0)] := hl
  unfold wp_X8_fraction at h
  refine lv_iload_n hx hb dX8_fraction_0 rfl (lv_at hl 0 rfl) ?_
  refine lv_bipush (v := 23) hx hb dX8_fraction_1 (by decide) ?_
  refine lv_ishr hx hb dX8_fraction_3 ?_
  refine lv_sipush (v := 255) hx hb dX8_fraction_4 (by decide) ?_
  refine lv_iand hx hb dX8_fraction_7 ?_
  refine lv_if_ne (tgt := 19) hx hb dX8_fraction_8 (by decide) (fun c1 => ?_) (fun c1 => ?_)
  · have h := h.1 c1
    refine lv_iload_n hx hb dX8_fraction_19 rfl (lv_at hl 0 rfl) ?_
    refine lv_ldc hx hb hown (hts _ q_1304) dX8_fraction_20 ?_
    refine lv_iand hx hb dX8_fraction_22 ?_
    refine lv_ldc hx hb hown (hts _ q_1305) dX8_fraction_23 ?_
    refine lv_ior hx hb dX8_fraction_25 ?_
    refine lv_i2l (v := (Int32.toInt64 ((p0 &&& 8388607) ||| 8388608))) hx hb dX8_fraction_26 rfl ?_
    exact W.lret (v := (Int32.toInt64 ((p0 &&& 8388607) ||| 8388608))) hx hb hr (fun t ht hW => ⟨⟨(Int32.toInt64 ((p0 &&& 8388607) ||| 8388608)), (), rfl, h, by rw [ht]; exact hP, va_K.moved hW.alike hK, hD⟩, hS.F ht⟩) hS.2.2 dX8_fraction_27
  · have h := h.2 c1
    refine lv_iload_n hx hb dX8_fraction_11 rfl (lv_at hl 0 rfl) ?_
    refine lv_ldc hx hb hown (hts _ q_1304) dX8_fraction_12 ?_
    refine lv_iand hx hb dX8_fraction_14 ?_
    refine lv_i2l (v := (Int32.toInt64 (p0 &&& 8388607))) hx hb dX8_fraction_15 rfl ?_
    refine lv_goto (tgt := 27) hx hb dX8_fraction_16 (by decide) ?_
    exact W.lret (v := (Int32.toInt64 (p0 &&& 8388607))) hx hb hr (fun t ht hW => ⟨⟨(Int32.toInt64 (p0 &&& 8388607)), (), rfl, h, by rw [ht]; exact hP, va_K.moved hW.alike hK, hD⟩, hS.F ht⟩) hS.2.2 dX8_fraction_27
/-! X8_place -/
abbrev rmX8_place : Room := { frames := 0, cells := 0, slots := 0, locals := 0 }
set_option maxHeartbeats 4000000 in
set_option maxRecDepth 100000 in
theorem c_X8_place (l : Launch) (D : va_G) (cI cZ : ClassId) (sz : Nat) (S : Unit) (p0 : Int32) (Q : Int32 → Unit → Prop) (h : wp_X8_place S p0 Q) : Met l yX8_place (wsm yX8_place cX8_place 2 (some .int)) rmX8_place (va_Pc [.int p0] (preW D cI cZ sz (w0_ cI cZ S))) (va_Qi Q (fun u => atW D cI cZ (va_A (w0_ cI cZ S) sz) (w0_ cI cZ u)) (va_A (w0_ cI cZ S) sz)) 0 0 (va_A (w0_ cI cZ S) sz) := by
  refine Met.ofW (cc := cX8_place) (maxL := 2) (ret := (some .int)) (by decide) rfl ?_
  intro p e s m args below meth c s₁ B hml hv
  obtain ⟨rfl, hsz, hP, hK, hD0⟩ := hv
  have hx := B.exec
  have hb := B.bytes
  have hr := B.returns
  have hts0 := atoms_spec (ws := wsm yX8_place cX8_place 2 (some .int)) B.pre
  have hts : ∀ w ∈ lw_all, w.before _ s = true := fun w h => hts0 w (List.mem_cons_of_mem _ h)
  have hown : s.vm.findClass RX8 = some m.cls := findClass_of_methodNamed B.named
  have hlocks := B.notSynchronized
  subst hsz
  have hD := hD0.self (sz := s.heap.size)
  generalize hAe : va_A (w0_ cI cZ S) s.heap.size = A at hD ⊢
  have hA : ∀ q : Nat, s.heap.size ≤ q → A q := fun q h => by rw [← hAe]; exact Or.inr h
  have hS : va_S A s.heap s.heap [] := va_S.rf
  have hml2 := hml
  have hl := lv_entry ([.int p0]) (n := 2) (Nat.le_of_ble_eq_true rfl)
  rw [lg_entry_eq]
  generalize (lg_sl ([.int p0]) ++ List.replicate (2 - (lg_sl ([.int p0])).length) Slot.unset).toArray = ls at hl ⊢
  have hl : lv_has ls 2 [(0, .int p0)] := hl
  unfold wp_X8_place at h
  refine lv_iload_n hx hb dX8_place_0 rfl (lv_at hl 0 rfl) ?_
  refine lv_bipush (v := 23) hx hb dX8_place_1 (by decide) ?_
  refine lv_ishr hx hb dX8_place_3 ?_
  refine lv_sipush (v := 255) hx hb dX8_place_4 (by decide) ?_
  refine lv_iand hx hb dX8_place_7 ?_
  refine lv_topi (fun x1 ex1 => ?_)
  have h := h x1 ex1
  refine lv_istore_n (lv' := [(1, .int x1), (0, .int p0)]) hx hb dX8_place_8 rfl hl (by decide) rfl (fun ls hl => ?_)
  refine lv_iload_n hx hb dX8_place_9 rfl (lv_at hl 0 rfl) ?_
  refine lv_if_ne (tgt := 19) hx hb dX8_place_10 (by decide) (fun c2 => ?_) (fun c2 => ?_)
  · have h := h.1 c2
    refine lv_iload_n hx hb dX8_place_19 rfl (lv_at hl 0 rfl) ?_
    refine lv_sipush (v := 150) hx hb dX8_place_20 (by decide) ?_
    refine lv_isub hx hb dX8_place_23 ?_
    exact W.iret (v := (x1 - 150)) hx hb hr (fun t ht hW => ⟨⟨(x1 - 150), (), rfl, h, by rw [ht]; exact hP, va_K.moved hW.alike hK, hD⟩, hS.F ht⟩) hS.2.2 dX8_place_24
  · have h := h.2 c2
    refine lv_sipush (v := -149) hx hb dX8_place_13 (by decide) ?_
    refine lv_goto (tgt := 24) hx hb dX8_place_16 (by decide) ?_
    exact W.iret (v := (-149)) hx hb hr (fun t ht hW => ⟨⟨(-149), (), rfl, h, by rw [ht]; exact hP, va_K.moved hW.alike hK, hD⟩, hS.F ht⟩) hS.2.2 dX8_place_24
/-! X8_rounded -/
abbrev rmX8_rounded : Room := { frames := 1, cells := 0, slots := 0, locals := 24 }
set_option maxHeartbeats 4000000 in
set_option maxRecDepth 100000 in
theorem c_X8_rounded (l : Launch) (D : va_G) (cI cZ : ClassId) (sz : Nat) (S : Unit) (p0 : Int32) (p1 : Int64) (p2 : Int32) (p3 : Int32) (Q : Int32 → Unit → Prop) (h : wp_X8_rounded S p0 p1 p2 p3 Q) : Met l yX8_rounded (wsm yX8_rounded cX8_rounded 14 (some .int)) rmX8_rounded (va_Pc [.int p0, .long p1, .int p2, .int p3] (preW D cI cZ sz (w0_ cI cZ S))) (va_Qi Q (fun u => atW D cI cZ (va_A (w0_ cI cZ S) sz) (w0_ cI cZ u)) (va_A (w0_ cI cZ S) sz)) 0 0 (va_A (w0_ cI cZ S) sz) := by
  refine Met.ofW (cc := cX8_rounded) (maxL := 14) (ret := (some .int)) (by decide) rfl ?_
  intro p e s m args below meth c s₁ B hml hv
  obtain ⟨rfl, hsz, hP, hK, hD0⟩ := hv
  have hx := B.exec
  have hb := B.bytes
  have hr := B.returns
  have hts0 := atoms_spec (ws := wsm yX8_rounded cX8_rounded 14 (some .int)) B.pre
  have hts : ∀ w ∈ lw_all, w.before _ s = true := fun w h => hts0 w (List.mem_cons_of_mem _ h)
  have hown : s.vm.findClass RX8 = some m.cls := findClass_of_methodNamed B.named
  have hlocks := B.notSynchronized
  subst hsz
  have hD := hD0.self (sz := s.heap.size)
  generalize hAe : va_A (w0_ cI cZ S) s.heap.size = A at hD ⊢
  have hA : ∀ q : Nat, s.heap.size ≤ q → A q := fun q h => by rw [← hAe]; exact Or.inr h
  have hS : va_S A s.heap s.heap [] := va_S.rf
  have hml2 := hml
  have L132 : ∀ (y5 : Int32) (y6 : Int32) (y8 : Int64) (T : Unit) (H : Heap) (locs : List Loc) (ls : Array Slot), va_P D vwCl (w0_ cI cZ T) H → va_D A (w0_ cI cZ T) → va_S A s.heap H locs → lv_has ls 14 [(5, .int y5), (6, .int y6), (8, .long y8)] → wp_X8_rounded_L132 Q y5 y6 y8 T → W p l e rmX8_rounded s m ([.int p0, .long p1, .int p2, .int p3] : List Value).toArray below meth c H locs 0 0 (MQ below (va_Qi Q (fun u => atW D cI cZ A (w0_ cI cZ u)) A) ([.int p0, .long p1, .int p2, .int p3] : List Value).toArray s 0 0 A) (F0 m 132 ls []) := by
    intro y5 y6 y8 T H locs ls hP hD hS hl h
    unfold wp_X8_rounded_L132 at h
    refine lv_lload hx hb dX8_rounded_132 (lv_at hl 2 rfl) ?_
    refine lv_ldc2 hx hb hown (hts _ q_1317) dX8_rounded_134 ?_
    refine W.lcmp hx hb dX8_rounded_137 ?_
    refine lv_if_ne (tgt := 149) hx hb dX8_rounded_138 (by decide) (fun c20 => ?_) (fun c20 => ?_)
    · have h := h.1 c20
      refine lv_lload hx hb dX8_rounded_149 (lv_at hl 2 rfl) ?_
      refine lv_ldc2 hx hb hown (hts _ q_1318) dX8_rounded_151 ?_
      refine W.lcmp hx hb dX8_rounded_154 ?_
      refine lv_if_ge (tgt := 165) hx hb dX8_rounded_155 (by decide) (fun c21 => ?_) (fun c21 => ?_)
      · have h := h.1 c21
        refine lv_iload hx hb dX8_rounded_165 (lv_at hl 1 rfl) ?_
        refine lv_bipush (v := 104) hx hb dX8_rounded_167 (by decide) ?_
        refine lv_icmp_le (tgt := 178) hx hb dX8_rounded_169 (by decide) (fun c22 => ?_) (fun c22 => ?_)
        · have h := h.1 c22
          refine lv_iload hx hb dX8_rounded_178 (lv_at hl 0 rfl) ?_
          refine lv_iload hx hb dX8_rounded_180 (lv_at hl 1 rfl) ?_
          refine lv_sipush (v := 150) hx hb dX8_rounded_182 (by decide) ?_
          refine lv_iadd hx hb dX8_rounded_185 ?_
          refine lv_bipush (v := 23) hx hb dX8_rounded_186 (by decide) ?_
          refine lv_ishl hx hb dX8_rounded_188 ?_
          refine lv_ior hx hb dX8_rounded_189 ?_
          refine lv_lload hx hb dX8_rounded_190 (lv_at hl 2 rfl) ?_
          refine lv_l2i (v := (Int64.toInt32 y8)) hx hb dX8_rounded_192 rfl ?_
          refine lv_ldc hx hb hown (hts _ q_1304) dX8_rounded_193 ?_
          refine lv_iand hx hb dX8_rounded_195 ?_
          refine lv_ior hx hb dX8_rounded_196 ?_
          exact W.iret (v := ((y5 ||| ((y6 + 150) <<< (23 &&& 31))) ||| ((Int64.toInt32 y8) &&& 8388607))) hx hb hr (fun t ht hW => ⟨⟨((y5 ||| ((y6 + 150) <<< (23 &&& 31))) ||| ((Int64.toInt32 y8) &&& 8388607)), (), rfl, h, by rw [ht]; exact hP, va_K.moved hW.alike hK, hD⟩, hS.F ht⟩) hS.2.2 dX8_rounded_197
        · have h := h.2 c22
          refine lv_iload hx hb dX8_rounded_172 (lv_at hl 0 rfl) ?_
          refine lv_ldc hx hb hown (hts _ q_1319) dX8_rounded_174 ?_
          refine lv_ior hx hb dX8_rounded_176 ?_
          exact W.iret (v := (y5 ||| 2139095040)) hx hb hr (fun t ht hW => ⟨⟨(y5 ||| 2139095040), (), rfl, h, by rw [ht]; exact hP, va_K.moved hW.alike hK, hD⟩, hS.F ht⟩) hS.2.2 dX8_rounded_177
      · have h := h.2 c21
        refine lv_iload hx hb dX8_rounded_158 (lv_at hl 0 rfl) ?_
        refine lv_lload hx hb dX8_rounded_160 (lv_at hl 2 rfl) ?_
        refine lv_l2i (v := (Int64.toInt32 y8)) hx hb dX8_rounded_162 rfl ?_
        refine lv_ior hx hb dX8_rounded_163 ?_
        exact W.iret (v := (y5 ||| (Int64.toInt32 y8))) hx hb hr (fun t ht hW => ⟨⟨(y5 ||| (Int64.toInt32 y8)), (), rfl, h, by rw [ht]; exact hP, va_K.moved hW.alike hK, hD⟩, hS.F ht⟩) hS.2.2 dX8_rounded_164
    · have h := h.2 c20
      refine lv_ldc2 hx hb hown (hts _ q_1318) dX8_rounded_141 ?_
      refine lv_lstore (lv' := [(8, .long 8388608), (5, .int y5), (6, .int y6)]) hx hb dX8_rounded_144 hl (by decide) rfl (fun ls hl => ?_)
      obtain ⟨x23, ex23⟩ : ∃ y : Int32, y = (y6 + 1) := ⟨_, rfl⟩
      have h := h x23 ex23
      refine lv_iinc (v := x23) (lv' := [(6, .int x23), (8, .long 8388608), (5, .int y5)]) hx hb dX8_rounded_146 hl (k := 2) rfl (by rw [ex23]; rfl) (by decide) rfl (fun ls hl => ?_)
      refine lv_lload hx hb dX8_rounded_149 (lv_at hl 1 rfl) ?_
      refine lv_ldc2 hx hb hown (hts _ q_1318) dX8_rounded_151 ?_
      refine W.lcmp hx hb dX8_rounded_154 ?_
      refine lv_if_ge (tgt := 165) hx hb dX8_rounded_155 (by decide) (fun c24 => ?_) (fun c24 => ?_)
      · have h := h.1 c24
        refine lv_iload hx hb dX8_rounded_165 (lv_at hl 0 rfl) ?_
        refine lv_bipush (v := 104) hx hb dX8_rounded_167 (by decide) ?_
        refine lv_icmp_le (tgt := 178) hx hb dX8_rounded_169 (by decide) (fun c25 => ?_) (fun c25 => ?_)
        · have h := h.1 c25
          refine lv_iload hx hb dX8_rounded_178 (lv_at hl 2 rfl) ?_
          refine lv_iload hx hb dX8_rounded_180 (lv_at hl 0 rfl) ?_
          refine lv_sipush (v := 150) hx hb dX8_rounded_182 (by decide) ?_
          refine lv_iadd hx hb dX8_rounded_185 ?_
          refine lv_bipush (v := 23) hx hb dX8_rounded_186 (by decide) ?_
          refine lv_ishl hx hb dX8_rounded_188 ?_
          refine lv_ior hx hb dX8_rounded_189 ?_
          refine lv_lload hx hb dX8_rounded_190 (lv_at hl 1 rfl) ?_
          refine lv_l2i (v := (Int64.toInt32 8388608)) hx hb dX8_rounded_192 rfl ?_
          refine lv_ldc hx hb hown (hts _ q_1304) dX8_rounded_193 ?_
          refine lv_iand hx hb dX8_rounded_195 ?_
          refine lv_ior hx hb dX8_rounded_196 ?_
          exact W.iret (v := ((y5 ||| ((x23 + 150) <<< (23 &&& 31))) ||| ((Int64.toInt32 8388608) &&& 8388607))) hx hb hr (fun t ht hW => ⟨⟨((y5 ||| ((x23 + 150) <<< (23 &&& 31))) ||| ((Int64.toInt32 8388608) &&& 8388607)), (), rfl, h, by rw [ht]; exact hP, va_K.moved hW.alike hK, hD⟩, hS.F ht⟩) hS.2.2 dX8_rounded_197
        · have h := h.2 c25
          refine lv_iload hx hb dX8_rounded_172 (lv_at hl 2 rfl) ?_
          refine lv_ldc hx hb hown (hts _ q_1319) dX8_rounded_174 ?_
          refine lv_ior hx hb dX8_rounded_176 ?_
          exact W.iret (v := (y5 ||| 2139095040)) hx hb hr (fun t ht hW => ⟨⟨(y5 ||| 2139095040), (), rfl, h, by rw [ht]; exact hP, va_K.moved hW.alike hK, hD⟩, hS.F ht⟩) hS.2.2 dX8_rounded_177
      · have h := h.2 c24
        refine lv_iload hx hb dX8_rounded_158 (lv_at hl 2 rfl) ?_
        refine lv_lload hx hb dX8_rounded_160 (lv_at hl 1 rfl) ?_
        refine lv_l2i (v := (Int64.toInt32 8388608)) hx hb dX8_rounded_162 rfl ?_
        refine lv_ior hx hb dX8_rounded_163 ?_
        exact W.iret (v := (y5 ||| (Int64.toInt32 8388608))) hx hb hr (fun t ht hW => ⟨⟨(y5 ||| (Int64.toInt32 8388608)), (), rfl, h, by rw [ht]; exact hP, va_K.moved hW.alike hK, hD⟩, hS.F ht⟩) hS.2.2 dX8_rounded_164
  have L36 : ∀ (y1 : Int64) (y3 : Int32) (y4 : Int32) (y5 : Int32) (y6 : Int32) (T : Unit) (H : Heap) (locs : List Loc) (ls : Array Slot), va_P D vwCl (w0_ cI cZ T) H → va_D A (w0_ cI cZ T) → va_S A s.heap H locs → lv_has ls 14 [(1, .long y1), (3, .int y3), (4, .int y4), (5, .int y5), (6, .int y6)] → wp_X8_rounded_L36 Q y1 y3 y4 y5 y6 T → W p l e rmX8_rounded s m ([.int p0, .long p1, .int p2, .int p3] : List Value).toArray below meth c H locs 0 0 (MQ below (va_Qi Q (fun u => atW D cI cZ A (w0_ cI cZ u)) A) ([.int p0, .long p1, .int p2, .int p3] : List Value).toArray s 0 0 A) (F0 m 36 ls []) := by
    intro y1 y3 y4 y5 y6 T H locs ls hP hD hS hl h
    unfold wp_X8_rounded_L36 at h
    refine lv_iload hx hb dX8_rounded_36 (lv_at hl 4 rfl) ?_
    refine lv_iload_n hx hb dX8_rounded_38 rfl (lv_at hl 1 rfl) ?_
    refine lv_isub hx hb dX8_rounded_39 ?_
    refine lv_topi (fun x6 ex6 => ?_)
    have h := h x6 ex6
    refine lv_istore (lv' := [(7, .int x6), (1, .long y1), (3, .int y3), (4, .int y4), (5, .int y5), (6, .int y6)]) hx hb dX8_rounded_40 hl (by decide) rfl (fun ls hl => ?_)
    refine lv_iload hx hb dX8_rounded_42 (lv_at hl 0 rfl) ?_
    refine lv_if_gt (tgt := 57) hx hb dX8_rounded_44 (by decide) (fun c7 => ?_) (fun c7 => ?_)
    · have h := h.1 c7
      refine lv_iload hx hb dX8_rounded_57 (lv_at hl 0 rfl) ?_
      refine lv_bipush (v := 60) hx hb dX8_rounded_59 (by decide) ?_
      refine lv_icmp_le (tgt := 70) hx hb dX8_rounded_61 (by decide) (fun c8 => ?_) (fun c8 => ?_)
      · have h := h.1 c8
        refine lv_lconst (v := 1) hx hb dX8_rounded_70 (by decide) ?_
        refine lv_iload hx hb dX8_rounded_71 (lv_at hl 0 rfl) ?_
        refine lv_iconst (v := 1) hx hb dX8_rounded_73 (by decide) ?_
        refine lv_isub hx hb dX8_rounded_74 ?_
        refine lv_lshl (v := (1 <<< ((Int32.toInt64 (x6 - 1)) &&& 63))) hx hb dX8_rounded_75 rfl ?_
        refine lv_topl (fun x9 ex9 => ?_)
        have h := h x9 ex9
        refine lv_lstore (lv' := [(10, .long x9), (7, .int x6), (1, .long y1), (3, .int y3), (4, .int y4), (5, .int y5), (6, .int y6)]) hx hb dX8_rounded_76 hl (by decide) rfl (fun ls hl => ?_)
        refine lv_lload_n hx hb dX8_rounded_78 rfl (lv_at hl 2 rfl) ?_
        refine lv_ldc2 hx hb hown (hts _ q_1316) dX8_rounded_79 ?_
        refine lv_lload hx hb dX8_rounded_82 (lv_at hl 0 rfl) ?_
        refine lv_lmul hx hb dX8_rounded_84 ?_
        refine lv_lconst (v := 1) hx hb dX8_rounded_85 (by decide) ?_
        refine lv_lsub hx hb dX8_rounded_86 ?_
        refine lv_land hx hb dX8_rounded_87 ?_
        refine lv_topl (fun x10 ex10 => ?_)
        have h := h x10 ex10
        refine lv_lstore (lv' := [(12, .long x10), (10, .long x9), (7, .int x6), (1, .long y1), (3, .int y3), (4, .int y4), (5, .int y5), (6, .int y6)]) hx hb dX8_rounded_88 hl (by decide) rfl (fun ls hl => ?_)
        refine lv_lload_n hx hb dX8_rounded_90 rfl (lv_at hl 3 rfl) ?_
        refine lv_iload hx hb dX8_rounded_91 (lv_at hl 2 rfl) ?_
        refine lv_lshr (v := (y1 >>> ((Int32.toInt64 x6) &&& 63))) hx hb dX8_rounded_93 rfl ?_
        refine lv_topl (fun x11 ex11 => ?_)
        have h := h x11 ex11
        refine lv_lstore (lv' := [(8, .long x11), (12, .long x10), (10, .long x9), (7, .int x6), (1, .long y1), (3, .int y3), (4, .int y4), (5, .int y5), (6, .int y6)]) hx hb dX8_rounded_94 hl (by decide) rfl (fun ls hl => ?_)
        refine lv_lload hx hb dX8_rounded_96 (lv_at hl 1 rfl) ?_
        refine lv_lload hx hb dX8_rounded_98 (lv_at hl 2 rfl) ?_
        refine W.lcmp hx hb dX8_rounded_100 ?_
        refine lv_if_gt (tgt := 126) hx hb dX8_rounded_101 (by decide) (fun c12 => ?_) (fun c12 => ?_)
        · have h := h.1 c12
          refine lv_lload hx hb dX8_rounded_126 (lv_at hl 0 rfl) ?_
          refine lv_lconst (v := 1) hx hb dX8_rounded_128 (by decide) ?_
          refine lv_ladd hx hb dX8_rounded_129 ?_
          refine lv_topl (fun x13 ex13 => ?_)
          have h := h x13 ex13
          refine lv_lstore (lv' := [(8, .long x13), (12, .long x10), (10, .long x9), (7, .int x6), (1, .long y1), (3, .int y3), (4, .int y4), (5, .int y5), (6, .int y6)]) hx hb dX8_rounded_130 hl (by decide) rfl (fun ls hl => ?_)
          exact L132 y5 y6 x13 () _ _ _ hP hD hS (lv_sub hl [7, 8, 0] rfl) h
        · have h := h.2 c12
          refine lv_lload hx hb dX8_rounded_104 (lv_at hl 1 rfl) ?_
          refine lv_lload hx hb dX8_rounded_106 (lv_at hl 2 rfl) ?_
          refine W.lcmp hx hb dX8_rounded_108 ?_
          refine lv_if_ne (tgt := 132) hx hb dX8_rounded_109 (by decide) (fun c14 => ?_) (fun c14 => ?_)
          · have h := h.1 c14
            exact L132 y5 y6 x11 () _ _ _ hP hD hS (lv_sub hl [7, 8, 0] rfl) h
          · have h := h.2 c14
            refine lv_iload hx hb dX8_rounded_112 (lv_at hl 6 rfl) ?_
            refine lv_if_ne (tgt := 126) hx hb dX8_rounded_114 (by decide) (fun c15 => ?_) (fun c15 => ?_)
            · have h := h.1 c15
              refine lv_lload hx hb dX8_rounded_126 (lv_at hl 0 rfl) ?_
              refine lv_lconst (v := 1) hx hb dX8_rounded_128 (by decide) ?_
              refine lv_ladd hx hb dX8_rounded_129 ?_
              refine lv_topl (fun x16 ex16 => ?_)
              have h := h x16 ex16
              refine lv_lstore (lv' := [(8, .long x16), (12, .long x10), (10, .long x9), (7, .int x6), (1, .long y1), (3, .int y3), (4, .int y4), (5, .int y5), (6, .int y6)]) hx hb dX8_rounded_130 hl (by decide) rfl (fun ls hl => ?_)
              exact L132 y5 y6 x16 () _ _ _ hP hD hS (lv_sub hl [7, 8, 0] rfl) h
            · have h := h.2 c15
              refine lv_lload hx hb dX8_rounded_117 (lv_at hl 0 rfl) ?_
              refine lv_lconst (v := 1) hx hb dX8_rounded_119 (by decide) ?_
              refine lv_land hx hb dX8_rounded_120 ?_
              refine lv_lconst (v := 1) hx hb dX8_rounded_121 (by decide) ?_
              refine W.lcmp hx hb dX8_rounded_122 ?_
              refine lv_if_ne (tgt := 132) hx hb dX8_rounded_123 (by decide) (fun c17 => ?_) (fun c17 => ?_)
              · have h := h.1 c17
                exact L132 y5 y6 x11 () _ _ _ hP hD hS (lv_sub hl [7, 8, 0] rfl) h
              · have h := h.2 c17
                refine lv_lload hx hb dX8_rounded_126 (lv_at hl 0 rfl) ?_
                refine lv_lconst (v := 1) hx hb dX8_rounded_128 (by decide) ?_
                refine lv_ladd hx hb dX8_rounded_129 ?_
                refine lv_topl (fun x18 ex18 => ?_)
                have h := h x18 ex18
                refine lv_lstore (lv' := [(8, .long x18), (12, .long x10), (10, .long x9), (7, .int x6), (1, .long y1), (3, .int y3), (4, .int y4), (5, .int y5), (6, .int y6)]) hx hb dX8_rounded_130 hl (by decide) rfl (fun ls hl => ?_)
                exact L132 y5 y6 x18 () _ _ _ hP hD hS (lv_sub hl [7, 8, 0] rfl) h
      · have h := h.2 c8
        refine lv_lconst (v := 0) hx hb dX8_rounded_64 (by decide) ?_
        refine lv_lstore (lv' := [(8, .long 0), (7, .int x6), (1, .long y1), (3, .int y3), (4, .int y4), (5, .int y5), (6, .int y6)]) hx hb dX8_rounded_65 hl (by decide) rfl (fun ls hl => ?_)
        refine lv_goto (tgt := 132) hx hb dX8_rounded_67 (by decide) ?_
        exact L132 y5 y6 0 () _ _ _ hP hD hS (lv_sub hl [5, 6, 0] rfl) h
    · have h := h.2 c7
      refine lv_lload_n hx hb dX8_rounded_47 rfl (lv_at hl 1 rfl) ?_
      refine lv_iload hx hb dX8_rounded_48 (lv_at hl 0 rfl) ?_
      refine lv_ineg hx hb dX8_rounded_50 ?_
      refine lv_lshl (v := (y1 <<< ((Int32.toInt64 (-x6)) &&& 63))) hx hb dX8_rounded_51 rfl ?_
      refine lv_topl (fun x19 ex19 => ?_)
      have h := h x19 ex19
      refine lv_lstore (lv' := [(8, .long x19), (7, .int x6), (1, .long y1), (3, .int y3), (4, .int y4), (5, .int y5), (6, .int y6)]) hx hb dX8_rounded_52 hl (by decide) rfl (fun ls hl => ?_)
      refine lv_goto (tgt := 132) hx hb dX8_rounded_54 (by decide) ?_
      exact L132 y5 y6 x19 () _ _ _ hP hD hS (lv_sub hl [5, 6, 0] rfl) h
  have L10 : ∀ (y1 : Int64) (y3 : Int32) (y4 : Int32) (z0 : Int32) (T : Unit) (H : Heap) (locs : List Loc) (ls : Array Slot), va_P D vwCl (w0_ cI cZ T) H → va_D A (w0_ cI cZ T) → va_S A s.heap H locs → lv_has ls 14 [(1, .long y1), (3, .int y3), (4, .int y4)] → wp_X8_rounded_L10 Q y1 y3 y4 z0 T → W p l e rmX8_rounded s m ([.int p0, .long p1, .int p2, .int p3] : List Value).toArray below meth c H locs 0 0 (MQ below (va_Qi Q (fun u => atW D cI cZ A (w0_ cI cZ u)) A) ([.int p0, .long p1, .int p2, .int p3] : List Value).toArray s 0 0 A) (F0 m 10 ls [.int z0]) := by
    intro y1 y3 y4 z0 T H locs ls hP hD hS hl h
    unfold wp_X8_rounded_L10 at h
    refine lv_istore (lv' := [(5, .int z0), (1, .long y1), (3, .int y3), (4, .int y4)]) hx hb dX8_rounded_10 hl (by decide) rfl (fun ls hl => ?_)
    refine lv_lload_n hx hb dX8_rounded_12 rfl (lv_at hl 1 rfl) ?_
    refine cl_i (ws' := fun u2 => (w0_ cI cZ ())) (va_runS (As := [.long y1]) (rest := []) ⟨hx, hb, hml, hown, hts⟩ (c_X8_lengthOf l D cI cZ _ () y1 _ h ) (va_cwS 1 hts (gS q_1313 q_1314 q_75 q_1315) rfl rfl rfl (by decide +kernel) ⟨Nat.le_of_ble_eq_true rfl, Nat.le_of_ble_eq_true rfl⟩) (preS_of hK hP hD [] rfl rfl (by decide)) rfl rfl hl.1 rfl (lv_room (Nat.le_of_ble_eq_true rfl)) dX8_rounded_13 ⟨Nat.zero_le _, Nat.zero_le _⟩) hP hD hS hA [] [] rfl (by decide) (fun _ => rfl) (fun _ => rfl) (fun r3 u2 H locs h hP hD hS => ?_)
    refine lv_iload_n hx hb dX8_rounded_16 rfl (lv_at hl 2 rfl) ?_
    refine lv_iadd hx hb dX8_rounded_17 ?_
    refine lv_bipush (v := 24) hx hb dX8_rounded_18 (by decide) ?_
    refine lv_isub hx hb dX8_rounded_20 ?_
    refine lv_topi (fun x4 ex4 => ?_)
    have h := h x4 ex4
    refine lv_istore (lv' := [(6, .int x4), (5, .int z0), (1, .long y1), (3, .int y3), (4, .int y4)]) hx hb dX8_rounded_21 hl (by decide) rfl (fun ls hl => ?_)
    refine lv_iload hx hb dX8_rounded_23 (lv_at hl 0 rfl) ?_
    refine lv_sipush (v := -149) hx hb dX8_rounded_25 (by decide) ?_
    refine lv_icmp_ge (tgt := 36) hx hb dX8_rounded_28 (by decide) (fun c5 => ?_) (fun c5 => ?_)
    · have h := h.1 c5
      exact L36 y1 y3 y4 z0 x4 () _ _ _ hP hD hS (lv_sub hl [2, 3, 4, 1, 0] rfl) h
    · have h := h.2 c5
      refine lv_sipush (v := -149) hx hb dX8_rounded_31 (by decide) ?_
      refine lv_istore (lv' := [(6, .int (-149)), (5, .int z0), (1, .long y1), (3, .int y3), (4, .int y4)]) hx hb dX8_rounded_34 hl (by decide) rfl (fun ls hl => ?_)
      exact L36 y1 y3 y4 z0 (-149) () _ _ _ hP hD hS (lv_sub hl [2, 3, 4, 1, 0] rfl) h
  have hl := lv_entry ([.int p0, .long p1, .int p2, .int p3]) (n := 14) (Nat.le_of_ble_eq_true rfl)
  rw [lg_entry_eq]
  generalize (lg_sl ([.int p0, .long p1, .int p2, .int p3]) ++ List.replicate (14 - (lg_sl ([.int p0, .long p1, .int p2, .int p3])).length) Slot.unset).toArray = ls at hl ⊢
  have hl : lv_has ls 14 [(0, .int p0), (1, .long p1), (3, .int p2), (4, .int p3)] := hl
  unfold wp_X8_rounded at h
  refine lv_iload_n hx hb dX8_rounded_0 rfl (lv_at hl 0 rfl) ?_
  refine lv_if_eq (tgt := 9) hx hb dX8_rounded_1 (by decide) (fun c1 => ?_) (fun c1 => ?_)
  · have h := h.1 c1
    refine lv_iconst (v := 0) hx hb dX8_rounded_9 (by decide) ?_
    exact L10 p1 p2 p3 0 () _ _ _ hP hD hS (lv_sub hl [1, 2, 3] rfl) h
  · have h := h.2 c1
    refine lv_ldc hx hb hown (hts _ q_1306) dX8_rounded_4 ?_
    refine lv_goto (tgt := 10) hx hb dX8_rounded_6 (by decide) ?_
    exact L10 p1 p2 p3 (-2147483648) () _ _ _ hP hD hS (lv_sub hl [1, 2, 3] rfl) h
/-! X8_product -/
abbrev rmX8_product : Room := { frames := 2, cells := 0, slots := 0, locals := 57 }
set_option maxHeartbeats 4000000 in
set_option maxRecDepth 100000 in
theorem c_X8_product (l : Launch) (D : va_G) (cI cZ : ClassId) (sz : Nat) (S : Unit) (p0 : Int32) (p1 : Int32) (Q : Int32 → Unit → Prop) (h : wp_X8_product S p0 p1 Q) : Met l yX8_product (wsm yX8_product cX8_product 5 (some .int)) rmX8_product (va_Pc [.int p0, .int p1] (preW D cI cZ sz (w0_ cI cZ S))) (va_Qi Q (fun u => atW D cI cZ (va_A (w0_ cI cZ S) sz) (w0_ cI cZ u)) (va_A (w0_ cI cZ S) sz)) 0 0 (va_A (w0_ cI cZ S) sz) := by
  refine Met.ofW (cc := cX8_product) (maxL := 5) (ret := (some .int)) (by decide) rfl ?_
  intro p e s m args below meth c s₁ B hml hv
  obtain ⟨rfl, hsz, hP, hK, hD0⟩ := hv
  have hx := B.exec
  have hb := B.bytes
  have hr := B.returns
  have hts0 := atoms_spec (ws := wsm yX8_product cX8_product 5 (some .int)) B.pre
  have hts : ∀ w ∈ lw_all, w.before _ s = true := fun w h => hts0 w (List.mem_cons_of_mem _ h)
  have hown : s.vm.findClass RX8 = some m.cls := findClass_of_methodNamed B.named
  have hlocks := B.notSynchronized
  subst hsz
  have hD := hD0.self (sz := s.heap.size)
  generalize hAe : va_A (w0_ cI cZ S) s.heap.size = A at hD ⊢
  have hA : ∀ q : Nat, s.heap.size ≤ q → A q := fun q h => by rw [← hAe]; exact Or.inr h
  have hS : va_S A s.heap s.heap [] := va_S.rf
  have hml2 := hml
  have hl := lv_entry ([.int p0, .int p1]) (n := 5) (Nat.le_of_ble_eq_true rfl)
  rw [lg_entry_eq]
  generalize (lg_sl ([.int p0, .int p1]) ++ List.replicate (5 - (lg_sl ([.int p0, .int p1])).length) Slot.unset).toArray = ls at hl ⊢
  have hl : lv_has ls 5 [(0, .int p0), (1, .int p1)] := hl
  unfold wp_X8_product at h
  refine lv_iload_n hx hb dX8_product_0 rfl (lv_at hl 0 rfl) ?_
  refine lv_iload_n hx hb dX8_product_1 rfl (lv_at hl 1 rfl) ?_
  refine lv_ixor hx hb dX8_product_2 ?_
  refine lv_if_ge (tgt := 10) hx hb dX8_product_3 (by decide) (fun c1 => ?_) (fun c1 => ?_)
  · have h := h.1 c1
    refine lv_iconst (v := 0) hx hb dX8_product_10 (by decide) ?_
    refine lv_istore_n (lv' := [(2, .int 0), (0, .int p0), (1, .int p1)]) hx hb dX8_product_11 rfl hl (by decide) rfl (fun ls hl => ?_)
    refine lv_iload_n hx hb dX8_product_12 rfl (lv_at hl 1 rfl) ?_
    refine cl_l (ws' := fun u2 => (w0_ cI cZ ())) (va_runS (As := [.int p0]) (rest := []) ⟨hx, hb, hml, hown, hts⟩ (c_X8_fraction l D cI cZ _ () p0 _ h ) (va_cwS 1 hts (gS q_1301 q_1302 q_75 q_1303) rfl rfl rfl (by decide +kernel) ⟨Nat.le_of_ble_eq_true rfl, Nat.le_of_ble_eq_true rfl⟩) (preS_of hK hP hD [] rfl rfl (by decide)) rfl rfl hl.1 rfl (lv_room (Nat.le_of_ble_eq_true rfl)) dX8_product_13 ⟨Nat.zero_le _, Nat.zero_le _⟩) hP hD hS hA [] [] rfl (by decide) (fun _ => rfl) (fun _ => rfl) (fun r3 u2 H locs h hP hD hS => ?_)
    refine lv_iload_n hx hb dX8_product_16 rfl (lv_at hl 2 rfl) ?_
    refine cl_l (ws' := fun u4 => (w0_ cI cZ ())) (va_runS (As := [.int p1]) (rest := [.long r3]) ⟨hx, hb, hml, hown, hts⟩ (c_X8_fraction l D cI cZ _ () p1 _ h ) (va_cwS 1 hts (gS q_1301 q_1302 q_75 q_1303) rfl rfl rfl (by decide +kernel) ⟨Nat.le_of_ble_eq_true rfl, Nat.le_of_ble_eq_true rfl⟩) (preS_of hK hP hD [] rfl rfl (by decide)) rfl rfl hl.1 rfl (lv_room (Nat.le_of_ble_eq_true rfl)) dX8_product_17 ⟨Nat.zero_le _, Nat.zero_le _⟩) hP hD hS hA [] [] rfl (by decide) (fun _ => rfl) (fun _ => rfl) (fun r5 u4 H locs h hP hD hS => ?_)
    refine lv_lmul hx hb dX8_product_20 ?_
    refine lv_topl (fun x6 ex6 => ?_)
    have h := h x6 ex6
    refine lv_lstore_n (lv' := [(3, .long x6), (2, .int 0), (0, .int p0), (1, .int p1)]) hx hb dX8_product_21 rfl hl (by decide) rfl (fun ls hl => ?_)
    refine lv_lload_n hx hb dX8_product_22 rfl (lv_at hl 0 rfl) ?_
    refine lv_lconst (v := 0) hx hb dX8_product_23 (by decide) ?_
    refine W.lcmp hx hb dX8_product_24 ?_
    refine lv_if_ne (tgt := 39) hx hb dX8_product_25 (by decide) (fun c7 => ?_) (fun c7 => ?_)
    · have h := h.1 c7
      refine lv_iload_n hx hb dX8_product_39 rfl (lv_at hl 1 rfl) ?_
      refine lv_lload_n hx hb dX8_product_40 rfl (lv_at hl 0 rfl) ?_
      refine lv_iload_n hx hb dX8_product_41 rfl (lv_at hl 2 rfl) ?_
      refine cl_i (ws' := fun u8 => (w0_ cI cZ ())) (va_runS (As := [.int p0]) (rest := [.long x6, .int 0]) ⟨hx, hb, hml, hown, hts⟩ (c_X8_place l D cI cZ _ () p0 _ h ) (va_cwS 1 hts (gS q_1307 q_1308 q_75 q_1309) rfl rfl rfl (by decide +kernel) ⟨Nat.le_of_ble_eq_true rfl, Nat.le_of_ble_eq_true rfl⟩) (preS_of hK hP hD [] rfl rfl (by decide)) rfl rfl hl.1 rfl (lv_room (Nat.le_of_ble_eq_true rfl)) dX8_product_42 ⟨Nat.zero_le _, Nat.zero_le _⟩) hP hD hS hA [] [] rfl (by decide) (fun _ => rfl) (fun _ => rfl) (fun r9 u8 H locs h hP hD hS => ?_)
      refine lv_iload_n hx hb dX8_product_45 rfl (lv_at hl 3 rfl) ?_
      refine cl_i (ws' := fun u10 => (w0_ cI cZ ())) (va_runS (As := [.int p1]) (rest := [.int r9, .long x6, .int 0]) ⟨hx, hb, hml, hown, hts⟩ (c_X8_place l D cI cZ _ () p1 _ h ) (va_cwS 1 hts (gS q_1307 q_1308 q_75 q_1309) rfl rfl rfl (by decide +kernel) ⟨Nat.le_of_ble_eq_true rfl, Nat.le_of_ble_eq_true rfl⟩) (preS_of hK hP hD [] rfl rfl (by decide)) rfl rfl hl.1 rfl (lv_room (Nat.le_of_ble_eq_true rfl)) dX8_product_46 ⟨Nat.zero_le _, Nat.zero_le _⟩) hP hD hS hA [] [] rfl (by decide) (fun _ => rfl) (fun _ => rfl) (fun r11 u10 H locs h hP hD hS => ?_)
      refine lv_iadd hx hb dX8_product_49 ?_
      refine lv_iconst (v := 0) hx hb dX8_product_50 (by decide) ?_
      refine cl_i (ws' := fun u12 => (w0_ cI cZ ())) (va_runS (As := [.int 0, .long x6, .int (r9 + r11), .int 0]) (rest := []) ⟨hx, hb, hml, hown, hts⟩ (c_X8_rounded l D cI cZ _ () 0 x6 (r9 + r11) 0 _ h ) (va_cwS 4 hts (gS q_1310 q_1311 q_75 q_1312) rfl rfl rfl (by decide +kernel) ⟨Nat.le_of_ble_eq_true rfl, Nat.le_of_ble_eq_true rfl⟩) (preS_of hK hP hD [] rfl rfl (by decide)) rfl rfl hl.1 rfl (lv_room (Nat.le_of_ble_eq_true rfl)) dX8_product_51 ⟨Nat.zero_le _, Nat.zero_le _⟩) hP hD hS hA [] [] rfl (by decide) (fun _ => rfl) (fun _ => rfl) (fun r13 u12 H locs h hP hD hS => ?_)
      exact W.iret (v := r13) hx hb hr (fun t ht hW => ⟨⟨r13, (), rfl, h, by rw [ht]; exact hP, va_K.moved hW.alike hK, hD⟩, hS.F ht⟩) hS.2.2 dX8_product_54
    · have h := h.2 c7
      refine lv_iload_n hx hb dX8_product_28 rfl (lv_at hl 1 rfl) ?_
      refine lv_if_eq (tgt := 37) hx hb dX8_product_29 (by decide) (fun c14 => ?_) (fun c14 => ?_)
      · have h := h.1 c14
        refine lv_iconst (v := 0) hx hb dX8_product_37 (by decide) ?_
        exact W.iret (v := 0) hx hb hr (fun t ht hW => ⟨⟨0, (), rfl, h, by rw [ht]; exact hP, va_K.moved hW.alike hK, hD⟩, hS.F ht⟩) hS.2.2 dX8_product_38
      · have h := h.2 c14
        refine lv_ldc hx hb hown (hts _ q_1306) dX8_product_32 ?_
        refine lv_goto (tgt := 38) hx hb dX8_product_34 (by decide) ?_
        exact W.iret (v := (-2147483648)) hx hb hr (fun t ht hW => ⟨⟨(-2147483648), (), rfl, h, by rw [ht]; exact hP, va_K.moved hW.alike hK, hD⟩, hS.F ht⟩) hS.2.2 dX8_product_38
  · have h := h.2 c1
    refine lv_iconst (v := 1) hx hb dX8_product_6 (by decide) ?_
    refine lv_goto (tgt := 11) hx hb dX8_product_7 (by decide) ?_
    refine lv_istore_n (lv' := [(2, .int 1), (0, .int p0), (1, .int p1)]) hx hb dX8_product_11 rfl hl (by decide) rfl (fun ls hl => ?_)
    refine lv_iload_n hx hb dX8_product_12 rfl (lv_at hl 1 rfl) ?_
    refine cl_l (ws' := fun u15 => (w0_ cI cZ ())) (va_runS (As := [.int p0]) (rest := []) ⟨hx, hb, hml, hown, hts⟩ (c_X8_fraction l D cI cZ _ () p0 _ h ) (va_cwS 1 hts (gS q_1301 q_1302 q_75 q_1303) rfl rfl rfl (by decide +kernel) ⟨Nat.le_of_ble_eq_true rfl, Nat.le_of_ble_eq_true rfl⟩) (preS_of hK hP hD [] rfl rfl (by decide)) rfl rfl hl.1 rfl (lv_room (Nat.le_of_ble_eq_true rfl)) dX8_product_13 ⟨Nat.zero_le _, Nat.zero_le _⟩) hP hD hS hA [] [] rfl (by decide) (fun _ => rfl) (fun _ => rfl) (fun r16 u15 H locs h hP hD hS => ?_)
    refine lv_iload_n hx hb dX8_product_16 rfl (lv_at hl 2 rfl) ?_
    refine cl_l (ws' := fun u17 => (w0_ cI cZ ())) (va_runS (As := [.int p1]) (rest := [.long r16]) ⟨hx, hb, hml, hown, hts⟩ (c_X8_fraction l D cI cZ _ () p1 _ h ) (va_cwS 1 hts (gS q_1301 q_1302 q_75 q_1303) rfl rfl rfl (by decide +kernel) ⟨Nat.le_of_ble_eq_true rfl, Nat.le_of_ble_eq_true rfl⟩) (preS_of hK hP hD [] rfl rfl (by decide)) rfl rfl hl.1 rfl (lv_room (Nat.le_of_ble_eq_true rfl)) dX8_product_17 ⟨Nat.zero_le _, Nat.zero_le _⟩) hP hD hS hA [] [] rfl (by decide) (fun _ => rfl) (fun _ => rfl) (fun r18 u17 H locs h hP hD hS => ?_)
    refine lv_lmul hx hb dX8_product_20 ?_
    refine lv_topl (fun x19 ex19 => ?_)
    have h := h x19 ex19
    refine lv_lstore_n (lv' := [(3, .long x19), (2, .int 1), (0, .int p0), (1, .int p1)]) hx hb dX8_product_21 rfl hl (by decide) rfl (fun ls hl => ?_)
    refine lv_lload_n hx hb dX8_product_22 rfl (lv_at hl 0 rfl) ?_
    refine lv_lconst (v := 0) hx hb dX8_product_23 (by decide) ?_
    refine W.lcmp hx hb dX8_product_24 ?_
    refine lv_if_ne (tgt := 39) hx hb dX8_product_25 (by decide) (fun c20 => ?_) (fun c20 => ?_)
    · have h := h.1 c20
      refine lv_iload_n hx hb dX8_product_39 rfl (lv_at hl 1 rfl) ?_
      refine lv_lload_n hx hb dX8_product_40 rfl (lv_at hl 0 rfl) ?_
      refine lv_iload_n hx hb dX8_product_41 rfl (lv_at hl 2 rfl) ?_
      refine cl_i (ws' := fun u21 => (w0_ cI cZ ())) (va_runS (As := [.int p0]) (rest := [.long x19, .int 1]) ⟨hx, hb, hml, hown, hts⟩ (c_X8_place l D cI cZ _ () p0 _ h ) (va_cwS 1 hts (gS q_1307 q_1308 q_75 q_1309) rfl rfl rfl (by decide +kernel) ⟨Nat.le_of_ble_eq_true rfl, Nat.le_of_ble_eq_true rfl⟩) (preS_of hK hP hD [] rfl rfl (by decide)) rfl rfl hl.1 rfl (lv_room (Nat.le_of_ble_eq_true rfl)) dX8_product_42 ⟨Nat.zero_le _, Nat.zero_le _⟩) hP hD hS hA [] [] rfl (by decide) (fun _ => rfl) (fun _ => rfl) (fun r22 u21 H locs h hP hD hS => ?_)
      refine lv_iload_n hx hb dX8_product_45 rfl (lv_at hl 3 rfl) ?_
      refine cl_i (ws' := fun u23 => (w0_ cI cZ ())) (va_runS (As := [.int p1]) (rest := [.int r22, .long x19, .int 1]) ⟨hx, hb, hml, hown, hts⟩ (c_X8_place l D cI cZ _ () p1 _ h ) (va_cwS 1 hts (gS q_1307 q_1308 q_75 q_1309) rfl rfl rfl (by decide +kernel) ⟨Nat.le_of_ble_eq_true rfl, Nat.le_of_ble_eq_true rfl⟩) (preS_of hK hP hD [] rfl rfl (by decide)) rfl rfl hl.1 rfl (lv_room (Nat.le_of_ble_eq_true rfl)) dX8_product_46 ⟨Nat.zero_le _, Nat.zero_le _⟩) hP hD hS hA [] [] rfl (by decide) (fun _ => rfl) (fun _ => rfl) (fun r24 u23 H locs h hP hD hS => ?_)
      refine lv_iadd hx hb dX8_product_49 ?_
      refine lv_iconst (v := 0) hx hb dX8_product_50 (by decide) ?_
      refine cl_i (ws' := fun u25 => (w0_ cI cZ ())) (va_runS (As := [.int 1, .long x19, .int (r22 + r24), .int 0]) (rest := []) ⟨hx, hb, hml, hown, hts⟩ (c_X8_rounded l D cI cZ _ () 1 x19 (r22 + r24) 0 _ h ) (va_cwS 4 hts (gS q_1310 q_1311 q_75 q_1312) rfl rfl rfl (by decide +kernel) ⟨Nat.le_of_ble_eq_true rfl, Nat.le_of_ble_eq_true rfl⟩) (preS_of hK hP hD [] rfl rfl (by decide)) rfl rfl hl.1 rfl (lv_room (Nat.le_of_ble_eq_true rfl)) dX8_product_51 ⟨Nat.zero_le _, Nat.zero_le _⟩) hP hD hS hA [] [] rfl (by decide) (fun _ => rfl) (fun _ => rfl) (fun r26 u25 H locs h hP hD hS => ?_)
      exact W.iret (v := r26) hx hb hr (fun t ht hW => ⟨⟨r26, (), rfl, h, by rw [ht]; exact hP, va_K.moved hW.alike hK, hD⟩, hS.F ht⟩) hS.2.2 dX8_product_54
    · have h := h.2 c20
      refine lv_iload_n hx hb dX8_product_28 rfl (lv_at hl 1 rfl) ?_
      refine lv_if_eq (tgt := 37) hx hb dX8_product_29 (by decide) (fun c27 => ?_) (fun c27 => ?_)
      · have h := h.1 c27
        refine lv_iconst (v := 0) hx hb dX8_product_37 (by decide) ?_
        exact W.iret (v := 0) hx hb hr (fun t ht hW => ⟨⟨0, (), rfl, h, by rw [ht]; exact hP, va_K.moved hW.alike hK, hD⟩, hS.F ht⟩) hS.2.2 dX8_product_38
      · have h := h.2 c27
        refine lv_ldc hx hb hown (hts _ q_1306) dX8_product_32 ?_
        refine lv_goto (tgt := 38) hx hb dX8_product_34 (by decide) ?_
        exact W.iret (v := (-2147483648)) hx hb hr (fun t ht hW => ⟨⟨(-2147483648), (), rfl, h, by rw [ht]; exact hP, va_K.moved hW.alike hK, hD⟩, hS.F ht⟩) hS.2.2 dX8_product_38
/-! X8_sum -/
abbrev rmX8_sum : Room := { frames := 2, cells := 0, slots := 0, locals := 57 }
set_option maxHeartbeats 4000000 in
set_option maxRecDepth 100000 in
theorem c_X8_sum (l : Launch) (D : va_G) (cI cZ : ClassId) (sz : Nat) (S : Unit) (p0 : Int32) (p1 : Int32) (Q : Int32 → Unit → Prop) (h : wp_X8_sum S p0 p1 Q) : Met l yX8_sum (wsm yX8_sum cX8_sum 13 (some .int)) rmX8_sum (va_Pc [.int p0, .int p1] (preW D cI cZ sz (w0_ cI cZ S))) (va_Qi Q (fun u => atW D cI cZ (va_A (w0_ cI cZ S) sz) (w0_ cI cZ u)) (va_A (w0_ cI cZ S) sz)) 0 0 (va_A (w0_ cI cZ S) sz) := by
  refine Met.ofW (cc := cX8_sum) (maxL := 13) (ret := (some .int)) (by decide) rfl ?_
  intro p e s m args below meth c s₁ B hml hv
  obtain ⟨rfl, hsz, hP, hK, hD0⟩ := hv
  have hx := B.exec
  have hb := B.bytes
  have hr := B.returns
  have hts0 := atoms_spec (ws := wsm yX8_sum cX8_sum 13 (some .int)) B.pre
  have hts : ∀ w ∈ lw_all, w.before _ s = true := fun w h => hts0 w (List.mem_cons_of_mem _ h)
  have hown : s.vm.findClass RX8 = some m.cls := findClass_of_methodNamed B.named
  have hlocks := B.notSynchronized
  subst hsz
  have hD := hD0.self (sz := s.heap.size)
  generalize hAe : va_A (w0_ cI cZ S) s.heap.size = A at hD ⊢
  have hA : ∀ q : Nat, s.heap.size ≤ q → A q := fun q h => by rw [← hAe]; exact Or.inr h
  have hS : va_S A s.heap s.heap [] := va_S.rf
  have hml2 := hml
  have L174 : ∀ (y3 : Int32) (y4 : Int32) (y6 : Int32) (y7 : Int64) (y9 : Int64) (y11 : Int32) (T : Unit) (H : Heap) (locs : List Loc) (ls : Array Slot), va_P D vwCl (w0_ cI cZ T) H → va_D A (w0_ cI cZ T) → va_S A s.heap H locs → lv_has ls 13 [(3, .int y3), (4, .int y4), (6, .int y6), (7, .long y7), (9, .long y9), (11, .int y11)] → wp_X8_sum_L174 Q y3 y4 y6 y7 y9 y11 T → W p l e rmX8_sum s m ([.int p0, .int p1] : List Value).toArray below meth c H locs 0 0 (MQ below (va_Qi Q (fun u => atW D cI cZ A (w0_ cI cZ u)) A) ([.int p0, .int p1] : List Value).toArray s 0 0 A) (F0 m 174 ls []) := by
    intro y3 y4 y6 y7 y9 y11 T H locs ls hP hD hS hl h
    unfold wp_X8_sum_L174 at h
    refine lv_iload_n hx hb dX8_sum_174 rfl (lv_at hl 0 rfl) ?_
    refine cl_i (ws' := fun u59 => (w0_ cI cZ ())) (va_runS (As := [.int y3]) (rest := []) ⟨hx, hb, hml, hown, hts⟩ (c_X8_place l D cI cZ _ () y3 _ h ) (va_cwS 1 hts (gS q_1307 q_1308 q_75 q_1309) rfl rfl rfl (by decide +kernel) ⟨Nat.le_of_ble_eq_true rfl, Nat.le_of_ble_eq_true rfl⟩) (preS_of hK hP hD [] rfl rfl (by decide)) rfl rfl hl.1 rfl (lv_room (Nat.le_of_ble_eq_true rfl)) dX8_sum_175 ⟨Nat.zero_le _, Nat.zero_le _⟩) hP hD hS hA [] [] rfl (by decide) (fun _ => rfl) (fun _ => rfl) (fun r60 u59 H locs h hP hD hS => ?_)
    refine lv_iload hx hb dX8_sum_178 (lv_at hl 2 rfl) ?_
    refine lv_isub hx hb dX8_sum_180 ?_
    refine lv_topi (fun x61 ex61 => ?_)
    have h := h x61 ex61
    refine lv_istore (lv' := [(12, .int x61), (3, .int y3), (4, .int y4), (6, .int y6), (7, .long y7), (9, .long y9), (11, .int y11)]) hx hb dX8_sum_181 hl (by decide) rfl (fun ls hl => ?_)
    refine lv_iload_n hx hb dX8_sum_183 rfl (lv_at hl 1 rfl) ?_
    refine lv_iload hx hb dX8_sum_184 (lv_at hl 2 rfl) ?_
    refine lv_ixor hx hb dX8_sum_186 ?_
    refine lv_if_lt (tgt := 212) hx hb dX8_sum_187 (by decide) (fun c62 => ?_) (fun c62 => ?_)
    · have h := h.1 c62
      refine lv_iload hx hb dX8_sum_212 (lv_at hl 6 rfl) ?_
      refine lv_if_eq (tgt := 240) hx hb dX8_sum_214 (by decide) (fun c63 => ?_) (fun c63 => ?_)
      · have h := h.1 c63
        refine lv_lload hx hb dX8_sum_240 (lv_at hl 4 rfl) ?_
        refine lv_lload hx hb dX8_sum_242 (lv_at hl 5 rfl) ?_
        refine W.lcmp hx hb dX8_sum_244 ?_
        refine lv_if_ne (tgt := 250) hx hb dX8_sum_245 (by decide) (fun c64 => ?_) (fun c64 => ?_)
        · have h := h.1 c64
          refine lv_lload hx hb dX8_sum_250 (lv_at hl 4 rfl) ?_
          refine lv_lload hx hb dX8_sum_252 (lv_at hl 5 rfl) ?_
          refine W.lcmp hx hb dX8_sum_254 ?_
          refine lv_if_le (tgt := 281) hx hb dX8_sum_255 (by decide) (fun c65 => ?_) (fun c65 => ?_)
          · have h := h.1 c65
            refine lv_iload hx hb dX8_sum_281 (lv_at hl 2 rfl) ?_
            refine lv_if_ge (tgt := 290) hx hb dX8_sum_283 (by decide) (fun c66 => ?_) (fun c66 => ?_)
            · have h := h.1 c66
              refine lv_iconst (v := 0) hx hb dX8_sum_290 (by decide) ?_
              refine lv_lload hx hb dX8_sum_291 (lv_at hl 5 rfl) ?_
              refine lv_lload hx hb dX8_sum_293 (lv_at hl 4 rfl) ?_
              refine lv_lsub hx hb dX8_sum_295 ?_
              refine lv_iload hx hb dX8_sum_296 (lv_at hl 0 rfl) ?_
              refine lv_iconst (v := 0) hx hb dX8_sum_298 (by decide) ?_
              refine cl_i (ws' := fun u67 => (w0_ cI cZ ())) (va_runS (As := [.int 0, .long (y9 - y7), .int x61, .int 0]) (rest := []) ⟨hx, hb, hml, hown, hts⟩ (c_X8_rounded l D cI cZ _ () 0 (y9 - y7) x61 0 _ h ) (va_cwS 4 hts (gS q_1310 q_1311 q_75 q_1312) rfl rfl rfl (by decide +kernel) ⟨Nat.le_of_ble_eq_true rfl, Nat.le_of_ble_eq_true rfl⟩) (preS_of hK hP hD [] rfl rfl (by decide)) rfl rfl hl.1 rfl (lv_room (Nat.le_of_ble_eq_true rfl)) dX8_sum_299 ⟨Nat.zero_le _, Nat.zero_le _⟩) hP hD hS hA [] [] rfl (by decide) (fun _ => rfl) (fun _ => rfl) (fun r68 u67 H locs h hP hD hS => ?_)
              exact W.iret (v := r68) hx hb hr (fun t ht hW => ⟨⟨r68, (), rfl, h, by rw [ht]; exact hP, va_K.moved hW.alike hK, hD⟩, hS.F ht⟩) hS.2.2 dX8_sum_302
            · have h := h.2 c66
              refine lv_iconst (v := 1) hx hb dX8_sum_286 (by decide) ?_
              refine lv_goto (tgt := 291) hx hb dX8_sum_287 (by decide) ?_
              refine lv_lload hx hb dX8_sum_291 (lv_at hl 5 rfl) ?_
              refine lv_lload hx hb dX8_sum_293 (lv_at hl 4 rfl) ?_
              refine lv_lsub hx hb dX8_sum_295 ?_
              refine lv_iload hx hb dX8_sum_296 (lv_at hl 0 rfl) ?_
              refine lv_iconst (v := 0) hx hb dX8_sum_298 (by decide) ?_
              refine cl_i (ws' := fun u69 => (w0_ cI cZ ())) (va_runS (As := [.int 1, .long (y9 - y7), .int x61, .int 0]) (rest := []) ⟨hx, hb, hml, hown, hts⟩ (c_X8_rounded l D cI cZ _ () 1 (y9 - y7) x61 0 _ h ) (va_cwS 4 hts (gS q_1310 q_1311 q_75 q_1312) rfl rfl rfl (by decide +kernel) ⟨Nat.le_of_ble_eq_true rfl, Nat.le_of_ble_eq_true rfl⟩) (preS_of hK hP hD [] rfl rfl (by decide)) rfl rfl hl.1 rfl (lv_room (Nat.le_of_ble_eq_true rfl)) dX8_sum_299 ⟨Nat.zero_le _, Nat.zero_le _⟩) hP hD hS hA [] [] rfl (by decide) (fun _ => rfl) (fun _ => rfl) (fun r70 u69 H locs h hP hD hS => ?_)
              exact W.iret (v := r70) hx hb hr (fun t ht hW => ⟨⟨r70, (), rfl, h, by rw [ht]; exact hP, va_K.moved hW.alike hK, hD⟩, hS.F ht⟩) hS.2.2 dX8_sum_302
          · have h := h.2 c65
            refine lv_iload_n hx hb dX8_sum_258 rfl (lv_at hl 1 rfl) ?_
            refine lv_if_ge (tgt := 266) hx hb dX8_sum_259 (by decide) (fun c71 => ?_) (fun c71 => ?_)
            · have h := h.1 c71
              refine lv_iconst (v := 0) hx hb dX8_sum_266 (by decide) ?_
              refine lv_lload hx hb dX8_sum_267 (lv_at hl 4 rfl) ?_
              refine lv_lload hx hb dX8_sum_269 (lv_at hl 5 rfl) ?_
              refine lv_lsub hx hb dX8_sum_271 ?_
              refine lv_iload hx hb dX8_sum_272 (lv_at hl 0 rfl) ?_
              refine lv_iconst (v := 0) hx hb dX8_sum_274 (by decide) ?_
              refine cl_i (ws' := fun u72 => (w0_ cI cZ ())) (va_runS (As := [.int 0, .long (y7 - y9), .int x61, .int 0]) (rest := []) ⟨hx, hb, hml, hown, hts⟩ (c_X8_rounded l D cI cZ _ () 0 (y7 - y9) x61 0 _ h ) (va_cwS 4 hts (gS q_1310 q_1311 q_75 q_1312) rfl rfl rfl (by decide +kernel) ⟨Nat.le_of_ble_eq_true rfl, Nat.le_of_ble_eq_true rfl⟩) (preS_of hK hP hD [] rfl rfl (by decide)) rfl rfl hl.1 rfl (lv_room (Nat.le_of_ble_eq_true rfl)) dX8_sum_275 ⟨Nat.zero_le _, Nat.zero_le _⟩) hP hD hS hA [] [] rfl (by decide) (fun _ => rfl) (fun _ => rfl) (fun r73 u72 H locs h hP hD hS => ?_)
              refine lv_goto (tgt := 302) hx hb dX8_sum_278 (by decide) ?_
              exact W.iret (v := r73) hx hb hr (fun t ht hW => ⟨⟨r73, (), rfl, h, by rw [ht]; exact hP, va_K.moved hW.alike hK, hD⟩, hS.F ht⟩) hS.2.2 dX8_sum_302
            · have h := h.2 c71
              refine lv_iconst (v := 1) hx hb dX8_sum_262 (by decide) ?_
              refine lv_goto (tgt := 267) hx hb dX8_sum_263 (by decide) ?_
              refine lv_lload hx hb dX8_sum_267 (lv_at hl 4 rfl) ?_
              refine lv_lload hx hb dX8_sum_269 (lv_at hl 5 rfl) ?_
              refine lv_lsub hx hb dX8_sum_271 ?_
              refine lv_iload hx hb dX8_sum_272 (lv_at hl 0 rfl) ?_
              refine lv_iconst (v := 0) hx hb dX8_sum_274 (by decide) ?_
              refine cl_i (ws' := fun u74 => (w0_ cI cZ ())) (va_runS (As := [.int 1, .long (y7 - y9), .int x61, .int 0]) (rest := []) ⟨hx, hb, hml, hown, hts⟩ (c_X8_rounded l D cI cZ _ () 1 (y7 - y9) x61 0 _ h ) (va_cwS 4 hts (gS q_1310 q_1311 q_75 q_1312) rfl rfl rfl (by decide +kernel) ⟨Nat.le_of_ble_eq_true rfl, Nat.le_of_ble_eq_true rfl⟩) (preS_of hK hP hD [] rfl rfl (by decide)) rfl rfl hl.1 rfl (lv_room (Nat.le_of_ble_eq_true rfl)) dX8_sum_275 ⟨Nat.zero_le _, Nat.zero_le _⟩) hP hD hS hA [] [] rfl (by decide) (fun _ => rfl) (fun _ => rfl) (fun r75 u74 H locs h hP hD hS => ?_)
              refine lv_goto (tgt := 302) hx hb dX8_sum_278 (by decide) ?_
              exact W.iret (v := r75) hx hb hr (fun t ht hW => ⟨⟨r75, (), rfl, h, by rw [ht]; exact hP, va_K.moved hW.alike hK, hD⟩, hS.F ht⟩) hS.2.2 dX8_sum_302
        · have h := h.2 c64
          refine lv_iconst (v := 0) hx hb dX8_sum_248 (by decide) ?_
          exact W.iret (v := 0) hx hb hr (fun t ht hW => ⟨⟨0, (), rfl, h, by rw [ht]; exact hP, va_K.moved hW.alike hK, hD⟩, hS.F ht⟩) hS.2.2 dX8_sum_249
      · have h := h.2 c63
        refine lv_iload_n hx hb dX8_sum_217 rfl (lv_at hl 1 rfl) ?_
        refine lv_if_ge (tgt := 225) hx hb dX8_sum_218 (by decide) (fun c76 => ?_) (fun c76 => ?_)
        · have h := h.1 c76
          refine lv_iconst (v := 0) hx hb dX8_sum_225 (by decide) ?_
          refine lv_lload hx hb dX8_sum_226 (lv_at hl 4 rfl) ?_
          refine lv_lload hx hb dX8_sum_228 (lv_at hl 5 rfl) ?_
          refine lv_lsub hx hb dX8_sum_230 ?_
          refine lv_lconst (v := 1) hx hb dX8_sum_231 (by decide) ?_
          refine lv_lsub hx hb dX8_sum_232 ?_
          refine lv_iload hx hb dX8_sum_233 (lv_at hl 0 rfl) ?_
          refine lv_iconst (v := 1) hx hb dX8_sum_235 (by decide) ?_
          refine cl_i (ws' := fun u77 => (w0_ cI cZ ())) (va_runS (As := [.int 0, .long ((y7 - y9) - 1), .int x61, .int 1]) (rest := []) ⟨hx, hb, hml, hown, hts⟩ (c_X8_rounded l D cI cZ _ () 0 ((y7 - y9) - 1) x61 1 _ h ) (va_cwS 4 hts (gS q_1310 q_1311 q_75 q_1312) rfl rfl rfl (by decide +kernel) ⟨Nat.le_of_ble_eq_true rfl, Nat.le_of_ble_eq_true rfl⟩) (preS_of hK hP hD [] rfl rfl (by decide)) rfl rfl hl.1 rfl (lv_room (Nat.le_of_ble_eq_true rfl)) dX8_sum_236 ⟨Nat.zero_le _, Nat.zero_le _⟩) hP hD hS hA [] [] rfl (by decide) (fun _ => rfl) (fun _ => rfl) (fun r78 u77 H locs h hP hD hS => ?_)
          exact W.iret (v := r78) hx hb hr (fun t ht hW => ⟨⟨r78, (), rfl, h, by rw [ht]; exact hP, va_K.moved hW.alike hK, hD⟩, hS.F ht⟩) hS.2.2 dX8_sum_239
        · have h := h.2 c76
          refine lv_iconst (v := 1) hx hb dX8_sum_221 (by decide) ?_
          refine lv_goto (tgt := 226) hx hb dX8_sum_222 (by decide) ?_
          refine lv_lload hx hb dX8_sum_226 (lv_at hl 4 rfl) ?_
          refine lv_lload hx hb dX8_sum_228 (lv_at hl 5 rfl) ?_
          refine lv_lsub hx hb dX8_sum_230 ?_
          refine lv_lconst (v := 1) hx hb dX8_sum_231 (by decide) ?_
          refine lv_lsub hx hb dX8_sum_232 ?_
          refine lv_iload hx hb dX8_sum_233 (lv_at hl 0 rfl) ?_
          refine lv_iconst (v := 1) hx hb dX8_sum_235 (by decide) ?_
          refine cl_i (ws' := fun u79 => (w0_ cI cZ ())) (va_runS (As := [.int 1, .long ((y7 - y9) - 1), .int x61, .int 1]) (rest := []) ⟨hx, hb, hml, hown, hts⟩ (c_X8_rounded l D cI cZ _ () 1 ((y7 - y9) - 1) x61 1 _ h ) (va_cwS 4 hts (gS q_1310 q_1311 q_75 q_1312) rfl rfl rfl (by decide +kernel) ⟨Nat.le_of_ble_eq_true rfl, Nat.le_of_ble_eq_true rfl⟩) (preS_of hK hP hD [] rfl rfl (by decide)) rfl rfl hl.1 rfl (lv_room (Nat.le_of_ble_eq_true rfl)) dX8_sum_236 ⟨Nat.zero_le _, Nat.zero_le _⟩) hP hD hS hA [] [] rfl (by decide) (fun _ => rfl) (fun _ => rfl) (fun r80 u79 H locs h hP hD hS => ?_)
          exact W.iret (v := r80) hx hb hr (fun t ht hW => ⟨⟨r80, (), rfl, h, by rw [ht]; exact hP, va_K.moved hW.alike hK, hD⟩, hS.F ht⟩) hS.2.2 dX8_sum_239
    · have h := h.2 c62
      refine lv_iload_n hx hb dX8_sum_190 rfl (lv_at hl 1 rfl) ?_
      refine lv_if_ge (tgt := 198) hx hb dX8_sum_191 (by decide) (fun c81 => ?_) (fun c81 => ?_)
      · have h := h.1 c81
        refine lv_iconst (v := 0) hx hb dX8_sum_198 (by decide) ?_
        refine lv_lload hx hb dX8_sum_199 (lv_at hl 4 rfl) ?_
        refine lv_lload hx hb dX8_sum_201 (lv_at hl 5 rfl) ?_
        refine lv_ladd hx hb dX8_sum_203 ?_
        refine lv_iload hx hb dX8_sum_204 (lv_at hl 0 rfl) ?_
        refine lv_iload hx hb dX8_sum_206 (lv_at hl 6 rfl) ?_
        refine cl_i (ws' := fun u82 => (w0_ cI cZ ())) (va_runS (As := [.int 0, .long (y7 + y9), .int x61, .int y11]) (rest := []) ⟨hx, hb, hml, hown, hts⟩ (c_X8_rounded l D cI cZ _ () 0 (y7 + y9) x61 y11 _ h ) (va_cwS 4 hts (gS q_1310 q_1311 q_75 q_1312) rfl rfl rfl (by decide +kernel) ⟨Nat.le_of_ble_eq_true rfl, Nat.le_of_ble_eq_true rfl⟩) (preS_of hK hP hD [] rfl rfl (by decide)) rfl rfl hl.1 rfl (lv_room (Nat.le_of_ble_eq_true rfl)) dX8_sum_208 ⟨Nat.zero_le _, Nat.zero_le _⟩) hP hD hS hA [] [] rfl (by decide) (fun _ => rfl) (fun _ => rfl) (fun r83 u82 H locs h hP hD hS => ?_)
        exact W.iret (v := r83) hx hb hr (fun t ht hW => ⟨⟨r83, (), rfl, h, by rw [ht]; exact hP, va_K.moved hW.alike hK, hD⟩, hS.F ht⟩) hS.2.2 dX8_sum_211
      · have h := h.2 c81
        refine lv_iconst (v := 1) hx hb dX8_sum_194 (by decide) ?_
        refine lv_goto (tgt := 199) hx hb dX8_sum_195 (by decide) ?_
        refine lv_lload hx hb dX8_sum_199 (lv_at hl 4 rfl) ?_
        refine lv_lload hx hb dX8_sum_201 (lv_at hl 5 rfl) ?_
        refine lv_ladd hx hb dX8_sum_203 ?_
        refine lv_iload hx hb dX8_sum_204 (lv_at hl 0 rfl) ?_
        refine lv_iload hx hb dX8_sum_206 (lv_at hl 6 rfl) ?_
        refine cl_i (ws' := fun u84 => (w0_ cI cZ ())) (va_runS (As := [.int 1, .long (y7 + y9), .int x61, .int y11]) (rest := []) ⟨hx, hb, hml, hown, hts⟩ (c_X8_rounded l D cI cZ _ () 1 (y7 + y9) x61 y11 _ h ) (va_cwS 4 hts (gS q_1310 q_1311 q_75 q_1312) rfl rfl rfl (by decide +kernel) ⟨Nat.le_of_ble_eq_true rfl, Nat.le_of_ble_eq_true rfl⟩) (preS_of hK hP hD [] rfl rfl (by decide)) rfl rfl hl.1 rfl (lv_room (Nat.le_of_ble_eq_true rfl)) dX8_sum_208 ⟨Nat.zero_le _, Nat.zero_le _⟩) hP hD hS hA [] [] rfl (by decide) (fun _ => rfl) (fun _ => rfl) (fun r85 u84 H locs h hP hD hS => ?_)
        exact W.iret (v := r85) hx hb hr (fun t ht hW => ⟨⟨r85, (), rfl, h, by rw [ht]; exact hP, va_K.moved hW.alike hK, hD⟩, hS.F ht⟩) hS.2.2 dX8_sum_211
  have L136 : ∀ (n : Nat), ∀ (y3 : Int32) (y4 : Int32) (y5 : Int32) (y6 : Int32) (y7 : Int64) (y9 : Int64) (y11 : Int32) (y12 : Int32) (T : Unit) (H : Heap) (locs : List Loc) (ls : Array Slot), va_P D vwCl (w0_ cI cZ T) H → va_D A (w0_ cI cZ T) → va_S A s.heap H locs → lv_has ls 13 [(3, .int y3), (4, .int y4), (5, .int y5), (6, .int y6), (7, .long y7), (9, .long y9), (11, .int y11), (12, .int y12)] → wp_X8_sum_L136 Q n y3 y4 y5 y6 y7 y9 y11 y12 T → W p l e rmX8_sum s m ([.int p0, .int p1] : List Value).toArray below meth c H locs 0 0 (MQ below (va_Qi Q (fun u => atW D cI cZ A (w0_ cI cZ u)) A) ([.int p0, .int p1] : List Value).toArray s 0 0 A) (F0 m 136 ls []) := by
    intro n
    induction n with
    | zero =>
      intro y3 y4 y5 y6 y7 y9 y11 y12 T H locs ls hP hD hS hl h
      exact False.elim h
    | succ n ih =>
      intro y3 y4 y5 y6 y7 y9 y11 y12 T H locs ls hP hD hS hl h
      unfold wp_X8_sum_L136 at h
      refine lv_iload hx hb dX8_sum_136 (lv_at hl 7 rfl) ?_
      refine lv_iload hx hb dX8_sum_138 (lv_at hl 2 rfl) ?_
      refine lv_icmp_ge (tgt := 174) hx hb dX8_sum_140 (by decide) (fun c52 => ?_) (fun c52 => ?_)
      · have h := h.1 c52
        exact L174 y3 y4 y6 y7 y9 y11 () _ _ _ hP hD hS (lv_sub hl [0, 1, 3, 4, 5, 6] rfl) h
      · have h := h.2 c52
        refine lv_lload hx hb dX8_sum_143 (lv_at hl 5 rfl) ?_
        refine lv_lconst (v := 0) hx hb dX8_sum_145 (by decide) ?_
        refine W.lcmp hx hb dX8_sum_146 ?_
        refine lv_if_le (tgt := 174) hx hb dX8_sum_147 (by decide) (fun c53 => ?_) (fun c53 => ?_)
        · have h := h.1 c53
          exact L174 y3 y4 y6 y7 y9 y11 () _ _ _ hP hD hS (lv_sub hl [0, 1, 3, 4, 5, 6] rfl) h
        · have h := h.2 c53
          refine lv_lload hx hb dX8_sum_150 (lv_at hl 5 rfl) ?_
          refine lv_lconst (v := 1) hx hb dX8_sum_152 (by decide) ?_
          refine lv_land hx hb dX8_sum_153 ?_
          refine lv_lconst (v := 1) hx hb dX8_sum_154 (by decide) ?_
          refine W.lcmp hx hb dX8_sum_155 ?_
          refine lv_if_ne (tgt := 162) hx hb dX8_sum_156 (by decide) (fun c54 => ?_) (fun c54 => ?_)
          · have h := h.1 c54
            refine lv_lload hx hb dX8_sum_162 (lv_at hl 5 rfl) ?_
            refine lv_iconst (v := 1) hx hb dX8_sum_164 (by decide) ?_
            refine lv_lshr (v := (y9 >>> ((Int32.toInt64 1) &&& 63))) hx hb dX8_sum_165 rfl ?_
            refine lv_topl (fun x55 ex55 => ?_)
            have h := h x55 ex55
            refine lv_lstore (lv' := [(9, .long x55), (3, .int y3), (4, .int y4), (5, .int y5), (6, .int y6), (7, .long y7), (11, .int y11), (12, .int y12)]) hx hb dX8_sum_166 hl (by decide) rfl (fun ls hl => ?_)
            obtain ⟨x56, ex56⟩ : ∃ y : Int32, y = (y12 + 1) := ⟨_, rfl⟩
            have h := h x56 ex56
            refine lv_iinc (v := x56) (lv' := [(12, .int x56), (9, .long x55), (3, .int y3), (4, .int y4), (5, .int y5), (6, .int y6), (7, .long y7), (11, .int y11)]) hx hb dX8_sum_168 hl (k := 7) rfl (by rw [ex56]; rfl) (by decide) rfl (fun ls hl => ?_)
            refine lv_goto (tgt := 136) hx hb dX8_sum_171 (by decide) ?_
            exact ih y3 y4 y5 y6 y7 x55 y11 x56 () _ _ _ hP hD hS (lv_sub hl [2, 3, 4, 5, 6, 1, 7, 0] rfl) h
          · have h := h.2 c54
            refine lv_iconst (v := 1) hx hb dX8_sum_159 (by decide) ?_
            refine lv_istore (lv' := [(11, .int 1), (3, .int y3), (4, .int y4), (5, .int y5), (6, .int y6), (7, .long y7), (9, .long y9), (12, .int y12)]) hx hb dX8_sum_160 hl (by decide) rfl (fun ls hl => ?_)
            refine lv_lload hx hb dX8_sum_162 (lv_at hl 6 rfl) ?_
            refine lv_iconst (v := 1) hx hb dX8_sum_164 (by decide) ?_
            refine lv_lshr (v := (y9 >>> ((Int32.toInt64 1) &&& 63))) hx hb dX8_sum_165 rfl ?_
            refine lv_topl (fun x57 ex57 => ?_)
            have h := h x57 ex57
            refine lv_lstore (lv' := [(9, .long x57), (11, .int 1), (3, .int y3), (4, .int y4), (5, .int y5), (6, .int y6), (7, .long y7), (12, .int y12)]) hx hb dX8_sum_166 hl (by decide) rfl (fun ls hl => ?_)
            obtain ⟨x58, ex58⟩ : ∃ y : Int32, y = (y12 + 1) := ⟨_, rfl⟩
            have h := h x58 ex58
            refine lv_iinc (v := x58) (lv' := [(12, .int x58), (9, .long x57), (11, .int 1), (3, .int y3), (4, .int y4), (5, .int y5), (6, .int y6), (7, .long y7)]) hx hb dX8_sum_168 hl (k := 7) rfl (by rw [ex58]; rfl) (by decide) rfl (fun ls hl => ?_)
            refine lv_goto (tgt := 136) hx hb dX8_sum_171 (by decide) ?_
            exact ih y3 y4 y5 y6 y7 x57 1 x58 () _ _ _ hP hD hS (lv_sub hl [3, 4, 5, 6, 7, 1, 2, 0] rfl) h
  have L73 : ∀ (y0 : Int32) (y1 : Int32) (y2 : Int32) (z0 : Int32) (T : Unit) (H : Heap) (locs : List Loc) (ls : Array Slot), va_P D vwCl (w0_ cI cZ T) H → va_D A (w0_ cI cZ T) → va_S A s.heap H locs → lv_has ls 13 [(0, .int y0), (1, .int y1), (2, .int y2)] → wp_X8_sum_L73 Q y0 y1 y2 z0 T → W p l e rmX8_sum s m ([.int p0, .int p1] : List Value).toArray below meth c H locs 0 0 (MQ below (va_Qi Q (fun u => atW D cI cZ A (w0_ cI cZ u)) A) ([.int p0, .int p1] : List Value).toArray s 0 0 A) (F0 m 73 ls [.int z0]) := by
    intro y0 y1 y2 z0 T H locs ls hP hD hS hl h
    unfold wp_X8_sum_L73 at h
    refine lv_istore_n (lv' := [(3, .int z0), (0, .int y0), (1, .int y1), (2, .int y2)]) hx hb dX8_sum_73 rfl hl (by decide) rfl (fun ls hl => ?_)
    refine lv_iload_n hx hb dX8_sum_74 rfl (lv_at hl 3 rfl) ?_
    refine lv_if_eq (tgt := 82) hx hb dX8_sum_75 (by decide) (fun c19 => ?_) (fun c19 => ?_)
    · have h := h.1 c19
      refine lv_iload_n hx hb dX8_sum_82 rfl (lv_at hl 2 rfl) ?_
      refine lv_istore (lv' := [(4, .int y1), (3, .int z0), (0, .int y0), (1, .int y1), (2, .int y2)]) hx hb dX8_sum_83 hl (by decide) rfl (fun ls hl => ?_)
      refine lv_iload_n hx hb dX8_sum_85 rfl (lv_at hl 1 rfl) ?_
      refine cl_i (ws' := fun u20 => (w0_ cI cZ ())) (va_runS (As := [.int z0]) (rest := []) ⟨hx, hb, hml, hown, hts⟩ (c_X8_place l D cI cZ _ () z0 _ h ) (va_cwS 1 hts (gS q_1307 q_1308 q_75 q_1309) rfl rfl rfl (by decide +kernel) ⟨Nat.le_of_ble_eq_true rfl, Nat.le_of_ble_eq_true rfl⟩) (preS_of hK hP hD [] rfl rfl (by decide)) rfl rfl hl.1 rfl (lv_room (Nat.le_of_ble_eq_true rfl)) dX8_sum_86 ⟨Nat.zero_le _, Nat.zero_le _⟩) hP hD hS hA [] [] rfl (by decide) (fun _ => rfl) (fun _ => rfl) (fun r21 u20 H locs h hP hD hS => ?_)
      refine lv_iload hx hb dX8_sum_89 (lv_at hl 0 rfl) ?_
      refine cl_i (ws' := fun u22 => (w0_ cI cZ ())) (va_runS (As := [.int y1]) (rest := [.int r21]) ⟨hx, hb, hml, hown, hts⟩ (c_X8_place l D cI cZ _ () y1 _ h ) (va_cwS 1 hts (gS q_1307 q_1308 q_75 q_1309) rfl rfl rfl (by decide +kernel) ⟨Nat.le_of_ble_eq_true rfl, Nat.le_of_ble_eq_true rfl⟩) (preS_of hK hP hD [] rfl rfl (by decide)) rfl rfl hl.1 rfl (lv_room (Nat.le_of_ble_eq_true rfl)) dX8_sum_91 ⟨Nat.zero_le _, Nat.zero_le _⟩) hP hD hS hA [] [] rfl (by decide) (fun _ => rfl) (fun _ => rfl) (fun r23 u22 H locs h hP hD hS => ?_)
      refine lv_isub hx hb dX8_sum_94 ?_
      refine lv_topi (fun x24 ex24 => ?_)
      have h := h x24 ex24
      refine lv_istore (lv' := [(5, .int x24), (4, .int y1), (3, .int z0), (0, .int y0), (1, .int y1), (2, .int y2)]) hx hb dX8_sum_95 hl (by decide) rfl (fun ls hl => ?_)
      refine lv_iload hx hb dX8_sum_97 (lv_at hl 0 rfl) ?_
      refine lv_bipush (v := 38) hx hb dX8_sum_99 (by decide) ?_
      refine lv_icmp_ge (tgt := 109) hx hb dX8_sum_101 (by decide) (fun c25 => ?_) (fun c25 => ?_)
      · have h := h.1 c25
        refine lv_bipush (v := 38) hx hb dX8_sum_109 (by decide) ?_
        refine lv_istore (lv' := [(6, .int 38), (5, .int x24), (4, .int y1), (3, .int z0), (0, .int y0), (1, .int y1), (2, .int y2)]) hx hb dX8_sum_111 hl (by decide) rfl (fun ls hl => ?_)
        refine lv_iload_n hx hb dX8_sum_113 rfl (lv_at hl 3 rfl) ?_
        refine cl_l (ws' := fun u26 => (w0_ cI cZ ())) (va_runS (As := [.int z0]) (rest := []) ⟨hx, hb, hml, hown, hts⟩ (c_X8_fraction l D cI cZ _ () z0 _ h ) (va_cwS 1 hts (gS q_1301 q_1302 q_75 q_1303) rfl rfl rfl (by decide +kernel) ⟨Nat.le_of_ble_eq_true rfl, Nat.le_of_ble_eq_true rfl⟩) (preS_of hK hP hD [] rfl rfl (by decide)) rfl rfl hl.1 rfl (lv_room (Nat.le_of_ble_eq_true rfl)) dX8_sum_114 ⟨Nat.zero_le _, Nat.zero_le _⟩) hP hD hS hA [] [] rfl (by decide) (fun _ => rfl) (fun _ => rfl) (fun r27 u26 H locs h hP hD hS => ?_)
        refine lv_iload hx hb dX8_sum_117 (lv_at hl 0 rfl) ?_
        refine lv_lshl (v := (r27 <<< ((Int32.toInt64 38) &&& 63))) hx hb dX8_sum_119 rfl ?_
        refine lv_topl (fun x28 ex28 => ?_)
        have h := h x28 ex28
        refine lv_lstore (lv' := [(7, .long x28), (6, .int 38), (5, .int x24), (4, .int y1), (3, .int z0), (0, .int y0), (1, .int y1), (2, .int y2)]) hx hb dX8_sum_120 hl (by decide) rfl (fun ls hl => ?_)
        refine lv_iload hx hb dX8_sum_122 (lv_at hl 3 rfl) ?_
        refine cl_l (ws' := fun u29 => (w0_ cI cZ ())) (va_runS (As := [.int y1]) (rest := []) ⟨hx, hb, hml, hown, hts⟩ (c_X8_fraction l D cI cZ _ () y1 _ h ) (va_cwS 1 hts (gS q_1301 q_1302 q_75 q_1303) rfl rfl rfl (by decide +kernel) ⟨Nat.le_of_ble_eq_true rfl, Nat.le_of_ble_eq_true rfl⟩) (preS_of hK hP hD [] rfl rfl (by decide)) rfl rfl hl.1 rfl (lv_room (Nat.le_of_ble_eq_true rfl)) dX8_sum_124 ⟨Nat.zero_le _, Nat.zero_le _⟩) hP hD hS hA [] [] rfl (by decide) (fun _ => rfl) (fun _ => rfl) (fun r30 u29 H locs h hP hD hS => ?_)
        refine lv_lstore (lv' := [(9, .long r30), (7, .long x28), (6, .int 38), (5, .int x24), (4, .int y1), (3, .int z0), (0, .int y0), (1, .int y1), (2, .int y2)]) hx hb dX8_sum_127 hl (by decide) rfl (fun ls hl => ?_)
        refine lv_iconst (v := 0) hx hb dX8_sum_129 (by decide) ?_
        refine lv_istore (lv' := [(11, .int 0), (9, .long r30), (7, .long x28), (6, .int 38), (5, .int x24), (4, .int y1), (3, .int z0), (0, .int y0), (1, .int y1), (2, .int y2)]) hx hb dX8_sum_130 hl (by decide) rfl (fun ls hl => ?_)
        refine lv_iload hx hb dX8_sum_132 (lv_at hl 3 rfl) ?_
        refine lv_istore (lv' := [(12, .int 38), (11, .int 0), (9, .long r30), (7, .long x28), (6, .int 38), (5, .int x24), (4, .int y1), (3, .int z0), (0, .int y0), (1, .int y1), (2, .int y2)]) hx hb dX8_sum_134 hl (by decide) rfl (fun ls hl => ?_)
        exact L136 2000 z0 y1 x24 38 x28 r30 0 38 () _ _ _ hP hD hS (lv_sub hl [7, 6, 5, 4, 3, 2, 1, 0] rfl) h
      · have h := h.2 c25
        refine lv_iload hx hb dX8_sum_104 (lv_at hl 0 rfl) ?_
        refine lv_goto (tgt := 111) hx hb dX8_sum_106 (by decide) ?_
        refine lv_istore (lv' := [(6, .int x24), (5, .int x24), (4, .int y1), (3, .int z0), (0, .int y0), (1, .int y1), (2, .int y2)]) hx hb dX8_sum_111 hl (by decide) rfl (fun ls hl => ?_)
        refine lv_iload_n hx hb dX8_sum_113 rfl (lv_at hl 3 rfl) ?_
        refine cl_l (ws' := fun u31 => (w0_ cI cZ ())) (va_runS (As := [.int z0]) (rest := []) ⟨hx, hb, hml, hown, hts⟩ (c_X8_fraction l D cI cZ _ () z0 _ h ) (va_cwS 1 hts (gS q_1301 q_1302 q_75 q_1303) rfl rfl rfl (by decide +kernel) ⟨Nat.le_of_ble_eq_true rfl, Nat.le_of_ble_eq_true rfl⟩) (preS_of hK hP hD [] rfl rfl (by decide)) rfl rfl hl.1 rfl (lv_room (Nat.le_of_ble_eq_true rfl)) dX8_sum_114 ⟨Nat.zero_le _, Nat.zero_le _⟩) hP hD hS hA [] [] rfl (by decide) (fun _ => rfl) (fun _ => rfl) (fun r32 u31 H locs h hP hD hS => ?_)
        refine lv_iload hx hb dX8_sum_117 (lv_at hl 0 rfl) ?_
        refine lv_lshl (v := (r32 <<< ((Int32.toInt64 x24) &&& 63))) hx hb dX8_sum_119 rfl ?_
        refine lv_topl (fun x33 ex33 => ?_)
        have h := h x33 ex33
        refine lv_lstore (lv' := [(7, .long x33), (6, .int x24), (5, .int x24), (4, .int y1), (3, .int z0), (0, .int y0), (1, .int y1), (2, .int y2)]) hx hb dX8_sum_120 hl (by decide) rfl (fun ls hl => ?_)
        refine lv_iload hx hb dX8_sum_122 (lv_at hl 3 rfl) ?_
        refine cl_l (ws' := fun u34 => (w0_ cI cZ ())) (va_runS (As := [.int y1]) (rest := []) ⟨hx, hb, hml, hown, hts⟩ (c_X8_fraction l D cI cZ _ () y1 _ h ) (va_cwS 1 hts (gS q_1301 q_1302 q_75 q_1303) rfl rfl rfl (by decide +kernel) ⟨Nat.le_of_ble_eq_true rfl, Nat.le_of_ble_eq_true rfl⟩) (preS_of hK hP hD [] rfl rfl (by decide)) rfl rfl hl.1 rfl (lv_room (Nat.le_of_ble_eq_true rfl)) dX8_sum_124 ⟨Nat.zero_le _, Nat.zero_le _⟩) hP hD hS hA [] [] rfl (by decide) (fun _ => rfl) (fun _ => rfl) (fun r35 u34 H locs h hP hD hS => ?_)
        refine lv_lstore (lv' := [(9, .long r35), (7, .long x33), (6, .int x24), (5, .int x24), (4, .int y1), (3, .int z0), (0, .int y0), (1, .int y1), (2, .int y2)]) hx hb dX8_sum_127 hl (by decide) rfl (fun ls hl => ?_)
        refine lv_iconst (v := 0) hx hb dX8_sum_129 (by decide) ?_
        refine lv_istore (lv' := [(11, .int 0), (9, .long r35), (7, .long x33), (6, .int x24), (5, .int x24), (4, .int y1), (3, .int z0), (0, .int y0), (1, .int y1), (2, .int y2)]) hx hb dX8_sum_130 hl (by decide) rfl (fun ls hl => ?_)
        refine lv_iload hx hb dX8_sum_132 (lv_at hl 3 rfl) ?_
        refine lv_istore (lv' := [(12, .int x24), (11, .int 0), (9, .long r35), (7, .long x33), (6, .int x24), (5, .int x24), (4, .int y1), (3, .int z0), (0, .int y0), (1, .int y1), (2, .int y2)]) hx hb dX8_sum_134 hl (by decide) rfl (fun ls hl => ?_)
        exact L136 2000 z0 y1 x24 x24 x33 r35 0 x24 () _ _ _ hP hD hS (lv_sub hl [7, 6, 5, 4, 3, 2, 1, 0] rfl) h
    · have h := h.2 c19
      refine lv_iload_n hx hb dX8_sum_78 rfl (lv_at hl 1 rfl) ?_
      refine lv_goto (tgt := 83) hx hb dX8_sum_79 (by decide) ?_
      refine lv_istore (lv' := [(4, .int y0), (3, .int z0), (0, .int y0), (1, .int y1), (2, .int y2)]) hx hb dX8_sum_83 hl (by decide) rfl (fun ls hl => ?_)
      refine lv_iload_n hx hb dX8_sum_85 rfl (lv_at hl 1 rfl) ?_
      refine cl_i (ws' := fun u36 => (w0_ cI cZ ())) (va_runS (As := [.int z0]) (rest := []) ⟨hx, hb, hml, hown, hts⟩ (c_X8_place l D cI cZ _ () z0 _ h ) (va_cwS 1 hts (gS q_1307 q_1308 q_75 q_1309) rfl rfl rfl (by decide +kernel) ⟨Nat.le_of_ble_eq_true rfl, Nat.le_of_ble_eq_true rfl⟩) (preS_of hK hP hD [] rfl rfl (by decide)) rfl rfl hl.1 rfl (lv_room (Nat.le_of_ble_eq_true rfl)) dX8_sum_86 ⟨Nat.zero_le _, Nat.zero_le _⟩) hP hD hS hA [] [] rfl (by decide) (fun _ => rfl) (fun _ => rfl) (fun r37 u36 H locs h hP hD hS => ?_)
      refine lv_iload hx hb dX8_sum_89 (lv_at hl 0 rfl) ?_
      refine cl_i (ws' := fun u38 => (w0_ cI cZ ())) (va_runS (As := [.int y0]) (rest := [.int r37]) ⟨hx, hb, hml, hown, hts⟩ (c_X8_place l D cI cZ _ () y0 _ h ) (va_cwS 1 hts (gS q_1307 q_1308 q_75 q_1309) rfl rfl rfl (by decide +kernel) ⟨Nat.le_of_ble_eq_true rfl, Nat.le_of_ble_eq_true rfl⟩) (preS_of hK hP hD [] rfl rfl (by decide)) rfl rfl hl.1 rfl (lv_room (Nat.le_of_ble_eq_true rfl)) dX8_sum_91 ⟨Nat.zero_le _, Nat.zero_le _⟩) hP hD hS hA [] [] rfl (by decide) (fun _ => rfl) (fun _ => rfl) (fun r39 u38 H locs h hP hD hS => ?_)
      refine lv_isub hx hb dX8_sum_94 ?_
      refine lv_topi (fun x40 ex40 => ?_)
      have h := h x40 ex40
      refine lv_istore (lv' := [(5, .int x40), (4, .int y0), (3, .int z0), (0, .int y0), (1, .int y1), (2, .int y2)]) hx hb dX8_sum_95 hl (by decide) rfl (fun ls hl => ?_)
      refine lv_iload hx hb dX8_sum_97 (lv_at hl 0 rfl) ?_
      refine lv_bipush (v := 38) hx hb dX8_sum_99 (by decide) ?_
      refine lv_icmp_ge (tgt := 109) hx hb dX8_sum_101 (by decide) (fun c41 => ?_) (fun c41 => ?_)
      · have h := h.1 c41
        refine lv_bipush (v := 38) hx hb dX8_sum_109 (by decide) ?_
        refine lv_istore (lv' := [(6, .int 38), (5, .int x40), (4, .int y0), (3, .int z0), (0, .int y0), (1, .int y1), (2, .int y2)]) hx hb dX8_sum_111 hl (by decide) rfl (fun ls hl => ?_)
        refine lv_iload_n hx hb dX8_sum_113 rfl (lv_at hl 3 rfl) ?_
        refine cl_l (ws' := fun u42 => (w0_ cI cZ ())) (va_runS (As := [.int z0]) (rest := []) ⟨hx, hb, hml, hown, hts⟩ (c_X8_fraction l D cI cZ _ () z0 _ h ) (va_cwS 1 hts (gS q_1301 q_1302 q_75 q_1303) rfl rfl rfl (by decide +kernel) ⟨Nat.le_of_ble_eq_true rfl, Nat.le_of_ble_eq_true rfl⟩) (preS_of hK hP hD [] rfl rfl (by decide)) rfl rfl hl.1 rfl (lv_room (Nat.le_of_ble_eq_true rfl)) dX8_sum_114 ⟨Nat.zero_le _, Nat.zero_le _⟩) hP hD hS hA [] [] rfl (by decide) (fun _ => rfl) (fun _ => rfl) (fun r43 u42 H locs h hP hD hS => ?_)
        refine lv_iload hx hb dX8_sum_117 (lv_at hl 0 rfl) ?_
        refine lv_lshl (v := (r43 <<< ((Int32.toInt64 38) &&& 63))) hx hb dX8_sum_119 rfl ?_
        refine lv_topl (fun x44 ex44 => ?_)
        have h := h x44 ex44
        refine lv_lstore (lv' := [(7, .long x44), (6, .int 38), (5, .int x40), (4, .int y0), (3, .int z0), (0, .int y0), (1, .int y1), (2, .int y2)]) hx hb dX8_sum_120 hl (by decide) rfl (fun ls hl => ?_)
        refine lv_iload hx hb dX8_sum_122 (lv_at hl 3 rfl) ?_
        refine cl_l (ws' := fun u45 => (w0_ cI cZ ())) (va_runS (As := [.int y0]) (rest := []) ⟨hx, hb, hml, hown, hts⟩ (c_X8_fraction l D cI cZ _ () y0 _ h ) (va_cwS 1 hts (gS q_1301 q_1302 q_75 q_1303) rfl rfl rfl (by decide +kernel) ⟨Nat.le_of_ble_eq_true rfl, Nat.le_of_ble_eq_true rfl⟩) (preS_of hK hP hD [] rfl rfl (by decide)) rfl rfl hl.1 rfl (lv_room (Nat.le_of_ble_eq_true rfl)) dX8_sum_124 ⟨Nat.zero_le _, Nat.zero_le _⟩) hP hD hS hA [] [] rfl (by decide) (fun _ => rfl) (fun _ => rfl) (fun r46 u45 H locs h hP hD hS => ?_)
        refine lv_lstore (lv' := [(9, .long r46), (7, .long x44), (6, .int 38), (5, .int x40), (4, .int y0), (3, .int z0), (0, .int y0), (1, .int y1), (2, .int y2)]) hx hb dX8_sum_127 hl (by decide) rfl (fun ls hl => ?_)
        refine lv_iconst (v := 0) hx hb dX8_sum_129 (by decide) ?_
        refine lv_istore (lv' := [(11, .int 0), (9, .long r46), (7, .long x44), (6, .int 38), (5, .int x40), (4, .int y0), (3, .int z0), (0, .int y0), (1, .int y1), (2, .int y2)]) hx hb dX8_sum_130 hl (by decide) rfl (fun ls hl => ?_)
        refine lv_iload hx hb dX8_sum_132 (lv_at hl 3 rfl) ?_
        refine lv_istore (lv' := [(12, .int 38), (11, .int 0), (9, .long r46), (7, .long x44), (6, .int 38), (5, .int x40), (4, .int y0), (3, .int z0), (0, .int y0), (1, .int y1), (2, .int y2)]) hx hb dX8_sum_134 hl (by decide) rfl (fun ls hl => ?_)
        exact L136 2000 z0 y0 x40 38 x44 r46 0 38 () _ _ _ hP hD hS (lv_sub hl [7, 6, 5, 4, 3, 2, 1, 0] rfl) h
      · have h := h.2 c41
        refine lv_iload hx hb dX8_sum_104 (lv_at hl 0 rfl) ?_
        refine lv_goto (tgt := 111) hx hb dX8_sum_106 (by decide) ?_
        refine lv_istore (lv' := [(6, .int x40), (5, .int x40), (4, .int y0), (3, .int z0), (0, .int y0), (1, .int y1), (2, .int y2)]) hx hb dX8_sum_111 hl (by decide) rfl (fun ls hl => ?_)
        refine lv_iload_n hx hb dX8_sum_113 rfl (lv_at hl 3 rfl) ?_
        refine cl_l (ws' := fun u47 => (w0_ cI cZ ())) (va_runS (As := [.int z0]) (rest := []) ⟨hx, hb, hml, hown, hts⟩ (c_X8_fraction l D cI cZ _ () z0 _ h ) (va_cwS 1 hts (gS q_1301 q_1302 q_75 q_1303) rfl rfl rfl (by decide +kernel) ⟨Nat.le_of_ble_eq_true rfl, Nat.le_of_ble_eq_true rfl⟩) (preS_of hK hP hD [] rfl rfl (by decide)) rfl rfl hl.1 rfl (lv_room (Nat.le_of_ble_eq_true rfl)) dX8_sum_114 ⟨Nat.zero_le _, Nat.zero_le _⟩) hP hD hS hA [] [] rfl (by decide) (fun _ => rfl) (fun _ => rfl) (fun r48 u47 H locs h hP hD hS => ?_)
        refine lv_iload hx hb dX8_sum_117 (lv_at hl 0 rfl) ?_
        refine lv_lshl (v := (r48 <<< ((Int32.toInt64 x40) &&& 63))) hx hb dX8_sum_119 rfl ?_
        refine lv_topl (fun x49 ex49 => ?_)
        have h := h x49 ex49
        refine lv_lstore (lv' := [(7, .long x49), (6, .int x40), (5, .int x40), (4, .int y0), (3, .int z0), (0, .int y0), (1, .int y1), (2, .int y2)]) hx hb dX8_sum_120 hl (by decide) rfl (fun ls hl => ?_)
        refine lv_iload hx hb dX8_sum_122 (lv_at hl 3 rfl) ?_
        refine cl_l (ws' := fun u50 => (w0_ cI cZ ())) (va_runS (As := [.int y0]) (rest := []) ⟨hx, hb, hml, hown, hts⟩ (c_X8_fraction l D cI cZ _ () y0 _ h ) (va_cwS 1 hts (gS q_1301 q_1302 q_75 q_1303) rfl rfl rfl (by decide +kernel) ⟨Nat.le_of_ble_eq_true rfl, Nat.le_of_ble_eq_true rfl⟩) (preS_of hK hP hD [] rfl rfl (by decide)) rfl rfl hl.1 rfl (lv_room (Nat.le_of_ble_eq_true rfl)) dX8_sum_124 ⟨Nat.zero_le _, Nat.zero_le _⟩) hP hD hS hA [] [] rfl (by decide) (fun _ => rfl) (fun _ => rfl) (fun r51 u50 H locs h hP hD hS => ?_)
        refine lv_lstore (lv' := [(9, .long r51), (7, .long x49), (6, .int x40), (5, .int x40), (4, .int y0), (3, .int z0), (0, .int y0), (1, .int y1), (2, .int y2)]) hx hb dX8_sum_127 hl (by decide) rfl (fun ls hl => ?_)
        refine lv_iconst (v := 0) hx hb dX8_sum_129 (by decide) ?_
        refine lv_istore (lv' := [(11, .int 0), (9, .long r51), (7, .long x49), (6, .int x40), (5, .int x40), (4, .int y0), (3, .int z0), (0, .int y0), (1, .int y1), (2, .int y2)]) hx hb dX8_sum_130 hl (by decide) rfl (fun ls hl => ?_)
        refine lv_iload hx hb dX8_sum_132 (lv_at hl 3 rfl) ?_
        refine lv_istore (lv' := [(12, .int x40), (11, .int 0), (9, .long r51), (7, .long x49), (6, .int x40), (5, .int x40), (4, .int y0), (3, .int z0), (0, .int y0), (1, .int y1), (2, .int y2)]) hx hb dX8_sum_134 hl (by decide) rfl (fun ls hl => ?_)
        exact L136 2000 z0 y0 x40 x40 x49 r51 0 x40 () _ _ _ hP hD hS (lv_sub hl [7, 6, 5, 4, 3, 2, 1, 0] rfl) h
  have L63 : ∀ (y0 : Int32) (y1 : Int32) (z0 : Int32) (T : Unit) (H : Heap) (locs : List Loc) (ls : Array Slot), va_P D vwCl (w0_ cI cZ T) H → va_D A (w0_ cI cZ T) → va_S A s.heap H locs → lv_has ls 13 [(0, .int y0), (1, .int y1)] → wp_X8_sum_L63 Q y0 y1 z0 T → W p l e rmX8_sum s m ([.int p0, .int p1] : List Value).toArray below meth c H locs 0 0 (MQ below (va_Qi Q (fun u => atW D cI cZ A (w0_ cI cZ u)) A) ([.int p0, .int p1] : List Value).toArray s 0 0 A) (F0 m 63 ls [.int z0]) := by
    intro y0 y1 z0 T H locs ls hP hD hS hl h
    unfold wp_X8_sum_L63 at h
    refine lv_istore_n (lv' := [(2, .int z0), (0, .int y0), (1, .int y1)]) hx hb dX8_sum_63 rfl hl (by decide) rfl (fun ls hl => ?_)
    refine lv_iload_n hx hb dX8_sum_64 rfl (lv_at hl 0 rfl) ?_
    refine lv_if_eq (tgt := 72) hx hb dX8_sum_65 (by decide) (fun c18 => ?_) (fun c18 => ?_)
    · have h := h.1 c18
      refine lv_iload_n hx hb dX8_sum_72 rfl (lv_at hl 1 rfl) ?_
      exact L73 y0 y1 z0 y0 () _ _ _ hP hD hS (lv_sub hl [1, 2, 0] rfl) h
    · have h := h.2 c18
      refine lv_iload_n hx hb dX8_sum_68 rfl (lv_at hl 2 rfl) ?_
      refine lv_goto (tgt := 73) hx hb dX8_sum_69 (by decide) ?_
      exact L73 y0 y1 z0 y1 () _ _ _ hP hD hS (lv_sub hl [1, 2, 0] rfl) h
  have L25 : ∀ (y0 : Int32) (y1 : Int32) (T : Unit) (H : Heap) (locs : List Loc) (ls : Array Slot), va_P D vwCl (w0_ cI cZ T) H → va_D A (w0_ cI cZ T) → va_S A s.heap H locs → lv_has ls 13 [(0, .int y0), (1, .int y1)] → wp_X8_sum_L25 Q y0 y1 T → W p l e rmX8_sum s m ([.int p0, .int p1] : List Value).toArray below meth c H locs 0 0 (MQ below (va_Qi Q (fun u => atW D cI cZ A (w0_ cI cZ u)) A) ([.int p0, .int p1] : List Value).toArray s 0 0 A) (F0 m 25 ls []) := by
    intro y0 y1 T H locs ls hP hD hS hl h
    unfold wp_X8_sum_L25 at h
    refine lv_iload_n hx hb dX8_sum_25 rfl (lv_at hl 0 rfl) ?_
    refine cl_l (ws' := fun u7 => (w0_ cI cZ ())) (va_runS (As := [.int y0]) (rest := []) ⟨hx, hb, hml, hown, hts⟩ (c_X8_fraction l D cI cZ _ () y0 _ h ) (va_cwS 1 hts (gS q_1301 q_1302 q_75 q_1303) rfl rfl rfl (by decide +kernel) ⟨Nat.le_of_ble_eq_true rfl, Nat.le_of_ble_eq_true rfl⟩) (preS_of hK hP hD [] rfl rfl (by decide)) rfl rfl hl.1 rfl (lv_room (Nat.le_of_ble_eq_true rfl)) dX8_sum_26 ⟨Nat.zero_le _, Nat.zero_le _⟩) hP hD hS hA [] [] rfl (by decide) (fun _ => rfl) (fun _ => rfl) (fun r8 u7 H locs h hP hD hS => ?_)
    refine lv_lconst (v := 0) hx hb dX8_sum_29 (by decide) ?_
    refine W.lcmp hx hb dX8_sum_30 ?_
    refine lv_if_ne (tgt := 36) hx hb dX8_sum_31 (by decide) (fun c9 => ?_) (fun c9 => ?_)
    · have h := h.1 c9
      refine lv_iload_n hx hb dX8_sum_36 rfl (lv_at hl 1 rfl) ?_
      refine cl_l (ws' := fun u10 => (w0_ cI cZ ())) (va_runS (As := [.int y1]) (rest := []) ⟨hx, hb, hml, hown, hts⟩ (c_X8_fraction l D cI cZ _ () y1 _ h ) (va_cwS 1 hts (gS q_1301 q_1302 q_75 q_1303) rfl rfl rfl (by decide +kernel) ⟨Nat.le_of_ble_eq_true rfl, Nat.le_of_ble_eq_true rfl⟩) (preS_of hK hP hD [] rfl rfl (by decide)) rfl rfl hl.1 rfl (lv_room (Nat.le_of_ble_eq_true rfl)) dX8_sum_37 ⟨Nat.zero_le _, Nat.zero_le _⟩) hP hD hS hA [] [] rfl (by decide) (fun _ => rfl) (fun _ => rfl) (fun r11 u10 H locs h hP hD hS => ?_)
      refine lv_lconst (v := 0) hx hb dX8_sum_40 (by decide) ?_
      refine W.lcmp hx hb dX8_sum_41 ?_
      refine lv_if_ne (tgt := 47) hx hb dX8_sum_42 (by decide) (fun c12 => ?_) (fun c12 => ?_)
      · have h := h.1 c12
        refine lv_iload_n hx hb dX8_sum_47 rfl (lv_at hl 0 rfl) ?_
        refine cl_i (ws' := fun u13 => (w0_ cI cZ ())) (va_runS (As := [.int y0]) (rest := []) ⟨hx, hb, hml, hown, hts⟩ (c_X8_place l D cI cZ _ () y0 _ h ) (va_cwS 1 hts (gS q_1307 q_1308 q_75 q_1309) rfl rfl rfl (by decide +kernel) ⟨Nat.le_of_ble_eq_true rfl, Nat.le_of_ble_eq_true rfl⟩) (preS_of hK hP hD [] rfl rfl (by decide)) rfl rfl hl.1 rfl (lv_room (Nat.le_of_ble_eq_true rfl)) dX8_sum_48 ⟨Nat.zero_le _, Nat.zero_le _⟩) hP hD hS hA [] [] rfl (by decide) (fun _ => rfl) (fun _ => rfl) (fun r14 u13 H locs h hP hD hS => ?_)
        refine lv_iload_n hx hb dX8_sum_51 rfl (lv_at hl 1 rfl) ?_
        refine cl_i (ws' := fun u15 => (w0_ cI cZ ())) (va_runS (As := [.int y1]) (rest := [.int r14]) ⟨hx, hb, hml, hown, hts⟩ (c_X8_place l D cI cZ _ () y1 _ h ) (va_cwS 1 hts (gS q_1307 q_1308 q_75 q_1309) rfl rfl rfl (by decide +kernel) ⟨Nat.le_of_ble_eq_true rfl, Nat.le_of_ble_eq_true rfl⟩) (preS_of hK hP hD [] rfl rfl (by decide)) rfl rfl hl.1 rfl (lv_room (Nat.le_of_ble_eq_true rfl)) dX8_sum_52 ⟨Nat.zero_le _, Nat.zero_le _⟩) hP hD hS hA [] [] rfl (by decide) (fun _ => rfl) (fun _ => rfl) (fun r16 u15 H locs h hP hD hS => ?_)
        refine lv_icmp_ge (tgt := 62) hx hb dX8_sum_55 (by decide) (fun c17 => ?_) (fun c17 => ?_)
        · have h := h.1 c17
          refine lv_iconst (v := 0) hx hb dX8_sum_62 (by decide) ?_
          exact L63 y0 y1 0 () _ _ _ hP hD hS (lv_sub hl [0, 1] rfl) h
        · have h := h.2 c17
          refine lv_iconst (v := 1) hx hb dX8_sum_58 (by decide) ?_
          refine lv_goto (tgt := 63) hx hb dX8_sum_59 (by decide) ?_
          exact L63 y0 y1 1 () _ _ _ hP hD hS (lv_sub hl [0, 1] rfl) h
      · have h := h.2 c12
        refine lv_iload_n hx hb dX8_sum_45 rfl (lv_at hl 0 rfl) ?_
        exact W.iret (v := y0) hx hb hr (fun t ht hW => ⟨⟨y0, (), rfl, h, by rw [ht]; exact hP, va_K.moved hW.alike hK, hD⟩, hS.F ht⟩) hS.2.2 dX8_sum_46
    · have h := h.2 c9
      refine lv_iload_n hx hb dX8_sum_34 rfl (lv_at hl 1 rfl) ?_
      exact W.iret (v := y1) hx hb hr (fun t ht hW => ⟨⟨y1, (), rfl, h, by rw [ht]; exact hP, va_K.moved hW.alike hK, hD⟩, hS.F ht⟩) hS.2.2 dX8_sum_35
  have hl := lv_entry ([.int p0, .int p1]) (n := 13) (Nat.le_of_ble_eq_true rfl)
  rw [lg_entry_eq]
  generalize (lg_sl ([.int p0, .int p1]) ++ List.replicate (13 - (lg_sl ([.int p0, .int p1])).length) Slot.unset).toArray = ls at hl ⊢
  have hl : lv_has ls 13 [(0, .int p0), (1, .int p1)] := hl
  unfold wp_X8_sum at h
  refine lv_iload_n hx hb dX8_sum_0 rfl (lv_at hl 0 rfl) ?_
  refine cl_l (ws' := fun u1 => (w0_ cI cZ ())) (va_runS (As := [.int p0]) (rest := []) ⟨hx, hb, hml, hown, hts⟩ (c_X8_fraction l D cI cZ _ () p0 _ h ) (va_cwS 1 hts (gS q_1301 q_1302 q_75 q_1303) rfl rfl rfl (by decide +kernel) ⟨Nat.le_of_ble_eq_true rfl, Nat.le_of_ble_eq_true rfl⟩) (preS_of hK hP hD [] rfl rfl (by decide)) rfl rfl hl.1 rfl (lv_room (Nat.le_of_ble_eq_true rfl)) dX8_sum_1 ⟨Nat.zero_le _, Nat.zero_le _⟩) hP hD hS hA [] [] rfl (by decide) (fun _ => rfl) (fun _ => rfl) (fun r2 u1 H locs h hP hD hS => ?_)
  refine lv_lconst (v := 0) hx hb dX8_sum_4 (by decide) ?_
  refine W.lcmp hx hb dX8_sum_5 ?_
  refine lv_if_ne (tgt := 25) hx hb dX8_sum_6 (by decide) (fun c3 => ?_) (fun c3 => ?_)
  · have h := h.1 c3
    exact L25 p0 p1 () _ _ _ hP hD hS (lv_sub hl [0, 1] rfl) h
  · have h := h.2 c3
    refine lv_iload_n hx hb dX8_sum_9 rfl (lv_at hl 1 rfl) ?_
    refine cl_l (ws' := fun u4 => (w0_ cI cZ ())) (va_runS (As := [.int p1]) (rest := []) ⟨hx, hb, hml, hown, hts⟩ (c_X8_fraction l D cI cZ _ () p1 _ h ) (va_cwS 1 hts (gS q_1301 q_1302 q_75 q_1303) rfl rfl rfl (by decide +kernel) ⟨Nat.le_of_ble_eq_true rfl, Nat.le_of_ble_eq_true rfl⟩) (preS_of hK hP hD [] rfl rfl (by decide)) rfl rfl hl.1 rfl (lv_room (Nat.le_of_ble_eq_true rfl)) dX8_sum_10 ⟨Nat.zero_le _, Nat.zero_le _⟩) hP hD hS hA [] [] rfl (by decide) (fun _ => rfl) (fun _ => rfl) (fun r5 u4 H locs h hP hD hS => ?_)
    refine lv_lconst (v := 0) hx hb dX8_sum_13 (by decide) ?_
    refine W.lcmp hx hb dX8_sum_14 ?_
    refine lv_if_ne (tgt := 25) hx hb dX8_sum_15 (by decide) (fun c6 => ?_) (fun c6 => ?_)
    · have h := h.1 c6
      exact L25 p0 p1 () _ _ _ hP hD hS (lv_sub hl [0, 1] rfl) h
    · have h := h.2 c6
      refine lv_iload_n hx hb dX8_sum_18 rfl (lv_at hl 0 rfl) ?_
      refine lv_iload_n hx hb dX8_sum_19 rfl (lv_at hl 1 rfl) ?_
      refine lv_iand hx hb dX8_sum_20 ?_
      refine lv_ldc hx hb hown (hts _ q_1306) dX8_sum_21 ?_
      refine lv_iand hx hb dX8_sum_23 ?_
      exact W.iret (v := ((p0 &&& p1) &&& (-2147483648))) hx hb hr (fun t ht hW => ⟨⟨((p0 &&& p1) &&& (-2147483648)), (), rfl, h, by rw [ht]; exact hP, va_K.moved hW.alike hK, hD⟩, hS.F ht⟩) hS.2.2 dX8_sum_24
/-! X8_ofInt -/
abbrev rmX8_ofInt : Room := { frames := 2, cells := 0, slots := 0, locals := 57 }
set_option maxHeartbeats 4000000 in
set_option maxRecDepth 100000 in
theorem c_X8_ofInt (l : Launch) (D : va_G) (cI cZ : ClassId) (sz : Nat) (S : Unit) (p0 : Int32) (Q : Int32 → Unit → Prop) (h : wp_X8_ofInt S p0 Q) : Met l yX8_ofInt (wsm yX8_ofInt cX8_ofInt 3 (some .int)) rmX8_ofInt (va_Pc [.int p0] (preW D cI cZ sz (w0_ cI cZ S))) (va_Qi Q (fun u => atW D cI cZ (va_A (w0_ cI cZ S) sz) (w0_ cI cZ u)) (va_A (w0_ cI cZ S) sz)) 0 0 (va_A (w0_ cI cZ S) sz) := by
  refine Met.ofW (cc := cX8_ofInt) (maxL := 3) (ret := (some .int)) (by decide) rfl ?_
  intro p e s m args below meth c s₁ B hml hv
  obtain ⟨rfl, hsz, hP, hK, hD0⟩ := hv
  have hx := B.exec
  have hb := B.bytes
  have hr := B.returns
  have hts0 := atoms_spec (ws := wsm yX8_ofInt cX8_ofInt 3 (some .int)) B.pre
  have hts : ∀ w ∈ lw_all, w.before _ s = true := fun w h => hts0 w (List.mem_cons_of_mem _ h)
  have hown : s.vm.findClass RX8 = some m.cls := findClass_of_methodNamed B.named
  have hlocks := B.notSynchronized
  subst hsz
  have hD := hD0.self (sz := s.heap.size)
  generalize hAe : va_A (w0_ cI cZ S) s.heap.size = A at hD ⊢
  have hA : ∀ q : Nat, s.heap.size ≤ q → A q := fun q h => by rw [← hAe]; exact Or.inr h
  have hS : va_S A s.heap s.heap [] := va_S.rf
  have hml2 := hml
  have hl := lv_entry ([.int p0]) (n := 3) (Nat.le_of_ble_eq_true rfl)
  rw [lg_entry_eq]
  generalize (lg_sl ([.int p0]) ++ List.replicate (3 - (lg_sl ([.int p0])).length) Slot.unset).toArray = ls at hl ⊢
  have hl : lv_has ls 3 [(0, .int p0)] := hl
  unfold wp_X8_ofInt at h
  refine lv_iload_n hx hb dX8_ofInt_0 rfl (lv_at hl 0 rfl) ?_
  refine lv_if_ne (tgt := 6) hx hb dX8_ofInt_1 (by decide) (fun c1 => ?_) (fun c1 => ?_)
  · have h := h.1 c1
    refine lv_iload_n hx hb dX8_ofInt_6 rfl (lv_at hl 0 rfl) ?_
    refine lv_if_ge (tgt := 16) hx hb dX8_ofInt_7 (by decide) (fun c2 => ?_) (fun c2 => ?_)
    · have h := h.1 c2
      refine lv_iload_n hx hb dX8_ofInt_16 rfl (lv_at hl 0 rfl) ?_
      refine lv_i2l (v := (Int32.toInt64 p0)) hx hb dX8_ofInt_17 rfl ?_
      refine lv_topl (fun x3 ex3 => ?_)
      have h := h x3 ex3
      refine lv_lstore_n (lv' := [(1, .long x3), (0, .int p0)]) hx hb dX8_ofInt_18 rfl hl (by decide) rfl (fun ls hl => ?_)
      refine lv_iload_n hx hb dX8_ofInt_19 rfl (lv_at hl 1 rfl) ?_
      refine lv_if_ge (tgt := 27) hx hb dX8_ofInt_20 (by decide) (fun c4 => ?_) (fun c4 => ?_)
      · have h := h.1 c4
        refine lv_iconst (v := 0) hx hb dX8_ofInt_27 (by decide) ?_
        refine lv_lload_n hx hb dX8_ofInt_28 rfl (lv_at hl 0 rfl) ?_
        refine lv_iconst (v := 0) hx hb dX8_ofInt_29 (by decide) ?_
        refine lv_iconst (v := 0) hx hb dX8_ofInt_30 (by decide) ?_
        refine cl_i (ws' := fun u5 => (w0_ cI cZ ())) (va_runS (As := [.int 0, .long x3, .int 0, .int 0]) (rest := []) ⟨hx, hb, hml, hown, hts⟩ (c_X8_rounded l D cI cZ _ () 0 x3 0 0 _ h ) (va_cwS 4 hts (gS q_1310 q_1311 q_75 q_1312) rfl rfl rfl (by decide +kernel) ⟨Nat.le_of_ble_eq_true rfl, Nat.le_of_ble_eq_true rfl⟩) (preS_of hK hP hD [] rfl rfl (by decide)) rfl rfl hl.1 rfl (lv_room (Nat.le_of_ble_eq_true rfl)) dX8_ofInt_31 ⟨Nat.zero_le _, Nat.zero_le _⟩) hP hD hS hA [] [] rfl (by decide) (fun _ => rfl) (fun _ => rfl) (fun r6 u5 H locs h hP hD hS => ?_)
        exact W.iret (v := r6) hx hb hr (fun t ht hW => ⟨⟨r6, (), rfl, h, by rw [ht]; exact hP, va_K.moved hW.alike hK, hD⟩, hS.F ht⟩) hS.2.2 dX8_ofInt_34
      · have h := h.2 c4
        refine lv_iconst (v := 1) hx hb dX8_ofInt_23 (by decide) ?_
        refine lv_goto (tgt := 28) hx hb dX8_ofInt_24 (by decide) ?_
        refine lv_lload_n hx hb dX8_ofInt_28 rfl (lv_at hl 0 rfl) ?_
        refine lv_iconst (v := 0) hx hb dX8_ofInt_29 (by decide) ?_
        refine lv_iconst (v := 0) hx hb dX8_ofInt_30 (by decide) ?_
        refine cl_i (ws' := fun u7 => (w0_ cI cZ ())) (va_runS (As := [.int 1, .long x3, .int 0, .int 0]) (rest := []) ⟨hx, hb, hml, hown, hts⟩ (c_X8_rounded l D cI cZ _ () 1 x3 0 0 _ h ) (va_cwS 4 hts (gS q_1310 q_1311 q_75 q_1312) rfl rfl rfl (by decide +kernel) ⟨Nat.le_of_ble_eq_true rfl, Nat.le_of_ble_eq_true rfl⟩) (preS_of hK hP hD [] rfl rfl (by decide)) rfl rfl hl.1 rfl (lv_room (Nat.le_of_ble_eq_true rfl)) dX8_ofInt_31 ⟨Nat.zero_le _, Nat.zero_le _⟩) hP hD hS hA [] [] rfl (by decide) (fun _ => rfl) (fun _ => rfl) (fun r8 u7 H locs h hP hD hS => ?_)
        exact W.iret (v := r8) hx hb hr (fun t ht hW => ⟨⟨r8, (), rfl, h, by rw [ht]; exact hP, va_K.moved hW.alike hK, hD⟩, hS.F ht⟩) hS.2.2 dX8_ofInt_34
    · have h := h.2 c2
      refine lv_iload_n hx hb dX8_ofInt_10 rfl (lv_at hl 0 rfl) ?_
      refine lv_i2l (v := (Int32.toInt64 p0)) hx hb dX8_ofInt_11 rfl ?_
      refine lv_lneg hx hb dX8_ofInt_12 ?_
      refine lv_goto (tgt := 18) hx hb dX8_ofInt_13 (by decide) ?_
      refine lv_topl (fun x9 ex9 => ?_)
      have h := h x9 ex9
      refine lv_lstore_n (lv' := [(1, .long x9), (0, .int p0)]) hx hb dX8_ofInt_18 rfl hl (by decide) rfl (fun ls hl => ?_)
      refine lv_iload_n hx hb dX8_ofInt_19 rfl (lv_at hl 1 rfl) ?_
      refine lv_if_ge (tgt := 27) hx hb dX8_ofInt_20 (by decide) (fun c10 => ?_) (fun c10 => ?_)
      · have h := h.1 c10
        refine lv_iconst (v := 0) hx hb dX8_ofInt_27 (by decide) ?_
        refine lv_lload_n hx hb dX8_ofInt_28 rfl (lv_at hl 0 rfl) ?_
        refine lv_iconst (v := 0) hx hb dX8_ofInt_29 (by decide) ?_
        refine lv_iconst (v := 0) hx hb dX8_ofInt_30 (by decide) ?_
        refine cl_i (ws' := fun u11 => (w0_ cI cZ ())) (va_runS (As := [.int 0, .long x9, .int 0, .int 0]) (rest := []) ⟨hx, hb, hml, hown, hts⟩ (c_X8_rounded l D cI cZ _ () 0 x9 0 0 _ h ) (va_cwS 4 hts (gS q_1310 q_1311 q_75 q_1312) rfl rfl rfl (by decide +kernel) ⟨Nat.le_of_ble_eq_true rfl, Nat.le_of_ble_eq_true rfl⟩) (preS_of hK hP hD [] rfl rfl (by decide)) rfl rfl hl.1 rfl (lv_room (Nat.le_of_ble_eq_true rfl)) dX8_ofInt_31 ⟨Nat.zero_le _, Nat.zero_le _⟩) hP hD hS hA [] [] rfl (by decide) (fun _ => rfl) (fun _ => rfl) (fun r12 u11 H locs h hP hD hS => ?_)
        exact W.iret (v := r12) hx hb hr (fun t ht hW => ⟨⟨r12, (), rfl, h, by rw [ht]; exact hP, va_K.moved hW.alike hK, hD⟩, hS.F ht⟩) hS.2.2 dX8_ofInt_34
      · have h := h.2 c10
        refine lv_iconst (v := 1) hx hb dX8_ofInt_23 (by decide) ?_
        refine lv_goto (tgt := 28) hx hb dX8_ofInt_24 (by decide) ?_
        refine lv_lload_n hx hb dX8_ofInt_28 rfl (lv_at hl 0 rfl) ?_
        refine lv_iconst (v := 0) hx hb dX8_ofInt_29 (by decide) ?_
        refine lv_iconst (v := 0) hx hb dX8_ofInt_30 (by decide) ?_
        refine cl_i (ws' := fun u13 => (w0_ cI cZ ())) (va_runS (As := [.int 1, .long x9, .int 0, .int 0]) (rest := []) ⟨hx, hb, hml, hown, hts⟩ (c_X8_rounded l D cI cZ _ () 1 x9 0 0 _ h ) (va_cwS 4 hts (gS q_1310 q_1311 q_75 q_1312) rfl rfl rfl (by decide +kernel) ⟨Nat.le_of_ble_eq_true rfl, Nat.le_of_ble_eq_true rfl⟩) (preS_of hK hP hD [] rfl rfl (by decide)) rfl rfl hl.1 rfl (lv_room (Nat.le_of_ble_eq_true rfl)) dX8_ofInt_31 ⟨Nat.zero_le _, Nat.zero_le _⟩) hP hD hS hA [] [] rfl (by decide) (fun _ => rfl) (fun _ => rfl) (fun r14 u13 H locs h hP hD hS => ?_)
        exact W.iret (v := r14) hx hb hr (fun t ht hW => ⟨⟨r14, (), rfl, h, by rw [ht]; exact hP, va_K.moved hW.alike hK, hD⟩, hS.F ht⟩) hS.2.2 dX8_ofInt_34
  · have h := h.2 c1
    refine lv_iconst (v := 0) hx hb dX8_ofInt_4 (by decide) ?_
    exact W.iret (v := 0) hx hb hr (fun t ht hW => ⟨⟨0, (), rfl, h, by rw [ht]; exact hP, va_K.moved hW.alike hK, hD⟩, hS.F ht⟩) hS.2.2 dX8_ofInt_5
/-! X8_toInt -/
abbrev rmX8_toInt : Room := { frames := 1, cells := 0, slots := 0, locals := 21 }
set_option maxHeartbeats 4000000 in
set_option maxRecDepth 100000 in
theorem c_X8_toInt (l : Launch) (D : va_G) (cI cZ : ClassId) (sz : Nat) (S : Unit) (p0 : Int32) (Q : Int32 → Unit → Prop) (h : wp_X8_toInt S p0 Q) : Met l yX8_toInt (wsm yX8_toInt cX8_toInt 5 (some .int)) rmX8_toInt (va_Pc [.int p0] (preW D cI cZ sz (w0_ cI cZ S))) (va_Qi Q (fun u => atW D cI cZ (va_A (w0_ cI cZ S) sz) (w0_ cI cZ u)) (va_A (w0_ cI cZ S) sz)) 0 0 (va_A (w0_ cI cZ S) sz) := by
  refine Met.ofW (cc := cX8_toInt) (maxL := 5) (ret := (some .int)) (by decide) rfl ?_
  intro p e s m args below meth c s₁ B hml hv
  obtain ⟨rfl, hsz, hP, hK, hD0⟩ := hv
  have hx := B.exec
  have hb := B.bytes
  have hr := B.returns
  have hts0 := atoms_spec (ws := wsm yX8_toInt cX8_toInt 5 (some .int)) B.pre
  have hts : ∀ w ∈ lw_all, w.before _ s = true := fun w h => hts0 w (List.mem_cons_of_mem _ h)
  have hown : s.vm.findClass RX8 = some m.cls := findClass_of_methodNamed B.named
  have hlocks := B.notSynchronized
  subst hsz
  have hD := hD0.self (sz := s.heap.size)
  generalize hAe : va_A (w0_ cI cZ S) s.heap.size = A at hD ⊢
  have hA : ∀ q : Nat, s.heap.size ≤ q → A q := fun q h => by rw [← hAe]; exact Or.inr h
  have hS : va_S A s.heap s.heap [] := va_S.rf
  have hml2 := hml
  have L38 : ∀ (n : Nat), ∀ (y0 : Int32) (y1 : Int64) (y3 : Int32) (y4 : Int32) (T : Unit) (H : Heap) (locs : List Loc) (ls : Array Slot), va_P D vwCl (w0_ cI cZ T) H → va_D A (w0_ cI cZ T) → va_S A s.heap H locs → lv_has ls 5 [(0, .int y0), (1, .long y1), (3, .int y3), (4, .int y4)] → wp_X8_toInt_L38 Q n y0 y1 y3 y4 T → W p l e rmX8_toInt s m ([.int p0] : List Value).toArray below meth c H locs 0 0 (MQ below (va_Qi Q (fun u => atW D cI cZ A (w0_ cI cZ u)) A) ([.int p0] : List Value).toArray s 0 0 A) (F0 m 38 ls []) := by
    intro n
    induction n with
    | zero =>
      intro y0 y1 y3 y4 T H locs ls hP hD hS hl h
      exact False.elim h
    | succ n ih =>
      intro y0 y1 y3 y4 T H locs ls hP hD hS hl h
      unfold wp_X8_toInt_L38 at h
      refine lv_iload hx hb dX8_toInt_38 (lv_at hl 3 rfl) ?_
      refine lv_iload_n hx hb dX8_toInt_40 rfl (lv_at hl 2 rfl) ?_
      refine lv_icmp_ge (tgt := 62) hx hb dX8_toInt_41 (by decide) (fun c9 => ?_) (fun c9 => ?_)
      · have h := h.1 c9
        refine lv_iload_n hx hb dX8_toInt_62 rfl (lv_at hl 0 rfl) ?_
        refine lv_if_ge (tgt := 83) hx hb dX8_toInt_63 (by decide) (fun c10 => ?_) (fun c10 => ?_)
        · have h := h.1 c10
          refine lv_lload_n hx hb dX8_toInt_83 rfl (lv_at hl 1 rfl) ?_
          refine lv_ldc2 hx hb hown (hts _ q_1358) dX8_toInt_84 ?_
          refine W.lcmp hx hb dX8_toInt_87 ?_
          refine lv_if_le (tgt := 96) hx hb dX8_toInt_88 (by decide) (fun c11 => ?_) (fun c11 => ?_)
          · have h := h.1 c11
            refine lv_lload_n hx hb dX8_toInt_96 rfl (lv_at hl 1 rfl) ?_
            refine lv_l2i (v := (Int64.toInt32 y1)) hx hb dX8_toInt_97 rfl ?_
            exact W.iret (v := (Int64.toInt32 y1)) hx hb hr (fun t ht hW => ⟨⟨(Int64.toInt32 y1), (), rfl, h, by rw [ht]; exact hP, va_K.moved hW.alike hK, hD⟩, hS.F ht⟩) hS.2.2 dX8_toInt_98
          · have h := h.2 c11
            refine lv_ldc hx hb hown (hts _ q_1359) dX8_toInt_91 ?_
            refine lv_goto (tgt := 98) hx hb dX8_toInt_93 (by decide) ?_
            exact W.iret (v := 2147483647) hx hb hr (fun t ht hW => ⟨⟨2147483647, (), rfl, h, by rw [ht]; exact hP, va_K.moved hW.alike hK, hD⟩, hS.F ht⟩) hS.2.2 dX8_toInt_98
        · have h := h.2 c10
          refine lv_lload_n hx hb dX8_toInt_66 rfl (lv_at hl 1 rfl) ?_
          refine lv_ldc2 hx hb hown (hts _ q_1357) dX8_toInt_67 ?_
          refine W.lcmp hx hb dX8_toInt_70 ?_
          refine lv_if_le (tgt := 79) hx hb dX8_toInt_71 (by decide) (fun c12 => ?_) (fun c12 => ?_)
          · have h := h.1 c12
            refine lv_lload_n hx hb dX8_toInt_79 rfl (lv_at hl 1 rfl) ?_
            refine lv_lneg hx hb dX8_toInt_80 ?_
            refine lv_l2i (v := (Int64.toInt32 (-y1))) hx hb dX8_toInt_81 rfl ?_
            exact W.iret (v := (Int64.toInt32 (-y1))) hx hb hr (fun t ht hW => ⟨⟨(Int64.toInt32 (-y1)), (), rfl, h, by rw [ht]; exact hP, va_K.moved hW.alike hK, hD⟩, hS.F ht⟩) hS.2.2 dX8_toInt_82
          · have h := h.2 c12
            refine lv_ldc hx hb hown (hts _ q_1306) dX8_toInt_74 ?_
            refine lv_goto (tgt := 82) hx hb dX8_toInt_76 (by decide) ?_
            exact W.iret (v := (-2147483648)) hx hb hr (fun t ht hW => ⟨⟨(-2147483648), (), rfl, h, by rw [ht]; exact hP, va_K.moved hW.alike hK, hD⟩, hS.F ht⟩) hS.2.2 dX8_toInt_82
      · have h := h.2 c9
        refine lv_lload_n hx hb dX8_toInt_44 rfl (lv_at hl 1 rfl) ?_
        refine lv_ldc2 hx hb hown (hts _ q_1356) dX8_toInt_45 ?_
        refine W.lcmp hx hb dX8_toInt_48 ?_
        refine lv_if_ge (tgt := 62) hx hb dX8_toInt_49 (by decide) (fun c13 => ?_) (fun c13 => ?_)
        · have h := h.1 c13
          refine lv_iload_n hx hb dX8_toInt_62 rfl (lv_at hl 0 rfl) ?_
          refine lv_if_ge (tgt := 83) hx hb dX8_toInt_63 (by decide) (fun c14 => ?_) (fun c14 => ?_)
          · have h := h.1 c14
            refine lv_lload_n hx hb dX8_toInt_83 rfl (lv_at hl 1 rfl) ?_
            refine lv_ldc2 hx hb hown (hts _ q_1358) dX8_toInt_84 ?_
            refine W.lcmp hx hb dX8_toInt_87 ?_
            refine lv_if_le (tgt := 96) hx hb dX8_toInt_88 (by decide) (fun c15 => ?_) (fun c15 => ?_)
            · have h := h.1 c15
              refine lv_lload_n hx hb dX8_toInt_96 rfl (lv_at hl 1 rfl) ?_
              refine lv_l2i (v := (Int64.toInt32 y1)) hx hb dX8_toInt_97 rfl ?_
              exact W.iret (v := (Int64.toInt32 y1)) hx hb hr (fun t ht hW => ⟨⟨(Int64.toInt32 y1), (), rfl, h, by rw [ht]; exact hP, va_K.moved hW.alike hK, hD⟩, hS.F ht⟩) hS.2.2 dX8_toInt_98
            · have h := h.2 c15
              refine lv_ldc hx hb hown (hts _ q_1359) dX8_toInt_91 ?_
              refine lv_goto (tgt := 98) hx hb dX8_toInt_93 (by decide) ?_
              exact W.iret (v := 2147483647) hx hb hr (fun t ht hW => ⟨⟨2147483647, (), rfl, h, by rw [ht]; exact hP, va_K.moved hW.alike hK, hD⟩, hS.F ht⟩) hS.2.2 dX8_toInt_98
          · have h := h.2 c14
            refine lv_lload_n hx hb dX8_toInt_66 rfl (lv_at hl 1 rfl) ?_
            refine lv_ldc2 hx hb hown (hts _ q_1357) dX8_toInt_67 ?_
            refine W.lcmp hx hb dX8_toInt_70 ?_
            refine lv_if_le (tgt := 79) hx hb dX8_toInt_71 (by decide) (fun c16 => ?_) (fun c16 => ?_)
            · have h := h.1 c16
              refine lv_lload_n hx hb dX8_toInt_79 rfl (lv_at hl 1 rfl) ?_
              refine lv_lneg hx hb dX8_toInt_80 ?_
              refine lv_l2i (v := (Int64.toInt32 (-y1))) hx hb dX8_toInt_81 rfl ?_
              exact W.iret (v := (Int64.toInt32 (-y1))) hx hb hr (fun t ht hW => ⟨⟨(Int64.toInt32 (-y1)), (), rfl, h, by rw [ht]; exact hP, va_K.moved hW.alike hK, hD⟩, hS.F ht⟩) hS.2.2 dX8_toInt_82
            · have h := h.2 c16
              refine lv_ldc hx hb hown (hts _ q_1306) dX8_toInt_74 ?_
              refine lv_goto (tgt := 82) hx hb dX8_toInt_76 (by decide) ?_
              exact W.iret (v := (-2147483648)) hx hb hr (fun t ht hW => ⟨⟨(-2147483648), (), rfl, h, by rw [ht]; exact hP, va_K.moved hW.alike hK, hD⟩, hS.F ht⟩) hS.2.2 dX8_toInt_82
        · have h := h.2 c13
          refine lv_lload_n hx hb dX8_toInt_52 rfl (lv_at hl 1 rfl) ?_
          refine lv_iconst (v := 1) hx hb dX8_toInt_53 (by decide) ?_
          refine lv_lshl (v := (y1 <<< ((Int32.toInt64 1) &&& 63))) hx hb dX8_toInt_54 rfl ?_
          refine lv_topl (fun x17 ex17 => ?_)
          have h := h x17 ex17
          refine lv_lstore_n (lv' := [(1, .long x17), (0, .int y0), (3, .int y3), (4, .int y4)]) hx hb dX8_toInt_55 rfl hl (by decide) rfl (fun ls hl => ?_)
          obtain ⟨x18, ex18⟩ : ∃ y : Int32, y = (y4 + 1) := ⟨_, rfl⟩
          have h := h x18 ex18
          refine lv_iinc (v := x18) (lv' := [(4, .int x18), (1, .long x17), (0, .int y0), (3, .int y3)]) hx hb dX8_toInt_56 hl (k := 3) rfl (by rw [ex18]; rfl) (by decide) rfl (fun ls hl => ?_)
          refine lv_goto (tgt := 38) hx hb dX8_toInt_59 (by decide) ?_
          exact ih y0 x17 y3 x18 () _ _ _ hP hD hS (lv_sub hl [2, 1, 3, 0] rfl) h
  have L13 : ∀ (n : Nat), ∀ (y0 : Int32) (y1 : Int64) (y3 : Int32) (y4 : Int32) (T : Unit) (H : Heap) (locs : List Loc) (ls : Array Slot), va_P D vwCl (w0_ cI cZ T) H → va_D A (w0_ cI cZ T) → va_S A s.heap H locs → lv_has ls 5 [(0, .int y0), (1, .long y1), (3, .int y3), (4, .int y4)] → wp_X8_toInt_L13 Q n y0 y1 y3 y4 T → W p l e rmX8_toInt s m ([.int p0] : List Value).toArray below meth c H locs 0 0 (MQ below (va_Qi Q (fun u => atW D cI cZ A (w0_ cI cZ u)) A) ([.int p0] : List Value).toArray s 0 0 A) (F0 m 13 ls []) := by
    intro n
    induction n with
    | zero =>
      intro y0 y1 y3 y4 T H locs ls hP hD hS hl h
      exact False.elim h
    | succ n ih =>
      intro y0 y1 y3 y4 T H locs ls hP hD hS hl h
      unfold wp_X8_toInt_L13 at h
      refine lv_iload hx hb dX8_toInt_13 (lv_at hl 3 rfl) ?_
      refine lv_iload_n hx hb dX8_toInt_15 rfl (lv_at hl 2 rfl) ?_
      refine lv_icmp_le (tgt := 35) hx hb dX8_toInt_16 (by decide) (fun c5 => ?_) (fun c5 => ?_)
      · have h := h.1 c5
        refine lv_iconst (v := 0) hx hb dX8_toInt_35 (by decide) ?_
        refine lv_istore (lv' := [(4, .int 0), (0, .int y0), (1, .long y1), (3, .int y3)]) hx hb dX8_toInt_36 hl (by decide) rfl (fun ls hl => ?_)
        exact L38 2000 y0 y1 y3 0 () _ _ _ hP hD hS (lv_sub hl [1, 2, 3, 0] rfl) h
      · have h := h.2 c5
        refine lv_lload_n hx hb dX8_toInt_19 rfl (lv_at hl 1 rfl) ?_
        refine lv_lconst (v := 0) hx hb dX8_toInt_20 (by decide) ?_
        refine W.lcmp hx hb dX8_toInt_21 ?_
        refine lv_if_le (tgt := 35) hx hb dX8_toInt_22 (by decide) (fun c6 => ?_) (fun c6 => ?_)
        · have h := h.1 c6
          refine lv_iconst (v := 0) hx hb dX8_toInt_35 (by decide) ?_
          refine lv_istore (lv' := [(4, .int 0), (0, .int y0), (1, .long y1), (3, .int y3)]) hx hb dX8_toInt_36 hl (by decide) rfl (fun ls hl => ?_)
          exact L38 2000 y0 y1 y3 0 () _ _ _ hP hD hS (lv_sub hl [1, 2, 3, 0] rfl) h
        · have h := h.2 c6
          refine lv_lload_n hx hb dX8_toInt_25 rfl (lv_at hl 1 rfl) ?_
          refine lv_iconst (v := 1) hx hb dX8_toInt_26 (by decide) ?_
          refine lv_lshr (v := (y1 >>> ((Int32.toInt64 1) &&& 63))) hx hb dX8_toInt_27 rfl ?_
          refine lv_topl (fun x7 ex7 => ?_)
          have h := h x7 ex7
          refine lv_lstore_n (lv' := [(1, .long x7), (0, .int y0), (3, .int y3), (4, .int y4)]) hx hb dX8_toInt_28 rfl hl (by decide) rfl (fun ls hl => ?_)
          obtain ⟨x8, ex8⟩ : ∃ y : Int32, y = (y4 + (-1)) := ⟨_, rfl⟩
          have h := h x8 ex8
          refine lv_iinc (v := x8) (lv' := [(4, .int x8), (1, .long x7), (0, .int y0), (3, .int y3)]) hx hb dX8_toInt_29 hl (k := 3) rfl (by rw [ex8]; rfl) (by decide) rfl (fun ls hl => ?_)
          refine lv_goto (tgt := 13) hx hb dX8_toInt_32 (by decide) ?_
          exact ih y0 x7 y3 x8 () _ _ _ hP hD hS (lv_sub hl [2, 1, 3, 0] rfl) h
  have hl := lv_entry ([.int p0]) (n := 5) (Nat.le_of_ble_eq_true rfl)
  rw [lg_entry_eq]
  generalize (lg_sl ([.int p0]) ++ List.replicate (5 - (lg_sl ([.int p0])).length) Slot.unset).toArray = ls at hl ⊢
  have hl : lv_has ls 5 [(0, .int p0)] := hl
  unfold wp_X8_toInt at h
  refine lv_iload_n hx hb dX8_toInt_0 rfl (lv_at hl 0 rfl) ?_
  refine cl_l (ws' := fun u1 => (w0_ cI cZ ())) (va_runS (As := [.int p0]) (rest := []) ⟨hx, hb, hml, hown, hts⟩ (c_X8_fraction l D cI cZ _ () p0 _ h ) (va_cwS 1 hts (gS q_1301 q_1302 q_75 q_1303) rfl rfl rfl (by decide +kernel) ⟨Nat.le_of_ble_eq_true rfl, Nat.le_of_ble_eq_true rfl⟩) (preS_of hK hP hD [] rfl rfl (by decide)) rfl rfl hl.1 rfl (lv_room (Nat.le_of_ble_eq_true rfl)) dX8_toInt_1 ⟨Nat.zero_le _, Nat.zero_le _⟩) hP hD hS hA [] [] rfl (by decide) (fun _ => rfl) (fun _ => rfl) (fun r2 u1 H locs h hP hD hS => ?_)
  refine lv_lstore_n (lv' := [(1, .long r2), (0, .int p0)]) hx hb dX8_toInt_4 rfl hl (by decide) rfl (fun ls hl => ?_)
  refine lv_iload_n hx hb dX8_toInt_5 rfl (lv_at hl 1 rfl) ?_
  refine cl_i (ws' := fun u3 => (w0_ cI cZ ())) (va_runS (As := [.int p0]) (rest := []) ⟨hx, hb, hml, hown, hts⟩ (c_X8_place l D cI cZ _ () p0 _ h ) (va_cwS 1 hts (gS q_1307 q_1308 q_75 q_1309) rfl rfl rfl (by decide +kernel) ⟨Nat.le_of_ble_eq_true rfl, Nat.le_of_ble_eq_true rfl⟩) (preS_of hK hP hD [] rfl rfl (by decide)) rfl rfl hl.1 rfl (lv_room (Nat.le_of_ble_eq_true rfl)) dX8_toInt_6 ⟨Nat.zero_le _, Nat.zero_le _⟩) hP hD hS hA [] [] rfl (by decide) (fun _ => rfl) (fun _ => rfl) (fun r4 u3 H locs h hP hD hS => ?_)
  refine lv_istore_n (lv' := [(3, .int r4), (1, .long r2), (0, .int p0)]) hx hb dX8_toInt_9 rfl hl (by decide) rfl (fun ls hl => ?_)
  refine lv_iconst (v := 0) hx hb dX8_toInt_10 (by decide) ?_
  refine lv_istore (lv' := [(4, .int 0), (3, .int r4), (1, .long r2), (0, .int p0)]) hx hb dX8_toInt_11 hl (by decide) rfl (fun ls hl => ?_)
  exact L13 2000 p0 r2 r4 0 () _ _ _ hP hD hS (lv_sub hl [3, 2, 1, 0] rfl) h
/-! X8_groupOf -/
abbrev rmX8_groupOf : Room := { frames := 0, cells := 0, slots := 0, locals := 0 }
set_option maxHeartbeats 4000000 in
set_option maxRecDepth 100000 in
theorem c_X8_groupOf (l : Launch) (D : va_G) (cI cZ : ClassId) (b : Nat → Nat) (sz : Nat) (S : (Nat → Int32)) (p0 : Int32) (p1 : Int32) (Q : Int32 → (Nat → Int32) → Prop) (h : wp_X8_groupOf S p0 p1 Q) : Met l yX8_groupOf (wsm yX8_groupOf cX8_groupOf 3 (some .int)) rmX8_groupOf (va_Pc [.ref (b 0), .int p0, .int p1] (preW D cI cZ sz (wR1 cI cZ b S))) (va_Qi Q (fun u => atW D cI cZ (va_A (wR1 cI cZ b S) sz) (wR1 cI cZ b u)) (va_A (wR1 cI cZ b S) sz)) 0 0 (va_A (wR1 cI cZ b S) sz) := by
  refine Met.ofW (cc := cX8_groupOf) (maxL := 3) (ret := (some .int)) (by decide) rfl ?_
  intro p e s m args below meth c s₁ B hml hv
  obtain ⟨rfl, hsz, hP, hK, hD0⟩ := hv
  have hx := B.exec
  have hb := B.bytes
  have hr := B.returns
  have hts0 := atoms_spec (ws := wsm yX8_groupOf cX8_groupOf 3 (some .int)) B.pre
  have hts : ∀ w ∈ lw_all, w.before _ s = true := fun w h => hts0 w (List.mem_cons_of_mem _ h)
  have hown : s.vm.findClass RX8 = some m.cls := findClass_of_methodNamed B.named
  have hlocks := B.notSynchronized
  subst hsz
  have hD := hD0.self (sz := s.heap.size)
  generalize hAe : va_A (wR1 cI cZ b S) s.heap.size = A at hD ⊢
  have hA : ∀ q : Nat, s.heap.size ≤ q → A q := fun q h => by rw [← hAe]; exact Or.inr h
  have hS : va_S A s.heap s.heap [] := va_S.rf
  have hml2 := hml
  have hl := lv_entry ([.ref (b 0), .int p0, .int p1]) (n := 3) (Nat.le_of_ble_eq_true rfl)
  rw [lg_entry_eq]
  generalize (lg_sl ([.ref (b 0), .int p0, .int p1]) ++ List.replicate (3 - (lg_sl ([.ref (b 0), .int p0, .int p1])).length) Slot.unset).toArray = ls at hl ⊢
  have hl : lv_has ls 3 [(0, .ref (b 0)), (1, .int p0), (2, .int p1)] := hl
  unfold wp_X8_groupOf at h
  refine lv_iload_n hx hb dX8_groupOf_0 rfl (lv_at hl 1 rfl) ?_
  refine lv_bipush (v := 20) hx hb dX8_groupOf_1 (by decide) ?_
  refine lv_icmp_ne (tgt := 10) hx hb dX8_groupOf_3 (by decide) (fun c1 => ?_) (fun c1 => ?_)
  · have h := h.1 c1
    refine lv_aload_n hx hb dX8_groupOf_10 rfl (lv_at hl 0 rfl) ?_
    refine lv_sipush (v := 173) hx hb dX8_groupOf_11 (by decide) ?_
    refine lv_iload_n hx hb dX8_groupOf_14 rfl (lv_at hl 1 rfl) ?_
    refine lv_iadd hx hb dX8_groupOf_15 ?_
    refine ar_il (f := S) (n := 342) (j := (Int32.toNatClampNeg (173 + p0))) hx hb hK hP 0 rfl rfl h.1 dX8_groupOf_16 ?_
    have h := h.2
    refine lv_iload_n hx hb dX8_groupOf_17 rfl (lv_at hl 2 rfl) ?_
    refine lv_ishr hx hb dX8_groupOf_18 ?_
    exact W.iret (v := ((S (Int32.toNatClampNeg (173 + p0))) >>> (p1 &&& 31))) hx hb hr (fun t ht hW => ⟨⟨((S (Int32.toNatClampNeg (173 + p0))) >>> (p1 &&& 31)), S, rfl, h, by rw [ht]; exact hP, va_K.moved hW.alike hK, hD⟩, hS.F ht⟩) hS.2.2 dX8_groupOf_19
  · have h := h.2 c1
    refine lv_iconst (v := -1) hx hb dX8_groupOf_6 (by decide) ?_
    refine lv_goto (tgt := 19) hx hb dX8_groupOf_7 (by decide) ?_
    exact W.iret (v := (-1)) hx hb hr (fun t ht hW => ⟨⟨(-1), S, rfl, h, by rw [ht]; exact hP, va_K.moved hW.alike hK, hD⟩, hS.F ht⟩) hS.2.2 dX8_groupOf_19
/-! X8_subOf -/
abbrev rmX8_subOf : Room := { frames := 0, cells := 0, slots := 0, locals := 0 }
set_option maxHeartbeats 4000000 in
set_option maxRecDepth 100000 in
theorem c_X8_subOf (l : Launch) (D : va_G) (cI cZ : ClassId) (b : Nat → Nat) (sz : Nat) (S : (Nat → Int32)) (p0 : Int32) (p1 : Int32) (Q : Int32 → (Nat → Int32) → Prop) (h : wp_X8_subOf S p0 p1 Q) : Met l yX8_subOf (wsm yX8_subOf cX8_subOf 3 (some .int)) rmX8_subOf (va_Pc [.ref (b 0), .int p0, .int p1] (preW D cI cZ sz (wR1 cI cZ b S))) (va_Qi Q (fun u => atW D cI cZ (va_A (wR1 cI cZ b S) sz) (wR1 cI cZ b u)) (va_A (wR1 cI cZ b S) sz)) 0 0 (va_A (wR1 cI cZ b S) sz) := by
  refine Met.ofW (cc := cX8_subOf) (maxL := 3) (ret := (some .int)) (by decide) rfl ?_
  intro p e s m args below meth c s₁ B hml hv
  obtain ⟨rfl, hsz, hP, hK, hD0⟩ := hv
  have hx := B.exec
  have hb := B.bytes
  have hr := B.returns
  have hts0 := atoms_spec (ws := wsm yX8_subOf cX8_subOf 3 (some .int)) B.pre
  have hts : ∀ w ∈ lw_all, w.before _ s = true := fun w h => hts0 w (List.mem_cons_of_mem _ h)
  have hown : s.vm.findClass RX8 = some m.cls := findClass_of_methodNamed B.named
  have hlocks := B.notSynchronized
  subst hsz
  have hD := hD0.self (sz := s.heap.size)
  generalize hAe : va_A (wR1 cI cZ b S) s.heap.size = A at hD ⊢
  have hA : ∀ q : Nat, s.heap.size ≤ q → A q := fun q h => by rw [← hAe]; exact Or.inr h
  have hS : va_S A s.heap s.heap [] := va_S.rf
  have hml2 := hml
  have hl := lv_entry ([.ref (b 0), .int p0, .int p1]) (n := 3) (Nat.le_of_ble_eq_true rfl)
  rw [lg_entry_eq]
  generalize (lg_sl ([.ref (b 0), .int p0, .int p1]) ++ List.replicate (3 - (lg_sl ([.ref (b 0), .int p0, .int p1])).length) Slot.unset).toArray = ls at hl ⊢
  have hl : lv_has ls 3 [(0, .ref (b 0)), (1, .int p0), (2, .int p1)] := hl
  unfold wp_X8_subOf at h
  refine lv_iload_n hx hb dX8_subOf_0 rfl (lv_at hl 1 rfl) ?_
  refine lv_bipush (v := 20) hx hb dX8_subOf_1 (by decide) ?_
  refine lv_icmp_ne (tgt := 10) hx hb dX8_subOf_3 (by decide) (fun c1 => ?_) (fun c1 => ?_)
  · have h := h.1 c1
    refine lv_aload_n hx hb dX8_subOf_10 rfl (lv_at hl 0 rfl) ?_
    refine lv_sipush (v := 173) hx hb dX8_subOf_11 (by decide) ?_
    refine lv_iload_n hx hb dX8_subOf_14 rfl (lv_at hl 1 rfl) ?_
    refine lv_iadd hx hb dX8_subOf_15 ?_
    refine ar_il (f := S) (n := 342) (j := (Int32.toNatClampNeg (173 + p0))) hx hb hK hP 0 rfl rfl h.1 dX8_subOf_16 ?_
    have h := h.2
    refine lv_aload_n hx hb dX8_subOf_17 rfl (lv_at hl 0 rfl) ?_
    refine lv_sipush (v := 173) hx hb dX8_subOf_18 (by decide) ?_
    refine lv_iload_n hx hb dX8_subOf_21 rfl (lv_at hl 1 rfl) ?_
    refine lv_iadd hx hb dX8_subOf_22 ?_
    refine ar_il (f := S) (n := 342) (j := (Int32.toNatClampNeg (173 + p0))) hx hb hK hP 0 rfl rfl h.1 dX8_subOf_23 ?_
    have h := h.2
    refine lv_iload_n hx hb dX8_subOf_24 rfl (lv_at hl 2 rfl) ?_
    refine lv_ishr hx hb dX8_subOf_25 ?_
    refine lv_iload_n hx hb dX8_subOf_26 rfl (lv_at hl 2 rfl) ?_
    refine lv_ishl hx hb dX8_subOf_27 ?_
    refine lv_isub hx hb dX8_subOf_28 ?_
    exact W.iret (v := ((S (Int32.toNatClampNeg (173 + p0))) - (((S (Int32.toNatClampNeg (173 + p0))) >>> (p1 &&& 31)) <<< (p1 &&& 31)))) hx hb hr (fun t ht hW => ⟨⟨((S (Int32.toNatClampNeg (173 + p0))) - (((S (Int32.toNatClampNeg (173 + p0))) >>> (p1 &&& 31)) <<< (p1 &&& 31))), S, rfl, h, by rw [ht]; exact hP, va_K.moved hW.alike hK, hD⟩, hS.F ht⟩) hS.2.2 dX8_subOf_29
  · have h := h.2 c1
    refine lv_iconst (v := 0) hx hb dX8_subOf_6 (by decide) ?_
    refine lv_goto (tgt := 29) hx hb dX8_subOf_7 (by decide) ?_
    exact W.iret (v := 0) hx hb hr (fun t ht hW => ⟨⟨0, S, rfl, h, by rw [ht]; exact hP, va_K.moved hW.alike hK, hD⟩, hS.F ht⟩) hS.2.2 dX8_subOf_29
/-! X8_limitOf -/
abbrev rmX8_limitOf : Room := { frames := 1, cells := 0, slots := 0, locals := 22 }
set_option maxHeartbeats 4000000 in
set_option maxRecDepth 100000 in
theorem c_X8_limitOf (l : Launch) (D : va_G) (cI cZ : ClassId) (b : Nat → Nat) (sz : Nat) (S : (Nat → Int32)) (p0 : Int32) (p1 : Int32) (Q : Int32 → (Nat → Int32) → Prop) (h : wp_X8_limitOf S p0 p1 Q) : Met l yX8_limitOf (wsm yX8_limitOf cX8_limitOf 6 (some .int)) rmX8_limitOf (va_Pc [.ref (b 0), .int p0, .int p1] (preW D cI cZ sz (wR1 cI cZ b S))) (va_Qi Q (fun u => atW D cI cZ (va_A (wR1 cI cZ b S) sz) (wR1 cI cZ b u)) (va_A (wR1 cI cZ b S) sz)) 0 0 (va_A (wR1 cI cZ b S) sz) := by
  refine Met.ofW (cc := cX8_limitOf) (maxL := 6) (ret := (some .int)) (by decide) rfl ?_
  intro p e s m args below meth c s₁ B hml hv
  obtain ⟨rfl, hsz, hP, hK, hD0⟩ := hv
  have hx := B.exec
  have hb := B.bytes
  have hr := B.returns
  have hts0 := atoms_spec (ws := wsm yX8_limitOf cX8_limitOf 6 (some .int)) B.pre
  have hts : ∀ w ∈ lw_all, w.before _ s = true := fun w h => hts0 w (List.mem_cons_of_mem _ h)
  have hown : s.vm.findClass RX8 = some m.cls := findClass_of_methodNamed B.named
  have hlocks := B.notSynchronized
  subst hsz
  have hD := hD0.self (sz := s.heap.size)
  generalize hAe : va_A (wR1 cI cZ b S) s.heap.size = A at hD ⊢
  have hA : ∀ q : Nat, s.heap.size ≤ q → A q := fun q h => by rw [← hAe]; exact Or.inr h
  have hS : va_S A s.heap s.heap [] := va_S.rf
  have hml2 := hml
  have L7 : ∀ (n : Nat), ∀ (y1 : Int32) (y2 : Int32) (y3 : Int32) (y4 : Int32) (T : (Nat → Int32)) (H : Heap) (locs : List Loc) (ls : Array Slot), va_P D vwCl (wR1 cI cZ b T) H → va_D A (wR1 cI cZ b T) → va_S A s.heap H locs → lv_has ls 6 [(0, .ref (b 0)), (1, .int y1), (2, .int y2), (3, .int y3), (4, .int y4)] → wp_X8_limitOf_L7 Q n y1 y2 y3 y4 T → W p l e rmX8_limitOf s m ([.ref (b 0), .int p0, .int p1] : List Value).toArray below meth c H locs 0 0 (MQ below (va_Qi Q (fun u => atW D cI cZ A (wR1 cI cZ b u)) A) ([.ref (b 0), .int p0, .int p1] : List Value).toArray s 0 0 A) (F0 m 7 ls []) := by
    intro n
    induction n with
    | zero =>
      intro y1 y2 y3 y4 T H locs ls hP hD hS hl h
      exact False.elim h
    | succ n ih =>
      intro y1 y2 y3 y4 T H locs ls hP hD hS hl h
      unfold wp_X8_limitOf_L7 at h
      refine lv_iload hx hb dX8_limitOf_7 (lv_at hl 4 rfl) ?_
      refine lv_aload_n hx hb dX8_limitOf_9 rfl (lv_at hl 0 rfl) ?_
      refine lv_bipush (v := 30) hx hb dX8_limitOf_10 (by decide) ?_
      refine ar_il (f := T) (n := 342) (j := 30) hx hb hK hP 0 rfl (by decide) (okLit (by decide)) dX8_limitOf_12 ?_
      refine lv_icmp_ge (tgt := 46) hx hb dX8_limitOf_13 (by decide) (fun c1 => ?_) (fun c1 => ?_)
      · have h := h.1 c1
        refine lv_aload_n hx hb dX8_limitOf_46 rfl (lv_at hl 0 rfl) ?_
        refine lv_bipush (v := 17) hx hb dX8_limitOf_47 (by decide) ?_
        refine ar_il (f := T) (n := 342) (j := 17) hx hb hK hP 0 rfl (by decide) (okLit (by decide)) dX8_limitOf_49 ?_
        refine lv_if_eq (tgt := 70) hx hb dX8_limitOf_50 (by decide) (fun c2 => ?_) (fun c2 => ?_)
        · have h := h.1 c2
          refine lv_iload_n hx hb dX8_limitOf_70 rfl (lv_at hl 2 rfl) ?_
          refine lv_if_eq (tgt := 80) hx hb dX8_limitOf_71 (by decide) (fun c3 => ?_) (fun c3 => ?_)
          · have h := h.1 c3
            refine lv_iload_n hx hb dX8_limitOf_80 rfl (lv_at hl 3 rfl) ?_
            exact W.iret (v := y3) hx hb hr (fun t ht hW => ⟨⟨y3, T, rfl, h, by rw [ht]; exact hP, va_K.moved hW.alike hK, hD⟩, hS.F ht⟩) hS.2.2 dX8_limitOf_81
          · have h := h.2 c3
            refine lv_iload_n hx hb dX8_limitOf_74 rfl (lv_at hl 3 rfl) ?_
            refine lv_if_le (tgt := 80) hx hb dX8_limitOf_75 (by decide) (fun c4 => ?_) (fun c4 => ?_)
            · have h := h.1 c4
              refine lv_iload_n hx hb dX8_limitOf_80 rfl (lv_at hl 3 rfl) ?_
              exact W.iret (v := y3) hx hb hr (fun t ht hW => ⟨⟨y3, T, rfl, h, by rw [ht]; exact hP, va_K.moved hW.alike hK, hD⟩, hS.F ht⟩) hS.2.2 dX8_limitOf_81
            · have h := h.2 c4
              refine lv_iconst (v := 0) hx hb dX8_limitOf_78 (by decide) ?_
              refine lv_istore_n (lv' := [(3, .int 0), (0, .ref (b 0)), (1, .int y1), (2, .int y2), (4, .int y4)]) hx hb dX8_limitOf_79 rfl hl (by decide) rfl (fun ls hl => ?_)
              refine lv_iload_n hx hb dX8_limitOf_80 rfl (lv_at hl 0 rfl) ?_
              exact W.iret (v := 0) hx hb hr (fun t ht hW => ⟨⟨0, T, rfl, h, by rw [ht]; exact hP, va_K.moved hW.alike hK, hD⟩, hS.F ht⟩) hS.2.2 dX8_limitOf_81
        · have h := h.2 c2
          refine lv_aload_n hx hb dX8_limitOf_53 rfl (lv_at hl 0 rfl) ?_
          refine lv_bipush (v := 17) hx hb dX8_limitOf_54 (by decide) ?_
          refine ar_il (f := T) (n := 342) (j := 17) hx hb hK hP 0 rfl (by decide) (okLit (by decide)) dX8_limitOf_56 ?_
          refine lv_iload_n hx hb dX8_limitOf_57 rfl (lv_at hl 1 rfl) ?_
          refine lv_ishr hx hb dX8_limitOf_58 ?_
          refine lv_iload_n hx hb dX8_limitOf_59 rfl (lv_at hl 3 rfl) ?_
          refine lv_icmp_ge (tgt := 70) hx hb dX8_limitOf_60 (by decide) (fun c5 => ?_) (fun c5 => ?_)
          · have h := h.1 c5
            refine lv_iload_n hx hb dX8_limitOf_70 rfl (lv_at hl 2 rfl) ?_
            refine lv_if_eq (tgt := 80) hx hb dX8_limitOf_71 (by decide) (fun c6 => ?_) (fun c6 => ?_)
            · have h := h.1 c6
              refine lv_iload_n hx hb dX8_limitOf_80 rfl (lv_at hl 3 rfl) ?_
              exact W.iret (v := y3) hx hb hr (fun t ht hW => ⟨⟨y3, T, rfl, h, by rw [ht]; exact hP, va_K.moved hW.alike hK, hD⟩, hS.F ht⟩) hS.2.2 dX8_limitOf_81
            · have h := h.2 c6
              refine lv_iload_n hx hb dX8_limitOf_74 rfl (lv_at hl 3 rfl) ?_
              refine lv_if_le (tgt := 80) hx hb dX8_limitOf_75 (by decide) (fun c7 => ?_) (fun c7 => ?_)
              · have h := h.1 c7
                refine lv_iload_n hx hb dX8_limitOf_80 rfl (lv_at hl 3 rfl) ?_
                exact W.iret (v := y3) hx hb hr (fun t ht hW => ⟨⟨y3, T, rfl, h, by rw [ht]; exact hP, va_K.moved hW.alike hK, hD⟩, hS.F ht⟩) hS.2.2 dX8_limitOf_81
              · have h := h.2 c7
                refine lv_iconst (v := 0) hx hb dX8_limitOf_78 (by decide) ?_
                refine lv_istore_n (lv' := [(3, .int 0), (0, .ref (b 0)), (1, .int y1), (2, .int y2), (4, .int y4)]) hx hb dX8_limitOf_79 rfl hl (by decide) rfl (fun ls hl => ?_)
                refine lv_iload_n hx hb dX8_limitOf_80 rfl (lv_at hl 0 rfl) ?_
                exact W.iret (v := 0) hx hb hr (fun t ht hW => ⟨⟨0, T, rfl, h, by rw [ht]; exact hP, va_K.moved hW.alike hK, hD⟩, hS.F ht⟩) hS.2.2 dX8_limitOf_81
          · have h := h.2 c5
            refine lv_aload_n hx hb dX8_limitOf_63 rfl (lv_at hl 0 rfl) ?_
            refine lv_bipush (v := 17) hx hb dX8_limitOf_64 (by decide) ?_
            refine ar_il (f := T) (n := 342) (j := 17) hx hb hK hP 0 rfl (by decide) (okLit (by decide)) dX8_limitOf_66 ?_
            refine lv_iload_n hx hb dX8_limitOf_67 rfl (lv_at hl 1 rfl) ?_
            refine lv_ishr hx hb dX8_limitOf_68 ?_
            refine lv_topi (fun x8 ex8 => ?_)
            have h := h x8 ex8
            refine lv_istore_n (lv' := [(3, .int x8), (0, .ref (b 0)), (1, .int y1), (2, .int y2), (4, .int y4)]) hx hb dX8_limitOf_69 rfl hl (by decide) rfl (fun ls hl => ?_)
            refine lv_iload_n hx hb dX8_limitOf_70 rfl (lv_at hl 3 rfl) ?_
            refine lv_if_eq (tgt := 80) hx hb dX8_limitOf_71 (by decide) (fun c9 => ?_) (fun c9 => ?_)
            · have h := h.1 c9
              refine lv_iload_n hx hb dX8_limitOf_80 rfl (lv_at hl 0 rfl) ?_
              exact W.iret (v := x8) hx hb hr (fun t ht hW => ⟨⟨x8, T, rfl, h, by rw [ht]; exact hP, va_K.moved hW.alike hK, hD⟩, hS.F ht⟩) hS.2.2 dX8_limitOf_81
            · have h := h.2 c9
              refine lv_iload_n hx hb dX8_limitOf_74 rfl (lv_at hl 0 rfl) ?_
              refine lv_if_le (tgt := 80) hx hb dX8_limitOf_75 (by decide) (fun c10 => ?_) (fun c10 => ?_)
              · have h := h.1 c10
                refine lv_iload_n hx hb dX8_limitOf_80 rfl (lv_at hl 0 rfl) ?_
                exact W.iret (v := x8) hx hb hr (fun t ht hW => ⟨⟨x8, T, rfl, h, by rw [ht]; exact hP, va_K.moved hW.alike hK, hD⟩, hS.F ht⟩) hS.2.2 dX8_limitOf_81
              · have h := h.2 c10
                refine lv_iconst (v := 0) hx hb dX8_limitOf_78 (by decide) ?_
                refine lv_istore_n (lv' := [(3, .int 0), (0, .ref (b 0)), (1, .int y1), (2, .int y2), (4, .int y4)]) hx hb dX8_limitOf_79 rfl hl (by decide) rfl (fun ls hl => ?_)
                refine lv_iload_n hx hb dX8_limitOf_80 rfl (lv_at hl 0 rfl) ?_
                exact W.iret (v := 0) hx hb hr (fun t ht hW => ⟨⟨0, T, rfl, h, by rw [ht]; exact hP, va_K.moved hW.alike hK, hD⟩, hS.F ht⟩) hS.2.2 dX8_limitOf_81
      · have h := h.2 c1
        refine lv_aload_n hx hb dX8_limitOf_16 rfl (lv_at hl 0 rfl) ?_
        refine lv_aload_n hx hb dX8_limitOf_17 rfl (lv_at hl 0 rfl) ?_
        refine lv_sipush (v := 152) hx hb dX8_limitOf_18 (by decide) ?_
        refine lv_iload hx hb dX8_limitOf_21 (lv_at hl 4 rfl) ?_
        refine lv_iadd hx hb dX8_limitOf_23 ?_
        refine ar_il (f := T) (n := 342) (j := (Int32.toNatClampNeg (152 + y4))) hx hb hK hP 0 rfl rfl h.1 dX8_limitOf_24 ?_
        have h := h.2
        refine lv_iload_n hx hb dX8_limitOf_25 rfl (lv_at hl 1 rfl) ?_
        refine cl_i (ws' := fun u11 => (wR1 cI cZ b u11)) (va_runS (As := [.ref (b 0), .int (T (Int32.toNatClampNeg (152 + y4))), .int y1]) (rest := []) ⟨hx, hb, hml, hown, hts⟩ (c_X8_groupOf l D cI cZ b _ T (T (Int32.toNatClampNeg (152 + y4))) y1 _ h ) (va_cwS 3 hts (gS q_1240 q_1241 q_75 q_1242) rfl rfl rfl (by decide +kernel) ⟨Nat.le_of_ble_eq_true rfl, Nat.le_of_ble_eq_true rfl⟩) (preS_of hK hP hD [0] rfl rfl (by decide)) rfl rfl hl.1 rfl (lv_room (Nat.le_of_ble_eq_true rfl)) dX8_limitOf_26 ⟨Nat.zero_le _, Nat.zero_le _⟩) hP hD hS hA [0] [.inl 0] rfl (by decide) (fun _ => rfl) (fun _ => rfl) (fun r12 u11 H locs h hP hD hS => ?_)
        refine lv_istore (lv' := [(5, .int r12), (0, .ref (b 0)), (1, .int y1), (2, .int y2), (3, .int y3), (4, .int y4)]) hx hb dX8_limitOf_29 hl (by decide) rfl (fun ls hl => ?_)
        refine lv_iload hx hb dX8_limitOf_31 (lv_at hl 0 rfl) ?_
        refine lv_iload_n hx hb dX8_limitOf_33 rfl (lv_at hl 4 rfl) ?_
        refine lv_icmp_ge (tgt := 40) hx hb dX8_limitOf_34 (by decide) (fun c13 => ?_) (fun c13 => ?_)
        · have h := h.1 c13
          obtain ⟨x14, ex14⟩ : ∃ y : Int32, y = (y4 + 1) := ⟨_, rfl⟩
          have h := h x14 ex14
          refine lv_iinc (v := x14) (lv' := [(4, .int x14), (5, .int r12), (0, .ref (b 0)), (1, .int y1), (2, .int y2), (3, .int y3)]) hx hb dX8_limitOf_40 hl (k := 5) rfl (by rw [ex14]; rfl) (by decide) rfl (fun ls hl => ?_)
          refine lv_goto (tgt := 7) hx hb dX8_limitOf_43 (by decide) ?_
          exact ih y1 y2 y3 x14 u11 _ _ _ hP hD hS (lv_sub hl [2, 3, 4, 5, 0] rfl) h
        · have h := h.2 c13
          refine lv_iload hx hb dX8_limitOf_37 (lv_at hl 0 rfl) ?_
          refine lv_istore_n (lv' := [(3, .int r12), (5, .int r12), (0, .ref (b 0)), (1, .int y1), (2, .int y2), (4, .int y4)]) hx hb dX8_limitOf_39 rfl hl (by decide) rfl (fun ls hl => ?_)
          obtain ⟨x15, ex15⟩ : ∃ y : Int32, y = (y4 + 1) := ⟨_, rfl⟩
          have h := h x15 ex15
          refine lv_iinc (v := x15) (lv' := [(4, .int x15), (3, .int r12), (5, .int r12), (0, .ref (b 0)), (1, .int y1), (2, .int y2)]) hx hb dX8_limitOf_40 hl (k := 5) rfl (by rw [ex15]; rfl) (by decide) rfl (fun ls hl => ?_)
          refine lv_goto (tgt := 7) hx hb dX8_limitOf_43 (by decide) ?_
          exact ih y1 y2 r12 x15 u11 _ _ _ hP hD hS (lv_sub hl [3, 4, 5, 1, 0] rfl) h
  have hl := lv_entry ([.ref (b 0), .int p0, .int p1]) (n := 6) (Nat.le_of_ble_eq_true rfl)
  rw [lg_entry_eq]
  generalize (lg_sl ([.ref (b 0), .int p0, .int p1]) ++ List.replicate (6 - (lg_sl ([.ref (b 0), .int p0, .int p1])).length) Slot.unset).toArray = ls at hl ⊢
  have hl : lv_has ls 6 [(0, .ref (b 0)), (1, .int p0), (2, .int p1)] := hl
  unfold wp_X8_limitOf at h
  refine lv_sipush (v := 256) hx hb dX8_limitOf_0 (by decide) ?_
  refine lv_istore_n (lv' := [(3, .int 256), (0, .ref (b 0)), (1, .int p0), (2, .int p1)]) hx hb dX8_limitOf_3 rfl hl (by decide) rfl (fun ls hl => ?_)
  refine lv_iconst (v := 0) hx hb dX8_limitOf_4 (by decide) ?_
  refine lv_istore (lv' := [(4, .int 0), (3, .int 256), (0, .ref (b 0)), (1, .int p0), (2, .int p1)]) hx hb dX8_limitOf_5 hl (by decide) rfl (fun ls hl => ?_)
  exact L7 2000 p0 p1 256 0 S _ _ _ hP hD hS (lv_sub hl [2, 3, 4, 1, 0] rfl) h
/-! X8_isLess -/
abbrev rmX8_isLess : Room := { frames := 1, cells := 0, slots := 0, locals := 22 }
set_option maxHeartbeats 4000000 in
set_option maxRecDepth 100000 in
theorem c_X8_isLess (l : Launch) (D : va_G) (cI cZ : ClassId) (a : Nat → Nat) (b : Nat → Nat) (nw : Bool) (sz : Nat) (S : Ob × (Nat → Int32)) (p0 : Int32) (p1 : Int32) (Q : Int32 → (Ob × (Nat → Int32)) → Prop) (h : wp_X8_isLess nw S p0 p1 Q) (hb4 : nw = true → b 0 = a 4) : Met l yX8_isLess (wsm yX8_isLess cX8_isLess 6 (some .boolean)) rmX8_isLess (va_Pc [.ref (a 0), .ref (b 0), .int p0, .int p1] (preW D cI cZ sz (wX8s cI cZ a b S))) (va_Qi Q (fun u => atW D cI cZ (va_A (wX8s cI cZ a b S) sz) (wX8s cI cZ a b u)) (va_A (wX8s cI cZ a b S) sz)) 0 0 (va_A (wX8s cI cZ a b S) sz) := by
  refine Met.ofW (cc := cX8_isLess) (maxL := 6) (ret := (some .boolean)) (by decide) rfl ?_
  intro p e s m args below meth c s₁ B hml hv
  obtain ⟨rfl, hsz, hP, hK, hD0⟩ := hv
  have hx := B.exec
  have hb := B.bytes
  have hr := B.returns
  have hts0 := atoms_spec (ws := wsm yX8_isLess cX8_isLess 6 (some .boolean)) B.pre
  have hts : ∀ w ∈ lw_all, w.before _ s = true := fun w h => hts0 w (List.mem_cons_of_mem _ h)
  have hown : s.vm.findClass RX8 = some m.cls := findClass_of_methodNamed B.named
  have hlocks := B.notSynchronized
  subst hsz
  have hD := hD0.self (sz := s.heap.size)
  generalize hAe : va_A (wX8s cI cZ a b S) s.heap.size = A at hD ⊢
  have hA : ∀ q : Nat, s.heap.size ≤ q → A q := fun q h => by rw [← hAe]; exact Or.inr h
  have hS : va_S A s.heap s.heap [] := va_S.rf
  have hml2 := hml
  have hl := lv_entry ([.ref (a 0), .ref (b 0), .int p0, .int p1]) (n := 6) (Nat.le_of_ble_eq_true rfl)
  rw [lg_entry_eq]
  generalize (lg_sl ([.ref (a 0), .ref (b 0), .int p0, .int p1]) ++ List.replicate (6 - (lg_sl ([.ref (a 0), .ref (b 0), .int p0, .int p1])).length) Slot.unset).toArray = ls at hl ⊢
  have hl : lv_has ls 6 [(0, .ref (a 0)), (1, .ref (b 0)), (2, .int p0), (3, .int p1)] := hl
  unfold wp_X8_isLess at h
  refine lv_aload_n hx hb dX8_isLess_0 rfl (lv_at hl 1 rfl) ?_
  refine lv_iload_n hx hb dX8_isLess_1 rfl (lv_at hl 2 rfl) ?_
  refine lv_aload_n hx hb dX8_isLess_2 rfl (lv_at hl 0 rfl) ?_
  refine va_get (D := D) (ci := 7) (v := .int (S.1.1 3)) (C := RX8) (T := TX8) (N := 25) hx hb hts inX8 hown hK hP 0 rfl rfl 3 (by decide) (hts _ q_1080) (fun _ h9 => h9) rfl dX8_isLess_3 ?_
  refine cl_i (ws' := fun u1 => (wX8s cI cZ a b (S.1, u1))) (va_runS (As := [.ref (b 0), .int p0, .int (S.1.1 3)]) (rest := []) ⟨hx, hb, hml, hown, hts⟩ (c_X8_groupOf l D cI cZ b _ S.2 p0 (S.1.1 3) _ h ) (va_cwS 3 hts (gS q_1240 q_1241 q_75 q_1242) rfl rfl rfl (by decide +kernel) ⟨Nat.le_of_ble_eq_true rfl, Nat.le_of_ble_eq_true rfl⟩) (preS_of hK hP hD [11] rfl rfl (by decide)) rfl rfl hl.1 rfl (lv_room (Nat.le_of_ble_eq_true rfl)) dX8_isLess_6 ⟨Nat.zero_le _, Nat.zero_le _⟩) hP hD hS hA [11] [.inr 0, .inr 1, .inr 2, .inr 3, .inr 4, .inr 5, .inr 6, .inr 7, .inr 8, .inr 9, .inr 10, .inl 0] rfl (by decide) (fun _ => rfl) (fun _ => rfl) (fun r2 u1 H locs h hP hD hS => ?_)
  refine lv_aload_n hx hb dX8_isLess_9 rfl (lv_at hl 1 rfl) ?_
  refine lv_iload_n hx hb dX8_isLess_10 rfl (lv_at hl 3 rfl) ?_
  refine lv_aload_n hx hb dX8_isLess_11 rfl (lv_at hl 0 rfl) ?_
  refine va_get (D := D) (ci := 7) (v := .int (S.1.1 3)) (C := RX8) (T := TX8) (N := 25) hx hb hts inX8 hown hK hP 0 rfl rfl 3 (by decide) (hts _ q_1080) (fun _ h9 => h9) rfl dX8_isLess_12 ?_
  refine cl_i (ws' := fun u3 => (wX8s cI cZ a b (S.1, u3))) (va_runS (As := [.ref (b 0), .int p1, .int (S.1.1 3)]) (rest := [.int r2]) ⟨hx, hb, hml, hown, hts⟩ (c_X8_groupOf l D cI cZ b _ u1 p1 (S.1.1 3) _ h ) (va_cwS 3 hts (gS q_1240 q_1241 q_75 q_1242) rfl rfl rfl (by decide +kernel) ⟨Nat.le_of_ble_eq_true rfl, Nat.le_of_ble_eq_true rfl⟩) (preS_of hK hP hD [11] rfl rfl (by decide)) rfl rfl hl.1 rfl (lv_room (Nat.le_of_ble_eq_true rfl)) dX8_isLess_15 ⟨Nat.zero_le _, Nat.zero_le _⟩) hP hD hS hA [11] [.inr 0, .inr 1, .inr 2, .inr 3, .inr 4, .inr 5, .inr 6, .inr 7, .inr 8, .inr 9, .inr 10, .inl 0] rfl (by decide) (fun _ => rfl) (fun _ => rfl) (fun r4 u3 H locs h hP hD hS => ?_)
  refine lv_isub hx hb dX8_isLess_18 ?_
  refine lv_topi (fun x5 ex5 => ?_)
  have h := h x5 ex5
  refine lv_istore (lv' := [(4, .int x5), (0, .ref (a 0)), (1, .ref (b 0)), (2, .int p0), (3, .int p1)]) hx hb dX8_isLess_19 hl (by decide) rfl (fun ls hl => ?_)
  refine lv_iload hx hb dX8_isLess_21 (lv_at hl 0 rfl) ?_
  refine lv_if_eq (tgt := 37) hx hb dX8_isLess_23 (by decide) (fun c6 => ?_) (fun c6 => ?_)
  · have h := h.1 c6
    refine lv_aload_n hx hb dX8_isLess_37 rfl (lv_at hl 2 rfl) ?_
    refine lv_iload_n hx hb dX8_isLess_38 rfl (lv_at hl 3 rfl) ?_
    refine lv_aload_n hx hb dX8_isLess_39 rfl (lv_at hl 1 rfl) ?_
    refine va_get (D := D) (ci := 7) (v := .int (S.1.1 3)) (C := RX8) (T := TX8) (N := 25) hx hb hts inX8 hown hK hP 0 rfl rfl 3 (by decide) (hts _ q_1080) (fun _ h9 => h9) rfl dX8_isLess_40 ?_
    refine cl_i (ws' := fun u7 => (wX8s cI cZ a b (S.1, u7))) (va_runS (As := [.ref (b 0), .int p0, .int (S.1.1 3)]) (rest := []) ⟨hx, hb, hml, hown, hts⟩ (c_X8_subOf l D cI cZ b _ u3 p0 (S.1.1 3) _ h ) (va_cwS 3 hts (gS q_1247 q_1248 q_75 q_1249) rfl rfl rfl (by decide +kernel) ⟨Nat.le_of_ble_eq_true rfl, Nat.le_of_ble_eq_true rfl⟩) (preS_of hK hP hD [11] rfl rfl (by decide)) rfl rfl hl.1 rfl (lv_room (Nat.le_of_ble_eq_true rfl)) dX8_isLess_43 ⟨Nat.zero_le _, Nat.zero_le _⟩) hP hD hS hA [11] [.inr 0, .inr 1, .inr 2, .inr 3, .inr 4, .inr 5, .inr 6, .inr 7, .inr 8, .inr 9, .inr 10, .inl 0] rfl (by decide) (fun _ => rfl) (fun _ => rfl) (fun r8 u7 H locs h hP hD hS => ?_)
    refine lv_aload_n hx hb dX8_isLess_46 rfl (lv_at hl 2 rfl) ?_
    refine lv_iload_n hx hb dX8_isLess_47 rfl (lv_at hl 4 rfl) ?_
    refine lv_aload_n hx hb dX8_isLess_48 rfl (lv_at hl 1 rfl) ?_
    refine va_get (D := D) (ci := 7) (v := .int (S.1.1 3)) (C := RX8) (T := TX8) (N := 25) hx hb hts inX8 hown hK hP 0 rfl rfl 3 (by decide) (hts _ q_1080) (fun _ h9 => h9) rfl dX8_isLess_49 ?_
    refine cl_i (ws' := fun u9 => (wX8s cI cZ a b (S.1, u9))) (va_runS (As := [.ref (b 0), .int p1, .int (S.1.1 3)]) (rest := [.int r8]) ⟨hx, hb, hml, hown, hts⟩ (c_X8_subOf l D cI cZ b _ u7 p1 (S.1.1 3) _ h ) (va_cwS 3 hts (gS q_1247 q_1248 q_75 q_1249) rfl rfl rfl (by decide +kernel) ⟨Nat.le_of_ble_eq_true rfl, Nat.le_of_ble_eq_true rfl⟩) (preS_of hK hP hD [11] rfl rfl (by decide)) rfl rfl hl.1 rfl (lv_room (Nat.le_of_ble_eq_true rfl)) dX8_isLess_52 ⟨Nat.zero_le _, Nat.zero_le _⟩) hP hD hS hA [11] [.inr 0, .inr 1, .inr 2, .inr 3, .inr 4, .inr 5, .inr 6, .inr 7, .inr 8, .inr 9, .inr 10, .inl 0] rfl (by decide) (fun _ => rfl) (fun _ => rfl) (fun r10 u9 H locs h hP hD hS => ?_)
    refine lv_isub hx hb dX8_isLess_55 ?_
    refine lv_topi (fun x11 ex11 => ?_)
    have h := h x11 ex11
    refine lv_istore (lv' := [(5, .int x11), (4, .int x5), (0, .ref (a 0)), (1, .ref (b 0)), (2, .int p0), (3, .int p1)]) hx hb dX8_isLess_56 hl (by decide) rfl (fun ls hl => ?_)
    refine lv_iload hx hb dX8_isLess_58 (lv_at hl 0 rfl) ?_
    refine lv_if_eq (tgt := 76) hx hb dX8_isLess_60 (by decide) (fun c12 => ?_) (fun c12 => ?_)
    · have h := h.1 c12
      refine lv_iload_n hx hb dX8_isLess_76 rfl (lv_at hl 4 rfl) ?_
      refine lv_iload_n hx hb dX8_isLess_77 rfl (lv_at hl 5 rfl) ?_
      refine lv_icmp_ge (tgt := 85) hx hb dX8_isLess_78 (by decide) (fun c13 => ?_) (fun c13 => ?_)
      · have h := h.1 c13
        refine lv_iconst (v := 0) hx hb dX8_isLess_85 (by decide) ?_
        exact W.zret (ty := .boolean) (v := 0) hx hb hr (narB isB0) (fun t ht hW => ⟨⟨0, (S.1, u9), rfl, h, by rw [ht]; exact hP, va_K.moved hW.alike hK, hD⟩, hS.F ht⟩) hS.2.2 dX8_isLess_86
      · have h := h.2 c13
        refine lv_iconst (v := 1) hx hb dX8_isLess_81 (by decide) ?_
        refine lv_goto (tgt := 86) hx hb dX8_isLess_82 (by decide) ?_
        exact W.zret (ty := .boolean) (v := 1) hx hb hr (narB isB1) (fun t ht hW => ⟨⟨1, (S.1, u9), rfl, h, by rw [ht]; exact hP, va_K.moved hW.alike hK, hD⟩, hS.F ht⟩) hS.2.2 dX8_isLess_86
    · have h := h.2 c12
      refine lv_iload hx hb dX8_isLess_63 (lv_at hl 0 rfl) ?_
      refine lv_if_ge (tgt := 72) hx hb dX8_isLess_65 (by decide) (fun c14 => ?_) (fun c14 => ?_)
      · have h := h.1 c14
        refine lv_iconst (v := 0) hx hb dX8_isLess_72 (by decide) ?_
        refine lv_goto (tgt := 86) hx hb dX8_isLess_73 (by decide) ?_
        exact W.zret (ty := .boolean) (v := 0) hx hb hr (narB isB0) (fun t ht hW => ⟨⟨0, (S.1, u9), rfl, h, by rw [ht]; exact hP, va_K.moved hW.alike hK, hD⟩, hS.F ht⟩) hS.2.2 dX8_isLess_86
      · have h := h.2 c14
        refine lv_iconst (v := 1) hx hb dX8_isLess_68 (by decide) ?_
        refine lv_goto (tgt := 86) hx hb dX8_isLess_69 (by decide) ?_
        exact W.zret (ty := .boolean) (v := 1) hx hb hr (narB isB1) (fun t ht hW => ⟨⟨1, (S.1, u9), rfl, h, by rw [ht]; exact hP, va_K.moved hW.alike hK, hD⟩, hS.F ht⟩) hS.2.2 dX8_isLess_86
  · have h := h.2 c6
    refine lv_iload hx hb dX8_isLess_26 (lv_at hl 0 rfl) ?_
    refine lv_if_ge (tgt := 35) hx hb dX8_isLess_28 (by decide) (fun c15 => ?_) (fun c15 => ?_)
    · have h := h.1 c15
      refine lv_iconst (v := 0) hx hb dX8_isLess_35 (by decide) ?_
      exact W.zret (ty := .boolean) (v := 0) hx hb hr (narB isB0) (fun t ht hW => ⟨⟨0, (S.1, u3), rfl, h, by rw [ht]; exact hP, va_K.moved hW.alike hK, hD⟩, hS.F ht⟩) hS.2.2 dX8_isLess_36
    · have h := h.2 c15
      refine lv_iconst (v := 1) hx hb dX8_isLess_31 (by decide) ?_
      refine lv_goto (tgt := 36) hx hb dX8_isLess_32 (by decide) ?_
      exact W.zret (ty := .boolean) (v := 1) hx hb hr (narB isB1) (fun t ht hW => ⟨⟨1, (S.1, u3), rfl, h, by rw [ht]; exact hP, va_K.moved hW.alike hK, hD⟩, hS.F ht⟩) hS.2.2 dX8_isLess_36
/-! X8_nextOf -/
abbrev rmX8_nextOf : Room := { frames := 2, cells := 0, slots := 0, locals := 47 }
set_option maxHeartbeats 4000000 in
set_option maxRecDepth 100000 in
theorem c_X8_nextOf (l : Launch) (D : va_G) (cI cZ : ClassId) (a : Nat → Nat) (b : Nat → Nat) (nw : Bool) (sz : Nat) (S : Ob × (Nat → Int32)) (p0 : Int32) (Q : Int32 → (Ob × (Nat → Int32)) → Prop) (h : wp_X8_nextOf nw S p0 Q) (hb4 : nw = true → b 0 = a 4) : Met l yX8_nextOf (wsm yX8_nextOf cX8_nextOf 6 (some .int)) rmX8_nextOf (va_Pc [.ref (a 0), .ref (b 0), .int p0] (preW D cI cZ sz (wX8s cI cZ a b S))) (va_Qi Q (fun u => atW D cI cZ (va_A (wX8s cI cZ a b S) sz) (wX8s cI cZ a b u)) (va_A (wX8s cI cZ a b S) sz)) 0 0 (va_A (wX8s cI cZ a b S) sz) := by
  refine Met.ofW (cc := cX8_nextOf) (maxL := 6) (ret := (some .int)) (by decide) rfl ?_
  intro p e s m args below meth c s₁ B hml hv
  obtain ⟨rfl, hsz, hP, hK, hD0⟩ := hv
  have hx := B.exec
  have hb := B.bytes
  have hr := B.returns
  have hts0 := atoms_spec (ws := wsm yX8_nextOf cX8_nextOf 6 (some .int)) B.pre
  have hts : ∀ w ∈ lw_all, w.before _ s = true := fun w h => hts0 w (List.mem_cons_of_mem _ h)
  have hown : s.vm.findClass RX8 = some m.cls := findClass_of_methodNamed B.named
  have hlocks := B.notSynchronized
  subst hsz
  have hD := hD0.self (sz := s.heap.size)
  generalize hAe : va_A (wX8s cI cZ a b S) s.heap.size = A at hD ⊢
  have hA : ∀ q : Nat, s.heap.size ≤ q → A q := fun q h => by rw [← hAe]; exact Or.inr h
  have hS : va_S A s.heap s.heap [] := va_S.rf
  have hml2 := hml
  have L16 : ∀ (n : Nat), ∀ (y3 : Int32) (y4 : Int32) (y5 : Int32) (T : Ob × (Nat → Int32)) (H : Heap) (locs : List Loc) (ls : Array Slot), va_P D vwCl (wX8s cI cZ a b T) H → va_D A (wX8s cI cZ a b T) → va_S A s.heap H locs → lv_has ls 6 [(0, .ref (a 0)), (1, .ref (b 0)), (3, .int y3), (4, .int y4), (5, .int y5)] → wp_X8_nextOf_L16 nw Q n y3 y4 y5 T → W p l e rmX8_nextOf s m ([.ref (a 0), .ref (b 0), .int p0] : List Value).toArray below meth c H locs 0 0 (MQ below (va_Qi Q (fun u => atW D cI cZ A (wX8s cI cZ a b u)) A) ([.ref (a 0), .ref (b 0), .int p0] : List Value).toArray s 0 0 A) (F0 m 16 ls []) := by
    intro n
    induction n with
    | zero =>
      intro y3 y4 y5 T H locs ls hP hD hS hl h
      exact False.elim h
    | succ n ih =>
      intro y3 y4 y5 T H locs ls hP hD hS hl h
      unfold wp_X8_nextOf_L16 at h
      refine lv_iload hx hb dX8_nextOf_16 (lv_at hl 4 rfl) ?_
      refine lv_bipush (v := 21) hx hb dX8_nextOf_18 (by decide) ?_
      refine lv_icmp_ge (tgt := 85) hx hb dX8_nextOf_20 (by decide) (fun c3 => ?_) (fun c3 => ?_)
      · have h := h.1 c3
        refine lv_iload hx hb dX8_nextOf_85 (lv_at hl 3 rfl) ?_
        exact W.iret (v := y4) hx hb hr (fun t ht hW => ⟨⟨y4, T, rfl, h, by rw [ht]; exact hP, va_K.moved hW.alike hK, hD⟩, hS.F ht⟩) hS.2.2 dX8_nextOf_87
      · have h := h.2 c3
        refine lv_aload_n hx hb dX8_nextOf_23 rfl (lv_at hl 1 rfl) ?_
        refine lv_sipush (v := 194) hx hb dX8_nextOf_24 (by decide) ?_
        refine lv_iload hx hb dX8_nextOf_27 (lv_at hl 4 rfl) ?_
        refine lv_iadd hx hb dX8_nextOf_29 ?_
        refine ar_il (f := T.2) (n := 342) (j := (Int32.toNatClampNeg (194 + y5))) hx hb hK hP 11 rfl rfl h.1 dX8_nextOf_30 ?_
        have h := h.2
        refine lv_if_lt (tgt := 79) hx hb dX8_nextOf_31 (by decide) (fun c4 => ?_) (fun c4 => ?_)
        · have h := h.1 c4
          obtain ⟨x5, ex5⟩ : ∃ y : Int32, y = (y5 + 1) := ⟨_, rfl⟩
          have h := h x5 ex5
          refine lv_iinc (v := x5) (lv' := [(5, .int x5), (0, .ref (a 0)), (1, .ref (b 0)), (3, .int y3), (4, .int y4)]) hx hb dX8_nextOf_79 hl (k := 4) rfl (by rw [ex5]; rfl) (by decide) rfl (fun ls hl => ?_)
          refine lv_goto (tgt := 16) hx hb dX8_nextOf_82 (by decide) ?_
          exact ih y3 y4 x5 T _ _ _ hP hD hS (lv_sub hl [1, 2, 3, 4, 0] rfl) h
        · have h := h.2 c4
          refine lv_aload_n hx hb dX8_nextOf_34 rfl (lv_at hl 0 rfl) ?_
          refine va_get (D := D) (ci := 7) (v := .ref (a 3)) (C := RX8) (T := TX8) (N := 25) hx hb hts inX8 hown hK hP 0 rfl rfl 2 (by decide) (hts _ q_1079) (fun _ h9 => h9) rfl dX8_nextOf_35 ?_
          refine lv_iload hx hb dX8_nextOf_38 (lv_at hl 4 rfl) ?_
          refine ar_zl (f := (T.1.2 2)) (n := 21) (j := (Int32.toNatClampNeg y5)) hx hb hK hP 3 rfl rfl h.1 dX8_nextOf_40 ?_
          have h := h.2
          refine lv_if_eq (tgt := 79) hx hb dX8_nextOf_41 (by decide) (fun c6 => ?_) (fun c6 => ?_)
          · have h := h.1 c6
            obtain ⟨x7, ex7⟩ : ∃ y : Int32, y = (y5 + 1) := ⟨_, rfl⟩
            have h := h x7 ex7
            refine lv_iinc (v := x7) (lv' := [(5, .int x7), (0, .ref (a 0)), (1, .ref (b 0)), (3, .int y3), (4, .int y4)]) hx hb dX8_nextOf_79 hl (k := 4) rfl (by rw [ex7]; rfl) (by decide) rfl (fun ls hl => ?_)
            refine lv_goto (tgt := 16) hx hb dX8_nextOf_82 (by decide) ?_
            exact ih y3 y4 x7 T _ _ _ hP hD hS (lv_sub hl [1, 2, 3, 4, 0] rfl) h
          · have h := h.2 c6
            refine lv_aload_n hx hb dX8_nextOf_44 rfl (lv_at hl 1 rfl) ?_
            refine lv_iload hx hb dX8_nextOf_45 (lv_at hl 4 rfl) ?_
            refine lv_aload_n hx hb dX8_nextOf_47 rfl (lv_at hl 0 rfl) ?_
            refine va_get (D := D) (ci := 7) (v := .int (T.1.1 3)) (C := RX8) (T := TX8) (N := 25) hx hb hts inX8 hown hK hP 0 rfl rfl 3 (by decide) (hts _ q_1080) (fun _ h9 => h9) rfl dX8_nextOf_48 ?_
            refine cl_i (ws' := fun u8 => (wX8s cI cZ a b (T.1, u8))) (va_runS (As := [.ref (b 0), .int y5, .int (T.1.1 3)]) (rest := []) ⟨hx, hb, hml, hown, hts⟩ (c_X8_groupOf l D cI cZ b _ T.2 y5 (T.1.1 3) _ h ) (va_cwS 3 hts (gS q_1240 q_1241 q_75 q_1242) rfl rfl rfl (by decide +kernel) ⟨Nat.le_of_ble_eq_true rfl, Nat.le_of_ble_eq_true rfl⟩) (preS_of hK hP hD [11] rfl rfl (by decide)) rfl rfl hl.1 rfl (lv_room (Nat.le_of_ble_eq_true rfl)) dX8_nextOf_51 ⟨Nat.zero_le _, Nat.zero_le _⟩) hP hD hS hA [11] [.inr 0, .inr 1, .inr 2, .inr 3, .inr 4, .inr 5, .inr 6, .inr 7, .inr 8, .inr 9, .inr 10, .inl 0] rfl (by decide) (fun _ => rfl) (fun _ => rfl) (fun r9 u8 H locs h hP hD hS => ?_)
            refine lv_iload_n hx hb dX8_nextOf_54 rfl (lv_at hl 2 rfl) ?_
            refine lv_icmp_ge (tgt := 79) hx hb dX8_nextOf_55 (by decide) (fun c10 => ?_) (fun c10 => ?_)
            · have h := h.1 c10
              obtain ⟨x11, ex11⟩ : ∃ y : Int32, y = (y5 + 1) := ⟨_, rfl⟩
              have h := h x11 ex11
              refine lv_iinc (v := x11) (lv' := [(5, .int x11), (0, .ref (a 0)), (1, .ref (b 0)), (3, .int y3), (4, .int y4)]) hx hb dX8_nextOf_79 hl (k := 4) rfl (by rw [ex11]; rfl) (by decide) rfl (fun ls hl => ?_)
              refine lv_goto (tgt := 16) hx hb dX8_nextOf_82 (by decide) ?_
              exact ih y3 y4 x11 (T.1, u8) _ _ _ hP hD hS (lv_sub hl [1, 2, 3, 4, 0] rfl) h
            · have h := h.2 c10
              refine lv_iload hx hb dX8_nextOf_58 (lv_at hl 3 rfl) ?_
              refine lv_if_lt (tgt := 75) hx hb dX8_nextOf_60 (by decide) (fun c12 => ?_) (fun c12 => ?_)
              · have h := h.1 c12
                refine lv_iload hx hb dX8_nextOf_75 (lv_at hl 4 rfl) ?_
                refine lv_istore (lv' := [(4, .int y5), (0, .ref (a 0)), (1, .ref (b 0)), (3, .int y3), (5, .int y5)]) hx hb dX8_nextOf_77 hl (by decide) rfl (fun ls hl => ?_)
                obtain ⟨x13, ex13⟩ : ∃ y : Int32, y = (y5 + 1) := ⟨_, rfl⟩
                have h := h x13 ex13
                refine lv_iinc (v := x13) (lv' := [(5, .int x13), (4, .int y5), (0, .ref (a 0)), (1, .ref (b 0)), (3, .int y3)]) hx hb dX8_nextOf_79 hl (k := 4) rfl (by rw [ex13]; rfl) (by decide) rfl (fun ls hl => ?_)
                refine lv_goto (tgt := 16) hx hb dX8_nextOf_82 (by decide) ?_
                exact ih y3 y5 x13 (T.1, u8) _ _ _ hP hD hS (lv_sub hl [2, 3, 4, 1, 0] rfl) h
              · have h := h.2 c12
                refine lv_aload_n hx hb dX8_nextOf_63 rfl (lv_at hl 0 rfl) ?_
                refine lv_aload_n hx hb dX8_nextOf_64 rfl (lv_at hl 1 rfl) ?_
                refine lv_iload hx hb dX8_nextOf_65 (lv_at hl 4 rfl) ?_
                refine lv_iload hx hb dX8_nextOf_67 (lv_at hl 3 rfl) ?_
                refine cl_i (ws' := fun u14 => (wX8s cI cZ a b u14)) (va_runV (As := [.ref (b 0), .int y5, .int y4]) (rest := []) ⟨hx, hb, hml, hown, hts⟩ (c_X8_isLess l D cI cZ a b nw _ (T.1, u8) y5 y4 _ h hb4) (cwV 3 hts (gV q_1243 q_1245 q_37 q_75 q_1246) rfl rfl rfl (by decide +kernel) ⟨Nat.le_of_ble_eq_true rfl, Nat.le_of_ble_eq_true rfl⟩) (preV_of (ci := 7) (q := (RX8, TX8, 25)) hK hP hD [0, 1, 2, 3, 4, 5, 6, 7, 8, 9, 10, 11] rfl rfl (by decide) 0 rfl rfl) rfl rfl hl.1 rfl (lv_room (Nat.le_of_ble_eq_true rfl)) dX8_nextOf_69 ⟨Nat.zero_le _, Nat.zero_le _⟩) hP hD hS hA [0, 1, 2, 3, 4, 5, 6, 7, 8, 9, 10, 11] [.inl 0, .inl 1, .inl 2, .inl 3, .inl 4, .inl 5, .inl 6, .inl 7, .inl 8, .inl 9, .inl 10, .inl 11] rfl (by decide) (fun _ => rfl) (fun _ => rfl) (fun r15 u14 H locs h hP hD hS => ?_)
                refine lv_if_eq (tgt := 79) hx hb dX8_nextOf_72 (by decide) (fun c16 => ?_) (fun c16 => ?_)
                · have h := h.1 c16
                  obtain ⟨x17, ex17⟩ : ∃ y : Int32, y = (y5 + 1) := ⟨_, rfl⟩
                  have h := h x17 ex17
                  refine lv_iinc (v := x17) (lv' := [(5, .int x17), (0, .ref (a 0)), (1, .ref (b 0)), (3, .int y3), (4, .int y4)]) hx hb dX8_nextOf_79 hl (k := 4) rfl (by rw [ex17]; rfl) (by decide) rfl (fun ls hl => ?_)
                  refine lv_goto (tgt := 16) hx hb dX8_nextOf_82 (by decide) ?_
                  exact ih y3 y4 x17 u14 _ _ _ hP hD hS (lv_sub hl [1, 2, 3, 4, 0] rfl) h
                · have h := h.2 c16
                  refine lv_iload hx hb dX8_nextOf_75 (lv_at hl 4 rfl) ?_
                  refine lv_istore (lv' := [(4, .int y5), (0, .ref (a 0)), (1, .ref (b 0)), (3, .int y3), (5, .int y5)]) hx hb dX8_nextOf_77 hl (by decide) rfl (fun ls hl => ?_)
                  obtain ⟨x18, ex18⟩ : ∃ y : Int32, y = (y5 + 1) := ⟨_, rfl⟩
                  have h := h x18 ex18
                  refine lv_iinc (v := x18) (lv' := [(5, .int x18), (4, .int y5), (0, .ref (a 0)), (1, .ref (b 0)), (3, .int y3)]) hx hb dX8_nextOf_79 hl (k := 4) rfl (by rw [ex18]; rfl) (by decide) rfl (fun ls hl => ?_)
                  refine lv_goto (tgt := 16) hx hb dX8_nextOf_82 (by decide) ?_
                  exact ih y3 y5 x18 u14 _ _ _ hP hD hS (lv_sub hl [2, 3, 4, 1, 0] rfl) h
  have hl := lv_entry ([.ref (a 0), .ref (b 0), .int p0]) (n := 6) (Nat.le_of_ble_eq_true rfl)
  rw [lg_entry_eq]
  generalize (lg_sl ([.ref (a 0), .ref (b 0), .int p0]) ++ List.replicate (6 - (lg_sl ([.ref (a 0), .ref (b 0), .int p0])).length) Slot.unset).toArray = ls at hl ⊢
  have hl : lv_has ls 6 [(0, .ref (a 0)), (1, .ref (b 0)), (2, .int p0)] := hl
  unfold wp_X8_nextOf at h
  refine lv_aload_n hx hb dX8_nextOf_0 rfl (lv_at hl 1 rfl) ?_
  refine lv_aload_n hx hb dX8_nextOf_1 rfl (lv_at hl 0 rfl) ?_
  refine va_get (D := D) (ci := 7) (v := .int (S.1.1 3)) (C := RX8) (T := TX8) (N := 25) hx hb hts inX8 hown hK hP 0 rfl rfl 3 (by decide) (hts _ q_1080) (fun _ h9 => h9) rfl dX8_nextOf_2 ?_
  refine lv_iload_n hx hb dX8_nextOf_5 rfl (lv_at hl 2 rfl) ?_
  refine cl_i (ws' := fun u1 => (wX8s cI cZ a b (S.1, u1))) (va_runS (As := [.ref (b 0), .int (S.1.1 3), .int p0]) (rest := []) ⟨hx, hb, hml, hown, hts⟩ (c_X8_limitOf l D cI cZ b _ S.2 (S.1.1 3) p0 _ h ) (va_cwS 3 hts (gS q_1237 q_1238 q_75 q_1239) rfl rfl rfl (by decide +kernel) ⟨Nat.le_of_ble_eq_true rfl, Nat.le_of_ble_eq_true rfl⟩) (preS_of hK hP hD [11] rfl rfl (by decide)) rfl rfl hl.1 rfl (lv_room (Nat.le_of_ble_eq_true rfl)) dX8_nextOf_6 ⟨Nat.zero_le _, Nat.zero_le _⟩) hP hD hS hA [11] [.inr 0, .inr 1, .inr 2, .inr 3, .inr 4, .inr 5, .inr 6, .inr 7, .inr 8, .inr 9, .inr 10, .inl 0] rfl (by decide) (fun _ => rfl) (fun _ => rfl) (fun r2 u1 H locs h hP hD hS => ?_)
  refine lv_istore_n (lv' := [(3, .int r2), (0, .ref (a 0)), (1, .ref (b 0)), (2, .int p0)]) hx hb dX8_nextOf_9 rfl hl (by decide) rfl (fun ls hl => ?_)
  refine lv_iconst (v := -1) hx hb dX8_nextOf_10 (by decide) ?_
  refine lv_istore (lv' := [(4, .int (-1)), (3, .int r2), (0, .ref (a 0)), (1, .ref (b 0)), (2, .int p0)]) hx hb dX8_nextOf_11 hl (by decide) rfl (fun ls hl => ?_)
  refine lv_iconst (v := 0) hx hb dX8_nextOf_13 (by decide) ?_
  refine lv_istore (lv' := [(5, .int 0), (4, .int (-1)), (3, .int r2), (0, .ref (a 0)), (1, .ref (b 0)), (2, .int p0)]) hx hb dX8_nextOf_14 hl (by decide) rfl (fun ls hl => ?_)
  exact L16 2000 r2 (-1) 0 (S.1, u1) _ _ _ hP hD hS (lv_sub hl [3, 4, 2, 1, 0] rfl) h
/-! X8_nextOf_ -/
abbrev rmX8_nextOf_ : Room := { frames := 3, cells := 0, slots := 0, locals := 72 }
set_option maxHeartbeats 4000000 in
set_option maxRecDepth 100000 in
theorem c_X8_nextOf_ (l : Launch) (D : va_G) (cI cZ : ClassId) (a : Nat → Nat) (b : Nat → Nat) (nw : Bool) (sz : Nat) (S : Ob × (Nat → Int32)) (Q : Int32 → (Ob × (Nat → Int32)) → Prop) (h : wp_X8_nextOf_ nw S Q) (hb4 : nw = true → b 0 = a 4) : Met l yX8_nextOf_ (wsm yX8_nextOf_ cX8_nextOf_ 2 (some .int)) rmX8_nextOf_ (va_Pc [.ref (a 0), .ref (b 0)] (preW D cI cZ sz (wX8s cI cZ a b S))) (va_Qi Q (fun u => atW D cI cZ (va_A (wX8s cI cZ a b S) sz) (wX8s cI cZ a b u)) (va_A (wX8s cI cZ a b S) sz)) 0 0 (va_A (wX8s cI cZ a b S) sz) := by
  refine Met.ofW (cc := cX8_nextOf_) (maxL := 2) (ret := (some .int)) (by decide) rfl ?_
  intro p e s m args below meth c s₁ B hml hv
  obtain ⟨rfl, hsz, hP, hK, hD0⟩ := hv
  have hx := B.exec
  have hb := B.bytes
  have hr := B.returns
  have hts0 := atoms_spec (ws := wsm yX8_nextOf_ cX8_nextOf_ 2 (some .int)) B.pre
  have hts : ∀ w ∈ lw_all, w.before _ s = true := fun w h => hts0 w (List.mem_cons_of_mem _ h)
  have hown : s.vm.findClass RX8 = some m.cls := findClass_of_methodNamed B.named
  have hlocks := B.notSynchronized
  subst hsz
  have hD := hD0.self (sz := s.heap.size)
  generalize hAe : va_A (wX8s cI cZ a b S) s.heap.size = A at hD ⊢
  have hA : ∀ q : Nat, s.heap.size ≤ q → A q := fun q h => by rw [← hAe]; exact Or.inr h
  have hS : va_S A s.heap s.heap [] := va_S.rf
  have hml2 := hml
  have hl := lv_entry ([.ref (a 0), .ref (b 0)]) (n := 2) (Nat.le_of_ble_eq_true rfl)
  rw [lg_entry_eq]
  generalize (lg_sl ([.ref (a 0), .ref (b 0)]) ++ List.replicate (2 - (lg_sl ([.ref (a 0), .ref (b 0)])).length) Slot.unset).toArray = ls at hl ⊢
  have hl : lv_has ls 2 [(0, .ref (a 0)), (1, .ref (b 0))] := hl
  unfold wp_X8_nextOf_ at h
  refine lv_aload_n hx hb dX8_nextOf__0 rfl (lv_at hl 0 rfl) ?_
  refine lv_aload_n hx hb dX8_nextOf__1 rfl (lv_at hl 1 rfl) ?_
  refine lv_aload_n hx hb dX8_nextOf__2 rfl (lv_at hl 1 rfl) ?_
  refine lv_bipush (v := 16) hx hb dX8_nextOf__3 (by decide) ?_
  refine ar_il (f := S.2) (n := 342) (j := 16) hx hb hK hP 11 rfl (by decide) (okLit (by decide)) dX8_nextOf__5 ?_
  refine lv_iconst (v := 1) hx hb dX8_nextOf__6 (by decide) ?_
  refine lv_icmp_ne (tgt := 14) hx hb dX8_nextOf__7 (by decide) (fun c1 => ?_) (fun c1 => ?_)
  · have h := h.1 c1
    refine lv_iconst (v := 0) hx hb dX8_nextOf__14 (by decide) ?_
    refine cl_i (ws' := fun u2 => (wX8s cI cZ a b u2)) (va_runV (As := [.ref (b 0), .int 0]) (rest := []) ⟨hx, hb, hml, hown, hts⟩ (c_X8_nextOf l D cI cZ a b nw _ S 0 _ h hb4) (cwV 2 hts (gV q_1233 q_1235 q_36 q_75 q_1236) rfl rfl rfl (by decide +kernel) ⟨Nat.le_of_ble_eq_true rfl, Nat.le_of_ble_eq_true rfl⟩) (preV_of (ci := 7) (q := (RX8, TX8, 25)) hK hP hD [0, 1, 2, 3, 4, 5, 6, 7, 8, 9, 10, 11] rfl rfl (by decide) 0 rfl rfl) rfl rfl hl.1 rfl (lv_room (Nat.le_of_ble_eq_true rfl)) dX8_nextOf__15 ⟨Nat.zero_le _, Nat.zero_le _⟩) hP hD hS hA [0, 1, 2, 3, 4, 5, 6, 7, 8, 9, 10, 11] [.inl 0, .inl 1, .inl 2, .inl 3, .inl 4, .inl 5, .inl 6, .inl 7, .inl 8, .inl 9, .inl 10, .inl 11] rfl (by decide) (fun _ => rfl) (fun _ => rfl) (fun r3 u2 H locs h hP hD hS => ?_)
    exact W.iret (v := r3) hx hb hr (fun t ht hW => ⟨⟨r3, u2, rfl, h, by rw [ht]; exact hP, va_K.moved hW.alike hK, hD⟩, hS.F ht⟩) hS.2.2 dX8_nextOf__18
  · have h := h.2 c1
    refine lv_iconst (v := 1) hx hb dX8_nextOf__10 (by decide) ?_
    refine lv_goto (tgt := 15) hx hb dX8_nextOf__11 (by decide) ?_
    refine cl_i (ws' := fun u4 => (wX8s cI cZ a b u4)) (va_runV (As := [.ref (b 0), .int 1]) (rest := []) ⟨hx, hb, hml, hown, hts⟩ (c_X8_nextOf l D cI cZ a b nw _ S 1 _ h hb4) (cwV 2 hts (gV q_1233 q_1235 q_36 q_75 q_1236) rfl rfl rfl (by decide +kernel) ⟨Nat.le_of_ble_eq_true rfl, Nat.le_of_ble_eq_true rfl⟩) (preV_of (ci := 7) (q := (RX8, TX8, 25)) hK hP hD [0, 1, 2, 3, 4, 5, 6, 7, 8, 9, 10, 11] rfl rfl (by decide) 0 rfl rfl) rfl rfl hl.1 rfl (lv_room (Nat.le_of_ble_eq_true rfl)) dX8_nextOf__15 ⟨Nat.zero_le _, Nat.zero_le _⟩) hP hD hS hA [0, 1, 2, 3, 4, 5, 6, 7, 8, 9, 10, 11] [.inl 0, .inl 1, .inl 2, .inl 3, .inl 4, .inl 5, .inl 6, .inl 7, .inl 8, .inl 9, .inl 10, .inl 11] rfl (by decide) (fun _ => rfl) (fun _ => rfl) (fun r5 u4 H locs h hP hD hS => ?_)
    exact W.iret (v := r5) hx hb hr (fun t ht hW => ⟨⟨r5, u4, rfl, h, by rw [ht]; exact hP, va_K.moved hW.alike hK, hD⟩, hS.F ht⟩) hS.2.2 dX8_nextOf__18
/-! X8_could -/
abbrev rmX8_could : Room := { frames := 2, cells := 0, slots := 0, locals := 47 }
set_option maxHeartbeats 4000000 in
set_option maxRecDepth 100000 in
theorem c_X8_could (l : Launch) (D : va_G) (cI cZ : ClassId) (a : Nat → Nat) (b : Nat → Nat) (nw : Bool) (sz : Nat) (S : Ob × (Nat → Int32)) (p0 : Int32) (Q : Int32 → (Ob × (Nat → Int32)) → Prop) (h : wp_X8_could nw S p0 Q) (hb4 : nw = true → b 0 = a 4) : Met l yX8_could (wsm yX8_could cX8_could 3 (some .boolean)) rmX8_could (va_Pc [.ref (a 0), .ref (b 0), .int p0] (preW D cI cZ sz (wX8s cI cZ a b S))) (va_Qi Q (fun u => atW D cI cZ (va_A (wX8s cI cZ a b S) sz) (wX8s cI cZ a b u)) (va_A (wX8s cI cZ a b S) sz)) 0 0 (va_A (wX8s cI cZ a b S) sz) := by
  refine Met.ofW (cc := cX8_could) (maxL := 3) (ret := (some .boolean)) (by decide) rfl ?_
  intro p e s m args below meth c s₁ B hml hv
  obtain ⟨rfl, hsz, hP, hK, hD0⟩ := hv
  have hx := B.exec
  have hb := B.bytes
  have hr := B.returns
  have hts0 := atoms_spec (ws := wsm yX8_could cX8_could 3 (some .boolean)) B.pre
  have hts : ∀ w ∈ lw_all, w.before _ s = true := fun w h => hts0 w (List.mem_cons_of_mem _ h)
  have hown : s.vm.findClass RX8 = some m.cls := findClass_of_methodNamed B.named
  have hlocks := B.notSynchronized
  subst hsz
  have hD := hD0.self (sz := s.heap.size)
  generalize hAe : va_A (wX8s cI cZ a b S) s.heap.size = A at hD ⊢
  have hA : ∀ q : Nat, s.heap.size ≤ q → A q := fun q h => by rw [← hAe]; exact Or.inr h
  have hS : va_S A s.heap s.heap [] := va_S.rf
  have hml2 := hml
  have hl := lv_entry ([.ref (a 0), .ref (b 0), .int p0]) (n := 3) (Nat.le_of_ble_eq_true rfl)
  rw [lg_entry_eq]
  generalize (lg_sl ([.ref (a 0), .ref (b 0), .int p0]) ++ List.replicate (3 - (lg_sl ([.ref (a 0), .ref (b 0), .int p0])).length) Slot.unset).toArray = ls at hl ⊢
  have hl : lv_has ls 3 [(0, .ref (a 0)), (1, .ref (b 0)), (2, .int p0)] := hl
  unfold wp_X8_could at h
  refine lv_aload_n hx hb dX8_could_0 rfl (lv_at hl 0 rfl) ?_
  refine va_get (D := D) (ci := 7) (v := .ref (a 3)) (C := RX8) (T := TX8) (N := 25) hx hb hts inX8 hown hK hP 0 rfl rfl 2 (by decide) (hts _ q_1079) (fun _ h9 => h9) rfl dX8_could_1 ?_
  refine lv_iload_n hx hb dX8_could_4 rfl (lv_at hl 2 rfl) ?_
  refine ar_zl (f := (S.1.2 2)) (n := 21) (j := (Int32.toNatClampNeg p0)) hx hb hK hP 3 rfl rfl h.1 dX8_could_5 ?_
  have h := h.2
  refine lv_if_eq (tgt := 46) hx hb dX8_could_6 (by decide) (fun c1 => ?_) (fun c1 => ?_)
  · have h := h.1 c1
    refine lv_iconst (v := 0) hx hb dX8_could_46 (by decide) ?_
    exact W.zret (ty := .boolean) (v := 0) hx hb hr (narB isB0) (fun t ht hW => ⟨⟨0, S, rfl, h, by rw [ht]; exact hP, va_K.moved hW.alike hK, hD⟩, hS.F ht⟩) hS.2.2 dX8_could_47
  · have h := h.2 c1
    refine lv_aload_n hx hb dX8_could_9 rfl (lv_at hl 1 rfl) ?_
    refine lv_iload_n hx hb dX8_could_10 rfl (lv_at hl 2 rfl) ?_
    refine lv_aload_n hx hb dX8_could_11 rfl (lv_at hl 0 rfl) ?_
    refine va_get (D := D) (ci := 7) (v := .int (S.1.1 3)) (C := RX8) (T := TX8) (N := 25) hx hb hts inX8 hown hK hP 0 rfl rfl 3 (by decide) (hts _ q_1080) (fun _ h9 => h9) rfl dX8_could_12 ?_
    refine cl_i (ws' := fun u2 => (wX8s cI cZ a b (S.1, u2))) (va_runS (As := [.ref (b 0), .int p0, .int (S.1.1 3)]) (rest := []) ⟨hx, hb, hml, hown, hts⟩ (c_X8_groupOf l D cI cZ b _ S.2 p0 (S.1.1 3) _ h ) (va_cwS 3 hts (gS q_1240 q_1241 q_75 q_1242) rfl rfl rfl (by decide +kernel) ⟨Nat.le_of_ble_eq_true rfl, Nat.le_of_ble_eq_true rfl⟩) (preS_of hK hP hD [11] rfl rfl (by decide)) rfl rfl hl.1 rfl (lv_room (Nat.le_of_ble_eq_true rfl)) dX8_could_15 ⟨Nat.zero_le _, Nat.zero_le _⟩) hP hD hS hA [11] [.inr 0, .inr 1, .inr 2, .inr 3, .inr 4, .inr 5, .inr 6, .inr 7, .inr 8, .inr 9, .inr 10, .inl 0] rfl (by decide) (fun _ => rfl) (fun _ => rfl) (fun r3 u2 H locs h hP hD hS => ?_)
    refine lv_aload_n hx hb dX8_could_18 rfl (lv_at hl 1 rfl) ?_
    refine lv_aload_n hx hb dX8_could_19 rfl (lv_at hl 0 rfl) ?_
    refine va_get (D := D) (ci := 7) (v := .int (S.1.1 3)) (C := RX8) (T := TX8) (N := 25) hx hb hts inX8 hown hK hP 0 rfl rfl 3 (by decide) (hts _ q_1080) (fun _ h9 => h9) rfl dX8_could_20 ?_
    refine lv_aload_n hx hb dX8_could_23 rfl (lv_at hl 1 rfl) ?_
    refine lv_bipush (v := 16) hx hb dX8_could_24 (by decide) ?_
    refine ar_il (f := u2) (n := 342) (j := 16) hx hb hK hP 11 rfl (by decide) (okLit (by decide)) dX8_could_26 ?_
    refine lv_iconst (v := 1) hx hb dX8_could_27 (by decide) ?_
    refine lv_icmp_ne (tgt := 35) hx hb dX8_could_28 (by decide) (fun c4 => ?_) (fun c4 => ?_)
    · have h := h.1 c4
      refine lv_iconst (v := 0) hx hb dX8_could_35 (by decide) ?_
      refine cl_i (ws' := fun u5 => (wX8s cI cZ a b (S.1, u5))) (va_runS (As := [.ref (b 0), .int (S.1.1 3), .int 0]) (rest := [.int r3]) ⟨hx, hb, hml, hown, hts⟩ (c_X8_limitOf l D cI cZ b _ u2 (S.1.1 3) 0 _ h ) (va_cwS 3 hts (gS q_1237 q_1238 q_75 q_1239) rfl rfl rfl (by decide +kernel) ⟨Nat.le_of_ble_eq_true rfl, Nat.le_of_ble_eq_true rfl⟩) (preS_of hK hP hD [11] rfl rfl (by decide)) rfl rfl hl.1 rfl (lv_room (Nat.le_of_ble_eq_true rfl)) dX8_could_36 ⟨Nat.zero_le _, Nat.zero_le _⟩) hP hD hS hA [11] [.inr 0, .inr 1, .inr 2, .inr 3, .inr 4, .inr 5, .inr 6, .inr 7, .inr 8, .inr 9, .inr 10, .inl 0] rfl (by decide) (fun _ => rfl) (fun _ => rfl) (fun r6 u5 H locs h hP hD hS => ?_)
      refine lv_icmp_ge (tgt := 46) hx hb dX8_could_39 (by decide) (fun c7 => ?_) (fun c7 => ?_)
      · have h := h.1 c7
        refine lv_iconst (v := 0) hx hb dX8_could_46 (by decide) ?_
        exact W.zret (ty := .boolean) (v := 0) hx hb hr (narB isB0) (fun t ht hW => ⟨⟨0, (S.1, u5), rfl, h, by rw [ht]; exact hP, va_K.moved hW.alike hK, hD⟩, hS.F ht⟩) hS.2.2 dX8_could_47
      · have h := h.2 c7
        refine lv_iconst (v := 1) hx hb dX8_could_42 (by decide) ?_
        refine lv_goto (tgt := 47) hx hb dX8_could_43 (by decide) ?_
        exact W.zret (ty := .boolean) (v := 1) hx hb hr (narB isB1) (fun t ht hW => ⟨⟨1, (S.1, u5), rfl, h, by rw [ht]; exact hP, va_K.moved hW.alike hK, hD⟩, hS.F ht⟩) hS.2.2 dX8_could_47
    · have h := h.2 c4
      refine lv_iconst (v := 1) hx hb dX8_could_31 (by decide) ?_
      refine lv_goto (tgt := 36) hx hb dX8_could_32 (by decide) ?_
      refine cl_i (ws' := fun u8 => (wX8s cI cZ a b (S.1, u8))) (va_runS (As := [.ref (b 0), .int (S.1.1 3), .int 1]) (rest := [.int r3]) ⟨hx, hb, hml, hown, hts⟩ (c_X8_limitOf l D cI cZ b _ u2 (S.1.1 3) 1 _ h ) (va_cwS 3 hts (gS q_1237 q_1238 q_75 q_1239) rfl rfl rfl (by decide +kernel) ⟨Nat.le_of_ble_eq_true rfl, Nat.le_of_ble_eq_true rfl⟩) (preS_of hK hP hD [11] rfl rfl (by decide)) rfl rfl hl.1 rfl (lv_room (Nat.le_of_ble_eq_true rfl)) dX8_could_36 ⟨Nat.zero_le _, Nat.zero_le _⟩) hP hD hS hA [11] [.inr 0, .inr 1, .inr 2, .inr 3, .inr 4, .inr 5, .inr 6, .inr 7, .inr 8, .inr 9, .inr 10, .inl 0] rfl (by decide) (fun _ => rfl) (fun _ => rfl) (fun r9 u8 H locs h hP hD hS => ?_)
      refine lv_icmp_ge (tgt := 46) hx hb dX8_could_39 (by decide) (fun c10 => ?_) (fun c10 => ?_)
      · have h := h.1 c10
        refine lv_iconst (v := 0) hx hb dX8_could_46 (by decide) ?_
        exact W.zret (ty := .boolean) (v := 0) hx hb hr (narB isB0) (fun t ht hW => ⟨⟨0, (S.1, u8), rfl, h, by rw [ht]; exact hP, va_K.moved hW.alike hK, hD⟩, hS.F ht⟩) hS.2.2 dX8_could_47
      · have h := h.2 c10
        refine lv_iconst (v := 1) hx hb dX8_could_42 (by decide) ?_
        refine lv_goto (tgt := 47) hx hb dX8_could_43 (by decide) ?_
        exact W.zret (ty := .boolean) (v := 1) hx hb hr (narB isB1) (fun t ht hW => ⟨⟨1, (S.1, u8), rfl, h, by rw [ht]; exact hP, va_K.moved hW.alike hK, hD⟩, hS.F ht⟩) hS.2.2 dX8_could_47
/-! X8_pends -/
abbrev rmX8_pends : Room := { frames := 1, cells := 0, slots := 0, locals := 21 }
set_option maxHeartbeats 4000000 in
set_option maxRecDepth 100000 in
theorem c_X8_pends (l : Launch) (D : va_G) (cI cZ : ClassId) (a : Nat → Nat) (b : Nat → Nat) (nw : Bool) (sz : Nat) (S : Ob × (Nat → Int32)) (p0 : Int32) (Q : (Ob × (Nat → Int32)) → Prop) (h : wp_X8_pends nw S p0 Q) (hb4 : nw = true → b 0 = a 4) : Met l yX8_pends (wsm yX8_pends cX8_pends 3 none) rmX8_pends (va_Pc [.ref (a 0), .ref (b 0), .int p0] (preW D cI cZ sz (wX8s cI cZ a b S))) (va_Qv Q (fun u => atW D cI cZ (va_A (wX8s cI cZ a b S) sz) (wX8s cI cZ a b u)) (va_A (wX8s cI cZ a b S) sz)) 0 0 (va_A (wX8s cI cZ a b S) sz) := by
  refine Met.ofW (cc := cX8_pends) (maxL := 3) (ret := none) (by decide) rfl ?_
  intro p e s m args below meth c s₁ B hml hv
  obtain ⟨rfl, hsz, hP, hK, hD0⟩ := hv
  have hx := B.exec
  have hb := B.bytes
  have hr := B.returns
  have hts0 := atoms_spec (ws := wsm yX8_pends cX8_pends 3 none) B.pre
  have hts : ∀ w ∈ lw_all, w.before _ s = true := fun w h => hts0 w (List.mem_cons_of_mem _ h)
  have hown : s.vm.findClass RX8 = some m.cls := findClass_of_methodNamed B.named
  have hlocks := B.notSynchronized
  subst hsz
  have hD := hD0.self (sz := s.heap.size)
  generalize hAe : va_A (wX8s cI cZ a b S) s.heap.size = A at hD ⊢
  have hA : ∀ q : Nat, s.heap.size ≤ q → A q := fun q h => by rw [← hAe]; exact Or.inr h
  have hS : va_S A s.heap s.heap [] := va_S.rf
  have hml2 := hml
  have hl := lv_entry ([.ref (a 0), .ref (b 0), .int p0]) (n := 3) (Nat.le_of_ble_eq_true rfl)
  rw [lg_entry_eq]
  generalize (lg_sl ([.ref (a 0), .ref (b 0), .int p0]) ++ List.replicate (3 - (lg_sl ([.ref (a 0), .ref (b 0), .int p0])).length) Slot.unset).toArray = ls at hl ⊢
  have hl : lv_has ls 3 [(0, .ref (a 0)), (1, .ref (b 0)), (2, .int p0)] := hl
  unfold wp_X8_pends at h
  refine lv_aload_n hx hb dX8_pends_0 rfl (lv_at hl 1 rfl) ?_
  refine lv_sipush (v := 194) hx hb dX8_pends_1 (by decide) ?_
  refine lv_iload_n hx hb dX8_pends_4 rfl (lv_at hl 2 rfl) ?_
  refine lv_iadd hx hb dX8_pends_5 ?_
  refine ar_il (f := S.2) (n := 342) (j := (Int32.toNatClampNeg (194 + p0))) hx hb hK hP 11 rfl rfl h.1 dX8_pends_6 ?_
  have h := h.2
  refine lv_if_lt (tgt := 19) hx hb dX8_pends_7 (by decide) (fun c1 => ?_) (fun c1 => ?_)
  · have h := h.1 c1
    refine lv_aload_n hx hb dX8_pends_19 rfl (lv_at hl 1 rfl) ?_
    refine lv_sipush (v := 194) hx hb dX8_pends_20 (by decide) ?_
    refine lv_iload_n hx hb dX8_pends_23 rfl (lv_at hl 2 rfl) ?_
    refine lv_iadd hx hb dX8_pends_24 ?_
    refine lv_aload_n hx hb dX8_pends_25 rfl (lv_at hl 1 rfl) ?_
    refine lv_bipush (v := 25) hx hb dX8_pends_26 (by decide) ?_
    refine ar_il (f := S.2) (n := 342) (j := 25) hx hb hK hP 11 rfl (by decide) (okLit (by decide)) dX8_pends_28 ?_
    obtain ⟨T2, eT2⟩ : ∃ z : (Nat → Int32), z = (upd S.2 (Int32.toNatClampNeg (194 + p0)) (S.2 25)) := ⟨_, rfl⟩
    refine ar_is (f := S.2) (n := 342) (j := (Int32.toNatClampNeg (194 + p0))) (x := (S.2 25)) hx hb hK hP hD hS 11 rfl rfl h.1 dX8_pends_29 (wX8s cI cZ a b (S.1, T2)) (by subst eT2; rfl) (fun H locs hP hD hS => ?_)
    have h := h.2
    have h := h T2 eT2
    exact W.vret hx hb hr (fun t ht hW => ⟨⟨(S.1, T2), rfl, h, by rw [ht]; exact hP, va_K.moved hW.alike hK, hD⟩, hS.F ht⟩) hS.2.2 dX8_pends_30
  · have h := h.2 c1
    refine lv_aload_n hx hb dX8_pends_10 rfl (lv_at hl 0 rfl) ?_
    refine lv_bipush (v := 9) hx hb dX8_pends_11 (by decide) ?_
    refine cl_v (ws' := fun u3 => (wX8s cI cZ a b u3)) (va_runV (As := [.int 9]) (rest := []) ⟨hx, hb, hml, hown, hts⟩ (c_X8_counts l D cI cZ a b nw _ S 9 _ h hb4) (cwV 1 hts (gV q_1193 q_1195 q_31 q_75 q_1196) rfl rfl rfl (by decide +kernel) ⟨Nat.le_of_ble_eq_true rfl, Nat.le_of_ble_eq_true rfl⟩) (preV_of (ci := 7) (q := (RX8, TX8, 25)) hK hP hD [0, 1, 2, 3, 4, 5, 6, 7, 8, 9, 10, 11] rfl rfl (by decide) 0 rfl rfl) rfl rfl hl.1 rfl (lv_room (Nat.le_of_ble_eq_true rfl)) dX8_pends_13 ⟨Nat.zero_le _, Nat.zero_le _⟩) hP hD hS hA [0, 1, 2, 3, 4, 5, 6, 7, 8, 9, 10, 11] [.inl 0, .inl 1, .inl 2, .inl 3, .inl 4, .inl 5, .inl 6, .inl 7, .inl 8, .inl 9, .inl 10, .inl 11] rfl (by decide) (fun _ => rfl) (fun _ => rfl) (fun u3 H locs h hP hD hS => ?_)
    refine lv_goto (tgt := 30) hx hb dX8_pends_16 (by decide) ?_
    exact W.vret hx hb hr (fun t ht hW => ⟨⟨u3, rfl, h, by rw [ht]; exact hP, va_K.moved hW.alike hK, hD⟩, hS.F ht⟩) hS.2.2 dX8_pends_30
/-! X8_targetOf -/
abbrev rmX8_targetOf : Room := { frames := 3, cells := 0, slots := 0, locals := 69 }
set_option maxHeartbeats 4000000 in
set_option maxRecDepth 100000 in
theorem c_X8_targetOf (l : Launch) (D : va_G) (cI cZ : ClassId) (a : Nat → Nat) (b : Nat → Nat) (nw : Bool) (sz : Nat) (S : Ob × (Nat → Int32)) (p0 : Int32) (Q : Int32 → (Ob × (Nat → Int32)) → Prop) (h : wp_X8_targetOf nw S p0 Q) (hb4 : nw = true → b 0 = a 4) : Met l yX8_targetOf (wsm yX8_targetOf cX8_targetOf 3 (some .int)) rmX8_targetOf (va_Pc [.ref (a 0), .ref (b 0), .int p0] (preW D cI cZ sz (wX8s cI cZ a b S))) (va_Qi Q (fun u => atW D cI cZ (va_A (wX8s cI cZ a b S) sz) (wX8s cI cZ a b u)) (va_A (wX8s cI cZ a b S) sz)) 0 0 (va_A (wX8s cI cZ a b S) sz) := by
  refine Met.ofW (cc := cX8_targetOf) (maxL := 3) (ret := (some .int)) (by decide) rfl ?_
  intro p e s m args below meth c s₁ B hml hv
  obtain ⟨rfl, hsz, hP, hK, hD0⟩ := hv
  have hx := B.exec
  have hb := B.bytes
  have hr := B.returns
  have hts0 := atoms_spec (ws := wsm yX8_targetOf cX8_targetOf 3 (some .int)) B.pre
  have hts : ∀ w ∈ lw_all, w.before _ s = true := fun w h => hts0 w (List.mem_cons_of_mem _ h)
  have hown : s.vm.findClass RX8 = some m.cls := findClass_of_methodNamed B.named
  have hlocks := B.notSynchronized
  subst hsz
  have hD := hD0.self (sz := s.heap.size)
  generalize hAe : va_A (wX8s cI cZ a b S) s.heap.size = A at hD ⊢
  have hA : ∀ q : Nat, s.heap.size ≤ q → A q := fun q h => by rw [← hAe]; exact Or.inr h
  have hS : va_S A s.heap s.heap [] := va_S.rf
  have hml2 := hml
  have hl := lv_entry ([.ref (a 0), .ref (b 0), .int p0]) (n := 3) (Nat.le_of_ble_eq_true rfl)
  rw [lg_entry_eq]
  generalize (lg_sl ([.ref (a 0), .ref (b 0), .int p0]) ++ List.replicate (3 - (lg_sl ([.ref (a 0), .ref (b 0), .int p0])).length) Slot.unset).toArray = ls at hl ⊢
  have hl : lv_has ls 3 [(0, .ref (a 0)), (1, .ref (b 0)), (2, .int p0)] := hl
  unfold wp_X8_targetOf at h
  refine lv_aload_n hx hb dX8_targetOf_0 rfl (lv_at hl 0 rfl) ?_
  refine lv_aload_n hx hb dX8_targetOf_1 rfl (lv_at hl 1 rfl) ?_
  refine lv_iload_n hx hb dX8_targetOf_2 rfl (lv_at hl 2 rfl) ?_
  refine cl_i (ws' := fun u1 => (wX8s cI cZ a b u1)) (va_runV (As := [.ref (b 0), .int p0]) (rest := []) ⟨hx, hb, hml, hown, hts⟩ (c_X8_could l D cI cZ a b nw _ S p0 _ h hb4) (cwV 2 hts (gV q_1270 q_1272 q_43 q_75 q_1273) rfl rfl rfl (by decide +kernel) ⟨Nat.le_of_ble_eq_true rfl, Nat.le_of_ble_eq_true rfl⟩) (preV_of (ci := 7) (q := (RX8, TX8, 25)) hK hP hD [0, 1, 2, 3, 4, 5, 6, 7, 8, 9, 10, 11] rfl rfl (by decide) 0 rfl rfl) rfl rfl hl.1 rfl (lv_room (Nat.le_of_ble_eq_true rfl)) dX8_targetOf_3 ⟨Nat.zero_le _, Nat.zero_le _⟩) hP hD hS hA [0, 1, 2, 3, 4, 5, 6, 7, 8, 9, 10, 11] [.inl 0, .inl 1, .inl 2, .inl 3, .inl 4, .inl 5, .inl 6, .inl 7, .inl 8, .inl 9, .inl 10, .inl 11] rfl (by decide) (fun _ => rfl) (fun _ => rfl) (fun r2 u1 H locs h hP hD hS => ?_)
  refine lv_if_eq (tgt := 13) hx hb dX8_targetOf_6 (by decide) (fun c3 => ?_) (fun c3 => ?_)
  · have h := h.1 c3
    refine lv_aload_n hx hb dX8_targetOf_13 rfl (lv_at hl 1 rfl) ?_
    refine lv_sipush (v := 320) hx hb dX8_targetOf_14 (by decide) ?_
    refine ar_il (f := u1.2) (n := 342) (j := 320) hx hb hK hP 11 rfl (by decide) (okLit (by decide)) dX8_targetOf_17 ?_
    refine lv_if_ne (tgt := 26) hx hb dX8_targetOf_18 (by decide) (fun c4 => ?_) (fun c4 => ?_)
    · have h := h.1 c4
      refine lv_iconst (v := -1) hx hb dX8_targetOf_26 (by decide) ?_
      exact W.iret (v := (-1)) hx hb hr (fun t ht hW => ⟨⟨(-1), u1, rfl, h, by rw [ht]; exact hP, va_K.moved hW.alike hK, hD⟩, hS.F ht⟩) hS.2.2 dX8_targetOf_27
    · have h := h.2 c4
      refine lv_bipush (v := 20) hx hb dX8_targetOf_21 (by decide) ?_
      refine lv_goto (tgt := 27) hx hb dX8_targetOf_23 (by decide) ?_
      exact W.iret (v := 20) hx hb hr (fun t ht hW => ⟨⟨20, u1, rfl, h, by rw [ht]; exact hP, va_K.moved hW.alike hK, hD⟩, hS.F ht⟩) hS.2.2 dX8_targetOf_27
  · have h := h.2 c3
    refine lv_iload_n hx hb dX8_targetOf_9 rfl (lv_at hl 2 rfl) ?_
    refine lv_goto (tgt := 27) hx hb dX8_targetOf_10 (by decide) ?_
    exact W.iret (v := p0) hx hb hr (fun t ht hW => ⟨⟨p0, u1, rfl, h, by rw [ht]; exact hP, va_K.moved hW.alike hK, hD⟩, hS.F ht⟩) hS.2.2 dX8_targetOf_27
