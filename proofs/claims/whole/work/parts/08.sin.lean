/-! X4_isFor -/
abbrev rmX4_isFor : Room := { frames := 0, cells := 0, slots := 0, locals := 0 }
set_option maxHeartbeats 4000000 in
set_option maxRecDepth 100000 in
theorem c_X4_isFor (l : Launch) (D : va_G) (cI cZ : ClassId) (sz : Nat) (S : Unit) (p0 : Int32) (Q : Int32 → Unit → Prop) (h : wp_X4_isFor S p0 Q) : Met l yX4_isFor (wsm yX4_isFor cX4_isFor 1 (some .boolean)) rmX4_isFor (va_Pc [.int p0] (preW D cI cZ sz (w0_ cI cZ S))) (va_Qi Q (fun u => atW D cI cZ (va_A (w0_ cI cZ S) sz) (w0_ cI cZ u)) (va_A (w0_ cI cZ S) sz)) 0 0 (va_A (w0_ cI cZ S) sz) := by
  refine Met.ofW (cc := cX4_isFor) (maxL := 1) (ret := (some .boolean)) (by decide) rfl ?_
  intro p e s m args below meth c s₁ B hml hv
  obtain ⟨rfl, hsz, hP, hK, hD0⟩ := hv
  have hx := B.exec
  have hb := B.bytes
  have hr := B.returns
  have hts0 := atoms_spec (ws := wsm yX4_isFor cX4_isFor 1 (some .boolean)) B.pre
  have hts : ∀ w ∈ lw_all, w.before _ s = true := fun w h => hts0 w (List.mem_cons_of_mem _ h)
  have hown : s.vm.findClass RX4 = some m.cls := findClass_of_methodNamed B.named
  have hlocks := B.notSynchronized
  subst hsz
  have hD := hD0.self (sz := s.heap.size)
  generalize hAe : va_A (w0_ cI cZ S) s.heap.size = A at hD ⊢
  have hA : ∀ q : Nat, s.heap.size ≤ q → A q := fun q h => by rw [← hAe]; exact Or.inr h
  have hS : va_S A s.heap s.heap [] := va_S.rf
  have hml2 := hml
  have hl := lv_entry ([.int p0]) (n := 1) (Nat.le_of_ble_eq_true rfl)
  rw [lg_entry_eq]
  generalize (lg_sl ([.int p0]) ++ List.replicate (1 - (lg_sl ([.int p0])).length) Slot.unset).toArray = ls at hl ⊢
  have hl : lv_has ls 1 [(0, .int p0)] := hl
  unfold wp_X4_isFor at h
  refine lv_iload_n hx hb dX4_isFor_0 rfl (lv_at hl 0 rfl) ?_
  refine lv_bipush (v := 20) hx hb dX4_isFor_1 (by decide) ?_
  refine lv_icmp_lt (tgt := 16) hx hb dX4_isFor_3 (by decide) (fun c1 => ?_) (fun c1 => ?_)
  · have h := h.1 c1
    refine lv_iconst (v := 0) hx hb dX4_isFor_16 (by decide) ?_
    exact W.zret (ty := .boolean) (v := 0) hx hb hr (narB isB0) (fun t ht hW => ⟨⟨0, (), rfl, h, by rw [ht]; exact hP, va_K.moved hW.alike hK, hD⟩, hS.F ht⟩) hS.2.2 dX4_isFor_17
  · have h := h.2 c1
    refine lv_iload_n hx hb dX4_isFor_6 rfl (lv_at hl 0 rfl) ?_
    refine lv_bipush (v := 24) hx hb dX4_isFor_7 (by decide) ?_
    refine lv_icmp_gt (tgt := 16) hx hb dX4_isFor_9 (by decide) (fun c2 => ?_) (fun c2 => ?_)
    · have h := h.1 c2
      refine lv_iconst (v := 0) hx hb dX4_isFor_16 (by decide) ?_
      exact W.zret (ty := .boolean) (v := 0) hx hb hr (narB isB0) (fun t ht hW => ⟨⟨0, (), rfl, h, by rw [ht]; exact hP, va_K.moved hW.alike hK, hD⟩, hS.F ht⟩) hS.2.2 dX4_isFor_17
    · have h := h.2 c2
      refine lv_iconst (v := 1) hx hb dX4_isFor_12 (by decide) ?_
      refine lv_goto (tgt := 17) hx hb dX4_isFor_13 (by decide) ?_
      exact W.zret (ty := .boolean) (v := 1) hx hb hr (narB isB1) (fun t ht hW => ⟨⟨1, (), rfl, h, by rw [ht]; exact hP, va_K.moved hW.alike hK, hD⟩, hS.F ht⟩) hS.2.2 dX4_isFor_17
/-! X4_isFinite -/
abbrev rmX4_isFinite : Room := { frames := 0, cells := 0, slots := 0, locals := 0 }
set_option maxHeartbeats 4000000 in
set_option maxRecDepth 100000 in
theorem c_X4_isFinite (l : Launch) (D : va_G) (cI cZ : ClassId) (sz : Nat) (S : Unit) (p0 : Int32) (Q : Int32 → Unit → Prop) (h : wp_X4_isFinite S p0 Q) : Met l yX4_isFinite (wsm yX4_isFinite cX4_isFinite 1 (some .boolean)) rmX4_isFinite (va_Pc [.int p0] (preW D cI cZ sz (w0_ cI cZ S))) (va_Qi Q (fun u => atW D cI cZ (va_A (w0_ cI cZ S) sz) (w0_ cI cZ u)) (va_A (w0_ cI cZ S) sz)) 0 0 (va_A (w0_ cI cZ S) sz) := by
  refine Met.ofW (cc := cX4_isFinite) (maxL := 1) (ret := (some .boolean)) (by decide) rfl ?_
  intro p e s m args below meth c s₁ B hml hv
  obtain ⟨rfl, hsz, hP, hK, hD0⟩ := hv
  have hx := B.exec
  have hb := B.bytes
  have hr := B.returns
  have hts0 := atoms_spec (ws := wsm yX4_isFinite cX4_isFinite 1 (some .boolean)) B.pre
  have hts : ∀ w ∈ lw_all, w.before _ s = true := fun w h => hts0 w (List.mem_cons_of_mem _ h)
  have hown : s.vm.findClass RX4 = some m.cls := findClass_of_methodNamed B.named
  have hlocks := B.notSynchronized
  subst hsz
  have hD := hD0.self (sz := s.heap.size)
  generalize hAe : va_A (w0_ cI cZ S) s.heap.size = A at hD ⊢
  have hA : ∀ q : Nat, s.heap.size ≤ q → A q := fun q h => by rw [← hAe]; exact Or.inr h
  have hS : va_S A s.heap s.heap [] := va_S.rf
  have hml2 := hml
  have hl := lv_entry ([.int p0]) (n := 1) (Nat.le_of_ble_eq_true rfl)
  rw [lg_entry_eq]
  generalize (lg_sl ([.int p0]) ++ List.replicate (1 - (lg_sl ([.int p0])).length) Slot.unset).toArray = ls at hl ⊢
  have hl : lv_has ls 1 [(0, .int p0)] := hl
  unfold wp_X4_isFinite at h
  refine lv_iload_n hx hb dX4_isFinite_0 rfl (lv_at hl 0 rfl) ?_
  refine lv_ldc hx hb hown (hts _ q_586) dX4_isFinite_1 ?_
  refine lv_iand hx hb dX4_isFinite_3 ?_
  refine lv_ldc hx hb hown (hts _ q_586) dX4_isFinite_4 ?_
  refine lv_icmp_eq (tgt := 13) hx hb dX4_isFinite_6 (by decide) (fun c1 => ?_) (fun c1 => ?_)
  · have h := h.1 c1
    refine lv_iconst (v := 0) hx hb dX4_isFinite_13 (by decide) ?_
    exact W.zret (ty := .boolean) (v := 0) hx hb hr (narB isB0) (fun t ht hW => ⟨⟨0, (), rfl, h, by rw [ht]; exact hP, va_K.moved hW.alike hK, hD⟩, hS.F ht⟩) hS.2.2 dX4_isFinite_14
  · have h := h.2 c1
    refine lv_iconst (v := 1) hx hb dX4_isFinite_9 (by decide) ?_
    refine lv_goto (tgt := 14) hx hb dX4_isFinite_10 (by decide) ?_
    exact W.zret (ty := .boolean) (v := 1) hx hb hr (narB isB1) (fun t ht hW => ⟨⟨1, (), rfl, h, by rw [ht]; exact hP, va_K.moved hW.alike hK, hD⟩, hS.F ht⟩) hS.2.2 dX4_isFinite_14
/-! X4_valueOf -/
abbrev rmX4_valueOf : Room := { frames := 0, cells := 0, slots := 0, locals := 0 }
set_option maxHeartbeats 4000000 in
set_option maxRecDepth 100000 in
theorem c_X4_valueOf (l : Launch) (D : va_G) (cI cZ : ClassId) (sz : Nat) (S : Unit) (p0 : Int32) (Q : UInt32 → Unit → Prop) (h : wp_X4_valueOf S p0 Q) : Met l yX4_valueOf (wsm yX4_valueOf cX4_valueOf 8 (some .float)) rmX4_valueOf (va_Pc [.int p0] (preW D cI cZ sz (w0_ cI cZ S))) (va_Qf Q (fun u => atW D cI cZ (va_A (w0_ cI cZ S) sz) (w0_ cI cZ u)) (va_A (w0_ cI cZ S) sz)) 0 0 (va_A (w0_ cI cZ S) sz) := by
  refine Met.ofW (cc := cX4_valueOf) (maxL := 8) (ret := (some .float)) (by decide) rfl ?_
  intro p e s m args below meth c s₁ B hml hv
  obtain ⟨rfl, hsz, hP, hK, hD0⟩ := hv
  have hx := B.exec
  have hb := B.bytes
  have hr := B.returns
  have hts0 := atoms_spec (ws := wsm yX4_valueOf cX4_valueOf 8 (some .float)) B.pre
  have hts : ∀ w ∈ lw_all, w.before _ s = true := fun w h => hts0 w (List.mem_cons_of_mem _ h)
  have hown : s.vm.findClass RX4 = some m.cls := findClass_of_methodNamed B.named
  have hlocks := B.notSynchronized
  subst hsz
  have hD := hD0.self (sz := s.heap.size)
  generalize hAe : va_A (w0_ cI cZ S) s.heap.size = A at hD ⊢
  have hA : ∀ q : Nat, s.heap.size ≤ q → A q := fun q h => by rw [← hAe]; exact Or.inr h
  have hS : va_S A s.heap s.heap [] := va_S.rf
  have hml2 := hml
  have L74 : ∀ (n : Nat), ∀ (y0 : Int32) (y3 : UInt32) (y5 : Int32) (y6 : UInt32) (y7 : Int32) (T : Unit) (H : Heap) (locs : List Loc) (ls : Array Slot), va_P D vwCl (w0_ cI cZ T) H → va_D A (w0_ cI cZ T) → va_S A s.heap H locs → lv_has ls 8 [(0, .int y0), (3, .float y3), (5, .int y5), (6, .float y6), (7, .int y7)] → wp_X4_valueOf_L74 Q n y0 y3 y5 y6 y7 T → W p l e rmX4_valueOf s m ([.int p0] : List Value).toArray below meth c H locs 0 0 (MQ below (va_Qf Q (fun u => atW D cI cZ A (w0_ cI cZ u)) A) ([.int p0] : List Value).toArray s 0 0 A) (F0 m 74 ls []) := by
    intro n
    induction n with
    | zero =>
      intro y0 y3 y5 y6 y7 T H locs ls hP hD hS hl h
      exact False.elim h
    | succ n ih =>
      intro y0 y3 y5 y6 y7 T H locs ls hP hD hS hl h
      unfold wp_X4_valueOf_L74 at h
      refine lv_iload hx hb dX4_valueOf_74 (lv_at hl 4 rfl) ?_
      refine lv_bipush (v := 8) hx hb dX4_valueOf_76 (by decide) ?_
      refine lv_icmp_ge (tgt := 123) hx hb dX4_valueOf_78 (by decide) (fun c10 => ?_) (fun c10 => ?_)
      · have h := h.1 c10
        refine lv_iload_n hx hb dX4_valueOf_123 rfl (lv_at hl 0 rfl) ?_
        refine lv_if_ge (tgt := 133) hx hb dX4_valueOf_124 (by decide) (fun c11 => ?_) (fun c11 => ?_)
        · have h := h.1 c11
          refine lv_fload_n hx hb dX4_valueOf_133 rfl (lv_at hl 1 rfl) ?_
          exact W.fret (v := y3) hx hb hr (fun t ht hW => ⟨⟨y3, (), rfl, h, by rw [ht]; exact hP, va_K.moved hW.alike hK, hD⟩, hS.F ht⟩) hS.2.2 dX4_valueOf_134
        · have h := h.2 c11
          refine lv_fconst0 hx hb dX4_valueOf_127 ?_
          refine lv_fload_n hx hb dX4_valueOf_128 rfl (lv_at hl 1 rfl) ?_
          refine lv_fsub hx hb dX4_valueOf_129 h.1 ?_
          have h := h.2
          refine lv_goto (tgt := 134) hx hb dX4_valueOf_130 (by decide) ?_
          exact W.fret (v := (FP.fsub 0 y3)) hx hb hr (fun t ht hW => ⟨⟨(FP.fsub 0 y3), (), rfl, h, by rw [ht]; exact hP, va_K.moved hW.alike hK, hD⟩, hS.F ht⟩) hS.2.2 dX4_valueOf_134
      · have h := h.2 c10
        refine lv_iload hx hb dX4_valueOf_81 (lv_at hl 2 rfl) ?_
        refine lv_iload hx hb dX4_valueOf_83 (lv_at hl 4 rfl) ?_
        refine lv_ishr hx hb dX4_valueOf_85 ?_
        refine lv_if_eq (tgt := 123) hx hb dX4_valueOf_86 (by decide) (fun c12 => ?_) (fun c12 => ?_)
        · have h := h.1 c12
          refine lv_iload_n hx hb dX4_valueOf_123 rfl (lv_at hl 0 rfl) ?_
          refine lv_if_ge (tgt := 133) hx hb dX4_valueOf_124 (by decide) (fun c13 => ?_) (fun c13 => ?_)
          · have h := h.1 c13
            refine lv_fload_n hx hb dX4_valueOf_133 rfl (lv_at hl 1 rfl) ?_
            exact W.fret (v := y3) hx hb hr (fun t ht hW => ⟨⟨y3, (), rfl, h, by rw [ht]; exact hP, va_K.moved hW.alike hK, hD⟩, hS.F ht⟩) hS.2.2 dX4_valueOf_134
          · have h := h.2 c13
            refine lv_fconst0 hx hb dX4_valueOf_127 ?_
            refine lv_fload_n hx hb dX4_valueOf_128 rfl (lv_at hl 1 rfl) ?_
            refine lv_fsub hx hb dX4_valueOf_129 h.1 ?_
            have h := h.2
            refine lv_goto (tgt := 134) hx hb dX4_valueOf_130 (by decide) ?_
            exact W.fret (v := (FP.fsub 0 y3)) hx hb hr (fun t ht hW => ⟨⟨(FP.fsub 0 y3), (), rfl, h, by rw [ht]; exact hP, va_K.moved hW.alike hK, hD⟩, hS.F ht⟩) hS.2.2 dX4_valueOf_134
        · have h := h.2 c12
          refine lv_iload hx hb dX4_valueOf_89 (lv_at hl 4 rfl) ?_
          refine lv_if_le (tgt := 101) hx hb dX4_valueOf_91 (by decide) (fun c14 => ?_) (fun c14 => ?_)
          · have h := h.1 c14
            refine lv_iload hx hb dX4_valueOf_101 (lv_at hl 2 rfl) ?_
            refine lv_iload hx hb dX4_valueOf_103 (lv_at hl 4 rfl) ?_
            refine lv_ishr hx hb dX4_valueOf_105 ?_
            refine lv_iconst (v := 1) hx hb dX4_valueOf_106 (by decide) ?_
            refine lv_iand hx hb dX4_valueOf_107 ?_
            refine lv_iconst (v := 1) hx hb dX4_valueOf_108 (by decide) ?_
            refine lv_icmp_ne (tgt := 117) hx hb dX4_valueOf_109 (by decide) (fun c15 => ?_) (fun c15 => ?_)
            · have h := h.1 c15
              obtain ⟨x16, ex16⟩ : ∃ y : Int32, y = (y7 + 1) := ⟨_, rfl⟩
              have h := h x16 ex16
              refine lv_iinc (v := x16) (lv' := [(7, .int x16), (0, .int y0), (3, .float y3), (5, .int y5), (6, .float y6)]) hx hb dX4_valueOf_117 hl (k := 4) rfl (by rw [ex16]; rfl) (by decide) rfl (fun ls hl => ?_)
              refine lv_goto (tgt := 74) hx hb dX4_valueOf_120 (by decide) ?_
              exact ih y0 y3 y5 y6 x16 () _ _ _ hP hD hS (lv_sub hl [1, 2, 3, 4, 0] rfl) h
            · have h := h.2 c15
              refine lv_fload_n hx hb dX4_valueOf_112 rfl (lv_at hl 1 rfl) ?_
              refine lv_fload hx hb dX4_valueOf_113 (lv_at hl 3 rfl) ?_
              refine lv_fmul hx hb dX4_valueOf_115 h.1 ?_
              have h := h.2
              refine lv_topf (fun x17 ex17 => ?_)
              have h := h x17 ex17
              refine lv_fstore_n (lv' := [(3, .float x17), (0, .int y0), (5, .int y5), (6, .float y6), (7, .int y7)]) hx hb dX4_valueOf_116 rfl hl (by decide) rfl (fun ls hl => ?_)
              obtain ⟨x18, ex18⟩ : ∃ y : Int32, y = (y7 + 1) := ⟨_, rfl⟩
              have h := h x18 ex18
              refine lv_iinc (v := x18) (lv' := [(7, .int x18), (3, .float x17), (0, .int y0), (5, .int y5), (6, .float y6)]) hx hb dX4_valueOf_117 hl (k := 4) rfl (by rw [ex18]; rfl) (by decide) rfl (fun ls hl => ?_)
              refine lv_goto (tgt := 74) hx hb dX4_valueOf_120 (by decide) ?_
              exact ih y0 x17 y5 y6 x18 () _ _ _ hP hD hS (lv_sub hl [2, 1, 3, 4, 0] rfl) h
          · have h := h.2 c14
            refine lv_fload hx hb dX4_valueOf_94 (lv_at hl 3 rfl) ?_
            refine lv_fload hx hb dX4_valueOf_96 (lv_at hl 3 rfl) ?_
            refine lv_fmul hx hb dX4_valueOf_98 h.1 ?_
            have h := h.2
            refine lv_topf (fun x19 ex19 => ?_)
            have h := h x19 ex19
            refine lv_fstore (lv' := [(6, .float x19), (0, .int y0), (3, .float y3), (5, .int y5), (7, .int y7)]) hx hb dX4_valueOf_99 hl (by decide) rfl (fun ls hl => ?_)
            refine lv_iload hx hb dX4_valueOf_101 (lv_at hl 3 rfl) ?_
            refine lv_iload hx hb dX4_valueOf_103 (lv_at hl 4 rfl) ?_
            refine lv_ishr hx hb dX4_valueOf_105 ?_
            refine lv_iconst (v := 1) hx hb dX4_valueOf_106 (by decide) ?_
            refine lv_iand hx hb dX4_valueOf_107 ?_
            refine lv_iconst (v := 1) hx hb dX4_valueOf_108 (by decide) ?_
            refine lv_icmp_ne (tgt := 117) hx hb dX4_valueOf_109 (by decide) (fun c20 => ?_) (fun c20 => ?_)
            · have h := h.1 c20
              obtain ⟨x21, ex21⟩ : ∃ y : Int32, y = (y7 + 1) := ⟨_, rfl⟩
              have h := h x21 ex21
              refine lv_iinc (v := x21) (lv' := [(7, .int x21), (6, .float x19), (0, .int y0), (3, .float y3), (5, .int y5)]) hx hb dX4_valueOf_117 hl (k := 4) rfl (by rw [ex21]; rfl) (by decide) rfl (fun ls hl => ?_)
              refine lv_goto (tgt := 74) hx hb dX4_valueOf_120 (by decide) ?_
              exact ih y0 y3 y5 x19 x21 () _ _ _ hP hD hS (lv_sub hl [2, 3, 4, 1, 0] rfl) h
            · have h := h.2 c20
              refine lv_fload_n hx hb dX4_valueOf_112 rfl (lv_at hl 2 rfl) ?_
              refine lv_fload hx hb dX4_valueOf_113 (lv_at hl 0 rfl) ?_
              refine lv_fmul hx hb dX4_valueOf_115 h.1 ?_
              have h := h.2
              refine lv_topf (fun x22 ex22 => ?_)
              have h := h x22 ex22
              refine lv_fstore_n (lv' := [(3, .float x22), (6, .float x19), (0, .int y0), (5, .int y5), (7, .int y7)]) hx hb dX4_valueOf_116 rfl hl (by decide) rfl (fun ls hl => ?_)
              obtain ⟨x23, ex23⟩ : ∃ y : Int32, y = (y7 + 1) := ⟨_, rfl⟩
              have h := h x23 ex23
              refine lv_iinc (v := x23) (lv' := [(7, .int x23), (3, .float x22), (6, .float x19), (0, .int y0), (5, .int y5)]) hx hb dX4_valueOf_117 hl (k := 4) rfl (by rw [ex23]; rfl) (by decide) rfl (fun ls hl => ?_)
              refine lv_goto (tgt := 74) hx hb dX4_valueOf_120 (by decide) ?_
              exact ih y0 x22 y5 x19 x23 () _ _ _ hP hD hS (lv_sub hl [3, 1, 4, 2, 0] rfl) h
  have L37 : ∀ (y0 : Int32) (y3 : UInt32) (z0 : Int32) (T : Unit) (H : Heap) (locs : List Loc) (ls : Array Slot), va_P D vwCl (w0_ cI cZ T) H → va_D A (w0_ cI cZ T) → va_S A s.heap H locs → lv_has ls 8 [(0, .int y0), (3, .float y3)] → wp_X4_valueOf_L37 Q y0 y3 z0 T → W p l e rmX4_valueOf s m ([.int p0] : List Value).toArray below meth c H locs 0 0 (MQ below (va_Qf Q (fun u => atW D cI cZ A (w0_ cI cZ u)) A) ([.int p0] : List Value).toArray s 0 0 A) (F0 m 37 ls [.int z0]) := by
    intro y0 y3 z0 T H locs ls hP hD hS hl h
    unfold wp_X4_valueOf_L37 at h
    refine lv_sipush (v := 150) hx hb dX4_valueOf_37 (by decide) ?_
    refine lv_isub hx hb dX4_valueOf_40 ?_
    refine lv_topi (fun x5 ex5 => ?_)
    have h := h x5 ex5
    refine lv_istore (lv' := [(4, .int x5), (0, .int y0), (3, .float y3)]) hx hb dX4_valueOf_41 hl (by decide) rfl (fun ls hl => ?_)
    refine lv_iload hx hb dX4_valueOf_43 (lv_at hl 0 rfl) ?_
    refine lv_if_ge (tgt := 54) hx hb dX4_valueOf_45 (by decide) (fun c6 => ?_) (fun c6 => ?_)
    · have h := h.1 c6
      refine lv_iload hx hb dX4_valueOf_54 (lv_at hl 0 rfl) ?_
      refine lv_istore (lv' := [(5, .int x5), (4, .int x5), (0, .int y0), (3, .float y3)]) hx hb dX4_valueOf_56 hl (by decide) rfl (fun ls hl => ?_)
      refine lv_iload hx hb dX4_valueOf_58 (lv_at hl 1 rfl) ?_
      refine lv_if_ge (tgt := 68) hx hb dX4_valueOf_60 (by decide) (fun c7 => ?_) (fun c7 => ?_)
      · have h := h.1 c7
        refine lv_fconst2 hx hb dX4_valueOf_68 ?_
        refine lv_fstore (lv' := [(6, .float 1073741824), (5, .int x5), (4, .int x5), (0, .int y0), (3, .float y3)]) hx hb dX4_valueOf_69 hl (by decide) rfl (fun ls hl => ?_)
        refine lv_iconst (v := 0) hx hb dX4_valueOf_71 (by decide) ?_
        refine lv_istore (lv' := [(7, .int 0), (6, .float 1073741824), (5, .int x5), (4, .int x5), (0, .int y0), (3, .float y3)]) hx hb dX4_valueOf_72 hl (by decide) rfl (fun ls hl => ?_)
        exact L74 2000 y0 y3 x5 1073741824 0 () _ _ _ hP hD hS (lv_sub hl [4, 5, 2, 1, 0] rfl) h
      · have h := h.2 c7
        refine lv_ldcf hx hb hown (hts _ q_589) dX4_valueOf_63 ?_
        refine lv_goto (tgt := 69) hx hb dX4_valueOf_65 (by decide) ?_
        refine lv_fstore (lv' := [(6, .float 1056964608), (5, .int x5), (4, .int x5), (0, .int y0), (3, .float y3)]) hx hb dX4_valueOf_69 hl (by decide) rfl (fun ls hl => ?_)
        refine lv_iconst (v := 0) hx hb dX4_valueOf_71 (by decide) ?_
        refine lv_istore (lv' := [(7, .int 0), (6, .float 1056964608), (5, .int x5), (4, .int x5), (0, .int y0), (3, .float y3)]) hx hb dX4_valueOf_72 hl (by decide) rfl (fun ls hl => ?_)
        exact L74 2000 y0 y3 x5 1056964608 0 () _ _ _ hP hD hS (lv_sub hl [4, 5, 2, 1, 0] rfl) h
    · have h := h.2 c6
      refine lv_iload hx hb dX4_valueOf_48 (lv_at hl 0 rfl) ?_
      refine lv_ineg hx hb dX4_valueOf_50 ?_
      refine lv_goto (tgt := 56) hx hb dX4_valueOf_51 (by decide) ?_
      refine lv_topi (fun x8 ex8 => ?_)
      have h := h x8 ex8
      refine lv_istore (lv' := [(5, .int x8), (4, .int x5), (0, .int y0), (3, .float y3)]) hx hb dX4_valueOf_56 hl (by decide) rfl (fun ls hl => ?_)
      refine lv_iload hx hb dX4_valueOf_58 (lv_at hl 1 rfl) ?_
      refine lv_if_ge (tgt := 68) hx hb dX4_valueOf_60 (by decide) (fun c9 => ?_) (fun c9 => ?_)
      · have h := h.1 c9
        refine lv_fconst2 hx hb dX4_valueOf_68 ?_
        refine lv_fstore (lv' := [(6, .float 1073741824), (5, .int x8), (4, .int x5), (0, .int y0), (3, .float y3)]) hx hb dX4_valueOf_69 hl (by decide) rfl (fun ls hl => ?_)
        refine lv_iconst (v := 0) hx hb dX4_valueOf_71 (by decide) ?_
        refine lv_istore (lv' := [(7, .int 0), (6, .float 1073741824), (5, .int x8), (4, .int x5), (0, .int y0), (3, .float y3)]) hx hb dX4_valueOf_72 hl (by decide) rfl (fun ls hl => ?_)
        exact L74 2000 y0 y3 x8 1073741824 0 () _ _ _ hP hD hS (lv_sub hl [4, 5, 2, 1, 0] rfl) h
      · have h := h.2 c9
        refine lv_ldcf hx hb hown (hts _ q_589) dX4_valueOf_63 ?_
        refine lv_goto (tgt := 69) hx hb dX4_valueOf_65 (by decide) ?_
        refine lv_fstore (lv' := [(6, .float 1056964608), (5, .int x8), (4, .int x5), (0, .int y0), (3, .float y3)]) hx hb dX4_valueOf_69 hl (by decide) rfl (fun ls hl => ?_)
        refine lv_iconst (v := 0) hx hb dX4_valueOf_71 (by decide) ?_
        refine lv_istore (lv' := [(7, .int 0), (6, .float 1056964608), (5, .int x8), (4, .int x5), (0, .int y0), (3, .float y3)]) hx hb dX4_valueOf_72 hl (by decide) rfl (fun ls hl => ?_)
        exact L74 2000 y0 y3 x8 1056964608 0 () _ _ _ hP hD hS (lv_sub hl [4, 5, 2, 1, 0] rfl) h
  have L27 : ∀ (y0 : Int32) (y1 : Int32) (z0 : UInt32) (T : Unit) (H : Heap) (locs : List Loc) (ls : Array Slot), va_P D vwCl (w0_ cI cZ T) H → va_D A (w0_ cI cZ T) → va_S A s.heap H locs → lv_has ls 8 [(0, .int y0), (1, .int y1)] → wp_X4_valueOf_L27 Q y0 y1 z0 T → W p l e rmX4_valueOf s m ([.int p0] : List Value).toArray below meth c H locs 0 0 (MQ below (va_Qf Q (fun u => atW D cI cZ A (w0_ cI cZ u)) A) ([.int p0] : List Value).toArray s 0 0 A) (F0 m 27 ls [.float z0]) := by
    intro y0 y1 z0 T H locs ls hP hD hS hl h
    unfold wp_X4_valueOf_L27 at h
    refine lv_fstore_n (lv' := [(3, .float z0), (0, .int y0), (1, .int y1)]) hx hb dX4_valueOf_27 rfl hl (by decide) rfl (fun ls hl => ?_)
    refine lv_iload_n hx hb dX4_valueOf_28 rfl (lv_at hl 2 rfl) ?_
    refine lv_if_ne (tgt := 36) hx hb dX4_valueOf_29 (by decide) (fun c4 => ?_) (fun c4 => ?_)
    · have h := h.1 c4
      refine lv_iload_n hx hb dX4_valueOf_36 rfl (lv_at hl 2 rfl) ?_
      exact L37 y0 z0 y1 () _ _ _ hP hD hS (lv_sub hl [1, 0] rfl) h
    · have h := h.2 c4
      refine lv_iconst (v := 1) hx hb dX4_valueOf_32 (by decide) ?_
      refine lv_goto (tgt := 37) hx hb dX4_valueOf_33 (by decide) ?_
      exact L37 y0 z0 1 () _ _ _ hP hD hS (lv_sub hl [1, 0] rfl) h
  have hl := lv_entry ([.int p0]) (n := 8) (Nat.le_of_ble_eq_true rfl)
  rw [lg_entry_eq]
  generalize (lg_sl ([.int p0]) ++ List.replicate (8 - (lg_sl ([.int p0])).length) Slot.unset).toArray = ls at hl ⊢
  have hl : lv_has ls 8 [(0, .int p0)] := hl
  unfold wp_X4_valueOf at h
  refine lv_iload_n hx hb dX4_valueOf_0 rfl (lv_at hl 0 rfl) ?_
  refine lv_ldc hx hb hown (hts _ q_586) dX4_valueOf_1 ?_
  refine lv_iand hx hb dX4_valueOf_3 ?_
  refine lv_bipush (v := 23) hx hb dX4_valueOf_4 (by decide) ?_
  refine lv_ishr hx hb dX4_valueOf_6 ?_
  refine lv_topi (fun x1 ex1 => ?_)
  have h := h x1 ex1
  refine lv_istore_n (lv' := [(1, .int x1), (0, .int p0)]) hx hb dX4_valueOf_7 rfl hl (by decide) rfl (fun ls hl => ?_)
  refine lv_iload_n hx hb dX4_valueOf_8 rfl (lv_at hl 1 rfl) ?_
  refine lv_ldc hx hb hown (hts _ q_587) dX4_valueOf_9 ?_
  refine lv_iand hx hb dX4_valueOf_11 ?_
  refine lv_topi (fun x2 ex2 => ?_)
  have h := h x2 ex2
  refine lv_istore_n (lv' := [(2, .int x2), (1, .int x1), (0, .int p0)]) hx hb dX4_valueOf_12 rfl hl (by decide) rfl (fun ls hl => ?_)
  refine lv_iload_n hx hb dX4_valueOf_13 rfl (lv_at hl 1 rfl) ?_
  refine lv_if_ne (tgt := 22) hx hb dX4_valueOf_14 (by decide) (fun c3 => ?_) (fun c3 => ?_)
  · have h := h.1 c3
    refine lv_iload_n hx hb dX4_valueOf_22 rfl (lv_at hl 0 rfl) ?_
    refine lv_ldc hx hb hown (hts _ q_588) dX4_valueOf_23 ?_
    refine lv_iadd hx hb dX4_valueOf_25 ?_
    refine lv_i2f hx hb dX4_valueOf_26 ?_
    exact L27 p0 x1 (FP.i2f (x2 + 8388608)) () _ _ _ hP hD hS (lv_sub hl [2, 1] rfl) h
  · have h := h.2 c3
    refine lv_iload_n hx hb dX4_valueOf_17 rfl (lv_at hl 0 rfl) ?_
    refine lv_i2f hx hb dX4_valueOf_18 ?_
    refine lv_goto (tgt := 27) hx hb dX4_valueOf_19 (by decide) ?_
    exact L27 p0 x1 (FP.i2f x2) () _ _ _ hP hD hS (lv_sub hl [2, 1] rfl) h
/-! X4_bitsOf -/
abbrev rmX4_bitsOf : Room := { frames := 0, cells := 0, slots := 0, locals := 0 }
set_option maxHeartbeats 4000000 in
set_option maxRecDepth 100000 in
theorem c_X4_bitsOf (l : Launch) (D : va_G) (cI cZ : ClassId) (sz : Nat) (S : Unit) (p0 : UInt32) (Q : Int32 → Unit → Prop) (h : wp_X4_bitsOf S p0 Q) : Met l yX4_bitsOf (wsm yX4_bitsOf cX4_bitsOf 5 (some .int)) rmX4_bitsOf (va_Pc [.float p0] (preW D cI cZ sz (w0_ cI cZ S))) (va_Qi Q (fun u => atW D cI cZ (va_A (w0_ cI cZ S) sz) (w0_ cI cZ u)) (va_A (w0_ cI cZ S) sz)) 0 0 (va_A (w0_ cI cZ S) sz) := by
  refine Met.ofW (cc := cX4_bitsOf) (maxL := 5) (ret := (some .int)) (by decide) rfl ?_
  intro p e s m args below meth c s₁ B hml hv
  obtain ⟨rfl, hsz, hP, hK, hD0⟩ := hv
  have hx := B.exec
  have hb := B.bytes
  have hr := B.returns
  have hts0 := atoms_spec (ws := wsm yX4_bitsOf cX4_bitsOf 5 (some .int)) B.pre
  have hts : ∀ w ∈ lw_all, w.before _ s = true := fun w h => hts0 w (List.mem_cons_of_mem _ h)
  have hown : s.vm.findClass RX4 = some m.cls := findClass_of_methodNamed B.named
  have hlocks := B.notSynchronized
  subst hsz
  have hD := hD0.self (sz := s.heap.size)
  generalize hAe : va_A (w0_ cI cZ S) s.heap.size = A at hD ⊢
  have hA : ∀ q : Nat, s.heap.size ≤ q → A q := fun q h => by rw [← hAe]; exact Or.inr h
  have hS : va_S A s.heap s.heap [] := va_S.rf
  have hml2 := hml
  have L157 : ∀ (n : Nat), ∀ (y1 : Int32) (y2 : UInt32) (y3 : Int32) (y4 : Int32) (T : Unit) (H : Heap) (locs : List Loc) (ls : Array Slot), va_P D vwCl (w0_ cI cZ T) H → va_D A (w0_ cI cZ T) → va_S A s.heap H locs → lv_has ls 5 [(1, .int y1), (2, .float y2), (3, .int y3), (4, .int y4)] → wp_X4_bitsOf_L157 Q n y1 y2 y3 y4 T → W p l e rmX4_bitsOf s m ([.float p0] : List Value).toArray below meth c H locs 0 0 (MQ below (va_Qi Q (fun u => atW D cI cZ A (w0_ cI cZ u)) A) ([.float p0] : List Value).toArray s 0 0 A) (F0 m 157 ls []) := by
    intro n
    induction n with
    | zero =>
      intro y1 y2 y3 y4 T H locs ls hP hD hS hl h
      exact False.elim h
    | succ n ih =>
      intro y1 y2 y3 y4 T H locs ls hP hD hS hl h
      unfold wp_X4_bitsOf_L157 at h
      refine lv_iload hx hb dX4_bitsOf_157 (lv_at hl 3 rfl) ?_
      refine lv_bipush (v := 16) hx hb dX4_bitsOf_159 (by decide) ?_
      refine lv_icmp_ge (tgt := 184) hx hb dX4_bitsOf_161 (by decide) (fun c23 => ?_) (fun c23 => ?_)
      · have h := h.1 c23
        refine lv_iload_n hx hb dX4_bitsOf_184 rfl (lv_at hl 0 rfl) ?_
        refine lv_iload_n hx hb dX4_bitsOf_185 rfl (lv_at hl 2 rfl) ?_
        refine lv_bipush (v := 23) hx hb dX4_bitsOf_186 (by decide) ?_
        refine lv_ishl hx hb dX4_bitsOf_188 ?_
        refine lv_ior hx hb dX4_bitsOf_189 ?_
        refine lv_fload_n hx hb dX4_bitsOf_190 rfl (lv_at hl 1 rfl) ?_
        refine lv_f2i hx hb dX4_bitsOf_191 ?_
        refine lv_ldc hx hb hown (hts _ q_588) dX4_bitsOf_192 ?_
        refine lv_isub hx hb dX4_bitsOf_194 ?_
        refine lv_ior hx hb dX4_bitsOf_195 ?_
        exact W.iret (v := ((y1 ||| (y3 <<< (23 &&& 31))) ||| ((FP.f2i y2) - 8388608))) hx hb hr (fun t ht hW => ⟨⟨((y1 ||| (y3 <<< (23 &&& 31))) ||| ((FP.f2i y2) - 8388608)), (), rfl, h, by rw [ht]; exact hP, va_K.moved hW.alike hK, hD⟩, hS.F ht⟩) hS.2.2 dX4_bitsOf_196
      · have h := h.2 c23
        refine lv_fload_n hx hb dX4_bitsOf_164 rfl (lv_at hl 1 rfl) ?_
        refine lv_ldcf hx hb hown (hts _ q_603) dX4_bitsOf_165 ?_
        refine lv_fcmp hx hb dX4_bitsOf_167 ?_
        refine lv_if_ge (tgt := 184) hx hb dX4_bitsOf_168 (by decide) (fun c24 => ?_) (fun c24 => ?_)
        · have h := h.1 c24
          refine lv_iload_n hx hb dX4_bitsOf_184 rfl (lv_at hl 0 rfl) ?_
          refine lv_iload_n hx hb dX4_bitsOf_185 rfl (lv_at hl 2 rfl) ?_
          refine lv_bipush (v := 23) hx hb dX4_bitsOf_186 (by decide) ?_
          refine lv_ishl hx hb dX4_bitsOf_188 ?_
          refine lv_ior hx hb dX4_bitsOf_189 ?_
          refine lv_fload_n hx hb dX4_bitsOf_190 rfl (lv_at hl 1 rfl) ?_
          refine lv_f2i hx hb dX4_bitsOf_191 ?_
          refine lv_ldc hx hb hown (hts _ q_588) dX4_bitsOf_192 ?_
          refine lv_isub hx hb dX4_bitsOf_194 ?_
          refine lv_ior hx hb dX4_bitsOf_195 ?_
          exact W.iret (v := ((y1 ||| (y3 <<< (23 &&& 31))) ||| ((FP.f2i y2) - 8388608))) hx hb hr (fun t ht hW => ⟨⟨((y1 ||| (y3 <<< (23 &&& 31))) ||| ((FP.f2i y2) - 8388608)), (), rfl, h, by rw [ht]; exact hP, va_K.moved hW.alike hK, hD⟩, hS.F ht⟩) hS.2.2 dX4_bitsOf_196
        · have h := h.2 c24
          refine lv_fload_n hx hb dX4_bitsOf_171 rfl (lv_at hl 1 rfl) ?_
          refine lv_fconst2 hx hb dX4_bitsOf_172 ?_
          refine lv_fmul hx hb dX4_bitsOf_173 h.1 ?_
          have h := h.2
          refine lv_topf (fun x25 ex25 => ?_)
          have h := h x25 ex25
          refine lv_fstore_n (lv' := [(2, .float x25), (1, .int y1), (3, .int y3), (4, .int y4)]) hx hb dX4_bitsOf_174 rfl hl (by decide) rfl (fun ls hl => ?_)
          obtain ⟨x26, ex26⟩ : ∃ y : Int32, y = (y3 + (-1)) := ⟨_, rfl⟩
          have h := h x26 ex26
          refine lv_iinc (v := x26) (lv' := [(3, .int x26), (2, .float x25), (1, .int y1), (4, .int y4)]) hx hb dX4_bitsOf_175 hl (k := 2) rfl (by rw [ex26]; rfl) (by decide) rfl (fun ls hl => ?_)
          obtain ⟨x27, ex27⟩ : ∃ y : Int32, y = (y4 + 1) := ⟨_, rfl⟩
          have h := h x27 ex27
          refine lv_iinc (v := x27) (lv' := [(4, .int x27), (3, .int x26), (2, .float x25), (1, .int y1)]) hx hb dX4_bitsOf_178 hl (k := 3) rfl (by rw [ex27]; rfl) (by decide) rfl (fun ls hl => ?_)
          refine lv_goto (tgt := 157) hx hb dX4_bitsOf_181 (by decide) ?_
          exact ih y1 x25 x26 x27 () _ _ _ hP hD hS (lv_sub hl [3, 2, 1, 0] rfl) h
  have L126 : ∀ (n : Nat), ∀ (y1 : Int32) (y2 : UInt32) (y3 : Int32) (y4 : Int32) (T : Unit) (H : Heap) (locs : List Loc) (ls : Array Slot), va_P D vwCl (w0_ cI cZ T) H → va_D A (w0_ cI cZ T) → va_S A s.heap H locs → lv_has ls 5 [(1, .int y1), (2, .float y2), (3, .int y3), (4, .int y4)] → wp_X4_bitsOf_L126 Q n y1 y2 y3 y4 T → W p l e rmX4_bitsOf s m ([.float p0] : List Value).toArray below meth c H locs 0 0 (MQ below (va_Qi Q (fun u => atW D cI cZ A (w0_ cI cZ u)) A) ([.float p0] : List Value).toArray s 0 0 A) (F0 m 126 ls []) := by
    intro n
    induction n with
    | zero =>
      intro y1 y2 y3 y4 T H locs ls hP hD hS hl h
      exact False.elim h
    | succ n ih =>
      intro y1 y2 y3 y4 T H locs ls hP hD hS hl h
      unfold wp_X4_bitsOf_L126 at h
      refine lv_iload hx hb dX4_bitsOf_126 (lv_at hl 3 rfl) ?_
      refine lv_bipush (v := 16) hx hb dX4_bitsOf_128 (by decide) ?_
      refine lv_icmp_ge (tgt := 154) hx hb dX4_bitsOf_130 (by decide) (fun c18 => ?_) (fun c18 => ?_)
      · have h := h.1 c18
        refine lv_iconst (v := 0) hx hb dX4_bitsOf_154 (by decide) ?_
        refine lv_istore (lv' := [(4, .int 0), (1, .int y1), (2, .float y2), (3, .int y3)]) hx hb dX4_bitsOf_155 hl (by decide) rfl (fun ls hl => ?_)
        exact L157 2000 y1 y2 y3 0 () _ _ _ hP hD hS (lv_sub hl [1, 2, 3, 0] rfl) h
      · have h := h.2 c18
        refine lv_fload_n hx hb dX4_bitsOf_133 rfl (lv_at hl 1 rfl) ?_
        refine lv_ldcf hx hb hown (hts _ q_602) dX4_bitsOf_134 ?_
        refine lv_fcmp hx hb dX4_bitsOf_136 ?_
        refine lv_if_lt (tgt := 154) hx hb dX4_bitsOf_137 (by decide) (fun c19 => ?_) (fun c19 => ?_)
        · have h := h.1 c19
          refine lv_iconst (v := 0) hx hb dX4_bitsOf_154 (by decide) ?_
          refine lv_istore (lv' := [(4, .int 0), (1, .int y1), (2, .float y2), (3, .int y3)]) hx hb dX4_bitsOf_155 hl (by decide) rfl (fun ls hl => ?_)
          exact L157 2000 y1 y2 y3 0 () _ _ _ hP hD hS (lv_sub hl [1, 2, 3, 0] rfl) h
        · have h := h.2 c19
          refine lv_fload_n hx hb dX4_bitsOf_140 rfl (lv_at hl 1 rfl) ?_
          refine lv_ldcf hx hb hown (hts _ q_589) dX4_bitsOf_141 ?_
          refine lv_fmul hx hb dX4_bitsOf_143 h.1 ?_
          have h := h.2
          refine lv_topf (fun x20 ex20 => ?_)
          have h := h x20 ex20
          refine lv_fstore_n (lv' := [(2, .float x20), (1, .int y1), (3, .int y3), (4, .int y4)]) hx hb dX4_bitsOf_144 rfl hl (by decide) rfl (fun ls hl => ?_)
          obtain ⟨x21, ex21⟩ : ∃ y : Int32, y = (y3 + 1) := ⟨_, rfl⟩
          have h := h x21 ex21
          refine lv_iinc (v := x21) (lv' := [(3, .int x21), (2, .float x20), (1, .int y1), (4, .int y4)]) hx hb dX4_bitsOf_145 hl (k := 2) rfl (by rw [ex21]; rfl) (by decide) rfl (fun ls hl => ?_)
          obtain ⟨x22, ex22⟩ : ∃ y : Int32, y = (y4 + 1) := ⟨_, rfl⟩
          have h := h x22 ex22
          refine lv_iinc (v := x22) (lv' := [(4, .int x22), (3, .int x21), (2, .float x20), (1, .int y1)]) hx hb dX4_bitsOf_148 hl (k := 3) rfl (by rw [ex22]; rfl) (by decide) rfl (fun ls hl => ?_)
          refine lv_goto (tgt := 126) hx hb dX4_bitsOf_151 (by decide) ?_
          exact ih y1 x20 x21 x22 () _ _ _ hP hD hS (lv_sub hl [3, 2, 1, 0] rfl) h
  have L95 : ∀ (n : Nat), ∀ (y1 : Int32) (y2 : UInt32) (y3 : Int32) (y4 : Int32) (T : Unit) (H : Heap) (locs : List Loc) (ls : Array Slot), va_P D vwCl (w0_ cI cZ T) H → va_D A (w0_ cI cZ T) → va_S A s.heap H locs → lv_has ls 5 [(1, .int y1), (2, .float y2), (3, .int y3), (4, .int y4)] → wp_X4_bitsOf_L95 Q n y1 y2 y3 y4 T → W p l e rmX4_bitsOf s m ([.float p0] : List Value).toArray below meth c H locs 0 0 (MQ below (va_Qi Q (fun u => atW D cI cZ A (w0_ cI cZ u)) A) ([.float p0] : List Value).toArray s 0 0 A) (F0 m 95 ls []) := by
    intro n
    induction n with
    | zero =>
      intro y1 y2 y3 y4 T H locs ls hP hD hS hl h
      exact False.elim h
    | succ n ih =>
      intro y1 y2 y3 y4 T H locs ls hP hD hS hl h
      unfold wp_X4_bitsOf_L95 at h
      refine lv_iload hx hb dX4_bitsOf_95 (lv_at hl 3 rfl) ?_
      refine lv_bipush (v := 9) hx hb dX4_bitsOf_97 (by decide) ?_
      refine lv_icmp_ge (tgt := 123) hx hb dX4_bitsOf_99 (by decide) (fun c13 => ?_) (fun c13 => ?_)
      · have h := h.1 c13
        refine lv_iconst (v := 0) hx hb dX4_bitsOf_123 (by decide) ?_
        refine lv_istore (lv' := [(4, .int 0), (1, .int y1), (2, .float y2), (3, .int y3)]) hx hb dX4_bitsOf_124 hl (by decide) rfl (fun ls hl => ?_)
        exact L126 2000 y1 y2 y3 0 () _ _ _ hP hD hS (lv_sub hl [1, 2, 3, 0] rfl) h
      · have h := h.2 c13
        refine lv_fload_n hx hb dX4_bitsOf_102 rfl (lv_at hl 1 rfl) ?_
        refine lv_ldcf hx hb hown (hts _ q_600) dX4_bitsOf_103 ?_
        refine lv_fcmp hx hb dX4_bitsOf_105 ?_
        refine lv_if_ge (tgt := 123) hx hb dX4_bitsOf_106 (by decide) (fun c14 => ?_) (fun c14 => ?_)
        · have h := h.1 c14
          refine lv_iconst (v := 0) hx hb dX4_bitsOf_123 (by decide) ?_
          refine lv_istore (lv' := [(4, .int 0), (1, .int y1), (2, .float y2), (3, .int y3)]) hx hb dX4_bitsOf_124 hl (by decide) rfl (fun ls hl => ?_)
          exact L126 2000 y1 y2 y3 0 () _ _ _ hP hD hS (lv_sub hl [1, 2, 3, 0] rfl) h
        · have h := h.2 c14
          refine lv_fload_n hx hb dX4_bitsOf_109 rfl (lv_at hl 1 rfl) ?_
          refine lv_ldcf hx hb hown (hts _ q_601) dX4_bitsOf_110 ?_
          refine lv_fmul hx hb dX4_bitsOf_112 h.1 ?_
          have h := h.2
          refine lv_topf (fun x15 ex15 => ?_)
          have h := h x15 ex15
          refine lv_fstore_n (lv' := [(2, .float x15), (1, .int y1), (3, .int y3), (4, .int y4)]) hx hb dX4_bitsOf_113 rfl hl (by decide) rfl (fun ls hl => ?_)
          obtain ⟨x16, ex16⟩ : ∃ y : Int32, y = (y3 + (-16)) := ⟨_, rfl⟩
          have h := h x16 ex16
          refine lv_iinc (v := x16) (lv' := [(3, .int x16), (2, .float x15), (1, .int y1), (4, .int y4)]) hx hb dX4_bitsOf_114 hl (k := 2) rfl (by rw [ex16]; rfl) (by decide) rfl (fun ls hl => ?_)
          obtain ⟨x17, ex17⟩ : ∃ y : Int32, y = (y4 + 1) := ⟨_, rfl⟩
          have h := h x17 ex17
          refine lv_iinc (v := x17) (lv' := [(4, .int x17), (3, .int x16), (2, .float x15), (1, .int y1)]) hx hb dX4_bitsOf_117 hl (k := 3) rfl (by rw [ex17]; rfl) (by decide) rfl (fun ls hl => ?_)
          refine lv_goto (tgt := 95) hx hb dX4_bitsOf_120 (by decide) ?_
          exact ih y1 x15 x16 x17 () _ _ _ hP hD hS (lv_sub hl [3, 2, 1, 0] rfl) h
  have L64 : ∀ (n : Nat), ∀ (y1 : Int32) (y2 : UInt32) (y3 : Int32) (y4 : Int32) (T : Unit) (H : Heap) (locs : List Loc) (ls : Array Slot), va_P D vwCl (w0_ cI cZ T) H → va_D A (w0_ cI cZ T) → va_S A s.heap H locs → lv_has ls 5 [(1, .int y1), (2, .float y2), (3, .int y3), (4, .int y4)] → wp_X4_bitsOf_L64 Q n y1 y2 y3 y4 T → W p l e rmX4_bitsOf s m ([.float p0] : List Value).toArray below meth c H locs 0 0 (MQ below (va_Qi Q (fun u => atW D cI cZ A (w0_ cI cZ u)) A) ([.float p0] : List Value).toArray s 0 0 A) (F0 m 64 ls []) := by
    intro n
    induction n with
    | zero =>
      intro y1 y2 y3 y4 T H locs ls hP hD hS hl h
      exact False.elim h
    | succ n ih =>
      intro y1 y2 y3 y4 T H locs ls hP hD hS hl h
      unfold wp_X4_bitsOf_L64 at h
      refine lv_iload hx hb dX4_bitsOf_64 (lv_at hl 3 rfl) ?_
      refine lv_bipush (v := 8) hx hb dX4_bitsOf_66 (by decide) ?_
      refine lv_icmp_ge (tgt := 92) hx hb dX4_bitsOf_68 (by decide) (fun c8 => ?_) (fun c8 => ?_)
      · have h := h.1 c8
        refine lv_iconst (v := 0) hx hb dX4_bitsOf_92 (by decide) ?_
        refine lv_istore (lv' := [(4, .int 0), (1, .int y1), (2, .float y2), (3, .int y3)]) hx hb dX4_bitsOf_93 hl (by decide) rfl (fun ls hl => ?_)
        exact L95 2000 y1 y2 y3 0 () _ _ _ hP hD hS (lv_sub hl [1, 2, 3, 0] rfl) h
      · have h := h.2 c8
        refine lv_fload_n hx hb dX4_bitsOf_71 rfl (lv_at hl 1 rfl) ?_
        refine lv_ldcf hx hb hown (hts _ q_598) dX4_bitsOf_72 ?_
        refine lv_fcmp hx hb dX4_bitsOf_74 ?_
        refine lv_if_lt (tgt := 92) hx hb dX4_bitsOf_75 (by decide) (fun c9 => ?_) (fun c9 => ?_)
        · have h := h.1 c9
          refine lv_iconst (v := 0) hx hb dX4_bitsOf_92 (by decide) ?_
          refine lv_istore (lv' := [(4, .int 0), (1, .int y1), (2, .float y2), (3, .int y3)]) hx hb dX4_bitsOf_93 hl (by decide) rfl (fun ls hl => ?_)
          exact L95 2000 y1 y2 y3 0 () _ _ _ hP hD hS (lv_sub hl [1, 2, 3, 0] rfl) h
        · have h := h.2 c9
          refine lv_fload_n hx hb dX4_bitsOf_78 rfl (lv_at hl 1 rfl) ?_
          refine lv_ldcf hx hb hown (hts _ q_599) dX4_bitsOf_79 ?_
          refine lv_fmul hx hb dX4_bitsOf_81 h.1 ?_
          have h := h.2
          refine lv_topf (fun x10 ex10 => ?_)
          have h := h x10 ex10
          refine lv_fstore_n (lv' := [(2, .float x10), (1, .int y1), (3, .int y3), (4, .int y4)]) hx hb dX4_bitsOf_82 rfl hl (by decide) rfl (fun ls hl => ?_)
          obtain ⟨x11, ex11⟩ : ∃ y : Int32, y = (y3 + 16) := ⟨_, rfl⟩
          have h := h x11 ex11
          refine lv_iinc (v := x11) (lv' := [(3, .int x11), (2, .float x10), (1, .int y1), (4, .int y4)]) hx hb dX4_bitsOf_83 hl (k := 2) rfl (by rw [ex11]; rfl) (by decide) rfl (fun ls hl => ?_)
          obtain ⟨x12, ex12⟩ : ∃ y : Int32, y = (y4 + 1) := ⟨_, rfl⟩
          have h := h x12 ex12
          refine lv_iinc (v := x12) (lv' := [(4, .int x12), (3, .int x11), (2, .float x10), (1, .int y1)]) hx hb dX4_bitsOf_86 hl (k := 3) rfl (by rw [ex12]; rfl) (by decide) rfl (fun ls hl => ?_)
          refine lv_goto (tgt := 64) hx hb dX4_bitsOf_89 (by decide) ?_
          exact ih y1 x10 x11 x12 () _ _ _ hP hD hS (lv_sub hl [3, 2, 1, 0] rfl) h
  have L12 : ∀ (y0 : UInt32) (z0 : Int32) (T : Unit) (H : Heap) (locs : List Loc) (ls : Array Slot), va_P D vwCl (w0_ cI cZ T) H → va_D A (w0_ cI cZ T) → va_S A s.heap H locs → lv_has ls 5 [(0, .float y0)] → wp_X4_bitsOf_L12 Q y0 z0 T → W p l e rmX4_bitsOf s m ([.float p0] : List Value).toArray below meth c H locs 0 0 (MQ below (va_Qi Q (fun u => atW D cI cZ A (w0_ cI cZ u)) A) ([.float p0] : List Value).toArray s 0 0 A) (F0 m 12 ls [.int z0]) := by
    intro y0 z0 T H locs ls hP hD hS hl h
    unfold wp_X4_bitsOf_L12 at h
    refine lv_istore_n (lv' := [(1, .int z0), (0, .float y0)]) hx hb dX4_bitsOf_12 rfl hl (by decide) rfl (fun ls hl => ?_)
    refine lv_fload_n hx hb dX4_bitsOf_13 rfl (lv_at hl 1 rfl) ?_
    refine lv_fconst0 hx hb dX4_bitsOf_14 ?_
    refine lv_fcmp hx hb dX4_bitsOf_15 ?_
    refine lv_if_ge (tgt := 25) hx hb dX4_bitsOf_16 (by decide) (fun c2 => ?_) (fun c2 => ?_)
    · have h := h.1 c2
      refine lv_fload_n hx hb dX4_bitsOf_25 rfl (lv_at hl 1 rfl) ?_
      refine lv_fstore_n (lv' := [(2, .float y0), (1, .int z0), (0, .float y0)]) hx hb dX4_bitsOf_26 rfl hl (by decide) rfl (fun ls hl => ?_)
      refine lv_fload_n hx hb dX4_bitsOf_27 rfl (lv_at hl 0 rfl) ?_
      refine lv_ldcf hx hb hown (hts _ q_594) dX4_bitsOf_28 ?_
      refine lv_fcmp hx hb dX4_bitsOf_30 ?_
      refine lv_if_le (tgt := 39) hx hb dX4_bitsOf_31 (by decide) (fun c3 => ?_) (fun c3 => ?_)
      · have h := h.1 c3
        refine lv_fload_n hx hb dX4_bitsOf_39 rfl (lv_at hl 0 rfl) ?_
        refine lv_ldcf hx hb hown (hts _ q_595) dX4_bitsOf_40 ?_
        refine lv_fcmp hx hb dX4_bitsOf_42 ?_
        refine lv_if_ge (tgt := 57) hx hb dX4_bitsOf_43 (by decide) (fun c4 => ?_) (fun c4 => ?_)
        · have h := h.1 c4
          refine lv_sipush (v := 150) hx hb dX4_bitsOf_57 (by decide) ?_
          refine lv_istore_n (lv' := [(3, .int 150), (2, .float y0), (1, .int z0), (0, .float y0)]) hx hb dX4_bitsOf_60 rfl hl (by decide) rfl (fun ls hl => ?_)
          refine lv_iconst (v := 0) hx hb dX4_bitsOf_61 (by decide) ?_
          refine lv_istore (lv' := [(4, .int 0), (3, .int 150), (2, .float y0), (1, .int z0), (0, .float y0)]) hx hb dX4_bitsOf_62 hl (by decide) rfl (fun ls hl => ?_)
          exact L64 2000 z0 y0 150 0 () _ _ _ hP hD hS (lv_sub hl [3, 2, 1, 0] rfl) h
        · have h := h.2 c4
          refine lv_iload_n hx hb dX4_bitsOf_46 rfl (lv_at hl 1 rfl) ?_
          refine lv_fload_n hx hb dX4_bitsOf_47 rfl (lv_at hl 0 rfl) ?_
          refine lv_ldcf hx hb hown (hts _ q_596) dX4_bitsOf_48 ?_
          refine lv_fmul hx hb dX4_bitsOf_50 h.1 ?_
          have h := h.2
          refine lv_ldcf hx hb hown (hts _ q_597) dX4_bitsOf_51 ?_
          refine lv_fmul hx hb dX4_bitsOf_53 h.1 ?_
          have h := h.2
          refine lv_f2i hx hb dX4_bitsOf_54 ?_
          refine lv_ior hx hb dX4_bitsOf_55 ?_
          exact W.iret (v := (z0 ||| (FP.f2i (FP.fmul (FP.fmul y0 1694498816) 1686110208)))) hx hb hr (fun t ht hW => ⟨⟨(z0 ||| (FP.f2i (FP.fmul (FP.fmul y0 1694498816) 1686110208))), (), rfl, h, by rw [ht]; exact hP, va_K.moved hW.alike hK, hD⟩, hS.F ht⟩) hS.2.2 dX4_bitsOf_56
      · have h := h.2 c3
        refine lv_iload_n hx hb dX4_bitsOf_34 rfl (lv_at hl 1 rfl) ?_
        refine lv_ldc hx hb hown (hts _ q_586) dX4_bitsOf_35 ?_
        refine lv_ior hx hb dX4_bitsOf_37 ?_
        exact W.iret (v := (z0 ||| 2139095040)) hx hb hr (fun t ht hW => ⟨⟨(z0 ||| 2139095040), (), rfl, h, by rw [ht]; exact hP, va_K.moved hW.alike hK, hD⟩, hS.F ht⟩) hS.2.2 dX4_bitsOf_38
    · have h := h.2 c2
      refine lv_fconst0 hx hb dX4_bitsOf_19 ?_
      refine lv_fload_n hx hb dX4_bitsOf_20 rfl (lv_at hl 1 rfl) ?_
      refine lv_fsub hx hb dX4_bitsOf_21 h.1 ?_
      have h := h.2
      refine lv_goto (tgt := 26) hx hb dX4_bitsOf_22 (by decide) ?_
      refine lv_topf (fun x5 ex5 => ?_)
      have h := h x5 ex5
      refine lv_fstore_n (lv' := [(2, .float x5), (1, .int z0), (0, .float y0)]) hx hb dX4_bitsOf_26 rfl hl (by decide) rfl (fun ls hl => ?_)
      refine lv_fload_n hx hb dX4_bitsOf_27 rfl (lv_at hl 0 rfl) ?_
      refine lv_ldcf hx hb hown (hts _ q_594) dX4_bitsOf_28 ?_
      refine lv_fcmp hx hb dX4_bitsOf_30 ?_
      refine lv_if_le (tgt := 39) hx hb dX4_bitsOf_31 (by decide) (fun c6 => ?_) (fun c6 => ?_)
      · have h := h.1 c6
        refine lv_fload_n hx hb dX4_bitsOf_39 rfl (lv_at hl 0 rfl) ?_
        refine lv_ldcf hx hb hown (hts _ q_595) dX4_bitsOf_40 ?_
        refine lv_fcmp hx hb dX4_bitsOf_42 ?_
        refine lv_if_ge (tgt := 57) hx hb dX4_bitsOf_43 (by decide) (fun c7 => ?_) (fun c7 => ?_)
        · have h := h.1 c7
          refine lv_sipush (v := 150) hx hb dX4_bitsOf_57 (by decide) ?_
          refine lv_istore_n (lv' := [(3, .int 150), (2, .float x5), (1, .int z0), (0, .float y0)]) hx hb dX4_bitsOf_60 rfl hl (by decide) rfl (fun ls hl => ?_)
          refine lv_iconst (v := 0) hx hb dX4_bitsOf_61 (by decide) ?_
          refine lv_istore (lv' := [(4, .int 0), (3, .int 150), (2, .float x5), (1, .int z0), (0, .float y0)]) hx hb dX4_bitsOf_62 hl (by decide) rfl (fun ls hl => ?_)
          exact L64 2000 z0 x5 150 0 () _ _ _ hP hD hS (lv_sub hl [3, 2, 1, 0] rfl) h
        · have h := h.2 c7
          refine lv_iload_n hx hb dX4_bitsOf_46 rfl (lv_at hl 1 rfl) ?_
          refine lv_fload_n hx hb dX4_bitsOf_47 rfl (lv_at hl 0 rfl) ?_
          refine lv_ldcf hx hb hown (hts _ q_596) dX4_bitsOf_48 ?_
          refine lv_fmul hx hb dX4_bitsOf_50 h.1 ?_
          have h := h.2
          refine lv_ldcf hx hb hown (hts _ q_597) dX4_bitsOf_51 ?_
          refine lv_fmul hx hb dX4_bitsOf_53 h.1 ?_
          have h := h.2
          refine lv_f2i hx hb dX4_bitsOf_54 ?_
          refine lv_ior hx hb dX4_bitsOf_55 ?_
          exact W.iret (v := (z0 ||| (FP.f2i (FP.fmul (FP.fmul x5 1694498816) 1686110208)))) hx hb hr (fun t ht hW => ⟨⟨(z0 ||| (FP.f2i (FP.fmul (FP.fmul x5 1694498816) 1686110208))), (), rfl, h, by rw [ht]; exact hP, va_K.moved hW.alike hK, hD⟩, hS.F ht⟩) hS.2.2 dX4_bitsOf_56
      · have h := h.2 c6
        refine lv_iload_n hx hb dX4_bitsOf_34 rfl (lv_at hl 1 rfl) ?_
        refine lv_ldc hx hb hown (hts _ q_586) dX4_bitsOf_35 ?_
        refine lv_ior hx hb dX4_bitsOf_37 ?_
        exact W.iret (v := (z0 ||| 2139095040)) hx hb hr (fun t ht hW => ⟨⟨(z0 ||| 2139095040), (), rfl, h, by rw [ht]; exact hP, va_K.moved hW.alike hK, hD⟩, hS.F ht⟩) hS.2.2 dX4_bitsOf_38
  have hl := lv_entry ([.float p0]) (n := 5) (Nat.le_of_ble_eq_true rfl)
  rw [lg_entry_eq]
  generalize (lg_sl ([.float p0]) ++ List.replicate (5 - (lg_sl ([.float p0])).length) Slot.unset).toArray = ls at hl ⊢
  have hl : lv_has ls 5 [(0, .float p0)] := hl
  unfold wp_X4_bitsOf at h
  refine lv_fload_n hx hb dX4_bitsOf_0 rfl (lv_at hl 0 rfl) ?_
  refine lv_fconst0 hx hb dX4_bitsOf_1 ?_
  refine lv_fcmp hx hb dX4_bitsOf_2 ?_
  refine lv_if_ge (tgt := 11) hx hb dX4_bitsOf_3 (by decide) (fun c1 => ?_) (fun c1 => ?_)
  · have h := h.1 c1
    refine lv_iconst (v := 0) hx hb dX4_bitsOf_11 (by decide) ?_
    exact L12 p0 0 () _ _ _ hP hD hS (lv_sub hl [0] rfl) h
  · have h := h.2 c1
    refine lv_ldc hx hb hown (hts _ q_593) dX4_bitsOf_6 ?_
    refine lv_goto (tgt := 12) hx hb dX4_bitsOf_8 (by decide) ?_
    exact L12 p0 (-2147483648) () _ _ _ hP hD hS (lv_sub hl [0] rfl) h
/-! X4_sum -/
abbrev rmX4_sum : Room := { frames := 1, cells := 0, slots := 0, locals := 27 }
set_option maxHeartbeats 4000000 in
set_option maxRecDepth 100000 in
theorem c_X4_sum (l : Launch) (D : va_G) (cI cZ : ClassId) (sz : Nat) (S : Unit) (p0 : Int32) (p1 : Int32) (Q : Int32 → Unit → Prop) (h : wp_X4_sum S p0 p1 Q) : Met l yX4_sum (wsm yX4_sum cX4_sum 2 (some .int)) rmX4_sum (va_Pc [.int p0, .int p1] (preW D cI cZ sz (w0_ cI cZ S))) (va_Qi Q (fun u => atW D cI cZ (va_A (w0_ cI cZ S) sz) (w0_ cI cZ u)) (va_A (w0_ cI cZ S) sz)) 0 0 (va_A (w0_ cI cZ S) sz) := by
  refine Met.ofW (cc := cX4_sum) (maxL := 2) (ret := (some .int)) (by decide) rfl ?_
  intro p e s m args below meth c s₁ B hml hv
  obtain ⟨rfl, hsz, hP, hK, hD0⟩ := hv
  have hx := B.exec
  have hb := B.bytes
  have hr := B.returns
  have hts0 := atoms_spec (ws := wsm yX4_sum cX4_sum 2 (some .int)) B.pre
  have hts : ∀ w ∈ lw_all, w.before _ s = true := fun w h => hts0 w (List.mem_cons_of_mem _ h)
  have hown : s.vm.findClass RX4 = some m.cls := findClass_of_methodNamed B.named
  have hlocks := B.notSynchronized
  subst hsz
  have hD := hD0.self (sz := s.heap.size)
  generalize hAe : va_A (w0_ cI cZ S) s.heap.size = A at hD ⊢
  have hA : ∀ q : Nat, s.heap.size ≤ q → A q := fun q h => by rw [← hAe]; exact Or.inr h
  have hS : va_S A s.heap s.heap [] := va_S.rf
  have hml2 := hml
  have hl := lv_entry ([.int p0, .int p1]) (n := 2) (Nat.le_of_ble_eq_true rfl)
  rw [lg_entry_eq]
  generalize (lg_sl ([.int p0, .int p1]) ++ List.replicate (2 - (lg_sl ([.int p0, .int p1])).length) Slot.unset).toArray = ls at hl ⊢
  have hl : lv_has ls 2 [(0, .int p0), (1, .int p1)] := hl
  unfold wp_X4_sum at h
  refine lv_iload_n hx hb dX4_sum_0 rfl (lv_at hl 0 rfl) ?_
  refine lv_iload_n hx hb dX4_sum_1 rfl (lv_at hl 1 rfl) ?_
  refine lv_ior hx hb dX4_sum_2 ?_
  refine lv_ldc hx hb hown (hts _ q_582) dX4_sum_3 ?_
  refine lv_iand hx hb dX4_sum_5 ?_
  refine lv_if_ne (tgt := 13) hx hb dX4_sum_6 (by decide) (fun c1 => ?_) (fun c1 => ?_)
  · have h := h.1 c1
    refine lv_iload_n hx hb dX4_sum_13 rfl (lv_at hl 0 rfl) ?_
    refine cl_f (ws' := fun u2 => (w0_ cI cZ ())) (va_runS (As := [.int p0]) (rest := []) ⟨hx, hb, hml, hown, hts⟩ (c_X4_valueOf l D cI cZ _ () p0 _ h ) (va_cwS 1 hts (gS q_583 q_584 q_76 q_585) rfl rfl rfl (by decide +kernel) ⟨Nat.le_of_ble_eq_true rfl, Nat.le_of_ble_eq_true rfl⟩) (preS_of hK hP hD [] rfl rfl (by decide)) rfl rfl hl.1 rfl (lv_room (Nat.le_of_ble_eq_true rfl)) dX4_sum_14 ⟨Nat.zero_le _, Nat.zero_le _⟩) hP hD hS hA [] [] rfl (by decide) (fun _ => rfl) (fun _ => rfl) (fun r3 u2 H locs h hP hD hS => ?_)
    refine lv_iload_n hx hb dX4_sum_17 rfl (lv_at hl 1 rfl) ?_
    refine cl_f (ws' := fun u4 => (w0_ cI cZ ())) (va_runS (As := [.int p1]) (rest := [.float r3]) ⟨hx, hb, hml, hown, hts⟩ (c_X4_valueOf l D cI cZ _ () p1 _ h ) (va_cwS 1 hts (gS q_583 q_584 q_76 q_585) rfl rfl rfl (by decide +kernel) ⟨Nat.le_of_ble_eq_true rfl, Nat.le_of_ble_eq_true rfl⟩) (preS_of hK hP hD [] rfl rfl (by decide)) rfl rfl hl.1 rfl (lv_room (Nat.le_of_ble_eq_true rfl)) dX4_sum_18 ⟨Nat.zero_le _, Nat.zero_le _⟩) hP hD hS hA [] [] rfl (by decide) (fun _ => rfl) (fun _ => rfl) (fun r5 u4 H locs h hP hD hS => ?_)
    refine lv_fadd hx hb dX4_sum_21 h.1 ?_
    have h := h.2
    refine cl_i (ws' := fun u6 => (w0_ cI cZ ())) (va_runS (As := [.float (FP.fadd r3 r5)]) (rest := []) ⟨hx, hb, hml, hown, hts⟩ (c_X4_bitsOf l D cI cZ _ () (FP.fadd r3 r5) _ h ) (va_cwS 1 hts (gS q_590 q_591 q_76 q_592) rfl rfl rfl (by decide +kernel) ⟨Nat.le_of_ble_eq_true rfl, Nat.le_of_ble_eq_true rfl⟩) (preS_of hK hP hD [] rfl rfl (by decide)) rfl rfl hl.1 rfl (lv_room (Nat.le_of_ble_eq_true rfl)) dX4_sum_22 ⟨Nat.zero_le _, Nat.zero_le _⟩) hP hD hS hA [] [] rfl (by decide) (fun _ => rfl) (fun _ => rfl) (fun r7 u6 H locs h hP hD hS => ?_)
    exact W.iret (v := r7) hx hb hr (fun t ht hW => ⟨⟨r7, (), rfl, h, by rw [ht]; exact hP, va_K.moved hW.alike hK, hD⟩, hS.F ht⟩) hS.2.2 dX4_sum_25
  · have h := h.2 c1
    refine lv_iload_n hx hb dX4_sum_9 rfl (lv_at hl 0 rfl) ?_
    refine lv_iload_n hx hb dX4_sum_10 rfl (lv_at hl 1 rfl) ?_
    refine lv_iand hx hb dX4_sum_11 ?_
    exact W.iret (v := (p0 &&& p1)) hx hb hr (fun t ht hW => ⟨⟨(p0 &&& p1), (), rfl, h, by rw [ht]; exact hP, va_K.moved hW.alike hK, hD⟩, hS.F ht⟩) hS.2.2 dX4_sum_12
/-! X4_product -/
abbrev rmX4_product : Room := { frames := 1, cells := 0, slots := 0, locals := 27 }
set_option maxHeartbeats 4000000 in
set_option maxRecDepth 100000 in
theorem c_X4_product (l : Launch) (D : va_G) (cI cZ : ClassId) (sz : Nat) (S : Unit) (p0 : Int32) (p1 : Int32) (Q : Int32 → Unit → Prop) (h : wp_X4_product S p0 p1 Q) : Met l yX4_product (wsm yX4_product cX4_product 2 (some .int)) rmX4_product (va_Pc [.int p0, .int p1] (preW D cI cZ sz (w0_ cI cZ S))) (va_Qi Q (fun u => atW D cI cZ (va_A (w0_ cI cZ S) sz) (w0_ cI cZ u)) (va_A (w0_ cI cZ S) sz)) 0 0 (va_A (w0_ cI cZ S) sz) := by
  refine Met.ofW (cc := cX4_product) (maxL := 2) (ret := (some .int)) (by decide) rfl ?_
  intro p e s m args below meth c s₁ B hml hv
  obtain ⟨rfl, hsz, hP, hK, hD0⟩ := hv
  have hx := B.exec
  have hb := B.bytes
  have hr := B.returns
  have hts0 := atoms_spec (ws := wsm yX4_product cX4_product 2 (some .int)) B.pre
  have hts : ∀ w ∈ lw_all, w.before _ s = true := fun w h => hts0 w (List.mem_cons_of_mem _ h)
  have hown : s.vm.findClass RX4 = some m.cls := findClass_of_methodNamed B.named
  have hlocks := B.notSynchronized
  subst hsz
  have hD := hD0.self (sz := s.heap.size)
  generalize hAe : va_A (w0_ cI cZ S) s.heap.size = A at hD ⊢
  have hA : ∀ q : Nat, s.heap.size ≤ q → A q := fun q h => by rw [← hAe]; exact Or.inr h
  have hS : va_S A s.heap s.heap [] := va_S.rf
  have hml2 := hml
  have hl := lv_entry ([.int p0, .int p1]) (n := 2) (Nat.le_of_ble_eq_true rfl)
  rw [lg_entry_eq]
  generalize (lg_sl ([.int p0, .int p1]) ++ List.replicate (2 - (lg_sl ([.int p0, .int p1])).length) Slot.unset).toArray = ls at hl ⊢
  have hl : lv_has ls 2 [(0, .int p0), (1, .int p1)] := hl
  unfold wp_X4_product at h
  refine lv_iload_n hx hb dX4_product_0 rfl (lv_at hl 0 rfl) ?_
  refine lv_iload_n hx hb dX4_product_1 rfl (lv_at hl 1 rfl) ?_
  refine lv_ixor hx hb dX4_product_2 ?_
  refine lv_ldc hx hb hown (hts _ q_593) dX4_product_3 ?_
  refine lv_iand hx hb dX4_product_5 ?_
  refine lv_iload_n hx hb dX4_product_6 rfl (lv_at hl 0 rfl) ?_
  refine lv_ldc hx hb hown (hts _ q_582) dX4_product_7 ?_
  refine lv_iand hx hb dX4_product_9 ?_
  refine cl_f (ws' := fun u1 => (w0_ cI cZ ())) (va_runS (As := [.int (p0 &&& 2147483647)]) (rest := [.int ((p0 ^^^ p1) &&& (-2147483648))]) ⟨hx, hb, hml, hown, hts⟩ (c_X4_valueOf l D cI cZ _ () (p0 &&& 2147483647) _ h ) (va_cwS 1 hts (gS q_583 q_584 q_76 q_585) rfl rfl rfl (by decide +kernel) ⟨Nat.le_of_ble_eq_true rfl, Nat.le_of_ble_eq_true rfl⟩) (preS_of hK hP hD [] rfl rfl (by decide)) rfl rfl hl.1 rfl (lv_room (Nat.le_of_ble_eq_true rfl)) dX4_product_10 ⟨Nat.zero_le _, Nat.zero_le _⟩) hP hD hS hA [] [] rfl (by decide) (fun _ => rfl) (fun _ => rfl) (fun r2 u1 H locs h hP hD hS => ?_)
  refine lv_iload_n hx hb dX4_product_13 rfl (lv_at hl 1 rfl) ?_
  refine lv_ldc hx hb hown (hts _ q_582) dX4_product_14 ?_
  refine lv_iand hx hb dX4_product_16 ?_
  refine cl_f (ws' := fun u3 => (w0_ cI cZ ())) (va_runS (As := [.int (p1 &&& 2147483647)]) (rest := [.float r2, .int ((p0 ^^^ p1) &&& (-2147483648))]) ⟨hx, hb, hml, hown, hts⟩ (c_X4_valueOf l D cI cZ _ () (p1 &&& 2147483647) _ h ) (va_cwS 1 hts (gS q_583 q_584 q_76 q_585) rfl rfl rfl (by decide +kernel) ⟨Nat.le_of_ble_eq_true rfl, Nat.le_of_ble_eq_true rfl⟩) (preS_of hK hP hD [] rfl rfl (by decide)) rfl rfl hl.1 rfl (lv_room (Nat.le_of_ble_eq_true rfl)) dX4_product_17 ⟨Nat.zero_le _, Nat.zero_le _⟩) hP hD hS hA [] [] rfl (by decide) (fun _ => rfl) (fun _ => rfl) (fun r4 u3 H locs h hP hD hS => ?_)
  refine lv_fmul hx hb dX4_product_20 h.1 ?_
  have h := h.2
  refine cl_i (ws' := fun u5 => (w0_ cI cZ ())) (va_runS (As := [.float (FP.fmul r2 r4)]) (rest := [.int ((p0 ^^^ p1) &&& (-2147483648))]) ⟨hx, hb, hml, hown, hts⟩ (c_X4_bitsOf l D cI cZ _ () (FP.fmul r2 r4) _ h ) (va_cwS 1 hts (gS q_590 q_591 q_76 q_592) rfl rfl rfl (by decide +kernel) ⟨Nat.le_of_ble_eq_true rfl, Nat.le_of_ble_eq_true rfl⟩) (preS_of hK hP hD [] rfl rfl (by decide)) rfl rfl hl.1 rfl (lv_room (Nat.le_of_ble_eq_true rfl)) dX4_product_21 ⟨Nat.zero_le _, Nat.zero_le _⟩) hP hD hS hA [] [] rfl (by decide) (fun _ => rfl) (fun _ => rfl) (fun r6 u5 H locs h hP hD hS => ?_)
  refine lv_ior hx hb dX4_product_24 ?_
  exact W.iret (v := (((p0 ^^^ p1) &&& (-2147483648)) ||| r6)) hx hb hr (fun t ht hW => ⟨⟨(((p0 ^^^ p1) &&& (-2147483648)) ||| r6), (), rfl, h, by rw [ht]; exact hP, va_K.moved hW.alike hK, hD⟩, hS.F ht⟩) hS.2.2 dX4_product_25
/-! X7_isBelow -/
abbrev rmX7_isBelow : Room := { frames := 0, cells := 0, slots := 0, locals := 0 }
set_option maxHeartbeats 4000000 in
set_option maxRecDepth 100000 in
theorem c_X7_isBelow (l : Launch) (D : va_G) (cI cZ : ClassId) (sz : Nat) (S : Unit) (p0 : Int32) (p1 : Int32) (Q : Int32 → Unit → Prop) (h : wp_X7_isBelow S p0 p1 Q) : Met l yX7_isBelow (wsm yX7_isBelow cX7_isBelow 2 (some .boolean)) rmX7_isBelow (va_Pc [.int p0, .int p1] (preW D cI cZ sz (w0_ cI cZ S))) (va_Qi Q (fun u => atW D cI cZ (va_A (w0_ cI cZ S) sz) (w0_ cI cZ u)) (va_A (w0_ cI cZ S) sz)) 0 0 (va_A (w0_ cI cZ S) sz) := by
  refine Met.ofW (cc := cX7_isBelow) (maxL := 2) (ret := (some .boolean)) (by decide) rfl ?_
  intro p e s m args below meth c s₁ B hml hv
  obtain ⟨rfl, hsz, hP, hK, hD0⟩ := hv
  have hx := B.exec
  have hb := B.bytes
  have hr := B.returns
  have hts0 := atoms_spec (ws := wsm yX7_isBelow cX7_isBelow 2 (some .boolean)) B.pre
  have hts : ∀ w ∈ lw_all, w.before _ s = true := fun w h => hts0 w (List.mem_cons_of_mem _ h)
  have hown : s.vm.findClass RX7 = some m.cls := findClass_of_methodNamed B.named
  have hlocks := B.notSynchronized
  subst hsz
  have hD := hD0.self (sz := s.heap.size)
  generalize hAe : va_A (w0_ cI cZ S) s.heap.size = A at hD ⊢
  have hA : ∀ q : Nat, s.heap.size ≤ q → A q := fun q h => by rw [← hAe]; exact Or.inr h
  have hS : va_S A s.heap s.heap [] := va_S.rf
  have hml2 := hml
  have hl := lv_entry ([.int p0, .int p1]) (n := 2) (Nat.le_of_ble_eq_true rfl)
  rw [lg_entry_eq]
  generalize (lg_sl ([.int p0, .int p1]) ++ List.replicate (2 - (lg_sl ([.int p0, .int p1])).length) Slot.unset).toArray = ls at hl ⊢
  have hl : lv_has ls 2 [(0, .int p0), (1, .int p1)] := hl
  unfold wp_X7_isBelow at h
  refine lv_iload_n hx hb dX7_isBelow_0 rfl (lv_at hl 0 rfl) ?_
  refine lv_if_lt (tgt := 13) hx hb dX7_isBelow_1 (by decide) (fun c1 => ?_) (fun c1 => ?_)
  · have h := h.1 c1
    refine lv_iconst (v := 0) hx hb dX7_isBelow_13 (by decide) ?_
    exact W.zret (ty := .boolean) (v := 0) hx hb hr (narB isB0) (fun t ht hW => ⟨⟨0, (), rfl, h, by rw [ht]; exact hP, va_K.moved hW.alike hK, hD⟩, hS.F ht⟩) hS.2.2 dX7_isBelow_14
  · have h := h.2 c1
    refine lv_iload_n hx hb dX7_isBelow_4 rfl (lv_at hl 0 rfl) ?_
    refine lv_iload_n hx hb dX7_isBelow_5 rfl (lv_at hl 1 rfl) ?_
    refine lv_icmp_ge (tgt := 13) hx hb dX7_isBelow_6 (by decide) (fun c2 => ?_) (fun c2 => ?_)
    · have h := h.1 c2
      refine lv_iconst (v := 0) hx hb dX7_isBelow_13 (by decide) ?_
      exact W.zret (ty := .boolean) (v := 0) hx hb hr (narB isB0) (fun t ht hW => ⟨⟨0, (), rfl, h, by rw [ht]; exact hP, va_K.moved hW.alike hK, hD⟩, hS.F ht⟩) hS.2.2 dX7_isBelow_14
    · have h := h.2 c2
      refine lv_iconst (v := 1) hx hb dX7_isBelow_9 (by decide) ?_
      refine lv_goto (tgt := 14) hx hb dX7_isBelow_10 (by decide) ?_
      exact W.zret (ty := .boolean) (v := 1) hx hb hr (narB isB1) (fun t ht hW => ⟨⟨1, (), rfl, h, by rw [ht]; exact hP, va_K.moved hW.alike hK, hD⟩, hS.F ht⟩) hS.2.2 dX7_isBelow_14
/-! X7_isPlace -/
abbrev rmX7_isPlace : Room := { frames := 0, cells := 0, slots := 0, locals := 0 }
set_option maxHeartbeats 4000000 in
set_option maxRecDepth 100000 in
theorem c_X7_isPlace (l : Launch) (D : va_G) (cI cZ : ClassId) (sz : Nat) (S : Unit) (p0 : Int32) (Q : Int32 → Unit → Prop) (h : wp_X7_isPlace S p0 Q) : Met l yX7_isPlace (wsm yX7_isPlace cX7_isPlace 1 (some .boolean)) rmX7_isPlace (va_Pc [.int p0] (preW D cI cZ sz (w0_ cI cZ S))) (va_Qi Q (fun u => atW D cI cZ (va_A (w0_ cI cZ S) sz) (w0_ cI cZ u)) (va_A (w0_ cI cZ S) sz)) 0 0 (va_A (w0_ cI cZ S) sz) := by
  refine Met.ofW (cc := cX7_isPlace) (maxL := 1) (ret := (some .boolean)) (by decide) rfl ?_
  intro p e s m args below meth c s₁ B hml hv
  obtain ⟨rfl, hsz, hP, hK, hD0⟩ := hv
  have hx := B.exec
  have hb := B.bytes
  have hr := B.returns
  have hts0 := atoms_spec (ws := wsm yX7_isPlace cX7_isPlace 1 (some .boolean)) B.pre
  have hts : ∀ w ∈ lw_all, w.before _ s = true := fun w h => hts0 w (List.mem_cons_of_mem _ h)
  have hown : s.vm.findClass RX7 = some m.cls := findClass_of_methodNamed B.named
  have hlocks := B.notSynchronized
  subst hsz
  have hD := hD0.self (sz := s.heap.size)
  generalize hAe : va_A (w0_ cI cZ S) s.heap.size = A at hD ⊢
  have hA : ∀ q : Nat, s.heap.size ≤ q → A q := fun q h => by rw [← hAe]; exact Or.inr h
  have hS : va_S A s.heap s.heap [] := va_S.rf
  have hml2 := hml
  have hl := lv_entry ([.int p0]) (n := 1) (Nat.le_of_ble_eq_true rfl)
  rw [lg_entry_eq]
  generalize (lg_sl ([.int p0]) ++ List.replicate (1 - (lg_sl ([.int p0])).length) Slot.unset).toArray = ls at hl ⊢
  have hl : lv_has ls 1 [(0, .int p0)] := hl
  unfold wp_X7_isPlace at h
  refine lv_iload_n hx hb dX7_isPlace_0 rfl (lv_at hl 0 rfl) ?_
  refine lv_if_lt (tgt := 15) hx hb dX7_isPlace_1 (by decide) (fun c1 => ?_) (fun c1 => ?_)
  · have h := h.1 c1
    refine lv_iconst (v := 0) hx hb dX7_isPlace_15 (by decide) ?_
    exact W.zret (ty := .boolean) (v := 0) hx hb hr (narB isB0) (fun t ht hW => ⟨⟨0, (), rfl, h, by rw [ht]; exact hP, va_K.moved hW.alike hK, hD⟩, hS.F ht⟩) hS.2.2 dX7_isPlace_16
  · have h := h.2 c1
    refine lv_iload_n hx hb dX7_isPlace_4 rfl (lv_at hl 0 rfl) ?_
    refine lv_sipush (v := 511) hx hb dX7_isPlace_5 (by decide) ?_
    refine lv_icmp_gt (tgt := 15) hx hb dX7_isPlace_8 (by decide) (fun c2 => ?_) (fun c2 => ?_)
    · have h := h.1 c2
      refine lv_iconst (v := 0) hx hb dX7_isPlace_15 (by decide) ?_
      exact W.zret (ty := .boolean) (v := 0) hx hb hr (narB isB0) (fun t ht hW => ⟨⟨0, (), rfl, h, by rw [ht]; exact hP, va_K.moved hW.alike hK, hD⟩, hS.F ht⟩) hS.2.2 dX7_isPlace_16
    · have h := h.2 c2
      refine lv_iconst (v := 1) hx hb dX7_isPlace_11 (by decide) ?_
      refine lv_goto (tgt := 16) hx hb dX7_isPlace_12 (by decide) ?_
      exact W.zret (ty := .boolean) (v := 1) hx hb hr (narB isB1) (fun t ht hW => ⟨⟨1, (), rfl, h, by rw [ht]; exact hP, va_K.moved hW.alike hK, hD⟩, hS.F ht⟩) hS.2.2 dX7_isPlace_16
/-! J7_fill_53178 -/
abbrev rmJ7_fill_53178 : Room := { frames := 0, cells := 0, slots := 0, locals := 0 }
set_option maxHeartbeats 4000000 in
set_option maxRecDepth 100000 in
theorem c_J7_fill_53178 (l : Launch) (D : va_G) (cI cZ : ClassId) (a : Nat → Nat) (N : Nat) (sz : Nat) (S : (Nat → Int32)) (p0 : Int32) (Q : (Nat → Int32) → Prop) (h : wp_J7_fill_53178 N S p0 Q) : Met l yJ7_fill_53178 (wsm yJ7_fill_53178 cJ7_fill_53178 4 none) rmJ7_fill_53178 (va_Pc [.ref (a 0), .int p0] (preW D cI cZ sz (wA1 cI cZ a N S))) (va_Qv Q (fun u => atW D cI cZ (va_A (wA1 cI cZ a N S) sz) (wA1 cI cZ a N u)) (va_A (wA1 cI cZ a N S) sz)) 0 0 (va_A (wA1 cI cZ a N S) sz) := by
  refine Met.ofW (cc := cJ7_fill_53178) (maxL := 4) (ret := none) (by decide) rfl ?_
  intro p e s m args below meth c s₁ B hml hv
  obtain ⟨rfl, hsz, hP, hK, hD0⟩ := hv
  have hx := B.exec
  have hb := B.bytes
  have hr := B.returns
  have hts0 := atoms_spec (ws := wsm yJ7_fill_53178 cJ7_fill_53178 4 none) B.pre
  have hts : ∀ w ∈ lw_all, w.before _ s = true := fun w h => hts0 w (List.mem_cons_of_mem _ h)
  have hown : s.vm.findClass RJ7 = some m.cls := findClass_of_methodNamed B.named
  have hlocks := B.notSynchronized
  subst hsz
  have hD := hD0.self (sz := s.heap.size)
  generalize hAe : va_A (wA1 cI cZ a N S) s.heap.size = A at hD ⊢
  have hA : ∀ q : Nat, s.heap.size ≤ q → A q := fun q h => by rw [← hAe]; exact Or.inr h
  have hS : va_S A s.heap s.heap [] := va_S.rf
  have hml2 := hml
  have L5 : ∀ (n : Nat), ∀ (y1 : Int32) (y2 : Int32) (y3 : Int32) (T : (Nat → Int32)) (H : Heap) (locs : List Loc) (ls : Array Slot), va_P D vwCl (wA1 cI cZ a N T) H → va_D A (wA1 cI cZ a N T) → va_S A s.heap H locs → lv_has ls 4 [(0, .ref (a 0)), (1, .int y1), (2, .int y2), (3, .int y3)] → wp_J7_fill_53178_L5 N Q n y1 y2 y3 T → W p l e rmJ7_fill_53178 s m ([.ref (a 0), .int p0] : List Value).toArray below meth c H locs 0 0 (MQ below (va_Qv Q (fun u => atW D cI cZ A (wA1 cI cZ a N u)) A) ([.ref (a 0), .int p0] : List Value).toArray s 0 0 A) (F0 m 5 ls []) := by
    intro n
    induction n with
    | zero =>
      intro y1 y2 y3 T H locs ls hP hD hS hl h
      exact False.elim h
    | succ n ih =>
      intro y1 y2 y3 T H locs ls hP hD hS hl h
      unfold wp_J7_fill_53178_L5 at h
      refine lv_iload_n hx hb dJ7_fill_53178_5 rfl (lv_at hl 2 rfl) ?_
      refine lv_iload_n hx hb dJ7_fill_53178_6 rfl (lv_at hl 3 rfl) ?_
      refine lv_icmp_ge (tgt := 20) hx hb dJ7_fill_53178_7 (by decide) (fun c2 => ?_) (fun c2 => ?_)
      · have h := h.1 c2
        exact W.vret hx hb hr (fun t ht hW => ⟨⟨T, rfl, h, by rw [ht]; exact hP, va_K.moved hW.alike hK, hD⟩, hS.F ht⟩) hS.2.2 dJ7_fill_53178_20
      · have h := h.2 c2
        refine lv_aload_n hx hb dJ7_fill_53178_10 rfl (lv_at hl 0 rfl) ?_
        refine lv_iload_n hx hb dJ7_fill_53178_11 rfl (lv_at hl 2 rfl) ?_
        refine lv_iload_n hx hb dJ7_fill_53178_12 rfl (lv_at hl 1 rfl) ?_
        obtain ⟨T3, eT3⟩ : ∃ z : (Nat → Int32), z = (upd T (Int32.toNatClampNeg y2) y1) := ⟨_, rfl⟩
        refine ar_is (f := T) (n := N) (j := (Int32.toNatClampNeg y2)) (x := y1) hx hb hK hP hD hS 0 rfl rfl h.1 dJ7_fill_53178_13 (wA1 cI cZ a N T3) (by subst eT3; rfl) (fun H locs hP hD hS => ?_)
        have h := h.2
        have h := h T3 eT3
        obtain ⟨x4, ex4⟩ : ∃ y : Int32, y = (y2 + 1) := ⟨_, rfl⟩
        have h := h x4 ex4
        refine lv_iinc (v := x4) (lv' := [(2, .int x4), (0, .ref (a 0)), (1, .int y1), (3, .int y3)]) hx hb dJ7_fill_53178_14 hl (k := 2) rfl (by rw [ex4]; rfl) (by decide) rfl (fun ls hl => ?_)
        refine lv_goto (tgt := 5) hx hb dJ7_fill_53178_17 (by decide) ?_
        exact ih y1 x4 y3 T3 _ _ _ hP hD hS (lv_sub hl [1, 2, 0, 3] rfl) h
  have hl := lv_entry ([.ref (a 0), .int p0]) (n := 4) (Nat.le_of_ble_eq_true rfl)
  rw [lg_entry_eq]
  generalize (lg_sl ([.ref (a 0), .int p0]) ++ List.replicate (4 - (lg_sl ([.ref (a 0), .int p0])).length) Slot.unset).toArray = ls at hl ⊢
  have hl : lv_has ls 4 [(0, .ref (a 0)), (1, .int p0)] := hl
  unfold wp_J7_fill_53178 at h
  refine lv_iconst (v := 0) hx hb dJ7_fill_53178_0 (by decide) ?_
  refine lv_istore_n (lv' := [(2, .int 0), (0, .ref (a 0)), (1, .int p0)]) hx hb dJ7_fill_53178_1 rfl hl (by decide) rfl (fun ls hl => ?_)
  refine lv_aload_n hx hb dJ7_fill_53178_2 rfl (lv_at hl 1 rfl) ?_
  refine va_alen (v := Int32.ofNat N) hx hb hK hP 0 0 rfl rfl rfl dJ7_fill_53178_3 ?_
  refine lv_topi (fun x1 ex1 => ?_)
  have h := h x1 ex1
  refine lv_istore_n (lv' := [(3, .int x1), (2, .int 0), (0, .ref (a 0)), (1, .int p0)]) hx hb dJ7_fill_53178_4 rfl hl (by decide) rfl (fun ls hl => ?_)
  exact L5 2000 p0 0 x1 S _ _ _ hP hD hS (lv_sub hl [2, 3, 1, 0] rfl) h
