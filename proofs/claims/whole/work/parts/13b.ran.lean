/-! X7_nest -/
abbrev rmX7_nest : Room := { frames := 1, cells := 0, slots := 0, locals := 21 }
set_option maxHeartbeats 4000000 in
set_option maxRecDepth 100000 in
theorem c_X7_nest (l : Launch) (D : va_G) (cI cZ : ClassId) (a : Nat → Nat) (sz : Nat) (S : (Nat → Int32) × (Nat → Int32) × Ob × Ob × Ob × Ob × (Nat → Int32) × Ob × Ob × Ob × Ob × Ob) (p0 : Int32) (Q : Int32 → ((Nat → Int32) × (Nat → Int32) × Ob × Ob × Ob × Ob × (Nat → Int32) × Ob × Ob × Ob × Ob × Ob) → Prop) (h : wp_X7_nest S p0 Q) : Met l yX7_nest (wsm yX7_nest cX7_nest 2 (some .int)) rmX7_nest (va_Pc [.ref (a 0), .int p0] (preW D cI cZ sz (wX7 cI cZ a S))) (va_Qi Q (fun u => atW D cI cZ (va_A (wX7 cI cZ a S) sz) (wX7 cI cZ a u)) (va_A (wX7 cI cZ a S) sz)) 0 0 (va_A (wX7 cI cZ a S) sz) := by
  refine Met.ofW (cc := cX7_nest) (maxL := 2) (ret := (some .int)) (by decide) rfl ?_
  intro p e s m args below meth c s₁ B hml hv
  obtain ⟨rfl, hsz, hP, hK, hD0⟩ := hv
  have hx := B.exec
  have hb := B.bytes
  have hr := B.returns
  have hts0 := atoms_spec (ws := wsm yX7_nest cX7_nest 2 (some .int)) B.pre
  have hts : ∀ w ∈ lw_all, w.before _ s = true := fun w h => hts0 w (List.mem_cons_of_mem _ h)
  have hown : s.vm.findClass RX7 = some m.cls := findClass_of_methodNamed B.named
  have hlocks := B.notSynchronized
  subst hsz
  have hD := hD0.self (sz := s.heap.size)
  generalize hAe : va_A (wX7 cI cZ a S) s.heap.size = A at hD ⊢
  have hA : ∀ q : Nat, s.heap.size ≤ q → A q := fun q h => by rw [← hAe]; exact Or.inr h
  have hS : va_S A s.heap s.heap [] := va_S.rf
  have hml2 := hml
  have hl := lv_entry ([.ref (a 0), .int p0]) (n := 2) (Nat.le_of_ble_eq_true rfl)
  rw [lg_entry_eq]
  generalize (lg_sl ([.ref (a 0), .int p0]) ++ List.replicate (2 - (lg_sl ([.ref (a 0), .int p0])).length) Slot.unset).toArray = ls at hl ⊢
  have hl : lv_has ls 2 [(0, .ref (a 0)), (1, .int p0)] := hl
  unfold wp_X7_nest at h
  refine lv_iload_n hx hb dX7_nest_0 rfl (lv_at hl 1 rfl) ?_
  refine lv_aload_n hx hb dX7_nest_1 rfl (lv_at hl 0 rfl) ?_
  refine va_get (D := D) (ci := 6) (v := .ref (a 2)) (C := RX7) (T := TX7) (N := 4) hx hb hts inX7 hown hK hP 0 rfl rfl 1 (by decide) (hts _ q_424) (fun _ h9 => h9) rfl dX7_nest_2 ?_
  refine va_get (D := D) (ci := 3) (v := .ref (a 3)) (C := RX3) (T := TX3) (N := 12) hx hb hts inX3 hown hK hP 2 rfl rfl 0 (by decide) (hts _ q_349) (fun _ h9 => h9) rfl dX7_nest_5 ?_
  refine va_get (D := D) (ci := 4) (v := .int (S.2.2.1.1 10)) (C := RX5) (T := TX5) (N := 16) hx hb hts inX5 hown hK hP 3 rfl rfl 10 (by decide) (hts _ q_133) (fun _ h9 => h9) rfl dX7_nest_8 ?_
  refine cl_i (ws' := fun u1 => (wX7 cI cZ a S)) (va_runS (As := [.int p0, .int (S.2.2.1.1 10)]) (rest := []) ⟨hx, hb, hml, hown, hts⟩ (c_X7_isBelow l D cI cZ _ () p0 (S.2.2.1.1 10) _ h ) (va_cwS 2 hts (gS q_451 q_452 q_67 q_453) rfl rfl rfl (by decide +kernel) ⟨Nat.le_of_ble_eq_true rfl, Nat.le_of_ble_eq_true rfl⟩) (preS_of hK hP hD [] rfl rfl (by decide)) rfl rfl hl.1 rfl (lv_room (Nat.le_of_ble_eq_true rfl)) dX7_nest_11 ⟨Nat.zero_le _, Nat.zero_le _⟩) hP hD hS hA [] [.inr 0, .inr 1, .inr 2, .inr 3, .inr 4, .inr 5, .inr 6, .inr 7, .inr 8, .inr 9, .inr 10, .inr 11, .inr 12, .inr 13, .inr 14, .inr 15, .inr 16, .inr 17, .inr 18, .inr 19, .inr 20, .inr 21, .inr 22, .inr 23, .inr 24, .inr 25, .inr 26, .inr 27, .inr 28, .inr 29, .inr 30, .inr 31, .inr 32, .inr 33, .inr 34, .inr 35, .inr 36, .inr 37, .inr 38, .inr 39, .inr 40, .inr 41, .inr 42, .inr 43, .inr 44, .inr 45, .inr 46, .inr 47, .inr 48, .inr 49, .inr 50, .inr 51, .inr 52, .inr 53] rfl (by decide) (fun _ => rfl) (fun _ => rfl) (fun r2 u1 H locs h hP hD hS => ?_)
  refine lv_if_eq (tgt := 32) hx hb dX7_nest_14 (by decide) (fun c3 => ?_) (fun c3 => ?_)
  · have h := h.1 c3
    refine lv_iconst (v := -1) hx hb dX7_nest_32 (by decide) ?_
    exact W.iret (v := (-1)) hx hb hr (fun t ht hW => ⟨⟨(-1), S, rfl, h, by rw [ht]; exact hP, va_K.moved hW.alike hK, hD⟩, hS.F ht⟩) hS.2.2 dX7_nest_33
  · have h := h.2 c3
    refine lv_aload_n hx hb dX7_nest_17 rfl (lv_at hl 0 rfl) ?_
    refine va_get (D := D) (ci := 6) (v := .ref (a 2)) (C := RX7) (T := TX7) (N := 4) hx hb hts inX7 hown hK hP 0 rfl rfl 1 (by decide) (hts _ q_424) (fun _ h9 => h9) rfl dX7_nest_18 ?_
    refine va_get (D := D) (ci := 3) (v := .ref (a 3)) (C := RX3) (T := TX3) (N := 12) hx hb hts inX3 hown hK hP 2 rfl rfl 0 (by decide) (hts _ q_349) (fun _ h9 => h9) rfl dX7_nest_21 ?_
    refine va_get (D := D) (ci := 4) (v := .ref (a 13)) (C := RX5) (T := TX5) (N := 16) hx hb hts inX5 hown hK hP 3 rfl rfl 9 (by decide) (hts _ q_130) (fun _ h9 => h9) rfl dX7_nest_24 ?_
    refine lv_iload_n hx hb dX7_nest_27 rfl (lv_at hl 1 rfl) ?_
    refine ar_il (f := (S.2.2.1.2 9)) (n := 21) (j := (Int32.toNatClampNeg p0)) hx hb hK hP 13 rfl rfl h.1 dX7_nest_28 ?_
    have h := h.2
    refine lv_goto (tgt := 33) hx hb dX7_nest_29 (by decide) ?_
    exact W.iret (v := ((S.2.2.1.2 9) (Int32.toNatClampNeg p0))) hx hb hr (fun t ht hW => ⟨⟨((S.2.2.1.2 9) (Int32.toNatClampNeg p0)), S, rfl, h, by rw [ht]; exact hP, va_K.moved hW.alike hK, hD⟩, hS.F ht⟩) hS.2.2 dX7_nest_33
/-! X7_state -/
abbrev rmX7_state : Room := { frames := 3, cells := 0, slots := 0, locals := 69 }
set_option maxHeartbeats 4000000 in
set_option maxRecDepth 100000 in
theorem c_X7_state (l : Launch) (D : va_G) (cI cZ : ClassId) (a : Nat → Nat) (sz : Nat) (S : (Nat → Int32) × (Nat → Int32) × Ob × Ob × Ob × Ob × (Nat → Int32) × Ob × Ob × Ob × Ob × Ob) (p0 : Int32) (Q : Int32 → ((Nat → Int32) × (Nat → Int32) × Ob × Ob × Ob × Ob × (Nat → Int32) × Ob × Ob × Ob × Ob × Ob) → Prop) (h : wp_X7_state S p0 Q) : Met l yX7_state (wsm yX7_state cX7_state 3 (some .int)) rmX7_state (va_Pc [.ref (a 0), .int p0] (preW D cI cZ sz (wX7 cI cZ a S))) (va_Qi Q (fun u => atW D cI cZ (va_A (wX7 cI cZ a S) sz) (wX7 cI cZ a u)) (va_A (wX7 cI cZ a S) sz)) 0 0 (va_A (wX7 cI cZ a S) sz) := by
  refine Met.ofW (cc := cX7_state) (maxL := 3) (ret := (some .int)) (by decide) rfl ?_
  intro p e s m args below meth c s₁ B hml hv
  obtain ⟨rfl, hsz, hP, hK, hD0⟩ := hv
  have hx := B.exec
  have hb := B.bytes
  have hr := B.returns
  have hts0 := atoms_spec (ws := wsm yX7_state cX7_state 3 (some .int)) B.pre
  have hts : ∀ w ∈ lw_all, w.before _ s = true := fun w h => hts0 w (List.mem_cons_of_mem _ h)
  have hown : s.vm.findClass RX7 = some m.cls := findClass_of_methodNamed B.named
  have hlocks := B.notSynchronized
  subst hsz
  have hD := hD0.self (sz := s.heap.size)
  generalize hAe : va_A (wX7 cI cZ a S) s.heap.size = A at hD ⊢
  have hA : ∀ q : Nat, s.heap.size ≤ q → A q := fun q h => by rw [← hAe]; exact Or.inr h
  have hS : va_S A s.heap s.heap [] := va_S.rf
  have hml2 := hml
  have hl := lv_entry ([.ref (a 0), .int p0]) (n := 3) (Nat.le_of_ble_eq_true rfl)
  rw [lg_entry_eq]
  generalize (lg_sl ([.ref (a 0), .int p0]) ++ List.replicate (3 - (lg_sl ([.ref (a 0), .int p0])).length) Slot.unset).toArray = ls at hl ⊢
  have hl : lv_has ls 3 [(0, .ref (a 0)), (1, .int p0)] := hl
  unfold wp_X7_state at h
  refine lv_aload_n hx hb dX7_state_0 rfl (lv_at hl 0 rfl) ?_
  refine va_get (D := D) (ci := 6) (v := .ref (a 2)) (C := RX7) (T := TX7) (N := 4) hx hb hts inX7 hown hK hP 0 rfl rfl 1 (by decide) (hts _ q_424) (fun _ h9 => h9) rfl dX7_state_1 ?_
  refine va_get (D := D) (ci := 3) (v := .ref (a 20)) (C := RX3) (T := TX3) (N := 12) hx hb hts inX3 hown hK hP 2 rfl rfl 3 (by decide) (hts _ q_355) (fun _ h9 => h9) rfl dX7_state_4 ?_
  refine lv_astore_n (lv' := [(2, .ref (a 20)), (0, .ref (a 0)), (1, .int p0)]) hx hb dX7_state_7 rfl hl (by decide) rfl (fun ls hl => ?_)
  refine lv_iload_n hx hb dX7_state_8 rfl (lv_at hl 2 rfl) ?_
  by_cases c1_0 : p0 = 0
  · have h := h.1 c1_0
    refine sw_in c1_0 ?_
    refine lv_tableIn (tgt := 88) hx hb dX7_state_9 (by decide) (by decide) rfl (by decide) ?_
    refine lv_aload_n hx hb dX7_state_88 rfl (lv_at hl 1 rfl) ?_
    refine va_get (D := D) (ci := 6) (v := .ref (a 2)) (C := RX7) (T := TX7) (N := 4) hx hb hts inX7 hown hK hP 0 rfl rfl 1 (by decide) (hts _ q_424) (fun _ h9 => h9) rfl dX7_state_89 ?_
    refine va_get (D := D) (ci := 3) (v := .int (S.2.1 5)) (C := RX3) (T := TX3) (N := 12) hx hb hts inX3 hown hK hP 2 rfl rfl 5 (by decide) (hts _ q_359) (fun _ h9 => h9) rfl dX7_state_92 ?_
    exact W.iret (v := (S.2.1 5)) hx hb hr (fun t ht hW => ⟨⟨(S.2.1 5), S, rfl, h, by rw [ht]; exact hP, va_K.moved hW.alike hK, hD⟩, hS.F ht⟩) hS.2.2 dX7_state_95
  have h := h.2
  by_cases c1_1 : p0 = 1
  · have h := h.1 c1_1
    refine sw_in c1_1 ?_
    refine lv_tableIn (tgt := 96) hx hb dX7_state_9 (by decide) (by decide) rfl (by decide) ?_
    refine lv_aload_n hx hb dX7_state_96 rfl (lv_at hl 1 rfl) ?_
    refine va_get (D := D) (ci := 6) (v := .ref (a 2)) (C := RX7) (T := TX7) (N := 4) hx hb hts inX7 hown hK hP 0 rfl rfl 1 (by decide) (hts _ q_424) (fun _ h9 => h9) rfl dX7_state_97 ?_
    refine va_get (D := D) (ci := 3) (v := .int (S.2.1 6)) (C := RX3) (T := TX3) (N := 12) hx hb hts inX3 hown hK hP 2 rfl rfl 6 (by decide) (hts _ q_361) (fun _ h9 => h9) rfl dX7_state_100 ?_
    exact W.iret (v := (S.2.1 6)) hx hb hr (fun t ht hW => ⟨⟨(S.2.1 6), S, rfl, h, by rw [ht]; exact hP, va_K.moved hW.alike hK, hD⟩, hS.F ht⟩) hS.2.2 dX7_state_103
  have h := h.2
  by_cases c1_2 : p0 = 2
  · have h := h.1 c1_2
    refine sw_in c1_2 ?_
    refine lv_tableIn (tgt := 104) hx hb dX7_state_9 (by decide) (by decide) rfl (by decide) ?_
    refine lv_aload_n hx hb dX7_state_104 rfl (lv_at hl 0 rfl) ?_
    refine va_get (D := D) (ci := 1) (v := .int (S.2.2.2.2.2.1.1 10)) (C := RX1) (T := TX1) (N := 14) hx hb hts inX1 hown hK hP 20 rfl rfl 10 (by decide) (hts _ q_309) (fun _ h9 => h9) rfl dX7_state_105 ?_
    exact W.iret (v := (S.2.2.2.2.2.1.1 10)) hx hb hr (fun t ht hW => ⟨⟨(S.2.2.2.2.2.1.1 10), S, rfl, h, by rw [ht]; exact hP, va_K.moved hW.alike hK, hD⟩, hS.F ht⟩) hS.2.2 dX7_state_108
  have h := h.2
  by_cases c1_3 : p0 = 3
  · have h := h.1 c1_3
    refine sw_in c1_3 ?_
    refine lv_tableIn (tgt := 109) hx hb dX7_state_9 (by decide) (by decide) rfl (by decide) ?_
    refine lv_aload_n hx hb dX7_state_109 rfl (lv_at hl 0 rfl) ?_
    refine va_get (D := D) (ci := 1) (v := .int (S.2.2.2.2.2.1.1 13)) (C := RX1) (T := TX1) (N := 14) hx hb hts inX1 hown hK hP 20 rfl rfl 13 (by decide) (hts _ q_318) (fun _ h9 => h9) rfl dX7_state_110 ?_
    refine lv_if_eq (tgt := 120) hx hb dX7_state_113 (by decide) (fun c2 => ?_) (fun c2 => ?_)
    · have h := h.1 c2
      refine lv_iconst (v := 0) hx hb dX7_state_120 (by decide) ?_
      exact W.iret (v := 0) hx hb hr (fun t ht hW => ⟨⟨0, S, rfl, h, by rw [ht]; exact hP, va_K.moved hW.alike hK, hD⟩, hS.F ht⟩) hS.2.2 dX7_state_121
    · have h := h.2 c2
      refine lv_iconst (v := 1) hx hb dX7_state_116 (by decide) ?_
      refine lv_goto (tgt := 121) hx hb dX7_state_117 (by decide) ?_
      exact W.iret (v := 1) hx hb hr (fun t ht hW => ⟨⟨1, S, rfl, h, by rw [ht]; exact hP, va_K.moved hW.alike hK, hD⟩, hS.F ht⟩) hS.2.2 dX7_state_121
  have h := h.2
  by_cases c1_4 : p0 = 4
  · have h := h.1 c1_4
    refine sw_in c1_4 ?_
    refine lv_tableIn (tgt := 122) hx hb dX7_state_9 (by decide) (by decide) rfl (by decide) ?_
    refine lv_aload_n hx hb dX7_state_122 rfl (lv_at hl 0 rfl) ?_
    refine va_get (D := D) (ci := 1) (v := .int (S.2.2.2.2.2.1.1 5)) (C := RX1) (T := TX1) (N := 14) hx hb hts inX1 hown hK hP 20 rfl rfl 5 (by decide) (hts _ q_295) (fun _ h9 => h9) rfl dX7_state_123 ?_
    exact W.iret (v := (S.2.2.2.2.2.1.1 5)) hx hb hr (fun t ht hW => ⟨⟨(S.2.2.2.2.2.1.1 5), S, rfl, h, by rw [ht]; exact hP, va_K.moved hW.alike hK, hD⟩, hS.F ht⟩) hS.2.2 dX7_state_126
  have h := h.2
  by_cases c1_5 : p0 = 5
  · have h := h.1 c1_5
    refine sw_in c1_5 ?_
    refine lv_tableIn (tgt := 127) hx hb dX7_state_9 (by decide) (by decide) rfl (by decide) ?_
    refine lv_aload_n hx hb dX7_state_127 rfl (lv_at hl 0 rfl) ?_
    refine va_get (D := D) (ci := 1) (v := .int (S.2.2.2.2.2.1.1 6)) (C := RX1) (T := TX1) (N := 14) hx hb hts inX1 hown hK hP 20 rfl rfl 6 (by decide) (hts _ q_298) (fun _ h9 => h9) rfl dX7_state_128 ?_
    exact W.iret (v := (S.2.2.2.2.2.1.1 6)) hx hb hr (fun t ht hW => ⟨⟨(S.2.2.2.2.2.1.1 6), S, rfl, h, by rw [ht]; exact hP, va_K.moved hW.alike hK, hD⟩, hS.F ht⟩) hS.2.2 dX7_state_131
  have h := h.2
  by_cases c1_6 : p0 = 6
  · have h := h.1 c1_6
    refine sw_in c1_6 ?_
    refine lv_tableIn (tgt := 132) hx hb dX7_state_9 (by decide) (by decide) rfl (by decide) ?_
    refine lv_aload_n hx hb dX7_state_132 rfl (lv_at hl 0 rfl) ?_
    refine va_get (D := D) (ci := 1) (v := .int (S.2.2.2.2.2.1.1 8)) (C := RX1) (T := TX1) (N := 14) hx hb hts inX1 hown hK hP 20 rfl rfl 8 (by decide) (hts _ q_303) (fun _ h9 => h9) rfl dX7_state_133 ?_
    exact W.iret (v := (S.2.2.2.2.2.1.1 8)) hx hb hr (fun t ht hW => ⟨⟨(S.2.2.2.2.2.1.1 8), S, rfl, h, by rw [ht]; exact hP, va_K.moved hW.alike hK, hD⟩, hS.F ht⟩) hS.2.2 dX7_state_136
  have h := h.2
  by_cases c1_7 : p0 = 7
  · have h := h.1 c1_7
    refine sw_in c1_7 ?_
    refine lv_tableIn (tgt := 137) hx hb dX7_state_9 (by decide) (by decide) rfl (by decide) ?_
    refine lv_aload_n hx hb dX7_state_137 rfl (lv_at hl 0 rfl) ?_
    refine va_get (D := D) (ci := 1) (v := .int (S.2.2.2.2.2.1.1 9)) (C := RX1) (T := TX1) (N := 14) hx hb hts inX1 hown hK hP 20 rfl rfl 9 (by decide) (hts _ q_306) (fun _ h9 => h9) rfl dX7_state_138 ?_
    exact W.iret (v := (S.2.2.2.2.2.1.1 9)) hx hb hr (fun t ht hW => ⟨⟨(S.2.2.2.2.2.1.1 9), S, rfl, h, by rw [ht]; exact hP, va_K.moved hW.alike hK, hD⟩, hS.F ht⟩) hS.2.2 dX7_state_141
  have h := h.2
  by_cases c1_8 : p0 = 8
  · have h := h.1 c1_8
    refine sw_in c1_8 ?_
    refine lv_tableIn (tgt := 142) hx hb dX7_state_9 (by decide) (by decide) rfl (by decide) ?_
    refine lv_aload_n hx hb dX7_state_142 rfl (lv_at hl 1 rfl) ?_
    refine va_get (D := D) (ci := 6) (v := .ref (a 2)) (C := RX7) (T := TX7) (N := 4) hx hb hts inX7 hown hK hP 0 rfl rfl 1 (by decide) (hts _ q_424) (fun _ h9 => h9) rfl dX7_state_143 ?_
    refine va_get (D := D) (ci := 3) (v := .ref (a 3)) (C := RX3) (T := TX3) (N := 12) hx hb hts inX3 hown hK hP 2 rfl rfl 0 (by decide) (hts _ q_349) (fun _ h9 => h9) rfl dX7_state_146 ?_
    refine va_get (D := D) (ci := 4) (v := .int (S.2.2.1.1 14)) (C := RX5) (T := TX5) (N := 16) hx hb hts inX5 hown hK hP 3 rfl rfl 14 (by decide) (hts _ q_144) (fun _ h9 => h9) rfl dX7_state_149 ?_
    exact W.iret (v := (S.2.2.1.1 14)) hx hb hr (fun t ht hW => ⟨⟨(S.2.2.1.1 14), S, rfl, h, by rw [ht]; exact hP, va_K.moved hW.alike hK, hD⟩, hS.F ht⟩) hS.2.2 dX7_state_152
  have h := h.2
  by_cases c1_9 : p0 = 9
  · have h := h.1 c1_9
    refine sw_in c1_9 ?_
    refine lv_tableIn (tgt := 153) hx hb dX7_state_9 (by decide) (by decide) rfl (by decide) ?_
    refine lv_aload_n hx hb dX7_state_153 rfl (lv_at hl 1 rfl) ?_
    refine va_get (D := D) (ci := 6) (v := .ref (a 2)) (C := RX7) (T := TX7) (N := 4) hx hb hts inX7 hown hK hP 0 rfl rfl 1 (by decide) (hts _ q_424) (fun _ h9 => h9) rfl dX7_state_154 ?_
    refine va_get (D := D) (ci := 3) (v := .ref (a 3)) (C := RX3) (T := TX3) (N := 12) hx hb hts inX3 hown hK hP 2 rfl rfl 0 (by decide) (hts _ q_349) (fun _ h9 => h9) rfl dX7_state_157 ?_
    refine va_get (D := D) (ci := 4) (v := .int (S.2.2.1.1 13)) (C := RX5) (T := TX5) (N := 16) hx hb hts inX5 hown hK hP 3 rfl rfl 13 (by decide) (hts _ q_141) (fun _ h9 => h9) rfl dX7_state_160 ?_
    exact W.iret (v := (S.2.2.1.1 13)) hx hb hr (fun t ht hW => ⟨⟨(S.2.2.1.1 13), S, rfl, h, by rw [ht]; exact hP, va_K.moved hW.alike hK, hD⟩, hS.F ht⟩) hS.2.2 dX7_state_163
  have h := h.2
  by_cases c1_10 : p0 = 10
  · have h := h.1 c1_10
    refine sw_in c1_10 ?_
    refine lv_tableIn (tgt := 164) hx hb dX7_state_9 (by decide) (by decide) rfl (by decide) ?_
    refine lv_aload_n hx hb dX7_state_164 rfl (lv_at hl 0 rfl) ?_
    refine va_get (D := D) (ci := 1) (v := .int (S.2.2.2.2.2.1.1 12)) (C := RX1) (T := TX1) (N := 14) hx hb hts inX1 hown hK hP 20 rfl rfl 12 (by decide) (hts _ q_315) (fun _ h9 => h9) rfl dX7_state_165 ?_
    refine lv_if_eq (tgt := 175) hx hb dX7_state_168 (by decide) (fun c3 => ?_) (fun c3 => ?_)
    · have h := h.1 c3
      refine lv_iconst (v := 0) hx hb dX7_state_175 (by decide) ?_
      exact W.iret (v := 0) hx hb hr (fun t ht hW => ⟨⟨0, S, rfl, h, by rw [ht]; exact hP, va_K.moved hW.alike hK, hD⟩, hS.F ht⟩) hS.2.2 dX7_state_176
    · have h := h.2 c3
      refine lv_iconst (v := 1) hx hb dX7_state_171 (by decide) ?_
      refine lv_goto (tgt := 176) hx hb dX7_state_172 (by decide) ?_
      exact W.iret (v := 1) hx hb hr (fun t ht hW => ⟨⟨1, S, rfl, h, by rw [ht]; exact hP, va_K.moved hW.alike hK, hD⟩, hS.F ht⟩) hS.2.2 dX7_state_176
  have h := h.2
  by_cases c1_11 : p0 = 11
  · have h := h.1 c1_11
    refine sw_in c1_11 ?_
    refine lv_tableIn (tgt := 177) hx hb dX7_state_9 (by decide) (by decide) rfl (by decide) ?_
    refine lv_aload_n hx hb dX7_state_177 rfl (lv_at hl 0 rfl) ?_
    refine va_get (D := D) (ci := 1) (v := .int (S.2.2.2.2.2.1.1 11)) (C := RX1) (T := TX1) (N := 14) hx hb hts inX1 hown hK hP 20 rfl rfl 11 (by decide) (hts _ q_312) (fun _ h9 => h9) rfl dX7_state_178 ?_
    exact W.iret (v := (S.2.2.2.2.2.1.1 11)) hx hb hr (fun t ht hW => ⟨⟨(S.2.2.2.2.2.1.1 11), S, rfl, h, by rw [ht]; exact hP, va_K.moved hW.alike hK, hD⟩, hS.F ht⟩) hS.2.2 dX7_state_181
  have h := h.2
  by_cases c1_12 : p0 = 12
  · have h := h.1 c1_12
    refine sw_in c1_12 ?_
    refine lv_tableIn (tgt := 182) hx hb dX7_state_9 (by decide) (by decide) rfl (by decide) ?_
    refine lv_aload_n hx hb dX7_state_182 rfl (lv_at hl 1 rfl) ?_
    refine va_get (D := D) (ci := 6) (v := .ref (a 2)) (C := RX7) (T := TX7) (N := 4) hx hb hts inX7 hown hK hP 0 rfl rfl 1 (by decide) (hts _ q_424) (fun _ h9 => h9) rfl dX7_state_183 ?_
    refine va_get (D := D) (ci := 3) (v := .ref (a 3)) (C := RX3) (T := TX3) (N := 12) hx hb hts inX3 hown hK hP 2 rfl rfl 0 (by decide) (hts _ q_349) (fun _ h9 => h9) rfl dX7_state_186 ?_
    refine cl_i (ws' := fun u4 => (wX7 cI cZ a (S.1, S.2.1, u4, S.2.2.2.1, S.2.2.2.2.1, S.2.2.2.2.2.1, S.2.2.2.2.2.2.1, S.2.2.2.2.2.2.2.1, S.2.2.2.2.2.2.2.2.1, S.2.2.2.2.2.2.2.2.2.1, S.2.2.2.2.2.2.2.2.2.2.1, S.2.2.2.2.2.2.2.2.2.2.2))) (va_runV (As := []) (rest := []) ⟨hx, hb, hml, hown, hts⟩ (c_X5_limit l D cI cZ (fun k => a (k + 3)) _ S.2.2.1 _ h ) (cwV 0 hts (gV q_813 q_814 q_815 q_69 q_816) rfl rfl rfl (by decide +kernel) ⟨Nat.le_of_ble_eq_true rfl, Nat.le_of_ble_eq_true rfl⟩) (preV_of (ci := 4) (q := (RX5, TX5, 16)) hK hP hD [3, 4, 5, 6, 7, 8, 9, 10, 11, 12, 13] rfl rfl (by decide) 3 rfl rfl) rfl rfl hl.1 rfl (lv_room (Nat.le_of_ble_eq_true rfl)) dX7_state_189 ⟨Nat.zero_le _, Nat.zero_le _⟩) hP hD hS hA [3, 4, 5, 6, 7, 8, 9, 10, 11, 12, 13] [.inr 0, .inr 1, .inr 2, .inl 0, .inl 1, .inl 2, .inl 3, .inl 4, .inl 5, .inl 6, .inl 7, .inl 8, .inl 9, .inl 10, .inr 14, .inr 15, .inr 16, .inr 17, .inr 18, .inr 19, .inr 20, .inr 21, .inr 22, .inr 23, .inr 24, .inr 25, .inr 26, .inr 27, .inr 28, .inr 29, .inr 30, .inr 31, .inr 32, .inr 33, .inr 34, .inr 35, .inr 36, .inr 37, .inr 38, .inr 39, .inr 40, .inr 41, .inr 42, .inr 43, .inr 44, .inr 45, .inr 46, .inr 47, .inr 48, .inr 49, .inr 50, .inr 51, .inr 52, .inr 53] rfl (by decide) (fun _ => rfl) (fun _ => rfl) (fun r5 u4 H locs h hP hD hS => ?_)
    exact W.iret (v := r5) hx hb hr (fun t ht hW => ⟨⟨r5, (S.1, S.2.1, u4, S.2.2.2.1, S.2.2.2.2.1, S.2.2.2.2.2.1, S.2.2.2.2.2.2.1, S.2.2.2.2.2.2.2.1, S.2.2.2.2.2.2.2.2.1, S.2.2.2.2.2.2.2.2.2.1, S.2.2.2.2.2.2.2.2.2.2.1, S.2.2.2.2.2.2.2.2.2.2.2), rfl, h, by rw [ht]; exact hP, va_K.moved hW.alike hK, hD⟩, hS.F ht⟩) hS.2.2 dX7_state_192
  have h := h.2
  by_cases c1_13 : p0 = 13
  · have h := h.1 c1_13
    refine sw_in c1_13 ?_
    refine lv_tableIn (tgt := 193) hx hb dX7_state_9 (by decide) (by decide) rfl (by decide) ?_
    refine lv_aload_n hx hb dX7_state_193 rfl (lv_at hl 1 rfl) ?_
    refine va_get (D := D) (ci := 6) (v := .ref (a 2)) (C := RX7) (T := TX7) (N := 4) hx hb hts inX7 hown hK hP 0 rfl rfl 1 (by decide) (hts _ q_424) (fun _ h9 => h9) rfl dX7_state_194 ?_
    refine va_get (D := D) (ci := 3) (v := .ref (a 3)) (C := RX3) (T := TX3) (N := 12) hx hb hts inX3 hown hK hP 2 rfl rfl 0 (by decide) (hts _ q_349) (fun _ h9 => h9) rfl dX7_state_197 ?_
    refine cl_i (ws' := fun u6 => (wX7 cI cZ a (S.1, S.2.1, u6, S.2.2.2.1, S.2.2.2.2.1, S.2.2.2.2.2.1, S.2.2.2.2.2.2.1, S.2.2.2.2.2.2.2.1, S.2.2.2.2.2.2.2.2.1, S.2.2.2.2.2.2.2.2.2.1, S.2.2.2.2.2.2.2.2.2.2.1, S.2.2.2.2.2.2.2.2.2.2.2))) (va_runV (As := []) (rest := []) ⟨hx, hb, hml, hown, hts⟩ (c_X5_next l D cI cZ (fun k => a (k + 3)) _ S.2.2.1 _ h ) (cwV 0 hts (gV q_817 q_524 q_525 q_69 q_526) rfl rfl rfl (by decide +kernel) ⟨Nat.le_of_ble_eq_true rfl, Nat.le_of_ble_eq_true rfl⟩) (preV_of (ci := 4) (q := (RX5, TX5, 16)) hK hP hD [3, 4, 5, 6, 7, 8, 9, 10, 11, 12, 13] rfl rfl (by decide) 3 rfl rfl) rfl rfl hl.1 rfl (lv_room (Nat.le_of_ble_eq_true rfl)) dX7_state_200 ⟨Nat.zero_le _, Nat.zero_le _⟩) hP hD hS hA [3, 4, 5, 6, 7, 8, 9, 10, 11, 12, 13] [.inr 0, .inr 1, .inr 2, .inl 0, .inl 1, .inl 2, .inl 3, .inl 4, .inl 5, .inl 6, .inl 7, .inl 8, .inl 9, .inl 10, .inr 14, .inr 15, .inr 16, .inr 17, .inr 18, .inr 19, .inr 20, .inr 21, .inr 22, .inr 23, .inr 24, .inr 25, .inr 26, .inr 27, .inr 28, .inr 29, .inr 30, .inr 31, .inr 32, .inr 33, .inr 34, .inr 35, .inr 36, .inr 37, .inr 38, .inr 39, .inr 40, .inr 41, .inr 42, .inr 43, .inr 44, .inr 45, .inr 46, .inr 47, .inr 48, .inr 49, .inr 50, .inr 51, .inr 52, .inr 53] rfl (by decide) (fun _ => rfl) (fun _ => rfl) (fun r7 u6 H locs h hP hD hS => ?_)
    exact W.iret (v := r7) hx hb hr (fun t ht hW => ⟨⟨r7, (S.1, S.2.1, u6, S.2.2.2.1, S.2.2.2.2.1, S.2.2.2.2.2.1, S.2.2.2.2.2.2.1, S.2.2.2.2.2.2.2.1, S.2.2.2.2.2.2.2.2.1, S.2.2.2.2.2.2.2.2.2.1, S.2.2.2.2.2.2.2.2.2.2.1, S.2.2.2.2.2.2.2.2.2.2.2), rfl, h, by rw [ht]; exact hP, va_K.moved hW.alike hK, hD⟩, hS.F ht⟩) hS.2.2 dX7_state_203
  have h := h.2
  by_cases c1_14 : p0 = 14
  · have h := h.1 c1_14
    refine sw_in c1_14 ?_
    refine lv_tableIn (tgt := 204) hx hb dX7_state_9 (by decide) (by decide) rfl (by decide) ?_
    refine lv_aload_n hx hb dX7_state_204 rfl (lv_at hl 1 rfl) ?_
    refine va_get (D := D) (ci := 6) (v := .ref (a 2)) (C := RX7) (T := TX7) (N := 4) hx hb hts inX7 hown hK hP 0 rfl rfl 1 (by decide) (hts _ q_424) (fun _ h9 => h9) rfl dX7_state_205 ?_
    refine va_get (D := D) (ci := 3) (v := .ref (a 3)) (C := RX3) (T := TX3) (N := 12) hx hb hts inX3 hown hK hP 2 rfl rfl 0 (by decide) (hts _ q_349) (fun _ h9 => h9) rfl dX7_state_208 ?_
    refine va_get (D := D) (ci := 4) (v := .int (S.2.2.1.1 12)) (C := RX5) (T := TX5) (N := 16) hx hb hts inX5 hown hK hP 3 rfl rfl 12 (by decide) (hts _ q_137) (fun _ h9 => h9) rfl dX7_state_211 ?_
    exact W.iret (v := (S.2.2.1.1 12)) hx hb hr (fun t ht hW => ⟨⟨(S.2.2.1.1 12), S, rfl, h, by rw [ht]; exact hP, va_K.moved hW.alike hK, hD⟩, hS.F ht⟩) hS.2.2 dX7_state_214
  have h := h.2
  by_cases c1_15 : p0 = 15
  · have h := h.1 c1_15
    refine sw_in c1_15 ?_
    refine lv_tableIn (tgt := 215) hx hb dX7_state_9 (by decide) (by decide) rfl (by decide) ?_
    refine lv_aload_n hx hb dX7_state_215 rfl (lv_at hl 1 rfl) ?_
    refine va_get (D := D) (ci := 6) (v := .ref (a 2)) (C := RX7) (T := TX7) (N := 4) hx hb hts inX7 hown hK hP 0 rfl rfl 1 (by decide) (hts _ q_424) (fun _ h9 => h9) rfl dX7_state_216 ?_
    refine va_get (D := D) (ci := 3) (v := .ref (a 14)) (C := RX3) (T := TX3) (N := 12) hx hb hts inX3 hown hK hP 2 rfl rfl 1 (by decide) (hts _ q_351) (fun _ h9 => h9) rfl dX7_state_219 ?_
    refine va_get (D := D) (ci := 0) (v := .int (S.2.2.2.1.1 4)) (C := RX0) (T := TX0) (N := 5) hx hb hts inX0 hown hK hP 14 rfl rfl 4 (by decide) (hts _ q_195) (fun _ h9 => h9) rfl dX7_state_222 ?_
    exact W.iret (v := (S.2.2.2.1.1 4)) hx hb hr (fun t ht hW => ⟨⟨(S.2.2.2.1.1 4), S, rfl, h, by rw [ht]; exact hP, va_K.moved hW.alike hK, hD⟩, hS.F ht⟩) hS.2.2 dX7_state_225
  have h := h.2
  have h := h c1_0 c1_1 c1_2 c1_3 c1_4 c1_5 c1_6 c1_7 c1_8 c1_9 c1_10 c1_11 c1_12 c1_13 c1_14 c1_15
  refine lv_tableOut (tgt := 226) hx hb dX7_state_9 (sw_out (lo := 0) (n := 16) (by decide) (by decide) (fun k hk => ?_)) (by decide) ?_
  · rcases (show k = 0 ∨ k = 1 ∨ k = 2 ∨ k = 3 ∨ k = 4 ∨ k = 5 ∨ k = 6 ∨ k = 7 ∨ k = 8 ∨ k = 9 ∨ k = 10 ∨ k = 11 ∨ k = 12 ∨ k = 13 ∨ k = 14 ∨ k = 15 by omega) with rfl | rfl | rfl | rfl | rfl | rfl | rfl | rfl | rfl | rfl | rfl | rfl | rfl | rfl | rfl | rfl
    · exact c1_0
    · exact c1_1
    · exact c1_2
    · exact c1_3
    · exact c1_4
    · exact c1_5
    · exact c1_6
    · exact c1_7
    · exact c1_8
    · exact c1_9
    · exact c1_10
    · exact c1_11
    · exact c1_12
    · exact c1_13
    · exact c1_14
    · exact c1_15
  refine lv_bipush (v := -2) hx hb dX7_state_226 (by decide) ?_
  exact W.iret (v := (-2)) hx hb hr (fun t ht hW => ⟨⟨(-2), S, rfl, h, by rw [ht]; exact hP, va_K.moved hW.alike hK, hD⟩, hS.F ht⟩) hS.2.2 dX7_state_228
/-! X7_count -/
abbrev rmX7_count : Room := { frames := 0, cells := 0, slots := 0, locals := 0 }
set_option maxHeartbeats 4000000 in
set_option maxRecDepth 100000 in
theorem c_X7_count (l : Launch) (D : va_G) (cI cZ : ClassId) (a : Nat → Nat) (sz : Nat) (S : (Nat → Int32) × (Nat → Int32) × Ob × Ob × Ob × Ob × (Nat → Int32) × Ob × Ob × Ob × Ob × Ob) (p0 : Int32) (Q : Int32 → ((Nat → Int32) × (Nat → Int32) × Ob × Ob × Ob × Ob × (Nat → Int32) × Ob × Ob × Ob × Ob × Ob) → Prop) (h : wp_X7_count S p0 Q) : Met l yX7_count (wsm yX7_count cX7_count 3 (some .int)) rmX7_count (va_Pc [.ref (a 0), .int p0] (preW D cI cZ sz (wX7 cI cZ a S))) (va_Qi Q (fun u => atW D cI cZ (va_A (wX7 cI cZ a S) sz) (wX7 cI cZ a u)) (va_A (wX7 cI cZ a S) sz)) 0 0 (va_A (wX7 cI cZ a S) sz) := by
  refine Met.ofW (cc := cX7_count) (maxL := 3) (ret := (some .int)) (by decide) rfl ?_
  intro p e s m args below meth c s₁ B hml hv
  obtain ⟨rfl, hsz, hP, hK, hD0⟩ := hv
  have hx := B.exec
  have hb := B.bytes
  have hr := B.returns
  have hts0 := atoms_spec (ws := wsm yX7_count cX7_count 3 (some .int)) B.pre
  have hts : ∀ w ∈ lw_all, w.before _ s = true := fun w h => hts0 w (List.mem_cons_of_mem _ h)
  have hown : s.vm.findClass RX7 = some m.cls := findClass_of_methodNamed B.named
  have hlocks := B.notSynchronized
  subst hsz
  have hD := hD0.self (sz := s.heap.size)
  generalize hAe : va_A (wX7 cI cZ a S) s.heap.size = A at hD ⊢
  have hA : ∀ q : Nat, s.heap.size ≤ q → A q := fun q h => by rw [← hAe]; exact Or.inr h
  have hS : va_S A s.heap s.heap [] := va_S.rf
  have hml2 := hml
  have hl := lv_entry ([.ref (a 0), .int p0]) (n := 3) (Nat.le_of_ble_eq_true rfl)
  rw [lg_entry_eq]
  generalize (lg_sl ([.ref (a 0), .int p0]) ++ List.replicate (3 - (lg_sl ([.ref (a 0), .int p0])).length) Slot.unset).toArray = ls at hl ⊢
  have hl : lv_has ls 3 [(0, .ref (a 0)), (1, .int p0)] := hl
  unfold wp_X7_count at h
  refine lv_aload_n hx hb dX7_count_0 rfl (lv_at hl 0 rfl) ?_
  refine va_get (D := D) (ci := 6) (v := .ref (a 2)) (C := RX7) (T := TX7) (N := 4) hx hb hts inX7 hown hK hP 0 rfl rfl 1 (by decide) (hts _ q_424) (fun _ h9 => h9) rfl dX7_count_1 ?_
  refine va_get (D := D) (ci := 3) (v := .ref (a 17)) (C := RX3) (T := TX3) (N := 12) hx hb hts inX3 hown hK hP 2 rfl rfl 2 (by decide) (hts _ q_353) (fun _ h9 => h9) rfl dX7_count_4 ?_
  refine lv_astore_n (lv' := [(2, .ref (a 17)), (0, .ref (a 0)), (1, .int p0)]) hx hb dX7_count_7 rfl hl (by decide) rfl (fun ls hl => ?_)
  refine lv_iload_n hx hb dX7_count_8 rfl (lv_at hl 2 rfl) ?_
  by_cases c1_0 : p0 = 0
  · have h := h.1 c1_0
    refine sw_in c1_0 ?_
    refine lv_tableIn (tgt := 92) hx hb dX7_count_9 (by decide) (by decide) rfl (by decide) ?_
    refine lv_aload_n hx hb dX7_count_92 rfl (lv_at hl 1 rfl) ?_
    refine va_get (D := D) (ci := 6) (v := .ref (a 2)) (C := RX7) (T := TX7) (N := 4) hx hb hts inX7 hown hK hP 0 rfl rfl 1 (by decide) (hts _ q_424) (fun _ h9 => h9) rfl dX7_count_93 ?_
    refine va_get (D := D) (ci := 3) (v := .int (S.2.1 4)) (C := RX3) (T := TX3) (N := 12) hx hb hts inX3 hown hK hP 2 rfl rfl 4 (by decide) (hts _ q_357) (fun _ h9 => h9) rfl dX7_count_96 ?_
    exact W.iret (v := (S.2.1 4)) hx hb hr (fun t ht hW => ⟨⟨(S.2.1 4), S, rfl, h, by rw [ht]; exact hP, va_K.moved hW.alike hK, hD⟩, hS.F ht⟩) hS.2.2 dX7_count_99
  have h := h.2
  by_cases c1_1 : p0 = 1
  · have h := h.1 c1_1
    refine sw_in c1_1 ?_
    refine lv_tableIn (tgt := 100) hx hb dX7_count_9 (by decide) (by decide) rfl (by decide) ?_
    refine lv_aload_n hx hb dX7_count_100 rfl (lv_at hl 0 rfl) ?_
    refine va_get (D := D) (ci := 2) (v := .int (S.2.2.2.2.1.1 5)) (C := RX2) (T := TX2) (N := 14) hx hb hts inX2 hown hK hP 17 rfl rfl 5 (by decide) (hts _ q_223) (fun _ h9 => h9) rfl dX7_count_101 ?_
    exact W.iret (v := (S.2.2.2.2.1.1 5)) hx hb hr (fun t ht hW => ⟨⟨(S.2.2.2.2.1.1 5), S, rfl, h, by rw [ht]; exact hP, va_K.moved hW.alike hK, hD⟩, hS.F ht⟩) hS.2.2 dX7_count_104
  have h := h.2
  by_cases c1_2 : p0 = 2
  · have h := h.1 c1_2
    refine sw_in c1_2 ?_
    refine lv_tableIn (tgt := 105) hx hb dX7_count_9 (by decide) (by decide) rfl (by decide) ?_
    refine lv_aload_n hx hb dX7_count_105 rfl (lv_at hl 0 rfl) ?_
    refine va_get (D := D) (ci := 2) (v := .int (S.2.2.2.2.1.1 6)) (C := RX2) (T := TX2) (N := 14) hx hb hts inX2 hown hK hP 17 rfl rfl 6 (by decide) (hts _ q_226) (fun _ h9 => h9) rfl dX7_count_106 ?_
    exact W.iret (v := (S.2.2.2.2.1.1 6)) hx hb hr (fun t ht hW => ⟨⟨(S.2.2.2.2.1.1 6), S, rfl, h, by rw [ht]; exact hP, va_K.moved hW.alike hK, hD⟩, hS.F ht⟩) hS.2.2 dX7_count_109
  have h := h.2
  by_cases c1_3 : p0 = 3
  · have h := h.1 c1_3
    refine sw_in c1_3 ?_
    refine lv_tableIn (tgt := 110) hx hb dX7_count_9 (by decide) (by decide) rfl (by decide) ?_
    refine lv_aload_n hx hb dX7_count_110 rfl (lv_at hl 0 rfl) ?_
    refine va_get (D := D) (ci := 2) (v := .int (S.2.2.2.2.1.1 7)) (C := RX2) (T := TX2) (N := 14) hx hb hts inX2 hown hK hP 17 rfl rfl 7 (by decide) (hts _ q_229) (fun _ h9 => h9) rfl dX7_count_111 ?_
    exact W.iret (v := (S.2.2.2.2.1.1 7)) hx hb hr (fun t ht hW => ⟨⟨(S.2.2.2.2.1.1 7), S, rfl, h, by rw [ht]; exact hP, va_K.moved hW.alike hK, hD⟩, hS.F ht⟩) hS.2.2 dX7_count_114
  have h := h.2
  by_cases c1_4 : p0 = 4
  · have h := h.1 c1_4
    refine sw_in c1_4 ?_
    refine lv_tableIn (tgt := 115) hx hb dX7_count_9 (by decide) (by decide) rfl (by decide) ?_
    refine lv_aload_n hx hb dX7_count_115 rfl (lv_at hl 0 rfl) ?_
    refine va_get (D := D) (ci := 2) (v := .int (S.2.2.2.2.1.1 8)) (C := RX2) (T := TX2) (N := 14) hx hb hts inX2 hown hK hP 17 rfl rfl 8 (by decide) (hts _ q_232) (fun _ h9 => h9) rfl dX7_count_116 ?_
    exact W.iret (v := (S.2.2.2.2.1.1 8)) hx hb hr (fun t ht hW => ⟨⟨(S.2.2.2.2.1.1 8), S, rfl, h, by rw [ht]; exact hP, va_K.moved hW.alike hK, hD⟩, hS.F ht⟩) hS.2.2 dX7_count_119
  have h := h.2
  by_cases c1_5 : p0 = 5
  · have h := h.1 c1_5
    refine sw_in c1_5 ?_
    refine lv_tableIn (tgt := 120) hx hb dX7_count_9 (by decide) (by decide) rfl (by decide) ?_
    refine lv_aload_n hx hb dX7_count_120 rfl (lv_at hl 0 rfl) ?_
    refine va_get (D := D) (ci := 2) (v := .int (S.2.2.2.2.1.1 9)) (C := RX2) (T := TX2) (N := 14) hx hb hts inX2 hown hK hP 17 rfl rfl 9 (by decide) (hts _ q_235) (fun _ h9 => h9) rfl dX7_count_121 ?_
    exact W.iret (v := (S.2.2.2.2.1.1 9)) hx hb hr (fun t ht hW => ⟨⟨(S.2.2.2.2.1.1 9), S, rfl, h, by rw [ht]; exact hP, va_K.moved hW.alike hK, hD⟩, hS.F ht⟩) hS.2.2 dX7_count_124
  have h := h.2
  by_cases c1_6 : p0 = 6
  · have h := h.1 c1_6
    refine sw_in c1_6 ?_
    refine lv_tableIn (tgt := 125) hx hb dX7_count_9 (by decide) (by decide) rfl (by decide) ?_
    refine lv_aload_n hx hb dX7_count_125 rfl (lv_at hl 0 rfl) ?_
    refine va_get (D := D) (ci := 2) (v := .int (S.2.2.2.2.1.1 10)) (C := RX2) (T := TX2) (N := 14) hx hb hts inX2 hown hK hP 17 rfl rfl 10 (by decide) (hts _ q_238) (fun _ h9 => h9) rfl dX7_count_126 ?_
    exact W.iret (v := (S.2.2.2.2.1.1 10)) hx hb hr (fun t ht hW => ⟨⟨(S.2.2.2.2.1.1 10), S, rfl, h, by rw [ht]; exact hP, va_K.moved hW.alike hK, hD⟩, hS.F ht⟩) hS.2.2 dX7_count_129
  have h := h.2
  by_cases c1_7 : p0 = 7
  · have h := h.1 c1_7
    refine sw_in c1_7 ?_
    refine lv_tableIn (tgt := 130) hx hb dX7_count_9 (by decide) (by decide) rfl (by decide) ?_
    refine lv_aload_n hx hb dX7_count_130 rfl (lv_at hl 0 rfl) ?_
    refine va_get (D := D) (ci := 2) (v := .int (S.2.2.2.2.1.1 11)) (C := RX2) (T := TX2) (N := 14) hx hb hts inX2 hown hK hP 17 rfl rfl 11 (by decide) (hts _ q_241) (fun _ h9 => h9) rfl dX7_count_131 ?_
    exact W.iret (v := (S.2.2.2.2.1.1 11)) hx hb hr (fun t ht hW => ⟨⟨(S.2.2.2.2.1.1 11), S, rfl, h, by rw [ht]; exact hP, va_K.moved hW.alike hK, hD⟩, hS.F ht⟩) hS.2.2 dX7_count_134
  have h := h.2
  by_cases c1_8 : p0 = 8
  · have h := h.1 c1_8
    refine sw_in c1_8 ?_
    refine lv_tableIn (tgt := 135) hx hb dX7_count_9 (by decide) (by decide) rfl (by decide) ?_
    refine lv_aload_n hx hb dX7_count_135 rfl (lv_at hl 0 rfl) ?_
    refine va_get (D := D) (ci := 2) (v := .int (S.2.2.2.2.1.1 12)) (C := RX2) (T := TX2) (N := 14) hx hb hts inX2 hown hK hP 17 rfl rfl 12 (by decide) (hts _ q_244) (fun _ h9 => h9) rfl dX7_count_136 ?_
    exact W.iret (v := (S.2.2.2.2.1.1 12)) hx hb hr (fun t ht hW => ⟨⟨(S.2.2.2.2.1.1 12), S, rfl, h, by rw [ht]; exact hP, va_K.moved hW.alike hK, hD⟩, hS.F ht⟩) hS.2.2 dX7_count_139
  have h := h.2
  by_cases c1_9 : p0 = 9
  · have h := h.1 c1_9
    refine sw_in c1_9 ?_
    refine lv_tableIn (tgt := 140) hx hb dX7_count_9 (by decide) (by decide) rfl (by decide) ?_
    refine lv_aload_n hx hb dX7_count_140 rfl (lv_at hl 1 rfl) ?_
    refine va_get (D := D) (ci := 6) (v := .ref (a 2)) (C := RX7) (T := TX7) (N := 4) hx hb hts inX7 hown hK hP 0 rfl rfl 1 (by decide) (hts _ q_424) (fun _ h9 => h9) rfl dX7_count_141 ?_
    refine va_get (D := D) (ci := 3) (v := .ref (a 3)) (C := RX3) (T := TX3) (N := 12) hx hb hts inX3 hown hK hP 2 rfl rfl 0 (by decide) (hts _ q_349) (fun _ h9 => h9) rfl dX7_count_144 ?_
    refine va_get (D := D) (ci := 4) (v := .int (S.2.2.1.1 15)) (C := RX5) (T := TX5) (N := 16) hx hb hts inX5 hown hK hP 3 rfl rfl 15 (by decide) (hts _ q_146) (fun _ h9 => h9) rfl dX7_count_147 ?_
    exact W.iret (v := (S.2.2.1.1 15)) hx hb hr (fun t ht hW => ⟨⟨(S.2.2.1.1 15), S, rfl, h, by rw [ht]; exact hP, va_K.moved hW.alike hK, hD⟩, hS.F ht⟩) hS.2.2 dX7_count_150
  have h := h.2
  by_cases c1_10 : p0 = 10
  · have h := h.1 c1_10
    refine sw_in c1_10 ?_
    refine lv_tableIn (tgt := 151) hx hb dX7_count_9 (by decide) (by decide) rfl (by decide) ?_
    refine lv_aload_n hx hb dX7_count_151 rfl (lv_at hl 0 rfl) ?_
    refine va_get (D := D) (ci := 2) (v := .int (S.2.2.2.2.1.1 13)) (C := RX2) (T := TX2) (N := 14) hx hb hts inX2 hown hK hP 17 rfl rfl 13 (by decide) (hts _ q_247) (fun _ h9 => h9) rfl dX7_count_152 ?_
    exact W.iret (v := (S.2.2.2.2.1.1 13)) hx hb hr (fun t ht hW => ⟨⟨(S.2.2.2.2.1.1 13), S, rfl, h, by rw [ht]; exact hP, va_K.moved hW.alike hK, hD⟩, hS.F ht⟩) hS.2.2 dX7_count_155
  have h := h.2
  by_cases c1_11 : p0 = 11
  · have h := h.1 c1_11
    refine sw_in c1_11 ?_
    refine lv_tableIn (tgt := 156) hx hb dX7_count_9 (by decide) (by decide) rfl (by decide) ?_
    refine lv_aload_n hx hb dX7_count_156 rfl (lv_at hl 1 rfl) ?_
    refine va_get (D := D) (ci := 6) (v := .ref (a 2)) (C := RX7) (T := TX7) (N := 4) hx hb hts inX7 hown hK hP 0 rfl rfl 1 (by decide) (hts _ q_424) (fun _ h9 => h9) rfl dX7_count_157 ?_
    refine va_get (D := D) (ci := 3) (v := .ref (a 3)) (C := RX3) (T := TX3) (N := 12) hx hb hts inX3 hown hK hP 2 rfl rfl 0 (by decide) (hts _ q_349) (fun _ h9 => h9) rfl dX7_count_160 ?_
    refine va_get (D := D) (ci := 4) (v := .int (S.2.2.1.1 10)) (C := RX5) (T := TX5) (N := 16) hx hb hts inX5 hown hK hP 3 rfl rfl 10 (by decide) (hts _ q_133) (fun _ h9 => h9) rfl dX7_count_163 ?_
    exact W.iret (v := (S.2.2.1.1 10)) hx hb hr (fun t ht hW => ⟨⟨(S.2.2.1.1 10), S, rfl, h, by rw [ht]; exact hP, va_K.moved hW.alike hK, hD⟩, hS.F ht⟩) hS.2.2 dX7_count_166
  have h := h.2
  by_cases c1_12 : p0 = 12
  · have h := h.1 c1_12
    refine sw_in c1_12 ?_
    refine lv_tableIn (tgt := 167) hx hb dX7_count_9 (by decide) (by decide) rfl (by decide) ?_
    refine lv_aload_n hx hb dX7_count_167 rfl (lv_at hl 1 rfl) ?_
    refine va_get (D := D) (ci := 6) (v := .ref (a 2)) (C := RX7) (T := TX7) (N := 4) hx hb hts inX7 hown hK hP 0 rfl rfl 1 (by decide) (hts _ q_424) (fun _ h9 => h9) rfl dX7_count_168 ?_
    refine va_get (D := D) (ci := 3) (v := .ref (a 3)) (C := RX3) (T := TX3) (N := 12) hx hb hts inX3 hown hK hP 2 rfl rfl 0 (by decide) (hts _ q_349) (fun _ h9 => h9) rfl dX7_count_171 ?_
    refine va_get (D := D) (ci := 4) (v := .int (S.2.2.1.1 11)) (C := RX5) (T := TX5) (N := 16) hx hb hts inX5 hown hK hP 3 rfl rfl 11 (by decide) (hts _ q_135) (fun _ h9 => h9) rfl dX7_count_174 ?_
    exact W.iret (v := (S.2.2.1.1 11)) hx hb hr (fun t ht hW => ⟨⟨(S.2.2.1.1 11), S, rfl, h, by rw [ht]; exact hP, va_K.moved hW.alike hK, hD⟩, hS.F ht⟩) hS.2.2 dX7_count_177
  have h := h.2
  by_cases c1_13 : p0 = 13
  · have h := h.1 c1_13
    refine sw_in c1_13 ?_
    refine lv_tableIn (tgt := 178) hx hb dX7_count_9 (by decide) (by decide) rfl (by decide) ?_
    refine lv_aload_n hx hb dX7_count_178 rfl (lv_at hl 1 rfl) ?_
    refine va_get (D := D) (ci := 6) (v := .ref (a 2)) (C := RX7) (T := TX7) (N := 4) hx hb hts inX7 hown hK hP 0 rfl rfl 1 (by decide) (hts _ q_424) (fun _ h9 => h9) rfl dX7_count_179 ?_
    refine va_get (D := D) (ci := 3) (v := .ref (a 20)) (C := RX3) (T := TX3) (N := 12) hx hb hts inX3 hown hK hP 2 rfl rfl 3 (by decide) (hts _ q_355) (fun _ h9 => h9) rfl dX7_count_182 ?_
    refine va_get (D := D) (ci := 1) (v := .int (S.2.2.2.2.2.1.1 7)) (C := RX1) (T := TX1) (N := 14) hx hb hts inX1 hown hK hP 20 rfl rfl 7 (by decide) (hts _ q_300) (fun _ h9 => h9) rfl dX7_count_185 ?_
    exact W.iret (v := (S.2.2.2.2.2.1.1 7)) hx hb hr (fun t ht hW => ⟨⟨(S.2.2.2.2.2.1.1 7), S, rfl, h, by rw [ht]; exact hP, va_K.moved hW.alike hK, hD⟩, hS.F ht⟩) hS.2.2 dX7_count_188
  have h := h.2
  by_cases c1_14 : p0 = 14
  · have h := h.1 c1_14
    refine sw_in c1_14 ?_
    refine lv_tableIn (tgt := 189) hx hb dX7_count_9 (by decide) (by decide) rfl (by decide) ?_
    refine lv_aload_n hx hb dX7_count_189 rfl (lv_at hl 1 rfl) ?_
    refine va_get (D := D) (ci := 6) (v := .ref (a 2)) (C := RX7) (T := TX7) (N := 4) hx hb hts inX7 hown hK hP 0 rfl rfl 1 (by decide) (hts _ q_424) (fun _ h9 => h9) rfl dX7_count_190 ?_
    refine va_get (D := D) (ci := 3) (v := .ref (a 14)) (C := RX3) (T := TX3) (N := 12) hx hb hts inX3 hown hK hP 2 rfl rfl 1 (by decide) (hts _ q_351) (fun _ h9 => h9) rfl dX7_count_193 ?_
    refine va_get (D := D) (ci := 0) (v := .int (S.2.2.2.1.1 2)) (C := RX0) (T := TX0) (N := 5) hx hb hts inX0 hown hK hP 14 rfl rfl 2 (by decide) (hts _ q_191) (fun _ h9 => h9) rfl dX7_count_196 ?_
    exact W.iret (v := (S.2.2.2.1.1 2)) hx hb hr (fun t ht hW => ⟨⟨(S.2.2.2.1.1 2), S, rfl, h, by rw [ht]; exact hP, va_K.moved hW.alike hK, hD⟩, hS.F ht⟩) hS.2.2 dX7_count_199
  have h := h.2
  by_cases c1_15 : p0 = 15
  · have h := h.1 c1_15
    refine sw_in c1_15 ?_
    refine lv_tableIn (tgt := 200) hx hb dX7_count_9 (by decide) (by decide) rfl (by decide) ?_
    refine lv_aload_n hx hb dX7_count_200 rfl (lv_at hl 0 rfl) ?_
    refine va_get (D := D) (ci := 2) (v := .int (S.2.2.2.2.1.1 4)) (C := RX2) (T := TX2) (N := 14) hx hb hts inX2 hown hK hP 17 rfl rfl 4 (by decide) (hts _ q_220) (fun _ h9 => h9) rfl dX7_count_201 ?_
    exact W.iret (v := (S.2.2.2.2.1.1 4)) hx hb hr (fun t ht hW => ⟨⟨(S.2.2.2.2.1.1 4), S, rfl, h, by rw [ht]; exact hP, va_K.moved hW.alike hK, hD⟩, hS.F ht⟩) hS.2.2 dX7_count_204
  have h := h.2
  by_cases c1_16 : p0 = 16
  · have h := h.1 c1_16
    refine sw_in c1_16 ?_
    refine lv_tableIn (tgt := 205) hx hb dX7_count_9 (by decide) (by decide) rfl (by decide) ?_
    refine lv_aload_n hx hb dX7_count_205 rfl (lv_at hl 0 rfl) ?_
    refine va_get (D := D) (ci := 2) (v := .int (S.2.2.2.2.1.1 2)) (C := RX2) (T := TX2) (N := 14) hx hb hts inX2 hown hK hP 17 rfl rfl 2 (by decide) (hts _ q_217) (fun _ h9 => h9) rfl dX7_count_206 ?_
    exact W.iret (v := (S.2.2.2.2.1.1 2)) hx hb hr (fun t ht hW => ⟨⟨(S.2.2.2.2.1.1 2), S, rfl, h, by rw [ht]; exact hP, va_K.moved hW.alike hK, hD⟩, hS.F ht⟩) hS.2.2 dX7_count_209
  have h := h.2
  have h := h c1_0 c1_1 c1_2 c1_3 c1_4 c1_5 c1_6 c1_7 c1_8 c1_9 c1_10 c1_11 c1_12 c1_13 c1_14 c1_15 c1_16
  refine lv_tableOut (tgt := 210) hx hb dX7_count_9 (sw_out (lo := 0) (n := 17) (by decide) (by decide) (fun k hk => ?_)) (by decide) ?_
  · rcases (show k = 0 ∨ k = 1 ∨ k = 2 ∨ k = 3 ∨ k = 4 ∨ k = 5 ∨ k = 6 ∨ k = 7 ∨ k = 8 ∨ k = 9 ∨ k = 10 ∨ k = 11 ∨ k = 12 ∨ k = 13 ∨ k = 14 ∨ k = 15 ∨ k = 16 by omega) with rfl | rfl | rfl | rfl | rfl | rfl | rfl | rfl | rfl | rfl | rfl | rfl | rfl | rfl | rfl | rfl | rfl
    · exact c1_0
    · exact c1_1
    · exact c1_2
    · exact c1_3
    · exact c1_4
    · exact c1_5
    · exact c1_6
    · exact c1_7
    · exact c1_8
    · exact c1_9
    · exact c1_10
    · exact c1_11
    · exact c1_12
    · exact c1_13
    · exact c1_14
    · exact c1_15
    · exact c1_16
  refine lv_iconst (v := -1) hx hb dX7_count_210 (by decide) ?_
  exact W.iret (v := (-1)) hx hb hr (fun t ht hW => ⟨⟨(-1), S, rfl, h, by rw [ht]; exact hP, va_K.moved hW.alike hK, hD⟩, hS.F ht⟩) hS.2.2 dX7_count_211
/-! X7_waited -/
abbrev rmX7_waited : Room := { frames := 1, cells := 0, slots := 0, locals := 21 }
set_option maxHeartbeats 4000000 in
set_option maxRecDepth 100000 in
theorem c_X7_waited (l : Launch) (D : va_G) (cI cZ : ClassId) (a : Nat → Nat) (sz : Nat) (S : (Nat → Int32) × (Nat → Int32) × Ob × Ob × Ob × Ob × (Nat → Int32) × Ob × Ob × Ob × Ob × Ob) (p0 : Int32) (Q : Int32 → ((Nat → Int32) × (Nat → Int32) × Ob × Ob × Ob × Ob × (Nat → Int32) × Ob × Ob × Ob × Ob × Ob) → Prop) (h : wp_X7_waited S p0 Q) : Met l yX7_waited (wsm yX7_waited cX7_waited 2 (some .int)) rmX7_waited (va_Pc [.ref (a 0), .int p0] (preW D cI cZ sz (wX7 cI cZ a S))) (va_Qi Q (fun u => atW D cI cZ (va_A (wX7 cI cZ a S) sz) (wX7 cI cZ a u)) (va_A (wX7 cI cZ a S) sz)) 0 0 (va_A (wX7 cI cZ a S) sz) := by
  refine Met.ofW (cc := cX7_waited) (maxL := 2) (ret := (some .int)) (by decide) rfl ?_
  intro p e s m args below meth c s₁ B hml hv
  obtain ⟨rfl, hsz, hP, hK, hD0⟩ := hv
  have hx := B.exec
  have hb := B.bytes
  have hr := B.returns
  have hts0 := atoms_spec (ws := wsm yX7_waited cX7_waited 2 (some .int)) B.pre
  have hts : ∀ w ∈ lw_all, w.before _ s = true := fun w h => hts0 w (List.mem_cons_of_mem _ h)
  have hown : s.vm.findClass RX7 = some m.cls := findClass_of_methodNamed B.named
  have hlocks := B.notSynchronized
  subst hsz
  have hD := hD0.self (sz := s.heap.size)
  generalize hAe : va_A (wX7 cI cZ a S) s.heap.size = A at hD ⊢
  have hA : ∀ q : Nat, s.heap.size ≤ q → A q := fun q h => by rw [← hAe]; exact Or.inr h
  have hS : va_S A s.heap s.heap [] := va_S.rf
  have hml2 := hml
  have hl := lv_entry ([.ref (a 0), .int p0]) (n := 2) (Nat.le_of_ble_eq_true rfl)
  rw [lg_entry_eq]
  generalize (lg_sl ([.ref (a 0), .int p0]) ++ List.replicate (2 - (lg_sl ([.ref (a 0), .int p0])).length) Slot.unset).toArray = ls at hl ⊢
  have hl : lv_has ls 2 [(0, .ref (a 0)), (1, .int p0)] := hl
  unfold wp_X7_waited at h
  refine lv_iload_n hx hb dX7_waited_0 rfl (lv_at hl 1 rfl) ?_
  refine lv_bipush (v := 21) hx hb dX7_waited_1 (by decide) ?_
  refine cl_i (ws' := fun u1 => (wX7 cI cZ a S)) (va_runS (As := [.int p0, .int 21]) (rest := []) ⟨hx, hb, hml, hown, hts⟩ (c_X7_isBelow l D cI cZ _ () p0 21 _ h ) (va_cwS 2 hts (gS q_451 q_452 q_67 q_453) rfl rfl rfl (by decide +kernel) ⟨Nat.le_of_ble_eq_true rfl, Nat.le_of_ble_eq_true rfl⟩) (preS_of hK hP hD [] rfl rfl (by decide)) rfl rfl hl.1 rfl (lv_room (Nat.le_of_ble_eq_true rfl)) dX7_waited_3 ⟨Nat.zero_le _, Nat.zero_le _⟩) hP hD hS hA [] [.inr 0, .inr 1, .inr 2, .inr 3, .inr 4, .inr 5, .inr 6, .inr 7, .inr 8, .inr 9, .inr 10, .inr 11, .inr 12, .inr 13, .inr 14, .inr 15, .inr 16, .inr 17, .inr 18, .inr 19, .inr 20, .inr 21, .inr 22, .inr 23, .inr 24, .inr 25, .inr 26, .inr 27, .inr 28, .inr 29, .inr 30, .inr 31, .inr 32, .inr 33, .inr 34, .inr 35, .inr 36, .inr 37, .inr 38, .inr 39, .inr 40, .inr 41, .inr 42, .inr 43, .inr 44, .inr 45, .inr 46, .inr 47, .inr 48, .inr 49, .inr 50, .inr 51, .inr 52, .inr 53] rfl (by decide) (fun _ => rfl) (fun _ => rfl) (fun r2 u1 H locs h hP hD hS => ?_)
  refine lv_if_eq (tgt := 24) hx hb dX7_waited_6 (by decide) (fun c3 => ?_) (fun c3 => ?_)
  · have h := h.1 c3
    refine lv_iconst (v := -1) hx hb dX7_waited_24 (by decide) ?_
    exact W.iret (v := (-1)) hx hb hr (fun t ht hW => ⟨⟨(-1), S, rfl, h, by rw [ht]; exact hP, va_K.moved hW.alike hK, hD⟩, hS.F ht⟩) hS.2.2 dX7_waited_25
  · have h := h.2 c3
    refine lv_aload_n hx hb dX7_waited_9 rfl (lv_at hl 0 rfl) ?_
    refine va_get (D := D) (ci := 6) (v := .ref (a 2)) (C := RX7) (T := TX7) (N := 4) hx hb hts inX7 hown hK hP 0 rfl rfl 1 (by decide) (hts _ q_424) (fun _ h9 => h9) rfl dX7_waited_10 ?_
    refine va_get (D := D) (ci := 3) (v := .ref (a 3)) (C := RX3) (T := TX3) (N := 12) hx hb hts inX3 hown hK hP 2 rfl rfl 0 (by decide) (hts _ q_349) (fun _ h9 => h9) rfl dX7_waited_13 ?_
    refine va_get (D := D) (ci := 4) (v := .ref (a 12)) (C := RX5) (T := TX5) (N := 16) hx hb hts inX5 hown hK hP 3 rfl rfl 8 (by decide) (hts _ q_128) (fun _ h9 => h9) rfl dX7_waited_16 ?_
    refine lv_iload_n hx hb dX7_waited_19 rfl (lv_at hl 1 rfl) ?_
    refine ar_il (f := (S.2.2.1.2 8)) (n := 21) (j := (Int32.toNatClampNeg p0)) hx hb hK hP 12 rfl rfl h.1 dX7_waited_20 ?_
    have h := h.2
    refine lv_goto (tgt := 25) hx hb dX7_waited_21 (by decide) ?_
    exact W.iret (v := ((S.2.2.1.2 8) (Int32.toNatClampNeg p0))) hx hb hr (fun t ht hW => ⟨⟨((S.2.2.1.2 8) (Int32.toNatClampNeg p0)), S, rfl, h, by rw [ht]; exact hP, va_K.moved hW.alike hK, hD⟩, hS.F ht⟩) hS.2.2 dX7_waited_25
/-! X7_ahead -/
abbrev rmX7_ahead : Room := { frames := 1, cells := 0, slots := 0, locals := 22 }
set_option maxHeartbeats 4000000 in
set_option maxRecDepth 100000 in
theorem c_X7_ahead (l : Launch) (D : va_G) (cI cZ : ClassId) (a : Nat → Nat) (sz : Nat) (S : (Nat → Int32) × (Nat → Int32) × Ob × Ob × Ob × Ob × (Nat → Int32) × Ob × Ob × Ob × Ob × Ob) (p0 : Int32) (p1 : Int32) (Q : Int32 → ((Nat → Int32) × (Nat → Int32) × Ob × Ob × Ob × Ob × (Nat → Int32) × Ob × Ob × Ob × Ob × Ob) → Prop) (h : wp_X7_ahead S p0 p1 Q) : Met l yX7_ahead (wsm yX7_ahead cX7_ahead 3 (some .boolean)) rmX7_ahead (va_Pc [.ref (a 0), .int p0, .int p1] (preW D cI cZ sz (wX7 cI cZ a S))) (va_Qi Q (fun u => atW D cI cZ (va_A (wX7 cI cZ a S) sz) (wX7 cI cZ a u)) (va_A (wX7 cI cZ a S) sz)) 0 0 (va_A (wX7 cI cZ a S) sz) := by
  refine Met.ofW (cc := cX7_ahead) (maxL := 3) (ret := (some .boolean)) (by decide) rfl ?_
  intro p e s m args below meth c s₁ B hml hv
  obtain ⟨rfl, hsz, hP, hK, hD0⟩ := hv
  have hx := B.exec
  have hb := B.bytes
  have hr := B.returns
  have hts0 := atoms_spec (ws := wsm yX7_ahead cX7_ahead 3 (some .boolean)) B.pre
  have hts : ∀ w ∈ lw_all, w.before _ s = true := fun w h => hts0 w (List.mem_cons_of_mem _ h)
  have hown : s.vm.findClass RX7 = some m.cls := findClass_of_methodNamed B.named
  have hlocks := B.notSynchronized
  subst hsz
  have hD := hD0.self (sz := s.heap.size)
  generalize hAe : va_A (wX7 cI cZ a S) s.heap.size = A at hD ⊢
  have hA : ∀ q : Nat, s.heap.size ≤ q → A q := fun q h => by rw [← hAe]; exact Or.inr h
  have hS : va_S A s.heap s.heap [] := va_S.rf
  have hml2 := hml
  have hl := lv_entry ([.ref (a 0), .int p0, .int p1]) (n := 3) (Nat.le_of_ble_eq_true rfl)
  rw [lg_entry_eq]
  generalize (lg_sl ([.ref (a 0), .int p0, .int p1]) ++ List.replicate (3 - (lg_sl ([.ref (a 0), .int p0, .int p1])).length) Slot.unset).toArray = ls at hl ⊢
  have hl : lv_has ls 3 [(0, .ref (a 0)), (1, .int p0), (2, .int p1)] := hl
  unfold wp_X7_ahead at h
  refine lv_iload_n hx hb dX7_ahead_0 rfl (lv_at hl 1 rfl) ?_
  refine lv_bipush (v := 21) hx hb dX7_ahead_1 (by decide) ?_
  refine cl_i (ws' := fun u1 => (wX7 cI cZ a S)) (va_runS (As := [.int p0, .int 21]) (rest := []) ⟨hx, hb, hml, hown, hts⟩ (c_X7_isBelow l D cI cZ _ () p0 21 _ h ) (va_cwS 2 hts (gS q_451 q_452 q_67 q_453) rfl rfl rfl (by decide +kernel) ⟨Nat.le_of_ble_eq_true rfl, Nat.le_of_ble_eq_true rfl⟩) (preS_of hK hP hD [] rfl rfl (by decide)) rfl rfl hl.1 rfl (lv_room (Nat.le_of_ble_eq_true rfl)) dX7_ahead_3 ⟨Nat.zero_le _, Nat.zero_le _⟩) hP hD hS hA [] [.inr 0, .inr 1, .inr 2, .inr 3, .inr 4, .inr 5, .inr 6, .inr 7, .inr 8, .inr 9, .inr 10, .inr 11, .inr 12, .inr 13, .inr 14, .inr 15, .inr 16, .inr 17, .inr 18, .inr 19, .inr 20, .inr 21, .inr 22, .inr 23, .inr 24, .inr 25, .inr 26, .inr 27, .inr 28, .inr 29, .inr 30, .inr 31, .inr 32, .inr 33, .inr 34, .inr 35, .inr 36, .inr 37, .inr 38, .inr 39, .inr 40, .inr 41, .inr 42, .inr 43, .inr 44, .inr 45, .inr 46, .inr 47, .inr 48, .inr 49, .inr 50, .inr 51, .inr 52, .inr 53] rfl (by decide) (fun _ => rfl) (fun _ => rfl) (fun r2 u1 H locs h hP hD hS => ?_)
  refine lv_if_eq (tgt := 42) hx hb dX7_ahead_6 (by decide) (fun c3 => ?_) (fun c3 => ?_)
  · have h := h.1 c3
    refine lv_iconst (v := 0) hx hb dX7_ahead_42 (by decide) ?_
    exact W.zret (ty := .boolean) (v := 0) hx hb hr (narB isB0) (fun t ht hW => ⟨⟨0, S, rfl, h, by rw [ht]; exact hP, va_K.moved hW.alike hK, hD⟩, hS.F ht⟩) hS.2.2 dX7_ahead_43
  · have h := h.2 c3
    refine lv_iload_n hx hb dX7_ahead_9 rfl (lv_at hl 2 rfl) ?_
    refine lv_bipush (v := 21) hx hb dX7_ahead_10 (by decide) ?_
    refine cl_i (ws' := fun u4 => (wX7 cI cZ a S)) (va_runS (As := [.int p1, .int 21]) (rest := []) ⟨hx, hb, hml, hown, hts⟩ (c_X7_isBelow l D cI cZ _ () p1 21 _ h ) (va_cwS 2 hts (gS q_451 q_452 q_67 q_453) rfl rfl rfl (by decide +kernel) ⟨Nat.le_of_ble_eq_true rfl, Nat.le_of_ble_eq_true rfl⟩) (preS_of hK hP hD [] rfl rfl (by decide)) rfl rfl hl.1 rfl (lv_room (Nat.le_of_ble_eq_true rfl)) dX7_ahead_12 ⟨Nat.zero_le _, Nat.zero_le _⟩) hP hD hS hA [] [.inr 0, .inr 1, .inr 2, .inr 3, .inr 4, .inr 5, .inr 6, .inr 7, .inr 8, .inr 9, .inr 10, .inr 11, .inr 12, .inr 13, .inr 14, .inr 15, .inr 16, .inr 17, .inr 18, .inr 19, .inr 20, .inr 21, .inr 22, .inr 23, .inr 24, .inr 25, .inr 26, .inr 27, .inr 28, .inr 29, .inr 30, .inr 31, .inr 32, .inr 33, .inr 34, .inr 35, .inr 36, .inr 37, .inr 38, .inr 39, .inr 40, .inr 41, .inr 42, .inr 43, .inr 44, .inr 45, .inr 46, .inr 47, .inr 48, .inr 49, .inr 50, .inr 51, .inr 52, .inr 53] rfl (by decide) (fun _ => rfl) (fun _ => rfl) (fun r5 u4 H locs h hP hD hS => ?_)
    refine lv_if_eq (tgt := 42) hx hb dX7_ahead_15 (by decide) (fun c6 => ?_) (fun c6 => ?_)
    · have h := h.1 c6
      refine lv_iconst (v := 0) hx hb dX7_ahead_42 (by decide) ?_
      exact W.zret (ty := .boolean) (v := 0) hx hb hr (narB isB0) (fun t ht hW => ⟨⟨0, S, rfl, h, by rw [ht]; exact hP, va_K.moved hW.alike hK, hD⟩, hS.F ht⟩) hS.2.2 dX7_ahead_43
    · have h := h.2 c6
      refine lv_iload_n hx hb dX7_ahead_18 rfl (lv_at hl 1 rfl) ?_
      refine lv_iload_n hx hb dX7_ahead_19 rfl (lv_at hl 2 rfl) ?_
      refine lv_icmp_eq (tgt := 42) hx hb dX7_ahead_20 (by decide) (fun c7 => ?_) (fun c7 => ?_)
      · have h := h.1 c7
        refine lv_iconst (v := 0) hx hb dX7_ahead_42 (by decide) ?_
        exact W.zret (ty := .boolean) (v := 0) hx hb hr (narB isB0) (fun t ht hW => ⟨⟨0, S, rfl, h, by rw [ht]; exact hP, va_K.moved hW.alike hK, hD⟩, hS.F ht⟩) hS.2.2 dX7_ahead_43
      · have h := h.2 c7
        refine lv_aload_n hx hb dX7_ahead_23 rfl (lv_at hl 0 rfl) ?_
        refine va_get (D := D) (ci := 6) (v := .ref (a 2)) (C := RX7) (T := TX7) (N := 4) hx hb hts inX7 hown hK hP 0 rfl rfl 1 (by decide) (hts _ q_424) (fun _ h9 => h9) rfl dX7_ahead_24 ?_
        refine va_get (D := D) (ci := 3) (v := .ref (a 3)) (C := RX3) (T := TX3) (N := 12) hx hb hts inX3 hown hK hP 2 rfl rfl 0 (by decide) (hts _ q_349) (fun _ h9 => h9) rfl dX7_ahead_27 ?_
        refine lv_iload_n hx hb dX7_ahead_30 rfl (lv_at hl 1 rfl) ?_
        refine lv_iload_n hx hb dX7_ahead_31 rfl (lv_at hl 2 rfl) ?_
        refine cl_i (ws' := fun u8 => (wX7 cI cZ a (S.1, S.2.1, u8, S.2.2.2.1, S.2.2.2.2.1, S.2.2.2.2.2.1, S.2.2.2.2.2.2.1, S.2.2.2.2.2.2.2.1, S.2.2.2.2.2.2.2.2.1, S.2.2.2.2.2.2.2.2.2.1, S.2.2.2.2.2.2.2.2.2.2.1, S.2.2.2.2.2.2.2.2.2.2.2))) (va_runV (As := [.int p0, .int p1]) (rest := []) ⟨hx, hb, hml, hown, hts⟩ (c_X5_precedes l D cI cZ (fun k => a (k + 3)) _ S.2.2.1 p0 p1 _ h ) (cwV 2 hts (gV q_830 q_536 q_537 q_69 q_538) rfl rfl rfl (by decide +kernel) ⟨Nat.le_of_ble_eq_true rfl, Nat.le_of_ble_eq_true rfl⟩) (preV_of (ci := 4) (q := (RX5, TX5, 16)) hK hP hD [3, 4, 5, 6, 7, 8, 9, 10, 11, 12, 13] rfl rfl (by decide) 3 rfl rfl) rfl rfl hl.1 rfl (lv_room (Nat.le_of_ble_eq_true rfl)) dX7_ahead_32 ⟨Nat.zero_le _, Nat.zero_le _⟩) hP hD hS hA [3, 4, 5, 6, 7, 8, 9, 10, 11, 12, 13] [.inr 0, .inr 1, .inr 2, .inl 0, .inl 1, .inl 2, .inl 3, .inl 4, .inl 5, .inl 6, .inl 7, .inl 8, .inl 9, .inl 10, .inr 14, .inr 15, .inr 16, .inr 17, .inr 18, .inr 19, .inr 20, .inr 21, .inr 22, .inr 23, .inr 24, .inr 25, .inr 26, .inr 27, .inr 28, .inr 29, .inr 30, .inr 31, .inr 32, .inr 33, .inr 34, .inr 35, .inr 36, .inr 37, .inr 38, .inr 39, .inr 40, .inr 41, .inr 42, .inr 43, .inr 44, .inr 45, .inr 46, .inr 47, .inr 48, .inr 49, .inr 50, .inr 51, .inr 52, .inr 53] rfl (by decide) (fun _ => rfl) (fun _ => rfl) (fun r9 u8 H locs h hP hD hS => ?_)
        refine lv_if_eq (tgt := 42) hx hb dX7_ahead_35 (by decide) (fun c10 => ?_) (fun c10 => ?_)
        · have h := h.1 c10
          refine lv_iconst (v := 0) hx hb dX7_ahead_42 (by decide) ?_
          exact W.zret (ty := .boolean) (v := 0) hx hb hr (narB isB0) (fun t ht hW => ⟨⟨0, (S.1, S.2.1, u8, S.2.2.2.1, S.2.2.2.2.1, S.2.2.2.2.2.1, S.2.2.2.2.2.2.1, S.2.2.2.2.2.2.2.1, S.2.2.2.2.2.2.2.2.1, S.2.2.2.2.2.2.2.2.2.1, S.2.2.2.2.2.2.2.2.2.2.1, S.2.2.2.2.2.2.2.2.2.2.2), rfl, h, by rw [ht]; exact hP, va_K.moved hW.alike hK, hD⟩, hS.F ht⟩) hS.2.2 dX7_ahead_43
        · have h := h.2 c10
          refine lv_iconst (v := 1) hx hb dX7_ahead_38 (by decide) ?_
          refine lv_goto (tgt := 43) hx hb dX7_ahead_39 (by decide) ?_
          exact W.zret (ty := .boolean) (v := 1) hx hb hr (narB isB1) (fun t ht hW => ⟨⟨1, (S.1, S.2.1, u8, S.2.2.2.1, S.2.2.2.2.1, S.2.2.2.2.2.1, S.2.2.2.2.2.2.1, S.2.2.2.2.2.2.2.1, S.2.2.2.2.2.2.2.2.1, S.2.2.2.2.2.2.2.2.2.1, S.2.2.2.2.2.2.2.2.2.2.1, S.2.2.2.2.2.2.2.2.2.2.2), rfl, h, by rw [ht]; exact hP, va_K.moved hW.alike hK, hD⟩, hS.F ht⟩) hS.2.2 dX7_ahead_43
/-! X7_splits -/
abbrev rmX7_splits : Room := { frames := 1, cells := 0, slots := 0, locals := 25 }
set_option maxHeartbeats 4000000 in
set_option maxRecDepth 100000 in
theorem c_X7_splits (l : Launch) (D : va_G) (cI cZ : ClassId) (a : Nat → Nat) (sz : Nat) (S : (Nat → Int32) × (Nat → Int32) × Ob × Ob × Ob × Ob × (Nat → Int32) × Ob × Ob × Ob × Ob × Ob) (p0 : Int32) (Q : Int32 → ((Nat → Int32) × (Nat → Int32) × Ob × Ob × Ob × Ob × (Nat → Int32) × Ob × Ob × Ob × Ob × Ob) → Prop) (h : wp_X7_splits S p0 Q) : Met l yX7_splits (wsm yX7_splits cX7_splits 4 (some .int)) rmX7_splits (va_Pc [.ref (a 0), .int p0] (preW D cI cZ sz (wX7 cI cZ a S))) (va_Qi Q (fun u => atW D cI cZ (va_A (wX7 cI cZ a S) sz) (wX7 cI cZ a u)) (va_A (wX7 cI cZ a S) sz)) 0 0 (va_A (wX7 cI cZ a S) sz) := by
  refine Met.ofW (cc := cX7_splits) (maxL := 4) (ret := (some .int)) (by decide) rfl ?_
  intro p e s m args below meth c s₁ B hml hv
  obtain ⟨rfl, hsz, hP, hK, hD0⟩ := hv
  have hx := B.exec
  have hb := B.bytes
  have hr := B.returns
  have hts0 := atoms_spec (ws := wsm yX7_splits cX7_splits 4 (some .int)) B.pre
  have hts : ∀ w ∈ lw_all, w.before _ s = true := fun w h => hts0 w (List.mem_cons_of_mem _ h)
  have hown : s.vm.findClass RX7 = some m.cls := findClass_of_methodNamed B.named
  have hlocks := B.notSynchronized
  subst hsz
  have hD := hD0.self (sz := s.heap.size)
  generalize hAe : va_A (wX7 cI cZ a S) s.heap.size = A at hD ⊢
  have hA : ∀ q : Nat, s.heap.size ≤ q → A q := fun q h => by rw [← hAe]; exact Or.inr h
  have hS : va_S A s.heap s.heap [] := va_S.rf
  have hml2 := hml
  have L15 : ∀ (n : Nat), ∀ (y1 : Int32) (y2 : Int32) (y3 : Int32) (T : (Nat → Int32) × (Nat → Int32) × Ob × Ob × Ob × Ob × (Nat → Int32) × Ob × Ob × Ob × Ob × Ob) (H : Heap) (locs : List Loc) (ls : Array Slot), va_P D vwCl (wX7 cI cZ a T) H → va_D A (wX7 cI cZ a T) → va_S A s.heap H locs → lv_has ls 4 [(0, .ref (a 0)), (1, .int y1), (2, .int y2), (3, .int y3)] → wp_X7_splits_L15 Q n y1 y2 y3 T → W p l e rmX7_splits s m ([.ref (a 0), .int p0] : List Value).toArray below meth c H locs 0 0 (MQ below (va_Qi Q (fun u => atW D cI cZ A (wX7 cI cZ a u)) A) ([.ref (a 0), .int p0] : List Value).toArray s 0 0 A) (F0 m 15 ls []) := by
    intro n
    induction n with
    | zero =>
      intro y1 y2 y3 T H locs ls hP hD hS hl h
      exact False.elim h
    | succ n ih =>
      intro y1 y2 y3 T H locs ls hP hD hS hl h
      unfold wp_X7_splits_L15 at h
      refine lv_iload_n hx hb dX7_splits_15 rfl (lv_at hl 3 rfl) ?_
      refine lv_bipush (v := 7) hx hb dX7_splits_16 (by decide) ?_
      refine lv_icmp_gt (tgt := 69) hx hb dX7_splits_18 (by decide) (fun c4 => ?_) (fun c4 => ?_)
      · have h := h.1 c4
        refine lv_iload_n hx hb dX7_splits_69 rfl (lv_at hl 2 rfl) ?_
        exact W.iret (v := y2) hx hb hr (fun t ht hW => ⟨⟨y2, T, rfl, h, by rw [ht]; exact hP, va_K.moved hW.alike hK, hD⟩, hS.F ht⟩) hS.2.2 dX7_splits_70
      · have h := h.2 c4
        refine lv_aload_n hx hb dX7_splits_21 rfl (lv_at hl 0 rfl) ?_
        refine va_get (D := D) (ci := 6) (v := .ref (a 2)) (C := RX7) (T := TX7) (N := 4) hx hb hts inX7 hown hK hP 0 rfl rfl 1 (by decide) (hts _ q_424) (fun _ h9 => h9) rfl dX7_splits_22 ?_
        refine va_get (D := D) (ci := 3) (v := .ref (a 3)) (C := RX3) (T := TX3) (N := 12) hx hb hts inX3 hown hK hP 2 rfl rfl 0 (by decide) (hts _ q_349) (fun _ h9 => h9) rfl dX7_splits_25 ?_
        refine lv_iload_n hx hb dX7_splits_28 rfl (lv_at hl 1 rfl) ?_
        refine lv_iload_n hx hb dX7_splits_29 rfl (lv_at hl 3 rfl) ?_
        refine cl_i (ws' := fun u5 => (wX7 cI cZ a (T.1, T.2.1, u5, T.2.2.2.1, T.2.2.2.2.1, T.2.2.2.2.2.1, T.2.2.2.2.2.2.1, T.2.2.2.2.2.2.2.1, T.2.2.2.2.2.2.2.2.1, T.2.2.2.2.2.2.2.2.2.1, T.2.2.2.2.2.2.2.2.2.2.1, T.2.2.2.2.2.2.2.2.2.2.2))) (va_runV (As := [.int y1, .int y3]) (rest := []) ⟨hx, hb, hml, hown, hts⟩ (c_X5_groupBy l D cI cZ (fun k => a (k + 3)) _ T.2.2.1 y1 y3 _ h ) (cwV 2 hts (gV q_797 q_798 q_799 q_69 q_800) rfl rfl rfl (by decide +kernel) ⟨Nat.le_of_ble_eq_true rfl, Nat.le_of_ble_eq_true rfl⟩) (preV_of (ci := 4) (q := (RX5, TX5, 16)) hK hP hD [3, 4, 5, 6, 7, 8, 9, 10, 11, 12, 13] rfl rfl (by decide) 3 rfl rfl) rfl rfl hl.1 rfl (lv_room (Nat.le_of_ble_eq_true rfl)) dX7_splits_30 ⟨Nat.zero_le _, Nat.zero_le _⟩) hP hD hS hA [3, 4, 5, 6, 7, 8, 9, 10, 11, 12, 13] [.inr 0, .inr 1, .inr 2, .inl 0, .inl 1, .inl 2, .inl 3, .inl 4, .inl 5, .inl 6, .inl 7, .inl 8, .inl 9, .inl 10, .inr 14, .inr 15, .inr 16, .inr 17, .inr 18, .inr 19, .inr 20, .inr 21, .inr 22, .inr 23, .inr 24, .inr 25, .inr 26, .inr 27, .inr 28, .inr 29, .inr 30, .inr 31, .inr 32, .inr 33, .inr 34, .inr 35, .inr 36, .inr 37, .inr 38, .inr 39, .inr 40, .inr 41, .inr 42, .inr 43, .inr 44, .inr 45, .inr 46, .inr 47, .inr 48, .inr 49, .inr 50, .inr 51, .inr 52, .inr 53] rfl (by decide) (fun _ => rfl) (fun _ => rfl) (fun r6 u5 H locs h hP hD hS => ?_)
        refine lv_aload_n hx hb dX7_splits_33 rfl (lv_at hl 0 rfl) ?_
        refine va_get (D := D) (ci := 6) (v := .ref (a 2)) (C := RX7) (T := TX7) (N := 4) hx hb hts inX7 hown hK hP 0 rfl rfl 1 (by decide) (hts _ q_424) (fun _ h9 => h9) rfl dX7_splits_34 ?_
        refine va_get (D := D) (ci := 3) (v := .ref (a 3)) (C := RX3) (T := TX3) (N := 12) hx hb hts inX3 hown hK hP 2 rfl rfl 0 (by decide) (hts _ q_349) (fun _ h9 => h9) rfl dX7_splits_37 ?_
        refine lv_iload_n hx hb dX7_splits_40 rfl (lv_at hl 3 rfl) ?_
        refine lv_aload_n hx hb dX7_splits_41 rfl (lv_at hl 0 rfl) ?_
        refine va_get (D := D) (ci := 6) (v := .ref (a 2)) (C := RX7) (T := TX7) (N := 4) hx hb hts inX7 hown hK hP 0 rfl rfl 1 (by decide) (hts _ q_424) (fun _ h9 => h9) rfl dX7_splits_42 ?_
        refine va_get (D := D) (ci := 3) (v := .ref (a 3)) (C := RX3) (T := TX3) (N := 12) hx hb hts inX3 hown hK hP 2 rfl rfl 0 (by decide) (hts _ q_349) (fun _ h9 => h9) rfl dX7_splits_45 ?_
        refine va_get (D := D) (ci := 4) (v := .int (u5.1 14)) (C := RX5) (T := TX5) (N := 16) hx hb hts inX5 hown hK hP 3 rfl rfl 14 (by decide) (hts _ q_144) (fun _ h9 => h9) rfl dX7_splits_48 ?_
        refine cl_i (ws' := fun u7 => (wX7 cI cZ a (T.1, T.2.1, u7, T.2.2.2.1, T.2.2.2.2.1, T.2.2.2.2.2.1, T.2.2.2.2.2.2.1, T.2.2.2.2.2.2.2.1, T.2.2.2.2.2.2.2.2.1, T.2.2.2.2.2.2.2.2.2.1, T.2.2.2.2.2.2.2.2.2.2.1, T.2.2.2.2.2.2.2.2.2.2.2))) (va_runV (As := [.int y3, .int (u5.1 14)]) (rest := [.int r6]) ⟨hx, hb, hml, hown, hts⟩ (c_X5_limitBy l D cI cZ (fun k => a (k + 3)) _ u5 y3 (u5.1 14) _ h ) (cwV 2 hts (gV q_835 q_532 q_533 q_69 q_534) rfl rfl rfl (by decide +kernel) ⟨Nat.le_of_ble_eq_true rfl, Nat.le_of_ble_eq_true rfl⟩) (preV_of (ci := 4) (q := (RX5, TX5, 16)) hK hP hD [3, 4, 5, 6, 7, 8, 9, 10, 11, 12, 13] rfl rfl (by decide) 3 rfl rfl) rfl rfl hl.1 rfl (lv_room (Nat.le_of_ble_eq_true rfl)) dX7_splits_51 ⟨Nat.zero_le _, Nat.zero_le _⟩) hP hD hS hA [3, 4, 5, 6, 7, 8, 9, 10, 11, 12, 13] [.inr 0, .inr 1, .inr 2, .inl 0, .inl 1, .inl 2, .inl 3, .inl 4, .inl 5, .inl 6, .inl 7, .inl 8, .inl 9, .inl 10, .inr 14, .inr 15, .inr 16, .inr 17, .inr 18, .inr 19, .inr 20, .inr 21, .inr 22, .inr 23, .inr 24, .inr 25, .inr 26, .inr 27, .inr 28, .inr 29, .inr 30, .inr 31, .inr 32, .inr 33, .inr 34, .inr 35, .inr 36, .inr 37, .inr 38, .inr 39, .inr 40, .inr 41, .inr 42, .inr 43, .inr 44, .inr 45, .inr 46, .inr 47, .inr 48, .inr 49, .inr 50, .inr 51, .inr 52, .inr 53] rfl (by decide) (fun _ => rfl) (fun _ => rfl) (fun r8 u7 H locs h hP hD hS => ?_)
        refine lv_icmp_ge (tgt := 63) hx hb dX7_splits_54 (by decide) (fun c9 => ?_) (fun c9 => ?_)
        · have h := h.1 c9
          obtain ⟨x10, ex10⟩ : ∃ y : Int32, y = (y3 + 1) := ⟨_, rfl⟩
          have h := h x10 ex10
          refine lv_iinc (v := x10) (lv' := [(3, .int x10), (0, .ref (a 0)), (1, .int y1), (2, .int y2)]) hx hb dX7_splits_63 hl (k := 3) rfl (by rw [ex10]; rfl) (by decide) rfl (fun ls hl => ?_)
          refine lv_goto (tgt := 15) hx hb dX7_splits_66 (by decide) ?_
          exact ih y1 y2 x10 (T.1, T.2.1, u7, T.2.2.2.1, T.2.2.2.2.1, T.2.2.2.2.2.1, T.2.2.2.2.2.2.1, T.2.2.2.2.2.2.2.1, T.2.2.2.2.2.2.2.2.1, T.2.2.2.2.2.2.2.2.2.1, T.2.2.2.2.2.2.2.2.2.2.1, T.2.2.2.2.2.2.2.2.2.2.2) _ _ _ hP hD hS (lv_sub hl [1, 2, 3, 0] rfl) h
        · have h := h.2 c9
          refine lv_iload_n hx hb dX7_splits_57 rfl (lv_at hl 2 rfl) ?_
          refine lv_iconst (v := 1) hx hb dX7_splits_58 (by decide) ?_
          refine lv_iload_n hx hb dX7_splits_59 rfl (lv_at hl 3 rfl) ?_
          refine lv_ishl hx hb dX7_splits_60 ?_
          refine lv_ior hx hb dX7_splits_61 ?_
          refine lv_topi (fun x11 ex11 => ?_)
          have h := h x11 ex11
          refine lv_istore_n (lv' := [(2, .int x11), (0, .ref (a 0)), (1, .int y1), (3, .int y3)]) hx hb dX7_splits_62 rfl hl (by decide) rfl (fun ls hl => ?_)
          obtain ⟨x12, ex12⟩ : ∃ y : Int32, y = (y3 + 1) := ⟨_, rfl⟩
          have h := h x12 ex12
          refine lv_iinc (v := x12) (lv' := [(3, .int x12), (2, .int x11), (0, .ref (a 0)), (1, .int y1)]) hx hb dX7_splits_63 hl (k := 3) rfl (by rw [ex12]; rfl) (by decide) rfl (fun ls hl => ?_)
          refine lv_goto (tgt := 15) hx hb dX7_splits_66 (by decide) ?_
          exact ih y1 x11 x12 (T.1, T.2.1, u7, T.2.2.2.1, T.2.2.2.2.1, T.2.2.2.2.2.1, T.2.2.2.2.2.2.1, T.2.2.2.2.2.2.2.1, T.2.2.2.2.2.2.2.2.1, T.2.2.2.2.2.2.2.2.2.1, T.2.2.2.2.2.2.2.2.2.2.1, T.2.2.2.2.2.2.2.2.2.2.2) _ _ _ hP hD hS (lv_sub hl [2, 3, 1, 0] rfl) h
  have hl := lv_entry ([.ref (a 0), .int p0]) (n := 4) (Nat.le_of_ble_eq_true rfl)
  rw [lg_entry_eq]
  generalize (lg_sl ([.ref (a 0), .int p0]) ++ List.replicate (4 - (lg_sl ([.ref (a 0), .int p0])).length) Slot.unset).toArray = ls at hl ⊢
  have hl : lv_has ls 4 [(0, .ref (a 0)), (1, .int p0)] := hl
  unfold wp_X7_splits at h
  refine lv_iload_n hx hb dX7_splits_0 rfl (lv_at hl 1 rfl) ?_
  refine lv_bipush (v := 21) hx hb dX7_splits_1 (by decide) ?_
  refine cl_i (ws' := fun u1 => (wX7 cI cZ a S)) (va_runS (As := [.int p0, .int 21]) (rest := []) ⟨hx, hb, hml, hown, hts⟩ (c_X7_isBelow l D cI cZ _ () p0 21 _ h ) (va_cwS 2 hts (gS q_451 q_452 q_67 q_453) rfl rfl rfl (by decide +kernel) ⟨Nat.le_of_ble_eq_true rfl, Nat.le_of_ble_eq_true rfl⟩) (preS_of hK hP hD [] rfl rfl (by decide)) rfl rfl hl.1 rfl (lv_room (Nat.le_of_ble_eq_true rfl)) dX7_splits_3 ⟨Nat.zero_le _, Nat.zero_le _⟩) hP hD hS hA [] [.inr 0, .inr 1, .inr 2, .inr 3, .inr 4, .inr 5, .inr 6, .inr 7, .inr 8, .inr 9, .inr 10, .inr 11, .inr 12, .inr 13, .inr 14, .inr 15, .inr 16, .inr 17, .inr 18, .inr 19, .inr 20, .inr 21, .inr 22, .inr 23, .inr 24, .inr 25, .inr 26, .inr 27, .inr 28, .inr 29, .inr 30, .inr 31, .inr 32, .inr 33, .inr 34, .inr 35, .inr 36, .inr 37, .inr 38, .inr 39, .inr 40, .inr 41, .inr 42, .inr 43, .inr 44, .inr 45, .inr 46, .inr 47, .inr 48, .inr 49, .inr 50, .inr 51, .inr 52, .inr 53] rfl (by decide) (fun _ => rfl) (fun _ => rfl) (fun r2 u1 H locs h hP hD hS => ?_)
  refine lv_if_ne (tgt := 11) hx hb dX7_splits_6 (by decide) (fun c3 => ?_) (fun c3 => ?_)
  · have h := h.1 c3
    refine lv_iconst (v := 0) hx hb dX7_splits_11 (by decide) ?_
    refine lv_istore_n (lv' := [(2, .int 0), (0, .ref (a 0)), (1, .int p0)]) hx hb dX7_splits_12 rfl hl (by decide) rfl (fun ls hl => ?_)
    refine lv_iconst (v := 0) hx hb dX7_splits_13 (by decide) ?_
    refine lv_istore_n (lv' := [(3, .int 0), (2, .int 0), (0, .ref (a 0)), (1, .int p0)]) hx hb dX7_splits_14 rfl hl (by decide) rfl (fun ls hl => ?_)
    exact L15 2000 p0 0 0 S _ _ _ hP hD hS (lv_sub hl [2, 3, 1, 0] rfl) h
  · have h := h.2 c3
    refine lv_iconst (v := -1) hx hb dX7_splits_9 (by decide) ?_
    exact W.iret (v := (-1)) hx hb hr (fun t ht hW => ⟨⟨(-1), S, rfl, h, by rw [ht]; exact hP, va_K.moved hW.alike hK, hD⟩, hS.F ht⟩) hS.2.2 dX7_splits_10
/-! X7_escalates -/
abbrev rmX7_escalates : Room := { frames := 2, cells := 0, slots := 0, locals := 46 }
set_option maxHeartbeats 4000000 in
set_option maxRecDepth 100000 in
theorem c_X7_escalates (l : Launch) (D : va_G) (cI cZ : ClassId) (a : Nat → Nat) (sz : Nat) (S : (Nat → Int32) × (Nat → Int32) × Ob × Ob × Ob × Ob × (Nat → Int32) × Ob × Ob × Ob × Ob × Ob) (p0 : Int32) (Q : Int32 → ((Nat → Int32) × (Nat → Int32) × Ob × Ob × Ob × Ob × (Nat → Int32) × Ob × Ob × Ob × Ob × Ob) → Prop) (h : wp_X7_escalates S p0 Q) : Met l yX7_escalates (wsm yX7_escalates cX7_escalates 3 (some .int)) rmX7_escalates (va_Pc [.ref (a 0), .int p0] (preW D cI cZ sz (wX7 cI cZ a S))) (va_Qi Q (fun u => atW D cI cZ (va_A (wX7 cI cZ a S) sz) (wX7 cI cZ a u)) (va_A (wX7 cI cZ a S) sz)) 0 0 (va_A (wX7 cI cZ a S) sz) := by
  refine Met.ofW (cc := cX7_escalates) (maxL := 3) (ret := (some .int)) (by decide) rfl ?_
  intro p e s m args below meth c s₁ B hml hv
  obtain ⟨rfl, hsz, hP, hK, hD0⟩ := hv
  have hx := B.exec
  have hb := B.bytes
  have hr := B.returns
  have hts0 := atoms_spec (ws := wsm yX7_escalates cX7_escalates 3 (some .int)) B.pre
  have hts : ∀ w ∈ lw_all, w.before _ s = true := fun w h => hts0 w (List.mem_cons_of_mem _ h)
  have hown : s.vm.findClass RX7 = some m.cls := findClass_of_methodNamed B.named
  have hlocks := B.notSynchronized
  subst hsz
  have hD := hD0.self (sz := s.heap.size)
  generalize hAe : va_A (wX7 cI cZ a S) s.heap.size = A at hD ⊢
  have hA : ∀ q : Nat, s.heap.size ≤ q → A q := fun q h => by rw [← hAe]; exact Or.inr h
  have hS : va_S A s.heap s.heap [] := va_S.rf
  have hml2 := hml
  have hl := lv_entry ([.ref (a 0), .int p0]) (n := 3) (Nat.le_of_ble_eq_true rfl)
  rw [lg_entry_eq]
  generalize (lg_sl ([.ref (a 0), .int p0]) ++ List.replicate (3 - (lg_sl ([.ref (a 0), .int p0])).length) Slot.unset).toArray = ls at hl ⊢
  have hl : lv_has ls 3 [(0, .ref (a 0)), (1, .int p0)] := hl
  unfold wp_X7_escalates at h
  refine lv_iload_n hx hb dX7_escalates_0 rfl (lv_at hl 1 rfl) ?_
  refine lv_bipush (v := 18) hx hb dX7_escalates_1 (by decide) ?_
  refine lv_icmp_eq (tgt := 14) hx hb dX7_escalates_3 (by decide) (fun c1 => ?_) (fun c1 => ?_)
  · have h := h.1 c1
    refine lv_aload_n hx hb dX7_escalates_14 rfl (lv_at hl 0 rfl) ?_
    refine va_get (D := D) (ci := 6) (v := .ref (a 2)) (C := RX7) (T := TX7) (N := 4) hx hb hts inX7 hown hK hP 0 rfl rfl 1 (by decide) (hts _ q_424) (fun _ h9 => h9) rfl dX7_escalates_15 ?_
    refine va_get (D := D) (ci := 3) (v := .int (S.2.1 5)) (C := RX3) (T := TX3) (N := 12) hx hb hts inX3 hown hK hP 2 rfl rfl 5 (by decide) (hts _ q_359) (fun _ h9 => h9) rfl dX7_escalates_18 ?_
    refine lv_iconst (v := 5) hx hb dX7_escalates_21 (by decide) ?_
    refine lv_icmp_ne (tgt := 29) hx hb dX7_escalates_22 (by decide) (fun c2 => ?_) (fun c2 => ?_)
    · have h := h.1 c2
      refine lv_aload_n hx hb dX7_escalates_29 rfl (lv_at hl 0 rfl) ?_
      refine va_get (D := D) (ci := 6) (v := .ref (a 2)) (C := RX7) (T := TX7) (N := 4) hx hb hts inX7 hown hK hP 0 rfl rfl 1 (by decide) (hts _ q_424) (fun _ h9 => h9) rfl dX7_escalates_30 ?_
      refine va_get (D := D) (ci := 3) (v := .ref (a 3)) (C := RX3) (T := TX3) (N := 12) hx hb hts inX3 hown hK hP 2 rfl rfl 0 (by decide) (hts _ q_349) (fun _ h9 => h9) rfl dX7_escalates_33 ?_
      refine lv_iload_n hx hb dX7_escalates_36 rfl (lv_at hl 1 rfl) ?_
      refine cl_i (ws' := fun u3 => (wX7 cI cZ a (S.1, S.2.1, u3, S.2.2.2.1, S.2.2.2.2.1, S.2.2.2.2.2.1, S.2.2.2.2.2.2.1, S.2.2.2.2.2.2.2.1, S.2.2.2.2.2.2.2.2.1, S.2.2.2.2.2.2.2.2.2.1, S.2.2.2.2.2.2.2.2.2.2.1, S.2.2.2.2.2.2.2.2.2.2.2))) (va_runV (As := [.int p0]) (rest := []) ⟨hx, hb, hml, hown, hts⟩ (c_X5_takerOf l D cI cZ (fun k => a (k + 3)) _ S.2.2.1 p0 _ h ) (cwV 1 hts (gV q_840 q_615 q_616 q_69 q_617) rfl rfl rfl (by decide +kernel) ⟨Nat.le_of_ble_eq_true rfl, Nat.le_of_ble_eq_true rfl⟩) (preV_of (ci := 4) (q := (RX5, TX5, 16)) hK hP hD [3, 4, 5, 6, 7, 8, 9, 10, 11, 12, 13] rfl rfl (by decide) 3 rfl rfl) rfl rfl hl.1 rfl (lv_room (Nat.le_of_ble_eq_true rfl)) dX7_escalates_37 ⟨Nat.zero_le _, Nat.zero_le _⟩) hP hD hS hA [3, 4, 5, 6, 7, 8, 9, 10, 11, 12, 13] [.inr 0, .inr 1, .inr 2, .inl 0, .inl 1, .inl 2, .inl 3, .inl 4, .inl 5, .inl 6, .inl 7, .inl 8, .inl 9, .inl 10, .inr 14, .inr 15, .inr 16, .inr 17, .inr 18, .inr 19, .inr 20, .inr 21, .inr 22, .inr 23, .inr 24, .inr 25, .inr 26, .inr 27, .inr 28, .inr 29, .inr 30, .inr 31, .inr 32, .inr 33, .inr 34, .inr 35, .inr 36, .inr 37, .inr 38, .inr 39, .inr 40, .inr 41, .inr 42, .inr 43, .inr 44, .inr 45, .inr 46, .inr 47, .inr 48, .inr 49, .inr 50, .inr 51, .inr 52, .inr 53] rfl (by decide) (fun _ => rfl) (fun _ => rfl) (fun r4 u3 H locs h hP hD hS => ?_)
      refine lv_istore_n (lv' := [(2, .int r4), (0, .ref (a 0)), (1, .int p0)]) hx hb dX7_escalates_40 rfl hl (by decide) rfl (fun ls hl => ?_)
      refine lv_iload_n hx hb dX7_escalates_41 rfl (lv_at hl 0 rfl) ?_
      refine lv_iconst (v := -1) hx hb dX7_escalates_42 (by decide) ?_
      refine lv_icmp_ne (tgt := 51) hx hb dX7_escalates_43 (by decide) (fun c5 => ?_) (fun c5 => ?_)
      · have h := h.1 c5
        refine lv_iload_n hx hb dX7_escalates_51 rfl (lv_at hl 0 rfl) ?_
        exact W.iret (v := r4) hx hb hr (fun t ht hW => ⟨⟨r4, (S.1, S.2.1, u3, S.2.2.2.1, S.2.2.2.2.1, S.2.2.2.2.2.1, S.2.2.2.2.2.2.1, S.2.2.2.2.2.2.2.1, S.2.2.2.2.2.2.2.2.1, S.2.2.2.2.2.2.2.2.2.1, S.2.2.2.2.2.2.2.2.2.2.1, S.2.2.2.2.2.2.2.2.2.2.2), rfl, h, by rw [ht]; exact hP, va_K.moved hW.alike hK, hD⟩, hS.F ht⟩) hS.2.2 dX7_escalates_52
      · have h := h.2 c5
        refine lv_bipush (v := -2) hx hb dX7_escalates_46 (by decide) ?_
        refine lv_goto (tgt := 52) hx hb dX7_escalates_48 (by decide) ?_
        exact W.iret (v := (-2)) hx hb hr (fun t ht hW => ⟨⟨(-2), (S.1, S.2.1, u3, S.2.2.2.1, S.2.2.2.2.1, S.2.2.2.2.2.1, S.2.2.2.2.2.2.1, S.2.2.2.2.2.2.2.1, S.2.2.2.2.2.2.2.2.1, S.2.2.2.2.2.2.2.2.2.1, S.2.2.2.2.2.2.2.2.2.2.1, S.2.2.2.2.2.2.2.2.2.2.2), rfl, h, by rw [ht]; exact hP, va_K.moved hW.alike hK, hD⟩, hS.F ht⟩) hS.2.2 dX7_escalates_52
    · have h := h.2 c2
      refine lv_iconst (v := -1) hx hb dX7_escalates_25 (by decide) ?_
      refine lv_goto (tgt := 40) hx hb dX7_escalates_26 (by decide) ?_
      refine lv_istore_n (lv' := [(2, .int (-1)), (0, .ref (a 0)), (1, .int p0)]) hx hb dX7_escalates_40 rfl hl (by decide) rfl (fun ls hl => ?_)
      refine lv_iload_n hx hb dX7_escalates_41 rfl (lv_at hl 0 rfl) ?_
      refine lv_iconst (v := -1) hx hb dX7_escalates_42 (by decide) ?_
      refine lv_icmp_ne (tgt := 51) hx hb dX7_escalates_43 (by decide) (fun c6 => ?_) (fun c6 => ?_)
      · have h := h.1 c6
        refine lv_iload_n hx hb dX7_escalates_51 rfl (lv_at hl 0 rfl) ?_
        exact W.iret (v := (-1)) hx hb hr (fun t ht hW => ⟨⟨(-1), S, rfl, h, by rw [ht]; exact hP, va_K.moved hW.alike hK, hD⟩, hS.F ht⟩) hS.2.2 dX7_escalates_52
      · have h := h.2 c6
        refine lv_bipush (v := -2) hx hb dX7_escalates_46 (by decide) ?_
        refine lv_goto (tgt := 52) hx hb dX7_escalates_48 (by decide) ?_
        exact W.iret (v := (-2)) hx hb hr (fun t ht hW => ⟨⟨(-2), S, rfl, h, by rw [ht]; exact hP, va_K.moved hW.alike hK, hD⟩, hS.F ht⟩) hS.2.2 dX7_escalates_52
  · have h := h.2 c1
    refine lv_iload_n hx hb dX7_escalates_6 rfl (lv_at hl 1 rfl) ?_
    refine lv_bipush (v := 19) hx hb dX7_escalates_7 (by decide) ?_
    refine lv_icmp_eq (tgt := 14) hx hb dX7_escalates_9 (by decide) (fun c7 => ?_) (fun c7 => ?_)
    · have h := h.1 c7
      refine lv_aload_n hx hb dX7_escalates_14 rfl (lv_at hl 0 rfl) ?_
      refine va_get (D := D) (ci := 6) (v := .ref (a 2)) (C := RX7) (T := TX7) (N := 4) hx hb hts inX7 hown hK hP 0 rfl rfl 1 (by decide) (hts _ q_424) (fun _ h9 => h9) rfl dX7_escalates_15 ?_
      refine va_get (D := D) (ci := 3) (v := .int (S.2.1 5)) (C := RX3) (T := TX3) (N := 12) hx hb hts inX3 hown hK hP 2 rfl rfl 5 (by decide) (hts _ q_359) (fun _ h9 => h9) rfl dX7_escalates_18 ?_
      refine lv_iconst (v := 5) hx hb dX7_escalates_21 (by decide) ?_
      refine lv_icmp_ne (tgt := 29) hx hb dX7_escalates_22 (by decide) (fun c8 => ?_) (fun c8 => ?_)
      · have h := h.1 c8
        refine lv_aload_n hx hb dX7_escalates_29 rfl (lv_at hl 0 rfl) ?_
        refine va_get (D := D) (ci := 6) (v := .ref (a 2)) (C := RX7) (T := TX7) (N := 4) hx hb hts inX7 hown hK hP 0 rfl rfl 1 (by decide) (hts _ q_424) (fun _ h9 => h9) rfl dX7_escalates_30 ?_
        refine va_get (D := D) (ci := 3) (v := .ref (a 3)) (C := RX3) (T := TX3) (N := 12) hx hb hts inX3 hown hK hP 2 rfl rfl 0 (by decide) (hts _ q_349) (fun _ h9 => h9) rfl dX7_escalates_33 ?_
        refine lv_iload_n hx hb dX7_escalates_36 rfl (lv_at hl 1 rfl) ?_
        refine cl_i (ws' := fun u9 => (wX7 cI cZ a (S.1, S.2.1, u9, S.2.2.2.1, S.2.2.2.2.1, S.2.2.2.2.2.1, S.2.2.2.2.2.2.1, S.2.2.2.2.2.2.2.1, S.2.2.2.2.2.2.2.2.1, S.2.2.2.2.2.2.2.2.2.1, S.2.2.2.2.2.2.2.2.2.2.1, S.2.2.2.2.2.2.2.2.2.2.2))) (va_runV (As := [.int p0]) (rest := []) ⟨hx, hb, hml, hown, hts⟩ (c_X5_takerOf l D cI cZ (fun k => a (k + 3)) _ S.2.2.1 p0 _ h ) (cwV 1 hts (gV q_840 q_615 q_616 q_69 q_617) rfl rfl rfl (by decide +kernel) ⟨Nat.le_of_ble_eq_true rfl, Nat.le_of_ble_eq_true rfl⟩) (preV_of (ci := 4) (q := (RX5, TX5, 16)) hK hP hD [3, 4, 5, 6, 7, 8, 9, 10, 11, 12, 13] rfl rfl (by decide) 3 rfl rfl) rfl rfl hl.1 rfl (lv_room (Nat.le_of_ble_eq_true rfl)) dX7_escalates_37 ⟨Nat.zero_le _, Nat.zero_le _⟩) hP hD hS hA [3, 4, 5, 6, 7, 8, 9, 10, 11, 12, 13] [.inr 0, .inr 1, .inr 2, .inl 0, .inl 1, .inl 2, .inl 3, .inl 4, .inl 5, .inl 6, .inl 7, .inl 8, .inl 9, .inl 10, .inr 14, .inr 15, .inr 16, .inr 17, .inr 18, .inr 19, .inr 20, .inr 21, .inr 22, .inr 23, .inr 24, .inr 25, .inr 26, .inr 27, .inr 28, .inr 29, .inr 30, .inr 31, .inr 32, .inr 33, .inr 34, .inr 35, .inr 36, .inr 37, .inr 38, .inr 39, .inr 40, .inr 41, .inr 42, .inr 43, .inr 44, .inr 45, .inr 46, .inr 47, .inr 48, .inr 49, .inr 50, .inr 51, .inr 52, .inr 53] rfl (by decide) (fun _ => rfl) (fun _ => rfl) (fun r10 u9 H locs h hP hD hS => ?_)
        refine lv_istore_n (lv' := [(2, .int r10), (0, .ref (a 0)), (1, .int p0)]) hx hb dX7_escalates_40 rfl hl (by decide) rfl (fun ls hl => ?_)
        refine lv_iload_n hx hb dX7_escalates_41 rfl (lv_at hl 0 rfl) ?_
        refine lv_iconst (v := -1) hx hb dX7_escalates_42 (by decide) ?_
        refine lv_icmp_ne (tgt := 51) hx hb dX7_escalates_43 (by decide) (fun c11 => ?_) (fun c11 => ?_)
        · have h := h.1 c11
          refine lv_iload_n hx hb dX7_escalates_51 rfl (lv_at hl 0 rfl) ?_
          exact W.iret (v := r10) hx hb hr (fun t ht hW => ⟨⟨r10, (S.1, S.2.1, u9, S.2.2.2.1, S.2.2.2.2.1, S.2.2.2.2.2.1, S.2.2.2.2.2.2.1, S.2.2.2.2.2.2.2.1, S.2.2.2.2.2.2.2.2.1, S.2.2.2.2.2.2.2.2.2.1, S.2.2.2.2.2.2.2.2.2.2.1, S.2.2.2.2.2.2.2.2.2.2.2), rfl, h, by rw [ht]; exact hP, va_K.moved hW.alike hK, hD⟩, hS.F ht⟩) hS.2.2 dX7_escalates_52
        · have h := h.2 c11
          refine lv_bipush (v := -2) hx hb dX7_escalates_46 (by decide) ?_
          refine lv_goto (tgt := 52) hx hb dX7_escalates_48 (by decide) ?_
          exact W.iret (v := (-2)) hx hb hr (fun t ht hW => ⟨⟨(-2), (S.1, S.2.1, u9, S.2.2.2.1, S.2.2.2.2.1, S.2.2.2.2.2.1, S.2.2.2.2.2.2.1, S.2.2.2.2.2.2.2.1, S.2.2.2.2.2.2.2.2.1, S.2.2.2.2.2.2.2.2.2.1, S.2.2.2.2.2.2.2.2.2.2.1, S.2.2.2.2.2.2.2.2.2.2.2), rfl, h, by rw [ht]; exact hP, va_K.moved hW.alike hK, hD⟩, hS.F ht⟩) hS.2.2 dX7_escalates_52
      · have h := h.2 c8
        refine lv_iconst (v := -1) hx hb dX7_escalates_25 (by decide) ?_
        refine lv_goto (tgt := 40) hx hb dX7_escalates_26 (by decide) ?_
        refine lv_istore_n (lv' := [(2, .int (-1)), (0, .ref (a 0)), (1, .int p0)]) hx hb dX7_escalates_40 rfl hl (by decide) rfl (fun ls hl => ?_)
        refine lv_iload_n hx hb dX7_escalates_41 rfl (lv_at hl 0 rfl) ?_
        refine lv_iconst (v := -1) hx hb dX7_escalates_42 (by decide) ?_
        refine lv_icmp_ne (tgt := 51) hx hb dX7_escalates_43 (by decide) (fun c12 => ?_) (fun c12 => ?_)
        · have h := h.1 c12
          refine lv_iload_n hx hb dX7_escalates_51 rfl (lv_at hl 0 rfl) ?_
          exact W.iret (v := (-1)) hx hb hr (fun t ht hW => ⟨⟨(-1), S, rfl, h, by rw [ht]; exact hP, va_K.moved hW.alike hK, hD⟩, hS.F ht⟩) hS.2.2 dX7_escalates_52
        · have h := h.2 c12
          refine lv_bipush (v := -2) hx hb dX7_escalates_46 (by decide) ?_
          refine lv_goto (tgt := 52) hx hb dX7_escalates_48 (by decide) ?_
          exact W.iret (v := (-2)) hx hb hr (fun t ht hW => ⟨⟨(-2), S, rfl, h, by rw [ht]; exact hP, va_K.moved hW.alike hK, hD⟩, hS.F ht⟩) hS.2.2 dX7_escalates_52
    · have h := h.2 c7
      refine lv_iconst (v := -1) hx hb dX7_escalates_12 (by decide) ?_
      exact W.iret (v := (-1)) hx hb hr (fun t ht hW => ⟨⟨(-1), S, rfl, h, by rw [ht]; exact hP, va_K.moved hW.alike hK, hD⟩, hS.F ht⟩) hS.2.2 dX7_escalates_13
/-! X7_soon -/
abbrev rmX7_soon : Room := { frames := 7, cells := 0, slots := 0, locals := 166 }
set_option maxHeartbeats 4000000 in
set_option maxRecDepth 100000 in
theorem c_X7_soon (l : Launch) (D : va_G) (cI cZ : ClassId) (a : Nat → Nat) (sz : Nat) (S : (Nat → Int32) × (Nat → Int32) × Ob × Ob × Ob × Ob × (Nat → Int32) × Ob × Ob × Ob × Ob × Ob) (p0 : Int32) (Q : Int32 → ((Nat → Int32) × (Nat → Int32) × Ob × Ob × Ob × Ob × (Nat → Int32) × Ob × Ob × Ob × Ob × Ob) → Prop) (h : wp_X7_soon S p0 Q) : Met l yX7_soon (wsm yX7_soon cX7_soon 2 (some .int)) rmX7_soon (va_Pc [.ref (a 0), .int p0] (preT D cI cZ sz (wX7 cI cZ a S))) (va_Qi Q (fun u => atW D cI cZ (va_A (wX7 cI cZ a S) sz) (wX7 cI cZ a u)) (va_A (wX7 cI cZ a S) sz)) 0 0 (va_A (wX7 cI cZ a S) sz) := by
  refine Met.ofW (cc := cX7_soon) (maxL := 2) (ret := (some .int)) (by decide) rfl ?_
  intro p e s m args below meth c s₁ B hml hv
  obtain ⟨rfl, ⟨hsz, hP, hK, hD0⟩, hF⟩ := hv
  have hx := B.exec
  have hb := B.bytes
  have hr := B.returns
  have hts0 := atoms_spec (ws := wsm yX7_soon cX7_soon 2 (some .int)) B.pre
  have hts : ∀ w ∈ lw_all, w.before _ s = true := fun w h => hts0 w (List.mem_cons_of_mem _ h)
  have hown : s.vm.findClass RX7 = some m.cls := findClass_of_methodNamed B.named
  have hlocks := B.notSynchronized
  subst hsz
  have hD := hD0.self (sz := s.heap.size)
  generalize hAe : va_A (wX7 cI cZ a S) s.heap.size = A at hD hF ⊢
  have hA : ∀ q : Nat, s.heap.size ≤ q → A q := fun q h => by rw [← hAe]; exact Or.inr h
  have hS : va_S A s.heap s.heap [] := va_S.rf
  have hml2 := hml
  have hl := lv_entry ([.ref (a 0), .int p0]) (n := 2) (Nat.le_of_ble_eq_true rfl)
  rw [lg_entry_eq]
  generalize (lg_sl ([.ref (a 0), .int p0]) ++ List.replicate (2 - (lg_sl ([.ref (a 0), .int p0])).length) Slot.unset).toArray = ls at hl ⊢
  have hl : lv_has ls 2 [(0, .ref (a 0)), (1, .int p0)] := hl
  unfold wp_X7_soon at h
  refine lv_iload_n hx hb dX7_soon_0 rfl (lv_at hl 1 rfl) ?_
  refine lv_bipush (v := 21) hx hb dX7_soon_1 (by decide) ?_
  refine cl_i (ws' := fun u1 => (wX7 cI cZ a S)) (va_runS (As := [.int p0, .int 21]) (rest := []) ⟨hx, hb, hml, hown, hts⟩ (c_X7_isBelow l D cI cZ _ () p0 21 _ h ) (va_cwS 2 hts (gS q_451 q_452 q_67 q_453) rfl rfl rfl (by decide +kernel) ⟨Nat.le_of_ble_eq_true rfl, Nat.le_of_ble_eq_true rfl⟩) (preS_of hK hP hD [] rfl rfl (by decide)) rfl rfl hl.1 rfl (lv_room (Nat.le_of_ble_eq_true rfl)) dX7_soon_3 ⟨Nat.zero_le _, Nat.zero_le _⟩) hP hD hS hA [] [.inr 0, .inr 1, .inr 2, .inr 3, .inr 4, .inr 5, .inr 6, .inr 7, .inr 8, .inr 9, .inr 10, .inr 11, .inr 12, .inr 13, .inr 14, .inr 15, .inr 16, .inr 17, .inr 18, .inr 19, .inr 20, .inr 21, .inr 22, .inr 23, .inr 24, .inr 25, .inr 26, .inr 27, .inr 28, .inr 29, .inr 30, .inr 31, .inr 32, .inr 33, .inr 34, .inr 35, .inr 36, .inr 37, .inr 38, .inr 39, .inr 40, .inr 41, .inr 42, .inr 43, .inr 44, .inr 45, .inr 46, .inr 47, .inr 48, .inr 49, .inr 50, .inr 51, .inr 52, .inr 53] rfl (by decide) (fun _ => rfl) (fun _ => rfl) (fun r2 u1 H locs h hP hD hS => ?_)
  refine lv_if_ne (tgt := 11) hx hb dX7_soon_6 (by decide) (fun c3 => ?_) (fun c3 => ?_)
  · have h := h.1 c3
    refine lv_aload_n hx hb dX7_soon_11 rfl (lv_at hl 0 rfl) ?_
    refine va_get (D := D) (ci := 6) (v := .ref (a 25)) (C := RX7) (T := TX7) (N := 4) hx hb hts inX7 hown hK hP 0 rfl rfl 2 (by decide) (hts _ q_425) (fun _ h9 => h9) rfl dX7_soon_12 ?_
    refine lv_aload_n hx hb dX7_soon_15 rfl (lv_at hl 0 rfl) ?_
    refine va_get (D := D) (ci := 6) (v := .ref (a 2)) (C := RX7) (T := TX7) (N := 4) hx hb hts inX7 hown hK hP 0 rfl rfl 1 (by decide) (hts _ q_424) (fun _ h9 => h9) rfl dX7_soon_16 ?_
    refine lv_iconst (v := 0) hx hb dX7_soon_19 (by decide) ?_
    refine cl_v (ws' := fun u4 => (wX7 cI cZ a (S.1, u4.2.2.2.2.2.1, u4.2.2.2.2.2.2.1, u4.2.2.2.2.2.2.2.1, u4.2.2.2.2.2.2.2.2.1, u4.2.2.2.2.2.2.2.2.2, u4.1, u4.2.1, u4.2.2.1, u4.2.2.2.1, u4.2.2.2.2.1, S.2.2.2.2.2.2.2.2.2.2.2))) (va_runV (As := [.ref (a 2), .int 0]) (rest := []) ⟨hx, hb, hml, hown, hts⟩ (c_X3_copyFrom l D cI cZ (fun k => if k = 23 then a 1 else a (k + 25)) (fun k => if k = 23 then a 1 else a (k + 2)) _ (S.2.2.2.2.2.2.1, S.2.2.2.2.2.2.2.1, S.2.2.2.2.2.2.2.2.1, S.2.2.2.2.2.2.2.2.2.1, S.2.2.2.2.2.2.2.2.2.2.1, S.2.1, S.2.2.1, S.2.2.2.1, S.2.2.2.2.1, S.2.2.2.2.2.1) 0 _ h ) (cwV 2 hts (gV q_845 q_846 q_847 q_68 q_848) rfl rfl rfl (by decide +kernel) ⟨Nat.le_of_ble_eq_true rfl, Nat.le_of_ble_eq_true rfl⟩) (preV_of (ci := 3) (q := (RX3, TX3, 12)) hK hP hD [25, 26, 27, 28, 29, 30, 31, 32, 33, 34, 35, 36, 37, 38, 39, 40, 41, 42, 43, 44, 45, 46, 47, 2, 3, 4, 5, 6, 7, 8, 9, 10, 11, 12, 13, 14, 15, 16, 17, 18, 19, 20, 21, 22, 23, 24] rfl rfl (by decide) 25 rfl rfl) rfl rfl hl.1 rfl (lv_room (Nat.le_of_ble_eq_true rfl)) dX7_soon_20 ⟨Nat.zero_le _, Nat.zero_le _⟩) hP hD hS hA [25, 26, 27, 28, 29, 30, 31, 32, 33, 34, 35, 36, 37, 38, 39, 40, 41, 42, 43, 44, 45, 46, 47, 2, 3, 4, 5, 6, 7, 8, 9, 10, 11, 12, 13, 14, 15, 16, 17, 18, 19, 20, 21, 22, 23, 24] [.inr 0, .inr 1, .inl 23, .inl 24, .inl 25, .inl 26, .inl 27, .inl 28, .inl 29, .inl 30, .inl 31, .inl 32, .inl 33, .inl 34, .inl 35, .inl 36, .inl 37, .inl 38, .inl 39, .inl 40, .inl 41, .inl 42, .inl 43, .inl 44, .inl 45, .inl 0, .inl 1, .inl 2, .inl 3, .inl 4, .inl 5, .inl 6, .inl 7, .inl 8, .inl 9, .inl 10, .inl 11, .inl 12, .inl 13, .inl 14, .inl 15, .inl 16, .inl 17, .inl 18, .inl 19, .inl 20, .inl 21, .inl 22, .inr 48, .inr 49, .inr 50, .inr 51, .inr 52, .inr 53] rfl (by decide) (fun _ => rfl) (fun _ => rfl) (fun u4 H locs h hP hD hS => ?_)
    refine lv_aload_n hx hb dX7_soon_23 rfl (lv_at hl 0 rfl) ?_
    refine va_get (D := D) (ci := 6) (v := .ref (a 25)) (C := RX7) (T := TX7) (N := 4) hx hb hts inX7 hown hK hP 0 rfl rfl 2 (by decide) (hts _ q_425) (fun _ h9 => h9) rfl dX7_soon_24 ?_
    refine lv_iload_n hx hb dX7_soon_27 rfl (lv_at hl 1 rfl) ?_
    refine cl_i (ws' := fun u5 => (wX7 cI cZ a (u5.2.2.2.2.2, u4.2.2.2.2.2.1, u4.2.2.2.2.2.2.1, u4.2.2.2.2.2.2.2.1, u4.2.2.2.2.2.2.2.2.1, u4.2.2.2.2.2.2.2.2.2, u5.1, u5.2.1, u5.2.2.1, u5.2.2.2.1, u5.2.2.2.2.1, S.2.2.2.2.2.2.2.2.2.2.2))) (va_runV (As := [.int p0]) (rest := []) ⟨hx, hb, hml, hown, hts⟩ (c_X3_cyclesTill l D cI cZ (fun k => if k = 23 then a 1 else a (k + 25)) _ (u4.1, u4.2.1, u4.2.2.1, u4.2.2.2.1, u4.2.2.2.2.1, S.1) p0 _ h ) (cwV 1 hts (gV q_763 q_764 q_765 q_68 q_766) rfl rfl rfl (by decide +kernel) ⟨Nat.le_of_ble_eq_true rfl, Nat.le_of_ble_eq_true rfl⟩) (preTV_of (ci := 3) (q := (RX3, TX3, 12)) hF hS hA hK hP hD [25, 26, 27, 28, 29, 30, 31, 32, 33, 34, 35, 36, 37, 38, 39, 40, 41, 42, 43, 44, 45, 46, 47, 1] rfl rfl (by decide) 25 rfl rfl) rfl rfl hl.1 rfl (lv_room (Nat.le_of_ble_eq_true rfl)) dX7_soon_28 ⟨Nat.zero_le _, Nat.zero_le _⟩) hP hD hS hA [25, 26, 27, 28, 29, 30, 31, 32, 33, 34, 35, 36, 37, 38, 39, 40, 41, 42, 43, 44, 45, 46, 47, 1] [.inr 0, .inl 23, .inr 2, .inr 3, .inr 4, .inr 5, .inr 6, .inr 7, .inr 8, .inr 9, .inr 10, .inr 11, .inr 12, .inr 13, .inr 14, .inr 15, .inr 16, .inr 17, .inr 18, .inr 19, .inr 20, .inr 21, .inr 22, .inr 23, .inr 24, .inl 0, .inl 1, .inl 2, .inl 3, .inl 4, .inl 5, .inl 6, .inl 7, .inl 8, .inl 9, .inl 10, .inl 11, .inl 12, .inl 13, .inl 14, .inl 15, .inl 16, .inl 17, .inl 18, .inl 19, .inl 20, .inl 21, .inl 22, .inr 48, .inr 49, .inr 50, .inr 51, .inr 52, .inr 53] rfl (by decide) (fun _ => rfl) (fun _ => rfl) (fun r6 u5 H locs h hP hD hS => ?_)
    exact W.iret (v := r6) hx hb hr (fun t ht hW => ⟨⟨r6, (u5.2.2.2.2.2, u4.2.2.2.2.2.1, u4.2.2.2.2.2.2.1, u4.2.2.2.2.2.2.2.1, u4.2.2.2.2.2.2.2.2.1, u4.2.2.2.2.2.2.2.2.2, u5.1, u5.2.1, u5.2.2.1, u5.2.2.2.1, u5.2.2.2.2.1, S.2.2.2.2.2.2.2.2.2.2.2), rfl, h, by rw [ht]; exact hP, va_K.moved hW.alike hK, hD⟩, hS.F ht⟩) hS.2.2 dX7_soon_31
  · have h := h.2 c3
    refine lv_iconst (v := -1) hx hb dX7_soon_9 (by decide) ?_
    exact W.iret (v := (-1)) hx hb hr (fun t ht hW => ⟨⟨(-1), S, rfl, h, by rw [ht]; exact hP, va_K.moved hW.alike hK, hD⟩, hS.F ht⟩) hS.2.2 dX7_soon_10
/-! X7_order -/
abbrev rmX7_order : Room := { frames := 6, cells := 0, slots := 0, locals := 144 }
set_option maxHeartbeats 4000000 in
set_option maxRecDepth 100000 in
theorem c_X7_order (l : Launch) (D : va_G) (cI cZ : ClassId) (a : Nat → Nat) (sz : Nat) (S : (Nat → Int32) × (Nat → Int32) × Ob × Ob × Ob × Ob × (Nat → Int32) × Ob × Ob × Ob × Ob × Ob) (p0 : Int32) (p1 : Int32) (Q : Int32 → ((Nat → Int32) × (Nat → Int32) × Ob × Ob × Ob × Ob × (Nat → Int32) × Ob × Ob × Ob × Ob × Ob) → Prop) (h : wp_X7_order S p0 p1 Q) : Met l yX7_order (wsm yX7_order cX7_order 5 (some .int)) rmX7_order (va_Pc [.ref (a 0), .int p0, .int p1] (preT D cI cZ sz (wX7 cI cZ a S))) (va_Qi Q (fun u => atW D cI cZ (va_A (wX7 cI cZ a S) sz) (wX7 cI cZ a u)) (va_A (wX7 cI cZ a S) sz)) 0 0 (va_A (wX7 cI cZ a S) sz) := by
  refine Met.ofW (cc := cX7_order) (maxL := 5) (ret := (some .int)) (by decide) rfl ?_
  intro p e s m args below meth c s₁ B hml hv
  obtain ⟨rfl, ⟨hsz, hP, hK, hD0⟩, hF⟩ := hv
  have hx := B.exec
  have hb := B.bytes
  have hr := B.returns
  have hts0 := atoms_spec (ws := wsm yX7_order cX7_order 5 (some .int)) B.pre
  have hts : ∀ w ∈ lw_all, w.before _ s = true := fun w h => hts0 w (List.mem_cons_of_mem _ h)
  have hown : s.vm.findClass RX7 = some m.cls := findClass_of_methodNamed B.named
  have hlocks := B.notSynchronized
  subst hsz
  have hD := hD0.self (sz := s.heap.size)
  generalize hAe : va_A (wX7 cI cZ a S) s.heap.size = A at hD hF ⊢
  have hA : ∀ q : Nat, s.heap.size ≤ q → A q := fun q h => by rw [← hAe]; exact Or.inr h
  have hS : va_S A s.heap s.heap [] := va_S.rf
  have hml2 := hml
  have L23 : ∀ (n : Nat), ∀ (y1 : Int32) (y3 : Int32) (y4 : Int32) (T : (Nat → Int32) × (Nat → Int32) × Ob × Ob × Ob × Ob × (Nat → Int32) × Ob × Ob × Ob × Ob × Ob) (H : Heap) (locs : List Loc) (ls : Array Slot), va_P D vwCl (wX7 cI cZ a T) H → va_D A (wX7 cI cZ a T) → va_S A s.heap H locs → lv_has ls 5 [(0, .ref (a 0)), (1, .int y1), (3, .int y3), (4, .int y4)] → wp_X7_order_L23 Q n y1 y3 y4 T → W p l e rmX7_order s m ([.ref (a 0), .int p0, .int p1] : List Value).toArray below meth c H locs 0 0 (MQ below (va_Qi Q (fun u => atW D cI cZ A (wX7 cI cZ a u)) A) ([.ref (a 0), .int p0, .int p1] : List Value).toArray s 0 0 A) (F0 m 23 ls []) := by
    intro n
    induction n with
    | zero =>
      intro y1 y3 y4 T H locs ls hP hD hS hl h
      exact False.elim h
    | succ n ih =>
      intro y1 y3 y4 T H locs ls hP hD hS hl h
      unfold wp_X7_order_L23 at h
      refine lv_iload hx hb dX7_order_23 (lv_at hl 3 rfl) ?_
      refine lv_sipush (v := 300) hx hb dX7_order_25 (by decide) ?_
      refine lv_icmp_ge (tgt := 82) hx hb dX7_order_28 (by decide) (fun c3 => ?_) (fun c3 => ?_)
      · have h := h.1 c3
        refine lv_iconst (v := -1) hx hb dX7_order_82 (by decide) ?_
        exact W.iret (v := (-1)) hx hb hr (fun t ht hW => ⟨⟨(-1), T, rfl, h, by rw [ht]; exact hP, va_K.moved hW.alike hK, hD⟩, hS.F ht⟩) hS.2.2 dX7_order_83
      · have h := h.2 c3
        refine lv_aload_n hx hb dX7_order_31 rfl (lv_at hl 0 rfl) ?_
        refine va_get (D := D) (ci := 6) (v := .ref (a 25)) (C := RX7) (T := TX7) (N := 4) hx hb hts inX7 hown hK hP 0 rfl rfl 2 (by decide) (hts _ q_425) (fun _ h9 => h9) rfl dX7_order_32 ?_
        refine va_get (D := D) (ci := 3) (v := .int (T.2.2.2.2.2.2.1 5)) (C := RX3) (T := TX3) (N := 12) hx hb hts inX3 hown hK hP 25 rfl rfl 5 (by decide) (hts _ q_359) (fun _ h9 => h9) rfl dX7_order_35 ?_
        refine lv_iconst (v := 5) hx hb dX7_order_38 (by decide) ?_
        refine lv_icmp_eq (tgt := 82) hx hb dX7_order_39 (by decide) (fun c4 => ?_) (fun c4 => ?_)
        · have h := h.1 c4
          refine lv_iconst (v := -1) hx hb dX7_order_82 (by decide) ?_
          exact W.iret (v := (-1)) hx hb hr (fun t ht hW => ⟨⟨(-1), T, rfl, h, by rw [ht]; exact hP, va_K.moved hW.alike hK, hD⟩, hS.F ht⟩) hS.2.2 dX7_order_83
        · have h := h.2 c4
          refine lv_aload_n hx hb dX7_order_42 rfl (lv_at hl 0 rfl) ?_
          refine va_get (D := D) (ci := 6) (v := .ref (a 25)) (C := RX7) (T := TX7) (N := 4) hx hb hts inX7 hown hK hP 0 rfl rfl 2 (by decide) (hts _ q_425) (fun _ h9 => h9) rfl dX7_order_43 ?_
          refine cl_v (ws' := fun u5 => (wX7 cI cZ a (u5.2.2.2.2.2, T.2.1, T.2.2.1, T.2.2.2.1, T.2.2.2.2.1, T.2.2.2.2.2.1, u5.1, u5.2.1, u5.2.2.1, u5.2.2.2.1, u5.2.2.2.2.1, T.2.2.2.2.2.2.2.2.2.2.2))) (va_runV (As := []) (rest := []) ⟨hx, hb, hml, hown, hts⟩ (c_X3_cycle l D cI cZ (fun k => if k = 23 then a 1 else a (k + 25)) _ (T.2.2.2.2.2.2.1, T.2.2.2.2.2.2.2.1, T.2.2.2.2.2.2.2.2.1, T.2.2.2.2.2.2.2.2.2.1, T.2.2.2.2.2.2.2.2.2.2.1, T.1) _ h ) (cwV 0 hts (gV q_502 q_503 q_504 q_68 q_505) rfl rfl rfl (by decide +kernel) ⟨Nat.le_of_ble_eq_true rfl, Nat.le_of_ble_eq_true rfl⟩) (preTV_of (ci := 3) (q := (RX3, TX3, 12)) hF hS hA hK hP hD [25, 26, 27, 28, 29, 30, 31, 32, 33, 34, 35, 36, 37, 38, 39, 40, 41, 42, 43, 44, 45, 46, 47, 1] rfl rfl (by decide) 25 rfl rfl) rfl rfl hl.1 rfl (lv_room (Nat.le_of_ble_eq_true rfl)) dX7_order_46 ⟨Nat.zero_le _, Nat.zero_le _⟩) hP hD hS hA [25, 26, 27, 28, 29, 30, 31, 32, 33, 34, 35, 36, 37, 38, 39, 40, 41, 42, 43, 44, 45, 46, 47, 1] [.inr 0, .inl 23, .inr 2, .inr 3, .inr 4, .inr 5, .inr 6, .inr 7, .inr 8, .inr 9, .inr 10, .inr 11, .inr 12, .inr 13, .inr 14, .inr 15, .inr 16, .inr 17, .inr 18, .inr 19, .inr 20, .inr 21, .inr 22, .inr 23, .inr 24, .inl 0, .inl 1, .inl 2, .inl 3, .inl 4, .inl 5, .inl 6, .inl 7, .inl 8, .inl 9, .inl 10, .inl 11, .inl 12, .inl 13, .inl 14, .inl 15, .inl 16, .inl 17, .inl 18, .inl 19, .inl 20, .inl 21, .inl 22, .inr 48, .inr 49, .inr 50, .inr 51, .inr 52, .inr 53] rfl (by decide) (fun _ => rfl) (fun _ => rfl) (fun u5 H locs h hP hD hS => ?_)
          refine lv_aload_n hx hb dX7_order_49 rfl (lv_at hl 0 rfl) ?_
          refine va_get (D := D) (ci := 6) (v := .ref (a 25)) (C := RX7) (T := TX7) (N := 4) hx hb hts inX7 hown hK hP 0 rfl rfl 2 (by decide) (hts _ q_425) (fun _ h9 => h9) rfl dX7_order_50 ?_
          refine va_get (D := D) (ci := 3) (v := .int (u5.1 7)) (C := RX3) (T := TX3) (N := 12) hx hb hts inX3 hown hK hP 25 rfl rfl 7 (by decide) (hts _ q_363) (fun _ h9 => h9) rfl dX7_order_53 ?_
          refine lv_iconst (v := -1) hx hb dX7_order_56 (by decide) ?_
          refine lv_icmp_eq (tgt := 76) hx hb dX7_order_57 (by decide) (fun c6 => ?_) (fun c6 => ?_)
          · have h := h.1 c6
            obtain ⟨x7, ex7⟩ : ∃ y : Int32, y = (y4 + 1) := ⟨_, rfl⟩
            have h := h x7 ex7
            refine lv_iinc (v := x7) (lv' := [(4, .int x7), (0, .ref (a 0)), (1, .int y1), (3, .int y3)]) hx hb dX7_order_76 hl (k := 3) rfl (by rw [ex7]; rfl) (by decide) rfl (fun ls hl => ?_)
            refine lv_goto (tgt := 23) hx hb dX7_order_79 (by decide) ?_
            exact ih y1 y3 x7 (u5.2.2.2.2.2, T.2.1, T.2.2.1, T.2.2.2.1, T.2.2.2.2.1, T.2.2.2.2.2.1, u5.1, u5.2.1, u5.2.2.1, u5.2.2.2.1, u5.2.2.2.2.1, T.2.2.2.2.2.2.2.2.2.2.2) _ _ _ hP hD hS (lv_sub hl [1, 2, 3, 0] rfl) h
          · have h := h.2 c6
            refine lv_iload_n hx hb dX7_order_60 rfl (lv_at hl 2 rfl) ?_
            refine lv_iload_n hx hb dX7_order_61 rfl (lv_at hl 1 rfl) ?_
            refine lv_icmp_ne (tgt := 73) hx hb dX7_order_62 (by decide) (fun c8 => ?_) (fun c8 => ?_)
            · have h := h.1 c8
              obtain ⟨x9, ex9⟩ : ∃ y : Int32, y = (y3 + 1) := ⟨_, rfl⟩
              have h := h x9 ex9
              refine lv_iinc (v := x9) (lv' := [(3, .int x9), (0, .ref (a 0)), (1, .int y1), (4, .int y4)]) hx hb dX7_order_73 hl (k := 2) rfl (by rw [ex9]; rfl) (by decide) rfl (fun ls hl => ?_)
              obtain ⟨x10, ex10⟩ : ∃ y : Int32, y = (y4 + 1) := ⟨_, rfl⟩
              have h := h x10 ex10
              refine lv_iinc (v := x10) (lv' := [(4, .int x10), (3, .int x9), (0, .ref (a 0)), (1, .int y1)]) hx hb dX7_order_76 hl (k := 3) rfl (by rw [ex10]; rfl) (by decide) rfl (fun ls hl => ?_)
              refine lv_goto (tgt := 23) hx hb dX7_order_79 (by decide) ?_
              exact ih y1 x9 x10 (u5.2.2.2.2.2, T.2.1, T.2.2.1, T.2.2.2.1, T.2.2.2.2.1, T.2.2.2.2.2.1, u5.1, u5.2.1, u5.2.2.1, u5.2.2.2.1, u5.2.2.2.2.1, T.2.2.2.2.2.2.2.2.2.2.2) _ _ _ hP hD hS (lv_sub hl [2, 3, 1, 0] rfl) h
            · have h := h.2 c8
              refine lv_aload_n hx hb dX7_order_65 rfl (lv_at hl 0 rfl) ?_
              refine va_get (D := D) (ci := 6) (v := .ref (a 25)) (C := RX7) (T := TX7) (N := 4) hx hb hts inX7 hown hK hP 0 rfl rfl 2 (by decide) (hts _ q_425) (fun _ h9 => h9) rfl dX7_order_66 ?_
              refine va_get (D := D) (ci := 3) (v := .int (u5.1 7)) (C := RX3) (T := TX3) (N := 12) hx hb hts inX3 hown hK hP 25 rfl rfl 7 (by decide) (hts _ q_363) (fun _ h9 => h9) rfl dX7_order_69 ?_
              exact W.iret (v := (u5.1 7)) hx hb hr (fun t ht hW => ⟨⟨(u5.1 7), (u5.2.2.2.2.2, T.2.1, T.2.2.1, T.2.2.2.1, T.2.2.2.2.1, T.2.2.2.2.2.1, u5.1, u5.2.1, u5.2.2.1, u5.2.2.2.1, u5.2.2.2.2.1, T.2.2.2.2.2.2.2.2.2.2.2), rfl, h, by rw [ht]; exact hP, va_K.moved hW.alike hK, hD⟩, hS.F ht⟩) hS.2.2 dX7_order_72
  have hl := lv_entry ([.ref (a 0), .int p0, .int p1]) (n := 5) (Nat.le_of_ble_eq_true rfl)
  rw [lg_entry_eq]
  generalize (lg_sl ([.ref (a 0), .int p0, .int p1]) ++ List.replicate (5 - (lg_sl ([.ref (a 0), .int p0, .int p1])).length) Slot.unset).toArray = ls at hl ⊢
  have hl : lv_has ls 5 [(0, .ref (a 0)), (1, .int p0), (2, .int p1)] := hl
  unfold wp_X7_order at h
  refine lv_iload_n hx hb dX7_order_0 rfl (lv_at hl 1 rfl) ?_
  refine lv_if_ge (tgt := 6) hx hb dX7_order_1 (by decide) (fun c1 => ?_) (fun c1 => ?_)
  · have h := h.1 c1
    refine lv_aload_n hx hb dX7_order_6 rfl (lv_at hl 0 rfl) ?_
    refine va_get (D := D) (ci := 6) (v := .ref (a 25)) (C := RX7) (T := TX7) (N := 4) hx hb hts inX7 hown hK hP 0 rfl rfl 2 (by decide) (hts _ q_425) (fun _ h9 => h9) rfl dX7_order_7 ?_
    refine lv_aload_n hx hb dX7_order_10 rfl (lv_at hl 0 rfl) ?_
    refine va_get (D := D) (ci := 6) (v := .ref (a 2)) (C := RX7) (T := TX7) (N := 4) hx hb hts inX7 hown hK hP 0 rfl rfl 1 (by decide) (hts _ q_424) (fun _ h9 => h9) rfl dX7_order_11 ?_
    refine lv_iload_n hx hb dX7_order_14 rfl (lv_at hl 2 rfl) ?_
    refine cl_v (ws' := fun u2 => (wX7 cI cZ a (S.1, u2.2.2.2.2.2.1, u2.2.2.2.2.2.2.1, u2.2.2.2.2.2.2.2.1, u2.2.2.2.2.2.2.2.2.1, u2.2.2.2.2.2.2.2.2.2, u2.1, u2.2.1, u2.2.2.1, u2.2.2.2.1, u2.2.2.2.2.1, S.2.2.2.2.2.2.2.2.2.2.2))) (va_runV (As := [.ref (a 2), .int p1]) (rest := []) ⟨hx, hb, hml, hown, hts⟩ (c_X3_copyFrom l D cI cZ (fun k => if k = 23 then a 1 else a (k + 25)) (fun k => if k = 23 then a 1 else a (k + 2)) _ (S.2.2.2.2.2.2.1, S.2.2.2.2.2.2.2.1, S.2.2.2.2.2.2.2.2.1, S.2.2.2.2.2.2.2.2.2.1, S.2.2.2.2.2.2.2.2.2.2.1, S.2.1, S.2.2.1, S.2.2.2.1, S.2.2.2.2.1, S.2.2.2.2.2.1) p1 _ h ) (cwV 2 hts (gV q_845 q_846 q_847 q_68 q_848) rfl rfl rfl (by decide +kernel) ⟨Nat.le_of_ble_eq_true rfl, Nat.le_of_ble_eq_true rfl⟩) (preV_of (ci := 3) (q := (RX3, TX3, 12)) hK hP hD [25, 26, 27, 28, 29, 30, 31, 32, 33, 34, 35, 36, 37, 38, 39, 40, 41, 42, 43, 44, 45, 46, 47, 2, 3, 4, 5, 6, 7, 8, 9, 10, 11, 12, 13, 14, 15, 16, 17, 18, 19, 20, 21, 22, 23, 24] rfl rfl (by decide) 25 rfl rfl) rfl rfl hl.1 rfl (lv_room (Nat.le_of_ble_eq_true rfl)) dX7_order_15 ⟨Nat.zero_le _, Nat.zero_le _⟩) hP hD hS hA [25, 26, 27, 28, 29, 30, 31, 32, 33, 34, 35, 36, 37, 38, 39, 40, 41, 42, 43, 44, 45, 46, 47, 2, 3, 4, 5, 6, 7, 8, 9, 10, 11, 12, 13, 14, 15, 16, 17, 18, 19, 20, 21, 22, 23, 24] [.inr 0, .inr 1, .inl 23, .inl 24, .inl 25, .inl 26, .inl 27, .inl 28, .inl 29, .inl 30, .inl 31, .inl 32, .inl 33, .inl 34, .inl 35, .inl 36, .inl 37, .inl 38, .inl 39, .inl 40, .inl 41, .inl 42, .inl 43, .inl 44, .inl 45, .inl 0, .inl 1, .inl 2, .inl 3, .inl 4, .inl 5, .inl 6, .inl 7, .inl 8, .inl 9, .inl 10, .inl 11, .inl 12, .inl 13, .inl 14, .inl 15, .inl 16, .inl 17, .inl 18, .inl 19, .inl 20, .inl 21, .inl 22, .inr 48, .inr 49, .inr 50, .inr 51, .inr 52, .inr 53] rfl (by decide) (fun _ => rfl) (fun _ => rfl) (fun u2 H locs h hP hD hS => ?_)
    refine lv_iconst (v := 0) hx hb dX7_order_18 (by decide) ?_
    refine lv_istore_n (lv' := [(3, .int 0), (0, .ref (a 0)), (1, .int p0), (2, .int p1)]) hx hb dX7_order_19 rfl hl (by decide) rfl (fun ls hl => ?_)
    refine lv_iconst (v := 0) hx hb dX7_order_20 (by decide) ?_
    refine lv_istore (lv' := [(4, .int 0), (3, .int 0), (0, .ref (a 0)), (1, .int p0), (2, .int p1)]) hx hb dX7_order_21 hl (by decide) rfl (fun ls hl => ?_)
    exact L23 2000 p0 0 0 (S.1, u2.2.2.2.2.2.1, u2.2.2.2.2.2.2.1, u2.2.2.2.2.2.2.2.1, u2.2.2.2.2.2.2.2.2.1, u2.2.2.2.2.2.2.2.2.2, u2.1, u2.2.1, u2.2.2.1, u2.2.2.2.1, u2.2.2.2.2.1, S.2.2.2.2.2.2.2.2.2.2.2) _ _ _ hP hD hS (lv_sub hl [2, 3, 1, 0] rfl) h
  · have h := h.2 c1
    refine lv_iconst (v := -1) hx hb dX7_order_4 (by decide) ?_
    exact W.iret (v := (-1)) hx hb hr (fun t ht hW => ⟨⟨(-1), S, rfl, h, by rw [ht]; exact hP, va_K.moved hW.alike hK, hD⟩, hS.F ht⟩) hS.2.2 dX7_order_5
/-! X7_quiet -/
abbrev rmX7_quiet : Room := { frames := 6, cells := 0, slots := 0, locals := 144 }
set_option maxHeartbeats 4000000 in
set_option maxRecDepth 100000 in
theorem c_X7_quiet (l : Launch) (D : va_G) (cI cZ : ClassId) (a : Nat → Nat) (sz : Nat) (S : (Nat → Int32) × (Nat → Int32) × Ob × Ob × Ob × Ob × (Nat → Int32) × Ob × Ob × Ob × Ob × Ob) (p0 : Int32) (Q : Int32 → ((Nat → Int32) × (Nat → Int32) × Ob × Ob × Ob × Ob × (Nat → Int32) × Ob × Ob × Ob × Ob × Ob) → Prop) (h : wp_X7_quiet S p0 Q) : Met l yX7_quiet (wsm yX7_quiet cX7_quiet 3 (some .int)) rmX7_quiet (va_Pc [.ref (a 0), .int p0] (preT D cI cZ sz (wX7 cI cZ a S))) (va_Qi Q (fun u => atW D cI cZ (va_A (wX7 cI cZ a S) sz) (wX7 cI cZ a u)) (va_A (wX7 cI cZ a S) sz)) 0 0 (va_A (wX7 cI cZ a S) sz) := by
  refine Met.ofW (cc := cX7_quiet) (maxL := 3) (ret := (some .int)) (by decide) rfl ?_
  intro p e s m args below meth c s₁ B hml hv
  obtain ⟨rfl, ⟨hsz, hP, hK, hD0⟩, hF⟩ := hv
  have hx := B.exec
  have hb := B.bytes
  have hr := B.returns
  have hts0 := atoms_spec (ws := wsm yX7_quiet cX7_quiet 3 (some .int)) B.pre
  have hts : ∀ w ∈ lw_all, w.before _ s = true := fun w h => hts0 w (List.mem_cons_of_mem _ h)
  have hown : s.vm.findClass RX7 = some m.cls := findClass_of_methodNamed B.named
  have hlocks := B.notSynchronized
  subst hsz
  have hD := hD0.self (sz := s.heap.size)
  generalize hAe : va_A (wX7 cI cZ a S) s.heap.size = A at hD hF ⊢
  have hA : ∀ q : Nat, s.heap.size ≤ q → A q := fun q h => by rw [← hAe]; exact Or.inr h
  have hS : va_S A s.heap s.heap [] := va_S.rf
  have hml2 := hml
  have L14 : ∀ (n : Nat), ∀ (y2 : Int32) (T : (Nat → Int32) × (Nat → Int32) × Ob × Ob × Ob × Ob × (Nat → Int32) × Ob × Ob × Ob × Ob × Ob) (H : Heap) (locs : List Loc) (ls : Array Slot), va_P D vwCl (wX7 cI cZ a T) H → va_D A (wX7 cI cZ a T) → va_S A s.heap H locs → lv_has ls 3 [(0, .ref (a 0)), (2, .int y2)] → wp_X7_quiet_L14 Q n y2 T → W p l e rmX7_quiet s m ([.ref (a 0), .int p0] : List Value).toArray below meth c H locs 0 0 (MQ below (va_Qi Q (fun u => atW D cI cZ A (wX7 cI cZ a u)) A) ([.ref (a 0), .int p0] : List Value).toArray s 0 0 A) (F0 m 14 ls []) := by
    intro n
    induction n with
    | zero =>
      intro y2 T H locs ls hP hD hS hl h
      exact False.elim h
    | succ n ih =>
      intro y2 T H locs ls hP hD hS hl h
      unfold wp_X7_quiet_L14 at h
      refine lv_iload_n hx hb dX7_quiet_14 rfl (lv_at hl 1 rfl) ?_
      refine lv_sipush (v := 300) hx hb dX7_quiet_15 (by decide) ?_
      refine lv_icmp_gt (tgt := 57) hx hb dX7_quiet_18 (by decide) (fun c2 => ?_) (fun c2 => ?_)
      · have h := h.1 c2
        refine lv_iconst (v := -1) hx hb dX7_quiet_57 (by decide) ?_
        exact W.iret (v := (-1)) hx hb hr (fun t ht hW => ⟨⟨(-1), T, rfl, h, by rw [ht]; exact hP, va_K.moved hW.alike hK, hD⟩, hS.F ht⟩) hS.2.2 dX7_quiet_58
      · have h := h.2 c2
        refine lv_aload_n hx hb dX7_quiet_21 rfl (lv_at hl 0 rfl) ?_
        refine va_get (D := D) (ci := 6) (v := .ref (a 25)) (C := RX7) (T := TX7) (N := 4) hx hb hts inX7 hown hK hP 0 rfl rfl 2 (by decide) (hts _ q_425) (fun _ h9 => h9) rfl dX7_quiet_22 ?_
        refine va_get (D := D) (ci := 3) (v := .int (T.2.2.2.2.2.2.1 5)) (C := RX3) (T := TX3) (N := 12) hx hb hts inX3 hown hK hP 25 rfl rfl 5 (by decide) (hts _ q_359) (fun _ h9 => h9) rfl dX7_quiet_25 ?_
        refine lv_iconst (v := 5) hx hb dX7_quiet_28 (by decide) ?_
        refine lv_icmp_eq (tgt := 57) hx hb dX7_quiet_29 (by decide) (fun c3 => ?_) (fun c3 => ?_)
        · have h := h.1 c3
          refine lv_iconst (v := -1) hx hb dX7_quiet_57 (by decide) ?_
          exact W.iret (v := (-1)) hx hb hr (fun t ht hW => ⟨⟨(-1), T, rfl, h, by rw [ht]; exact hP, va_K.moved hW.alike hK, hD⟩, hS.F ht⟩) hS.2.2 dX7_quiet_58
        · have h := h.2 c3
          refine lv_aload_n hx hb dX7_quiet_32 rfl (lv_at hl 0 rfl) ?_
          refine va_get (D := D) (ci := 6) (v := .ref (a 25)) (C := RX7) (T := TX7) (N := 4) hx hb hts inX7 hown hK hP 0 rfl rfl 2 (by decide) (hts _ q_425) (fun _ h9 => h9) rfl dX7_quiet_33 ?_
          refine cl_i (ws' := fun u4 => (wX7 cI cZ a (u4.2.2.2.2.2, T.2.1, T.2.2.1, T.2.2.2.1, T.2.2.2.2.1, T.2.2.2.2.2.1, u4.1, u4.2.1, u4.2.2.1, u4.2.2.2.1, u4.2.2.2.2.1, T.2.2.2.2.2.2.2.2.2.2.2))) (va_runV (As := []) (rest := []) ⟨hx, hb, hml, hown, hts⟩ (c_X3_isQuiet l D cI cZ (fun k => if k = 23 then a 1 else a (k + 25)) _ (T.2.2.2.2.2.2.1, T.2.2.2.2.2.2.2.1, T.2.2.2.2.2.2.2.2.1, T.2.2.2.2.2.2.2.2.2.1, T.2.2.2.2.2.2.2.2.2.2.1, T.1) _ h ) (cwV 0 hts (gV q_870 q_871 q_872 q_68 q_873) rfl rfl rfl (by decide +kernel) ⟨Nat.le_of_ble_eq_true rfl, Nat.le_of_ble_eq_true rfl⟩) (preV_of (ci := 3) (q := (RX3, TX3, 12)) hK hP hD [25, 26, 27, 28, 29, 30, 31, 32, 33, 34, 35, 36, 37, 38, 39, 40, 41, 42, 43, 44, 45, 46, 47, 1] rfl rfl (by decide) 25 rfl rfl) rfl rfl hl.1 rfl (lv_room (Nat.le_of_ble_eq_true rfl)) dX7_quiet_36 ⟨Nat.zero_le _, Nat.zero_le _⟩) hP hD hS hA [25, 26, 27, 28, 29, 30, 31, 32, 33, 34, 35, 36, 37, 38, 39, 40, 41, 42, 43, 44, 45, 46, 47, 1] [.inr 0, .inl 23, .inr 2, .inr 3, .inr 4, .inr 5, .inr 6, .inr 7, .inr 8, .inr 9, .inr 10, .inr 11, .inr 12, .inr 13, .inr 14, .inr 15, .inr 16, .inr 17, .inr 18, .inr 19, .inr 20, .inr 21, .inr 22, .inr 23, .inr 24, .inl 0, .inl 1, .inl 2, .inl 3, .inl 4, .inl 5, .inl 6, .inl 7, .inl 8, .inl 9, .inl 10, .inl 11, .inl 12, .inl 13, .inl 14, .inl 15, .inl 16, .inl 17, .inl 18, .inl 19, .inl 20, .inl 21, .inl 22, .inr 48, .inr 49, .inr 50, .inr 51, .inr 52, .inr 53] rfl (by decide) (fun _ => rfl) (fun _ => rfl) (fun r5 u4 H locs h hP hD hS => ?_)
          refine lv_if_eq (tgt := 44) hx hb dX7_quiet_39 (by decide) (fun c6 => ?_) (fun c6 => ?_)
          · have h := h.1 c6
            refine lv_aload_n hx hb dX7_quiet_44 rfl (lv_at hl 0 rfl) ?_
            refine va_get (D := D) (ci := 6) (v := .ref (a 25)) (C := RX7) (T := TX7) (N := 4) hx hb hts inX7 hown hK hP 0 rfl rfl 2 (by decide) (hts _ q_425) (fun _ h9 => h9) rfl dX7_quiet_45 ?_
            refine cl_v (ws' := fun u7 => (wX7 cI cZ a (u7.2.2.2.2.2, T.2.1, T.2.2.1, T.2.2.2.1, T.2.2.2.2.1, T.2.2.2.2.2.1, u7.1, u7.2.1, u7.2.2.1, u7.2.2.2.1, u7.2.2.2.2.1, T.2.2.2.2.2.2.2.2.2.2.2))) (va_runV (As := []) (rest := []) ⟨hx, hb, hml, hown, hts⟩ (c_X3_cycle l D cI cZ (fun k => if k = 23 then a 1 else a (k + 25)) _ u4 _ h ) (cwV 0 hts (gV q_502 q_503 q_504 q_68 q_505) rfl rfl rfl (by decide +kernel) ⟨Nat.le_of_ble_eq_true rfl, Nat.le_of_ble_eq_true rfl⟩) (preTV_of (ci := 3) (q := (RX3, TX3, 12)) hF hS hA hK hP hD [25, 26, 27, 28, 29, 30, 31, 32, 33, 34, 35, 36, 37, 38, 39, 40, 41, 42, 43, 44, 45, 46, 47, 1] rfl rfl (by decide) 25 rfl rfl) rfl rfl hl.1 rfl (lv_room (Nat.le_of_ble_eq_true rfl)) dX7_quiet_48 ⟨Nat.zero_le _, Nat.zero_le _⟩) hP hD hS hA [25, 26, 27, 28, 29, 30, 31, 32, 33, 34, 35, 36, 37, 38, 39, 40, 41, 42, 43, 44, 45, 46, 47, 1] [.inr 0, .inl 23, .inr 2, .inr 3, .inr 4, .inr 5, .inr 6, .inr 7, .inr 8, .inr 9, .inr 10, .inr 11, .inr 12, .inr 13, .inr 14, .inr 15, .inr 16, .inr 17, .inr 18, .inr 19, .inr 20, .inr 21, .inr 22, .inr 23, .inr 24, .inl 0, .inl 1, .inl 2, .inl 3, .inl 4, .inl 5, .inl 6, .inl 7, .inl 8, .inl 9, .inl 10, .inl 11, .inl 12, .inl 13, .inl 14, .inl 15, .inl 16, .inl 17, .inl 18, .inl 19, .inl 20, .inl 21, .inl 22, .inr 48, .inr 49, .inr 50, .inr 51, .inr 52, .inr 53] rfl (by decide) (fun _ => rfl) (fun _ => rfl) (fun u7 H locs h hP hD hS => ?_)
            obtain ⟨x8, ex8⟩ : ∃ y : Int32, y = (y2 + 1) := ⟨_, rfl⟩
            have h := h x8 ex8
            refine lv_iinc (v := x8) (lv' := [(2, .int x8), (0, .ref (a 0))]) hx hb dX7_quiet_51 hl (k := 1) rfl (by rw [ex8]; rfl) (by decide) rfl (fun ls hl => ?_)
            refine lv_goto (tgt := 14) hx hb dX7_quiet_54 (by decide) ?_
            exact ih x8 (u7.2.2.2.2.2, T.2.1, T.2.2.1, T.2.2.2.1, T.2.2.2.2.1, T.2.2.2.2.2.1, u7.1, u7.2.1, u7.2.2.1, u7.2.2.2.1, u7.2.2.2.2.1, T.2.2.2.2.2.2.2.2.2.2.2) _ _ _ hP hD hS (lv_sub hl [1, 0] rfl) h
          · have h := h.2 c6
            refine lv_iload_n hx hb dX7_quiet_42 rfl (lv_at hl 1 rfl) ?_
            exact W.iret (v := y2) hx hb hr (fun t ht hW => ⟨⟨y2, (u4.2.2.2.2.2, T.2.1, T.2.2.1, T.2.2.2.1, T.2.2.2.2.1, T.2.2.2.2.2.1, u4.1, u4.2.1, u4.2.2.1, u4.2.2.2.1, u4.2.2.2.2.1, T.2.2.2.2.2.2.2.2.2.2.2), rfl, h, by rw [ht]; exact hP, va_K.moved hW.alike hK, hD⟩, hS.F ht⟩) hS.2.2 dX7_quiet_43
  have hl := lv_entry ([.ref (a 0), .int p0]) (n := 3) (Nat.le_of_ble_eq_true rfl)
  rw [lg_entry_eq]
  generalize (lg_sl ([.ref (a 0), .int p0]) ++ List.replicate (3 - (lg_sl ([.ref (a 0), .int p0])).length) Slot.unset).toArray = ls at hl ⊢
  have hl : lv_has ls 3 [(0, .ref (a 0)), (1, .int p0)] := hl
  unfold wp_X7_quiet at h
  refine lv_aload_n hx hb dX7_quiet_0 rfl (lv_at hl 0 rfl) ?_
  refine va_get (D := D) (ci := 6) (v := .ref (a 25)) (C := RX7) (T := TX7) (N := 4) hx hb hts inX7 hown hK hP 0 rfl rfl 2 (by decide) (hts _ q_425) (fun _ h9 => h9) rfl dX7_quiet_1 ?_
  refine lv_aload_n hx hb dX7_quiet_4 rfl (lv_at hl 0 rfl) ?_
  refine va_get (D := D) (ci := 6) (v := .ref (a 2)) (C := RX7) (T := TX7) (N := 4) hx hb hts inX7 hown hK hP 0 rfl rfl 1 (by decide) (hts _ q_424) (fun _ h9 => h9) rfl dX7_quiet_5 ?_
  refine lv_iload_n hx hb dX7_quiet_8 rfl (lv_at hl 1 rfl) ?_
  refine cl_v (ws' := fun u1 => (wX7 cI cZ a (S.1, u1.2.2.2.2.2.1, u1.2.2.2.2.2.2.1, u1.2.2.2.2.2.2.2.1, u1.2.2.2.2.2.2.2.2.1, u1.2.2.2.2.2.2.2.2.2, u1.1, u1.2.1, u1.2.2.1, u1.2.2.2.1, u1.2.2.2.2.1, S.2.2.2.2.2.2.2.2.2.2.2))) (va_runV (As := [.ref (a 2), .int p0]) (rest := []) ⟨hx, hb, hml, hown, hts⟩ (c_X3_copyFrom l D cI cZ (fun k => if k = 23 then a 1 else a (k + 25)) (fun k => if k = 23 then a 1 else a (k + 2)) _ (S.2.2.2.2.2.2.1, S.2.2.2.2.2.2.2.1, S.2.2.2.2.2.2.2.2.1, S.2.2.2.2.2.2.2.2.2.1, S.2.2.2.2.2.2.2.2.2.2.1, S.2.1, S.2.2.1, S.2.2.2.1, S.2.2.2.2.1, S.2.2.2.2.2.1) p0 _ h ) (cwV 2 hts (gV q_845 q_846 q_847 q_68 q_848) rfl rfl rfl (by decide +kernel) ⟨Nat.le_of_ble_eq_true rfl, Nat.le_of_ble_eq_true rfl⟩) (preV_of (ci := 3) (q := (RX3, TX3, 12)) hK hP hD [25, 26, 27, 28, 29, 30, 31, 32, 33, 34, 35, 36, 37, 38, 39, 40, 41, 42, 43, 44, 45, 46, 47, 2, 3, 4, 5, 6, 7, 8, 9, 10, 11, 12, 13, 14, 15, 16, 17, 18, 19, 20, 21, 22, 23, 24] rfl rfl (by decide) 25 rfl rfl) rfl rfl hl.1 rfl (lv_room (Nat.le_of_ble_eq_true rfl)) dX7_quiet_9 ⟨Nat.zero_le _, Nat.zero_le _⟩) hP hD hS hA [25, 26, 27, 28, 29, 30, 31, 32, 33, 34, 35, 36, 37, 38, 39, 40, 41, 42, 43, 44, 45, 46, 47, 2, 3, 4, 5, 6, 7, 8, 9, 10, 11, 12, 13, 14, 15, 16, 17, 18, 19, 20, 21, 22, 23, 24] [.inr 0, .inr 1, .inl 23, .inl 24, .inl 25, .inl 26, .inl 27, .inl 28, .inl 29, .inl 30, .inl 31, .inl 32, .inl 33, .inl 34, .inl 35, .inl 36, .inl 37, .inl 38, .inl 39, .inl 40, .inl 41, .inl 42, .inl 43, .inl 44, .inl 45, .inl 0, .inl 1, .inl 2, .inl 3, .inl 4, .inl 5, .inl 6, .inl 7, .inl 8, .inl 9, .inl 10, .inl 11, .inl 12, .inl 13, .inl 14, .inl 15, .inl 16, .inl 17, .inl 18, .inl 19, .inl 20, .inl 21, .inl 22, .inr 48, .inr 49, .inr 50, .inr 51, .inr 52, .inr 53] rfl (by decide) (fun _ => rfl) (fun _ => rfl) (fun u1 H locs h hP hD hS => ?_)
  refine lv_iconst (v := 0) hx hb dX7_quiet_12 (by decide) ?_
  refine lv_istore_n (lv' := [(2, .int 0), (0, .ref (a 0)), (1, .int p0)]) hx hb dX7_quiet_13 rfl hl (by decide) rfl (fun ls hl => ?_)
  exact L14 2000 0 (S.1, u1.2.2.2.2.2.1, u1.2.2.2.2.2.2.1, u1.2.2.2.2.2.2.2.1, u1.2.2.2.2.2.2.2.2.1, u1.2.2.2.2.2.2.2.2.2, u1.1, u1.2.1, u1.2.2.1, u1.2.2.2.1, u1.2.2.2.2.1, S.2.2.2.2.2.2.2.2.2.2.2) _ _ _ hP hD hS (lv_sub hl [1, 0] rfl) h
/-! X7_window -/
abbrev rmX7_window : Room := { frames := 7, cells := 0, slots := 0, locals := 166 }
set_option maxHeartbeats 4000000 in
set_option maxRecDepth 100000 in
theorem c_X7_window (l : Launch) (D : va_G) (cI cZ : ClassId) (a : Nat → Nat) (sz : Nat) (S : (Nat → Int32) × (Nat → Int32) × Ob × Ob × Ob × Ob × (Nat → Int32) × Ob × Ob × Ob × Ob × Ob) (p0 : Int32) (Q : Int32 → ((Nat → Int32) × (Nat → Int32) × Ob × Ob × Ob × Ob × (Nat → Int32) × Ob × Ob × Ob × Ob × Ob) → Prop) (h : wp_X7_window S p0 Q) : Met l yX7_window (wsm yX7_window cX7_window 5 (some .int)) rmX7_window (va_Pc [.ref (a 0), .int p0] (preT D cI cZ sz (wX7 cI cZ a S))) (va_Qi Q (fun u => atW D cI cZ (va_A (wX7 cI cZ a S) sz) (wX7 cI cZ a u)) (va_A (wX7 cI cZ a S) sz)) 0 0 (va_A (wX7 cI cZ a S) sz) := by
  refine Met.ofW (cc := cX7_window) (maxL := 5) (ret := (some .int)) (by decide) rfl ?_
  intro p e s m args below meth c s₁ B hml hv
  obtain ⟨rfl, ⟨hsz, hP, hK, hD0⟩, hF⟩ := hv
  have hx := B.exec
  have hb := B.bytes
  have hr := B.returns
  have hts0 := atoms_spec (ws := wsm yX7_window cX7_window 5 (some .int)) B.pre
  have hts : ∀ w ∈ lw_all, w.before _ s = true := fun w h => hts0 w (List.mem_cons_of_mem _ h)
  have hown : s.vm.findClass RX7 = some m.cls := findClass_of_methodNamed B.named
  have hlocks := B.notSynchronized
  subst hsz
  have hD := hD0.self (sz := s.heap.size)
  generalize hAe : va_A (wX7 cI cZ a S) s.heap.size = A at hD hF ⊢
  have hA : ∀ q : Nat, s.heap.size ≤ q → A q := fun q h => by rw [← hAe]; exact Or.inr h
  have hS : va_S A s.heap s.heap [] := va_S.rf
  have hml2 := hml
  have L36 : ∀ (k15 : Int32 → Int32 → Int32 → ((Nat → Int32) × (Nat → Int32) × Ob × Ob × Ob × Ob × (Nat → Int32) × Ob × Ob × Ob × Ob × Ob) → Prop) (K15 : ∀ (y1 : Int32) (y2 : Int32) (y3 : Int32) (T : (Nat → Int32) × (Nat → Int32) × Ob × Ob × Ob × Ob × (Nat → Int32) × Ob × Ob × Ob × Ob × Ob) (H : Heap) (locs : List Loc) (ls : Array Slot), va_P D vwCl (wX7 cI cZ a T) H → va_D A (wX7 cI cZ a T) → va_S A s.heap H locs → lv_has ls 5 [(0, .ref (a 0)), (1, .int y1), (2, .int y2), (3, .int y3)] → k15 y1 y2 y3 T → W p l e rmX7_window s m ([.ref (a 0), .int p0] : List Value).toArray below meth c H locs 0 0 (MQ below (va_Qi Q (fun u => atW D cI cZ A (wX7 cI cZ a u)) A) ([.ref (a 0), .int p0] : List Value).toArray s 0 0 A) (F0 m 15 ls [])) (n : Nat), ∀ (y1 : Int32) (y2 : Int32) (y3 : Int32) (y4 : Int32) (T : (Nat → Int32) × (Nat → Int32) × Ob × Ob × Ob × Ob × (Nat → Int32) × Ob × Ob × Ob × Ob × Ob) (H : Heap) (locs : List Loc) (ls : Array Slot), va_P D vwCl (wX7 cI cZ a T) H → va_D A (wX7 cI cZ a T) → va_S A s.heap H locs → lv_has ls 5 [(0, .ref (a 0)), (1, .int y1), (2, .int y2), (3, .int y3), (4, .int y4)] → wp_X7_window_L36 Q k15 n y1 y2 y3 y4 T → W p l e rmX7_window s m ([.ref (a 0), .int p0] : List Value).toArray below meth c H locs 0 0 (MQ below (va_Qi Q (fun u => atW D cI cZ A (wX7 cI cZ a u)) A) ([.ref (a 0), .int p0] : List Value).toArray s 0 0 A) (F0 m 36 ls []) := by
    intro k15 K15 n
    induction n with
    | zero =>
      intro y1 y2 y3 y4 T H locs ls hP hD hS hl h
      exact False.elim h
    | succ n ih =>
      intro y1 y2 y3 y4 T H locs ls hP hD hS hl h
      unfold wp_X7_window_L36 at h
      refine lv_iload hx hb dX7_window_36 (lv_at hl 4 rfl) ?_
      refine lv_iload_n hx hb dX7_window_38 rfl (lv_at hl 3 rfl) ?_
      refine lv_icmp_ge (tgt := 55) hx hb dX7_window_39 (by decide) (fun c6 => ?_) (fun c6 => ?_)
      · have h := h.1 c6
        refine lv_aload_n hx hb dX7_window_55 rfl (lv_at hl 0 rfl) ?_
        refine va_get (D := D) (ci := 6) (v := .ref (a 25)) (C := RX7) (T := TX7) (N := 4) hx hb hts inX7 hown hK hP 0 rfl rfl 2 (by decide) (hts _ q_425) (fun _ h9 => h9) rfl dX7_window_56 ?_
        refine va_get (D := D) (ci := 3) (v := .ref (a 26)) (C := RX3) (T := TX3) (N := 12) hx hb hts inX3 hown hK hP 25 rfl rfl 0 (by decide) (hts _ q_349) (fun _ h9 => h9) rfl dX7_window_59 ?_
        refine lv_iload_n hx hb dX7_window_62 rfl (lv_at hl 1 rfl) ?_
        refine lv_aload_n hx hb dX7_window_63 rfl (lv_at hl 0 rfl) ?_
        refine va_get (D := D) (ci := 6) (v := .ref (a 25)) (C := RX7) (T := TX7) (N := 4) hx hb hts inX7 hown hK hP 0 rfl rfl 2 (by decide) (hts _ q_425) (fun _ h9 => h9) rfl dX7_window_64 ?_
        refine va_get (D := D) (ci := 3) (v := .int (T.2.2.2.2.2.2.1 4)) (C := RX3) (T := TX3) (N := 12) hx hb hts inX3 hown hK hP 25 rfl rfl 4 (by decide) (hts _ q_357) (fun _ h9 => h9) rfl dX7_window_67 ?_
        refine cl_i (ws' := fun u7 => (wX7 cI cZ a (T.1, T.2.1, T.2.2.1, T.2.2.2.1, T.2.2.2.2.1, T.2.2.2.2.2.1, T.2.2.2.2.2.2.1, u7, T.2.2.2.2.2.2.2.2.1, T.2.2.2.2.2.2.2.2.2.1, T.2.2.2.2.2.2.2.2.2.2.1, T.2.2.2.2.2.2.2.2.2.2.2))) (va_runV (As := [.int y1, .int (T.2.2.2.2.2.2.1 4)]) (rest := []) ⟨hx, hb, hml, hown, hts⟩ (c_X5_request l D cI cZ (fun k => a (k + 26)) _ T.2.2.2.2.2.2.2.1 y1 (T.2.2.2.2.2.2.1 4) _ h ) (cwV 2 hts (gV q_470 q_471 q_472 q_69 q_473) rfl rfl rfl (by decide +kernel) ⟨Nat.le_of_ble_eq_true rfl, Nat.le_of_ble_eq_true rfl⟩) (preV_of (ci := 4) (q := (RX5, TX5, 16)) hK hP hD [26, 27, 28, 29, 30, 31, 32, 33, 34, 35, 36] rfl rfl (by decide) 26 rfl rfl) rfl rfl hl.1 rfl (lv_room (Nat.le_of_ble_eq_true rfl)) dX7_window_70 ⟨Nat.zero_le _, Nat.zero_le _⟩) hP hD hS hA [26, 27, 28, 29, 30, 31, 32, 33, 34, 35, 36] [.inr 0, .inr 1, .inr 2, .inr 3, .inr 4, .inr 5, .inr 6, .inr 7, .inr 8, .inr 9, .inr 10, .inr 11, .inr 12, .inr 13, .inr 14, .inr 15, .inr 16, .inr 17, .inr 18, .inr 19, .inr 20, .inr 21, .inr 22, .inr 23, .inr 24, .inr 25, .inl 0, .inl 1, .inl 2, .inl 3, .inl 4, .inl 5, .inl 6, .inl 7, .inl 8, .inl 9, .inl 10, .inr 37, .inr 38, .inr 39, .inr 40, .inr 41, .inr 42, .inr 43, .inr 44, .inr 45, .inr 46, .inr 47, .inr 48, .inr 49, .inr 50, .inr 51, .inr 52, .inr 53] rfl (by decide) (fun _ => rfl) (fun _ => rfl) (fun r8 u7 H locs h hP hD hS => ?_)
        refine lv_pop hx hb dX7_window_73 rfl ?_
        refine lv_aload_n hx hb dX7_window_74 rfl (lv_at hl 0 rfl) ?_
        refine va_get (D := D) (ci := 6) (v := .ref (a 25)) (C := RX7) (T := TX7) (N := 4) hx hb hts inX7 hown hK hP 0 rfl rfl 2 (by decide) (hts _ q_425) (fun _ h9 => h9) rfl dX7_window_75 ?_
        refine lv_bipush (v := 40) hx hb dX7_window_78 (by decide) ?_
        refine cl_i (ws' := fun u9 => (wX7 cI cZ a (u9.2.2.2.2.2, T.2.1, T.2.2.1, T.2.2.2.1, T.2.2.2.2.1, T.2.2.2.2.2.1, u9.1, u9.2.1, u9.2.2.1, u9.2.2.2.1, u9.2.2.2.2.1, T.2.2.2.2.2.2.2.2.2.2.2))) (va_runV (As := [.int 40]) (rest := []) ⟨hx, hb, hml, hown, hts⟩ (c_X3_firstToBegin l D cI cZ (fun k => if k = 23 then a 1 else a (k + 25)) _ (T.2.2.2.2.2.2.1, u7, T.2.2.2.2.2.2.2.2.1, T.2.2.2.2.2.2.2.2.2.1, T.2.2.2.2.2.2.2.2.2.2.1, T.1) 40 _ h ) (cwV 1 hts (gV q_878 q_879 q_880 q_68 q_881) rfl rfl rfl (by decide +kernel) ⟨Nat.le_of_ble_eq_true rfl, Nat.le_of_ble_eq_true rfl⟩) (preTV_of (ci := 3) (q := (RX3, TX3, 12)) hF hS hA hK hP hD [25, 26, 27, 28, 29, 30, 31, 32, 33, 34, 35, 36, 37, 38, 39, 40, 41, 42, 43, 44, 45, 46, 47, 1] rfl rfl (by decide) 25 rfl rfl) rfl rfl hl.1 rfl (lv_room (Nat.le_of_ble_eq_true rfl)) dX7_window_80 ⟨Nat.zero_le _, Nat.zero_le _⟩) hP hD hS hA [25, 26, 27, 28, 29, 30, 31, 32, 33, 34, 35, 36, 37, 38, 39, 40, 41, 42, 43, 44, 45, 46, 47, 1] [.inr 0, .inl 23, .inr 2, .inr 3, .inr 4, .inr 5, .inr 6, .inr 7, .inr 8, .inr 9, .inr 10, .inr 11, .inr 12, .inr 13, .inr 14, .inr 15, .inr 16, .inr 17, .inr 18, .inr 19, .inr 20, .inr 21, .inr 22, .inr 23, .inr 24, .inl 0, .inl 1, .inl 2, .inl 3, .inl 4, .inl 5, .inl 6, .inl 7, .inl 8, .inl 9, .inl 10, .inl 11, .inl 12, .inl 13, .inl 14, .inl 15, .inl 16, .inl 17, .inl 18, .inl 19, .inl 20, .inl 21, .inl 22, .inr 48, .inr 49, .inr 50, .inr 51, .inr 52, .inr 53] rfl (by decide) (fun _ => rfl) (fun _ => rfl) (fun r10 u9 H locs h hP hD hS => ?_)
        refine lv_iload_n hx hb dX7_window_83 rfl (lv_at hl 1 rfl) ?_
        refine lv_icmp_ne (tgt := 93) hx hb dX7_window_84 (by decide) (fun c11 => ?_) (fun c11 => ?_)
        · have h := h.1 c11
          obtain ⟨x12, ex12⟩ : ∃ y : Int32, y = (y3 + 1) := ⟨_, rfl⟩
          have h := h x12 ex12
          refine lv_iinc (v := x12) (lv' := [(3, .int x12), (0, .ref (a 0)), (1, .int y1), (2, .int y2), (4, .int y4)]) hx hb dX7_window_93 hl (k := 3) rfl (by rw [ex12]; rfl) (by decide) rfl (fun ls hl => ?_)
          refine lv_goto (tgt := 15) hx hb dX7_window_96 (by decide) ?_
          exact K15 y1 y2 x12 (u9.2.2.2.2.2, T.2.1, T.2.2.1, T.2.2.2.1, T.2.2.2.2.1, T.2.2.2.2.2.1, u9.1, u9.2.1, u9.2.2.1, u9.2.2.2.1, u9.2.2.2.2.1, T.2.2.2.2.2.2.2.2.2.2.2) _ _ _ hP hD hS (lv_sub hl [1, 2, 3, 0] rfl) h
        · have h := h.2 c11
          refine lv_iload_n hx hb dX7_window_87 rfl (lv_at hl 2 rfl) ?_
          refine lv_iconst (v := 1) hx hb dX7_window_88 (by decide) ?_
          refine lv_iload_n hx hb dX7_window_89 rfl (lv_at hl 3 rfl) ?_
          refine lv_ishl hx hb dX7_window_90 ?_
          refine lv_ior hx hb dX7_window_91 ?_
          refine lv_topi (fun x13 ex13 => ?_)
          have h := h x13 ex13
          refine lv_istore_n (lv' := [(2, .int x13), (0, .ref (a 0)), (1, .int y1), (3, .int y3), (4, .int y4)]) hx hb dX7_window_92 rfl hl (by decide) rfl (fun ls hl => ?_)
          obtain ⟨x14, ex14⟩ : ∃ y : Int32, y = (y3 + 1) := ⟨_, rfl⟩
          have h := h x14 ex14
          refine lv_iinc (v := x14) (lv' := [(3, .int x14), (2, .int x13), (0, .ref (a 0)), (1, .int y1), (4, .int y4)]) hx hb dX7_window_93 hl (k := 3) rfl (by rw [ex14]; rfl) (by decide) rfl (fun ls hl => ?_)
          refine lv_goto (tgt := 15) hx hb dX7_window_96 (by decide) ?_
          exact K15 y1 x13 x14 (u9.2.2.2.2.2, T.2.1, T.2.2.1, T.2.2.2.1, T.2.2.2.2.1, T.2.2.2.2.2.1, u9.1, u9.2.1, u9.2.2.1, u9.2.2.2.1, u9.2.2.2.2.1, T.2.2.2.2.2.2.2.2.2.2.2) _ _ _ hP hD hS (lv_sub hl [2, 3, 1, 0] rfl) h
      · have h := h.2 c6
        refine lv_aload_n hx hb dX7_window_42 rfl (lv_at hl 0 rfl) ?_
        refine va_get (D := D) (ci := 6) (v := .ref (a 25)) (C := RX7) (T := TX7) (N := 4) hx hb hts inX7 hown hK hP 0 rfl rfl 2 (by decide) (hts _ q_425) (fun _ h9 => h9) rfl dX7_window_43 ?_
        refine cl_v (ws' := fun u15 => (wX7 cI cZ a (u15.2.2.2.2.2, T.2.1, T.2.2.1, T.2.2.2.1, T.2.2.2.2.1, T.2.2.2.2.2.1, u15.1, u15.2.1, u15.2.2.1, u15.2.2.2.1, u15.2.2.2.2.1, T.2.2.2.2.2.2.2.2.2.2.2))) (va_runV (As := []) (rest := []) ⟨hx, hb, hml, hown, hts⟩ (c_X3_cycle l D cI cZ (fun k => if k = 23 then a 1 else a (k + 25)) _ (T.2.2.2.2.2.2.1, T.2.2.2.2.2.2.2.1, T.2.2.2.2.2.2.2.2.1, T.2.2.2.2.2.2.2.2.2.1, T.2.2.2.2.2.2.2.2.2.2.1, T.1) _ h ) (cwV 0 hts (gV q_502 q_503 q_504 q_68 q_505) rfl rfl rfl (by decide +kernel) ⟨Nat.le_of_ble_eq_true rfl, Nat.le_of_ble_eq_true rfl⟩) (preTV_of (ci := 3) (q := (RX3, TX3, 12)) hF hS hA hK hP hD [25, 26, 27, 28, 29, 30, 31, 32, 33, 34, 35, 36, 37, 38, 39, 40, 41, 42, 43, 44, 45, 46, 47, 1] rfl rfl (by decide) 25 rfl rfl) rfl rfl hl.1 rfl (lv_room (Nat.le_of_ble_eq_true rfl)) dX7_window_46 ⟨Nat.zero_le _, Nat.zero_le _⟩) hP hD hS hA [25, 26, 27, 28, 29, 30, 31, 32, 33, 34, 35, 36, 37, 38, 39, 40, 41, 42, 43, 44, 45, 46, 47, 1] [.inr 0, .inl 23, .inr 2, .inr 3, .inr 4, .inr 5, .inr 6, .inr 7, .inr 8, .inr 9, .inr 10, .inr 11, .inr 12, .inr 13, .inr 14, .inr 15, .inr 16, .inr 17, .inr 18, .inr 19, .inr 20, .inr 21, .inr 22, .inr 23, .inr 24, .inl 0, .inl 1, .inl 2, .inl 3, .inl 4, .inl 5, .inl 6, .inl 7, .inl 8, .inl 9, .inl 10, .inl 11, .inl 12, .inl 13, .inl 14, .inl 15, .inl 16, .inl 17, .inl 18, .inl 19, .inl 20, .inl 21, .inl 22, .inr 48, .inr 49, .inr 50, .inr 51, .inr 52, .inr 53] rfl (by decide) (fun _ => rfl) (fun _ => rfl) (fun u15 H locs h hP hD hS => ?_)
        obtain ⟨x16, ex16⟩ : ∃ y : Int32, y = (y4 + 1) := ⟨_, rfl⟩
        have h := h x16 ex16
        refine lv_iinc (v := x16) (lv' := [(4, .int x16), (0, .ref (a 0)), (1, .int y1), (2, .int y2), (3, .int y3)]) hx hb dX7_window_49 hl (k := 4) rfl (by rw [ex16]; rfl) (by decide) rfl (fun ls hl => ?_)
        refine lv_goto (tgt := 36) hx hb dX7_window_52 (by decide) ?_
        exact ih y1 y2 y3 x16 (u15.2.2.2.2.2, T.2.1, T.2.2.1, T.2.2.2.1, T.2.2.2.2.1, T.2.2.2.2.2.1, u15.1, u15.2.1, u15.2.2.1, u15.2.2.2.1, u15.2.2.2.2.1, T.2.2.2.2.2.2.2.2.2.2.2) _ _ _ hP hD hS (lv_sub hl [1, 2, 3, 4, 0] rfl) h
  have L15 : ∀ (n : Nat), ∀ (y1 : Int32) (y2 : Int32) (y3 : Int32) (T : (Nat → Int32) × (Nat → Int32) × Ob × Ob × Ob × Ob × (Nat → Int32) × Ob × Ob × Ob × Ob × Ob) (H : Heap) (locs : List Loc) (ls : Array Slot), va_P D vwCl (wX7 cI cZ a T) H → va_D A (wX7 cI cZ a T) → va_S A s.heap H locs → lv_has ls 5 [(0, .ref (a 0)), (1, .int y1), (2, .int y2), (3, .int y3)] → wp_X7_window_L15 Q n y1 y2 y3 T → W p l e rmX7_window s m ([.ref (a 0), .int p0] : List Value).toArray below meth c H locs 0 0 (MQ below (va_Qi Q (fun u => atW D cI cZ A (wX7 cI cZ a u)) A) ([.ref (a 0), .int p0] : List Value).toArray s 0 0 A) (F0 m 15 ls []) := by
    intro n
    induction n with
    | zero =>
      intro y1 y2 y3 T H locs ls hP hD hS hl h
      exact False.elim h
    | succ n ih =>
      intro y1 y2 y3 T H locs ls hP hD hS hl h
      unfold wp_X7_window_L15 at h
      refine lv_iload_n hx hb dX7_window_15 rfl (lv_at hl 3 rfl) ?_
      refine lv_bipush (v := 20) hx hb dX7_window_16 (by decide) ?_
      refine lv_icmp_ge (tgt := 99) hx hb dX7_window_18 (by decide) (fun c4 => ?_) (fun c4 => ?_)
      · have h := h.1 c4
        refine lv_iload_n hx hb dX7_window_99 rfl (lv_at hl 2 rfl) ?_
        exact W.iret (v := y2) hx hb hr (fun t ht hW => ⟨⟨y2, T, rfl, h, by rw [ht]; exact hP, va_K.moved hW.alike hK, hD⟩, hS.F ht⟩) hS.2.2 dX7_window_100
      · have h := h.2 c4
        refine lv_aload_n hx hb dX7_window_21 rfl (lv_at hl 0 rfl) ?_
        refine va_get (D := D) (ci := 6) (v := .ref (a 25)) (C := RX7) (T := TX7) (N := 4) hx hb hts inX7 hown hK hP 0 rfl rfl 2 (by decide) (hts _ q_425) (fun _ h9 => h9) rfl dX7_window_22 ?_
        refine lv_aload_n hx hb dX7_window_25 rfl (lv_at hl 0 rfl) ?_
        refine va_get (D := D) (ci := 6) (v := .ref (a 2)) (C := RX7) (T := TX7) (N := 4) hx hb hts inX7 hown hK hP 0 rfl rfl 1 (by decide) (hts _ q_424) (fun _ h9 => h9) rfl dX7_window_26 ?_
        refine lv_iconst (v := 0) hx hb dX7_window_29 (by decide) ?_
        refine cl_v (ws' := fun u5 => (wX7 cI cZ a (T.1, u5.2.2.2.2.2.1, u5.2.2.2.2.2.2.1, u5.2.2.2.2.2.2.2.1, u5.2.2.2.2.2.2.2.2.1, u5.2.2.2.2.2.2.2.2.2, u5.1, u5.2.1, u5.2.2.1, u5.2.2.2.1, u5.2.2.2.2.1, T.2.2.2.2.2.2.2.2.2.2.2))) (va_runV (As := [.ref (a 2), .int 0]) (rest := []) ⟨hx, hb, hml, hown, hts⟩ (c_X3_copyFrom l D cI cZ (fun k => if k = 23 then a 1 else a (k + 25)) (fun k => if k = 23 then a 1 else a (k + 2)) _ (T.2.2.2.2.2.2.1, T.2.2.2.2.2.2.2.1, T.2.2.2.2.2.2.2.2.1, T.2.2.2.2.2.2.2.2.2.1, T.2.2.2.2.2.2.2.2.2.2.1, T.2.1, T.2.2.1, T.2.2.2.1, T.2.2.2.2.1, T.2.2.2.2.2.1) 0 _ h ) (cwV 2 hts (gV q_845 q_846 q_847 q_68 q_848) rfl rfl rfl (by decide +kernel) ⟨Nat.le_of_ble_eq_true rfl, Nat.le_of_ble_eq_true rfl⟩) (preV_of (ci := 3) (q := (RX3, TX3, 12)) hK hP hD [25, 26, 27, 28, 29, 30, 31, 32, 33, 34, 35, 36, 37, 38, 39, 40, 41, 42, 43, 44, 45, 46, 47, 2, 3, 4, 5, 6, 7, 8, 9, 10, 11, 12, 13, 14, 15, 16, 17, 18, 19, 20, 21, 22, 23, 24] rfl rfl (by decide) 25 rfl rfl) rfl rfl hl.1 rfl (lv_room (Nat.le_of_ble_eq_true rfl)) dX7_window_30 ⟨Nat.zero_le _, Nat.zero_le _⟩) hP hD hS hA [25, 26, 27, 28, 29, 30, 31, 32, 33, 34, 35, 36, 37, 38, 39, 40, 41, 42, 43, 44, 45, 46, 47, 2, 3, 4, 5, 6, 7, 8, 9, 10, 11, 12, 13, 14, 15, 16, 17, 18, 19, 20, 21, 22, 23, 24] [.inr 0, .inr 1, .inl 23, .inl 24, .inl 25, .inl 26, .inl 27, .inl 28, .inl 29, .inl 30, .inl 31, .inl 32, .inl 33, .inl 34, .inl 35, .inl 36, .inl 37, .inl 38, .inl 39, .inl 40, .inl 41, .inl 42, .inl 43, .inl 44, .inl 45, .inl 0, .inl 1, .inl 2, .inl 3, .inl 4, .inl 5, .inl 6, .inl 7, .inl 8, .inl 9, .inl 10, .inl 11, .inl 12, .inl 13, .inl 14, .inl 15, .inl 16, .inl 17, .inl 18, .inl 19, .inl 20, .inl 21, .inl 22, .inr 48, .inr 49, .inr 50, .inr 51, .inr 52, .inr 53] rfl (by decide) (fun _ => rfl) (fun _ => rfl) (fun u5 H locs h hP hD hS => ?_)
        refine lv_iconst (v := 0) hx hb dX7_window_33 (by decide) ?_
        refine lv_istore (lv' := [(4, .int 0), (0, .ref (a 0)), (1, .int y1), (2, .int y2), (3, .int y3)]) hx hb dX7_window_34 hl (by decide) rfl (fun ls hl => ?_)
        exact L36 _ ih 2000 y1 y2 y3 0 (T.1, u5.2.2.2.2.2.1, u5.2.2.2.2.2.2.1, u5.2.2.2.2.2.2.2.1, u5.2.2.2.2.2.2.2.2.1, u5.2.2.2.2.2.2.2.2.2, u5.1, u5.2.1, u5.2.2.1, u5.2.2.2.1, u5.2.2.2.2.1, T.2.2.2.2.2.2.2.2.2.2.2) _ _ _ hP hD hS (lv_sub hl [1, 2, 3, 4, 0] rfl) h
  have hl := lv_entry ([.ref (a 0), .int p0]) (n := 5) (Nat.le_of_ble_eq_true rfl)
  rw [lg_entry_eq]
  generalize (lg_sl ([.ref (a 0), .int p0]) ++ List.replicate (5 - (lg_sl ([.ref (a 0), .int p0])).length) Slot.unset).toArray = ls at hl ⊢
  have hl : lv_has ls 5 [(0, .ref (a 0)), (1, .int p0)] := hl
  unfold wp_X7_window at h
  refine lv_iload_n hx hb dX7_window_0 rfl (lv_at hl 1 rfl) ?_
  refine lv_bipush (v := 18) hx hb dX7_window_1 (by decide) ?_
  refine cl_i (ws' := fun u1 => (wX7 cI cZ a S)) (va_runS (As := [.int p0, .int 18]) (rest := []) ⟨hx, hb, hml, hown, hts⟩ (c_X7_isBelow l D cI cZ _ () p0 18 _ h ) (va_cwS 2 hts (gS q_451 q_452 q_67 q_453) rfl rfl rfl (by decide +kernel) ⟨Nat.le_of_ble_eq_true rfl, Nat.le_of_ble_eq_true rfl⟩) (preS_of hK hP hD [] rfl rfl (by decide)) rfl rfl hl.1 rfl (lv_room (Nat.le_of_ble_eq_true rfl)) dX7_window_3 ⟨Nat.zero_le _, Nat.zero_le _⟩) hP hD hS hA [] [.inr 0, .inr 1, .inr 2, .inr 3, .inr 4, .inr 5, .inr 6, .inr 7, .inr 8, .inr 9, .inr 10, .inr 11, .inr 12, .inr 13, .inr 14, .inr 15, .inr 16, .inr 17, .inr 18, .inr 19, .inr 20, .inr 21, .inr 22, .inr 23, .inr 24, .inr 25, .inr 26, .inr 27, .inr 28, .inr 29, .inr 30, .inr 31, .inr 32, .inr 33, .inr 34, .inr 35, .inr 36, .inr 37, .inr 38, .inr 39, .inr 40, .inr 41, .inr 42, .inr 43, .inr 44, .inr 45, .inr 46, .inr 47, .inr 48, .inr 49, .inr 50, .inr 51, .inr 52, .inr 53] rfl (by decide) (fun _ => rfl) (fun _ => rfl) (fun r2 u1 H locs h hP hD hS => ?_)
  refine lv_if_ne (tgt := 11) hx hb dX7_window_6 (by decide) (fun c3 => ?_) (fun c3 => ?_)
  · have h := h.1 c3
    refine lv_iconst (v := 0) hx hb dX7_window_11 (by decide) ?_
    refine lv_istore_n (lv' := [(2, .int 0), (0, .ref (a 0)), (1, .int p0)]) hx hb dX7_window_12 rfl hl (by decide) rfl (fun ls hl => ?_)
    refine lv_iconst (v := 0) hx hb dX7_window_13 (by decide) ?_
    refine lv_istore_n (lv' := [(3, .int 0), (2, .int 0), (0, .ref (a 0)), (1, .int p0)]) hx hb dX7_window_14 rfl hl (by decide) rfl (fun ls hl => ?_)
    exact L15 2000 p0 0 0 S _ _ _ hP hD hS (lv_sub hl [2, 3, 1, 0] rfl) h
  · have h := h.2 c3
    refine lv_iconst (v := -1) hx hb dX7_window_9 (by decide) ?_
    exact W.iret (v := (-1)) hx hb hr (fun t ht hW => ⟨⟨(-1), S, rfl, h, by rw [ht]; exact hP, va_K.moved hW.alike hK, hD⟩, hS.F ht⟩) hS.2.2 dX7_window_10
/-! X7_keeps -/
abbrev rmX7_keeps : Room := { frames := 6, cells := 0, slots := 0, locals := 144 }
set_option maxHeartbeats 4000000 in
set_option maxRecDepth 100000 in
theorem c_X7_keeps (l : Launch) (D : va_G) (cI cZ : ClassId) (a : Nat → Nat) (sz : Nat) (S : (Nat → Int32) × (Nat → Int32) × Ob × Ob × Ob × Ob × (Nat → Int32) × Ob × Ob × Ob × Ob × Ob) (Q : Int32 → ((Nat → Int32) × (Nat → Int32) × Ob × Ob × Ob × Ob × (Nat → Int32) × Ob × Ob × Ob × Ob × Ob) → Prop) (h : wp_X7_keeps S Q) : Met l yX7_keeps (wsm yX7_keeps cX7_keeps 4 (some .int)) rmX7_keeps (va_Pc [.ref (a 0)] (preT D cI cZ sz (wX7 cI cZ a S))) (va_Qi Q (fun u => atW D cI cZ (va_A (wX7 cI cZ a S) sz) (wX7 cI cZ a u)) (va_A (wX7 cI cZ a S) sz)) 0 0 (va_A (wX7 cI cZ a S) sz) := by
  refine Met.ofW (cc := cX7_keeps) (maxL := 4) (ret := (some .int)) (by decide) rfl ?_
  intro p e s m args below meth c s₁ B hml hv
  obtain ⟨rfl, ⟨hsz, hP, hK, hD0⟩, hF⟩ := hv
  have hx := B.exec
  have hb := B.bytes
  have hr := B.returns
  have hts0 := atoms_spec (ws := wsm yX7_keeps cX7_keeps 4 (some .int)) B.pre
  have hts : ∀ w ∈ lw_all, w.before _ s = true := fun w h => hts0 w (List.mem_cons_of_mem _ h)
  have hown : s.vm.findClass RX7 = some m.cls := findClass_of_methodNamed B.named
  have hlocks := B.notSynchronized
  subst hsz
  have hD := hD0.self (sz := s.heap.size)
  generalize hAe : va_A (wX7 cI cZ a S) s.heap.size = A at hD hF ⊢
  have hA : ∀ q : Nat, s.heap.size ≤ q → A q := fun q h => by rw [← hAe]; exact Or.inr h
  have hS : va_S A s.heap s.heap [] := va_S.rf
  have hml2 := hml
  have L109 : ∀ (k66 : Int32 → Int32 → Int32 → ((Nat → Int32) × (Nat → Int32) × Ob × Ob × Ob × Ob × (Nat → Int32) × Ob × Ob × Ob × Ob × Ob) → Prop) (K66 : ∀ (y1 : Int32) (y2 : Int32) (y3 : Int32) (T : (Nat → Int32) × (Nat → Int32) × Ob × Ob × Ob × Ob × (Nat → Int32) × Ob × Ob × Ob × Ob × Ob) (H : Heap) (locs : List Loc) (ls : Array Slot), va_P D vwCl (wX7 cI cZ a T) H → va_D A (wX7 cI cZ a T) → va_S A s.heap H locs → lv_has ls 4 [(0, .ref (a 0)), (1, .int y1), (2, .int y2), (3, .int y3)] → k66 y1 y2 y3 T → W p l e rmX7_keeps s m ([.ref (a 0)] : List Value).toArray below meth c H locs 0 0 (MQ below (va_Qi Q (fun u => atW D cI cZ A (wX7 cI cZ a u)) A) ([.ref (a 0)] : List Value).toArray s 0 0 A) (F0 m 66 ls [])) (y1 : Int32) (y3 : Int32) (T : (Nat → Int32) × (Nat → Int32) × Ob × Ob × Ob × Ob × (Nat → Int32) × Ob × Ob × Ob × Ob × Ob) (H : Heap) (locs : List Loc) (ls : Array Slot), va_P D vwCl (wX7 cI cZ a T) H → va_D A (wX7 cI cZ a T) → va_S A s.heap H locs → lv_has ls 4 [(0, .ref (a 0)), (1, .int y1), (3, .int y3)] → wp_X7_keeps_L109 Q k66 y1 y3 T → W p l e rmX7_keeps s m ([.ref (a 0)] : List Value).toArray below meth c H locs 0 0 (MQ below (va_Qi Q (fun u => atW D cI cZ A (wX7 cI cZ a u)) A) ([.ref (a 0)] : List Value).toArray s 0 0 A) (F0 m 109 ls []) := by
    intro k66 K66 y1 y3 T H locs ls hP hD hS hl h
    unfold wp_X7_keeps_L109 at h
    refine lv_iconst (v := 1) hx hb dX7_keeps_109 (by decide) ?_
    refine lv_goto (tgt := 114) hx hb dX7_keeps_110 (by decide) ?_
    refine lv_istore_n (lv' := [(2, .int 1), (0, .ref (a 0)), (1, .int y1), (3, .int y3)]) hx hb dX7_keeps_114 rfl hl (by decide) rfl (fun ls hl => ?_)
    refine lv_iload_n hx hb dX7_keeps_115 rfl (lv_at hl 0 rfl) ?_
    refine lv_if_eq (tgt := 169) hx hb dX7_keeps_116 (by decide) (fun c22 => ?_) (fun c22 => ?_)
    · have h := h.1 c22
      obtain ⟨x23, ex23⟩ : ∃ y : Int32, y = (y3 + 1) := ⟨_, rfl⟩
      have h := h x23 ex23
      refine lv_iinc (v := x23) (lv' := [(3, .int x23), (2, .int 1), (0, .ref (a 0)), (1, .int y1)]) hx hb dX7_keeps_169 hl (k := 3) rfl (by rw [ex23]; rfl) (by decide) rfl (fun ls hl => ?_)
      refine lv_goto (tgt := 66) hx hb dX7_keeps_172 (by decide) ?_
      exact K66 y1 1 x23 T _ _ _ hP hD hS (lv_sub hl [2, 3, 1, 0] rfl) h
    · have h := h.2 c22
      refine lv_aload_n hx hb dX7_keeps_119 rfl (lv_at hl 1 rfl) ?_
      refine va_get (D := D) (ci := 6) (v := .ref (a 25)) (C := RX7) (T := TX7) (N := 4) hx hb hts inX7 hown hK hP 0 rfl rfl 2 (by decide) (hts _ q_425) (fun _ h9 => h9) rfl dX7_keeps_120 ?_
      refine va_get (D := D) (ci := 3) (v := .int (T.2.2.2.2.2.2.1 5)) (C := RX3) (T := TX3) (N := 12) hx hb hts inX3 hown hK hP 25 rfl rfl 5 (by decide) (hts _ q_359) (fun _ h9 => h9) rfl dX7_keeps_123 ?_
      refine lv_if_ne (tgt := 169) hx hb dX7_keeps_126 (by decide) (fun c24 => ?_) (fun c24 => ?_)
      · have h := h.1 c24
        obtain ⟨x25, ex25⟩ : ∃ y : Int32, y = (y3 + 1) := ⟨_, rfl⟩
        have h := h x25 ex25
        refine lv_iinc (v := x25) (lv' := [(3, .int x25), (2, .int 1), (0, .ref (a 0)), (1, .int y1)]) hx hb dX7_keeps_169 hl (k := 3) rfl (by rw [ex25]; rfl) (by decide) rfl (fun ls hl => ?_)
        refine lv_goto (tgt := 66) hx hb dX7_keeps_172 (by decide) ?_
        exact K66 y1 1 x25 T _ _ _ hP hD hS (lv_sub hl [2, 3, 1, 0] rfl) h
      · have h := h.2 c24
        refine lv_aload_n hx hb dX7_keeps_129 rfl (lv_at hl 1 rfl) ?_
        refine va_get (D := D) (ci := 6) (v := .ref (a 25)) (C := RX7) (T := TX7) (N := 4) hx hb hts inX7 hown hK hP 0 rfl rfl 2 (by decide) (hts _ q_425) (fun _ h9 => h9) rfl dX7_keeps_130 ?_
        refine va_get (D := D) (ci := 3) (v := .ref (a 26)) (C := RX3) (T := TX3) (N := 12) hx hb hts inX3 hown hK hP 25 rfl rfl 0 (by decide) (hts _ q_349) (fun _ h9 => h9) rfl dX7_keeps_133 ?_
        refine va_get (D := D) (ci := 4) (v := .int (T.2.2.2.2.2.2.2.1.1 10)) (C := RX5) (T := TX5) (N := 16) hx hb hts inX5 hown hK hP 26 rfl rfl 10 (by decide) (hts _ q_133) (fun _ h9 => h9) rfl dX7_keeps_136 ?_
        refine lv_iload_n hx hb dX7_keeps_139 rfl (lv_at hl 2 rfl) ?_
        refine lv_icmp_ne (tgt := 169) hx hb dX7_keeps_140 (by decide) (fun c26 => ?_) (fun c26 => ?_)
        · have h := h.1 c26
          obtain ⟨x27, ex27⟩ : ∃ y : Int32, y = (y3 + 1) := ⟨_, rfl⟩
          have h := h x27 ex27
          refine lv_iinc (v := x27) (lv' := [(3, .int x27), (2, .int 1), (0, .ref (a 0)), (1, .int y1)]) hx hb dX7_keeps_169 hl (k := 3) rfl (by rw [ex27]; rfl) (by decide) rfl (fun ls hl => ?_)
          refine lv_goto (tgt := 66) hx hb dX7_keeps_172 (by decide) ?_
          exact K66 y1 1 x27 T _ _ _ hP hD hS (lv_sub hl [2, 3, 1, 0] rfl) h
        · have h := h.2 c26
          refine lv_aload_n hx hb dX7_keeps_143 rfl (lv_at hl 1 rfl) ?_
          refine va_get (D := D) (ci := 6) (v := .ref (a 25)) (C := RX7) (T := TX7) (N := 4) hx hb hts inX7 hown hK hP 0 rfl rfl 2 (by decide) (hts _ q_425) (fun _ h9 => h9) rfl dX7_keeps_144 ?_
          refine va_get (D := D) (ci := 3) (v := .ref (a 43)) (C := RX3) (T := TX3) (N := 12) hx hb hts inX3 hown hK hP 25 rfl rfl 3 (by decide) (hts _ q_355) (fun _ h9 => h9) rfl dX7_keeps_147 ?_
          refine lv_aload_n hx hb dX7_keeps_150 rfl (lv_at hl 1 rfl) ?_
          refine va_get (D := D) (ci := 6) (v := .ref (a 2)) (C := RX7) (T := TX7) (N := 4) hx hb hts inX7 hown hK hP 0 rfl rfl 1 (by decide) (hts _ q_424) (fun _ h9 => h9) rfl dX7_keeps_151 ?_
          refine va_get (D := D) (ci := 3) (v := .ref (a 20)) (C := RX3) (T := TX3) (N := 12) hx hb hts inX3 hown hK hP 2 rfl rfl 3 (by decide) (hts _ q_355) (fun _ h9 => h9) rfl dX7_keeps_154 ?_
          refine cl_i (ws' := fun u28 => (wX7 cI cZ a (T.1, T.2.1, T.2.2.1, T.2.2.2.1, T.2.2.2.2.1, u28.2, T.2.2.2.2.2.2.1, T.2.2.2.2.2.2.2.1, T.2.2.2.2.2.2.2.2.1, T.2.2.2.2.2.2.2.2.2.1, u28.1, T.2.2.2.2.2.2.2.2.2.2.2))) (va_runV (As := [.ref (a 20)]) (rest := []) ⟨hx, hb, hml, hown, hts⟩ (c_X1_isLike l D cI cZ (fun k => if k = 5 then a 1 else a (k + 43)) (fun k => if k = 5 then a 1 else a (k + 20)) _ (T.2.2.2.2.2.2.2.2.2.2.1, T.2.2.2.2.2.1) _ h ) (cwV 1 hts (gV q_886 q_887 q_888 q_73 q_889) rfl rfl rfl (by decide +kernel) ⟨Nat.le_of_ble_eq_true rfl, Nat.le_of_ble_eq_true rfl⟩) (preV_of (ci := 1) (q := (RX1, TX1, 14)) hK hP hD [43, 44, 45, 46, 47, 20, 21, 22, 23, 24] rfl rfl (by decide) 43 rfl rfl) rfl rfl hl.1 rfl (lv_room (Nat.le_of_ble_eq_true rfl)) dX7_keeps_157 ⟨Nat.zero_le _, Nat.zero_le _⟩) hP hD hS hA [43, 44, 45, 46, 47, 20, 21, 22, 23, 24] [.inr 0, .inr 1, .inr 2, .inr 3, .inr 4, .inr 5, .inr 6, .inr 7, .inr 8, .inr 9, .inr 10, .inr 11, .inr 12, .inr 13, .inr 14, .inr 15, .inr 16, .inr 17, .inr 18, .inr 19, .inl 5, .inl 6, .inl 7, .inl 8, .inl 9, .inr 25, .inr 26, .inr 27, .inr 28, .inr 29, .inr 30, .inr 31, .inr 32, .inr 33, .inr 34, .inr 35, .inr 36, .inr 37, .inr 38, .inr 39, .inr 40, .inr 41, .inr 42, .inl 0, .inl 1, .inl 2, .inl 3, .inl 4, .inr 48, .inr 49, .inr 50, .inr 51, .inr 52, .inr 53] rfl (by decide) (fun _ => rfl) (fun _ => rfl) (fun r29 u28 H locs h hP hD hS => ?_)
          refine lv_if_eq (tgt := 167) hx hb dX7_keeps_160 (by decide) (fun c30 => ?_) (fun c30 => ?_)
          · have h := h.1 c30
            refine lv_iconst (v := 0) hx hb dX7_keeps_167 (by decide) ?_
            exact W.iret (v := 0) hx hb hr (fun t ht hW => ⟨⟨0, (T.1, T.2.1, T.2.2.1, T.2.2.2.1, T.2.2.2.2.1, u28.2, T.2.2.2.2.2.2.1, T.2.2.2.2.2.2.2.1, T.2.2.2.2.2.2.2.2.1, T.2.2.2.2.2.2.2.2.2.1, u28.1, T.2.2.2.2.2.2.2.2.2.2.2), rfl, h, by rw [ht]; exact hP, va_K.moved hW.alike hK, hD⟩, hS.F ht⟩) hS.2.2 dX7_keeps_168
          · have h := h.2 c30
            refine lv_iconst (v := 1) hx hb dX7_keeps_163 (by decide) ?_
            refine lv_goto (tgt := 168) hx hb dX7_keeps_164 (by decide) ?_
            exact W.iret (v := 1) hx hb hr (fun t ht hW => ⟨⟨1, (T.1, T.2.1, T.2.2.1, T.2.2.2.1, T.2.2.2.2.1, u28.2, T.2.2.2.2.2.2.1, T.2.2.2.2.2.2.2.1, T.2.2.2.2.2.2.2.2.1, T.2.2.2.2.2.2.2.2.2.1, u28.1, T.2.2.2.2.2.2.2.2.2.2.2), rfl, h, by rw [ht]; exact hP, va_K.moved hW.alike hK, hD⟩, hS.F ht⟩) hS.2.2 dX7_keeps_168
  have L66 : ∀ (n : Nat), ∀ (y1 : Int32) (y2 : Int32) (y3 : Int32) (T : (Nat → Int32) × (Nat → Int32) × Ob × Ob × Ob × Ob × (Nat → Int32) × Ob × Ob × Ob × Ob × Ob) (H : Heap) (locs : List Loc) (ls : Array Slot), va_P D vwCl (wX7 cI cZ a T) H → va_D A (wX7 cI cZ a T) → va_S A s.heap H locs → lv_has ls 4 [(0, .ref (a 0)), (1, .int y1), (2, .int y2), (3, .int y3)] → wp_X7_keeps_L66 Q n y1 y2 y3 T → W p l e rmX7_keeps s m ([.ref (a 0)] : List Value).toArray below meth c H locs 0 0 (MQ below (va_Qi Q (fun u => atW D cI cZ A (wX7 cI cZ a u)) A) ([.ref (a 0)] : List Value).toArray s 0 0 A) (F0 m 66 ls []) := by
    intro n
    induction n with
    | zero =>
      intro y1 y2 y3 T H locs ls hP hD hS hl h
      exact False.elim h
    | succ n ih =>
      intro y1 y2 y3 T H locs ls hP hD hS hl h
      unfold wp_X7_keeps_L66 at h
      refine lv_iload_n hx hb dX7_keeps_66 rfl (lv_at hl 3 rfl) ?_
      refine lv_sipush (v := 300) hx hb dX7_keeps_67 (by decide) ?_
      refine lv_icmp_ge (tgt := 175) hx hb dX7_keeps_70 (by decide) (fun c8 => ?_) (fun c8 => ?_)
      · have h := h.1 c8
        refine lv_iconst (v := -1) hx hb dX7_keeps_175 (by decide) ?_
        exact W.iret (v := (-1)) hx hb hr (fun t ht hW => ⟨⟨(-1), T, rfl, h, by rw [ht]; exact hP, va_K.moved hW.alike hK, hD⟩, hS.F ht⟩) hS.2.2 dX7_keeps_176
      · have h := h.2 c8
        refine lv_aload_n hx hb dX7_keeps_73 rfl (lv_at hl 0 rfl) ?_
        refine va_get (D := D) (ci := 6) (v := .ref (a 25)) (C := RX7) (T := TX7) (N := 4) hx hb hts inX7 hown hK hP 0 rfl rfl 2 (by decide) (hts _ q_425) (fun _ h9 => h9) rfl dX7_keeps_74 ?_
        refine va_get (D := D) (ci := 3) (v := .int (T.2.2.2.2.2.2.1 5)) (C := RX3) (T := TX3) (N := 12) hx hb hts inX3 hown hK hP 25 rfl rfl 5 (by decide) (hts _ q_359) (fun _ h9 => h9) rfl dX7_keeps_77 ?_
        refine lv_iconst (v := 5) hx hb dX7_keeps_80 (by decide) ?_
        refine lv_icmp_eq (tgt := 175) hx hb dX7_keeps_81 (by decide) (fun c9 => ?_) (fun c9 => ?_)
        · have h := h.1 c9
          refine lv_iconst (v := -1) hx hb dX7_keeps_175 (by decide) ?_
          exact W.iret (v := (-1)) hx hb hr (fun t ht hW => ⟨⟨(-1), T, rfl, h, by rw [ht]; exact hP, va_K.moved hW.alike hK, hD⟩, hS.F ht⟩) hS.2.2 dX7_keeps_176
        · have h := h.2 c9
          refine lv_aload_n hx hb dX7_keeps_84 rfl (lv_at hl 0 rfl) ?_
          refine va_get (D := D) (ci := 6) (v := .ref (a 25)) (C := RX7) (T := TX7) (N := 4) hx hb hts inX7 hown hK hP 0 rfl rfl 2 (by decide) (hts _ q_425) (fun _ h9 => h9) rfl dX7_keeps_85 ?_
          refine cl_v (ws' := fun u10 => (wX7 cI cZ a (u10.2.2.2.2.2, T.2.1, T.2.2.1, T.2.2.2.1, T.2.2.2.2.1, T.2.2.2.2.2.1, u10.1, u10.2.1, u10.2.2.1, u10.2.2.2.1, u10.2.2.2.2.1, T.2.2.2.2.2.2.2.2.2.2.2))) (va_runV (As := []) (rest := []) ⟨hx, hb, hml, hown, hts⟩ (c_X3_cycle l D cI cZ (fun k => if k = 23 then a 1 else a (k + 25)) _ (T.2.2.2.2.2.2.1, T.2.2.2.2.2.2.2.1, T.2.2.2.2.2.2.2.2.1, T.2.2.2.2.2.2.2.2.2.1, T.2.2.2.2.2.2.2.2.2.2.1, T.1) _ h ) (cwV 0 hts (gV q_502 q_503 q_504 q_68 q_505) rfl rfl rfl (by decide +kernel) ⟨Nat.le_of_ble_eq_true rfl, Nat.le_of_ble_eq_true rfl⟩) (preTV_of (ci := 3) (q := (RX3, TX3, 12)) hF hS hA hK hP hD [25, 26, 27, 28, 29, 30, 31, 32, 33, 34, 35, 36, 37, 38, 39, 40, 41, 42, 43, 44, 45, 46, 47, 1] rfl rfl (by decide) 25 rfl rfl) rfl rfl hl.1 rfl (lv_room (Nat.le_of_ble_eq_true rfl)) dX7_keeps_88 ⟨Nat.zero_le _, Nat.zero_le _⟩) hP hD hS hA [25, 26, 27, 28, 29, 30, 31, 32, 33, 34, 35, 36, 37, 38, 39, 40, 41, 42, 43, 44, 45, 46, 47, 1] [.inr 0, .inl 23, .inr 2, .inr 3, .inr 4, .inr 5, .inr 6, .inr 7, .inr 8, .inr 9, .inr 10, .inr 11, .inr 12, .inr 13, .inr 14, .inr 15, .inr 16, .inr 17, .inr 18, .inr 19, .inr 20, .inr 21, .inr 22, .inr 23, .inr 24, .inl 0, .inl 1, .inl 2, .inl 3, .inl 4, .inl 5, .inl 6, .inl 7, .inl 8, .inl 9, .inl 10, .inl 11, .inl 12, .inl 13, .inl 14, .inl 15, .inl 16, .inl 17, .inl 18, .inl 19, .inl 20, .inl 21, .inl 22, .inr 48, .inr 49, .inr 50, .inr 51, .inr 52, .inr 53] rfl (by decide) (fun _ => rfl) (fun _ => rfl) (fun u10 H locs h hP hD hS => ?_)
          refine lv_iload_n hx hb dX7_keeps_91 rfl (lv_at hl 2 rfl) ?_
          refine lv_if_ne (tgt := 109) hx hb dX7_keeps_92 (by decide) (fun c11 => ?_) (fun c11 => ?_)
          · have h := h.1 c11
            exact L109 _ ih y1 y3 (u10.2.2.2.2.2, T.2.1, T.2.2.1, T.2.2.2.1, T.2.2.2.2.1, T.2.2.2.2.2.1, u10.1, u10.2.1, u10.2.2.1, u10.2.2.2.1, u10.2.2.2.2.1, T.2.2.2.2.2.2.2.2.2.2.2) _ _ _ hP hD hS (lv_sub hl [0, 1, 3] rfl) h
          · have h := h.2 c11
            refine lv_aload_n hx hb dX7_keeps_95 rfl (lv_at hl 0 rfl) ?_
            refine va_get (D := D) (ci := 6) (v := .ref (a 25)) (C := RX7) (T := TX7) (N := 4) hx hb hts inX7 hown hK hP 0 rfl rfl 2 (by decide) (hts _ q_425) (fun _ h9 => h9) rfl dX7_keeps_96 ?_
            refine va_get (D := D) (ci := 3) (v := .ref (a 26)) (C := RX3) (T := TX3) (N := 12) hx hb hts inX3 hown hK hP 25 rfl rfl 0 (by decide) (hts _ q_349) (fun _ h9 => h9) rfl dX7_keeps_99 ?_
            refine va_get (D := D) (ci := 4) (v := .int (u10.2.1.1 10)) (C := RX5) (T := TX5) (N := 16) hx hb hts inX5 hown hK hP 26 rfl rfl 10 (by decide) (hts _ q_133) (fun _ h9 => h9) rfl dX7_keeps_102 ?_
            refine lv_iload_n hx hb dX7_keeps_105 rfl (lv_at hl 1 rfl) ?_
            refine lv_icmp_le (tgt := 113) hx hb dX7_keeps_106 (by decide) (fun c12 => ?_) (fun c12 => ?_)
            · have h := h.1 c12
              refine lv_iconst (v := 0) hx hb dX7_keeps_113 (by decide) ?_
              refine lv_istore_n (lv' := [(2, .int 0), (0, .ref (a 0)), (1, .int y1), (3, .int y3)]) hx hb dX7_keeps_114 rfl hl (by decide) rfl (fun ls hl => ?_)
              refine lv_iload_n hx hb dX7_keeps_115 rfl (lv_at hl 0 rfl) ?_
              refine lv_if_eq (tgt := 169) hx hb dX7_keeps_116 (by decide) (fun c13 => ?_) (fun c13 => ?_)
              · have h := h.1 c13
                obtain ⟨x14, ex14⟩ : ∃ y : Int32, y = (y3 + 1) := ⟨_, rfl⟩
                have h := h x14 ex14
                refine lv_iinc (v := x14) (lv' := [(3, .int x14), (2, .int 0), (0, .ref (a 0)), (1, .int y1)]) hx hb dX7_keeps_169 hl (k := 3) rfl (by rw [ex14]; rfl) (by decide) rfl (fun ls hl => ?_)
                refine lv_goto (tgt := 66) hx hb dX7_keeps_172 (by decide) ?_
                exact ih y1 0 x14 (u10.2.2.2.2.2, T.2.1, T.2.2.1, T.2.2.2.1, T.2.2.2.2.1, T.2.2.2.2.2.1, u10.1, u10.2.1, u10.2.2.1, u10.2.2.2.1, u10.2.2.2.2.1, T.2.2.2.2.2.2.2.2.2.2.2) _ _ _ hP hD hS (lv_sub hl [2, 3, 1, 0] rfl) h
              · have h := h.2 c13
                refine lv_aload_n hx hb dX7_keeps_119 rfl (lv_at hl 1 rfl) ?_
                refine va_get (D := D) (ci := 6) (v := .ref (a 25)) (C := RX7) (T := TX7) (N := 4) hx hb hts inX7 hown hK hP 0 rfl rfl 2 (by decide) (hts _ q_425) (fun _ h9 => h9) rfl dX7_keeps_120 ?_
                refine va_get (D := D) (ci := 3) (v := .int (u10.1 5)) (C := RX3) (T := TX3) (N := 12) hx hb hts inX3 hown hK hP 25 rfl rfl 5 (by decide) (hts _ q_359) (fun _ h9 => h9) rfl dX7_keeps_123 ?_
                refine lv_if_ne (tgt := 169) hx hb dX7_keeps_126 (by decide) (fun c15 => ?_) (fun c15 => ?_)
                · have h := h.1 c15
                  obtain ⟨x16, ex16⟩ : ∃ y : Int32, y = (y3 + 1) := ⟨_, rfl⟩
                  have h := h x16 ex16
                  refine lv_iinc (v := x16) (lv' := [(3, .int x16), (2, .int 0), (0, .ref (a 0)), (1, .int y1)]) hx hb dX7_keeps_169 hl (k := 3) rfl (by rw [ex16]; rfl) (by decide) rfl (fun ls hl => ?_)
                  refine lv_goto (tgt := 66) hx hb dX7_keeps_172 (by decide) ?_
                  exact ih y1 0 x16 (u10.2.2.2.2.2, T.2.1, T.2.2.1, T.2.2.2.1, T.2.2.2.2.1, T.2.2.2.2.2.1, u10.1, u10.2.1, u10.2.2.1, u10.2.2.2.1, u10.2.2.2.2.1, T.2.2.2.2.2.2.2.2.2.2.2) _ _ _ hP hD hS (lv_sub hl [2, 3, 1, 0] rfl) h
                · have h := h.2 c15
                  refine lv_aload_n hx hb dX7_keeps_129 rfl (lv_at hl 1 rfl) ?_
                  refine va_get (D := D) (ci := 6) (v := .ref (a 25)) (C := RX7) (T := TX7) (N := 4) hx hb hts inX7 hown hK hP 0 rfl rfl 2 (by decide) (hts _ q_425) (fun _ h9 => h9) rfl dX7_keeps_130 ?_
                  refine va_get (D := D) (ci := 3) (v := .ref (a 26)) (C := RX3) (T := TX3) (N := 12) hx hb hts inX3 hown hK hP 25 rfl rfl 0 (by decide) (hts _ q_349) (fun _ h9 => h9) rfl dX7_keeps_133 ?_
                  refine va_get (D := D) (ci := 4) (v := .int (u10.2.1.1 10)) (C := RX5) (T := TX5) (N := 16) hx hb hts inX5 hown hK hP 26 rfl rfl 10 (by decide) (hts _ q_133) (fun _ h9 => h9) rfl dX7_keeps_136 ?_
                  refine lv_iload_n hx hb dX7_keeps_139 rfl (lv_at hl 2 rfl) ?_
                  refine lv_icmp_ne (tgt := 169) hx hb dX7_keeps_140 (by decide) (fun c17 => ?_) (fun c17 => ?_)
                  · have h := h.1 c17
                    obtain ⟨x18, ex18⟩ : ∃ y : Int32, y = (y3 + 1) := ⟨_, rfl⟩
                    have h := h x18 ex18
                    refine lv_iinc (v := x18) (lv' := [(3, .int x18), (2, .int 0), (0, .ref (a 0)), (1, .int y1)]) hx hb dX7_keeps_169 hl (k := 3) rfl (by rw [ex18]; rfl) (by decide) rfl (fun ls hl => ?_)
                    refine lv_goto (tgt := 66) hx hb dX7_keeps_172 (by decide) ?_
                    exact ih y1 0 x18 (u10.2.2.2.2.2, T.2.1, T.2.2.1, T.2.2.2.1, T.2.2.2.2.1, T.2.2.2.2.2.1, u10.1, u10.2.1, u10.2.2.1, u10.2.2.2.1, u10.2.2.2.2.1, T.2.2.2.2.2.2.2.2.2.2.2) _ _ _ hP hD hS (lv_sub hl [2, 3, 1, 0] rfl) h
                  · have h := h.2 c17
                    refine lv_aload_n hx hb dX7_keeps_143 rfl (lv_at hl 1 rfl) ?_
                    refine va_get (D := D) (ci := 6) (v := .ref (a 25)) (C := RX7) (T := TX7) (N := 4) hx hb hts inX7 hown hK hP 0 rfl rfl 2 (by decide) (hts _ q_425) (fun _ h9 => h9) rfl dX7_keeps_144 ?_
                    refine va_get (D := D) (ci := 3) (v := .ref (a 43)) (C := RX3) (T := TX3) (N := 12) hx hb hts inX3 hown hK hP 25 rfl rfl 3 (by decide) (hts _ q_355) (fun _ h9 => h9) rfl dX7_keeps_147 ?_
                    refine lv_aload_n hx hb dX7_keeps_150 rfl (lv_at hl 1 rfl) ?_
                    refine va_get (D := D) (ci := 6) (v := .ref (a 2)) (C := RX7) (T := TX7) (N := 4) hx hb hts inX7 hown hK hP 0 rfl rfl 1 (by decide) (hts _ q_424) (fun _ h9 => h9) rfl dX7_keeps_151 ?_
                    refine va_get (D := D) (ci := 3) (v := .ref (a 20)) (C := RX3) (T := TX3) (N := 12) hx hb hts inX3 hown hK hP 2 rfl rfl 3 (by decide) (hts _ q_355) (fun _ h9 => h9) rfl dX7_keeps_154 ?_
                    refine cl_i (ws' := fun u19 => (wX7 cI cZ a (u10.2.2.2.2.2, T.2.1, T.2.2.1, T.2.2.2.1, T.2.2.2.2.1, u19.2, u10.1, u10.2.1, u10.2.2.1, u10.2.2.2.1, u19.1, T.2.2.2.2.2.2.2.2.2.2.2))) (va_runV (As := [.ref (a 20)]) (rest := []) ⟨hx, hb, hml, hown, hts⟩ (c_X1_isLike l D cI cZ (fun k => if k = 5 then a 1 else a (k + 43)) (fun k => if k = 5 then a 1 else a (k + 20)) _ (u10.2.2.2.2.1, T.2.2.2.2.2.1) _ h ) (cwV 1 hts (gV q_886 q_887 q_888 q_73 q_889) rfl rfl rfl (by decide +kernel) ⟨Nat.le_of_ble_eq_true rfl, Nat.le_of_ble_eq_true rfl⟩) (preV_of (ci := 1) (q := (RX1, TX1, 14)) hK hP hD [43, 44, 45, 46, 47, 20, 21, 22, 23, 24] rfl rfl (by decide) 43 rfl rfl) rfl rfl hl.1 rfl (lv_room (Nat.le_of_ble_eq_true rfl)) dX7_keeps_157 ⟨Nat.zero_le _, Nat.zero_le _⟩) hP hD hS hA [43, 44, 45, 46, 47, 20, 21, 22, 23, 24] [.inr 0, .inr 1, .inr 2, .inr 3, .inr 4, .inr 5, .inr 6, .inr 7, .inr 8, .inr 9, .inr 10, .inr 11, .inr 12, .inr 13, .inr 14, .inr 15, .inr 16, .inr 17, .inr 18, .inr 19, .inl 5, .inl 6, .inl 7, .inl 8, .inl 9, .inr 25, .inr 26, .inr 27, .inr 28, .inr 29, .inr 30, .inr 31, .inr 32, .inr 33, .inr 34, .inr 35, .inr 36, .inr 37, .inr 38, .inr 39, .inr 40, .inr 41, .inr 42, .inl 0, .inl 1, .inl 2, .inl 3, .inl 4, .inr 48, .inr 49, .inr 50, .inr 51, .inr 52, .inr 53] rfl (by decide) (fun _ => rfl) (fun _ => rfl) (fun r20 u19 H locs h hP hD hS => ?_)
                    refine lv_if_eq (tgt := 167) hx hb dX7_keeps_160 (by decide) (fun c21 => ?_) (fun c21 => ?_)
                    · have h := h.1 c21
                      refine lv_iconst (v := 0) hx hb dX7_keeps_167 (by decide) ?_
                      exact W.iret (v := 0) hx hb hr (fun t ht hW => ⟨⟨0, (u10.2.2.2.2.2, T.2.1, T.2.2.1, T.2.2.2.1, T.2.2.2.2.1, u19.2, u10.1, u10.2.1, u10.2.2.1, u10.2.2.2.1, u19.1, T.2.2.2.2.2.2.2.2.2.2.2), rfl, h, by rw [ht]; exact hP, va_K.moved hW.alike hK, hD⟩, hS.F ht⟩) hS.2.2 dX7_keeps_168
                    · have h := h.2 c21
                      refine lv_iconst (v := 1) hx hb dX7_keeps_163 (by decide) ?_
                      refine lv_goto (tgt := 168) hx hb dX7_keeps_164 (by decide) ?_
                      exact W.iret (v := 1) hx hb hr (fun t ht hW => ⟨⟨1, (u10.2.2.2.2.2, T.2.1, T.2.2.1, T.2.2.2.1, T.2.2.2.2.1, u19.2, u10.1, u10.2.1, u10.2.2.1, u10.2.2.2.1, u19.1, T.2.2.2.2.2.2.2.2.2.2.2), rfl, h, by rw [ht]; exact hP, va_K.moved hW.alike hK, hD⟩, hS.F ht⟩) hS.2.2 dX7_keeps_168
            · have h := h.2 c12
              exact L109 _ ih y1 y3 (u10.2.2.2.2.2, T.2.1, T.2.2.1, T.2.2.2.1, T.2.2.2.2.1, T.2.2.2.2.2.1, u10.1, u10.2.1, u10.2.2.1, u10.2.2.2.1, u10.2.2.2.2.1, T.2.2.2.2.2.2.2.2.2.2.2) _ _ _ hP hD hS (lv_sub hl [0, 1, 3] rfl) h
  have hl := lv_entry ([.ref (a 0)]) (n := 4) (Nat.le_of_ble_eq_true rfl)
  rw [lg_entry_eq]
  generalize (lg_sl ([.ref (a 0)]) ++ List.replicate (4 - (lg_sl ([.ref (a 0)])).length) Slot.unset).toArray = ls at hl ⊢
  have hl : lv_has ls 4 [(0, .ref (a 0))] := hl
  unfold wp_X7_keeps at h
  refine lv_aload_n hx hb dX7_keeps_0 rfl (lv_at hl 0 rfl) ?_
  refine va_get (D := D) (ci := 6) (v := .ref (a 2)) (C := RX7) (T := TX7) (N := 4) hx hb hts inX7 hown hK hP 0 rfl rfl 1 (by decide) (hts _ q_424) (fun _ h9 => h9) rfl dX7_keeps_1 ?_
  refine va_get (D := D) (ci := 3) (v := .int (S.2.1 5)) (C := RX3) (T := TX3) (N := 12) hx hb hts inX3 hown hK hP 2 rfl rfl 5 (by decide) (hts _ q_359) (fun _ h9 => h9) rfl dX7_keeps_4 ?_
  refine lv_if_ne (tgt := 37) hx hb dX7_keeps_7 (by decide) (fun c1 => ?_) (fun c1 => ?_)
  · have h := h.1 c1
    refine lv_iconst (v := -1) hx hb dX7_keeps_37 (by decide) ?_
    exact W.iret (v := (-1)) hx hb hr (fun t ht hW => ⟨⟨(-1), S, rfl, h, by rw [ht]; exact hP, va_K.moved hW.alike hK, hD⟩, hS.F ht⟩) hS.2.2 dX7_keeps_38
  · have h := h.2 c1
    refine lv_aload_n hx hb dX7_keeps_10 rfl (lv_at hl 0 rfl) ?_
    refine va_get (D := D) (ci := 6) (v := .ref (a 2)) (C := RX7) (T := TX7) (N := 4) hx hb hts inX7 hown hK hP 0 rfl rfl 1 (by decide) (hts _ q_424) (fun _ h9 => h9) rfl dX7_keeps_11 ?_
    refine va_get (D := D) (ci := 3) (v := .ref (a 20)) (C := RX3) (T := TX3) (N := 12) hx hb hts inX3 hown hK hP 2 rfl rfl 3 (by decide) (hts _ q_355) (fun _ h9 => h9) rfl dX7_keeps_14 ?_
    refine va_get (D := D) (ci := 1) (v := .int (S.2.2.2.2.2.1.1 10)) (C := RX1) (T := TX1) (N := 14) hx hb hts inX1 hown hK hP 20 rfl rfl 10 (by decide) (hts _ q_309) (fun _ h9 => h9) rfl dX7_keeps_17 ?_
    refine lv_if_ne (tgt := 37) hx hb dX7_keeps_20 (by decide) (fun c2 => ?_) (fun c2 => ?_)
    · have h := h.1 c2
      refine lv_iconst (v := -1) hx hb dX7_keeps_37 (by decide) ?_
      exact W.iret (v := (-1)) hx hb hr (fun t ht hW => ⟨⟨(-1), S, rfl, h, by rw [ht]; exact hP, va_K.moved hW.alike hK, hD⟩, hS.F ht⟩) hS.2.2 dX7_keeps_38
    · have h := h.2 c2
      refine lv_aload_n hx hb dX7_keeps_23 rfl (lv_at hl 0 rfl) ?_
      refine va_get (D := D) (ci := 6) (v := .ref (a 2)) (C := RX7) (T := TX7) (N := 4) hx hb hts inX7 hown hK hP 0 rfl rfl 1 (by decide) (hts _ q_424) (fun _ h9 => h9) rfl dX7_keeps_24 ?_
      refine va_get (D := D) (ci := 3) (v := .ref (a 3)) (C := RX3) (T := TX3) (N := 12) hx hb hts inX3 hown hK hP 2 rfl rfl 0 (by decide) (hts _ q_349) (fun _ h9 => h9) rfl dX7_keeps_27 ?_
      refine cl_i (ws' := fun u3 => (wX7 cI cZ a (S.1, S.2.1, u3, S.2.2.2.1, S.2.2.2.2.1, S.2.2.2.2.2.1, S.2.2.2.2.2.2.1, S.2.2.2.2.2.2.2.1, S.2.2.2.2.2.2.2.2.1, S.2.2.2.2.2.2.2.2.2.1, S.2.2.2.2.2.2.2.2.2.2.1, S.2.2.2.2.2.2.2.2.2.2.2))) (va_runV (As := []) (rest := []) ⟨hx, hb, hml, hown, hts⟩ (c_X5_next l D cI cZ (fun k => a (k + 3)) _ S.2.2.1 _ h ) (cwV 0 hts (gV q_817 q_524 q_525 q_69 q_526) rfl rfl rfl (by decide +kernel) ⟨Nat.le_of_ble_eq_true rfl, Nat.le_of_ble_eq_true rfl⟩) (preV_of (ci := 4) (q := (RX5, TX5, 16)) hK hP hD [3, 4, 5, 6, 7, 8, 9, 10, 11, 12, 13] rfl rfl (by decide) 3 rfl rfl) rfl rfl hl.1 rfl (lv_room (Nat.le_of_ble_eq_true rfl)) dX7_keeps_30 ⟨Nat.zero_le _, Nat.zero_le _⟩) hP hD hS hA [3, 4, 5, 6, 7, 8, 9, 10, 11, 12, 13] [.inr 0, .inr 1, .inr 2, .inl 0, .inl 1, .inl 2, .inl 3, .inl 4, .inl 5, .inl 6, .inl 7, .inl 8, .inl 9, .inl 10, .inr 14, .inr 15, .inr 16, .inr 17, .inr 18, .inr 19, .inr 20, .inr 21, .inr 22, .inr 23, .inr 24, .inr 25, .inr 26, .inr 27, .inr 28, .inr 29, .inr 30, .inr 31, .inr 32, .inr 33, .inr 34, .inr 35, .inr 36, .inr 37, .inr 38, .inr 39, .inr 40, .inr 41, .inr 42, .inr 43, .inr 44, .inr 45, .inr 46, .inr 47, .inr 48, .inr 49, .inr 50, .inr 51, .inr 52, .inr 53] rfl (by decide) (fun _ => rfl) (fun _ => rfl) (fun r4 u3 H locs h hP hD hS => ?_)
      refine lv_iconst (v := -1) hx hb dX7_keeps_33 (by decide) ?_
      refine lv_icmp_ne (tgt := 39) hx hb dX7_keeps_34 (by decide) (fun c5 => ?_) (fun c5 => ?_)
      · have h := h.1 c5
        refine lv_aload_n hx hb dX7_keeps_39 rfl (lv_at hl 0 rfl) ?_
        refine va_get (D := D) (ci := 6) (v := .ref (a 25)) (C := RX7) (T := TX7) (N := 4) hx hb hts inX7 hown hK hP 0 rfl rfl 2 (by decide) (hts _ q_425) (fun _ h9 => h9) rfl dX7_keeps_40 ?_
        refine lv_aload_n hx hb dX7_keeps_43 rfl (lv_at hl 0 rfl) ?_
        refine va_get (D := D) (ci := 6) (v := .ref (a 2)) (C := RX7) (T := TX7) (N := 4) hx hb hts inX7 hown hK hP 0 rfl rfl 1 (by decide) (hts _ q_424) (fun _ h9 => h9) rfl dX7_keeps_44 ?_
        refine lv_iconst (v := 0) hx hb dX7_keeps_47 (by decide) ?_
        refine cl_v (ws' := fun u6 => (wX7 cI cZ a (S.1, u6.2.2.2.2.2.1, u6.2.2.2.2.2.2.1, u6.2.2.2.2.2.2.2.1, u6.2.2.2.2.2.2.2.2.1, u6.2.2.2.2.2.2.2.2.2, u6.1, u6.2.1, u6.2.2.1, u6.2.2.2.1, u6.2.2.2.2.1, S.2.2.2.2.2.2.2.2.2.2.2))) (va_runV (As := [.ref (a 2), .int 0]) (rest := []) ⟨hx, hb, hml, hown, hts⟩ (c_X3_copyFrom l D cI cZ (fun k => if k = 23 then a 1 else a (k + 25)) (fun k => if k = 23 then a 1 else a (k + 2)) _ (S.2.2.2.2.2.2.1, S.2.2.2.2.2.2.2.1, S.2.2.2.2.2.2.2.2.1, S.2.2.2.2.2.2.2.2.2.1, S.2.2.2.2.2.2.2.2.2.2.1, S.2.1, u3, S.2.2.2.1, S.2.2.2.2.1, S.2.2.2.2.2.1) 0 _ h ) (cwV 2 hts (gV q_845 q_846 q_847 q_68 q_848) rfl rfl rfl (by decide +kernel) ⟨Nat.le_of_ble_eq_true rfl, Nat.le_of_ble_eq_true rfl⟩) (preV_of (ci := 3) (q := (RX3, TX3, 12)) hK hP hD [25, 26, 27, 28, 29, 30, 31, 32, 33, 34, 35, 36, 37, 38, 39, 40, 41, 42, 43, 44, 45, 46, 47, 2, 3, 4, 5, 6, 7, 8, 9, 10, 11, 12, 13, 14, 15, 16, 17, 18, 19, 20, 21, 22, 23, 24] rfl rfl (by decide) 25 rfl rfl) rfl rfl hl.1 rfl (lv_room (Nat.le_of_ble_eq_true rfl)) dX7_keeps_48 ⟨Nat.zero_le _, Nat.zero_le _⟩) hP hD hS hA [25, 26, 27, 28, 29, 30, 31, 32, 33, 34, 35, 36, 37, 38, 39, 40, 41, 42, 43, 44, 45, 46, 47, 2, 3, 4, 5, 6, 7, 8, 9, 10, 11, 12, 13, 14, 15, 16, 17, 18, 19, 20, 21, 22, 23, 24] [.inr 0, .inr 1, .inl 23, .inl 24, .inl 25, .inl 26, .inl 27, .inl 28, .inl 29, .inl 30, .inl 31, .inl 32, .inl 33, .inl 34, .inl 35, .inl 36, .inl 37, .inl 38, .inl 39, .inl 40, .inl 41, .inl 42, .inl 43, .inl 44, .inl 45, .inl 0, .inl 1, .inl 2, .inl 3, .inl 4, .inl 5, .inl 6, .inl 7, .inl 8, .inl 9, .inl 10, .inl 11, .inl 12, .inl 13, .inl 14, .inl 15, .inl 16, .inl 17, .inl 18, .inl 19, .inl 20, .inl 21, .inl 22, .inr 48, .inr 49, .inr 50, .inr 51, .inr 52, .inr 53] rfl (by decide) (fun _ => rfl) (fun _ => rfl) (fun u6 H locs h hP hD hS => ?_)
        refine lv_aload_n hx hb dX7_keeps_51 rfl (lv_at hl 0 rfl) ?_
        refine va_get (D := D) (ci := 6) (v := .ref (a 2)) (C := RX7) (T := TX7) (N := 4) hx hb hts inX7 hown hK hP 0 rfl rfl 1 (by decide) (hts _ q_424) (fun _ h9 => h9) rfl dX7_keeps_52 ?_
        refine va_get (D := D) (ci := 3) (v := .ref (a 3)) (C := RX3) (T := TX3) (N := 12) hx hb hts inX3 hown hK hP 2 rfl rfl 0 (by decide) (hts _ q_349) (fun _ h9 => h9) rfl dX7_keeps_55 ?_
        refine va_get (D := D) (ci := 4) (v := .int (u6.2.2.2.2.2.2.1.1 10)) (C := RX5) (T := TX5) (N := 16) hx hb hts inX5 hown hK hP 3 rfl rfl 10 (by decide) (hts _ q_133) (fun _ h9 => h9) rfl dX7_keeps_58 ?_
        refine lv_topi (fun x7 ex7 => ?_)
        have h := h x7 ex7
        refine lv_istore_n (lv' := [(1, .int x7), (0, .ref (a 0))]) hx hb dX7_keeps_61 rfl hl (by decide) rfl (fun ls hl => ?_)
        refine lv_iconst (v := 0) hx hb dX7_keeps_62 (by decide) ?_
        refine lv_istore_n (lv' := [(2, .int 0), (1, .int x7), (0, .ref (a 0))]) hx hb dX7_keeps_63 rfl hl (by decide) rfl (fun ls hl => ?_)
        refine lv_iconst (v := 0) hx hb dX7_keeps_64 (by decide) ?_
        refine lv_istore_n (lv' := [(3, .int 0), (2, .int 0), (1, .int x7), (0, .ref (a 0))]) hx hb dX7_keeps_65 rfl hl (by decide) rfl (fun ls hl => ?_)
        exact L66 2000 x7 0 0 (S.1, u6.2.2.2.2.2.1, u6.2.2.2.2.2.2.1, u6.2.2.2.2.2.2.2.1, u6.2.2.2.2.2.2.2.2.1, u6.2.2.2.2.2.2.2.2.2, u6.1, u6.2.1, u6.2.2.1, u6.2.2.2.1, u6.2.2.2.2.1, S.2.2.2.2.2.2.2.2.2.2.2) _ _ _ hP hD hS (lv_sub hl [3, 2, 1, 0] rfl) h
      · have h := h.2 c5
        refine lv_iconst (v := -1) hx hb dX7_keeps_37 (by decide) ?_
        exact W.iret (v := (-1)) hx hb hr (fun t ht hW => ⟨⟨(-1), (S.1, S.2.1, u3, S.2.2.2.1, S.2.2.2.2.1, S.2.2.2.2.2.1, S.2.2.2.2.2.2.1, S.2.2.2.2.2.2.2.1, S.2.2.2.2.2.2.2.2.1, S.2.2.2.2.2.2.2.2.2.1, S.2.2.2.2.2.2.2.2.2.2.1, S.2.2.2.2.2.2.2.2.2.2.2), rfl, h, by rw [ht]; exact hP, va_K.moved hW.alike hK, hD⟩, hS.F ht⟩) hS.2.2 dX7_keeps_38
/-! X7_cost -/
abbrev rmX7_cost : Room := { frames := 3, cells := 0, slots := 0, locals := 81 }
set_option maxHeartbeats 4000000 in
set_option maxRecDepth 100000 in
theorem c_X7_cost (l : Launch) (D : va_G) (cI cZ : ClassId) (a : Nat → Nat) (sz : Nat) (S : (Nat → Int32) × (Nat → Int32) × Ob × Ob × Ob × Ob × (Nat → Int32) × Ob × Ob × Ob × Ob × Ob) (p0 : Int32) (Q : Int32 → ((Nat → Int32) × (Nat → Int32) × Ob × Ob × Ob × Ob × (Nat → Int32) × Ob × Ob × Ob × Ob × Ob) → Prop) (h : wp_X7_cost S p0 Q) : Met l yX7_cost (wsm yX7_cost cX7_cost 3 (some .int)) rmX7_cost (va_Pc [.ref (a 0), .int p0] (preT D cI cZ sz (wX7 cI cZ a S))) (va_Qi Q (fun u => atW D cI cZ (va_A (wX7 cI cZ a S) sz) (wX7 cI cZ a u)) (va_A (wX7 cI cZ a S) sz)) 0 0 (va_A (wX7 cI cZ a S) sz) := by
  refine Met.ofW (cc := cX7_cost) (maxL := 3) (ret := (some .int)) (by decide) rfl ?_
  intro p e s m args below meth c s₁ B hml hv
  obtain ⟨rfl, ⟨hsz, hP, hK, hD0⟩, hF⟩ := hv
  have hx := B.exec
  have hb := B.bytes
  have hr := B.returns
  have hts0 := atoms_spec (ws := wsm yX7_cost cX7_cost 3 (some .int)) B.pre
  have hts : ∀ w ∈ lw_all, w.before _ s = true := fun w h => hts0 w (List.mem_cons_of_mem _ h)
  have hown : s.vm.findClass RX7 = some m.cls := findClass_of_methodNamed B.named
  have hlocks := B.notSynchronized
  subst hsz
  have hD := hD0.self (sz := s.heap.size)
  generalize hAe : va_A (wX7 cI cZ a S) s.heap.size = A at hD hF ⊢
  have hA : ∀ q : Nat, s.heap.size ≤ q → A q := fun q h => by rw [← hAe]; exact Or.inr h
  have hS : va_S A s.heap s.heap [] := va_S.rf
  have hml2 := hml
  have hl := lv_entry ([.ref (a 0), .int p0]) (n := 3) (Nat.le_of_ble_eq_true rfl)
  rw [lg_entry_eq]
  generalize (lg_sl ([.ref (a 0), .int p0]) ++ List.replicate (3 - (lg_sl ([.ref (a 0), .int p0])).length) Slot.unset).toArray = ls at hl ⊢
  have hl : lv_has ls 3 [(0, .ref (a 0)), (1, .int p0)] := hl
  unfold wp_X7_cost at h
  refine lv_iload_n hx hb dX7_cost_0 rfl (lv_at hl 1 rfl) ?_
  refine lv_bipush (v := 21) hx hb dX7_cost_1 (by decide) ?_
  refine cl_i (ws' := fun u1 => (wX7 cI cZ a S)) (va_runS (As := [.int p0, .int 21]) (rest := []) ⟨hx, hb, hml, hown, hts⟩ (c_X7_isBelow l D cI cZ _ () p0 21 _ h ) (va_cwS 2 hts (gS q_451 q_452 q_67 q_453) rfl rfl rfl (by decide +kernel) ⟨Nat.le_of_ble_eq_true rfl, Nat.le_of_ble_eq_true rfl⟩) (preS_of hK hP hD [] rfl rfl (by decide)) rfl rfl hl.1 rfl (lv_room (Nat.le_of_ble_eq_true rfl)) dX7_cost_3 ⟨Nat.zero_le _, Nat.zero_le _⟩) hP hD hS hA [] [.inr 0, .inr 1, .inr 2, .inr 3, .inr 4, .inr 5, .inr 6, .inr 7, .inr 8, .inr 9, .inr 10, .inr 11, .inr 12, .inr 13, .inr 14, .inr 15, .inr 16, .inr 17, .inr 18, .inr 19, .inr 20, .inr 21, .inr 22, .inr 23, .inr 24, .inr 25, .inr 26, .inr 27, .inr 28, .inr 29, .inr 30, .inr 31, .inr 32, .inr 33, .inr 34, .inr 35, .inr 36, .inr 37, .inr 38, .inr 39, .inr 40, .inr 41, .inr 42, .inr 43, .inr 44, .inr 45, .inr 46, .inr 47, .inr 48, .inr 49, .inr 50, .inr 51, .inr 52, .inr 53] rfl (by decide) (fun _ => rfl) (fun _ => rfl) (fun r2 u1 H locs h hP hD hS => ?_)
  refine lv_if_ne (tgt := 11) hx hb dX7_cost_6 (by decide) (fun c3 => ?_) (fun c3 => ?_)
  · have h := h.1 c3
    refine lv_aload_n hx hb dX7_cost_11 rfl (lv_at hl 0 rfl) ?_
    refine va_get (D := D) (ci := 6) (v := .ref (a 2)) (C := RX7) (T := TX7) (N := 4) hx hb hts inX7 hown hK hP 0 rfl rfl 1 (by decide) (hts _ q_424) (fun _ h9 => h9) rfl dX7_cost_12 ?_
    refine va_get (D := D) (ci := 3) (v := .ref (a 3)) (C := RX3) (T := TX3) (N := 12) hx hb hts inX3 hown hK hP 2 rfl rfl 0 (by decide) (hts _ q_349) (fun _ h9 => h9) rfl dX7_cost_15 ?_
    refine va_get (D := D) (ci := 4) (v := .ref (a 5)) (C := RX5) (T := TX5) (N := 16) hx hb hts inX5 hown hK hP 3 rfl rfl 1 (by decide) (hts _ q_111) (fun _ h9 => h9) rfl dX7_cost_18 ?_
    refine lv_iload_n hx hb dX7_cost_21 rfl (lv_at hl 1 rfl) ?_
    refine ar_il (f := (S.2.2.1.2 1)) (n := 21) (j := (Int32.toNatClampNeg p0)) hx hb hK hP 5 rfl rfl h.1 dX7_cost_22 ?_
    have h := h.2
    refine lv_topi (fun x4 ex4 => ?_)
    have h := h x4 ex4
    refine lv_istore_n (lv' := [(2, .int x4), (0, .ref (a 0)), (1, .int p0)]) hx hb dX7_cost_23 rfl hl (by decide) rfl (fun ls hl => ?_)
    refine lv_aload_n hx hb dX7_cost_24 rfl (lv_at hl 1 rfl) ?_
    refine va_get (D := D) (ci := 6) (v := .ref (a 48)) (C := RX7) (T := TX7) (N := 4) hx hb hts inX7 hown hK hP 0 rfl rfl 3 (by decide) (hts _ q_426) (fun _ h9 => h9) rfl dX7_cost_25 ?_
    refine lv_iload_n hx hb dX7_cost_28 rfl (lv_at hl 0 rfl) ?_
    refine cl_i (ws' := fun u5 => (wX7 cI cZ a (u5.2, S.2.1, S.2.2.1, S.2.2.2.1, S.2.2.2.2.1, S.2.2.2.2.2.1, S.2.2.2.2.2.2.1, S.2.2.2.2.2.2.2.1, S.2.2.2.2.2.2.2.2.1, S.2.2.2.2.2.2.2.2.2.1, S.2.2.2.2.2.2.2.2.2.2.1, u5.1))) (va_runV (As := [.int x4]) (rest := []) ⟨hx, hb, hml, hown, hts⟩ (c_X6_survey l D cI cZ (fun k => if k = 6 then a 1 else a (k + 48)) _ (S.2.2.2.2.2.2.2.2.2.2.2, S.1) x4 _ h ) (cwV 1 hts (gV q_894 q_895 q_896 q_74 q_897) rfl rfl rfl (by decide +kernel) ⟨Nat.le_of_ble_eq_true rfl, Nat.le_of_ble_eq_true rfl⟩) (preTV_of (ci := 5) (q := (RX6, TX6, 7)) hF hS hA hK hP hD [48, 49, 50, 51, 52, 53, 1] rfl rfl (by decide) 48 rfl rfl) rfl rfl hl.1 rfl (lv_room (Nat.le_of_ble_eq_true rfl)) dX7_cost_29 ⟨Nat.zero_le _, Nat.zero_le _⟩) hP hD hS hA [48, 49, 50, 51, 52, 53, 1] [.inr 0, .inl 6, .inr 2, .inr 3, .inr 4, .inr 5, .inr 6, .inr 7, .inr 8, .inr 9, .inr 10, .inr 11, .inr 12, .inr 13, .inr 14, .inr 15, .inr 16, .inr 17, .inr 18, .inr 19, .inr 20, .inr 21, .inr 22, .inr 23, .inr 24, .inr 25, .inr 26, .inr 27, .inr 28, .inr 29, .inr 30, .inr 31, .inr 32, .inr 33, .inr 34, .inr 35, .inr 36, .inr 37, .inr 38, .inr 39, .inr 40, .inr 41, .inr 42, .inr 43, .inr 44, .inr 45, .inr 46, .inr 47, .inl 0, .inl 1, .inl 2, .inl 3, .inl 4, .inl 5] rfl (by decide) (fun _ => rfl) (fun _ => rfl) (fun r6 u5 H locs h hP hD hS => ?_)
    refine lv_if_eq (tgt := 47) hx hb dX7_cost_32 (by decide) (fun c7 => ?_) (fun c7 => ?_)
    · have h := h.1 c7
      refine lv_iconst (v := -1) hx hb dX7_cost_47 (by decide) ?_
      exact W.iret (v := (-1)) hx hb hr (fun t ht hW => ⟨⟨(-1), (u5.2, S.2.1, S.2.2.1, S.2.2.2.1, S.2.2.2.2.1, S.2.2.2.2.2.1, S.2.2.2.2.2.2.1, S.2.2.2.2.2.2.2.1, S.2.2.2.2.2.2.2.2.1, S.2.2.2.2.2.2.2.2.2.1, S.2.2.2.2.2.2.2.2.2.2.1, u5.1), rfl, h, by rw [ht]; exact hP, va_K.moved hW.alike hK, hD⟩, hS.F ht⟩) hS.2.2 dX7_cost_48
    · have h := h.2 c7
      refine lv_aload_n hx hb dX7_cost_35 rfl (lv_at hl 1 rfl) ?_
      refine va_get (D := D) (ci := 6) (v := .ref (a 48)) (C := RX7) (T := TX7) (N := 4) hx hb hts inX7 hown hK hP 0 rfl rfl 3 (by decide) (hts _ q_426) (fun _ h9 => h9) rfl dX7_cost_36 ?_
      refine va_get (D := D) (ci := 5) (v := .ref (a 52)) (C := RX6) (T := TX6) (N := 7) hx hb hts inX6 hown hK hP 48 rfl rfl 5 (by decide) (hts _ q_405) (fun _ h9 => h9) rfl dX7_cost_39 ?_
      refine lv_iload_n hx hb dX7_cost_42 rfl (lv_at hl 0 rfl) ?_
      refine ar_il (f := (u5.1.2 5)) (n := 512) (j := (Int32.toNatClampNeg x4)) hx hb hK hP 52 rfl rfl h.1 dX7_cost_43 ?_
      have h := h.2
      refine lv_goto (tgt := 48) hx hb dX7_cost_44 (by decide) ?_
      exact W.iret (v := ((u5.1.2 5) (Int32.toNatClampNeg x4))) hx hb hr (fun t ht hW => ⟨⟨((u5.1.2 5) (Int32.toNatClampNeg x4)), (u5.2, S.2.1, S.2.2.1, S.2.2.2.1, S.2.2.2.2.1, S.2.2.2.2.2.1, S.2.2.2.2.2.2.1, S.2.2.2.2.2.2.2.1, S.2.2.2.2.2.2.2.2.1, S.2.2.2.2.2.2.2.2.2.1, S.2.2.2.2.2.2.2.2.2.2.1, u5.1), rfl, h, by rw [ht]; exact hP, va_K.moved hW.alike hK, hD⟩, hS.F ht⟩) hS.2.2 dX7_cost_48
  · have h := h.2 c3
    refine lv_iconst (v := -1) hx hb dX7_cost_9 (by decide) ?_
    exact W.iret (v := (-1)) hx hb hr (fun t ht hW => ⟨⟨(-1), S, rfl, h, by rw [ht]; exact hP, va_K.moved hW.alike hK, hD⟩, hS.F ht⟩) hS.2.2 dX7_cost_10
/-! X7_pushes -/
abbrev rmX7_pushes : Room := { frames := 3, cells := 0, slots := 0, locals := 81 }
set_option maxHeartbeats 4000000 in
set_option maxRecDepth 100000 in
theorem c_X7_pushes (l : Launch) (D : va_G) (cI cZ : ClassId) (a : Nat → Nat) (sz : Nat) (S : (Nat → Int32) × (Nat → Int32) × Ob × Ob × Ob × Ob × (Nat → Int32) × Ob × Ob × Ob × Ob × Ob) (p0 : Int32) (Q : Int32 → ((Nat → Int32) × (Nat → Int32) × Ob × Ob × Ob × Ob × (Nat → Int32) × Ob × Ob × Ob × Ob × Ob) → Prop) (h : wp_X7_pushes S p0 Q) : Met l yX7_pushes (wsm yX7_pushes cX7_pushes 3 (some .int)) rmX7_pushes (va_Pc [.ref (a 0), .int p0] (preT D cI cZ sz (wX7 cI cZ a S))) (va_Qi Q (fun u => atW D cI cZ (va_A (wX7 cI cZ a S) sz) (wX7 cI cZ a u)) (va_A (wX7 cI cZ a S) sz)) 0 0 (va_A (wX7 cI cZ a S) sz) := by
  refine Met.ofW (cc := cX7_pushes) (maxL := 3) (ret := (some .int)) (by decide) rfl ?_
  intro p e s m args below meth c s₁ B hml hv
  obtain ⟨rfl, ⟨hsz, hP, hK, hD0⟩, hF⟩ := hv
  have hx := B.exec
  have hb := B.bytes
  have hr := B.returns
  have hts0 := atoms_spec (ws := wsm yX7_pushes cX7_pushes 3 (some .int)) B.pre
  have hts : ∀ w ∈ lw_all, w.before _ s = true := fun w h => hts0 w (List.mem_cons_of_mem _ h)
  have hown : s.vm.findClass RX7 = some m.cls := findClass_of_methodNamed B.named
  have hlocks := B.notSynchronized
  subst hsz
  have hD := hD0.self (sz := s.heap.size)
  generalize hAe : va_A (wX7 cI cZ a S) s.heap.size = A at hD hF ⊢
  have hA : ∀ q : Nat, s.heap.size ≤ q → A q := fun q h => by rw [← hAe]; exact Or.inr h
  have hS : va_S A s.heap s.heap [] := va_S.rf
  have hml2 := hml
  have hl := lv_entry ([.ref (a 0), .int p0]) (n := 3) (Nat.le_of_ble_eq_true rfl)
  rw [lg_entry_eq]
  generalize (lg_sl ([.ref (a 0), .int p0]) ++ List.replicate (3 - (lg_sl ([.ref (a 0), .int p0])).length) Slot.unset).toArray = ls at hl ⊢
  have hl : lv_has ls 3 [(0, .ref (a 0)), (1, .int p0)] := hl
  unfold wp_X7_pushes at h
  refine lv_iload_n hx hb dX7_pushes_0 rfl (lv_at hl 1 rfl) ?_
  refine lv_bipush (v := 21) hx hb dX7_pushes_1 (by decide) ?_
  refine cl_i (ws' := fun u1 => (wX7 cI cZ a S)) (va_runS (As := [.int p0, .int 21]) (rest := []) ⟨hx, hb, hml, hown, hts⟩ (c_X7_isBelow l D cI cZ _ () p0 21 _ h ) (va_cwS 2 hts (gS q_451 q_452 q_67 q_453) rfl rfl rfl (by decide +kernel) ⟨Nat.le_of_ble_eq_true rfl, Nat.le_of_ble_eq_true rfl⟩) (preS_of hK hP hD [] rfl rfl (by decide)) rfl rfl hl.1 rfl (lv_room (Nat.le_of_ble_eq_true rfl)) dX7_pushes_3 ⟨Nat.zero_le _, Nat.zero_le _⟩) hP hD hS hA [] [.inr 0, .inr 1, .inr 2, .inr 3, .inr 4, .inr 5, .inr 6, .inr 7, .inr 8, .inr 9, .inr 10, .inr 11, .inr 12, .inr 13, .inr 14, .inr 15, .inr 16, .inr 17, .inr 18, .inr 19, .inr 20, .inr 21, .inr 22, .inr 23, .inr 24, .inr 25, .inr 26, .inr 27, .inr 28, .inr 29, .inr 30, .inr 31, .inr 32, .inr 33, .inr 34, .inr 35, .inr 36, .inr 37, .inr 38, .inr 39, .inr 40, .inr 41, .inr 42, .inr 43, .inr 44, .inr 45, .inr 46, .inr 47, .inr 48, .inr 49, .inr 50, .inr 51, .inr 52, .inr 53] rfl (by decide) (fun _ => rfl) (fun _ => rfl) (fun r2 u1 H locs h hP hD hS => ?_)
  refine lv_if_ne (tgt := 11) hx hb dX7_pushes_6 (by decide) (fun c3 => ?_) (fun c3 => ?_)
  · have h := h.1 c3
    refine lv_aload_n hx hb dX7_pushes_11 rfl (lv_at hl 0 rfl) ?_
    refine va_get (D := D) (ci := 6) (v := .ref (a 2)) (C := RX7) (T := TX7) (N := 4) hx hb hts inX7 hown hK hP 0 rfl rfl 1 (by decide) (hts _ q_424) (fun _ h9 => h9) rfl dX7_pushes_12 ?_
    refine va_get (D := D) (ci := 3) (v := .ref (a 3)) (C := RX3) (T := TX3) (N := 12) hx hb hts inX3 hown hK hP 2 rfl rfl 0 (by decide) (hts _ q_349) (fun _ h9 => h9) rfl dX7_pushes_15 ?_
    refine va_get (D := D) (ci := 4) (v := .ref (a 5)) (C := RX5) (T := TX5) (N := 16) hx hb hts inX5 hown hK hP 3 rfl rfl 1 (by decide) (hts _ q_111) (fun _ h9 => h9) rfl dX7_pushes_18 ?_
    refine lv_iload_n hx hb dX7_pushes_21 rfl (lv_at hl 1 rfl) ?_
    refine ar_il (f := (S.2.2.1.2 1)) (n := 21) (j := (Int32.toNatClampNeg p0)) hx hb hK hP 5 rfl rfl h.1 dX7_pushes_22 ?_
    have h := h.2
    refine lv_topi (fun x4 ex4 => ?_)
    have h := h x4 ex4
    refine lv_istore_n (lv' := [(2, .int x4), (0, .ref (a 0)), (1, .int p0)]) hx hb dX7_pushes_23 rfl hl (by decide) rfl (fun ls hl => ?_)
    refine lv_aload_n hx hb dX7_pushes_24 rfl (lv_at hl 1 rfl) ?_
    refine va_get (D := D) (ci := 6) (v := .ref (a 48)) (C := RX7) (T := TX7) (N := 4) hx hb hts inX7 hown hK hP 0 rfl rfl 3 (by decide) (hts _ q_426) (fun _ h9 => h9) rfl dX7_pushes_25 ?_
    refine lv_iload_n hx hb dX7_pushes_28 rfl (lv_at hl 0 rfl) ?_
    refine cl_i (ws' := fun u5 => (wX7 cI cZ a (u5.2, S.2.1, S.2.2.1, S.2.2.2.1, S.2.2.2.2.1, S.2.2.2.2.2.1, S.2.2.2.2.2.2.1, S.2.2.2.2.2.2.2.1, S.2.2.2.2.2.2.2.2.1, S.2.2.2.2.2.2.2.2.2.1, S.2.2.2.2.2.2.2.2.2.2.1, u5.1))) (va_runV (As := [.int x4]) (rest := []) ⟨hx, hb, hml, hown, hts⟩ (c_X6_survey l D cI cZ (fun k => if k = 6 then a 1 else a (k + 48)) _ (S.2.2.2.2.2.2.2.2.2.2.2, S.1) x4 _ h ) (cwV 1 hts (gV q_894 q_895 q_896 q_74 q_897) rfl rfl rfl (by decide +kernel) ⟨Nat.le_of_ble_eq_true rfl, Nat.le_of_ble_eq_true rfl⟩) (preTV_of (ci := 5) (q := (RX6, TX6, 7)) hF hS hA hK hP hD [48, 49, 50, 51, 52, 53, 1] rfl rfl (by decide) 48 rfl rfl) rfl rfl hl.1 rfl (lv_room (Nat.le_of_ble_eq_true rfl)) dX7_pushes_29 ⟨Nat.zero_le _, Nat.zero_le _⟩) hP hD hS hA [48, 49, 50, 51, 52, 53, 1] [.inr 0, .inl 6, .inr 2, .inr 3, .inr 4, .inr 5, .inr 6, .inr 7, .inr 8, .inr 9, .inr 10, .inr 11, .inr 12, .inr 13, .inr 14, .inr 15, .inr 16, .inr 17, .inr 18, .inr 19, .inr 20, .inr 21, .inr 22, .inr 23, .inr 24, .inr 25, .inr 26, .inr 27, .inr 28, .inr 29, .inr 30, .inr 31, .inr 32, .inr 33, .inr 34, .inr 35, .inr 36, .inr 37, .inr 38, .inr 39, .inr 40, .inr 41, .inr 42, .inr 43, .inr 44, .inr 45, .inr 46, .inr 47, .inl 0, .inl 1, .inl 2, .inl 3, .inl 4, .inl 5] rfl (by decide) (fun _ => rfl) (fun _ => rfl) (fun r6 u5 H locs h hP hD hS => ?_)
    refine lv_if_eq (tgt := 47) hx hb dX7_pushes_32 (by decide) (fun c7 => ?_) (fun c7 => ?_)
    · have h := h.1 c7
      refine lv_iconst (v := -1) hx hb dX7_pushes_47 (by decide) ?_
      exact W.iret (v := (-1)) hx hb hr (fun t ht hW => ⟨⟨(-1), (u5.2, S.2.1, S.2.2.1, S.2.2.2.1, S.2.2.2.2.1, S.2.2.2.2.2.1, S.2.2.2.2.2.2.1, S.2.2.2.2.2.2.2.1, S.2.2.2.2.2.2.2.2.1, S.2.2.2.2.2.2.2.2.2.1, S.2.2.2.2.2.2.2.2.2.2.1, u5.1), rfl, h, by rw [ht]; exact hP, va_K.moved hW.alike hK, hD⟩, hS.F ht⟩) hS.2.2 dX7_pushes_48
    · have h := h.2 c7
      refine lv_aload_n hx hb dX7_pushes_35 rfl (lv_at hl 1 rfl) ?_
      refine va_get (D := D) (ci := 6) (v := .ref (a 48)) (C := RX7) (T := TX7) (N := 4) hx hb hts inX7 hown hK hP 0 rfl rfl 3 (by decide) (hts _ q_426) (fun _ h9 => h9) rfl dX7_pushes_36 ?_
      refine va_get (D := D) (ci := 5) (v := .ref (a 53)) (C := RX6) (T := TX6) (N := 7) hx hb hts inX6 hown hK hP 48 rfl rfl 6 (by decide) (hts _ q_407) (fun _ h9 => h9) rfl dX7_pushes_39 ?_
      refine lv_iload_n hx hb dX7_pushes_42 rfl (lv_at hl 0 rfl) ?_
      refine ar_il (f := (u5.1.2 6)) (n := 512) (j := (Int32.toNatClampNeg x4)) hx hb hK hP 53 rfl rfl h.1 dX7_pushes_43 ?_
      have h := h.2
      refine lv_goto (tgt := 48) hx hb dX7_pushes_44 (by decide) ?_
      exact W.iret (v := ((u5.1.2 6) (Int32.toNatClampNeg x4))) hx hb hr (fun t ht hW => ⟨⟨((u5.1.2 6) (Int32.toNatClampNeg x4)), (u5.2, S.2.1, S.2.2.1, S.2.2.2.1, S.2.2.2.2.1, S.2.2.2.2.2.1, S.2.2.2.2.2.2.1, S.2.2.2.2.2.2.2.1, S.2.2.2.2.2.2.2.2.1, S.2.2.2.2.2.2.2.2.2.1, S.2.2.2.2.2.2.2.2.2.2.1, u5.1), rfl, h, by rw [ht]; exact hP, va_K.moved hW.alike hK, hD⟩, hS.F ht⟩) hS.2.2 dX7_pushes_48
  · have h := h.2 c3
    refine lv_iconst (v := -1) hx hb dX7_pushes_9 (by decide) ?_
    exact W.iret (v := (-1)) hx hb hr (fun t ht hW => ⟨⟨(-1), S, rfl, h, by rw [ht]; exact hP, va_K.moved hW.alike hK, hD⟩, hS.F ht⟩) hS.2.2 dX7_pushes_10
/-! X7_room -/
abbrev rmX7_room : Room := { frames := 4, cells := 0, slots := 0, locals := 105 }
set_option maxHeartbeats 4000000 in
set_option maxRecDepth 100000 in
theorem c_X7_room (l : Launch) (D : va_G) (cI cZ : ClassId) (a : Nat → Nat) (sz : Nat) (S : (Nat → Int32) × (Nat → Int32) × Ob × Ob × Ob × Ob × (Nat → Int32) × Ob × Ob × Ob × Ob × Ob) (p0 : Int32) (Q : Int32 → ((Nat → Int32) × (Nat → Int32) × Ob × Ob × Ob × Ob × (Nat → Int32) × Ob × Ob × Ob × Ob × Ob) → Prop) (h : wp_X7_room S p0 Q) : Met l yX7_room (wsm yX7_room cX7_room 2 (some .int)) rmX7_room (va_Pc [.ref (a 0), .int p0] (preT D cI cZ sz (wX7 cI cZ a S))) (va_Qi Q (fun u => atW D cI cZ (va_A (wX7 cI cZ a S) sz) (wX7 cI cZ a u)) (va_A (wX7 cI cZ a S) sz)) 0 0 (va_A (wX7 cI cZ a S) sz) := by
  refine Met.ofW (cc := cX7_room) (maxL := 2) (ret := (some .int)) (by decide) rfl ?_
  intro p e s m args below meth c s₁ B hml hv
  obtain ⟨rfl, ⟨hsz, hP, hK, hD0⟩, hF⟩ := hv
  have hx := B.exec
  have hb := B.bytes
  have hr := B.returns
  have hts0 := atoms_spec (ws := wsm yX7_room cX7_room 2 (some .int)) B.pre
  have hts : ∀ w ∈ lw_all, w.before _ s = true := fun w h => hts0 w (List.mem_cons_of_mem _ h)
  have hown : s.vm.findClass RX7 = some m.cls := findClass_of_methodNamed B.named
  have hlocks := B.notSynchronized
  subst hsz
  have hD := hD0.self (sz := s.heap.size)
  generalize hAe : va_A (wX7 cI cZ a S) s.heap.size = A at hD hF ⊢
  have hA : ∀ q : Nat, s.heap.size ≤ q → A q := fun q h => by rw [← hAe]; exact Or.inr h
  have hS : va_S A s.heap s.heap [] := va_S.rf
  have hml2 := hml
  have hl := lv_entry ([.ref (a 0), .int p0]) (n := 2) (Nat.le_of_ble_eq_true rfl)
  rw [lg_entry_eq]
  generalize (lg_sl ([.ref (a 0), .int p0]) ++ List.replicate (2 - (lg_sl ([.ref (a 0), .int p0])).length) Slot.unset).toArray = ls at hl ⊢
  have hl : lv_has ls 2 [(0, .ref (a 0)), (1, .int p0)] := hl
  unfold wp_X7_room at h
  refine lv_aload_n hx hb dX7_room_0 rfl (lv_at hl 0 rfl) ?_
  refine va_get (D := D) (ci := 6) (v := .ref (a 48)) (C := RX7) (T := TX7) (N := 4) hx hb hts inX7 hown hK hP 0 rfl rfl 3 (by decide) (hts _ q_426) (fun _ h9 => h9) rfl dX7_room_1 ?_
  refine lv_aload_n hx hb dX7_room_4 rfl (lv_at hl 0 rfl) ?_
  refine va_get (D := D) (ci := 6) (v := .ref (a 2)) (C := RX7) (T := TX7) (N := 4) hx hb hts inX7 hown hK hP 0 rfl rfl 1 (by decide) (hts _ q_424) (fun _ h9 => h9) rfl dX7_room_5 ?_
  refine va_get (D := D) (ci := 3) (v := .ref (a 3)) (C := RX3) (T := TX3) (N := 12) hx hb hts inX3 hown hK hP 2 rfl rfl 0 (by decide) (hts _ q_349) (fun _ h9 => h9) rfl dX7_room_8 ?_
  refine lv_iload_n hx hb dX7_room_11 rfl (lv_at hl 1 rfl) ?_
  refine lv_if_eq (tgt := 20) hx hb dX7_room_12 (by decide) (fun c1 => ?_) (fun c1 => ?_)
  · have h := h.1 c1
    refine lv_bipush (v := 6) hx hb dX7_room_20 (by decide) ?_
    refine cl_i (ws' := fun u2 => (wX7 cI cZ a (u2.2.1, S.2.1, u2.2.2, S.2.2.2.1, S.2.2.2.2.1, S.2.2.2.2.2.1, S.2.2.2.2.2.2.1, S.2.2.2.2.2.2.2.1, S.2.2.2.2.2.2.2.2.1, S.2.2.2.2.2.2.2.2.2.1, S.2.2.2.2.2.2.2.2.2.2.1, u2.1))) (va_runV (As := [.ref (a 3), .int 6]) (rest := []) ⟨hx, hb, hml, hown, hts⟩ (c_X6_roomFor l D cI cZ (fun k => if k = 6 then a 1 else a (k + 48)) (fun k => a (k + 3)) _ (S.2.2.2.2.2.2.2.2.2.2.2, S.1, S.2.2.1) 6 _ h ) (cwV 2 hts (gV q_933 q_934 q_935 q_74 q_936) rfl rfl rfl (by decide +kernel) ⟨Nat.le_of_ble_eq_true rfl, Nat.le_of_ble_eq_true rfl⟩) (preTV_of (ci := 5) (q := (RX6, TX6, 7)) hF hS hA hK hP hD [48, 49, 50, 51, 52, 53, 1, 3, 4, 5, 6, 7, 8, 9, 10, 11, 12, 13] rfl rfl (by decide) 48 rfl rfl) rfl rfl hl.1 rfl (lv_room (Nat.le_of_ble_eq_true rfl)) dX7_room_22 ⟨Nat.zero_le _, Nat.zero_le _⟩) hP hD hS hA [48, 49, 50, 51, 52, 53, 1, 3, 4, 5, 6, 7, 8, 9, 10, 11, 12, 13] [.inr 0, .inl 6, .inr 2, .inl 7, .inl 8, .inl 9, .inl 10, .inl 11, .inl 12, .inl 13, .inl 14, .inl 15, .inl 16, .inl 17, .inr 14, .inr 15, .inr 16, .inr 17, .inr 18, .inr 19, .inr 20, .inr 21, .inr 22, .inr 23, .inr 24, .inr 25, .inr 26, .inr 27, .inr 28, .inr 29, .inr 30, .inr 31, .inr 32, .inr 33, .inr 34, .inr 35, .inr 36, .inr 37, .inr 38, .inr 39, .inr 40, .inr 41, .inr 42, .inr 43, .inr 44, .inr 45, .inr 46, .inr 47, .inl 0, .inl 1, .inl 2, .inl 3, .inl 4, .inl 5] rfl (by decide) (fun _ => rfl) (fun _ => rfl) (fun r3 u2 H locs h hP hD hS => ?_)
    exact W.iret (v := r3) hx hb hr (fun t ht hW => ⟨⟨r3, (u2.2.1, S.2.1, u2.2.2, S.2.2.2.1, S.2.2.2.2.1, S.2.2.2.2.2.1, S.2.2.2.2.2.2.1, S.2.2.2.2.2.2.2.1, S.2.2.2.2.2.2.2.2.1, S.2.2.2.2.2.2.2.2.2.1, S.2.2.2.2.2.2.2.2.2.2.1, u2.1), rfl, h, by rw [ht]; exact hP, va_K.moved hW.alike hK, hD⟩, hS.F ht⟩) hS.2.2 dX7_room_25
  · have h := h.2 c1
    refine lv_bipush (v := 10) hx hb dX7_room_15 (by decide) ?_
    refine lv_goto (tgt := 22) hx hb dX7_room_17 (by decide) ?_
    refine cl_i (ws' := fun u4 => (wX7 cI cZ a (u4.2.1, S.2.1, u4.2.2, S.2.2.2.1, S.2.2.2.2.1, S.2.2.2.2.2.1, S.2.2.2.2.2.2.1, S.2.2.2.2.2.2.2.1, S.2.2.2.2.2.2.2.2.1, S.2.2.2.2.2.2.2.2.2.1, S.2.2.2.2.2.2.2.2.2.2.1, u4.1))) (va_runV (As := [.ref (a 3), .int 10]) (rest := []) ⟨hx, hb, hml, hown, hts⟩ (c_X6_roomFor l D cI cZ (fun k => if k = 6 then a 1 else a (k + 48)) (fun k => a (k + 3)) _ (S.2.2.2.2.2.2.2.2.2.2.2, S.1, S.2.2.1) 10 _ h ) (cwV 2 hts (gV q_933 q_934 q_935 q_74 q_936) rfl rfl rfl (by decide +kernel) ⟨Nat.le_of_ble_eq_true rfl, Nat.le_of_ble_eq_true rfl⟩) (preTV_of (ci := 5) (q := (RX6, TX6, 7)) hF hS hA hK hP hD [48, 49, 50, 51, 52, 53, 1, 3, 4, 5, 6, 7, 8, 9, 10, 11, 12, 13] rfl rfl (by decide) 48 rfl rfl) rfl rfl hl.1 rfl (lv_room (Nat.le_of_ble_eq_true rfl)) dX7_room_22 ⟨Nat.zero_le _, Nat.zero_le _⟩) hP hD hS hA [48, 49, 50, 51, 52, 53, 1, 3, 4, 5, 6, 7, 8, 9, 10, 11, 12, 13] [.inr 0, .inl 6, .inr 2, .inl 7, .inl 8, .inl 9, .inl 10, .inl 11, .inl 12, .inl 13, .inl 14, .inl 15, .inl 16, .inl 17, .inr 14, .inr 15, .inr 16, .inr 17, .inr 18, .inr 19, .inr 20, .inr 21, .inr 22, .inr 23, .inr 24, .inr 25, .inr 26, .inr 27, .inr 28, .inr 29, .inr 30, .inr 31, .inr 32, .inr 33, .inr 34, .inr 35, .inr 36, .inr 37, .inr 38, .inr 39, .inr 40, .inr 41, .inr 42, .inr 43, .inr 44, .inr 45, .inr 46, .inr 47, .inl 0, .inl 1, .inl 2, .inl 3, .inl 4, .inl 5] rfl (by decide) (fun _ => rfl) (fun _ => rfl) (fun r5 u4 H locs h hP hD hS => ?_)
    exact W.iret (v := r5) hx hb hr (fun t ht hW => ⟨⟨r5, (u4.2.1, S.2.1, u4.2.2, S.2.2.2.1, S.2.2.2.2.1, S.2.2.2.2.2.1, S.2.2.2.2.2.2.1, S.2.2.2.2.2.2.2.1, S.2.2.2.2.2.2.2.2.1, S.2.2.2.2.2.2.2.2.2.1, S.2.2.2.2.2.2.2.2.2.2.1, u4.1), rfl, h, by rw [ht]; exact hP, va_K.moved hW.alike hK, hD⟩, hS.F ht⟩) hS.2.2 dX7_room_25
