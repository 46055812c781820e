/-! METHODS THAT THROW: what their starts must hold, and the words of the two throws -/
theorem xg_in1 : ∀ w ∈ (vx_at0 RX7 108 "java/util/NoSuchElementException" ["java/lang/RuntimeException", "java/lang/Exception"]).filter goodWord, w ∈ lw_tbl := by decide +kernel
theorem xg_in2 : ∀ w ∈ (vx_at0 RX7 123 "java/lang/IndexOutOfBoundsException" ["java/lang/RuntimeException", "java/lang/Exception"]).filter goodWord, w ∈ lw_tbl := by decide +kernel
theorem xg_all1 : ∀ w ∈ (vx_at0 RX7 108 "java/util/NoSuchElementException" ["java/lang/RuntimeException", "java/lang/Exception"]).filter goodWord, w ∈ lw_all := fun w h => List.mem_filter.mpr ⟨xg_in1 w h, (List.mem_filter.mp h).2⟩
theorem xg_all2 : ∀ w ∈ (vx_at0 RX7 123 "java/lang/IndexOutOfBoundsException" ["java/lang/RuntimeException", "java/lang/Exception"]).filter goodWord, w ∈ lw_all := fun w h => List.mem_filter.mpr ⟨xg_in2 w h, (List.mem_filter.mp h).2⟩
/-- the words of the throws that a warm state hands on by themselves -/
def xB : List Cond := [.castable "java/util/NoSuchElementException" "java/util/NoSuchElementException", .castable "java/lang/IndexOutOfBoundsException" "java/lang/IndexOutOfBoundsException", .declares ⟨"java/lang/RuntimeException", "<init>", "()V"⟩, .declares ⟨"java/lang/Exception", "<init>", "()V"⟩, .declares ⟨"java/lang/Throwable", "<init>", "()V"⟩]
def xN (U : State) : Prop := (va_Nw (.castable "java/util/NoSuchElementException" "java/util/NoSuchElementException") U ∧ va_Nw (.castable "java/lang/IndexOutOfBoundsException" "java/lang/IndexOutOfBoundsException") U) ∧ va_Nw (.declares ⟨"java/lang/RuntimeException", "<init>", "()V"⟩) U ∧ va_Nw (.declares ⟨"java/lang/Exception", "<init>", "()V"⟩) U ∧ va_Nw (.declares ⟨"java/lang/Throwable", "<init>", "()V"⟩) U
theorem xN.warm {U V : State} (hW : U.WarmedH V.vm) (h : xN U) : xN V := ⟨⟨va_Nw.warmC hW h.1.1, va_Nw.warmC hW h.1.2⟩, va_Nw.warmD hW h.2.1, va_Nw.warmD hW h.2.2.1, va_Nw.warmD hW h.2.2.2⟩
theorem xN.same {U V : State} (e : U.vm = V.vm) (h : xN U) : xN V := ⟨⟨va_Nw.same rfl e h.1.1, va_Nw.same rfl e h.1.2⟩, va_Nw.same rfl e h.2.1, va_Nw.same rfl e h.2.2.1, va_Nw.same rfl e h.2.2.2⟩
theorem xN.words {U : State} {args : Array Value} (h : xN U) : ∀ w ∈ xB, w.before args U = true := by
  intro w hw
  simp only [xB, List.mem_cons, List.not_mem_nil, or_false] at hw
  rcases hw with rfl | rfl | rfl | rfl | rfl
  · exact va_Nw.use rfl h.1.1
  · exact va_Nw.use rfl h.1.2
  · exact va_Nw.use rfl h.2.1
  · exact va_Nw.use rfl h.2.2.1
  · exact va_Nw.use rfl h.2.2.2
def xF (A : Nat → Prop) (U : State) (H : Heap) : Prop := (vx_Zq Bundle.tN "UNASSIGNED_STACK" Bundle.steD A U H ∧ vx_Zq Bundle.tN "SUPPRESSED_SENTINEL" Bundle.listD A U H) ∧ xN U
theorem xF.go {A B : Nat → Prop} {U V : State} {H H1 : Heap} (h : xF A U H) (hW : U.WarmedH V.vm) (hq : ∀ a : Nat, a < H.size → ¬ A a → H1[a]? = H[a]?) (hAB : ∀ q, B q → A q) : xF B V H1 :=
  ⟨⟨((h.1.1.kept hq).narrow hAB).moved hW.alike, ((h.1.2.kept hq).narrow hAB).moved hW.alike⟩, h.2.warm hW⟩
theorem xF.same {A : Nat → Prop} {U V : State} {H : Heap} (h : xF A U H) (e : U.vm = V.vm) : xF A V H := ⟨⟨h.1.1.moved (e ▸ Vm.Alike.refl U.vm), h.1.2.moved (e ▸ Vm.Alike.refl U.vm)⟩, h.2.same e⟩
theorem x_hat1 {args : Array Value} {s : State} (hts : ∀ w ∈ lw_all, w.before args s = true) (h : xN s) : ∀ w ∈ vx_at0 RX7 108 "java/util/NoSuchElementException" ["java/lang/RuntimeException", "java/lang/Exception"], w.before args s = true :=
  vx_hat (fun w hw => hts w (xg_all1 w hw)) (B := xB) (by decide +kernel) h.words
theorem x_hat2 {args : Array Value} {s : State} (hts : ∀ w ∈ lw_all, w.before args s = true) (h : xN s) : ∀ w ∈ vx_at0 RX7 123 "java/lang/IndexOutOfBoundsException" ["java/lang/RuntimeException", "java/lang/Exception"], w.before args s = true :=
  vx_hat (fun w hw => hts w (xg_all2 w hw)) (B := xB) (by decide +kernel) h.words
abbrev preX (D : va_G) (cI cZ : ClassId) (sz : Nat) (w : va_W) (U : State) : Prop := preW D cI cZ sz w U ∧ xF (va_A w sz) U U.heap
theorem preX_blind {av : List Value} {D : va_G} {cI cZ : ClassId} {sz : Nat} {w : va_W} : FrameBlind (va_Pc av (preX D cI cZ sz w)) := fun a U g mk q => by
  obtain ⟨q0, ⟨q1, qP, qK, qD⟩, qF⟩ := q
  exact ⟨q0, ⟨q1, qP, va_K.moved (u := U) (U := U.calling g mk a) (Vm.Alike.refl U.vm) qK, qD⟩, qF.same (V := U.calling g mk a) rfl⟩
theorem x_end {s t : State} {H : Heap} {locs : List Loc} {D : va_G} {cI cZ : ClassId} {A : Nat → Prop} {w : va_W} (hP : va_P D vwCl w H) (hD : va_D A w) (hK : va_K D vwCl (tyL cI cZ) s) (hS : va_S A s.heap H locs) (hvm : s.vm.Alike t.vm) (hz : H.size ≤ t.heap.size) (hk : ∀ q : Nat, q < H.size → t.heap[q]? = H[q]?) : atW D cI cZ A w t ∧ va_F A s t :=
  ⟨⟨hP.kept (fun k x hx => hk x.1 ((hP k x hx).lt)), va_K.moved hvm hK, hD⟩, Nat.le_trans hS.1 hz, fun q h1 h2 => (hk q (Nat.lt_of_lt_of_le h1 hS.1)).trans (hS.2.1 q h1 h2)⟩

/-! X7_reg -/
abbrev rmX7_reg : Room := { frames := 6, cells := 1, slots := 6, locals := 100 }
set_option maxHeartbeats 4000000 in
set_option maxRecDepth 100000 in
theorem c_X7_reg (l : Launch) (D : va_G) (cI cZ : ClassId) (a : Nat → Nat) (sz : Nat) (S : (Nat → Int32) × (Nat → Int32) × Ob × Ob × Ob × Ob × (Nat → Int32) × Ob × Ob × Ob × Ob × Ob) (p0 : Int32) (Q : Int32 → ((Nat → Int32) × (Nat → Int32) × Ob × Ob × Ob × Ob × (Nat → Int32) × Ob × Ob × Ob × Ob × Ob) → Prop) (Qx : ((Nat → Int32) × (Nat → Int32) × Ob × Ob × Ob × Ob × (Nat → Int32) × Ob × Ob × Ob × Ob × Ob) → Prop) (hst : l.stackTraces = false) (h : wp_X7_reg S p0 Q Qx) : vx_Met l yX7_reg (wsm yX7_reg cX7_reg 2 (some .int)) rmX7_reg (va_Pc [.ref (a 0), .int p0] (preX D cI cZ sz (wX7 cI cZ a S))) (va_Qi Q (fun u => atW D cI cZ (va_A (wX7 cI cZ a S) sz) (wX7 cI cZ a u)) (va_A (wX7 cI cZ a S) sz)) (vx_X Qx (fun E u => fun t => E = "java/util/NoSuchElementException" ∧ atW D cI cZ (va_A (wX7 cI cZ a S) sz) (wX7 cI cZ a u) t) (va_A (wX7 cI cZ a S) sz)) 1 6 (va_A (wX7 cI cZ a S) sz) := by
  refine vx_ofW (cc := cX7_reg) (maxL := 2) (ret := (some .int)) (by decide) rfl ?_
  intro p e s m args below meth c s₁ B hml hnx hv
  obtain ⟨rfl, ⟨hsz, hP, hK, hD0⟩, hF⟩ := hv
  have hx := B.exec
  have hb := B.bytes
  have hr := B.returns
  have hts0 := atoms_spec (ws := wsm yX7_reg cX7_reg 2 (some .int)) B.pre
  have hts : ∀ w ∈ lw_all, w.before _ s = true := fun w h => hts0 w (List.mem_cons_of_mem _ h)
  have hown : s.vm.findClass RX7 = some m.cls := findClass_of_methodNamed B.named
  have hlocks := B.notSynchronized
  subst hsz
  have hD := hD0.self (sz := s.heap.size)
  generalize hAe : va_A (wX7 cI cZ a S) s.heap.size = A at hD hF ⊢
  have hA : ∀ q : Nat, s.heap.size ≤ q → A q := fun q h => by rw [← hAe]; exact Or.inr h
  have hS : va_S A s.heap s.heap [] := va_S.rf
  have hml2 := hml
  have hl := lv_entry ([.ref (a 0), .int p0]) (n := 2) (Nat.le_of_ble_eq_true rfl)
  rw [lg_entry_eq]
  generalize (lg_sl ([.ref (a 0), .int p0]) ++ List.replicate (2 - (lg_sl ([.ref (a 0), .int p0])).length) Slot.unset).toArray = ls at hl ⊢
  have hl : lv_has ls 2 [(0, .ref (a 0)), (1, .int p0)] := hl
  unfold wp_X7_reg at h
  refine lv_iload_n hx hb dX7_reg_0 rfl (lv_at hl 1 rfl) ?_
  refine lv_bipush (v := 12) hx hb dX7_reg_1 (by decide) ?_
  refine cl_i (ws' := fun u1 => (wX7 cI cZ a S)) (va_runS (As := [.int p0, .int 12]) (rest := []) ⟨hx, hb, hml, hown, hts⟩ (c_X7_isBelow l D cI cZ _ () p0 12 _ h ) (va_cwS 2 hts (gS q_451 q_452 q_67 q_453) rfl rfl rfl (by decide +kernel) ⟨Nat.le_of_ble_eq_true rfl, Nat.le_of_ble_eq_true rfl⟩) (preS_of hK hP hD [] rfl rfl (by decide)) rfl rfl hl.1 rfl (lv_room (Nat.le_of_ble_eq_true rfl)) dX7_reg_3 ⟨Nat.zero_le _, Nat.zero_le _⟩) hP hD hS hA [] [.inr 0, .inr 1, .inr 2, .inr 3, .inr 4, .inr 5, .inr 6, .inr 7, .inr 8, .inr 9, .inr 10, .inr 11, .inr 12, .inr 13, .inr 14, .inr 15, .inr 16, .inr 17, .inr 18, .inr 19, .inr 20, .inr 21, .inr 22, .inr 23, .inr 24, .inr 25, .inr 26, .inr 27, .inr 28, .inr 29, .inr 30, .inr 31, .inr 32, .inr 33, .inr 34, .inr 35, .inr 36, .inr 37, .inr 38, .inr 39, .inr 40, .inr 41, .inr 42, .inr 43, .inr 44, .inr 45, .inr 46, .inr 47, .inr 48, .inr 49, .inr 50, .inr 51, .inr 52, .inr 53] rfl (by decide) (fun _ => rfl) (fun _ => rfl) (fun r2 u1 H locs h hP hD hS => ?_)
  refine lv_if_ne (tgt := 17) hx hb dX7_reg_6 (by decide) (fun c3 => ?_) (fun c3 => ?_)
  · have h := h.1 c3
    refine lv_iload_n hx hb dX7_reg_17 rfl (lv_at hl 1 rfl) ?_
    refine lv_bipush (v := 8) hx hb dX7_reg_18 (by decide) ?_
    refine lv_icmp_ge (tgt := 38) hx hb dX7_reg_20 (by decide) (fun c4 => ?_) (fun c4 => ?_)
    · have h := h.1 c4
      refine lv_aload_n hx hb dX7_reg_38 rfl (lv_at hl 0 rfl) ?_
      refine va_get (D := D) (ci := 6) (v := .ref (a 2)) (C := RX7) (T := TX7) (N := 4) hx hb hts inX7 hown hK hP 0 rfl rfl 1 (by decide) (hts _ q_424) (fun _ h9 => h9) rfl dX7_reg_39 ?_
      refine va_get (D := D) (ci := 3) (v := .ref (a 20)) (C := RX3) (T := TX3) (N := 12) hx hb hts inX3 hown hK hP 2 rfl rfl 3 (by decide) (hts _ q_355) (fun _ h9 => h9) rfl dX7_reg_42 ?_
      refine va_get (D := D) (ci := 1) (v := .ref (a 22)) (C := RX1) (T := TX1) (N := 14) hx hb hts inX1 hown hK hP 20 rfl rfl 2 (by decide) (hts _ q_288) (fun _ h9 => h9) rfl dX7_reg_45 ?_
      refine lv_iload_n hx hb dX7_reg_48 rfl (lv_at hl 1 rfl) ?_
      refine lv_bipush (v := 8) hx hb dX7_reg_49 (by decide) ?_
      refine lv_isub hx hb dX7_reg_51 ?_
      refine ar_il (f := (S.2.2.2.2.2.1.2 2)) (n := 4) (j := (Int32.toNatClampNeg (p0 - 8))) hx hb hK hP 22 rfl rfl h.1 dX7_reg_52 ?_
      have h := h.2
      refine vx_ret ?_
      refine W.widen (k := 1) (n := 6) (Nat.le_of_ble_eq_true rfl) (Nat.le_of_ble_eq_true rfl) ?_
      exact W.iret (v := ((S.2.2.2.2.2.1.2 2) (Int32.toNatClampNeg (p0 - 8)))) hx hb hr (fun t ht hW => ⟨⟨((S.2.2.2.2.2.1.2 2) (Int32.toNatClampNeg (p0 - 8))), S, rfl, h, by rw [ht]; exact hP, va_K.moved hW.alike hK, hD⟩, hS.F ht⟩) hS.2.2 dX7_reg_53
    · have h := h.2 c4
      refine lv_aload_n hx hb dX7_reg_23 rfl (lv_at hl 0 rfl) ?_
      refine va_get (D := D) (ci := 6) (v := .ref (a 2)) (C := RX7) (T := TX7) (N := 4) hx hb hts inX7 hown hK hP 0 rfl rfl 1 (by decide) (hts _ q_424) (fun _ h9 => h9) rfl dX7_reg_24 ?_
      refine va_get (D := D) (ci := 3) (v := .ref (a 20)) (C := RX3) (T := TX3) (N := 12) hx hb hts inX3 hown hK hP 2 rfl rfl 3 (by decide) (hts _ q_355) (fun _ h9 => h9) rfl dX7_reg_27 ?_
      refine va_get (D := D) (ci := 1) (v := .ref (a 21)) (C := RX1) (T := TX1) (N := 14) hx hb hts inX1 hown hK hP 20 rfl rfl 1 (by decide) (hts _ q_286) (fun _ h9 => h9) rfl dX7_reg_30 ?_
      refine lv_iload_n hx hb dX7_reg_33 rfl (lv_at hl 1 rfl) ?_
      refine ar_il (f := (S.2.2.2.2.2.1.2 1)) (n := 8) (j := (Int32.toNatClampNeg p0)) hx hb hK hP 21 rfl rfl h.1 dX7_reg_34 ?_
      have h := h.2
      refine lv_goto (tgt := 53) hx hb dX7_reg_35 (by decide) ?_
      refine vx_ret ?_
      refine W.widen (k := 1) (n := 6) (Nat.le_of_ble_eq_true rfl) (Nat.le_of_ble_eq_true rfl) ?_
      exact W.iret (v := ((S.2.2.2.2.2.1.2 1) (Int32.toNatClampNeg p0))) hx hb hr (fun t ht hW => ⟨⟨((S.2.2.2.2.2.1.2 1) (Int32.toNatClampNeg p0)), S, rfl, h, by rw [ht]; exact hP, va_K.moved hW.alike hK, hD⟩, hS.F ht⟩) hS.2.2 dX7_reg_53
  · have h := h.2 c3
    exact vx_throw0 (ik := 106) (ic := 108) (names := ["java/lang/RuntimeException", "java/lang/Exception"]) hx hb hst hown (by decide +kernel) (by decide +kernel) (hts _ q_957) (hts _ q_82) (x_hat1 hts hF.2) (by decide +kernel) hF.1.1 hF.1.2 hS (by rw [hml]; exact hl.1) dX7_reg_9 dX7_reg_12 dX7_reg_13 dX7_reg_16 (fun x hx9 => (hnx x hx9).elim) (Nat.le_of_ble_eq_true rfl) (Nat.le_of_ble_eq_true rfl) (Nat.le_of_ble_eq_true rfl) (Nat.le_of_ble_eq_true rfl) hlocks (fun t hvm hz hk => ⟨S, h, ⟨rfl, (x_end hP hD hK hS hvm hz hk).1⟩, (x_end hP hD hK hS hvm hz hk).2⟩) hS.2.2 (Nat.le_of_ble_eq_true rfl) (Nat.le_of_ble_eq_true rfl)
/-! X7_word -/
abbrev rmX7_word : Room := { frames := 6, cells := 1, slots := 6, locals := 100 }
set_option maxHeartbeats 4000000 in
set_option maxRecDepth 100000 in
theorem c_X7_word (l : Launch) (D : va_G) (cI cZ : ClassId) (a : Nat → Nat) (sz : Nat) (S : (Nat → Int32) × (Nat → Int32) × Ob × Ob × Ob × Ob × (Nat → Int32) × Ob × Ob × Ob × Ob × Ob) (p0 : Int32) (Q : Int32 → ((Nat → Int32) × (Nat → Int32) × Ob × Ob × Ob × Ob × (Nat → Int32) × Ob × Ob × Ob × Ob × Ob) → Prop) (Qx : ((Nat → Int32) × (Nat → Int32) × Ob × Ob × Ob × Ob × (Nat → Int32) × Ob × Ob × Ob × Ob × Ob) → Prop) (hst : l.stackTraces = false) (h : wp_X7_word S p0 Q Qx) : vx_Met l yX7_word (wsm yX7_word cX7_word 2 (some .int)) rmX7_word (va_Pc [.ref (a 0), .int p0] (preX D cI cZ sz (wX7 cI cZ a S))) (va_Qi Q (fun u => atW D cI cZ (va_A (wX7 cI cZ a S) sz) (wX7 cI cZ a u)) (va_A (wX7 cI cZ a S) sz)) (vx_X Qx (fun E u => fun t => E = "java/lang/IndexOutOfBoundsException" ∧ atW D cI cZ (va_A (wX7 cI cZ a S) sz) (wX7 cI cZ a u) t) (va_A (wX7 cI cZ a S) sz)) 1 6 (va_A (wX7 cI cZ a S) sz) := by
  refine vx_ofW (cc := cX7_word) (maxL := 2) (ret := (some .int)) (by decide) rfl ?_
  intro p e s m args below meth c s₁ B hml hnx hv
  obtain ⟨rfl, ⟨hsz, hP, hK, hD0⟩, hF⟩ := hv
  have hx := B.exec
  have hb := B.bytes
  have hr := B.returns
  have hts0 := atoms_spec (ws := wsm yX7_word cX7_word 2 (some .int)) B.pre
  have hts : ∀ w ∈ lw_all, w.before _ s = true := fun w h => hts0 w (List.mem_cons_of_mem _ h)
  have hown : s.vm.findClass RX7 = some m.cls := findClass_of_methodNamed B.named
  have hlocks := B.notSynchronized
  subst hsz
  have hD := hD0.self (sz := s.heap.size)
  generalize hAe : va_A (wX7 cI cZ a S) s.heap.size = A at hD hF ⊢
  have hA : ∀ q : Nat, s.heap.size ≤ q → A q := fun q h => by rw [← hAe]; exact Or.inr h
  have hS : va_S A s.heap s.heap [] := va_S.rf
  have hml2 := hml
  have hl := lv_entry ([.ref (a 0), .int p0]) (n := 2) (Nat.le_of_ble_eq_true rfl)
  rw [lg_entry_eq]
  generalize (lg_sl ([.ref (a 0), .int p0]) ++ List.replicate (2 - (lg_sl ([.ref (a 0), .int p0])).length) Slot.unset).toArray = ls at hl ⊢
  have hl : lv_has ls 2 [(0, .ref (a 0)), (1, .int p0)] := hl
  unfold wp_X7_word at h
  refine lv_iload_n hx hb dX7_word_0 rfl (lv_at hl 1 rfl) ?_
  refine lv_bipush (v := 96) hx hb dX7_word_1 (by decide) ?_
  refine cl_i (ws' := fun u1 => (wX7 cI cZ a S)) (va_runS (As := [.int p0, .int 96]) (rest := []) ⟨hx, hb, hml, hown, hts⟩ (c_X7_isBelow l D cI cZ _ () p0 96 _ h ) (va_cwS 2 hts (gS q_451 q_452 q_67 q_453) rfl rfl rfl (by decide +kernel) ⟨Nat.le_of_ble_eq_true rfl, Nat.le_of_ble_eq_true rfl⟩) (preS_of hK hP hD [] rfl rfl (by decide)) rfl rfl hl.1 rfl (lv_room (Nat.le_of_ble_eq_true rfl)) dX7_word_3 ⟨Nat.zero_le _, Nat.zero_le _⟩) hP hD hS hA [] [.inr 0, .inr 1, .inr 2, .inr 3, .inr 4, .inr 5, .inr 6, .inr 7, .inr 8, .inr 9, .inr 10, .inr 11, .inr 12, .inr 13, .inr 14, .inr 15, .inr 16, .inr 17, .inr 18, .inr 19, .inr 20, .inr 21, .inr 22, .inr 23, .inr 24, .inr 25, .inr 26, .inr 27, .inr 28, .inr 29, .inr 30, .inr 31, .inr 32, .inr 33, .inr 34, .inr 35, .inr 36, .inr 37, .inr 38, .inr 39, .inr 40, .inr 41, .inr 42, .inr 43, .inr 44, .inr 45, .inr 46, .inr 47, .inr 48, .inr 49, .inr 50, .inr 51, .inr 52, .inr 53] rfl (by decide) (fun _ => rfl) (fun _ => rfl) (fun r2 u1 H locs h hP hD hS => ?_)
  refine lv_if_ne (tgt := 17) hx hb dX7_word_6 (by decide) (fun c3 => ?_) (fun c3 => ?_)
  · have h := h.1 c3
    refine lv_aload_n hx hb dX7_word_17 rfl (lv_at hl 0 rfl) ?_
    refine va_get (D := D) (ci := 6) (v := .ref (a 2)) (C := RX7) (T := TX7) (N := 4) hx hb hts inX7 hown hK hP 0 rfl rfl 1 (by decide) (hts _ q_424) (fun _ h9 => h9) rfl dX7_word_18 ?_
    refine va_get (D := D) (ci := 3) (v := .ref (a 20)) (C := RX3) (T := TX3) (N := 12) hx hb hts inX3 hown hK hP 2 rfl rfl 3 (by decide) (hts _ q_355) (fun _ h9 => h9) rfl dX7_word_21 ?_
    refine va_get (D := D) (ci := 1) (v := .ref (a 24)) (C := RX1) (T := TX1) (N := 14) hx hb hts inX1 hown hK hP 20 rfl rfl 4 (by decide) (hts _ q_292) (fun _ h9 => h9) rfl dX7_word_24 ?_
    refine lv_iload_n hx hb dX7_word_27 rfl (lv_at hl 1 rfl) ?_
    refine ar_il (f := (S.2.2.2.2.2.1.2 4)) (n := 96) (j := (Int32.toNatClampNeg p0)) hx hb hK hP 24 rfl rfl h.1 dX7_word_28 ?_
    have h := h.2
    refine vx_ret ?_
    refine W.widen (k := 1) (n := 6) (Nat.le_of_ble_eq_true rfl) (Nat.le_of_ble_eq_true rfl) ?_
    exact W.iret (v := ((S.2.2.2.2.2.1.2 4) (Int32.toNatClampNeg p0))) hx hb hr (fun t ht hW => ⟨⟨((S.2.2.2.2.2.1.2 4) (Int32.toNatClampNeg p0)), S, rfl, h, by rw [ht]; exact hP, va_K.moved hW.alike hK, hD⟩, hS.F ht⟩) hS.2.2 dX7_word_29
  · have h := h.2 c3
    exact vx_throw0 (ik := 121) (ic := 123) (names := ["java/lang/RuntimeException", "java/lang/Exception"]) hx hb hst hown (by decide +kernel) (by decide +kernel) (hts _ q_1027) (hts _ q_83) (x_hat2 hts hF.2) (by decide +kernel) hF.1.1 hF.1.2 hS (by rw [hml]; exact hl.1) dX7_word_9 dX7_word_12 dX7_word_13 dX7_word_16 (fun x hx9 => (hnx x hx9).elim) (Nat.le_of_ble_eq_true rfl) (Nat.le_of_ble_eq_true rfl) (Nat.le_of_ble_eq_true rfl) (Nat.le_of_ble_eq_true rfl) hlocks (fun t hvm hz hk => ⟨S, h, ⟨rfl, (x_end hP hD hK hS hvm hz hk).1⟩, (x_end hP hD hK hS hvm hz hk).2⟩) hS.2.2 (Nat.le_of_ble_eq_true rfl) (Nat.le_of_ble_eq_true rfl)
/-! X7_data -/
abbrev rmX7_data : Room := { frames := 6, cells := 1, slots := 6, locals := 100 }
set_option maxHeartbeats 4000000 in
set_option maxRecDepth 100000 in
theorem c_X7_data (l : Launch) (D : va_G) (cI cZ : ClassId) (a : Nat → Nat) (sz : Nat) (S : (Nat → Int32) × (Nat → Int32) × Ob × Ob × Ob × Ob × (Nat → Int32) × Ob × Ob × Ob × Ob × Ob) (p0 : Int32) (Q : Int32 → ((Nat → Int32) × (Nat → Int32) × Ob × Ob × Ob × Ob × (Nat → Int32) × Ob × Ob × Ob × Ob × Ob) → Prop) (Qx : ((Nat → Int32) × (Nat → Int32) × Ob × Ob × Ob × Ob × (Nat → Int32) × Ob × Ob × Ob × Ob × Ob) → Prop) (hst : l.stackTraces = false) (h : wp_X7_data S p0 Q Qx) : vx_Met l yX7_data (wsm yX7_data cX7_data 2 (some .int)) rmX7_data (va_Pc [.ref (a 0), .int p0] (preX D cI cZ sz (wX7 cI cZ a S))) (va_Qi Q (fun u => atW D cI cZ (va_A (wX7 cI cZ a S) sz) (wX7 cI cZ a u)) (va_A (wX7 cI cZ a S) sz)) (vx_X Qx (fun E u => fun t => E = "java/lang/IndexOutOfBoundsException" ∧ atW D cI cZ (va_A (wX7 cI cZ a S) sz) (wX7 cI cZ a u) t) (va_A (wX7 cI cZ a S) sz)) 1 6 (va_A (wX7 cI cZ a S) sz) := by
  refine vx_ofW (cc := cX7_data) (maxL := 2) (ret := (some .int)) (by decide) rfl ?_
  intro p e s m args below meth c s₁ B hml hnx hv
  obtain ⟨rfl, ⟨hsz, hP, hK, hD0⟩, hF⟩ := hv
  have hx := B.exec
  have hb := B.bytes
  have hr := B.returns
  have hts0 := atoms_spec (ws := wsm yX7_data cX7_data 2 (some .int)) B.pre
  have hts : ∀ w ∈ lw_all, w.before _ s = true := fun w h => hts0 w (List.mem_cons_of_mem _ h)
  have hown : s.vm.findClass RX7 = some m.cls := findClass_of_methodNamed B.named
  have hlocks := B.notSynchronized
  subst hsz
  have hD := hD0.self (sz := s.heap.size)
  generalize hAe : va_A (wX7 cI cZ a S) s.heap.size = A at hD hF ⊢
  have hA : ∀ q : Nat, s.heap.size ≤ q → A q := fun q h => by rw [← hAe]; exact Or.inr h
  have hS : va_S A s.heap s.heap [] := va_S.rf
  have hml2 := hml
  have hl := lv_entry ([.ref (a 0), .int p0]) (n := 2) (Nat.le_of_ble_eq_true rfl)
  rw [lg_entry_eq]
  generalize (lg_sl ([.ref (a 0), .int p0]) ++ List.replicate (2 - (lg_sl ([.ref (a 0), .int p0])).length) Slot.unset).toArray = ls at hl ⊢
  have hl : lv_has ls 2 [(0, .ref (a 0)), (1, .int p0)] := hl
  unfold wp_X7_data at h
  refine lv_iload_n hx hb dX7_data_0 rfl (lv_at hl 1 rfl) ?_
  refine lv_bipush (v := 16) hx hb dX7_data_1 (by decide) ?_
  refine cl_i (ws' := fun u1 => (wX7 cI cZ a S)) (va_runS (As := [.int p0, .int 16]) (rest := []) ⟨hx, hb, hml, hown, hts⟩ (c_X7_isBelow l D cI cZ _ () p0 16 _ h ) (va_cwS 2 hts (gS q_451 q_452 q_67 q_453) rfl rfl rfl (by decide +kernel) ⟨Nat.le_of_ble_eq_true rfl, Nat.le_of_ble_eq_true rfl⟩) (preS_of hK hP hD [] rfl rfl (by decide)) rfl rfl hl.1 rfl (lv_room (Nat.le_of_ble_eq_true rfl)) dX7_data_3 ⟨Nat.zero_le _, Nat.zero_le _⟩) hP hD hS hA [] [.inr 0, .inr 1, .inr 2, .inr 3, .inr 4, .inr 5, .inr 6, .inr 7, .inr 8, .inr 9, .inr 10, .inr 11, .inr 12, .inr 13, .inr 14, .inr 15, .inr 16, .inr 17, .inr 18, .inr 19, .inr 20, .inr 21, .inr 22, .inr 23, .inr 24, .inr 25, .inr 26, .inr 27, .inr 28, .inr 29, .inr 30, .inr 31, .inr 32, .inr 33, .inr 34, .inr 35, .inr 36, .inr 37, .inr 38, .inr 39, .inr 40, .inr 41, .inr 42, .inr 43, .inr 44, .inr 45, .inr 46, .inr 47, .inr 48, .inr 49, .inr 50, .inr 51, .inr 52, .inr 53] rfl (by decide) (fun _ => rfl) (fun _ => rfl) (fun r2 u1 H locs h hP hD hS => ?_)
  refine lv_if_ne (tgt := 17) hx hb dX7_data_6 (by decide) (fun c3 => ?_) (fun c3 => ?_)
  · have h := h.1 c3
    refine lv_aload_n hx hb dX7_data_17 rfl (lv_at hl 0 rfl) ?_
    refine va_get (D := D) (ci := 6) (v := .ref (a 2)) (C := RX7) (T := TX7) (N := 4) hx hb hts inX7 hown hK hP 0 rfl rfl 1 (by decide) (hts _ q_424) (fun _ h9 => h9) rfl dX7_data_18 ?_
    refine va_get (D := D) (ci := 3) (v := .ref (a 20)) (C := RX3) (T := TX3) (N := 12) hx hb hts inX3 hown hK hP 2 rfl rfl 3 (by decide) (hts _ q_355) (fun _ h9 => h9) rfl dX7_data_21 ?_
    refine va_get (D := D) (ci := 1) (v := .ref (a 23)) (C := RX1) (T := TX1) (N := 14) hx hb hts inX1 hown hK hP 20 rfl rfl 3 (by decide) (hts _ q_290) (fun _ h9 => h9) rfl dX7_data_24 ?_
    refine lv_iload_n hx hb dX7_data_27 rfl (lv_at hl 1 rfl) ?_
    refine ar_il (f := (S.2.2.2.2.2.1.2 3)) (n := 16) (j := (Int32.toNatClampNeg p0)) hx hb hK hP 23 rfl rfl h.1 dX7_data_28 ?_
    have h := h.2
    refine vx_ret ?_
    refine W.widen (k := 1) (n := 6) (Nat.le_of_ble_eq_true rfl) (Nat.le_of_ble_eq_true rfl) ?_
    exact W.iret (v := ((S.2.2.2.2.2.1.2 3) (Int32.toNatClampNeg p0))) hx hb hr (fun t ht hW => ⟨⟨((S.2.2.2.2.2.1.2 3) (Int32.toNatClampNeg p0)), S, rfl, h, by rw [ht]; exact hP, va_K.moved hW.alike hK, hD⟩, hS.F ht⟩) hS.2.2 dX7_data_29
  · have h := h.2 c3
    exact vx_throw0 (ik := 121) (ic := 123) (names := ["java/lang/RuntimeException", "java/lang/Exception"]) hx hb hst hown (by decide +kernel) (by decide +kernel) (hts _ q_1027) (hts _ q_83) (x_hat2 hts hF.2) (by decide +kernel) hF.1.1 hF.1.2 hS (by rw [hml]; exact hl.1) dX7_data_9 dX7_data_12 dX7_data_13 dX7_data_16 (fun x hx9 => (hnx x hx9).elim) (Nat.le_of_ble_eq_true rfl) (Nat.le_of_ble_eq_true rfl) (Nat.le_of_ble_eq_true rfl) (Nat.le_of_ble_eq_true rfl) hlocks (fun t hvm hz hk => ⟨S, h, ⟨rfl, (x_end hP hD hK hS hvm hz hk).1⟩, (x_end hP hD hK hS hvm hz hk).2⟩) hS.2.2 (Nat.le_of_ble_eq_true rfl) (Nat.le_of_ble_eq_true rfl)
/-! X7_out -/
abbrev rmX7_out : Room := { frames := 6, cells := 1, slots := 6, locals := 100 }
set_option maxHeartbeats 4000000 in
set_option maxRecDepth 100000 in
theorem c_X7_out (l : Launch) (D : va_G) (cI cZ : ClassId) (a : Nat → Nat) (sz : Nat) (S : (Nat → Int32) × (Nat → Int32) × Ob × Ob × Ob × Ob × (Nat → Int32) × Ob × Ob × Ob × Ob × Ob) (p0 : Int32) (Q : Int32 → ((Nat → Int32) × (Nat → Int32) × Ob × Ob × Ob × Ob × (Nat → Int32) × Ob × Ob × Ob × Ob × Ob) → Prop) (Qx : ((Nat → Int32) × (Nat → Int32) × Ob × Ob × Ob × Ob × (Nat → Int32) × Ob × Ob × Ob × Ob × Ob) → Prop) (hst : l.stackTraces = false) (h : wp_X7_out S p0 Q Qx) : vx_Met l yX7_out (wsm yX7_out cX7_out 2 (some .int)) rmX7_out (va_Pc [.ref (a 0), .int p0] (preX D cI cZ sz (wX7 cI cZ a S))) (va_Qi Q (fun u => atW D cI cZ (va_A (wX7 cI cZ a S) sz) (wX7 cI cZ a u)) (va_A (wX7 cI cZ a S) sz)) (vx_X Qx (fun E u => fun t => E = "java/util/NoSuchElementException" ∧ atW D cI cZ (va_A (wX7 cI cZ a S) sz) (wX7 cI cZ a u) t) (va_A (wX7 cI cZ a S) sz)) 1 6 (va_A (wX7 cI cZ a S) sz) := by
  refine vx_ofW (cc := cX7_out) (maxL := 2) (ret := (some .int)) (by decide) rfl ?_
  intro p e s m args below meth c s₁ B hml hnx hv
  obtain ⟨rfl, ⟨hsz, hP, hK, hD0⟩, hF⟩ := hv
  have hx := B.exec
  have hb := B.bytes
  have hr := B.returns
  have hts0 := atoms_spec (ws := wsm yX7_out cX7_out 2 (some .int)) B.pre
  have hts : ∀ w ∈ lw_all, w.before _ s = true := fun w h => hts0 w (List.mem_cons_of_mem _ h)
  have hown : s.vm.findClass RX7 = some m.cls := findClass_of_methodNamed B.named
  have hlocks := B.notSynchronized
  subst hsz
  have hD := hD0.self (sz := s.heap.size)
  generalize hAe : va_A (wX7 cI cZ a S) s.heap.size = A at hD hF ⊢
  have hA : ∀ q : Nat, s.heap.size ≤ q → A q := fun q h => by rw [← hAe]; exact Or.inr h
  have hS : va_S A s.heap s.heap [] := va_S.rf
  have hml2 := hml
  have hl := lv_entry ([.ref (a 0), .int p0]) (n := 2) (Nat.le_of_ble_eq_true rfl)
  rw [lg_entry_eq]
  generalize (lg_sl ([.ref (a 0), .int p0]) ++ List.replicate (2 - (lg_sl ([.ref (a 0), .int p0])).length) Slot.unset).toArray = ls at hl ⊢
  have hl : lv_has ls 2 [(0, .ref (a 0)), (1, .int p0)] := hl
  unfold wp_X7_out at h
  refine lv_iload_n hx hb dX7_out_0 rfl (lv_at hl 1 rfl) ?_
  refine lv_bipush (v := 64) hx hb dX7_out_1 (by decide) ?_
  refine cl_i (ws' := fun u1 => (wX7 cI cZ a S)) (va_runS (As := [.int p0, .int 64]) (rest := []) ⟨hx, hb, hml, hown, hts⟩ (c_X7_isBelow l D cI cZ _ () p0 64 _ h ) (va_cwS 2 hts (gS q_451 q_452 q_67 q_453) rfl rfl rfl (by decide +kernel) ⟨Nat.le_of_ble_eq_true rfl, Nat.le_of_ble_eq_true rfl⟩) (preS_of hK hP hD [] rfl rfl (by decide)) rfl rfl hl.1 rfl (lv_room (Nat.le_of_ble_eq_true rfl)) dX7_out_3 ⟨Nat.zero_le _, Nat.zero_le _⟩) hP hD hS hA [] [.inr 0, .inr 1, .inr 2, .inr 3, .inr 4, .inr 5, .inr 6, .inr 7, .inr 8, .inr 9, .inr 10, .inr 11, .inr 12, .inr 13, .inr 14, .inr 15, .inr 16, .inr 17, .inr 18, .inr 19, .inr 20, .inr 21, .inr 22, .inr 23, .inr 24, .inr 25, .inr 26, .inr 27, .inr 28, .inr 29, .inr 30, .inr 31, .inr 32, .inr 33, .inr 34, .inr 35, .inr 36, .inr 37, .inr 38, .inr 39, .inr 40, .inr 41, .inr 42, .inr 43, .inr 44, .inr 45, .inr 46, .inr 47, .inr 48, .inr 49, .inr 50, .inr 51, .inr 52, .inr 53] rfl (by decide) (fun _ => rfl) (fun _ => rfl) (fun r2 u1 H locs h hP hD hS => ?_)
  refine lv_if_eq (tgt := 23) hx hb dX7_out_6 (by decide) (fun c3 => ?_) (fun c3 => ?_)
  · have h := h.1 c3
    exact vx_throw0 (ik := 106) (ic := 108) (names := ["java/lang/RuntimeException", "java/lang/Exception"]) hx hb hst hown (by decide +kernel) (by decide +kernel) (hts _ q_957) (hts _ q_82) (x_hat1 hts hF.2) (by decide +kernel) hF.1.1 hF.1.2 hS (by rw [hml]; exact hl.1) dX7_out_23 dX7_out_26 dX7_out_27 dX7_out_30 (fun x hx9 => (hnx x hx9).elim) (Nat.le_of_ble_eq_true rfl) (Nat.le_of_ble_eq_true rfl) (Nat.le_of_ble_eq_true rfl) (Nat.le_of_ble_eq_true rfl) hlocks (fun t hvm hz hk => ⟨S, h, ⟨rfl, (x_end hP hD hK hS hvm hz hk).1⟩, (x_end hP hD hK hS hvm hz hk).2⟩) hS.2.2 (Nat.le_of_ble_eq_true rfl) (Nat.le_of_ble_eq_true rfl)
  · have h := h.2 c3
    refine lv_iload_n hx hb dX7_out_9 rfl (lv_at hl 1 rfl) ?_
    refine lv_aload_n hx hb dX7_out_10 rfl (lv_at hl 0 rfl) ?_
    refine va_get (D := D) (ci := 6) (v := .ref (a 2)) (C := RX7) (T := TX7) (N := 4) hx hb hts inX7 hown hK hP 0 rfl rfl 1 (by decide) (hts _ q_424) (fun _ h9 => h9) rfl dX7_out_11 ?_
    refine va_get (D := D) (ci := 3) (v := .ref (a 17)) (C := RX3) (T := TX3) (N := 12) hx hb hts inX3 hown hK hP 2 rfl rfl 2 (by decide) (hts _ q_353) (fun _ h9 => h9) rfl dX7_out_14 ?_
    refine va_get (D := D) (ci := 2) (v := .int (S.2.2.2.2.1.1 4)) (C := RX2) (T := TX2) (N := 14) hx hb hts inX2 hown hK hP 17 rfl rfl 4 (by decide) (hts _ q_220) (fun _ h9 => h9) rfl dX7_out_17 ?_
    refine lv_icmp_lt (tgt := 31) hx hb dX7_out_20 (by decide) (fun c4 => ?_) (fun c4 => ?_)
    · have h := h.1 c4
      refine lv_aload_n hx hb dX7_out_31 rfl (lv_at hl 0 rfl) ?_
      refine va_get (D := D) (ci := 6) (v := .ref (a 2)) (C := RX7) (T := TX7) (N := 4) hx hb hts inX7 hown hK hP 0 rfl rfl 1 (by decide) (hts _ q_424) (fun _ h9 => h9) rfl dX7_out_32 ?_
      refine va_get (D := D) (ci := 3) (v := .ref (a 17)) (C := RX3) (T := TX3) (N := 12) hx hb hts inX3 hown hK hP 2 rfl rfl 2 (by decide) (hts _ q_353) (fun _ h9 => h9) rfl dX7_out_35 ?_
      refine va_get (D := D) (ci := 2) (v := .ref (a 18)) (C := RX2) (T := TX2) (N := 14) hx hb hts inX2 hown hK hP 17 rfl rfl 0 (by decide) (hts _ q_214) (fun _ h9 => h9) rfl dX7_out_38 ?_
      refine lv_iload_n hx hb dX7_out_41 rfl (lv_at hl 1 rfl) ?_
      refine ar_il (f := (S.2.2.2.2.1.2 0)) (n := 64) (j := (Int32.toNatClampNeg p0)) hx hb hK hP 18 rfl rfl h.1 dX7_out_42 ?_
      have h := h.2
      refine vx_ret ?_
      refine W.widen (k := 1) (n := 6) (Nat.le_of_ble_eq_true rfl) (Nat.le_of_ble_eq_true rfl) ?_
      exact W.iret (v := ((S.2.2.2.2.1.2 0) (Int32.toNatClampNeg p0))) hx hb hr (fun t ht hW => ⟨⟨((S.2.2.2.2.1.2 0) (Int32.toNatClampNeg p0)), S, rfl, h, by rw [ht]; exact hP, va_K.moved hW.alike hK, hD⟩, hS.F ht⟩) hS.2.2 dX7_out_43
    · have h := h.2 c4
      exact vx_throw0 (ik := 106) (ic := 108) (names := ["java/lang/RuntimeException", "java/lang/Exception"]) hx hb hst hown (by decide +kernel) (by decide +kernel) (hts _ q_957) (hts _ q_82) (x_hat1 hts hF.2) (by decide +kernel) hF.1.1 hF.1.2 hS (by rw [hml]; exact hl.1) dX7_out_23 dX7_out_26 dX7_out_27 dX7_out_30 (fun x hx9 => (hnx x hx9).elim) (Nat.le_of_ble_eq_true rfl) (Nat.le_of_ble_eq_true rfl) (Nat.le_of_ble_eq_true rfl) (Nat.le_of_ble_eq_true rfl) hlocks (fun t hvm hz hk => ⟨S, h, ⟨rfl, (x_end hP hD hK hS hvm hz hk).1⟩, (x_end hP hD hK hS hvm hz hk).2⟩) hS.2.2 (Nat.le_of_ble_eq_true rfl) (Nat.le_of_ble_eq_true rfl)
/-! X7_event -/
abbrev rmX7_event : Room := { frames := 6, cells := 1, slots := 6, locals := 100 }
set_option maxHeartbeats 4000000 in
set_option maxRecDepth 100000 in
theorem c_X7_event (l : Launch) (D : va_G) (cI cZ : ClassId) (a : Nat → Nat) (sz : Nat) (S : (Nat → Int32) × (Nat → Int32) × Ob × Ob × Ob × Ob × (Nat → Int32) × Ob × Ob × Ob × Ob × Ob) (p0 : Int32) (p1 : Int32) (Q : Int32 → ((Nat → Int32) × (Nat → Int32) × Ob × Ob × Ob × Ob × (Nat → Int32) × Ob × Ob × Ob × Ob × Ob) → Prop) (Qx : ((Nat → Int32) × (Nat → Int32) × Ob × Ob × Ob × Ob × (Nat → Int32) × Ob × Ob × Ob × Ob × Ob) → Prop) (hst : l.stackTraces = false) (h : wp_X7_event S p0 p1 Q Qx) : vx_Met l yX7_event (wsm yX7_event cX7_event 3 (some .int)) rmX7_event (va_Pc [.ref (a 0), .int p0, .int p1] (preX D cI cZ sz (wX7 cI cZ a S))) (va_Qi Q (fun u => atW D cI cZ (va_A (wX7 cI cZ a S) sz) (wX7 cI cZ a u)) (va_A (wX7 cI cZ a S) sz)) (vx_X Qx (fun E u => fun t => E = "java/util/NoSuchElementException" ∧ atW D cI cZ (va_A (wX7 cI cZ a S) sz) (wX7 cI cZ a u) t) (va_A (wX7 cI cZ a S) sz)) 1 6 (va_A (wX7 cI cZ a S) sz) := by
  refine vx_ofW (cc := cX7_event) (maxL := 3) (ret := (some .int)) (by decide) rfl ?_
  intro p e s m args below meth c s₁ B hml hnx hv
  obtain ⟨rfl, ⟨hsz, hP, hK, hD0⟩, hF⟩ := hv
  have hx := B.exec
  have hb := B.bytes
  have hr := B.returns
  have hts0 := atoms_spec (ws := wsm yX7_event cX7_event 3 (some .int)) B.pre
  have hts : ∀ w ∈ lw_all, w.before _ s = true := fun w h => hts0 w (List.mem_cons_of_mem _ h)
  have hown : s.vm.findClass RX7 = some m.cls := findClass_of_methodNamed B.named
  have hlocks := B.notSynchronized
  subst hsz
  have hD := hD0.self (sz := s.heap.size)
  generalize hAe : va_A (wX7 cI cZ a S) s.heap.size = A at hD hF ⊢
  have hA : ∀ q : Nat, s.heap.size ≤ q → A q := fun q h => by rw [← hAe]; exact Or.inr h
  have hS : va_S A s.heap s.heap [] := va_S.rf
  have hml2 := hml
  have hl := lv_entry ([.ref (a 0), .int p0, .int p1]) (n := 3) (Nat.le_of_ble_eq_true rfl)
  rw [lg_entry_eq]
  generalize (lg_sl ([.ref (a 0), .int p0, .int p1]) ++ List.replicate (3 - (lg_sl ([.ref (a 0), .int p0, .int p1])).length) Slot.unset).toArray = ls at hl ⊢
  have hl : lv_has ls 3 [(0, .ref (a 0)), (1, .int p0), (2, .int p1)] := hl
  unfold wp_X7_event at h
  refine lv_iload_n hx hb dX7_event_0 rfl (lv_at hl 1 rfl) ?_
  refine lv_aload_n hx hb dX7_event_1 rfl (lv_at hl 0 rfl) ?_
  refine va_get (D := D) (ci := 6) (v := .ref (a 2)) (C := RX7) (T := TX7) (N := 4) hx hb hts inX7 hown hK hP 0 rfl rfl 1 (by decide) (hts _ q_424) (fun _ h9 => h9) rfl dX7_event_2 ?_
  refine va_get (D := D) (ci := 3) (v := .ref (a 17)) (C := RX3) (T := TX3) (N := 12) hx hb hts inX3 hown hK hP 2 rfl rfl 2 (by decide) (hts _ q_353) (fun _ h9 => h9) rfl dX7_event_5 ?_
  refine va_get (D := D) (ci := 2) (v := .int (S.2.2.2.2.1.1 2)) (C := RX2) (T := TX2) (N := 14) hx hb hts inX2 hown hK hP 17 rfl rfl 2 (by decide) (hts _ q_217) (fun _ h9 => h9) rfl dX7_event_8 ?_
  refine cl_i (ws' := fun u1 => (wX7 cI cZ a S)) (va_runS (As := [.int p0, .int (S.2.2.2.2.1.1 2)]) (rest := []) ⟨hx, hb, hml, hown, hts⟩ (c_X7_isBelow l D cI cZ _ () p0 (S.2.2.2.2.1.1 2) _ h ) (va_cwS 2 hts (gS q_451 q_452 q_67 q_453) rfl rfl rfl (by decide +kernel) ⟨Nat.le_of_ble_eq_true rfl, Nat.le_of_ble_eq_true rfl⟩) (preS_of hK hP hD [] rfl rfl (by decide)) rfl rfl hl.1 rfl (lv_room (Nat.le_of_ble_eq_true rfl)) dX7_event_11 ⟨Nat.zero_le _, Nat.zero_le _⟩) hP hD hS hA [] [.inr 0, .inr 1, .inr 2, .inr 3, .inr 4, .inr 5, .inr 6, .inr 7, .inr 8, .inr 9, .inr 10, .inr 11, .inr 12, .inr 13, .inr 14, .inr 15, .inr 16, .inr 17, .inr 18, .inr 19, .inr 20, .inr 21, .inr 22, .inr 23, .inr 24, .inr 25, .inr 26, .inr 27, .inr 28, .inr 29, .inr 30, .inr 31, .inr 32, .inr 33, .inr 34, .inr 35, .inr 36, .inr 37, .inr 38, .inr 39, .inr 40, .inr 41, .inr 42, .inr 43, .inr 44, .inr 45, .inr 46, .inr 47, .inr 48, .inr 49, .inr 50, .inr 51, .inr 52, .inr 53] rfl (by decide) (fun _ => rfl) (fun _ => rfl) (fun r2 u1 H locs h hP hD hS => ?_)
  refine lv_if_eq (tgt := 25) hx hb dX7_event_14 (by decide) (fun c3 => ?_) (fun c3 => ?_)
  · have h := h.1 c3
    exact vx_throw0 (ik := 106) (ic := 108) (names := ["java/lang/RuntimeException", "java/lang/Exception"]) hx hb hst hown (by decide +kernel) (by decide +kernel) (hts _ q_957) (hts _ q_82) (x_hat1 hts hF.2) (by decide +kernel) hF.1.1 hF.1.2 hS (by rw [hml]; exact hl.1) dX7_event_25 dX7_event_28 dX7_event_29 dX7_event_32 (fun x hx9 => (hnx x hx9).elim) (Nat.le_of_ble_eq_true rfl) (Nat.le_of_ble_eq_true rfl) (Nat.le_of_ble_eq_true rfl) (Nat.le_of_ble_eq_true rfl) hlocks (fun t hvm hz hk => ⟨S, h, ⟨rfl, (x_end hP hD hK hS hvm hz hk).1⟩, (x_end hP hD hK hS hvm hz hk).2⟩) hS.2.2 (Nat.le_of_ble_eq_true rfl) (Nat.le_of_ble_eq_true rfl)
  · have h := h.2 c3
    refine lv_iload_n hx hb dX7_event_17 rfl (lv_at hl 2 rfl) ?_
    refine lv_iconst (v := 4) hx hb dX7_event_18 (by decide) ?_
    refine cl_i (ws' := fun u4 => (wX7 cI cZ a S)) (va_runS (As := [.int p1, .int 4]) (rest := []) ⟨hx, hb, hml, hown, hts⟩ (c_X7_isBelow l D cI cZ _ () p1 4 _ h ) (va_cwS 2 hts (gS q_451 q_452 q_67 q_453) rfl rfl rfl (by decide +kernel) ⟨Nat.le_of_ble_eq_true rfl, Nat.le_of_ble_eq_true rfl⟩) (preS_of hK hP hD [] rfl rfl (by decide)) rfl rfl hl.1 rfl (lv_room (Nat.le_of_ble_eq_true rfl)) dX7_event_19 ⟨Nat.zero_le _, Nat.zero_le _⟩) hP hD hS hA [] [.inr 0, .inr 1, .inr 2, .inr 3, .inr 4, .inr 5, .inr 6, .inr 7, .inr 8, .inr 9, .inr 10, .inr 11, .inr 12, .inr 13, .inr 14, .inr 15, .inr 16, .inr 17, .inr 18, .inr 19, .inr 20, .inr 21, .inr 22, .inr 23, .inr 24, .inr 25, .inr 26, .inr 27, .inr 28, .inr 29, .inr 30, .inr 31, .inr 32, .inr 33, .inr 34, .inr 35, .inr 36, .inr 37, .inr 38, .inr 39, .inr 40, .inr 41, .inr 42, .inr 43, .inr 44, .inr 45, .inr 46, .inr 47, .inr 48, .inr 49, .inr 50, .inr 51, .inr 52, .inr 53] rfl (by decide) (fun _ => rfl) (fun _ => rfl) (fun r5 u4 H locs h hP hD hS => ?_)
    refine lv_if_ne (tgt := 33) hx hb dX7_event_22 (by decide) (fun c6 => ?_) (fun c6 => ?_)
    · have h := h.1 c6
      refine lv_aload_n hx hb dX7_event_33 rfl (lv_at hl 0 rfl) ?_
      refine va_get (D := D) (ci := 6) (v := .ref (a 2)) (C := RX7) (T := TX7) (N := 4) hx hb hts inX7 hown hK hP 0 rfl rfl 1 (by decide) (hts _ q_424) (fun _ h9 => h9) rfl dX7_event_34 ?_
      refine va_get (D := D) (ci := 3) (v := .ref (a 17)) (C := RX3) (T := TX3) (N := 12) hx hb hts inX3 hown hK hP 2 rfl rfl 2 (by decide) (hts _ q_353) (fun _ h9 => h9) rfl dX7_event_37 ?_
      refine lv_iload_n hx hb dX7_event_40 rfl (lv_at hl 1 rfl) ?_
      refine lv_iload_n hx hb dX7_event_41 rfl (lv_at hl 2 rfl) ?_
      refine cl_i (ws' := fun u7 => (wX7 cI cZ a (S.1, S.2.1, S.2.2.1, S.2.2.2.1, u7, S.2.2.2.2.2.1, S.2.2.2.2.2.2.1, S.2.2.2.2.2.2.2.1, S.2.2.2.2.2.2.2.2.1, S.2.2.2.2.2.2.2.2.2.1, S.2.2.2.2.2.2.2.2.2.2.1, S.2.2.2.2.2.2.2.2.2.2.2))) (va_runV (As := [.int p0, .int p1]) (rest := []) ⟨hx, hb, hml, hown, hts⟩ (c_X2_fieldOf l D cI cZ (fun k => a (k + 17)) _ S.2.2.2.2.1 p0 p1 _ h ) (cwV 2 hts (gV q_1063 q_1064 q_1065 q_72 q_1066) rfl rfl rfl (by decide +kernel) ⟨Nat.le_of_ble_eq_true rfl, Nat.le_of_ble_eq_true rfl⟩) (preV_of (ci := 2) (q := (RX2, TX2, 14)) hK hP hD [17, 18, 19] rfl rfl (by decide) 17 rfl rfl) rfl rfl hl.1 rfl (lv_room (Nat.le_of_ble_eq_true rfl)) dX7_event_42 ⟨Nat.zero_le _, Nat.zero_le _⟩) hP hD hS hA [17, 18, 19] [.inr 0, .inr 1, .inr 2, .inr 3, .inr 4, .inr 5, .inr 6, .inr 7, .inr 8, .inr 9, .inr 10, .inr 11, .inr 12, .inr 13, .inr 14, .inr 15, .inr 16, .inl 0, .inl 1, .inl 2, .inr 20, .inr 21, .inr 22, .inr 23, .inr 24, .inr 25, .inr 26, .inr 27, .inr 28, .inr 29, .inr 30, .inr 31, .inr 32, .inr 33, .inr 34, .inr 35, .inr 36, .inr 37, .inr 38, .inr 39, .inr 40, .inr 41, .inr 42, .inr 43, .inr 44, .inr 45, .inr 46, .inr 47, .inr 48, .inr 49, .inr 50, .inr 51, .inr 52, .inr 53] rfl (by decide) (fun _ => rfl) (fun _ => rfl) (fun r8 u7 H locs h hP hD hS => ?_)
      refine vx_ret ?_
      refine W.widen (k := 1) (n := 6) (Nat.le_of_ble_eq_true rfl) (Nat.le_of_ble_eq_true rfl) ?_
      exact W.iret (v := r8) hx hb hr (fun t ht hW => ⟨⟨r8, (S.1, S.2.1, S.2.2.1, S.2.2.2.1, u7, S.2.2.2.2.2.1, S.2.2.2.2.2.2.1, S.2.2.2.2.2.2.2.1, S.2.2.2.2.2.2.2.2.1, S.2.2.2.2.2.2.2.2.2.1, S.2.2.2.2.2.2.2.2.2.2.1, S.2.2.2.2.2.2.2.2.2.2.2), rfl, h, by rw [ht]; exact hP, va_K.moved hW.alike hK, hD⟩, hS.F ht⟩) hS.2.2 dX7_event_45
    · have h := h.2 c6
      exact vx_throw0 (ik := 106) (ic := 108) (names := ["java/lang/RuntimeException", "java/lang/Exception"]) hx hb hst hown (by decide +kernel) (by decide +kernel) (hts _ q_957) (hts _ q_82) (x_hat1 hts hF.2) (by decide +kernel) hF.1.1 hF.1.2 hS (by rw [hml]; exact hl.1) dX7_event_25 dX7_event_28 dX7_event_29 dX7_event_32 (fun x hx9 => (hnx x hx9).elim) (Nat.le_of_ble_eq_true rfl) (Nat.le_of_ble_eq_true rfl) (Nat.le_of_ble_eq_true rfl) (Nat.le_of_ble_eq_true rfl) hlocks (fun t hvm hz hk => ⟨S, h, ⟨rfl, (x_end hP hD hK hS hvm hz hk).1⟩, (x_end hP hD hK hS hvm hz hk).2⟩) hS.2.2 (Nat.le_of_ble_eq_true rfl) (Nat.le_of_ble_eq_true rfl)
