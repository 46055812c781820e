/-! THE LAW'S HELPERS -/
abbrev tyJ (cI cZ cJ : ClassId) : List (ClassId × FieldType) := [(cI, .int), (cZ, .boolean), (cJ, .long)]
/-- the class's cells, and the law's own row of one long -/
abbrev wXL (cI cZ cJ : ClassId) (a : Nat → Nat) (o : Nat) (S : TR7) (g : Nat → Int64) : va_W := wX7 cI cZ a S ++ [(o, .inl (cJ, 1, .inr (.inl g)))]
abbrev preL (D : va_G) (cI cZ cJ : ClassId) (sz : Nat) (w : va_W) (U : State) : Prop := (U.heap.size = sz ∧ va_P D vwCl w U.heap ∧ va_K D vwCl (tyJ cI cZ cJ) U ∧ va_D (fun _ => True) w) ∧ xF (va_A w sz) U U.heap
abbrev atL (D : va_G) (cI cZ cJ : ClassId) (A : Nat → Prop) (w : va_W) (t : State) : Prop := va_P D vwCl w t.heap ∧ va_K D vwCl (tyJ cI cZ cJ) t ∧ va_D A w
def wsmW (y : MethodName) (c : ByteArray) (n : Nat) (r : Option FieldType) (hh : List (Nat × Nat × Nat × Nat)) : List Cond := .codeWith y c n r hh :: lw_all
theorem preXV_of {s : State} {H : Heap} {D : va_G} {cI cZ : ClassId} {A : Nat → Prop} {ws wc : va_W} {As : List Value} {b ci : Nat} {q : vw_C} {fs : List Value} {locs : List Loc} (hF : xF A s s.heap) (hS : va_S A s.heap H locs) (hA : ∀ q, s.heap.size ≤ q → A q) (hK : va_K D vwCl (tyL cI cZ) s) (hP : va_P D vwCl ws H) (hD : va_D A ws) (isC : List Nat) (hC : isC.map (fun i => ws[i]?) = wc.map some) (hf : isC.filterMap (fun i => ws[i]?) = wc) (hn : va_nd isC = true) (q0 : Nat) (hc : vwCl[ci]? = some q) (he : ws[q0]? = some (b, .inr (ci, fs))) : PreV s H q.1 b (va_Pc (.ref b :: As) (preX D cI cZ H.size wc)) As :=
  ⟨preX_blind, va_recv hK hP hc he, fun U hU hW => ⟨rfl, ⟨by rw [hU], by rw [hU]; exact hP.sub isC hf, va_K.moved hW.alike hK, (hD.sub isC hn hC).weaken (fun _ _ _ _ => trivial)⟩, hF.go hW (by rw [hU]; exact hS.2.1) (va_free hD hS hA isC hC)⟩⟩

theorem q_951 : Cond.codeWith yL_reg cL_reg 4 (some .int) [(0, 9, 12, 13)] ∈ lw_all := lw_q 951 (by decide +kernel) (by decide +kernel)
abbrev rmL_reg : Room := { frames := 7, cells := 1, slots := 6, locals := 130 }
set_option maxHeartbeats 4000000 in
set_option maxRecDepth 100000 in
theorem c_L_reg (l : Launch) (hst : l.stackTraces = false) (D : va_G) (cI cZ cJ : ClassId) (a : Nat → Nat) (o sz : Nat) (S : TR7) (g : Nat → Int64) (p0 : Int32) (Q : Int32 → TR7 → (Nat → Int64) → Prop) (h : wp_L_reg S g p0 Q) : vx_Met l yL_reg (wsmW yL_reg cL_reg 4 (some .int) [(0, 9, 12, 13)]) rmL_reg (va_Pc [.ref (a 0), .int p0, .ref o] (preL D cI cZ cJ sz (wXL cI cZ cJ a o S g))) (va_Qi (fun r (u : TR7 × (Nat → Int64)) => Q r u.1 u.2) (fun u => atL D cI cZ cJ (va_A (wXL cI cZ cJ a o S g) sz) (wXL cI cZ cJ a o u.1 u.2)) (va_A (wXL cI cZ cJ a o S g) sz)) (fun _ _ _ => False) 1 6 (va_A (wXL cI cZ cJ a o S g) sz) := by
  refine vx_ofWH (cc := cL_reg) (maxL := 4) (ret := some .int) (hh := [(0, 9, 12, 13)]) (by decide) rfl ?_
  intro p e s m args below meth c s₁ B hml hv
  obtain ⟨rfl, ⟨hsz, hP, hK, hD0⟩, hF⟩ := hv
  have hx := B.exec
  have hb := B.bytes
  have hr := B.returns
  have hts0 := atoms_spec (ws := wsmW yL_reg cL_reg 4 (some .int) [(0, 9, 12, 13)]) B.pre
  have hts : ∀ w ∈ lw_all, w.before _ s = true := fun w h => hts0 w (List.mem_cons_of_mem _ h)
  have htab := vx_table (x := yL_reg) B (hts0 _ List.mem_cons_self)
  have hown : s.vm.findClass RL = some m.cls := findClass_of_methodNamed B.named
  have hlocks := B.notSynchronized
  subst hsz
  have hD := hD0.self (sz := s.heap.size)
  generalize hAe : va_A (wXL cI cZ cJ a o S g) s.heap.size = A at hD hF ⊢
  have hA : ∀ q : Nat, s.heap.size ≤ q → A q := fun q h => by rw [← hAe]; exact Or.inr h
  have hS : va_S A s.heap s.heap [] := va_S.rf
  have hK2 : va_K D vwCl (tyL cI cZ) s := hK.sub [0, 1] rfl
  have hl := lv_entry ([.ref (a 0), .int p0, .ref o]) (n := 4) (Nat.le_of_ble_eq_true rfl)
  rw [lg_entry_eq]
  generalize (lg_sl ([.ref (a 0), .int p0, .ref o]) ++ List.replicate (4 - (lg_sl ([.ref (a 0), .int p0, .ref o])).length) Slot.unset).toArray = ls at hl ⊢
  have hl : lv_has ls 4 [(0, .ref (a 0)), (1, .int p0), (2, .ref o)] := hl
  unfold wp_L_reg at h
  refine lv_aload_n hx hb dL_reg_0 rfl (lv_at hl 2 rfl) ?_
  refine lv_iconst (v := 0) hx hb dL_reg_1 (by decide) ?_
  refine lv_aload_n hx hb dL_reg_2 rfl (lv_at hl 0 rfl) ?_
  refine lv_iload_n hx hb dL_reg_3 rfl (lv_at hl 1 rfl) ?_
  have hC : ([0, 1, 2, 3, 4, 5, 6, 7, 8, 9, 10, 11, 12, 13, 14, 15, 16, 17, 18, 19, 20, 21, 22, 23, 24, 25, 26, 27, 28, 29, 30, 31, 32, 33, 34, 35, 36, 37, 38, 39, 40, 41, 42, 43, 44, 45, 46, 47, 48, 49, 50, 51, 52, 53] : List Nat).map (fun i => (wXL cI cZ cJ a o S g)[i]?) = (wX7 cI cZ a S).map some := rfl
  have hFc := va_free (wc := wX7 cI cZ a S) hD hS hA [0, 1, 2, 3, 4, 5, 6, 7, 8, 9, 10, 11, 12, 13, 14, 15, 16, 17, 18, 19, 20, 21, 22, 23, 24, 25, 26, 27, 28, 29, 30, 31, 32, 33, 34, 35, 36, 37, 38, 39, 40, 41, 42, 43, 44, 45, 46, 47, 48, 49, 50, 51, 52, 53] hC
  refine vx_calli (vx_runV (As := [.int p0]) (rest := [.int 0, .ref o]) ⟨hx, hb, hml, hown, hts⟩ (c_X7_reg l D cI cZ a _ S p0 _ _ hst h) (cwV 1 hts (gV q_953 q_954 q_955 q_67 q_956) rfl rfl rfl (by decide +kernel) ⟨Nat.le_of_ble_eq_true rfl, Nat.le_of_ble_eq_true rfl⟩) (preXV_of (ci := 6) (q := (RX7, TX7, 4)) hF hS hA hK2 hP hD [0, 1, 2, 3, 4, 5, 6, 7, 8, 9, 10, 11, 12, 13, 14, 15, 16, 17, 18, 19, 20, 21, 22, 23, 24, 25, 26, 27, 28, 29, 30, 31, 32, 33, 34, 35, 36, 37, 38, 39, 40, 41, 42, 43, 44, 45, 46, 47, 48, 49, 50, 51, 52, 53] hC rfl (by decide) 0 rfl rfl) rfl rfl hl.1 rfl (lv_room (Nat.le_of_ble_eq_true rfl)) dL_reg_4 ⟨Nat.le_of_ble_eq_true rfl, Nat.le_of_ble_eq_true rfl⟩) hS (fun q _ h => hFc q h) hFc (fun q _ h => hFc q h) (fun E ce q9 u t H1 locs1 ht hvm h hB hz1 hk1 hS hcell hv hcl => ?_) (fun r u t H1 locs1 ht hvm h hB hz1 hk1 hS => ?_)
  · obtain ⟨hE, hB⟩ := hB
    subst hE
    obtain ⟨hP, hD⟩ := cl_go (cI := cI) (cZ := cZ) (w1 := wX7 cI cZ a u) (ws' := wXL cI cZ cJ a o u g) hP hD va_S.rf hA [0, 1, 2, 3, 4, 5, 6, 7, 8, 9, 10, 11, 12, 13, 14, 15, 16, 17, 18, 19, 20, 21, 22, 23, 24, 25, 26, 27, 28, 29, 30, 31, 32, 33, 34, 35, 36, 37, 38, 39, 40, 41, 42, 43, 44, 45, 46, 47, 48, 49, 50, 51, 52, 53] [.inl 0, .inl 1, .inl 2, .inl 3, .inl 4, .inl 5, .inl 6, .inl 7, .inl 8, .inl 9, .inl 10, .inl 11, .inl 12, .inl 13, .inl 14, .inl 15, .inl 16, .inl 17, .inl 18, .inl 19, .inl 20, .inl 21, .inl 22, .inl 23, .inl 24, .inl 25, .inl 26, .inl 27, .inl 28, .inl 29, .inl 30, .inl 31, .inl 32, .inl 33, .inl 34, .inl 35, .inl 36, .inl 37, .inl 38, .inl 39, .inl 40, .inl 41, .inl 42, .inl 43, .inl 44, .inl 45, .inl 46, .inl 47, .inl 48, .inl 49, .inl 50, .inl 51, .inl 52, .inl 53, .inr 54] hC (by decide) rfl rfl ht hB hk1
    refine vx_catch hown [] ⟨0, 9, 12, 13⟩ [] (by rw [htab]; rfl) (fun z hz => absurd hz List.not_mem_nil) (by decide) (by decide) (hts _ q_952) (va_Nw.use rfl hF.2.1.1) hcell hv hcl ?_
    refine lv_astore_n (lv' := [(3, .ref q9), (0, .ref (a 0)), (1, .int p0), (2, .ref o)]) hx hb dL_reg_12 rfl hl (by decide) rfl (fun ls hl => ?_)
    refine lv_iconst (v := 1) hx hb dL_reg_13 (by decide) ?_
    refine vx_ret ?_
    exact W.iret (v := 1) hx hb hr (fun t ht hW => ⟨⟨1, (u, g), rfl, h, by rw [ht]; exact hP, va_K.moved hW.alike hK, hD⟩, hS.F ht⟩) hS.2.2 dL_reg_14
  · obtain ⟨hP, hD⟩ := cl_go (cI := cI) (cZ := cZ) (w1 := wX7 cI cZ a u) (ws' := wXL cI cZ cJ a o u g) hP hD va_S.rf hA [0, 1, 2, 3, 4, 5, 6, 7, 8, 9, 10, 11, 12, 13, 14, 15, 16, 17, 18, 19, 20, 21, 22, 23, 24, 25, 26, 27, 28, 29, 30, 31, 32, 33, 34, 35, 36, 37, 38, 39, 40, 41, 42, 43, 44, 45, 46, 47, 48, 49, 50, 51, 52, 53] [.inl 0, .inl 1, .inl 2, .inl 3, .inl 4, .inl 5, .inl 6, .inl 7, .inl 8, .inl 9, .inl 10, .inl 11, .inl 12, .inl 13, .inl 14, .inl 15, .inl 16, .inl 17, .inl 18, .inl 19, .inl 20, .inl 21, .inl 22, .inl 23, .inl 24, .inl 25, .inl 26, .inl 27, .inl 28, .inl 29, .inl 30, .inl 31, .inl 32, .inl 33, .inl 34, .inl 35, .inl 36, .inl 37, .inl 38, .inl 39, .inl 40, .inl 41, .inl 42, .inl 43, .inl 44, .inl 45, .inl 46, .inl 47, .inl 48, .inl 49, .inl 50, .inl 51, .inl 52, .inl 53, .inr 54] hC (by decide) rfl rfl ht hB hk1
    refine lv_i2l (v := Int32.toInt64 r) hx hb dL_reg_7 rfl ?_
    refine va_last (i := 0) hx hb hK hP hD hS 54 2 rfl rfl (okLit (by decide)) dL_reg_8 (fun H locs hP hD hS => ?_)
    have hP : va_P D vwCl (wXL cI cZ cJ a o u (vp_updL g 0 (Int32.toInt64 r))) H := hP
    have hD : va_D A (wXL cI cZ cJ a o u (vp_updL g 0 (Int32.toInt64 r))) := hD
    refine lv_goto (tgt := 15) hx hb dL_reg_9 (by decide) ?_
    refine lv_iconst (v := 0) hx hb dL_reg_15 (by decide) ?_
    refine vx_ret ?_
    exact W.iret (v := 0) hx hb hr (fun t ht hW => ⟨⟨0, (u, vp_updL g 0 (Int32.toInt64 r)), rfl, h, by rw [ht]; exact hP, va_K.moved hW.alike hK, hD⟩, hS.F ht⟩) hS.2.2 dL_reg_16
theorem q_1021 : Cond.codeWith yL_word cL_word 4 (some .int) [(0, 9, 12, 18)] ∈ lw_all := lw_q 1021 (by decide +kernel) (by decide +kernel)
abbrev rmL_word : Room := { frames := 7, cells := 1, slots := 6, locals := 130 }
set_option maxHeartbeats 4000000 in
set_option maxRecDepth 100000 in
theorem c_L_word (l : Launch) (hst : l.stackTraces = false) (D : va_G) (cI cZ cJ : ClassId) (a : Nat → Nat) (o sz : Nat) (S : TR7) (g : Nat → Int64) (p0 : Int32) (Q : Int32 → TR7 → (Nat → Int64) → Prop) (h : wp_L_word S g p0 Q) : vx_Met l yL_word (wsmW yL_word cL_word 4 (some .int) [(0, 9, 12, 18)]) rmL_word (va_Pc [.ref (a 0), .int p0, .ref o] (preL D cI cZ cJ sz (wXL cI cZ cJ a o S g))) (va_Qi (fun r (u : TR7 × (Nat → Int64)) => Q r u.1 u.2) (fun u => atL D cI cZ cJ (va_A (wXL cI cZ cJ a o S g) sz) (wXL cI cZ cJ a o u.1 u.2)) (va_A (wXL cI cZ cJ a o S g) sz)) (fun _ _ _ => False) 1 6 (va_A (wXL cI cZ cJ a o S g) sz) := by
  refine vx_ofWH (cc := cL_word) (maxL := 4) (ret := some .int) (hh := [(0, 9, 12, 18)]) (by decide) rfl ?_
  intro p e s m args below meth c s₁ B hml hv
  obtain ⟨rfl, ⟨hsz, hP, hK, hD0⟩, hF⟩ := hv
  have hx := B.exec
  have hb := B.bytes
  have hr := B.returns
  have hts0 := atoms_spec (ws := wsmW yL_word cL_word 4 (some .int) [(0, 9, 12, 18)]) B.pre
  have hts : ∀ w ∈ lw_all, w.before _ s = true := fun w h => hts0 w (List.mem_cons_of_mem _ h)
  have htab := vx_table (x := yL_word) B (hts0 _ List.mem_cons_self)
  have hown : s.vm.findClass RL = some m.cls := findClass_of_methodNamed B.named
  have hlocks := B.notSynchronized
  subst hsz
  have hD := hD0.self (sz := s.heap.size)
  generalize hAe : va_A (wXL cI cZ cJ a o S g) s.heap.size = A at hD hF ⊢
  have hA : ∀ q : Nat, s.heap.size ≤ q → A q := fun q h => by rw [← hAe]; exact Or.inr h
  have hS : va_S A s.heap s.heap [] := va_S.rf
  have hK2 : va_K D vwCl (tyL cI cZ) s := hK.sub [0, 1] rfl
  have hl := lv_entry ([.ref (a 0), .int p0, .ref o]) (n := 4) (Nat.le_of_ble_eq_true rfl)
  rw [lg_entry_eq]
  generalize (lg_sl ([.ref (a 0), .int p0, .ref o]) ++ List.replicate (4 - (lg_sl ([.ref (a 0), .int p0, .ref o])).length) Slot.unset).toArray = ls at hl ⊢
  have hl : lv_has ls 4 [(0, .ref (a 0)), (1, .int p0), (2, .ref o)] := hl
  unfold wp_L_word at h
  refine lv_aload_n hx hb dL_word_0 rfl (lv_at hl 2 rfl) ?_
  refine lv_iconst (v := 0) hx hb dL_word_1 (by decide) ?_
  refine lv_aload_n hx hb dL_word_2 rfl (lv_at hl 0 rfl) ?_
  refine lv_iload_n hx hb dL_word_3 rfl (lv_at hl 1 rfl) ?_
  have hC : ([0, 1, 2, 3, 4, 5, 6, 7, 8, 9, 10, 11, 12, 13, 14, 15, 16, 17, 18, 19, 20, 21, 22, 23, 24, 25, 26, 27, 28, 29, 30, 31, 32, 33, 34, 35, 36, 37, 38, 39, 40, 41, 42, 43, 44, 45, 46, 47, 48, 49, 50, 51, 52, 53] : List Nat).map (fun i => (wXL cI cZ cJ a o S g)[i]?) = (wX7 cI cZ a S).map some := rfl
  have hFc := va_free (wc := wX7 cI cZ a S) hD hS hA [0, 1, 2, 3, 4, 5, 6, 7, 8, 9, 10, 11, 12, 13, 14, 15, 16, 17, 18, 19, 20, 21, 22, 23, 24, 25, 26, 27, 28, 29, 30, 31, 32, 33, 34, 35, 36, 37, 38, 39, 40, 41, 42, 43, 44, 45, 46, 47, 48, 49, 50, 51, 52, 53] hC
  refine vx_calli (vx_runV (As := [.int p0]) (rest := [.int 0, .ref o]) ⟨hx, hb, hml, hown, hts⟩ (c_X7_word l D cI cZ a _ S p0 _ _ hst h) (cwV 1 hts (gV q_1023 q_1024 q_1025 q_67 q_1026) rfl rfl rfl (by decide +kernel) ⟨Nat.le_of_ble_eq_true rfl, Nat.le_of_ble_eq_true rfl⟩) (preXV_of (ci := 6) (q := (RX7, TX7, 4)) hF hS hA hK2 hP hD [0, 1, 2, 3, 4, 5, 6, 7, 8, 9, 10, 11, 12, 13, 14, 15, 16, 17, 18, 19, 20, 21, 22, 23, 24, 25, 26, 27, 28, 29, 30, 31, 32, 33, 34, 35, 36, 37, 38, 39, 40, 41, 42, 43, 44, 45, 46, 47, 48, 49, 50, 51, 52, 53] hC rfl (by decide) 0 rfl rfl) rfl rfl hl.1 rfl (lv_room (Nat.le_of_ble_eq_true rfl)) dL_word_4 ⟨Nat.le_of_ble_eq_true rfl, Nat.le_of_ble_eq_true rfl⟩) hS (fun q _ h => hFc q h) hFc (fun q _ h => hFc q h) (fun E ce q9 u t H1 locs1 ht hvm h hB hz1 hk1 hS hcell hv hcl => ?_) (fun r u t H1 locs1 ht hvm h hB hz1 hk1 hS => ?_)
  · obtain ⟨hE, hB⟩ := hB
    subst hE
    obtain ⟨hP, hD⟩ := cl_go (cI := cI) (cZ := cZ) (w1 := wX7 cI cZ a u) (ws' := wXL cI cZ cJ a o u g) hP hD va_S.rf hA [0, 1, 2, 3, 4, 5, 6, 7, 8, 9, 10, 11, 12, 13, 14, 15, 16, 17, 18, 19, 20, 21, 22, 23, 24, 25, 26, 27, 28, 29, 30, 31, 32, 33, 34, 35, 36, 37, 38, 39, 40, 41, 42, 43, 44, 45, 46, 47, 48, 49, 50, 51, 52, 53] [.inl 0, .inl 1, .inl 2, .inl 3, .inl 4, .inl 5, .inl 6, .inl 7, .inl 8, .inl 9, .inl 10, .inl 11, .inl 12, .inl 13, .inl 14, .inl 15, .inl 16, .inl 17, .inl 18, .inl 19, .inl 20, .inl 21, .inl 22, .inl 23, .inl 24, .inl 25, .inl 26, .inl 27, .inl 28, .inl 29, .inl 30, .inl 31, .inl 32, .inl 33, .inl 34, .inl 35, .inl 36, .inl 37, .inl 38, .inl 39, .inl 40, .inl 41, .inl 42, .inl 43, .inl 44, .inl 45, .inl 46, .inl 47, .inl 48, .inl 49, .inl 50, .inl 51, .inl 52, .inl 53, .inr 54] hC (by decide) rfl rfl ht hB hk1
    refine vx_catch hown [] ⟨0, 9, 12, 18⟩ [] (by rw [htab]; rfl) (fun z hz => absurd hz List.not_mem_nil) (by decide) (by decide) (hts _ q_1022) (va_Nw.use rfl hF.2.1.2) hcell hv hcl ?_
    refine lv_astore_n (lv' := [(3, .ref q9), (0, .ref (a 0)), (1, .int p0), (2, .ref o)]) hx hb dL_word_12 rfl hl (by decide) rfl (fun ls hl => ?_)
    refine lv_iconst (v := 1) hx hb dL_word_13 (by decide) ?_
    refine vx_ret ?_
    exact W.iret (v := 1) hx hb hr (fun t ht hW => ⟨⟨1, (u, g), rfl, h, by rw [ht]; exact hP, va_K.moved hW.alike hK, hD⟩, hS.F ht⟩) hS.2.2 dL_word_14
  · obtain ⟨hP, hD⟩ := cl_go (cI := cI) (cZ := cZ) (w1 := wX7 cI cZ a u) (ws' := wXL cI cZ cJ a o u g) hP hD va_S.rf hA [0, 1, 2, 3, 4, 5, 6, 7, 8, 9, 10, 11, 12, 13, 14, 15, 16, 17, 18, 19, 20, 21, 22, 23, 24, 25, 26, 27, 28, 29, 30, 31, 32, 33, 34, 35, 36, 37, 38, 39, 40, 41, 42, 43, 44, 45, 46, 47, 48, 49, 50, 51, 52, 53] [.inl 0, .inl 1, .inl 2, .inl 3, .inl 4, .inl 5, .inl 6, .inl 7, .inl 8, .inl 9, .inl 10, .inl 11, .inl 12, .inl 13, .inl 14, .inl 15, .inl 16, .inl 17, .inl 18, .inl 19, .inl 20, .inl 21, .inl 22, .inl 23, .inl 24, .inl 25, .inl 26, .inl 27, .inl 28, .inl 29, .inl 30, .inl 31, .inl 32, .inl 33, .inl 34, .inl 35, .inl 36, .inl 37, .inl 38, .inl 39, .inl 40, .inl 41, .inl 42, .inl 43, .inl 44, .inl 45, .inl 46, .inl 47, .inl 48, .inl 49, .inl 50, .inl 51, .inl 52, .inl 53, .inr 54] hC (by decide) rfl rfl ht hB hk1
    refine lv_i2l (v := Int32.toInt64 r) hx hb dL_word_7 rfl ?_
    refine va_last (i := 0) hx hb hK hP hD hS 54 2 rfl rfl (okLit (by decide)) dL_word_8 (fun H locs hP hD hS => ?_)
    have hP : va_P D vwCl (wXL cI cZ cJ a o u (vp_updL g 0 (Int32.toInt64 r))) H := hP
    have hD : va_D A (wXL cI cZ cJ a o u (vp_updL g 0 (Int32.toInt64 r))) := hD
    refine lv_goto (tgt := 15) hx hb dL_word_9 (by decide) ?_
    refine lv_iconst (v := 0) hx hb dL_word_15 (by decide) ?_
    refine vx_ret ?_
    exact W.iret (v := 0) hx hb hr (fun t ht hW => ⟨⟨0, (u, vp_updL g 0 (Int32.toInt64 r)), rfl, h, by rw [ht]; exact hP, va_K.moved hW.alike hK, hD⟩, hS.F ht⟩) hS.2.2 dL_word_16
theorem q_1044 : Cond.codeWith yL_data cL_data 4 (some .int) [(0, 9, 12, 18)] ∈ lw_all := lw_q 1044 (by decide +kernel) (by decide +kernel)
abbrev rmL_data : Room := { frames := 7, cells := 1, slots := 6, locals := 130 }
set_option maxHeartbeats 4000000 in
set_option maxRecDepth 100000 in
theorem c_L_data (l : Launch) (hst : l.stackTraces = false) (D : va_G) (cI cZ cJ : ClassId) (a : Nat → Nat) (o sz : Nat) (S : TR7) (g : Nat → Int64) (p0 : Int32) (Q : Int32 → TR7 → (Nat → Int64) → Prop) (h : wp_L_data S g p0 Q) : vx_Met l yL_data (wsmW yL_data cL_data 4 (some .int) [(0, 9, 12, 18)]) rmL_data (va_Pc [.ref (a 0), .int p0, .ref o] (preL D cI cZ cJ sz (wXL cI cZ cJ a o S g))) (va_Qi (fun r (u : TR7 × (Nat → Int64)) => Q r u.1 u.2) (fun u => atL D cI cZ cJ (va_A (wXL cI cZ cJ a o S g) sz) (wXL cI cZ cJ a o u.1 u.2)) (va_A (wXL cI cZ cJ a o S g) sz)) (fun _ _ _ => False) 1 6 (va_A (wXL cI cZ cJ a o S g) sz) := by
  refine vx_ofWH (cc := cL_data) (maxL := 4) (ret := some .int) (hh := [(0, 9, 12, 18)]) (by decide) rfl ?_
  intro p e s m args below meth c s₁ B hml hv
  obtain ⟨rfl, ⟨hsz, hP, hK, hD0⟩, hF⟩ := hv
  have hx := B.exec
  have hb := B.bytes
  have hr := B.returns
  have hts0 := atoms_spec (ws := wsmW yL_data cL_data 4 (some .int) [(0, 9, 12, 18)]) B.pre
  have hts : ∀ w ∈ lw_all, w.before _ s = true := fun w h => hts0 w (List.mem_cons_of_mem _ h)
  have htab := vx_table (x := yL_data) B (hts0 _ List.mem_cons_self)
  have hown : s.vm.findClass RL = some m.cls := findClass_of_methodNamed B.named
  have hlocks := B.notSynchronized
  subst hsz
  have hD := hD0.self (sz := s.heap.size)
  generalize hAe : va_A (wXL cI cZ cJ a o S g) s.heap.size = A at hD hF ⊢
  have hA : ∀ q : Nat, s.heap.size ≤ q → A q := fun q h => by rw [← hAe]; exact Or.inr h
  have hS : va_S A s.heap s.heap [] := va_S.rf
  have hK2 : va_K D vwCl (tyL cI cZ) s := hK.sub [0, 1] rfl
  have hl := lv_entry ([.ref (a 0), .int p0, .ref o]) (n := 4) (Nat.le_of_ble_eq_true rfl)
  rw [lg_entry_eq]
  generalize (lg_sl ([.ref (a 0), .int p0, .ref o]) ++ List.replicate (4 - (lg_sl ([.ref (a 0), .int p0, .ref o])).length) Slot.unset).toArray = ls at hl ⊢
  have hl : lv_has ls 4 [(0, .ref (a 0)), (1, .int p0), (2, .ref o)] := hl
  unfold wp_L_data at h
  refine lv_aload_n hx hb dL_data_0 rfl (lv_at hl 2 rfl) ?_
  refine lv_iconst (v := 0) hx hb dL_data_1 (by decide) ?_
  refine lv_aload_n hx hb dL_data_2 rfl (lv_at hl 0 rfl) ?_
  refine lv_iload_n hx hb dL_data_3 rfl (lv_at hl 1 rfl) ?_
  have hC : ([0, 1, 2, 3, 4, 5, 6, 7, 8, 9, 10, 11, 12, 13, 14, 15, 16, 17, 18, 19, 20, 21, 22, 23, 24, 25, 26, 27, 28, 29, 30, 31, 32, 33, 34, 35, 36, 37, 38, 39, 40, 41, 42, 43, 44, 45, 46, 47, 48, 49, 50, 51, 52, 53] : List Nat).map (fun i => (wXL cI cZ cJ a o S g)[i]?) = (wX7 cI cZ a S).map some := rfl
  have hFc := va_free (wc := wX7 cI cZ a S) hD hS hA [0, 1, 2, 3, 4, 5, 6, 7, 8, 9, 10, 11, 12, 13, 14, 15, 16, 17, 18, 19, 20, 21, 22, 23, 24, 25, 26, 27, 28, 29, 30, 31, 32, 33, 34, 35, 36, 37, 38, 39, 40, 41, 42, 43, 44, 45, 46, 47, 48, 49, 50, 51, 52, 53] hC
  refine vx_calli (vx_runV (As := [.int p0]) (rest := [.int 0, .ref o]) ⟨hx, hb, hml, hown, hts⟩ (c_X7_data l D cI cZ a _ S p0 _ _ hst h) (cwV 1 hts (gV q_1045 q_1046 q_1047 q_67 q_1048) rfl rfl rfl (by decide +kernel) ⟨Nat.le_of_ble_eq_true rfl, Nat.le_of_ble_eq_true rfl⟩) (preXV_of (ci := 6) (q := (RX7, TX7, 4)) hF hS hA hK2 hP hD [0, 1, 2, 3, 4, 5, 6, 7, 8, 9, 10, 11, 12, 13, 14, 15, 16, 17, 18, 19, 20, 21, 22, 23, 24, 25, 26, 27, 28, 29, 30, 31, 32, 33, 34, 35, 36, 37, 38, 39, 40, 41, 42, 43, 44, 45, 46, 47, 48, 49, 50, 51, 52, 53] hC rfl (by decide) 0 rfl rfl) rfl rfl hl.1 rfl (lv_room (Nat.le_of_ble_eq_true rfl)) dL_data_4 ⟨Nat.le_of_ble_eq_true rfl, Nat.le_of_ble_eq_true rfl⟩) hS (fun q _ h => hFc q h) hFc (fun q _ h => hFc q h) (fun E ce q9 u t H1 locs1 ht hvm h hB hz1 hk1 hS hcell hv hcl => ?_) (fun r u t H1 locs1 ht hvm h hB hz1 hk1 hS => ?_)
  · obtain ⟨hE, hB⟩ := hB
    subst hE
    obtain ⟨hP, hD⟩ := cl_go (cI := cI) (cZ := cZ) (w1 := wX7 cI cZ a u) (ws' := wXL cI cZ cJ a o u g) hP hD va_S.rf hA [0, 1, 2, 3, 4, 5, 6, 7, 8, 9, 10, 11, 12, 13, 14, 15, 16, 17, 18, 19, 20, 21, 22, 23, 24, 25, 26, 27, 28, 29, 30, 31, 32, 33, 34, 35, 36, 37, 38, 39, 40, 41, 42, 43, 44, 45, 46, 47, 48, 49, 50, 51, 52, 53] [.inl 0, .inl 1, .inl 2, .inl 3, .inl 4, .inl 5, .inl 6, .inl 7, .inl 8, .inl 9, .inl 10, .inl 11, .inl 12, .inl 13, .inl 14, .inl 15, .inl 16, .inl 17, .inl 18, .inl 19, .inl 20, .inl 21, .inl 22, .inl 23, .inl 24, .inl 25, .inl 26, .inl 27, .inl 28, .inl 29, .inl 30, .inl 31, .inl 32, .inl 33, .inl 34, .inl 35, .inl 36, .inl 37, .inl 38, .inl 39, .inl 40, .inl 41, .inl 42, .inl 43, .inl 44, .inl 45, .inl 46, .inl 47, .inl 48, .inl 49, .inl 50, .inl 51, .inl 52, .inl 53, .inr 54] hC (by decide) rfl rfl ht hB hk1
    refine vx_catch hown [] ⟨0, 9, 12, 18⟩ [] (by rw [htab]; rfl) (fun z hz => absurd hz List.not_mem_nil) (by decide) (by decide) (hts _ q_1022) (va_Nw.use rfl hF.2.1.2) hcell hv hcl ?_
    refine lv_astore_n (lv' := [(3, .ref q9), (0, .ref (a 0)), (1, .int p0), (2, .ref o)]) hx hb dL_data_12 rfl hl (by decide) rfl (fun ls hl => ?_)
    refine lv_iconst (v := 1) hx hb dL_data_13 (by decide) ?_
    refine vx_ret ?_
    exact W.iret (v := 1) hx hb hr (fun t ht hW => ⟨⟨1, (u, g), rfl, h, by rw [ht]; exact hP, va_K.moved hW.alike hK, hD⟩, hS.F ht⟩) hS.2.2 dL_data_14
  · obtain ⟨hP, hD⟩ := cl_go (cI := cI) (cZ := cZ) (w1 := wX7 cI cZ a u) (ws' := wXL cI cZ cJ a o u g) hP hD va_S.rf hA [0, 1, 2, 3, 4, 5, 6, 7, 8, 9, 10, 11, 12, 13, 14, 15, 16, 17, 18, 19, 20, 21, 22, 23, 24, 25, 26, 27, 28, 29, 30, 31, 32, 33, 34, 35, 36, 37, 38, 39, 40, 41, 42, 43, 44, 45, 46, 47, 48, 49, 50, 51, 52, 53] [.inl 0, .inl 1, .inl 2, .inl 3, .inl 4, .inl 5, .inl 6, .inl 7, .inl 8, .inl 9, .inl 10, .inl 11, .inl 12, .inl 13, .inl 14, .inl 15, .inl 16, .inl 17, .inl 18, .inl 19, .inl 20, .inl 21, .inl 22, .inl 23, .inl 24, .inl 25, .inl 26, .inl 27, .inl 28, .inl 29, .inl 30, .inl 31, .inl 32, .inl 33, .inl 34, .inl 35, .inl 36, .inl 37, .inl 38, .inl 39, .inl 40, .inl 41, .inl 42, .inl 43, .inl 44, .inl 45, .inl 46, .inl 47, .inl 48, .inl 49, .inl 50, .inl 51, .inl 52, .inl 53, .inr 54] hC (by decide) rfl rfl ht hB hk1
    refine lv_i2l (v := Int32.toInt64 r) hx hb dL_data_7 rfl ?_
    refine va_last (i := 0) hx hb hK hP hD hS 54 2 rfl rfl (okLit (by decide)) dL_data_8 (fun H locs hP hD hS => ?_)
    have hP : va_P D vwCl (wXL cI cZ cJ a o u (vp_updL g 0 (Int32.toInt64 r))) H := hP
    have hD : va_D A (wXL cI cZ cJ a o u (vp_updL g 0 (Int32.toInt64 r))) := hD
    refine lv_goto (tgt := 15) hx hb dL_data_9 (by decide) ?_
    refine lv_iconst (v := 0) hx hb dL_data_15 (by decide) ?_
    refine vx_ret ?_
    exact W.iret (v := 0) hx hb hr (fun t ht hW => ⟨⟨0, (u, vp_updL g 0 (Int32.toInt64 r)), rfl, h, by rw [ht]; exact hP, va_K.moved hW.alike hK, hD⟩, hS.F ht⟩) hS.2.2 dL_data_16
theorem q_1051 : Cond.codeWith yL_out cL_out 4 (some .int) [(0, 9, 12, 13)] ∈ lw_all := lw_q 1051 (by decide +kernel) (by decide +kernel)
abbrev rmL_out : Room := { frames := 7, cells := 1, slots := 6, locals := 130 }
set_option maxHeartbeats 4000000 in
set_option maxRecDepth 100000 in
theorem c_L_out (l : Launch) (hst : l.stackTraces = false) (D : va_G) (cI cZ cJ : ClassId) (a : Nat → Nat) (o sz : Nat) (S : TR7) (g : Nat → Int64) (p0 : Int32) (Q : Int32 → TR7 → (Nat → Int64) → Prop) (h : wp_L_out S g p0 Q) : vx_Met l yL_out (wsmW yL_out cL_out 4 (some .int) [(0, 9, 12, 13)]) rmL_out (va_Pc [.ref (a 0), .int p0, .ref o] (preL D cI cZ cJ sz (wXL cI cZ cJ a o S g))) (va_Qi (fun r (u : TR7 × (Nat → Int64)) => Q r u.1 u.2) (fun u => atL D cI cZ cJ (va_A (wXL cI cZ cJ a o S g) sz) (wXL cI cZ cJ a o u.1 u.2)) (va_A (wXL cI cZ cJ a o S g) sz)) (fun _ _ _ => False) 1 6 (va_A (wXL cI cZ cJ a o S g) sz) := by
  refine vx_ofWH (cc := cL_out) (maxL := 4) (ret := some .int) (hh := [(0, 9, 12, 13)]) (by decide) rfl ?_
  intro p e s m args below meth c s₁ B hml hv
  obtain ⟨rfl, ⟨hsz, hP, hK, hD0⟩, hF⟩ := hv
  have hx := B.exec
  have hb := B.bytes
  have hr := B.returns
  have hts0 := atoms_spec (ws := wsmW yL_out cL_out 4 (some .int) [(0, 9, 12, 13)]) B.pre
  have hts : ∀ w ∈ lw_all, w.before _ s = true := fun w h => hts0 w (List.mem_cons_of_mem _ h)
  have htab := vx_table (x := yL_out) B (hts0 _ List.mem_cons_self)
  have hown : s.vm.findClass RL = some m.cls := findClass_of_methodNamed B.named
  have hlocks := B.notSynchronized
  subst hsz
  have hD := hD0.self (sz := s.heap.size)
  generalize hAe : va_A (wXL cI cZ cJ a o S g) s.heap.size = A at hD hF ⊢
  have hA : ∀ q : Nat, s.heap.size ≤ q → A q := fun q h => by rw [← hAe]; exact Or.inr h
  have hS : va_S A s.heap s.heap [] := va_S.rf
  have hK2 : va_K D vwCl (tyL cI cZ) s := hK.sub [0, 1] rfl
  have hl := lv_entry ([.ref (a 0), .int p0, .ref o]) (n := 4) (Nat.le_of_ble_eq_true rfl)
  rw [lg_entry_eq]
  generalize (lg_sl ([.ref (a 0), .int p0, .ref o]) ++ List.replicate (4 - (lg_sl ([.ref (a 0), .int p0, .ref o])).length) Slot.unset).toArray = ls at hl ⊢
  have hl : lv_has ls 4 [(0, .ref (a 0)), (1, .int p0), (2, .ref o)] := hl
  unfold wp_L_out at h
  refine lv_aload_n hx hb dL_out_0 rfl (lv_at hl 2 rfl) ?_
  refine lv_iconst (v := 0) hx hb dL_out_1 (by decide) ?_
  refine lv_aload_n hx hb dL_out_2 rfl (lv_at hl 0 rfl) ?_
  refine lv_iload_n hx hb dL_out_3 rfl (lv_at hl 1 rfl) ?_
  have hC : ([0, 1, 2, 3, 4, 5, 6, 7, 8, 9, 10, 11, 12, 13, 14, 15, 16, 17, 18, 19, 20, 21, 22, 23, 24, 25, 26, 27, 28, 29, 30, 31, 32, 33, 34, 35, 36, 37, 38, 39, 40, 41, 42, 43, 44, 45, 46, 47, 48, 49, 50, 51, 52, 53] : List Nat).map (fun i => (wXL cI cZ cJ a o S g)[i]?) = (wX7 cI cZ a S).map some := rfl
  have hFc := va_free (wc := wX7 cI cZ a S) hD hS hA [0, 1, 2, 3, 4, 5, 6, 7, 8, 9, 10, 11, 12, 13, 14, 15, 16, 17, 18, 19, 20, 21, 22, 23, 24, 25, 26, 27, 28, 29, 30, 31, 32, 33, 34, 35, 36, 37, 38, 39, 40, 41, 42, 43, 44, 45, 46, 47, 48, 49, 50, 51, 52, 53] hC
  refine vx_calli (vx_runV (As := [.int p0]) (rest := [.int 0, .ref o]) ⟨hx, hb, hml, hown, hts⟩ (c_X7_out l D cI cZ a _ S p0 _ _ hst h) (cwV 1 hts (gV q_1052 q_1053 q_1054 q_67 q_1055) rfl rfl rfl (by decide +kernel) ⟨Nat.le_of_ble_eq_true rfl, Nat.le_of_ble_eq_true rfl⟩) (preXV_of (ci := 6) (q := (RX7, TX7, 4)) hF hS hA hK2 hP hD [0, 1, 2, 3, 4, 5, 6, 7, 8, 9, 10, 11, 12, 13, 14, 15, 16, 17, 18, 19, 20, 21, 22, 23, 24, 25, 26, 27, 28, 29, 30, 31, 32, 33, 34, 35, 36, 37, 38, 39, 40, 41, 42, 43, 44, 45, 46, 47, 48, 49, 50, 51, 52, 53] hC rfl (by decide) 0 rfl rfl) rfl rfl hl.1 rfl (lv_room (Nat.le_of_ble_eq_true rfl)) dL_out_4 ⟨Nat.le_of_ble_eq_true rfl, Nat.le_of_ble_eq_true rfl⟩) hS (fun q _ h => hFc q h) hFc (fun q _ h => hFc q h) (fun E ce q9 u t H1 locs1 ht hvm h hB hz1 hk1 hS hcell hv hcl => ?_) (fun r u t H1 locs1 ht hvm h hB hz1 hk1 hS => ?_)
  · obtain ⟨hE, hB⟩ := hB
    subst hE
    obtain ⟨hP, hD⟩ := cl_go (cI := cI) (cZ := cZ) (w1 := wX7 cI cZ a u) (ws' := wXL cI cZ cJ a o u g) hP hD va_S.rf hA [0, 1, 2, 3, 4, 5, 6, 7, 8, 9, 10, 11, 12, 13, 14, 15, 16, 17, 18, 19, 20, 21, 22, 23, 24, 25, 26, 27, 28, 29, 30, 31, 32, 33, 34, 35, 36, 37, 38, 39, 40, 41, 42, 43, 44, 45, 46, 47, 48, 49, 50, 51, 52, 53] [.inl 0, .inl 1, .inl 2, .inl 3, .inl 4, .inl 5, .inl 6, .inl 7, .inl 8, .inl 9, .inl 10, .inl 11, .inl 12, .inl 13, .inl 14, .inl 15, .inl 16, .inl 17, .inl 18, .inl 19, .inl 20, .inl 21, .inl 22, .inl 23, .inl 24, .inl 25, .inl 26, .inl 27, .inl 28, .inl 29, .inl 30, .inl 31, .inl 32, .inl 33, .inl 34, .inl 35, .inl 36, .inl 37, .inl 38, .inl 39, .inl 40, .inl 41, .inl 42, .inl 43, .inl 44, .inl 45, .inl 46, .inl 47, .inl 48, .inl 49, .inl 50, .inl 51, .inl 52, .inl 53, .inr 54] hC (by decide) rfl rfl ht hB hk1
    refine vx_catch hown [] ⟨0, 9, 12, 13⟩ [] (by rw [htab]; rfl) (fun z hz => absurd hz List.not_mem_nil) (by decide) (by decide) (hts _ q_952) (va_Nw.use rfl hF.2.1.1) hcell hv hcl ?_
    refine lv_astore_n (lv' := [(3, .ref q9), (0, .ref (a 0)), (1, .int p0), (2, .ref o)]) hx hb dL_out_12 rfl hl (by decide) rfl (fun ls hl => ?_)
    refine lv_iconst (v := 1) hx hb dL_out_13 (by decide) ?_
    refine vx_ret ?_
    exact W.iret (v := 1) hx hb hr (fun t ht hW => ⟨⟨1, (u, g), rfl, h, by rw [ht]; exact hP, va_K.moved hW.alike hK, hD⟩, hS.F ht⟩) hS.2.2 dL_out_14
  · obtain ⟨hP, hD⟩ := cl_go (cI := cI) (cZ := cZ) (w1 := wX7 cI cZ a u) (ws' := wXL cI cZ cJ a o u g) hP hD va_S.rf hA [0, 1, 2, 3, 4, 5, 6, 7, 8, 9, 10, 11, 12, 13, 14, 15, 16, 17, 18, 19, 20, 21, 22, 23, 24, 25, 26, 27, 28, 29, 30, 31, 32, 33, 34, 35, 36, 37, 38, 39, 40, 41, 42, 43, 44, 45, 46, 47, 48, 49, 50, 51, 52, 53] [.inl 0, .inl 1, .inl 2, .inl 3, .inl 4, .inl 5, .inl 6, .inl 7, .inl 8, .inl 9, .inl 10, .inl 11, .inl 12, .inl 13, .inl 14, .inl 15, .inl 16, .inl 17, .inl 18, .inl 19, .inl 20, .inl 21, .inl 22, .inl 23, .inl 24, .inl 25, .inl 26, .inl 27, .inl 28, .inl 29, .inl 30, .inl 31, .inl 32, .inl 33, .inl 34, .inl 35, .inl 36, .inl 37, .inl 38, .inl 39, .inl 40, .inl 41, .inl 42, .inl 43, .inl 44, .inl 45, .inl 46, .inl 47, .inl 48, .inl 49, .inl 50, .inl 51, .inl 52, .inl 53, .inr 54] hC (by decide) rfl rfl ht hB hk1
    refine lv_i2l (v := Int32.toInt64 r) hx hb dL_out_7 rfl ?_
    refine va_last (i := 0) hx hb hK hP hD hS 54 2 rfl rfl (okLit (by decide)) dL_out_8 (fun H locs hP hD hS => ?_)
    have hP : va_P D vwCl (wXL cI cZ cJ a o u (vp_updL g 0 (Int32.toInt64 r))) H := hP
    have hD : va_D A (wXL cI cZ cJ a o u (vp_updL g 0 (Int32.toInt64 r))) := hD
    refine lv_goto (tgt := 15) hx hb dL_out_9 (by decide) ?_
    refine lv_iconst (v := 0) hx hb dL_out_15 (by decide) ?_
    refine vx_ret ?_
    exact W.iret (v := 0) hx hb hr (fun t ht hW => ⟨⟨0, (u, vp_updL g 0 (Int32.toInt64 r)), rfl, h, by rw [ht]; exact hP, va_K.moved hW.alike hK, hD⟩, hS.F ht⟩) hS.2.2 dL_out_16
theorem q_1058 : Cond.codeWith yL_event cL_event 5 (some .int) [(0, 10, 13, 13)] ∈ lw_all := lw_q 1058 (by decide +kernel) (by decide +kernel)
abbrev rmL_event : Room := { frames := 7, cells := 1, slots := 6, locals := 130 }
set_option maxHeartbeats 4000000 in
set_option maxRecDepth 100000 in
theorem c_L_event (l : Launch) (hst : l.stackTraces = false) (D : va_G) (cI cZ cJ : ClassId) (a : Nat → Nat) (o sz : Nat) (S : TR7) (g : Nat → Int64) (p0 : Int32) (p1 : Int32) (Q : Int32 → TR7 → (Nat → Int64) → Prop) (h : wp_L_event S g p0 p1 Q) : vx_Met l yL_event (wsmW yL_event cL_event 5 (some .int) [(0, 10, 13, 13)]) rmL_event (va_Pc [.ref (a 0), .int p0, .int p1, .ref o] (preL D cI cZ cJ sz (wXL cI cZ cJ a o S g))) (va_Qi (fun r (u : TR7 × (Nat → Int64)) => Q r u.1 u.2) (fun u => atL D cI cZ cJ (va_A (wXL cI cZ cJ a o S g) sz) (wXL cI cZ cJ a o u.1 u.2)) (va_A (wXL cI cZ cJ a o S g) sz)) (fun _ _ _ => False) 1 6 (va_A (wXL cI cZ cJ a o S g) sz) := by
  refine vx_ofWH (cc := cL_event) (maxL := 5) (ret := some .int) (hh := [(0, 10, 13, 13)]) (by decide) rfl ?_
  intro p e s m args below meth c s₁ B hml hv
  obtain ⟨rfl, ⟨hsz, hP, hK, hD0⟩, hF⟩ := hv
  have hx := B.exec
  have hb := B.bytes
  have hr := B.returns
  have hts0 := atoms_spec (ws := wsmW yL_event cL_event 5 (some .int) [(0, 10, 13, 13)]) B.pre
  have hts : ∀ w ∈ lw_all, w.before _ s = true := fun w h => hts0 w (List.mem_cons_of_mem _ h)
  have htab := vx_table (x := yL_event) B (hts0 _ List.mem_cons_self)
  have hown : s.vm.findClass RL = some m.cls := findClass_of_methodNamed B.named
  have hlocks := B.notSynchronized
  subst hsz
  have hD := hD0.self (sz := s.heap.size)
  generalize hAe : va_A (wXL cI cZ cJ a o S g) s.heap.size = A at hD hF ⊢
  have hA : ∀ q : Nat, s.heap.size ≤ q → A q := fun q h => by rw [← hAe]; exact Or.inr h
  have hS : va_S A s.heap s.heap [] := va_S.rf
  have hK2 : va_K D vwCl (tyL cI cZ) s := hK.sub [0, 1] rfl
  have hl := lv_entry ([.ref (a 0), .int p0, .int p1, .ref o]) (n := 5) (Nat.le_of_ble_eq_true rfl)
  rw [lg_entry_eq]
  generalize (lg_sl ([.ref (a 0), .int p0, .int p1, .ref o]) ++ List.replicate (5 - (lg_sl ([.ref (a 0), .int p0, .int p1, .ref o])).length) Slot.unset).toArray = ls at hl ⊢
  have hl : lv_has ls 5 [(0, .ref (a 0)), (1, .int p0), (2, .int p1), (3, .ref o)] := hl
  unfold wp_L_event at h
  refine lv_aload_n hx hb dL_event_0 rfl (lv_at hl 3 rfl) ?_
  refine lv_iconst (v := 0) hx hb dL_event_1 (by decide) ?_
  refine lv_aload_n hx hb dL_event_2 rfl (lv_at hl 0 rfl) ?_
  refine lv_iload_n hx hb dL_event_3 rfl (lv_at hl 1 rfl) ?_
  refine lv_iload_n hx hb dL_event_4 rfl (lv_at hl 2 rfl) ?_
  have hC : ([0, 1, 2, 3, 4, 5, 6, 7, 8, 9, 10, 11, 12, 13, 14, 15, 16, 17, 18, 19, 20, 21, 22, 23, 24, 25, 26, 27, 28, 29, 30, 31, 32, 33, 34, 35, 36, 37, 38, 39, 40, 41, 42, 43, 44, 45, 46, 47, 48, 49, 50, 51, 52, 53] : List Nat).map (fun i => (wXL cI cZ cJ a o S g)[i]?) = (wX7 cI cZ a S).map some := rfl
  have hFc := va_free (wc := wX7 cI cZ a S) hD hS hA [0, 1, 2, 3, 4, 5, 6, 7, 8, 9, 10, 11, 12, 13, 14, 15, 16, 17, 18, 19, 20, 21, 22, 23, 24, 25, 26, 27, 28, 29, 30, 31, 32, 33, 34, 35, 36, 37, 38, 39, 40, 41, 42, 43, 44, 45, 46, 47, 48, 49, 50, 51, 52, 53] hC
  refine vx_calli (vx_runV (As := [.int p0, .int p1]) (rest := [.int 0, .ref o]) ⟨hx, hb, hml, hown, hts⟩ (c_X7_event l D cI cZ a _ S p0 p1 _ _ hst h) (cwV 2 hts (gV q_1059 q_1060 q_1061 q_67 q_1062) rfl rfl rfl (by decide +kernel) ⟨Nat.le_of_ble_eq_true rfl, Nat.le_of_ble_eq_true rfl⟩) (preXV_of (ci := 6) (q := (RX7, TX7, 4)) hF hS hA hK2 hP hD [0, 1, 2, 3, 4, 5, 6, 7, 8, 9, 10, 11, 12, 13, 14, 15, 16, 17, 18, 19, 20, 21, 22, 23, 24, 25, 26, 27, 28, 29, 30, 31, 32, 33, 34, 35, 36, 37, 38, 39, 40, 41, 42, 43, 44, 45, 46, 47, 48, 49, 50, 51, 52, 53] hC rfl (by decide) 0 rfl rfl) rfl rfl hl.1 rfl (lv_room (Nat.le_of_ble_eq_true rfl)) dL_event_5 ⟨Nat.le_of_ble_eq_true rfl, Nat.le_of_ble_eq_true rfl⟩) hS (fun q _ h => hFc q h) hFc (fun q _ h => hFc q h) (fun E ce q9 u t H1 locs1 ht hvm h hB hz1 hk1 hS hcell hv hcl => ?_) (fun r u t H1 locs1 ht hvm h hB hz1 hk1 hS => ?_)
  · obtain ⟨hE, hB⟩ := hB
    subst hE
    obtain ⟨hP, hD⟩ := cl_go (cI := cI) (cZ := cZ) (w1 := wX7 cI cZ a u) (ws' := wXL cI cZ cJ a o u g) hP hD va_S.rf hA [0, 1, 2, 3, 4, 5, 6, 7, 8, 9, 10, 11, 12, 13, 14, 15, 16, 17, 18, 19, 20, 21, 22, 23, 24, 25, 26, 27, 28, 29, 30, 31, 32, 33, 34, 35, 36, 37, 38, 39, 40, 41, 42, 43, 44, 45, 46, 47, 48, 49, 50, 51, 52, 53] [.inl 0, .inl 1, .inl 2, .inl 3, .inl 4, .inl 5, .inl 6, .inl 7, .inl 8, .inl 9, .inl 10, .inl 11, .inl 12, .inl 13, .inl 14, .inl 15, .inl 16, .inl 17, .inl 18, .inl 19, .inl 20, .inl 21, .inl 22, .inl 23, .inl 24, .inl 25, .inl 26, .inl 27, .inl 28, .inl 29, .inl 30, .inl 31, .inl 32, .inl 33, .inl 34, .inl 35, .inl 36, .inl 37, .inl 38, .inl 39, .inl 40, .inl 41, .inl 42, .inl 43, .inl 44, .inl 45, .inl 46, .inl 47, .inl 48, .inl 49, .inl 50, .inl 51, .inl 52, .inl 53, .inr 54] hC (by decide) rfl rfl ht hB hk1
    refine vx_catch hown [] ⟨0, 10, 13, 13⟩ [] (by rw [htab]; rfl) (fun z hz => absurd hz List.not_mem_nil) (by decide) (by decide) (hts _ q_952) (va_Nw.use rfl hF.2.1.1) hcell hv hcl ?_
    refine lv_astore (lv' := [(4, .ref q9), (0, .ref (a 0)), (1, .int p0), (2, .int p1), (3, .ref o)]) hx hb dL_event_13 hl (by decide) rfl (fun ls hl => ?_)
    refine lv_iconst (v := 1) hx hb dL_event_15 (by decide) ?_
    refine vx_ret ?_
    exact W.iret (v := 1) hx hb hr (fun t ht hW => ⟨⟨1, (u, g), rfl, h, by rw [ht]; exact hP, va_K.moved hW.alike hK, hD⟩, hS.F ht⟩) hS.2.2 dL_event_16
  · obtain ⟨hP, hD⟩ := cl_go (cI := cI) (cZ := cZ) (w1 := wX7 cI cZ a u) (ws' := wXL cI cZ cJ a o u g) hP hD va_S.rf hA [0, 1, 2, 3, 4, 5, 6, 7, 8, 9, 10, 11, 12, 13, 14, 15, 16, 17, 18, 19, 20, 21, 22, 23, 24, 25, 26, 27, 28, 29, 30, 31, 32, 33, 34, 35, 36, 37, 38, 39, 40, 41, 42, 43, 44, 45, 46, 47, 48, 49, 50, 51, 52, 53] [.inl 0, .inl 1, .inl 2, .inl 3, .inl 4, .inl 5, .inl 6, .inl 7, .inl 8, .inl 9, .inl 10, .inl 11, .inl 12, .inl 13, .inl 14, .inl 15, .inl 16, .inl 17, .inl 18, .inl 19, .inl 20, .inl 21, .inl 22, .inl 23, .inl 24, .inl 25, .inl 26, .inl 27, .inl 28, .inl 29, .inl 30, .inl 31, .inl 32, .inl 33, .inl 34, .inl 35, .inl 36, .inl 37, .inl 38, .inl 39, .inl 40, .inl 41, .inl 42, .inl 43, .inl 44, .inl 45, .inl 46, .inl 47, .inl 48, .inl 49, .inl 50, .inl 51, .inl 52, .inl 53, .inr 54] hC (by decide) rfl rfl ht hB hk1
    refine lv_i2l (v := Int32.toInt64 r) hx hb dL_event_8 rfl ?_
    refine va_last (i := 0) hx hb hK hP hD hS 54 2 rfl rfl (okLit (by decide)) dL_event_9 (fun H locs hP hD hS => ?_)
    have hP : va_P D vwCl (wXL cI cZ cJ a o u (vp_updL g 0 (Int32.toInt64 r))) H := hP
    have hD : va_D A (wXL cI cZ cJ a o u (vp_updL g 0 (Int32.toInt64 r))) := hD
    refine lv_goto (tgt := 17) hx hb dL_event_10 (by decide) ?_
    refine lv_iconst (v := 0) hx hb dL_event_17 (by decide) ?_
    refine vx_ret ?_
    exact W.iret (v := 0) hx hb hr (fun t ht hW => ⟨⟨0, (u, vp_updL g 0 (Int32.toInt64 r)), rfl, h, by rw [ht]; exact hP, va_K.moved hW.alike hK, hD⟩, hS.F ht⟩) hS.2.2 dL_event_18
