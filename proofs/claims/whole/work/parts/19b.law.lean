set_option maxHeartbeats 4000000 in
set_option maxRecDepth 100000 in
theorem law_L541 {p : Program} {l : Launch} {e : Env} {s : State} {m : MethodId} {below : List Frame} {meth : Method} {c : Code} {D : va_G} {cI cZ cJ : ClassId} {a b : Nat → Nat} {o sb L : Nat} {xs : Nat → Int32} {A : Nat → Prop} (C0 : lawC p l s m meth c D cI cZ cJ sb L xs A) {cn sn : Nat} (hcn : cn + 1 ≤ 1102) (hsn : sn + 6 ≤ 16074) (k23 : Int32 → TLW → Prop) (K23 : ∀ (y4 : Int32) (T : TLW) (H : Heap) (locs : List Loc) (ls : Array Slot), va_P D vwCl (wLAW cI cZ a b cJ o T) H → va_D A (wLAW cI cZ a b cJ o T) → va_S A s.heap H locs → lv_has ls 7 [(0, .ref sb), (1, .ref (a 0)), (2, .ref (b 0)), (3, .ref o), (4, .int y4)] → k23 y4 T → W p l e room_1 s m #[Value.ref sb] below meth c H locs (cn + 1) (sn + 6) (lw_Z below #[Value.ref sb] s) (F0 m 23 ls [])) : ∀ (y4 : Int32) (T : TLW) (H : Heap) (locs : List Loc) (ls : Array Slot), va_P D vwCl (wLAW cI cZ a b cJ o T) H → va_D A (wLAW cI cZ a b cJ o T) → va_S A s.heap H locs → lv_has ls 7 [(0, .ref sb), (1, .ref (a 0)), (2, .ref (b 0)), (3, .ref o), (4, .int y4)] → wp_law_L541 L xs k23 y4 T → W p l e room_1 s m #[Value.ref sb] below meth c H locs cn sn (lw_Z below #[Value.ref sb] s) (F0 m 541 ls []) := by
  obtain ⟨hst, hx, hb, hr, hlocks, hml, hown, hts, hX, hbl, hbA, hA, hAf, hKJ, hF, hXF⟩ := id C0
  have hK : va_K D vwCl (tyL cI cZ) s := hKJ.sub [0, 1] rfl
  have hml2 := hml
  intro y4 T H locs ls hP hD hS hl h
  unfold wp_law_L541 at h
  refine lv_aload_n hx hb dL_law_541 rfl (lv_at hl 1 rfl) ?_
  refine lv_aload_n hx hb dL_law_542 rfl (lv_at hl 0 rfl) ?_
  refine lv_iload hx hb dL_law_543 (lv_at hl 4 rfl) ?_
  refine lv_iconst (v := 1) hx hb dL_law_545 (by decide) ?_
  refine lv_iadd hx hb dL_law_546 ?_
  refine va_sld hx hb hX hbl hbA hS h.1 dL_law_547 ?_
  have h := h.2
  refine cl_i (ws' := fun u89 => (wLAW cI cZ a b cJ o (u89.1, u89.2.1, u89.2.2.1, u89.2.2.2.1, u89.2.2.2.2.1, u89.2.2.2.2.2.1, u89.2.2.2.2.2.2.1, u89.2.2.2.2.2.2.2.1, u89.2.2.2.2.2.2.2.2.1, u89.2.2.2.2.2.2.2.2.2.1, u89.2.2.2.2.2.2.2.2.2.2.1, u89.2.2.2.2.2.2.2.2.2.2.2, T.2.2.2.2.2.2.2.2.2.2.2.2.1, T.2.2.2.2.2.2.2.2.2.2.2.2.2))) (va_runV (As := [.int (xs (Int32.toNatClampNeg (y4 + 1)))]) (rest := []) ⟨hx, hb, hml, hown, hts⟩ (c_X7_timer l D cI cZ a _ (T.1, T.2.1, T.2.2.1, T.2.2.2.1, T.2.2.2.2.1, T.2.2.2.2.2.1, T.2.2.2.2.2.2.1, T.2.2.2.2.2.2.2.1, T.2.2.2.2.2.2.2.2.1, T.2.2.2.2.2.2.2.2.2.1, T.2.2.2.2.2.2.2.2.2.2.1, T.2.2.2.2.2.2.2.2.2.2.2.1) (xs (Int32.toNatClampNeg (y4 + 1))) _ h ) (cwV 1 hts (gV q_486 q_487 q_488 q_67 q_489) rfl rfl rfl (by decide +kernel) ⟨Nat.le_of_ble_eq_true rfl, Nat.le_of_ble_eq_true rfl⟩) (preV_of (ci := 6) (q := (RX7, TX7, 4)) hK hP hD [0, 1, 2, 3, 4, 5, 6, 7, 8, 9, 10, 11, 12, 13, 14, 15, 16, 17, 18, 19, 20, 21, 22, 23, 24, 25, 26, 27, 28, 29, 30, 31, 32, 33, 34, 35, 36, 37, 38, 39, 40, 41, 42, 43, 44, 45, 46, 47, 48, 49, 50, 51, 52, 53] rfl rfl (by decide) 0 rfl rfl) rfl rfl hl.1 rfl (lv_room (Nat.le_of_ble_eq_true rfl)) dL_law_548 ⟨(by show _ ≤ 1102; omega), (by show _ ≤ 16074; omega)⟩) hP hD hS hA [0, 1, 2, 3, 4, 5, 6, 7, 8, 9, 10, 11, 12, 13, 14, 15, 16, 17, 18, 19, 20, 21, 22, 23, 24, 25, 26, 27, 28, 29, 30, 31, 32, 33, 34, 35, 36, 37, 38, 39, 40, 41, 42, 43, 44, 45, 46, 47, 48, 49, 50, 51, 52, 53] [.inl 0, .inl 1, .inl 2, .inl 3, .inl 4, .inl 5, .inl 6, .inl 7, .inl 8, .inl 9, .inl 10, .inl 11, .inl 12, .inl 13, .inl 14, .inl 15, .inl 16, .inl 17, .inl 18, .inl 19, .inl 20, .inl 21, .inl 22, .inl 23, .inl 24, .inl 25, .inl 26, .inl 27, .inl 28, .inl 29, .inl 30, .inl 31, .inl 32, .inl 33, .inl 34, .inl 35, .inl 36, .inl 37, .inl 38, .inl 39, .inl 40, .inl 41, .inl 42, .inl 43, .inl 44, .inl 45, .inl 46, .inl 47, .inl 48, .inl 49, .inl 50, .inl 51, .inl 52, .inl 53, .inr 54, .inr 55, .inr 56, .inr 57, .inr 58, .inr 59, .inr 60, .inr 61, .inr 62, .inr 63, .inr 64, .inr 65, .inr 66, .inr 67, .inr 68, .inr 69, .inr 70, .inr 71, .inr 72] rfl (by decide) (fun _ => rfl) (fun _ => rfl) (fun r90 u89 H locs h hP hD hS => ?_)
  refine lv_aload_n hx hb dL_law_551 rfl (lv_at hl 2 rfl) ?_
  refine lv_aload_n hx hb dL_law_552 rfl (lv_at hl 0 rfl) ?_
  refine lv_iload hx hb dL_law_553 (lv_at hl 4 rfl) ?_
  refine lv_iconst (v := 1) hx hb dL_law_555 (by decide) ?_
  refine lv_iadd hx hb dL_law_556 ?_
  refine va_sld hx hb hX hbl hbA hS h.1 dL_law_557 ?_
  have h := h.2
  refine cl_i (ws' := fun u91 => (wLAW cI cZ a b cJ o (u89.1, u89.2.1, u89.2.2.1, u89.2.2.2.1, u89.2.2.2.2.1, u89.2.2.2.2.2.1, u89.2.2.2.2.2.2.1, u89.2.2.2.2.2.2.2.1, u89.2.2.2.2.2.2.2.2.1, u89.2.2.2.2.2.2.2.2.2.1, u89.2.2.2.2.2.2.2.2.2.2.1, u89.2.2.2.2.2.2.2.2.2.2.2, u91, T.2.2.2.2.2.2.2.2.2.2.2.2.2))) (va_runV (As := [.int (xs (Int32.toNatClampNeg (y4 + 1)))]) (rest := [.int r90]) ⟨hx, hb, hml, hown, hts⟩ (c_X8_timer l D cI cZ b _ T.2.2.2.2.2.2.2.2.2.2.2.2.1 (xs (Int32.toNatClampNeg (y4 + 1))) _ h ) (cwV 1 hts (gV q_1205 q_1206 q_1207 q_75 q_1208) rfl rfl rfl (by decide +kernel) ⟨Nat.le_of_ble_eq_true rfl, Nat.le_of_ble_eq_true rfl⟩) (preV_of (ci := 7) (q := (RX8, TX8, 25)) hK hP hD [54, 55, 56, 57, 58, 59, 60, 61, 62, 63, 64, 65, 66, 67, 68, 69, 70, 71] rfl rfl (by decide) 54 rfl rfl) rfl rfl hl.1 rfl (lv_room (Nat.le_of_ble_eq_true rfl)) dL_law_558 ⟨(by show _ ≤ 1102; omega), (by show _ ≤ 16074; omega)⟩) hP hD hS hA [54, 55, 56, 57, 58, 59, 60, 61, 62, 63, 64, 65, 66, 67, 68, 69, 70, 71] [.inr 0, .inr 1, .inr 2, .inr 3, .inr 4, .inr 5, .inr 6, .inr 7, .inr 8, .inr 9, .inr 10, .inr 11, .inr 12, .inr 13, .inr 14, .inr 15, .inr 16, .inr 17, .inr 18, .inr 19, .inr 20, .inr 21, .inr 22, .inr 23, .inr 24, .inr 25, .inr 26, .inr 27, .inr 28, .inr 29, .inr 30, .inr 31, .inr 32, .inr 33, .inr 34, .inr 35, .inr 36, .inr 37, .inr 38, .inr 39, .inr 40, .inr 41, .inr 42, .inr 43, .inr 44, .inr 45, .inr 46, .inr 47, .inr 48, .inr 49, .inr 50, .inr 51, .inr 52, .inr 53, .inl 0, .inl 1, .inl 2, .inl 3, .inl 4, .inl 5, .inl 6, .inl 7, .inl 8, .inl 9, .inl 10, .inl 11, .inl 12, .inl 13, .inl 14, .inl 15, .inl 16, .inl 17, .inr 72] rfl (by decide) (fun _ => rfl) (fun _ => rfl) (fun r92 u91 H locs h hP hD hS => ?_)
  refine lv_icmp_eq (tgt := 1430) hx hb dL_law_561 (by decide) (fun c93 => ?_) (fun c93 => ?_)
  · have h := h.1 c93
    refine W.widen (k := cn + 1) (n := sn + 6) (by omega) (by omega) ?_
    obtain ⟨x94, ex94⟩ : ∃ y : Int32, y = (y4 + 4) := ⟨_, rfl⟩
    have h := h x94 ex94
    refine lv_iinc (v := x94) (lv' := [(4, .int x94), (0, .ref sb), (1, .ref (a 0)), (2, .ref (b 0)), (3, .ref o)]) hx hb dL_law_1430 hl (k := 4) rfl (by rw [ex94]; rfl) (by decide) rfl (fun ls hl => ?_)
    refine lv_goto (tgt := 23) hx hb dL_law_1433 (by decide) ?_
    exact K23 x94 (u89.1, u89.2.1, u89.2.2.1, u89.2.2.2.1, u89.2.2.2.2.1, u89.2.2.2.2.2.1, u89.2.2.2.2.2.2.1, u89.2.2.2.2.2.2.2.1, u89.2.2.2.2.2.2.2.2.1, u89.2.2.2.2.2.2.2.2.2.1, u89.2.2.2.2.2.2.2.2.2.2.1, u89.2.2.2.2.2.2.2.2.2.2.2, u91, T.2.2.2.2.2.2.2.2.2.2.2.2.2) _ _ _ hP hD hS (lv_sub hl [1, 2, 3, 4, 0] rfl) h
  · have h := h.2 c93
    refine lv_iconst (v := 0) hx hb dL_law_564 (by decide) ?_
    exact h.elim
set_option maxHeartbeats 4000000 in
set_option maxRecDepth 100000 in
theorem law_L566 {p : Program} {l : Launch} {e : Env} {s : State} {m : MethodId} {below : List Frame} {meth : Method} {c : Code} {D : va_G} {cI cZ cJ : ClassId} {a b : Nat → Nat} {o sb L : Nat} {xs : Nat → Int32} {A : Nat → Prop} (C0 : lawC p l s m meth c D cI cZ cJ sb L xs A) {cn sn : Nat} (hcn : cn + 1 ≤ 1102) (hsn : sn + 6 ≤ 16074) (k23 : Int32 → TLW → Prop) (K23 : ∀ (y4 : Int32) (T : TLW) (H : Heap) (locs : List Loc) (ls : Array Slot), va_P D vwCl (wLAW cI cZ a b cJ o T) H → va_D A (wLAW cI cZ a b cJ o T) → va_S A s.heap H locs → lv_has ls 7 [(0, .ref sb), (1, .ref (a 0)), (2, .ref (b 0)), (3, .ref o), (4, .int y4)] → k23 y4 T → W p l e room_1 s m #[Value.ref sb] below meth c H locs (cn + 1) (sn + 6) (lw_Z below #[Value.ref sb] s) (F0 m 23 ls [])) : ∀ (y4 : Int32) (T : TLW) (H : Heap) (locs : List Loc) (ls : Array Slot), va_P D vwCl (wLAW cI cZ a b cJ o T) H → va_D A (wLAW cI cZ a b cJ o T) → va_S A s.heap H locs → lv_has ls 7 [(0, .ref sb), (1, .ref (a 0)), (2, .ref (b 0)), (3, .ref o), (4, .int y4)] → wp_law_L566 L xs k23 y4 T → W p l e room_1 s m #[Value.ref sb] below meth c H locs cn sn (lw_Z below #[Value.ref sb] s) (F0 m 566 ls []) := by
  obtain ⟨hst, hx, hb, hr, hlocks, hml, hown, hts, hX, hbl, hbA, hA, hAf, hKJ, hF, hXF⟩ := id C0
  have hK : va_K D vwCl (tyL cI cZ) s := hKJ.sub [0, 1] rfl
  have hml2 := hml
  intro y4 T H locs ls hP hD hS hl h
  unfold wp_law_L566 at h
  refine lv_aload_n hx hb dL_law_566 rfl (lv_at hl 1 rfl) ?_
  refine lv_aload_n hx hb dL_law_567 rfl (lv_at hl 0 rfl) ?_
  refine lv_iload hx hb dL_law_568 (lv_at hl 4 rfl) ?_
  refine lv_iconst (v := 1) hx hb dL_law_570 (by decide) ?_
  refine lv_iadd hx hb dL_law_571 ?_
  refine va_sld hx hb hX hbl hbA hS h.1 dL_law_572 ?_
  have h := h.2
  refine lv_aload_n hx hb dL_law_573 rfl (lv_at hl 0 rfl) ?_
  refine lv_iload hx hb dL_law_574 (lv_at hl 4 rfl) ?_
  refine lv_iconst (v := 2) hx hb dL_law_576 (by decide) ?_
  refine lv_iadd hx hb dL_law_577 ?_
  refine va_sld hx hb hX hbl hbA hS h.1 dL_law_578 ?_
  have h := h.2
  refine cl_i (ws' := fun u95 => (wLAW cI cZ a b cJ o (u95.1, u95.2.1, u95.2.2.1, u95.2.2.2.1, u95.2.2.2.2.1, u95.2.2.2.2.2.1, u95.2.2.2.2.2.2.1, u95.2.2.2.2.2.2.2.1, u95.2.2.2.2.2.2.2.2.1, u95.2.2.2.2.2.2.2.2.2.1, u95.2.2.2.2.2.2.2.2.2.2.1, u95.2.2.2.2.2.2.2.2.2.2.2, T.2.2.2.2.2.2.2.2.2.2.2.2.1, T.2.2.2.2.2.2.2.2.2.2.2.2.2))) (va_runV (As := [.int (xs (Int32.toNatClampNeg (y4 + 1))), .int (xs (Int32.toNatClampNeg (y4 + 2)))]) (rest := []) ⟨hx, hb, hml, hown, hts⟩ (c_X7_arrive l D cI cZ a _ (T.1, T.2.1, T.2.2.1, T.2.2.2.1, T.2.2.2.2.1, T.2.2.2.2.2.1, T.2.2.2.2.2.2.1, T.2.2.2.2.2.2.2.1, T.2.2.2.2.2.2.2.2.1, T.2.2.2.2.2.2.2.2.2.1, T.2.2.2.2.2.2.2.2.2.2.1, T.2.2.2.2.2.2.2.2.2.2.2.1) (xs (Int32.toNatClampNeg (y4 + 1))) (xs (Int32.toNatClampNeg (y4 + 2))) _ h ) (cwV 2 hts (gV q_490 q_491 q_492 q_67 q_493) rfl rfl rfl (by decide +kernel) ⟨Nat.le_of_ble_eq_true rfl, Nat.le_of_ble_eq_true rfl⟩) (preV_of (ci := 6) (q := (RX7, TX7, 4)) hK hP hD [0, 1, 2, 3, 4, 5, 6, 7, 8, 9, 10, 11, 12, 13, 14, 15, 16, 17, 18, 19, 20, 21, 22, 23, 24, 25, 26, 27, 28, 29, 30, 31, 32, 33, 34, 35, 36, 37, 38, 39, 40, 41, 42, 43, 44, 45, 46, 47, 48, 49, 50, 51, 52, 53] rfl rfl (by decide) 0 rfl rfl) rfl rfl hl.1 rfl (lv_room (Nat.le_of_ble_eq_true rfl)) dL_law_579 ⟨(by show _ ≤ 1102; omega), (by show _ ≤ 16074; omega)⟩) hP hD hS hA [0, 1, 2, 3, 4, 5, 6, 7, 8, 9, 10, 11, 12, 13, 14, 15, 16, 17, 18, 19, 20, 21, 22, 23, 24, 25, 26, 27, 28, 29, 30, 31, 32, 33, 34, 35, 36, 37, 38, 39, 40, 41, 42, 43, 44, 45, 46, 47, 48, 49, 50, 51, 52, 53] [.inl 0, .inl 1, .inl 2, .inl 3, .inl 4, .inl 5, .inl 6, .inl 7, .inl 8, .inl 9, .inl 10, .inl 11, .inl 12, .inl 13, .inl 14, .inl 15, .inl 16, .inl 17, .inl 18, .inl 19, .inl 20, .inl 21, .inl 22, .inl 23, .inl 24, .inl 25, .inl 26, .inl 27, .inl 28, .inl 29, .inl 30, .inl 31, .inl 32, .inl 33, .inl 34, .inl 35, .inl 36, .inl 37, .inl 38, .inl 39, .inl 40, .inl 41, .inl 42, .inl 43, .inl 44, .inl 45, .inl 46, .inl 47, .inl 48, .inl 49, .inl 50, .inl 51, .inl 52, .inl 53, .inr 54, .inr 55, .inr 56, .inr 57, .inr 58, .inr 59, .inr 60, .inr 61, .inr 62, .inr 63, .inr 64, .inr 65, .inr 66, .inr 67, .inr 68, .inr 69, .inr 70, .inr 71, .inr 72] rfl (by decide) (fun _ => rfl) (fun _ => rfl) (fun r96 u95 H locs h hP hD hS => ?_)
  refine lv_aload_n hx hb dL_law_582 rfl (lv_at hl 2 rfl) ?_
  refine lv_aload_n hx hb dL_law_583 rfl (lv_at hl 0 rfl) ?_
  refine lv_iload hx hb dL_law_584 (lv_at hl 4 rfl) ?_
  refine lv_iconst (v := 1) hx hb dL_law_586 (by decide) ?_
  refine lv_iadd hx hb dL_law_587 ?_
  refine va_sld hx hb hX hbl hbA hS h.1 dL_law_588 ?_
  have h := h.2
  refine lv_aload_n hx hb dL_law_589 rfl (lv_at hl 0 rfl) ?_
  refine lv_iload hx hb dL_law_590 (lv_at hl 4 rfl) ?_
  refine lv_iconst (v := 2) hx hb dL_law_592 (by decide) ?_
  refine lv_iadd hx hb dL_law_593 ?_
  refine va_sld hx hb hX hbl hbA hS h.1 dL_law_594 ?_
  have h := h.2
  refine cl_i (ws' := fun u97 => (wLAW cI cZ a b cJ o (u95.1, u95.2.1, u95.2.2.1, u95.2.2.2.1, u95.2.2.2.2.1, u95.2.2.2.2.2.1, u95.2.2.2.2.2.2.1, u95.2.2.2.2.2.2.2.1, u95.2.2.2.2.2.2.2.2.1, u95.2.2.2.2.2.2.2.2.2.1, u95.2.2.2.2.2.2.2.2.2.2.1, u95.2.2.2.2.2.2.2.2.2.2.2, u97, T.2.2.2.2.2.2.2.2.2.2.2.2.2))) (va_runV (As := [.int (xs (Int32.toNatClampNeg (y4 + 1))), .int (xs (Int32.toNatClampNeg (y4 + 2)))]) (rest := [.int r96]) ⟨hx, hb, hml, hown, hts⟩ (c_X8_arrive l D cI cZ b _ T.2.2.2.2.2.2.2.2.2.2.2.2.1 (xs (Int32.toNatClampNeg (y4 + 1))) (xs (Int32.toNatClampNeg (y4 + 2))) _ h ) (cwV 2 hts (gV q_1209 q_1210 q_1211 q_75 q_1212) rfl rfl rfl (by decide +kernel) ⟨Nat.le_of_ble_eq_true rfl, Nat.le_of_ble_eq_true rfl⟩) (preV_of (ci := 7) (q := (RX8, TX8, 25)) hK hP hD [54, 55, 56, 57, 58, 59, 60, 61, 62, 63, 64, 65, 66, 67, 68, 69, 70, 71] rfl rfl (by decide) 54 rfl rfl) rfl rfl hl.1 rfl (lv_room (Nat.le_of_ble_eq_true rfl)) dL_law_595 ⟨(by show _ ≤ 1102; omega), (by show _ ≤ 16074; omega)⟩) hP hD hS hA [54, 55, 56, 57, 58, 59, 60, 61, 62, 63, 64, 65, 66, 67, 68, 69, 70, 71] [.inr 0, .inr 1, .inr 2, .inr 3, .inr 4, .inr 5, .inr 6, .inr 7, .inr 8, .inr 9, .inr 10, .inr 11, .inr 12, .inr 13, .inr 14, .inr 15, .inr 16, .inr 17, .inr 18, .inr 19, .inr 20, .inr 21, .inr 22, .inr 23, .inr 24, .inr 25, .inr 26, .inr 27, .inr 28, .inr 29, .inr 30, .inr 31, .inr 32, .inr 33, .inr 34, .inr 35, .inr 36, .inr 37, .inr 38, .inr 39, .inr 40, .inr 41, .inr 42, .inr 43, .inr 44, .inr 45, .inr 46, .inr 47, .inr 48, .inr 49, .inr 50, .inr 51, .inr 52, .inr 53, .inl 0, .inl 1, .inl 2, .inl 3, .inl 4, .inl 5, .inl 6, .inl 7, .inl 8, .inl 9, .inl 10, .inl 11, .inl 12, .inl 13, .inl 14, .inl 15, .inl 16, .inl 17, .inr 72] rfl (by decide) (fun _ => rfl) (fun _ => rfl) (fun r98 u97 H locs h hP hD hS => ?_)
  refine lv_icmp_eq (tgt := 1430) hx hb dL_law_598 (by decide) (fun c99 => ?_) (fun c99 => ?_)
  · have h := h.1 c99
    refine W.widen (k := cn + 1) (n := sn + 6) (by omega) (by omega) ?_
    obtain ⟨x100, ex100⟩ : ∃ y : Int32, y = (y4 + 4) := ⟨_, rfl⟩
    have h := h x100 ex100
    refine lv_iinc (v := x100) (lv' := [(4, .int x100), (0, .ref sb), (1, .ref (a 0)), (2, .ref (b 0)), (3, .ref o)]) hx hb dL_law_1430 hl (k := 4) rfl (by rw [ex100]; rfl) (by decide) rfl (fun ls hl => ?_)
    refine lv_goto (tgt := 23) hx hb dL_law_1433 (by decide) ?_
    exact K23 x100 (u95.1, u95.2.1, u95.2.2.1, u95.2.2.2.1, u95.2.2.2.2.1, u95.2.2.2.2.2.1, u95.2.2.2.2.2.2.1, u95.2.2.2.2.2.2.2.1, u95.2.2.2.2.2.2.2.2.1, u95.2.2.2.2.2.2.2.2.2.1, u95.2.2.2.2.2.2.2.2.2.2.1, u95.2.2.2.2.2.2.2.2.2.2.2, u97, T.2.2.2.2.2.2.2.2.2.2.2.2.2) _ _ _ hP hD hS (lv_sub hl [1, 2, 3, 4, 0] rfl) h
  · have h := h.2 c99
    refine lv_iconst (v := 0) hx hb dL_law_601 (by decide) ?_
    exact h.elim
set_option maxHeartbeats 4000000 in
set_option maxRecDepth 100000 in
theorem law_L603 {p : Program} {l : Launch} {e : Env} {s : State} {m : MethodId} {below : List Frame} {meth : Method} {c : Code} {D : va_G} {cI cZ cJ : ClassId} {a b : Nat → Nat} {o sb L : Nat} {xs : Nat → Int32} {A : Nat → Prop} (C0 : lawC p l s m meth c D cI cZ cJ sb L xs A) {cn sn : Nat} (hcn : cn + 1 ≤ 1102) (hsn : sn + 6 ≤ 16074) (k23 : Int32 → TLW → Prop) (K23 : ∀ (y4 : Int32) (T : TLW) (H : Heap) (locs : List Loc) (ls : Array Slot), va_P D vwCl (wLAW cI cZ a b cJ o T) H → va_D A (wLAW cI cZ a b cJ o T) → va_S A s.heap H locs → lv_has ls 7 [(0, .ref sb), (1, .ref (a 0)), (2, .ref (b 0)), (3, .ref o), (4, .int y4)] → k23 y4 T → W p l e room_1 s m #[Value.ref sb] below meth c H locs (cn + 1) (sn + 6) (lw_Z below #[Value.ref sb] s) (F0 m 23 ls [])) : ∀ (y4 : Int32) (T : TLW) (H : Heap) (locs : List Loc) (ls : Array Slot), va_P D vwCl (wLAW cI cZ a b cJ o T) H → va_D A (wLAW cI cZ a b cJ o T) → va_S A s.heap H locs → lv_has ls 7 [(0, .ref sb), (1, .ref (a 0)), (2, .ref (b 0)), (3, .ref o), (4, .int y4)] → wp_law_L603 L xs k23 y4 T → W p l e room_1 s m #[Value.ref sb] below meth c H locs cn sn (lw_Z below #[Value.ref sb] s) (F0 m 603 ls []) := by
  obtain ⟨hst, hx, hb, hr, hlocks, hml, hown, hts, hX, hbl, hbA, hA, hAf, hKJ, hF, hXF⟩ := id C0
  have hK : va_K D vwCl (tyL cI cZ) s := hKJ.sub [0, 1] rfl
  have hml2 := hml
  intro y4 T H locs ls hP hD hS hl h
  unfold wp_law_L603 at h
  refine lv_aload_n hx hb dL_law_603 rfl (lv_at hl 1 rfl) ?_
  refine lv_aload_n hx hb dL_law_604 rfl (lv_at hl 0 rfl) ?_
  refine lv_iload hx hb dL_law_605 (lv_at hl 4 rfl) ?_
  refine lv_iconst (v := 1) hx hb dL_law_607 (by decide) ?_
  refine lv_iadd hx hb dL_law_608 ?_
  refine va_sld hx hb hX hbl hbA hS h.1 dL_law_609 ?_
  have h := h.2
  refine cl_i (ws' := fun u101 => (wLAW cI cZ a b cJ o (u101.1, u101.2.1, u101.2.2.1, u101.2.2.2.1, u101.2.2.2.2.1, u101.2.2.2.2.2.1, u101.2.2.2.2.2.2.1, u101.2.2.2.2.2.2.2.1, u101.2.2.2.2.2.2.2.2.1, u101.2.2.2.2.2.2.2.2.2.1, u101.2.2.2.2.2.2.2.2.2.2.1, u101.2.2.2.2.2.2.2.2.2.2.2, T.2.2.2.2.2.2.2.2.2.2.2.2.1, T.2.2.2.2.2.2.2.2.2.2.2.2.2))) (va_runV (As := [.int (xs (Int32.toNatClampNeg (y4 + 1)))]) (rest := []) ⟨hx, hb, hml, hown, hts⟩ (c_X7_run l D cI cZ a _ (T.1, T.2.1, T.2.2.1, T.2.2.2.1, T.2.2.2.2.1, T.2.2.2.2.2.1, T.2.2.2.2.2.2.1, T.2.2.2.2.2.2.2.1, T.2.2.2.2.2.2.2.2.1, T.2.2.2.2.2.2.2.2.2.1, T.2.2.2.2.2.2.2.2.2.2.1, T.2.2.2.2.2.2.2.2.2.2.2.1) (xs (Int32.toNatClampNeg (y4 + 1))) _ h ) (cwV 1 hts (gV q_498 q_499 q_500 q_67 q_501) rfl rfl rfl (by decide +kernel) ⟨Nat.le_of_ble_eq_true rfl, Nat.le_of_ble_eq_true rfl⟩) (preTV_of (ci := 6) (q := (RX7, TX7, 4)) hF hS hA hK hP hD [0, 1, 2, 3, 4, 5, 6, 7, 8, 9, 10, 11, 12, 13, 14, 15, 16, 17, 18, 19, 20, 21, 22, 23, 24, 25, 26, 27, 28, 29, 30, 31, 32, 33, 34, 35, 36, 37, 38, 39, 40, 41, 42, 43, 44, 45, 46, 47, 48, 49, 50, 51, 52, 53] rfl rfl (by decide) 0 rfl rfl) rfl rfl hl.1 rfl (lv_room (Nat.le_of_ble_eq_true rfl)) dL_law_610 ⟨(by show _ ≤ 1102; omega), (by show _ ≤ 16074; omega)⟩) hP hD hS hA [0, 1, 2, 3, 4, 5, 6, 7, 8, 9, 10, 11, 12, 13, 14, 15, 16, 17, 18, 19, 20, 21, 22, 23, 24, 25, 26, 27, 28, 29, 30, 31, 32, 33, 34, 35, 36, 37, 38, 39, 40, 41, 42, 43, 44, 45, 46, 47, 48, 49, 50, 51, 52, 53] [.inl 0, .inl 1, .inl 2, .inl 3, .inl 4, .inl 5, .inl 6, .inl 7, .inl 8, .inl 9, .inl 10, .inl 11, .inl 12, .inl 13, .inl 14, .inl 15, .inl 16, .inl 17, .inl 18, .inl 19, .inl 20, .inl 21, .inl 22, .inl 23, .inl 24, .inl 25, .inl 26, .inl 27, .inl 28, .inl 29, .inl 30, .inl 31, .inl 32, .inl 33, .inl 34, .inl 35, .inl 36, .inl 37, .inl 38, .inl 39, .inl 40, .inl 41, .inl 42, .inl 43, .inl 44, .inl 45, .inl 46, .inl 47, .inl 48, .inl 49, .inl 50, .inl 51, .inl 52, .inl 53, .inr 54, .inr 55, .inr 56, .inr 57, .inr 58, .inr 59, .inr 60, .inr 61, .inr 62, .inr 63, .inr 64, .inr 65, .inr 66, .inr 67, .inr 68, .inr 69, .inr 70, .inr 71, .inr 72] rfl (by decide) (fun _ => rfl) (fun _ => rfl) (fun r102 u101 H locs h hP hD hS => ?_)
  refine lv_aload_n hx hb dL_law_613 rfl (lv_at hl 2 rfl) ?_
  refine lv_aload_n hx hb dL_law_614 rfl (lv_at hl 0 rfl) ?_
  refine lv_iload hx hb dL_law_615 (lv_at hl 4 rfl) ?_
  refine lv_iconst (v := 1) hx hb dL_law_617 (by decide) ?_
  refine lv_iadd hx hb dL_law_618 ?_
  refine va_sld hx hb hX hbl hbA hS h.1 dL_law_619 ?_
  have h := h.2
  refine cl_i (ws' := fun u103 => (wLAW cI cZ a b cJ o (u101.1, u101.2.1, u101.2.2.1, u101.2.2.2.1, u101.2.2.2.2.1, u101.2.2.2.2.2.1, u101.2.2.2.2.2.2.1, u101.2.2.2.2.2.2.2.1, u101.2.2.2.2.2.2.2.2.1, u101.2.2.2.2.2.2.2.2.2.1, u101.2.2.2.2.2.2.2.2.2.2.1, u101.2.2.2.2.2.2.2.2.2.2.2, u103, T.2.2.2.2.2.2.2.2.2.2.2.2.2))) (va_runV (As := [.int (xs (Int32.toNatClampNeg (y4 + 1)))]) (rest := [.int r102]) ⟨hx, hb, hml, hown, hts⟩ (c_X8_run l D cI cZ b _ T.2.2.2.2.2.2.2.2.2.2.2.2.1 (xs (Int32.toNatClampNeg (y4 + 1))) _ h ) (cwV 1 hts (gV q_1213 q_1214 q_1215 q_75 q_1216) rfl rfl rfl (by decide +kernel) ⟨Nat.le_of_ble_eq_true rfl, Nat.le_of_ble_eq_true rfl⟩) (preTV_of (ci := 7) (q := (RX8, TX8, 25)) hF hS hA hK hP hD [54, 55, 56, 57, 58, 59, 60, 61, 62, 63, 64, 65, 66, 67, 68, 69, 70, 71] rfl rfl (by decide) 54 rfl rfl) rfl rfl hl.1 rfl (lv_room (Nat.le_of_ble_eq_true rfl)) dL_law_620 ⟨(by show _ ≤ 1102; omega), (by show _ ≤ 16074; omega)⟩) hP hD hS hA [54, 55, 56, 57, 58, 59, 60, 61, 62, 63, 64, 65, 66, 67, 68, 69, 70, 71] [.inr 0, .inr 1, .inr 2, .inr 3, .inr 4, .inr 5, .inr 6, .inr 7, .inr 8, .inr 9, .inr 10, .inr 11, .inr 12, .inr 13, .inr 14, .inr 15, .inr 16, .inr 17, .inr 18, .inr 19, .inr 20, .inr 21, .inr 22, .inr 23, .inr 24, .inr 25, .inr 26, .inr 27, .inr 28, .inr 29, .inr 30, .inr 31, .inr 32, .inr 33, .inr 34, .inr 35, .inr 36, .inr 37, .inr 38, .inr 39, .inr 40, .inr 41, .inr 42, .inr 43, .inr 44, .inr 45, .inr 46, .inr 47, .inr 48, .inr 49, .inr 50, .inr 51, .inr 52, .inr 53, .inl 0, .inl 1, .inl 2, .inl 3, .inl 4, .inl 5, .inl 6, .inl 7, .inl 8, .inl 9, .inl 10, .inl 11, .inl 12, .inl 13, .inl 14, .inl 15, .inl 16, .inl 17, .inr 72] rfl (by decide) (fun _ => rfl) (fun _ => rfl) (fun r104 u103 H locs h hP hD hS => ?_)
  refine lv_icmp_eq (tgt := 1430) hx hb dL_law_623 (by decide) (fun c105 => ?_) (fun c105 => ?_)
  · have h := h.1 c105
    refine W.widen (k := cn + 1) (n := sn + 6) (by omega) (by omega) ?_
    obtain ⟨x106, ex106⟩ : ∃ y : Int32, y = (y4 + 4) := ⟨_, rfl⟩
    have h := h x106 ex106
    refine lv_iinc (v := x106) (lv' := [(4, .int x106), (0, .ref sb), (1, .ref (a 0)), (2, .ref (b 0)), (3, .ref o)]) hx hb dL_law_1430 hl (k := 4) rfl (by rw [ex106]; rfl) (by decide) rfl (fun ls hl => ?_)
    refine lv_goto (tgt := 23) hx hb dL_law_1433 (by decide) ?_
    exact K23 x106 (u101.1, u101.2.1, u101.2.2.1, u101.2.2.2.1, u101.2.2.2.2.1, u101.2.2.2.2.2.1, u101.2.2.2.2.2.2.1, u101.2.2.2.2.2.2.2.1, u101.2.2.2.2.2.2.2.2.1, u101.2.2.2.2.2.2.2.2.2.1, u101.2.2.2.2.2.2.2.2.2.2.1, u101.2.2.2.2.2.2.2.2.2.2.2, u103, T.2.2.2.2.2.2.2.2.2.2.2.2.2) _ _ _ hP hD hS (lv_sub hl [1, 2, 3, 4, 0] rfl) h
  · have h := h.2 c105
    refine lv_iconst (v := 0) hx hb dL_law_626 (by decide) ?_
    exact h.elim
set_option maxHeartbeats 4000000 in
set_option maxRecDepth 100000 in
theorem law_L628 {p : Program} {l : Launch} {e : Env} {s : State} {m : MethodId} {below : List Frame} {meth : Method} {c : Code} {D : va_G} {cI cZ cJ : ClassId} {a b : Nat → Nat} {o sb L : Nat} {xs : Nat → Int32} {A : Nat → Prop} (C0 : lawC p l s m meth c D cI cZ cJ sb L xs A) {cn sn : Nat} (hcn : cn + 1 ≤ 1102) (hsn : sn + 6 ≤ 16074) (k23 : Int32 → TLW → Prop) (K23 : ∀ (y4 : Int32) (T : TLW) (H : Heap) (locs : List Loc) (ls : Array Slot), va_P D vwCl (wLAW cI cZ a b cJ o T) H → va_D A (wLAW cI cZ a b cJ o T) → va_S A s.heap H locs → lv_has ls 7 [(0, .ref sb), (1, .ref (a 0)), (2, .ref (b 0)), (3, .ref o), (4, .int y4)] → k23 y4 T → W p l e room_1 s m #[Value.ref sb] below meth c H locs (cn + 1) (sn + 6) (lw_Z below #[Value.ref sb] s) (F0 m 23 ls [])) : ∀ (y4 : Int32) (T : TLW) (H : Heap) (locs : List Loc) (ls : Array Slot), va_P D vwCl (wLAW cI cZ a b cJ o T) H → va_D A (wLAW cI cZ a b cJ o T) → va_S A s.heap H locs → lv_has ls 7 [(0, .ref sb), (1, .ref (a 0)), (2, .ref (b 0)), (3, .ref o), (4, .int y4)] → wp_law_L628 L xs k23 y4 T → W p l e room_1 s m #[Value.ref sb] below meth c H locs cn sn (lw_Z below #[Value.ref sb] s) (F0 m 628 ls []) := by
  obtain ⟨hst, hx, hb, hr, hlocks, hml, hown, hts, hX, hbl, hbA, hA, hAf, hKJ, hF, hXF⟩ := id C0
  have hK : va_K D vwCl (tyL cI cZ) s := hKJ.sub [0, 1] rfl
  have hml2 := hml
  intro y4 T H locs ls hP hD hS hl h
  unfold wp_law_L628 at h
  refine lv_aload_n hx hb dL_law_628 rfl (lv_at hl 1 rfl) ?_
  refine lv_aload_n hx hb dL_law_629 rfl (lv_at hl 0 rfl) ?_
  refine lv_iload hx hb dL_law_630 (lv_at hl 4 rfl) ?_
  refine lv_iconst (v := 1) hx hb dL_law_632 (by decide) ?_
  refine lv_iadd hx hb dL_law_633 ?_
  refine va_sld hx hb hX hbl hbA hS h.1 dL_law_634 ?_
  have h := h.2
  refine cl_i (ws' := fun u107 => (wLAW cI cZ a b cJ o (u107.1, u107.2.1, u107.2.2.1, u107.2.2.2.1, u107.2.2.2.2.1, u107.2.2.2.2.2.1, u107.2.2.2.2.2.2.1, u107.2.2.2.2.2.2.2.1, u107.2.2.2.2.2.2.2.2.1, u107.2.2.2.2.2.2.2.2.2.1, u107.2.2.2.2.2.2.2.2.2.2.1, u107.2.2.2.2.2.2.2.2.2.2.2, T.2.2.2.2.2.2.2.2.2.2.2.2.1, T.2.2.2.2.2.2.2.2.2.2.2.2.2))) (va_runV (As := [.int (xs (Int32.toNatClampNeg (y4 + 1)))]) (rest := []) ⟨hx, hb, hml, hown, hts⟩ (c_X7_till l D cI cZ a _ (T.1, T.2.1, T.2.2.1, T.2.2.2.1, T.2.2.2.2.1, T.2.2.2.2.2.1, T.2.2.2.2.2.2.1, T.2.2.2.2.2.2.2.1, T.2.2.2.2.2.2.2.2.1, T.2.2.2.2.2.2.2.2.2.1, T.2.2.2.2.2.2.2.2.2.2.1, T.2.2.2.2.2.2.2.2.2.2.2.1) (xs (Int32.toNatClampNeg (y4 + 1))) _ h ) (cwV 1 hts (gV q_759 q_760 q_761 q_67 q_762) rfl rfl rfl (by decide +kernel) ⟨Nat.le_of_ble_eq_true rfl, Nat.le_of_ble_eq_true rfl⟩) (preTV_of (ci := 6) (q := (RX7, TX7, 4)) hF hS hA hK hP hD [0, 1, 2, 3, 4, 5, 6, 7, 8, 9, 10, 11, 12, 13, 14, 15, 16, 17, 18, 19, 20, 21, 22, 23, 24, 25, 26, 27, 28, 29, 30, 31, 32, 33, 34, 35, 36, 37, 38, 39, 40, 41, 42, 43, 44, 45, 46, 47, 48, 49, 50, 51, 52, 53] rfl rfl (by decide) 0 rfl rfl) rfl rfl hl.1 rfl (lv_room (Nat.le_of_ble_eq_true rfl)) dL_law_635 ⟨(by show _ ≤ 1102; omega), (by show _ ≤ 16074; omega)⟩) hP hD hS hA [0, 1, 2, 3, 4, 5, 6, 7, 8, 9, 10, 11, 12, 13, 14, 15, 16, 17, 18, 19, 20, 21, 22, 23, 24, 25, 26, 27, 28, 29, 30, 31, 32, 33, 34, 35, 36, 37, 38, 39, 40, 41, 42, 43, 44, 45, 46, 47, 48, 49, 50, 51, 52, 53] [.inl 0, .inl 1, .inl 2, .inl 3, .inl 4, .inl 5, .inl 6, .inl 7, .inl 8, .inl 9, .inl 10, .inl 11, .inl 12, .inl 13, .inl 14, .inl 15, .inl 16, .inl 17, .inl 18, .inl 19, .inl 20, .inl 21, .inl 22, .inl 23, .inl 24, .inl 25, .inl 26, .inl 27, .inl 28, .inl 29, .inl 30, .inl 31, .inl 32, .inl 33, .inl 34, .inl 35, .inl 36, .inl 37, .inl 38, .inl 39, .inl 40, .inl 41, .inl 42, .inl 43, .inl 44, .inl 45, .inl 46, .inl 47, .inl 48, .inl 49, .inl 50, .inl 51, .inl 52, .inl 53, .inr 54, .inr 55, .inr 56, .inr 57, .inr 58, .inr 59, .inr 60, .inr 61, .inr 62, .inr 63, .inr 64, .inr 65, .inr 66, .inr 67, .inr 68, .inr 69, .inr 70, .inr 71, .inr 72] rfl (by decide) (fun _ => rfl) (fun _ => rfl) (fun r108 u107 H locs h hP hD hS => ?_)
  refine lv_aload_n hx hb dL_law_638 rfl (lv_at hl 2 rfl) ?_
  refine lv_aload_n hx hb dL_law_639 rfl (lv_at hl 0 rfl) ?_
  refine lv_iload hx hb dL_law_640 (lv_at hl 4 rfl) ?_
  refine lv_iconst (v := 1) hx hb dL_law_642 (by decide) ?_
  refine lv_iadd hx hb dL_law_643 ?_
  refine va_sld hx hb hX hbl hbA hS h.1 dL_law_644 ?_
  have h := h.2
  refine cl_i (ws' := fun u109 => (wLAW cI cZ a b cJ o (u107.1, u107.2.1, u107.2.2.1, u107.2.2.2.1, u107.2.2.2.2.1, u107.2.2.2.2.2.1, u107.2.2.2.2.2.2.1, u107.2.2.2.2.2.2.2.1, u107.2.2.2.2.2.2.2.2.1, u107.2.2.2.2.2.2.2.2.2.1, u107.2.2.2.2.2.2.2.2.2.2.1, u107.2.2.2.2.2.2.2.2.2.2.2, u109, T.2.2.2.2.2.2.2.2.2.2.2.2.2))) (va_runV (As := [.int (xs (Int32.toNatClampNeg (y4 + 1)))]) (rest := [.int r108]) ⟨hx, hb, hml, hown, hts⟩ (c_X8_till l D cI cZ b _ T.2.2.2.2.2.2.2.2.2.2.2.2.1 (xs (Int32.toNatClampNeg (y4 + 1))) _ h ) (cwV 1 hts (gV q_1386 q_1387 q_1388 q_75 q_1389) rfl rfl rfl (by decide +kernel) ⟨Nat.le_of_ble_eq_true rfl, Nat.le_of_ble_eq_true rfl⟩) (preTV_of (ci := 7) (q := (RX8, TX8, 25)) hF hS hA hK hP hD [54, 55, 56, 57, 58, 59, 60, 61, 62, 63, 64, 65, 66, 67, 68, 69, 70, 71] rfl rfl (by decide) 54 rfl rfl) rfl rfl hl.1 rfl (lv_room (Nat.le_of_ble_eq_true rfl)) dL_law_645 ⟨(by show _ ≤ 1102; omega), (by show _ ≤ 16074; omega)⟩) hP hD hS hA [54, 55, 56, 57, 58, 59, 60, 61, 62, 63, 64, 65, 66, 67, 68, 69, 70, 71] [.inr 0, .inr 1, .inr 2, .inr 3, .inr 4, .inr 5, .inr 6, .inr 7, .inr 8, .inr 9, .inr 10, .inr 11, .inr 12, .inr 13, .inr 14, .inr 15, .inr 16, .inr 17, .inr 18, .inr 19, .inr 20, .inr 21, .inr 22, .inr 23, .inr 24, .inr 25, .inr 26, .inr 27, .inr 28, .inr 29, .inr 30, .inr 31, .inr 32, .inr 33, .inr 34, .inr 35, .inr 36, .inr 37, .inr 38, .inr 39, .inr 40, .inr 41, .inr 42, .inr 43, .inr 44, .inr 45, .inr 46, .inr 47, .inr 48, .inr 49, .inr 50, .inr 51, .inr 52, .inr 53, .inl 0, .inl 1, .inl 2, .inl 3, .inl 4, .inl 5, .inl 6, .inl 7, .inl 8, .inl 9, .inl 10, .inl 11, .inl 12, .inl 13, .inl 14, .inl 15, .inl 16, .inl 17, .inr 72] rfl (by decide) (fun _ => rfl) (fun _ => rfl) (fun r110 u109 H locs h hP hD hS => ?_)
  refine lv_icmp_eq (tgt := 1430) hx hb dL_law_648 (by decide) (fun c111 => ?_) (fun c111 => ?_)
  · have h := h.1 c111
    refine W.widen (k := cn + 1) (n := sn + 6) (by omega) (by omega) ?_
    obtain ⟨x112, ex112⟩ : ∃ y : Int32, y = (y4 + 4) := ⟨_, rfl⟩
    have h := h x112 ex112
    refine lv_iinc (v := x112) (lv' := [(4, .int x112), (0, .ref sb), (1, .ref (a 0)), (2, .ref (b 0)), (3, .ref o)]) hx hb dL_law_1430 hl (k := 4) rfl (by rw [ex112]; rfl) (by decide) rfl (fun ls hl => ?_)
    refine lv_goto (tgt := 23) hx hb dL_law_1433 (by decide) ?_
    exact K23 x112 (u107.1, u107.2.1, u107.2.2.1, u107.2.2.2.1, u107.2.2.2.2.1, u107.2.2.2.2.2.1, u107.2.2.2.2.2.2.1, u107.2.2.2.2.2.2.2.1, u107.2.2.2.2.2.2.2.2.1, u107.2.2.2.2.2.2.2.2.2.1, u107.2.2.2.2.2.2.2.2.2.2.1, u107.2.2.2.2.2.2.2.2.2.2.2, u109, T.2.2.2.2.2.2.2.2.2.2.2.2.2) _ _ _ hP hD hS (lv_sub hl [1, 2, 3, 4, 0] rfl) h
  · have h := h.2 c111
    refine lv_iconst (v := 0) hx hb dL_law_651 (by decide) ?_
    exact h.elim
set_option maxHeartbeats 4000000 in
set_option maxRecDepth 100000 in
theorem law_L653 {p : Program} {l : Launch} {e : Env} {s : State} {m : MethodId} {below : List Frame} {meth : Method} {c : Code} {D : va_G} {cI cZ cJ : ClassId} {a b : Nat → Nat} {o sb L : Nat} {xs : Nat → Int32} {A : Nat → Prop} (C0 : lawC p l s m meth c D cI cZ cJ sb L xs A) {cn sn : Nat} (hcn : cn + 1 ≤ 1102) (hsn : sn + 6 ≤ 16074) (k23 : Int32 → TLW → Prop) (K23 : ∀ (y4 : Int32) (T : TLW) (H : Heap) (locs : List Loc) (ls : Array Slot), va_P D vwCl (wLAW cI cZ a b cJ o T) H → va_D A (wLAW cI cZ a b cJ o T) → va_S A s.heap H locs → lv_has ls 7 [(0, .ref sb), (1, .ref (a 0)), (2, .ref (b 0)), (3, .ref o), (4, .int y4)] → k23 y4 T → W p l e room_1 s m #[Value.ref sb] below meth c H locs (cn + 1) (sn + 6) (lw_Z below #[Value.ref sb] s) (F0 m 23 ls [])) : ∀ (y4 : Int32) (T : TLW) (H : Heap) (locs : List Loc) (ls : Array Slot), va_P D vwCl (wLAW cI cZ a b cJ o T) H → va_D A (wLAW cI cZ a b cJ o T) → va_S A s.heap H locs → lv_has ls 7 [(0, .ref sb), (1, .ref (a 0)), (2, .ref (b 0)), (3, .ref o), (4, .int y4)] → wp_law_L653 L xs k23 y4 T → W p l e room_1 s m #[Value.ref sb] below meth c H locs cn sn (lw_Z below #[Value.ref sb] s) (F0 m 653 ls []) := by
  obtain ⟨hst, hx, hb, hr, hlocks, hml, hown, hts, hX, hbl, hbA, hA, hAf, hKJ, hF, hXF⟩ := id C0
  have hK : va_K D vwCl (tyL cI cZ) s := hKJ.sub [0, 1] rfl
  have hml2 := hml
  intro y4 T H locs ls hP hD hS hl h
  unfold wp_law_L653 at h
  refine lv_aload_n hx hb dL_law_653 rfl (lv_at hl 1 rfl) ?_
  refine cl_i (ws' := fun u113 => (wLAW cI cZ a b cJ o (u113.1, u113.2.1, u113.2.2.1, u113.2.2.2.1, u113.2.2.2.2.1, u113.2.2.2.2.2.1, u113.2.2.2.2.2.2.1, u113.2.2.2.2.2.2.2.1, u113.2.2.2.2.2.2.2.2.1, u113.2.2.2.2.2.2.2.2.2.1, u113.2.2.2.2.2.2.2.2.2.2.1, u113.2.2.2.2.2.2.2.2.2.2.2, T.2.2.2.2.2.2.2.2.2.2.2.2.1, T.2.2.2.2.2.2.2.2.2.2.2.2.2))) (va_runV (As := []) (rest := []) ⟨hx, hb, hml, hown, hts⟩ (c_X7_reset l D cI cZ a _ (T.1, T.2.1, T.2.2.1, T.2.2.2.1, T.2.2.2.2.1, T.2.2.2.2.2.1, T.2.2.2.2.2.2.1, T.2.2.2.2.2.2.2.1, T.2.2.2.2.2.2.2.2.1, T.2.2.2.2.2.2.2.2.2.1, T.2.2.2.2.2.2.2.2.2.2.1, T.2.2.2.2.2.2.2.2.2.2.2.1) _ h ) (cwV 0 hts (gV q_768 q_769 q_770 q_67 q_771) rfl rfl rfl (by decide +kernel) ⟨Nat.le_of_ble_eq_true rfl, Nat.le_of_ble_eq_true rfl⟩) (preV_of (ci := 6) (q := (RX7, TX7, 4)) hK hP hD [0, 1, 2, 3, 4, 5, 6, 7, 8, 9, 10, 11, 12, 13, 14, 15, 16, 17, 18, 19, 20, 21, 22, 23, 24, 25, 26, 27, 28, 29, 30, 31, 32, 33, 34, 35, 36, 37, 38, 39, 40, 41, 42, 43, 44, 45, 46, 47, 48, 49, 50, 51, 52, 53] rfl rfl (by decide) 0 rfl rfl) rfl rfl hl.1 rfl (lv_room (Nat.le_of_ble_eq_true rfl)) dL_law_654 ⟨(by show _ ≤ 1102; omega), (by show _ ≤ 16074; omega)⟩) hP hD hS hA [0, 1, 2, 3, 4, 5, 6, 7, 8, 9, 10, 11, 12, 13, 14, 15, 16, 17, 18, 19, 20, 21, 22, 23, 24, 25, 26, 27, 28, 29, 30, 31, 32, 33, 34, 35, 36, 37, 38, 39, 40, 41, 42, 43, 44, 45, 46, 47, 48, 49, 50, 51, 52, 53] [.inl 0, .inl 1, .inl 2, .inl 3, .inl 4, .inl 5, .inl 6, .inl 7, .inl 8, .inl 9, .inl 10, .inl 11, .inl 12, .inl 13, .inl 14, .inl 15, .inl 16, .inl 17, .inl 18, .inl 19, .inl 20, .inl 21, .inl 22, .inl 23, .inl 24, .inl 25, .inl 26, .inl 27, .inl 28, .inl 29, .inl 30, .inl 31, .inl 32, .inl 33, .inl 34, .inl 35, .inl 36, .inl 37, .inl 38, .inl 39, .inl 40, .inl 41, .inl 42, .inl 43, .inl 44, .inl 45, .inl 46, .inl 47, .inl 48, .inl 49, .inl 50, .inl 51, .inl 52, .inl 53, .inr 54, .inr 55, .inr 56, .inr 57, .inr 58, .inr 59, .inr 60, .inr 61, .inr 62, .inr 63, .inr 64, .inr 65, .inr 66, .inr 67, .inr 68, .inr 69, .inr 70, .inr 71, .inr 72] rfl (by decide) (fun _ => rfl) (fun _ => rfl) (fun r114 u113 H locs h hP hD hS => ?_)
  refine lv_aload_n hx hb dL_law_657 rfl (lv_at hl 2 rfl) ?_
  refine cl_i (ws' := fun u115 => (wLAW cI cZ a b cJ o (u113.1, u113.2.1, u113.2.2.1, u113.2.2.2.1, u113.2.2.2.2.1, u113.2.2.2.2.2.1, u113.2.2.2.2.2.2.1, u113.2.2.2.2.2.2.2.1, u113.2.2.2.2.2.2.2.2.1, u113.2.2.2.2.2.2.2.2.2.1, u113.2.2.2.2.2.2.2.2.2.2.1, u113.2.2.2.2.2.2.2.2.2.2.2, u115, T.2.2.2.2.2.2.2.2.2.2.2.2.2))) (va_runV (As := []) (rest := [.int r114]) ⟨hx, hb, hml, hown, hts⟩ (c_X8_reset l D cI cZ b _ T.2.2.2.2.2.2.2.2.2.2.2.2.1 _ h ) (cwV 0 hts (gV q_1390 q_1391 q_1392 q_75 q_1393) rfl rfl rfl (by decide +kernel) ⟨Nat.le_of_ble_eq_true rfl, Nat.le_of_ble_eq_true rfl⟩) (preV_of (ci := 7) (q := (RX8, TX8, 25)) hK hP hD [54, 55, 56, 57, 58, 59, 60, 61, 62, 63, 64, 65, 66, 67, 68, 69, 70, 71] rfl rfl (by decide) 54 rfl rfl) rfl rfl hl.1 rfl (lv_room (Nat.le_of_ble_eq_true rfl)) dL_law_658 ⟨(by show _ ≤ 1102; omega), (by show _ ≤ 16074; omega)⟩) hP hD hS hA [54, 55, 56, 57, 58, 59, 60, 61, 62, 63, 64, 65, 66, 67, 68, 69, 70, 71] [.inr 0, .inr 1, .inr 2, .inr 3, .inr 4, .inr 5, .inr 6, .inr 7, .inr 8, .inr 9, .inr 10, .inr 11, .inr 12, .inr 13, .inr 14, .inr 15, .inr 16, .inr 17, .inr 18, .inr 19, .inr 20, .inr 21, .inr 22, .inr 23, .inr 24, .inr 25, .inr 26, .inr 27, .inr 28, .inr 29, .inr 30, .inr 31, .inr 32, .inr 33, .inr 34, .inr 35, .inr 36, .inr 37, .inr 38, .inr 39, .inr 40, .inr 41, .inr 42, .inr 43, .inr 44, .inr 45, .inr 46, .inr 47, .inr 48, .inr 49, .inr 50, .inr 51, .inr 52, .inr 53, .inl 0, .inl 1, .inl 2, .inl 3, .inl 4, .inl 5, .inl 6, .inl 7, .inl 8, .inl 9, .inl 10, .inl 11, .inl 12, .inl 13, .inl 14, .inl 15, .inl 16, .inl 17, .inr 72] rfl (by decide) (fun _ => rfl) (fun _ => rfl) (fun r116 u115 H locs h hP hD hS => ?_)
  refine lv_icmp_eq (tgt := 1430) hx hb dL_law_661 (by decide) (fun c117 => ?_) (fun c117 => ?_)
  · have h := h.1 c117
    refine W.widen (k := cn + 1) (n := sn + 6) (by omega) (by omega) ?_
    obtain ⟨x118, ex118⟩ : ∃ y : Int32, y = (y4 + 4) := ⟨_, rfl⟩
    have h := h x118 ex118
    refine lv_iinc (v := x118) (lv' := [(4, .int x118), (0, .ref sb), (1, .ref (a 0)), (2, .ref (b 0)), (3, .ref o)]) hx hb dL_law_1430 hl (k := 4) rfl (by rw [ex118]; rfl) (by decide) rfl (fun ls hl => ?_)
    refine lv_goto (tgt := 23) hx hb dL_law_1433 (by decide) ?_
    exact K23 x118 (u113.1, u113.2.1, u113.2.2.1, u113.2.2.2.1, u113.2.2.2.2.1, u113.2.2.2.2.2.1, u113.2.2.2.2.2.2.1, u113.2.2.2.2.2.2.2.1, u113.2.2.2.2.2.2.2.2.1, u113.2.2.2.2.2.2.2.2.2.1, u113.2.2.2.2.2.2.2.2.2.2.1, u113.2.2.2.2.2.2.2.2.2.2.2, u115, T.2.2.2.2.2.2.2.2.2.2.2.2.2) _ _ _ hP hD hS (lv_sub hl [1, 2, 3, 4, 0] rfl) h
  · have h := h.2 c117
    refine lv_iconst (v := 0) hx hb dL_law_664 (by decide) ?_
    exact h.elim
set_option maxHeartbeats 4000000 in
set_option maxRecDepth 100000 in
theorem law_L666 {p : Program} {l : Launch} {e : Env} {s : State} {m : MethodId} {below : List Frame} {meth : Method} {c : Code} {D : va_G} {cI cZ cJ : ClassId} {a b : Nat → Nat} {o sb L : Nat} {xs : Nat → Int32} {A : Nat → Prop} (C0 : lawC p l s m meth c D cI cZ cJ sb L xs A) {cn sn : Nat} (hcn : cn + 1 ≤ 1102) (hsn : sn + 6 ≤ 16074) (k23 : Int32 → TLW → Prop) (K23 : ∀ (y4 : Int32) (T : TLW) (H : Heap) (locs : List Loc) (ls : Array Slot), va_P D vwCl (wLAW cI cZ a b cJ o T) H → va_D A (wLAW cI cZ a b cJ o T) → va_S A s.heap H locs → lv_has ls 7 [(0, .ref sb), (1, .ref (a 0)), (2, .ref (b 0)), (3, .ref o), (4, .int y4)] → k23 y4 T → W p l e room_1 s m #[Value.ref sb] below meth c H locs (cn + 1) (sn + 6) (lw_Z below #[Value.ref sb] s) (F0 m 23 ls [])) : ∀ (y4 : Int32) (T : TLW) (H : Heap) (locs : List Loc) (ls : Array Slot), va_P D vwCl (wLAW cI cZ a b cJ o T) H → va_D A (wLAW cI cZ a b cJ o T) → va_S A s.heap H locs → lv_has ls 7 [(0, .ref sb), (1, .ref (a 0)), (2, .ref (b 0)), (3, .ref o), (4, .int y4)] → wp_law_L666 L xs k23 y4 T → W p l e room_1 s m #[Value.ref sb] below meth c H locs cn sn (lw_Z below #[Value.ref sb] s) (F0 m 666 ls []) := by
  obtain ⟨hst, hx, hb, hr, hlocks, hml, hown, hts, hX, hbl, hbA, hA, hAf, hKJ, hF, hXF⟩ := id C0
  have hK : va_K D vwCl (tyL cI cZ) s := hKJ.sub [0, 1] rfl
  have hml2 := hml
  intro y4 T H locs ls hP hD hS hl h
  unfold wp_law_L666 at h
  refine lv_aload_n hx hb dL_law_666 rfl (lv_at hl 1 rfl) ?_
  refine lv_aload_n hx hb dL_law_667 rfl (lv_at hl 0 rfl) ?_
  refine lv_iload hx hb dL_law_668 (lv_at hl 4 rfl) ?_
  refine lv_iconst (v := 1) hx hb dL_law_670 (by decide) ?_
  refine lv_iadd hx hb dL_law_671 ?_
  refine va_sld hx hb hX hbl hbA hS h.1 dL_law_672 ?_
  have h := h.2
  refine lv_aload_n hx hb dL_law_673 rfl (lv_at hl 3 rfl) ?_
  have hC674 : ([0, 1, 2, 3, 4, 5, 6, 7, 8, 9, 10, 11, 12, 13, 14, 15, 16, 17, 18, 19, 20, 21, 22, 23, 24, 25, 26, 27, 28, 29, 30, 31, 32, 33, 34, 35, 36, 37, 38, 39, 40, 41, 42, 43, 44, 45, 46, 47, 48, 49, 50, 51, 52, 53, 72] : List Nat).map (fun i => (wLAW cI cZ a b cJ o T)[i]?) = (wXL cI cZ cJ a o (T.1, T.2.1, T.2.2.1, T.2.2.2.1, T.2.2.2.2.1, T.2.2.2.2.2.1, T.2.2.2.2.2.2.1, T.2.2.2.2.2.2.2.1, T.2.2.2.2.2.2.2.2.1, T.2.2.2.2.2.2.2.2.2.1, T.2.2.2.2.2.2.2.2.2.2.1, T.2.2.2.2.2.2.2.2.2.2.2.1) T.2.2.2.2.2.2.2.2.2.2.2.2.2).map some := rfl
  have hFc := va_free (wc := (wXL cI cZ cJ a o (T.1, T.2.1, T.2.2.1, T.2.2.2.1, T.2.2.2.2.1, T.2.2.2.2.2.1, T.2.2.2.2.2.2.1, T.2.2.2.2.2.2.2.1, T.2.2.2.2.2.2.2.2.1, T.2.2.2.2.2.2.2.2.2.1, T.2.2.2.2.2.2.2.2.2.2.1, T.2.2.2.2.2.2.2.2.2.2.2.1) T.2.2.2.2.2.2.2.2.2.2.2.2.2)) hD hS hA [0, 1, 2, 3, 4, 5, 6, 7, 8, 9, 10, 11, 12, 13, 14, 15, 16, 17, 18, 19, 20, 21, 22, 23, 24, 25, 26, 27, 28, 29, 30, 31, 32, 33, 34, 35, 36, 37, 38, 39, 40, 41, 42, 43, 44, 45, 46, 47, 48, 49, 50, 51, 52, 53, 72] hC674
  refine vx_calli (S := TR7 × (Nat → Int64)) (SX := Unit) (px := fun _ => False) (BX := fun _ _ _ => True) (AX := A) (vx_ofF (vx_runSX (As := [.ref (a 0), .int (xs (Int32.toNatClampNeg (y4 + 1))), .ref o]) (rest := []) ⟨hx, hb, hml, hown, hts⟩ (c_L_reg l hst D cI cZ cJ a o _ (T.1, T.2.1, T.2.2.1, T.2.2.2.1, T.2.2.2.2.1, T.2.2.2.2.2.1, T.2.2.2.2.2.2.1, T.2.2.2.2.2.2.2.1, T.2.2.2.2.2.2.2.2.1, T.2.2.2.2.2.2.2.2.2.1, T.2.2.2.2.2.2.2.2.2.2.1, T.2.2.2.2.2.2.2.2.2.2.2.1) T.2.2.2.2.2.2.2.2.2.2.2.2.2 (xs (Int32.toNatClampNeg (y4 + 1))) _ h) (vx_cwSW 3 hts (gSW q_949 q_950 q_66 q_951) rfl rfl rfl (by decide +kernel) ⟨Nat.le_of_ble_eq_true rfl, Nat.le_of_ble_eq_true rfl⟩) (preLS_of hXF hS hA hKJ hP hD [0, 1, 2, 3, 4, 5, 6, 7, 8, 9, 10, 11, 12, 13, 14, 15, 16, 17, 18, 19, 20, 21, 22, 23, 24, 25, 26, 27, 28, 29, 30, 31, 32, 33, 34, 35, 36, 37, 38, 39, 40, 41, 42, 43, 44, 45, 46, 47, 48, 49, 50, 51, 52, 53, 72] hC674 rfl (by decide)) rfl rfl hl.1 rfl (lv_room (Nat.le_of_ble_eq_true rfl)) dL_law_674 ⟨(by show _ ≤ 1102; omega), (by show _ ≤ 16074; omega)⟩)) hS (fun q _ h => hFc q h) hFc (fun q _ h => h) (fun E ce q9 u t H1 locs1 ht hvm h hB hz1 hk1 hS hcell hv hcl => h.elim) (fun r120 uv t H1 locs1 ht hvm h hB hz1 hk1 hS1 => ?_)
  obtain ⟨u119, v121⟩ := uv
  obtain ⟨hP, hD⟩ := cl_goJ (w1 := wXL cI cZ cJ a o u119 v121) (ws' := (wLAW cI cZ a b cJ o (u119.1, u119.2.1, u119.2.2.1, u119.2.2.2.1, u119.2.2.2.2.1, u119.2.2.2.2.2.1, u119.2.2.2.2.2.2.1, u119.2.2.2.2.2.2.2.1, u119.2.2.2.2.2.2.2.2.1, u119.2.2.2.2.2.2.2.2.2.1, u119.2.2.2.2.2.2.2.2.2.2.1, u119.2.2.2.2.2.2.2.2.2.2.2, T.2.2.2.2.2.2.2.2.2.2.2.2.1, v121))) hP hD hS hA [0, 1, 2, 3, 4, 5, 6, 7, 8, 9, 10, 11, 12, 13, 14, 15, 16, 17, 18, 19, 20, 21, 22, 23, 24, 25, 26, 27, 28, 29, 30, 31, 32, 33, 34, 35, 36, 37, 38, 39, 40, 41, 42, 43, 44, 45, 46, 47, 48, 49, 50, 51, 52, 53, 72] [.inl 0, .inl 1, .inl 2, .inl 3, .inl 4, .inl 5, .inl 6, .inl 7, .inl 8, .inl 9, .inl 10, .inl 11, .inl 12, .inl 13, .inl 14, .inl 15, .inl 16, .inl 17, .inl 18, .inl 19, .inl 20, .inl 21, .inl 22, .inl 23, .inl 24, .inl 25, .inl 26, .inl 27, .inl 28, .inl 29, .inl 30, .inl 31, .inl 32, .inl 33, .inl 34, .inl 35, .inl 36, .inl 37, .inl 38, .inl 39, .inl 40, .inl 41, .inl 42, .inl 43, .inl 44, .inl 45, .inl 46, .inl 47, .inl 48, .inl 49, .inl 50, .inl 51, .inl 52, .inl 53, .inr 54, .inr 55, .inr 56, .inr 57, .inr 58, .inr 59, .inr 60, .inr 61, .inr 62, .inr 63, .inr 64, .inr 65, .inr 66, .inr 67, .inr 68, .inr 69, .inr 70, .inr 71, .inl 54] hC674 (by decide) rfl rfl ht hB hk1
  have hS := hS1
  generalize H1 = H at hP hS ⊢
  refine lv_istore (lv' := [(5, .int r120), (0, .ref sb), (1, .ref (a 0)), (2, .ref (b 0)), (3, .ref o), (4, .int y4)]) hx hb dL_law_677 hl (by decide) rfl (fun ls hl => ?_)
  refine lv_aload_n hx hb dL_law_679 rfl (lv_at hl 3 rfl) ?_
  refine lv_aload_n hx hb dL_law_680 rfl (lv_at hl 1 rfl) ?_
  refine lv_iload hx hb dL_law_681 (lv_at hl 5 rfl) ?_
  refine lv_iconst (v := 1) hx hb dL_law_683 (by decide) ?_
  refine lv_iadd hx hb dL_law_684 ?_
  refine va_sld hx hb hX hbl hbA hS h.1 dL_law_685 ?_
  have h := h.2
  refine cl_i (ws' := fun u122 => (wLAW cI cZ a b cJ o (u119.1, u119.2.1, u119.2.2.1, u119.2.2.2.1, u119.2.2.2.2.1, u119.2.2.2.2.2.1, u119.2.2.2.2.2.2.1, u119.2.2.2.2.2.2.2.1, u119.2.2.2.2.2.2.2.2.1, u119.2.2.2.2.2.2.2.2.2.1, u119.2.2.2.2.2.2.2.2.2.2.1, u119.2.2.2.2.2.2.2.2.2.2.2, u122, v121))) (va_runV (As := [.int (xs (Int32.toNatClampNeg (y4 + 1)))]) (rest := []) ⟨hx, hb, hml, hown, hts⟩ (c_X8_reg l D cI cZ b _ T.2.2.2.2.2.2.2.2.2.2.2.2.1 (xs (Int32.toNatClampNeg (y4 + 1))) _ h ) (cwV 1 hts (gV q_1394 q_1395 q_1396 q_75 q_1397) rfl rfl rfl (by decide +kernel) ⟨Nat.le_of_ble_eq_true rfl, Nat.le_of_ble_eq_true rfl⟩) (preV_of (ci := 7) (q := (RX8, TX8, 25)) hK hP hD [54, 55, 56, 57, 58, 59, 60, 61, 62, 63, 64, 65, 66, 67, 68, 69, 70, 71] rfl rfl (by decide) 54 rfl rfl) rfl rfl hl.1 rfl (lv_room (Nat.le_of_ble_eq_true rfl)) dL_law_686 ⟨(by show _ ≤ 1102; omega), (by show _ ≤ 16074; omega)⟩) hP hD hS hA [54, 55, 56, 57, 58, 59, 60, 61, 62, 63, 64, 65, 66, 67, 68, 69, 70, 71] [.inr 0, .inr 1, .inr 2, .inr 3, .inr 4, .inr 5, .inr 6, .inr 7, .inr 8, .inr 9, .inr 10, .inr 11, .inr 12, .inr 13, .inr 14, .inr 15, .inr 16, .inr 17, .inr 18, .inr 19, .inr 20, .inr 21, .inr 22, .inr 23, .inr 24, .inr 25, .inr 26, .inr 27, .inr 28, .inr 29, .inr 30, .inr 31, .inr 32, .inr 33, .inr 34, .inr 35, .inr 36, .inr 37, .inr 38, .inr 39, .inr 40, .inr 41, .inr 42, .inr 43, .inr 44, .inr 45, .inr 46, .inr 47, .inr 48, .inr 49, .inr 50, .inr 51, .inr 52, .inr 53, .inl 0, .inl 1, .inl 2, .inl 3, .inl 4, .inl 5, .inl 6, .inl 7, .inl 8, .inl 9, .inl 10, .inl 11, .inl 12, .inl 13, .inl 14, .inl 15, .inl 16, .inl 17, .inr 72] rfl (by decide) (fun _ => rfl) (fun _ => rfl) (fun r123 u122 H locs h hP hD hS => ?_)
  refine lv_istore (lv' := [(6, .int r123), (5, .int r120), (0, .ref sb), (1, .ref (a 0)), (2, .ref (b 0)), (3, .ref o), (4, .int y4)]) hx hb dL_law_689 hl (by decide) rfl (fun ls hl => ?_)
  refine lv_aload_n hx hb dL_law_691 rfl (lv_at hl 4 rfl) ?_
  refine cl_i (ws' := fun u124 => (wLAW cI cZ a b cJ o (u119.1, u119.2.1, u119.2.2.1, u119.2.2.2.1, u119.2.2.2.2.1, u119.2.2.2.2.2.1, u119.2.2.2.2.2.2.1, u119.2.2.2.2.2.2.2.1, u119.2.2.2.2.2.2.2.2.1, u119.2.2.2.2.2.2.2.2.2.1, u119.2.2.2.2.2.2.2.2.2.2.1, u119.2.2.2.2.2.2.2.2.2.2.2, u124, v121))) (va_runV (As := []) (rest := []) ⟨hx, hb, hml, hown, hts⟩ (c_X8_thrown l D cI cZ b _ u122 _ h ) (cwV 0 hts (gV q_1153 q_1154 q_1155 q_75 q_1156) rfl rfl rfl (by decide +kernel) ⟨Nat.le_of_ble_eq_true rfl, Nat.le_of_ble_eq_true rfl⟩) (preV_of (ci := 7) (q := (RX8, TX8, 25)) hK hP hD [54, 55, 56, 57, 58, 59, 60, 61, 62, 63, 64, 65, 66, 67, 68, 69, 70, 71] rfl rfl (by decide) 54 rfl rfl) rfl rfl hl.1 rfl (lv_room (Nat.le_of_ble_eq_true rfl)) dL_law_692 ⟨(by show _ ≤ 1102; omega), (by show _ ≤ 16074; omega)⟩) hP hD hS hA [54, 55, 56, 57, 58, 59, 60, 61, 62, 63, 64, 65, 66, 67, 68, 69, 70, 71] [.inr 0, .inr 1, .inr 2, .inr 3, .inr 4, .inr 5, .inr 6, .inr 7, .inr 8, .inr 9, .inr 10, .inr 11, .inr 12, .inr 13, .inr 14, .inr 15, .inr 16, .inr 17, .inr 18, .inr 19, .inr 20, .inr 21, .inr 22, .inr 23, .inr 24, .inr 25, .inr 26, .inr 27, .inr 28, .inr 29, .inr 30, .inr 31, .inr 32, .inr 33, .inr 34, .inr 35, .inr 36, .inr 37, .inr 38, .inr 39, .inr 40, .inr 41, .inr 42, .inr 43, .inr 44, .inr 45, .inr 46, .inr 47, .inr 48, .inr 49, .inr 50, .inr 51, .inr 52, .inr 53, .inl 0, .inl 1, .inl 2, .inl 3, .inl 4, .inl 5, .inl 6, .inl 7, .inl 8, .inl 9, .inl 10, .inl 11, .inl 12, .inl 13, .inl 14, .inl 15, .inl 16, .inl 17, .inr 72] rfl (by decide) (fun _ => rfl) (fun _ => rfl) (fun r125 u124 H locs h hP hD hS => ?_)
  refine lv_iload hx hb dL_law_695 (lv_at hl 1 rfl) ?_
  refine lv_icmp_eq (tgt := 702) hx hb dL_law_697 (by decide) (fun c126 => ?_) (fun c126 => ?_)
  · have h := h.1 c126
    refine lv_iload hx hb dL_law_702 (lv_at hl 1 rfl) ?_
    refine lv_if_ne (tgt := 719) hx hb dL_law_704 (by decide) (fun c127 => ?_) (fun c127 => ?_)
    · have h := h.1 c127
      refine lv_goto (tgt := 1430) hx hb dL_law_719 (by decide) ?_
      refine W.widen (k := cn + 1) (n := sn + 6) (by omega) (by omega) ?_
      obtain ⟨x128, ex128⟩ : ∃ y : Int32, y = (y4 + 4) := ⟨_, rfl⟩
      have h := h x128 ex128
      refine lv_iinc (v := x128) (lv' := [(4, .int x128), (6, .int r123), (5, .int r120), (0, .ref sb), (1, .ref (a 0)), (2, .ref (b 0)), (3, .ref o)]) hx hb dL_law_1430 hl (k := 6) rfl (by rw [ex128]; rfl) (by decide) rfl (fun ls hl => ?_)
      refine lv_goto (tgt := 23) hx hb dL_law_1433 (by decide) ?_
      exact K23 x128 (u119.1, u119.2.1, u119.2.2.1, u119.2.2.2.1, u119.2.2.2.2.1, u119.2.2.2.2.2.1, u119.2.2.2.2.2.2.1, u119.2.2.2.2.2.2.2.1, u119.2.2.2.2.2.2.2.2.1, u119.2.2.2.2.2.2.2.2.2.1, u119.2.2.2.2.2.2.2.2.2.2.1, u119.2.2.2.2.2.2.2.2.2.2.2, u124, v121) _ _ _ hP hD hS (lv_sub hl [3, 4, 5, 6, 0] rfl) h
    · have h := h.2 c127
      refine lv_aload_n hx hb dL_law_707 rfl (lv_at hl 5 rfl) ?_
      refine lv_iconst (v := 0) hx hb dL_law_708 (by decide) ?_
      refine va_lald (i := 0) hx hb hKJ hP 72 2 rfl rfl (okLit (by decide)) dL_law_709 ?_
      show W p l e room_1 s m #[Value.ref sb] below meth c _ _ _ _ _ (F0 m 710 ls (.long (v121 0) :: []))
      refine lv_iload hx hb dL_law_710 (lv_at hl 0 rfl) ?_
      refine lv_i2l (v := (Int32.toInt64 r123)) hx hb dL_law_712 rfl ?_
      refine W.lcmp hx hb dL_law_713 ?_
      refine lv_if_eq (tgt := 719) hx hb dL_law_714 (by decide) (fun c129 => ?_) (fun c129 => ?_)
      · have h := h.1 c129
        refine lv_goto (tgt := 1430) hx hb dL_law_719 (by decide) ?_
        refine W.widen (k := cn + 1) (n := sn + 6) (by omega) (by omega) ?_
        obtain ⟨x130, ex130⟩ : ∃ y : Int32, y = (y4 + 4) := ⟨_, rfl⟩
        have h := h x130 ex130
        refine lv_iinc (v := x130) (lv' := [(4, .int x130), (6, .int r123), (5, .int r120), (0, .ref sb), (1, .ref (a 0)), (2, .ref (b 0)), (3, .ref o)]) hx hb dL_law_1430 hl (k := 6) rfl (by rw [ex130]; rfl) (by decide) rfl (fun ls hl => ?_)
        refine lv_goto (tgt := 23) hx hb dL_law_1433 (by decide) ?_
        exact K23 x130 (u119.1, u119.2.1, u119.2.2.1, u119.2.2.2.1, u119.2.2.2.2.1, u119.2.2.2.2.2.1, u119.2.2.2.2.2.2.1, u119.2.2.2.2.2.2.2.1, u119.2.2.2.2.2.2.2.2.1, u119.2.2.2.2.2.2.2.2.2.1, u119.2.2.2.2.2.2.2.2.2.2.1, u119.2.2.2.2.2.2.2.2.2.2.2, u124, v121) _ _ _ hP hD hS (lv_sub hl [3, 4, 5, 6, 0] rfl) h
      · have h := h.2 c129
        refine lv_iconst (v := 0) hx hb dL_law_717 (by decide) ?_
        exact h.elim
  · have h := h.2 c126
    refine lv_iconst (v := 0) hx hb dL_law_700 (by decide) ?_
    exact h.elim
set_option maxHeartbeats 4000000 in
set_option maxRecDepth 100000 in
theorem law_L722 {p : Program} {l : Launch} {e : Env} {s : State} {m : MethodId} {below : List Frame} {meth : Method} {c : Code} {D : va_G} {cI cZ cJ : ClassId} {a b : Nat → Nat} {o sb L : Nat} {xs : Nat → Int32} {A : Nat → Prop} (C0 : lawC p l s m meth c D cI cZ cJ sb L xs A) {cn sn : Nat} (hcn : cn + 1 ≤ 1102) (hsn : sn + 6 ≤ 16074) (k23 : Int32 → TLW → Prop) (K23 : ∀ (y4 : Int32) (T : TLW) (H : Heap) (locs : List Loc) (ls : Array Slot), va_P D vwCl (wLAW cI cZ a b cJ o T) H → va_D A (wLAW cI cZ a b cJ o T) → va_S A s.heap H locs → lv_has ls 7 [(0, .ref sb), (1, .ref (a 0)), (2, .ref (b 0)), (3, .ref o), (4, .int y4)] → k23 y4 T → W p l e room_1 s m #[Value.ref sb] below meth c H locs (cn + 1) (sn + 6) (lw_Z below #[Value.ref sb] s) (F0 m 23 ls [])) : ∀ (y4 : Int32) (T : TLW) (H : Heap) (locs : List Loc) (ls : Array Slot), va_P D vwCl (wLAW cI cZ a b cJ o T) H → va_D A (wLAW cI cZ a b cJ o T) → va_S A s.heap H locs → lv_has ls 7 [(0, .ref sb), (1, .ref (a 0)), (2, .ref (b 0)), (3, .ref o), (4, .int y4)] → wp_law_L722 L xs k23 y4 T → W p l e room_1 s m #[Value.ref sb] below meth c H locs cn sn (lw_Z below #[Value.ref sb] s) (F0 m 722 ls []) := by
  obtain ⟨hst, hx, hb, hr, hlocks, hml, hown, hts, hX, hbl, hbA, hA, hAf, hKJ, hF, hXF⟩ := id C0
  have hK : va_K D vwCl (tyL cI cZ) s := hKJ.sub [0, 1] rfl
  have hml2 := hml
  intro y4 T H locs ls hP hD hS hl h
  unfold wp_law_L722 at h
  refine lv_aload_n hx hb dL_law_722 rfl (lv_at hl 1 rfl) ?_
  refine lv_aload_n hx hb dL_law_723 rfl (lv_at hl 0 rfl) ?_
  refine lv_iload hx hb dL_law_724 (lv_at hl 4 rfl) ?_
  refine lv_iconst (v := 1) hx hb dL_law_726 (by decide) ?_
  refine lv_iadd hx hb dL_law_727 ?_
  refine va_sld hx hb hX hbl hbA hS h.1 dL_law_728 ?_
  have h := h.2
  refine lv_aload_n hx hb dL_law_729 rfl (lv_at hl 3 rfl) ?_
  have hC730 : ([0, 1, 2, 3, 4, 5, 6, 7, 8, 9, 10, 11, 12, 13, 14, 15, 16, 17, 18, 19, 20, 21, 22, 23, 24, 25, 26, 27, 28, 29, 30, 31, 32, 33, 34, 35, 36, 37, 38, 39, 40, 41, 42, 43, 44, 45, 46, 47, 48, 49, 50, 51, 52, 53, 72] : List Nat).map (fun i => (wLAW cI cZ a b cJ o T)[i]?) = (wXL cI cZ cJ a o (T.1, T.2.1, T.2.2.1, T.2.2.2.1, T.2.2.2.2.1, T.2.2.2.2.2.1, T.2.2.2.2.2.2.1, T.2.2.2.2.2.2.2.1, T.2.2.2.2.2.2.2.2.1, T.2.2.2.2.2.2.2.2.2.1, T.2.2.2.2.2.2.2.2.2.2.1, T.2.2.2.2.2.2.2.2.2.2.2.1) T.2.2.2.2.2.2.2.2.2.2.2.2.2).map some := rfl
  have hFc := va_free (wc := (wXL cI cZ cJ a o (T.1, T.2.1, T.2.2.1, T.2.2.2.1, T.2.2.2.2.1, T.2.2.2.2.2.1, T.2.2.2.2.2.2.1, T.2.2.2.2.2.2.2.1, T.2.2.2.2.2.2.2.2.1, T.2.2.2.2.2.2.2.2.2.1, T.2.2.2.2.2.2.2.2.2.2.1, T.2.2.2.2.2.2.2.2.2.2.2.1) T.2.2.2.2.2.2.2.2.2.2.2.2.2)) hD hS hA [0, 1, 2, 3, 4, 5, 6, 7, 8, 9, 10, 11, 12, 13, 14, 15, 16, 17, 18, 19, 20, 21, 22, 23, 24, 25, 26, 27, 28, 29, 30, 31, 32, 33, 34, 35, 36, 37, 38, 39, 40, 41, 42, 43, 44, 45, 46, 47, 48, 49, 50, 51, 52, 53, 72] hC730
  refine vx_calli (S := TR7 × (Nat → Int64)) (SX := Unit) (px := fun _ => False) (BX := fun _ _ _ => True) (AX := A) (vx_ofF (vx_runSX (As := [.ref (a 0), .int (xs (Int32.toNatClampNeg (y4 + 1))), .ref o]) (rest := []) ⟨hx, hb, hml, hown, hts⟩ (c_L_word l hst D cI cZ cJ a o _ (T.1, T.2.1, T.2.2.1, T.2.2.2.1, T.2.2.2.2.1, T.2.2.2.2.2.1, T.2.2.2.2.2.2.1, T.2.2.2.2.2.2.2.1, T.2.2.2.2.2.2.2.2.1, T.2.2.2.2.2.2.2.2.2.1, T.2.2.2.2.2.2.2.2.2.2.1, T.2.2.2.2.2.2.2.2.2.2.2.1) T.2.2.2.2.2.2.2.2.2.2.2.2.2 (xs (Int32.toNatClampNeg (y4 + 1))) _ h) (vx_cwSW 3 hts (gSW q_1019 q_1020 q_66 q_1021) rfl rfl rfl (by decide +kernel) ⟨Nat.le_of_ble_eq_true rfl, Nat.le_of_ble_eq_true rfl⟩) (preLS_of hXF hS hA hKJ hP hD [0, 1, 2, 3, 4, 5, 6, 7, 8, 9, 10, 11, 12, 13, 14, 15, 16, 17, 18, 19, 20, 21, 22, 23, 24, 25, 26, 27, 28, 29, 30, 31, 32, 33, 34, 35, 36, 37, 38, 39, 40, 41, 42, 43, 44, 45, 46, 47, 48, 49, 50, 51, 52, 53, 72] hC730 rfl (by decide)) rfl rfl hl.1 rfl (lv_room (Nat.le_of_ble_eq_true rfl)) dL_law_730 ⟨(by show _ ≤ 1102; omega), (by show _ ≤ 16074; omega)⟩)) hS (fun q _ h => hFc q h) hFc (fun q _ h => h) (fun E ce q9 u t H1 locs1 ht hvm h hB hz1 hk1 hS hcell hv hcl => h.elim) (fun r132 uv t H1 locs1 ht hvm h hB hz1 hk1 hS1 => ?_)
  obtain ⟨u131, v133⟩ := uv
  obtain ⟨hP, hD⟩ := cl_goJ (w1 := wXL cI cZ cJ a o u131 v133) (ws' := (wLAW cI cZ a b cJ o (u131.1, u131.2.1, u131.2.2.1, u131.2.2.2.1, u131.2.2.2.2.1, u131.2.2.2.2.2.1, u131.2.2.2.2.2.2.1, u131.2.2.2.2.2.2.2.1, u131.2.2.2.2.2.2.2.2.1, u131.2.2.2.2.2.2.2.2.2.1, u131.2.2.2.2.2.2.2.2.2.2.1, u131.2.2.2.2.2.2.2.2.2.2.2, T.2.2.2.2.2.2.2.2.2.2.2.2.1, v133))) hP hD hS hA [0, 1, 2, 3, 4, 5, 6, 7, 8, 9, 10, 11, 12, 13, 14, 15, 16, 17, 18, 19, 20, 21, 22, 23, 24, 25, 26, 27, 28, 29, 30, 31, 32, 33, 34, 35, 36, 37, 38, 39, 40, 41, 42, 43, 44, 45, 46, 47, 48, 49, 50, 51, 52, 53, 72] [.inl 0, .inl 1, .inl 2, .inl 3, .inl 4, .inl 5, .inl 6, .inl 7, .inl 8, .inl 9, .inl 10, .inl 11, .inl 12, .inl 13, .inl 14, .inl 15, .inl 16, .inl 17, .inl 18, .inl 19, .inl 20, .inl 21, .inl 22, .inl 23, .inl 24, .inl 25, .inl 26, .inl 27, .inl 28, .inl 29, .inl 30, .inl 31, .inl 32, .inl 33, .inl 34, .inl 35, .inl 36, .inl 37, .inl 38, .inl 39, .inl 40, .inl 41, .inl 42, .inl 43, .inl 44, .inl 45, .inl 46, .inl 47, .inl 48, .inl 49, .inl 50, .inl 51, .inl 52, .inl 53, .inr 54, .inr 55, .inr 56, .inr 57, .inr 58, .inr 59, .inr 60, .inr 61, .inr 62, .inr 63, .inr 64, .inr 65, .inr 66, .inr 67, .inr 68, .inr 69, .inr 70, .inr 71, .inl 54] hC730 (by decide) rfl rfl ht hB hk1
  have hS := hS1
  generalize H1 = H at hP hS ⊢
  refine lv_istore (lv' := [(5, .int r132), (0, .ref sb), (1, .ref (a 0)), (2, .ref (b 0)), (3, .ref o), (4, .int y4)]) hx hb dL_law_733 hl (by decide) rfl (fun ls hl => ?_)
  refine lv_aload_n hx hb dL_law_735 rfl (lv_at hl 3 rfl) ?_
  refine lv_aload_n hx hb dL_law_736 rfl (lv_at hl 1 rfl) ?_
  refine lv_iload hx hb dL_law_737 (lv_at hl 5 rfl) ?_
  refine lv_iconst (v := 1) hx hb dL_law_739 (by decide) ?_
  refine lv_iadd hx hb dL_law_740 ?_
  refine va_sld hx hb hX hbl hbA hS h.1 dL_law_741 ?_
  have h := h.2
  refine cl_i (ws' := fun u134 => (wLAW cI cZ a b cJ o (u131.1, u131.2.1, u131.2.2.1, u131.2.2.2.1, u131.2.2.2.2.1, u131.2.2.2.2.2.1, u131.2.2.2.2.2.2.1, u131.2.2.2.2.2.2.2.1, u131.2.2.2.2.2.2.2.2.1, u131.2.2.2.2.2.2.2.2.2.1, u131.2.2.2.2.2.2.2.2.2.2.1, u131.2.2.2.2.2.2.2.2.2.2.2, u134, v133))) (va_runV (As := [.int (xs (Int32.toNatClampNeg (y4 + 1)))]) (rest := []) ⟨hx, hb, hml, hown, hts⟩ (c_X8_word l D cI cZ b _ T.2.2.2.2.2.2.2.2.2.2.2.2.1 (xs (Int32.toNatClampNeg (y4 + 1))) _ h ) (cwV 1 hts (gV q_1398 q_1399 q_1400 q_75 q_1401) rfl rfl rfl (by decide +kernel) ⟨Nat.le_of_ble_eq_true rfl, Nat.le_of_ble_eq_true rfl⟩) (preV_of (ci := 7) (q := (RX8, TX8, 25)) hK hP hD [54, 55, 56, 57, 58, 59, 60, 61, 62, 63, 64, 65, 66, 67, 68, 69, 70, 71] rfl rfl (by decide) 54 rfl rfl) rfl rfl hl.1 rfl (lv_room (Nat.le_of_ble_eq_true rfl)) dL_law_742 ⟨(by show _ ≤ 1102; omega), (by show _ ≤ 16074; omega)⟩) hP hD hS hA [54, 55, 56, 57, 58, 59, 60, 61, 62, 63, 64, 65, 66, 67, 68, 69, 70, 71] [.inr 0, .inr 1, .inr 2, .inr 3, .inr 4, .inr 5, .inr 6, .inr 7, .inr 8, .inr 9, .inr 10, .inr 11, .inr 12, .inr 13, .inr 14, .inr 15, .inr 16, .inr 17, .inr 18, .inr 19, .inr 20, .inr 21, .inr 22, .inr 23, .inr 24, .inr 25, .inr 26, .inr 27, .inr 28, .inr 29, .inr 30, .inr 31, .inr 32, .inr 33, .inr 34, .inr 35, .inr 36, .inr 37, .inr 38, .inr 39, .inr 40, .inr 41, .inr 42, .inr 43, .inr 44, .inr 45, .inr 46, .inr 47, .inr 48, .inr 49, .inr 50, .inr 51, .inr 52, .inr 53, .inl 0, .inl 1, .inl 2, .inl 3, .inl 4, .inl 5, .inl 6, .inl 7, .inl 8, .inl 9, .inl 10, .inl 11, .inl 12, .inl 13, .inl 14, .inl 15, .inl 16, .inl 17, .inr 72] rfl (by decide) (fun _ => rfl) (fun _ => rfl) (fun r135 u134 H locs h hP hD hS => ?_)
  refine lv_istore (lv' := [(6, .int r135), (5, .int r132), (0, .ref sb), (1, .ref (a 0)), (2, .ref (b 0)), (3, .ref o), (4, .int y4)]) hx hb dL_law_745 hl (by decide) rfl (fun ls hl => ?_)
  refine lv_aload_n hx hb dL_law_747 rfl (lv_at hl 4 rfl) ?_
  refine cl_i (ws' := fun u136 => (wLAW cI cZ a b cJ o (u131.1, u131.2.1, u131.2.2.1, u131.2.2.2.1, u131.2.2.2.2.1, u131.2.2.2.2.2.1, u131.2.2.2.2.2.2.1, u131.2.2.2.2.2.2.2.1, u131.2.2.2.2.2.2.2.2.1, u131.2.2.2.2.2.2.2.2.2.1, u131.2.2.2.2.2.2.2.2.2.2.1, u131.2.2.2.2.2.2.2.2.2.2.2, u136, v133))) (va_runV (As := []) (rest := []) ⟨hx, hb, hml, hown, hts⟩ (c_X8_thrown l D cI cZ b _ u134 _ h ) (cwV 0 hts (gV q_1153 q_1154 q_1155 q_75 q_1156) rfl rfl rfl (by decide +kernel) ⟨Nat.le_of_ble_eq_true rfl, Nat.le_of_ble_eq_true rfl⟩) (preV_of (ci := 7) (q := (RX8, TX8, 25)) hK hP hD [54, 55, 56, 57, 58, 59, 60, 61, 62, 63, 64, 65, 66, 67, 68, 69, 70, 71] rfl rfl (by decide) 54 rfl rfl) rfl rfl hl.1 rfl (lv_room (Nat.le_of_ble_eq_true rfl)) dL_law_748 ⟨(by show _ ≤ 1102; omega), (by show _ ≤ 16074; omega)⟩) hP hD hS hA [54, 55, 56, 57, 58, 59, 60, 61, 62, 63, 64, 65, 66, 67, 68, 69, 70, 71] [.inr 0, .inr 1, .inr 2, .inr 3, .inr 4, .inr 5, .inr 6, .inr 7, .inr 8, .inr 9, .inr 10, .inr 11, .inr 12, .inr 13, .inr 14, .inr 15, .inr 16, .inr 17, .inr 18, .inr 19, .inr 20, .inr 21, .inr 22, .inr 23, .inr 24, .inr 25, .inr 26, .inr 27, .inr 28, .inr 29, .inr 30, .inr 31, .inr 32, .inr 33, .inr 34, .inr 35, .inr 36, .inr 37, .inr 38, .inr 39, .inr 40, .inr 41, .inr 42, .inr 43, .inr 44, .inr 45, .inr 46, .inr 47, .inr 48, .inr 49, .inr 50, .inr 51, .inr 52, .inr 53, .inl 0, .inl 1, .inl 2, .inl 3, .inl 4, .inl 5, .inl 6, .inl 7, .inl 8, .inl 9, .inl 10, .inl 11, .inl 12, .inl 13, .inl 14, .inl 15, .inl 16, .inl 17, .inr 72] rfl (by decide) (fun _ => rfl) (fun _ => rfl) (fun r137 u136 H locs h hP hD hS => ?_)
  refine lv_iload hx hb dL_law_751 (lv_at hl 1 rfl) ?_
  refine lv_icmp_eq (tgt := 758) hx hb dL_law_753 (by decide) (fun c138 => ?_) (fun c138 => ?_)
  · have h := h.1 c138
    refine lv_iload hx hb dL_law_758 (lv_at hl 1 rfl) ?_
    refine lv_if_ne (tgt := 775) hx hb dL_law_760 (by decide) (fun c139 => ?_) (fun c139 => ?_)
    · have h := h.1 c139
      refine lv_goto (tgt := 1430) hx hb dL_law_775 (by decide) ?_
      refine W.widen (k := cn + 1) (n := sn + 6) (by omega) (by omega) ?_
      obtain ⟨x140, ex140⟩ : ∃ y : Int32, y = (y4 + 4) := ⟨_, rfl⟩
      have h := h x140 ex140
      refine lv_iinc (v := x140) (lv' := [(4, .int x140), (6, .int r135), (5, .int r132), (0, .ref sb), (1, .ref (a 0)), (2, .ref (b 0)), (3, .ref o)]) hx hb dL_law_1430 hl (k := 6) rfl (by rw [ex140]; rfl) (by decide) rfl (fun ls hl => ?_)
      refine lv_goto (tgt := 23) hx hb dL_law_1433 (by decide) ?_
      exact K23 x140 (u131.1, u131.2.1, u131.2.2.1, u131.2.2.2.1, u131.2.2.2.2.1, u131.2.2.2.2.2.1, u131.2.2.2.2.2.2.1, u131.2.2.2.2.2.2.2.1, u131.2.2.2.2.2.2.2.2.1, u131.2.2.2.2.2.2.2.2.2.1, u131.2.2.2.2.2.2.2.2.2.2.1, u131.2.2.2.2.2.2.2.2.2.2.2, u136, v133) _ _ _ hP hD hS (lv_sub hl [3, 4, 5, 6, 0] rfl) h
    · have h := h.2 c139
      refine lv_aload_n hx hb dL_law_763 rfl (lv_at hl 5 rfl) ?_
      refine lv_iconst (v := 0) hx hb dL_law_764 (by decide) ?_
      refine va_lald (i := 0) hx hb hKJ hP 72 2 rfl rfl (okLit (by decide)) dL_law_765 ?_
      show W p l e room_1 s m #[Value.ref sb] below meth c _ _ _ _ _ (F0 m 766 ls (.long (v133 0) :: []))
      refine lv_iload hx hb dL_law_766 (lv_at hl 0 rfl) ?_
      refine lv_i2l (v := (Int32.toInt64 r135)) hx hb dL_law_768 rfl ?_
      refine W.lcmp hx hb dL_law_769 ?_
      refine lv_if_eq (tgt := 775) hx hb dL_law_770 (by decide) (fun c141 => ?_) (fun c141 => ?_)
      · have h := h.1 c141
        refine lv_goto (tgt := 1430) hx hb dL_law_775 (by decide) ?_
        refine W.widen (k := cn + 1) (n := sn + 6) (by omega) (by omega) ?_
        obtain ⟨x142, ex142⟩ : ∃ y : Int32, y = (y4 + 4) := ⟨_, rfl⟩
        have h := h x142 ex142
        refine lv_iinc (v := x142) (lv' := [(4, .int x142), (6, .int r135), (5, .int r132), (0, .ref sb), (1, .ref (a 0)), (2, .ref (b 0)), (3, .ref o)]) hx hb dL_law_1430 hl (k := 6) rfl (by rw [ex142]; rfl) (by decide) rfl (fun ls hl => ?_)
        refine lv_goto (tgt := 23) hx hb dL_law_1433 (by decide) ?_
        exact K23 x142 (u131.1, u131.2.1, u131.2.2.1, u131.2.2.2.1, u131.2.2.2.2.1, u131.2.2.2.2.2.1, u131.2.2.2.2.2.2.1, u131.2.2.2.2.2.2.2.1, u131.2.2.2.2.2.2.2.2.1, u131.2.2.2.2.2.2.2.2.2.1, u131.2.2.2.2.2.2.2.2.2.2.1, u131.2.2.2.2.2.2.2.2.2.2.2, u136, v133) _ _ _ hP hD hS (lv_sub hl [3, 4, 5, 6, 0] rfl) h
      · have h := h.2 c141
        refine lv_iconst (v := 0) hx hb dL_law_773 (by decide) ?_
        exact h.elim
  · have h := h.2 c138
    refine lv_iconst (v := 0) hx hb dL_law_756 (by decide) ?_
    exact h.elim
set_option maxHeartbeats 4000000 in
set_option maxRecDepth 100000 in
theorem law_L778 {p : Program} {l : Launch} {e : Env} {s : State} {m : MethodId} {below : List Frame} {meth : Method} {c : Code} {D : va_G} {cI cZ cJ : ClassId} {a b : Nat → Nat} {o sb L : Nat} {xs : Nat → Int32} {A : Nat → Prop} (C0 : lawC p l s m meth c D cI cZ cJ sb L xs A) {cn sn : Nat} (hcn : cn + 1 ≤ 1102) (hsn : sn + 6 ≤ 16074) (k23 : Int32 → TLW → Prop) (K23 : ∀ (y4 : Int32) (T : TLW) (H : Heap) (locs : List Loc) (ls : Array Slot), va_P D vwCl (wLAW cI cZ a b cJ o T) H → va_D A (wLAW cI cZ a b cJ o T) → va_S A s.heap H locs → lv_has ls 7 [(0, .ref sb), (1, .ref (a 0)), (2, .ref (b 0)), (3, .ref o), (4, .int y4)] → k23 y4 T → W p l e room_1 s m #[Value.ref sb] below meth c H locs (cn + 1) (sn + 6) (lw_Z below #[Value.ref sb] s) (F0 m 23 ls [])) : ∀ (y4 : Int32) (T : TLW) (H : Heap) (locs : List Loc) (ls : Array Slot), va_P D vwCl (wLAW cI cZ a b cJ o T) H → va_D A (wLAW cI cZ a b cJ o T) → va_S A s.heap H locs → lv_has ls 7 [(0, .ref sb), (1, .ref (a 0)), (2, .ref (b 0)), (3, .ref o), (4, .int y4)] → wp_law_L778 L xs k23 y4 T → W p l e room_1 s m #[Value.ref sb] below meth c H locs cn sn (lw_Z below #[Value.ref sb] s) (F0 m 778 ls []) := by
  obtain ⟨hst, hx, hb, hr, hlocks, hml, hown, hts, hX, hbl, hbA, hA, hAf, hKJ, hF, hXF⟩ := id C0
  have hK : va_K D vwCl (tyL cI cZ) s := hKJ.sub [0, 1] rfl
  have hml2 := hml
  intro y4 T H locs ls hP hD hS hl h
  unfold wp_law_L778 at h
  refine lv_aload_n hx hb dL_law_778 rfl (lv_at hl 1 rfl) ?_
  refine lv_aload_n hx hb dL_law_779 rfl (lv_at hl 0 rfl) ?_
  refine lv_iload hx hb dL_law_780 (lv_at hl 4 rfl) ?_
  refine lv_iconst (v := 1) hx hb dL_law_782 (by decide) ?_
  refine lv_iadd hx hb dL_law_783 ?_
  refine va_sld hx hb hX hbl hbA hS h.1 dL_law_784 ?_
  have h := h.2
  refine lv_aload_n hx hb dL_law_785 rfl (lv_at hl 3 rfl) ?_
  have hC786 : ([0, 1, 2, 3, 4, 5, 6, 7, 8, 9, 10, 11, 12, 13, 14, 15, 16, 17, 18, 19, 20, 21, 22, 23, 24, 25, 26, 27, 28, 29, 30, 31, 32, 33, 34, 35, 36, 37, 38, 39, 40, 41, 42, 43, 44, 45, 46, 47, 48, 49, 50, 51, 52, 53, 72] : List Nat).map (fun i => (wLAW cI cZ a b cJ o T)[i]?) = (wXL cI cZ cJ a o (T.1, T.2.1, T.2.2.1, T.2.2.2.1, T.2.2.2.2.1, T.2.2.2.2.2.1, T.2.2.2.2.2.2.1, T.2.2.2.2.2.2.2.1, T.2.2.2.2.2.2.2.2.1, T.2.2.2.2.2.2.2.2.2.1, T.2.2.2.2.2.2.2.2.2.2.1, T.2.2.2.2.2.2.2.2.2.2.2.1) T.2.2.2.2.2.2.2.2.2.2.2.2.2).map some := rfl
  have hFc := va_free (wc := (wXL cI cZ cJ a o (T.1, T.2.1, T.2.2.1, T.2.2.2.1, T.2.2.2.2.1, T.2.2.2.2.2.1, T.2.2.2.2.2.2.1, T.2.2.2.2.2.2.2.1, T.2.2.2.2.2.2.2.2.1, T.2.2.2.2.2.2.2.2.2.1, T.2.2.2.2.2.2.2.2.2.2.1, T.2.2.2.2.2.2.2.2.2.2.2.1) T.2.2.2.2.2.2.2.2.2.2.2.2.2)) hD hS hA [0, 1, 2, 3, 4, 5, 6, 7, 8, 9, 10, 11, 12, 13, 14, 15, 16, 17, 18, 19, 20, 21, 22, 23, 24, 25, 26, 27, 28, 29, 30, 31, 32, 33, 34, 35, 36, 37, 38, 39, 40, 41, 42, 43, 44, 45, 46, 47, 48, 49, 50, 51, 52, 53, 72] hC786
  refine vx_calli (S := TR7 × (Nat → Int64)) (SX := Unit) (px := fun _ => False) (BX := fun _ _ _ => True) (AX := A) (vx_ofF (vx_runSX (As := [.ref (a 0), .int (xs (Int32.toNatClampNeg (y4 + 1))), .ref o]) (rest := []) ⟨hx, hb, hml, hown, hts⟩ (c_L_data l hst D cI cZ cJ a o _ (T.1, T.2.1, T.2.2.1, T.2.2.2.1, T.2.2.2.2.1, T.2.2.2.2.2.1, T.2.2.2.2.2.2.1, T.2.2.2.2.2.2.2.1, T.2.2.2.2.2.2.2.2.1, T.2.2.2.2.2.2.2.2.2.1, T.2.2.2.2.2.2.2.2.2.2.1, T.2.2.2.2.2.2.2.2.2.2.2.1) T.2.2.2.2.2.2.2.2.2.2.2.2.2 (xs (Int32.toNatClampNeg (y4 + 1))) _ h) (vx_cwSW 3 hts (gSW q_1042 q_1043 q_66 q_1044) rfl rfl rfl (by decide +kernel) ⟨Nat.le_of_ble_eq_true rfl, Nat.le_of_ble_eq_true rfl⟩) (preLS_of hXF hS hA hKJ hP hD [0, 1, 2, 3, 4, 5, 6, 7, 8, 9, 10, 11, 12, 13, 14, 15, 16, 17, 18, 19, 20, 21, 22, 23, 24, 25, 26, 27, 28, 29, 30, 31, 32, 33, 34, 35, 36, 37, 38, 39, 40, 41, 42, 43, 44, 45, 46, 47, 48, 49, 50, 51, 52, 53, 72] hC786 rfl (by decide)) rfl rfl hl.1 rfl (lv_room (Nat.le_of_ble_eq_true rfl)) dL_law_786 ⟨(by show _ ≤ 1102; omega), (by show _ ≤ 16074; omega)⟩)) hS (fun q _ h => hFc q h) hFc (fun q _ h => h) (fun E ce q9 u t H1 locs1 ht hvm h hB hz1 hk1 hS hcell hv hcl => h.elim) (fun r144 uv t H1 locs1 ht hvm h hB hz1 hk1 hS1 => ?_)
  obtain ⟨u143, v145⟩ := uv
  obtain ⟨hP, hD⟩ := cl_goJ (w1 := wXL cI cZ cJ a o u143 v145) (ws' := (wLAW cI cZ a b cJ o (u143.1, u143.2.1, u143.2.2.1, u143.2.2.2.1, u143.2.2.2.2.1, u143.2.2.2.2.2.1, u143.2.2.2.2.2.2.1, u143.2.2.2.2.2.2.2.1, u143.2.2.2.2.2.2.2.2.1, u143.2.2.2.2.2.2.2.2.2.1, u143.2.2.2.2.2.2.2.2.2.2.1, u143.2.2.2.2.2.2.2.2.2.2.2, T.2.2.2.2.2.2.2.2.2.2.2.2.1, v145))) hP hD hS hA [0, 1, 2, 3, 4, 5, 6, 7, 8, 9, 10, 11, 12, 13, 14, 15, 16, 17, 18, 19, 20, 21, 22, 23, 24, 25, 26, 27, 28, 29, 30, 31, 32, 33, 34, 35, 36, 37, 38, 39, 40, 41, 42, 43, 44, 45, 46, 47, 48, 49, 50, 51, 52, 53, 72] [.inl 0, .inl 1, .inl 2, .inl 3, .inl 4, .inl 5, .inl 6, .inl 7, .inl 8, .inl 9, .inl 10, .inl 11, .inl 12, .inl 13, .inl 14, .inl 15, .inl 16, .inl 17, .inl 18, .inl 19, .inl 20, .inl 21, .inl 22, .inl 23, .inl 24, .inl 25, .inl 26, .inl 27, .inl 28, .inl 29, .inl 30, .inl 31, .inl 32, .inl 33, .inl 34, .inl 35, .inl 36, .inl 37, .inl 38, .inl 39, .inl 40, .inl 41, .inl 42, .inl 43, .inl 44, .inl 45, .inl 46, .inl 47, .inl 48, .inl 49, .inl 50, .inl 51, .inl 52, .inl 53, .inr 54, .inr 55, .inr 56, .inr 57, .inr 58, .inr 59, .inr 60, .inr 61, .inr 62, .inr 63, .inr 64, .inr 65, .inr 66, .inr 67, .inr 68, .inr 69, .inr 70, .inr 71, .inl 54] hC786 (by decide) rfl rfl ht hB hk1
  have hS := hS1
  generalize H1 = H at hP hS ⊢
  refine lv_istore (lv' := [(5, .int r144), (0, .ref sb), (1, .ref (a 0)), (2, .ref (b 0)), (3, .ref o), (4, .int y4)]) hx hb dL_law_789 hl (by decide) rfl (fun ls hl => ?_)
  refine lv_aload_n hx hb dL_law_791 rfl (lv_at hl 3 rfl) ?_
  refine lv_aload_n hx hb dL_law_792 rfl (lv_at hl 1 rfl) ?_
  refine lv_iload hx hb dL_law_793 (lv_at hl 5 rfl) ?_
  refine lv_iconst (v := 1) hx hb dL_law_795 (by decide) ?_
  refine lv_iadd hx hb dL_law_796 ?_
  refine va_sld hx hb hX hbl hbA hS h.1 dL_law_797 ?_
  have h := h.2
  refine cl_i (ws' := fun u146 => (wLAW cI cZ a b cJ o (u143.1, u143.2.1, u143.2.2.1, u143.2.2.2.1, u143.2.2.2.2.1, u143.2.2.2.2.2.1, u143.2.2.2.2.2.2.1, u143.2.2.2.2.2.2.2.1, u143.2.2.2.2.2.2.2.2.1, u143.2.2.2.2.2.2.2.2.2.1, u143.2.2.2.2.2.2.2.2.2.2.1, u143.2.2.2.2.2.2.2.2.2.2.2, u146, v145))) (va_runV (As := [.int (xs (Int32.toNatClampNeg (y4 + 1)))]) (rest := []) ⟨hx, hb, hml, hown, hts⟩ (c_X8_data l D cI cZ b _ T.2.2.2.2.2.2.2.2.2.2.2.2.1 (xs (Int32.toNatClampNeg (y4 + 1))) _ h ) (cwV 1 hts (gV q_1402 q_1403 q_1404 q_75 q_1405) rfl rfl rfl (by decide +kernel) ⟨Nat.le_of_ble_eq_true rfl, Nat.le_of_ble_eq_true rfl⟩) (preV_of (ci := 7) (q := (RX8, TX8, 25)) hK hP hD [54, 55, 56, 57, 58, 59, 60, 61, 62, 63, 64, 65, 66, 67, 68, 69, 70, 71] rfl rfl (by decide) 54 rfl rfl) rfl rfl hl.1 rfl (lv_room (Nat.le_of_ble_eq_true rfl)) dL_law_798 ⟨(by show _ ≤ 1102; omega), (by show _ ≤ 16074; omega)⟩) hP hD hS hA [54, 55, 56, 57, 58, 59, 60, 61, 62, 63, 64, 65, 66, 67, 68, 69, 70, 71] [.inr 0, .inr 1, .inr 2, .inr 3, .inr 4, .inr 5, .inr 6, .inr 7, .inr 8, .inr 9, .inr 10, .inr 11, .inr 12, .inr 13, .inr 14, .inr 15, .inr 16, .inr 17, .inr 18, .inr 19, .inr 20, .inr 21, .inr 22, .inr 23, .inr 24, .inr 25, .inr 26, .inr 27, .inr 28, .inr 29, .inr 30, .inr 31, .inr 32, .inr 33, .inr 34, .inr 35, .inr 36, .inr 37, .inr 38, .inr 39, .inr 40, .inr 41, .inr 42, .inr 43, .inr 44, .inr 45, .inr 46, .inr 47, .inr 48, .inr 49, .inr 50, .inr 51, .inr 52, .inr 53, .inl 0, .inl 1, .inl 2, .inl 3, .inl 4, .inl 5, .inl 6, .inl 7, .inl 8, .inl 9, .inl 10, .inl 11, .inl 12, .inl 13, .inl 14, .inl 15, .inl 16, .inl 17, .inr 72] rfl (by decide) (fun _ => rfl) (fun _ => rfl) (fun r147 u146 H locs h hP hD hS => ?_)
  refine lv_istore (lv' := [(6, .int r147), (5, .int r144), (0, .ref sb), (1, .ref (a 0)), (2, .ref (b 0)), (3, .ref o), (4, .int y4)]) hx hb dL_law_801 hl (by decide) rfl (fun ls hl => ?_)
  refine lv_aload_n hx hb dL_law_803 rfl (lv_at hl 4 rfl) ?_
  refine cl_i (ws' := fun u148 => (wLAW cI cZ a b cJ o (u143.1, u143.2.1, u143.2.2.1, u143.2.2.2.1, u143.2.2.2.2.1, u143.2.2.2.2.2.1, u143.2.2.2.2.2.2.1, u143.2.2.2.2.2.2.2.1, u143.2.2.2.2.2.2.2.2.1, u143.2.2.2.2.2.2.2.2.2.1, u143.2.2.2.2.2.2.2.2.2.2.1, u143.2.2.2.2.2.2.2.2.2.2.2, u148, v145))) (va_runV (As := []) (rest := []) ⟨hx, hb, hml, hown, hts⟩ (c_X8_thrown l D cI cZ b _ u146 _ h ) (cwV 0 hts (gV q_1153 q_1154 q_1155 q_75 q_1156) rfl rfl rfl (by decide +kernel) ⟨Nat.le_of_ble_eq_true rfl, Nat.le_of_ble_eq_true rfl⟩) (preV_of (ci := 7) (q := (RX8, TX8, 25)) hK hP hD [54, 55, 56, 57, 58, 59, 60, 61, 62, 63, 64, 65, 66, 67, 68, 69, 70, 71] rfl rfl (by decide) 54 rfl rfl) rfl rfl hl.1 rfl (lv_room (Nat.le_of_ble_eq_true rfl)) dL_law_804 ⟨(by show _ ≤ 1102; omega), (by show _ ≤ 16074; omega)⟩) hP hD hS hA [54, 55, 56, 57, 58, 59, 60, 61, 62, 63, 64, 65, 66, 67, 68, 69, 70, 71] [.inr 0, .inr 1, .inr 2, .inr 3, .inr 4, .inr 5, .inr 6, .inr 7, .inr 8, .inr 9, .inr 10, .inr 11, .inr 12, .inr 13, .inr 14, .inr 15, .inr 16, .inr 17, .inr 18, .inr 19, .inr 20, .inr 21, .inr 22, .inr 23, .inr 24, .inr 25, .inr 26, .inr 27, .inr 28, .inr 29, .inr 30, .inr 31, .inr 32, .inr 33, .inr 34, .inr 35, .inr 36, .inr 37, .inr 38, .inr 39, .inr 40, .inr 41, .inr 42, .inr 43, .inr 44, .inr 45, .inr 46, .inr 47, .inr 48, .inr 49, .inr 50, .inr 51, .inr 52, .inr 53, .inl 0, .inl 1, .inl 2, .inl 3, .inl 4, .inl 5, .inl 6, .inl 7, .inl 8, .inl 9, .inl 10, .inl 11, .inl 12, .inl 13, .inl 14, .inl 15, .inl 16, .inl 17, .inr 72] rfl (by decide) (fun _ => rfl) (fun _ => rfl) (fun r149 u148 H locs h hP hD hS => ?_)
  refine lv_iload hx hb dL_law_807 (lv_at hl 1 rfl) ?_
  refine lv_icmp_eq (tgt := 814) hx hb dL_law_809 (by decide) (fun c150 => ?_) (fun c150 => ?_)
  · have h := h.1 c150
    refine lv_iload hx hb dL_law_814 (lv_at hl 1 rfl) ?_
    refine lv_if_ne (tgt := 831) hx hb dL_law_816 (by decide) (fun c151 => ?_) (fun c151 => ?_)
    · have h := h.1 c151
      refine lv_goto (tgt := 1430) hx hb dL_law_831 (by decide) ?_
      refine W.widen (k := cn + 1) (n := sn + 6) (by omega) (by omega) ?_
      obtain ⟨x152, ex152⟩ : ∃ y : Int32, y = (y4 + 4) := ⟨_, rfl⟩
      have h := h x152 ex152
      refine lv_iinc (v := x152) (lv' := [(4, .int x152), (6, .int r147), (5, .int r144), (0, .ref sb), (1, .ref (a 0)), (2, .ref (b 0)), (3, .ref o)]) hx hb dL_law_1430 hl (k := 6) rfl (by rw [ex152]; rfl) (by decide) rfl (fun ls hl => ?_)
      refine lv_goto (tgt := 23) hx hb dL_law_1433 (by decide) ?_
      exact K23 x152 (u143.1, u143.2.1, u143.2.2.1, u143.2.2.2.1, u143.2.2.2.2.1, u143.2.2.2.2.2.1, u143.2.2.2.2.2.2.1, u143.2.2.2.2.2.2.2.1, u143.2.2.2.2.2.2.2.2.1, u143.2.2.2.2.2.2.2.2.2.1, u143.2.2.2.2.2.2.2.2.2.2.1, u143.2.2.2.2.2.2.2.2.2.2.2, u148, v145) _ _ _ hP hD hS (lv_sub hl [3, 4, 5, 6, 0] rfl) h
    · have h := h.2 c151
      refine lv_aload_n hx hb dL_law_819 rfl (lv_at hl 5 rfl) ?_
      refine lv_iconst (v := 0) hx hb dL_law_820 (by decide) ?_
      refine va_lald (i := 0) hx hb hKJ hP 72 2 rfl rfl (okLit (by decide)) dL_law_821 ?_
      show W p l e room_1 s m #[Value.ref sb] below meth c _ _ _ _ _ (F0 m 822 ls (.long (v145 0) :: []))
      refine lv_iload hx hb dL_law_822 (lv_at hl 0 rfl) ?_
      refine lv_i2l (v := (Int32.toInt64 r147)) hx hb dL_law_824 rfl ?_
      refine W.lcmp hx hb dL_law_825 ?_
      refine lv_if_eq (tgt := 831) hx hb dL_law_826 (by decide) (fun c153 => ?_) (fun c153 => ?_)
      · have h := h.1 c153
        refine lv_goto (tgt := 1430) hx hb dL_law_831 (by decide) ?_
        refine W.widen (k := cn + 1) (n := sn + 6) (by omega) (by omega) ?_
        obtain ⟨x154, ex154⟩ : ∃ y : Int32, y = (y4 + 4) := ⟨_, rfl⟩
        have h := h x154 ex154
        refine lv_iinc (v := x154) (lv' := [(4, .int x154), (6, .int r147), (5, .int r144), (0, .ref sb), (1, .ref (a 0)), (2, .ref (b 0)), (3, .ref o)]) hx hb dL_law_1430 hl (k := 6) rfl (by rw [ex154]; rfl) (by decide) rfl (fun ls hl => ?_)
        refine lv_goto (tgt := 23) hx hb dL_law_1433 (by decide) ?_
        exact K23 x154 (u143.1, u143.2.1, u143.2.2.1, u143.2.2.2.1, u143.2.2.2.2.1, u143.2.2.2.2.2.1, u143.2.2.2.2.2.2.1, u143.2.2.2.2.2.2.2.1, u143.2.2.2.2.2.2.2.2.1, u143.2.2.2.2.2.2.2.2.2.1, u143.2.2.2.2.2.2.2.2.2.2.1, u143.2.2.2.2.2.2.2.2.2.2.2, u148, v145) _ _ _ hP hD hS (lv_sub hl [3, 4, 5, 6, 0] rfl) h
      · have h := h.2 c153
        refine lv_iconst (v := 0) hx hb dL_law_829 (by decide) ?_
        exact h.elim
  · have h := h.2 c150
    refine lv_iconst (v := 0) hx hb dL_law_812 (by decide) ?_
    exact h.elim
set_option maxHeartbeats 4000000 in
set_option maxRecDepth 100000 in
theorem law_L834 {p : Program} {l : Launch} {e : Env} {s : State} {m : MethodId} {below : List Frame} {meth : Method} {c : Code} {D : va_G} {cI cZ cJ : ClassId} {a b : Nat → Nat} {o sb L : Nat} {xs : Nat → Int32} {A : Nat → Prop} (C0 : lawC p l s m meth c D cI cZ cJ sb L xs A) {cn sn : Nat} (hcn : cn + 1 ≤ 1102) (hsn : sn + 6 ≤ 16074) (k23 : Int32 → TLW → Prop) (K23 : ∀ (y4 : Int32) (T : TLW) (H : Heap) (locs : List Loc) (ls : Array Slot), va_P D vwCl (wLAW cI cZ a b cJ o T) H → va_D A (wLAW cI cZ a b cJ o T) → va_S A s.heap H locs → lv_has ls 7 [(0, .ref sb), (1, .ref (a 0)), (2, .ref (b 0)), (3, .ref o), (4, .int y4)] → k23 y4 T → W p l e room_1 s m #[Value.ref sb] below meth c H locs (cn + 1) (sn + 6) (lw_Z below #[Value.ref sb] s) (F0 m 23 ls [])) : ∀ (y4 : Int32) (T : TLW) (H : Heap) (locs : List Loc) (ls : Array Slot), va_P D vwCl (wLAW cI cZ a b cJ o T) H → va_D A (wLAW cI cZ a b cJ o T) → va_S A s.heap H locs → lv_has ls 7 [(0, .ref sb), (1, .ref (a 0)), (2, .ref (b 0)), (3, .ref o), (4, .int y4)] → wp_law_L834 L xs k23 y4 T → W p l e room_1 s m #[Value.ref sb] below meth c H locs cn sn (lw_Z below #[Value.ref sb] s) (F0 m 834 ls []) := by
  obtain ⟨hst, hx, hb, hr, hlocks, hml, hown, hts, hX, hbl, hbA, hA, hAf, hKJ, hF, hXF⟩ := id C0
  have hK : va_K D vwCl (tyL cI cZ) s := hKJ.sub [0, 1] rfl
  have hml2 := hml
  intro y4 T H locs ls hP hD hS hl h
  unfold wp_law_L834 at h
  refine lv_aload_n hx hb dL_law_834 rfl (lv_at hl 1 rfl) ?_
  refine lv_aload_n hx hb dL_law_835 rfl (lv_at hl 0 rfl) ?_
  refine lv_iload hx hb dL_law_836 (lv_at hl 4 rfl) ?_
  refine lv_iconst (v := 1) hx hb dL_law_838 (by decide) ?_
  refine lv_iadd hx hb dL_law_839 ?_
  refine va_sld hx hb hX hbl hbA hS h.1 dL_law_840 ?_
  have h := h.2
  refine lv_aload_n hx hb dL_law_841 rfl (lv_at hl 3 rfl) ?_
  have hC842 : ([0, 1, 2, 3, 4, 5, 6, 7, 8, 9, 10, 11, 12, 13, 14, 15, 16, 17, 18, 19, 20, 21, 22, 23, 24, 25, 26, 27, 28, 29, 30, 31, 32, 33, 34, 35, 36, 37, 38, 39, 40, 41, 42, 43, 44, 45, 46, 47, 48, 49, 50, 51, 52, 53, 72] : List Nat).map (fun i => (wLAW cI cZ a b cJ o T)[i]?) = (wXL cI cZ cJ a o (T.1, T.2.1, T.2.2.1, T.2.2.2.1, T.2.2.2.2.1, T.2.2.2.2.2.1, T.2.2.2.2.2.2.1, T.2.2.2.2.2.2.2.1, T.2.2.2.2.2.2.2.2.1, T.2.2.2.2.2.2.2.2.2.1, T.2.2.2.2.2.2.2.2.2.2.1, T.2.2.2.2.2.2.2.2.2.2.2.1) T.2.2.2.2.2.2.2.2.2.2.2.2.2).map some := rfl
  have hFc := va_free (wc := (wXL cI cZ cJ a o (T.1, T.2.1, T.2.2.1, T.2.2.2.1, T.2.2.2.2.1, T.2.2.2.2.2.1, T.2.2.2.2.2.2.1, T.2.2.2.2.2.2.2.1, T.2.2.2.2.2.2.2.2.1, T.2.2.2.2.2.2.2.2.2.1, T.2.2.2.2.2.2.2.2.2.2.1, T.2.2.2.2.2.2.2.2.2.2.2.1) T.2.2.2.2.2.2.2.2.2.2.2.2.2)) hD hS hA [0, 1, 2, 3, 4, 5, 6, 7, 8, 9, 10, 11, 12, 13, 14, 15, 16, 17, 18, 19, 20, 21, 22, 23, 24, 25, 26, 27, 28, 29, 30, 31, 32, 33, 34, 35, 36, 37, 38, 39, 40, 41, 42, 43, 44, 45, 46, 47, 48, 49, 50, 51, 52, 53, 72] hC842
  refine vx_calli (S := TR7 × (Nat → Int64)) (SX := Unit) (px := fun _ => False) (BX := fun _ _ _ => True) (AX := A) (vx_ofF (vx_runSX (As := [.ref (a 0), .int (xs (Int32.toNatClampNeg (y4 + 1))), .ref o]) (rest := []) ⟨hx, hb, hml, hown, hts⟩ (c_L_out l hst D cI cZ cJ a o _ (T.1, T.2.1, T.2.2.1, T.2.2.2.1, T.2.2.2.2.1, T.2.2.2.2.2.1, T.2.2.2.2.2.2.1, T.2.2.2.2.2.2.2.1, T.2.2.2.2.2.2.2.2.1, T.2.2.2.2.2.2.2.2.2.1, T.2.2.2.2.2.2.2.2.2.2.1, T.2.2.2.2.2.2.2.2.2.2.2.1) T.2.2.2.2.2.2.2.2.2.2.2.2.2 (xs (Int32.toNatClampNeg (y4 + 1))) _ h) (vx_cwSW 3 hts (gSW q_1049 q_1050 q_66 q_1051) rfl rfl rfl (by decide +kernel) ⟨Nat.le_of_ble_eq_true rfl, Nat.le_of_ble_eq_true rfl⟩) (preLS_of hXF hS hA hKJ hP hD [0, 1, 2, 3, 4, 5, 6, 7, 8, 9, 10, 11, 12, 13, 14, 15, 16, 17, 18, 19, 20, 21, 22, 23, 24, 25, 26, 27, 28, 29, 30, 31, 32, 33, 34, 35, 36, 37, 38, 39, 40, 41, 42, 43, 44, 45, 46, 47, 48, 49, 50, 51, 52, 53, 72] hC842 rfl (by decide)) rfl rfl hl.1 rfl (lv_room (Nat.le_of_ble_eq_true rfl)) dL_law_842 ⟨(by show _ ≤ 1102; omega), (by show _ ≤ 16074; omega)⟩)) hS (fun q _ h => hFc q h) hFc (fun q _ h => h) (fun E ce q9 u t H1 locs1 ht hvm h hB hz1 hk1 hS hcell hv hcl => h.elim) (fun r156 uv t H1 locs1 ht hvm h hB hz1 hk1 hS1 => ?_)
  obtain ⟨u155, v157⟩ := uv
  obtain ⟨hP, hD⟩ := cl_goJ (w1 := wXL cI cZ cJ a o u155 v157) (ws' := (wLAW cI cZ a b cJ o (u155.1, u155.2.1, u155.2.2.1, u155.2.2.2.1, u155.2.2.2.2.1, u155.2.2.2.2.2.1, u155.2.2.2.2.2.2.1, u155.2.2.2.2.2.2.2.1, u155.2.2.2.2.2.2.2.2.1, u155.2.2.2.2.2.2.2.2.2.1, u155.2.2.2.2.2.2.2.2.2.2.1, u155.2.2.2.2.2.2.2.2.2.2.2, T.2.2.2.2.2.2.2.2.2.2.2.2.1, v157))) hP hD hS hA [0, 1, 2, 3, 4, 5, 6, 7, 8, 9, 10, 11, 12, 13, 14, 15, 16, 17, 18, 19, 20, 21, 22, 23, 24, 25, 26, 27, 28, 29, 30, 31, 32, 33, 34, 35, 36, 37, 38, 39, 40, 41, 42, 43, 44, 45, 46, 47, 48, 49, 50, 51, 52, 53, 72] [.inl 0, .inl 1, .inl 2, .inl 3, .inl 4, .inl 5, .inl 6, .inl 7, .inl 8, .inl 9, .inl 10, .inl 11, .inl 12, .inl 13, .inl 14, .inl 15, .inl 16, .inl 17, .inl 18, .inl 19, .inl 20, .inl 21, .inl 22, .inl 23, .inl 24, .inl 25, .inl 26, .inl 27, .inl 28, .inl 29, .inl 30, .inl 31, .inl 32, .inl 33, .inl 34, .inl 35, .inl 36, .inl 37, .inl 38, .inl 39, .inl 40, .inl 41, .inl 42, .inl 43, .inl 44, .inl 45, .inl 46, .inl 47, .inl 48, .inl 49, .inl 50, .inl 51, .inl 52, .inl 53, .inr 54, .inr 55, .inr 56, .inr 57, .inr 58, .inr 59, .inr 60, .inr 61, .inr 62, .inr 63, .inr 64, .inr 65, .inr 66, .inr 67, .inr 68, .inr 69, .inr 70, .inr 71, .inl 54] hC842 (by decide) rfl rfl ht hB hk1
  have hS := hS1
  generalize H1 = H at hP hS ⊢
  refine lv_istore (lv' := [(5, .int r156), (0, .ref sb), (1, .ref (a 0)), (2, .ref (b 0)), (3, .ref o), (4, .int y4)]) hx hb dL_law_845 hl (by decide) rfl (fun ls hl => ?_)
  refine lv_aload_n hx hb dL_law_847 rfl (lv_at hl 3 rfl) ?_
  refine lv_aload_n hx hb dL_law_848 rfl (lv_at hl 1 rfl) ?_
  refine lv_iload hx hb dL_law_849 (lv_at hl 5 rfl) ?_
  refine lv_iconst (v := 1) hx hb dL_law_851 (by decide) ?_
  refine lv_iadd hx hb dL_law_852 ?_
  refine va_sld hx hb hX hbl hbA hS h.1 dL_law_853 ?_
  have h := h.2
  refine cl_i (ws' := fun u158 => (wLAW cI cZ a b cJ o (u155.1, u155.2.1, u155.2.2.1, u155.2.2.2.1, u155.2.2.2.2.1, u155.2.2.2.2.2.1, u155.2.2.2.2.2.2.1, u155.2.2.2.2.2.2.2.1, u155.2.2.2.2.2.2.2.2.1, u155.2.2.2.2.2.2.2.2.2.1, u155.2.2.2.2.2.2.2.2.2.2.1, u155.2.2.2.2.2.2.2.2.2.2.2, u158, v157))) (va_runV (As := [.int (xs (Int32.toNatClampNeg (y4 + 1)))]) (rest := []) ⟨hx, hb, hml, hown, hts⟩ (c_X8_out l D cI cZ b _ T.2.2.2.2.2.2.2.2.2.2.2.2.1 (xs (Int32.toNatClampNeg (y4 + 1))) _ h ) (cwV 1 hts (gV q_1406 q_1407 q_1408 q_75 q_1409) rfl rfl rfl (by decide +kernel) ⟨Nat.le_of_ble_eq_true rfl, Nat.le_of_ble_eq_true rfl⟩) (preV_of (ci := 7) (q := (RX8, TX8, 25)) hK hP hD [54, 55, 56, 57, 58, 59, 60, 61, 62, 63, 64, 65, 66, 67, 68, 69, 70, 71] rfl rfl (by decide) 54 rfl rfl) rfl rfl hl.1 rfl (lv_room (Nat.le_of_ble_eq_true rfl)) dL_law_854 ⟨(by show _ ≤ 1102; omega), (by show _ ≤ 16074; omega)⟩) hP hD hS hA [54, 55, 56, 57, 58, 59, 60, 61, 62, 63, 64, 65, 66, 67, 68, 69, 70, 71] [.inr 0, .inr 1, .inr 2, .inr 3, .inr 4, .inr 5, .inr 6, .inr 7, .inr 8, .inr 9, .inr 10, .inr 11, .inr 12, .inr 13, .inr 14, .inr 15, .inr 16, .inr 17, .inr 18, .inr 19, .inr 20, .inr 21, .inr 22, .inr 23, .inr 24, .inr 25, .inr 26, .inr 27, .inr 28, .inr 29, .inr 30, .inr 31, .inr 32, .inr 33, .inr 34, .inr 35, .inr 36, .inr 37, .inr 38, .inr 39, .inr 40, .inr 41, .inr 42, .inr 43, .inr 44, .inr 45, .inr 46, .inr 47, .inr 48, .inr 49, .inr 50, .inr 51, .inr 52, .inr 53, .inl 0, .inl 1, .inl 2, .inl 3, .inl 4, .inl 5, .inl 6, .inl 7, .inl 8, .inl 9, .inl 10, .inl 11, .inl 12, .inl 13, .inl 14, .inl 15, .inl 16, .inl 17, .inr 72] rfl (by decide) (fun _ => rfl) (fun _ => rfl) (fun r159 u158 H locs h hP hD hS => ?_)
  refine lv_istore (lv' := [(6, .int r159), (5, .int r156), (0, .ref sb), (1, .ref (a 0)), (2, .ref (b 0)), (3, .ref o), (4, .int y4)]) hx hb dL_law_857 hl (by decide) rfl (fun ls hl => ?_)
  refine lv_aload_n hx hb dL_law_859 rfl (lv_at hl 4 rfl) ?_
  refine cl_i (ws' := fun u160 => (wLAW cI cZ a b cJ o (u155.1, u155.2.1, u155.2.2.1, u155.2.2.2.1, u155.2.2.2.2.1, u155.2.2.2.2.2.1, u155.2.2.2.2.2.2.1, u155.2.2.2.2.2.2.2.1, u155.2.2.2.2.2.2.2.2.1, u155.2.2.2.2.2.2.2.2.2.1, u155.2.2.2.2.2.2.2.2.2.2.1, u155.2.2.2.2.2.2.2.2.2.2.2, u160, v157))) (va_runV (As := []) (rest := []) ⟨hx, hb, hml, hown, hts⟩ (c_X8_thrown l D cI cZ b _ u158 _ h ) (cwV 0 hts (gV q_1153 q_1154 q_1155 q_75 q_1156) rfl rfl rfl (by decide +kernel) ⟨Nat.le_of_ble_eq_true rfl, Nat.le_of_ble_eq_true rfl⟩) (preV_of (ci := 7) (q := (RX8, TX8, 25)) hK hP hD [54, 55, 56, 57, 58, 59, 60, 61, 62, 63, 64, 65, 66, 67, 68, 69, 70, 71] rfl rfl (by decide) 54 rfl rfl) rfl rfl hl.1 rfl (lv_room (Nat.le_of_ble_eq_true rfl)) dL_law_860 ⟨(by show _ ≤ 1102; omega), (by show _ ≤ 16074; omega)⟩) hP hD hS hA [54, 55, 56, 57, 58, 59, 60, 61, 62, 63, 64, 65, 66, 67, 68, 69, 70, 71] [.inr 0, .inr 1, .inr 2, .inr 3, .inr 4, .inr 5, .inr 6, .inr 7, .inr 8, .inr 9, .inr 10, .inr 11, .inr 12, .inr 13, .inr 14, .inr 15, .inr 16, .inr 17, .inr 18, .inr 19, .inr 20, .inr 21, .inr 22, .inr 23, .inr 24, .inr 25, .inr 26, .inr 27, .inr 28, .inr 29, .inr 30, .inr 31, .inr 32, .inr 33, .inr 34, .inr 35, .inr 36, .inr 37, .inr 38, .inr 39, .inr 40, .inr 41, .inr 42, .inr 43, .inr 44, .inr 45, .inr 46, .inr 47, .inr 48, .inr 49, .inr 50, .inr 51, .inr 52, .inr 53, .inl 0, .inl 1, .inl 2, .inl 3, .inl 4, .inl 5, .inl 6, .inl 7, .inl 8, .inl 9, .inl 10, .inl 11, .inl 12, .inl 13, .inl 14, .inl 15, .inl 16, .inl 17, .inr 72] rfl (by decide) (fun _ => rfl) (fun _ => rfl) (fun r161 u160 H locs h hP hD hS => ?_)
  refine lv_iload hx hb dL_law_863 (lv_at hl 1 rfl) ?_
  refine lv_icmp_eq (tgt := 870) hx hb dL_law_865 (by decide) (fun c162 => ?_) (fun c162 => ?_)
  · have h := h.1 c162
    refine lv_iload hx hb dL_law_870 (lv_at hl 1 rfl) ?_
    refine lv_if_ne (tgt := 887) hx hb dL_law_872 (by decide) (fun c163 => ?_) (fun c163 => ?_)
    · have h := h.1 c163
      refine lv_goto (tgt := 1430) hx hb dL_law_887 (by decide) ?_
      refine W.widen (k := cn + 1) (n := sn + 6) (by omega) (by omega) ?_
      obtain ⟨x164, ex164⟩ : ∃ y : Int32, y = (y4 + 4) := ⟨_, rfl⟩
      have h := h x164 ex164
      refine lv_iinc (v := x164) (lv' := [(4, .int x164), (6, .int r159), (5, .int r156), (0, .ref sb), (1, .ref (a 0)), (2, .ref (b 0)), (3, .ref o)]) hx hb dL_law_1430 hl (k := 6) rfl (by rw [ex164]; rfl) (by decide) rfl (fun ls hl => ?_)
      refine lv_goto (tgt := 23) hx hb dL_law_1433 (by decide) ?_
      exact K23 x164 (u155.1, u155.2.1, u155.2.2.1, u155.2.2.2.1, u155.2.2.2.2.1, u155.2.2.2.2.2.1, u155.2.2.2.2.2.2.1, u155.2.2.2.2.2.2.2.1, u155.2.2.2.2.2.2.2.2.1, u155.2.2.2.2.2.2.2.2.2.1, u155.2.2.2.2.2.2.2.2.2.2.1, u155.2.2.2.2.2.2.2.2.2.2.2, u160, v157) _ _ _ hP hD hS (lv_sub hl [3, 4, 5, 6, 0] rfl) h
    · have h := h.2 c163
      refine lv_aload_n hx hb dL_law_875 rfl (lv_at hl 5 rfl) ?_
      refine lv_iconst (v := 0) hx hb dL_law_876 (by decide) ?_
      refine va_lald (i := 0) hx hb hKJ hP 72 2 rfl rfl (okLit (by decide)) dL_law_877 ?_
      show W p l e room_1 s m #[Value.ref sb] below meth c _ _ _ _ _ (F0 m 878 ls (.long (v157 0) :: []))
      refine lv_iload hx hb dL_law_878 (lv_at hl 0 rfl) ?_
      refine lv_i2l (v := (Int32.toInt64 r159)) hx hb dL_law_880 rfl ?_
      refine W.lcmp hx hb dL_law_881 ?_
      refine lv_if_eq (tgt := 887) hx hb dL_law_882 (by decide) (fun c165 => ?_) (fun c165 => ?_)
      · have h := h.1 c165
        refine lv_goto (tgt := 1430) hx hb dL_law_887 (by decide) ?_
        refine W.widen (k := cn + 1) (n := sn + 6) (by omega) (by omega) ?_
        obtain ⟨x166, ex166⟩ : ∃ y : Int32, y = (y4 + 4) := ⟨_, rfl⟩
        have h := h x166 ex166
        refine lv_iinc (v := x166) (lv' := [(4, .int x166), (6, .int r159), (5, .int r156), (0, .ref sb), (1, .ref (a 0)), (2, .ref (b 0)), (3, .ref o)]) hx hb dL_law_1430 hl (k := 6) rfl (by rw [ex166]; rfl) (by decide) rfl (fun ls hl => ?_)
        refine lv_goto (tgt := 23) hx hb dL_law_1433 (by decide) ?_
        exact K23 x166 (u155.1, u155.2.1, u155.2.2.1, u155.2.2.2.1, u155.2.2.2.2.1, u155.2.2.2.2.2.1, u155.2.2.2.2.2.2.1, u155.2.2.2.2.2.2.2.1, u155.2.2.2.2.2.2.2.2.1, u155.2.2.2.2.2.2.2.2.2.1, u155.2.2.2.2.2.2.2.2.2.2.1, u155.2.2.2.2.2.2.2.2.2.2.2, u160, v157) _ _ _ hP hD hS (lv_sub hl [3, 4, 5, 6, 0] rfl) h
      · have h := h.2 c165
        refine lv_iconst (v := 0) hx hb dL_law_885 (by decide) ?_
        exact h.elim
  · have h := h.2 c162
    refine lv_iconst (v := 0) hx hb dL_law_868 (by decide) ?_
    exact h.elim
