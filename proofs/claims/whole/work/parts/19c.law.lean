set_option maxHeartbeats 4000000 in
set_option maxRecDepth 100000 in
theorem law_L890 {p : Program} {l : Launch} {e : Env} {s : State} {m : MethodId} {below : List Frame} {meth : Method} {c : Code} {D : va_G} {cI cZ cJ : ClassId} {a b : Nat → Nat} {o sb L : Nat} {xs : Nat → Int32} {A : Nat → Prop} (C0 : lawC p l s m meth c D cI cZ cJ sb L xs A) {cn sn : Nat} (hcn : cn + 1 ≤ 1102) (hsn : sn + 6 ≤ 16074) (k23 : Int32 → TLW → Prop) (K23 : ∀ (y4 : Int32) (T : TLW) (H : Heap) (locs : List Loc) (ls : Array Slot), va_P D vwCl (wLAW cI cZ a b cJ o T) H → va_D A (wLAW cI cZ a b cJ o T) → va_S A s.heap H locs → lv_has ls 7 [(0, .ref sb), (1, .ref (a 0)), (2, .ref (b 0)), (3, .ref o), (4, .int y4)] → k23 y4 T → W p l e room_1 s m #[Value.ref sb] below meth c H locs (cn + 1) (sn + 6) (lw_Z below #[Value.ref sb] s) (F0 m 23 ls [])) : ∀ (y4 : Int32) (T : TLW) (H : Heap) (locs : List Loc) (ls : Array Slot), va_P D vwCl (wLAW cI cZ a b cJ o T) H → va_D A (wLAW cI cZ a b cJ o T) → va_S A s.heap H locs → lv_has ls 7 [(0, .ref sb), (1, .ref (a 0)), (2, .ref (b 0)), (3, .ref o), (4, .int y4)] → wp_law_L890 L xs k23 y4 T → W p l e room_1 s m #[Value.ref sb] below meth c H locs cn sn (lw_Z below #[Value.ref sb] s) (F0 m 890 ls []) := by
  obtain ⟨hst, hx, hb, hr, hlocks, hml, hown, hts, hX, hbl, hbA, hA, hAf, hKJ, hF, hXF⟩ := id C0
  have hK : va_K D vwCl (tyL cI cZ) s := hKJ.sub [0, 1] rfl
  have hml2 := hml
  intro y4 T H locs ls hP hD hS hl h
  unfold wp_law_L890 at h
  refine lv_aload_n hx hb dL_law_890 rfl (lv_at hl 1 rfl) ?_
  refine lv_aload_n hx hb dL_law_891 rfl (lv_at hl 0 rfl) ?_
  refine lv_iload hx hb dL_law_892 (lv_at hl 4 rfl) ?_
  refine lv_iconst (v := 1) hx hb dL_law_894 (by decide) ?_
  refine lv_iadd hx hb dL_law_895 ?_
  refine va_sld hx hb hX hbl hbA hS h.1 dL_law_896 ?_
  have h := h.2
  refine lv_aload_n hx hb dL_law_897 rfl (lv_at hl 0 rfl) ?_
  refine lv_iload hx hb dL_law_898 (lv_at hl 4 rfl) ?_
  refine lv_iconst (v := 2) hx hb dL_law_900 (by decide) ?_
  refine lv_iadd hx hb dL_law_901 ?_
  refine va_sld hx hb hX hbl hbA hS h.1 dL_law_902 ?_
  have h := h.2
  refine cl_i (ws' := fun u167 => (wLAW cI cZ a b cJ o (u167.1, u167.2.1, u167.2.2.1, u167.2.2.2.1, u167.2.2.2.2.1, u167.2.2.2.2.2.1, u167.2.2.2.2.2.2.1, u167.2.2.2.2.2.2.2.1, u167.2.2.2.2.2.2.2.2.1, u167.2.2.2.2.2.2.2.2.2.1, u167.2.2.2.2.2.2.2.2.2.2.1, u167.2.2.2.2.2.2.2.2.2.2.2, T.2.2.2.2.2.2.2.2.2.2.2.2.1, T.2.2.2.2.2.2.2.2.2.2.2.2.2))) (va_runV (As := [.int (xs (Int32.toNatClampNeg (y4 + 1))), .int (xs (Int32.toNatClampNeg (y4 + 2)))]) (rest := []) ⟨hx, hb, hml, hown, hts⟩ (c_X7_source l D cI cZ a _ (T.1, T.2.1, T.2.2.1, T.2.2.2.1, T.2.2.2.2.1, T.2.2.2.2.2.1, T.2.2.2.2.2.2.1, T.2.2.2.2.2.2.2.1, T.2.2.2.2.2.2.2.2.1, T.2.2.2.2.2.2.2.2.2.1, T.2.2.2.2.2.2.2.2.2.2.1, T.2.2.2.2.2.2.2.2.2.2.2.1) (xs (Int32.toNatClampNeg (y4 + 1))) (xs (Int32.toNatClampNeg (y4 + 2))) _ h ) (cwV 2 hts (gV q_793 q_794 q_795 q_67 q_796) rfl rfl rfl (by decide +kernel) ⟨Nat.le_of_ble_eq_true rfl, Nat.le_of_ble_eq_true rfl⟩) (preV_of (ci := 6) (q := (RX7, TX7, 4)) hK hP hD [0, 1, 2, 3, 4, 5, 6, 7, 8, 9, 10, 11, 12, 13, 14, 15, 16, 17, 18, 19, 20, 21, 22, 23, 24, 25, 26, 27, 28, 29, 30, 31, 32, 33, 34, 35, 36, 37, 38, 39, 40, 41, 42, 43, 44, 45, 46, 47, 48, 49, 50, 51, 52, 53] rfl rfl (by decide) 0 rfl rfl) rfl rfl hl.1 rfl (lv_room (Nat.le_of_ble_eq_true rfl)) dL_law_903 ⟨(by show _ ≤ 1102; omega), (by show _ ≤ 16074; omega)⟩) hP hD hS hA [0, 1, 2, 3, 4, 5, 6, 7, 8, 9, 10, 11, 12, 13, 14, 15, 16, 17, 18, 19, 20, 21, 22, 23, 24, 25, 26, 27, 28, 29, 30, 31, 32, 33, 34, 35, 36, 37, 38, 39, 40, 41, 42, 43, 44, 45, 46, 47, 48, 49, 50, 51, 52, 53] [.inl 0, .inl 1, .inl 2, .inl 3, .inl 4, .inl 5, .inl 6, .inl 7, .inl 8, .inl 9, .inl 10, .inl 11, .inl 12, .inl 13, .inl 14, .inl 15, .inl 16, .inl 17, .inl 18, .inl 19, .inl 20, .inl 21, .inl 22, .inl 23, .inl 24, .inl 25, .inl 26, .inl 27, .inl 28, .inl 29, .inl 30, .inl 31, .inl 32, .inl 33, .inl 34, .inl 35, .inl 36, .inl 37, .inl 38, .inl 39, .inl 40, .inl 41, .inl 42, .inl 43, .inl 44, .inl 45, .inl 46, .inl 47, .inl 48, .inl 49, .inl 50, .inl 51, .inl 52, .inl 53, .inr 54, .inr 55, .inr 56, .inr 57, .inr 58, .inr 59, .inr 60, .inr 61, .inr 62, .inr 63, .inr 64, .inr 65, .inr 66, .inr 67, .inr 68, .inr 69, .inr 70, .inr 71, .inr 72] rfl (by decide) (fun _ => rfl) (fun _ => rfl) (fun r168 u167 H locs h hP hD hS => ?_)
  refine lv_aload_n hx hb dL_law_906 rfl (lv_at hl 2 rfl) ?_
  refine lv_aload_n hx hb dL_law_907 rfl (lv_at hl 0 rfl) ?_
  refine lv_iload hx hb dL_law_908 (lv_at hl 4 rfl) ?_
  refine lv_iconst (v := 1) hx hb dL_law_910 (by decide) ?_
  refine lv_iadd hx hb dL_law_911 ?_
  refine va_sld hx hb hX hbl hbA hS h.1 dL_law_912 ?_
  have h := h.2
  refine lv_aload_n hx hb dL_law_913 rfl (lv_at hl 0 rfl) ?_
  refine lv_iload hx hb dL_law_914 (lv_at hl 4 rfl) ?_
  refine lv_iconst (v := 2) hx hb dL_law_916 (by decide) ?_
  refine lv_iadd hx hb dL_law_917 ?_
  refine va_sld hx hb hX hbl hbA hS h.1 dL_law_918 ?_
  have h := h.2
  refine cl_i (ws' := fun u169 => (wLAW cI cZ a b cJ o (u167.1, u167.2.1, u167.2.2.1, u167.2.2.2.1, u167.2.2.2.2.1, u167.2.2.2.2.2.1, u167.2.2.2.2.2.2.1, u167.2.2.2.2.2.2.2.1, u167.2.2.2.2.2.2.2.2.1, u167.2.2.2.2.2.2.2.2.2.1, u167.2.2.2.2.2.2.2.2.2.2.1, u167.2.2.2.2.2.2.2.2.2.2.2, u169, T.2.2.2.2.2.2.2.2.2.2.2.2.2))) (va_runV (As := [.int (xs (Int32.toNatClampNeg (y4 + 1))), .int (xs (Int32.toNatClampNeg (y4 + 2)))]) (rest := [.int r168]) ⟨hx, hb, hml, hown, hts⟩ (c_X8_source l D cI cZ b _ T.2.2.2.2.2.2.2.2.2.2.2.2.1 (xs (Int32.toNatClampNeg (y4 + 1))) (xs (Int32.toNatClampNeg (y4 + 2))) _ h ) (cwV 2 hts (gV q_1410 q_1411 q_1412 q_75 q_1413) rfl rfl rfl (by decide +kernel) ⟨Nat.le_of_ble_eq_true rfl, Nat.le_of_ble_eq_true rfl⟩) (preV_of (ci := 7) (q := (RX8, TX8, 25)) hK hP hD [54, 55, 56, 57, 58, 59, 60, 61, 62, 63, 64, 65, 66, 67, 68, 69, 70, 71] rfl rfl (by decide) 54 rfl rfl) rfl rfl hl.1 rfl (lv_room (Nat.le_of_ble_eq_true rfl)) dL_law_919 ⟨(by show _ ≤ 1102; omega), (by show _ ≤ 16074; omega)⟩) hP hD hS hA [54, 55, 56, 57, 58, 59, 60, 61, 62, 63, 64, 65, 66, 67, 68, 69, 70, 71] [.inr 0, .inr 1, .inr 2, .inr 3, .inr 4, .inr 5, .inr 6, .inr 7, .inr 8, .inr 9, .inr 10, .inr 11, .inr 12, .inr 13, .inr 14, .inr 15, .inr 16, .inr 17, .inr 18, .inr 19, .inr 20, .inr 21, .inr 22, .inr 23, .inr 24, .inr 25, .inr 26, .inr 27, .inr 28, .inr 29, .inr 30, .inr 31, .inr 32, .inr 33, .inr 34, .inr 35, .inr 36, .inr 37, .inr 38, .inr 39, .inr 40, .inr 41, .inr 42, .inr 43, .inr 44, .inr 45, .inr 46, .inr 47, .inr 48, .inr 49, .inr 50, .inr 51, .inr 52, .inr 53, .inl 0, .inl 1, .inl 2, .inl 3, .inl 4, .inl 5, .inl 6, .inl 7, .inl 8, .inl 9, .inl 10, .inl 11, .inl 12, .inl 13, .inl 14, .inl 15, .inl 16, .inl 17, .inr 72] rfl (by decide) (fun _ => rfl) (fun _ => rfl) (fun r170 u169 H locs h hP hD hS => ?_)
  refine lv_icmp_eq (tgt := 1430) hx hb dL_law_922 (by decide) (fun c171 => ?_) (fun c171 => ?_)
  · have h := h.1 c171
    refine W.widen (k := cn + 1) (n := sn + 6) (by omega) (by omega) ?_
    obtain ⟨x172, ex172⟩ : ∃ y : Int32, y = (y4 + 4) := ⟨_, rfl⟩
    have h := h x172 ex172
    refine lv_iinc (v := x172) (lv' := [(4, .int x172), (0, .ref sb), (1, .ref (a 0)), (2, .ref (b 0)), (3, .ref o)]) hx hb dL_law_1430 hl (k := 4) rfl (by rw [ex172]; rfl) (by decide) rfl (fun ls hl => ?_)
    refine lv_goto (tgt := 23) hx hb dL_law_1433 (by decide) ?_
    exact K23 x172 (u167.1, u167.2.1, u167.2.2.1, u167.2.2.2.1, u167.2.2.2.2.1, u167.2.2.2.2.2.1, u167.2.2.2.2.2.2.1, u167.2.2.2.2.2.2.2.1, u167.2.2.2.2.2.2.2.2.1, u167.2.2.2.2.2.2.2.2.2.1, u167.2.2.2.2.2.2.2.2.2.2.1, u167.2.2.2.2.2.2.2.2.2.2.2, u169, T.2.2.2.2.2.2.2.2.2.2.2.2.2) _ _ _ hP hD hS (lv_sub hl [1, 2, 3, 4, 0] rfl) h
  · have h := h.2 c171
    refine lv_iconst (v := 0) hx hb dL_law_925 (by decide) ?_
    exact h.elim
set_option maxHeartbeats 4000000 in
set_option maxRecDepth 100000 in
theorem law_L927 {p : Program} {l : Launch} {e : Env} {s : State} {m : MethodId} {below : List Frame} {meth : Method} {c : Code} {D : va_G} {cI cZ cJ : ClassId} {a b : Nat → Nat} {o sb L : Nat} {xs : Nat → Int32} {A : Nat → Prop} (C0 : lawC p l s m meth c D cI cZ cJ sb L xs A) {cn sn : Nat} (hcn : cn + 1 ≤ 1102) (hsn : sn + 6 ≤ 16074) (k23 : Int32 → TLW → Prop) (K23 : ∀ (y4 : Int32) (T : TLW) (H : Heap) (locs : List Loc) (ls : Array Slot), va_P D vwCl (wLAW cI cZ a b cJ o T) H → va_D A (wLAW cI cZ a b cJ o T) → va_S A s.heap H locs → lv_has ls 7 [(0, .ref sb), (1, .ref (a 0)), (2, .ref (b 0)), (3, .ref o), (4, .int y4)] → k23 y4 T → W p l e room_1 s m #[Value.ref sb] below meth c H locs (cn + 1) (sn + 6) (lw_Z below #[Value.ref sb] s) (F0 m 23 ls [])) : ∀ (y4 : Int32) (T : TLW) (H : Heap) (locs : List Loc) (ls : Array Slot), va_P D vwCl (wLAW cI cZ a b cJ o T) H → va_D A (wLAW cI cZ a b cJ o T) → va_S A s.heap H locs → lv_has ls 7 [(0, .ref sb), (1, .ref (a 0)), (2, .ref (b 0)), (3, .ref o), (4, .int y4)] → wp_law_L927 L xs k23 y4 T → W p l e room_1 s m #[Value.ref sb] below meth c H locs cn sn (lw_Z below #[Value.ref sb] s) (F0 m 927 ls []) := by
  obtain ⟨hst, hx, hb, hr, hlocks, hml, hown, hts, hX, hbl, hbA, hA, hAf, hKJ, hF, hXF⟩ := id C0
  have hK : va_K D vwCl (tyL cI cZ) s := hKJ.sub [0, 1] rfl
  have hml2 := hml
  intro y4 T H locs ls hP hD hS hl h
  unfold wp_law_L927 at h
  refine lv_aload_n hx hb dL_law_927 rfl (lv_at hl 1 rfl) ?_
  refine lv_aload_n hx hb dL_law_928 rfl (lv_at hl 0 rfl) ?_
  refine lv_iload hx hb dL_law_929 (lv_at hl 4 rfl) ?_
  refine lv_iconst (v := 1) hx hb dL_law_931 (by decide) ?_
  refine lv_iadd hx hb dL_law_932 ?_
  refine va_sld hx hb hX hbl hbA hS h.1 dL_law_933 ?_
  have h := h.2
  refine cl_i (ws' := fun u173 => (wLAW cI cZ a b cJ o (u173.1, u173.2.1, u173.2.2.1, u173.2.2.2.1, u173.2.2.2.2.1, u173.2.2.2.2.2.1, u173.2.2.2.2.2.2.1, u173.2.2.2.2.2.2.2.1, u173.2.2.2.2.2.2.2.2.1, u173.2.2.2.2.2.2.2.2.2.1, u173.2.2.2.2.2.2.2.2.2.2.1, u173.2.2.2.2.2.2.2.2.2.2.2, T.2.2.2.2.2.2.2.2.2.2.2.2.1, T.2.2.2.2.2.2.2.2.2.2.2.2.2))) (va_runV (As := [.int (xs (Int32.toNatClampNeg (y4 + 1)))]) (rest := []) ⟨hx, hb, hml, hown, hts⟩ (c_X7_nest l D cI cZ a _ (T.1, T.2.1, T.2.2.1, T.2.2.2.1, T.2.2.2.2.1, T.2.2.2.2.2.1, T.2.2.2.2.2.2.1, T.2.2.2.2.2.2.2.1, T.2.2.2.2.2.2.2.2.1, T.2.2.2.2.2.2.2.2.2.1, T.2.2.2.2.2.2.2.2.2.2.1, T.2.2.2.2.2.2.2.2.2.2.2.1) (xs (Int32.toNatClampNeg (y4 + 1))) _ h ) (cwV 1 hts (gV q_805 q_806 q_807 q_67 q_808) rfl rfl rfl (by decide +kernel) ⟨Nat.le_of_ble_eq_true rfl, Nat.le_of_ble_eq_true rfl⟩) (preV_of (ci := 6) (q := (RX7, TX7, 4)) hK hP hD [0, 1, 2, 3, 4, 5, 6, 7, 8, 9, 10, 11, 12, 13, 14, 15, 16, 17, 18, 19, 20, 21, 22, 23, 24, 25, 26, 27, 28, 29, 30, 31, 32, 33, 34, 35, 36, 37, 38, 39, 40, 41, 42, 43, 44, 45, 46, 47, 48, 49, 50, 51, 52, 53] rfl rfl (by decide) 0 rfl rfl) rfl rfl hl.1 rfl (lv_room (Nat.le_of_ble_eq_true rfl)) dL_law_934 ⟨(by show _ ≤ 1102; omega), (by show _ ≤ 16074; omega)⟩) hP hD hS hA [0, 1, 2, 3, 4, 5, 6, 7, 8, 9, 10, 11, 12, 13, 14, 15, 16, 17, 18, 19, 20, 21, 22, 23, 24, 25, 26, 27, 28, 29, 30, 31, 32, 33, 34, 35, 36, 37, 38, 39, 40, 41, 42, 43, 44, 45, 46, 47, 48, 49, 50, 51, 52, 53] [.inl 0, .inl 1, .inl 2, .inl 3, .inl 4, .inl 5, .inl 6, .inl 7, .inl 8, .inl 9, .inl 10, .inl 11, .inl 12, .inl 13, .inl 14, .inl 15, .inl 16, .inl 17, .inl 18, .inl 19, .inl 20, .inl 21, .inl 22, .inl 23, .inl 24, .inl 25, .inl 26, .inl 27, .inl 28, .inl 29, .inl 30, .inl 31, .inl 32, .inl 33, .inl 34, .inl 35, .inl 36, .inl 37, .inl 38, .inl 39, .inl 40, .inl 41, .inl 42, .inl 43, .inl 44, .inl 45, .inl 46, .inl 47, .inl 48, .inl 49, .inl 50, .inl 51, .inl 52, .inl 53, .inr 54, .inr 55, .inr 56, .inr 57, .inr 58, .inr 59, .inr 60, .inr 61, .inr 62, .inr 63, .inr 64, .inr 65, .inr 66, .inr 67, .inr 68, .inr 69, .inr 70, .inr 71, .inr 72] rfl (by decide) (fun _ => rfl) (fun _ => rfl) (fun r174 u173 H locs h hP hD hS => ?_)
  refine lv_aload_n hx hb dL_law_937 rfl (lv_at hl 2 rfl) ?_
  refine lv_aload_n hx hb dL_law_938 rfl (lv_at hl 0 rfl) ?_
  refine lv_iload hx hb dL_law_939 (lv_at hl 4 rfl) ?_
  refine lv_iconst (v := 1) hx hb dL_law_941 (by decide) ?_
  refine lv_iadd hx hb dL_law_942 ?_
  refine va_sld hx hb hX hbl hbA hS h.1 dL_law_943 ?_
  have h := h.2
  refine cl_i (ws' := fun u175 => (wLAW cI cZ a b cJ o (u173.1, u173.2.1, u173.2.2.1, u173.2.2.2.1, u173.2.2.2.2.1, u173.2.2.2.2.2.1, u173.2.2.2.2.2.2.1, u173.2.2.2.2.2.2.2.1, u173.2.2.2.2.2.2.2.2.1, u173.2.2.2.2.2.2.2.2.2.1, u173.2.2.2.2.2.2.2.2.2.2.1, u173.2.2.2.2.2.2.2.2.2.2.2, u175, T.2.2.2.2.2.2.2.2.2.2.2.2.2))) (va_runV (As := [.int (xs (Int32.toNatClampNeg (y4 + 1)))]) (rest := [.int r174]) ⟨hx, hb, hml, hown, hts⟩ (c_X8_nest l D cI cZ b _ T.2.2.2.2.2.2.2.2.2.2.2.2.1 (xs (Int32.toNatClampNeg (y4 + 1))) _ h ) (cwV 1 hts (gV q_1414 q_1415 q_1416 q_75 q_1417) rfl rfl rfl (by decide +kernel) ⟨Nat.le_of_ble_eq_true rfl, Nat.le_of_ble_eq_true rfl⟩) (preV_of (ci := 7) (q := (RX8, TX8, 25)) hK hP hD [54, 55, 56, 57, 58, 59, 60, 61, 62, 63, 64, 65, 66, 67, 68, 69, 70, 71] rfl rfl (by decide) 54 rfl rfl) rfl rfl hl.1 rfl (lv_room (Nat.le_of_ble_eq_true rfl)) dL_law_944 ⟨(by show _ ≤ 1102; omega), (by show _ ≤ 16074; omega)⟩) hP hD hS hA [54, 55, 56, 57, 58, 59, 60, 61, 62, 63, 64, 65, 66, 67, 68, 69, 70, 71] [.inr 0, .inr 1, .inr 2, .inr 3, .inr 4, .inr 5, .inr 6, .inr 7, .inr 8, .inr 9, .inr 10, .inr 11, .inr 12, .inr 13, .inr 14, .inr 15, .inr 16, .inr 17, .inr 18, .inr 19, .inr 20, .inr 21, .inr 22, .inr 23, .inr 24, .inr 25, .inr 26, .inr 27, .inr 28, .inr 29, .inr 30, .inr 31, .inr 32, .inr 33, .inr 34, .inr 35, .inr 36, .inr 37, .inr 38, .inr 39, .inr 40, .inr 41, .inr 42, .inr 43, .inr 44, .inr 45, .inr 46, .inr 47, .inr 48, .inr 49, .inr 50, .inr 51, .inr 52, .inr 53, .inl 0, .inl 1, .inl 2, .inl 3, .inl 4, .inl 5, .inl 6, .inl 7, .inl 8, .inl 9, .inl 10, .inl 11, .inl 12, .inl 13, .inl 14, .inl 15, .inl 16, .inl 17, .inr 72] rfl (by decide) (fun _ => rfl) (fun _ => rfl) (fun r176 u175 H locs h hP hD hS => ?_)
  refine lv_icmp_eq (tgt := 1430) hx hb dL_law_947 (by decide) (fun c177 => ?_) (fun c177 => ?_)
  · have h := h.1 c177
    refine W.widen (k := cn + 1) (n := sn + 6) (by omega) (by omega) ?_
    obtain ⟨x178, ex178⟩ : ∃ y : Int32, y = (y4 + 4) := ⟨_, rfl⟩
    have h := h x178 ex178
    refine lv_iinc (v := x178) (lv' := [(4, .int x178), (0, .ref sb), (1, .ref (a 0)), (2, .ref (b 0)), (3, .ref o)]) hx hb dL_law_1430 hl (k := 4) rfl (by rw [ex178]; rfl) (by decide) rfl (fun ls hl => ?_)
    refine lv_goto (tgt := 23) hx hb dL_law_1433 (by decide) ?_
    exact K23 x178 (u173.1, u173.2.1, u173.2.2.1, u173.2.2.2.1, u173.2.2.2.2.1, u173.2.2.2.2.2.1, u173.2.2.2.2.2.2.1, u173.2.2.2.2.2.2.2.1, u173.2.2.2.2.2.2.2.2.1, u173.2.2.2.2.2.2.2.2.2.1, u173.2.2.2.2.2.2.2.2.2.2.1, u173.2.2.2.2.2.2.2.2.2.2.2, u175, T.2.2.2.2.2.2.2.2.2.2.2.2.2) _ _ _ hP hD hS (lv_sub hl [1, 2, 3, 4, 0] rfl) h
  · have h := h.2 c177
    refine lv_iconst (v := 0) hx hb dL_law_950 (by decide) ?_
    exact h.elim
set_option maxHeartbeats 4000000 in
set_option maxRecDepth 100000 in
theorem law_L952 {p : Program} {l : Launch} {e : Env} {s : State} {m : MethodId} {below : List Frame} {meth : Method} {c : Code} {D : va_G} {cI cZ cJ : ClassId} {a b : Nat → Nat} {o sb L : Nat} {xs : Nat → Int32} {A : Nat → Prop} (C0 : lawC p l s m meth c D cI cZ cJ sb L xs A) {cn sn : Nat} (hcn : cn + 1 ≤ 1102) (hsn : sn + 6 ≤ 16074) (k23 : Int32 → TLW → Prop) (K23 : ∀ (y4 : Int32) (T : TLW) (H : Heap) (locs : List Loc) (ls : Array Slot), va_P D vwCl (wLAW cI cZ a b cJ o T) H → va_D A (wLAW cI cZ a b cJ o T) → va_S A s.heap H locs → lv_has ls 7 [(0, .ref sb), (1, .ref (a 0)), (2, .ref (b 0)), (3, .ref o), (4, .int y4)] → k23 y4 T → W p l e room_1 s m #[Value.ref sb] below meth c H locs (cn + 1) (sn + 6) (lw_Z below #[Value.ref sb] s) (F0 m 23 ls [])) : ∀ (y4 : Int32) (T : TLW) (H : Heap) (locs : List Loc) (ls : Array Slot), va_P D vwCl (wLAW cI cZ a b cJ o T) H → va_D A (wLAW cI cZ a b cJ o T) → va_S A s.heap H locs → lv_has ls 7 [(0, .ref sb), (1, .ref (a 0)), (2, .ref (b 0)), (3, .ref o), (4, .int y4)] → wp_law_L952 L xs k23 y4 T → W p l e room_1 s m #[Value.ref sb] below meth c H locs cn sn (lw_Z below #[Value.ref sb] s) (F0 m 952 ls []) := by
  obtain ⟨hst, hx, hb, hr, hlocks, hml, hown, hts, hX, hbl, hbA, hA, hAf, hKJ, hF, hXF⟩ := id C0
  have hK : va_K D vwCl (tyL cI cZ) s := hKJ.sub [0, 1] rfl
  have hml2 := hml
  intro y4 T H locs ls hP hD hS hl h
  unfold wp_law_L952 at h
  refine lv_aload_n hx hb dL_law_952 rfl (lv_at hl 1 rfl) ?_
  refine lv_aload_n hx hb dL_law_953 rfl (lv_at hl 0 rfl) ?_
  refine lv_iload hx hb dL_law_954 (lv_at hl 4 rfl) ?_
  refine lv_iconst (v := 1) hx hb dL_law_956 (by decide) ?_
  refine lv_iadd hx hb dL_law_957 ?_
  refine va_sld hx hb hX hbl hbA hS h.1 dL_law_958 ?_
  have h := h.2
  refine cl_i (ws' := fun u179 => (wLAW cI cZ a b cJ o (u179.1, u179.2.1, u179.2.2.1, u179.2.2.2.1, u179.2.2.2.2.1, u179.2.2.2.2.2.1, u179.2.2.2.2.2.2.1, u179.2.2.2.2.2.2.2.1, u179.2.2.2.2.2.2.2.2.1, u179.2.2.2.2.2.2.2.2.2.1, u179.2.2.2.2.2.2.2.2.2.2.1, u179.2.2.2.2.2.2.2.2.2.2.2, T.2.2.2.2.2.2.2.2.2.2.2.2.1, T.2.2.2.2.2.2.2.2.2.2.2.2.2))) (va_runV (As := [.int (xs (Int32.toNatClampNeg (y4 + 1)))]) (rest := []) ⟨hx, hb, hml, hown, hts⟩ (c_X7_state l D cI cZ a _ (T.1, T.2.1, T.2.2.1, T.2.2.2.1, T.2.2.2.2.1, T.2.2.2.2.2.1, T.2.2.2.2.2.2.1, T.2.2.2.2.2.2.2.1, T.2.2.2.2.2.2.2.2.1, T.2.2.2.2.2.2.2.2.2.1, T.2.2.2.2.2.2.2.2.2.2.1, T.2.2.2.2.2.2.2.2.2.2.2.1) (xs (Int32.toNatClampNeg (y4 + 1))) _ h ) (cwV 1 hts (gV q_809 q_810 q_811 q_67 q_812) rfl rfl rfl (by decide +kernel) ⟨Nat.le_of_ble_eq_true rfl, Nat.le_of_ble_eq_true rfl⟩) (preV_of (ci := 6) (q := (RX7, TX7, 4)) hK hP hD [0, 1, 2, 3, 4, 5, 6, 7, 8, 9, 10, 11, 12, 13, 14, 15, 16, 17, 18, 19, 20, 21, 22, 23, 24, 25, 26, 27, 28, 29, 30, 31, 32, 33, 34, 35, 36, 37, 38, 39, 40, 41, 42, 43, 44, 45, 46, 47, 48, 49, 50, 51, 52, 53] rfl rfl (by decide) 0 rfl rfl) rfl rfl hl.1 rfl (lv_room (Nat.le_of_ble_eq_true rfl)) dL_law_959 ⟨(by show _ ≤ 1102; omega), (by show _ ≤ 16074; omega)⟩) hP hD hS hA [0, 1, 2, 3, 4, 5, 6, 7, 8, 9, 10, 11, 12, 13, 14, 15, 16, 17, 18, 19, 20, 21, 22, 23, 24, 25, 26, 27, 28, 29, 30, 31, 32, 33, 34, 35, 36, 37, 38, 39, 40, 41, 42, 43, 44, 45, 46, 47, 48, 49, 50, 51, 52, 53] [.inl 0, .inl 1, .inl 2, .inl 3, .inl 4, .inl 5, .inl 6, .inl 7, .inl 8, .inl 9, .inl 10, .inl 11, .inl 12, .inl 13, .inl 14, .inl 15, .inl 16, .inl 17, .inl 18, .inl 19, .inl 20, .inl 21, .inl 22, .inl 23, .inl 24, .inl 25, .inl 26, .inl 27, .inl 28, .inl 29, .inl 30, .inl 31, .inl 32, .inl 33, .inl 34, .inl 35, .inl 36, .inl 37, .inl 38, .inl 39, .inl 40, .inl 41, .inl 42, .inl 43, .inl 44, .inl 45, .inl 46, .inl 47, .inl 48, .inl 49, .inl 50, .inl 51, .inl 52, .inl 53, .inr 54, .inr 55, .inr 56, .inr 57, .inr 58, .inr 59, .inr 60, .inr 61, .inr 62, .inr 63, .inr 64, .inr 65, .inr 66, .inr 67, .inr 68, .inr 69, .inr 70, .inr 71, .inr 72] rfl (by decide) (fun _ => rfl) (fun _ => rfl) (fun r180 u179 H locs h hP hD hS => ?_)
  refine lv_aload_n hx hb dL_law_962 rfl (lv_at hl 2 rfl) ?_
  refine lv_aload_n hx hb dL_law_963 rfl (lv_at hl 0 rfl) ?_
  refine lv_iload hx hb dL_law_964 (lv_at hl 4 rfl) ?_
  refine lv_iconst (v := 1) hx hb dL_law_966 (by decide) ?_
  refine lv_iadd hx hb dL_law_967 ?_
  refine va_sld hx hb hX hbl hbA hS h.1 dL_law_968 ?_
  have h := h.2
  refine cl_i (ws' := fun u181 => (wLAW cI cZ a b cJ o (u179.1, u179.2.1, u179.2.2.1, u179.2.2.2.1, u179.2.2.2.2.1, u179.2.2.2.2.2.1, u179.2.2.2.2.2.2.1, u179.2.2.2.2.2.2.2.1, u179.2.2.2.2.2.2.2.2.1, u179.2.2.2.2.2.2.2.2.2.1, u179.2.2.2.2.2.2.2.2.2.2.1, u179.2.2.2.2.2.2.2.2.2.2.2, u181, T.2.2.2.2.2.2.2.2.2.2.2.2.2))) (va_runV (As := [.int (xs (Int32.toNatClampNeg (y4 + 1)))]) (rest := [.int r180]) ⟨hx, hb, hml, hown, hts⟩ (c_X8_state l D cI cZ b _ T.2.2.2.2.2.2.2.2.2.2.2.2.1 (xs (Int32.toNatClampNeg (y4 + 1))) _ h ) (cwV 1 hts (gV q_1418 q_1419 q_1420 q_75 q_1421) rfl rfl rfl (by decide +kernel) ⟨Nat.le_of_ble_eq_true rfl, Nat.le_of_ble_eq_true rfl⟩) (preV_of (ci := 7) (q := (RX8, TX8, 25)) hK hP hD [54, 55, 56, 57, 58, 59, 60, 61, 62, 63, 64, 65, 66, 67, 68, 69, 70, 71] rfl rfl (by decide) 54 rfl rfl) rfl rfl hl.1 rfl (lv_room (Nat.le_of_ble_eq_true rfl)) dL_law_969 ⟨(by show _ ≤ 1102; omega), (by show _ ≤ 16074; omega)⟩) hP hD hS hA [54, 55, 56, 57, 58, 59, 60, 61, 62, 63, 64, 65, 66, 67, 68, 69, 70, 71] [.inr 0, .inr 1, .inr 2, .inr 3, .inr 4, .inr 5, .inr 6, .inr 7, .inr 8, .inr 9, .inr 10, .inr 11, .inr 12, .inr 13, .inr 14, .inr 15, .inr 16, .inr 17, .inr 18, .inr 19, .inr 20, .inr 21, .inr 22, .inr 23, .inr 24, .inr 25, .inr 26, .inr 27, .inr 28, .inr 29, .inr 30, .inr 31, .inr 32, .inr 33, .inr 34, .inr 35, .inr 36, .inr 37, .inr 38, .inr 39, .inr 40, .inr 41, .inr 42, .inr 43, .inr 44, .inr 45, .inr 46, .inr 47, .inr 48, .inr 49, .inr 50, .inr 51, .inr 52, .inr 53, .inl 0, .inl 1, .inl 2, .inl 3, .inl 4, .inl 5, .inl 6, .inl 7, .inl 8, .inl 9, .inl 10, .inl 11, .inl 12, .inl 13, .inl 14, .inl 15, .inl 16, .inl 17, .inr 72] rfl (by decide) (fun _ => rfl) (fun _ => rfl) (fun r182 u181 H locs h hP hD hS => ?_)
  refine lv_icmp_eq (tgt := 1430) hx hb dL_law_972 (by decide) (fun c183 => ?_) (fun c183 => ?_)
  · have h := h.1 c183
    refine W.widen (k := cn + 1) (n := sn + 6) (by omega) (by omega) ?_
    obtain ⟨x184, ex184⟩ : ∃ y : Int32, y = (y4 + 4) := ⟨_, rfl⟩
    have h := h x184 ex184
    refine lv_iinc (v := x184) (lv' := [(4, .int x184), (0, .ref sb), (1, .ref (a 0)), (2, .ref (b 0)), (3, .ref o)]) hx hb dL_law_1430 hl (k := 4) rfl (by rw [ex184]; rfl) (by decide) rfl (fun ls hl => ?_)
    refine lv_goto (tgt := 23) hx hb dL_law_1433 (by decide) ?_
    exact K23 x184 (u179.1, u179.2.1, u179.2.2.1, u179.2.2.2.1, u179.2.2.2.2.1, u179.2.2.2.2.2.1, u179.2.2.2.2.2.2.1, u179.2.2.2.2.2.2.2.1, u179.2.2.2.2.2.2.2.2.1, u179.2.2.2.2.2.2.2.2.2.1, u179.2.2.2.2.2.2.2.2.2.2.1, u179.2.2.2.2.2.2.2.2.2.2.2, u181, T.2.2.2.2.2.2.2.2.2.2.2.2.2) _ _ _ hP hD hS (lv_sub hl [1, 2, 3, 4, 0] rfl) h
  · have h := h.2 c183
    refine lv_iconst (v := 0) hx hb dL_law_975 (by decide) ?_
    exact h.elim
set_option maxHeartbeats 4000000 in
set_option maxRecDepth 100000 in
theorem law_L977 {p : Program} {l : Launch} {e : Env} {s : State} {m : MethodId} {below : List Frame} {meth : Method} {c : Code} {D : va_G} {cI cZ cJ : ClassId} {a b : Nat → Nat} {o sb L : Nat} {xs : Nat → Int32} {A : Nat → Prop} (C0 : lawC p l s m meth c D cI cZ cJ sb L xs A) {cn sn : Nat} (hcn : cn + 1 ≤ 1102) (hsn : sn + 6 ≤ 16074) (k23 : Int32 → TLW → Prop) (K23 : ∀ (y4 : Int32) (T : TLW) (H : Heap) (locs : List Loc) (ls : Array Slot), va_P D vwCl (wLAW cI cZ a b cJ o T) H → va_D A (wLAW cI cZ a b cJ o T) → va_S A s.heap H locs → lv_has ls 7 [(0, .ref sb), (1, .ref (a 0)), (2, .ref (b 0)), (3, .ref o), (4, .int y4)] → k23 y4 T → W p l e room_1 s m #[Value.ref sb] below meth c H locs (cn + 1) (sn + 6) (lw_Z below #[Value.ref sb] s) (F0 m 23 ls [])) : ∀ (y4 : Int32) (T : TLW) (H : Heap) (locs : List Loc) (ls : Array Slot), va_P D vwCl (wLAW cI cZ a b cJ o T) H → va_D A (wLAW cI cZ a b cJ o T) → va_S A s.heap H locs → lv_has ls 7 [(0, .ref sb), (1, .ref (a 0)), (2, .ref (b 0)), (3, .ref o), (4, .int y4)] → wp_law_L977 L xs k23 y4 T → W p l e room_1 s m #[Value.ref sb] below meth c H locs cn sn (lw_Z below #[Value.ref sb] s) (F0 m 977 ls []) := by
  obtain ⟨hst, hx, hb, hr, hlocks, hml, hown, hts, hX, hbl, hbA, hA, hAf, hKJ, hF, hXF⟩ := id C0
  have hK : va_K D vwCl (tyL cI cZ) s := hKJ.sub [0, 1] rfl
  have hml2 := hml
  intro y4 T H locs ls hP hD hS hl h
  unfold wp_law_L977 at h
  refine lv_aload_n hx hb dL_law_977 rfl (lv_at hl 1 rfl) ?_
  refine lv_aload_n hx hb dL_law_978 rfl (lv_at hl 0 rfl) ?_
  refine lv_iload hx hb dL_law_979 (lv_at hl 4 rfl) ?_
  refine lv_iconst (v := 1) hx hb dL_law_981 (by decide) ?_
  refine lv_iadd hx hb dL_law_982 ?_
  refine va_sld hx hb hX hbl hbA hS h.1 dL_law_983 ?_
  have h := h.2
  refine cl_i (ws' := fun u185 => (wLAW cI cZ a b cJ o (u185.1, u185.2.1, u185.2.2.1, u185.2.2.2.1, u185.2.2.2.2.1, u185.2.2.2.2.2.1, u185.2.2.2.2.2.2.1, u185.2.2.2.2.2.2.2.1, u185.2.2.2.2.2.2.2.2.1, u185.2.2.2.2.2.2.2.2.2.1, u185.2.2.2.2.2.2.2.2.2.2.1, u185.2.2.2.2.2.2.2.2.2.2.2, T.2.2.2.2.2.2.2.2.2.2.2.2.1, T.2.2.2.2.2.2.2.2.2.2.2.2.2))) (va_runV (As := [.int (xs (Int32.toNatClampNeg (y4 + 1)))]) (rest := []) ⟨hx, hb, hml, hown, hts⟩ (c_X7_count l D cI cZ a _ (T.1, T.2.1, T.2.2.1, T.2.2.2.1, T.2.2.2.2.1, T.2.2.2.2.2.1, T.2.2.2.2.2.2.1, T.2.2.2.2.2.2.2.1, T.2.2.2.2.2.2.2.2.1, T.2.2.2.2.2.2.2.2.2.1, T.2.2.2.2.2.2.2.2.2.2.1, T.2.2.2.2.2.2.2.2.2.2.2.1) (xs (Int32.toNatClampNeg (y4 + 1))) _ h ) (cwV 1 hts (gV q_818 q_819 q_820 q_67 q_821) rfl rfl rfl (by decide +kernel) ⟨Nat.le_of_ble_eq_true rfl, Nat.le_of_ble_eq_true rfl⟩) (preV_of (ci := 6) (q := (RX7, TX7, 4)) hK hP hD [0, 1, 2, 3, 4, 5, 6, 7, 8, 9, 10, 11, 12, 13, 14, 15, 16, 17, 18, 19, 20, 21, 22, 23, 24, 25, 26, 27, 28, 29, 30, 31, 32, 33, 34, 35, 36, 37, 38, 39, 40, 41, 42, 43, 44, 45, 46, 47, 48, 49, 50, 51, 52, 53] rfl rfl (by decide) 0 rfl rfl) rfl rfl hl.1 rfl (lv_room (Nat.le_of_ble_eq_true rfl)) dL_law_984 ⟨(by show _ ≤ 1102; omega), (by show _ ≤ 16074; omega)⟩) hP hD hS hA [0, 1, 2, 3, 4, 5, 6, 7, 8, 9, 10, 11, 12, 13, 14, 15, 16, 17, 18, 19, 20, 21, 22, 23, 24, 25, 26, 27, 28, 29, 30, 31, 32, 33, 34, 35, 36, 37, 38, 39, 40, 41, 42, 43, 44, 45, 46, 47, 48, 49, 50, 51, 52, 53] [.inl 0, .inl 1, .inl 2, .inl 3, .inl 4, .inl 5, .inl 6, .inl 7, .inl 8, .inl 9, .inl 10, .inl 11, .inl 12, .inl 13, .inl 14, .inl 15, .inl 16, .inl 17, .inl 18, .inl 19, .inl 20, .inl 21, .inl 22, .inl 23, .inl 24, .inl 25, .inl 26, .inl 27, .inl 28, .inl 29, .inl 30, .inl 31, .inl 32, .inl 33, .inl 34, .inl 35, .inl 36, .inl 37, .inl 38, .inl 39, .inl 40, .inl 41, .inl 42, .inl 43, .inl 44, .inl 45, .inl 46, .inl 47, .inl 48, .inl 49, .inl 50, .inl 51, .inl 52, .inl 53, .inr 54, .inr 55, .inr 56, .inr 57, .inr 58, .inr 59, .inr 60, .inr 61, .inr 62, .inr 63, .inr 64, .inr 65, .inr 66, .inr 67, .inr 68, .inr 69, .inr 70, .inr 71, .inr 72] rfl (by decide) (fun _ => rfl) (fun _ => rfl) (fun r186 u185 H locs h hP hD hS => ?_)
  refine lv_aload_n hx hb dL_law_987 rfl (lv_at hl 2 rfl) ?_
  refine lv_aload_n hx hb dL_law_988 rfl (lv_at hl 0 rfl) ?_
  refine lv_iload hx hb dL_law_989 (lv_at hl 4 rfl) ?_
  refine lv_iconst (v := 1) hx hb dL_law_991 (by decide) ?_
  refine lv_iadd hx hb dL_law_992 ?_
  refine va_sld hx hb hX hbl hbA hS h.1 dL_law_993 ?_
  have h := h.2
  refine cl_i (ws' := fun u187 => (wLAW cI cZ a b cJ o (u185.1, u185.2.1, u185.2.2.1, u185.2.2.2.1, u185.2.2.2.2.1, u185.2.2.2.2.2.1, u185.2.2.2.2.2.2.1, u185.2.2.2.2.2.2.2.1, u185.2.2.2.2.2.2.2.2.1, u185.2.2.2.2.2.2.2.2.2.1, u185.2.2.2.2.2.2.2.2.2.2.1, u185.2.2.2.2.2.2.2.2.2.2.2, u187, T.2.2.2.2.2.2.2.2.2.2.2.2.2))) (va_runV (As := [.int (xs (Int32.toNatClampNeg (y4 + 1)))]) (rest := [.int r186]) ⟨hx, hb, hml, hown, hts⟩ (c_X8_count l D cI cZ b _ T.2.2.2.2.2.2.2.2.2.2.2.2.1 (xs (Int32.toNatClampNeg (y4 + 1))) _ h ) (cwV 1 hts (gV q_1422 q_1423 q_1424 q_75 q_1425) rfl rfl rfl (by decide +kernel) ⟨Nat.le_of_ble_eq_true rfl, Nat.le_of_ble_eq_true rfl⟩) (preV_of (ci := 7) (q := (RX8, TX8, 25)) hK hP hD [54, 55, 56, 57, 58, 59, 60, 61, 62, 63, 64, 65, 66, 67, 68, 69, 70, 71] rfl rfl (by decide) 54 rfl rfl) rfl rfl hl.1 rfl (lv_room (Nat.le_of_ble_eq_true rfl)) dL_law_994 ⟨(by show _ ≤ 1102; omega), (by show _ ≤ 16074; omega)⟩) hP hD hS hA [54, 55, 56, 57, 58, 59, 60, 61, 62, 63, 64, 65, 66, 67, 68, 69, 70, 71] [.inr 0, .inr 1, .inr 2, .inr 3, .inr 4, .inr 5, .inr 6, .inr 7, .inr 8, .inr 9, .inr 10, .inr 11, .inr 12, .inr 13, .inr 14, .inr 15, .inr 16, .inr 17, .inr 18, .inr 19, .inr 20, .inr 21, .inr 22, .inr 23, .inr 24, .inr 25, .inr 26, .inr 27, .inr 28, .inr 29, .inr 30, .inr 31, .inr 32, .inr 33, .inr 34, .inr 35, .inr 36, .inr 37, .inr 38, .inr 39, .inr 40, .inr 41, .inr 42, .inr 43, .inr 44, .inr 45, .inr 46, .inr 47, .inr 48, .inr 49, .inr 50, .inr 51, .inr 52, .inr 53, .inl 0, .inl 1, .inl 2, .inl 3, .inl 4, .inl 5, .inl 6, .inl 7, .inl 8, .inl 9, .inl 10, .inl 11, .inl 12, .inl 13, .inl 14, .inl 15, .inl 16, .inl 17, .inr 72] rfl (by decide) (fun _ => rfl) (fun _ => rfl) (fun r188 u187 H locs h hP hD hS => ?_)
  refine lv_icmp_eq (tgt := 1430) hx hb dL_law_997 (by decide) (fun c189 => ?_) (fun c189 => ?_)
  · have h := h.1 c189
    refine W.widen (k := cn + 1) (n := sn + 6) (by omega) (by omega) ?_
    obtain ⟨x190, ex190⟩ : ∃ y : Int32, y = (y4 + 4) := ⟨_, rfl⟩
    have h := h x190 ex190
    refine lv_iinc (v := x190) (lv' := [(4, .int x190), (0, .ref sb), (1, .ref (a 0)), (2, .ref (b 0)), (3, .ref o)]) hx hb dL_law_1430 hl (k := 4) rfl (by rw [ex190]; rfl) (by decide) rfl (fun ls hl => ?_)
    refine lv_goto (tgt := 23) hx hb dL_law_1433 (by decide) ?_
    exact K23 x190 (u185.1, u185.2.1, u185.2.2.1, u185.2.2.2.1, u185.2.2.2.2.1, u185.2.2.2.2.2.1, u185.2.2.2.2.2.2.1, u185.2.2.2.2.2.2.2.1, u185.2.2.2.2.2.2.2.2.1, u185.2.2.2.2.2.2.2.2.2.1, u185.2.2.2.2.2.2.2.2.2.2.1, u185.2.2.2.2.2.2.2.2.2.2.2, u187, T.2.2.2.2.2.2.2.2.2.2.2.2.2) _ _ _ hP hD hS (lv_sub hl [1, 2, 3, 4, 0] rfl) h
  · have h := h.2 c189
    refine lv_iconst (v := 0) hx hb dL_law_1000 (by decide) ?_
    exact h.elim
set_option maxHeartbeats 4000000 in
set_option maxRecDepth 100000 in
theorem law_L1002 {p : Program} {l : Launch} {e : Env} {s : State} {m : MethodId} {below : List Frame} {meth : Method} {c : Code} {D : va_G} {cI cZ cJ : ClassId} {a b : Nat → Nat} {o sb L : Nat} {xs : Nat → Int32} {A : Nat → Prop} (C0 : lawC p l s m meth c D cI cZ cJ sb L xs A) {cn sn : Nat} (hcn : cn + 1 ≤ 1102) (hsn : sn + 6 ≤ 16074) (k23 : Int32 → TLW → Prop) (K23 : ∀ (y4 : Int32) (T : TLW) (H : Heap) (locs : List Loc) (ls : Array Slot), va_P D vwCl (wLAW cI cZ a b cJ o T) H → va_D A (wLAW cI cZ a b cJ o T) → va_S A s.heap H locs → lv_has ls 7 [(0, .ref sb), (1, .ref (a 0)), (2, .ref (b 0)), (3, .ref o), (4, .int y4)] → k23 y4 T → W p l e room_1 s m #[Value.ref sb] below meth c H locs (cn + 1) (sn + 6) (lw_Z below #[Value.ref sb] s) (F0 m 23 ls [])) : ∀ (y4 : Int32) (T : TLW) (H : Heap) (locs : List Loc) (ls : Array Slot), va_P D vwCl (wLAW cI cZ a b cJ o T) H → va_D A (wLAW cI cZ a b cJ o T) → va_S A s.heap H locs → lv_has ls 7 [(0, .ref sb), (1, .ref (a 0)), (2, .ref (b 0)), (3, .ref o), (4, .int y4)] → wp_law_L1002 L xs k23 y4 T → W p l e room_1 s m #[Value.ref sb] below meth c H locs cn sn (lw_Z below #[Value.ref sb] s) (F0 m 1002 ls []) := by
  obtain ⟨hst, hx, hb, hr, hlocks, hml, hown, hts, hX, hbl, hbA, hA, hAf, hKJ, hF, hXF⟩ := id C0
  have hK : va_K D vwCl (tyL cI cZ) s := hKJ.sub [0, 1] rfl
  have hml2 := hml
  intro y4 T H locs ls hP hD hS hl h
  unfold wp_law_L1002 at h
  refine lv_aload_n hx hb dL_law_1002 rfl (lv_at hl 1 rfl) ?_
  refine lv_aload_n hx hb dL_law_1003 rfl (lv_at hl 0 rfl) ?_
  refine lv_iload hx hb dL_law_1004 (lv_at hl 4 rfl) ?_
  refine lv_iconst (v := 1) hx hb dL_law_1006 (by decide) ?_
  refine lv_iadd hx hb dL_law_1007 ?_
  refine va_sld hx hb hX hbl hbA hS h.1 dL_law_1008 ?_
  have h := h.2
  refine lv_aload_n hx hb dL_law_1009 rfl (lv_at hl 0 rfl) ?_
  refine lv_iload hx hb dL_law_1010 (lv_at hl 4 rfl) ?_
  refine lv_iconst (v := 2) hx hb dL_law_1012 (by decide) ?_
  refine lv_iadd hx hb dL_law_1013 ?_
  refine va_sld hx hb hX hbl hbA hS h.1 dL_law_1014 ?_
  have h := h.2
  refine lv_aload_n hx hb dL_law_1015 rfl (lv_at hl 3 rfl) ?_
  have hC1016 : ([0, 1, 2, 3, 4, 5, 6, 7, 8, 9, 10, 11, 12, 13, 14, 15, 16, 17, 18, 19, 20, 21, 22, 23, 24, 25, 26, 27, 28, 29, 30, 31, 32, 33, 34, 35, 36, 37, 38, 39, 40, 41, 42, 43, 44, 45, 46, 47, 48, 49, 50, 51, 52, 53, 72] : List Nat).map (fun i => (wLAW cI cZ a b cJ o T)[i]?) = (wXL cI cZ cJ a o (T.1, T.2.1, T.2.2.1, T.2.2.2.1, T.2.2.2.2.1, T.2.2.2.2.2.1, T.2.2.2.2.2.2.1, T.2.2.2.2.2.2.2.1, T.2.2.2.2.2.2.2.2.1, T.2.2.2.2.2.2.2.2.2.1, T.2.2.2.2.2.2.2.2.2.2.1, T.2.2.2.2.2.2.2.2.2.2.2.1) T.2.2.2.2.2.2.2.2.2.2.2.2.2).map some := rfl
  have hFc := va_free (wc := (wXL cI cZ cJ a o (T.1, T.2.1, T.2.2.1, T.2.2.2.1, T.2.2.2.2.1, T.2.2.2.2.2.1, T.2.2.2.2.2.2.1, T.2.2.2.2.2.2.2.1, T.2.2.2.2.2.2.2.2.1, T.2.2.2.2.2.2.2.2.2.1, T.2.2.2.2.2.2.2.2.2.2.1, T.2.2.2.2.2.2.2.2.2.2.2.1) T.2.2.2.2.2.2.2.2.2.2.2.2.2)) hD hS hA [0, 1, 2, 3, 4, 5, 6, 7, 8, 9, 10, 11, 12, 13, 14, 15, 16, 17, 18, 19, 20, 21, 22, 23, 24, 25, 26, 27, 28, 29, 30, 31, 32, 33, 34, 35, 36, 37, 38, 39, 40, 41, 42, 43, 44, 45, 46, 47, 48, 49, 50, 51, 52, 53, 72] hC1016
  refine vx_calli (S := TR7 × (Nat → Int64)) (SX := Unit) (px := fun _ => False) (BX := fun _ _ _ => True) (AX := A) (vx_ofF (vx_runSX (As := [.ref (a 0), .int (xs (Int32.toNatClampNeg (y4 + 1))), .int (xs (Int32.toNatClampNeg (y4 + 2))), .ref o]) (rest := []) ⟨hx, hb, hml, hown, hts⟩ (c_L_event l hst D cI cZ cJ a o _ (T.1, T.2.1, T.2.2.1, T.2.2.2.1, T.2.2.2.2.1, T.2.2.2.2.2.1, T.2.2.2.2.2.2.1, T.2.2.2.2.2.2.2.1, T.2.2.2.2.2.2.2.2.1, T.2.2.2.2.2.2.2.2.2.1, T.2.2.2.2.2.2.2.2.2.2.1, T.2.2.2.2.2.2.2.2.2.2.2.1) T.2.2.2.2.2.2.2.2.2.2.2.2.2 (xs (Int32.toNatClampNeg (y4 + 1))) (xs (Int32.toNatClampNeg (y4 + 2))) _ h) (vx_cwSW 4 hts (gSW q_1056 q_1057 q_66 q_1058) rfl rfl rfl (by decide +kernel) ⟨Nat.le_of_ble_eq_true rfl, Nat.le_of_ble_eq_true rfl⟩) (preLS_of hXF hS hA hKJ hP hD [0, 1, 2, 3, 4, 5, 6, 7, 8, 9, 10, 11, 12, 13, 14, 15, 16, 17, 18, 19, 20, 21, 22, 23, 24, 25, 26, 27, 28, 29, 30, 31, 32, 33, 34, 35, 36, 37, 38, 39, 40, 41, 42, 43, 44, 45, 46, 47, 48, 49, 50, 51, 52, 53, 72] hC1016 rfl (by decide)) rfl rfl hl.1 rfl (lv_room (Nat.le_of_ble_eq_true rfl)) dL_law_1016 ⟨(by show _ ≤ 1102; omega), (by show _ ≤ 16074; omega)⟩)) hS (fun q _ h => hFc q h) hFc (fun q _ h => h) (fun E ce q9 u t H1 locs1 ht hvm h hB hz1 hk1 hS hcell hv hcl => h.elim) (fun r192 uv t H1 locs1 ht hvm h hB hz1 hk1 hS1 => ?_)
  obtain ⟨u191, v193⟩ := uv
  obtain ⟨hP, hD⟩ := cl_goJ (w1 := wXL cI cZ cJ a o u191 v193) (ws' := (wLAW cI cZ a b cJ o (u191.1, u191.2.1, u191.2.2.1, u191.2.2.2.1, u191.2.2.2.2.1, u191.2.2.2.2.2.1, u191.2.2.2.2.2.2.1, u191.2.2.2.2.2.2.2.1, u191.2.2.2.2.2.2.2.2.1, u191.2.2.2.2.2.2.2.2.2.1, u191.2.2.2.2.2.2.2.2.2.2.1, u191.2.2.2.2.2.2.2.2.2.2.2, T.2.2.2.2.2.2.2.2.2.2.2.2.1, v193))) hP hD hS hA [0, 1, 2, 3, 4, 5, 6, 7, 8, 9, 10, 11, 12, 13, 14, 15, 16, 17, 18, 19, 20, 21, 22, 23, 24, 25, 26, 27, 28, 29, 30, 31, 32, 33, 34, 35, 36, 37, 38, 39, 40, 41, 42, 43, 44, 45, 46, 47, 48, 49, 50, 51, 52, 53, 72] [.inl 0, .inl 1, .inl 2, .inl 3, .inl 4, .inl 5, .inl 6, .inl 7, .inl 8, .inl 9, .inl 10, .inl 11, .inl 12, .inl 13, .inl 14, .inl 15, .inl 16, .inl 17, .inl 18, .inl 19, .inl 20, .inl 21, .inl 22, .inl 23, .inl 24, .inl 25, .inl 26, .inl 27, .inl 28, .inl 29, .inl 30, .inl 31, .inl 32, .inl 33, .inl 34, .inl 35, .inl 36, .inl 37, .inl 38, .inl 39, .inl 40, .inl 41, .inl 42, .inl 43, .inl 44, .inl 45, .inl 46, .inl 47, .inl 48, .inl 49, .inl 50, .inl 51, .inl 52, .inl 53, .inr 54, .inr 55, .inr 56, .inr 57, .inr 58, .inr 59, .inr 60, .inr 61, .inr 62, .inr 63, .inr 64, .inr 65, .inr 66, .inr 67, .inr 68, .inr 69, .inr 70, .inr 71, .inl 54] hC1016 (by decide) rfl rfl ht hB hk1
  have hS := hS1
  generalize H1 = H at hP hS ⊢
  refine lv_istore (lv' := [(5, .int r192), (0, .ref sb), (1, .ref (a 0)), (2, .ref (b 0)), (3, .ref o), (4, .int y4)]) hx hb dL_law_1019 hl (by decide) rfl (fun ls hl => ?_)
  refine lv_aload_n hx hb dL_law_1021 rfl (lv_at hl 3 rfl) ?_
  refine lv_aload_n hx hb dL_law_1022 rfl (lv_at hl 1 rfl) ?_
  refine lv_iload hx hb dL_law_1023 (lv_at hl 5 rfl) ?_
  refine lv_iconst (v := 1) hx hb dL_law_1025 (by decide) ?_
  refine lv_iadd hx hb dL_law_1026 ?_
  refine va_sld hx hb hX hbl hbA hS h.1 dL_law_1027 ?_
  have h := h.2
  refine lv_aload_n hx hb dL_law_1028 rfl (lv_at hl 1 rfl) ?_
  refine lv_iload hx hb dL_law_1029 (lv_at hl 5 rfl) ?_
  refine lv_iconst (v := 2) hx hb dL_law_1031 (by decide) ?_
  refine lv_iadd hx hb dL_law_1032 ?_
  refine va_sld hx hb hX hbl hbA hS h.1 dL_law_1033 ?_
  have h := h.2
  refine cl_i (ws' := fun u194 => (wLAW cI cZ a b cJ o (u191.1, u191.2.1, u191.2.2.1, u191.2.2.2.1, u191.2.2.2.2.1, u191.2.2.2.2.2.1, u191.2.2.2.2.2.2.1, u191.2.2.2.2.2.2.2.1, u191.2.2.2.2.2.2.2.2.1, u191.2.2.2.2.2.2.2.2.2.1, u191.2.2.2.2.2.2.2.2.2.2.1, u191.2.2.2.2.2.2.2.2.2.2.2, u194, v193))) (va_runV (As := [.int (xs (Int32.toNatClampNeg (y4 + 1))), .int (xs (Int32.toNatClampNeg (y4 + 2)))]) (rest := []) ⟨hx, hb, hml, hown, hts⟩ (c_X8_event l D cI cZ b _ T.2.2.2.2.2.2.2.2.2.2.2.2.1 (xs (Int32.toNatClampNeg (y4 + 1))) (xs (Int32.toNatClampNeg (y4 + 2))) _ h ) (cwV 2 hts (gV q_1426 q_1427 q_1428 q_75 q_1429) rfl rfl rfl (by decide +kernel) ⟨Nat.le_of_ble_eq_true rfl, Nat.le_of_ble_eq_true rfl⟩) (preV_of (ci := 7) (q := (RX8, TX8, 25)) hK hP hD [54, 55, 56, 57, 58, 59, 60, 61, 62, 63, 64, 65, 66, 67, 68, 69, 70, 71] rfl rfl (by decide) 54 rfl rfl) rfl rfl hl.1 rfl (lv_room (Nat.le_of_ble_eq_true rfl)) dL_law_1034 ⟨(by show _ ≤ 1102; omega), (by show _ ≤ 16074; omega)⟩) hP hD hS hA [54, 55, 56, 57, 58, 59, 60, 61, 62, 63, 64, 65, 66, 67, 68, 69, 70, 71] [.inr 0, .inr 1, .inr 2, .inr 3, .inr 4, .inr 5, .inr 6, .inr 7, .inr 8, .inr 9, .inr 10, .inr 11, .inr 12, .inr 13, .inr 14, .inr 15, .inr 16, .inr 17, .inr 18, .inr 19, .inr 20, .inr 21, .inr 22, .inr 23, .inr 24, .inr 25, .inr 26, .inr 27, .inr 28, .inr 29, .inr 30, .inr 31, .inr 32, .inr 33, .inr 34, .inr 35, .inr 36, .inr 37, .inr 38, .inr 39, .inr 40, .inr 41, .inr 42, .inr 43, .inr 44, .inr 45, .inr 46, .inr 47, .inr 48, .inr 49, .inr 50, .inr 51, .inr 52, .inr 53, .inl 0, .inl 1, .inl 2, .inl 3, .inl 4, .inl 5, .inl 6, .inl 7, .inl 8, .inl 9, .inl 10, .inl 11, .inl 12, .inl 13, .inl 14, .inl 15, .inl 16, .inl 17, .inr 72] rfl (by decide) (fun _ => rfl) (fun _ => rfl) (fun r195 u194 H locs h hP hD hS => ?_)
  refine lv_istore (lv' := [(6, .int r195), (5, .int r192), (0, .ref sb), (1, .ref (a 0)), (2, .ref (b 0)), (3, .ref o), (4, .int y4)]) hx hb dL_law_1037 hl (by decide) rfl (fun ls hl => ?_)
  refine lv_aload_n hx hb dL_law_1039 rfl (lv_at hl 4 rfl) ?_
  refine cl_i (ws' := fun u196 => (wLAW cI cZ a b cJ o (u191.1, u191.2.1, u191.2.2.1, u191.2.2.2.1, u191.2.2.2.2.1, u191.2.2.2.2.2.1, u191.2.2.2.2.2.2.1, u191.2.2.2.2.2.2.2.1, u191.2.2.2.2.2.2.2.2.1, u191.2.2.2.2.2.2.2.2.2.1, u191.2.2.2.2.2.2.2.2.2.2.1, u191.2.2.2.2.2.2.2.2.2.2.2, u196, v193))) (va_runV (As := []) (rest := []) ⟨hx, hb, hml, hown, hts⟩ (c_X8_thrown l D cI cZ b _ u194 _ h ) (cwV 0 hts (gV q_1153 q_1154 q_1155 q_75 q_1156) rfl rfl rfl (by decide +kernel) ⟨Nat.le_of_ble_eq_true rfl, Nat.le_of_ble_eq_true rfl⟩) (preV_of (ci := 7) (q := (RX8, TX8, 25)) hK hP hD [54, 55, 56, 57, 58, 59, 60, 61, 62, 63, 64, 65, 66, 67, 68, 69, 70, 71] rfl rfl (by decide) 54 rfl rfl) rfl rfl hl.1 rfl (lv_room (Nat.le_of_ble_eq_true rfl)) dL_law_1040 ⟨(by show _ ≤ 1102; omega), (by show _ ≤ 16074; omega)⟩) hP hD hS hA [54, 55, 56, 57, 58, 59, 60, 61, 62, 63, 64, 65, 66, 67, 68, 69, 70, 71] [.inr 0, .inr 1, .inr 2, .inr 3, .inr 4, .inr 5, .inr 6, .inr 7, .inr 8, .inr 9, .inr 10, .inr 11, .inr 12, .inr 13, .inr 14, .inr 15, .inr 16, .inr 17, .inr 18, .inr 19, .inr 20, .inr 21, .inr 22, .inr 23, .inr 24, .inr 25, .inr 26, .inr 27, .inr 28, .inr 29, .inr 30, .inr 31, .inr 32, .inr 33, .inr 34, .inr 35, .inr 36, .inr 37, .inr 38, .inr 39, .inr 40, .inr 41, .inr 42, .inr 43, .inr 44, .inr 45, .inr 46, .inr 47, .inr 48, .inr 49, .inr 50, .inr 51, .inr 52, .inr 53, .inl 0, .inl 1, .inl 2, .inl 3, .inl 4, .inl 5, .inl 6, .inl 7, .inl 8, .inl 9, .inl 10, .inl 11, .inl 12, .inl 13, .inl 14, .inl 15, .inl 16, .inl 17, .inr 72] rfl (by decide) (fun _ => rfl) (fun _ => rfl) (fun r197 u196 H locs h hP hD hS => ?_)
  refine lv_iload hx hb dL_law_1043 (lv_at hl 1 rfl) ?_
  refine lv_icmp_eq (tgt := 1050) hx hb dL_law_1045 (by decide) (fun c198 => ?_) (fun c198 => ?_)
  · have h := h.1 c198
    refine lv_iload hx hb dL_law_1050 (lv_at hl 1 rfl) ?_
    refine lv_if_ne (tgt := 1067) hx hb dL_law_1052 (by decide) (fun c199 => ?_) (fun c199 => ?_)
    · have h := h.1 c199
      refine lv_goto (tgt := 1430) hx hb dL_law_1067 (by decide) ?_
      refine W.widen (k := cn + 1) (n := sn + 6) (by omega) (by omega) ?_
      obtain ⟨x200, ex200⟩ : ∃ y : Int32, y = (y4 + 4) := ⟨_, rfl⟩
      have h := h x200 ex200
      refine lv_iinc (v := x200) (lv' := [(4, .int x200), (6, .int r195), (5, .int r192), (0, .ref sb), (1, .ref (a 0)), (2, .ref (b 0)), (3, .ref o)]) hx hb dL_law_1430 hl (k := 6) rfl (by rw [ex200]; rfl) (by decide) rfl (fun ls hl => ?_)
      refine lv_goto (tgt := 23) hx hb dL_law_1433 (by decide) ?_
      exact K23 x200 (u191.1, u191.2.1, u191.2.2.1, u191.2.2.2.1, u191.2.2.2.2.1, u191.2.2.2.2.2.1, u191.2.2.2.2.2.2.1, u191.2.2.2.2.2.2.2.1, u191.2.2.2.2.2.2.2.2.1, u191.2.2.2.2.2.2.2.2.2.1, u191.2.2.2.2.2.2.2.2.2.2.1, u191.2.2.2.2.2.2.2.2.2.2.2, u196, v193) _ _ _ hP hD hS (lv_sub hl [3, 4, 5, 6, 0] rfl) h
    · have h := h.2 c199
      refine lv_aload_n hx hb dL_law_1055 rfl (lv_at hl 5 rfl) ?_
      refine lv_iconst (v := 0) hx hb dL_law_1056 (by decide) ?_
      refine va_lald (i := 0) hx hb hKJ hP 72 2 rfl rfl (okLit (by decide)) dL_law_1057 ?_
      show W p l e room_1 s m #[Value.ref sb] below meth c _ _ _ _ _ (F0 m 1058 ls (.long (v193 0) :: []))
      refine lv_iload hx hb dL_law_1058 (lv_at hl 0 rfl) ?_
      refine lv_i2l (v := (Int32.toInt64 r195)) hx hb dL_law_1060 rfl ?_
      refine W.lcmp hx hb dL_law_1061 ?_
      refine lv_if_eq (tgt := 1067) hx hb dL_law_1062 (by decide) (fun c201 => ?_) (fun c201 => ?_)
      · have h := h.1 c201
        refine lv_goto (tgt := 1430) hx hb dL_law_1067 (by decide) ?_
        refine W.widen (k := cn + 1) (n := sn + 6) (by omega) (by omega) ?_
        obtain ⟨x202, ex202⟩ : ∃ y : Int32, y = (y4 + 4) := ⟨_, rfl⟩
        have h := h x202 ex202
        refine lv_iinc (v := x202) (lv' := [(4, .int x202), (6, .int r195), (5, .int r192), (0, .ref sb), (1, .ref (a 0)), (2, .ref (b 0)), (3, .ref o)]) hx hb dL_law_1430 hl (k := 6) rfl (by rw [ex202]; rfl) (by decide) rfl (fun ls hl => ?_)
        refine lv_goto (tgt := 23) hx hb dL_law_1433 (by decide) ?_
        exact K23 x202 (u191.1, u191.2.1, u191.2.2.1, u191.2.2.2.1, u191.2.2.2.2.1, u191.2.2.2.2.2.1, u191.2.2.2.2.2.2.1, u191.2.2.2.2.2.2.2.1, u191.2.2.2.2.2.2.2.2.1, u191.2.2.2.2.2.2.2.2.2.1, u191.2.2.2.2.2.2.2.2.2.2.1, u191.2.2.2.2.2.2.2.2.2.2.2, u196, v193) _ _ _ hP hD hS (lv_sub hl [3, 4, 5, 6, 0] rfl) h
      · have h := h.2 c201
        refine lv_iconst (v := 0) hx hb dL_law_1065 (by decide) ?_
        exact h.elim
  · have h := h.2 c198
    refine lv_iconst (v := 0) hx hb dL_law_1048 (by decide) ?_
    exact h.elim
set_option maxHeartbeats 4000000 in
set_option maxRecDepth 100000 in
theorem law_L1070 {p : Program} {l : Launch} {e : Env} {s : State} {m : MethodId} {below : List Frame} {meth : Method} {c : Code} {D : va_G} {cI cZ cJ : ClassId} {a b : Nat → Nat} {o sb L : Nat} {xs : Nat → Int32} {A : Nat → Prop} (C0 : lawC p l s m meth c D cI cZ cJ sb L xs A) {cn sn : Nat} (hcn : cn + 1 ≤ 1102) (hsn : sn + 6 ≤ 16074) (k23 : Int32 → TLW → Prop) (K23 : ∀ (y4 : Int32) (T : TLW) (H : Heap) (locs : List Loc) (ls : Array Slot), va_P D vwCl (wLAW cI cZ a b cJ o T) H → va_D A (wLAW cI cZ a b cJ o T) → va_S A s.heap H locs → lv_has ls 7 [(0, .ref sb), (1, .ref (a 0)), (2, .ref (b 0)), (3, .ref o), (4, .int y4)] → k23 y4 T → W p l e room_1 s m #[Value.ref sb] below meth c H locs (cn + 1) (sn + 6) (lw_Z below #[Value.ref sb] s) (F0 m 23 ls [])) : ∀ (y4 : Int32) (T : TLW) (H : Heap) (locs : List Loc) (ls : Array Slot), va_P D vwCl (wLAW cI cZ a b cJ o T) H → va_D A (wLAW cI cZ a b cJ o T) → va_S A s.heap H locs → lv_has ls 7 [(0, .ref sb), (1, .ref (a 0)), (2, .ref (b 0)), (3, .ref o), (4, .int y4)] → wp_law_L1070 L xs k23 y4 T → W p l e room_1 s m #[Value.ref sb] below meth c H locs cn sn (lw_Z below #[Value.ref sb] s) (F0 m 1070 ls []) := by
  obtain ⟨hst, hx, hb, hr, hlocks, hml, hown, hts, hX, hbl, hbA, hA, hAf, hKJ, hF, hXF⟩ := id C0
  have hK : va_K D vwCl (tyL cI cZ) s := hKJ.sub [0, 1] rfl
  have hml2 := hml
  intro y4 T H locs ls hP hD hS hl h
  unfold wp_law_L1070 at h
  refine lv_aload_n hx hb dL_law_1070 rfl (lv_at hl 1 rfl) ?_
  refine lv_aload_n hx hb dL_law_1071 rfl (lv_at hl 0 rfl) ?_
  refine lv_iload hx hb dL_law_1072 (lv_at hl 4 rfl) ?_
  refine lv_iconst (v := 1) hx hb dL_law_1074 (by decide) ?_
  refine lv_iadd hx hb dL_law_1075 ?_
  refine va_sld hx hb hX hbl hbA hS h.1 dL_law_1076 ?_
  have h := h.2
  refine cl_i (ws' := fun u203 => (wLAW cI cZ a b cJ o (u203.1, u203.2.1, u203.2.2.1, u203.2.2.2.1, u203.2.2.2.2.1, u203.2.2.2.2.2.1, u203.2.2.2.2.2.2.1, u203.2.2.2.2.2.2.2.1, u203.2.2.2.2.2.2.2.2.1, u203.2.2.2.2.2.2.2.2.2.1, u203.2.2.2.2.2.2.2.2.2.2.1, u203.2.2.2.2.2.2.2.2.2.2.2, T.2.2.2.2.2.2.2.2.2.2.2.2.1, T.2.2.2.2.2.2.2.2.2.2.2.2.2))) (va_runV (As := [.int (xs (Int32.toNatClampNeg (y4 + 1)))]) (rest := []) ⟨hx, hb, hml, hown, hts⟩ (c_X7_waited l D cI cZ a _ (T.1, T.2.1, T.2.2.1, T.2.2.2.1, T.2.2.2.2.1, T.2.2.2.2.2.1, T.2.2.2.2.2.2.1, T.2.2.2.2.2.2.2.1, T.2.2.2.2.2.2.2.2.1, T.2.2.2.2.2.2.2.2.2.1, T.2.2.2.2.2.2.2.2.2.2.1, T.2.2.2.2.2.2.2.2.2.2.2.1) (xs (Int32.toNatClampNeg (y4 + 1))) _ h ) (cwV 1 hts (gV q_822 q_823 q_824 q_67 q_825) rfl rfl rfl (by decide +kernel) ⟨Nat.le_of_ble_eq_true rfl, Nat.le_of_ble_eq_true rfl⟩) (preV_of (ci := 6) (q := (RX7, TX7, 4)) hK hP hD [0, 1, 2, 3, 4, 5, 6, 7, 8, 9, 10, 11, 12, 13, 14, 15, 16, 17, 18, 19, 20, 21, 22, 23, 24, 25, 26, 27, 28, 29, 30, 31, 32, 33, 34, 35, 36, 37, 38, 39, 40, 41, 42, 43, 44, 45, 46, 47, 48, 49, 50, 51, 52, 53] rfl rfl (by decide) 0 rfl rfl) rfl rfl hl.1 rfl (lv_room (Nat.le_of_ble_eq_true rfl)) dL_law_1077 ⟨(by show _ ≤ 1102; omega), (by show _ ≤ 16074; omega)⟩) hP hD hS hA [0, 1, 2, 3, 4, 5, 6, 7, 8, 9, 10, 11, 12, 13, 14, 15, 16, 17, 18, 19, 20, 21, 22, 23, 24, 25, 26, 27, 28, 29, 30, 31, 32, 33, 34, 35, 36, 37, 38, 39, 40, 41, 42, 43, 44, 45, 46, 47, 48, 49, 50, 51, 52, 53] [.inl 0, .inl 1, .inl 2, .inl 3, .inl 4, .inl 5, .inl 6, .inl 7, .inl 8, .inl 9, .inl 10, .inl 11, .inl 12, .inl 13, .inl 14, .inl 15, .inl 16, .inl 17, .inl 18, .inl 19, .inl 20, .inl 21, .inl 22, .inl 23, .inl 24, .inl 25, .inl 26, .inl 27, .inl 28, .inl 29, .inl 30, .inl 31, .inl 32, .inl 33, .inl 34, .inl 35, .inl 36, .inl 37, .inl 38, .inl 39, .inl 40, .inl 41, .inl 42, .inl 43, .inl 44, .inl 45, .inl 46, .inl 47, .inl 48, .inl 49, .inl 50, .inl 51, .inl 52, .inl 53, .inr 54, .inr 55, .inr 56, .inr 57, .inr 58, .inr 59, .inr 60, .inr 61, .inr 62, .inr 63, .inr 64, .inr 65, .inr 66, .inr 67, .inr 68, .inr 69, .inr 70, .inr 71, .inr 72] rfl (by decide) (fun _ => rfl) (fun _ => rfl) (fun r204 u203 H locs h hP hD hS => ?_)
  refine lv_aload_n hx hb dL_law_1080 rfl (lv_at hl 2 rfl) ?_
  refine lv_aload_n hx hb dL_law_1081 rfl (lv_at hl 0 rfl) ?_
  refine lv_iload hx hb dL_law_1082 (lv_at hl 4 rfl) ?_
  refine lv_iconst (v := 1) hx hb dL_law_1084 (by decide) ?_
  refine lv_iadd hx hb dL_law_1085 ?_
  refine va_sld hx hb hX hbl hbA hS h.1 dL_law_1086 ?_
  have h := h.2
  refine cl_i (ws' := fun u205 => (wLAW cI cZ a b cJ o (u203.1, u203.2.1, u203.2.2.1, u203.2.2.2.1, u203.2.2.2.2.1, u203.2.2.2.2.2.1, u203.2.2.2.2.2.2.1, u203.2.2.2.2.2.2.2.1, u203.2.2.2.2.2.2.2.2.1, u203.2.2.2.2.2.2.2.2.2.1, u203.2.2.2.2.2.2.2.2.2.2.1, u203.2.2.2.2.2.2.2.2.2.2.2, u205, T.2.2.2.2.2.2.2.2.2.2.2.2.2))) (va_runV (As := [.int (xs (Int32.toNatClampNeg (y4 + 1)))]) (rest := [.int r204]) ⟨hx, hb, hml, hown, hts⟩ (c_X8_waited l D cI cZ b _ T.2.2.2.2.2.2.2.2.2.2.2.2.1 (xs (Int32.toNatClampNeg (y4 + 1))) _ h ) (cwV 1 hts (gV q_1430 q_1431 q_1432 q_75 q_1433) rfl rfl rfl (by decide +kernel) ⟨Nat.le_of_ble_eq_true rfl, Nat.le_of_ble_eq_true rfl⟩) (preV_of (ci := 7) (q := (RX8, TX8, 25)) hK hP hD [54, 55, 56, 57, 58, 59, 60, 61, 62, 63, 64, 65, 66, 67, 68, 69, 70, 71] rfl rfl (by decide) 54 rfl rfl) rfl rfl hl.1 rfl (lv_room (Nat.le_of_ble_eq_true rfl)) dL_law_1087 ⟨(by show _ ≤ 1102; omega), (by show _ ≤ 16074; omega)⟩) hP hD hS hA [54, 55, 56, 57, 58, 59, 60, 61, 62, 63, 64, 65, 66, 67, 68, 69, 70, 71] [.inr 0, .inr 1, .inr 2, .inr 3, .inr 4, .inr 5, .inr 6, .inr 7, .inr 8, .inr 9, .inr 10, .inr 11, .inr 12, .inr 13, .inr 14, .inr 15, .inr 16, .inr 17, .inr 18, .inr 19, .inr 20, .inr 21, .inr 22, .inr 23, .inr 24, .inr 25, .inr 26, .inr 27, .inr 28, .inr 29, .inr 30, .inr 31, .inr 32, .inr 33, .inr 34, .inr 35, .inr 36, .inr 37, .inr 38, .inr 39, .inr 40, .inr 41, .inr 42, .inr 43, .inr 44, .inr 45, .inr 46, .inr 47, .inr 48, .inr 49, .inr 50, .inr 51, .inr 52, .inr 53, .inl 0, .inl 1, .inl 2, .inl 3, .inl 4, .inl 5, .inl 6, .inl 7, .inl 8, .inl 9, .inl 10, .inl 11, .inl 12, .inl 13, .inl 14, .inl 15, .inl 16, .inl 17, .inr 72] rfl (by decide) (fun _ => rfl) (fun _ => rfl) (fun r206 u205 H locs h hP hD hS => ?_)
  refine lv_icmp_eq (tgt := 1430) hx hb dL_law_1090 (by decide) (fun c207 => ?_) (fun c207 => ?_)
  · have h := h.1 c207
    refine W.widen (k := cn + 1) (n := sn + 6) (by omega) (by omega) ?_
    obtain ⟨x208, ex208⟩ : ∃ y : Int32, y = (y4 + 4) := ⟨_, rfl⟩
    have h := h x208 ex208
    refine lv_iinc (v := x208) (lv' := [(4, .int x208), (0, .ref sb), (1, .ref (a 0)), (2, .ref (b 0)), (3, .ref o)]) hx hb dL_law_1430 hl (k := 4) rfl (by rw [ex208]; rfl) (by decide) rfl (fun ls hl => ?_)
    refine lv_goto (tgt := 23) hx hb dL_law_1433 (by decide) ?_
    exact K23 x208 (u203.1, u203.2.1, u203.2.2.1, u203.2.2.2.1, u203.2.2.2.2.1, u203.2.2.2.2.2.1, u203.2.2.2.2.2.2.1, u203.2.2.2.2.2.2.2.1, u203.2.2.2.2.2.2.2.2.1, u203.2.2.2.2.2.2.2.2.2.1, u203.2.2.2.2.2.2.2.2.2.2.1, u203.2.2.2.2.2.2.2.2.2.2.2, u205, T.2.2.2.2.2.2.2.2.2.2.2.2.2) _ _ _ hP hD hS (lv_sub hl [1, 2, 3, 4, 0] rfl) h
  · have h := h.2 c207
    refine lv_iconst (v := 0) hx hb dL_law_1093 (by decide) ?_
    exact h.elim
set_option maxHeartbeats 4000000 in
set_option maxRecDepth 100000 in
theorem law_L1095 {p : Program} {l : Launch} {e : Env} {s : State} {m : MethodId} {below : List Frame} {meth : Method} {c : Code} {D : va_G} {cI cZ cJ : ClassId} {a b : Nat → Nat} {o sb L : Nat} {xs : Nat → Int32} {A : Nat → Prop} (C0 : lawC p l s m meth c D cI cZ cJ sb L xs A) {cn sn : Nat} (hcn : cn + 1 ≤ 1102) (hsn : sn + 6 ≤ 16074) (k23 : Int32 → TLW → Prop) (K23 : ∀ (y4 : Int32) (T : TLW) (H : Heap) (locs : List Loc) (ls : Array Slot), va_P D vwCl (wLAW cI cZ a b cJ o T) H → va_D A (wLAW cI cZ a b cJ o T) → va_S A s.heap H locs → lv_has ls 7 [(0, .ref sb), (1, .ref (a 0)), (2, .ref (b 0)), (3, .ref o), (4, .int y4)] → k23 y4 T → W p l e room_1 s m #[Value.ref sb] below meth c H locs (cn + 1) (sn + 6) (lw_Z below #[Value.ref sb] s) (F0 m 23 ls [])) : ∀ (y4 : Int32) (T : TLW) (H : Heap) (locs : List Loc) (ls : Array Slot), va_P D vwCl (wLAW cI cZ a b cJ o T) H → va_D A (wLAW cI cZ a b cJ o T) → va_S A s.heap H locs → lv_has ls 7 [(0, .ref sb), (1, .ref (a 0)), (2, .ref (b 0)), (3, .ref o), (4, .int y4)] → wp_law_L1095 L xs k23 y4 T → W p l e room_1 s m #[Value.ref sb] below meth c H locs cn sn (lw_Z below #[Value.ref sb] s) (F0 m 1095 ls []) := by
  obtain ⟨hst, hx, hb, hr, hlocks, hml, hown, hts, hX, hbl, hbA, hA, hAf, hKJ, hF, hXF⟩ := id C0
  have hK : va_K D vwCl (tyL cI cZ) s := hKJ.sub [0, 1] rfl
  have hml2 := hml
  intro y4 T H locs ls hP hD hS hl h
  unfold wp_law_L1095 at h
  refine lv_aload_n hx hb dL_law_1095 rfl (lv_at hl 1 rfl) ?_
  refine lv_aload_n hx hb dL_law_1096 rfl (lv_at hl 0 rfl) ?_
  refine lv_iload hx hb dL_law_1097 (lv_at hl 4 rfl) ?_
  refine lv_iconst (v := 1) hx hb dL_law_1099 (by decide) ?_
  refine lv_iadd hx hb dL_law_1100 ?_
  refine va_sld hx hb hX hbl hbA hS h.1 dL_law_1101 ?_
  have h := h.2
  refine lv_aload_n hx hb dL_law_1102 rfl (lv_at hl 0 rfl) ?_
  refine lv_iload hx hb dL_law_1103 (lv_at hl 4 rfl) ?_
  refine lv_iconst (v := 2) hx hb dL_law_1105 (by decide) ?_
  refine lv_iadd hx hb dL_law_1106 ?_
  refine va_sld hx hb hX hbl hbA hS h.1 dL_law_1107 ?_
  have h := h.2
  refine cl_i (ws' := fun u209 => (wLAW cI cZ a b cJ o (u209.1, u209.2.1, u209.2.2.1, u209.2.2.2.1, u209.2.2.2.2.1, u209.2.2.2.2.2.1, u209.2.2.2.2.2.2.1, u209.2.2.2.2.2.2.2.1, u209.2.2.2.2.2.2.2.2.1, u209.2.2.2.2.2.2.2.2.2.1, u209.2.2.2.2.2.2.2.2.2.2.1, u209.2.2.2.2.2.2.2.2.2.2.2, T.2.2.2.2.2.2.2.2.2.2.2.2.1, T.2.2.2.2.2.2.2.2.2.2.2.2.2))) (va_runV (As := [.int (xs (Int32.toNatClampNeg (y4 + 1))), .int (xs (Int32.toNatClampNeg (y4 + 2)))]) (rest := []) ⟨hx, hb, hml, hown, hts⟩ (c_X7_ahead l D cI cZ a _ (T.1, T.2.1, T.2.2.1, T.2.2.2.1, T.2.2.2.2.1, T.2.2.2.2.2.1, T.2.2.2.2.2.2.1, T.2.2.2.2.2.2.2.1, T.2.2.2.2.2.2.2.2.1, T.2.2.2.2.2.2.2.2.2.1, T.2.2.2.2.2.2.2.2.2.2.1, T.2.2.2.2.2.2.2.2.2.2.2.1) (xs (Int32.toNatClampNeg (y4 + 1))) (xs (Int32.toNatClampNeg (y4 + 2))) _ h ) (cwV 2 hts (gV q_826 q_827 q_828 q_67 q_829) rfl rfl rfl (by decide +kernel) ⟨Nat.le_of_ble_eq_true rfl, Nat.le_of_ble_eq_true rfl⟩) (preV_of (ci := 6) (q := (RX7, TX7, 4)) hK hP hD [0, 1, 2, 3, 4, 5, 6, 7, 8, 9, 10, 11, 12, 13, 14, 15, 16, 17, 18, 19, 20, 21, 22, 23, 24, 25, 26, 27, 28, 29, 30, 31, 32, 33, 34, 35, 36, 37, 38, 39, 40, 41, 42, 43, 44, 45, 46, 47, 48, 49, 50, 51, 52, 53] rfl rfl (by decide) 0 rfl rfl) rfl rfl hl.1 rfl (lv_room (Nat.le_of_ble_eq_true rfl)) dL_law_1108 ⟨(by show _ ≤ 1102; omega), (by show _ ≤ 16074; omega)⟩) hP hD hS hA [0, 1, 2, 3, 4, 5, 6, 7, 8, 9, 10, 11, 12, 13, 14, 15, 16, 17, 18, 19, 20, 21, 22, 23, 24, 25, 26, 27, 28, 29, 30, 31, 32, 33, 34, 35, 36, 37, 38, 39, 40, 41, 42, 43, 44, 45, 46, 47, 48, 49, 50, 51, 52, 53] [.inl 0, .inl 1, .inl 2, .inl 3, .inl 4, .inl 5, .inl 6, .inl 7, .inl 8, .inl 9, .inl 10, .inl 11, .inl 12, .inl 13, .inl 14, .inl 15, .inl 16, .inl 17, .inl 18, .inl 19, .inl 20, .inl 21, .inl 22, .inl 23, .inl 24, .inl 25, .inl 26, .inl 27, .inl 28, .inl 29, .inl 30, .inl 31, .inl 32, .inl 33, .inl 34, .inl 35, .inl 36, .inl 37, .inl 38, .inl 39, .inl 40, .inl 41, .inl 42, .inl 43, .inl 44, .inl 45, .inl 46, .inl 47, .inl 48, .inl 49, .inl 50, .inl 51, .inl 52, .inl 53, .inr 54, .inr 55, .inr 56, .inr 57, .inr 58, .inr 59, .inr 60, .inr 61, .inr 62, .inr 63, .inr 64, .inr 65, .inr 66, .inr 67, .inr 68, .inr 69, .inr 70, .inr 71, .inr 72] rfl (by decide) (fun _ => rfl) (fun _ => rfl) (fun r210 u209 H locs h hP hD hS => ?_)
  refine lv_aload_n hx hb dL_law_1111 rfl (lv_at hl 2 rfl) ?_
  refine lv_aload_n hx hb dL_law_1112 rfl (lv_at hl 0 rfl) ?_
  refine lv_iload hx hb dL_law_1113 (lv_at hl 4 rfl) ?_
  refine lv_iconst (v := 1) hx hb dL_law_1115 (by decide) ?_
  refine lv_iadd hx hb dL_law_1116 ?_
  refine va_sld hx hb hX hbl hbA hS h.1 dL_law_1117 ?_
  have h := h.2
  refine lv_aload_n hx hb dL_law_1118 rfl (lv_at hl 0 rfl) ?_
  refine lv_iload hx hb dL_law_1119 (lv_at hl 4 rfl) ?_
  refine lv_iconst (v := 2) hx hb dL_law_1121 (by decide) ?_
  refine lv_iadd hx hb dL_law_1122 ?_
  refine va_sld hx hb hX hbl hbA hS h.1 dL_law_1123 ?_
  have h := h.2
  refine cl_i (ws' := fun u211 => (wLAW cI cZ a b cJ o (u209.1, u209.2.1, u209.2.2.1, u209.2.2.2.1, u209.2.2.2.2.1, u209.2.2.2.2.2.1, u209.2.2.2.2.2.2.1, u209.2.2.2.2.2.2.2.1, u209.2.2.2.2.2.2.2.2.1, u209.2.2.2.2.2.2.2.2.2.1, u209.2.2.2.2.2.2.2.2.2.2.1, u209.2.2.2.2.2.2.2.2.2.2.2, u211, T.2.2.2.2.2.2.2.2.2.2.2.2.2))) (va_runV (As := [.int (xs (Int32.toNatClampNeg (y4 + 1))), .int (xs (Int32.toNatClampNeg (y4 + 2)))]) (rest := [.int r210]) ⟨hx, hb, hml, hown, hts⟩ (c_X8_ahead l D cI cZ b _ T.2.2.2.2.2.2.2.2.2.2.2.2.1 (xs (Int32.toNatClampNeg (y4 + 1))) (xs (Int32.toNatClampNeg (y4 + 2))) _ h ) (cwV 2 hts (gV q_1434 q_1435 q_1436 q_75 q_1437) rfl rfl rfl (by decide +kernel) ⟨Nat.le_of_ble_eq_true rfl, Nat.le_of_ble_eq_true rfl⟩) (preV_of (ci := 7) (q := (RX8, TX8, 25)) hK hP hD [54, 55, 56, 57, 58, 59, 60, 61, 62, 63, 64, 65, 66, 67, 68, 69, 70, 71] rfl rfl (by decide) 54 rfl rfl) rfl rfl hl.1 rfl (lv_room (Nat.le_of_ble_eq_true rfl)) dL_law_1124 ⟨(by show _ ≤ 1102; omega), (by show _ ≤ 16074; omega)⟩) hP hD hS hA [54, 55, 56, 57, 58, 59, 60, 61, 62, 63, 64, 65, 66, 67, 68, 69, 70, 71] [.inr 0, .inr 1, .inr 2, .inr 3, .inr 4, .inr 5, .inr 6, .inr 7, .inr 8, .inr 9, .inr 10, .inr 11, .inr 12, .inr 13, .inr 14, .inr 15, .inr 16, .inr 17, .inr 18, .inr 19, .inr 20, .inr 21, .inr 22, .inr 23, .inr 24, .inr 25, .inr 26, .inr 27, .inr 28, .inr 29, .inr 30, .inr 31, .inr 32, .inr 33, .inr 34, .inr 35, .inr 36, .inr 37, .inr 38, .inr 39, .inr 40, .inr 41, .inr 42, .inr 43, .inr 44, .inr 45, .inr 46, .inr 47, .inr 48, .inr 49, .inr 50, .inr 51, .inr 52, .inr 53, .inl 0, .inl 1, .inl 2, .inl 3, .inl 4, .inl 5, .inl 6, .inl 7, .inl 8, .inl 9, .inl 10, .inl 11, .inl 12, .inl 13, .inl 14, .inl 15, .inl 16, .inl 17, .inr 72] rfl (by decide) (fun _ => rfl) (fun _ => rfl) (fun r212 u211 H locs h hP hD hS => ?_)
  refine lv_icmp_eq (tgt := 1430) hx hb dL_law_1127 (by decide) (fun c213 => ?_) (fun c213 => ?_)
  · have h := h.1 c213
    refine W.widen (k := cn + 1) (n := sn + 6) (by omega) (by omega) ?_
    obtain ⟨x214, ex214⟩ : ∃ y : Int32, y = (y4 + 4) := ⟨_, rfl⟩
    have h := h x214 ex214
    refine lv_iinc (v := x214) (lv' := [(4, .int x214), (0, .ref sb), (1, .ref (a 0)), (2, .ref (b 0)), (3, .ref o)]) hx hb dL_law_1430 hl (k := 4) rfl (by rw [ex214]; rfl) (by decide) rfl (fun ls hl => ?_)
    refine lv_goto (tgt := 23) hx hb dL_law_1433 (by decide) ?_
    exact K23 x214 (u209.1, u209.2.1, u209.2.2.1, u209.2.2.2.1, u209.2.2.2.2.1, u209.2.2.2.2.2.1, u209.2.2.2.2.2.2.1, u209.2.2.2.2.2.2.2.1, u209.2.2.2.2.2.2.2.2.1, u209.2.2.2.2.2.2.2.2.2.1, u209.2.2.2.2.2.2.2.2.2.2.1, u209.2.2.2.2.2.2.2.2.2.2.2, u211, T.2.2.2.2.2.2.2.2.2.2.2.2.2) _ _ _ hP hD hS (lv_sub hl [1, 2, 3, 4, 0] rfl) h
  · have h := h.2 c213
    refine lv_iconst (v := 0) hx hb dL_law_1130 (by decide) ?_
    exact h.elim
set_option maxHeartbeats 4000000 in
set_option maxRecDepth 100000 in
theorem law_L1132 {p : Program} {l : Launch} {e : Env} {s : State} {m : MethodId} {below : List Frame} {meth : Method} {c : Code} {D : va_G} {cI cZ cJ : ClassId} {a b : Nat → Nat} {o sb L : Nat} {xs : Nat → Int32} {A : Nat → Prop} (C0 : lawC p l s m meth c D cI cZ cJ sb L xs A) {cn sn : Nat} (hcn : cn + 1 ≤ 1102) (hsn : sn + 6 ≤ 16074) (k23 : Int32 → TLW → Prop) (K23 : ∀ (y4 : Int32) (T : TLW) (H : Heap) (locs : List Loc) (ls : Array Slot), va_P D vwCl (wLAW cI cZ a b cJ o T) H → va_D A (wLAW cI cZ a b cJ o T) → va_S A s.heap H locs → lv_has ls 7 [(0, .ref sb), (1, .ref (a 0)), (2, .ref (b 0)), (3, .ref o), (4, .int y4)] → k23 y4 T → W p l e room_1 s m #[Value.ref sb] below meth c H locs (cn + 1) (sn + 6) (lw_Z below #[Value.ref sb] s) (F0 m 23 ls [])) : ∀ (y4 : Int32) (T : TLW) (H : Heap) (locs : List Loc) (ls : Array Slot), va_P D vwCl (wLAW cI cZ a b cJ o T) H → va_D A (wLAW cI cZ a b cJ o T) → va_S A s.heap H locs → lv_has ls 7 [(0, .ref sb), (1, .ref (a 0)), (2, .ref (b 0)), (3, .ref o), (4, .int y4)] → wp_law_L1132 L xs k23 y4 T → W p l e room_1 s m #[Value.ref sb] below meth c H locs cn sn (lw_Z below #[Value.ref sb] s) (F0 m 1132 ls []) := by
  obtain ⟨hst, hx, hb, hr, hlocks, hml, hown, hts, hX, hbl, hbA, hA, hAf, hKJ, hF, hXF⟩ := id C0
  have hK : va_K D vwCl (tyL cI cZ) s := hKJ.sub [0, 1] rfl
  have hml2 := hml
  intro y4 T H locs ls hP hD hS hl h
  unfold wp_law_L1132 at h
  refine lv_aload_n hx hb dL_law_1132 rfl (lv_at hl 1 rfl) ?_
  refine lv_aload_n hx hb dL_law_1133 rfl (lv_at hl 0 rfl) ?_
  refine lv_iload hx hb dL_law_1134 (lv_at hl 4 rfl) ?_
  refine lv_iconst (v := 1) hx hb dL_law_1136 (by decide) ?_
  refine lv_iadd hx hb dL_law_1137 ?_
  refine va_sld hx hb hX hbl hbA hS h.1 dL_law_1138 ?_
  have h := h.2
  refine cl_i (ws' := fun u215 => (wLAW cI cZ a b cJ o (u215.1, u215.2.1, u215.2.2.1, u215.2.2.2.1, u215.2.2.2.2.1, u215.2.2.2.2.2.1, u215.2.2.2.2.2.2.1, u215.2.2.2.2.2.2.2.1, u215.2.2.2.2.2.2.2.2.1, u215.2.2.2.2.2.2.2.2.2.1, u215.2.2.2.2.2.2.2.2.2.2.1, u215.2.2.2.2.2.2.2.2.2.2.2, T.2.2.2.2.2.2.2.2.2.2.2.2.1, T.2.2.2.2.2.2.2.2.2.2.2.2.2))) (va_runV (As := [.int (xs (Int32.toNatClampNeg (y4 + 1)))]) (rest := []) ⟨hx, hb, hml, hown, hts⟩ (c_X7_splits l D cI cZ a _ (T.1, T.2.1, T.2.2.1, T.2.2.2.1, T.2.2.2.2.1, T.2.2.2.2.2.1, T.2.2.2.2.2.2.1, T.2.2.2.2.2.2.2.1, T.2.2.2.2.2.2.2.2.1, T.2.2.2.2.2.2.2.2.2.1, T.2.2.2.2.2.2.2.2.2.2.1, T.2.2.2.2.2.2.2.2.2.2.2.1) (xs (Int32.toNatClampNeg (y4 + 1))) _ h ) (cwV 1 hts (gV q_831 q_832 q_833 q_67 q_834) rfl rfl rfl (by decide +kernel) ⟨Nat.le_of_ble_eq_true rfl, Nat.le_of_ble_eq_true rfl⟩) (preV_of (ci := 6) (q := (RX7, TX7, 4)) hK hP hD [0, 1, 2, 3, 4, 5, 6, 7, 8, 9, 10, 11, 12, 13, 14, 15, 16, 17, 18, 19, 20, 21, 22, 23, 24, 25, 26, 27, 28, 29, 30, 31, 32, 33, 34, 35, 36, 37, 38, 39, 40, 41, 42, 43, 44, 45, 46, 47, 48, 49, 50, 51, 52, 53] rfl rfl (by decide) 0 rfl rfl) rfl rfl hl.1 rfl (lv_room (Nat.le_of_ble_eq_true rfl)) dL_law_1139 ⟨(by show _ ≤ 1102; omega), (by show _ ≤ 16074; omega)⟩) hP hD hS hA [0, 1, 2, 3, 4, 5, 6, 7, 8, 9, 10, 11, 12, 13, 14, 15, 16, 17, 18, 19, 20, 21, 22, 23, 24, 25, 26, 27, 28, 29, 30, 31, 32, 33, 34, 35, 36, 37, 38, 39, 40, 41, 42, 43, 44, 45, 46, 47, 48, 49, 50, 51, 52, 53] [.inl 0, .inl 1, .inl 2, .inl 3, .inl 4, .inl 5, .inl 6, .inl 7, .inl 8, .inl 9, .inl 10, .inl 11, .inl 12, .inl 13, .inl 14, .inl 15, .inl 16, .inl 17, .inl 18, .inl 19, .inl 20, .inl 21, .inl 22, .inl 23, .inl 24, .inl 25, .inl 26, .inl 27, .inl 28, .inl 29, .inl 30, .inl 31, .inl 32, .inl 33, .inl 34, .inl 35, .inl 36, .inl 37, .inl 38, .inl 39, .inl 40, .inl 41, .inl 42, .inl 43, .inl 44, .inl 45, .inl 46, .inl 47, .inl 48, .inl 49, .inl 50, .inl 51, .inl 52, .inl 53, .inr 54, .inr 55, .inr 56, .inr 57, .inr 58, .inr 59, .inr 60, .inr 61, .inr 62, .inr 63, .inr 64, .inr 65, .inr 66, .inr 67, .inr 68, .inr 69, .inr 70, .inr 71, .inr 72] rfl (by decide) (fun _ => rfl) (fun _ => rfl) (fun r216 u215 H locs h hP hD hS => ?_)
  refine lv_aload_n hx hb dL_law_1142 rfl (lv_at hl 2 rfl) ?_
  refine lv_aload_n hx hb dL_law_1143 rfl (lv_at hl 0 rfl) ?_
  refine lv_iload hx hb dL_law_1144 (lv_at hl 4 rfl) ?_
  refine lv_iconst (v := 1) hx hb dL_law_1146 (by decide) ?_
  refine lv_iadd hx hb dL_law_1147 ?_
  refine va_sld hx hb hX hbl hbA hS h.1 dL_law_1148 ?_
  have h := h.2
  refine cl_i (ws' := fun u217 => (wLAW cI cZ a b cJ o (u215.1, u215.2.1, u215.2.2.1, u215.2.2.2.1, u215.2.2.2.2.1, u215.2.2.2.2.2.1, u215.2.2.2.2.2.2.1, u215.2.2.2.2.2.2.2.1, u215.2.2.2.2.2.2.2.2.1, u215.2.2.2.2.2.2.2.2.2.1, u215.2.2.2.2.2.2.2.2.2.2.1, u215.2.2.2.2.2.2.2.2.2.2.2, u217, T.2.2.2.2.2.2.2.2.2.2.2.2.2))) (va_runV (As := [.int (xs (Int32.toNatClampNeg (y4 + 1)))]) (rest := [.int r216]) ⟨hx, hb, hml, hown, hts⟩ (c_X8_splits l D cI cZ b _ T.2.2.2.2.2.2.2.2.2.2.2.2.1 (xs (Int32.toNatClampNeg (y4 + 1))) _ h ) (cwV 1 hts (gV q_1438 q_1439 q_1440 q_75 q_1441) rfl rfl rfl (by decide +kernel) ⟨Nat.le_of_ble_eq_true rfl, Nat.le_of_ble_eq_true rfl⟩) (preV_of (ci := 7) (q := (RX8, TX8, 25)) hK hP hD [54, 55, 56, 57, 58, 59, 60, 61, 62, 63, 64, 65, 66, 67, 68, 69, 70, 71] rfl rfl (by decide) 54 rfl rfl) rfl rfl hl.1 rfl (lv_room (Nat.le_of_ble_eq_true rfl)) dL_law_1149 ⟨(by show _ ≤ 1102; omega), (by show _ ≤ 16074; omega)⟩) hP hD hS hA [54, 55, 56, 57, 58, 59, 60, 61, 62, 63, 64, 65, 66, 67, 68, 69, 70, 71] [.inr 0, .inr 1, .inr 2, .inr 3, .inr 4, .inr 5, .inr 6, .inr 7, .inr 8, .inr 9, .inr 10, .inr 11, .inr 12, .inr 13, .inr 14, .inr 15, .inr 16, .inr 17, .inr 18, .inr 19, .inr 20, .inr 21, .inr 22, .inr 23, .inr 24, .inr 25, .inr 26, .inr 27, .inr 28, .inr 29, .inr 30, .inr 31, .inr 32, .inr 33, .inr 34, .inr 35, .inr 36, .inr 37, .inr 38, .inr 39, .inr 40, .inr 41, .inr 42, .inr 43, .inr 44, .inr 45, .inr 46, .inr 47, .inr 48, .inr 49, .inr 50, .inr 51, .inr 52, .inr 53, .inl 0, .inl 1, .inl 2, .inl 3, .inl 4, .inl 5, .inl 6, .inl 7, .inl 8, .inl 9, .inl 10, .inl 11, .inl 12, .inl 13, .inl 14, .inl 15, .inl 16, .inl 17, .inr 72] rfl (by decide) (fun _ => rfl) (fun _ => rfl) (fun r218 u217 H locs h hP hD hS => ?_)
  refine lv_icmp_eq (tgt := 1430) hx hb dL_law_1152 (by decide) (fun c219 => ?_) (fun c219 => ?_)
  · have h := h.1 c219
    refine W.widen (k := cn + 1) (n := sn + 6) (by omega) (by omega) ?_
    obtain ⟨x220, ex220⟩ : ∃ y : Int32, y = (y4 + 4) := ⟨_, rfl⟩
    have h := h x220 ex220
    refine lv_iinc (v := x220) (lv' := [(4, .int x220), (0, .ref sb), (1, .ref (a 0)), (2, .ref (b 0)), (3, .ref o)]) hx hb dL_law_1430 hl (k := 4) rfl (by rw [ex220]; rfl) (by decide) rfl (fun ls hl => ?_)
    refine lv_goto (tgt := 23) hx hb dL_law_1433 (by decide) ?_
    exact K23 x220 (u215.1, u215.2.1, u215.2.2.1, u215.2.2.2.1, u215.2.2.2.2.1, u215.2.2.2.2.2.1, u215.2.2.2.2.2.2.1, u215.2.2.2.2.2.2.2.1, u215.2.2.2.2.2.2.2.2.1, u215.2.2.2.2.2.2.2.2.2.1, u215.2.2.2.2.2.2.2.2.2.2.1, u215.2.2.2.2.2.2.2.2.2.2.2, u217, T.2.2.2.2.2.2.2.2.2.2.2.2.2) _ _ _ hP hD hS (lv_sub hl [1, 2, 3, 4, 0] rfl) h
  · have h := h.2 c219
    refine lv_iconst (v := 0) hx hb dL_law_1155 (by decide) ?_
    exact h.elim
set_option maxHeartbeats 4000000 in
set_option maxRecDepth 100000 in
theorem law_L1157 {p : Program} {l : Launch} {e : Env} {s : State} {m : MethodId} {below : List Frame} {meth : Method} {c : Code} {D : va_G} {cI cZ cJ : ClassId} {a b : Nat → Nat} {o sb L : Nat} {xs : Nat → Int32} {A : Nat → Prop} (C0 : lawC p l s m meth c D cI cZ cJ sb L xs A) {cn sn : Nat} (hcn : cn + 1 ≤ 1102) (hsn : sn + 6 ≤ 16074) (k23 : Int32 → TLW → Prop) (K23 : ∀ (y4 : Int32) (T : TLW) (H : Heap) (locs : List Loc) (ls : Array Slot), va_P D vwCl (wLAW cI cZ a b cJ o T) H → va_D A (wLAW cI cZ a b cJ o T) → va_S A s.heap H locs → lv_has ls 7 [(0, .ref sb), (1, .ref (a 0)), (2, .ref (b 0)), (3, .ref o), (4, .int y4)] → k23 y4 T → W p l e room_1 s m #[Value.ref sb] below meth c H locs (cn + 1) (sn + 6) (lw_Z below #[Value.ref sb] s) (F0 m 23 ls [])) : ∀ (y4 : Int32) (T : TLW) (H : Heap) (locs : List Loc) (ls : Array Slot), va_P D vwCl (wLAW cI cZ a b cJ o T) H → va_D A (wLAW cI cZ a b cJ o T) → va_S A s.heap H locs → lv_has ls 7 [(0, .ref sb), (1, .ref (a 0)), (2, .ref (b 0)), (3, .ref o), (4, .int y4)] → wp_law_L1157 L xs k23 y4 T → W p l e room_1 s m #[Value.ref sb] below meth c H locs cn sn (lw_Z below #[Value.ref sb] s) (F0 m 1157 ls []) := by
  obtain ⟨hst, hx, hb, hr, hlocks, hml, hown, hts, hX, hbl, hbA, hA, hAf, hKJ, hF, hXF⟩ := id C0
  have hK : va_K D vwCl (tyL cI cZ) s := hKJ.sub [0, 1] rfl
  have hml2 := hml
  intro y4 T H locs ls hP hD hS hl h
  unfold wp_law_L1157 at h
  refine lv_aload_n hx hb dL_law_1157 rfl (lv_at hl 1 rfl) ?_
  refine lv_aload_n hx hb dL_law_1158 rfl (lv_at hl 0 rfl) ?_
  refine lv_iload hx hb dL_law_1159 (lv_at hl 4 rfl) ?_
  refine lv_iconst (v := 1) hx hb dL_law_1161 (by decide) ?_
  refine lv_iadd hx hb dL_law_1162 ?_
  refine va_sld hx hb hX hbl hbA hS h.1 dL_law_1163 ?_
  have h := h.2
  refine cl_i (ws' := fun u221 => (wLAW cI cZ a b cJ o (u221.1, u221.2.1, u221.2.2.1, u221.2.2.2.1, u221.2.2.2.2.1, u221.2.2.2.2.2.1, u221.2.2.2.2.2.2.1, u221.2.2.2.2.2.2.2.1, u221.2.2.2.2.2.2.2.2.1, u221.2.2.2.2.2.2.2.2.2.1, u221.2.2.2.2.2.2.2.2.2.2.1, u221.2.2.2.2.2.2.2.2.2.2.2, T.2.2.2.2.2.2.2.2.2.2.2.2.1, T.2.2.2.2.2.2.2.2.2.2.2.2.2))) (va_runV (As := [.int (xs (Int32.toNatClampNeg (y4 + 1)))]) (rest := []) ⟨hx, hb, hml, hown, hts⟩ (c_X7_escalates l D cI cZ a _ (T.1, T.2.1, T.2.2.1, T.2.2.2.1, T.2.2.2.2.1, T.2.2.2.2.2.1, T.2.2.2.2.2.2.1, T.2.2.2.2.2.2.2.1, T.2.2.2.2.2.2.2.2.1, T.2.2.2.2.2.2.2.2.2.1, T.2.2.2.2.2.2.2.2.2.2.1, T.2.2.2.2.2.2.2.2.2.2.2.1) (xs (Int32.toNatClampNeg (y4 + 1))) _ h ) (cwV 1 hts (gV q_836 q_837 q_838 q_67 q_839) rfl rfl rfl (by decide +kernel) ⟨Nat.le_of_ble_eq_true rfl, Nat.le_of_ble_eq_true rfl⟩) (preV_of (ci := 6) (q := (RX7, TX7, 4)) hK hP hD [0, 1, 2, 3, 4, 5, 6, 7, 8, 9, 10, 11, 12, 13, 14, 15, 16, 17, 18, 19, 20, 21, 22, 23, 24, 25, 26, 27, 28, 29, 30, 31, 32, 33, 34, 35, 36, 37, 38, 39, 40, 41, 42, 43, 44, 45, 46, 47, 48, 49, 50, 51, 52, 53] rfl rfl (by decide) 0 rfl rfl) rfl rfl hl.1 rfl (lv_room (Nat.le_of_ble_eq_true rfl)) dL_law_1164 ⟨(by show _ ≤ 1102; omega), (by show _ ≤ 16074; omega)⟩) hP hD hS hA [0, 1, 2, 3, 4, 5, 6, 7, 8, 9, 10, 11, 12, 13, 14, 15, 16, 17, 18, 19, 20, 21, 22, 23, 24, 25, 26, 27, 28, 29, 30, 31, 32, 33, 34, 35, 36, 37, 38, 39, 40, 41, 42, 43, 44, 45, 46, 47, 48, 49, 50, 51, 52, 53] [.inl 0, .inl 1, .inl 2, .inl 3, .inl 4, .inl 5, .inl 6, .inl 7, .inl 8, .inl 9, .inl 10, .inl 11, .inl 12, .inl 13, .inl 14, .inl 15, .inl 16, .inl 17, .inl 18, .inl 19, .inl 20, .inl 21, .inl 22, .inl 23, .inl 24, .inl 25, .inl 26, .inl 27, .inl 28, .inl 29, .inl 30, .inl 31, .inl 32, .inl 33, .inl 34, .inl 35, .inl 36, .inl 37, .inl 38, .inl 39, .inl 40, .inl 41, .inl 42, .inl 43, .inl 44, .inl 45, .inl 46, .inl 47, .inl 48, .inl 49, .inl 50, .inl 51, .inl 52, .inl 53, .inr 54, .inr 55, .inr 56, .inr 57, .inr 58, .inr 59, .inr 60, .inr 61, .inr 62, .inr 63, .inr 64, .inr 65, .inr 66, .inr 67, .inr 68, .inr 69, .inr 70, .inr 71, .inr 72] rfl (by decide) (fun _ => rfl) (fun _ => rfl) (fun r222 u221 H locs h hP hD hS => ?_)
  refine lv_aload_n hx hb dL_law_1167 rfl (lv_at hl 2 rfl) ?_
  refine lv_aload_n hx hb dL_law_1168 rfl (lv_at hl 0 rfl) ?_
  refine lv_iload hx hb dL_law_1169 (lv_at hl 4 rfl) ?_
  refine lv_iconst (v := 1) hx hb dL_law_1171 (by decide) ?_
  refine lv_iadd hx hb dL_law_1172 ?_
  refine va_sld hx hb hX hbl hbA hS h.1 dL_law_1173 ?_
  have h := h.2
  refine cl_i (ws' := fun u223 => (wLAW cI cZ a b cJ o (u221.1, u221.2.1, u221.2.2.1, u221.2.2.2.1, u221.2.2.2.2.1, u221.2.2.2.2.2.1, u221.2.2.2.2.2.2.1, u221.2.2.2.2.2.2.2.1, u221.2.2.2.2.2.2.2.2.1, u221.2.2.2.2.2.2.2.2.2.1, u221.2.2.2.2.2.2.2.2.2.2.1, u221.2.2.2.2.2.2.2.2.2.2.2, u223, T.2.2.2.2.2.2.2.2.2.2.2.2.2))) (va_runV (As := [.int (xs (Int32.toNatClampNeg (y4 + 1)))]) (rest := [.int r222]) ⟨hx, hb, hml, hown, hts⟩ (c_X8_escalates l D cI cZ b _ T.2.2.2.2.2.2.2.2.2.2.2.2.1 (xs (Int32.toNatClampNeg (y4 + 1))) _ h ) (cwV 1 hts (gV q_1442 q_1443 q_1444 q_75 q_1445) rfl rfl rfl (by decide +kernel) ⟨Nat.le_of_ble_eq_true rfl, Nat.le_of_ble_eq_true rfl⟩) (preV_of (ci := 7) (q := (RX8, TX8, 25)) hK hP hD [54, 55, 56, 57, 58, 59, 60, 61, 62, 63, 64, 65, 66, 67, 68, 69, 70, 71] rfl rfl (by decide) 54 rfl rfl) rfl rfl hl.1 rfl (lv_room (Nat.le_of_ble_eq_true rfl)) dL_law_1174 ⟨(by show _ ≤ 1102; omega), (by show _ ≤ 16074; omega)⟩) hP hD hS hA [54, 55, 56, 57, 58, 59, 60, 61, 62, 63, 64, 65, 66, 67, 68, 69, 70, 71] [.inr 0, .inr 1, .inr 2, .inr 3, .inr 4, .inr 5, .inr 6, .inr 7, .inr 8, .inr 9, .inr 10, .inr 11, .inr 12, .inr 13, .inr 14, .inr 15, .inr 16, .inr 17, .inr 18, .inr 19, .inr 20, .inr 21, .inr 22, .inr 23, .inr 24, .inr 25, .inr 26, .inr 27, .inr 28, .inr 29, .inr 30, .inr 31, .inr 32, .inr 33, .inr 34, .inr 35, .inr 36, .inr 37, .inr 38, .inr 39, .inr 40, .inr 41, .inr 42, .inr 43, .inr 44, .inr 45, .inr 46, .inr 47, .inr 48, .inr 49, .inr 50, .inr 51, .inr 52, .inr 53, .inl 0, .inl 1, .inl 2, .inl 3, .inl 4, .inl 5, .inl 6, .inl 7, .inl 8, .inl 9, .inl 10, .inl 11, .inl 12, .inl 13, .inl 14, .inl 15, .inl 16, .inl 17, .inr 72] rfl (by decide) (fun _ => rfl) (fun _ => rfl) (fun r224 u223 H locs h hP hD hS => ?_)
  refine lv_icmp_eq (tgt := 1430) hx hb dL_law_1177 (by decide) (fun c225 => ?_) (fun c225 => ?_)
  · have h := h.1 c225
    refine W.widen (k := cn + 1) (n := sn + 6) (by omega) (by omega) ?_
    obtain ⟨x226, ex226⟩ : ∃ y : Int32, y = (y4 + 4) := ⟨_, rfl⟩
    have h := h x226 ex226
    refine lv_iinc (v := x226) (lv' := [(4, .int x226), (0, .ref sb), (1, .ref (a 0)), (2, .ref (b 0)), (3, .ref o)]) hx hb dL_law_1430 hl (k := 4) rfl (by rw [ex226]; rfl) (by decide) rfl (fun ls hl => ?_)
    refine lv_goto (tgt := 23) hx hb dL_law_1433 (by decide) ?_
    exact K23 x226 (u221.1, u221.2.1, u221.2.2.1, u221.2.2.2.1, u221.2.2.2.2.1, u221.2.2.2.2.2.1, u221.2.2.2.2.2.2.1, u221.2.2.2.2.2.2.2.1, u221.2.2.2.2.2.2.2.2.1, u221.2.2.2.2.2.2.2.2.2.1, u221.2.2.2.2.2.2.2.2.2.2.1, u221.2.2.2.2.2.2.2.2.2.2.2, u223, T.2.2.2.2.2.2.2.2.2.2.2.2.2) _ _ _ hP hD hS (lv_sub hl [1, 2, 3, 4, 0] rfl) h
  · have h := h.2 c225
    refine lv_iconst (v := 0) hx hb dL_law_1180 (by decide) ?_
    exact h.elim
