set_option maxHeartbeats 4000000 in
set_option maxRecDepth 100000 in
theorem law_L1182 {p : Program} {l : Launch} {e : Env} {s : State} {m : MethodId} {below : List Frame} {meth : Method} {c : Code} {D : va_G} {cI cZ cJ : ClassId} {a b : Nat → Nat} {o sb L : Nat} {xs : Nat → Int32} {A : Nat → Prop} (C0 : lawC p l s m meth c D cI cZ cJ sb L xs A) {cn sn : Nat} (hcn : cn + 1 ≤ 1102) (hsn : sn + 6 ≤ 16074) (k23 : Int32 → TLW → Prop) (K23 : ∀ (y4 : Int32) (T : TLW) (H : Heap) (locs : List Loc) (ls : Array Slot), va_P D vwCl (wLAW cI cZ a b cJ o T) H → va_D A (wLAW cI cZ a b cJ o T) → va_S A s.heap H locs → lv_has ls 7 [(0, .ref sb), (1, .ref (a 0)), (2, .ref (b 0)), (3, .ref o), (4, .int y4)] → k23 y4 T → W p l e room_1 s m #[Value.ref sb] below meth c H locs (cn + 1) (sn + 6) (lw_Z below #[Value.ref sb] s) (F0 m 23 ls [])) : ∀ (y4 : Int32) (T : TLW) (H : Heap) (locs : List Loc) (ls : Array Slot), va_P D vwCl (wLAW cI cZ a b cJ o T) H → va_D A (wLAW cI cZ a b cJ o T) → va_S A s.heap H locs → lv_has ls 7 [(0, .ref sb), (1, .ref (a 0)), (2, .ref (b 0)), (3, .ref o), (4, .int y4)] → wp_law_L1182 L xs k23 y4 T → W p l e room_1 s m #[Value.ref sb] below meth c H locs cn sn (lw_Z below #[Value.ref sb] s) (F0 m 1182 ls []) := by
  obtain ⟨hst, hx, hb, hr, hlocks, hml, hown, hts, hX, hbl, hbA, hA, hAf, hKJ, hF, hXF⟩ := id C0
  have hK : va_K D vwCl (tyL cI cZ) s := hKJ.sub [0, 1] rfl
  have hml2 := hml
  intro y4 T H locs ls hP hD hS hl h
  unfold wp_law_L1182 at h
  refine lv_aload_n hx hb dL_law_1182 rfl (lv_at hl 1 rfl) ?_
  refine lv_aload_n hx hb dL_law_1183 rfl (lv_at hl 0 rfl) ?_
  refine lv_iload hx hb dL_law_1184 (lv_at hl 4 rfl) ?_
  refine lv_iconst (v := 1) hx hb dL_law_1186 (by decide) ?_
  refine lv_iadd hx hb dL_law_1187 ?_
  refine va_sld hx hb hX hbl hbA hS h.1 dL_law_1188 ?_
  have h := h.2
  refine cl_i (ws' := fun u227 => (wLAW cI cZ a b cJ o (u227.1, u227.2.1, u227.2.2.1, u227.2.2.2.1, u227.2.2.2.2.1, u227.2.2.2.2.2.1, u227.2.2.2.2.2.2.1, u227.2.2.2.2.2.2.2.1, u227.2.2.2.2.2.2.2.2.1, u227.2.2.2.2.2.2.2.2.2.1, u227.2.2.2.2.2.2.2.2.2.2.1, u227.2.2.2.2.2.2.2.2.2.2.2, T.2.2.2.2.2.2.2.2.2.2.2.2.1, T.2.2.2.2.2.2.2.2.2.2.2.2.2))) (va_runV (As := [.int (xs (Int32.toNatClampNeg (y4 + 1)))]) (rest := []) ⟨hx, hb, hml, hown, hts⟩ (c_X7_soon l D cI cZ a _ (T.1, T.2.1, T.2.2.1, T.2.2.2.1, T.2.2.2.2.1, T.2.2.2.2.2.1, T.2.2.2.2.2.2.1, T.2.2.2.2.2.2.2.1, T.2.2.2.2.2.2.2.2.1, T.2.2.2.2.2.2.2.2.2.1, T.2.2.2.2.2.2.2.2.2.2.1, T.2.2.2.2.2.2.2.2.2.2.2.1) (xs (Int32.toNatClampNeg (y4 + 1))) _ h ) (cwV 1 hts (gV q_841 q_842 q_843 q_67 q_844) rfl rfl rfl (by decide +kernel) ⟨Nat.le_of_ble_eq_true rfl, Nat.le_of_ble_eq_true rfl⟩) (preTV_of (ci := 6) (q := (RX7, TX7, 4)) hF hS hA hK hP hD [0, 1, 2, 3, 4, 5, 6, 7, 8, 9, 10, 11, 12, 13, 14, 15, 16, 17, 18, 19, 20, 21, 22, 23, 24, 25, 26, 27, 28, 29, 30, 31, 32, 33, 34, 35, 36, 37, 38, 39, 40, 41, 42, 43, 44, 45, 46, 47, 48, 49, 50, 51, 52, 53] rfl rfl (by decide) 0 rfl rfl) rfl rfl hl.1 rfl (lv_room (Nat.le_of_ble_eq_true rfl)) dL_law_1189 ⟨(by show _ ≤ 1102; omega), (by show _ ≤ 16074; omega)⟩) hP hD hS hA [0, 1, 2, 3, 4, 5, 6, 7, 8, 9, 10, 11, 12, 13, 14, 15, 16, 17, 18, 19, 20, 21, 22, 23, 24, 25, 26, 27, 28, 29, 30, 31, 32, 33, 34, 35, 36, 37, 38, 39, 40, 41, 42, 43, 44, 45, 46, 47, 48, 49, 50, 51, 52, 53] [.inl 0, .inl 1, .inl 2, .inl 3, .inl 4, .inl 5, .inl 6, .inl 7, .inl 8, .inl 9, .inl 10, .inl 11, .inl 12, .inl 13, .inl 14, .inl 15, .inl 16, .inl 17, .inl 18, .inl 19, .inl 20, .inl 21, .inl 22, .inl 23, .inl 24, .inl 25, .inl 26, .inl 27, .inl 28, .inl 29, .inl 30, .inl 31, .inl 32, .inl 33, .inl 34, .inl 35, .inl 36, .inl 37, .inl 38, .inl 39, .inl 40, .inl 41, .inl 42, .inl 43, .inl 44, .inl 45, .inl 46, .inl 47, .inl 48, .inl 49, .inl 50, .inl 51, .inl 52, .inl 53, .inr 54, .inr 55, .inr 56, .inr 57, .inr 58, .inr 59, .inr 60, .inr 61, .inr 62, .inr 63, .inr 64, .inr 65, .inr 66, .inr 67, .inr 68, .inr 69, .inr 70, .inr 71, .inr 72] rfl (by decide) (fun _ => rfl) (fun _ => rfl) (fun r228 u227 H locs h hP hD hS => ?_)
  refine lv_aload_n hx hb dL_law_1192 rfl (lv_at hl 2 rfl) ?_
  refine lv_aload_n hx hb dL_law_1193 rfl (lv_at hl 0 rfl) ?_
  refine lv_iload hx hb dL_law_1194 (lv_at hl 4 rfl) ?_
  refine lv_iconst (v := 1) hx hb dL_law_1196 (by decide) ?_
  refine lv_iadd hx hb dL_law_1197 ?_
  refine va_sld hx hb hX hbl hbA hS h.1 dL_law_1198 ?_
  have h := h.2
  refine cl_i (ws' := fun u229 => (wLAW cI cZ a b cJ o (u227.1, u227.2.1, u227.2.2.1, u227.2.2.2.1, u227.2.2.2.2.1, u227.2.2.2.2.2.1, u227.2.2.2.2.2.2.1, u227.2.2.2.2.2.2.2.1, u227.2.2.2.2.2.2.2.2.1, u227.2.2.2.2.2.2.2.2.2.1, u227.2.2.2.2.2.2.2.2.2.2.1, u227.2.2.2.2.2.2.2.2.2.2.2, u229, T.2.2.2.2.2.2.2.2.2.2.2.2.2))) (va_runV (As := [.int (xs (Int32.toNatClampNeg (y4 + 1)))]) (rest := [.int r228]) ⟨hx, hb, hml, hown, hts⟩ (c_X8_soon l D cI cZ b _ T.2.2.2.2.2.2.2.2.2.2.2.2.1 (xs (Int32.toNatClampNeg (y4 + 1))) _ h ) (cwV 1 hts (gV q_1446 q_1447 q_1448 q_75 q_1449) rfl rfl rfl (by decide +kernel) ⟨Nat.le_of_ble_eq_true rfl, Nat.le_of_ble_eq_true rfl⟩) (preTV_of (ci := 7) (q := (RX8, TX8, 25)) hF hS hA hK hP hD [54, 55, 56, 57, 58, 59, 60, 61, 62, 63, 64, 65, 66, 67, 68, 69, 70, 71] rfl rfl (by decide) 54 rfl rfl) rfl rfl hl.1 rfl (lv_room (Nat.le_of_ble_eq_true rfl)) dL_law_1199 ⟨(by show _ ≤ 1102; omega), (by show _ ≤ 16074; omega)⟩) hP hD hS hA [54, 55, 56, 57, 58, 59, 60, 61, 62, 63, 64, 65, 66, 67, 68, 69, 70, 71] [.inr 0, .inr 1, .inr 2, .inr 3, .inr 4, .inr 5, .inr 6, .inr 7, .inr 8, .inr 9, .inr 10, .inr 11, .inr 12, .inr 13, .inr 14, .inr 15, .inr 16, .inr 17, .inr 18, .inr 19, .inr 20, .inr 21, .inr 22, .inr 23, .inr 24, .inr 25, .inr 26, .inr 27, .inr 28, .inr 29, .inr 30, .inr 31, .inr 32, .inr 33, .inr 34, .inr 35, .inr 36, .inr 37, .inr 38, .inr 39, .inr 40, .inr 41, .inr 42, .inr 43, .inr 44, .inr 45, .inr 46, .inr 47, .inr 48, .inr 49, .inr 50, .inr 51, .inr 52, .inr 53, .inl 0, .inl 1, .inl 2, .inl 3, .inl 4, .inl 5, .inl 6, .inl 7, .inl 8, .inl 9, .inl 10, .inl 11, .inl 12, .inl 13, .inl 14, .inl 15, .inl 16, .inl 17, .inr 72] rfl (by decide) (fun _ => rfl) (fun _ => rfl) (fun r230 u229 H locs h hP hD hS => ?_)
  refine lv_icmp_eq (tgt := 1430) hx hb dL_law_1202 (by decide) (fun c231 => ?_) (fun c231 => ?_)
  · have h := h.1 c231
    refine W.widen (k := cn + 1) (n := sn + 6) (by omega) (by omega) ?_
    obtain ⟨x232, ex232⟩ : ∃ y : Int32, y = (y4 + 4) := ⟨_, rfl⟩
    have h := h x232 ex232
    refine lv_iinc (v := x232) (lv' := [(4, .int x232), (0, .ref sb), (1, .ref (a 0)), (2, .ref (b 0)), (3, .ref o)]) hx hb dL_law_1430 hl (k := 4) rfl (by rw [ex232]; rfl) (by decide) rfl (fun ls hl => ?_)
    refine lv_goto (tgt := 23) hx hb dL_law_1433 (by decide) ?_
    exact K23 x232 (u227.1, u227.2.1, u227.2.2.1, u227.2.2.2.1, u227.2.2.2.2.1, u227.2.2.2.2.2.1, u227.2.2.2.2.2.2.1, u227.2.2.2.2.2.2.2.1, u227.2.2.2.2.2.2.2.2.1, u227.2.2.2.2.2.2.2.2.2.1, u227.2.2.2.2.2.2.2.2.2.2.1, u227.2.2.2.2.2.2.2.2.2.2.2, u229, T.2.2.2.2.2.2.2.2.2.2.2.2.2) _ _ _ hP hD hS (lv_sub hl [1, 2, 3, 4, 0] rfl) h
  · have h := h.2 c231
    refine lv_iconst (v := 0) hx hb dL_law_1205 (by decide) ?_
    exact h.elim
set_option maxHeartbeats 4000000 in
set_option maxRecDepth 100000 in
theorem law_L1207 {p : Program} {l : Launch} {e : Env} {s : State} {m : MethodId} {below : List Frame} {meth : Method} {c : Code} {D : va_G} {cI cZ cJ : ClassId} {a b : Nat → Nat} {o sb L : Nat} {xs : Nat → Int32} {A : Nat → Prop} (C0 : lawC p l s m meth c D cI cZ cJ sb L xs A) {cn sn : Nat} (hcn : cn + 1 ≤ 1102) (hsn : sn + 6 ≤ 16074) (k23 : Int32 → TLW → Prop) (K23 : ∀ (y4 : Int32) (T : TLW) (H : Heap) (locs : List Loc) (ls : Array Slot), va_P D vwCl (wLAW cI cZ a b cJ o T) H → va_D A (wLAW cI cZ a b cJ o T) → va_S A s.heap H locs → lv_has ls 7 [(0, .ref sb), (1, .ref (a 0)), (2, .ref (b 0)), (3, .ref o), (4, .int y4)] → k23 y4 T → W p l e room_1 s m #[Value.ref sb] below meth c H locs (cn + 1) (sn + 6) (lw_Z below #[Value.ref sb] s) (F0 m 23 ls [])) : ∀ (y4 : Int32) (T : TLW) (H : Heap) (locs : List Loc) (ls : Array Slot), va_P D vwCl (wLAW cI cZ a b cJ o T) H → va_D A (wLAW cI cZ a b cJ o T) → va_S A s.heap H locs → lv_has ls 7 [(0, .ref sb), (1, .ref (a 0)), (2, .ref (b 0)), (3, .ref o), (4, .int y4)] → wp_law_L1207 L xs k23 y4 T → W p l e room_1 s m #[Value.ref sb] below meth c H locs cn sn (lw_Z below #[Value.ref sb] s) (F0 m 1207 ls []) := by
  obtain ⟨hst, hx, hb, hr, hlocks, hml, hown, hts, hX, hbl, hbA, hA, hAf, hKJ, hF, hXF⟩ := id C0
  have hK : va_K D vwCl (tyL cI cZ) s := hKJ.sub [0, 1] rfl
  have hml2 := hml
  intro y4 T H locs ls hP hD hS hl h
  unfold wp_law_L1207 at h
  refine lv_aload_n hx hb dL_law_1207 rfl (lv_at hl 1 rfl) ?_
  refine lv_aload_n hx hb dL_law_1208 rfl (lv_at hl 0 rfl) ?_
  refine lv_iload hx hb dL_law_1209 (lv_at hl 4 rfl) ?_
  refine lv_iconst (v := 1) hx hb dL_law_1211 (by decide) ?_
  refine lv_iadd hx hb dL_law_1212 ?_
  refine va_sld hx hb hX hbl hbA hS h.1 dL_law_1213 ?_
  have h := h.2
  refine lv_aload_n hx hb dL_law_1214 rfl (lv_at hl 0 rfl) ?_
  refine lv_iload hx hb dL_law_1215 (lv_at hl 4 rfl) ?_
  refine lv_iconst (v := 2) hx hb dL_law_1217 (by decide) ?_
  refine lv_iadd hx hb dL_law_1218 ?_
  refine va_sld hx hb hX hbl hbA hS h.1 dL_law_1219 ?_
  have h := h.2
  refine lv_if_eq (tgt := 1227) hx hb dL_law_1220 (by decide) (fun c233 => ?_) (fun c233 => ?_)
  · have h := h.1 c233
    refine lv_iconst (v := 0) hx hb dL_law_1227 (by decide) ?_
    refine cl_i (ws' := fun u234 => (wLAW cI cZ a b cJ o (u234.1, u234.2.1, u234.2.2.1, u234.2.2.2.1, u234.2.2.2.2.1, u234.2.2.2.2.2.1, u234.2.2.2.2.2.2.1, u234.2.2.2.2.2.2.2.1, u234.2.2.2.2.2.2.2.2.1, u234.2.2.2.2.2.2.2.2.2.1, u234.2.2.2.2.2.2.2.2.2.2.1, u234.2.2.2.2.2.2.2.2.2.2.2, T.2.2.2.2.2.2.2.2.2.2.2.2.1, T.2.2.2.2.2.2.2.2.2.2.2.2.2))) (va_runV (As := [.int (xs (Int32.toNatClampNeg (y4 + 1))), .int 0]) (rest := []) ⟨hx, hb, hml, hown, hts⟩ (c_X7_order l D cI cZ a _ (T.1, T.2.1, T.2.2.1, T.2.2.2.1, T.2.2.2.2.1, T.2.2.2.2.2.1, T.2.2.2.2.2.2.1, T.2.2.2.2.2.2.2.1, T.2.2.2.2.2.2.2.2.1, T.2.2.2.2.2.2.2.2.2.1, T.2.2.2.2.2.2.2.2.2.2.1, T.2.2.2.2.2.2.2.2.2.2.2.1) (xs (Int32.toNatClampNeg (y4 + 1))) 0 _ h ) (cwV 2 hts (gV q_862 q_863 q_864 q_67 q_865) rfl rfl rfl (by decide +kernel) ⟨Nat.le_of_ble_eq_true rfl, Nat.le_of_ble_eq_true rfl⟩) (preTV_of (ci := 6) (q := (RX7, TX7, 4)) hF hS hA hK hP hD [0, 1, 2, 3, 4, 5, 6, 7, 8, 9, 10, 11, 12, 13, 14, 15, 16, 17, 18, 19, 20, 21, 22, 23, 24, 25, 26, 27, 28, 29, 30, 31, 32, 33, 34, 35, 36, 37, 38, 39, 40, 41, 42, 43, 44, 45, 46, 47, 48, 49, 50, 51, 52, 53] rfl rfl (by decide) 0 rfl rfl) rfl rfl hl.1 rfl (lv_room (Nat.le_of_ble_eq_true rfl)) dL_law_1228 ⟨(by show _ ≤ 1102; omega), (by show _ ≤ 16074; omega)⟩) hP hD hS hA [0, 1, 2, 3, 4, 5, 6, 7, 8, 9, 10, 11, 12, 13, 14, 15, 16, 17, 18, 19, 20, 21, 22, 23, 24, 25, 26, 27, 28, 29, 30, 31, 32, 33, 34, 35, 36, 37, 38, 39, 40, 41, 42, 43, 44, 45, 46, 47, 48, 49, 50, 51, 52, 53] [.inl 0, .inl 1, .inl 2, .inl 3, .inl 4, .inl 5, .inl 6, .inl 7, .inl 8, .inl 9, .inl 10, .inl 11, .inl 12, .inl 13, .inl 14, .inl 15, .inl 16, .inl 17, .inl 18, .inl 19, .inl 20, .inl 21, .inl 22, .inl 23, .inl 24, .inl 25, .inl 26, .inl 27, .inl 28, .inl 29, .inl 30, .inl 31, .inl 32, .inl 33, .inl 34, .inl 35, .inl 36, .inl 37, .inl 38, .inl 39, .inl 40, .inl 41, .inl 42, .inl 43, .inl 44, .inl 45, .inl 46, .inl 47, .inl 48, .inl 49, .inl 50, .inl 51, .inl 52, .inl 53, .inr 54, .inr 55, .inr 56, .inr 57, .inr 58, .inr 59, .inr 60, .inr 61, .inr 62, .inr 63, .inr 64, .inr 65, .inr 66, .inr 67, .inr 68, .inr 69, .inr 70, .inr 71, .inr 72] rfl (by decide) (fun _ => rfl) (fun _ => rfl) (fun r235 u234 H locs h hP hD hS => ?_)
    refine lv_aload_n hx hb dL_law_1231 rfl (lv_at hl 2 rfl) ?_
    refine lv_aload_n hx hb dL_law_1232 rfl (lv_at hl 0 rfl) ?_
    refine lv_iload hx hb dL_law_1233 (lv_at hl 4 rfl) ?_
    refine lv_iconst (v := 1) hx hb dL_law_1235 (by decide) ?_
    refine lv_iadd hx hb dL_law_1236 ?_
    refine va_sld hx hb hX hbl hbA hS h.1 dL_law_1237 ?_
    have h := h.2
    refine lv_aload_n hx hb dL_law_1238 rfl (lv_at hl 0 rfl) ?_
    refine lv_iload hx hb dL_law_1239 (lv_at hl 4 rfl) ?_
    refine lv_iconst (v := 2) hx hb dL_law_1241 (by decide) ?_
    refine lv_iadd hx hb dL_law_1242 ?_
    refine va_sld hx hb hX hbl hbA hS h.1 dL_law_1243 ?_
    have h := h.2
    refine lv_if_eq (tgt := 1251) hx hb dL_law_1244 (by decide) (fun c236 => ?_) (fun c236 => ?_)
    · have h := h.1 c236
      refine lv_iconst (v := 0) hx hb dL_law_1251 (by decide) ?_
      refine cl_i (ws' := fun u237 => (wLAW cI cZ a b cJ o (u234.1, u234.2.1, u234.2.2.1, u234.2.2.2.1, u234.2.2.2.2.1, u234.2.2.2.2.2.1, u234.2.2.2.2.2.2.1, u234.2.2.2.2.2.2.2.1, u234.2.2.2.2.2.2.2.2.1, u234.2.2.2.2.2.2.2.2.2.1, u234.2.2.2.2.2.2.2.2.2.2.1, u234.2.2.2.2.2.2.2.2.2.2.2, u237, T.2.2.2.2.2.2.2.2.2.2.2.2.2))) (va_runV (As := [.int (xs (Int32.toNatClampNeg (y4 + 1))), .int 0]) (rest := [.int r235]) ⟨hx, hb, hml, hown, hts⟩ (c_X8_order l D cI cZ b _ T.2.2.2.2.2.2.2.2.2.2.2.2.1 (xs (Int32.toNatClampNeg (y4 + 1))) 0 _ h ) (cwV 2 hts (gV q_1454 q_1455 q_1456 q_75 q_1457) rfl rfl rfl (by decide +kernel) ⟨Nat.le_of_ble_eq_true rfl, Nat.le_of_ble_eq_true rfl⟩) (preTV_of (ci := 7) (q := (RX8, TX8, 25)) hF hS hA hK hP hD [54, 55, 56, 57, 58, 59, 60, 61, 62, 63, 64, 65, 66, 67, 68, 69, 70, 71] rfl rfl (by decide) 54 rfl rfl) rfl rfl hl.1 rfl (lv_room (Nat.le_of_ble_eq_true rfl)) dL_law_1252 ⟨(by show _ ≤ 1102; omega), (by show _ ≤ 16074; omega)⟩) hP hD hS hA [54, 55, 56, 57, 58, 59, 60, 61, 62, 63, 64, 65, 66, 67, 68, 69, 70, 71] [.inr 0, .inr 1, .inr 2, .inr 3, .inr 4, .inr 5, .inr 6, .inr 7, .inr 8, .inr 9, .inr 10, .inr 11, .inr 12, .inr 13, .inr 14, .inr 15, .inr 16, .inr 17, .inr 18, .inr 19, .inr 20, .inr 21, .inr 22, .inr 23, .inr 24, .inr 25, .inr 26, .inr 27, .inr 28, .inr 29, .inr 30, .inr 31, .inr 32, .inr 33, .inr 34, .inr 35, .inr 36, .inr 37, .inr 38, .inr 39, .inr 40, .inr 41, .inr 42, .inr 43, .inr 44, .inr 45, .inr 46, .inr 47, .inr 48, .inr 49, .inr 50, .inr 51, .inr 52, .inr 53, .inl 0, .inl 1, .inl 2, .inl 3, .inl 4, .inl 5, .inl 6, .inl 7, .inl 8, .inl 9, .inl 10, .inl 11, .inl 12, .inl 13, .inl 14, .inl 15, .inl 16, .inl 17, .inr 72] rfl (by decide) (fun _ => rfl) (fun _ => rfl) (fun r238 u237 H locs h hP hD hS => ?_)
      refine lv_icmp_eq (tgt := 1430) hx hb dL_law_1255 (by decide) (fun c239 => ?_) (fun c239 => ?_)
      · have h := h.1 c239
        refine W.widen (k := cn + 1) (n := sn + 6) (by omega) (by omega) ?_
        obtain ⟨x240, ex240⟩ : ∃ y : Int32, y = (y4 + 4) := ⟨_, rfl⟩
        have h := h x240 ex240
        refine lv_iinc (v := x240) (lv' := [(4, .int x240), (0, .ref sb), (1, .ref (a 0)), (2, .ref (b 0)), (3, .ref o)]) hx hb dL_law_1430 hl (k := 4) rfl (by rw [ex240]; rfl) (by decide) rfl (fun ls hl => ?_)
        refine lv_goto (tgt := 23) hx hb dL_law_1433 (by decide) ?_
        exact K23 x240 (u234.1, u234.2.1, u234.2.2.1, u234.2.2.2.1, u234.2.2.2.2.1, u234.2.2.2.2.2.1, u234.2.2.2.2.2.2.1, u234.2.2.2.2.2.2.2.1, u234.2.2.2.2.2.2.2.2.1, u234.2.2.2.2.2.2.2.2.2.1, u234.2.2.2.2.2.2.2.2.2.2.1, u234.2.2.2.2.2.2.2.2.2.2.2, u237, T.2.2.2.2.2.2.2.2.2.2.2.2.2) _ _ _ hP hD hS (lv_sub hl [1, 2, 3, 4, 0] rfl) h
      · have h := h.2 c239
        refine lv_iconst (v := 0) hx hb dL_law_1258 (by decide) ?_
        exact h.elim
    · have h := h.2 c236
      refine lv_iconst (v := 1) hx hb dL_law_1247 (by decide) ?_
      refine lv_goto (tgt := 1252) hx hb dL_law_1248 (by decide) ?_
      refine cl_i (ws' := fun u241 => (wLAW cI cZ a b cJ o (u234.1, u234.2.1, u234.2.2.1, u234.2.2.2.1, u234.2.2.2.2.1, u234.2.2.2.2.2.1, u234.2.2.2.2.2.2.1, u234.2.2.2.2.2.2.2.1, u234.2.2.2.2.2.2.2.2.1, u234.2.2.2.2.2.2.2.2.2.1, u234.2.2.2.2.2.2.2.2.2.2.1, u234.2.2.2.2.2.2.2.2.2.2.2, u241, T.2.2.2.2.2.2.2.2.2.2.2.2.2))) (va_runV (As := [.int (xs (Int32.toNatClampNeg (y4 + 1))), .int 1]) (rest := [.int r235]) ⟨hx, hb, hml, hown, hts⟩ (c_X8_order l D cI cZ b _ T.2.2.2.2.2.2.2.2.2.2.2.2.1 (xs (Int32.toNatClampNeg (y4 + 1))) 1 _ h ) (cwV 2 hts (gV q_1454 q_1455 q_1456 q_75 q_1457) rfl rfl rfl (by decide +kernel) ⟨Nat.le_of_ble_eq_true rfl, Nat.le_of_ble_eq_true rfl⟩) (preTV_of (ci := 7) (q := (RX8, TX8, 25)) hF hS hA hK hP hD [54, 55, 56, 57, 58, 59, 60, 61, 62, 63, 64, 65, 66, 67, 68, 69, 70, 71] rfl rfl (by decide) 54 rfl rfl) rfl rfl hl.1 rfl (lv_room (Nat.le_of_ble_eq_true rfl)) dL_law_1252 ⟨(by show _ ≤ 1102; omega), (by show _ ≤ 16074; omega)⟩) hP hD hS hA [54, 55, 56, 57, 58, 59, 60, 61, 62, 63, 64, 65, 66, 67, 68, 69, 70, 71] [.inr 0, .inr 1, .inr 2, .inr 3, .inr 4, .inr 5, .inr 6, .inr 7, .inr 8, .inr 9, .inr 10, .inr 11, .inr 12, .inr 13, .inr 14, .inr 15, .inr 16, .inr 17, .inr 18, .inr 19, .inr 20, .inr 21, .inr 22, .inr 23, .inr 24, .inr 25, .inr 26, .inr 27, .inr 28, .inr 29, .inr 30, .inr 31, .inr 32, .inr 33, .inr 34, .inr 35, .inr 36, .inr 37, .inr 38, .inr 39, .inr 40, .inr 41, .inr 42, .inr 43, .inr 44, .inr 45, .inr 46, .inr 47, .inr 48, .inr 49, .inr 50, .inr 51, .inr 52, .inr 53, .inl 0, .inl 1, .inl 2, .inl 3, .inl 4, .inl 5, .inl 6, .inl 7, .inl 8, .inl 9, .inl 10, .inl 11, .inl 12, .inl 13, .inl 14, .inl 15, .inl 16, .inl 17, .inr 72] rfl (by decide) (fun _ => rfl) (fun _ => rfl) (fun r242 u241 H locs h hP hD hS => ?_)
      refine lv_icmp_eq (tgt := 1430) hx hb dL_law_1255 (by decide) (fun c243 => ?_) (fun c243 => ?_)
      · have h := h.1 c243
        refine W.widen (k := cn + 1) (n := sn + 6) (by omega) (by omega) ?_
        obtain ⟨x244, ex244⟩ : ∃ y : Int32, y = (y4 + 4) := ⟨_, rfl⟩
        have h := h x244 ex244
        refine lv_iinc (v := x244) (lv' := [(4, .int x244), (0, .ref sb), (1, .ref (a 0)), (2, .ref (b 0)), (3, .ref o)]) hx hb dL_law_1430 hl (k := 4) rfl (by rw [ex244]; rfl) (by decide) rfl (fun ls hl => ?_)
        refine lv_goto (tgt := 23) hx hb dL_law_1433 (by decide) ?_
        exact K23 x244 (u234.1, u234.2.1, u234.2.2.1, u234.2.2.2.1, u234.2.2.2.2.1, u234.2.2.2.2.2.1, u234.2.2.2.2.2.2.1, u234.2.2.2.2.2.2.2.1, u234.2.2.2.2.2.2.2.2.1, u234.2.2.2.2.2.2.2.2.2.1, u234.2.2.2.2.2.2.2.2.2.2.1, u234.2.2.2.2.2.2.2.2.2.2.2, u241, T.2.2.2.2.2.2.2.2.2.2.2.2.2) _ _ _ hP hD hS (lv_sub hl [1, 2, 3, 4, 0] rfl) h
      · have h := h.2 c243
        refine lv_iconst (v := 0) hx hb dL_law_1258 (by decide) ?_
        exact h.elim
  · have h := h.2 c233
    refine lv_iconst (v := 1) hx hb dL_law_1223 (by decide) ?_
    refine lv_goto (tgt := 1228) hx hb dL_law_1224 (by decide) ?_
    refine cl_i (ws' := fun u245 => (wLAW cI cZ a b cJ o (u245.1, u245.2.1, u245.2.2.1, u245.2.2.2.1, u245.2.2.2.2.1, u245.2.2.2.2.2.1, u245.2.2.2.2.2.2.1, u245.2.2.2.2.2.2.2.1, u245.2.2.2.2.2.2.2.2.1, u245.2.2.2.2.2.2.2.2.2.1, u245.2.2.2.2.2.2.2.2.2.2.1, u245.2.2.2.2.2.2.2.2.2.2.2, T.2.2.2.2.2.2.2.2.2.2.2.2.1, T.2.2.2.2.2.2.2.2.2.2.2.2.2))) (va_runV (As := [.int (xs (Int32.toNatClampNeg (y4 + 1))), .int 1]) (rest := []) ⟨hx, hb, hml, hown, hts⟩ (c_X7_order l D cI cZ a _ (T.1, T.2.1, T.2.2.1, T.2.2.2.1, T.2.2.2.2.1, T.2.2.2.2.2.1, T.2.2.2.2.2.2.1, T.2.2.2.2.2.2.2.1, T.2.2.2.2.2.2.2.2.1, T.2.2.2.2.2.2.2.2.2.1, T.2.2.2.2.2.2.2.2.2.2.1, T.2.2.2.2.2.2.2.2.2.2.2.1) (xs (Int32.toNatClampNeg (y4 + 1))) 1 _ h ) (cwV 2 hts (gV q_862 q_863 q_864 q_67 q_865) rfl rfl rfl (by decide +kernel) ⟨Nat.le_of_ble_eq_true rfl, Nat.le_of_ble_eq_true rfl⟩) (preTV_of (ci := 6) (q := (RX7, TX7, 4)) hF hS hA hK hP hD [0, 1, 2, 3, 4, 5, 6, 7, 8, 9, 10, 11, 12, 13, 14, 15, 16, 17, 18, 19, 20, 21, 22, 23, 24, 25, 26, 27, 28, 29, 30, 31, 32, 33, 34, 35, 36, 37, 38, 39, 40, 41, 42, 43, 44, 45, 46, 47, 48, 49, 50, 51, 52, 53] rfl rfl (by decide) 0 rfl rfl) rfl rfl hl.1 rfl (lv_room (Nat.le_of_ble_eq_true rfl)) dL_law_1228 ⟨(by show _ ≤ 1102; omega), (by show _ ≤ 16074; omega)⟩) hP hD hS hA [0, 1, 2, 3, 4, 5, 6, 7, 8, 9, 10, 11, 12, 13, 14, 15, 16, 17, 18, 19, 20, 21, 22, 23, 24, 25, 26, 27, 28, 29, 30, 31, 32, 33, 34, 35, 36, 37, 38, 39, 40, 41, 42, 43, 44, 45, 46, 47, 48, 49, 50, 51, 52, 53] [.inl 0, .inl 1, .inl 2, .inl 3, .inl 4, .inl 5, .inl 6, .inl 7, .inl 8, .inl 9, .inl 10, .inl 11, .inl 12, .inl 13, .inl 14, .inl 15, .inl 16, .inl 17, .inl 18, .inl 19, .inl 20, .inl 21, .inl 22, .inl 23, .inl 24, .inl 25, .inl 26, .inl 27, .inl 28, .inl 29, .inl 30, .inl 31, .inl 32, .inl 33, .inl 34, .inl 35, .inl 36, .inl 37, .inl 38, .inl 39, .inl 40, .inl 41, .inl 42, .inl 43, .inl 44, .inl 45, .inl 46, .inl 47, .inl 48, .inl 49, .inl 50, .inl 51, .inl 52, .inl 53, .inr 54, .inr 55, .inr 56, .inr 57, .inr 58, .inr 59, .inr 60, .inr 61, .inr 62, .inr 63, .inr 64, .inr 65, .inr 66, .inr 67, .inr 68, .inr 69, .inr 70, .inr 71, .inr 72] rfl (by decide) (fun _ => rfl) (fun _ => rfl) (fun r246 u245 H locs h hP hD hS => ?_)
    refine lv_aload_n hx hb dL_law_1231 rfl (lv_at hl 2 rfl) ?_
    refine lv_aload_n hx hb dL_law_1232 rfl (lv_at hl 0 rfl) ?_
    refine lv_iload hx hb dL_law_1233 (lv_at hl 4 rfl) ?_
    refine lv_iconst (v := 1) hx hb dL_law_1235 (by decide) ?_
    refine lv_iadd hx hb dL_law_1236 ?_
    refine va_sld hx hb hX hbl hbA hS h.1 dL_law_1237 ?_
    have h := h.2
    refine lv_aload_n hx hb dL_law_1238 rfl (lv_at hl 0 rfl) ?_
    refine lv_iload hx hb dL_law_1239 (lv_at hl 4 rfl) ?_
    refine lv_iconst (v := 2) hx hb dL_law_1241 (by decide) ?_
    refine lv_iadd hx hb dL_law_1242 ?_
    refine va_sld hx hb hX hbl hbA hS h.1 dL_law_1243 ?_
    have h := h.2
    refine lv_if_eq (tgt := 1251) hx hb dL_law_1244 (by decide) (fun c247 => ?_) (fun c247 => ?_)
    · have h := h.1 c247
      refine lv_iconst (v := 0) hx hb dL_law_1251 (by decide) ?_
      refine cl_i (ws' := fun u248 => (wLAW cI cZ a b cJ o (u245.1, u245.2.1, u245.2.2.1, u245.2.2.2.1, u245.2.2.2.2.1, u245.2.2.2.2.2.1, u245.2.2.2.2.2.2.1, u245.2.2.2.2.2.2.2.1, u245.2.2.2.2.2.2.2.2.1, u245.2.2.2.2.2.2.2.2.2.1, u245.2.2.2.2.2.2.2.2.2.2.1, u245.2.2.2.2.2.2.2.2.2.2.2, u248, T.2.2.2.2.2.2.2.2.2.2.2.2.2))) (va_runV (As := [.int (xs (Int32.toNatClampNeg (y4 + 1))), .int 0]) (rest := [.int r246]) ⟨hx, hb, hml, hown, hts⟩ (c_X8_order l D cI cZ b _ T.2.2.2.2.2.2.2.2.2.2.2.2.1 (xs (Int32.toNatClampNeg (y4 + 1))) 0 _ h ) (cwV 2 hts (gV q_1454 q_1455 q_1456 q_75 q_1457) rfl rfl rfl (by decide +kernel) ⟨Nat.le_of_ble_eq_true rfl, Nat.le_of_ble_eq_true rfl⟩) (preTV_of (ci := 7) (q := (RX8, TX8, 25)) hF hS hA hK hP hD [54, 55, 56, 57, 58, 59, 60, 61, 62, 63, 64, 65, 66, 67, 68, 69, 70, 71] rfl rfl (by decide) 54 rfl rfl) rfl rfl hl.1 rfl (lv_room (Nat.le_of_ble_eq_true rfl)) dL_law_1252 ⟨(by show _ ≤ 1102; omega), (by show _ ≤ 16074; omega)⟩) hP hD hS hA [54, 55, 56, 57, 58, 59, 60, 61, 62, 63, 64, 65, 66, 67, 68, 69, 70, 71] [.inr 0, .inr 1, .inr 2, .inr 3, .inr 4, .inr 5, .inr 6, .inr 7, .inr 8, .inr 9, .inr 10, .inr 11, .inr 12, .inr 13, .inr 14, .inr 15, .inr 16, .inr 17, .inr 18, .inr 19, .inr 20, .inr 21, .inr 22, .inr 23, .inr 24, .inr 25, .inr 26, .inr 27, .inr 28, .inr 29, .inr 30, .inr 31, .inr 32, .inr 33, .inr 34, .inr 35, .inr 36, .inr 37, .inr 38, .inr 39, .inr 40, .inr 41, .inr 42, .inr 43, .inr 44, .inr 45, .inr 46, .inr 47, .inr 48, .inr 49, .inr 50, .inr 51, .inr 52, .inr 53, .inl 0, .inl 1, .inl 2, .inl 3, .inl 4, .inl 5, .inl 6, .inl 7, .inl 8, .inl 9, .inl 10, .inl 11, .inl 12, .inl 13, .inl 14, .inl 15, .inl 16, .inl 17, .inr 72] rfl (by decide) (fun _ => rfl) (fun _ => rfl) (fun r249 u248 H locs h hP hD hS => ?_)
      refine lv_icmp_eq (tgt := 1430) hx hb dL_law_1255 (by decide) (fun c250 => ?_) (fun c250 => ?_)
      · have h := h.1 c250
        refine W.widen (k := cn + 1) (n := sn + 6) (by omega) (by omega) ?_
        obtain ⟨x251, ex251⟩ : ∃ y : Int32, y = (y4 + 4) := ⟨_, rfl⟩
        have h := h x251 ex251
        refine lv_iinc (v := x251) (lv' := [(4, .int x251), (0, .ref sb), (1, .ref (a 0)), (2, .ref (b 0)), (3, .ref o)]) hx hb dL_law_1430 hl (k := 4) rfl (by rw [ex251]; rfl) (by decide) rfl (fun ls hl => ?_)
        refine lv_goto (tgt := 23) hx hb dL_law_1433 (by decide) ?_
        exact K23 x251 (u245.1, u245.2.1, u245.2.2.1, u245.2.2.2.1, u245.2.2.2.2.1, u245.2.2.2.2.2.1, u245.2.2.2.2.2.2.1, u245.2.2.2.2.2.2.2.1, u245.2.2.2.2.2.2.2.2.1, u245.2.2.2.2.2.2.2.2.2.1, u245.2.2.2.2.2.2.2.2.2.2.1, u245.2.2.2.2.2.2.2.2.2.2.2, u248, T.2.2.2.2.2.2.2.2.2.2.2.2.2) _ _ _ hP hD hS (lv_sub hl [1, 2, 3, 4, 0] rfl) h
      · have h := h.2 c250
        refine lv_iconst (v := 0) hx hb dL_law_1258 (by decide) ?_
        exact h.elim
    · have h := h.2 c247
      refine lv_iconst (v := 1) hx hb dL_law_1247 (by decide) ?_
      refine lv_goto (tgt := 1252) hx hb dL_law_1248 (by decide) ?_
      refine cl_i (ws' := fun u252 => (wLAW cI cZ a b cJ o (u245.1, u245.2.1, u245.2.2.1, u245.2.2.2.1, u245.2.2.2.2.1, u245.2.2.2.2.2.1, u245.2.2.2.2.2.2.1, u245.2.2.2.2.2.2.2.1, u245.2.2.2.2.2.2.2.2.1, u245.2.2.2.2.2.2.2.2.2.1, u245.2.2.2.2.2.2.2.2.2.2.1, u245.2.2.2.2.2.2.2.2.2.2.2, u252, T.2.2.2.2.2.2.2.2.2.2.2.2.2))) (va_runV (As := [.int (xs (Int32.toNatClampNeg (y4 + 1))), .int 1]) (rest := [.int r246]) ⟨hx, hb, hml, hown, hts⟩ (c_X8_order l D cI cZ b _ T.2.2.2.2.2.2.2.2.2.2.2.2.1 (xs (Int32.toNatClampNeg (y4 + 1))) 1 _ h ) (cwV 2 hts (gV q_1454 q_1455 q_1456 q_75 q_1457) rfl rfl rfl (by decide +kernel) ⟨Nat.le_of_ble_eq_true rfl, Nat.le_of_ble_eq_true rfl⟩) (preTV_of (ci := 7) (q := (RX8, TX8, 25)) hF hS hA hK hP hD [54, 55, 56, 57, 58, 59, 60, 61, 62, 63, 64, 65, 66, 67, 68, 69, 70, 71] rfl rfl (by decide) 54 rfl rfl) rfl rfl hl.1 rfl (lv_room (Nat.le_of_ble_eq_true rfl)) dL_law_1252 ⟨(by show _ ≤ 1102; omega), (by show _ ≤ 16074; omega)⟩) hP hD hS hA [54, 55, 56, 57, 58, 59, 60, 61, 62, 63, 64, 65, 66, 67, 68, 69, 70, 71] [.inr 0, .inr 1, .inr 2, .inr 3, .inr 4, .inr 5, .inr 6, .inr 7, .inr 8, .inr 9, .inr 10, .inr 11, .inr 12, .inr 13, .inr 14, .inr 15, .inr 16, .inr 17, .inr 18, .inr 19, .inr 20, .inr 21, .inr 22, .inr 23, .inr 24, .inr 25, .inr 26, .inr 27, .inr 28, .inr 29, .inr 30, .inr 31, .inr 32, .inr 33, .inr 34, .inr 35, .inr 36, .inr 37, .inr 38, .inr 39, .inr 40, .inr 41, .inr 42, .inr 43, .inr 44, .inr 45, .inr 46, .inr 47, .inr 48, .inr 49, .inr 50, .inr 51, .inr 52, .inr 53, .inl 0, .inl 1, .inl 2, .inl 3, .inl 4, .inl 5, .inl 6, .inl 7, .inl 8, .inl 9, .inl 10, .inl 11, .inl 12, .inl 13, .inl 14, .inl 15, .inl 16, .inl 17, .inr 72] rfl (by decide) (fun _ => rfl) (fun _ => rfl) (fun r253 u252 H locs h hP hD hS => ?_)
      refine lv_icmp_eq (tgt := 1430) hx hb dL_law_1255 (by decide) (fun c254 => ?_) (fun c254 => ?_)
      · have h := h.1 c254
        refine W.widen (k := cn + 1) (n := sn + 6) (by omega) (by omega) ?_
        obtain ⟨x255, ex255⟩ : ∃ y : Int32, y = (y4 + 4) := ⟨_, rfl⟩
        have h := h x255 ex255
        refine lv_iinc (v := x255) (lv' := [(4, .int x255), (0, .ref sb), (1, .ref (a 0)), (2, .ref (b 0)), (3, .ref o)]) hx hb dL_law_1430 hl (k := 4) rfl (by rw [ex255]; rfl) (by decide) rfl (fun ls hl => ?_)
        refine lv_goto (tgt := 23) hx hb dL_law_1433 (by decide) ?_
        exact K23 x255 (u245.1, u245.2.1, u245.2.2.1, u245.2.2.2.1, u245.2.2.2.2.1, u245.2.2.2.2.2.1, u245.2.2.2.2.2.2.1, u245.2.2.2.2.2.2.2.1, u245.2.2.2.2.2.2.2.2.1, u245.2.2.2.2.2.2.2.2.2.1, u245.2.2.2.2.2.2.2.2.2.2.1, u245.2.2.2.2.2.2.2.2.2.2.2, u252, T.2.2.2.2.2.2.2.2.2.2.2.2.2) _ _ _ hP hD hS (lv_sub hl [1, 2, 3, 4, 0] rfl) h
      · have h := h.2 c254
        refine lv_iconst (v := 0) hx hb dL_law_1258 (by decide) ?_
        exact h.elim
set_option maxHeartbeats 4000000 in
set_option maxRecDepth 100000 in
theorem law_L1260 {p : Program} {l : Launch} {e : Env} {s : State} {m : MethodId} {below : List Frame} {meth : Method} {c : Code} {D : va_G} {cI cZ cJ : ClassId} {a b : Nat → Nat} {o sb L : Nat} {xs : Nat → Int32} {A : Nat → Prop} (C0 : lawC p l s m meth c D cI cZ cJ sb L xs A) {cn sn : Nat} (hcn : cn + 1 ≤ 1102) (hsn : sn + 6 ≤ 16074) (k23 : Int32 → TLW → Prop) (K23 : ∀ (y4 : Int32) (T : TLW) (H : Heap) (locs : List Loc) (ls : Array Slot), va_P D vwCl (wLAW cI cZ a b cJ o T) H → va_D A (wLAW cI cZ a b cJ o T) → va_S A s.heap H locs → lv_has ls 7 [(0, .ref sb), (1, .ref (a 0)), (2, .ref (b 0)), (3, .ref o), (4, .int y4)] → k23 y4 T → W p l e room_1 s m #[Value.ref sb] below meth c H locs (cn + 1) (sn + 6) (lw_Z below #[Value.ref sb] s) (F0 m 23 ls [])) : ∀ (y4 : Int32) (T : TLW) (H : Heap) (locs : List Loc) (ls : Array Slot), va_P D vwCl (wLAW cI cZ a b cJ o T) H → va_D A (wLAW cI cZ a b cJ o T) → va_S A s.heap H locs → lv_has ls 7 [(0, .ref sb), (1, .ref (a 0)), (2, .ref (b 0)), (3, .ref o), (4, .int y4)] → wp_law_L1260 L xs k23 y4 T → W p l e room_1 s m #[Value.ref sb] below meth c H locs cn sn (lw_Z below #[Value.ref sb] s) (F0 m 1260 ls []) := by
  obtain ⟨hst, hx, hb, hr, hlocks, hml, hown, hts, hX, hbl, hbA, hA, hAf, hKJ, hF, hXF⟩ := id C0
  have hK : va_K D vwCl (tyL cI cZ) s := hKJ.sub [0, 1] rfl
  have hml2 := hml
  intro y4 T H locs ls hP hD hS hl h
  unfold wp_law_L1260 at h
  refine lv_aload_n hx hb dL_law_1260 rfl (lv_at hl 1 rfl) ?_
  refine lv_aload_n hx hb dL_law_1261 rfl (lv_at hl 0 rfl) ?_
  refine lv_iload hx hb dL_law_1262 (lv_at hl 4 rfl) ?_
  refine lv_iconst (v := 1) hx hb dL_law_1264 (by decide) ?_
  refine lv_iadd hx hb dL_law_1265 ?_
  refine va_sld hx hb hX hbl hbA hS h.1 dL_law_1266 ?_
  have h := h.2
  refine lv_if_eq (tgt := 1274) hx hb dL_law_1267 (by decide) (fun c256 => ?_) (fun c256 => ?_)
  · have h := h.1 c256
    refine lv_iconst (v := 0) hx hb dL_law_1274 (by decide) ?_
    refine cl_i (ws' := fun u257 => (wLAW cI cZ a b cJ o (u257.1, u257.2.1, u257.2.2.1, u257.2.2.2.1, u257.2.2.2.2.1, u257.2.2.2.2.2.1, u257.2.2.2.2.2.2.1, u257.2.2.2.2.2.2.2.1, u257.2.2.2.2.2.2.2.2.1, u257.2.2.2.2.2.2.2.2.2.1, u257.2.2.2.2.2.2.2.2.2.2.1, u257.2.2.2.2.2.2.2.2.2.2.2, T.2.2.2.2.2.2.2.2.2.2.2.2.1, T.2.2.2.2.2.2.2.2.2.2.2.2.2))) (va_runV (As := [.int 0]) (rest := []) ⟨hx, hb, hml, hown, hts⟩ (c_X7_quiet l D cI cZ a _ (T.1, T.2.1, T.2.2.1, T.2.2.2.1, T.2.2.2.2.1, T.2.2.2.2.2.1, T.2.2.2.2.2.2.1, T.2.2.2.2.2.2.2.1, T.2.2.2.2.2.2.2.2.1, T.2.2.2.2.2.2.2.2.2.1, T.2.2.2.2.2.2.2.2.2.2.1, T.2.2.2.2.2.2.2.2.2.2.2.1) 0 _ h ) (cwV 1 hts (gV q_866 q_867 q_868 q_67 q_869) rfl rfl rfl (by decide +kernel) ⟨Nat.le_of_ble_eq_true rfl, Nat.le_of_ble_eq_true rfl⟩) (preTV_of (ci := 6) (q := (RX7, TX7, 4)) hF hS hA hK hP hD [0, 1, 2, 3, 4, 5, 6, 7, 8, 9, 10, 11, 12, 13, 14, 15, 16, 17, 18, 19, 20, 21, 22, 23, 24, 25, 26, 27, 28, 29, 30, 31, 32, 33, 34, 35, 36, 37, 38, 39, 40, 41, 42, 43, 44, 45, 46, 47, 48, 49, 50, 51, 52, 53] rfl rfl (by decide) 0 rfl rfl) rfl rfl hl.1 rfl (lv_room (Nat.le_of_ble_eq_true rfl)) dL_law_1275 ⟨(by show _ ≤ 1102; omega), (by show _ ≤ 16074; omega)⟩) hP hD hS hA [0, 1, 2, 3, 4, 5, 6, 7, 8, 9, 10, 11, 12, 13, 14, 15, 16, 17, 18, 19, 20, 21, 22, 23, 24, 25, 26, 27, 28, 29, 30, 31, 32, 33, 34, 35, 36, 37, 38, 39, 40, 41, 42, 43, 44, 45, 46, 47, 48, 49, 50, 51, 52, 53] [.inl 0, .inl 1, .inl 2, .inl 3, .inl 4, .inl 5, .inl 6, .inl 7, .inl 8, .inl 9, .inl 10, .inl 11, .inl 12, .inl 13, .inl 14, .inl 15, .inl 16, .inl 17, .inl 18, .inl 19, .inl 20, .inl 21, .inl 22, .inl 23, .inl 24, .inl 25, .inl 26, .inl 27, .inl 28, .inl 29, .inl 30, .inl 31, .inl 32, .inl 33, .inl 34, .inl 35, .inl 36, .inl 37, .inl 38, .inl 39, .inl 40, .inl 41, .inl 42, .inl 43, .inl 44, .inl 45, .inl 46, .inl 47, .inl 48, .inl 49, .inl 50, .inl 51, .inl 52, .inl 53, .inr 54, .inr 55, .inr 56, .inr 57, .inr 58, .inr 59, .inr 60, .inr 61, .inr 62, .inr 63, .inr 64, .inr 65, .inr 66, .inr 67, .inr 68, .inr 69, .inr 70, .inr 71, .inr 72] rfl (by decide) (fun _ => rfl) (fun _ => rfl) (fun r258 u257 H locs h hP hD hS => ?_)
    refine lv_aload_n hx hb dL_law_1278 rfl (lv_at hl 2 rfl) ?_
    refine lv_aload_n hx hb dL_law_1279 rfl (lv_at hl 0 rfl) ?_
    refine lv_iload hx hb dL_law_1280 (lv_at hl 4 rfl) ?_
    refine lv_iconst (v := 1) hx hb dL_law_1282 (by decide) ?_
    refine lv_iadd hx hb dL_law_1283 ?_
    refine va_sld hx hb hX hbl hbA hS h.1 dL_law_1284 ?_
    have h := h.2
    refine lv_if_eq (tgt := 1292) hx hb dL_law_1285 (by decide) (fun c259 => ?_) (fun c259 => ?_)
    · have h := h.1 c259
      refine lv_iconst (v := 0) hx hb dL_law_1292 (by decide) ?_
      refine cl_i (ws' := fun u260 => (wLAW cI cZ a b cJ o (u257.1, u257.2.1, u257.2.2.1, u257.2.2.2.1, u257.2.2.2.2.1, u257.2.2.2.2.2.1, u257.2.2.2.2.2.2.1, u257.2.2.2.2.2.2.2.1, u257.2.2.2.2.2.2.2.2.1, u257.2.2.2.2.2.2.2.2.2.1, u257.2.2.2.2.2.2.2.2.2.2.1, u257.2.2.2.2.2.2.2.2.2.2.2, u260, T.2.2.2.2.2.2.2.2.2.2.2.2.2))) (va_runV (As := [.int 0]) (rest := [.int r258]) ⟨hx, hb, hml, hown, hts⟩ (c_X8_quiet l D cI cZ b _ T.2.2.2.2.2.2.2.2.2.2.2.2.1 0 _ h ) (cwV 1 hts (gV q_1458 q_1459 q_1460 q_75 q_1461) rfl rfl rfl (by decide +kernel) ⟨Nat.le_of_ble_eq_true rfl, Nat.le_of_ble_eq_true rfl⟩) (preTV_of (ci := 7) (q := (RX8, TX8, 25)) hF hS hA hK hP hD [54, 55, 56, 57, 58, 59, 60, 61, 62, 63, 64, 65, 66, 67, 68, 69, 70, 71] rfl rfl (by decide) 54 rfl rfl) rfl rfl hl.1 rfl (lv_room (Nat.le_of_ble_eq_true rfl)) dL_law_1293 ⟨(by show _ ≤ 1102; omega), (by show _ ≤ 16074; omega)⟩) hP hD hS hA [54, 55, 56, 57, 58, 59, 60, 61, 62, 63, 64, 65, 66, 67, 68, 69, 70, 71] [.inr 0, .inr 1, .inr 2, .inr 3, .inr 4, .inr 5, .inr 6, .inr 7, .inr 8, .inr 9, .inr 10, .inr 11, .inr 12, .inr 13, .inr 14, .inr 15, .inr 16, .inr 17, .inr 18, .inr 19, .inr 20, .inr 21, .inr 22, .inr 23, .inr 24, .inr 25, .inr 26, .inr 27, .inr 28, .inr 29, .inr 30, .inr 31, .inr 32, .inr 33, .inr 34, .inr 35, .inr 36, .inr 37, .inr 38, .inr 39, .inr 40, .inr 41, .inr 42, .inr 43, .inr 44, .inr 45, .inr 46, .inr 47, .inr 48, .inr 49, .inr 50, .inr 51, .inr 52, .inr 53, .inl 0, .inl 1, .inl 2, .inl 3, .inl 4, .inl 5, .inl 6, .inl 7, .inl 8, .inl 9, .inl 10, .inl 11, .inl 12, .inl 13, .inl 14, .inl 15, .inl 16, .inl 17, .inr 72] rfl (by decide) (fun _ => rfl) (fun _ => rfl) (fun r261 u260 H locs h hP hD hS => ?_)
      refine lv_icmp_eq (tgt := 1430) hx hb dL_law_1296 (by decide) (fun c262 => ?_) (fun c262 => ?_)
      · have h := h.1 c262
        refine W.widen (k := cn + 1) (n := sn + 6) (by omega) (by omega) ?_
        obtain ⟨x263, ex263⟩ : ∃ y : Int32, y = (y4 + 4) := ⟨_, rfl⟩
        have h := h x263 ex263
        refine lv_iinc (v := x263) (lv' := [(4, .int x263), (0, .ref sb), (1, .ref (a 0)), (2, .ref (b 0)), (3, .ref o)]) hx hb dL_law_1430 hl (k := 4) rfl (by rw [ex263]; rfl) (by decide) rfl (fun ls hl => ?_)
        refine lv_goto (tgt := 23) hx hb dL_law_1433 (by decide) ?_
        exact K23 x263 (u257.1, u257.2.1, u257.2.2.1, u257.2.2.2.1, u257.2.2.2.2.1, u257.2.2.2.2.2.1, u257.2.2.2.2.2.2.1, u257.2.2.2.2.2.2.2.1, u257.2.2.2.2.2.2.2.2.1, u257.2.2.2.2.2.2.2.2.2.1, u257.2.2.2.2.2.2.2.2.2.2.1, u257.2.2.2.2.2.2.2.2.2.2.2, u260, T.2.2.2.2.2.2.2.2.2.2.2.2.2) _ _ _ hP hD hS (lv_sub hl [1, 2, 3, 4, 0] rfl) h
      · have h := h.2 c262
        refine lv_iconst (v := 0) hx hb dL_law_1299 (by decide) ?_
        exact h.elim
    · have h := h.2 c259
      refine lv_iconst (v := 1) hx hb dL_law_1288 (by decide) ?_
      refine lv_goto (tgt := 1293) hx hb dL_law_1289 (by decide) ?_
      refine cl_i (ws' := fun u264 => (wLAW cI cZ a b cJ o (u257.1, u257.2.1, u257.2.2.1, u257.2.2.2.1, u257.2.2.2.2.1, u257.2.2.2.2.2.1, u257.2.2.2.2.2.2.1, u257.2.2.2.2.2.2.2.1, u257.2.2.2.2.2.2.2.2.1, u257.2.2.2.2.2.2.2.2.2.1, u257.2.2.2.2.2.2.2.2.2.2.1, u257.2.2.2.2.2.2.2.2.2.2.2, u264, T.2.2.2.2.2.2.2.2.2.2.2.2.2))) (va_runV (As := [.int 1]) (rest := [.int r258]) ⟨hx, hb, hml, hown, hts⟩ (c_X8_quiet l D cI cZ b _ T.2.2.2.2.2.2.2.2.2.2.2.2.1 1 _ h ) (cwV 1 hts (gV q_1458 q_1459 q_1460 q_75 q_1461) rfl rfl rfl (by decide +kernel) ⟨Nat.le_of_ble_eq_true rfl, Nat.le_of_ble_eq_true rfl⟩) (preTV_of (ci := 7) (q := (RX8, TX8, 25)) hF hS hA hK hP hD [54, 55, 56, 57, 58, 59, 60, 61, 62, 63, 64, 65, 66, 67, 68, 69, 70, 71] rfl rfl (by decide) 54 rfl rfl) rfl rfl hl.1 rfl (lv_room (Nat.le_of_ble_eq_true rfl)) dL_law_1293 ⟨(by show _ ≤ 1102; omega), (by show _ ≤ 16074; omega)⟩) hP hD hS hA [54, 55, 56, 57, 58, 59, 60, 61, 62, 63, 64, 65, 66, 67, 68, 69, 70, 71] [.inr 0, .inr 1, .inr 2, .inr 3, .inr 4, .inr 5, .inr 6, .inr 7, .inr 8, .inr 9, .inr 10, .inr 11, .inr 12, .inr 13, .inr 14, .inr 15, .inr 16, .inr 17, .inr 18, .inr 19, .inr 20, .inr 21, .inr 22, .inr 23, .inr 24, .inr 25, .inr 26, .inr 27, .inr 28, .inr 29, .inr 30, .inr 31, .inr 32, .inr 33, .inr 34, .inr 35, .inr 36, .inr 37, .inr 38, .inr 39, .inr 40, .inr 41, .inr 42, .inr 43, .inr 44, .inr 45, .inr 46, .inr 47, .inr 48, .inr 49, .inr 50, .inr 51, .inr 52, .inr 53, .inl 0, .inl 1, .inl 2, .inl 3, .inl 4, .inl 5, .inl 6, .inl 7, .inl 8, .inl 9, .inl 10, .inl 11, .inl 12, .inl 13, .inl 14, .inl 15, .inl 16, .inl 17, .inr 72] rfl (by decide) (fun _ => rfl) (fun _ => rfl) (fun r265 u264 H locs h hP hD hS => ?_)
      refine lv_icmp_eq (tgt := 1430) hx hb dL_law_1296 (by decide) (fun c266 => ?_) (fun c266 => ?_)
      · have h := h.1 c266
        refine W.widen (k := cn + 1) (n := sn + 6) (by omega) (by omega) ?_
        obtain ⟨x267, ex267⟩ : ∃ y : Int32, y = (y4 + 4) := ⟨_, rfl⟩
        have h := h x267 ex267
        refine lv_iinc (v := x267) (lv' := [(4, .int x267), (0, .ref sb), (1, .ref (a 0)), (2, .ref (b 0)), (3, .ref o)]) hx hb dL_law_1430 hl (k := 4) rfl (by rw [ex267]; rfl) (by decide) rfl (fun ls hl => ?_)
        refine lv_goto (tgt := 23) hx hb dL_law_1433 (by decide) ?_
        exact K23 x267 (u257.1, u257.2.1, u257.2.2.1, u257.2.2.2.1, u257.2.2.2.2.1, u257.2.2.2.2.2.1, u257.2.2.2.2.2.2.1, u257.2.2.2.2.2.2.2.1, u257.2.2.2.2.2.2.2.2.1, u257.2.2.2.2.2.2.2.2.2.1, u257.2.2.2.2.2.2.2.2.2.2.1, u257.2.2.2.2.2.2.2.2.2.2.2, u264, T.2.2.2.2.2.2.2.2.2.2.2.2.2) _ _ _ hP hD hS (lv_sub hl [1, 2, 3, 4, 0] rfl) h
      · have h := h.2 c266
        refine lv_iconst (v := 0) hx hb dL_law_1299 (by decide) ?_
        exact h.elim
  · have h := h.2 c256
    refine lv_iconst (v := 1) hx hb dL_law_1270 (by decide) ?_
    refine lv_goto (tgt := 1275) hx hb dL_law_1271 (by decide) ?_
    refine cl_i (ws' := fun u268 => (wLAW cI cZ a b cJ o (u268.1, u268.2.1, u268.2.2.1, u268.2.2.2.1, u268.2.2.2.2.1, u268.2.2.2.2.2.1, u268.2.2.2.2.2.2.1, u268.2.2.2.2.2.2.2.1, u268.2.2.2.2.2.2.2.2.1, u268.2.2.2.2.2.2.2.2.2.1, u268.2.2.2.2.2.2.2.2.2.2.1, u268.2.2.2.2.2.2.2.2.2.2.2, T.2.2.2.2.2.2.2.2.2.2.2.2.1, T.2.2.2.2.2.2.2.2.2.2.2.2.2))) (va_runV (As := [.int 1]) (rest := []) ⟨hx, hb, hml, hown, hts⟩ (c_X7_quiet l D cI cZ a _ (T.1, T.2.1, T.2.2.1, T.2.2.2.1, T.2.2.2.2.1, T.2.2.2.2.2.1, T.2.2.2.2.2.2.1, T.2.2.2.2.2.2.2.1, T.2.2.2.2.2.2.2.2.1, T.2.2.2.2.2.2.2.2.2.1, T.2.2.2.2.2.2.2.2.2.2.1, T.2.2.2.2.2.2.2.2.2.2.2.1) 1 _ h ) (cwV 1 hts (gV q_866 q_867 q_868 q_67 q_869) rfl rfl rfl (by decide +kernel) ⟨Nat.le_of_ble_eq_true rfl, Nat.le_of_ble_eq_true rfl⟩) (preTV_of (ci := 6) (q := (RX7, TX7, 4)) hF hS hA hK hP hD [0, 1, 2, 3, 4, 5, 6, 7, 8, 9, 10, 11, 12, 13, 14, 15, 16, 17, 18, 19, 20, 21, 22, 23, 24, 25, 26, 27, 28, 29, 30, 31, 32, 33, 34, 35, 36, 37, 38, 39, 40, 41, 42, 43, 44, 45, 46, 47, 48, 49, 50, 51, 52, 53] rfl rfl (by decide) 0 rfl rfl) rfl rfl hl.1 rfl (lv_room (Nat.le_of_ble_eq_true rfl)) dL_law_1275 ⟨(by show _ ≤ 1102; omega), (by show _ ≤ 16074; omega)⟩) hP hD hS hA [0, 1, 2, 3, 4, 5, 6, 7, 8, 9, 10, 11, 12, 13, 14, 15, 16, 17, 18, 19, 20, 21, 22, 23, 24, 25, 26, 27, 28, 29, 30, 31, 32, 33, 34, 35, 36, 37, 38, 39, 40, 41, 42, 43, 44, 45, 46, 47, 48, 49, 50, 51, 52, 53] [.inl 0, .inl 1, .inl 2, .inl 3, .inl 4, .inl 5, .inl 6, .inl 7, .inl 8, .inl 9, .inl 10, .inl 11, .inl 12, .inl 13, .inl 14, .inl 15, .inl 16, .inl 17, .inl 18, .inl 19, .inl 20, .inl 21, .inl 22, .inl 23, .inl 24, .inl 25, .inl 26, .inl 27, .inl 28, .inl 29, .inl 30, .inl 31, .inl 32, .inl 33, .inl 34, .inl 35, .inl 36, .inl 37, .inl 38, .inl 39, .inl 40, .inl 41, .inl 42, .inl 43, .inl 44, .inl 45, .inl 46, .inl 47, .inl 48, .inl 49, .inl 50, .inl 51, .inl 52, .inl 53, .inr 54, .inr 55, .inr 56, .inr 57, .inr 58, .inr 59, .inr 60, .inr 61, .inr 62, .inr 63, .inr 64, .inr 65, .inr 66, .inr 67, .inr 68, .inr 69, .inr 70, .inr 71, .inr 72] rfl (by decide) (fun _ => rfl) (fun _ => rfl) (fun r269 u268 H locs h hP hD hS => ?_)
    refine lv_aload_n hx hb dL_law_1278 rfl (lv_at hl 2 rfl) ?_
    refine lv_aload_n hx hb dL_law_1279 rfl (lv_at hl 0 rfl) ?_
    refine lv_iload hx hb dL_law_1280 (lv_at hl 4 rfl) ?_
    refine lv_iconst (v := 1) hx hb dL_law_1282 (by decide) ?_
    refine lv_iadd hx hb dL_law_1283 ?_
    refine va_sld hx hb hX hbl hbA hS h.1 dL_law_1284 ?_
    have h := h.2
    refine lv_if_eq (tgt := 1292) hx hb dL_law_1285 (by decide) (fun c270 => ?_) (fun c270 => ?_)
    · have h := h.1 c270
      refine lv_iconst (v := 0) hx hb dL_law_1292 (by decide) ?_
      refine cl_i (ws' := fun u271 => (wLAW cI cZ a b cJ o (u268.1, u268.2.1, u268.2.2.1, u268.2.2.2.1, u268.2.2.2.2.1, u268.2.2.2.2.2.1, u268.2.2.2.2.2.2.1, u268.2.2.2.2.2.2.2.1, u268.2.2.2.2.2.2.2.2.1, u268.2.2.2.2.2.2.2.2.2.1, u268.2.2.2.2.2.2.2.2.2.2.1, u268.2.2.2.2.2.2.2.2.2.2.2, u271, T.2.2.2.2.2.2.2.2.2.2.2.2.2))) (va_runV (As := [.int 0]) (rest := [.int r269]) ⟨hx, hb, hml, hown, hts⟩ (c_X8_quiet l D cI cZ b _ T.2.2.2.2.2.2.2.2.2.2.2.2.1 0 _ h ) (cwV 1 hts (gV q_1458 q_1459 q_1460 q_75 q_1461) rfl rfl rfl (by decide +kernel) ⟨Nat.le_of_ble_eq_true rfl, Nat.le_of_ble_eq_true rfl⟩) (preTV_of (ci := 7) (q := (RX8, TX8, 25)) hF hS hA hK hP hD [54, 55, 56, 57, 58, 59, 60, 61, 62, 63, 64, 65, 66, 67, 68, 69, 70, 71] rfl rfl (by decide) 54 rfl rfl) rfl rfl hl.1 rfl (lv_room (Nat.le_of_ble_eq_true rfl)) dL_law_1293 ⟨(by show _ ≤ 1102; omega), (by show _ ≤ 16074; omega)⟩) hP hD hS hA [54, 55, 56, 57, 58, 59, 60, 61, 62, 63, 64, 65, 66, 67, 68, 69, 70, 71] [.inr 0, .inr 1, .inr 2, .inr 3, .inr 4, .inr 5, .inr 6, .inr 7, .inr 8, .inr 9, .inr 10, .inr 11, .inr 12, .inr 13, .inr 14, .inr 15, .inr 16, .inr 17, .inr 18, .inr 19, .inr 20, .inr 21, .inr 22, .inr 23, .inr 24, .inr 25, .inr 26, .inr 27, .inr 28, .inr 29, .inr 30, .inr 31, .inr 32, .inr 33, .inr 34, .inr 35, .inr 36, .inr 37, .inr 38, .inr 39, .inr 40, .inr 41, .inr 42, .inr 43, .inr 44, .inr 45, .inr 46, .inr 47, .inr 48, .inr 49, .inr 50, .inr 51, .inr 52, .inr 53, .inl 0, .inl 1, .inl 2, .inl 3, .inl 4, .inl 5, .inl 6, .inl 7, .inl 8, .inl 9, .inl 10, .inl 11, .inl 12, .inl 13, .inl 14, .inl 15, .inl 16, .inl 17, .inr 72] rfl (by decide) (fun _ => rfl) (fun _ => rfl) (fun r272 u271 H locs h hP hD hS => ?_)
      refine lv_icmp_eq (tgt := 1430) hx hb dL_law_1296 (by decide) (fun c273 => ?_) (fun c273 => ?_)
      · have h := h.1 c273
        refine W.widen (k := cn + 1) (n := sn + 6) (by omega) (by omega) ?_
        obtain ⟨x274, ex274⟩ : ∃ y : Int32, y = (y4 + 4) := ⟨_, rfl⟩
        have h := h x274 ex274
        refine lv_iinc (v := x274) (lv' := [(4, .int x274), (0, .ref sb), (1, .ref (a 0)), (2, .ref (b 0)), (3, .ref o)]) hx hb dL_law_1430 hl (k := 4) rfl (by rw [ex274]; rfl) (by decide) rfl (fun ls hl => ?_)
        refine lv_goto (tgt := 23) hx hb dL_law_1433 (by decide) ?_
        exact K23 x274 (u268.1, u268.2.1, u268.2.2.1, u268.2.2.2.1, u268.2.2.2.2.1, u268.2.2.2.2.2.1, u268.2.2.2.2.2.2.1, u268.2.2.2.2.2.2.2.1, u268.2.2.2.2.2.2.2.2.1, u268.2.2.2.2.2.2.2.2.2.1, u268.2.2.2.2.2.2.2.2.2.2.1, u268.2.2.2.2.2.2.2.2.2.2.2, u271, T.2.2.2.2.2.2.2.2.2.2.2.2.2) _ _ _ hP hD hS (lv_sub hl [1, 2, 3, 4, 0] rfl) h
      · have h := h.2 c273
        refine lv_iconst (v := 0) hx hb dL_law_1299 (by decide) ?_
        exact h.elim
    · have h := h.2 c270
      refine lv_iconst (v := 1) hx hb dL_law_1288 (by decide) ?_
      refine lv_goto (tgt := 1293) hx hb dL_law_1289 (by decide) ?_
      refine cl_i (ws' := fun u275 => (wLAW cI cZ a b cJ o (u268.1, u268.2.1, u268.2.2.1, u268.2.2.2.1, u268.2.2.2.2.1, u268.2.2.2.2.2.1, u268.2.2.2.2.2.2.1, u268.2.2.2.2.2.2.2.1, u268.2.2.2.2.2.2.2.2.1, u268.2.2.2.2.2.2.2.2.2.1, u268.2.2.2.2.2.2.2.2.2.2.1, u268.2.2.2.2.2.2.2.2.2.2.2, u275, T.2.2.2.2.2.2.2.2.2.2.2.2.2))) (va_runV (As := [.int 1]) (rest := [.int r269]) ⟨hx, hb, hml, hown, hts⟩ (c_X8_quiet l D cI cZ b _ T.2.2.2.2.2.2.2.2.2.2.2.2.1 1 _ h ) (cwV 1 hts (gV q_1458 q_1459 q_1460 q_75 q_1461) rfl rfl rfl (by decide +kernel) ⟨Nat.le_of_ble_eq_true rfl, Nat.le_of_ble_eq_true rfl⟩) (preTV_of (ci := 7) (q := (RX8, TX8, 25)) hF hS hA hK hP hD [54, 55, 56, 57, 58, 59, 60, 61, 62, 63, 64, 65, 66, 67, 68, 69, 70, 71] rfl rfl (by decide) 54 rfl rfl) rfl rfl hl.1 rfl (lv_room (Nat.le_of_ble_eq_true rfl)) dL_law_1293 ⟨(by show _ ≤ 1102; omega), (by show _ ≤ 16074; omega)⟩) hP hD hS hA [54, 55, 56, 57, 58, 59, 60, 61, 62, 63, 64, 65, 66, 67, 68, 69, 70, 71] [.inr 0, .inr 1, .inr 2, .inr 3, .inr 4, .inr 5, .inr 6, .inr 7, .inr 8, .inr 9, .inr 10, .inr 11, .inr 12, .inr 13, .inr 14, .inr 15, .inr 16, .inr 17, .inr 18, .inr 19, .inr 20, .inr 21, .inr 22, .inr 23, .inr 24, .inr 25, .inr 26, .inr 27, .inr 28, .inr 29, .inr 30, .inr 31, .inr 32, .inr 33, .inr 34, .inr 35, .inr 36, .inr 37, .inr 38, .inr 39, .inr 40, .inr 41, .inr 42, .inr 43, .inr 44, .inr 45, .inr 46, .inr 47, .inr 48, .inr 49, .inr 50, .inr 51, .inr 52, .inr 53, .inl 0, .inl 1, .inl 2, .inl 3, .inl 4, .inl 5, .inl 6, .inl 7, .inl 8, .inl 9, .inl 10, .inl 11, .inl 12, .inl 13, .inl 14, .inl 15, .inl 16, .inl 17, .inr 72] rfl (by decide) (fun _ => rfl) (fun _ => rfl) (fun r276 u275 H locs h hP hD hS => ?_)
      refine lv_icmp_eq (tgt := 1430) hx hb dL_law_1296 (by decide) (fun c277 => ?_) (fun c277 => ?_)
      · have h := h.1 c277
        refine W.widen (k := cn + 1) (n := sn + 6) (by omega) (by omega) ?_
        obtain ⟨x278, ex278⟩ : ∃ y : Int32, y = (y4 + 4) := ⟨_, rfl⟩
        have h := h x278 ex278
        refine lv_iinc (v := x278) (lv' := [(4, .int x278), (0, .ref sb), (1, .ref (a 0)), (2, .ref (b 0)), (3, .ref o)]) hx hb dL_law_1430 hl (k := 4) rfl (by rw [ex278]; rfl) (by decide) rfl (fun ls hl => ?_)
        refine lv_goto (tgt := 23) hx hb dL_law_1433 (by decide) ?_
        exact K23 x278 (u268.1, u268.2.1, u268.2.2.1, u268.2.2.2.1, u268.2.2.2.2.1, u268.2.2.2.2.2.1, u268.2.2.2.2.2.2.1, u268.2.2.2.2.2.2.2.1, u268.2.2.2.2.2.2.2.2.1, u268.2.2.2.2.2.2.2.2.2.1, u268.2.2.2.2.2.2.2.2.2.2.1, u268.2.2.2.2.2.2.2.2.2.2.2, u275, T.2.2.2.2.2.2.2.2.2.2.2.2.2) _ _ _ hP hD hS (lv_sub hl [1, 2, 3, 4, 0] rfl) h
      · have h := h.2 c277
        refine lv_iconst (v := 0) hx hb dL_law_1299 (by decide) ?_
        exact h.elim
set_option maxHeartbeats 4000000 in
set_option maxRecDepth 100000 in
theorem law_L1301 {p : Program} {l : Launch} {e : Env} {s : State} {m : MethodId} {below : List Frame} {meth : Method} {c : Code} {D : va_G} {cI cZ cJ : ClassId} {a b : Nat → Nat} {o sb L : Nat} {xs : Nat → Int32} {A : Nat → Prop} (C0 : lawC p l s m meth c D cI cZ cJ sb L xs A) {cn sn : Nat} (hcn : cn + 1 ≤ 1102) (hsn : sn + 6 ≤ 16074) (k23 : Int32 → TLW → Prop) (K23 : ∀ (y4 : Int32) (T : TLW) (H : Heap) (locs : List Loc) (ls : Array Slot), va_P D vwCl (wLAW cI cZ a b cJ o T) H → va_D A (wLAW cI cZ a b cJ o T) → va_S A s.heap H locs → lv_has ls 7 [(0, .ref sb), (1, .ref (a 0)), (2, .ref (b 0)), (3, .ref o), (4, .int y4)] → k23 y4 T → W p l e room_1 s m #[Value.ref sb] below meth c H locs (cn + 1) (sn + 6) (lw_Z below #[Value.ref sb] s) (F0 m 23 ls [])) : ∀ (y4 : Int32) (T : TLW) (H : Heap) (locs : List Loc) (ls : Array Slot), va_P D vwCl (wLAW cI cZ a b cJ o T) H → va_D A (wLAW cI cZ a b cJ o T) → va_S A s.heap H locs → lv_has ls 7 [(0, .ref sb), (1, .ref (a 0)), (2, .ref (b 0)), (3, .ref o), (4, .int y4)] → wp_law_L1301 L xs k23 y4 T → W p l e room_1 s m #[Value.ref sb] below meth c H locs cn sn (lw_Z below #[Value.ref sb] s) (F0 m 1301 ls []) := by
  obtain ⟨hst, hx, hb, hr, hlocks, hml, hown, hts, hX, hbl, hbA, hA, hAf, hKJ, hF, hXF⟩ := id C0
  have hK : va_K D vwCl (tyL cI cZ) s := hKJ.sub [0, 1] rfl
  have hml2 := hml
  intro y4 T H locs ls hP hD hS hl h
  unfold wp_law_L1301 at h
  refine lv_aload_n hx hb dL_law_1301 rfl (lv_at hl 1 rfl) ?_
  refine lv_aload_n hx hb dL_law_1302 rfl (lv_at hl 0 rfl) ?_
  refine lv_iload hx hb dL_law_1303 (lv_at hl 4 rfl) ?_
  refine lv_iconst (v := 1) hx hb dL_law_1305 (by decide) ?_
  refine lv_iadd hx hb dL_law_1306 ?_
  refine va_sld hx hb hX hbl hbA hS h.1 dL_law_1307 ?_
  have h := h.2
  refine cl_i (ws' := fun u279 => (wLAW cI cZ a b cJ o (u279.1, u279.2.1, u279.2.2.1, u279.2.2.2.1, u279.2.2.2.2.1, u279.2.2.2.2.2.1, u279.2.2.2.2.2.2.1, u279.2.2.2.2.2.2.2.1, u279.2.2.2.2.2.2.2.2.1, u279.2.2.2.2.2.2.2.2.2.1, u279.2.2.2.2.2.2.2.2.2.2.1, u279.2.2.2.2.2.2.2.2.2.2.2, T.2.2.2.2.2.2.2.2.2.2.2.2.1, T.2.2.2.2.2.2.2.2.2.2.2.2.2))) (va_runV (As := [.int (xs (Int32.toNatClampNeg (y4 + 1)))]) (rest := []) ⟨hx, hb, hml, hown, hts⟩ (c_X7_window l D cI cZ a _ (T.1, T.2.1, T.2.2.1, T.2.2.2.1, T.2.2.2.2.1, T.2.2.2.2.2.1, T.2.2.2.2.2.2.1, T.2.2.2.2.2.2.2.1, T.2.2.2.2.2.2.2.2.1, T.2.2.2.2.2.2.2.2.2.1, T.2.2.2.2.2.2.2.2.2.2.1, T.2.2.2.2.2.2.2.2.2.2.2.1) (xs (Int32.toNatClampNeg (y4 + 1))) _ h ) (cwV 1 hts (gV q_874 q_875 q_876 q_67 q_877) rfl rfl rfl (by decide +kernel) ⟨Nat.le_of_ble_eq_true rfl, Nat.le_of_ble_eq_true rfl⟩) (preTV_of (ci := 6) (q := (RX7, TX7, 4)) hF hS hA hK hP hD [0, 1, 2, 3, 4, 5, 6, 7, 8, 9, 10, 11, 12, 13, 14, 15, 16, 17, 18, 19, 20, 21, 22, 23, 24, 25, 26, 27, 28, 29, 30, 31, 32, 33, 34, 35, 36, 37, 38, 39, 40, 41, 42, 43, 44, 45, 46, 47, 48, 49, 50, 51, 52, 53] rfl rfl (by decide) 0 rfl rfl) rfl rfl hl.1 rfl (lv_room (Nat.le_of_ble_eq_true rfl)) dL_law_1308 ⟨(by show _ ≤ 1102; omega), (by show _ ≤ 16074; omega)⟩) hP hD hS hA [0, 1, 2, 3, 4, 5, 6, 7, 8, 9, 10, 11, 12, 13, 14, 15, 16, 17, 18, 19, 20, 21, 22, 23, 24, 25, 26, 27, 28, 29, 30, 31, 32, 33, 34, 35, 36, 37, 38, 39, 40, 41, 42, 43, 44, 45, 46, 47, 48, 49, 50, 51, 52, 53] [.inl 0, .inl 1, .inl 2, .inl 3, .inl 4, .inl 5, .inl 6, .inl 7, .inl 8, .inl 9, .inl 10, .inl 11, .inl 12, .inl 13, .inl 14, .inl 15, .inl 16, .inl 17, .inl 18, .inl 19, .inl 20, .inl 21, .inl 22, .inl 23, .inl 24, .inl 25, .inl 26, .inl 27, .inl 28, .inl 29, .inl 30, .inl 31, .inl 32, .inl 33, .inl 34, .inl 35, .inl 36, .inl 37, .inl 38, .inl 39, .inl 40, .inl 41, .inl 42, .inl 43, .inl 44, .inl 45, .inl 46, .inl 47, .inl 48, .inl 49, .inl 50, .inl 51, .inl 52, .inl 53, .inr 54, .inr 55, .inr 56, .inr 57, .inr 58, .inr 59, .inr 60, .inr 61, .inr 62, .inr 63, .inr 64, .inr 65, .inr 66, .inr 67, .inr 68, .inr 69, .inr 70, .inr 71, .inr 72] rfl (by decide) (fun _ => rfl) (fun _ => rfl) (fun r280 u279 H locs h hP hD hS => ?_)
  refine lv_aload_n hx hb dL_law_1311 rfl (lv_at hl 2 rfl) ?_
  refine lv_aload_n hx hb dL_law_1312 rfl (lv_at hl 0 rfl) ?_
  refine lv_iload hx hb dL_law_1313 (lv_at hl 4 rfl) ?_
  refine lv_iconst (v := 1) hx hb dL_law_1315 (by decide) ?_
  refine lv_iadd hx hb dL_law_1316 ?_
  refine va_sld hx hb hX hbl hbA hS h.1 dL_law_1317 ?_
  have h := h.2
  refine cl_i (ws' := fun u281 => (wLAW cI cZ a b cJ o (u279.1, u279.2.1, u279.2.2.1, u279.2.2.2.1, u279.2.2.2.2.1, u279.2.2.2.2.2.1, u279.2.2.2.2.2.2.1, u279.2.2.2.2.2.2.2.1, u279.2.2.2.2.2.2.2.2.1, u279.2.2.2.2.2.2.2.2.2.1, u279.2.2.2.2.2.2.2.2.2.2.1, u279.2.2.2.2.2.2.2.2.2.2.2, u281, T.2.2.2.2.2.2.2.2.2.2.2.2.2))) (va_runV (As := [.int (xs (Int32.toNatClampNeg (y4 + 1)))]) (rest := [.int r280]) ⟨hx, hb, hml, hown, hts⟩ (c_X8_window l D cI cZ b _ T.2.2.2.2.2.2.2.2.2.2.2.2.1 (xs (Int32.toNatClampNeg (y4 + 1))) _ h ) (cwV 1 hts (gV q_1462 q_1463 q_1464 q_75 q_1465) rfl rfl rfl (by decide +kernel) ⟨Nat.le_of_ble_eq_true rfl, Nat.le_of_ble_eq_true rfl⟩) (preTV_of (ci := 7) (q := (RX8, TX8, 25)) hF hS hA hK hP hD [54, 55, 56, 57, 58, 59, 60, 61, 62, 63, 64, 65, 66, 67, 68, 69, 70, 71] rfl rfl (by decide) 54 rfl rfl) rfl rfl hl.1 rfl (lv_room (Nat.le_of_ble_eq_true rfl)) dL_law_1318 ⟨(by show _ ≤ 1102; omega), (by show _ ≤ 16074; omega)⟩) hP hD hS hA [54, 55, 56, 57, 58, 59, 60, 61, 62, 63, 64, 65, 66, 67, 68, 69, 70, 71] [.inr 0, .inr 1, .inr 2, .inr 3, .inr 4, .inr 5, .inr 6, .inr 7, .inr 8, .inr 9, .inr 10, .inr 11, .inr 12, .inr 13, .inr 14, .inr 15, .inr 16, .inr 17, .inr 18, .inr 19, .inr 20, .inr 21, .inr 22, .inr 23, .inr 24, .inr 25, .inr 26, .inr 27, .inr 28, .inr 29, .inr 30, .inr 31, .inr 32, .inr 33, .inr 34, .inr 35, .inr 36, .inr 37, .inr 38, .inr 39, .inr 40, .inr 41, .inr 42, .inr 43, .inr 44, .inr 45, .inr 46, .inr 47, .inr 48, .inr 49, .inr 50, .inr 51, .inr 52, .inr 53, .inl 0, .inl 1, .inl 2, .inl 3, .inl 4, .inl 5, .inl 6, .inl 7, .inl 8, .inl 9, .inl 10, .inl 11, .inl 12, .inl 13, .inl 14, .inl 15, .inl 16, .inl 17, .inr 72] rfl (by decide) (fun _ => rfl) (fun _ => rfl) (fun r282 u281 H locs h hP hD hS => ?_)
  refine lv_icmp_eq (tgt := 1430) hx hb dL_law_1321 (by decide) (fun c283 => ?_) (fun c283 => ?_)
  · have h := h.1 c283
    refine W.widen (k := cn + 1) (n := sn + 6) (by omega) (by omega) ?_
    obtain ⟨x284, ex284⟩ : ∃ y : Int32, y = (y4 + 4) := ⟨_, rfl⟩
    have h := h x284 ex284
    refine lv_iinc (v := x284) (lv' := [(4, .int x284), (0, .ref sb), (1, .ref (a 0)), (2, .ref (b 0)), (3, .ref o)]) hx hb dL_law_1430 hl (k := 4) rfl (by rw [ex284]; rfl) (by decide) rfl (fun ls hl => ?_)
    refine lv_goto (tgt := 23) hx hb dL_law_1433 (by decide) ?_
    exact K23 x284 (u279.1, u279.2.1, u279.2.2.1, u279.2.2.2.1, u279.2.2.2.2.1, u279.2.2.2.2.2.1, u279.2.2.2.2.2.2.1, u279.2.2.2.2.2.2.2.1, u279.2.2.2.2.2.2.2.2.1, u279.2.2.2.2.2.2.2.2.2.1, u279.2.2.2.2.2.2.2.2.2.2.1, u279.2.2.2.2.2.2.2.2.2.2.2, u281, T.2.2.2.2.2.2.2.2.2.2.2.2.2) _ _ _ hP hD hS (lv_sub hl [1, 2, 3, 4, 0] rfl) h
  · have h := h.2 c283
    refine lv_iconst (v := 0) hx hb dL_law_1324 (by decide) ?_
    exact h.elim
set_option maxHeartbeats 4000000 in
set_option maxRecDepth 100000 in
theorem law_L1326 {p : Program} {l : Launch} {e : Env} {s : State} {m : MethodId} {below : List Frame} {meth : Method} {c : Code} {D : va_G} {cI cZ cJ : ClassId} {a b : Nat → Nat} {o sb L : Nat} {xs : Nat → Int32} {A : Nat → Prop} (C0 : lawC p l s m meth c D cI cZ cJ sb L xs A) {cn sn : Nat} (hcn : cn + 1 ≤ 1102) (hsn : sn + 6 ≤ 16074) (k23 : Int32 → TLW → Prop) (K23 : ∀ (y4 : Int32) (T : TLW) (H : Heap) (locs : List Loc) (ls : Array Slot), va_P D vwCl (wLAW cI cZ a b cJ o T) H → va_D A (wLAW cI cZ a b cJ o T) → va_S A s.heap H locs → lv_has ls 7 [(0, .ref sb), (1, .ref (a 0)), (2, .ref (b 0)), (3, .ref o), (4, .int y4)] → k23 y4 T → W p l e room_1 s m #[Value.ref sb] below meth c H locs (cn + 1) (sn + 6) (lw_Z below #[Value.ref sb] s) (F0 m 23 ls [])) : ∀ (y4 : Int32) (T : TLW) (H : Heap) (locs : List Loc) (ls : Array Slot), va_P D vwCl (wLAW cI cZ a b cJ o T) H → va_D A (wLAW cI cZ a b cJ o T) → va_S A s.heap H locs → lv_has ls 7 [(0, .ref sb), (1, .ref (a 0)), (2, .ref (b 0)), (3, .ref o), (4, .int y4)] → wp_law_L1326 L xs k23 y4 T → W p l e room_1 s m #[Value.ref sb] below meth c H locs cn sn (lw_Z below #[Value.ref sb] s) (F0 m 1326 ls []) := by
  obtain ⟨hst, hx, hb, hr, hlocks, hml, hown, hts, hX, hbl, hbA, hA, hAf, hKJ, hF, hXF⟩ := id C0
  have hK : va_K D vwCl (tyL cI cZ) s := hKJ.sub [0, 1] rfl
  have hml2 := hml
  intro y4 T H locs ls hP hD hS hl h
  unfold wp_law_L1326 at h
  refine lv_aload_n hx hb dL_law_1326 rfl (lv_at hl 1 rfl) ?_
  refine cl_i (ws' := fun u285 => (wLAW cI cZ a b cJ o (u285.1, u285.2.1, u285.2.2.1, u285.2.2.2.1, u285.2.2.2.2.1, u285.2.2.2.2.2.1, u285.2.2.2.2.2.2.1, u285.2.2.2.2.2.2.2.1, u285.2.2.2.2.2.2.2.2.1, u285.2.2.2.2.2.2.2.2.2.1, u285.2.2.2.2.2.2.2.2.2.2.1, u285.2.2.2.2.2.2.2.2.2.2.2, T.2.2.2.2.2.2.2.2.2.2.2.2.1, T.2.2.2.2.2.2.2.2.2.2.2.2.2))) (va_runV (As := []) (rest := []) ⟨hx, hb, hml, hown, hts⟩ (c_X7_keeps l D cI cZ a _ (T.1, T.2.1, T.2.2.1, T.2.2.2.1, T.2.2.2.2.1, T.2.2.2.2.2.1, T.2.2.2.2.2.2.1, T.2.2.2.2.2.2.2.1, T.2.2.2.2.2.2.2.2.1, T.2.2.2.2.2.2.2.2.2.1, T.2.2.2.2.2.2.2.2.2.2.1, T.2.2.2.2.2.2.2.2.2.2.2.1) _ h ) (cwV 0 hts (gV q_882 q_883 q_884 q_67 q_885) rfl rfl rfl (by decide +kernel) ⟨Nat.le_of_ble_eq_true rfl, Nat.le_of_ble_eq_true rfl⟩) (preTV_of (ci := 6) (q := (RX7, TX7, 4)) hF hS hA hK hP hD [0, 1, 2, 3, 4, 5, 6, 7, 8, 9, 10, 11, 12, 13, 14, 15, 16, 17, 18, 19, 20, 21, 22, 23, 24, 25, 26, 27, 28, 29, 30, 31, 32, 33, 34, 35, 36, 37, 38, 39, 40, 41, 42, 43, 44, 45, 46, 47, 48, 49, 50, 51, 52, 53] rfl rfl (by decide) 0 rfl rfl) rfl rfl hl.1 rfl (lv_room (Nat.le_of_ble_eq_true rfl)) dL_law_1327 ⟨(by show _ ≤ 1102; omega), (by show _ ≤ 16074; omega)⟩) hP hD hS hA [0, 1, 2, 3, 4, 5, 6, 7, 8, 9, 10, 11, 12, 13, 14, 15, 16, 17, 18, 19, 20, 21, 22, 23, 24, 25, 26, 27, 28, 29, 30, 31, 32, 33, 34, 35, 36, 37, 38, 39, 40, 41, 42, 43, 44, 45, 46, 47, 48, 49, 50, 51, 52, 53] [.inl 0, .inl 1, .inl 2, .inl 3, .inl 4, .inl 5, .inl 6, .inl 7, .inl 8, .inl 9, .inl 10, .inl 11, .inl 12, .inl 13, .inl 14, .inl 15, .inl 16, .inl 17, .inl 18, .inl 19, .inl 20, .inl 21, .inl 22, .inl 23, .inl 24, .inl 25, .inl 26, .inl 27, .inl 28, .inl 29, .inl 30, .inl 31, .inl 32, .inl 33, .inl 34, .inl 35, .inl 36, .inl 37, .inl 38, .inl 39, .inl 40, .inl 41, .inl 42, .inl 43, .inl 44, .inl 45, .inl 46, .inl 47, .inl 48, .inl 49, .inl 50, .inl 51, .inl 52, .inl 53, .inr 54, .inr 55, .inr 56, .inr 57, .inr 58, .inr 59, .inr 60, .inr 61, .inr 62, .inr 63, .inr 64, .inr 65, .inr 66, .inr 67, .inr 68, .inr 69, .inr 70, .inr 71, .inr 72] rfl (by decide) (fun _ => rfl) (fun _ => rfl) (fun r286 u285 H locs h hP hD hS => ?_)
  refine lv_aload_n hx hb dL_law_1330 rfl (lv_at hl 2 rfl) ?_
  refine cl_i (ws' := fun u287 => (wLAW cI cZ a b cJ o (u285.1, u285.2.1, u285.2.2.1, u285.2.2.2.1, u285.2.2.2.2.1, u285.2.2.2.2.2.1, u285.2.2.2.2.2.2.1, u285.2.2.2.2.2.2.2.1, u285.2.2.2.2.2.2.2.2.1, u285.2.2.2.2.2.2.2.2.2.1, u285.2.2.2.2.2.2.2.2.2.2.1, u285.2.2.2.2.2.2.2.2.2.2.2, u287, T.2.2.2.2.2.2.2.2.2.2.2.2.2))) (va_runV (As := []) (rest := [.int r286]) ⟨hx, hb, hml, hown, hts⟩ (c_X8_keeps l D cI cZ b _ T.2.2.2.2.2.2.2.2.2.2.2.2.1 _ h ) (cwV 0 hts (gV q_1466 q_1467 q_1468 q_75 q_1469) rfl rfl rfl (by decide +kernel) ⟨Nat.le_of_ble_eq_true rfl, Nat.le_of_ble_eq_true rfl⟩) (preTV_of (ci := 7) (q := (RX8, TX8, 25)) hF hS hA hK hP hD [54, 55, 56, 57, 58, 59, 60, 61, 62, 63, 64, 65, 66, 67, 68, 69, 70, 71] rfl rfl (by decide) 54 rfl rfl) rfl rfl hl.1 rfl (lv_room (Nat.le_of_ble_eq_true rfl)) dL_law_1331 ⟨(by show _ ≤ 1102; omega), (by show _ ≤ 16074; omega)⟩) hP hD hS hA [54, 55, 56, 57, 58, 59, 60, 61, 62, 63, 64, 65, 66, 67, 68, 69, 70, 71] [.inr 0, .inr 1, .inr 2, .inr 3, .inr 4, .inr 5, .inr 6, .inr 7, .inr 8, .inr 9, .inr 10, .inr 11, .inr 12, .inr 13, .inr 14, .inr 15, .inr 16, .inr 17, .inr 18, .inr 19, .inr 20, .inr 21, .inr 22, .inr 23, .inr 24, .inr 25, .inr 26, .inr 27, .inr 28, .inr 29, .inr 30, .inr 31, .inr 32, .inr 33, .inr 34, .inr 35, .inr 36, .inr 37, .inr 38, .inr 39, .inr 40, .inr 41, .inr 42, .inr 43, .inr 44, .inr 45, .inr 46, .inr 47, .inr 48, .inr 49, .inr 50, .inr 51, .inr 52, .inr 53, .inl 0, .inl 1, .inl 2, .inl 3, .inl 4, .inl 5, .inl 6, .inl 7, .inl 8, .inl 9, .inl 10, .inl 11, .inl 12, .inl 13, .inl 14, .inl 15, .inl 16, .inl 17, .inr 72] rfl (by decide) (fun _ => rfl) (fun _ => rfl) (fun r288 u287 H locs h hP hD hS => ?_)
  refine lv_icmp_eq (tgt := 1430) hx hb dL_law_1334 (by decide) (fun c289 => ?_) (fun c289 => ?_)
  · have h := h.1 c289
    refine W.widen (k := cn + 1) (n := sn + 6) (by omega) (by omega) ?_
    obtain ⟨x290, ex290⟩ : ∃ y : Int32, y = (y4 + 4) := ⟨_, rfl⟩
    have h := h x290 ex290
    refine lv_iinc (v := x290) (lv' := [(4, .int x290), (0, .ref sb), (1, .ref (a 0)), (2, .ref (b 0)), (3, .ref o)]) hx hb dL_law_1430 hl (k := 4) rfl (by rw [ex290]; rfl) (by decide) rfl (fun ls hl => ?_)
    refine lv_goto (tgt := 23) hx hb dL_law_1433 (by decide) ?_
    exact K23 x290 (u285.1, u285.2.1, u285.2.2.1, u285.2.2.2.1, u285.2.2.2.2.1, u285.2.2.2.2.2.1, u285.2.2.2.2.2.2.1, u285.2.2.2.2.2.2.2.1, u285.2.2.2.2.2.2.2.2.1, u285.2.2.2.2.2.2.2.2.2.1, u285.2.2.2.2.2.2.2.2.2.2.1, u285.2.2.2.2.2.2.2.2.2.2.2, u287, T.2.2.2.2.2.2.2.2.2.2.2.2.2) _ _ _ hP hD hS (lv_sub hl [1, 2, 3, 4, 0] rfl) h
  · have h := h.2 c289
    refine lv_iconst (v := 0) hx hb dL_law_1337 (by decide) ?_
    exact h.elim
set_option maxHeartbeats 4000000 in
set_option maxRecDepth 100000 in
theorem law_L1339 {p : Program} {l : Launch} {e : Env} {s : State} {m : MethodId} {below : List Frame} {meth : Method} {c : Code} {D : va_G} {cI cZ cJ : ClassId} {a b : Nat → Nat} {o sb L : Nat} {xs : Nat → Int32} {A : Nat → Prop} (C0 : lawC p l s m meth c D cI cZ cJ sb L xs A) {cn sn : Nat} (hcn : cn + 1 ≤ 1102) (hsn : sn + 6 ≤ 16074) (k23 : Int32 → TLW → Prop) (K23 : ∀ (y4 : Int32) (T : TLW) (H : Heap) (locs : List Loc) (ls : Array Slot), va_P D vwCl (wLAW cI cZ a b cJ o T) H → va_D A (wLAW cI cZ a b cJ o T) → va_S A s.heap H locs → lv_has ls 7 [(0, .ref sb), (1, .ref (a 0)), (2, .ref (b 0)), (3, .ref o), (4, .int y4)] → k23 y4 T → W p l e room_1 s m #[Value.ref sb] below meth c H locs (cn + 1) (sn + 6) (lw_Z below #[Value.ref sb] s) (F0 m 23 ls [])) : ∀ (y4 : Int32) (T : TLW) (H : Heap) (locs : List Loc) (ls : Array Slot), va_P D vwCl (wLAW cI cZ a b cJ o T) H → va_D A (wLAW cI cZ a b cJ o T) → va_S A s.heap H locs → lv_has ls 7 [(0, .ref sb), (1, .ref (a 0)), (2, .ref (b 0)), (3, .ref o), (4, .int y4)] → wp_law_L1339 L xs k23 y4 T → W p l e room_1 s m #[Value.ref sb] below meth c H locs cn sn (lw_Z below #[Value.ref sb] s) (F0 m 1339 ls []) := by
  obtain ⟨hst, hx, hb, hr, hlocks, hml, hown, hts, hX, hbl, hbA, hA, hAf, hKJ, hF, hXF⟩ := id C0
  have hK : va_K D vwCl (tyL cI cZ) s := hKJ.sub [0, 1] rfl
  have hml2 := hml
  intro y4 T H locs ls hP hD hS hl h
  unfold wp_law_L1339 at h
  refine lv_aload_n hx hb dL_law_1339 rfl (lv_at hl 1 rfl) ?_
  refine lv_aload_n hx hb dL_law_1340 rfl (lv_at hl 0 rfl) ?_
  refine lv_iload hx hb dL_law_1341 (lv_at hl 4 rfl) ?_
  refine lv_iconst (v := 1) hx hb dL_law_1343 (by decide) ?_
  refine lv_iadd hx hb dL_law_1344 ?_
  refine va_sld hx hb hX hbl hbA hS h.1 dL_law_1345 ?_
  have h := h.2
  refine cl_i (ws' := fun u291 => (wLAW cI cZ a b cJ o (u291.1, u291.2.1, u291.2.2.1, u291.2.2.2.1, u291.2.2.2.2.1, u291.2.2.2.2.2.1, u291.2.2.2.2.2.2.1, u291.2.2.2.2.2.2.2.1, u291.2.2.2.2.2.2.2.2.1, u291.2.2.2.2.2.2.2.2.2.1, u291.2.2.2.2.2.2.2.2.2.2.1, u291.2.2.2.2.2.2.2.2.2.2.2, T.2.2.2.2.2.2.2.2.2.2.2.2.1, T.2.2.2.2.2.2.2.2.2.2.2.2.2))) (va_runV (As := [.int (xs (Int32.toNatClampNeg (y4 + 1)))]) (rest := []) ⟨hx, hb, hml, hown, hts⟩ (c_X7_cost l D cI cZ a _ (T.1, T.2.1, T.2.2.1, T.2.2.2.1, T.2.2.2.2.1, T.2.2.2.2.2.1, T.2.2.2.2.2.2.1, T.2.2.2.2.2.2.2.1, T.2.2.2.2.2.2.2.2.1, T.2.2.2.2.2.2.2.2.2.1, T.2.2.2.2.2.2.2.2.2.2.1, T.2.2.2.2.2.2.2.2.2.2.2.1) (xs (Int32.toNatClampNeg (y4 + 1))) _ h ) (cwV 1 hts (gV q_890 q_891 q_892 q_67 q_893) rfl rfl rfl (by decide +kernel) ⟨Nat.le_of_ble_eq_true rfl, Nat.le_of_ble_eq_true rfl⟩) (preTV_of (ci := 6) (q := (RX7, TX7, 4)) hF hS hA hK hP hD [0, 1, 2, 3, 4, 5, 6, 7, 8, 9, 10, 11, 12, 13, 14, 15, 16, 17, 18, 19, 20, 21, 22, 23, 24, 25, 26, 27, 28, 29, 30, 31, 32, 33, 34, 35, 36, 37, 38, 39, 40, 41, 42, 43, 44, 45, 46, 47, 48, 49, 50, 51, 52, 53] rfl rfl (by decide) 0 rfl rfl) rfl rfl hl.1 rfl (lv_room (Nat.le_of_ble_eq_true rfl)) dL_law_1346 ⟨(by show _ ≤ 1102; omega), (by show _ ≤ 16074; omega)⟩) hP hD hS hA [0, 1, 2, 3, 4, 5, 6, 7, 8, 9, 10, 11, 12, 13, 14, 15, 16, 17, 18, 19, 20, 21, 22, 23, 24, 25, 26, 27, 28, 29, 30, 31, 32, 33, 34, 35, 36, 37, 38, 39, 40, 41, 42, 43, 44, 45, 46, 47, 48, 49, 50, 51, 52, 53] [.inl 0, .inl 1, .inl 2, .inl 3, .inl 4, .inl 5, .inl 6, .inl 7, .inl 8, .inl 9, .inl 10, .inl 11, .inl 12, .inl 13, .inl 14, .inl 15, .inl 16, .inl 17, .inl 18, .inl 19, .inl 20, .inl 21, .inl 22, .inl 23, .inl 24, .inl 25, .inl 26, .inl 27, .inl 28, .inl 29, .inl 30, .inl 31, .inl 32, .inl 33, .inl 34, .inl 35, .inl 36, .inl 37, .inl 38, .inl 39, .inl 40, .inl 41, .inl 42, .inl 43, .inl 44, .inl 45, .inl 46, .inl 47, .inl 48, .inl 49, .inl 50, .inl 51, .inl 52, .inl 53, .inr 54, .inr 55, .inr 56, .inr 57, .inr 58, .inr 59, .inr 60, .inr 61, .inr 62, .inr 63, .inr 64, .inr 65, .inr 66, .inr 67, .inr 68, .inr 69, .inr 70, .inr 71, .inr 72] rfl (by decide) (fun _ => rfl) (fun _ => rfl) (fun r292 u291 H locs h hP hD hS => ?_)
  refine lv_aload_n hx hb dL_law_1349 rfl (lv_at hl 2 rfl) ?_
  refine lv_aload_n hx hb dL_law_1350 rfl (lv_at hl 0 rfl) ?_
  refine lv_iload hx hb dL_law_1351 (lv_at hl 4 rfl) ?_
  refine lv_iconst (v := 1) hx hb dL_law_1353 (by decide) ?_
  refine lv_iadd hx hb dL_law_1354 ?_
  refine va_sld hx hb hX hbl hbA hS h.1 dL_law_1355 ?_
  have h := h.2
  refine cl_i (ws' := fun u293 => (wLAW cI cZ a b cJ o (u291.1, u291.2.1, u291.2.2.1, u291.2.2.2.1, u291.2.2.2.2.1, u291.2.2.2.2.2.1, u291.2.2.2.2.2.2.1, u291.2.2.2.2.2.2.2.1, u291.2.2.2.2.2.2.2.2.1, u291.2.2.2.2.2.2.2.2.2.1, u291.2.2.2.2.2.2.2.2.2.2.1, u291.2.2.2.2.2.2.2.2.2.2.2, u293, T.2.2.2.2.2.2.2.2.2.2.2.2.2))) (va_runV (As := [.int (xs (Int32.toNatClampNeg (y4 + 1)))]) (rest := [.int r292]) ⟨hx, hb, hml, hown, hts⟩ (c_X8_cost l D cI cZ b _ T.2.2.2.2.2.2.2.2.2.2.2.2.1 (xs (Int32.toNatClampNeg (y4 + 1))) _ h ) (cwV 1 hts (gV q_1474 q_1475 q_1476 q_75 q_1477) rfl rfl rfl (by decide +kernel) ⟨Nat.le_of_ble_eq_true rfl, Nat.le_of_ble_eq_true rfl⟩) (preTV_of (ci := 7) (q := (RX8, TX8, 25)) hF hS hA hK hP hD [54, 55, 56, 57, 58, 59, 60, 61, 62, 63, 64, 65, 66, 67, 68, 69, 70, 71] rfl rfl (by decide) 54 rfl rfl) rfl rfl hl.1 rfl (lv_room (Nat.le_of_ble_eq_true rfl)) dL_law_1356 ⟨(by show _ ≤ 1102; omega), (by show _ ≤ 16074; omega)⟩) hP hD hS hA [54, 55, 56, 57, 58, 59, 60, 61, 62, 63, 64, 65, 66, 67, 68, 69, 70, 71] [.inr 0, .inr 1, .inr 2, .inr 3, .inr 4, .inr 5, .inr 6, .inr 7, .inr 8, .inr 9, .inr 10, .inr 11, .inr 12, .inr 13, .inr 14, .inr 15, .inr 16, .inr 17, .inr 18, .inr 19, .inr 20, .inr 21, .inr 22, .inr 23, .inr 24, .inr 25, .inr 26, .inr 27, .inr 28, .inr 29, .inr 30, .inr 31, .inr 32, .inr 33, .inr 34, .inr 35, .inr 36, .inr 37, .inr 38, .inr 39, .inr 40, .inr 41, .inr 42, .inr 43, .inr 44, .inr 45, .inr 46, .inr 47, .inr 48, .inr 49, .inr 50, .inr 51, .inr 52, .inr 53, .inl 0, .inl 1, .inl 2, .inl 3, .inl 4, .inl 5, .inl 6, .inl 7, .inl 8, .inl 9, .inl 10, .inl 11, .inl 12, .inl 13, .inl 14, .inl 15, .inl 16, .inl 17, .inr 72] rfl (by decide) (fun _ => rfl) (fun _ => rfl) (fun r294 u293 H locs h hP hD hS => ?_)
  refine lv_icmp_eq (tgt := 1430) hx hb dL_law_1359 (by decide) (fun c295 => ?_) (fun c295 => ?_)
  · have h := h.1 c295
    refine W.widen (k := cn + 1) (n := sn + 6) (by omega) (by omega) ?_
    obtain ⟨x296, ex296⟩ : ∃ y : Int32, y = (y4 + 4) := ⟨_, rfl⟩
    have h := h x296 ex296
    refine lv_iinc (v := x296) (lv' := [(4, .int x296), (0, .ref sb), (1, .ref (a 0)), (2, .ref (b 0)), (3, .ref o)]) hx hb dL_law_1430 hl (k := 4) rfl (by rw [ex296]; rfl) (by decide) rfl (fun ls hl => ?_)
    refine lv_goto (tgt := 23) hx hb dL_law_1433 (by decide) ?_
    exact K23 x296 (u291.1, u291.2.1, u291.2.2.1, u291.2.2.2.1, u291.2.2.2.2.1, u291.2.2.2.2.2.1, u291.2.2.2.2.2.2.1, u291.2.2.2.2.2.2.2.1, u291.2.2.2.2.2.2.2.2.1, u291.2.2.2.2.2.2.2.2.2.1, u291.2.2.2.2.2.2.2.2.2.2.1, u291.2.2.2.2.2.2.2.2.2.2.2, u293, T.2.2.2.2.2.2.2.2.2.2.2.2.2) _ _ _ hP hD hS (lv_sub hl [1, 2, 3, 4, 0] rfl) h
  · have h := h.2 c295
    refine lv_iconst (v := 0) hx hb dL_law_1362 (by decide) ?_
    exact h.elim
set_option maxHeartbeats 4000000 in
set_option maxRecDepth 100000 in
theorem law_L1364 {p : Program} {l : Launch} {e : Env} {s : State} {m : MethodId} {below : List Frame} {meth : Method} {c : Code} {D : va_G} {cI cZ cJ : ClassId} {a b : Nat → Nat} {o sb L : Nat} {xs : Nat → Int32} {A : Nat → Prop} (C0 : lawC p l s m meth c D cI cZ cJ sb L xs A) {cn sn : Nat} (hcn : cn + 1 ≤ 1102) (hsn : sn + 6 ≤ 16074) (k23 : Int32 → TLW → Prop) (K23 : ∀ (y4 : Int32) (T : TLW) (H : Heap) (locs : List Loc) (ls : Array Slot), va_P D vwCl (wLAW cI cZ a b cJ o T) H → va_D A (wLAW cI cZ a b cJ o T) → va_S A s.heap H locs → lv_has ls 7 [(0, .ref sb), (1, .ref (a 0)), (2, .ref (b 0)), (3, .ref o), (4, .int y4)] → k23 y4 T → W p l e room_1 s m #[Value.ref sb] below meth c H locs (cn + 1) (sn + 6) (lw_Z below #[Value.ref sb] s) (F0 m 23 ls [])) : ∀ (y4 : Int32) (T : TLW) (H : Heap) (locs : List Loc) (ls : Array Slot), va_P D vwCl (wLAW cI cZ a b cJ o T) H → va_D A (wLAW cI cZ a b cJ o T) → va_S A s.heap H locs → lv_has ls 7 [(0, .ref sb), (1, .ref (a 0)), (2, .ref (b 0)), (3, .ref o), (4, .int y4)] → wp_law_L1364 L xs k23 y4 T → W p l e room_1 s m #[Value.ref sb] below meth c H locs cn sn (lw_Z below #[Value.ref sb] s) (F0 m 1364 ls []) := by
  obtain ⟨hst, hx, hb, hr, hlocks, hml, hown, hts, hX, hbl, hbA, hA, hAf, hKJ, hF, hXF⟩ := id C0
  have hK : va_K D vwCl (tyL cI cZ) s := hKJ.sub [0, 1] rfl
  have hml2 := hml
  intro y4 T H locs ls hP hD hS hl h
  unfold wp_law_L1364 at h
  refine lv_aload_n hx hb dL_law_1364 rfl (lv_at hl 1 rfl) ?_
  refine lv_aload_n hx hb dL_law_1365 rfl (lv_at hl 0 rfl) ?_
  refine lv_iload hx hb dL_law_1366 (lv_at hl 4 rfl) ?_
  refine lv_iconst (v := 1) hx hb dL_law_1368 (by decide) ?_
  refine lv_iadd hx hb dL_law_1369 ?_
  refine va_sld hx hb hX hbl hbA hS h.1 dL_law_1370 ?_
  have h := h.2
  refine cl_i (ws' := fun u297 => (wLAW cI cZ a b cJ o (u297.1, u297.2.1, u297.2.2.1, u297.2.2.2.1, u297.2.2.2.2.1, u297.2.2.2.2.2.1, u297.2.2.2.2.2.2.1, u297.2.2.2.2.2.2.2.1, u297.2.2.2.2.2.2.2.2.1, u297.2.2.2.2.2.2.2.2.2.1, u297.2.2.2.2.2.2.2.2.2.2.1, u297.2.2.2.2.2.2.2.2.2.2.2, T.2.2.2.2.2.2.2.2.2.2.2.2.1, T.2.2.2.2.2.2.2.2.2.2.2.2.2))) (va_runV (As := [.int (xs (Int32.toNatClampNeg (y4 + 1)))]) (rest := []) ⟨hx, hb, hml, hown, hts⟩ (c_X7_pushes l D cI cZ a _ (T.1, T.2.1, T.2.2.1, T.2.2.2.1, T.2.2.2.2.1, T.2.2.2.2.2.1, T.2.2.2.2.2.2.1, T.2.2.2.2.2.2.2.1, T.2.2.2.2.2.2.2.2.1, T.2.2.2.2.2.2.2.2.2.1, T.2.2.2.2.2.2.2.2.2.2.1, T.2.2.2.2.2.2.2.2.2.2.2.1) (xs (Int32.toNatClampNeg (y4 + 1))) _ h ) (cwV 1 hts (gV q_925 q_926 q_927 q_67 q_928) rfl rfl rfl (by decide +kernel) ⟨Nat.le_of_ble_eq_true rfl, Nat.le_of_ble_eq_true rfl⟩) (preTV_of (ci := 6) (q := (RX7, TX7, 4)) hF hS hA hK hP hD [0, 1, 2, 3, 4, 5, 6, 7, 8, 9, 10, 11, 12, 13, 14, 15, 16, 17, 18, 19, 20, 21, 22, 23, 24, 25, 26, 27, 28, 29, 30, 31, 32, 33, 34, 35, 36, 37, 38, 39, 40, 41, 42, 43, 44, 45, 46, 47, 48, 49, 50, 51, 52, 53] rfl rfl (by decide) 0 rfl rfl) rfl rfl hl.1 rfl (lv_room (Nat.le_of_ble_eq_true rfl)) dL_law_1371 ⟨(by show _ ≤ 1102; omega), (by show _ ≤ 16074; omega)⟩) hP hD hS hA [0, 1, 2, 3, 4, 5, 6, 7, 8, 9, 10, 11, 12, 13, 14, 15, 16, 17, 18, 19, 20, 21, 22, 23, 24, 25, 26, 27, 28, 29, 30, 31, 32, 33, 34, 35, 36, 37, 38, 39, 40, 41, 42, 43, 44, 45, 46, 47, 48, 49, 50, 51, 52, 53] [.inl 0, .inl 1, .inl 2, .inl 3, .inl 4, .inl 5, .inl 6, .inl 7, .inl 8, .inl 9, .inl 10, .inl 11, .inl 12, .inl 13, .inl 14, .inl 15, .inl 16, .inl 17, .inl 18, .inl 19, .inl 20, .inl 21, .inl 22, .inl 23, .inl 24, .inl 25, .inl 26, .inl 27, .inl 28, .inl 29, .inl 30, .inl 31, .inl 32, .inl 33, .inl 34, .inl 35, .inl 36, .inl 37, .inl 38, .inl 39, .inl 40, .inl 41, .inl 42, .inl 43, .inl 44, .inl 45, .inl 46, .inl 47, .inl 48, .inl 49, .inl 50, .inl 51, .inl 52, .inl 53, .inr 54, .inr 55, .inr 56, .inr 57, .inr 58, .inr 59, .inr 60, .inr 61, .inr 62, .inr 63, .inr 64, .inr 65, .inr 66, .inr 67, .inr 68, .inr 69, .inr 70, .inr 71, .inr 72] rfl (by decide) (fun _ => rfl) (fun _ => rfl) (fun r298 u297 H locs h hP hD hS => ?_)
  refine lv_aload_n hx hb dL_law_1374 rfl (lv_at hl 2 rfl) ?_
  refine lv_aload_n hx hb dL_law_1375 rfl (lv_at hl 0 rfl) ?_
  refine lv_iload hx hb dL_law_1376 (lv_at hl 4 rfl) ?_
  refine lv_iconst (v := 1) hx hb dL_law_1378 (by decide) ?_
  refine lv_iadd hx hb dL_law_1379 ?_
  refine va_sld hx hb hX hbl hbA hS h.1 dL_law_1380 ?_
  have h := h.2
  refine cl_i (ws' := fun u299 => (wLAW cI cZ a b cJ o (u297.1, u297.2.1, u297.2.2.1, u297.2.2.2.1, u297.2.2.2.2.1, u297.2.2.2.2.2.1, u297.2.2.2.2.2.2.1, u297.2.2.2.2.2.2.2.1, u297.2.2.2.2.2.2.2.2.1, u297.2.2.2.2.2.2.2.2.2.1, u297.2.2.2.2.2.2.2.2.2.2.1, u297.2.2.2.2.2.2.2.2.2.2.2, u299, T.2.2.2.2.2.2.2.2.2.2.2.2.2))) (va_runV (As := [.int (xs (Int32.toNatClampNeg (y4 + 1)))]) (rest := [.int r298]) ⟨hx, hb, hml, hown, hts⟩ (c_X8_pushes l D cI cZ b _ T.2.2.2.2.2.2.2.2.2.2.2.2.1 (xs (Int32.toNatClampNeg (y4 + 1))) _ h ) (cwV 1 hts (gV q_1494 q_1495 q_1496 q_75 q_1497) rfl rfl rfl (by decide +kernel) ⟨Nat.le_of_ble_eq_true rfl, Nat.le_of_ble_eq_true rfl⟩) (preTV_of (ci := 7) (q := (RX8, TX8, 25)) hF hS hA hK hP hD [54, 55, 56, 57, 58, 59, 60, 61, 62, 63, 64, 65, 66, 67, 68, 69, 70, 71] rfl rfl (by decide) 54 rfl rfl) rfl rfl hl.1 rfl (lv_room (Nat.le_of_ble_eq_true rfl)) dL_law_1381 ⟨(by show _ ≤ 1102; omega), (by show _ ≤ 16074; omega)⟩) hP hD hS hA [54, 55, 56, 57, 58, 59, 60, 61, 62, 63, 64, 65, 66, 67, 68, 69, 70, 71] [.inr 0, .inr 1, .inr 2, .inr 3, .inr 4, .inr 5, .inr 6, .inr 7, .inr 8, .inr 9, .inr 10, .inr 11, .inr 12, .inr 13, .inr 14, .inr 15, .inr 16, .inr 17, .inr 18, .inr 19, .inr 20, .inr 21, .inr 22, .inr 23, .inr 24, .inr 25, .inr 26, .inr 27, .inr 28, .inr 29, .inr 30, .inr 31, .inr 32, .inr 33, .inr 34, .inr 35, .inr 36, .inr 37, .inr 38, .inr 39, .inr 40, .inr 41, .inr 42, .inr 43, .inr 44, .inr 45, .inr 46, .inr 47, .inr 48, .inr 49, .inr 50, .inr 51, .inr 52, .inr 53, .inl 0, .inl 1, .inl 2, .inl 3, .inl 4, .inl 5, .inl 6, .inl 7, .inl 8, .inl 9, .inl 10, .inl 11, .inl 12, .inl 13, .inl 14, .inl 15, .inl 16, .inl 17, .inr 72] rfl (by decide) (fun _ => rfl) (fun _ => rfl) (fun r300 u299 H locs h hP hD hS => ?_)
  refine lv_icmp_eq (tgt := 1430) hx hb dL_law_1384 (by decide) (fun c301 => ?_) (fun c301 => ?_)
  · have h := h.1 c301
    refine W.widen (k := cn + 1) (n := sn + 6) (by omega) (by omega) ?_
    obtain ⟨x302, ex302⟩ : ∃ y : Int32, y = (y4 + 4) := ⟨_, rfl⟩
    have h := h x302 ex302
    refine lv_iinc (v := x302) (lv' := [(4, .int x302), (0, .ref sb), (1, .ref (a 0)), (2, .ref (b 0)), (3, .ref o)]) hx hb dL_law_1430 hl (k := 4) rfl (by rw [ex302]; rfl) (by decide) rfl (fun ls hl => ?_)
    refine lv_goto (tgt := 23) hx hb dL_law_1433 (by decide) ?_
    exact K23 x302 (u297.1, u297.2.1, u297.2.2.1, u297.2.2.2.1, u297.2.2.2.2.1, u297.2.2.2.2.2.1, u297.2.2.2.2.2.2.1, u297.2.2.2.2.2.2.2.1, u297.2.2.2.2.2.2.2.2.1, u297.2.2.2.2.2.2.2.2.2.1, u297.2.2.2.2.2.2.2.2.2.2.1, u297.2.2.2.2.2.2.2.2.2.2.2, u299, T.2.2.2.2.2.2.2.2.2.2.2.2.2) _ _ _ hP hD hS (lv_sub hl [1, 2, 3, 4, 0] rfl) h
  · have h := h.2 c301
    refine lv_iconst (v := 0) hx hb dL_law_1387 (by decide) ?_
    exact h.elim
set_option maxHeartbeats 4000000 in
set_option maxRecDepth 100000 in
theorem law_L1389 {p : Program} {l : Launch} {e : Env} {s : State} {m : MethodId} {below : List Frame} {meth : Method} {c : Code} {D : va_G} {cI cZ cJ : ClassId} {a b : Nat → Nat} {o sb L : Nat} {xs : Nat → Int32} {A : Nat → Prop} (C0 : lawC p l s m meth c D cI cZ cJ sb L xs A) {cn sn : Nat} (hcn : cn + 1 ≤ 1102) (hsn : sn + 6 ≤ 16074) (k23 : Int32 → TLW → Prop) (K23 : ∀ (y4 : Int32) (T : TLW) (H : Heap) (locs : List Loc) (ls : Array Slot), va_P D vwCl (wLAW cI cZ a b cJ o T) H → va_D A (wLAW cI cZ a b cJ o T) → va_S A s.heap H locs → lv_has ls 7 [(0, .ref sb), (1, .ref (a 0)), (2, .ref (b 0)), (3, .ref o), (4, .int y4)] → k23 y4 T → W p l e room_1 s m #[Value.ref sb] below meth c H locs (cn + 1) (sn + 6) (lw_Z below #[Value.ref sb] s) (F0 m 23 ls [])) : ∀ (y4 : Int32) (T : TLW) (H : Heap) (locs : List Loc) (ls : Array Slot), va_P D vwCl (wLAW cI cZ a b cJ o T) H → va_D A (wLAW cI cZ a b cJ o T) → va_S A s.heap H locs → lv_has ls 7 [(0, .ref sb), (1, .ref (a 0)), (2, .ref (b 0)), (3, .ref o), (4, .int y4)] → wp_law_L1389 L xs k23 y4 T → W p l e room_1 s m #[Value.ref sb] below meth c H locs cn sn (lw_Z below #[Value.ref sb] s) (F0 m 1389 ls []) := by
  obtain ⟨hst, hx, hb, hr, hlocks, hml, hown, hts, hX, hbl, hbA, hA, hAf, hKJ, hF, hXF⟩ := id C0
  have hK : va_K D vwCl (tyL cI cZ) s := hKJ.sub [0, 1] rfl
  have hml2 := hml
  intro y4 T H locs ls hP hD hS hl h
  unfold wp_law_L1389 at h
  refine lv_aload_n hx hb dL_law_1389 rfl (lv_at hl 1 rfl) ?_
  refine lv_aload_n hx hb dL_law_1390 rfl (lv_at hl 0 rfl) ?_
  refine lv_iload hx hb dL_law_1391 (lv_at hl 4 rfl) ?_
  refine lv_iconst (v := 1) hx hb dL_law_1393 (by decide) ?_
  refine lv_iadd hx hb dL_law_1394 ?_
  refine va_sld hx hb hX hbl hbA hS h.1 dL_law_1395 ?_
  have h := h.2
  refine lv_if_eq (tgt := 1403) hx hb dL_law_1396 (by decide) (fun c303 => ?_) (fun c303 => ?_)
  · have h := h.1 c303
    refine lv_iconst (v := 0) hx hb dL_law_1403 (by decide) ?_
    refine cl_i (ws' := fun u304 => (wLAW cI cZ a b cJ o (u304.1, u304.2.1, u304.2.2.1, u304.2.2.2.1, u304.2.2.2.2.1, u304.2.2.2.2.2.1, u304.2.2.2.2.2.2.1, u304.2.2.2.2.2.2.2.1, u304.2.2.2.2.2.2.2.2.1, u304.2.2.2.2.2.2.2.2.2.1, u304.2.2.2.2.2.2.2.2.2.2.1, u304.2.2.2.2.2.2.2.2.2.2.2, T.2.2.2.2.2.2.2.2.2.2.2.2.1, T.2.2.2.2.2.2.2.2.2.2.2.2.2))) (va_runV (As := [.int 0]) (rest := []) ⟨hx, hb, hml, hown, hts⟩ (c_X7_room l D cI cZ a _ (T.1, T.2.1, T.2.2.1, T.2.2.2.1, T.2.2.2.2.1, T.2.2.2.2.2.1, T.2.2.2.2.2.2.1, T.2.2.2.2.2.2.2.1, T.2.2.2.2.2.2.2.2.1, T.2.2.2.2.2.2.2.2.2.1, T.2.2.2.2.2.2.2.2.2.2.1, T.2.2.2.2.2.2.2.2.2.2.2.1) 0 _ h ) (cwV 1 hts (gV q_929 q_930 q_931 q_67 q_932) rfl rfl rfl (by decide +kernel) ⟨Nat.le_of_ble_eq_true rfl, Nat.le_of_ble_eq_true rfl⟩) (preTV_of (ci := 6) (q := (RX7, TX7, 4)) hF hS hA hK hP hD [0, 1, 2, 3, 4, 5, 6, 7, 8, 9, 10, 11, 12, 13, 14, 15, 16, 17, 18, 19, 20, 21, 22, 23, 24, 25, 26, 27, 28, 29, 30, 31, 32, 33, 34, 35, 36, 37, 38, 39, 40, 41, 42, 43, 44, 45, 46, 47, 48, 49, 50, 51, 52, 53] rfl rfl (by decide) 0 rfl rfl) rfl rfl hl.1 rfl (lv_room (Nat.le_of_ble_eq_true rfl)) dL_law_1404 ⟨(by show _ ≤ 1102; omega), (by show _ ≤ 16074; omega)⟩) hP hD hS hA [0, 1, 2, 3, 4, 5, 6, 7, 8, 9, 10, 11, 12, 13, 14, 15, 16, 17, 18, 19, 20, 21, 22, 23, 24, 25, 26, 27, 28, 29, 30, 31, 32, 33, 34, 35, 36, 37, 38, 39, 40, 41, 42, 43, 44, 45, 46, 47, 48, 49, 50, 51, 52, 53] [.inl 0, .inl 1, .inl 2, .inl 3, .inl 4, .inl 5, .inl 6, .inl 7, .inl 8, .inl 9, .inl 10, .inl 11, .inl 12, .inl 13, .inl 14, .inl 15, .inl 16, .inl 17, .inl 18, .inl 19, .inl 20, .inl 21, .inl 22, .inl 23, .inl 24, .inl 25, .inl 26, .inl 27, .inl 28, .inl 29, .inl 30, .inl 31, .inl 32, .inl 33, .inl 34, .inl 35, .inl 36, .inl 37, .inl 38, .inl 39, .inl 40, .inl 41, .inl 42, .inl 43, .inl 44, .inl 45, .inl 46, .inl 47, .inl 48, .inl 49, .inl 50, .inl 51, .inl 52, .inl 53, .inr 54, .inr 55, .inr 56, .inr 57, .inr 58, .inr 59, .inr 60, .inr 61, .inr 62, .inr 63, .inr 64, .inr 65, .inr 66, .inr 67, .inr 68, .inr 69, .inr 70, .inr 71, .inr 72] rfl (by decide) (fun _ => rfl) (fun _ => rfl) (fun r305 u304 H locs h hP hD hS => ?_)
    refine lv_aload_n hx hb dL_law_1407 rfl (lv_at hl 2 rfl) ?_
    refine lv_aload_n hx hb dL_law_1408 rfl (lv_at hl 0 rfl) ?_
    refine lv_iload hx hb dL_law_1409 (lv_at hl 4 rfl) ?_
    refine lv_iconst (v := 1) hx hb dL_law_1411 (by decide) ?_
    refine lv_iadd hx hb dL_law_1412 ?_
    refine va_sld hx hb hX hbl hbA hS h.1 dL_law_1413 ?_
    have h := h.2
    refine lv_if_eq (tgt := 1421) hx hb dL_law_1414 (by decide) (fun c306 => ?_) (fun c306 => ?_)
    · have h := h.1 c306
      refine lv_iconst (v := 0) hx hb dL_law_1421 (by decide) ?_
      refine cl_i (ws' := fun u307 => (wLAW cI cZ a b cJ o (u304.1, u304.2.1, u304.2.2.1, u304.2.2.2.1, u304.2.2.2.2.1, u304.2.2.2.2.2.1, u304.2.2.2.2.2.2.1, u304.2.2.2.2.2.2.2.1, u304.2.2.2.2.2.2.2.2.1, u304.2.2.2.2.2.2.2.2.2.1, u304.2.2.2.2.2.2.2.2.2.2.1, u304.2.2.2.2.2.2.2.2.2.2.2, u307, T.2.2.2.2.2.2.2.2.2.2.2.2.2))) (va_runV (As := [.int 0]) (rest := [.int r305]) ⟨hx, hb, hml, hown, hts⟩ (c_X8_room l D cI cZ b _ T.2.2.2.2.2.2.2.2.2.2.2.2.1 0 _ h ) (cwV 1 hts (gV q_1498 q_1499 q_1500 q_75 q_1501) rfl rfl rfl (by decide +kernel) ⟨Nat.le_of_ble_eq_true rfl, Nat.le_of_ble_eq_true rfl⟩) (preTV_of (ci := 7) (q := (RX8, TX8, 25)) hF hS hA hK hP hD [54, 55, 56, 57, 58, 59, 60, 61, 62, 63, 64, 65, 66, 67, 68, 69, 70, 71] rfl rfl (by decide) 54 rfl rfl) rfl rfl hl.1 rfl (lv_room (Nat.le_of_ble_eq_true rfl)) dL_law_1422 ⟨(by show _ ≤ 1102; omega), (by show _ ≤ 16074; omega)⟩) hP hD hS hA [54, 55, 56, 57, 58, 59, 60, 61, 62, 63, 64, 65, 66, 67, 68, 69, 70, 71] [.inr 0, .inr 1, .inr 2, .inr 3, .inr 4, .inr 5, .inr 6, .inr 7, .inr 8, .inr 9, .inr 10, .inr 11, .inr 12, .inr 13, .inr 14, .inr 15, .inr 16, .inr 17, .inr 18, .inr 19, .inr 20, .inr 21, .inr 22, .inr 23, .inr 24, .inr 25, .inr 26, .inr 27, .inr 28, .inr 29, .inr 30, .inr 31, .inr 32, .inr 33, .inr 34, .inr 35, .inr 36, .inr 37, .inr 38, .inr 39, .inr 40, .inr 41, .inr 42, .inr 43, .inr 44, .inr 45, .inr 46, .inr 47, .inr 48, .inr 49, .inr 50, .inr 51, .inr 52, .inr 53, .inl 0, .inl 1, .inl 2, .inl 3, .inl 4, .inl 5, .inl 6, .inl 7, .inl 8, .inl 9, .inl 10, .inl 11, .inl 12, .inl 13, .inl 14, .inl 15, .inl 16, .inl 17, .inr 72] rfl (by decide) (fun _ => rfl) (fun _ => rfl) (fun r308 u307 H locs h hP hD hS => ?_)
      refine lv_icmp_eq (tgt := 1430) hx hb dL_law_1425 (by decide) (fun c309 => ?_) (fun c309 => ?_)
      · have h := h.1 c309
        refine W.widen (k := cn + 1) (n := sn + 6) (by omega) (by omega) ?_
        obtain ⟨x310, ex310⟩ : ∃ y : Int32, y = (y4 + 4) := ⟨_, rfl⟩
        have h := h x310 ex310
        refine lv_iinc (v := x310) (lv' := [(4, .int x310), (0, .ref sb), (1, .ref (a 0)), (2, .ref (b 0)), (3, .ref o)]) hx hb dL_law_1430 hl (k := 4) rfl (by rw [ex310]; rfl) (by decide) rfl (fun ls hl => ?_)
        refine lv_goto (tgt := 23) hx hb dL_law_1433 (by decide) ?_
        exact K23 x310 (u304.1, u304.2.1, u304.2.2.1, u304.2.2.2.1, u304.2.2.2.2.1, u304.2.2.2.2.2.1, u304.2.2.2.2.2.2.1, u304.2.2.2.2.2.2.2.1, u304.2.2.2.2.2.2.2.2.1, u304.2.2.2.2.2.2.2.2.2.1, u304.2.2.2.2.2.2.2.2.2.2.1, u304.2.2.2.2.2.2.2.2.2.2.2, u307, T.2.2.2.2.2.2.2.2.2.2.2.2.2) _ _ _ hP hD hS (lv_sub hl [1, 2, 3, 4, 0] rfl) h
      · have h := h.2 c309
        refine lv_iconst (v := 0) hx hb dL_law_1428 (by decide) ?_
        exact h.elim
    · have h := h.2 c306
      refine lv_iconst (v := 1) hx hb dL_law_1417 (by decide) ?_
      refine lv_goto (tgt := 1422) hx hb dL_law_1418 (by decide) ?_
      refine cl_i (ws' := fun u311 => (wLAW cI cZ a b cJ o (u304.1, u304.2.1, u304.2.2.1, u304.2.2.2.1, u304.2.2.2.2.1, u304.2.2.2.2.2.1, u304.2.2.2.2.2.2.1, u304.2.2.2.2.2.2.2.1, u304.2.2.2.2.2.2.2.2.1, u304.2.2.2.2.2.2.2.2.2.1, u304.2.2.2.2.2.2.2.2.2.2.1, u304.2.2.2.2.2.2.2.2.2.2.2, u311, T.2.2.2.2.2.2.2.2.2.2.2.2.2))) (va_runV (As := [.int 1]) (rest := [.int r305]) ⟨hx, hb, hml, hown, hts⟩ (c_X8_room l D cI cZ b _ T.2.2.2.2.2.2.2.2.2.2.2.2.1 1 _ h ) (cwV 1 hts (gV q_1498 q_1499 q_1500 q_75 q_1501) rfl rfl rfl (by decide +kernel) ⟨Nat.le_of_ble_eq_true rfl, Nat.le_of_ble_eq_true rfl⟩) (preTV_of (ci := 7) (q := (RX8, TX8, 25)) hF hS hA hK hP hD [54, 55, 56, 57, 58, 59, 60, 61, 62, 63, 64, 65, 66, 67, 68, 69, 70, 71] rfl rfl (by decide) 54 rfl rfl) rfl rfl hl.1 rfl (lv_room (Nat.le_of_ble_eq_true rfl)) dL_law_1422 ⟨(by show _ ≤ 1102; omega), (by show _ ≤ 16074; omega)⟩) hP hD hS hA [54, 55, 56, 57, 58, 59, 60, 61, 62, 63, 64, 65, 66, 67, 68, 69, 70, 71] [.inr 0, .inr 1, .inr 2, .inr 3, .inr 4, .inr 5, .inr 6, .inr 7, .inr 8, .inr 9, .inr 10, .inr 11, .inr 12, .inr 13, .inr 14, .inr 15, .inr 16, .inr 17, .inr 18, .inr 19, .inr 20, .inr 21, .inr 22, .inr 23, .inr 24, .inr 25, .inr 26, .inr 27, .inr 28, .inr 29, .inr 30, .inr 31, .inr 32, .inr 33, .inr 34, .inr 35, .inr 36, .inr 37, .inr 38, .inr 39, .inr 40, .inr 41, .inr 42, .inr 43, .inr 44, .inr 45, .inr 46, .inr 47, .inr 48, .inr 49, .inr 50, .inr 51, .inr 52, .inr 53, .inl 0, .inl 1, .inl 2, .inl 3, .inl 4, .inl 5, .inl 6, .inl 7, .inl 8, .inl 9, .inl 10, .inl 11, .inl 12, .inl 13, .inl 14, .inl 15, .inl 16, .inl 17, .inr 72] rfl (by decide) (fun _ => rfl) (fun _ => rfl) (fun r312 u311 H locs h hP hD hS => ?_)
      refine lv_icmp_eq (tgt := 1430) hx hb dL_law_1425 (by decide) (fun c313 => ?_) (fun c313 => ?_)
      · have h := h.1 c313
        refine W.widen (k := cn + 1) (n := sn + 6) (by omega) (by omega) ?_
        obtain ⟨x314, ex314⟩ : ∃ y : Int32, y = (y4 + 4) := ⟨_, rfl⟩
        have h := h x314 ex314
        refine lv_iinc (v := x314) (lv' := [(4, .int x314), (0, .ref sb), (1, .ref (a 0)), (2, .ref (b 0)), (3, .ref o)]) hx hb dL_law_1430 hl (k := 4) rfl (by rw [ex314]; rfl) (by decide) rfl (fun ls hl => ?_)
        refine lv_goto (tgt := 23) hx hb dL_law_1433 (by decide) ?_
        exact K23 x314 (u304.1, u304.2.1, u304.2.2.1, u304.2.2.2.1, u304.2.2.2.2.1, u304.2.2.2.2.2.1, u304.2.2.2.2.2.2.1, u304.2.2.2.2.2.2.2.1, u304.2.2.2.2.2.2.2.2.1, u304.2.2.2.2.2.2.2.2.2.1, u304.2.2.2.2.2.2.2.2.2.2.1, u304.2.2.2.2.2.2.2.2.2.2.2, u311, T.2.2.2.2.2.2.2.2.2.2.2.2.2) _ _ _ hP hD hS (lv_sub hl [1, 2, 3, 4, 0] rfl) h
      · have h := h.2 c313
        refine lv_iconst (v := 0) hx hb dL_law_1428 (by decide) ?_
        exact h.elim
  · have h := h.2 c303
    refine lv_iconst (v := 1) hx hb dL_law_1399 (by decide) ?_
    refine lv_goto (tgt := 1404) hx hb dL_law_1400 (by decide) ?_
    refine cl_i (ws' := fun u315 => (wLAW cI cZ a b cJ o (u315.1, u315.2.1, u315.2.2.1, u315.2.2.2.1, u315.2.2.2.2.1, u315.2.2.2.2.2.1, u315.2.2.2.2.2.2.1, u315.2.2.2.2.2.2.2.1, u315.2.2.2.2.2.2.2.2.1, u315.2.2.2.2.2.2.2.2.2.1, u315.2.2.2.2.2.2.2.2.2.2.1, u315.2.2.2.2.2.2.2.2.2.2.2, T.2.2.2.2.2.2.2.2.2.2.2.2.1, T.2.2.2.2.2.2.2.2.2.2.2.2.2))) (va_runV (As := [.int 1]) (rest := []) ⟨hx, hb, hml, hown, hts⟩ (c_X7_room l D cI cZ a _ (T.1, T.2.1, T.2.2.1, T.2.2.2.1, T.2.2.2.2.1, T.2.2.2.2.2.1, T.2.2.2.2.2.2.1, T.2.2.2.2.2.2.2.1, T.2.2.2.2.2.2.2.2.1, T.2.2.2.2.2.2.2.2.2.1, T.2.2.2.2.2.2.2.2.2.2.1, T.2.2.2.2.2.2.2.2.2.2.2.1) 1 _ h ) (cwV 1 hts (gV q_929 q_930 q_931 q_67 q_932) rfl rfl rfl (by decide +kernel) ⟨Nat.le_of_ble_eq_true rfl, Nat.le_of_ble_eq_true rfl⟩) (preTV_of (ci := 6) (q := (RX7, TX7, 4)) hF hS hA hK hP hD [0, 1, 2, 3, 4, 5, 6, 7, 8, 9, 10, 11, 12, 13, 14, 15, 16, 17, 18, 19, 20, 21, 22, 23, 24, 25, 26, 27, 28, 29, 30, 31, 32, 33, 34, 35, 36, 37, 38, 39, 40, 41, 42, 43, 44, 45, 46, 47, 48, 49, 50, 51, 52, 53] rfl rfl (by decide) 0 rfl rfl) rfl rfl hl.1 rfl (lv_room (Nat.le_of_ble_eq_true rfl)) dL_law_1404 ⟨(by show _ ≤ 1102; omega), (by show _ ≤ 16074; omega)⟩) hP hD hS hA [0, 1, 2, 3, 4, 5, 6, 7, 8, 9, 10, 11, 12, 13, 14, 15, 16, 17, 18, 19, 20, 21, 22, 23, 24, 25, 26, 27, 28, 29, 30, 31, 32, 33, 34, 35, 36, 37, 38, 39, 40, 41, 42, 43, 44, 45, 46, 47, 48, 49, 50, 51, 52, 53] [.inl 0, .inl 1, .inl 2, .inl 3, .inl 4, .inl 5, .inl 6, .inl 7, .inl 8, .inl 9, .inl 10, .inl 11, .inl 12, .inl 13, .inl 14, .inl 15, .inl 16, .inl 17, .inl 18, .inl 19, .inl 20, .inl 21, .inl 22, .inl 23, .inl 24, .inl 25, .inl 26, .inl 27, .inl 28, .inl 29, .inl 30, .inl 31, .inl 32, .inl 33, .inl 34, .inl 35, .inl 36, .inl 37, .inl 38, .inl 39, .inl 40, .inl 41, .inl 42, .inl 43, .inl 44, .inl 45, .inl 46, .inl 47, .inl 48, .inl 49, .inl 50, .inl 51, .inl 52, .inl 53, .inr 54, .inr 55, .inr 56, .inr 57, .inr 58, .inr 59, .inr 60, .inr 61, .inr 62, .inr 63, .inr 64, .inr 65, .inr 66, .inr 67, .inr 68, .inr 69, .inr 70, .inr 71, .inr 72] rfl (by decide) (fun _ => rfl) (fun _ => rfl) (fun r316 u315 H locs h hP hD hS => ?_)
    refine lv_aload_n hx hb dL_law_1407 rfl (lv_at hl 2 rfl) ?_
    refine lv_aload_n hx hb dL_law_1408 rfl (lv_at hl 0 rfl) ?_
    refine lv_iload hx hb dL_law_1409 (lv_at hl 4 rfl) ?_
    refine lv_iconst (v := 1) hx hb dL_law_1411 (by decide) ?_
    refine lv_iadd hx hb dL_law_1412 ?_
    refine va_sld hx hb hX hbl hbA hS h.1 dL_law_1413 ?_
    have h := h.2
    refine lv_if_eq (tgt := 1421) hx hb dL_law_1414 (by decide) (fun c317 => ?_) (fun c317 => ?_)
    · have h := h.1 c317
      refine lv_iconst (v := 0) hx hb dL_law_1421 (by decide) ?_
      refine cl_i (ws' := fun u318 => (wLAW cI cZ a b cJ o (u315.1, u315.2.1, u315.2.2.1, u315.2.2.2.1, u315.2.2.2.2.1, u315.2.2.2.2.2.1, u315.2.2.2.2.2.2.1, u315.2.2.2.2.2.2.2.1, u315.2.2.2.2.2.2.2.2.1, u315.2.2.2.2.2.2.2.2.2.1, u315.2.2.2.2.2.2.2.2.2.2.1, u315.2.2.2.2.2.2.2.2.2.2.2, u318, T.2.2.2.2.2.2.2.2.2.2.2.2.2))) (va_runV (As := [.int 0]) (rest := [.int r316]) ⟨hx, hb, hml, hown, hts⟩ (c_X8_room l D cI cZ b _ T.2.2.2.2.2.2.2.2.2.2.2.2.1 0 _ h ) (cwV 1 hts (gV q_1498 q_1499 q_1500 q_75 q_1501) rfl rfl rfl (by decide +kernel) ⟨Nat.le_of_ble_eq_true rfl, Nat.le_of_ble_eq_true rfl⟩) (preTV_of (ci := 7) (q := (RX8, TX8, 25)) hF hS hA hK hP hD [54, 55, 56, 57, 58, 59, 60, 61, 62, 63, 64, 65, 66, 67, 68, 69, 70, 71] rfl rfl (by decide) 54 rfl rfl) rfl rfl hl.1 rfl (lv_room (Nat.le_of_ble_eq_true rfl)) dL_law_1422 ⟨(by show _ ≤ 1102; omega), (by show _ ≤ 16074; omega)⟩) hP hD hS hA [54, 55, 56, 57, 58, 59, 60, 61, 62, 63, 64, 65, 66, 67, 68, 69, 70, 71] [.inr 0, .inr 1, .inr 2, .inr 3, .inr 4, .inr 5, .inr 6, .inr 7, .inr 8, .inr 9, .inr 10, .inr 11, .inr 12, .inr 13, .inr 14, .inr 15, .inr 16, .inr 17, .inr 18, .inr 19, .inr 20, .inr 21, .inr 22, .inr 23, .inr 24, .inr 25, .inr 26, .inr 27, .inr 28, .inr 29, .inr 30, .inr 31, .inr 32, .inr 33, .inr 34, .inr 35, .inr 36, .inr 37, .inr 38, .inr 39, .inr 40, .inr 41, .inr 42, .inr 43, .inr 44, .inr 45, .inr 46, .inr 47, .inr 48, .inr 49, .inr 50, .inr 51, .inr 52, .inr 53, .inl 0, .inl 1, .inl 2, .inl 3, .inl 4, .inl 5, .inl 6, .inl 7, .inl 8, .inl 9, .inl 10, .inl 11, .inl 12, .inl 13, .inl 14, .inl 15, .inl 16, .inl 17, .inr 72] rfl (by decide) (fun _ => rfl) (fun _ => rfl) (fun r319 u318 H locs h hP hD hS => ?_)
      refine lv_icmp_eq (tgt := 1430) hx hb dL_law_1425 (by decide) (fun c320 => ?_) (fun c320 => ?_)
      · have h := h.1 c320
        refine W.widen (k := cn + 1) (n := sn + 6) (by omega) (by omega) ?_
        obtain ⟨x321, ex321⟩ : ∃ y : Int32, y = (y4 + 4) := ⟨_, rfl⟩
        have h := h x321 ex321
        refine lv_iinc (v := x321) (lv' := [(4, .int x321), (0, .ref sb), (1, .ref (a 0)), (2, .ref (b 0)), (3, .ref o)]) hx hb dL_law_1430 hl (k := 4) rfl (by rw [ex321]; rfl) (by decide) rfl (fun ls hl => ?_)
        refine lv_goto (tgt := 23) hx hb dL_law_1433 (by decide) ?_
        exact K23 x321 (u315.1, u315.2.1, u315.2.2.1, u315.2.2.2.1, u315.2.2.2.2.1, u315.2.2.2.2.2.1, u315.2.2.2.2.2.2.1, u315.2.2.2.2.2.2.2.1, u315.2.2.2.2.2.2.2.2.1, u315.2.2.2.2.2.2.2.2.2.1, u315.2.2.2.2.2.2.2.2.2.2.1, u315.2.2.2.2.2.2.2.2.2.2.2, u318, T.2.2.2.2.2.2.2.2.2.2.2.2.2) _ _ _ hP hD hS (lv_sub hl [1, 2, 3, 4, 0] rfl) h
      · have h := h.2 c320
        refine lv_iconst (v := 0) hx hb dL_law_1428 (by decide) ?_
        exact h.elim
    · have h := h.2 c317
      refine lv_iconst (v := 1) hx hb dL_law_1417 (by decide) ?_
      refine lv_goto (tgt := 1422) hx hb dL_law_1418 (by decide) ?_
      refine cl_i (ws' := fun u322 => (wLAW cI cZ a b cJ o (u315.1, u315.2.1, u315.2.2.1, u315.2.2.2.1, u315.2.2.2.2.1, u315.2.2.2.2.2.1, u315.2.2.2.2.2.2.1, u315.2.2.2.2.2.2.2.1, u315.2.2.2.2.2.2.2.2.1, u315.2.2.2.2.2.2.2.2.2.1, u315.2.2.2.2.2.2.2.2.2.2.1, u315.2.2.2.2.2.2.2.2.2.2.2, u322, T.2.2.2.2.2.2.2.2.2.2.2.2.2))) (va_runV (As := [.int 1]) (rest := [.int r316]) ⟨hx, hb, hml, hown, hts⟩ (c_X8_room l D cI cZ b _ T.2.2.2.2.2.2.2.2.2.2.2.2.1 1 _ h ) (cwV 1 hts (gV q_1498 q_1499 q_1500 q_75 q_1501) rfl rfl rfl (by decide +kernel) ⟨Nat.le_of_ble_eq_true rfl, Nat.le_of_ble_eq_true rfl⟩) (preTV_of (ci := 7) (q := (RX8, TX8, 25)) hF hS hA hK hP hD [54, 55, 56, 57, 58, 59, 60, 61, 62, 63, 64, 65, 66, 67, 68, 69, 70, 71] rfl rfl (by decide) 54 rfl rfl) rfl rfl hl.1 rfl (lv_room (Nat.le_of_ble_eq_true rfl)) dL_law_1422 ⟨(by show _ ≤ 1102; omega), (by show _ ≤ 16074; omega)⟩) hP hD hS hA [54, 55, 56, 57, 58, 59, 60, 61, 62, 63, 64, 65, 66, 67, 68, 69, 70, 71] [.inr 0, .inr 1, .inr 2, .inr 3, .inr 4, .inr 5, .inr 6, .inr 7, .inr 8, .inr 9, .inr 10, .inr 11, .inr 12, .inr 13, .inr 14, .inr 15, .inr 16, .inr 17, .inr 18, .inr 19, .inr 20, .inr 21, .inr 22, .inr 23, .inr 24, .inr 25, .inr 26, .inr 27, .inr 28, .inr 29, .inr 30, .inr 31, .inr 32, .inr 33, .inr 34, .inr 35, .inr 36, .inr 37, .inr 38, .inr 39, .inr 40, .inr 41, .inr 42, .inr 43, .inr 44, .inr 45, .inr 46, .inr 47, .inr 48, .inr 49, .inr 50, .inr 51, .inr 52, .inr 53, .inl 0, .inl 1, .inl 2, .inl 3, .inl 4, .inl 5, .inl 6, .inl 7, .inl 8, .inl 9, .inl 10, .inl 11, .inl 12, .inl 13, .inl 14, .inl 15, .inl 16, .inl 17, .inr 72] rfl (by decide) (fun _ => rfl) (fun _ => rfl) (fun r323 u322 H locs h hP hD hS => ?_)
      refine lv_icmp_eq (tgt := 1430) hx hb dL_law_1425 (by decide) (fun c324 => ?_) (fun c324 => ?_)
      · have h := h.1 c324
        refine W.widen (k := cn + 1) (n := sn + 6) (by omega) (by omega) ?_
        obtain ⟨x325, ex325⟩ : ∃ y : Int32, y = (y4 + 4) := ⟨_, rfl⟩
        have h := h x325 ex325
        refine lv_iinc (v := x325) (lv' := [(4, .int x325), (0, .ref sb), (1, .ref (a 0)), (2, .ref (b 0)), (3, .ref o)]) hx hb dL_law_1430 hl (k := 4) rfl (by rw [ex325]; rfl) (by decide) rfl (fun ls hl => ?_)
        refine lv_goto (tgt := 23) hx hb dL_law_1433 (by decide) ?_
        exact K23 x325 (u315.1, u315.2.1, u315.2.2.1, u315.2.2.2.1, u315.2.2.2.2.1, u315.2.2.2.2.2.1, u315.2.2.2.2.2.2.1, u315.2.2.2.2.2.2.2.1, u315.2.2.2.2.2.2.2.2.1, u315.2.2.2.2.2.2.2.2.2.1, u315.2.2.2.2.2.2.2.2.2.2.1, u315.2.2.2.2.2.2.2.2.2.2.2, u322, T.2.2.2.2.2.2.2.2.2.2.2.2.2) _ _ _ hP hD hS (lv_sub hl [1, 2, 3, 4, 0] rfl) h
      · have h := h.2 c324
        refine lv_iconst (v := 0) hx hb dL_law_1428 (by decide) ?_
        exact h.elim
