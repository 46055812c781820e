set_option maxHeartbeats 4000000 in
set_option maxRecDepth 100000 in
theorem law_L192 {p : Program} {l : Launch} {e : Env} {s : State} {m : MethodId} {below : List Frame} {meth : Method} {c : Code} {D : va_G} {cI cZ cJ : ClassId} {a b : Nat → Nat} {o sb L : Nat} {xs : Nat → Int32} {A : Nat → Prop} (C0 : lawC p l s m meth c D cI cZ cJ sb L xs A) {cn sn : Nat} (hcn : cn + 1 ≤ 1102) (hsn : sn + 6 ≤ 16074) (k23 : Int32 → TLW → Prop) (K23 : ∀ (y4 : Int32) (T : TLW) (H : Heap) (locs : List Loc) (ls : Array Slot), va_P D vwCl (wLAW cI cZ a b cJ o T) H → va_D A (wLAW cI cZ a b cJ o T) → va_S A s.heap H locs → lv_has ls 7 [(0, .ref sb), (1, .ref (a 0)), (2, .ref (b 0)), (3, .ref o), (4, .int y4)] → k23 y4 T → W p l e room_1 s m #[Value.ref sb] below meth c H locs (cn + 1) (sn + 6) (lw_Z below #[Value.ref sb] s) (F0 m 23 ls [])) : ∀ (y4 : Int32) (T : TLW) (H : Heap) (locs : List Loc) (ls : Array Slot), va_P D vwCl (wLAW cI cZ a b cJ o T) H → va_D A (wLAW cI cZ a b cJ o T) → va_S A s.heap H locs → lv_has ls 7 [(0, .ref sb), (1, .ref (a 0)), (2, .ref (b 0)), (3, .ref o), (4, .int y4)] → wp_law_L192 L xs k23 y4 T → W p l e room_1 s m #[Value.ref sb] below meth c H locs cn sn (lw_Z below #[Value.ref sb] s) (F0 m 192 ls []) := by
  obtain ⟨hst, hx, hb, hr, hlocks, hml, hown, hts, hX, hbl, hbA, hA, hAf, hKJ, hF, hXF⟩ := id C0
  have hK : va_K D vwCl (tyL cI cZ) s := hKJ.sub [0, 1] rfl
  have hml2 := hml
  intro y4 T H locs ls hP hD hS hl h
  unfold wp_law_L192 at h
  refine lv_aload_n hx hb dL_law_192 rfl (lv_at hl 1 rfl) ?_
  refine lv_aload_n hx hb dL_law_193 rfl (lv_at hl 0 rfl) ?_
  refine lv_iload hx hb dL_law_194 (lv_at hl 4 rfl) ?_
  refine lv_iconst (v := 1) hx hb dL_law_196 (by decide) ?_
  refine lv_iadd hx hb dL_law_197 ?_
  refine va_sld hx hb hX hbl hbA hS h.1 dL_law_198 ?_
  have h := h.2
  refine lv_aload_n hx hb dL_law_199 rfl (lv_at hl 0 rfl) ?_
  refine lv_iload hx hb dL_law_200 (lv_at hl 4 rfl) ?_
  refine lv_iconst (v := 2) hx hb dL_law_202 (by decide) ?_
  refine lv_iadd hx hb dL_law_203 ?_
  refine va_sld hx hb hX hbl hbA hS h.1 dL_law_204 ?_
  have h := h.2
  refine lv_i2l (v := (Int32.toInt64 (xs (Int32.toNatClampNeg (y4 + 2))))) hx hb dL_law_205 rfl ?_
  refine lv_bipush (v := 32) hx hb dL_law_206 (by decide) ?_
  refine lv_lshl (v := ((Int32.toInt64 (xs (Int32.toNatClampNeg (y4 + 2)))) <<< ((Int32.toInt64 32) &&& 63))) hx hb dL_law_208 rfl ?_
  refine lv_aload_n hx hb dL_law_209 rfl (lv_at hl 0 rfl) ?_
  refine lv_iload hx hb dL_law_210 (lv_at hl 4 rfl) ?_
  refine lv_iconst (v := 3) hx hb dL_law_212 (by decide) ?_
  refine lv_iadd hx hb dL_law_213 ?_
  refine va_sld hx hb hX hbl hbA hS h.1 dL_law_214 ?_
  have h := h.2
  refine lv_i2l (v := (Int32.toInt64 (xs (Int32.toNatClampNeg (y4 + 3))))) hx hb dL_law_215 rfl ?_
  refine lv_ldc2 hx hb hown (hts _ q_1502) dL_law_216 ?_
  refine lv_land hx hb dL_law_219 ?_
  refine lv_lor hx hb dL_law_220 ?_
  refine cl_i (ws' := fun u1 => (wLAW cI cZ a b cJ o (u1.1, u1.2.1, u1.2.2.1, u1.2.2.2.1, u1.2.2.2.2.1, u1.2.2.2.2.2.1, u1.2.2.2.2.2.2.1, u1.2.2.2.2.2.2.2.1, u1.2.2.2.2.2.2.2.2.1, u1.2.2.2.2.2.2.2.2.2.1, u1.2.2.2.2.2.2.2.2.2.2.1, u1.2.2.2.2.2.2.2.2.2.2.2, T.2.2.2.2.2.2.2.2.2.2.2.2.1, T.2.2.2.2.2.2.2.2.2.2.2.2.2))) (va_runV (As := [.int (xs (Int32.toNatClampNeg (y4 + 1))), .long (((Int32.toInt64 (xs (Int32.toNatClampNeg (y4 + 2)))) <<< ((Int32.toInt64 32) &&& 63)) ||| ((Int32.toInt64 (xs (Int32.toNatClampNeg (y4 + 3)))) &&& 4294967295))]) (rest := []) ⟨hx, hb, hml, hown, hts⟩ (c_X7_load l D cI cZ a _ (T.1, T.2.1, T.2.2.1, T.2.2.2.1, T.2.2.2.2.1, T.2.2.2.2.2.1, T.2.2.2.2.2.2.1, T.2.2.2.2.2.2.2.1, T.2.2.2.2.2.2.2.2.1, T.2.2.2.2.2.2.2.2.2.1, T.2.2.2.2.2.2.2.2.2.2.1, T.2.2.2.2.2.2.2.2.2.2.2.1) (xs (Int32.toNatClampNeg (y4 + 1))) (((Int32.toInt64 (xs (Int32.toNatClampNeg (y4 + 2)))) <<< ((Int32.toInt64 32) &&& 63)) ||| ((Int32.toInt64 (xs (Int32.toNatClampNeg (y4 + 3)))) &&& 4294967295)) _ h ) (cwV 2 hts (gV q_436 q_437 q_438 q_67 q_439) rfl rfl rfl (by decide +kernel) ⟨Nat.le_of_ble_eq_true rfl, Nat.le_of_ble_eq_true rfl⟩) (preV_of (ci := 6) (q := (RX7, TX7, 4)) hK hP hD [0, 1, 2, 3, 4, 5, 6, 7, 8, 9, 10, 11, 12, 13, 14, 15, 16, 17, 18, 19, 20, 21, 22, 23, 24, 25, 26, 27, 28, 29, 30, 31, 32, 33, 34, 35, 36, 37, 38, 39, 40, 41, 42, 43, 44, 45, 46, 47, 48, 49, 50, 51, 52, 53] rfl rfl (by decide) 0 rfl rfl) rfl rfl hl.1 rfl (lv_room (Nat.le_of_ble_eq_true rfl)) dL_law_221 ⟨(by show _ ≤ 1102; omega), (by show _ ≤ 16074; omega)⟩) hP hD hS hA [0, 1, 2, 3, 4, 5, 6, 7, 8, 9, 10, 11, 12, 13, 14, 15, 16, 17, 18, 19, 20, 21, 22, 23, 24, 25, 26, 27, 28, 29, 30, 31, 32, 33, 34, 35, 36, 37, 38, 39, 40, 41, 42, 43, 44, 45, 46, 47, 48, 49, 50, 51, 52, 53] [.inl 0, .inl 1, .inl 2, .inl 3, .inl 4, .inl 5, .inl 6, .inl 7, .inl 8, .inl 9, .inl 10, .inl 11, .inl 12, .inl 13, .inl 14, .inl 15, .inl 16, .inl 17, .inl 18, .inl 19, .inl 20, .inl 21, .inl 22, .inl 23, .inl 24, .inl 25, .inl 26, .inl 27, .inl 28, .inl 29, .inl 30, .inl 31, .inl 32, .inl 33, .inl 34, .inl 35, .inl 36, .inl 37, .inl 38, .inl 39, .inl 40, .inl 41, .inl 42, .inl 43, .inl 44, .inl 45, .inl 46, .inl 47, .inl 48, .inl 49, .inl 50, .inl 51, .inl 52, .inl 53, .inr 54, .inr 55, .inr 56, .inr 57, .inr 58, .inr 59, .inr 60, .inr 61, .inr 62, .inr 63, .inr 64, .inr 65, .inr 66, .inr 67, .inr 68, .inr 69, .inr 70, .inr 71, .inr 72] rfl (by decide) (fun _ => rfl) (fun _ => rfl) (fun r2 u1 H locs h hP hD hS => ?_)
  refine lv_aload_n hx hb dL_law_224 rfl (lv_at hl 2 rfl) ?_
  refine lv_aload_n hx hb dL_law_225 rfl (lv_at hl 0 rfl) ?_
  refine lv_iload hx hb dL_law_226 (lv_at hl 4 rfl) ?_
  refine lv_iconst (v := 1) hx hb dL_law_228 (by decide) ?_
  refine lv_iadd hx hb dL_law_229 ?_
  refine va_sld hx hb hX hbl hbA hS h.1 dL_law_230 ?_
  have h := h.2
  refine lv_aload_n hx hb dL_law_231 rfl (lv_at hl 0 rfl) ?_
  refine lv_iload hx hb dL_law_232 (lv_at hl 4 rfl) ?_
  refine lv_iconst (v := 2) hx hb dL_law_234 (by decide) ?_
  refine lv_iadd hx hb dL_law_235 ?_
  refine va_sld hx hb hX hbl hbA hS h.1 dL_law_236 ?_
  have h := h.2
  refine lv_i2l (v := (Int32.toInt64 (xs (Int32.toNatClampNeg (y4 + 2))))) hx hb dL_law_237 rfl ?_
  refine lv_bipush (v := 32) hx hb dL_law_238 (by decide) ?_
  refine lv_lshl (v := ((Int32.toInt64 (xs (Int32.toNatClampNeg (y4 + 2)))) <<< ((Int32.toInt64 32) &&& 63))) hx hb dL_law_240 rfl ?_
  refine lv_aload_n hx hb dL_law_241 rfl (lv_at hl 0 rfl) ?_
  refine lv_iload hx hb dL_law_242 (lv_at hl 4 rfl) ?_
  refine lv_iconst (v := 3) hx hb dL_law_244 (by decide) ?_
  refine lv_iadd hx hb dL_law_245 ?_
  refine va_sld hx hb hX hbl hbA hS h.1 dL_law_246 ?_
  have h := h.2
  refine lv_i2l (v := (Int32.toInt64 (xs (Int32.toNatClampNeg (y4 + 3))))) hx hb dL_law_247 rfl ?_
  refine lv_ldc2 hx hb hown (hts _ q_1502) dL_law_248 ?_
  refine lv_land hx hb dL_law_251 ?_
  refine lv_lor hx hb dL_law_252 ?_
  refine cl_i (ws' := fun u3 => (wLAW cI cZ a b cJ o (u1.1, u1.2.1, u1.2.2.1, u1.2.2.2.1, u1.2.2.2.2.1, u1.2.2.2.2.2.1, u1.2.2.2.2.2.2.1, u1.2.2.2.2.2.2.2.1, u1.2.2.2.2.2.2.2.2.1, u1.2.2.2.2.2.2.2.2.2.1, u1.2.2.2.2.2.2.2.2.2.2.1, u1.2.2.2.2.2.2.2.2.2.2.2, u3, T.2.2.2.2.2.2.2.2.2.2.2.2.2))) (va_runV (As := [.int (xs (Int32.toNatClampNeg (y4 + 1))), .long (((Int32.toInt64 (xs (Int32.toNatClampNeg (y4 + 2)))) <<< ((Int32.toInt64 32) &&& 63)) ||| ((Int32.toInt64 (xs (Int32.toNatClampNeg (y4 + 3)))) &&& 4294967295))]) (rest := [.int r2]) ⟨hx, hb, hml, hown, hts⟩ (c_X8_load l D cI cZ b _ T.2.2.2.2.2.2.2.2.2.2.2.2.1 (xs (Int32.toNatClampNeg (y4 + 1))) (((Int32.toInt64 (xs (Int32.toNatClampNeg (y4 + 2)))) <<< ((Int32.toInt64 32) &&& 63)) ||| ((Int32.toInt64 (xs (Int32.toNatClampNeg (y4 + 3)))) &&& 4294967295)) _ h ) (cwV 2 hts (gV q_1157 q_1158 q_1159 q_75 q_1160) rfl rfl rfl (by decide +kernel) ⟨Nat.le_of_ble_eq_true rfl, Nat.le_of_ble_eq_true rfl⟩) (preV_of (ci := 7) (q := (RX8, TX8, 25)) hK hP hD [54, 55, 56, 57, 58, 59, 60, 61, 62, 63, 64, 65, 66, 67, 68, 69, 70, 71] rfl rfl (by decide) 54 rfl rfl) rfl rfl hl.1 rfl (lv_room (Nat.le_of_ble_eq_true rfl)) dL_law_253 ⟨(by show _ ≤ 1102; omega), (by show _ ≤ 16074; omega)⟩) hP hD hS hA [54, 55, 56, 57, 58, 59, 60, 61, 62, 63, 64, 65, 66, 67, 68, 69, 70, 71] [.inr 0, .inr 1, .inr 2, .inr 3, .inr 4, .inr 5, .inr 6, .inr 7, .inr 8, .inr 9, .inr 10, .inr 11, .inr 12, .inr 13, .inr 14, .inr 15, .inr 16, .inr 17, .inr 18, .inr 19, .inr 20, .inr 21, .inr 22, .inr 23, .inr 24, .inr 25, .inr 26, .inr 27, .inr 28, .inr 29, .inr 30, .inr 31, .inr 32, .inr 33, .inr 34, .inr 35, .inr 36, .inr 37, .inr 38, .inr 39, .inr 40, .inr 41, .inr 42, .inr 43, .inr 44, .inr 45, .inr 46, .inr 47, .inr 48, .inr 49, .inr 50, .inr 51, .inr 52, .inr 53, .inl 0, .inl 1, .inl 2, .inl 3, .inl 4, .inl 5, .inl 6, .inl 7, .inl 8, .inl 9, .inl 10, .inl 11, .inl 12, .inl 13, .inl 14, .inl 15, .inl 16, .inl 17, .inr 72] rfl (by decide) (fun _ => rfl) (fun _ => rfl) (fun r4 u3 H locs h hP hD hS => ?_)
  refine lv_icmp_eq (tgt := 1430) hx hb dL_law_256 (by decide) (fun c5 => ?_) (fun c5 => ?_)
  · have h := h.1 c5
    refine W.widen (k := cn + 1) (n := sn + 6) (by omega) (by omega) ?_
    obtain ⟨x6, ex6⟩ : ∃ y : Int32, y = (y4 + 4) := ⟨_, rfl⟩
    have h := h x6 ex6
    refine lv_iinc (v := x6) (lv' := [(4, .int x6), (0, .ref sb), (1, .ref (a 0)), (2, .ref (b 0)), (3, .ref o)]) hx hb dL_law_1430 hl (k := 4) rfl (by rw [ex6]; rfl) (by decide) rfl (fun ls hl => ?_)
    refine lv_goto (tgt := 23) hx hb dL_law_1433 (by decide) ?_
    exact K23 x6 (u1.1, u1.2.1, u1.2.2.1, u1.2.2.2.1, u1.2.2.2.2.1, u1.2.2.2.2.2.1, u1.2.2.2.2.2.2.1, u1.2.2.2.2.2.2.2.1, u1.2.2.2.2.2.2.2.2.1, u1.2.2.2.2.2.2.2.2.2.1, u1.2.2.2.2.2.2.2.2.2.2.1, u1.2.2.2.2.2.2.2.2.2.2.2, u3, T.2.2.2.2.2.2.2.2.2.2.2.2.2) _ _ _ hP hD hS (lv_sub hl [1, 2, 3, 4, 0] rfl) h
  · have h := h.2 c5
    refine lv_iconst (v := 0) hx hb dL_law_259 (by decide) ?_
    exact h.elim
set_option maxHeartbeats 4000000 in
set_option maxRecDepth 100000 in
theorem law_L261 {p : Program} {l : Launch} {e : Env} {s : State} {m : MethodId} {below : List Frame} {meth : Method} {c : Code} {D : va_G} {cI cZ cJ : ClassId} {a b : Nat → Nat} {o sb L : Nat} {xs : Nat → Int32} {A : Nat → Prop} (C0 : lawC p l s m meth c D cI cZ cJ sb L xs A) {cn sn : Nat} (hcn : cn + 1 ≤ 1102) (hsn : sn + 6 ≤ 16074) (k23 : Int32 → TLW → Prop) (K23 : ∀ (y4 : Int32) (T : TLW) (H : Heap) (locs : List Loc) (ls : Array Slot), va_P D vwCl (wLAW cI cZ a b cJ o T) H → va_D A (wLAW cI cZ a b cJ o T) → va_S A s.heap H locs → lv_has ls 7 [(0, .ref sb), (1, .ref (a 0)), (2, .ref (b 0)), (3, .ref o), (4, .int y4)] → k23 y4 T → W p l e room_1 s m #[Value.ref sb] below meth c H locs (cn + 1) (sn + 6) (lw_Z below #[Value.ref sb] s) (F0 m 23 ls [])) : ∀ (y4 : Int32) (T : TLW) (H : Heap) (locs : List Loc) (ls : Array Slot), va_P D vwCl (wLAW cI cZ a b cJ o T) H → va_D A (wLAW cI cZ a b cJ o T) → va_S A s.heap H locs → lv_has ls 7 [(0, .ref sb), (1, .ref (a 0)), (2, .ref (b 0)), (3, .ref o), (4, .int y4)] → wp_law_L261 L xs k23 y4 T → W p l e room_1 s m #[Value.ref sb] below meth c H locs cn sn (lw_Z below #[Value.ref sb] s) (F0 m 261 ls []) := by
  obtain ⟨hst, hx, hb, hr, hlocks, hml, hown, hts, hX, hbl, hbA, hA, hAf, hKJ, hF, hXF⟩ := id C0
  have hK : va_K D vwCl (tyL cI cZ) s := hKJ.sub [0, 1] rfl
  have hml2 := hml
  intro y4 T H locs ls hP hD hS hl h
  unfold wp_law_L261 at h
  refine lv_aload_n hx hb dL_law_261 rfl (lv_at hl 1 rfl) ?_
  refine lv_aload_n hx hb dL_law_262 rfl (lv_at hl 0 rfl) ?_
  refine lv_iload hx hb dL_law_263 (lv_at hl 4 rfl) ?_
  refine lv_iconst (v := 1) hx hb dL_law_265 (by decide) ?_
  refine lv_iadd hx hb dL_law_266 ?_
  refine va_sld hx hb hX hbl hbA hS h.1 dL_law_267 ?_
  have h := h.2
  refine cl_i (ws' := fun u7 => (wLAW cI cZ a b cJ o (u7.1, u7.2.1, u7.2.2.1, u7.2.2.2.1, u7.2.2.2.2.1, u7.2.2.2.2.2.1, u7.2.2.2.2.2.2.1, u7.2.2.2.2.2.2.2.1, u7.2.2.2.2.2.2.2.2.1, u7.2.2.2.2.2.2.2.2.2.1, u7.2.2.2.2.2.2.2.2.2.2.1, u7.2.2.2.2.2.2.2.2.2.2.2, T.2.2.2.2.2.2.2.2.2.2.2.2.1, T.2.2.2.2.2.2.2.2.2.2.2.2.2))) (va_runV (As := [.int (xs (Int32.toNatClampNeg (y4 + 1)))]) (rest := []) ⟨hx, hb, hml, hown, hts⟩ (c_X7_code l D cI cZ a _ (T.1, T.2.1, T.2.2.1, T.2.2.2.1, T.2.2.2.2.1, T.2.2.2.2.2.1, T.2.2.2.2.2.2.1, T.2.2.2.2.2.2.2.1, T.2.2.2.2.2.2.2.2.1, T.2.2.2.2.2.2.2.2.2.1, T.2.2.2.2.2.2.2.2.2.2.1, T.2.2.2.2.2.2.2.2.2.2.2.1) (xs (Int32.toNatClampNeg (y4 + 1))) _ h ) (cwV 1 hts (gV q_440 q_441 q_442 q_67 q_443) rfl rfl rfl (by decide +kernel) ⟨Nat.le_of_ble_eq_true rfl, Nat.le_of_ble_eq_true rfl⟩) (preV_of (ci := 6) (q := (RX7, TX7, 4)) hK hP hD [0, 1, 2, 3, 4, 5, 6, 7, 8, 9, 10, 11, 12, 13, 14, 15, 16, 17, 18, 19, 20, 21, 22, 23, 24, 25, 26, 27, 28, 29, 30, 31, 32, 33, 34, 35, 36, 37, 38, 39, 40, 41, 42, 43, 44, 45, 46, 47, 48, 49, 50, 51, 52, 53] rfl rfl (by decide) 0 rfl rfl) rfl rfl hl.1 rfl (lv_room (Nat.le_of_ble_eq_true rfl)) dL_law_268 ⟨(by show _ ≤ 1102; omega), (by show _ ≤ 16074; omega)⟩) hP hD hS hA [0, 1, 2, 3, 4, 5, 6, 7, 8, 9, 10, 11, 12, 13, 14, 15, 16, 17, 18, 19, 20, 21, 22, 23, 24, 25, 26, 27, 28, 29, 30, 31, 32, 33, 34, 35, 36, 37, 38, 39, 40, 41, 42, 43, 44, 45, 46, 47, 48, 49, 50, 51, 52, 53] [.inl 0, .inl 1, .inl 2, .inl 3, .inl 4, .inl 5, .inl 6, .inl 7, .inl 8, .inl 9, .inl 10, .inl 11, .inl 12, .inl 13, .inl 14, .inl 15, .inl 16, .inl 17, .inl 18, .inl 19, .inl 20, .inl 21, .inl 22, .inl 23, .inl 24, .inl 25, .inl 26, .inl 27, .inl 28, .inl 29, .inl 30, .inl 31, .inl 32, .inl 33, .inl 34, .inl 35, .inl 36, .inl 37, .inl 38, .inl 39, .inl 40, .inl 41, .inl 42, .inl 43, .inl 44, .inl 45, .inl 46, .inl 47, .inl 48, .inl 49, .inl 50, .inl 51, .inl 52, .inl 53, .inr 54, .inr 55, .inr 56, .inr 57, .inr 58, .inr 59, .inr 60, .inr 61, .inr 62, .inr 63, .inr 64, .inr 65, .inr 66, .inr 67, .inr 68, .inr 69, .inr 70, .inr 71, .inr 72] rfl (by decide) (fun _ => rfl) (fun _ => rfl) (fun r8 u7 H locs h hP hD hS => ?_)
  refine lv_aload_n hx hb dL_law_271 rfl (lv_at hl 2 rfl) ?_
  refine lv_aload_n hx hb dL_law_272 rfl (lv_at hl 0 rfl) ?_
  refine lv_iload hx hb dL_law_273 (lv_at hl 4 rfl) ?_
  refine lv_iconst (v := 1) hx hb dL_law_275 (by decide) ?_
  refine lv_iadd hx hb dL_law_276 ?_
  refine va_sld hx hb hX hbl hbA hS h.1 dL_law_277 ?_
  have h := h.2
  refine cl_i (ws' := fun u9 => (wLAW cI cZ a b cJ o (u7.1, u7.2.1, u7.2.2.1, u7.2.2.2.1, u7.2.2.2.2.1, u7.2.2.2.2.2.1, u7.2.2.2.2.2.2.1, u7.2.2.2.2.2.2.2.1, u7.2.2.2.2.2.2.2.2.1, u7.2.2.2.2.2.2.2.2.2.1, u7.2.2.2.2.2.2.2.2.2.2.1, u7.2.2.2.2.2.2.2.2.2.2.2, u9, T.2.2.2.2.2.2.2.2.2.2.2.2.2))) (va_runV (As := [.int (xs (Int32.toNatClampNeg (y4 + 1)))]) (rest := [.int r8]) ⟨hx, hb, hml, hown, hts⟩ (c_X8_code l D cI cZ b _ T.2.2.2.2.2.2.2.2.2.2.2.2.1 (xs (Int32.toNatClampNeg (y4 + 1))) _ h ) (cwV 1 hts (gV q_1165 q_1166 q_1167 q_75 q_1168) rfl rfl rfl (by decide +kernel) ⟨Nat.le_of_ble_eq_true rfl, Nat.le_of_ble_eq_true rfl⟩) (preV_of (ci := 7) (q := (RX8, TX8, 25)) hK hP hD [54, 55, 56, 57, 58, 59, 60, 61, 62, 63, 64, 65, 66, 67, 68, 69, 70, 71] rfl rfl (by decide) 54 rfl rfl) rfl rfl hl.1 rfl (lv_room (Nat.le_of_ble_eq_true rfl)) dL_law_278 ⟨(by show _ ≤ 1102; omega), (by show _ ≤ 16074; omega)⟩) hP hD hS hA [54, 55, 56, 57, 58, 59, 60, 61, 62, 63, 64, 65, 66, 67, 68, 69, 70, 71] [.inr 0, .inr 1, .inr 2, .inr 3, .inr 4, .inr 5, .inr 6, .inr 7, .inr 8, .inr 9, .inr 10, .inr 11, .inr 12, .inr 13, .inr 14, .inr 15, .inr 16, .inr 17, .inr 18, .inr 19, .inr 20, .inr 21, .inr 22, .inr 23, .inr 24, .inr 25, .inr 26, .inr 27, .inr 28, .inr 29, .inr 30, .inr 31, .inr 32, .inr 33, .inr 34, .inr 35, .inr 36, .inr 37, .inr 38, .inr 39, .inr 40, .inr 41, .inr 42, .inr 43, .inr 44, .inr 45, .inr 46, .inr 47, .inr 48, .inr 49, .inr 50, .inr 51, .inr 52, .inr 53, .inl 0, .inl 1, .inl 2, .inl 3, .inl 4, .inl 5, .inl 6, .inl 7, .inl 8, .inl 9, .inl 10, .inl 11, .inl 12, .inl 13, .inl 14, .inl 15, .inl 16, .inl 17, .inr 72] rfl (by decide) (fun _ => rfl) (fun _ => rfl) (fun r10 u9 H locs h hP hD hS => ?_)
  refine lv_icmp_eq (tgt := 1430) hx hb dL_law_281 (by decide) (fun c11 => ?_) (fun c11 => ?_)
  · have h := h.1 c11
    refine W.widen (k := cn + 1) (n := sn + 6) (by omega) (by omega) ?_
    obtain ⟨x12, ex12⟩ : ∃ y : Int32, y = (y4 + 4) := ⟨_, rfl⟩
    have h := h x12 ex12
    refine lv_iinc (v := x12) (lv' := [(4, .int x12), (0, .ref sb), (1, .ref (a 0)), (2, .ref (b 0)), (3, .ref o)]) hx hb dL_law_1430 hl (k := 4) rfl (by rw [ex12]; rfl) (by decide) rfl (fun ls hl => ?_)
    refine lv_goto (tgt := 23) hx hb dL_law_1433 (by decide) ?_
    exact K23 x12 (u7.1, u7.2.1, u7.2.2.1, u7.2.2.2.1, u7.2.2.2.2.1, u7.2.2.2.2.2.1, u7.2.2.2.2.2.2.1, u7.2.2.2.2.2.2.2.1, u7.2.2.2.2.2.2.2.2.1, u7.2.2.2.2.2.2.2.2.2.1, u7.2.2.2.2.2.2.2.2.2.2.1, u7.2.2.2.2.2.2.2.2.2.2.2, u9, T.2.2.2.2.2.2.2.2.2.2.2.2.2) _ _ _ hP hD hS (lv_sub hl [1, 2, 3, 4, 0] rfl) h
  · have h := h.2 c11
    refine lv_iconst (v := 0) hx hb dL_law_284 (by decide) ?_
    exact h.elim
set_option maxHeartbeats 4000000 in
set_option maxRecDepth 100000 in
theorem law_L286 {p : Program} {l : Launch} {e : Env} {s : State} {m : MethodId} {below : List Frame} {meth : Method} {c : Code} {D : va_G} {cI cZ cJ : ClassId} {a b : Nat → Nat} {o sb L : Nat} {xs : Nat → Int32} {A : Nat → Prop} (C0 : lawC p l s m meth c D cI cZ cJ sb L xs A) {cn sn : Nat} (hcn : cn + 1 ≤ 1102) (hsn : sn + 6 ≤ 16074) (k23 : Int32 → TLW → Prop) (K23 : ∀ (y4 : Int32) (T : TLW) (H : Heap) (locs : List Loc) (ls : Array Slot), va_P D vwCl (wLAW cI cZ a b cJ o T) H → va_D A (wLAW cI cZ a b cJ o T) → va_S A s.heap H locs → lv_has ls 7 [(0, .ref sb), (1, .ref (a 0)), (2, .ref (b 0)), (3, .ref o), (4, .int y4)] → k23 y4 T → W p l e room_1 s m #[Value.ref sb] below meth c H locs (cn + 1) (sn + 6) (lw_Z below #[Value.ref sb] s) (F0 m 23 ls [])) : ∀ (y4 : Int32) (T : TLW) (H : Heap) (locs : List Loc) (ls : Array Slot), va_P D vwCl (wLAW cI cZ a b cJ o T) H → va_D A (wLAW cI cZ a b cJ o T) → va_S A s.heap H locs → lv_has ls 7 [(0, .ref sb), (1, .ref (a 0)), (2, .ref (b 0)), (3, .ref o), (4, .int y4)] → wp_law_L286 L xs k23 y4 T → W p l e room_1 s m #[Value.ref sb] below meth c H locs cn sn (lw_Z below #[Value.ref sb] s) (F0 m 286 ls []) := by
  obtain ⟨hst, hx, hb, hr, hlocks, hml, hown, hts, hX, hbl, hbA, hA, hAf, hKJ, hF, hXF⟩ := id C0
  have hK : va_K D vwCl (tyL cI cZ) s := hKJ.sub [0, 1] rfl
  have hml2 := hml
  intro y4 T H locs ls hP hD hS hl h
  unfold wp_law_L286 at h
  refine lv_aload_n hx hb dL_law_286 rfl (lv_at hl 1 rfl) ?_
  refine lv_aload_n hx hb dL_law_287 rfl (lv_at hl 0 rfl) ?_
  refine lv_iload hx hb dL_law_288 (lv_at hl 4 rfl) ?_
  refine lv_iconst (v := 1) hx hb dL_law_290 (by decide) ?_
  refine lv_iadd hx hb dL_law_291 ?_
  refine va_sld hx hb hX hbl hbA hS h.1 dL_law_292 ?_
  have h := h.2
  refine lv_aload_n hx hb dL_law_293 rfl (lv_at hl 0 rfl) ?_
  refine lv_iload hx hb dL_law_294 (lv_at hl 4 rfl) ?_
  refine lv_iconst (v := 2) hx hb dL_law_296 (by decide) ?_
  refine lv_iadd hx hb dL_law_297 ?_
  refine va_sld hx hb hX hbl hbA hS h.1 dL_law_298 ?_
  have h := h.2
  refine cl_i (ws' := fun u13 => (wLAW cI cZ a b cJ o (u13.1, u13.2.1, u13.2.2.1, u13.2.2.2.1, u13.2.2.2.2.1, u13.2.2.2.2.2.1, u13.2.2.2.2.2.2.1, u13.2.2.2.2.2.2.2.1, u13.2.2.2.2.2.2.2.2.1, u13.2.2.2.2.2.2.2.2.2.1, u13.2.2.2.2.2.2.2.2.2.2.1, u13.2.2.2.2.2.2.2.2.2.2.2, T.2.2.2.2.2.2.2.2.2.2.2.2.1, T.2.2.2.2.2.2.2.2.2.2.2.2.2))) (va_runV (As := [.int (xs (Int32.toNatClampNeg (y4 + 1))), .int (xs (Int32.toNatClampNeg (y4 + 2)))]) (rest := []) ⟨hx, hb, hml, hown, hts⟩ (c_X7_rank l D cI cZ a _ (T.1, T.2.1, T.2.2.1, T.2.2.2.1, T.2.2.2.2.1, T.2.2.2.2.2.1, T.2.2.2.2.2.2.1, T.2.2.2.2.2.2.2.1, T.2.2.2.2.2.2.2.2.1, T.2.2.2.2.2.2.2.2.2.1, T.2.2.2.2.2.2.2.2.2.2.1, T.2.2.2.2.2.2.2.2.2.2.2.1) (xs (Int32.toNatClampNeg (y4 + 1))) (xs (Int32.toNatClampNeg (y4 + 2))) _ h ) (cwV 2 hts (gV q_447 q_448 q_449 q_67 q_450) rfl rfl rfl (by decide +kernel) ⟨Nat.le_of_ble_eq_true rfl, Nat.le_of_ble_eq_true rfl⟩) (preV_of (ci := 6) (q := (RX7, TX7, 4)) hK hP hD [0, 1, 2, 3, 4, 5, 6, 7, 8, 9, 10, 11, 12, 13, 14, 15, 16, 17, 18, 19, 20, 21, 22, 23, 24, 25, 26, 27, 28, 29, 30, 31, 32, 33, 34, 35, 36, 37, 38, 39, 40, 41, 42, 43, 44, 45, 46, 47, 48, 49, 50, 51, 52, 53] rfl rfl (by decide) 0 rfl rfl) rfl rfl hl.1 rfl (lv_room (Nat.le_of_ble_eq_true rfl)) dL_law_299 ⟨(by show _ ≤ 1102; omega), (by show _ ≤ 16074; omega)⟩) hP hD hS hA [0, 1, 2, 3, 4, 5, 6, 7, 8, 9, 10, 11, 12, 13, 14, 15, 16, 17, 18, 19, 20, 21, 22, 23, 24, 25, 26, 27, 28, 29, 30, 31, 32, 33, 34, 35, 36, 37, 38, 39, 40, 41, 42, 43, 44, 45, 46, 47, 48, 49, 50, 51, 52, 53] [.inl 0, .inl 1, .inl 2, .inl 3, .inl 4, .inl 5, .inl 6, .inl 7, .inl 8, .inl 9, .inl 10, .inl 11, .inl 12, .inl 13, .inl 14, .inl 15, .inl 16, .inl 17, .inl 18, .inl 19, .inl 20, .inl 21, .inl 22, .inl 23, .inl 24, .inl 25, .inl 26, .inl 27, .inl 28, .inl 29, .inl 30, .inl 31, .inl 32, .inl 33, .inl 34, .inl 35, .inl 36, .inl 37, .inl 38, .inl 39, .inl 40, .inl 41, .inl 42, .inl 43, .inl 44, .inl 45, .inl 46, .inl 47, .inl 48, .inl 49, .inl 50, .inl 51, .inl 52, .inl 53, .inr 54, .inr 55, .inr 56, .inr 57, .inr 58, .inr 59, .inr 60, .inr 61, .inr 62, .inr 63, .inr 64, .inr 65, .inr 66, .inr 67, .inr 68, .inr 69, .inr 70, .inr 71, .inr 72] rfl (by decide) (fun _ => rfl) (fun _ => rfl) (fun r14 u13 H locs h hP hD hS => ?_)
  refine lv_aload_n hx hb dL_law_302 rfl (lv_at hl 2 rfl) ?_
  refine lv_aload_n hx hb dL_law_303 rfl (lv_at hl 0 rfl) ?_
  refine lv_iload hx hb dL_law_304 (lv_at hl 4 rfl) ?_
  refine lv_iconst (v := 1) hx hb dL_law_306 (by decide) ?_
  refine lv_iadd hx hb dL_law_307 ?_
  refine va_sld hx hb hX hbl hbA hS h.1 dL_law_308 ?_
  have h := h.2
  refine lv_aload_n hx hb dL_law_309 rfl (lv_at hl 0 rfl) ?_
  refine lv_iload hx hb dL_law_310 (lv_at hl 4 rfl) ?_
  refine lv_iconst (v := 2) hx hb dL_law_312 (by decide) ?_
  refine lv_iadd hx hb dL_law_313 ?_
  refine va_sld hx hb hX hbl hbA hS h.1 dL_law_314 ?_
  have h := h.2
  refine cl_i (ws' := fun u15 => (wLAW cI cZ a b cJ o (u13.1, u13.2.1, u13.2.2.1, u13.2.2.2.1, u13.2.2.2.2.1, u13.2.2.2.2.2.1, u13.2.2.2.2.2.2.1, u13.2.2.2.2.2.2.2.1, u13.2.2.2.2.2.2.2.2.1, u13.2.2.2.2.2.2.2.2.2.1, u13.2.2.2.2.2.2.2.2.2.2.1, u13.2.2.2.2.2.2.2.2.2.2.2, u15, T.2.2.2.2.2.2.2.2.2.2.2.2.2))) (va_runV (As := [.int (xs (Int32.toNatClampNeg (y4 + 1))), .int (xs (Int32.toNatClampNeg (y4 + 2)))]) (rest := [.int r14]) ⟨hx, hb, hml, hown, hts⟩ (c_X8_rank l D cI cZ b _ T.2.2.2.2.2.2.2.2.2.2.2.2.1 (xs (Int32.toNatClampNeg (y4 + 1))) (xs (Int32.toNatClampNeg (y4 + 2))) _ h ) (cwV 2 hts (gV q_1169 q_1170 q_1171 q_75 q_1172) rfl rfl rfl (by decide +kernel) ⟨Nat.le_of_ble_eq_true rfl, Nat.le_of_ble_eq_true rfl⟩) (preV_of (ci := 7) (q := (RX8, TX8, 25)) hK hP hD [54, 55, 56, 57, 58, 59, 60, 61, 62, 63, 64, 65, 66, 67, 68, 69, 70, 71] rfl rfl (by decide) 54 rfl rfl) rfl rfl hl.1 rfl (lv_room (Nat.le_of_ble_eq_true rfl)) dL_law_315 ⟨(by show _ ≤ 1102; omega), (by show _ ≤ 16074; omega)⟩) hP hD hS hA [54, 55, 56, 57, 58, 59, 60, 61, 62, 63, 64, 65, 66, 67, 68, 69, 70, 71] [.inr 0, .inr 1, .inr 2, .inr 3, .inr 4, .inr 5, .inr 6, .inr 7, .inr 8, .inr 9, .inr 10, .inr 11, .inr 12, .inr 13, .inr 14, .inr 15, .inr 16, .inr 17, .inr 18, .inr 19, .inr 20, .inr 21, .inr 22, .inr 23, .inr 24, .inr 25, .inr 26, .inr 27, .inr 28, .inr 29, .inr 30, .inr 31, .inr 32, .inr 33, .inr 34, .inr 35, .inr 36, .inr 37, .inr 38, .inr 39, .inr 40, .inr 41, .inr 42, .inr 43, .inr 44, .inr 45, .inr 46, .inr 47, .inr 48, .inr 49, .inr 50, .inr 51, .inr 52, .inr 53, .inl 0, .inl 1, .inl 2, .inl 3, .inl 4, .inl 5, .inl 6, .inl 7, .inl 8, .inl 9, .inl 10, .inl 11, .inl 12, .inl 13, .inl 14, .inl 15, .inl 16, .inl 17, .inr 72] rfl (by decide) (fun _ => rfl) (fun _ => rfl) (fun r16 u15 H locs h hP hD hS => ?_)
  refine lv_icmp_eq (tgt := 1430) hx hb dL_law_318 (by decide) (fun c17 => ?_) (fun c17 => ?_)
  · have h := h.1 c17
    refine W.widen (k := cn + 1) (n := sn + 6) (by omega) (by omega) ?_
    obtain ⟨x18, ex18⟩ : ∃ y : Int32, y = (y4 + 4) := ⟨_, rfl⟩
    have h := h x18 ex18
    refine lv_iinc (v := x18) (lv' := [(4, .int x18), (0, .ref sb), (1, .ref (a 0)), (2, .ref (b 0)), (3, .ref o)]) hx hb dL_law_1430 hl (k := 4) rfl (by rw [ex18]; rfl) (by decide) rfl (fun ls hl => ?_)
    refine lv_goto (tgt := 23) hx hb dL_law_1433 (by decide) ?_
    exact K23 x18 (u13.1, u13.2.1, u13.2.2.1, u13.2.2.2.1, u13.2.2.2.2.1, u13.2.2.2.2.2.1, u13.2.2.2.2.2.2.1, u13.2.2.2.2.2.2.2.1, u13.2.2.2.2.2.2.2.2.1, u13.2.2.2.2.2.2.2.2.2.1, u13.2.2.2.2.2.2.2.2.2.2.1, u13.2.2.2.2.2.2.2.2.2.2.2, u15, T.2.2.2.2.2.2.2.2.2.2.2.2.2) _ _ _ hP hD hS (lv_sub hl [1, 2, 3, 4, 0] rfl) h
  · have h := h.2 c17
    refine lv_iconst (v := 0) hx hb dL_law_321 (by decide) ?_
    exact h.elim
set_option maxHeartbeats 4000000 in
set_option maxRecDepth 100000 in
theorem law_L323 {p : Program} {l : Launch} {e : Env} {s : State} {m : MethodId} {below : List Frame} {meth : Method} {c : Code} {D : va_G} {cI cZ cJ : ClassId} {a b : Nat → Nat} {o sb L : Nat} {xs : Nat → Int32} {A : Nat → Prop} (C0 : lawC p l s m meth c D cI cZ cJ sb L xs A) {cn sn : Nat} (hcn : cn + 1 ≤ 1102) (hsn : sn + 6 ≤ 16074) (k23 : Int32 → TLW → Prop) (K23 : ∀ (y4 : Int32) (T : TLW) (H : Heap) (locs : List Loc) (ls : Array Slot), va_P D vwCl (wLAW cI cZ a b cJ o T) H → va_D A (wLAW cI cZ a b cJ o T) → va_S A s.heap H locs → lv_has ls 7 [(0, .ref sb), (1, .ref (a 0)), (2, .ref (b 0)), (3, .ref o), (4, .int y4)] → k23 y4 T → W p l e room_1 s m #[Value.ref sb] below meth c H locs (cn + 1) (sn + 6) (lw_Z below #[Value.ref sb] s) (F0 m 23 ls [])) : ∀ (y4 : Int32) (T : TLW) (H : Heap) (locs : List Loc) (ls : Array Slot), va_P D vwCl (wLAW cI cZ a b cJ o T) H → va_D A (wLAW cI cZ a b cJ o T) → va_S A s.heap H locs → lv_has ls 7 [(0, .ref sb), (1, .ref (a 0)), (2, .ref (b 0)), (3, .ref o), (4, .int y4)] → wp_law_L323 L xs k23 y4 T → W p l e room_1 s m #[Value.ref sb] below meth c H locs cn sn (lw_Z below #[Value.ref sb] s) (F0 m 323 ls []) := by
  obtain ⟨hst, hx, hb, hr, hlocks, hml, hown, hts, hX, hbl, hbA, hA, hAf, hKJ, hF, hXF⟩ := id C0
  have hK : va_K D vwCl (tyL cI cZ) s := hKJ.sub [0, 1] rfl
  have hml2 := hml
  intro y4 T H locs ls hP hD hS hl h
  unfold wp_law_L323 at h
  refine lv_aload_n hx hb dL_law_323 rfl (lv_at hl 1 rfl) ?_
  refine lv_aload_n hx hb dL_law_324 rfl (lv_at hl 0 rfl) ?_
  refine lv_iload hx hb dL_law_325 (lv_at hl 4 rfl) ?_
  refine lv_iconst (v := 1) hx hb dL_law_327 (by decide) ?_
  refine lv_iadd hx hb dL_law_328 ?_
  refine va_sld hx hb hX hbl hbA hS h.1 dL_law_329 ?_
  have h := h.2
  refine lv_aload_n hx hb dL_law_330 rfl (lv_at hl 0 rfl) ?_
  refine lv_iload hx hb dL_law_331 (lv_at hl 4 rfl) ?_
  refine lv_iconst (v := 2) hx hb dL_law_333 (by decide) ?_
  refine lv_iadd hx hb dL_law_334 ?_
  refine va_sld hx hb hX hbl hbA hS h.1 dL_law_335 ?_
  have h := h.2
  refine lv_if_eq (tgt := 343) hx hb dL_law_336 (by decide) (fun c19 => ?_) (fun c19 => ?_)
  · have h := h.1 c19
    refine lv_iconst (v := 0) hx hb dL_law_343 (by decide) ?_
    refine cl_i (ws' := fun u20 => (wLAW cI cZ a b cJ o (u20.1, u20.2.1, u20.2.2.1, u20.2.2.2.1, u20.2.2.2.2.1, u20.2.2.2.2.2.1, u20.2.2.2.2.2.2.1, u20.2.2.2.2.2.2.2.1, u20.2.2.2.2.2.2.2.2.1, u20.2.2.2.2.2.2.2.2.2.1, u20.2.2.2.2.2.2.2.2.2.2.1, u20.2.2.2.2.2.2.2.2.2.2.2, T.2.2.2.2.2.2.2.2.2.2.2.2.1, T.2.2.2.2.2.2.2.2.2.2.2.2.2))) (va_runV (As := [.int (xs (Int32.toNatClampNeg (y4 + 1))), .int 0]) (rest := []) ⟨hx, hb, hml, hown, hts⟩ (c_X7_enable l D cI cZ a _ (T.1, T.2.1, T.2.2.1, T.2.2.2.1, T.2.2.2.2.1, T.2.2.2.2.2.1, T.2.2.2.2.2.2.1, T.2.2.2.2.2.2.2.1, T.2.2.2.2.2.2.2.2.1, T.2.2.2.2.2.2.2.2.2.1, T.2.2.2.2.2.2.2.2.2.2.1, T.2.2.2.2.2.2.2.2.2.2.2.1) (xs (Int32.toNatClampNeg (y4 + 1))) 0 _ h ) (cwV 2 hts (gV q_454 q_455 q_456 q_67 q_457) rfl rfl rfl (by decide +kernel) ⟨Nat.le_of_ble_eq_true rfl, Nat.le_of_ble_eq_true rfl⟩) (preV_of (ci := 6) (q := (RX7, TX7, 4)) hK hP hD [0, 1, 2, 3, 4, 5, 6, 7, 8, 9, 10, 11, 12, 13, 14, 15, 16, 17, 18, 19, 20, 21, 22, 23, 24, 25, 26, 27, 28, 29, 30, 31, 32, 33, 34, 35, 36, 37, 38, 39, 40, 41, 42, 43, 44, 45, 46, 47, 48, 49, 50, 51, 52, 53] rfl rfl (by decide) 0 rfl rfl) rfl rfl hl.1 rfl (lv_room (Nat.le_of_ble_eq_true rfl)) dL_law_344 ⟨(by show _ ≤ 1102; omega), (by show _ ≤ 16074; omega)⟩) hP hD hS hA [0, 1, 2, 3, 4, 5, 6, 7, 8, 9, 10, 11, 12, 13, 14, 15, 16, 17, 18, 19, 20, 21, 22, 23, 24, 25, 26, 27, 28, 29, 30, 31, 32, 33, 34, 35, 36, 37, 38, 39, 40, 41, 42, 43, 44, 45, 46, 47, 48, 49, 50, 51, 52, 53] [.inl 0, .inl 1, .inl 2, .inl 3, .inl 4, .inl 5, .inl 6, .inl 7, .inl 8, .inl 9, .inl 10, .inl 11, .inl 12, .inl 13, .inl 14, .inl 15, .inl 16, .inl 17, .inl 18, .inl 19, .inl 20, .inl 21, .inl 22, .inl 23, .inl 24, .inl 25, .inl 26, .inl 27, .inl 28, .inl 29, .inl 30, .inl 31, .inl 32, .inl 33, .inl 34, .inl 35, .inl 36, .inl 37, .inl 38, .inl 39, .inl 40, .inl 41, .inl 42, .inl 43, .inl 44, .inl 45, .inl 46, .inl 47, .inl 48, .inl 49, .inl 50, .inl 51, .inl 52, .inl 53, .inr 54, .inr 55, .inr 56, .inr 57, .inr 58, .inr 59, .inr 60, .inr 61, .inr 62, .inr 63, .inr 64, .inr 65, .inr 66, .inr 67, .inr 68, .inr 69, .inr 70, .inr 71, .inr 72] rfl (by decide) (fun _ => rfl) (fun _ => rfl) (fun r21 u20 H locs h hP hD hS => ?_)
    refine lv_aload_n hx hb dL_law_347 rfl (lv_at hl 2 rfl) ?_
    refine lv_aload_n hx hb dL_law_348 rfl (lv_at hl 0 rfl) ?_
    refine lv_iload hx hb dL_law_349 (lv_at hl 4 rfl) ?_
    refine lv_iconst (v := 1) hx hb dL_law_351 (by decide) ?_
    refine lv_iadd hx hb dL_law_352 ?_
    refine va_sld hx hb hX hbl hbA hS h.1 dL_law_353 ?_
    have h := h.2
    refine lv_aload_n hx hb dL_law_354 rfl (lv_at hl 0 rfl) ?_
    refine lv_iload hx hb dL_law_355 (lv_at hl 4 rfl) ?_
    refine lv_iconst (v := 2) hx hb dL_law_357 (by decide) ?_
    refine lv_iadd hx hb dL_law_358 ?_
    refine va_sld hx hb hX hbl hbA hS h.1 dL_law_359 ?_
    have h := h.2
    refine lv_if_eq (tgt := 367) hx hb dL_law_360 (by decide) (fun c22 => ?_) (fun c22 => ?_)
    · have h := h.1 c22
      refine lv_iconst (v := 0) hx hb dL_law_367 (by decide) ?_
      refine cl_i (ws' := fun u23 => (wLAW cI cZ a b cJ o (u20.1, u20.2.1, u20.2.2.1, u20.2.2.2.1, u20.2.2.2.2.1, u20.2.2.2.2.2.1, u20.2.2.2.2.2.2.1, u20.2.2.2.2.2.2.2.1, u20.2.2.2.2.2.2.2.2.1, u20.2.2.2.2.2.2.2.2.2.1, u20.2.2.2.2.2.2.2.2.2.2.1, u20.2.2.2.2.2.2.2.2.2.2.2, u23, T.2.2.2.2.2.2.2.2.2.2.2.2.2))) (va_runV (As := [.int (xs (Int32.toNatClampNeg (y4 + 1))), .int 0]) (rest := [.int r21]) ⟨hx, hb, hml, hown, hts⟩ (c_X8_enable l D cI cZ b _ T.2.2.2.2.2.2.2.2.2.2.2.2.1 (xs (Int32.toNatClampNeg (y4 + 1))) 0 _ h ) (cwV 2 hts (gV q_1173 q_1174 q_1175 q_75 q_1176) rfl rfl rfl (by decide +kernel) ⟨Nat.le_of_ble_eq_true rfl, Nat.le_of_ble_eq_true rfl⟩) (preV_of (ci := 7) (q := (RX8, TX8, 25)) hK hP hD [54, 55, 56, 57, 58, 59, 60, 61, 62, 63, 64, 65, 66, 67, 68, 69, 70, 71] rfl rfl (by decide) 54 rfl rfl) rfl rfl hl.1 rfl (lv_room (Nat.le_of_ble_eq_true rfl)) dL_law_368 ⟨(by show _ ≤ 1102; omega), (by show _ ≤ 16074; omega)⟩) hP hD hS hA [54, 55, 56, 57, 58, 59, 60, 61, 62, 63, 64, 65, 66, 67, 68, 69, 70, 71] [.inr 0, .inr 1, .inr 2, .inr 3, .inr 4, .inr 5, .inr 6, .inr 7, .inr 8, .inr 9, .inr 10, .inr 11, .inr 12, .inr 13, .inr 14, .inr 15, .inr 16, .inr 17, .inr 18, .inr 19, .inr 20, .inr 21, .inr 22, .inr 23, .inr 24, .inr 25, .inr 26, .inr 27, .inr 28, .inr 29, .inr 30, .inr 31, .inr 32, .inr 33, .inr 34, .inr 35, .inr 36, .inr 37, .inr 38, .inr 39, .inr 40, .inr 41, .inr 42, .inr 43, .inr 44, .inr 45, .inr 46, .inr 47, .inr 48, .inr 49, .inr 50, .inr 51, .inr 52, .inr 53, .inl 0, .inl 1, .inl 2, .inl 3, .inl 4, .inl 5, .inl 6, .inl 7, .inl 8, .inl 9, .inl 10, .inl 11, .inl 12, .inl 13, .inl 14, .inl 15, .inl 16, .inl 17, .inr 72] rfl (by decide) (fun _ => rfl) (fun _ => rfl) (fun r24 u23 H locs h hP hD hS => ?_)
      refine lv_icmp_eq (tgt := 1430) hx hb dL_law_371 (by decide) (fun c25 => ?_) (fun c25 => ?_)
      · have h := h.1 c25
        refine W.widen (k := cn + 1) (n := sn + 6) (by omega) (by omega) ?_
        obtain ⟨x26, ex26⟩ : ∃ y : Int32, y = (y4 + 4) := ⟨_, rfl⟩
        have h := h x26 ex26
        refine lv_iinc (v := x26) (lv' := [(4, .int x26), (0, .ref sb), (1, .ref (a 0)), (2, .ref (b 0)), (3, .ref o)]) hx hb dL_law_1430 hl (k := 4) rfl (by rw [ex26]; rfl) (by decide) rfl (fun ls hl => ?_)
        refine lv_goto (tgt := 23) hx hb dL_law_1433 (by decide) ?_
        exact K23 x26 (u20.1, u20.2.1, u20.2.2.1, u20.2.2.2.1, u20.2.2.2.2.1, u20.2.2.2.2.2.1, u20.2.2.2.2.2.2.1, u20.2.2.2.2.2.2.2.1, u20.2.2.2.2.2.2.2.2.1, u20.2.2.2.2.2.2.2.2.2.1, u20.2.2.2.2.2.2.2.2.2.2.1, u20.2.2.2.2.2.2.2.2.2.2.2, u23, T.2.2.2.2.2.2.2.2.2.2.2.2.2) _ _ _ hP hD hS (lv_sub hl [1, 2, 3, 4, 0] rfl) h
      · have h := h.2 c25
        refine lv_iconst (v := 0) hx hb dL_law_374 (by decide) ?_
        exact h.elim
    · have h := h.2 c22
      refine lv_iconst (v := 1) hx hb dL_law_363 (by decide) ?_
      refine lv_goto (tgt := 368) hx hb dL_law_364 (by decide) ?_
      refine cl_i (ws' := fun u27 => (wLAW cI cZ a b cJ o (u20.1, u20.2.1, u20.2.2.1, u20.2.2.2.1, u20.2.2.2.2.1, u20.2.2.2.2.2.1, u20.2.2.2.2.2.2.1, u20.2.2.2.2.2.2.2.1, u20.2.2.2.2.2.2.2.2.1, u20.2.2.2.2.2.2.2.2.2.1, u20.2.2.2.2.2.2.2.2.2.2.1, u20.2.2.2.2.2.2.2.2.2.2.2, u27, T.2.2.2.2.2.2.2.2.2.2.2.2.2))) (va_runV (As := [.int (xs (Int32.toNatClampNeg (y4 + 1))), .int 1]) (rest := [.int r21]) ⟨hx, hb, hml, hown, hts⟩ (c_X8_enable l D cI cZ b _ T.2.2.2.2.2.2.2.2.2.2.2.2.1 (xs (Int32.toNatClampNeg (y4 + 1))) 1 _ h ) (cwV 2 hts (gV q_1173 q_1174 q_1175 q_75 q_1176) rfl rfl rfl (by decide +kernel) ⟨Nat.le_of_ble_eq_true rfl, Nat.le_of_ble_eq_true rfl⟩) (preV_of (ci := 7) (q := (RX8, TX8, 25)) hK hP hD [54, 55, 56, 57, 58, 59, 60, 61, 62, 63, 64, 65, 66, 67, 68, 69, 70, 71] rfl rfl (by decide) 54 rfl rfl) rfl rfl hl.1 rfl (lv_room (Nat.le_of_ble_eq_true rfl)) dL_law_368 ⟨(by show _ ≤ 1102; omega), (by show _ ≤ 16074; omega)⟩) hP hD hS hA [54, 55, 56, 57, 58, 59, 60, 61, 62, 63, 64, 65, 66, 67, 68, 69, 70, 71] [.inr 0, .inr 1, .inr 2, .inr 3, .inr 4, .inr 5, .inr 6, .inr 7, .inr 8, .inr 9, .inr 10, .inr 11, .inr 12, .inr 13, .inr 14, .inr 15, .inr 16, .inr 17, .inr 18, .inr 19, .inr 20, .inr 21, .inr 22, .inr 23, .inr 24, .inr 25, .inr 26, .inr 27, .inr 28, .inr 29, .inr 30, .inr 31, .inr 32, .inr 33, .inr 34, .inr 35, .inr 36, .inr 37, .inr 38, .inr 39, .inr 40, .inr 41, .inr 42, .inr 43, .inr 44, .inr 45, .inr 46, .inr 47, .inr 48, .inr 49, .inr 50, .inr 51, .inr 52, .inr 53, .inl 0, .inl 1, .inl 2, .inl 3, .inl 4, .inl 5, .inl 6, .inl 7, .inl 8, .inl 9, .inl 10, .inl 11, .inl 12, .inl 13, .inl 14, .inl 15, .inl 16, .inl 17, .inr 72] rfl (by decide) (fun _ => rfl) (fun _ => rfl) (fun r28 u27 H locs h hP hD hS => ?_)
      refine lv_icmp_eq (tgt := 1430) hx hb dL_law_371 (by decide) (fun c29 => ?_) (fun c29 => ?_)
      · have h := h.1 c29
        refine W.widen (k := cn + 1) (n := sn + 6) (by omega) (by omega) ?_
        obtain ⟨x30, ex30⟩ : ∃ y : Int32, y = (y4 + 4) := ⟨_, rfl⟩
        have h := h x30 ex30
        refine lv_iinc (v := x30) (lv' := [(4, .int x30), (0, .ref sb), (1, .ref (a 0)), (2, .ref (b 0)), (3, .ref o)]) hx hb dL_law_1430 hl (k := 4) rfl (by rw [ex30]; rfl) (by decide) rfl (fun ls hl => ?_)
        refine lv_goto (tgt := 23) hx hb dL_law_1433 (by decide) ?_
        exact K23 x30 (u20.1, u20.2.1, u20.2.2.1, u20.2.2.2.1, u20.2.2.2.2.1, u20.2.2.2.2.2.1, u20.2.2.2.2.2.2.1, u20.2.2.2.2.2.2.2.1, u20.2.2.2.2.2.2.2.2.1, u20.2.2.2.2.2.2.2.2.2.1, u20.2.2.2.2.2.2.2.2.2.2.1, u20.2.2.2.2.2.2.2.2.2.2.2, u27, T.2.2.2.2.2.2.2.2.2.2.2.2.2) _ _ _ hP hD hS (lv_sub hl [1, 2, 3, 4, 0] rfl) h
      · have h := h.2 c29
        refine lv_iconst (v := 0) hx hb dL_law_374 (by decide) ?_
        exact h.elim
  · have h := h.2 c19
    refine lv_iconst (v := 1) hx hb dL_law_339 (by decide) ?_
    refine lv_goto (tgt := 344) hx hb dL_law_340 (by decide) ?_
    refine cl_i (ws' := fun u31 => (wLAW cI cZ a b cJ o (u31.1, u31.2.1, u31.2.2.1, u31.2.2.2.1, u31.2.2.2.2.1, u31.2.2.2.2.2.1, u31.2.2.2.2.2.2.1, u31.2.2.2.2.2.2.2.1, u31.2.2.2.2.2.2.2.2.1, u31.2.2.2.2.2.2.2.2.2.1, u31.2.2.2.2.2.2.2.2.2.2.1, u31.2.2.2.2.2.2.2.2.2.2.2, T.2.2.2.2.2.2.2.2.2.2.2.2.1, T.2.2.2.2.2.2.2.2.2.2.2.2.2))) (va_runV (As := [.int (xs (Int32.toNatClampNeg (y4 + 1))), .int 1]) (rest := []) ⟨hx, hb, hml, hown, hts⟩ (c_X7_enable l D cI cZ a _ (T.1, T.2.1, T.2.2.1, T.2.2.2.1, T.2.2.2.2.1, T.2.2.2.2.2.1, T.2.2.2.2.2.2.1, T.2.2.2.2.2.2.2.1, T.2.2.2.2.2.2.2.2.1, T.2.2.2.2.2.2.2.2.2.1, T.2.2.2.2.2.2.2.2.2.2.1, T.2.2.2.2.2.2.2.2.2.2.2.1) (xs (Int32.toNatClampNeg (y4 + 1))) 1 _ h ) (cwV 2 hts (gV q_454 q_455 q_456 q_67 q_457) rfl rfl rfl (by decide +kernel) ⟨Nat.le_of_ble_eq_true rfl, Nat.le_of_ble_eq_true rfl⟩) (preV_of (ci := 6) (q := (RX7, TX7, 4)) hK hP hD [0, 1, 2, 3, 4, 5, 6, 7, 8, 9, 10, 11, 12, 13, 14, 15, 16, 17, 18, 19, 20, 21, 22, 23, 24, 25, 26, 27, 28, 29, 30, 31, 32, 33, 34, 35, 36, 37, 38, 39, 40, 41, 42, 43, 44, 45, 46, 47, 48, 49, 50, 51, 52, 53] rfl rfl (by decide) 0 rfl rfl) rfl rfl hl.1 rfl (lv_room (Nat.le_of_ble_eq_true rfl)) dL_law_344 ⟨(by show _ ≤ 1102; omega), (by show _ ≤ 16074; omega)⟩) hP hD hS hA [0, 1, 2, 3, 4, 5, 6, 7, 8, 9, 10, 11, 12, 13, 14, 15, 16, 17, 18, 19, 20, 21, 22, 23, 24, 25, 26, 27, 28, 29, 30, 31, 32, 33, 34, 35, 36, 37, 38, 39, 40, 41, 42, 43, 44, 45, 46, 47, 48, 49, 50, 51, 52, 53] [.inl 0, .inl 1, .inl 2, .inl 3, .inl 4, .inl 5, .inl 6, .inl 7, .inl 8, .inl 9, .inl 10, .inl 11, .inl 12, .inl 13, .inl 14, .inl 15, .inl 16, .inl 17, .inl 18, .inl 19, .inl 20, .inl 21, .inl 22, .inl 23, .inl 24, .inl 25, .inl 26, .inl 27, .inl 28, .inl 29, .inl 30, .inl 31, .inl 32, .inl 33, .inl 34, .inl 35, .inl 36, .inl 37, .inl 38, .inl 39, .inl 40, .inl 41, .inl 42, .inl 43, .inl 44, .inl 45, .inl 46, .inl 47, .inl 48, .inl 49, .inl 50, .inl 51, .inl 52, .inl 53, .inr 54, .inr 55, .inr 56, .inr 57, .inr 58, .inr 59, .inr 60, .inr 61, .inr 62, .inr 63, .inr 64, .inr 65, .inr 66, .inr 67, .inr 68, .inr 69, .inr 70, .inr 71, .inr 72] rfl (by decide) (fun _ => rfl) (fun _ => rfl) (fun r32 u31 H locs h hP hD hS => ?_)
    refine lv_aload_n hx hb dL_law_347 rfl (lv_at hl 2 rfl) ?_
    refine lv_aload_n hx hb dL_law_348 rfl (lv_at hl 0 rfl) ?_
    refine lv_iload hx hb dL_law_349 (lv_at hl 4 rfl) ?_
    refine lv_iconst (v := 1) hx hb dL_law_351 (by decide) ?_
    refine lv_iadd hx hb dL_law_352 ?_
    refine va_sld hx hb hX hbl hbA hS h.1 dL_law_353 ?_
    have h := h.2
    refine lv_aload_n hx hb dL_law_354 rfl (lv_at hl 0 rfl) ?_
    refine lv_iload hx hb dL_law_355 (lv_at hl 4 rfl) ?_
    refine lv_iconst (v := 2) hx hb dL_law_357 (by decide) ?_
    refine lv_iadd hx hb dL_law_358 ?_
    refine va_sld hx hb hX hbl hbA hS h.1 dL_law_359 ?_
    have h := h.2
    refine lv_if_eq (tgt := 367) hx hb dL_law_360 (by decide) (fun c33 => ?_) (fun c33 => ?_)
    · have h := h.1 c33
      refine lv_iconst (v := 0) hx hb dL_law_367 (by decide) ?_
      refine cl_i (ws' := fun u34 => (wLAW cI cZ a b cJ o (u31.1, u31.2.1, u31.2.2.1, u31.2.2.2.1, u31.2.2.2.2.1, u31.2.2.2.2.2.1, u31.2.2.2.2.2.2.1, u31.2.2.2.2.2.2.2.1, u31.2.2.2.2.2.2.2.2.1, u31.2.2.2.2.2.2.2.2.2.1, u31.2.2.2.2.2.2.2.2.2.2.1, u31.2.2.2.2.2.2.2.2.2.2.2, u34, T.2.2.2.2.2.2.2.2.2.2.2.2.2))) (va_runV (As := [.int (xs (Int32.toNatClampNeg (y4 + 1))), .int 0]) (rest := [.int r32]) ⟨hx, hb, hml, hown, hts⟩ (c_X8_enable l D cI cZ b _ T.2.2.2.2.2.2.2.2.2.2.2.2.1 (xs (Int32.toNatClampNeg (y4 + 1))) 0 _ h ) (cwV 2 hts (gV q_1173 q_1174 q_1175 q_75 q_1176) rfl rfl rfl (by decide +kernel) ⟨Nat.le_of_ble_eq_true rfl, Nat.le_of_ble_eq_true rfl⟩) (preV_of (ci := 7) (q := (RX8, TX8, 25)) hK hP hD [54, 55, 56, 57, 58, 59, 60, 61, 62, 63, 64, 65, 66, 67, 68, 69, 70, 71] rfl rfl (by decide) 54 rfl rfl) rfl rfl hl.1 rfl (lv_room (Nat.le_of_ble_eq_true rfl)) dL_law_368 ⟨(by show _ ≤ 1102; omega), (by show _ ≤ 16074; omega)⟩) hP hD hS hA [54, 55, 56, 57, 58, 59, 60, 61, 62, 63, 64, 65, 66, 67, 68, 69, 70, 71] [.inr 0, .inr 1, .inr 2, .inr 3, .inr 4, .inr 5, .inr 6, .inr 7, .inr 8, .inr 9, .inr 10, .inr 11, .inr 12, .inr 13, .inr 14, .inr 15, .inr 16, .inr 17, .inr 18, .inr 19, .inr 20, .inr 21, .inr 22, .inr 23, .inr 24, .inr 25, .inr 26, .inr 27, .inr 28, .inr 29, .inr 30, .inr 31, .inr 32, .inr 33, .inr 34, .inr 35, .inr 36, .inr 37, .inr 38, .inr 39, .inr 40, .inr 41, .inr 42, .inr 43, .inr 44, .inr 45, .inr 46, .inr 47, .inr 48, .inr 49, .inr 50, .inr 51, .inr 52, .inr 53, .inl 0, .inl 1, .inl 2, .inl 3, .inl 4, .inl 5, .inl 6, .inl 7, .inl 8, .inl 9, .inl 10, .inl 11, .inl 12, .inl 13, .inl 14, .inl 15, .inl 16, .inl 17, .inr 72] rfl (by decide) (fun _ => rfl) (fun _ => rfl) (fun r35 u34 H locs h hP hD hS => ?_)
      refine lv_icmp_eq (tgt := 1430) hx hb dL_law_371 (by decide) (fun c36 => ?_) (fun c36 => ?_)
      · have h := h.1 c36
        refine W.widen (k := cn + 1) (n := sn + 6) (by omega) (by omega) ?_
        obtain ⟨x37, ex37⟩ : ∃ y : Int32, y = (y4 + 4) := ⟨_, rfl⟩
        have h := h x37 ex37
        refine lv_iinc (v := x37) (lv' := [(4, .int x37), (0, .ref sb), (1, .ref (a 0)), (2, .ref (b 0)), (3, .ref o)]) hx hb dL_law_1430 hl (k := 4) rfl (by rw [ex37]; rfl) (by decide) rfl (fun ls hl => ?_)
        refine lv_goto (tgt := 23) hx hb dL_law_1433 (by decide) ?_
        exact K23 x37 (u31.1, u31.2.1, u31.2.2.1, u31.2.2.2.1, u31.2.2.2.2.1, u31.2.2.2.2.2.1, u31.2.2.2.2.2.2.1, u31.2.2.2.2.2.2.2.1, u31.2.2.2.2.2.2.2.2.1, u31.2.2.2.2.2.2.2.2.2.1, u31.2.2.2.2.2.2.2.2.2.2.1, u31.2.2.2.2.2.2.2.2.2.2.2, u34, T.2.2.2.2.2.2.2.2.2.2.2.2.2) _ _ _ hP hD hS (lv_sub hl [1, 2, 3, 4, 0] rfl) h
      · have h := h.2 c36
        refine lv_iconst (v := 0) hx hb dL_law_374 (by decide) ?_
        exact h.elim
    · have h := h.2 c33
      refine lv_iconst (v := 1) hx hb dL_law_363 (by decide) ?_
      refine lv_goto (tgt := 368) hx hb dL_law_364 (by decide) ?_
      refine cl_i (ws' := fun u38 => (wLAW cI cZ a b cJ o (u31.1, u31.2.1, u31.2.2.1, u31.2.2.2.1, u31.2.2.2.2.1, u31.2.2.2.2.2.1, u31.2.2.2.2.2.2.1, u31.2.2.2.2.2.2.2.1, u31.2.2.2.2.2.2.2.2.1, u31.2.2.2.2.2.2.2.2.2.1, u31.2.2.2.2.2.2.2.2.2.2.1, u31.2.2.2.2.2.2.2.2.2.2.2, u38, T.2.2.2.2.2.2.2.2.2.2.2.2.2))) (va_runV (As := [.int (xs (Int32.toNatClampNeg (y4 + 1))), .int 1]) (rest := [.int r32]) ⟨hx, hb, hml, hown, hts⟩ (c_X8_enable l D cI cZ b _ T.2.2.2.2.2.2.2.2.2.2.2.2.1 (xs (Int32.toNatClampNeg (y4 + 1))) 1 _ h ) (cwV 2 hts (gV q_1173 q_1174 q_1175 q_75 q_1176) rfl rfl rfl (by decide +kernel) ⟨Nat.le_of_ble_eq_true rfl, Nat.le_of_ble_eq_true rfl⟩) (preV_of (ci := 7) (q := (RX8, TX8, 25)) hK hP hD [54, 55, 56, 57, 58, 59, 60, 61, 62, 63, 64, 65, 66, 67, 68, 69, 70, 71] rfl rfl (by decide) 54 rfl rfl) rfl rfl hl.1 rfl (lv_room (Nat.le_of_ble_eq_true rfl)) dL_law_368 ⟨(by show _ ≤ 1102; omega), (by show _ ≤ 16074; omega)⟩) hP hD hS hA [54, 55, 56, 57, 58, 59, 60, 61, 62, 63, 64, 65, 66, 67, 68, 69, 70, 71] [.inr 0, .inr 1, .inr 2, .inr 3, .inr 4, .inr 5, .inr 6, .inr 7, .inr 8, .inr 9, .inr 10, .inr 11, .inr 12, .inr 13, .inr 14, .inr 15, .inr 16, .inr 17, .inr 18, .inr 19, .inr 20, .inr 21, .inr 22, .inr 23, .inr 24, .inr 25, .inr 26, .inr 27, .inr 28, .inr 29, .inr 30, .inr 31, .inr 32, .inr 33, .inr 34, .inr 35, .inr 36, .inr 37, .inr 38, .inr 39, .inr 40, .inr 41, .inr 42, .inr 43, .inr 44, .inr 45, .inr 46, .inr 47, .inr 48, .inr 49, .inr 50, .inr 51, .inr 52, .inr 53, .inl 0, .inl 1, .inl 2, .inl 3, .inl 4, .inl 5, .inl 6, .inl 7, .inl 8, .inl 9, .inl 10, .inl 11, .inl 12, .inl 13, .inl 14, .inl 15, .inl 16, .inl 17, .inr 72] rfl (by decide) (fun _ => rfl) (fun _ => rfl) (fun r39 u38 H locs h hP hD hS => ?_)
      refine lv_icmp_eq (tgt := 1430) hx hb dL_law_371 (by decide) (fun c40 => ?_) (fun c40 => ?_)
      · have h := h.1 c40
        refine W.widen (k := cn + 1) (n := sn + 6) (by omega) (by omega) ?_
        obtain ⟨x41, ex41⟩ : ∃ y : Int32, y = (y4 + 4) := ⟨_, rfl⟩
        have h := h x41 ex41
        refine lv_iinc (v := x41) (lv' := [(4, .int x41), (0, .ref sb), (1, .ref (a 0)), (2, .ref (b 0)), (3, .ref o)]) hx hb dL_law_1430 hl (k := 4) rfl (by rw [ex41]; rfl) (by decide) rfl (fun ls hl => ?_)
        refine lv_goto (tgt := 23) hx hb dL_law_1433 (by decide) ?_
        exact K23 x41 (u31.1, u31.2.1, u31.2.2.1, u31.2.2.2.1, u31.2.2.2.2.1, u31.2.2.2.2.2.1, u31.2.2.2.2.2.2.1, u31.2.2.2.2.2.2.2.1, u31.2.2.2.2.2.2.2.2.1, u31.2.2.2.2.2.2.2.2.2.1, u31.2.2.2.2.2.2.2.2.2.2.1, u31.2.2.2.2.2.2.2.2.2.2.2, u38, T.2.2.2.2.2.2.2.2.2.2.2.2.2) _ _ _ hP hD hS (lv_sub hl [1, 2, 3, 4, 0] rfl) h
      · have h := h.2 c40
        refine lv_iconst (v := 0) hx hb dL_law_374 (by decide) ?_
        exact h.elim
set_option maxHeartbeats 4000000 in
set_option maxRecDepth 100000 in
theorem law_L376 {p : Program} {l : Launch} {e : Env} {s : State} {m : MethodId} {below : List Frame} {meth : Method} {c : Code} {D : va_G} {cI cZ cJ : ClassId} {a b : Nat → Nat} {o sb L : Nat} {xs : Nat → Int32} {A : Nat → Prop} (C0 : lawC p l s m meth c D cI cZ cJ sb L xs A) {cn sn : Nat} (hcn : cn + 1 ≤ 1102) (hsn : sn + 6 ≤ 16074) (k23 : Int32 → TLW → Prop) (K23 : ∀ (y4 : Int32) (T : TLW) (H : Heap) (locs : List Loc) (ls : Array Slot), va_P D vwCl (wLAW cI cZ a b cJ o T) H → va_D A (wLAW cI cZ a b cJ o T) → va_S A s.heap H locs → lv_has ls 7 [(0, .ref sb), (1, .ref (a 0)), (2, .ref (b 0)), (3, .ref o), (4, .int y4)] → k23 y4 T → W p l e room_1 s m #[Value.ref sb] below meth c H locs (cn + 1) (sn + 6) (lw_Z below #[Value.ref sb] s) (F0 m 23 ls [])) : ∀ (y4 : Int32) (T : TLW) (H : Heap) (locs : List Loc) (ls : Array Slot), va_P D vwCl (wLAW cI cZ a b cJ o T) H → va_D A (wLAW cI cZ a b cJ o T) → va_S A s.heap H locs → lv_has ls 7 [(0, .ref sb), (1, .ref (a 0)), (2, .ref (b 0)), (3, .ref o), (4, .int y4)] → wp_law_L376 L xs k23 y4 T → W p l e room_1 s m #[Value.ref sb] below meth c H locs cn sn (lw_Z below #[Value.ref sb] s) (F0 m 376 ls []) := by
  obtain ⟨hst, hx, hb, hr, hlocks, hml, hown, hts, hX, hbl, hbA, hA, hAf, hKJ, hF, hXF⟩ := id C0
  have hK : va_K D vwCl (tyL cI cZ) s := hKJ.sub [0, 1] rfl
  have hml2 := hml
  intro y4 T H locs ls hP hD hS hl h
  unfold wp_law_L376 at h
  refine lv_aload_n hx hb dL_law_376 rfl (lv_at hl 1 rfl) ?_
  refine lv_aload_n hx hb dL_law_377 rfl (lv_at hl 0 rfl) ?_
  refine lv_iload hx hb dL_law_378 (lv_at hl 4 rfl) ?_
  refine lv_iconst (v := 1) hx hb dL_law_380 (by decide) ?_
  refine lv_iadd hx hb dL_law_381 ?_
  refine va_sld hx hb hX hbl hbA hS h.1 dL_law_382 ?_
  have h := h.2
  refine lv_aload_n hx hb dL_law_383 rfl (lv_at hl 0 rfl) ?_
  refine lv_iload hx hb dL_law_384 (lv_at hl 4 rfl) ?_
  refine lv_iconst (v := 2) hx hb dL_law_386 (by decide) ?_
  refine lv_iadd hx hb dL_law_387 ?_
  refine va_sld hx hb hX hbl hbA hS h.1 dL_law_388 ?_
  have h := h.2
  refine cl_i (ws' := fun u42 => (wLAW cI cZ a b cJ o (u42.1, u42.2.1, u42.2.2.1, u42.2.2.2.1, u42.2.2.2.2.1, u42.2.2.2.2.2.1, u42.2.2.2.2.2.2.1, u42.2.2.2.2.2.2.2.1, u42.2.2.2.2.2.2.2.2.1, u42.2.2.2.2.2.2.2.2.2.1, u42.2.2.2.2.2.2.2.2.2.2.1, u42.2.2.2.2.2.2.2.2.2.2.2, T.2.2.2.2.2.2.2.2.2.2.2.2.1, T.2.2.2.2.2.2.2.2.2.2.2.2.2))) (va_runV (As := [.int (xs (Int32.toNatClampNeg (y4 + 1))), .int (xs (Int32.toNatClampNeg (y4 + 2)))]) (rest := []) ⟨hx, hb, hml, hown, hts⟩ (c_X7_vector l D cI cZ a _ (T.1, T.2.1, T.2.2.1, T.2.2.2.1, T.2.2.2.2.1, T.2.2.2.2.2.1, T.2.2.2.2.2.2.1, T.2.2.2.2.2.2.2.1, T.2.2.2.2.2.2.2.2.1, T.2.2.2.2.2.2.2.2.2.1, T.2.2.2.2.2.2.2.2.2.2.1, T.2.2.2.2.2.2.2.2.2.2.2.1) (xs (Int32.toNatClampNeg (y4 + 1))) (xs (Int32.toNatClampNeg (y4 + 2))) _ h ) (cwV 2 hts (gV q_458 q_459 q_460 q_67 q_461) rfl rfl rfl (by decide +kernel) ⟨Nat.le_of_ble_eq_true rfl, Nat.le_of_ble_eq_true rfl⟩) (preV_of (ci := 6) (q := (RX7, TX7, 4)) hK hP hD [0, 1, 2, 3, 4, 5, 6, 7, 8, 9, 10, 11, 12, 13, 14, 15, 16, 17, 18, 19, 20, 21, 22, 23, 24, 25, 26, 27, 28, 29, 30, 31, 32, 33, 34, 35, 36, 37, 38, 39, 40, 41, 42, 43, 44, 45, 46, 47, 48, 49, 50, 51, 52, 53] rfl rfl (by decide) 0 rfl rfl) rfl rfl hl.1 rfl (lv_room (Nat.le_of_ble_eq_true rfl)) dL_law_389 ⟨(by show _ ≤ 1102; omega), (by show _ ≤ 16074; omega)⟩) hP hD hS hA [0, 1, 2, 3, 4, 5, 6, 7, 8, 9, 10, 11, 12, 13, 14, 15, 16, 17, 18, 19, 20, 21, 22, 23, 24, 25, 26, 27, 28, 29, 30, 31, 32, 33, 34, 35, 36, 37, 38, 39, 40, 41, 42, 43, 44, 45, 46, 47, 48, 49, 50, 51, 52, 53] [.inl 0, .inl 1, .inl 2, .inl 3, .inl 4, .inl 5, .inl 6, .inl 7, .inl 8, .inl 9, .inl 10, .inl 11, .inl 12, .inl 13, .inl 14, .inl 15, .inl 16, .inl 17, .inl 18, .inl 19, .inl 20, .inl 21, .inl 22, .inl 23, .inl 24, .inl 25, .inl 26, .inl 27, .inl 28, .inl 29, .inl 30, .inl 31, .inl 32, .inl 33, .inl 34, .inl 35, .inl 36, .inl 37, .inl 38, .inl 39, .inl 40, .inl 41, .inl 42, .inl 43, .inl 44, .inl 45, .inl 46, .inl 47, .inl 48, .inl 49, .inl 50, .inl 51, .inl 52, .inl 53, .inr 54, .inr 55, .inr 56, .inr 57, .inr 58, .inr 59, .inr 60, .inr 61, .inr 62, .inr 63, .inr 64, .inr 65, .inr 66, .inr 67, .inr 68, .inr 69, .inr 70, .inr 71, .inr 72] rfl (by decide) (fun _ => rfl) (fun _ => rfl) (fun r43 u42 H locs h hP hD hS => ?_)
  refine lv_aload_n hx hb dL_law_392 rfl (lv_at hl 2 rfl) ?_
  refine lv_aload_n hx hb dL_law_393 rfl (lv_at hl 0 rfl) ?_
  refine lv_iload hx hb dL_law_394 (lv_at hl 4 rfl) ?_
  refine lv_iconst (v := 1) hx hb dL_law_396 (by decide) ?_
  refine lv_iadd hx hb dL_law_397 ?_
  refine va_sld hx hb hX hbl hbA hS h.1 dL_law_398 ?_
  have h := h.2
  refine lv_aload_n hx hb dL_law_399 rfl (lv_at hl 0 rfl) ?_
  refine lv_iload hx hb dL_law_400 (lv_at hl 4 rfl) ?_
  refine lv_iconst (v := 2) hx hb dL_law_402 (by decide) ?_
  refine lv_iadd hx hb dL_law_403 ?_
  refine va_sld hx hb hX hbl hbA hS h.1 dL_law_404 ?_
  have h := h.2
  refine cl_i (ws' := fun u44 => (wLAW cI cZ a b cJ o (u42.1, u42.2.1, u42.2.2.1, u42.2.2.2.1, u42.2.2.2.2.1, u42.2.2.2.2.2.1, u42.2.2.2.2.2.2.1, u42.2.2.2.2.2.2.2.1, u42.2.2.2.2.2.2.2.2.1, u42.2.2.2.2.2.2.2.2.2.1, u42.2.2.2.2.2.2.2.2.2.2.1, u42.2.2.2.2.2.2.2.2.2.2.2, u44, T.2.2.2.2.2.2.2.2.2.2.2.2.2))) (va_runV (As := [.int (xs (Int32.toNatClampNeg (y4 + 1))), .int (xs (Int32.toNatClampNeg (y4 + 2)))]) (rest := [.int r43]) ⟨hx, hb, hml, hown, hts⟩ (c_X8_vector l D cI cZ b _ T.2.2.2.2.2.2.2.2.2.2.2.2.1 (xs (Int32.toNatClampNeg (y4 + 1))) (xs (Int32.toNatClampNeg (y4 + 2))) _ h ) (cwV 2 hts (gV q_1177 q_1178 q_1179 q_75 q_1180) rfl rfl rfl (by decide +kernel) ⟨Nat.le_of_ble_eq_true rfl, Nat.le_of_ble_eq_true rfl⟩) (preV_of (ci := 7) (q := (RX8, TX8, 25)) hK hP hD [54, 55, 56, 57, 58, 59, 60, 61, 62, 63, 64, 65, 66, 67, 68, 69, 70, 71] rfl rfl (by decide) 54 rfl rfl) rfl rfl hl.1 rfl (lv_room (Nat.le_of_ble_eq_true rfl)) dL_law_405 ⟨(by show _ ≤ 1102; omega), (by show _ ≤ 16074; omega)⟩) hP hD hS hA [54, 55, 56, 57, 58, 59, 60, 61, 62, 63, 64, 65, 66, 67, 68, 69, 70, 71] [.inr 0, .inr 1, .inr 2, .inr 3, .inr 4, .inr 5, .inr 6, .inr 7, .inr 8, .inr 9, .inr 10, .inr 11, .inr 12, .inr 13, .inr 14, .inr 15, .inr 16, .inr 17, .inr 18, .inr 19, .inr 20, .inr 21, .inr 22, .inr 23, .inr 24, .inr 25, .inr 26, .inr 27, .inr 28, .inr 29, .inr 30, .inr 31, .inr 32, .inr 33, .inr 34, .inr 35, .inr 36, .inr 37, .inr 38, .inr 39, .inr 40, .inr 41, .inr 42, .inr 43, .inr 44, .inr 45, .inr 46, .inr 47, .inr 48, .inr 49, .inr 50, .inr 51, .inr 52, .inr 53, .inl 0, .inl 1, .inl 2, .inl 3, .inl 4, .inl 5, .inl 6, .inl 7, .inl 8, .inl 9, .inl 10, .inl 11, .inl 12, .inl 13, .inl 14, .inl 15, .inl 16, .inl 17, .inr 72] rfl (by decide) (fun _ => rfl) (fun _ => rfl) (fun r45 u44 H locs h hP hD hS => ?_)
  refine lv_icmp_eq (tgt := 1430) hx hb dL_law_408 (by decide) (fun c46 => ?_) (fun c46 => ?_)
  · have h := h.1 c46
    refine W.widen (k := cn + 1) (n := sn + 6) (by omega) (by omega) ?_
    obtain ⟨x47, ex47⟩ : ∃ y : Int32, y = (y4 + 4) := ⟨_, rfl⟩
    have h := h x47 ex47
    refine lv_iinc (v := x47) (lv' := [(4, .int x47), (0, .ref sb), (1, .ref (a 0)), (2, .ref (b 0)), (3, .ref o)]) hx hb dL_law_1430 hl (k := 4) rfl (by rw [ex47]; rfl) (by decide) rfl (fun ls hl => ?_)
    refine lv_goto (tgt := 23) hx hb dL_law_1433 (by decide) ?_
    exact K23 x47 (u42.1, u42.2.1, u42.2.2.1, u42.2.2.2.1, u42.2.2.2.2.1, u42.2.2.2.2.2.1, u42.2.2.2.2.2.2.1, u42.2.2.2.2.2.2.2.1, u42.2.2.2.2.2.2.2.2.1, u42.2.2.2.2.2.2.2.2.2.1, u42.2.2.2.2.2.2.2.2.2.2.1, u42.2.2.2.2.2.2.2.2.2.2.2, u44, T.2.2.2.2.2.2.2.2.2.2.2.2.2) _ _ _ hP hD hS (lv_sub hl [1, 2, 3, 4, 0] rfl) h
  · have h := h.2 c46
    refine lv_iconst (v := 0) hx hb dL_law_411 (by decide) ?_
    exact h.elim
set_option maxHeartbeats 4000000 in
set_option maxRecDepth 100000 in
theorem law_L413 {p : Program} {l : Launch} {e : Env} {s : State} {m : MethodId} {below : List Frame} {meth : Method} {c : Code} {D : va_G} {cI cZ cJ : ClassId} {a b : Nat → Nat} {o sb L : Nat} {xs : Nat → Int32} {A : Nat → Prop} (C0 : lawC p l s m meth c D cI cZ cJ sb L xs A) {cn sn : Nat} (hcn : cn + 1 ≤ 1102) (hsn : sn + 6 ≤ 16074) (k23 : Int32 → TLW → Prop) (K23 : ∀ (y4 : Int32) (T : TLW) (H : Heap) (locs : List Loc) (ls : Array Slot), va_P D vwCl (wLAW cI cZ a b cJ o T) H → va_D A (wLAW cI cZ a b cJ o T) → va_S A s.heap H locs → lv_has ls 7 [(0, .ref sb), (1, .ref (a 0)), (2, .ref (b 0)), (3, .ref o), (4, .int y4)] → k23 y4 T → W p l e room_1 s m #[Value.ref sb] below meth c H locs (cn + 1) (sn + 6) (lw_Z below #[Value.ref sb] s) (F0 m 23 ls [])) : ∀ (y4 : Int32) (T : TLW) (H : Heap) (locs : List Loc) (ls : Array Slot), va_P D vwCl (wLAW cI cZ a b cJ o T) H → va_D A (wLAW cI cZ a b cJ o T) → va_S A s.heap H locs → lv_has ls 7 [(0, .ref sb), (1, .ref (a 0)), (2, .ref (b 0)), (3, .ref o), (4, .int y4)] → wp_law_L413 L xs k23 y4 T → W p l e room_1 s m #[Value.ref sb] below meth c H locs cn sn (lw_Z below #[Value.ref sb] s) (F0 m 413 ls []) := by
  obtain ⟨hst, hx, hb, hr, hlocks, hml, hown, hts, hX, hbl, hbA, hA, hAf, hKJ, hF, hXF⟩ := id C0
  have hK : va_K D vwCl (tyL cI cZ) s := hKJ.sub [0, 1] rfl
  have hml2 := hml
  intro y4 T H locs ls hP hD hS hl h
  unfold wp_law_L413 at h
  refine lv_aload_n hx hb dL_law_413 rfl (lv_at hl 1 rfl) ?_
  refine lv_aload_n hx hb dL_law_414 rfl (lv_at hl 0 rfl) ?_
  refine lv_iload hx hb dL_law_415 (lv_at hl 4 rfl) ?_
  refine lv_iconst (v := 1) hx hb dL_law_417 (by decide) ?_
  refine lv_iadd hx hb dL_law_418 ?_
  refine va_sld hx hb hX hbl hbA hS h.1 dL_law_419 ?_
  have h := h.2
  refine cl_i (ws' := fun u48 => (wLAW cI cZ a b cJ o (u48.1, u48.2.1, u48.2.2.1, u48.2.2.2.1, u48.2.2.2.2.1, u48.2.2.2.2.2.1, u48.2.2.2.2.2.2.1, u48.2.2.2.2.2.2.2.1, u48.2.2.2.2.2.2.2.2.1, u48.2.2.2.2.2.2.2.2.2.1, u48.2.2.2.2.2.2.2.2.2.2.1, u48.2.2.2.2.2.2.2.2.2.2.2, T.2.2.2.2.2.2.2.2.2.2.2.2.1, T.2.2.2.2.2.2.2.2.2.2.2.2.2))) (va_runV (As := [.int (xs (Int32.toNatClampNeg (y4 + 1)))]) (rest := []) ⟨hx, hb, hml, hown, hts⟩ (c_X7_split l D cI cZ a _ (T.1, T.2.1, T.2.2.1, T.2.2.2.1, T.2.2.2.2.1, T.2.2.2.2.2.1, T.2.2.2.2.2.2.1, T.2.2.2.2.2.2.2.1, T.2.2.2.2.2.2.2.2.1, T.2.2.2.2.2.2.2.2.2.1, T.2.2.2.2.2.2.2.2.2.2.1, T.2.2.2.2.2.2.2.2.2.2.2.1) (xs (Int32.toNatClampNeg (y4 + 1))) _ h ) (cwV 1 hts (gV q_462 q_463 q_464 q_67 q_465) rfl rfl rfl (by decide +kernel) ⟨Nat.le_of_ble_eq_true rfl, Nat.le_of_ble_eq_true rfl⟩) (preV_of (ci := 6) (q := (RX7, TX7, 4)) hK hP hD [0, 1, 2, 3, 4, 5, 6, 7, 8, 9, 10, 11, 12, 13, 14, 15, 16, 17, 18, 19, 20, 21, 22, 23, 24, 25, 26, 27, 28, 29, 30, 31, 32, 33, 34, 35, 36, 37, 38, 39, 40, 41, 42, 43, 44, 45, 46, 47, 48, 49, 50, 51, 52, 53] rfl rfl (by decide) 0 rfl rfl) rfl rfl hl.1 rfl (lv_room (Nat.le_of_ble_eq_true rfl)) dL_law_420 ⟨(by show _ ≤ 1102; omega), (by show _ ≤ 16074; omega)⟩) hP hD hS hA [0, 1, 2, 3, 4, 5, 6, 7, 8, 9, 10, 11, 12, 13, 14, 15, 16, 17, 18, 19, 20, 21, 22, 23, 24, 25, 26, 27, 28, 29, 30, 31, 32, 33, 34, 35, 36, 37, 38, 39, 40, 41, 42, 43, 44, 45, 46, 47, 48, 49, 50, 51, 52, 53] [.inl 0, .inl 1, .inl 2, .inl 3, .inl 4, .inl 5, .inl 6, .inl 7, .inl 8, .inl 9, .inl 10, .inl 11, .inl 12, .inl 13, .inl 14, .inl 15, .inl 16, .inl 17, .inl 18, .inl 19, .inl 20, .inl 21, .inl 22, .inl 23, .inl 24, .inl 25, .inl 26, .inl 27, .inl 28, .inl 29, .inl 30, .inl 31, .inl 32, .inl 33, .inl 34, .inl 35, .inl 36, .inl 37, .inl 38, .inl 39, .inl 40, .inl 41, .inl 42, .inl 43, .inl 44, .inl 45, .inl 46, .inl 47, .inl 48, .inl 49, .inl 50, .inl 51, .inl 52, .inl 53, .inr 54, .inr 55, .inr 56, .inr 57, .inr 58, .inr 59, .inr 60, .inr 61, .inr 62, .inr 63, .inr 64, .inr 65, .inr 66, .inr 67, .inr 68, .inr 69, .inr 70, .inr 71, .inr 72] rfl (by decide) (fun _ => rfl) (fun _ => rfl) (fun r49 u48 H locs h hP hD hS => ?_)
  refine lv_aload_n hx hb dL_law_423 rfl (lv_at hl 2 rfl) ?_
  refine lv_aload_n hx hb dL_law_424 rfl (lv_at hl 0 rfl) ?_
  refine lv_iload hx hb dL_law_425 (lv_at hl 4 rfl) ?_
  refine lv_iconst (v := 1) hx hb dL_law_427 (by decide) ?_
  refine lv_iadd hx hb dL_law_428 ?_
  refine va_sld hx hb hX hbl hbA hS h.1 dL_law_429 ?_
  have h := h.2
  refine cl_i (ws' := fun u50 => (wLAW cI cZ a b cJ o (u48.1, u48.2.1, u48.2.2.1, u48.2.2.2.1, u48.2.2.2.2.1, u48.2.2.2.2.2.1, u48.2.2.2.2.2.2.1, u48.2.2.2.2.2.2.2.1, u48.2.2.2.2.2.2.2.2.1, u48.2.2.2.2.2.2.2.2.2.1, u48.2.2.2.2.2.2.2.2.2.2.1, u48.2.2.2.2.2.2.2.2.2.2.2, u50, T.2.2.2.2.2.2.2.2.2.2.2.2.2))) (va_runV (As := [.int (xs (Int32.toNatClampNeg (y4 + 1)))]) (rest := [.int r49]) ⟨hx, hb, hml, hown, hts⟩ (c_X8_split l D cI cZ b _ T.2.2.2.2.2.2.2.2.2.2.2.2.1 (xs (Int32.toNatClampNeg (y4 + 1))) _ h ) (cwV 1 hts (gV q_1181 q_1182 q_1183 q_75 q_1184) rfl rfl rfl (by decide +kernel) ⟨Nat.le_of_ble_eq_true rfl, Nat.le_of_ble_eq_true rfl⟩) (preV_of (ci := 7) (q := (RX8, TX8, 25)) hK hP hD [54, 55, 56, 57, 58, 59, 60, 61, 62, 63, 64, 65, 66, 67, 68, 69, 70, 71] rfl rfl (by decide) 54 rfl rfl) rfl rfl hl.1 rfl (lv_room (Nat.le_of_ble_eq_true rfl)) dL_law_430 ⟨(by show _ ≤ 1102; omega), (by show _ ≤ 16074; omega)⟩) hP hD hS hA [54, 55, 56, 57, 58, 59, 60, 61, 62, 63, 64, 65, 66, 67, 68, 69, 70, 71] [.inr 0, .inr 1, .inr 2, .inr 3, .inr 4, .inr 5, .inr 6, .inr 7, .inr 8, .inr 9, .inr 10, .inr 11, .inr 12, .inr 13, .inr 14, .inr 15, .inr 16, .inr 17, .inr 18, .inr 19, .inr 20, .inr 21, .inr 22, .inr 23, .inr 24, .inr 25, .inr 26, .inr 27, .inr 28, .inr 29, .inr 30, .inr 31, .inr 32, .inr 33, .inr 34, .inr 35, .inr 36, .inr 37, .inr 38, .inr 39, .inr 40, .inr 41, .inr 42, .inr 43, .inr 44, .inr 45, .inr 46, .inr 47, .inr 48, .inr 49, .inr 50, .inr 51, .inr 52, .inr 53, .inl 0, .inl 1, .inl 2, .inl 3, .inl 4, .inl 5, .inl 6, .inl 7, .inl 8, .inl 9, .inl 10, .inl 11, .inl 12, .inl 13, .inl 14, .inl 15, .inl 16, .inl 17, .inr 72] rfl (by decide) (fun _ => rfl) (fun _ => rfl) (fun r51 u50 H locs h hP hD hS => ?_)
  refine lv_icmp_eq (tgt := 1430) hx hb dL_law_433 (by decide) (fun c52 => ?_) (fun c52 => ?_)
  · have h := h.1 c52
    refine W.widen (k := cn + 1) (n := sn + 6) (by omega) (by omega) ?_
    obtain ⟨x53, ex53⟩ : ∃ y : Int32, y = (y4 + 4) := ⟨_, rfl⟩
    have h := h x53 ex53
    refine lv_iinc (v := x53) (lv' := [(4, .int x53), (0, .ref sb), (1, .ref (a 0)), (2, .ref (b 0)), (3, .ref o)]) hx hb dL_law_1430 hl (k := 4) rfl (by rw [ex53]; rfl) (by decide) rfl (fun ls hl => ?_)
    refine lv_goto (tgt := 23) hx hb dL_law_1433 (by decide) ?_
    exact K23 x53 (u48.1, u48.2.1, u48.2.2.1, u48.2.2.2.1, u48.2.2.2.2.1, u48.2.2.2.2.2.1, u48.2.2.2.2.2.2.1, u48.2.2.2.2.2.2.2.1, u48.2.2.2.2.2.2.2.2.1, u48.2.2.2.2.2.2.2.2.2.1, u48.2.2.2.2.2.2.2.2.2.2.1, u48.2.2.2.2.2.2.2.2.2.2.2, u50, T.2.2.2.2.2.2.2.2.2.2.2.2.2) _ _ _ hP hD hS (lv_sub hl [1, 2, 3, 4, 0] rfl) h
  · have h := h.2 c52
    refine lv_iconst (v := 0) hx hb dL_law_436 (by decide) ?_
    exact h.elim
set_option maxHeartbeats 4000000 in
set_option maxRecDepth 100000 in
theorem law_L438 {p : Program} {l : Launch} {e : Env} {s : State} {m : MethodId} {below : List Frame} {meth : Method} {c : Code} {D : va_G} {cI cZ cJ : ClassId} {a b : Nat → Nat} {o sb L : Nat} {xs : Nat → Int32} {A : Nat → Prop} (C0 : lawC p l s m meth c D cI cZ cJ sb L xs A) {cn sn : Nat} (hcn : cn + 1 ≤ 1102) (hsn : sn + 6 ≤ 16074) (k23 : Int32 → TLW → Prop) (K23 : ∀ (y4 : Int32) (T : TLW) (H : Heap) (locs : List Loc) (ls : Array Slot), va_P D vwCl (wLAW cI cZ a b cJ o T) H → va_D A (wLAW cI cZ a b cJ o T) → va_S A s.heap H locs → lv_has ls 7 [(0, .ref sb), (1, .ref (a 0)), (2, .ref (b 0)), (3, .ref o), (4, .int y4)] → k23 y4 T → W p l e room_1 s m #[Value.ref sb] below meth c H locs (cn + 1) (sn + 6) (lw_Z below #[Value.ref sb] s) (F0 m 23 ls [])) : ∀ (y4 : Int32) (T : TLW) (H : Heap) (locs : List Loc) (ls : Array Slot), va_P D vwCl (wLAW cI cZ a b cJ o T) H → va_D A (wLAW cI cZ a b cJ o T) → va_S A s.heap H locs → lv_has ls 7 [(0, .ref sb), (1, .ref (a 0)), (2, .ref (b 0)), (3, .ref o), (4, .int y4)] → wp_law_L438 L xs k23 y4 T → W p l e room_1 s m #[Value.ref sb] below meth c H locs cn sn (lw_Z below #[Value.ref sb] s) (F0 m 438 ls []) := by
  obtain ⟨hst, hx, hb, hr, hlocks, hml, hown, hts, hX, hbl, hbA, hA, hAf, hKJ, hF, hXF⟩ := id C0
  have hK : va_K D vwCl (tyL cI cZ) s := hKJ.sub [0, 1] rfl
  have hml2 := hml
  intro y4 T H locs ls hP hD hS hl h
  unfold wp_law_L438 at h
  refine lv_aload_n hx hb dL_law_438 rfl (lv_at hl 1 rfl) ?_
  refine lv_aload_n hx hb dL_law_439 rfl (lv_at hl 0 rfl) ?_
  refine lv_iload hx hb dL_law_440 (lv_at hl 4 rfl) ?_
  refine lv_iconst (v := 1) hx hb dL_law_442 (by decide) ?_
  refine lv_iadd hx hb dL_law_443 ?_
  refine va_sld hx hb hX hbl hbA hS h.1 dL_law_444 ?_
  have h := h.2
  refine lv_aload_n hx hb dL_law_445 rfl (lv_at hl 0 rfl) ?_
  refine lv_iload hx hb dL_law_446 (lv_at hl 4 rfl) ?_
  refine lv_iconst (v := 2) hx hb dL_law_448 (by decide) ?_
  refine lv_iadd hx hb dL_law_449 ?_
  refine va_sld hx hb hX hbl hbA hS h.1 dL_law_450 ?_
  have h := h.2
  refine lv_if_eq (tgt := 458) hx hb dL_law_451 (by decide) (fun c54 => ?_) (fun c54 => ?_)
  · have h := h.1 c54
    refine lv_iconst (v := 0) hx hb dL_law_458 (by decide) ?_
    refine cl_i (ws' := fun u55 => (wLAW cI cZ a b cJ o (u55.1, u55.2.1, u55.2.2.1, u55.2.2.2.1, u55.2.2.2.2.1, u55.2.2.2.2.2.1, u55.2.2.2.2.2.2.1, u55.2.2.2.2.2.2.2.1, u55.2.2.2.2.2.2.2.2.1, u55.2.2.2.2.2.2.2.2.2.1, u55.2.2.2.2.2.2.2.2.2.2.1, u55.2.2.2.2.2.2.2.2.2.2.2, T.2.2.2.2.2.2.2.2.2.2.2.2.1, T.2.2.2.2.2.2.2.2.2.2.2.2.2))) (va_runV (As := [.int (xs (Int32.toNatClampNeg (y4 + 1))), .int 0]) (rest := []) ⟨hx, hb, hml, hown, hts⟩ (c_X7_hold l D cI cZ a _ (T.1, T.2.1, T.2.2.1, T.2.2.2.1, T.2.2.2.2.1, T.2.2.2.2.2.1, T.2.2.2.2.2.2.1, T.2.2.2.2.2.2.2.1, T.2.2.2.2.2.2.2.2.1, T.2.2.2.2.2.2.2.2.2.1, T.2.2.2.2.2.2.2.2.2.2.1, T.2.2.2.2.2.2.2.2.2.2.2.1) (xs (Int32.toNatClampNeg (y4 + 1))) 0 _ h ) (cwV 2 hts (gV q_466 q_467 q_468 q_67 q_469) rfl rfl rfl (by decide +kernel) ⟨Nat.le_of_ble_eq_true rfl, Nat.le_of_ble_eq_true rfl⟩) (preV_of (ci := 6) (q := (RX7, TX7, 4)) hK hP hD [0, 1, 2, 3, 4, 5, 6, 7, 8, 9, 10, 11, 12, 13, 14, 15, 16, 17, 18, 19, 20, 21, 22, 23, 24, 25, 26, 27, 28, 29, 30, 31, 32, 33, 34, 35, 36, 37, 38, 39, 40, 41, 42, 43, 44, 45, 46, 47, 48, 49, 50, 51, 52, 53] rfl rfl (by decide) 0 rfl rfl) rfl rfl hl.1 rfl (lv_room (Nat.le_of_ble_eq_true rfl)) dL_law_459 ⟨(by show _ ≤ 1102; omega), (by show _ ≤ 16074; omega)⟩) hP hD hS hA [0, 1, 2, 3, 4, 5, 6, 7, 8, 9, 10, 11, 12, 13, 14, 15, 16, 17, 18, 19, 20, 21, 22, 23, 24, 25, 26, 27, 28, 29, 30, 31, 32, 33, 34, 35, 36, 37, 38, 39, 40, 41, 42, 43, 44, 45, 46, 47, 48, 49, 50, 51, 52, 53] [.inl 0, .inl 1, .inl 2, .inl 3, .inl 4, .inl 5, .inl 6, .inl 7, .inl 8, .inl 9, .inl 10, .inl 11, .inl 12, .inl 13, .inl 14, .inl 15, .inl 16, .inl 17, .inl 18, .inl 19, .inl 20, .inl 21, .inl 22, .inl 23, .inl 24, .inl 25, .inl 26, .inl 27, .inl 28, .inl 29, .inl 30, .inl 31, .inl 32, .inl 33, .inl 34, .inl 35, .inl 36, .inl 37, .inl 38, .inl 39, .inl 40, .inl 41, .inl 42, .inl 43, .inl 44, .inl 45, .inl 46, .inl 47, .inl 48, .inl 49, .inl 50, .inl 51, .inl 52, .inl 53, .inr 54, .inr 55, .inr 56, .inr 57, .inr 58, .inr 59, .inr 60, .inr 61, .inr 62, .inr 63, .inr 64, .inr 65, .inr 66, .inr 67, .inr 68, .inr 69, .inr 70, .inr 71, .inr 72] rfl (by decide) (fun _ => rfl) (fun _ => rfl) (fun r56 u55 H locs h hP hD hS => ?_)
    refine lv_aload_n hx hb dL_law_462 rfl (lv_at hl 2 rfl) ?_
    refine lv_aload_n hx hb dL_law_463 rfl (lv_at hl 0 rfl) ?_
    refine lv_iload hx hb dL_law_464 (lv_at hl 4 rfl) ?_
    refine lv_iconst (v := 1) hx hb dL_law_466 (by decide) ?_
    refine lv_iadd hx hb dL_law_467 ?_
    refine va_sld hx hb hX hbl hbA hS h.1 dL_law_468 ?_
    have h := h.2
    refine lv_aload_n hx hb dL_law_469 rfl (lv_at hl 0 rfl) ?_
    refine lv_iload hx hb dL_law_470 (lv_at hl 4 rfl) ?_
    refine lv_iconst (v := 2) hx hb dL_law_472 (by decide) ?_
    refine lv_iadd hx hb dL_law_473 ?_
    refine va_sld hx hb hX hbl hbA hS h.1 dL_law_474 ?_
    have h := h.2
    refine lv_if_eq (tgt := 482) hx hb dL_law_475 (by decide) (fun c57 => ?_) (fun c57 => ?_)
    · have h := h.1 c57
      refine lv_iconst (v := 0) hx hb dL_law_482 (by decide) ?_
      refine cl_i (ws' := fun u58 => (wLAW cI cZ a b cJ o (u55.1, u55.2.1, u55.2.2.1, u55.2.2.2.1, u55.2.2.2.2.1, u55.2.2.2.2.2.1, u55.2.2.2.2.2.2.1, u55.2.2.2.2.2.2.2.1, u55.2.2.2.2.2.2.2.2.1, u55.2.2.2.2.2.2.2.2.2.1, u55.2.2.2.2.2.2.2.2.2.2.1, u55.2.2.2.2.2.2.2.2.2.2.2, u58, T.2.2.2.2.2.2.2.2.2.2.2.2.2))) (va_runV (As := [.int (xs (Int32.toNatClampNeg (y4 + 1))), .int 0]) (rest := [.int r56]) ⟨hx, hb, hml, hown, hts⟩ (c_X8_hold l D cI cZ b _ T.2.2.2.2.2.2.2.2.2.2.2.2.1 (xs (Int32.toNatClampNeg (y4 + 1))) 0 _ h ) (cwV 2 hts (gV q_1185 q_1186 q_1187 q_75 q_1188) rfl rfl rfl (by decide +kernel) ⟨Nat.le_of_ble_eq_true rfl, Nat.le_of_ble_eq_true rfl⟩) (preV_of (ci := 7) (q := (RX8, TX8, 25)) hK hP hD [54, 55, 56, 57, 58, 59, 60, 61, 62, 63, 64, 65, 66, 67, 68, 69, 70, 71] rfl rfl (by decide) 54 rfl rfl) rfl rfl hl.1 rfl (lv_room (Nat.le_of_ble_eq_true rfl)) dL_law_483 ⟨(by show _ ≤ 1102; omega), (by show _ ≤ 16074; omega)⟩) hP hD hS hA [54, 55, 56, 57, 58, 59, 60, 61, 62, 63, 64, 65, 66, 67, 68, 69, 70, 71] [.inr 0, .inr 1, .inr 2, .inr 3, .inr 4, .inr 5, .inr 6, .inr 7, .inr 8, .inr 9, .inr 10, .inr 11, .inr 12, .inr 13, .inr 14, .inr 15, .inr 16, .inr 17, .inr 18, .inr 19, .inr 20, .inr 21, .inr 22, .inr 23, .inr 24, .inr 25, .inr 26, .inr 27, .inr 28, .inr 29, .inr 30, .inr 31, .inr 32, .inr 33, .inr 34, .inr 35, .inr 36, .inr 37, .inr 38, .inr 39, .inr 40, .inr 41, .inr 42, .inr 43, .inr 44, .inr 45, .inr 46, .inr 47, .inr 48, .inr 49, .inr 50, .inr 51, .inr 52, .inr 53, .inl 0, .inl 1, .inl 2, .inl 3, .inl 4, .inl 5, .inl 6, .inl 7, .inl 8, .inl 9, .inl 10, .inl 11, .inl 12, .inl 13, .inl 14, .inl 15, .inl 16, .inl 17, .inr 72] rfl (by decide) (fun _ => rfl) (fun _ => rfl) (fun r59 u58 H locs h hP hD hS => ?_)
      refine lv_icmp_eq (tgt := 1430) hx hb dL_law_486 (by decide) (fun c60 => ?_) (fun c60 => ?_)
      · have h := h.1 c60
        refine W.widen (k := cn + 1) (n := sn + 6) (by omega) (by omega) ?_
        obtain ⟨x61, ex61⟩ : ∃ y : Int32, y = (y4 + 4) := ⟨_, rfl⟩
        have h := h x61 ex61
        refine lv_iinc (v := x61) (lv' := [(4, .int x61), (0, .ref sb), (1, .ref (a 0)), (2, .ref (b 0)), (3, .ref o)]) hx hb dL_law_1430 hl (k := 4) rfl (by rw [ex61]; rfl) (by decide) rfl (fun ls hl => ?_)
        refine lv_goto (tgt := 23) hx hb dL_law_1433 (by decide) ?_
        exact K23 x61 (u55.1, u55.2.1, u55.2.2.1, u55.2.2.2.1, u55.2.2.2.2.1, u55.2.2.2.2.2.1, u55.2.2.2.2.2.2.1, u55.2.2.2.2.2.2.2.1, u55.2.2.2.2.2.2.2.2.1, u55.2.2.2.2.2.2.2.2.2.1, u55.2.2.2.2.2.2.2.2.2.2.1, u55.2.2.2.2.2.2.2.2.2.2.2, u58, T.2.2.2.2.2.2.2.2.2.2.2.2.2) _ _ _ hP hD hS (lv_sub hl [1, 2, 3, 4, 0] rfl) h
      · have h := h.2 c60
        refine lv_iconst (v := 0) hx hb dL_law_489 (by decide) ?_
        exact h.elim
    · have h := h.2 c57
      refine lv_iconst (v := 1) hx hb dL_law_478 (by decide) ?_
      refine lv_goto (tgt := 483) hx hb dL_law_479 (by decide) ?_
      refine cl_i (ws' := fun u62 => (wLAW cI cZ a b cJ o (u55.1, u55.2.1, u55.2.2.1, u55.2.2.2.1, u55.2.2.2.2.1, u55.2.2.2.2.2.1, u55.2.2.2.2.2.2.1, u55.2.2.2.2.2.2.2.1, u55.2.2.2.2.2.2.2.2.1, u55.2.2.2.2.2.2.2.2.2.1, u55.2.2.2.2.2.2.2.2.2.2.1, u55.2.2.2.2.2.2.2.2.2.2.2, u62, T.2.2.2.2.2.2.2.2.2.2.2.2.2))) (va_runV (As := [.int (xs (Int32.toNatClampNeg (y4 + 1))), .int 1]) (rest := [.int r56]) ⟨hx, hb, hml, hown, hts⟩ (c_X8_hold l D cI cZ b _ T.2.2.2.2.2.2.2.2.2.2.2.2.1 (xs (Int32.toNatClampNeg (y4 + 1))) 1 _ h ) (cwV 2 hts (gV q_1185 q_1186 q_1187 q_75 q_1188) rfl rfl rfl (by decide +kernel) ⟨Nat.le_of_ble_eq_true rfl, Nat.le_of_ble_eq_true rfl⟩) (preV_of (ci := 7) (q := (RX8, TX8, 25)) hK hP hD [54, 55, 56, 57, 58, 59, 60, 61, 62, 63, 64, 65, 66, 67, 68, 69, 70, 71] rfl rfl (by decide) 54 rfl rfl) rfl rfl hl.1 rfl (lv_room (Nat.le_of_ble_eq_true rfl)) dL_law_483 ⟨(by show _ ≤ 1102; omega), (by show _ ≤ 16074; omega)⟩) hP hD hS hA [54, 55, 56, 57, 58, 59, 60, 61, 62, 63, 64, 65, 66, 67, 68, 69, 70, 71] [.inr 0, .inr 1, .inr 2, .inr 3, .inr 4, .inr 5, .inr 6, .inr 7, .inr 8, .inr 9, .inr 10, .inr 11, .inr 12, .inr 13, .inr 14, .inr 15, .inr 16, .inr 17, .inr 18, .inr 19, .inr 20, .inr 21, .inr 22, .inr 23, .inr 24, .inr 25, .inr 26, .inr 27, .inr 28, .inr 29, .inr 30, .inr 31, .inr 32, .inr 33, .inr 34, .inr 35, .inr 36, .inr 37, .inr 38, .inr 39, .inr 40, .inr 41, .inr 42, .inr 43, .inr 44, .inr 45, .inr 46, .inr 47, .inr 48, .inr 49, .inr 50, .inr 51, .inr 52, .inr 53, .inl 0, .inl 1, .inl 2, .inl 3, .inl 4, .inl 5, .inl 6, .inl 7, .inl 8, .inl 9, .inl 10, .inl 11, .inl 12, .inl 13, .inl 14, .inl 15, .inl 16, .inl 17, .inr 72] rfl (by decide) (fun _ => rfl) (fun _ => rfl) (fun r63 u62 H locs h hP hD hS => ?_)
      refine lv_icmp_eq (tgt := 1430) hx hb dL_law_486 (by decide) (fun c64 => ?_) (fun c64 => ?_)
      · have h := h.1 c64
        refine W.widen (k := cn + 1) (n := sn + 6) (by omega) (by omega) ?_
        obtain ⟨x65, ex65⟩ : ∃ y : Int32, y = (y4 + 4) := ⟨_, rfl⟩
        have h := h x65 ex65
        refine lv_iinc (v := x65) (lv' := [(4, .int x65), (0, .ref sb), (1, .ref (a 0)), (2, .ref (b 0)), (3, .ref o)]) hx hb dL_law_1430 hl (k := 4) rfl (by rw [ex65]; rfl) (by decide) rfl (fun ls hl => ?_)
        refine lv_goto (tgt := 23) hx hb dL_law_1433 (by decide) ?_
        exact K23 x65 (u55.1, u55.2.1, u55.2.2.1, u55.2.2.2.1, u55.2.2.2.2.1, u55.2.2.2.2.2.1, u55.2.2.2.2.2.2.1, u55.2.2.2.2.2.2.2.1, u55.2.2.2.2.2.2.2.2.1, u55.2.2.2.2.2.2.2.2.2.1, u55.2.2.2.2.2.2.2.2.2.2.1, u55.2.2.2.2.2.2.2.2.2.2.2, u62, T.2.2.2.2.2.2.2.2.2.2.2.2.2) _ _ _ hP hD hS (lv_sub hl [1, 2, 3, 4, 0] rfl) h
      · have h := h.2 c64
        refine lv_iconst (v := 0) hx hb dL_law_489 (by decide) ?_
        exact h.elim
  · have h := h.2 c54
    refine lv_iconst (v := 1) hx hb dL_law_454 (by decide) ?_
    refine lv_goto (tgt := 459) hx hb dL_law_455 (by decide) ?_
    refine cl_i (ws' := fun u66 => (wLAW cI cZ a b cJ o (u66.1, u66.2.1, u66.2.2.1, u66.2.2.2.1, u66.2.2.2.2.1, u66.2.2.2.2.2.1, u66.2.2.2.2.2.2.1, u66.2.2.2.2.2.2.2.1, u66.2.2.2.2.2.2.2.2.1, u66.2.2.2.2.2.2.2.2.2.1, u66.2.2.2.2.2.2.2.2.2.2.1, u66.2.2.2.2.2.2.2.2.2.2.2, T.2.2.2.2.2.2.2.2.2.2.2.2.1, T.2.2.2.2.2.2.2.2.2.2.2.2.2))) (va_runV (As := [.int (xs (Int32.toNatClampNeg (y4 + 1))), .int 1]) (rest := []) ⟨hx, hb, hml, hown, hts⟩ (c_X7_hold l D cI cZ a _ (T.1, T.2.1, T.2.2.1, T.2.2.2.1, T.2.2.2.2.1, T.2.2.2.2.2.1, T.2.2.2.2.2.2.1, T.2.2.2.2.2.2.2.1, T.2.2.2.2.2.2.2.2.1, T.2.2.2.2.2.2.2.2.2.1, T.2.2.2.2.2.2.2.2.2.2.1, T.2.2.2.2.2.2.2.2.2.2.2.1) (xs (Int32.toNatClampNeg (y4 + 1))) 1 _ h ) (cwV 2 hts (gV q_466 q_467 q_468 q_67 q_469) rfl rfl rfl (by decide +kernel) ⟨Nat.le_of_ble_eq_true rfl, Nat.le_of_ble_eq_true rfl⟩) (preV_of (ci := 6) (q := (RX7, TX7, 4)) hK hP hD [0, 1, 2, 3, 4, 5, 6, 7, 8, 9, 10, 11, 12, 13, 14, 15, 16, 17, 18, 19, 20, 21, 22, 23, 24, 25, 26, 27, 28, 29, 30, 31, 32, 33, 34, 35, 36, 37, 38, 39, 40, 41, 42, 43, 44, 45, 46, 47, 48, 49, 50, 51, 52, 53] rfl rfl (by decide) 0 rfl rfl) rfl rfl hl.1 rfl (lv_room (Nat.le_of_ble_eq_true rfl)) dL_law_459 ⟨(by show _ ≤ 1102; omega), (by show _ ≤ 16074; omega)⟩) hP hD hS hA [0, 1, 2, 3, 4, 5, 6, 7, 8, 9, 10, 11, 12, 13, 14, 15, 16, 17, 18, 19, 20, 21, 22, 23, 24, 25, 26, 27, 28, 29, 30, 31, 32, 33, 34, 35, 36, 37, 38, 39, 40, 41, 42, 43, 44, 45, 46, 47, 48, 49, 50, 51, 52, 53] [.inl 0, .inl 1, .inl 2, .inl 3, .inl 4, .inl 5, .inl 6, .inl 7, .inl 8, .inl 9, .inl 10, .inl 11, .inl 12, .inl 13, .inl 14, .inl 15, .inl 16, .inl 17, .inl 18, .inl 19, .inl 20, .inl 21, .inl 22, .inl 23, .inl 24, .inl 25, .inl 26, .inl 27, .inl 28, .inl 29, .inl 30, .inl 31, .inl 32, .inl 33, .inl 34, .inl 35, .inl 36, .inl 37, .inl 38, .inl 39, .inl 40, .inl 41, .inl 42, .inl 43, .inl 44, .inl 45, .inl 46, .inl 47, .inl 48, .inl 49, .inl 50, .inl 51, .inl 52, .inl 53, .inr 54, .inr 55, .inr 56, .inr 57, .inr 58, .inr 59, .inr 60, .inr 61, .inr 62, .inr 63, .inr 64, .inr 65, .inr 66, .inr 67, .inr 68, .inr 69, .inr 70, .inr 71, .inr 72] rfl (by decide) (fun _ => rfl) (fun _ => rfl) (fun r67 u66 H locs h hP hD hS => ?_)
    refine lv_aload_n hx hb dL_law_462 rfl (lv_at hl 2 rfl) ?_
    refine lv_aload_n hx hb dL_law_463 rfl (lv_at hl 0 rfl) ?_
    refine lv_iload hx hb dL_law_464 (lv_at hl 4 rfl) ?_
    refine lv_iconst (v := 1) hx hb dL_law_466 (by decide) ?_
    refine lv_iadd hx hb dL_law_467 ?_
    refine va_sld hx hb hX hbl hbA hS h.1 dL_law_468 ?_
    have h := h.2
    refine lv_aload_n hx hb dL_law_469 rfl (lv_at hl 0 rfl) ?_
    refine lv_iload hx hb dL_law_470 (lv_at hl 4 rfl) ?_
    refine lv_iconst (v := 2) hx hb dL_law_472 (by decide) ?_
    refine lv_iadd hx hb dL_law_473 ?_
    refine va_sld hx hb hX hbl hbA hS h.1 dL_law_474 ?_
    have h := h.2
    refine lv_if_eq (tgt := 482) hx hb dL_law_475 (by decide) (fun c68 => ?_) (fun c68 => ?_)
    · have h := h.1 c68
      refine lv_iconst (v := 0) hx hb dL_law_482 (by decide) ?_
      refine cl_i (ws' := fun u69 => (wLAW cI cZ a b cJ o (u66.1, u66.2.1, u66.2.2.1, u66.2.2.2.1, u66.2.2.2.2.1, u66.2.2.2.2.2.1, u66.2.2.2.2.2.2.1, u66.2.2.2.2.2.2.2.1, u66.2.2.2.2.2.2.2.2.1, u66.2.2.2.2.2.2.2.2.2.1, u66.2.2.2.2.2.2.2.2.2.2.1, u66.2.2.2.2.2.2.2.2.2.2.2, u69, T.2.2.2.2.2.2.2.2.2.2.2.2.2))) (va_runV (As := [.int (xs (Int32.toNatClampNeg (y4 + 1))), .int 0]) (rest := [.int r67]) ⟨hx, hb, hml, hown, hts⟩ (c_X8_hold l D cI cZ b _ T.2.2.2.2.2.2.2.2.2.2.2.2.1 (xs (Int32.toNatClampNeg (y4 + 1))) 0 _ h ) (cwV 2 hts (gV q_1185 q_1186 q_1187 q_75 q_1188) rfl rfl rfl (by decide +kernel) ⟨Nat.le_of_ble_eq_true rfl, Nat.le_of_ble_eq_true rfl⟩) (preV_of (ci := 7) (q := (RX8, TX8, 25)) hK hP hD [54, 55, 56, 57, 58, 59, 60, 61, 62, 63, 64, 65, 66, 67, 68, 69, 70, 71] rfl rfl (by decide) 54 rfl rfl) rfl rfl hl.1 rfl (lv_room (Nat.le_of_ble_eq_true rfl)) dL_law_483 ⟨(by show _ ≤ 1102; omega), (by show _ ≤ 16074; omega)⟩) hP hD hS hA [54, 55, 56, 57, 58, 59, 60, 61, 62, 63, 64, 65, 66, 67, 68, 69, 70, 71] [.inr 0, .inr 1, .inr 2, .inr 3, .inr 4, .inr 5, .inr 6, .inr 7, .inr 8, .inr 9, .inr 10, .inr 11, .inr 12, .inr 13, .inr 14, .inr 15, .inr 16, .inr 17, .inr 18, .inr 19, .inr 20, .inr 21, .inr 22, .inr 23, .inr 24, .inr 25, .inr 26, .inr 27, .inr 28, .inr 29, .inr 30, .inr 31, .inr 32, .inr 33, .inr 34, .inr 35, .inr 36, .inr 37, .inr 38, .inr 39, .inr 40, .inr 41, .inr 42, .inr 43, .inr 44, .inr 45, .inr 46, .inr 47, .inr 48, .inr 49, .inr 50, .inr 51, .inr 52, .inr 53, .inl 0, .inl 1, .inl 2, .inl 3, .inl 4, .inl 5, .inl 6, .inl 7, .inl 8, .inl 9, .inl 10, .inl 11, .inl 12, .inl 13, .inl 14, .inl 15, .inl 16, .inl 17, .inr 72] rfl (by decide) (fun _ => rfl) (fun _ => rfl) (fun r70 u69 H locs h hP hD hS => ?_)
      refine lv_icmp_eq (tgt := 1430) hx hb dL_law_486 (by decide) (fun c71 => ?_) (fun c71 => ?_)
      · have h := h.1 c71
        refine W.widen (k := cn + 1) (n := sn + 6) (by omega) (by omega) ?_
        obtain ⟨x72, ex72⟩ : ∃ y : Int32, y = (y4 + 4) := ⟨_, rfl⟩
        have h := h x72 ex72
        refine lv_iinc (v := x72) (lv' := [(4, .int x72), (0, .ref sb), (1, .ref (a 0)), (2, .ref (b 0)), (3, .ref o)]) hx hb dL_law_1430 hl (k := 4) rfl (by rw [ex72]; rfl) (by decide) rfl (fun ls hl => ?_)
        refine lv_goto (tgt := 23) hx hb dL_law_1433 (by decide) ?_
        exact K23 x72 (u66.1, u66.2.1, u66.2.2.1, u66.2.2.2.1, u66.2.2.2.2.1, u66.2.2.2.2.2.1, u66.2.2.2.2.2.2.1, u66.2.2.2.2.2.2.2.1, u66.2.2.2.2.2.2.2.2.1, u66.2.2.2.2.2.2.2.2.2.1, u66.2.2.2.2.2.2.2.2.2.2.1, u66.2.2.2.2.2.2.2.2.2.2.2, u69, T.2.2.2.2.2.2.2.2.2.2.2.2.2) _ _ _ hP hD hS (lv_sub hl [1, 2, 3, 4, 0] rfl) h
      · have h := h.2 c71
        refine lv_iconst (v := 0) hx hb dL_law_489 (by decide) ?_
        exact h.elim
    · have h := h.2 c68
      refine lv_iconst (v := 1) hx hb dL_law_478 (by decide) ?_
      refine lv_goto (tgt := 483) hx hb dL_law_479 (by decide) ?_
      refine cl_i (ws' := fun u73 => (wLAW cI cZ a b cJ o (u66.1, u66.2.1, u66.2.2.1, u66.2.2.2.1, u66.2.2.2.2.1, u66.2.2.2.2.2.1, u66.2.2.2.2.2.2.1, u66.2.2.2.2.2.2.2.1, u66.2.2.2.2.2.2.2.2.1, u66.2.2.2.2.2.2.2.2.2.1, u66.2.2.2.2.2.2.2.2.2.2.1, u66.2.2.2.2.2.2.2.2.2.2.2, u73, T.2.2.2.2.2.2.2.2.2.2.2.2.2))) (va_runV (As := [.int (xs (Int32.toNatClampNeg (y4 + 1))), .int 1]) (rest := [.int r67]) ⟨hx, hb, hml, hown, hts⟩ (c_X8_hold l D cI cZ b _ T.2.2.2.2.2.2.2.2.2.2.2.2.1 (xs (Int32.toNatClampNeg (y4 + 1))) 1 _ h ) (cwV 2 hts (gV q_1185 q_1186 q_1187 q_75 q_1188) rfl rfl rfl (by decide +kernel) ⟨Nat.le_of_ble_eq_true rfl, Nat.le_of_ble_eq_true rfl⟩) (preV_of (ci := 7) (q := (RX8, TX8, 25)) hK hP hD [54, 55, 56, 57, 58, 59, 60, 61, 62, 63, 64, 65, 66, 67, 68, 69, 70, 71] rfl rfl (by decide) 54 rfl rfl) rfl rfl hl.1 rfl (lv_room (Nat.le_of_ble_eq_true rfl)) dL_law_483 ⟨(by show _ ≤ 1102; omega), (by show _ ≤ 16074; omega)⟩) hP hD hS hA [54, 55, 56, 57, 58, 59, 60, 61, 62, 63, 64, 65, 66, 67, 68, 69, 70, 71] [.inr 0, .inr 1, .inr 2, .inr 3, .inr 4, .inr 5, .inr 6, .inr 7, .inr 8, .inr 9, .inr 10, .inr 11, .inr 12, .inr 13, .inr 14, .inr 15, .inr 16, .inr 17, .inr 18, .inr 19, .inr 20, .inr 21, .inr 22, .inr 23, .inr 24, .inr 25, .inr 26, .inr 27, .inr 28, .inr 29, .inr 30, .inr 31, .inr 32, .inr 33, .inr 34, .inr 35, .inr 36, .inr 37, .inr 38, .inr 39, .inr 40, .inr 41, .inr 42, .inr 43, .inr 44, .inr 45, .inr 46, .inr 47, .inr 48, .inr 49, .inr 50, .inr 51, .inr 52, .inr 53, .inl 0, .inl 1, .inl 2, .inl 3, .inl 4, .inl 5, .inl 6, .inl 7, .inl 8, .inl 9, .inl 10, .inl 11, .inl 12, .inl 13, .inl 14, .inl 15, .inl 16, .inl 17, .inr 72] rfl (by decide) (fun _ => rfl) (fun _ => rfl) (fun r74 u73 H locs h hP hD hS => ?_)
      refine lv_icmp_eq (tgt := 1430) hx hb dL_law_486 (by decide) (fun c75 => ?_) (fun c75 => ?_)
      · have h := h.1 c75
        refine W.widen (k := cn + 1) (n := sn + 6) (by omega) (by omega) ?_
        obtain ⟨x76, ex76⟩ : ∃ y : Int32, y = (y4 + 4) := ⟨_, rfl⟩
        have h := h x76 ex76
        refine lv_iinc (v := x76) (lv' := [(4, .int x76), (0, .ref sb), (1, .ref (a 0)), (2, .ref (b 0)), (3, .ref o)]) hx hb dL_law_1430 hl (k := 4) rfl (by rw [ex76]; rfl) (by decide) rfl (fun ls hl => ?_)
        refine lv_goto (tgt := 23) hx hb dL_law_1433 (by decide) ?_
        exact K23 x76 (u66.1, u66.2.1, u66.2.2.1, u66.2.2.2.1, u66.2.2.2.2.1, u66.2.2.2.2.2.1, u66.2.2.2.2.2.2.1, u66.2.2.2.2.2.2.2.1, u66.2.2.2.2.2.2.2.2.1, u66.2.2.2.2.2.2.2.2.2.1, u66.2.2.2.2.2.2.2.2.2.2.1, u66.2.2.2.2.2.2.2.2.2.2.2, u73, T.2.2.2.2.2.2.2.2.2.2.2.2.2) _ _ _ hP hD hS (lv_sub hl [1, 2, 3, 4, 0] rfl) h
      · have h := h.2 c75
        refine lv_iconst (v := 0) hx hb dL_law_489 (by decide) ?_
        exact h.elim
set_option maxHeartbeats 4000000 in
set_option maxRecDepth 100000 in
theorem law_L491 {p : Program} {l : Launch} {e : Env} {s : State} {m : MethodId} {below : List Frame} {meth : Method} {c : Code} {D : va_G} {cI cZ cJ : ClassId} {a b : Nat → Nat} {o sb L : Nat} {xs : Nat → Int32} {A : Nat → Prop} (C0 : lawC p l s m meth c D cI cZ cJ sb L xs A) {cn sn : Nat} (hcn : cn + 1 ≤ 1102) (hsn : sn + 6 ≤ 16074) (k23 : Int32 → TLW → Prop) (K23 : ∀ (y4 : Int32) (T : TLW) (H : Heap) (locs : List Loc) (ls : Array Slot), va_P D vwCl (wLAW cI cZ a b cJ o T) H → va_D A (wLAW cI cZ a b cJ o T) → va_S A s.heap H locs → lv_has ls 7 [(0, .ref sb), (1, .ref (a 0)), (2, .ref (b 0)), (3, .ref o), (4, .int y4)] → k23 y4 T → W p l e room_1 s m #[Value.ref sb] below meth c H locs (cn + 1) (sn + 6) (lw_Z below #[Value.ref sb] s) (F0 m 23 ls [])) : ∀ (y4 : Int32) (T : TLW) (H : Heap) (locs : List Loc) (ls : Array Slot), va_P D vwCl (wLAW cI cZ a b cJ o T) H → va_D A (wLAW cI cZ a b cJ o T) → va_S A s.heap H locs → lv_has ls 7 [(0, .ref sb), (1, .ref (a 0)), (2, .ref (b 0)), (3, .ref o), (4, .int y4)] → wp_law_L491 L xs k23 y4 T → W p l e room_1 s m #[Value.ref sb] below meth c H locs cn sn (lw_Z below #[Value.ref sb] s) (F0 m 491 ls []) := by
  obtain ⟨hst, hx, hb, hr, hlocks, hml, hown, hts, hX, hbl, hbA, hA, hAf, hKJ, hF, hXF⟩ := id C0
  have hK : va_K D vwCl (tyL cI cZ) s := hKJ.sub [0, 1] rfl
  have hml2 := hml
  intro y4 T H locs ls hP hD hS hl h
  unfold wp_law_L491 at h
  refine lv_aload_n hx hb dL_law_491 rfl (lv_at hl 1 rfl) ?_
  refine lv_aload_n hx hb dL_law_492 rfl (lv_at hl 0 rfl) ?_
  refine lv_iload hx hb dL_law_493 (lv_at hl 4 rfl) ?_
  refine lv_iconst (v := 1) hx hb dL_law_495 (by decide) ?_
  refine lv_iadd hx hb dL_law_496 ?_
  refine va_sld hx hb hX hbl hbA hS h.1 dL_law_497 ?_
  have h := h.2
  refine cl_i (ws' := fun u77 => (wLAW cI cZ a b cJ o (u77.1, u77.2.1, u77.2.2.1, u77.2.2.2.1, u77.2.2.2.2.1, u77.2.2.2.2.2.1, u77.2.2.2.2.2.2.1, u77.2.2.2.2.2.2.2.1, u77.2.2.2.2.2.2.2.2.1, u77.2.2.2.2.2.2.2.2.2.1, u77.2.2.2.2.2.2.2.2.2.2.1, u77.2.2.2.2.2.2.2.2.2.2.2, T.2.2.2.2.2.2.2.2.2.2.2.2.1, T.2.2.2.2.2.2.2.2.2.2.2.2.2))) (va_runV (As := [.int (xs (Int32.toNatClampNeg (y4 + 1)))]) (rest := []) ⟨hx, hb, hml, hown, hts⟩ (c_X7_pend l D cI cZ a _ (T.1, T.2.1, T.2.2.1, T.2.2.2.1, T.2.2.2.2.1, T.2.2.2.2.2.1, T.2.2.2.2.2.2.1, T.2.2.2.2.2.2.2.1, T.2.2.2.2.2.2.2.2.1, T.2.2.2.2.2.2.2.2.2.1, T.2.2.2.2.2.2.2.2.2.2.1, T.2.2.2.2.2.2.2.2.2.2.2.1) (xs (Int32.toNatClampNeg (y4 + 1))) _ h ) (cwV 1 hts (gV q_474 q_475 q_476 q_67 q_477) rfl rfl rfl (by decide +kernel) ⟨Nat.le_of_ble_eq_true rfl, Nat.le_of_ble_eq_true rfl⟩) (preV_of (ci := 6) (q := (RX7, TX7, 4)) hK hP hD [0, 1, 2, 3, 4, 5, 6, 7, 8, 9, 10, 11, 12, 13, 14, 15, 16, 17, 18, 19, 20, 21, 22, 23, 24, 25, 26, 27, 28, 29, 30, 31, 32, 33, 34, 35, 36, 37, 38, 39, 40, 41, 42, 43, 44, 45, 46, 47, 48, 49, 50, 51, 52, 53] rfl rfl (by decide) 0 rfl rfl) rfl rfl hl.1 rfl (lv_room (Nat.le_of_ble_eq_true rfl)) dL_law_498 ⟨(by show _ ≤ 1102; omega), (by show _ ≤ 16074; omega)⟩) hP hD hS hA [0, 1, 2, 3, 4, 5, 6, 7, 8, 9, 10, 11, 12, 13, 14, 15, 16, 17, 18, 19, 20, 21, 22, 23, 24, 25, 26, 27, 28, 29, 30, 31, 32, 33, 34, 35, 36, 37, 38, 39, 40, 41, 42, 43, 44, 45, 46, 47, 48, 49, 50, 51, 52, 53] [.inl 0, .inl 1, .inl 2, .inl 3, .inl 4, .inl 5, .inl 6, .inl 7, .inl 8, .inl 9, .inl 10, .inl 11, .inl 12, .inl 13, .inl 14, .inl 15, .inl 16, .inl 17, .inl 18, .inl 19, .inl 20, .inl 21, .inl 22, .inl 23, .inl 24, .inl 25, .inl 26, .inl 27, .inl 28, .inl 29, .inl 30, .inl 31, .inl 32, .inl 33, .inl 34, .inl 35, .inl 36, .inl 37, .inl 38, .inl 39, .inl 40, .inl 41, .inl 42, .inl 43, .inl 44, .inl 45, .inl 46, .inl 47, .inl 48, .inl 49, .inl 50, .inl 51, .inl 52, .inl 53, .inr 54, .inr 55, .inr 56, .inr 57, .inr 58, .inr 59, .inr 60, .inr 61, .inr 62, .inr 63, .inr 64, .inr 65, .inr 66, .inr 67, .inr 68, .inr 69, .inr 70, .inr 71, .inr 72] rfl (by decide) (fun _ => rfl) (fun _ => rfl) (fun r78 u77 H locs h hP hD hS => ?_)
  refine lv_aload_n hx hb dL_law_501 rfl (lv_at hl 2 rfl) ?_
  refine lv_aload_n hx hb dL_law_502 rfl (lv_at hl 0 rfl) ?_
  refine lv_iload hx hb dL_law_503 (lv_at hl 4 rfl) ?_
  refine lv_iconst (v := 1) hx hb dL_law_505 (by decide) ?_
  refine lv_iadd hx hb dL_law_506 ?_
  refine va_sld hx hb hX hbl hbA hS h.1 dL_law_507 ?_
  have h := h.2
  refine cl_i (ws' := fun u79 => (wLAW cI cZ a b cJ o (u77.1, u77.2.1, u77.2.2.1, u77.2.2.2.1, u77.2.2.2.2.1, u77.2.2.2.2.2.1, u77.2.2.2.2.2.2.1, u77.2.2.2.2.2.2.2.1, u77.2.2.2.2.2.2.2.2.1, u77.2.2.2.2.2.2.2.2.2.1, u77.2.2.2.2.2.2.2.2.2.2.1, u77.2.2.2.2.2.2.2.2.2.2.2, u79, T.2.2.2.2.2.2.2.2.2.2.2.2.2))) (va_runV (As := [.int (xs (Int32.toNatClampNeg (y4 + 1)))]) (rest := [.int r78]) ⟨hx, hb, hml, hown, hts⟩ (c_X8_pend l D cI cZ b _ T.2.2.2.2.2.2.2.2.2.2.2.2.1 (xs (Int32.toNatClampNeg (y4 + 1))) _ h ) (cwV 1 hts (gV q_1197 q_1198 q_1199 q_75 q_1200) rfl rfl rfl (by decide +kernel) ⟨Nat.le_of_ble_eq_true rfl, Nat.le_of_ble_eq_true rfl⟩) (preV_of (ci := 7) (q := (RX8, TX8, 25)) hK hP hD [54, 55, 56, 57, 58, 59, 60, 61, 62, 63, 64, 65, 66, 67, 68, 69, 70, 71] rfl rfl (by decide) 54 rfl rfl) rfl rfl hl.1 rfl (lv_room (Nat.le_of_ble_eq_true rfl)) dL_law_508 ⟨(by show _ ≤ 1102; omega), (by show _ ≤ 16074; omega)⟩) hP hD hS hA [54, 55, 56, 57, 58, 59, 60, 61, 62, 63, 64, 65, 66, 67, 68, 69, 70, 71] [.inr 0, .inr 1, .inr 2, .inr 3, .inr 4, .inr 5, .inr 6, .inr 7, .inr 8, .inr 9, .inr 10, .inr 11, .inr 12, .inr 13, .inr 14, .inr 15, .inr 16, .inr 17, .inr 18, .inr 19, .inr 20, .inr 21, .inr 22, .inr 23, .inr 24, .inr 25, .inr 26, .inr 27, .inr 28, .inr 29, .inr 30, .inr 31, .inr 32, .inr 33, .inr 34, .inr 35, .inr 36, .inr 37, .inr 38, .inr 39, .inr 40, .inr 41, .inr 42, .inr 43, .inr 44, .inr 45, .inr 46, .inr 47, .inr 48, .inr 49, .inr 50, .inr 51, .inr 52, .inr 53, .inl 0, .inl 1, .inl 2, .inl 3, .inl 4, .inl 5, .inl 6, .inl 7, .inl 8, .inl 9, .inl 10, .inl 11, .inl 12, .inl 13, .inl 14, .inl 15, .inl 16, .inl 17, .inr 72] rfl (by decide) (fun _ => rfl) (fun _ => rfl) (fun r80 u79 H locs h hP hD hS => ?_)
  refine lv_icmp_eq (tgt := 1430) hx hb dL_law_511 (by decide) (fun c81 => ?_) (fun c81 => ?_)
  · have h := h.1 c81
    refine W.widen (k := cn + 1) (n := sn + 6) (by omega) (by omega) ?_
    obtain ⟨x82, ex82⟩ : ∃ y : Int32, y = (y4 + 4) := ⟨_, rfl⟩
    have h := h x82 ex82
    refine lv_iinc (v := x82) (lv' := [(4, .int x82), (0, .ref sb), (1, .ref (a 0)), (2, .ref (b 0)), (3, .ref o)]) hx hb dL_law_1430 hl (k := 4) rfl (by rw [ex82]; rfl) (by decide) rfl (fun ls hl => ?_)
    refine lv_goto (tgt := 23) hx hb dL_law_1433 (by decide) ?_
    exact K23 x82 (u77.1, u77.2.1, u77.2.2.1, u77.2.2.2.1, u77.2.2.2.2.1, u77.2.2.2.2.2.1, u77.2.2.2.2.2.2.1, u77.2.2.2.2.2.2.2.1, u77.2.2.2.2.2.2.2.2.1, u77.2.2.2.2.2.2.2.2.2.1, u77.2.2.2.2.2.2.2.2.2.2.1, u77.2.2.2.2.2.2.2.2.2.2.2, u79, T.2.2.2.2.2.2.2.2.2.2.2.2.2) _ _ _ hP hD hS (lv_sub hl [1, 2, 3, 4, 0] rfl) h
  · have h := h.2 c81
    refine lv_iconst (v := 0) hx hb dL_law_514 (by decide) ?_
    exact h.elim
set_option maxHeartbeats 4000000 in
set_option maxRecDepth 100000 in
theorem law_L516 {p : Program} {l : Launch} {e : Env} {s : State} {m : MethodId} {below : List Frame} {meth : Method} {c : Code} {D : va_G} {cI cZ cJ : ClassId} {a b : Nat → Nat} {o sb L : Nat} {xs : Nat → Int32} {A : Nat → Prop} (C0 : lawC p l s m meth c D cI cZ cJ sb L xs A) {cn sn : Nat} (hcn : cn + 1 ≤ 1102) (hsn : sn + 6 ≤ 16074) (k23 : Int32 → TLW → Prop) (K23 : ∀ (y4 : Int32) (T : TLW) (H : Heap) (locs : List Loc) (ls : Array Slot), va_P D vwCl (wLAW cI cZ a b cJ o T) H → va_D A (wLAW cI cZ a b cJ o T) → va_S A s.heap H locs → lv_has ls 7 [(0, .ref sb), (1, .ref (a 0)), (2, .ref (b 0)), (3, .ref o), (4, .int y4)] → k23 y4 T → W p l e room_1 s m #[Value.ref sb] below meth c H locs (cn + 1) (sn + 6) (lw_Z below #[Value.ref sb] s) (F0 m 23 ls [])) : ∀ (y4 : Int32) (T : TLW) (H : Heap) (locs : List Loc) (ls : Array Slot), va_P D vwCl (wLAW cI cZ a b cJ o T) H → va_D A (wLAW cI cZ a b cJ o T) → va_S A s.heap H locs → lv_has ls 7 [(0, .ref sb), (1, .ref (a 0)), (2, .ref (b 0)), (3, .ref o), (4, .int y4)] → wp_law_L516 L xs k23 y4 T → W p l e room_1 s m #[Value.ref sb] below meth c H locs cn sn (lw_Z below #[Value.ref sb] s) (F0 m 516 ls []) := by
  obtain ⟨hst, hx, hb, hr, hlocks, hml, hown, hts, hX, hbl, hbA, hA, hAf, hKJ, hF, hXF⟩ := id C0
  have hK : va_K D vwCl (tyL cI cZ) s := hKJ.sub [0, 1] rfl
  have hml2 := hml
  intro y4 T H locs ls hP hD hS hl h
  unfold wp_law_L516 at h
  refine lv_aload_n hx hb dL_law_516 rfl (lv_at hl 1 rfl) ?_
  refine lv_aload_n hx hb dL_law_517 rfl (lv_at hl 0 rfl) ?_
  refine lv_iload hx hb dL_law_518 (lv_at hl 4 rfl) ?_
  refine lv_iconst (v := 1) hx hb dL_law_520 (by decide) ?_
  refine lv_iadd hx hb dL_law_521 ?_
  refine va_sld hx hb hX hbl hbA hS h.1 dL_law_522 ?_
  have h := h.2
  refine cl_i (ws' := fun u83 => (wLAW cI cZ a b cJ o (u83.1, u83.2.1, u83.2.2.1, u83.2.2.2.1, u83.2.2.2.2.1, u83.2.2.2.2.2.1, u83.2.2.2.2.2.2.1, u83.2.2.2.2.2.2.2.1, u83.2.2.2.2.2.2.2.2.1, u83.2.2.2.2.2.2.2.2.2.1, u83.2.2.2.2.2.2.2.2.2.2.1, u83.2.2.2.2.2.2.2.2.2.2.2, T.2.2.2.2.2.2.2.2.2.2.2.2.1, T.2.2.2.2.2.2.2.2.2.2.2.2.2))) (va_runV (As := [.int (xs (Int32.toNatClampNeg (y4 + 1)))]) (rest := []) ⟨hx, hb, hml, hown, hts⟩ (c_X7_clear l D cI cZ a _ (T.1, T.2.1, T.2.2.1, T.2.2.2.1, T.2.2.2.2.1, T.2.2.2.2.2.1, T.2.2.2.2.2.2.1, T.2.2.2.2.2.2.2.1, T.2.2.2.2.2.2.2.2.1, T.2.2.2.2.2.2.2.2.2.1, T.2.2.2.2.2.2.2.2.2.2.1, T.2.2.2.2.2.2.2.2.2.2.2.1) (xs (Int32.toNatClampNeg (y4 + 1))) _ h ) (cwV 1 hts (gV q_478 q_479 q_480 q_67 q_481) rfl rfl rfl (by decide +kernel) ⟨Nat.le_of_ble_eq_true rfl, Nat.le_of_ble_eq_true rfl⟩) (preV_of (ci := 6) (q := (RX7, TX7, 4)) hK hP hD [0, 1, 2, 3, 4, 5, 6, 7, 8, 9, 10, 11, 12, 13, 14, 15, 16, 17, 18, 19, 20, 21, 22, 23, 24, 25, 26, 27, 28, 29, 30, 31, 32, 33, 34, 35, 36, 37, 38, 39, 40, 41, 42, 43, 44, 45, 46, 47, 48, 49, 50, 51, 52, 53] rfl rfl (by decide) 0 rfl rfl) rfl rfl hl.1 rfl (lv_room (Nat.le_of_ble_eq_true rfl)) dL_law_523 ⟨(by show _ ≤ 1102; omega), (by show _ ≤ 16074; omega)⟩) hP hD hS hA [0, 1, 2, 3, 4, 5, 6, 7, 8, 9, 10, 11, 12, 13, 14, 15, 16, 17, 18, 19, 20, 21, 22, 23, 24, 25, 26, 27, 28, 29, 30, 31, 32, 33, 34, 35, 36, 37, 38, 39, 40, 41, 42, 43, 44, 45, 46, 47, 48, 49, 50, 51, 52, 53] [.inl 0, .inl 1, .inl 2, .inl 3, .inl 4, .inl 5, .inl 6, .inl 7, .inl 8, .inl 9, .inl 10, .inl 11, .inl 12, .inl 13, .inl 14, .inl 15, .inl 16, .inl 17, .inl 18, .inl 19, .inl 20, .inl 21, .inl 22, .inl 23, .inl 24, .inl 25, .inl 26, .inl 27, .inl 28, .inl 29, .inl 30, .inl 31, .inl 32, .inl 33, .inl 34, .inl 35, .inl 36, .inl 37, .inl 38, .inl 39, .inl 40, .inl 41, .inl 42, .inl 43, .inl 44, .inl 45, .inl 46, .inl 47, .inl 48, .inl 49, .inl 50, .inl 51, .inl 52, .inl 53, .inr 54, .inr 55, .inr 56, .inr 57, .inr 58, .inr 59, .inr 60, .inr 61, .inr 62, .inr 63, .inr 64, .inr 65, .inr 66, .inr 67, .inr 68, .inr 69, .inr 70, .inr 71, .inr 72] rfl (by decide) (fun _ => rfl) (fun _ => rfl) (fun r84 u83 H locs h hP hD hS => ?_)
  refine lv_aload_n hx hb dL_law_526 rfl (lv_at hl 2 rfl) ?_
  refine lv_aload_n hx hb dL_law_527 rfl (lv_at hl 0 rfl) ?_
  refine lv_iload hx hb dL_law_528 (lv_at hl 4 rfl) ?_
  refine lv_iconst (v := 1) hx hb dL_law_530 (by decide) ?_
  refine lv_iadd hx hb dL_law_531 ?_
  refine va_sld hx hb hX hbl hbA hS h.1 dL_law_532 ?_
  have h := h.2
  refine cl_i (ws' := fun u85 => (wLAW cI cZ a b cJ o (u83.1, u83.2.1, u83.2.2.1, u83.2.2.2.1, u83.2.2.2.2.1, u83.2.2.2.2.2.1, u83.2.2.2.2.2.2.1, u83.2.2.2.2.2.2.2.1, u83.2.2.2.2.2.2.2.2.1, u83.2.2.2.2.2.2.2.2.2.1, u83.2.2.2.2.2.2.2.2.2.2.1, u83.2.2.2.2.2.2.2.2.2.2.2, u85, T.2.2.2.2.2.2.2.2.2.2.2.2.2))) (va_runV (As := [.int (xs (Int32.toNatClampNeg (y4 + 1)))]) (rest := [.int r84]) ⟨hx, hb, hml, hown, hts⟩ (c_X8_clear l D cI cZ b _ T.2.2.2.2.2.2.2.2.2.2.2.2.1 (xs (Int32.toNatClampNeg (y4 + 1))) _ h ) (cwV 1 hts (gV q_1201 q_1202 q_1203 q_75 q_1204) rfl rfl rfl (by decide +kernel) ⟨Nat.le_of_ble_eq_true rfl, Nat.le_of_ble_eq_true rfl⟩) (preV_of (ci := 7) (q := (RX8, TX8, 25)) hK hP hD [54, 55, 56, 57, 58, 59, 60, 61, 62, 63, 64, 65, 66, 67, 68, 69, 70, 71] rfl rfl (by decide) 54 rfl rfl) rfl rfl hl.1 rfl (lv_room (Nat.le_of_ble_eq_true rfl)) dL_law_533 ⟨(by show _ ≤ 1102; omega), (by show _ ≤ 16074; omega)⟩) hP hD hS hA [54, 55, 56, 57, 58, 59, 60, 61, 62, 63, 64, 65, 66, 67, 68, 69, 70, 71] [.inr 0, .inr 1, .inr 2, .inr 3, .inr 4, .inr 5, .inr 6, .inr 7, .inr 8, .inr 9, .inr 10, .inr 11, .inr 12, .inr 13, .inr 14, .inr 15, .inr 16, .inr 17, .inr 18, .inr 19, .inr 20, .inr 21, .inr 22, .inr 23, .inr 24, .inr 25, .inr 26, .inr 27, .inr 28, .inr 29, .inr 30, .inr 31, .inr 32, .inr 33, .inr 34, .inr 35, .inr 36, .inr 37, .inr 38, .inr 39, .inr 40, .inr 41, .inr 42, .inr 43, .inr 44, .inr 45, .inr 46, .inr 47, .inr 48, .inr 49, .inr 50, .inr 51, .inr 52, .inr 53, .inl 0, .inl 1, .inl 2, .inl 3, .inl 4, .inl 5, .inl 6, .inl 7, .inl 8, .inl 9, .inl 10, .inl 11, .inl 12, .inl 13, .inl 14, .inl 15, .inl 16, .inl 17, .inr 72] rfl (by decide) (fun _ => rfl) (fun _ => rfl) (fun r86 u85 H locs h hP hD hS => ?_)
  refine lv_icmp_eq (tgt := 1430) hx hb dL_law_536 (by decide) (fun c87 => ?_) (fun c87 => ?_)
  · have h := h.1 c87
    refine W.widen (k := cn + 1) (n := sn + 6) (by omega) (by omega) ?_
    obtain ⟨x88, ex88⟩ : ∃ y : Int32, y = (y4 + 4) := ⟨_, rfl⟩
    have h := h x88 ex88
    refine lv_iinc (v := x88) (lv' := [(4, .int x88), (0, .ref sb), (1, .ref (a 0)), (2, .ref (b 0)), (3, .ref o)]) hx hb dL_law_1430 hl (k := 4) rfl (by rw [ex88]; rfl) (by decide) rfl (fun ls hl => ?_)
    refine lv_goto (tgt := 23) hx hb dL_law_1433 (by decide) ?_
    exact K23 x88 (u83.1, u83.2.1, u83.2.2.1, u83.2.2.2.1, u83.2.2.2.2.1, u83.2.2.2.2.2.1, u83.2.2.2.2.2.2.1, u83.2.2.2.2.2.2.2.1, u83.2.2.2.2.2.2.2.2.1, u83.2.2.2.2.2.2.2.2.2.1, u83.2.2.2.2.2.2.2.2.2.2.1, u83.2.2.2.2.2.2.2.2.2.2.2, u85, T.2.2.2.2.2.2.2.2.2.2.2.2.2) _ _ _ hP hD hS (lv_sub hl [1, 2, 3, 4, 0] rfl) h
  · have h := h.2 c87
    refine lv_iconst (v := 0) hx hb dL_law_539 (by decide) ?_
    exact h.elim
