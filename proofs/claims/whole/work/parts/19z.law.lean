set_option maxHeartbeats 4000000 in
set_option maxRecDepth 100000 in
theorem law_L23 {p : Program} {l : Launch} {e : Env} {s : State} {m : MethodId} {below : List Frame} {meth : Method} {c : Code} {D : va_G} {cI cZ cJ : ClassId} {a b : Nat → Nat} {o sb L : Nat} {xs : Nat → Int32} {A : Nat → Prop} (C0 : lawC p l s m meth c D cI cZ cJ sb L xs A) : ∀ (n cn sn : Nat), cn + n ≤ 1102 → sn + 6 * n ≤ 16074 → ∀ (y4 : Int32) (T : TLW) (H : Heap) (locs : List Loc) (ls : Array Slot), va_P D vwCl (wLAW cI cZ a b cJ o T) H → va_D A (wLAW cI cZ a b cJ o T) → va_S A s.heap H locs → lv_has ls 7 [(0, .ref sb), (1, .ref (a 0)), (2, .ref (b 0)), (3, .ref o), (4, .int y4)] → wp_law_L23 L xs n y4 T → W p l e room_1 s m #[Value.ref sb] below meth c H locs cn sn (lw_Z below #[Value.ref sb] s) (F0 m 23 ls []) := by
  obtain ⟨hst, hx, hb, hr, hlocks, hml, hown, hts, hX, hbl, hbA, hA, hAf, hKJ, hF, hXF⟩ := id C0
  have hK : va_K D vwCl (tyL cI cZ) s := hKJ.sub [0, 1] rfl
  have hml2 := hml
  intro n
  induction n with
  | zero =>
    intro cn sn _ _ y4 T H locs ls hP hD hS hl h
    exact False.elim h
  | succ n ih =>
    intro cn sn hcn hsn y4 T H locs ls hP hD hS hl h
    unfold wp_law_L23 at h
    refine lv_iload hx hb dL_law_23 (lv_at hl 4 rfl) ?_
    refine lv_aload_n hx hb dL_law_25 rfl (lv_at hl 0 rfl) ?_
    refine va_slen hx hb hX hbl hbA hS dL_law_26 ?_
    refine lv_iconst (v := 4) hx hb dL_law_27 (by decide) ?_
    refine lv_isub hx hb dL_law_28 ?_
    refine lv_icmp_gt (tgt := 1436) hx hb dL_law_29 (by decide) (fun c326 => ?_) (fun c326 => ?_)
    · have h := h.1 c326
      refine lv_iconst (v := 1) hx hb dL_law_1436 (by decide) ?_
      refine va_forget (fun q hq => hAf _ (hS.2.2 q hq)) ?_
      refine W.widen (k := 1102) (n := 16074) (by omega) (by omega) ?_
      exact lw_ret (Drawn.sameBut.refl s.drawn lw_cs) hx hb hr hlocks dL_law_1437
    · have h := h.2 c326
      refine lv_aload_n hx hb dL_law_32 rfl (lv_at hl 0 rfl) ?_
      refine lv_iload hx hb dL_law_33 (lv_at hl 4 rfl) ?_
      refine va_sld hx hb hX hbl hbA hS h.1 dL_law_35 ?_
      have h := h.2
      refine lv_bipush (v := 63) hx hb dL_law_36 (by decide) ?_
      refine lv_iand hx hb dL_law_38 ?_
      by_cases c327_0 : ((xs (Int32.toNatClampNeg y4)) &&& 63) = 0
      · have h := h.1 c327_0
        refine sw_in c327_0 ?_
        refine lv_tableIn (tgt := 192) hx hb dL_law_39 (by decide) (by decide) rfl (by decide) ?_
        exact law_L192 C0 (by omega) (by omega) _ (fun y4 T H locs ls => ih (cn + 1) (sn + 6) (by omega) (by omega) y4 T H locs ls) y4 T _ _ _ hP hD hS (lv_sub hl [0, 1, 2, 3, 4] rfl) h
      have h := h.2
      by_cases c327_1 : ((xs (Int32.toNatClampNeg y4)) &&& 63) = 1
      · have h := h.1 c327_1
        refine sw_in c327_1 ?_
        refine lv_tableIn (tgt := 261) hx hb dL_law_39 (by decide) (by decide) rfl (by decide) ?_
        exact law_L261 C0 (by omega) (by omega) _ (fun y4 T H locs ls => ih (cn + 1) (sn + 6) (by omega) (by omega) y4 T H locs ls) y4 T _ _ _ hP hD hS (lv_sub hl [0, 1, 2, 3, 4] rfl) h
      have h := h.2
      by_cases c327_2 : ((xs (Int32.toNatClampNeg y4)) &&& 63) = 2
      · have h := h.1 c327_2
        refine sw_in c327_2 ?_
        refine lv_tableIn (tgt := 286) hx hb dL_law_39 (by decide) (by decide) rfl (by decide) ?_
        exact law_L286 C0 (by omega) (by omega) _ (fun y4 T H locs ls => ih (cn + 1) (sn + 6) (by omega) (by omega) y4 T H locs ls) y4 T _ _ _ hP hD hS (lv_sub hl [0, 1, 2, 3, 4] rfl) h
      have h := h.2
      by_cases c327_3 : ((xs (Int32.toNatClampNeg y4)) &&& 63) = 3
      · have h := h.1 c327_3
        refine sw_in c327_3 ?_
        refine lv_tableIn (tgt := 323) hx hb dL_law_39 (by decide) (by decide) rfl (by decide) ?_
        exact law_L323 C0 (by omega) (by omega) _ (fun y4 T H locs ls => ih (cn + 1) (sn + 6) (by omega) (by omega) y4 T H locs ls) y4 T _ _ _ hP hD hS (lv_sub hl [0, 1, 2, 3, 4] rfl) h
      have h := h.2
      by_cases c327_4 : ((xs (Int32.toNatClampNeg y4)) &&& 63) = 4
      · have h := h.1 c327_4
        refine sw_in c327_4 ?_
        refine lv_tableIn (tgt := 376) hx hb dL_law_39 (by decide) (by decide) rfl (by decide) ?_
        exact law_L376 C0 (by omega) (by omega) _ (fun y4 T H locs ls => ih (cn + 1) (sn + 6) (by omega) (by omega) y4 T H locs ls) y4 T _ _ _ hP hD hS (lv_sub hl [0, 1, 2, 3, 4] rfl) h
      have h := h.2
      by_cases c327_5 : ((xs (Int32.toNatClampNeg y4)) &&& 63) = 5
      · have h := h.1 c327_5
        refine sw_in c327_5 ?_
        refine lv_tableIn (tgt := 413) hx hb dL_law_39 (by decide) (by decide) rfl (by decide) ?_
        exact law_L413 C0 (by omega) (by omega) _ (fun y4 T H locs ls => ih (cn + 1) (sn + 6) (by omega) (by omega) y4 T H locs ls) y4 T _ _ _ hP hD hS (lv_sub hl [0, 1, 2, 3, 4] rfl) h
      have h := h.2
      by_cases c327_6 : ((xs (Int32.toNatClampNeg y4)) &&& 63) = 6
      · have h := h.1 c327_6
        refine sw_in c327_6 ?_
        refine lv_tableIn (tgt := 438) hx hb dL_law_39 (by decide) (by decide) rfl (by decide) ?_
        exact law_L438 C0 (by omega) (by omega) _ (fun y4 T H locs ls => ih (cn + 1) (sn + 6) (by omega) (by omega) y4 T H locs ls) y4 T _ _ _ hP hD hS (lv_sub hl [0, 1, 2, 3, 4] rfl) h
      have h := h.2
      by_cases c327_7 : ((xs (Int32.toNatClampNeg y4)) &&& 63) = 7
      · have h := h.1 c327_7
        refine sw_in c327_7 ?_
        refine lv_tableIn (tgt := 491) hx hb dL_law_39 (by decide) (by decide) rfl (by decide) ?_
        exact law_L491 C0 (by omega) (by omega) _ (fun y4 T H locs ls => ih (cn + 1) (sn + 6) (by omega) (by omega) y4 T H locs ls) y4 T _ _ _ hP hD hS (lv_sub hl [0, 1, 2, 3, 4] rfl) h
      have h := h.2
      by_cases c327_8 : ((xs (Int32.toNatClampNeg y4)) &&& 63) = 8
      · have h := h.1 c327_8
        refine sw_in c327_8 ?_
        refine lv_tableIn (tgt := 516) hx hb dL_law_39 (by decide) (by decide) rfl (by decide) ?_
        exact law_L516 C0 (by omega) (by omega) _ (fun y4 T H locs ls => ih (cn + 1) (sn + 6) (by omega) (by omega) y4 T H locs ls) y4 T _ _ _ hP hD hS (lv_sub hl [0, 1, 2, 3, 4] rfl) h
      have h := h.2
      by_cases c327_9 : ((xs (Int32.toNatClampNeg y4)) &&& 63) = 9
      · have h := h.1 c327_9
        refine sw_in c327_9 ?_
        refine lv_tableIn (tgt := 541) hx hb dL_law_39 (by decide) (by decide) rfl (by decide) ?_
        exact law_L541 C0 (by omega) (by omega) _ (fun y4 T H locs ls => ih (cn + 1) (sn + 6) (by omega) (by omega) y4 T H locs ls) y4 T _ _ _ hP hD hS (lv_sub hl [0, 1, 2, 3, 4] rfl) h
      have h := h.2
      by_cases c327_10 : ((xs (Int32.toNatClampNeg y4)) &&& 63) = 10
      · have h := h.1 c327_10
        refine sw_in c327_10 ?_
        refine lv_tableIn (tgt := 566) hx hb dL_law_39 (by decide) (by decide) rfl (by decide) ?_
        exact law_L566 C0 (by omega) (by omega) _ (fun y4 T H locs ls => ih (cn + 1) (sn + 6) (by omega) (by omega) y4 T H locs ls) y4 T _ _ _ hP hD hS (lv_sub hl [0, 1, 2, 3, 4] rfl) h
      have h := h.2
      by_cases c327_11 : ((xs (Int32.toNatClampNeg y4)) &&& 63) = 11
      · have h := h.1 c327_11
        refine sw_in c327_11 ?_
        refine lv_tableIn (tgt := 603) hx hb dL_law_39 (by decide) (by decide) rfl (by decide) ?_
        exact law_L603 C0 (by omega) (by omega) _ (fun y4 T H locs ls => ih (cn + 1) (sn + 6) (by omega) (by omega) y4 T H locs ls) y4 T _ _ _ hP hD hS (lv_sub hl [0, 1, 2, 3, 4] rfl) h
      have h := h.2
      by_cases c327_12 : ((xs (Int32.toNatClampNeg y4)) &&& 63) = 12
      · have h := h.1 c327_12
        refine sw_in c327_12 ?_
        refine lv_tableIn (tgt := 628) hx hb dL_law_39 (by decide) (by decide) rfl (by decide) ?_
        exact law_L628 C0 (by omega) (by omega) _ (fun y4 T H locs ls => ih (cn + 1) (sn + 6) (by omega) (by omega) y4 T H locs ls) y4 T _ _ _ hP hD hS (lv_sub hl [0, 1, 2, 3, 4] rfl) h
      have h := h.2
      by_cases c327_13 : ((xs (Int32.toNatClampNeg y4)) &&& 63) = 13
      · have h := h.1 c327_13
        refine sw_in c327_13 ?_
        refine lv_tableIn (tgt := 653) hx hb dL_law_39 (by decide) (by decide) rfl (by decide) ?_
        exact law_L653 C0 (by omega) (by omega) _ (fun y4 T H locs ls => ih (cn + 1) (sn + 6) (by omega) (by omega) y4 T H locs ls) y4 T _ _ _ hP hD hS (lv_sub hl [0, 1, 2, 3, 4] rfl) h
      have h := h.2
      by_cases c327_14 : ((xs (Int32.toNatClampNeg y4)) &&& 63) = 14
      · have h := h.1 c327_14
        refine sw_in c327_14 ?_
        refine lv_tableIn (tgt := 666) hx hb dL_law_39 (by decide) (by decide) rfl (by decide) ?_
        exact law_L666 C0 (by omega) (by omega) _ (fun y4 T H locs ls => ih (cn + 1) (sn + 6) (by omega) (by omega) y4 T H locs ls) y4 T _ _ _ hP hD hS (lv_sub hl [0, 1, 2, 3, 4] rfl) h
      have h := h.2
      by_cases c327_15 : ((xs (Int32.toNatClampNeg y4)) &&& 63) = 15
      · have h := h.1 c327_15
        refine sw_in c327_15 ?_
        refine lv_tableIn (tgt := 722) hx hb dL_law_39 (by decide) (by decide) rfl (by decide) ?_
        exact law_L722 C0 (by omega) (by omega) _ (fun y4 T H locs ls => ih (cn + 1) (sn + 6) (by omega) (by omega) y4 T H locs ls) y4 T _ _ _ hP hD hS (lv_sub hl [0, 1, 2, 3, 4] rfl) h
      have h := h.2
      by_cases c327_16 : ((xs (Int32.toNatClampNeg y4)) &&& 63) = 16
      · have h := h.1 c327_16
        refine sw_in c327_16 ?_
        refine lv_tableIn (tgt := 778) hx hb dL_law_39 (by decide) (by decide) rfl (by decide) ?_
        exact law_L778 C0 (by omega) (by omega) _ (fun y4 T H locs ls => ih (cn + 1) (sn + 6) (by omega) (by omega) y4 T H locs ls) y4 T _ _ _ hP hD hS (lv_sub hl [0, 1, 2, 3, 4] rfl) h
      have h := h.2
      by_cases c327_17 : ((xs (Int32.toNatClampNeg y4)) &&& 63) = 17
      · have h := h.1 c327_17
        refine sw_in c327_17 ?_
        refine lv_tableIn (tgt := 834) hx hb dL_law_39 (by decide) (by decide) rfl (by decide) ?_
        exact law_L834 C0 (by omega) (by omega) _ (fun y4 T H locs ls => ih (cn + 1) (sn + 6) (by omega) (by omega) y4 T H locs ls) y4 T _ _ _ hP hD hS (lv_sub hl [0, 1, 2, 3, 4] rfl) h
      have h := h.2
      by_cases c327_18 : ((xs (Int32.toNatClampNeg y4)) &&& 63) = 18
      · have h := h.1 c327_18
        refine sw_in c327_18 ?_
        refine lv_tableIn (tgt := 890) hx hb dL_law_39 (by decide) (by decide) rfl (by decide) ?_
        exact law_L890 C0 (by omega) (by omega) _ (fun y4 T H locs ls => ih (cn + 1) (sn + 6) (by omega) (by omega) y4 T H locs ls) y4 T _ _ _ hP hD hS (lv_sub hl [0, 1, 2, 3, 4] rfl) h
      have h := h.2
      by_cases c327_19 : ((xs (Int32.toNatClampNeg y4)) &&& 63) = 19
      · have h := h.1 c327_19
        refine sw_in c327_19 ?_
        refine lv_tableIn (tgt := 927) hx hb dL_law_39 (by decide) (by decide) rfl (by decide) ?_
        exact law_L927 C0 (by omega) (by omega) _ (fun y4 T H locs ls => ih (cn + 1) (sn + 6) (by omega) (by omega) y4 T H locs ls) y4 T _ _ _ hP hD hS (lv_sub hl [0, 1, 2, 3, 4] rfl) h
      have h := h.2
      by_cases c327_20 : ((xs (Int32.toNatClampNeg y4)) &&& 63) = 20
      · have h := h.1 c327_20
        refine sw_in c327_20 ?_
        refine lv_tableIn (tgt := 952) hx hb dL_law_39 (by decide) (by decide) rfl (by decide) ?_
        exact law_L952 C0 (by omega) (by omega) _ (fun y4 T H locs ls => ih (cn + 1) (sn + 6) (by omega) (by omega) y4 T H locs ls) y4 T _ _ _ hP hD hS (lv_sub hl [0, 1, 2, 3, 4] rfl) h
      have h := h.2
      by_cases c327_21 : ((xs (Int32.toNatClampNeg y4)) &&& 63) = 21
      · have h := h.1 c327_21
        refine sw_in c327_21 ?_
        refine lv_tableIn (tgt := 977) hx hb dL_law_39 (by decide) (by decide) rfl (by decide) ?_
        exact law_L977 C0 (by omega) (by omega) _ (fun y4 T H locs ls => ih (cn + 1) (sn + 6) (by omega) (by omega) y4 T H locs ls) y4 T _ _ _ hP hD hS (lv_sub hl [0, 1, 2, 3, 4] rfl) h
      have h := h.2
      by_cases c327_22 : ((xs (Int32.toNatClampNeg y4)) &&& 63) = 22
      · have h := h.1 c327_22
        refine sw_in c327_22 ?_
        refine lv_tableIn (tgt := 1002) hx hb dL_law_39 (by decide) (by decide) rfl (by decide) ?_
        exact law_L1002 C0 (by omega) (by omega) _ (fun y4 T H locs ls => ih (cn + 1) (sn + 6) (by omega) (by omega) y4 T H locs ls) y4 T _ _ _ hP hD hS (lv_sub hl [0, 1, 2, 3, 4] rfl) h
      have h := h.2
      by_cases c327_23 : ((xs (Int32.toNatClampNeg y4)) &&& 63) = 23
      · have h := h.1 c327_23
        refine sw_in c327_23 ?_
        refine lv_tableIn (tgt := 1070) hx hb dL_law_39 (by decide) (by decide) rfl (by decide) ?_
        exact law_L1070 C0 (by omega) (by omega) _ (fun y4 T H locs ls => ih (cn + 1) (sn + 6) (by omega) (by omega) y4 T H locs ls) y4 T _ _ _ hP hD hS (lv_sub hl [0, 1, 2, 3, 4] rfl) h
      have h := h.2
      by_cases c327_24 : ((xs (Int32.toNatClampNeg y4)) &&& 63) = 24
      · have h := h.1 c327_24
        refine sw_in c327_24 ?_
        refine lv_tableIn (tgt := 1095) hx hb dL_law_39 (by decide) (by decide) rfl (by decide) ?_
        exact law_L1095 C0 (by omega) (by omega) _ (fun y4 T H locs ls => ih (cn + 1) (sn + 6) (by omega) (by omega) y4 T H locs ls) y4 T _ _ _ hP hD hS (lv_sub hl [0, 1, 2, 3, 4] rfl) h
      have h := h.2
      by_cases c327_25 : ((xs (Int32.toNatClampNeg y4)) &&& 63) = 25
      · have h := h.1 c327_25
        refine sw_in c327_25 ?_
        refine lv_tableIn (tgt := 1132) hx hb dL_law_39 (by decide) (by decide) rfl (by decide) ?_
        exact law_L1132 C0 (by omega) (by omega) _ (fun y4 T H locs ls => ih (cn + 1) (sn + 6) (by omega) (by omega) y4 T H locs ls) y4 T _ _ _ hP hD hS (lv_sub hl [0, 1, 2, 3, 4] rfl) h
      have h := h.2
      by_cases c327_26 : ((xs (Int32.toNatClampNeg y4)) &&& 63) = 26
      · have h := h.1 c327_26
        refine sw_in c327_26 ?_
        refine lv_tableIn (tgt := 1157) hx hb dL_law_39 (by decide) (by decide) rfl (by decide) ?_
        exact law_L1157 C0 (by omega) (by omega) _ (fun y4 T H locs ls => ih (cn + 1) (sn + 6) (by omega) (by omega) y4 T H locs ls) y4 T _ _ _ hP hD hS (lv_sub hl [0, 1, 2, 3, 4] rfl) h
      have h := h.2
      by_cases c327_27 : ((xs (Int32.toNatClampNeg y4)) &&& 63) = 27
      · have h := h.1 c327_27
        refine sw_in c327_27 ?_
        refine lv_tableIn (tgt := 1182) hx hb dL_law_39 (by decide) (by decide) rfl (by decide) ?_
        exact law_L1182 C0 (by omega) (by omega) _ (fun y4 T H locs ls => ih (cn + 1) (sn + 6) (by omega) (by omega) y4 T H locs ls) y4 T _ _ _ hP hD hS (lv_sub hl [0, 1, 2, 3, 4] rfl) h
      have h := h.2
      by_cases c327_28 : ((xs (Int32.toNatClampNeg y4)) &&& 63) = 28
      · have h := h.1 c327_28
        refine sw_in c327_28 ?_
        refine lv_tableIn (tgt := 1207) hx hb dL_law_39 (by decide) (by decide) rfl (by decide) ?_
        exact law_L1207 C0 (by omega) (by omega) _ (fun y4 T H locs ls => ih (cn + 1) (sn + 6) (by omega) (by omega) y4 T H locs ls) y4 T _ _ _ hP hD hS (lv_sub hl [0, 1, 2, 3, 4] rfl) h
      have h := h.2
      by_cases c327_29 : ((xs (Int32.toNatClampNeg y4)) &&& 63) = 29
      · have h := h.1 c327_29
        refine sw_in c327_29 ?_
        refine lv_tableIn (tgt := 1260) hx hb dL_law_39 (by decide) (by decide) rfl (by decide) ?_
        exact law_L1260 C0 (by omega) (by omega) _ (fun y4 T H locs ls => ih (cn + 1) (sn + 6) (by omega) (by omega) y4 T H locs ls) y4 T _ _ _ hP hD hS (lv_sub hl [0, 1, 2, 3, 4] rfl) h
      have h := h.2
      by_cases c327_30 : ((xs (Int32.toNatClampNeg y4)) &&& 63) = 30
      · have h := h.1 c327_30
        refine sw_in c327_30 ?_
        refine lv_tableIn (tgt := 1301) hx hb dL_law_39 (by decide) (by decide) rfl (by decide) ?_
        exact law_L1301 C0 (by omega) (by omega) _ (fun y4 T H locs ls => ih (cn + 1) (sn + 6) (by omega) (by omega) y4 T H locs ls) y4 T _ _ _ hP hD hS (lv_sub hl [0, 1, 2, 3, 4] rfl) h
      have h := h.2
      by_cases c327_31 : ((xs (Int32.toNatClampNeg y4)) &&& 63) = 31
      · have h := h.1 c327_31
        refine sw_in c327_31 ?_
        refine lv_tableIn (tgt := 1326) hx hb dL_law_39 (by decide) (by decide) rfl (by decide) ?_
        exact law_L1326 C0 (by omega) (by omega) _ (fun y4 T H locs ls => ih (cn + 1) (sn + 6) (by omega) (by omega) y4 T H locs ls) y4 T _ _ _ hP hD hS (lv_sub hl [0, 1, 2, 3, 4] rfl) h
      have h := h.2
      by_cases c327_32 : ((xs (Int32.toNatClampNeg y4)) &&& 63) = 32
      · have h := h.1 c327_32
        refine sw_in c327_32 ?_
        refine lv_tableIn (tgt := 1339) hx hb dL_law_39 (by decide) (by decide) rfl (by decide) ?_
        exact law_L1339 C0 (by omega) (by omega) _ (fun y4 T H locs ls => ih (cn + 1) (sn + 6) (by omega) (by omega) y4 T H locs ls) y4 T _ _ _ hP hD hS (lv_sub hl [0, 1, 2, 3, 4] rfl) h
      have h := h.2
      by_cases c327_33 : ((xs (Int32.toNatClampNeg y4)) &&& 63) = 33
      · have h := h.1 c327_33
        refine sw_in c327_33 ?_
        refine lv_tableIn (tgt := 1364) hx hb dL_law_39 (by decide) (by decide) rfl (by decide) ?_
        exact law_L1364 C0 (by omega) (by omega) _ (fun y4 T H locs ls => ih (cn + 1) (sn + 6) (by omega) (by omega) y4 T H locs ls) y4 T _ _ _ hP hD hS (lv_sub hl [0, 1, 2, 3, 4] rfl) h
      have h := h.2
      by_cases c327_34 : ((xs (Int32.toNatClampNeg y4)) &&& 63) = 34
      · have h := h.1 c327_34
        refine sw_in c327_34 ?_
        refine lv_tableIn (tgt := 1389) hx hb dL_law_39 (by decide) (by decide) rfl (by decide) ?_
        exact law_L1389 C0 (by omega) (by omega) _ (fun y4 T H locs ls => ih (cn + 1) (sn + 6) (by omega) (by omega) y4 T H locs ls) y4 T _ _ _ hP hD hS (lv_sub hl [0, 1, 2, 3, 4] rfl) h
      have h := h.2
      have h := h c327_0 c327_1 c327_2 c327_3 c327_4 c327_5 c327_6 c327_7 c327_8 c327_9 c327_10 c327_11 c327_12 c327_13 c327_14 c327_15 c327_16 c327_17 c327_18 c327_19 c327_20 c327_21 c327_22 c327_23 c327_24 c327_25 c327_26 c327_27 c327_28 c327_29 c327_30 c327_31 c327_32 c327_33 c327_34
      refine lv_tableOut (tgt := 1430) hx hb dL_law_39 (sw_out (lo := 0) (n := 35) (by decide) (by decide) (fun k hk => ?_)) (by decide) ?_
      · rcases (show k = 0 ∨ k = 1 ∨ k = 2 ∨ k = 3 ∨ k = 4 ∨ k = 5 ∨ k = 6 ∨ k = 7 ∨ k = 8 ∨ k = 9 ∨ k = 10 ∨ k = 11 ∨ k = 12 ∨ k = 13 ∨ k = 14 ∨ k = 15 ∨ k = 16 ∨ k = 17 ∨ k = 18 ∨ k = 19 ∨ k = 20 ∨ k = 21 ∨ k = 22 ∨ k = 23 ∨ k = 24 ∨ k = 25 ∨ k = 26 ∨ k = 27 ∨ k = 28 ∨ k = 29 ∨ k = 30 ∨ k = 31 ∨ k = 32 ∨ k = 33 ∨ k = 34 by omega) with rfl | rfl | rfl | rfl | rfl | rfl | rfl | rfl | rfl | rfl | rfl | rfl | rfl | rfl | rfl | rfl | rfl | rfl | rfl | rfl | rfl | rfl | rfl | rfl | rfl | rfl | rfl | rfl | rfl | rfl | rfl | rfl | rfl | rfl | rfl
        · exact c327_0
        · exact c327_1
        · exact c327_2
        · exact c327_3
        · exact c327_4
        · exact c327_5
        · exact c327_6
        · exact c327_7
        · exact c327_8
        · exact c327_9
        · exact c327_10
        · exact c327_11
        · exact c327_12
        · exact c327_13
        · exact c327_14
        · exact c327_15
        · exact c327_16
        · exact c327_17
        · exact c327_18
        · exact c327_19
        · exact c327_20
        · exact c327_21
        · exact c327_22
        · exact c327_23
        · exact c327_24
        · exact c327_25
        · exact c327_26
        · exact c327_27
        · exact c327_28
        · exact c327_29
        · exact c327_30
        · exact c327_31
        · exact c327_32
        · exact c327_33
        · exact c327_34
      refine W.widen (k := cn + 1) (n := sn + 6) (by omega) (by omega) ?_
      obtain ⟨x328, ex328⟩ : ∃ y : Int32, y = (y4 + 4) := ⟨_, rfl⟩
      have h := h x328 ex328
      refine lv_iinc (v := x328) (lv' := [(4, .int x328), (0, .ref sb), (1, .ref (a 0)), (2, .ref (b 0)), (3, .ref o)]) hx hb dL_law_1430 hl (k := 4) rfl (by rw [ex328]; rfl) (by decide) rfl (fun ls hl => ?_)
      refine lv_goto (tgt := 23) hx hb dL_law_1433 (by decide) ?_
      exact ih (cn + 1) (sn + 6) (by omega) (by omega) x328 T _ _ _ hP hD hS (lv_sub hl [1, 2, 3, 4, 0] rfl) h
