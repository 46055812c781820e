/-! THE START -/
section NWJ
variable {p : Program} {l : Launch} {e : Env} {R : Room} {s : State} {m : MethodId} {args : Array Value} {below : List Frame} {meth : Method} {c : Code} {H : Heap} {locs : List Loc} {cells slots : Nat} {Q : State → Prop}
variable {cc : ByteArray} {pc : Nat} {ls : Array Slot} {rest : List Value} {D : va_G} {cI cZ cJ : ClassId} {A : Nat → Prop} {H0 : Heap} {ws : va_W}
theorem nw_j {N : Nat} (hexec : p.tables.exec = Jvm.exec) (hb : c.code = cc) (harr : (Cond.arrayClass .long).before args s = true) (hK : va_K D vwCl (tyJ cI cZ cJ) s) (hP : va_P D vwCl ws H) (hD : va_D A ws) (hS : va_S A H0 H locs) (hA : ∀ q, H0.size ≤ q → A q) {n : Int32} (hn : ¬ n < 0) (hN : n.toNatClampNeg = N) (hbytes : N * componentBytes .long ≤ 536870912) (hcells : cells + 1 ≤ R.cells) (hslots : slots + N ≤ R.slots) (hdg : decode cc pc = .ok (.newarray .long, 2))
    (kk : ∀ (q : Nat) (H1 : Heap), va_P D vwCl (ws ++ [(q, .inl (cJ, N, .inr (.inl (fun _ => 0))))]) H1 → va_D A (ws ++ [(q, .inl (cJ, N, .inr (.inl (fun _ => 0))))]) → va_S A H0 H1 locs → W p l e R s m args below meth c H1 locs (cells + 1) (slots + N) Q (F0 m (pc + 2) ls (.ref q :: rest))) : W p l e R s m args below meth c H locs cells slots Q (F0 m pc ls (.int n :: rest)) := by
  refine va_newa (atype := .long) hexec hb harr rfl hK hP hD hS hA (a0 := (N, .inr (.inl (fun _ => 0)))) (fun cA => rfl) hn hN hbytes hcells hslots hdg (fun q cA H1 hK1 hP1 hD1 hS1 => ?_)
  have e : cA = cJ := by
    have h1 : s.vm.findClass ("[" ++ FieldType.long.toString) = some cA := (hK1.2 3 (cA, .long) rfl).2
    have h2 : s.vm.findClass ("[" ++ FieldType.long.toString) = some cJ := (hK.2 2 (cJ, .long) rfl).2
    exact Option.some.inj (h1.symm.trans h2)
  subst e
  exact kk q H1 hP1 hD1 hS1
end NWJ
theorem st_of {args : Array Value} {s : State} {A : Nat → Prop} {C n : String} {tab : Nat → Int32} (hl : (Cond.laysStatic C n "[I").before args s = true) (hini : (Cond.initialized C).before args s = true) (harr : (Cond.arrayOf (.static C n "[I") .int).before args s = true) (hlen : (Cond.eq (.length (.static C n "[I")) (.int 30)).before args s = true) (hel : ∀ j : Nat, j < 30 → (Cond.eq (.elem (.static C n "[I") (.int (Int32.ofNat j))) (.int (tab j))).before args s = true) (hA : ∀ a : Nat, a < s.heap.size → ¬ A a) : stO C n tab A s s.heap := by
  obtain ⟨t, ht, hT⟩ := va_Tof (N := 30) (f := fun j => .int (tab j)) (by decide) harr (va_eqt hlen) (fun j hj => va_eqt (hel j hj)) hA
  exact ⟨t, va_Zof hl hini ht hA, hT⟩
theorem fm_LENGTHS : ∀ j : Nat, j < 30 → Cond.eq (.elem (.static "RankEntry" "LENGTHS" "[I") (.int (Int32.ofNat j))) (.int (tabL j)) ∈ flatC (Jvm.Cond.and given_1 narrow_1) := by decide +kernel
theorem fa_LENGTHS : Cond.arrayOf (.static "RankEntry" "LENGTHS" "[I") .int ∈ flatC (Jvm.Cond.and given_1 narrow_1) := by decide +kernel
theorem fl_LENGTHS : Cond.eq (.length (.static "RankEntry" "LENGTHS" "[I")) (.int 30) ∈ flatC (Jvm.Cond.and given_1 narrow_1) := by decide +kernel
theorem fm_CYCLES : ∀ j : Nat, j < 30 → Cond.eq (.elem (.static "RankEntry" "CYCLES" "[I") (.int (Int32.ofNat j))) (.int (tabC j)) ∈ flatC (Jvm.Cond.and given_1 narrow_1) := by decide +kernel
theorem fa_CYCLES : Cond.arrayOf (.static "RankEntry" "CYCLES" "[I") .int ∈ flatC (Jvm.Cond.and given_1 narrow_1) := by decide +kernel
theorem fl_CYCLES : Cond.eq (.length (.static "RankEntry" "CYCLES" "[I")) (.int 30) ∈ flatC (Jvm.Cond.and given_1 narrow_1) := by decide +kernel
theorem fm_LONG : ∀ j : Nat, j < 30 → Cond.eq (.elem (.static "RankEntryModel" "LONG" "[I") (.int (Int32.ofNat j))) (.int (tabL j)) ∈ flatC (Jvm.Cond.and given_1 narrow_1) := by decide +kernel
theorem fa_LONG : Cond.arrayOf (.static "RankEntryModel" "LONG" "[I") .int ∈ flatC (Jvm.Cond.and given_1 narrow_1) := by decide +kernel
theorem fl_LONG : Cond.eq (.length (.static "RankEntryModel" "LONG" "[I")) (.int 30) ∈ flatC (Jvm.Cond.and given_1 narrow_1) := by decide +kernel
theorem fm_TAKES : ∀ j : Nat, j < 30 → Cond.eq (.elem (.static "RankEntryModel" "TAKES" "[I") (.int (Int32.ofNat j))) (.int (tabC j)) ∈ flatC (Jvm.Cond.and given_1 narrow_1) := by decide +kernel
theorem fa_TAKES : Cond.arrayOf (.static "RankEntryModel" "TAKES" "[I") .int ∈ flatC (Jvm.Cond.and given_1 narrow_1) := by decide +kernel
theorem fl_TAKES : Cond.eq (.length (.static "RankEntryModel" "TAKES" "[I")) (.int 30) ∈ flatC (Jvm.Cond.and given_1 narrow_1) := by decide +kernel
theorem fr_U : Cond.isRef (.static Bundle.tN "UNASSIGNED_STACK" Bundle.steD) ∈ flatC (Jvm.Cond.and given_1 narrow_1) := by decide +kernel
theorem fr_N : Cond.isRef (.static Bundle.tN "SUPPRESSED_SENTINEL" Bundle.listD) ∈ flatC (Jvm.Cond.and given_1 narrow_1) := by decide +kernel
theorem law_st {args : Array Value} {s : State} (hts : ∀ w ∈ lw_tbl, w.before args s = true) (hgv : (Jvm.Cond.and given_1 narrow_1).before args s = true) : stF (fun q : Nat => s.heap.size ≤ q) s s.heap := by
  have hs := flat_of_before _ hgv
  have hA : ∀ a : Nat, a < s.heap.size → ¬ (fun q : Nat => s.heap.size ≤ q) a := fun a h => Nat.not_le.mpr h
  refine ⟨⟨st_of (hts (.laysStatic "RankEntry" "LENGTHS" "[I") (List.mem_of_getElem? (i := 622) (by decide +kernel))) (hts (.initialized "RankEntry") (List.mem_of_getElem? (i := 67) (by decide +kernel))) (hs _ fa_LENGTHS) (hs _ fl_LENGTHS) (fun j hj => hs _ (fm_LENGTHS j hj)) hA, st_of (hts (.laysStatic "RankEntry" "CYCLES" "[I") (List.mem_of_getElem? (i := 620) (by decide +kernel))) (hts (.initialized "RankEntry") (List.mem_of_getElem? (i := 67) (by decide +kernel))) (hs _ fa_CYCLES) (hs _ fl_CYCLES) (fun j hj => hs _ (fm_CYCLES j hj)) hA, st_of (hts (.laysStatic "RankEntryModel" "LONG" "[I") (List.mem_of_getElem? (i := 1329) (by decide +kernel))) (hts (.initialized "RankEntryModel") (List.mem_of_getElem? (i := 75) (by decide +kernel))) (hs _ fa_LONG) (hs _ fl_LONG) (fun j hj => hs _ (fm_LONG j hj)) hA, st_of (hts (.laysStatic "RankEntryModel" "TAKES" "[I") (List.mem_of_getElem? (i := 1327) (by decide +kernel))) (hts (.initialized "RankEntryModel") (List.mem_of_getElem? (i := 75) (by decide +kernel))) (hs _ fa_TAKES) (hs _ fl_TAKES) (fun j hj => hs _ (fm_TAKES j hj)) hA⟩, ⟨?_, ?_, ?_, ?_⟩, ?_, ?_, ?_⟩
  · exact va_Nw.of rfl (hts (.fieldLinkNest RX3 258 "RankEntry" "CYCLES" "[I" "RankEntry") (List.mem_of_getElem? (i := 619) (by decide +kernel)))
  · exact va_Nw.of rfl (hts (.fieldLinkNest RX3 261 "RankEntry" "LENGTHS" "[I" "RankEntry") (List.mem_of_getElem? (i := 621) (by decide +kernel)))
  · exact va_Nw.of rfl (hts (.fieldLinkNest RX6 63 "RankEntry" "LENGTHS" "[I" "RankEntry") (List.mem_of_getElem? (i := 910) (by decide +kernel)))
  · exact va_Nw.of rfl (hts (.fieldLinkNest RX6 72 "RankEntry" "CYCLES" "[I" "RankEntry") (List.mem_of_getElem? (i := 924) (by decide +kernel)))
  · exact va_Nw.of rfl (hts (.methodLinkNest RX1 124 yX7_isPlace "RankEntry") (List.mem_of_getElem? (i := 727) (by decide +kernel)))
  · exact va_Nw.of rfl (hts (.methodLinkNest RX3 20 yX0_init "RankEntry") (List.mem_of_getElem? (i := 184) (by decide +kernel)))
  · exact va_Nw.of rfl (hts (.methodLinkNest RX3 27 yX2_init "RankEntry") (List.mem_of_getElem? (i := 209) (by decide +kernel)))
theorem law_xf {args : Array Value} {s : State} (hts : ∀ w ∈ lw_tbl, w.before args s = true) (hgv : (Jvm.Cond.and given_1 narrow_1).before args s = true) : xF (fun q : Nat => s.heap.size ≤ q) s s.heap := by
  have hs := flat_of_before _ hgv
  have hA : ∀ a : Nat, a < s.heap.size → ¬ (fun q : Nat => s.heap.size ≤ q) a := fun a h => Nat.not_le.mpr h
  have hi : (Cond.initialized Bundle.tN).before args s = true := (hts (.initialized Bundle.tN) (List.mem_of_getElem? (i := 79) (by decide +kernel)))
  refine ⟨⟨vx_Zqof (hts (.laysStatic Bundle.tN "UNASSIGNED_STACK" Bundle.steD) (List.mem_of_getElem? (i := 984) (by decide +kernel))) hi (hs _ fr_U) hA, vx_Zqof (hts (.laysStatic Bundle.tN "SUPPRESSED_SENTINEL" Bundle.listD) (List.mem_of_getElem? (i := 986) (by decide +kernel))) hi (hs _ fr_N) hA⟩, ⟨?_, ?_⟩, ?_, ?_, ?_⟩
  · exact va_Nw.of rfl (hts (.castable "java/util/NoSuchElementException" "java/util/NoSuchElementException") (List.mem_of_getElem? (i := 959) (by decide +kernel)))
  · exact va_Nw.of rfl (hts (.castable "java/lang/IndexOutOfBoundsException" "java/lang/IndexOutOfBoundsException") (List.mem_of_getElem? (i := 1029) (by decide +kernel)))
  · exact va_Nw.of rfl (hts (.declares ⟨"java/lang/RuntimeException", "<init>", "()V"⟩) (List.mem_of_getElem? (i := 960) (by decide +kernel)))
  · exact va_Nw.of rfl (hts (.declares ⟨"java/lang/Exception", "<init>", "()V"⟩) (List.mem_of_getElem? (i := 962) (by decide +kernel)))
  · exact va_Nw.of rfl (hts (.declares ⟨"java/lang/Throwable", "<init>", "()V"⟩) (List.mem_of_getElem? (i := 964) (by decide +kernel)))
theorem arr_of {args : Array Value} {s : State} {ty : FieldType} (h : (Cond.arrayClass ty).before args s = true) : ∃ cA : ClassId, ArrOfT s cA ty ∧ s.vm.findClass ("[" ++ ty.toString) = some cA := by
  obtain ⟨cA, kA, comp, h1, h2, h3⟩ := Cond.arrayClass_spec (args := args) (first := s) (o := none) (s := s) (idx := []) h
  exact ⟨cA, fun n z => ⟨fun k h => (by cases h), kA, h2, comp, h3⟩, h1⟩
theorem law_K {args : Array Value} {s : State} (hts : ∀ w ∈ lw_all, w.before args s = true) : ∃ (D : va_G) (cI cZ cJ : ClassId), va_K D vwCl (tyJ cI cZ cJ) s := by
  obtain ⟨c0, iS0, hKn0⟩ := u_known (C := RX0) (T := TX0) (N := 5) (n := 5) hts inX0 (hts _ q_183)
  obtain ⟨c1, iS1, hKn1⟩ := u_known (C := RX1) (T := TX1) (N := 14) (n := 14) hts inX1 (hts _ q_278)
  obtain ⟨c2, iS2, hKn2⟩ := u_known (C := RX2) (T := TX2) (N := 14) (n := 14) hts inX2 (hts _ q_208)
  obtain ⟨c3, iS3, hKn3⟩ := u_known (C := RX3) (T := TX3) (N := 12) (n := 12) hts inX3 (hts _ q_93)
  obtain ⟨c4, iS4, hKn4⟩ := u_known (C := RX5) (T := TX5) (N := 16) (n := 16) hts inX5 (hts _ q_99)
  obtain ⟨c5, iS5, hKn5⟩ := u_known (C := RX6) (T := TX6) (N := 7) (n := 7) hts inX6 (hts _ q_394)
  obtain ⟨c6, iS6, hKn6⟩ := u_known (C := RX7) (T := TX7) (N := 4) (n := 4) hts inX7 (hts _ q_85)
  obtain ⟨c7, iS7, hKn7⟩ := u_known (C := RX8) (T := TX8) (N := 25) (n := 25) hts inX8 (hts _ q_1068)
  obtain ⟨cI, aI, fI⟩ := arr_of (hts _ q_180)
  obtain ⟨cZ, aZ, fZ⟩ := arr_of (hts _ q_181)
  obtain ⟨cJ, aJ, fJ⟩ := arr_of (hts _ q_1503)
  refine ⟨(fun k => if k = 0 then c0 else if k = 1 then c1 else if k = 2 then c2 else if k = 3 then c3 else if k = 4 then c4 else if k = 5 then c5 else if k = 6 then c6 else c7, fun k => if k = 0 then iS0 else if k = 1 then iS1 else if k = 2 then iS2 else if k = 3 then iS3 else if k = 4 then iS4 else if k = 5 then iS5 else if k = 6 then iS6 else iS7), cI, cZ, cJ, ?_, ?_⟩
  · intro k q hq
    match k, hq with
    | 0, hq => cases hq; exact hKn0
    | 1, hq => cases hq; exact hKn1
    | 2, hq => cases hq; exact hKn2
    | 3, hq => cases hq; exact hKn3
    | 4, hq => cases hq; exact hKn4
    | 5, hq => cases hq; exact hKn5
    | 6, hq => cases hq; exact hKn6
    | 7, hq => cases hq; exact hKn7
    | k + 8, hq => simp [vwCl] at hq
  · intro k q hq
    match k, hq with
    | 0, hq => cases hq; exact ⟨aI, fI⟩
    | 1, hq => cases hq; exact ⟨aZ, fZ⟩
    | 2, hq => cases hq; exact ⟨aJ, fJ⟩
    | k + 3, hq => simp at hq
set_option maxHeartbeats 4000000 in
set_option maxRecDepth 100000 in
theorem law_enter {p : Program} {l : Launch} {e : Env} {s : State} {m : MethodId} {below : List Frame} {meth : Method} {c : Code} {D : va_G} {cI cZ cJ : ClassId} {sb L : Nat} {xs : Nat → Int32} {A : Nat → Prop} (C0 : lawC p l s m meth c D cI cZ cJ sb L xs A) (h : wp_start L xs) : W p l e room_1 s m #[Value.ref sb] below meth c s.heap [] 0 0 (lw_Z below #[Value.ref sb] s) (entryFrame m ([Value.ref sb] : List Value).toArray 7) := by
  obtain ⟨hst, hx, hb, hr, hlocks, hml, hown, hts, hX, hbl, hbA, hA, hAf, hKJ, hF, hXF⟩ := id C0
  have hK : va_K D vwCl (tyL cI cZ) s := hKJ.sub [0, 1] rfl
  have hml2 := hml
  have hP : va_P D vwCl [] s.heap := fun k q h => by simp at h
  have hD : va_D A [] := ⟨fun i j p q h => by simp at h, fun k q h => by simp at h⟩
  have hS : va_S A s.heap s.heap [] := va_S.rf
  have hl := lv_entry ([.ref sb]) (n := 7) (Nat.le_of_ble_eq_true rfl)
  rw [lg_entry_eq]
  generalize (lg_sl ([.ref sb]) ++ List.replicate (7 - (lg_sl ([.ref sb])).length) Slot.unset).toArray = ls at hl ⊢
  have hl : lv_has ls 7 [(0, .ref sb)] := hl
  unfold wp_start at h
  refine va_new (ci := 6) (fs := [.null, .null, .null, .null]) (C := RX7) (T := TX7) (N := 4) hx hb hts inX7 tyX7 tyX7_ok hown (hts _ q_84) (hts _ q_85) (hts _ q_67) hK hP hD hS hA rfl (fun j hj => by rcases (show j = 0 ∨ j = 1 ∨ j = 2 ∨ j = 3 by omega) with rfl | rfl | rfl | rfl <;> rfl) (Nat.le_of_ble_eq_true rfl) (Nat.le_of_ble_eq_true rfl) dL_law_0 (fun q0 H hP hD hS => ?_)
  have hP : va_P D vwCl [(q0, .inr (6, [.null, .null, .null, .null]))] H := hP
  have hD : va_D A [(q0, .inr (6, [.null, .null, .null, .null]))] := hD
  refine W.widen (k := 1) (n := 4) (Nat.le_of_ble_eq_true rfl) (Nat.le_of_ble_eq_true rfl) ?_
  refine lv_dup hx hb dL_law_3 rfl ?_
  have hFc := va_free (wc := [(q0, .inr (6, [.null, .null, .null, .null]))]) hD hS hA [0] rfl
  refine va_callv (va_runI (As := []) (rest := [.ref q0]) ⟨hx, hb, hml, hown, hts⟩ (c_X7_init l D cI cZ q0 _ _ h) (cwI 0 hts (gW q_88) rfl rfl rfl (hts _ q_67) (hts _ q_86) (hts _ q_87) rfl (by decide +kernel) ⟨Nat.le_of_ble_eq_true rfl, Nat.le_of_ble_eq_true rfl⟩) (preTS_of hF hS hA hK hP hD [0] rfl rfl (by decide)) rfl rfl hl.1 rfl (lv_room (Nat.le_of_ble_eq_true rfl)) dL_law_4 ⟨Nat.le_of_ble_eq_true rfl, Nat.le_of_ble_eq_true rfl⟩) hS (fun q _ h => hFc q h) hFc (fun u t H1 locs ht hvm h hB hz1 hk1 hS => ?_)
  obtain ⟨a, S⟩ := u
  obtain ⟨e0, hP1, hK1, hD1⟩ := hB
  have e0 : a 0 = q0 := e0
  subst e0
  rw [ht] at hP1
  obtain ⟨hP, hD⟩ := va_join (wr := []) (w1 := (wX7 cI cZ a S)) hP hD [0] [] rfl rfl (by decide) (by decide) hk1 hFc hP1 hD1
  generalize H1 = H at hP hS ⊢
  have hP : va_P D vwCl (wX7 cI cZ a S) H := hP
  have hD : va_D A (wX7 cI cZ a S) := hD
  refine W.widen (k := 54) (n := 3830) (Nat.le_of_ble_eq_true rfl) (Nat.le_of_ble_eq_true rfl) ?_
  refine lv_astore_n (lv' := [(1, .ref (a 0)), (0, .ref sb)]) hx hb dL_law_7 rfl hl (by decide) rfl (fun ls hl => ?_)
  refine va_new (ci := 7) (fs := [.null, .null, .null, .int 0, .null, .null, .null, .null, .null, .null, .null, .int 0, .null, .null, .int 0, .int 0, .int 0, .int 0, .null, .null, .null, .null, .null, .int 0, .int 0]) (C := RX8) (T := TX8) (N := 25) hx hb hts inX8 tyX8 tyX8_ok hown (hts _ q_1067) (hts _ q_1068) (hts _ q_75) hK hP hD hS hA rfl (fun j hj => by rcases (show j = 0 ∨ j = 1 ∨ j = 2 ∨ j = 3 ∨ j = 4 ∨ j = 5 ∨ j = 6 ∨ j = 7 ∨ j = 8 ∨ j = 9 ∨ j = 10 ∨ j = 11 ∨ j = 12 ∨ j = 13 ∨ j = 14 ∨ j = 15 ∨ j = 16 ∨ j = 17 ∨ j = 18 ∨ j = 19 ∨ j = 20 ∨ j = 21 ∨ j = 22 ∨ j = 23 ∨ j = 24 by omega) with rfl | rfl | rfl | rfl | rfl | rfl | rfl | rfl | rfl | rfl | rfl | rfl | rfl | rfl | rfl | rfl | rfl | rfl | rfl | rfl | rfl | rfl | rfl | rfl | rfl <;> rfl) (Nat.le_of_ble_eq_true rfl) (Nat.le_of_ble_eq_true rfl) dL_law_8 (fun q8 H hP hD hS => ?_)
  have hP : va_P D vwCl ((wX7 cI cZ a S) ++ [(q8, .inr (7, [.null, .null, .null, .int 0, .null, .null, .null, .null, .null, .null, .null, .int 0, .null, .null, .int 0, .int 0, .int 0, .int 0, .null, .null, .null, .null, .null, .int 0, .int 0]))]) H := hP
  have hD : va_D A ((wX7 cI cZ a S) ++ [(q8, .inr (7, [.null, .null, .null, .int 0, .null, .null, .null, .null, .null, .null, .null, .int 0, .null, .null, .int 0, .int 0, .int 0, .int 0, .null, .null, .null, .null, .null, .int 0, .int 0]))]) := hD
  refine W.widen (k := 55) (n := 3855) (Nat.le_of_ble_eq_true rfl) (Nat.le_of_ble_eq_true rfl) ?_
  refine lv_dup hx hb dL_law_11 rfl ?_
  have hFc := va_free (wc := [(q8, .inr (7, [.null, .null, .null, .int 0, .null, .null, .null, .null, .null, .null, .null, .int 0, .null, .null, .int 0, .int 0, .int 0, .int 0, .null, .null, .null, .null, .null, .int 0, .int 0]))]) hD hS hA [54] rfl
  refine va_callv (va_runI (As := []) (rest := [.ref q8]) ⟨hx, hb, hml, hown, hts⟩ (c_X8_init l D cI cZ q8 _ _ h) (cwI 0 hts (gW q_1071) rfl rfl rfl (hts _ q_75) (hts _ q_1069) (hts _ q_1070) rfl (by decide +kernel) ⟨Nat.le_of_ble_eq_true rfl, Nat.le_of_ble_eq_true rfl⟩) (preS_of hK hP hD [54] rfl rfl (by decide)) rfl rfl hl.1 rfl (lv_room (Nat.le_of_ble_eq_true rfl)) dL_law_12 ⟨Nat.le_of_ble_eq_true rfl, Nat.le_of_ble_eq_true rfl⟩) hS (fun q _ h => hFc q h) hFc (fun u t H1 locs ht hvm h hB hz1 hk1 hS => ?_)
  obtain ⟨b, M⟩ := u
  obtain ⟨e0, hP1, hK1, hD1⟩ := hB
  have e0 : b 0 = q8 := e0
  subst e0
  rw [ht] at hP1
  obtain ⟨hP, hD⟩ := va_join (wr := (wX7 cI cZ a S)) (w1 := (wX8 cI cZ b M)) hP hD [54] [0, 1, 2, 3, 4, 5, 6, 7, 8, 9, 10, 11, 12, 13, 14, 15, 16, 17, 18, 19, 20, 21, 22, 23, 24, 25, 26, 27, 28, 29, 30, 31, 32, 33, 34, 35, 36, 37, 38, 39, 40, 41, 42, 43, 44, 45, 46, 47, 48, 49, 50, 51, 52, 53] rfl rfl (by decide) (by decide) hk1 hFc hP1 hD1
  generalize H1 = H at hP hS ⊢
  have hP : va_P D vwCl ((wX7 cI cZ a S) ++ (wX8 cI cZ b M)) H := hP
  have hD : va_D A ((wX7 cI cZ a S) ++ (wX8 cI cZ b M)) := hD
  refine W.widen (k := 72) (n := 7851) (Nat.le_of_ble_eq_true rfl) (Nat.le_of_ble_eq_true rfl) ?_
  refine lv_astore_n (lv' := [(2, .ref (b 0)), (1, .ref (a 0)), (0, .ref sb)]) hx hb dL_law_15 rfl hl (by decide) rfl (fun ls hl => ?_)
  refine lv_iconst (v := 1) hx hb dL_law_16 (by decide) ?_
  refine nw_j (N := 1) hx hb (hts _ q_1503) hKJ hP hD hS hA (by decide) (by decide) (by decide) (Nat.le_of_ble_eq_true rfl) (Nat.le_of_ble_eq_true rfl) dL_law_17 (fun o H hP hD hS => ?_)
  have hP : va_P D vwCl (wLAW cI cZ a b cJ o (S.1, S.2.1, S.2.2.1, S.2.2.2.1, S.2.2.2.2.1, S.2.2.2.2.2.1, S.2.2.2.2.2.2.1, S.2.2.2.2.2.2.2.1, S.2.2.2.2.2.2.2.2.1, S.2.2.2.2.2.2.2.2.2.1, S.2.2.2.2.2.2.2.2.2.2.1, S.2.2.2.2.2.2.2.2.2.2.2, M, (fun _ => (0 : Int64)))) H := hP
  have hD : va_D A (wLAW cI cZ a b cJ o (S.1, S.2.1, S.2.2.1, S.2.2.2.1, S.2.2.2.2.1, S.2.2.2.2.2.1, S.2.2.2.2.2.2.1, S.2.2.2.2.2.2.2.1, S.2.2.2.2.2.2.2.2.1, S.2.2.2.2.2.2.2.2.2.1, S.2.2.2.2.2.2.2.2.2.2.1, S.2.2.2.2.2.2.2.2.2.2.2, M, (fun _ => (0 : Int64)))) := hD
  refine W.widen (k := 73) (n := 7852) (Nat.le_of_ble_eq_true rfl) (Nat.le_of_ble_eq_true rfl) ?_
  refine lv_astore_n (lv' := [(3, .ref o), (2, .ref (b 0)), (1, .ref (a 0)), (0, .ref sb)]) hx hb dL_law_19 rfl hl (by decide) rfl (fun ls hl => ?_)
  refine lv_iconst (v := 0) hx hb dL_law_20 (by decide) ?_
  refine lv_istore (lv' := [(4, .int 0), (3, .ref o), (2, .ref (b 0)), (1, .ref (a 0)), (0, .ref sb)]) hx hb dL_law_21 hl (by decide) rfl (fun ls hl => ?_)
  exact law_L23 C0 513 73 7852 (by omega) (by omega) 0 (S.1, S.2.1, S.2.2.1, S.2.2.2.1, S.2.2.2.2.1, S.2.2.2.2.2.1, S.2.2.2.2.2.2.1, S.2.2.2.2.2.2.2.1, S.2.2.2.2.2.2.2.2.1, S.2.2.2.2.2.2.2.2.2.1, S.2.2.2.2.2.2.2.2.2.2.1, S.2.2.2.2.2.2.2.2.2.2.2, M, (fun _ => (0 : Int64))) _ _ _ hP hD hS (lv_sub hl [4, 3, 2, 1, 0] rfl) h
/-- the claim's walk out of the pure goal -/
theorem start_of (hpure : ∀ (L : Nat) (xs : Nat → Int32), L ≤ 2048 → wp_start L xs) {p : Program} {e : Env} {s : State} {m : MethodId} {below : List Frame} {meth : Method} {c : Code} (l : Launch) (hflags : l.flags = flags0) {b L : Nat} {xs : Nat → Int32} (hL : L ≤ 2048) (C0 : lw_At p s m meth c b L xs) : W p l e room_1 s m #[Value.ref b] below meth c s.heap [] 0 0 (lw_Z below #[Value.ref b] s) (entryFrame m ([Value.ref b] : List Value).toArray 7) := by
  obtain ⟨hx, hb, hr, hml, hown, hts, hX, hbl, hlocks, hgv⟩ := C0
  have htsA : ∀ w ∈ lw_all, w.before #[Value.ref b] s = true := fun w h => hts w (List.mem_filter.mp h).1
  obtain ⟨D, cI, cZ, cJ, hK⟩ := law_K htsA
  have hst : l.stackTraces = false := by unfold Launch.stackTraces; rw [hflags]; decide
  exact law_enter (A := fun q : Nat => s.heap.size ≤ q) ⟨hst, hx, hb, hr, hlocks, hml, hown, htsA, hX, hbl, Nat.not_le.mpr hbl, fun _ h => h, fun _ h => h, hK, law_st hts hgv, law_xf hts hgv⟩ (hpure L xs hL)
