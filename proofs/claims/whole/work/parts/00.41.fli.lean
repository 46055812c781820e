/-! LAYER 2: the reference's rounded: its end -/
/-- the bits of a datum; a zero keeps its sign -/
def dBs (d : FP.Core.Datum) : Int32 := match d with
  | .nan => 0
  | .inf s => sgB s ||| 2139095040
  | .fin s c q => maB (sgB s) c q
theorem low23 {c : Nat} (h0 : 8388608 ≤ c) (h : c < 16777216) : (Int64.toInt32 (L6 c)) &&& 8388607 = Int32.ofNat c - 8388608 := by
  rw [l_i32 (by omega), fl_f]
  have e : fF (Int32.ofNat c) = c - 8388608 := by
    unfold fF
    rw [nb_ofNat (by omega)]
    omega
  rw [e]
  refine i_eq.mpr ?_
  have z : (8388608 : Int32).toInt = 8388608 := rfl
  rw [i_ofNat (by omega), i_sub (by rw [i_ofNat (by omega), z]; omega) (by rw [i_ofNat (by omega), z]; omega), i_ofNat (by omega), z]
  omega
theorem r132 {s : Bool} {c : Nat} {q : Int} {y6 : Int32} (hc : c ≤ 16777216) (hy : y6.toInt = q) (h1 : -149 ≤ q) (h2 : q ≤ 1000) (hq : 8388608 ≤ c ∨ q = -149) (Q : Int32 → Unit → Prop) (g : Q (dBs (FP.Core.settle FP.Core.b32 s c q)) ()) : wp_X8_rounded_L132 Q (sgB s) y6 (L6 c) () := by
  have z150 : (150 : Int32).toInt = 150 := rfl
  have z1 : (1 : Int32).toInt = 1 := rfl
  have z104 : (104 : Int32).toInt = 104 := rfl
  have hE := lc_eq (a := c) (b := 16777216) (by omega) (by decide)
  have hG := lc_ge (a := c) (b := 8388608) (by omega) (by decide)
  unfold wp_X8_rounded_L132
  by_cases c24 : c = 16777216
  · refine ⟨fun d => absurd (hE.mpr c24) d, fun _ x e => ?_⟩
    subst e
    have hx : (y6 + 1).toInt = q + 1 := by rw [i_add (by rw [hy, z1]; omega) (by rw [hy, z1]; omega), hy, z1]
    have es : FP.Core.settle FP.Core.b32 s c q = FP.Core.bound FP.Core.b32 s 8388608 (q + 1) := by
      unfold FP.Core.settle
      rw [if_neg (by rw [c24]; decide)]
      rfl
    rw [es] at g
    unfold FP.Core.bound at g
    rw [qx_104] at g
    refine ⟨fun _ => ⟨fun d => ?_, fun d => ?_⟩, fun d => absurd (by decide) d⟩
    · rw [i_le, hx, z104] at d
      rw [if_pos d] at g
      have g' : Q (nrB (sgB s) 8388608 (q + 1)) () := g
      unfold nrB at g'
      have e1 : y6 + 1 + 150 = Int32.ofNat (q + 1 + 150).toNat := i_eq.mpr (by
        rw [i_add (by rw [hx, z150]; omega) (by rw [hx, z150]; omega), hx, z150, i_ofNat (by omega)]; omega)
      have e2 : (Int64.toInt32 8388608) &&& 8388607 = Int32.ofNat 8388608 - 8388608 := by decide
      rw [e1, e2]
      exact g'
    · rw [i_le, hx, z104] at d
      rw [if_neg d] at g
      exact g
  · have es : FP.Core.settle FP.Core.b32 s c q = FP.Core.bound FP.Core.b32 s c q := by
      unfold FP.Core.settle
      rw [if_pos (show c < 2 ^ FP.Core.b32.p by rw [p_24]; omega)]
    rw [es] at g
    unfold FP.Core.bound at g
    rw [qx_104] at g
    refine ⟨fun _ => ⟨fun d => ⟨fun w => ?_, fun w => ?_⟩, fun d => ?_⟩, fun d => absurd (hE.mp d) c24⟩
    · have c23 := hG.mp d
      rw [i_le, hy, z104] at w
      rw [if_pos w] at g
      have g' : Q (nrB (sgB s) c q) () := by
        have : dBs (.fin s c q) = nrB (sgB s) c q := if_pos c23
        rw [this] at g; exact g
      unfold nrB at g'
      have e1 : y6 + 150 = Int32.ofNat (q + 150).toNat := i_eq.mpr (by
        rw [i_add (by rw [hy, z150]; omega) (by rw [hy, z150]; omega), hy, z150, i_ofNat (by omega)]; omega)
      rw [e1, low23 c23 (by omega)]
      exact g'
    · rw [i_le, hy, z104] at w
      rw [if_neg w] at g
      exact g
    · have c23 : ¬ 8388608 ≤ c := fun z => d (hG.mpr z)
      have hq' := hq.resolve_left c23
      rw [if_pos (by omega)] at g
      have g' : Q (sgB s ||| Int32.ofNat c) () := by
        have : dBs (.fin s c q) = sgB s ||| Int32.ofNat c := if_neg c23
        rw [this] at g; exact g
      rw [l_i32 (by omega)]
      exact g'
