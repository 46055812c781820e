/-! LAYER 2: singles: bitsOf by what the single is -/
def sgB (s : Bool) : Int32 := if s = true then -2147483648 else 0
/-- the bits of a datum; a zero has none -/
def dB (d : FP.Core.Datum) : Int32 := match d with
  | .nan => 0
  | .inf s => sgB s ||| 2139095040
  | .fin s c q => if c = 0 then 0 else maB (sgB s) c q
theorem bits_datum {z : UInt32} (h : FP.Core.val32 z ≠ .nan) (Q : Int32 → Unit → Prop) (q : Q (dB (FP.Core.val32 z)) ()) : wp_X4_bitsOf () z Q := by
  have hf := FP.Core.val32_fits z
  cases hv : FP.Core.val32 z with
  | nan => exact absurd hv h
  | inf s =>
    rw [hv] at q
    cases s
    · have e : z = 2139095040 := FP.Core.val32_inj h (hv.trans (by decide +kernel))
      rw [e]
      exact bits_pi Q q
    · have e : z = 4286578688 := FP.Core.val32_inj h (hv.trans (by decide +kernel))
      rw [e]
      exact bits_mi Q q
  | fin s c k =>
    rw [hv] at q hf
    obtain ⟨f1, f2, f3, f4⟩ := hf
    have f1' : c < 16777216 := f1
    rw [FP.Core.qmin_b32] at f2 f4
    rw [qx_104] at f3
    have f4' : k = -149 ∨ 8388608 ≤ c := f4
    have hr : Rp z s c k := by
      unfold Rp
      rw [hv, FP.Core.round_of_fits FP.Core.good_b32]
      rw [← hv]
      exact FP.Core.val32_fits z
    by_cases c0 : c = 0
    · have q' : Q 0 () := by
        have : dB (.fin s c k) = 0 := if_pos c0
        rw [this] at q; exact q
      have ek : k = -149 := f4'.resolve_right (by omega)
      subst c0
      subst ek
      cases s
      · have e : z = 0 := FP.Core.val32_inj h (hv.trans (by decide +kernel))
        rw [e]
        exact bits_0 Q q'
      · have e : z = 2147483648 := FP.Core.val32_inj h (hv.trans (by decide +kernel))
        rw [e]
        exact bits_m0 Q q'
    · have q' : Q (maB (sgB s) c k) () := by
        have : dB (.fin s c k) = maB (sgB s) c k := if_neg c0
        rw [this] at q; exact q
      exact bits_fin hr f1' f2 f3 f4'.symm c0 Q q'
