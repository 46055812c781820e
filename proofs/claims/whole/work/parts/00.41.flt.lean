/-! LAYER 2: singles, what both sides make of them -/
theorem fsum_pair {a b : Int32} (ha : finB a) (hb : finB b) : ∃ v : Int32, (∀ Q : Int32 → Unit → Prop, Q v () → wp_X4_sum () a b Q) ∧ (∀ Q : Int32 → Unit → Prop, Q v () → wp_X8_sum () a b Q) := by
  exact fsum_pair' ha hb
theorem fprod_pair {a b : Int32} (ha : finB a) (hb : finB b) : ∃ v : Int32, (∀ Q : Int32 → Unit → Prop, Q v () → wp_X4_product () a b Q) ∧ (∀ Q : Int32 → Unit → Prop, Q v () → wp_X8_product () a b Q) := by
  exact fprod_pair' ha hb
theorem f20_pair {y : Int32} (h0 : 0 ≤ y.toInt) (h1 : y.toInt < 256) : ∃ v : Int32, finB v ∧ vf_n32 (FP.fmul (FP.i2f y) 1031798784) ∧ (∀ Q : Int32 → Unit → Prop, Q v () → wp_X4_bitsOf () (FP.fmul (FP.i2f y) 1031798784) Q) ∧ (y = 0 → v = 0) ∧ (¬ y = 0 → ∀ Q : Int32 → Unit → Prop, Q v () → wp_X8_rounded () 0 (Int32.toInt64 y) (-4) 0 Q) := by
  exact f20_pair' h0 h1
theorem f23_pair {a : Int32} (ha : finB a) : ∃ (z : UInt32) (v : Int32), (∀ Q : UInt32 → Unit → Prop, Q z () → wp_X4_valueOf () a Q) ∧ FP.f2i z = v ∧ (∀ Q : Int32 → Unit → Prop, Q v () → wp_X8_toInt () a Q) := by
  exact f23_pair' ha
theorem f24_pair (i : Int32) : ∃ v : Int32, finB v ∧ (∀ Q : Int32 → Unit → Prop, Q v () → wp_X4_bitsOf () (FP.i2f i) Q) ∧ (∀ Q : Int32 → Unit → Prop, Q v () → wp_X8_ofInt () i Q) := by
  exact f24_pair' i
