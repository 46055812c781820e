/-! LAYER 2: room, the reference -/
theorem call_room {N T : Int} {B K K2 : Nat → Int32} {S A J C S2 A2 J2 C2 Y M : Ob} (h : REL N T B K S A J C J2 M) (p : Int32) (hp : isB p) : FACE N T (fun Q => wp_X7_room (B, K, S, A, J, C, K2, S2, A2, J2, C2, Y) p Q) (fun Q => wp_X8_room M p Q) := by
  sorry
