theorem isA_0 (L : Nat) (I : Nat → Nat → Int32) (J : Nat → Nat → Int64) (h z : Nat) : isA (mS L I J h z) 0 .int L := ⟨by show 0 < 185; decide, rfl⟩
