/-! The class's events: what is visible. -/
/-- what the class's store keeps of itself: n events, streams in their places -/
def CW (I : Nat → Nat → Int32) (n : Nat) : Prop := I 10 7 = nI n ∧ n ≤ 2500 ∧ ∀ e, e < n → ∃ s, s < 40 ∧ I 11 e = nI s
/-- visible, as the class holds it -/
def cvis (I : Nat → Nat → Int32) (e : Nat) : Bool := decide (¬ I 12 e < I (18 + (I 11 e).toNatClampNeg) 5)
section
variable {L h z n k : Nat} {I : Nat → Nat → Int32} {J : Nat → Nat → Int64}
theorem s13 (hw : CW I n) (hk : k < n) : Den 13 [.ref 10, .int (nI k)] (mS L I J h z) (.inl (some (.int (if cvis I k = true then 1 else 0)))) (mS L I J h z) := by
  obtain ⟨h1, h2, h3⟩ := hw
  obtain ⟨s, hs, es⟩ := h3 k hk
  refine r13_0 ?_
  have e0 : cvis I k = decide (¬ I 12 k < I (18 + s) 5) := by unfold cvis; rw [es, cl s (by omega)]
  simp only [cl k (by omega), es, cl s (by omega), R0_17 hs, e0]
  refine ⟨vp_in_nI (by omega) (by omega), vp_in_nI hs (by omega), fun c => ⟨by simp [c], rfl⟩, fun c => ⟨by simp [c], rfl⟩⟩
end
