/-! The class's events: what is visible. -/
/-- what the class's store keeps of itself: n events, streams in their places -/
def CW (I : Nat → Nat → Int32) (n : Nat) : Prop := I 10 7 = nI n ∧ n ≤ 2500 ∧ ∀ e, e < n → ∃ s, s < 40 ∧ I 11 e = nI s
/-- visible, as the class holds it -/
def cvis (I : Nat → Nat → Int32) (e : Nat) : Bool := decide (¬ I 12 e < I (18 + (I 11 e).toNatClampNeg) 5)
/-- visible and of a stream (all: -1) -/
def cin (I : Nat → Nat → Int32) (s : Int32) (e : Nat) : Bool := (decide (s = -1) || decide (s = I 11 e)) && cvis I e
section
variable {L h z n k : Nat} {I : Nat → Nat → Int32} {J : Nat → Nat → Int64}
theorem s13 (hw : CW I n) (hk : k < n) : Den 13 [.ref 10, .int (nI k)] (mS L I J h z) (.inl (some (.int (if cvis I k = true then 1 else 0)))) (mS L I J h z) := by
  obtain ⟨h1, h2, h3⟩ := hw
  obtain ⟨s, hs, es⟩ := h3 k hk
  refine r13_0 ?_
  have e0 : cvis I k = decide (¬ I 12 k < I (18 + s) 5) := by unfold cvis; rw [es, cl s (by omega)]
  simp only [cl k (by omega), es, cl s (by omega), R0_17 hs, e0]
  refine ⟨vp_in_nI (by omega) (by omega), vp_in_nI hs (by omega), fun c => ?_, fun c => ?_⟩ <;> simp [c]
theorem s14 {s : Int32} (hw : CW I n) (hk : k < n) : Den 14 [.ref 10, .int s, .int (nI k)] (mS L I J h z) (.inl (some (.int (if cin I s k = true then 1 else 0)))) (mS L I J h z) := by
  have h2 := hw.2.1
  refine r14_0 ⟨fun c => ⟨_, s13 hw hk, fun c2 => ?_, fun c2 => ?_⟩, fun c => ⟨vp_in_nI (by omega) (by omega), ?_⟩⟩
  · simp [cin, c, b_eq.mp c2]
  · simp [cin, c, b_ne.mp c2]
  · rw [cl k (by omega)]
    refine ⟨fun c2 => ?_, fun c2 => ⟨_, s13 hw hk, fun c3 => ?_, fun c3 => ?_⟩⟩
    · simp [cin, c, c2]
    · simp [cin, b_eq.mp c3]
    · simp [cin, c2, b_ne.mp c3]
/-- visible ones from a position on -/
abbrev cfr (I : Nat → Nat → Int32) (s : Int32) (f e : Nat) : Bool := decide (f ≤ e) && cin I s e
theorem s15_loop {s : Int32} {f : Nat} (hw : CW I n) : ∀ m k, f ≤ k → k ≤ 2500 → n ≤ k + m → (k = f ∨ k ≤ n) →
    Run 15 5 [(0, .ref 10), (1, .int s), (3, .int (nI (cn (cfr I s f) k))), (4, .int (nI k))] [] (mS L I J h z) (.inl (some (.int (nI (cn (cfr I s f) n))))) (mS L I J h z) := by
  intro m
  induction m with
  | zero =>
    intro k h1 h2 h3 h4
    have h5 := hw.2.1
    have e : cn (cfr I s f) k = cn (cfr I s f) n := by
      rcases h4 with h4 | h4
      · rw [cn_zero (n := k) (fun j hj => by simp; omega), cn_zero (n := n) (fun j hj => by simp; omega)]
      · rw [show k = n by omega]
    refine r15_5 ⟨fun c => by rw [e]; exact ⟨rfl, rfl⟩, fun c => absurd ?_ c⟩
    rw [hw.1]; exact (nI_leI (by omega) (by omega)).mpr (by omega)
  | succ m ih =>
    intro k h1 h2 h3 h4
    have h5 := hw.2.1
    by_cases hk : k < n
    · refine r15_5 ⟨fun c => ?_, fun c => ⟨_, s14 hw hk, fun c2 => ?_, fun c2 => ?_⟩⟩
      · rw [hw.1] at c; exact absurd ((nI_leI (by omega) (by omega)).mp c) (by omega)
      · have e : nI (cn (cfr I s f) k) + 0 = nI (cn (cfr I s f) (k + 1)) := by
          have e1 : cn (cfr I s f) (k + 1) = cn (cfr I s f) k := by show cn (cfr I s f) k + _ = _; simp [b_eq.mp c2]
          rw [e1, Int32.add_zero]
        rw [e, nI_1]
        exact ih (k + 1) (by omega) (by omega) (by omega) (by omega)
      · have e : nI (cn (cfr I s f) k) + 1 = nI (cn (cfr I s f) (k + 1)) := by
          have e1 : cn (cfr I s f) (k + 1) = cn (cfr I s f) k + 1 := by show cn (cfr I s f) k + _ = _; simp [b_ne.mp c2, h1]
          rw [e1, nI_1]
        rw [e, nI_1]
        exact ih (k + 1) (by omega) (by omega) (by omega) (by omega)
    · have e : cn (cfr I s f) k = cn (cfr I s f) n := by
        rcases h4 with h4 | h4
        · rw [cn_zero (n := k) (fun j hj => by simp; omega), cn_zero (n := n) (fun j hj => by simp; omega)]
        · rw [show k = n by omega]
      refine r15_5 ⟨fun c => by rw [e]; exact ⟨rfl, rfl⟩, fun c => absurd ?_ c⟩
      rw [hw.1]; exact (nI_leI (by omega) (by omega)).mpr (by omega)
/-- countVisible -/
theorem s15 {s : Int32} {f : Nat} (hw : CW I n) (hf : f ≤ 2500) : Den 15 [.ref 10, .int s, .int (nI f)] (mS L I J h z) (.inl (some (.int (nI (cn (cfr I s f) n))))) (mS L I J h z) := by
  refine r15_0 ?_
  have h1 := s15_loop (s := s) (f := f) (L := L) (h := h) (z := z) (J := J) hw n f (Nat.le_refl _) hf (by omega) (Or.inl rfl)
  rw [cn_zero (n := f) (fun j hj => by simp; omega)] at h1
  exact h1
end
