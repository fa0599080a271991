/-! hide (model); both hide the same. -/
abbrev hmb (I : rI) (s e : Nat) : Bool := hcb (I 154 s) (I 155 s) (I 156 s) (I 157 s) (I 153 s) (I 145 2) (I 147 e) (I 151 e)
def mHd (st : Nat → Nat) (I : rI) (k : Nat) : rI := u1 I 152 (fun e => if (decide (e < k) && hmb I (st e) e) = true then 1 else I 152 e)
section
variable {L h z n t : Nat} {st tm fv fv' : Nat → Nat} {I I' M M' : rI} {J K J' K' : rJ}
theorem mHd_ne {k b : Nat} (hb : ¬ b = 152) : mHd st I k b = I b := u1_ne hb
theorem mHd_0 : mHd st I 0 = I := by
  funext b j; unfold mHd; rw [u1_at]; split
  · rename_i hb; subst hb; simp
  · rfl
theorem mHd_s1 {k : Nat} (hk : hmb I (st k) k = true) : u2 (mHd st I k) 152 k 1 = mHd st I (k + 1) := by
  funext b j
  simp only [u2_at, mHd, u1_at]
  by_cases hb : b = 152
  · by_cases hj : j = k
    · subst hj; simp [hb, hk]
    · simp only [hb, hj, and_false, if_false, if_true]
      rw [show decide (j < k) = decide (j < k + 1) by rw [Bool.eq_iff_iff]; simp; omega]
  · simp [hb]
theorem mHd_s0 {k : Nat} (hk : hmb I (st k) k = false) : mHd st I k = mHd st I (k + 1) := by
  funext b j
  simp only [mHd, u1_at]
  by_cases hb : b = 152
  · by_cases hj : j = k
    · subst hj; simp [hb, hk]
    · simp only [hb, if_true]
      rw [show decide (j < k) = decide (j < k + 1) by rw [Bool.eq_iff_iff]; simp; omega]
  · simp [hb]
theorem s120_loop (hn : n ≤ 2500) (h13 : I 145 13 = nI n) (hst : ∀ e, e < n → st e < 40 ∧ I 146 e = nI (st e)) : ∀ m k, k + m = n →
    Run 120 2 [(0, .ref 145), (1, .int (nI k))] [] (mS L (mHd st I k) J h z) (.inl none) (mS L (mHd st I n) J h z) := by
  intro m
  induction m with
  | zero =>
    intro k hk
    refine r120_2 ⟨fun _ => ⟨rfl, by rw [show k = n by omega]⟩, fun c => absurd ?_ c⟩
    rw [mHd_ne (by omega), h13]; exact nI_le (by omega) (by omega)
  | succ m ih =>
    intro k hk
    obtain ⟨c1, ci⟩ := hst k (by omega)
    have hv : vp_in (nI k) 2500 := vp_in_nI (by omega) (by omega)
    have hv4 : vp_in (nI (st k)) 40 := vp_in_nI c1 (by omega)
    have h0 := ih (k + 1) (by omega)
    have T : hmb I (st k) k = true → Run 120 101 [(0, .ref 145), (1, .int (nI k))] [] (mS L (mHd st I k) J h z) (.inl none) (mS L (mHd st I n) J h z) := by
      intro hb
      refine r120_101 ⟨hv, ?_⟩
      rw [cl k (by omega), mHd_s1 hb, nI_1]
      exact h0
    have F : hmb I (st k) k = false → Run 120 2 [(0, .ref 145), (1, .int (nI k + 1))] [] (mS L (mHd st I k) J h z) (.inl none) (mS L (mHd st I n) J h z) := by
      intro hb
      rw [mHd_s0 hb, nI_1]
      exact h0
    have h92 : decide (I 147 k < I 156 (st k)) = false → (!decide (I 154 (st k) = 0) && decide (I 147 k ≤ I 153 (st k) - I 154 (st k))) = false → (!decide (I 155 (st k) = 0) && decide (I 155 (st k) ≤ I 145 2 - I 151 k)) = false → Run 120 92 [(0, .ref 145), (1, .int (nI k)), (2, .int (nI (st k)))] [] (mS L (mHd st I k) J h z) (.inl none) (mS L (mHd st I n) J h z) := by
      intro q1 q2 q3
      refine r120_92 ⟨hv4, fun c => F ?_, fun c => T ?_⟩
      · rw [cl _ (by omega), mHd_ne (by omega)] at c
        unfold hmb hcb
        rw [q1, q2, q3, decide_eq_true c]; rfl
      · rw [cl _ (by omega), mHd_ne (by omega)] at c
        unfold hmb hcb
        rw [decide_eq_false c]; simp
    have h63 : decide (I 147 k < I 156 (st k)) = false → (!decide (I 154 (st k) = 0) && decide (I 147 k ≤ I 153 (st k) - I 154 (st k))) = false → Run 120 63 [(0, .ref 145), (1, .int (nI k)), (2, .int (nI (st k)))] [] (mS L (mHd st I k) J h z) (.inl none) (mS L (mHd st I n) J h z) := by
      intro q1 q2
      refine r120_63 ⟨hv4, fun c => ?_, fun c => ⟨hv, fun c3 => T ?_, fun c3 => ?_⟩⟩
      · rw [cl _ (by omega), mHd_ne (by omega)] at c
        exact h92 q1 q2 (by rw [decide_eq_true c]; rfl)
      · rw [cl _ (by omega), mHd_ne (by omega)] at c
        rw [cl _ (by omega), cl _ (by omega), mHd_ne (by omega), mHd_ne (by omega), mHd_ne (by omega)] at c3
        unfold hmb hcb
        rw [decide_eq_false c, decide_eq_true c3]; simp
      · rw [cl _ (by omega), cl _ (by omega), mHd_ne (by omega), mHd_ne (by omega), mHd_ne (by omega)] at c3
        exact h92 q1 q2 (by rw [decide_eq_false c3]; simp)
    refine r120_2 ⟨fun c => ?_, fun _ => ⟨hv, ?_, fun c => T ?_, fun c => ⟨fun c2 => ?_, fun c2 => ⟨fun c3 => T ?_, fun c3 => ?_⟩⟩⟩⟩
    · rw [mHd_ne (by omega), h13] at c
      exact absurd ((nI_leI (by omega) (by omega)).mp c) (by omega)
    · rw [cl _ (by omega), mHd_ne (by omega), ci]; exact hv4
    all_goals rw [cl k (by omega), mHd_ne (b := 146) (by omega), ci, cl (st k) (by omega), mHd_ne (by omega), mHd_ne (by omega)] at c
    · unfold hmb hcb; rw [decide_eq_true c]; rfl
    all_goals rw [cl k (by omega), mHd_ne (b := 146) (by omega), ci, cl (st k) (by omega), mHd_ne (by omega)] at c2
    · rw [cl k (by omega), mHd_ne (by omega), ci]
      exact h63 (decide_eq_false c) (by rw [decide_eq_true c2]; rfl)
    all_goals rw [cl k (by omega), mHd_ne (b := 146) (by omega), ci, cl (st k) (by omega), mHd_ne (by omega), mHd_ne (by omega), mHd_ne (by omega)] at c3
    · unfold hmb hcb; rw [decide_eq_false c2, decide_eq_true c3]; simp
    · rw [cl k (by omega), mHd_ne (by omega), ci]
      exact h63 (decide_eq_false c) (by rw [decide_eq_false c3]; simp)
theorem s120 (hn : n ≤ 2500) (h13 : I 145 13 = nI n) (hst : ∀ e, e < n → st e < 40 ∧ I 146 e = nI (st e)) : dU 120 [.ref 145] L h z I J (mHd st I n) J := by
  have := s120_loop (L := L) (h := h) (z := z) (J := J) hn h13 hst n 0 (by omega)
  rw [mHd_0] at this
  exact r120_0 this
/-- both hide the same -/
theorem IE_hide (hE : IE n t st tm fv I J M K) (h1 : ∀ b, 10 ≤ b → b < 18 → I' b = I b) (h2 : ∀ s, s < 40 → (∀ j, j < 5 → I' (18 + s) j = I (18 + s) j) ∧ I' (18 + s) 5 = nI (fv' s) ∧ fv' s ≤ ct st s n)
    (h3 : ∀ e, e < n → (nm st e < fv' (st e) ↔ nm st e < fv (st e) ∨ hideC M (st e) e)) : IE n t st tm fv' I' J (mHd st M n) K ∧ HC (fun _ => True) n st fv' (mHd st M n) := by
  obtain ⟨a1, a2, a3, a4, a5, a6, ⟨b1, b2, b3, b4, b5, b6⟩, a7, a8⟩ := hE
  have q : ∀ b, ¬ b = 152 → mHd st M n b = M b := fun b hb => mHd_ne hb
  refine ⟨⟨a1, a2, by rw [h1 10 (by omega) (by omega)]; exact a3, by rw [q 145 (by omega)]; exact a4, by rw [h1 10 (by omega) (by omega)]; exact a5, by rw [q 145 (by omega)]; exact a6, ⟨?_, ?_, ?_, ?_, ?_, ?_⟩, fun e he => ?_, fun s hs => ?_⟩, ?_⟩
  · rw [h1 11 (by omega) (by omega), q 146 (by omega)]; exact b1
  · rw [h1 12 (by omega) (by omega), q 147 (by omega)]; exact b2
  · rw [h1 13 (by omega) (by omega), q 148 (by omega)]; exact b3
  · rw [h1 14 (by omega) (by omega), q 149 (by omega)]; exact b4
  · exact b5
  · rw [h1 16 (by omega) (by omega), q 151 (by omega)]; exact b6
  · obtain ⟨c1, c2, c3, c4, c5, c6, c7, c8⟩ := a7 e he
    unfold IEe
    rw [q 146 (by omega), q 147 (by omega), q 151 (by omega), q 149 (by omega)]
    refine ⟨c1, c2, c3, c4, c5, c6, ?_, c8⟩
    show u1 M 152 _ 152 e = _
    rw [u1_at, if_pos rfl, decide_eq_true he, Bool.true_and]
    have e3 := h3 e he
    have e4 : hmb M (st e) e = true ↔ hideC M (st e) e := hcb_t
    by_cases hh : hideC M (st e) e
    · rw [if_pos (e4.mpr hh), if_pos (e3.mpr (Or.inr hh))]
    · rw [if_neg (fun k => hh (e4.mp k)), c7]
      by_cases hf : nm st e < fv (st e)
      · rw [if_pos hf, if_pos (e3.mpr (Or.inl hf))]
      · rw [if_neg hf, if_neg (fun k => (e3.mp k).elim hf hh)]
  · obtain ⟨c1, c2, c3, c4, c5, c6, c7, c8, c9, c10, c11, c12⟩ := a8 s hs
    obtain ⟨d1, d2, d3⟩ := h2 s hs
    unfold IEs
    rw [d1 0 (by omega), d1 1 (by omega), d1 2 (by omega), d1 3 (by omega), d1 4 (by omega), q 153 (by omega), q 154 (by omega), q 155 (by omega), q 156 (by omega), q 157 (by omega)]
    exact ⟨c1, c2, c3, c4, c5, c6, c7, c8, c9, c10, d2, d3⟩
  · intro e he _ hc
    have e3 := h3 e he
    refine e3.mpr (Or.inr ?_)
    unfold hideC at hc ⊢
    rw [q 154 (by omega), q 155 (by omega), q 156 (by omega), q 157 (by omega), q 153 (by omega), q 145 (by omega), q 147 (by omega), q 151 (by omega)] at hc
    exact hc
/-- hideK is hideC where both hold the same -/
theorem hideK_C (hE : IE n t st tm fv I J M K) {s e : Nat} (hs : s < 40) : hideK I s e = hideC M s e := by
  obtain ⟨a1, a2, a3, a4, a5, a6, ⟨b1, b2, b3, b4, b5, b6⟩, a7, a8⟩ := hE
  obtain ⟨c1, c2, c3, c4, c5, c6, c7⟩ := a8 s hs
  unfold hideK hideC
  rw [c1, c3, c4, c5, c6, a5, a6, b2, b6]
abbrev updn (f : Nat → Nat) (s x : Nat) : Nat → Nat := fun i => if i = s then x else f i
/-- one stream alone has something new to hide -/
theorem IE_hide1 {s f : Nat} (hE : IE n t st tm fv I J M K) (hc : HC (fun i => ¬ i = s) n st fv M) (hs : s < 40) (hf : f ≤ ct st s n)
    (h3 : ∀ e, e < n → st e = s → (nm st e < f ↔ nm st e < fv s ∨ hideK I s e)) : IE n t st tm (updn fv s f) (u2 I (18 + s) 5 (nI f)) J (mHd st M n) K ∧ HC (fun _ => True) n st (updn fv s f) (mHd st M n) := by
  refine IE_hide hE (fun b q1 q2 => u2_ne (by omega)) (fun i hi => ⟨fun j hj => by rw [u2_at, if_neg (by omega)], ?_, ?_⟩) (fun e he => ?_)
  · unfold updn
    by_cases k : i = s
    · rw [if_pos k, u2_at, if_pos ⟨by omega, rfl⟩]
    · rw [if_neg k, u2_at, if_neg (by omega)]
      exact (hE.2.2.2.2.2.2.2.2 i hi).2.2.2.2.2.2.2.2.2.2.1
  · unfold updn
    by_cases k : i = s
    · rw [if_pos k, k]; exact hf
    · rw [if_neg k]
      exact (hE.2.2.2.2.2.2.2.2 i hi).2.2.2.2.2.2.2.2.2.2.2
  · unfold updn
    by_cases k : st e = s
    · rw [if_pos k, h3 e he k, hideK_C hE hs, k]
    · rw [if_neg k]
      exact ⟨Or.inl, fun q => q.elim id (hc e he k)⟩
/-- the rest of what couples both, when events and streams have changed -/
theorem InvC_E {t' : Nat} {tm' : Nat → Nat} (h : InvC n t st tm fv I J M K) (hE : IE n t' st tm' fv' I' J' M' K') (h1 : ∀ b, 0 < b → b < 145 → b < 2 ∨ (2 < b ∧ b < 10) ∨ 57 < b → I' b = I b ∧ J' b = J b)
    (h2 : ∀ b, 158 ≤ b → M' b = M b ∧ K' b = K b) (h3 : ∀ j, j = 22 ∨ j = 32 → M' 145 j = M 145 j) (h4 : ∀ e, e < n → M' 146 e = M 146 e) : InvC n t' st tm' fv' I' J' M' K' := by
  obtain ⟨a, b, c, d, e⟩ := h
  exact ⟨hE, ID_fr b (by rw [(h1 3 (by omega) (by omega) (by omega)).1]) (fun b q1 q2 => (h1 b (by omega) (by omega) (by omega)).1) ⟨(h2 158 (by omega)).1, (h2 159 (by omega)).1⟩ (h3 22 (by omega)) (h1 6 (by omega) (by omega) (by omega)).2 (h2 160 (by omega)).2,
    IP_fr c (by rw [(h1 7 (by omega) (by omega) (by omega)).1]) (fun b q1 q2 => (h1 b (by omega) (by omega) (by omega)).1) ⟨(h2 168 (by omega)).1, (h2 169 (by omega)).1⟩ (h3 32 (by omega)),
    IG_fr d (fun b q1 q2 => (h1 b (by omega) (by omega) (by omega)).1) (fun b q1 q2 => (h2 b (by omega)).1) h4,
    IJ_fr e (fun b q1 q2 => (h1 b (by omega) (by omega) (by omega)).1) (fun b q1 q2 => (h2 b (by omega)).1) (fun b q1 q2 => (h1 b (by omega) (by omega) (by omega)).2) (h2 179 (by omega)).2⟩
end
