/-! Power goes off: what does not last is forgotten on both sides. -/
section
variable {L h z n t : Nat} {st tm fv : Nat → Nat} {I I' M M' : rI} {J K J' K' : rJ}
theorem s114f {x : Int32} : dV 114 [.ref 145, .int 0, .int x] L h z I J 0 (u2 I 145 0 0) J := s114 (b := false)
theorem s114t {x : Int32} : dV 114 [.ref 145, .int 1, .int x] L h z I J 1 (u2 I 145 0 x) J := s114 (b := true)
theorem cOff_lo {b : Nat} (h : b < 3 ∨ b = 4 ∨ b = 5 ∨ b = 6 ∨ (8 ≤ b ∧ b < 65) ∨ 105 ≤ b) : cOff I b = I b := by
  funext j; unfold cOff cOg; rw [if_neg (by omega), u2_at, if_neg (by omega), u2_at, if_neg (by omega)]
theorem cOff_3 : cOff I 3 3 = 0 := by
  unfold cOff cOg; rw [if_neg (by omega), u2_at, if_neg (by omega), u2_at, if_pos ⟨rfl, rfl⟩]
theorem cOff_7 : cOff I 7 2 = 0 := by
  unfold cOff cOg; rw [if_neg (by omega), u2_at, if_pos ⟨rfl, rfl⟩]
theorem cOff_g {g j : Nat} (hg : g < 8) (hj : ¬ j = 4) : cOff I (65 + 5 * g) j = I (65 + 5 * g) j := by
  unfold cOff cOg; rw [if_neg (by omega), u2_at, if_neg (by omega), u2_at, if_neg (by omega)]
theorem cOff_g4 {g : Nat} (hg : g < 8) : cOff I (65 + 5 * g) 4 = 0 := by
  unfold cOff cOg; rw [if_pos (by omega)]
theorem cOff_g1 {g a j : Nat} (hg : g < 8) (ha : a = 66 ∨ a = 68 ∨ a = 69) : cOff I (a + 5 * g) j = I (a + 5 * g) j := by
  unfold cOff cOg; rw [if_neg (by omega), u2_at, if_neg (by omega), u2_at, if_neg (by omega)]
theorem cOff_g2 {g j : Nat} (hg : g < 8) (hj : j < 2500) : cOff I (67 + 5 * g) j = 0 := by
  unfold cOff cOg; rw [if_pos (by omega)]
theorem mOff_lo {b : Nat} (h : b < 145 ∨ (145 < b ∧ b < 166) ∨ 167 < b) : mOff M b = M b := by
  funext j; unfold mOff mOx mO0; rw [if_neg (by omega)]; simp only [u2_at]
  rw [if_neg (by omega), if_neg (by omega), if_neg (by omega), if_neg (by omega)]
theorem mOff_145 {j : Nat} : mOff M 145 j = if j = 5 then -1 else if j = 32 then 0 else if j = 22 then 0 else if j = 1 then 0 else M 145 j := by
  unfold mOff mOx mO0; rw [if_neg (by omega)]; simp only [u2_at, true_and]
theorem mOff_t {b j : Nat} (h : b = 166 ∨ b = 167) (hj : j < 20000) : mOff M b j = 0 := by
  unfold mOff mOx; rw [if_pos ⟨h, hj⟩]
theorem InvC_off (h : InvC n t st tm fv I J M K) : InvC n t st tm fv (cOff I) J (mOff M) K := by
  obtain ⟨a, b, c, d, e⟩ := h
  have q : ∀ b, 146 ≤ b → b < 166 ∨ 167 < b → mOff M b = M b := fun b h1 h2 => mOff_lo (by omega)
  refine ⟨IE_fr a (cOff_lo (by omega)) (fun b h1 h2 => cOff_lo (by omega)) (fun b h1 h2 => q b (by omega) (by omega)) mOff_145 mOff_145 rfl rfl, ?_, ?_, fun g hg => ?_, ?_⟩
  · obtain ⟨d, b1, b2, b3, b4, b5, b6, b7⟩ := b
    refine ⟨0, by omega, cOff_3, mOff_145, ?_, ?_, b6, fun i hi => absurd hi (by omega)⟩
    · rw [cOff_lo (by omega), q 158 (by omega) (by omega), b4]
    · rw [cOff_lo (by omega), q 159 (by omega) (by omega), b5]
  · obtain ⟨d, b1, b2, b3, b4, b5, b6⟩ := c
    refine ⟨0, by omega, cOff_7, mOff_145, ?_, ?_, fun i hi => absurd hi (by omega)⟩
    · rw [cOff_lo (by omega), q 168 (by omega) (by omega), b4]
    · rw [cOff_lo (by omega), q 169 (by omega) (by omega), b5]
  · have h1 := a.1
    obtain ⟨a1, a2, a3, a4, a5, a6, a7, a8, ⟨f, b1, b2, b3⟩, a9⟩ := d g hg
    unfold IG1 IGo
    rw [cOff_g hg (by omega), cOff_g hg (by omega), cOff_g hg (by omega), cOff_g hg (by omega), q 161 (by omega) (by omega), q 162 (by omega) (by omega), q 163 (by omega) (by omega), q 164 (by omega) (by omega), q 165 (by omega) (by omega)]
    refine ⟨a1, a2, a3, a4, a5, a6, fun e he => ?_, fun e h1 h2 => ?_, ⟨f, b1, b2, fun e he => ?_⟩, 0, fun _ => 0, by omega, cOff_g4 hg, fun i hi => absurd hi (by omega), fun e he _ => mOff_t (Or.inl rfl) (by omega)⟩
    · rw [cOff_g1 hg (by omega), cOff_g2 hg he, mOff_t (Or.inr rfl) (by omega)]
      exact ⟨(a7 e he).1, rfl⟩
    · rw [mOff_t (Or.inr rfl) (by omega)]
      exact ⟨(a8 e h1 h2).1, rfl⟩
    · have := b3 e he
      unfold IGw at this ⊢
      rw [q 165 (by omega) (by omega), q 161 (by omega) (by omega), q 162 (by omega) (by omega), q 146 (by omega) (by omega), mOff_t (Or.inl rfl) (by omega)]
      exact ⟨this.1, fun k => this.2 (Or.inl (k.resolve_right (fun k => k rfl)))⟩
  · exact IJ_fr e (fun b h1 h2 => cOff_lo (by omega)) (fun b h1 h2 => q b (by omega) (by omega)) (fun _ _ _ => rfl) rfl
theorem HC_off {S : Nat → Prop} (h : HC S n st fv M) : HC S n st fv (mOff M) := HC_fr h (fun b _ _ => mOff_lo (by omega)) mOff_145
/-- the disk, off or on again -/
theorem IK_off {p : Int32} (h : IKm p I M) (hp : ¬ p = -1) : IK (cOff I) (mOff M) := by
  obtain ⟨a1, a2, a3, a4, a5, a6, a7, a8, a9⟩ := h
  unfold IK
  rw [cOff_lo (b := 2) (by omega), mOff_145, mOff_145, mOff_145, mOff_145]
  refine ⟨Or.inl rfl, ?_, a3, a4, a5, fun k => absurd (show (0 : Int32) = 1 from k) (by decide), ?_⟩
  · rw [a2, if_neg hp]; rfl
  · show (-1 : Int32) ≤ -1
    decide
theorem IK_on {p : Int32} (h : IKm p I M) (hp : p = -1) : IK I M := by
  obtain ⟨a1, a2, a3, a4, a5, a6, a7, a8, a9⟩ := h
  exact ⟨Or.inr a1, by rw [a2, if_pos hp, a1], a3, a4, a5, fun _ => by rw [a6, a7], by rw [a7]; exact a8⟩
/-- a record is written: both disks -/
theorem IK_ws {x : Int32} {b : Nat} (h : IK I M) (ho : M 145 1 = 1) (hx : 0 < x) (hb : M 145 3 + x = nI b) (hb2 : b ≤ 100000) : IKm (M 145 5) (wsC I x) (wsM M x) ∧ lsC I x = lsM M x ∧ (lsM M x = false → ¬ M 145 5 = -1) := by
  obtain ⟨a1, a2, a3, a4, a5, a6, a7⟩ := h
  have a6 := a6 ho
  have e : lsC I x = lsM M x := by
    unfold lsC lsM
    rw [a6]
    by_cases c : M 145 5 = -1
    · rw [c]; rfl
    · have c2 : ¬ M 145 5 < 0 := by
        simp only [ti_lt, ti_le, ti_eq, Int32.reduceToInt] at *; omega
      simp only [c, c2, decide_false, Bool.false_or]
      by_cases c3 : M 145 5 < x
      · have : ¬ x ≤ M 145 5 := by simp only [ti_lt, ti_le] at *; omega
        simp [c3, this]
      · have : x ≤ M 145 5 := by simp only [ti_lt, ti_le] at *; omega
        simp [c3, this]
  have e3 : M 145 5 = -1 ↔ M 145 5 < 0 := by
    simp only [ti_lt, ti_le, ti_eq, Int32.reduceToInt] at *; omega
  refine ⟨?_, e, fun k c => ?_⟩
  · unfold IKm wsC wsM onC flM
    rw [e]
    cases hl : lsM M x with
    | true =>
      simp only [if_true, u2_at]
      simp [ho, a3, a5, a6, a7, e3]
      exact ⟨b, hb2, hb⟩
    | false =>
      simp [u2_at, ho, a3, a5, a6, a7, e3]
      obtain ⟨b, hb1, hb2⟩ := a4
      exact ⟨b, hb1, hb2⟩
  · have : lsM M x = true := by unfold lsM; simp [e3.mp c]
    rw [this] at k
    cases k
theorem wsC_ne {x : Int32} {b : Nat} (hb : ¬ b = 2) : wsC I x b = I b := by
  unfold wsC; split <;> simp only [u2_ne hb]
theorem wsM_ne {x : Int32} {b : Nat} (hb : ¬ b = 145) : wsM M x b = M b := by
  unfold wsM; split <;> simp only [u2_ne hb]
theorem wsM_145 {x : Int32} {j : Nat} (hj : ¬ j = 3 ∧ ¬ j = 4 ∧ ¬ j = 43) : wsM M x 145 j = M 145 j := by
  unfold wsM; split
  · rw [u2_at, if_neg (by omega), u2_at, if_neg (by omega), u2_at, if_neg (by omega)]
  · rw [u2_at, if_neg (by omega)]
theorem InvC_fr2 (h : InvC n t st tm fv I J M K) (h1 : ∀ b, 0 < b → b < 145 → ¬ b = 2 → I' b = I b) (h2 : ∀ b, 145 < b → M' b = M b) (h3 : ∀ j, j = 2 ∨ j = 13 ∨ j = 22 ∨ j = 32 → M' 145 j = M 145 j) : InvC n t st tm fv I' J M' K := by
  obtain ⟨a, b, c, d, e⟩ := h
  exact ⟨IE_fr a (h1 10 (by omega) (by omega) (by omega)) (fun b q1 q2 => h1 b (by omega) (by omega) (by omega)) (fun b q1 q2 => h2 b (by omega)) (h3 2 (by omega)) (h3 13 (by omega)) rfl rfl,
    ID_fr b (by rw [h1 3 (by omega) (by omega) (by omega)]) (fun b q1 q2 => h1 b (by omega) (by omega) (by omega)) ⟨h2 158 (by omega), h2 159 (by omega)⟩ (h3 22 (by omega)) rfl rfl,
    IP_fr c (by rw [h1 7 (by omega) (by omega) (by omega)]) (fun b q1 q2 => h1 b (by omega) (by omega) (by omega)) ⟨h2 168 (by omega), h2 169 (by omega)⟩ (h3 32 (by omega)),
    IG_fr d (fun b q1 q2 => h1 b (by omega) (by omega) (by omega)) (fun b q1 q2 => h2 b (by omega)) (fun e _ => by rw [h2 146 (by omega)]),
    IJ_fr e (fun b q1 q2 => h1 b (by omega) (by omega) (by omega)) (fun b q1 q2 => h2 b (by omega)) (fun b q1 q2 => rfl) rfl⟩
theorem InvC_ws {x : Int32} (h : InvC n t st tm fv I J M K) : InvC n t st tm fv (wsC I x) J (wsM M x) K :=
  InvC_fr2 h (fun b _ _ hb => wsC_ne hb) (fun b hb => wsM_ne (by omega)) (fun j hj => wsM_145 (by omega))
theorem HC_ws {S : Nat → Prop} {x : Int32} (h : HC S n st fv M) : HC S n st fv (wsM M x) := HC_fr h (fun b h1 h2 => wsM_ne (by omega)) (wsM_145 (by omega))
/-- the end of a call that wrote: class -/
def epC (p : Int32) (I : rI) : rI := if p = -1 then I else cOff I
/-- the end of a call that wrote: model -/
def epM (p c : Int32) (M : rI) : rI := if p = -1 then u2 M 145 0 0 else u2 (mOff (u2 M 145 0 0)) 145 0 c
theorem Inv_ep {p c : Int32} (h : InvC n t st tm fv I J M K) (hc : HC (fun _ => True) n st fv M) (hk : IKm p I M) : Inv n t st tm fv (epC p I) J (epM p c M) K := by
  unfold epC epM
  split
  · rename_i k
    exact Inv_t0 ⟨h, hc, IK_on hk k⟩ (Or.inl rfl)
  · rename_i k
    have h0 : InvC n t st tm fv I J (u2 M 145 0 0) K := InvC_fr2 h (fun _ _ _ _ => rfl) (fun b hb => u2_ne (by omega)) (fun j hj => by rw [u2_at, if_neg (by omega)])
    have hc0 : HC (fun _ => True) n st fv (u2 M 145 0 0) := HC_fr hc (fun b _ _ => u2_ne (by omega)) (by rw [u2_at, if_neg (by omega)])
    have hk0 : IKm p I (u2 M 145 0 0) := IKm_fr hk rfl (by rw [u2_at, if_neg (by omega)]) (by rw [u2_at, if_neg (by omega)]) (by rw [u2_at, if_neg (by omega)]) (by rw [u2_at, if_neg (by omega)]) (by rw [u2_at, if_neg (by omega)])
    exact Inv_t0 ⟨InvC_off h0, HC_off hc0, IK_off hk0 k⟩ (Or.inl rfl)
theorem epM_0 {p c : Int32} : epM p c M 145 0 = if p = -1 then 0 else c := by
  unfold epM; split <;> rw [u2_at, if_pos ⟨rfl, rfl⟩]
theorem epM_s {p c : Int32} : epM p c M 0 = M 0 := by
  unfold epM; split
  · exact u2_ne (by omega)
  · rw [u2_ne (by omega), mOff_lo (by omega), u2_ne (by omega)]
theorem epM_c {p c : Int32} {b : Nat} (hb : b < 145) : epM p c M b = M b := by
  unfold epM; split
  · exact u2_ne (by omega)
  · rw [u2_ne (by omega), mOff_lo (by omega), u2_ne (by omega)]
theorem epC_m {p : Int32} {b : Nat} (hb : 145 ≤ b ∨ b = 0) : epC p I b = I b := by
  unfold epC; split
  · rfl
  · exact cOff_lo (by omega)
theorem s119e {p c : Int32} (hk : IKm p I M) : dU 119 [.ref 145, .int c] L h z M K (epM p c M) K := by
  obtain ⟨a1, a2, a3, a4, a5, a6, a7, a8, a9⟩ := hk
  unfold epM
  by_cases k : p = -1
  · rw [if_pos k] at a9 ⊢
    exact s119 a9
  · rw [if_neg k] at a9 ⊢
    exact s119t (by rw [a9]; decide)
end
