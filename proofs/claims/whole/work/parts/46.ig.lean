/-! Groups: what couples both. -/
section
variable {L h z n t : Nat} {st tm fv fv' : Nat → Nat} {I I' M M' : rI} {J K J' K' : rJ}
theorem IG1_pw {g : Nat} (hn : n ≤ 2500) (h : IG1 n g I M) (h1 : ∀ b, 65 + 5 * g ≤ b → b ≤ 69 + 5 * g → I' b = I b) (h2 : ∀ b, 161 ≤ b → b ≤ 164 → M' b g = M b g) (h3 : ∀ b e, 165 ≤ b → b ≤ 167 → e < 2500 → M' b (2500 * g + e) = M b (2500 * g + e)) (h4 : ∀ e, e < n → M' 146 e = M 146 e) : IG1 n g I' M' := by
  unfold IG1 IGo at h ⊢
  rw [h1 (65 + 5 * g) (by omega) (by omega), h1 (66 + 5 * g) (by omega) (by omega), h1 (67 + 5 * g) (by omega) (by omega), h1 (68 + 5 * g) (by omega) (by omega), h1 (69 + 5 * g) (by omega) (by omega), h2 161 (by omega) (by omega), h2 162 (by omega) (by omega), h2 163 (by omega) (by omega), h2 164 (by omega) (by omega)]
  obtain ⟨a1, a2, a3, a4, a5, a6, a7, a8, ⟨f, b1, b2, b3⟩, k, po, d1, d2, d3, d4⟩ := h
  refine ⟨a1, a2, a3, a4, a5, a6, fun e he => ?_, fun e q1 q2 => ?_, ⟨f, b1, b2, fun e he => ?_⟩, k, po, d1, d2, fun i hi => ?_, fun e he hall => ?_⟩
  · rw [h3 165 e (by omega) (by omega) he, h3 167 e (by omega) (by omega) he]; exact a7 e he
  · rw [h3 165 e (by omega) (by omega) q2, h3 167 e (by omega) (by omega) q2]; exact a8 e q1 q2
  · have := b3 e he
    unfold IGw at this ⊢
    rw [h3 165 e (by omega) (by omega) (by omega), h3 166 e (by omega) (by omega) (by omega), h2 161 (by omega) (by omega), h2 162 (by omega) (by omega), h4 e he]
    exact this
  · have := d3 i hi
    rw [h3 166 (po i) (by omega) (by omega) (by omega)]
    exact this
  · rw [h3 166 e (by omega) (by omega) he]; exact d4 e he hall
/-- a group has changed on both sides -/
theorem InvC_G1 {g : Nat} (hg : g < 8) (h : InvC n t st tm fv I J M K) (hG : IG1 n g I' M') (h1 : ∀ b, 0 < b → b < 145 → ¬ b = 2 → ¬ (65 + 5 * g ≤ b ∧ b ≤ 69 + 5 * g) → I' b = I b) (h2 : ∀ b, 145 < b → b < 161 ∨ 167 < b → M' b = M b) (h3 : ∀ j, j = 2 ∨ j = 13 ∨ j = 22 ∨ j = 32 → M' 145 j = M 145 j)
    (h4 : ∀ b i, 161 ≤ b → b ≤ 164 → ¬ i = g → M' b i = M b i) (h5 : ∀ b i, 165 ≤ b → b ≤ 167 → i < 2500 * g ∨ 2500 * g + 2500 ≤ i → M' b i = M b i) : InvC n t st tm fv I' J M' K := by
  obtain ⟨a, b, c, d, e⟩ := h
  have hn := a.1
  refine ⟨IE_fr a (h1 10 (by omega) (by omega) (by omega) (by omega)) (fun b q1 q2 => h1 b (by omega) (by omega) (by omega) (by omega)) (fun b q1 q2 => h2 b (by omega) (by omega)) (h3 2 (by omega)) (h3 13 (by omega)) rfl rfl,
    ID_fr b (by rw [h1 3 (by omega) (by omega) (by omega) (by omega)]) (fun b q1 q2 => h1 b (by omega) (by omega) (by omega) (by omega)) ⟨h2 158 (by omega) (by omega), h2 159 (by omega) (by omega)⟩ (h3 22 (by omega)) rfl rfl,
    IP_fr c (by rw [h1 7 (by omega) (by omega) (by omega) (by omega)]) (fun b q1 q2 => h1 b (by omega) (by omega) (by omega) (by omega)) ⟨h2 168 (by omega) (by omega), h2 169 (by omega) (by omega)⟩ (h3 32 (by omega)), fun g' hg' => ?_,
    IJ_fr e (fun b q1 q2 => h1 b (by omega) (by omega) (by omega) (by omega)) (fun b q1 q2 => h2 b (by omega) (by omega)) (fun b q1 q2 => rfl) rfl⟩
  by_cases k : g' = g
  · rw [k]; exact hG
  · exact IG1_pw hn (d g' hg') (fun b q1 q2 => h1 b (by omega) (by omega) (by omega) (by omega)) (fun b q1 q2 => h4 b g' q1 q2 k) (fun b e q1 q2 q3 => h5 b _ q1 q2 (by omega)) (fun e he => by rw [h2 146 (by omega) (by omega)])
theorem fo_some {po : Nat → Nat} {k i : Nat} (hi : i < k) (hinj : ∀ j, j < k → po j = po i → j = i) : fo po k (po i) = some i := by
  cases hf : fo po k (po i) with
  | none =>
    have := sk_none hf i (by omega) (by omega)
    simp at this
  | some j =>
    obtain ⟨h1, h2⟩ := fo_lt hf
    rw [hinj j h1 h2]
/-- out is out -/
theorem fo_out {g k p : Nat} {po : Nat → Nat} (hn : n ≤ 2500) (hp : p < n) (h : IGo n g k po I M) : (fo po k p).isSome = mo M g p := by
  obtain ⟨h1, h2, h3, h4⟩ := h
  cases hf : fo po k p with
  | none =>
    have : M 166 (2500 * g + p) = 0 := h4 p (by omega) (fun i hi q => by
      have := sk_none hf i (by omega) (by omega)
      simp [q] at this)
    simp [mo, this]
  | some j =>
    obtain ⟨q1, rfl⟩ := fo_lt hf
    obtain ⟨a1, a2, a3, a4, a5⟩ := h3 j q1
    simp only [mo, a3, decide_eq_false a4]; rfl
/-- one goes: the last one takes its place -/
theorem IGo_drop {g k i : Nat} {po po' : Nat → Nat} (hn : n ≤ 2500) (h : IGo n g k po I M) (hi : i < k) (hq : ∀ j, po' j = if j = i then po (k - 1) else po j) : IGo n g (k - 1) po' (gDr I g k i) (u2 M 166 (2500 * g + po i) 0) := by
  obtain ⟨h1, h2, h3, h4⟩ := h
  have r68 : ∀ j, gDr I g k i (68 + 5 * g) j = if j = i then I (68 + 5 * g) (k - 1) else I (68 + 5 * g) j := fun j => by
    unfold gDr; rw [u2_ne (by omega), u2_at]
    by_cases c : j = i
    · rw [if_pos ⟨rfl, c⟩, if_pos c]
    · rw [if_neg (fun q => c q.2), if_neg c, u2_ne (by omega)]
  have r69 : ∀ j, gDr I g k i (69 + 5 * g) j = if j = i then I (69 + 5 * g) (k - 1) else I (69 + 5 * g) j := fun j => by
    unfold gDr; rw [u2_at]
    by_cases c : j = i
    · rw [if_pos ⟨rfl, c⟩, if_pos c]
    · rw [if_neg (fun q => c q.2), if_neg c, u2_ne (by omega), u2_ne (by omega)]
  have r166 : ∀ e, u2 M 166 (2500 * g + po i) 0 166 (2500 * g + e) = if e = po i then 0 else M 166 (2500 * g + e) := fun e => by
    rw [u2_at]
    by_cases c : e = po i
    · rw [if_pos ⟨rfl, by rw [c]⟩, if_pos c]
    · rw [if_neg (by omega), if_neg c]
  refine ⟨by omega, by unfold gDr; rw [u2_ne (by omega), u2_ne (by omega), u2_at, if_pos ⟨rfl, rfl⟩], fun j hj => ?_, fun e he hall => ?_⟩
  · rw [hq j, r68, r69, r166]
    by_cases c : j = i
    · subst c
      obtain ⟨a1, a2, a3, a4, a5⟩ := h3 (k - 1) (by omega)
      have hne : ¬ po (k - 1) = po j := fun q => by
        have := (h3 j (by omega)).2.2.2.2 (k - 1) (by omega) q
        omega
      rw [if_pos rfl, if_pos rfl, if_pos rfl, if_neg hne]
      refine ⟨a1, a2, a3, a4, fun j' hj' q => ?_⟩
      by_cases c' : j' = j
      · exact c'
      · rw [hq, if_neg c'] at q
        have := a5 j' (by omega) q
        omega
    · obtain ⟨a1, a2, a3, a4, a5⟩ := h3 j (by omega)
      have hne : ¬ po j = po i := fun q => by
        have := (h3 i (by omega)).2.2.2.2 j (by omega) q
        omega
      rw [if_neg c, if_neg c, if_neg c, if_neg hne]
      refine ⟨a1, a2, a3, a4, fun j' hj' q => ?_⟩
      by_cases c' : j' = i
      · rw [hq, if_pos c'] at q
        have := a5 (k - 1) (by omega) q
        omega
      · rw [hq, if_neg c'] at q
        exact a5 j' (by omega) q
  · rw [r166]
    by_cases c : e = po i
    · rw [if_pos c]
    · rw [if_neg c]
      refine h4 e he (fun j hj q => ?_)
      by_cases c1 : j = k - 1
      · by_cases c2 : k - 1 = i
        · exact c (by rw [← q, c1, c2])
        · have := hall i (by omega)
          rw [hq, if_pos rfl] at this
          exact this (by rw [← c1]; exact q)
      · have := hall j (by omega)
        by_cases c2 : j = i
        · exact c (by rw [← q, c2])
        · rw [hq, if_neg c2] at this
          exact this q
/-- one more is out -/
theorem IGo_add {g k p : Nat} {po po' : Nat → Nat} {x : Int32} (hn : n ≤ 2500) (h : IGo n g k po I M) (hk : k < 16) (hp : p < n) (h0 : M 166 (2500 * g + p) = 0) (hx : ¬ x = 0)
    (r4 : I' (65 + 5 * g) 4 = nI (k + 1)) (r68 : ∀ j, I' (68 + 5 * g) j = if j = k then nI p else I (68 + 5 * g) j) (r69 : ∀ j, I' (69 + 5 * g) j = if j = k then x else I (69 + 5 * g) j) (r166 : ∀ e, M' 166 (2500 * g + e) = if e = p then x else M 166 (2500 * g + e)) (hq : ∀ j, po' j = if j = k then p else po j) : IGo n g (k + 1) po' I' M' := by
  obtain ⟨h1, h2, h3, h4⟩ := h
  have hnp : ∀ j, j < k → ¬ po j = p := fun j hj q => by
    obtain ⟨a1, a2, a3, a4, a5⟩ := h3 j hj
    rw [q, h0] at a3
    exact a4 a3.symm
  refine ⟨by omega, r4, fun j hj => ?_, fun e he hall => ?_⟩
  · rw [hq j, r68, r69, r166]
    by_cases c : j = k
    · rw [if_pos c, if_pos c, if_pos c, if_pos rfl]
      refine ⟨hp, rfl, rfl, hx, fun j' hj' q => ?_⟩
      by_cases c' : j' = k
      · omega
      · rw [hq, if_neg c'] at q
        exact absurd q (hnp j' (by omega))
    · obtain ⟨a1, a2, a3, a4, a5⟩ := h3 j (by omega)
      rw [if_neg c, if_neg c, if_neg c, if_neg (hnp j (by omega))]
      refine ⟨a1, a2, a3, a4, fun j' hj' q => ?_⟩
      by_cases c' : j' = k
      · rw [hq, if_pos c'] at q
        exact absurd q.symm (hnp j (by omega))
      · rw [hq, if_neg c'] at q
        exact a5 j' (by omega) q
  · rw [r166]
    by_cases c : e = p
    · have := hall k (by omega)
      rw [hq, if_pos rfl] at this
      exact absurd c.symm this
    · rw [if_neg c]
      refine h4 e he (fun j hj q => ?_)
      have := hall j (by omega)
      rw [hq, if_neg (by omega)] at this
      exact this q
/-- a group: one goes -/
theorem IG1_drop {g k i : Nat} {po : Nat → Nat} (hg : g < 8) (hn : n ≤ 2500) (h : IG1 n g I M) (ho : IGo n g k po I M) (hi : i < k) : IG1 n g (gDr I g k i) (u2 M 166 (2500 * g + po i) 0) := by
  obtain ⟨a1, a2, a3, a4, a5, a6, a7, a8, ⟨f, b1, b2, b3⟩, -⟩ := h
  have q : ∀ b, ¬ b = 166 → u2 M 166 (2500 * g + po i) 0 b = M b := fun b hb => u2_ne hb
  have r5 : ∀ j, ¬ j = 4 → gDr I g k i (65 + 5 * g) j = I (65 + 5 * g) j := fun j hj => by
    unfold gDr; rw [u2_ne (by omega), u2_ne (by omega), u2_at, if_neg (by omega)]
  have r6 : ∀ b, b = 66 ∨ b = 67 → gDr I g k i (b + 5 * g) = I (b + 5 * g) := fun b hb => by
    unfold gDr; rw [u2_ne (by omega), u2_ne (by omega), u2_ne (by omega)]
  unfold IG1
  rw [r5 5 (by omega), r5 6 (by omega), r5 7 (by omega), r5 8 (by omega), r6 66 (by omega), r6 67 (by omega), q 161 (by omega), q 162 (by omega), q 163 (by omega), q 164 (by omega), q 165 (by omega), q 167 (by omega)]
  refine ⟨a1, a2, a3, a4, a5, a6, a7, a8, ⟨f, b1, b2, fun e he => ?_⟩, k - 1, fun j => if j = i then po (k - 1) else po j, IGo_drop hn ho hi (fun _ => rfl)⟩
  have := b3 e he
  unfold IGw at this ⊢
  rw [q 165 (by omega), q 161 (by omega), q 162 (by omega), q 146 (by omega)]
  refine ⟨this.1, fun c => this.2 ?_⟩
  rcases c with c | c
  · exact Or.inl c
  · refine Or.inr (fun c2 => c ?_)
    rw [u2_at]; split
    · rfl
    · exact c2
/-- a group: an event that is wanted gets a mark -/
theorem IG1_mark {g p : Nat} {x : Int32} (hg : g < 8) (hn : n ≤ 2500) (h : IG1 n g I M) (hp : p < n) (hw : ¬ M 166 (2500 * g + p) = 0) (hx : x = 1 ∨ x = 2) : IG1 n g (u2 I (66 + 5 * g) p x) (u2 M 165 (2500 * g + p) x) := by
  obtain ⟨a1, a2, a3, a4, a5, a6, a7, a8, ⟨f, b1, b2, b3⟩, k, po, d1, d2, d3, d4⟩ := h
  have q : ∀ b, ¬ b = 165 → u2 M 165 (2500 * g + p) x b = M b := fun b hb => u2_ne hb
  have r : ∀ b, ¬ b = 66 + 5 * g → u2 I (66 + 5 * g) p x b = I b := fun b hb => u2_ne hb
  have q5 : ∀ e, u2 M 165 (2500 * g + p) x 165 (2500 * g + e) = if e = p then x else M 165 (2500 * g + e) := fun e => by
    rw [u2_at]
    by_cases c : e = p
    · rw [if_pos ⟨rfl, by rw [c]⟩, if_pos c]
    · rw [if_neg (by omega), if_neg c]
  have q6 : ∀ e, u2 I (66 + 5 * g) p x (66 + 5 * g) e = if e = p then x else I (66 + 5 * g) e := fun e => by
    rw [u2_at]; simp only [true_and]
  unfold IG1 IGo
  rw [r (65 + 5 * g) (by omega), r (67 + 5 * g) (by omega), r (68 + 5 * g) (by omega), r (69 + 5 * g) (by omega), q 161 (by omega), q 162 (by omega), q 163 (by omega), q 164 (by omega), q 166 (by omega), q 167 (by omega)]
  refine ⟨a1, a2, a3, a4, a5, a6, fun e he => ?_, fun e q1 q2 => ?_, ⟨f, b1, b2, fun e he => ?_⟩, k, po, d1, d2, d3, d4⟩
  · rw [q5, q6]
    by_cases c : e = p
    · rw [if_pos c, if_pos c]; exact ⟨rfl, (a7 e he).2⟩
    · rw [if_neg c, if_neg c]; exact a7 e he
  · rw [q5, if_neg (by omega)]; exact a8 e q1 q2
  · have := b3 e he
    unfold IGw at this ⊢
    rw [q5, q 166 (by omega), q 161 (by omega), q 162 (by omega), q 146 (by omega)]
    by_cases c : e = p
    · subst c
      rw [if_pos rfl]
      exact ⟨Or.inr hx, fun _ => this.2 (Or.inr hw)⟩
    · rw [if_neg c]; exact this
end
