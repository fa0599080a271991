/-! Groups: the class's methods. -/
section
variable {L h z n t : Nat} {st tm fv fv' : Nat → Nat} {I I' M M' : rI} {J K J' K' : rJ}
def gMk (I : rI) (g : Nat) (s f r : Int32) : rI := u1 (u2 (u1 (u2 (u2 (u2 (u2 I (65 + 5 * g) 5 1) (65 + 5 * g) 6 s) (65 + 5 * g) 7 f) (65 + 5 * g) 8 r) (66 + 5 * g) (fun j => if j < 2500 then 0 else I (66 + 5 * g) j)) (65 + 5 * g) 4 0) (67 + 5 * g) (fun j => if j < 2500 then 0 else I (67 + 5 * g) j)
theorem s26 {g : Nat} {s f r : Int32} (hg : g < 8) : dU 26 [.ref (65 + 5 * g), .int s, .int f, .int r] L h z I J (gMk I g s f r) J := by
  have e1 := s155 (L := L) (h := h) (z := z) (I := u2 (u2 (u2 (u2 I (65 + 5 * g) 5 1) (65 + 5 * g) 6 s) (65 + 5 * g) 7 f) (65 + 5 * g) 8 r) (J := J) (x := 0) (aK_g1 hg) (by omega)
  have e2 := s27 (L := L) (h := h) (z := z) (I := u1 (u2 (u2 (u2 (u2 I (65 + 5 * g) 5 1) (65 + 5 * g) 6 s) (65 + 5 * g) 7 f) (65 + 5 * g) 8 r) (66 + 5 * g) (fun j => if j < 2500 then 0 else I (66 + 5 * g) j)) (J := J) hg
  have k1 : ∀ j, u2 (u2 (u2 (u2 I (65 + 5 * g) 5 1) (65 + 5 * g) 6 s) (65 + 5 * g) 7 f) (65 + 5 * g) 8 r (66 + 5 * g) j = I (66 + 5 * g) j := fun j => by
    rw [u2_ne (by omega), u2_ne (by omega), u2_ne (by omega), u2_ne (by omega)]
  have k2 : ∀ j, u1 (u2 (u2 (u2 (u2 I (65 + 5 * g) 5 1) (65 + 5 * g) 6 s) (65 + 5 * g) 7 f) (65 + 5 * g) 8 r) (66 + 5 * g) (fun j => if j < 2500 then 0 else I (66 + 5 * g) j) (67 + 5 * g) j = I (67 + 5 * g) j := fun j => by
    rw [u1_ne (by omega), u2_ne (by omega), u2_ne (by omega), u2_ne (by omega), u2_ne (by omega)]
  simp only [k1] at e1
  simp only [k2] at e2
  refine r26_0 (sG hg) ⟨_, _, ?_, _, _, e2, rfl, rfl⟩
  rw [(R0_g hg).1]
  exact e1
/-- the place of a position among those that are out -/
abbrev fo (po : Nat → Nat) (k p : Nat) : Option Nat := sk (fun i => decide (po i = p)) k 0
theorem s37_loop {g k p : Nat} {po : Nat → Nat} (hg : g < 8) (hk : k ≤ 16) (hp : p < 2147483648) (h4 : I (65 + 5 * g) 4 = nI k) (hpo : ∀ i, i < k → po i < 2500 ∧ I (68 + 5 * g) i = nI (po i)) : ∀ m j, j + m = k →
    Run 37 2 [(0, .ref (65 + 5 * g)), (1, .int (nI p)), (2, .int (nI j))] [] (mS L I J h z) (.inl (some (.int (oI (sk (fun i => decide (po i = p)) m j))))) (mS L I J h z) := by
  intro m
  induction m with
  | zero =>
    intro j hj
    refine r37_2 (sG hg) ⟨fun _ => ⟨rfl, rfl⟩, fun c => absurd ?_ c⟩
    rw [h4]; exact nI_le (by omega) (by omega)
  | succ m ih =>
    intro j hj
    obtain ⟨a1, a2⟩ := hpo j (by omega)
    refine r37_2 (sG hg) ⟨fun c => ?_, fun _ => ⟨vp_in_nI (by omega) (by omega), fun c => ?_, fun c => ?_⟩⟩
    · rw [h4] at c; exact absurd ((nI_leI (by omega) (by omega)).mp c) (by omega)
    · rw [(R0_g hg).2.2.1, cl j (by omega), a2] at c
      have : ¬ po j = p := fun q => c (by rw [q])
      rw [nI_1, sk, if_neg (by simpa using this)]
      exact ih (j + 1) (by omega)
    · rw [(R0_g hg).2.2.1, cl j (by omega), a2] at c
      have := nI_inj (by omega) (by omega) c
      rw [sk, if_pos (by simpa using this)]
      exact ⟨rfl, rfl⟩
theorem s37 {g k p : Nat} {po : Nat → Nat} (hg : g < 8) (hk : k ≤ 16) (hp : p < 2147483648) (h4 : I (65 + 5 * g) 4 = nI k) (hpo : ∀ i, i < k → po i < 2500 ∧ I (68 + 5 * g) i = nI (po i)) :
    dP 37 [.ref (65 + 5 * g), .int (nI p)] L h z I J (oI (fo po k p)) :=
  r37_0 (sG hg) (s37_loop hg hk hp h4 hpo k 0 (by omega))
theorem oI_m1 {r : Option Nat} (hr : ∀ j, r = some j → j < 2147483648) : oI r = -1 ↔ r = none := by
  cases r with
  | none => simp [oI]
  | some j =>
    have := hr j rfl
    simp only [oI, ti_eq, ti_nI, Int32.reduceToInt]
    constructor
    · intro q; omega
    · intro q; cases q
theorem fo_lt {po : Nat → Nat} {k p j : Nat} (h : fo po k p = some j) : j < k ∧ po j = p := by
  obtain ⟨_, h2, h3, _⟩ := sk_some h
  exact ⟨by omega, by simpa using h3⟩
theorem s29 {g k p : Nat} {po : Nat → Nat} (hg : g < 8) (hk : k ≤ 16) (hp : p < 2147483648) (h4 : I (65 + 5 * g) 4 = nI k) (hpo : ∀ i, i < k → po i < 2500 ∧ I (68 + 5 * g) i = nI (po i)) :
    dP 29 [.ref (65 + 5 * g), .int (nI p)] L h z I J (bb (fo po k p).isSome) := by
  have hm := oI_m1 (r := fo po k p) (fun j hj => by have := (fo_lt hj).1; omega)
  refine r29_0 (sG hg) ⟨_, s37 hg hk hp h4 hpo, fun c => ?_, fun c => ?_⟩
  · rw [hm.mp c]; exact ⟨rfl, rfl⟩
  · cases hf : fo po k p with
    | none => exact absurd (hm.mpr hf) c
    | some j => exact ⟨rfl, rfl⟩
def gDr (I : rI) (g k i : Nat) : rI := u2 (u2 (u2 I (65 + 5 * g) 4 (nI (k - 1))) (68 + 5 * g) i (I (68 + 5 * g) (k - 1))) (69 + 5 * g) i (I (69 + 5 * g) (k - 1))
theorem s38 {g k i : Nat} (hg : g < 8) (hk : k ≤ 16) (hi : i < k) (h4 : I (65 + 5 * g) 4 = nI k) : dU 38 [.ref (65 + 5 * g), .int (nI i)] L h z I J (gDr I g k i) J := by
  have e0 : nI k - 1 = nI (k - 1) := by rw [show (1 : Int32) = nI 1 from rfl, nI_sub (by omega) (by omega)]
  refine r38_0 (sG hg) ⟨fun _ => ?_, fun c => ?_⟩
  · rw [(R0_g hg).2.2.1, (R0_g hg).2.2.2, cl i (by omega), h4, e0]
    have k4 : u2 I (65 + 5 * g) 4 (nI (k - 1)) (65 + 5 * g) 4 = nI (k - 1) := by rw [u2_at, if_pos ⟨rfl, rfl⟩]
    have k68 : ∀ j, u2 I (65 + 5 * g) 4 (nI (k - 1)) (68 + 5 * g) j = I (68 + 5 * g) j := fun j => by rw [u2_ne (by omega)]
    rw [k4, cl (k - 1) (by omega), k68]
    have k42 : u2 (u2 I (65 + 5 * g) 4 (nI (k - 1))) (68 + 5 * g) i (I (68 + 5 * g) (k - 1)) (65 + 5 * g) 4 = nI (k - 1) := by rw [u2_ne (by omega), k4]
    have k69 : u2 (u2 I (65 + 5 * g) 4 (nI (k - 1))) (68 + 5 * g) i (I (68 + 5 * g) (k - 1)) (69 + 5 * g) (k - 1) = I (69 + 5 * g) (k - 1) := by rw [u2_ne (by omega), u2_ne (by omega)]
    rw [k42, cl (k - 1) (by omega), k69]
    exact ⟨vp_in_nI (by omega) (by omega), vp_in_nI (by omega) (by omega), vp_in_nI (by omega) (by omega), rfl, rfl⟩
  · simp only [ti_eq, ti_nI, Int32.reduceToInt] at c
    omega
theorem s30 {g p : Nat} (hg : g < 8) (hp : p < 2500) : dP 30 [.ref (65 + 5 * g), .int (nI p)] L h z I J (bb (!decide (I (67 + 5 * g) p ≤ I (65 + 5 * g) 8))) := by
  refine r30_0 (sG hg) ⟨vp_in_nI hp (by omega), fun c => ?_, fun c => ?_⟩
  · rw [(R0_g hg).2.1, cl p (by omega)] at c
    rw [decide_eq_true c]; exact ⟨rfl, rfl⟩
  · rw [(R0_g hg).2.1, cl p (by omega)] at c
    rw [decide_eq_false c]; exact ⟨rfl, rfl⟩
theorem s31 {g k p i : Nat} {po : Nat → Nat} (hg : g < 8) (hk : k ≤ 16) (hp : p < 2500) (h4 : I (65 + 5 * g) 4 = nI k) (hpo : ∀ i, i < k → po i < 2500 ∧ I (68 + 5 * g) i = nI (po i)) (hf : fo po k p = some i) :
    dU 31 [.ref (65 + 5 * g), .int (nI p)] L h z I J (u2 (gDr I g k i) (66 + 5 * g) p 1) J := by
  have h37 := s37 (L := L) (h := h) (z := z) (J := J) hg hk (p := p) (by omega) h4 hpo
  rw [hf] at h37
  refine r31_0 (sG hg) ⟨_, h37, _, _, s38 hg hk (fo_lt hf).1 h4, vp_in_nI hp (by omega), ?_⟩
  rw [(R0_g hg).1, cl p (by omega)]
  exact ⟨rfl, rfl⟩
theorem s32 {g k p i : Nat} {po : Nat → Nat} (hg : g < 8) (hk : k ≤ 16) (hp : p < 2500) (h4 : I (65 + 5 * g) 4 = nI k) (hpo : ∀ i, i < k → po i < 2500 ∧ I (68 + 5 * g) i = nI (po i)) (hf : fo po k p = some i) :
    dU 32 [.ref (65 + 5 * g), .int (nI p)] L h z I J (if I (67 + 5 * g) p ≤ I (65 + 5 * g) 8 then gDr I g k i else u2 (gDr I g k i) (66 + 5 * g) p 2) J := by
  have h37 := s37 (L := L) (h := h) (z := z) (J := J) hg hk (p := p) (by omega) h4 hpo
  rw [hf] at h37
  have h30 := s30 (L := L) (h := h) (z := z) (I := gDr I g k i) (J := J) hg hp
  have e1 : gDr I g k i (67 + 5 * g) p = I (67 + 5 * g) p := by unfold gDr; rw [u2_ne (by omega), u2_ne (by omega), u2_ne (by omega)]
  have e2 : gDr I g k i (65 + 5 * g) 8 = I (65 + 5 * g) 8 := by unfold gDr; rw [u2_ne (by omega), u2_ne (by omega), u2_at, if_neg (by omega)]
  rw [e1, e2] at h30
  refine r32_0 (sG hg) ⟨_, h37, _, _, s38 hg hk (fo_lt hf).1 h4, _, h30, fun c => ?_, fun c => ⟨vp_in_nI hp (by omega), ?_⟩⟩
  · have c := b_eq.mp c
    rw [if_pos (by simpa using c)]
    exact ⟨rfl, rfl⟩
  · have c := b_ne.mp c
    rw [if_neg (by simpa using c), (R0_g hg).1, cl p (by omega)]
    exact ⟨rfl, rfl⟩
end
