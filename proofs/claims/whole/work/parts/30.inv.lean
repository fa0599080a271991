/-! What couples the class's cells (1 to 144) with the model's (145 to 183). -/
def bI (x : Int32) : Prop := x = 0 ∨ x = 1
/-- the number of an event in its stream -/
abbrev nm (st : Nat → Nat) (e : Nat) : Nat := cn (fun i => decide (st i = st e)) e
/-- how many events a stream has among n -/
abbrev ct (st : Nat → Nat) (s n : Nat) : Nat := cn (fun i => decide (st i = s)) n
/-- the model's reason to hide an event of stream s -/
def hideC (I : Nat → Nat → Int32) (s e : Nat) : Prop :=
  I 147 e < I 156 s ∨ (¬ I 154 s = 0 ∧ I 147 e ≤ I 153 s - I 154 s) ∨ (¬ I 155 s = 0 ∧ I 155 s ≤ I 145 2 - I 151 e) ∨ ¬ I 157 s = 0
/-- events, streams, the time: n events, time t; streams, times, first visible numbers -/
def IE (n t : Nat) (st tm fv : Nat → Nat) (I : Nat → Nat → Int32) (J : Nat → Nat → Int64) : Prop :=
  n ≤ 2500 ∧ t ≤ 1000000 ∧ I 10 7 = nI n ∧ I 145 13 = nI n ∧ I 10 8 = nI t ∧ I 145 2 = nI t ∧
  (I 11 = I 146 ∧ I 12 = I 147 ∧ I 13 = I 148 ∧ I 14 = I 149 ∧ J 15 = J 150 ∧ I 16 = I 151) ∧
  (∀ e, e < n → st e < 40 ∧ I 146 e = nI (st e) ∧ I 147 e = nI (nm st e) ∧ tm e ≤ t ∧ I 151 e = nI (tm e) ∧ (∀ i, i < e → tm i ≤ tm e) ∧ I 152 e = (if nm st e < fv (st e) then 1 else 0) ∧ (∃ ty, ty < 16 ∧ I 149 e = nI ty) ∧ (hideC I (st e) e → nm st e < fv (st e))) ∧
  (∀ s, s < 40 → I (18 + s) 0 = I 153 s ∧ I 153 s = nI (ct st s n) - 1 ∧ I (18 + s) 1 = I 154 s ∧ I (18 + s) 2 = I 155 s ∧ I (18 + s) 3 = I 156 s ∧ I (18 + s) 4 = I 157 s ∧ 0 ≤ I 154 s ∧ 0 ≤ I 155 s ∧ 0 ≤ I 156 s ∧ bI (I 157 s) ∧ I (18 + s) 5 = nI (fv s) ∧ fv s ≤ ct st s n)
/-- the draft -/
def ID (I : Nat → Nat → Int32) (J : Nat → Nat → Int64) : Prop :=
  ∃ d, d ≤ 8 ∧ I 3 3 = nI d ∧ I 145 22 = nI d ∧ I 4 = I 158 ∧ I 5 = I 159 ∧ J 6 = J 160 ∧ ∀ i, i < d → ∃ ty, ty < 16 ∧ I 159 i = nI ty
/-- the disk -/
def IK (I : Nat → Nat → Int32) : Prop :=
  bI (I 145 1) ∧ I 2 0 = I 145 1 ∧ I 2 1 = I 145 3 ∧ (∃ b, b ≤ 100000 ∧ I 145 3 = nI b) ∧ I 2 2 = I 145 4 ∧ (I 145 1 = 1 → I 2 3 = I 145 5) ∧ -1 ≤ I 145 5
/-- an instruction as 'code' takes it -/
def okOp (op a : Int32) : Prop := (∃ k, k < 20 ∧ op = nI k) ∧ (op = 5 ∨ op = 6 → ∃ k, k < 4 ∧ a = nI k) ∧ (op = 18 → ∃ k, k < 16 ∧ a = nI k)
/-- the program that is put together -/
def IP (I : Nat → Nat → Int32) : Prop :=
  ∃ c, c ≤ 64 ∧ I 7 2 = nI c ∧ I 145 32 = nI c ∧ I 8 = I 168 ∧ I 9 = I 169 ∧ ∀ i, i < c → okOp (I 168 i) (I 169 i)
/-- a group -/
def IG1 (n g : Nat) (I : Nat → Nat → Int32) : Prop :=
  I (65 + 5 * g) 5 = I 161 g ∧ bI (I 161 g) ∧ I (65 + 5 * g) 6 = I 162 g ∧ I (65 + 5 * g) 7 = I 163 g ∧ I (65 + 5 * g) 8 = I 164 g ∧ (∃ f, f ≤ 2500 ∧ I 163 g = nI f) ∧ (I 162 g = -1 ∨ ∃ s, s < 40 ∧ I 162 g = nI s) ∧
  (∀ e, e < 2500 → I (66 + 5 * g) e = I 165 (2500 * g + e) ∧ I (67 + 5 * g) e = I 167 (2500 * g + e)) ∧
  (∀ e, n ≤ e → e < 2500 → I 165 (2500 * g + e) = 0 ∧ I 167 (2500 * g + e) = 0) ∧
  ∃ k, k ≤ 16 ∧ I (65 + 5 * g) 4 = nI k ∧ ∃ po : Nat → Nat, (∀ i, i < k → po i < n ∧ I (68 + 5 * g) i = nI (po i) ∧ I 166 (2500 * g + po i) = I (69 + 5 * g) i ∧ ¬ I (69 + 5 * g) i = 0 ∧ ∀ j, j < k → po j = po i → j = i) ∧
    ∀ e, e < 2500 → (∀ i, i < k → ¬ po i = e) → I 166 (2500 * g + e) = 0
def IG (n : Nat) (I : Nat → Nat → Int32) : Prop := ∀ g, g < 8 → IG1 n g I
/-- a projection -/
def IJ1 (n p : Nat) (I : Nat → Nat → Int32) (J : Nat → Nat → Int64) : Prop :=
  I (105 + 5 * p) 2 = I 170 p ∧ bI (I 170 p) ∧ (I 170 p = 1 →
    (∃ c, c ≤ 64 ∧ I (106 + 5 * p) 2 = nI c ∧ I 171 p = nI c ∧ ∀ i, i < c → I (107 + 5 * p) i = I 172 (64 * p + i) ∧ I (108 + 5 * p) i = I 173 (64 * p + i) ∧ okOp (I 172 (64 * p + i)) (I 173 (64 * p + i)) ∧ (I 172 (64 * p + i) = 16 ∨ I 172 (64 * p + i) = 17 → ∃ k, k ≤ c ∧ I 173 (64 * p + i) = nI k)) ∧
    I (105 + 5 * p) 3 = I 174 p ∧ I (105 + 5 * p) 4 = I 175 p ∧ I (105 + 5 * p) 5 = I 176 p ∧ bI (I 176 p) ∧ I (105 + 5 * p) 6 = I 177 p ∧ (∃ k, k ≤ n ∧ I 177 p = nI k) ∧ I (105 + 5 * p) 7 = I 178 p ∧ bI (I 178 p) ∧
    ∀ i, i < 128 → J (109 + 5 * p) i = J 179 (128 * p + i))
def IJ (n : Nat) (I : Nat → Nat → Int32) (J : Nat → Nat → Int64) : Prop := ∀ p, p < 8 → IJ1 n p I J
/-- the whole of it -/
def Inv (n t : Nat) (st tm fv : Nat → Nat) (I : Nat → Nat → Int32) (J : Nat → Nat → Int64) : Prop :=
  IE n t st tm fv I J ∧ ID I J ∧ IK I ∧ IP I ∧ IG n I ∧ IJ n I J
section
variable {n t : Nat} {st tm fv : Nat → Nat} {I I' : Nat → Nat → Int32} {J J' : Nat → Nat → Int64}
theorem hideC_fr {s e : Nat} (h1 : ∀ b, 146 ≤ b → b ≤ 157 → I' b = I b) (h2 : I' 145 2 = I 145 2) : hideC I' s e ↔ hideC I s e := by
  unfold hideC
  rw [h1 147 (by omega) (by omega), h1 156 (by omega) (by omega), h1 154 (by omega) (by omega), h1 153 (by omega) (by omega), h1 155 (by omega) (by omega), h1 151 (by omega) (by omega), h1 157 (by omega) (by omega), h2]
theorem IE_fr (h : IE n t st tm fv I J) (h0 : I' 10 = I 10) (h1 : ∀ b, 11 ≤ b → b < 58 → I' b = I b) (h2 : ∀ b, 146 ≤ b → b ≤ 157 → I' b = I b) (h3 : I' 145 2 = I 145 2) (h4 : I' 145 13 = I 145 13) (h5 : J' 15 = J 15) (h6 : J' 150 = J 150) : IE n t st tm fv I' J' := by
  obtain ⟨a1, a2, a3, a4, a5, a6, ⟨b1, b2, b3, b4, b5, b6⟩, a7, a8⟩ := h
  refine ⟨a1, a2, by rw [h0]; exact a3, by rw [h4]; exact a4, by rw [h0]; exact a5, by rw [h3]; exact a6, ⟨?_, ?_, ?_, ?_, ?_, ?_⟩, fun e he => ?_, fun s hs => ?_⟩
  · rw [h1 11 (by omega) (by omega), h2 146 (by omega) (by omega)]; exact b1
  · rw [h1 12 (by omega) (by omega), h2 147 (by omega) (by omega)]; exact b2
  · rw [h1 13 (by omega) (by omega), h2 148 (by omega) (by omega)]; exact b3
  · rw [h1 14 (by omega) (by omega), h2 149 (by omega) (by omega)]; exact b4
  · rw [h5, h6]; exact b5
  · rw [h1 16 (by omega) (by omega), h2 151 (by omega) (by omega)]; exact b6
  · have := a7 e he
    rw [hideC_fr h2 h3, h2 146 (by omega) (by omega), h2 147 (by omega) (by omega), h2 151 (by omega) (by omega), h2 152 (by omega) (by omega), h2 149 (by omega) (by omega)]
    exact this
  · have := a8 s hs
    rw [h1 (18 + s) (by omega) (by omega), h2 153 (by omega) (by omega), h2 154 (by omega) (by omega), h2 155 (by omega) (by omega), h2 156 (by omega) (by omega), h2 157 (by omega) (by omega)]
    exact this
theorem ID_fr (h : ID I J) (h1 : ∀ b, 3 ≤ b → b ≤ 6 → I' b = I b) (h2 : I' 158 = I 158 ∧ I' 159 = I 159) (h3 : I' 145 22 = I 145 22) (h4 : J' 6 = J 6) (h5 : J' 160 = J 160) : ID I' J' := by
  unfold ID at h ⊢
  rw [h1 3 (by omega) (by omega), h1 4 (by omega) (by omega), h1 5 (by omega) (by omega), h2.1, h2.2, h3, h4, h5]
  exact h
theorem IK_fr (h : IK I) (h1 : I' 2 = I 2) (h2 : I' 145 1 = I 145 1) (h3 : I' 145 3 = I 145 3) (h4 : I' 145 4 = I 145 4) (h5 : I' 145 5 = I 145 5) : IK I' := by
  unfold IK at h ⊢
  rw [h1, h2, h3, h4, h5]
  exact h
theorem IP_fr (h : IP I) (h1 : ∀ b, 7 ≤ b → b ≤ 9 → I' b = I b) (h2 : I' 168 = I 168 ∧ I' 169 = I 169) (h3 : I' 145 32 = I 145 32) : IP I' := by
  unfold IP at h ⊢
  rw [h1 7 (by omega) (by omega), h1 8 (by omega) (by omega), h1 9 (by omega) (by omega), h2.1, h2.2, h3]
  exact h
theorem IG1_fr {g : Nat} (hg : g < 8) (h : IG1 n g I) (h1 : ∀ b, 65 + 5 * g ≤ b → b ≤ 69 + 5 * g → I' b = I b) (h2 : ∀ b, 161 ≤ b → b ≤ 167 → I' b = I b) : IG1 n g I' := by
  unfold IG1 at h ⊢
  rw [h1 (65 + 5 * g) (by omega) (by omega), h1 (66 + 5 * g) (by omega) (by omega), h1 (67 + 5 * g) (by omega) (by omega), h1 (68 + 5 * g) (by omega) (by omega), h1 (69 + 5 * g) (by omega) (by omega), h2 161 (by omega) (by omega), h2 162 (by omega) (by omega), h2 163 (by omega) (by omega), h2 164 (by omega) (by omega), h2 165 (by omega) (by omega), h2 166 (by omega) (by omega), h2 167 (by omega) (by omega)]
  exact h
theorem IG_fr (h : IG n I) (h1 : ∀ b, 65 ≤ b → b < 105 → I' b = I b) (h2 : ∀ b, 161 ≤ b → b ≤ 167 → I' b = I b) : IG n I' :=
  fun g hg => IG1_fr hg (h g hg) (fun b q1 q2 => h1 b (by omega) (by omega)) h2
theorem IJ1_fr {p : Nat} (hp : p < 8) (h : IJ1 n p I J) (h1 : ∀ b, 105 + 5 * p ≤ b → b ≤ 109 + 5 * p → I' b = I b) (h2 : ∀ b, 170 ≤ b → b ≤ 178 → I' b = I b) (h3 : J' (109 + 5 * p) = J (109 + 5 * p)) (h4 : J' 179 = J 179) : IJ1 n p I' J' := by
  unfold IJ1 at h ⊢
  rw [h1 (105 + 5 * p) (by omega) (by omega), h1 (106 + 5 * p) (by omega) (by omega), h1 (107 + 5 * p) (by omega) (by omega), h1 (108 + 5 * p) (by omega) (by omega), h2 170 (by omega) (by omega), h2 171 (by omega) (by omega), h2 172 (by omega) (by omega), h2 173 (by omega) (by omega), h2 174 (by omega) (by omega), h2 175 (by omega) (by omega), h2 176 (by omega) (by omega), h2 177 (by omega) (by omega), h2 178 (by omega) (by omega), h3, h4]
  exact h
theorem IJ_fr (h : IJ n I J) (h1 : ∀ b, 105 ≤ b → b < 145 → I' b = I b) (h2 : ∀ b, 170 ≤ b → b ≤ 178 → I' b = I b) (h3 : ∀ b, 105 ≤ b → b < 145 → J' b = J b) (h4 : J' 179 = J 179) : IJ n I' J' :=
  fun p hp => IJ1_fr hp (h p hp) (fun b q1 q2 => h1 b (by omega) (by omega)) h2 (h3 _ (by omega) (by omega)) h4
end
