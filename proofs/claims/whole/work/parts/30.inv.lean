/-! What couples the class's cells (1 to 144 of I, J) with the model's (145 to 183 of M, K). -/
abbrev rI : Type := Nat → Nat → Int32
abbrev rJ : Type := Nat → Nat → Int64
def bI (x : Int32) : Prop := x = 0 ∨ x = 1
/-- the number of an event in its stream -/
abbrev nm (st : Nat → Nat) (e : Nat) : Nat := cn (fun i => decide (st i = st e)) e
/-- how many events a stream has among n -/
abbrev ct (st : Nat → Nat) (s n : Nat) : Nat := cn (fun i => decide (st i = s)) n
/-- the reason to hide an event: most, age, from, ended, version of its stream; the time; its number and time -/
def hcP (mo ag fr en ve now nu ca : Int32) : Prop := nu < fr ∨ (¬ mo = 0 ∧ nu ≤ ve - mo) ∨ (¬ ag = 0 ∧ ag ≤ now - ca) ∨ ¬ en = 0
/-- the model's reason to hide an event of stream s -/
def hideC (M : rI) (s e : Nat) : Prop := hcP (M 154 s) (M 155 s) (M 156 s) (M 157 s) (M 153 s) (M 145 2) (M 147 e) (M 151 e)
def IEe (t : Nat) (st tm fv : Nat → Nat) (M : rI) (e : Nat) : Prop :=
  st e < 40 ∧ M 146 e = nI (st e) ∧ M 147 e = nI (nm st e) ∧ tm e ≤ t ∧ M 151 e = nI (tm e) ∧ (∀ i, i < e → tm i ≤ tm e) ∧ M 152 e = (if nm st e < fv (st e) then 1 else 0) ∧ ∃ ty, ty < 16 ∧ M 149 e = nI ty
def IEs (n : Nat) (st fv : Nat → Nat) (I M : rI) (s : Nat) : Prop :=
  I (18 + s) 0 = M 153 s ∧ M 153 s = nI (ct st s n) - 1 ∧ I (18 + s) 1 = M 154 s ∧ I (18 + s) 2 = M 155 s ∧ I (18 + s) 3 = M 156 s ∧ I (18 + s) 4 = M 157 s ∧ 0 ≤ M 154 s ∧ 0 ≤ M 155 s ∧ 0 ≤ M 156 s ∧ bI (M 157 s) ∧ I (18 + s) 5 = nI (fv s) ∧ fv s ≤ ct st s n
/-- events, streams, the time: n events, time t; streams, times, first visible numbers -/
def IE (n t : Nat) (st tm fv : Nat → Nat) (I : rI) (J : rJ) (M : rI) (K : rJ) : Prop :=
  n ≤ 2500 ∧ t ≤ 1000000 ∧ I 10 7 = nI n ∧ M 145 13 = nI n ∧ I 10 8 = nI t ∧ M 145 2 = nI t ∧
  (I 11 = M 146 ∧ I 12 = M 147 ∧ I 13 = M 148 ∧ I 14 = M 149 ∧ J 15 = K 150 ∧ I 16 = M 151) ∧
  (∀ e, e < n → IEe t st tm fv M e) ∧ ∀ s, s < 40 → IEs n st fv I M s
/-- what there is reason to hide is hidden, in some streams -/
def HC (S : Nat → Prop) (n : Nat) (st fv : Nat → Nat) (M : rI) : Prop := ∀ e, e < n → S (st e) → hideC M (st e) e → nm st e < fv (st e)
/-- the draft -/
def ID (I : rI) (J : rJ) (M : rI) (K : rJ) : Prop :=
  ∃ d, d ≤ 8 ∧ I 3 3 = nI d ∧ M 145 22 = nI d ∧ I 4 = M 158 ∧ I 5 = M 159 ∧ J 6 = K 160 ∧ ∀ i, i < d → ∃ ty, ty < 16 ∧ M 159 i = nI ty
/-- the disk -/
def IK (I M : rI) : Prop :=
  bI (M 145 1) ∧ I 2 0 = M 145 1 ∧ I 2 1 = M 145 3 ∧ (∃ b, b ≤ 100000 ∧ M 145 3 = nI b) ∧ I 2 2 = M 145 4 ∧ (M 145 1 = 1 → I 2 3 = M 145 5) ∧ -1 ≤ M 145 5
/-- the disk, when a record was written and it isn't settled yet if power fails (p: the byte at which) -/
def IKm (p : Int32) (I M : rI) : Prop :=
  M 145 1 = 1 ∧ I 2 0 = (if p = -1 then 1 else 0) ∧ I 2 1 = M 145 3 ∧ (∃ b, b ≤ 100000 ∧ M 145 3 = nI b) ∧ I 2 2 = M 145 4 ∧ I 2 3 = p ∧ M 145 5 = p ∧ -1 ≤ p ∧ M 145 43 = (if p = -1 then 0 else 1)
/-- an instruction as 'code' takes it -/
def okOp (op a : Int32) : Prop := (∃ k, k < 20 ∧ op = nI k) ∧ (op = 5 ∨ op = 6 → ∃ k, k < 4 ∧ a = nI k) ∧ (op = 18 → ∃ k, k < 16 ∧ a = nI k)
/-- the program that is put together -/
def IP (I M : rI) : Prop :=
  ∃ c, c ≤ 64 ∧ I 7 2 = nI c ∧ M 145 32 = nI c ∧ I 8 = M 168 ∧ I 9 = M 169 ∧ ∀ i, i < c → okOp (M 168 i) (M 169 i)
/-- what is out of a group: k of them, at the positions po -/
def IGo (n g k : Nat) (po : Nat → Nat) (I M : rI) : Prop :=
  k ≤ 16 ∧ I (65 + 5 * g) 4 = nI k ∧ (∀ i, i < k → po i < n ∧ I (68 + 5 * g) i = nI (po i) ∧ M 166 (2500 * g + po i) = I (69 + 5 * g) i ∧ ¬ I (69 + 5 * g) i = 0 ∧ ∀ j, j < k → po j = po i → j = i) ∧
  ∀ e, e < 2500 → (∀ i, i < k → ¬ po i = e) → M 166 (2500 * g + e) = 0
/-- what a group wants -/
def IGw (g f : Nat) (M : rI) (e : Nat) : Prop :=
  (M 165 (2500 * g + e) = 0 ∨ M 165 (2500 * g + e) = 1 ∨ M 165 (2500 * g + e) = 2) ∧ (¬ M 165 (2500 * g + e) = 0 ∨ ¬ M 166 (2500 * g + e) = 0 → M 161 g = 1 ∧ f ≤ e ∧ (M 162 g = -1 ∨ M 162 g = M 146 e))
/-- a group -/
def IG1 (n g : Nat) (I M : rI) : Prop :=
  I (65 + 5 * g) 5 = M 161 g ∧ bI (M 161 g) ∧ I (65 + 5 * g) 6 = M 162 g ∧ I (65 + 5 * g) 7 = M 163 g ∧ I (65 + 5 * g) 8 = M 164 g ∧ (M 162 g = -1 ∨ ∃ s, s < 40 ∧ M 162 g = nI s) ∧
  (∀ e, e < 2500 → I (66 + 5 * g) e = M 165 (2500 * g + e) ∧ I (67 + 5 * g) e = M 167 (2500 * g + e)) ∧
  (∀ e, n ≤ e → e < 2500 → M 165 (2500 * g + e) = 0 ∧ M 167 (2500 * g + e) = 0) ∧
  (∃ f, f ≤ 2500 ∧ M 163 g = nI f ∧ ∀ e, e < n → IGw g f M e) ∧
  ∃ k po, IGo n g k po I M
def IG (n : Nat) (I M : rI) : Prop := ∀ g, g < 8 → IG1 n g I M
/-- a projection that was made -/
def IJm (n p : Nat) (I : rI) (J : rJ) (M : rI) (K : rJ) : Prop :=
    (∃ c, c ≤ 64 ∧ I (106 + 5 * p) 2 = nI c ∧ M 171 p = nI c ∧ ∀ i, i < c → I (107 + 5 * p) i = M 172 (64 * p + i) ∧ I (108 + 5 * p) i = M 173 (64 * p + i) ∧ okOp (M 172 (64 * p + i)) (M 173 (64 * p + i)) ∧ (M 172 (64 * p + i) = 16 ∨ M 172 (64 * p + i) = 17 → ∃ k, k ≤ c ∧ M 173 (64 * p + i) = nI k)) ∧
    I (105 + 5 * p) 3 = M 174 p ∧ I (105 + 5 * p) 4 = M 175 p ∧ I (105 + 5 * p) 5 = M 176 p ∧ bI (M 176 p) ∧ I (105 + 5 * p) 6 = M 177 p ∧ (∃ k, k ≤ n ∧ M 177 p = nI k) ∧ I (105 + 5 * p) 7 = M 178 p ∧ bI (M 178 p) ∧
    ∀ i, i < 128 → J (109 + 5 * p) i = K 179 (128 * p + i)
/-- a projection -/
def IJ1 (n p : Nat) (I : rI) (J : rJ) (M : rI) (K : rJ) : Prop :=
  I (105 + 5 * p) 2 = M 170 p ∧ bI (M 170 p) ∧ (M 170 p = 1 → IJm n p I J M K)
def IJ (n : Nat) (I : rI) (J : rJ) (M : rI) (K : rJ) : Prop := ∀ p, p < 8 → IJ1 n p I J M K
/-- the whole of it but the disk and what there is reason to hide -/
def InvC (n t : Nat) (st tm fv : Nat → Nat) (I : rI) (J : rJ) (M : rI) (K : rJ) : Prop :=
  IE n t st tm fv I J M K ∧ ID I J M K ∧ IP I M ∧ IG n I M ∧ IJ n I J M K
def Inv (n t : Nat) (st tm fv : Nat → Nat) (I : rI) (J : rJ) (M : rI) (K : rJ) : Prop :=
  InvC n t st tm fv I J M K ∧ HC (fun _ => True) n st fv M ∧ IK I M
section
variable {n t : Nat} {st tm fv : Nat → Nat} {I I' M M' : rI} {J J' K K' : rJ}
theorem hideC_fr {s e : Nat} (h1 : ∀ b, 147 ≤ b → b ≤ 157 → M' b = M b) (h2 : M' 145 2 = M 145 2) : hideC M' s e = hideC M s e := by
  unfold hideC
  rw [h1 147 (by omega) (by omega), h1 156 (by omega) (by omega), h1 154 (by omega) (by omega), h1 153 (by omega) (by omega), h1 155 (by omega) (by omega), h1 151 (by omega) (by omega), h1 157 (by omega) (by omega), h2]
theorem HC_fr {S : Nat → Prop} (h : HC S n st fv M) (h1 : ∀ b, 147 ≤ b → b ≤ 157 → M' b = M b) (h2 : M' 145 2 = M 145 2) : HC S n st fv M' := by
  intro e he hs hc
  rw [hideC_fr h1 h2] at hc
  exact h e he hs hc
theorem IE_fr (h : IE n t st tm fv I J M K) (h0 : I' 10 = I 10) (h1 : ∀ b, 11 ≤ b → b < 58 → I' b = I b) (h2 : ∀ b, 146 ≤ b → b ≤ 157 → M' b = M b) (h3 : M' 145 2 = M 145 2) (h4 : M' 145 13 = M 145 13) (h5 : J' 15 = J 15) (h6 : K' 150 = K 150) : IE n t st tm fv I' J' M' K' := by
  obtain ⟨a1, a2, a3, a4, a5, a6, ⟨b1, b2, b3, b4, b5, b6⟩, a7, a8⟩ := h
  refine ⟨a1, a2, by rw [h0]; exact a3, by rw [h4]; exact a4, by rw [h0]; exact a5, by rw [h3]; exact a6, ⟨?_, ?_, ?_, ?_, ?_, ?_⟩, fun e he => ?_, fun s hs => ?_⟩
  · rw [h1 11 (by omega) (by omega), h2 146 (by omega) (by omega)]; exact b1
  · rw [h1 12 (by omega) (by omega), h2 147 (by omega) (by omega)]; exact b2
  · rw [h1 13 (by omega) (by omega), h2 148 (by omega) (by omega)]; exact b3
  · rw [h1 14 (by omega) (by omega), h2 149 (by omega) (by omega)]; exact b4
  · rw [h5, h6]; exact b5
  · rw [h1 16 (by omega) (by omega), h2 151 (by omega) (by omega)]; exact b6
  · have := a7 e he
    unfold IEe at this ⊢
    rw [h2 146 (by omega) (by omega), h2 147 (by omega) (by omega), h2 151 (by omega) (by omega), h2 152 (by omega) (by omega), h2 149 (by omega) (by omega)]
    exact this
  · have := a8 s hs
    unfold IEs at this ⊢
    rw [h1 (18 + s) (by omega) (by omega), h2 153 (by omega) (by omega), h2 154 (by omega) (by omega), h2 155 (by omega) (by omega), h2 156 (by omega) (by omega), h2 157 (by omega) (by omega)]
    exact this
theorem ID_fr (h : ID I J M K) (h0 : I' 3 3 = I 3 3) (h1 : ∀ b, 4 ≤ b → b ≤ 5 → I' b = I b) (h2 : M' 158 = M 158 ∧ M' 159 = M 159) (h3 : M' 145 22 = M 145 22) (h4 : J' 6 = J 6) (h5 : K' 160 = K 160) : ID I' J' M' K' := by
  unfold ID at h ⊢
  rw [h0, h1 4 (by omega) (by omega), h1 5 (by omega) (by omega), h2.1, h2.2, h3, h4, h5]
  exact h
theorem IK_fr (h : IK I M) (h1 : I' 2 = I 2) (h2 : M' 145 1 = M 145 1) (h3 : M' 145 3 = M 145 3) (h4 : M' 145 4 = M 145 4) (h5 : M' 145 5 = M 145 5) : IK I' M' := by
  unfold IK at h ⊢
  rw [h1, h2, h3, h4, h5]
  exact h
theorem IKm_fr {p : Int32} (h : IKm p I M) (h1 : I' 2 = I 2) (h2 : M' 145 1 = M 145 1) (h3 : M' 145 3 = M 145 3) (h4 : M' 145 4 = M 145 4) (h5 : M' 145 5 = M 145 5) (h6 : M' 145 43 = M 145 43) : IKm p I' M' := by
  unfold IKm at h ⊢
  rw [h1, h2, h3, h4, h5, h6]
  exact h
theorem IP_fr (h : IP I M) (h0 : I' 7 2 = I 7 2) (h1 : ∀ b, 8 ≤ b → b ≤ 9 → I' b = I b) (h2 : M' 168 = M 168 ∧ M' 169 = M 169) (h3 : M' 145 32 = M 145 32) : IP I' M' := by
  unfold IP at h ⊢
  rw [h0, h1 8 (by omega) (by omega), h1 9 (by omega) (by omega), h2.1, h2.2, h3]
  exact h
theorem IG1_fr {g : Nat} (hg : g < 8) (h : IG1 n g I M) (h1 : ∀ b, 65 + 5 * g ≤ b → b ≤ 69 + 5 * g → I' b = I b) (h2 : ∀ b, 161 ≤ b → b ≤ 167 → M' b = M b) (h3 : ∀ e, e < n → M' 146 e = M 146 e) : IG1 n g I' M' := by
  unfold IG1 IGo at h ⊢
  rw [h1 (65 + 5 * g) (by omega) (by omega), h1 (66 + 5 * g) (by omega) (by omega), h1 (67 + 5 * g) (by omega) (by omega), h1 (68 + 5 * g) (by omega) (by omega), h1 (69 + 5 * g) (by omega) (by omega), h2 161 (by omega) (by omega), h2 162 (by omega) (by omega), h2 163 (by omega) (by omega), h2 164 (by omega) (by omega), h2 165 (by omega) (by omega), h2 166 (by omega) (by omega), h2 167 (by omega) (by omega)]
  obtain ⟨a1, a2, a3, a4, a5, a6, a7, a8, ⟨f, b1, b2, b3⟩, a9⟩ := h
  refine ⟨a1, a2, a3, a4, a5, a6, a7, a8, ⟨f, b1, b2, fun e he => ?_⟩, a9⟩
  have := b3 e he
  unfold IGw at this ⊢
  rw [h2 165 (by omega) (by omega), h2 166 (by omega) (by omega), h2 161 (by omega) (by omega), h2 162 (by omega) (by omega), h3 e he]
  exact this
theorem IG_fr (h : IG n I M) (h1 : ∀ b, 65 ≤ b → b < 105 → I' b = I b) (h2 : ∀ b, 161 ≤ b → b ≤ 167 → M' b = M b) (h3 : ∀ e, e < n → M' 146 e = M 146 e) : IG n I' M' :=
  fun g hg => IG1_fr hg (h g hg) (fun b q1 q2 => h1 b (by omega) (by omega)) h2 h3
theorem IJ1_fr {p : Nat} (hp : p < 8) (h : IJ1 n p I J M K) (h1 : ∀ b, 105 + 5 * p ≤ b → b ≤ 109 + 5 * p → I' b = I b) (h2 : ∀ b, 170 ≤ b → b ≤ 178 → M' b = M b) (h3 : J' (109 + 5 * p) = J (109 + 5 * p)) (h4 : K' 179 = K 179) : IJ1 n p I' J' M' K' := by
  unfold IJ1 IJm at h ⊢
  rw [h1 (105 + 5 * p) (by omega) (by omega), h1 (106 + 5 * p) (by omega) (by omega), h1 (107 + 5 * p) (by omega) (by omega), h1 (108 + 5 * p) (by omega) (by omega), h2 170 (by omega) (by omega), h2 171 (by omega) (by omega), h2 172 (by omega) (by omega), h2 173 (by omega) (by omega), h2 174 (by omega) (by omega), h2 175 (by omega) (by omega), h2 176 (by omega) (by omega), h2 177 (by omega) (by omega), h2 178 (by omega) (by omega), h3, h4]
  exact h
theorem IJ_fr (h : IJ n I J M K) (h1 : ∀ b, 105 ≤ b → b < 145 → I' b = I b) (h2 : ∀ b, 170 ≤ b → b ≤ 178 → M' b = M b) (h3 : ∀ b, 105 ≤ b → b < 145 → J' b = J b) (h4 : K' 179 = K 179) : IJ n I' J' M' K' :=
  fun p hp => IJ1_fr hp (h p hp) (fun b q1 q2 => h1 b (by omega) (by omega)) h2 (h3 _ (by omega) (by omega)) h4
/-- cells of the class and of the model that stay -/
def frC (I : rI) (J : rJ) (I' : rI) (J' : rJ) : Prop := ∀ b, 0 < b → b < 145 → I' b = I b ∧ J' b = J b
def frM (I : rI) (J : rJ) (I' : rI) (J' : rJ) : Prop := ∀ b, 145 ≤ b ∨ b = 0 → I' b = I b ∧ J' b = J b
theorem InvC_cg (h : InvC n t st tm fv I J M K) (h1 : frC I J I' J') (h2 : frM M K M' K') : InvC n t st tm fv I' J' M' K' := by
  obtain ⟨a, b, c, d, e⟩ := h
  refine ⟨IE_fr a (h1 10 (by omega) (by omega)).1 (fun b q1 q2 => (h1 b (by omega) (by omega)).1) (fun b q1 q2 => (h2 b (by omega)).1) (by rw [(h2 145 (by omega)).1]) (by rw [(h2 145 (by omega)).1]) (h1 15 (by omega) (by omega)).2 (h2 150 (by omega)).2,
    ID_fr b (by rw [(h1 3 (by omega) (by omega)).1]) (fun b q1 q2 => (h1 b (by omega) (by omega)).1) ⟨(h2 158 (by omega)).1, (h2 159 (by omega)).1⟩ (by rw [(h2 145 (by omega)).1]) (h1 6 (by omega) (by omega)).2 (h2 160 (by omega)).2,
    IP_fr c (by rw [(h1 7 (by omega) (by omega)).1]) (fun b q1 q2 => (h1 b (by omega) (by omega)).1) ⟨(h2 168 (by omega)).1, (h2 169 (by omega)).1⟩ (by rw [(h2 145 (by omega)).1]),
    IG_fr d (fun b q1 q2 => (h1 b (by omega) (by omega)).1) (fun b q1 q2 => (h2 b (by omega)).1) (fun e _ => by rw [(h2 146 (by omega)).1]),
    IJ_fr e (fun b q1 q2 => (h1 b (by omega) (by omega)).1) (fun b q1 q2 => (h2 b (by omega)).1) (fun b q1 q2 => (h1 b (by omega) (by omega)).2) (h2 179 (by omega)).2⟩
theorem HC_cg {S : Nat → Prop} (h : HC S n st fv M) (h2 : frM M K M' K') : HC S n st fv M' :=
  HC_fr h (fun b q1 q2 => (h2 b (by omega)).1) (by rw [(h2 145 (by omega)).1])
theorem IK_cg (h : IK I M) (h1 : frC I J I' J') (h2 : frM M K M' K') : IK I' M' := by
  have e := (h2 145 (by omega)).1
  exact IK_fr h (h1 2 (by omega) (by omega)).1 (by rw [e]) (by rw [e]) (by rw [e]) (by rw [e])
theorem IKm_cg {p : Int32} (h : IKm p I M) (h1 : frC I J I' J') (h2 : frM M K M' K') : IKm p I' M' := by
  have e := (h2 145 (by omega)).1
  exact IKm_fr h (h1 2 (by omega) (by omega)).1 (by rw [e]) (by rw [e]) (by rw [e]) (by rw [e]) (by rw [e])
theorem Inv_cg (h : Inv n t st tm fv I J M K) (h1 : frC I J I' J') (h2 : frM M K M' K') : Inv n t st tm fv I' J' M' K' :=
  ⟨InvC_cg h.1 h1 h2, HC_cg h.2.1 h2, IK_cg h.2.2 h1 h2⟩
theorem frC_rfl : frC I J I J := fun _ _ _ => ⟨rfl, rfl⟩
theorem frM_rfl : frM I J I J := fun _ _ => ⟨rfl, rfl⟩
theorem frC_tr {I2 : rI} {J2 : rJ} (h : frC I J I' J') (h2 : frC I' J' I2 J2) : frC I J I2 J2 := fun b q1 q2 => ⟨(h2 b q1 q2).1.trans (h b q1 q2).1, (h2 b q1 q2).2.trans (h b q1 q2).2⟩
theorem frM_tr {I2 : rI} {J2 : rJ} (h : frM I J I' J') (h2 : frM I' J' I2 J2) : frM I J I2 J2 := fun b q => ⟨(h2 b q).1.trans (h b q).1, (h2 b q).2.trans (h b q).2⟩
theorem u2_ne {α : Type} {f : Nat → Nat → α} {a i b : Nat} {x : α} (h : ¬ b = a) : u2 f a i x b = f b := by
  funext j; rw [u2_at, if_neg (fun q => h q.1)]
theorem u1_ne {α : Type} {f : Nat → Nat → α} {a b : Nat} {r : Nat → α} (h : ¬ b = a) : u1 f a r b = f b := by
  funext j; rw [u1_at, if_neg h]
theorem u1_eq {α : Type} {f : Nat → Nat → α} {a : Nat} {r : Nat → α} : u1 f a r a = r := by
  funext j; rw [u1_at, if_pos rfl]
/-- an outcome in the law's code: the exceptions in the order of a helper's handlers -/
def cdo (es : List Nat) (o : eO) : Int32 := match o with | .inl _ => 0 | .inr e => nI (es.idxOf e + 1)
/-- what a call of both shows: the class answers o, the model answers rv and has set 'thrown'; what couples them stands again -/
def callOk (q qm : Nat) (as : List Value) (es : List Nat) (t : Nat) (L h z : Nat) (I : rI) (J : rJ) : Prop :=
  ∃ o I1 J1 h1 z1, Den q (.ref 1 :: as) (mS L I J h z) o (mS L I1 J1 h1 z1) ∧ (match o with | .inl _ => h1 = h ∧ z1 = z | .inr _ => h1 = h + 1 ∧ z1 = z + 6) ∧ (∀ e, o = .inr e → e ∈ es) ∧
  ∃ rv I2 J2, Den qm (.ref 145 :: as) (mS L I1 J1 h1 z1) (.inl rv) (mS L I2 J2 h1 z1) ∧ I2 0 = I 0 ∧ I2 145 0 = cdo es o ∧ (∀ v, o = .inl v → v = rv) ∧
  ∃ n' t' st' tm' fv', t' ≤ t + 1000 ∧ Inv n' t' st' tm' fv' I2 J2 I2 J2
/-- the same, of calls that answer a long -/
def callOkL (q qm : Nat) (as : List Value) (es : List Nat) (t : Nat) (L h z : Nat) (I : rI) (J : rJ) : Prop :=
  ∃ o I1 J1 h1 z1, Den q (.ref 1 :: as) (mS L I J h z) o (mS L I1 J1 h1 z1) ∧ (match o with | .inl _ => h1 = h ∧ z1 = z | .inr _ => h1 = h + 1 ∧ z1 = z + 6) ∧ (∀ e, o = .inr e → e ∈ es) ∧
  ∃ (x : Int64) (I2 : rI) (J2 : rJ), Den qm (.ref 145 :: as) (mS L I1 J1 h1 z1) (.inl (some (.long x))) (mS L I2 J2 h1 z1) ∧ I2 0 = I 0 ∧ I2 145 0 = cdo es o ∧ (∀ v, o = .inl v → v = some (.long x)) ∧
  ∃ n' t' st' tm' fv', t' ≤ t + 1000 ∧ Inv n' t' st' tm' fv' I2 J2 I2 J2
theorem Inv_mix (h : Inv n t st tm fv I J M K) (h1 : frC I J M K) : Inv n t st tm fv M K M K := Inv_cg h h1 frM_rfl
/-- what of the model's own fields says nothing -/
theorem Inv_t0 (h : Inv n t st tm fv I J M K) {i : Nat} {x : Int32} (hi : i = 0 ∨ i = 43 ∨ i = 45 ∨ i = 49 ∨ i = 50) : Inv n t st tm fv I J (u2 M 145 i x) K := by
  obtain ⟨⟨a, b, c, d, e⟩, f, g⟩ := h
  have q : ∀ b, 146 ≤ b → u2 M 145 i x b = M b := fun b hb => u2_ne (by omega)
  have r : ∀ j, ¬ j = i → u2 M 145 i x 145 j = M 145 j := fun j hj => by rw [u2_at, if_neg (fun k => hj k.2)]
  exact ⟨⟨IE_fr a rfl (fun _ _ _ => rfl) (fun b h1 _ => q b h1) (r 2 (by omega)) (r 13 (by omega)) rfl rfl,
    ID_fr b rfl (fun _ _ _ => rfl) ⟨q 158 (by omega), q 159 (by omega)⟩ (r 22 (by omega)) rfl rfl,
    IP_fr c rfl (fun _ _ _ => rfl) ⟨q 168 (by omega), q 169 (by omega)⟩ (r 32 (by omega)),
    IG_fr d (fun _ _ _ => rfl) (fun b h1 _ => q b (by omega)) (fun e _ => by rw [q 146 (by omega)]),
    IJ_fr e (fun _ _ _ => rfl) (fun b h1 _ => q b (by omega)) (fun _ _ _ => rfl) rfl⟩,
    HC_fr f (fun b h1 _ => q b (by omega)) (r 2 (by omega)), IK_fr g rfl (r 1 (by omega)) (r 3 (by omega)) (r 4 (by omega)) (r 5 (by omega))⟩
theorem u2_u2 {α : Type} {f : Nat → Nat → α} {a i : Nat} {x y : α} : u2 (u2 f a i x) a i y = u2 f a i y := by
  funext b j; simp only [u2_at]; split <;> rfl
theorem u2_c {α : Type} {f : Nat → Nat → α} {a i b j : Nat} {x y : α} (h : ¬ a = b ∨ ¬ i = j) : u2 (u2 f a i x) b j y = u2 (u2 f b j y) a i x := by
  funext c k
  simp only [u2_at]
  split <;> split <;> first | rfl | (exfalso; omega)
/-- a call that is refused -/
theorem call_bad {q qm : Nat} {as : List Value} {es : List Nat} {L h z e : Nat} {rv : Option Value} {c : Int32} (hI : Inv n t st tm fv I J I J)
    (h1 : Den q (.ref 1 :: as) (mS L I J h z) (.inr e) (mS L I J (h + 1) (z + 6))) (h2 : Den qm (.ref 145 :: as) (mS L I J (h + 1) (z + 6)) (.inl rv) (mS L (u2 I 145 0 c) J (h + 1) (z + 6))) (he : e ∈ es) (hc : c = nI (es.idxOf e + 1)) : callOk q qm as es t L h z I J := by
  refine ⟨_, _, _, _, _, h1, And.intro rfl rfl, fun e' k => (Sum.inr.inj k) ▸ he, _, _, _, h2, u2_ne (by omega), ?_, fun v k => (nomatch k), n, t, st, tm, fv, by omega, Inv_mix (Inv_t0 hI (Or.inl rfl)) (fun b q1 q2 => ⟨u2_ne (by omega), rfl⟩)⟩
  rw [u2_at, if_pos ⟨rfl, rfl⟩, hc]
  rfl
/-- a call that changes nothing -/
theorem call_rd {q qm : Nat} {as : List Value} {es : List Nat} {L h z : Nat} {rv : Option Value} (hI : Inv n t st tm fv I J I J)
    (h1 : Den q (.ref 1 :: as) (mS L I J h z) (.inl rv) (mS L I J h z)) (h2 : Den qm (.ref 145 :: as) (mS L I J h z) (.inl rv) (mS L (u2 I 145 0 0) J h z)) : callOk q qm as es t L h z I J := by
  refine ⟨_, _, _, _, _, h1, And.intro rfl rfl, fun e' k => (nomatch k), _, _, _, h2, u2_ne (by omega), ?_, fun v k => (Sum.inl.inj k).symm, n, t, st, tm, fv, by omega, Inv_mix (Inv_t0 hI (Or.inl rfl)) (fun b q1 q2 => ⟨u2_ne (by omega), rfl⟩)⟩
  rw [u2_at, if_pos ⟨rfl, rfl⟩]
  rfl
theorem call_badL {q qm : Nat} {as : List Value} {es : List Nat} {L h z e : Nat} {x : Int64} {c : Int32} (hI : Inv n t st tm fv I J I J)
    (h1 : Den q (.ref 1 :: as) (mS L I J h z) (.inr e) (mS L I J (h + 1) (z + 6))) (h2 : Den qm (.ref 145 :: as) (mS L I J (h + 1) (z + 6)) (.inl (some (.long x))) (mS L (u2 I 145 0 c) J (h + 1) (z + 6))) (he : e ∈ es) (hc : c = nI (es.idxOf e + 1)) : callOkL q qm as es t L h z I J := by
  refine ⟨_, _, _, _, _, h1, And.intro rfl rfl, fun e' k => (Sum.inr.inj k) ▸ he, _, _, _, h2, u2_ne (by omega), ?_, fun v k => (nomatch k), n, t, st, tm, fv, by omega, Inv_mix (Inv_t0 hI (Or.inl rfl)) (fun b q1 q2 => ⟨u2_ne (by omega), rfl⟩)⟩
  rw [u2_at, if_pos ⟨rfl, rfl⟩, hc]
  rfl
theorem call_rdL {q qm : Nat} {as : List Value} {es : List Nat} {L h z : Nat} {x : Int64} (hI : Inv n t st tm fv I J I J)
    (h1 : Den q (.ref 1 :: as) (mS L I J h z) (.inl (some (.long x))) (mS L I J h z)) (h2 : Den qm (.ref 145 :: as) (mS L I J h z) (.inl (some (.long x))) (mS L (u2 I 145 0 0) J h z)) : callOkL q qm as es t L h z I J := by
  refine ⟨_, _, _, _, _, h1, And.intro rfl rfl, fun e' k => (nomatch k), _, _, _, h2, u2_ne (by omega), ?_, fun v k => (Sum.inl.inj k).symm, n, t, st, tm, fv, by omega, Inv_mix (Inv_t0 hI (Or.inl rfl)) (fun b q1 q2 => ⟨u2_ne (by omega), rfl⟩)⟩
  rw [u2_at, if_pos ⟨rfl, rfl⟩]
  rfl
end
