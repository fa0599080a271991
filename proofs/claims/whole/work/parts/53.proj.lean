/-! projection: what is asked, what is copied. -/
abbrev jmpB (f a : Nat → Int32) (c i : Nat) : Bool := !(decide (f i = 16) || decide (f i = 17)) || (!decide (a i < 0) && !decide (nI c < a i))
theorem jmpB_k {f a : Nat → Int32} {c i : Nat} (hc : c ≤ 64) (h : jmpB f a c i = true) (hj : f i = 16 ∨ f i = 17) : ∃ k, k ≤ c ∧ a i = nI k := by
  have h2 : ¬ a i < 0 ∧ ¬ nI c < a i := by
    rcases hj with hj | hj
    · simpa [jmpB, hj] using h
    · simpa [jmpB, hj] using h
  obtain ⟨h3, h4⟩ := h2
  refine ⟨(a i).toInt.toNat, ?_⟩
  simp only [ti_lt, ti_eq, ti_nI, Int32.reduceToInt] at *
  have := ti_hi (a i)
  omega
section
variable {L h z n t : Nat} {st tm fv fv' : Nat → Nat} {I I' M M' : rI} {J K J' K' : rJ}
theorem s56t {c : Nat} (hc : c ≤ 64) (h7 : I 7 2 = nI c) (hg : ∀ i, i < c → jmpB (I 8) (I 9) c i = true) : dP 56 [.ref 7] L h z I J 1 := by
  have lp : ∀ m j, j + m = c → Run 56 2 [(0, .ref 7), (1, .int (nI j))] [] (mS L I J h z) (.inl (some (.int 1))) (mS L I J h z) := by
    intro m
    induction m with
    | zero =>
      intro j hj
      refine r56_2 ⟨fun _ => ⟨rfl, rfl⟩, fun q => absurd ?_ q⟩
      rw [h7]; exact nI_le (by omega) (by omega)
    | succ m ih =>
      intro j hj
      have hi := ih (j + 1) (by omega)
      have hgj := hg j (by omega)
      refine r56_2 ⟨fun q => ?_, fun _ => ?_⟩
      · rw [h7] at q; exact absurd ((nI_leI (by omega) (by omega)).mp q) (by omega)
      rw [cl j (by omega), h7, nI_1]
      refine ⟨vp_in_nI (by omega) (by omega), fun q => ⟨fun q2 => ?_, fun _ => ⟨fun _ => hi, fun q2 => ?_⟩⟩, fun q => ⟨fun _ => hi, fun q1 => ⟨fun q2 => ?_, fun _ => ⟨fun _ => hi, fun q2 => ?_⟩⟩⟩⟩
      · simp [jmpB, q, q2] at hgj
      · simp [jmpB, q, nle.mp q2] at hgj
      · simp [jmpB, q1, q2] at hgj
      · simp [jmpB, q1, nle.mp q2] at hgj
  exact r56_0 (lp c 0 (by omega))
theorem s56f {c : Nat} (hc : c ≤ 64) (h7 : I 7 2 = nI c) (hg : ∃ i, i < c ∧ jmpB (I 8) (I 9) c i = false) : dP 56 [.ref 7] L h z I J 0 := by
  have lp : ∀ m j, j + m = c → (∃ i, j ≤ i ∧ i < c ∧ jmpB (I 8) (I 9) c i = false) → Run 56 2 [(0, .ref 7), (1, .int (nI j))] [] (mS L I J h z) (.inl (some (.int 0))) (mS L I J h z) := by
    intro m
    induction m with
    | zero =>
      rintro j hj ⟨i, q1, q2, _⟩
      omega
    | succ m ih =>
      rintro j hj ⟨i, q1, q2, q3⟩
      have hi : jmpB (I 8) (I 9) c j = true → Run 56 2 [(0, .ref 7), (1, .int (nI (j + 1)))] [] (mS L I J h z) (.inl (some (.int 0))) (mS L I J h z) := fun q => ih (j + 1) (by omega) ⟨i, by
        by_cases e : j = i
        · rw [e, q3] at q; cases q
        · omega, q2, q3⟩
      refine r56_2 ⟨fun q => ?_, fun _ => ?_⟩
      · rw [h7] at q; exact absurd ((nI_leI (by omega) (by omega)).mp q) (by omega)
      rw [cl j (by omega), h7, nI_1]
      refine ⟨vp_in_nI (by omega) (by omega), fun q => ⟨fun q2 => ⟨rfl, rfl⟩, fun p1 => ⟨fun p2 => hi ?_, fun q2 => ⟨rfl, rfl⟩⟩⟩, fun q => ⟨fun p1 => hi ?_, fun q1 => ⟨fun q2 => ⟨rfl, rfl⟩, fun p1 => ⟨fun p2 => hi ?_, fun q2 => ⟨rfl, rfl⟩⟩⟩⟩⟩
      · simp [jmpB, q, p1, nlt.mpr p2]
      · simp [jmpB, q, p1]
      · simp [jmpB, q1, p1, nlt.mpr p2]
  obtain ⟨i, q2, q3⟩ := hg
  exact r56_0 (lp c 0 (by omega) ⟨i, by omega, q2, q3⟩)
theorem s141 {c : Nat} {x1 x2 x3 x4 : Int32} {o : eO} {σo : eS} (hc : c ≤ 64) (h7 : I 145 32 = nI c)
    (H1 : rg x1 8 = true → 0 < c → (∀ i, i < c → jmpB (I 168) (I 169) c i = true) → Run 141 98 [(0, .ref 145), (1, .int x1), (2, .int x2), (3, .int x3), (4, .int x4)] [.int 0, .ref 145] (mS L I J h z) o σo)
    (H2 : (rg x1 8 = false ∨ c = 0 ∨ ∃ i, i < c ∧ jmpB (I 168) (I 169) c i = false) → Run 141 98 [(0, .ref 145), (1, .int x1), (2, .int x2), (3, .int x3), (4, .int x4)] [.int 1, .ref 145] (mS L I J h z) o σo) :
    Run 141 0 [(0, .ref 145), (1, .int x1), (2, .int x2), (3, .int x3), (4, .int x4)] [] (mS L I J h z) o σo := by
  have h60 : ∀ (j : Nat) (x5 : Int32), j < c → (I 168 j = 16 ∨ I 168 j = 17) → (jmpB (I 168) (I 169) c j = true → Run 141 27 [(0, .ref 145), (1, .int x1), (2, .int x2), (3, .int x3), (4, .int x4), (5, .int x5), (6, .int (nI (j + 1)))] [] (mS L I J h z) o σo) → (jmpB (I 168) (I 169) c j = false → Run 141 27 [(0, .ref 145), (1, .int x1), (2, .int x2), (3, .int x3), (4, .int x4), (5, .int 0), (6, .int (nI (j + 1)))] [] (mS L I J h z) o σo) → Run 141 60 [(0, .ref 145), (1, .int x1), (2, .int x2), (3, .int x3), (4, .int x4), (5, .int x5), (6, .int (nI j))] [] (mS L I J h z) o σo := by
    intro j x5 hj hop G1 G2
    have e : jmpB (I 168) (I 169) c j = (!decide (I 169 j < 0) && !decide (nI c < I 169 j)) := by
      rcases hop with hop | hop <;> simp [jmpB, hop]
    refine r141_60 ⟨vp_in_nI (by omega) (by omega), ?_⟩
    rw [cl j (by omega), h7, nI_1]
    refine ⟨_, s115, fun q => G1 (by rw [e]; exact b_ne.mp q), fun q => G2 (by rw [e]; exact b_eq.mp q)⟩
  have lp : ∀ m j x5, j + m = c → (x5 = 0 ∨ x5 = 1) → (x5 = 0 → (rg x1 8 = false ∨ c = 0 ∨ ∃ i, i < c ∧ jmpB (I 168) (I 169) c i = false)) → (x5 = 1 → rg x1 8 = true ∧ 0 < c ∧ ∀ i, i < j → jmpB (I 168) (I 169) c i = true) →
      Run 141 27 [(0, .ref 145), (1, .int x1), (2, .int x2), (3, .int x3), (4, .int x4), (5, .int x5), (6, .int (nI j))] [] (mS L I J h z) o σo := by
    intro m
    induction m with
    | zero =>
      intro j x5 hj h01 G0 G1
      refine r141_27 ⟨fun _ => ⟨fun q => ?_, fun q => H2 (G0 q)⟩, fun q => absurd ?_ q⟩
      · obtain ⟨p1, p2, p3⟩ := G1 (h01.resolve_left q)
        exact H1 p1 p2 (fun i hi => p3 i (by omega))
      · rw [h7]; exact nI_le (by omega) (by omega)
    | succ m ih =>
      intro j x5 hj h01 G0 G1
      have hn : jmpB (I 168) (I 169) c j = true → Run 141 27 [(0, .ref 145), (1, .int x1), (2, .int x2), (3, .int x3), (4, .int x4), (5, .int x5), (6, .int (nI (j + 1)))] [] (mS L I J h z) o σo := fun q => ih (j + 1) x5 (by omega) h01 G0 (fun q1 => ⟨(G1 q1).1, (G1 q1).2.1, fun i hi => by
        by_cases e : i = j
        · rw [e]; exact q
        · exact (G1 q1).2.2 i (by omega)⟩)
      have hz : jmpB (I 168) (I 169) c j = false → Run 141 27 [(0, .ref 145), (1, .int x1), (2, .int x2), (3, .int x3), (4, .int x4), (5, .int 0), (6, .int (nI (j + 1)))] [] (mS L I J h z) o σo := fun q => ih (j + 1) 0 (by omega) (Or.inl rfl) (fun _ => Or.inr (Or.inr ⟨j, by omega, q⟩)) (fun q1 => absurd q1 (by decide))
      refine r141_27 ⟨fun q => ?_, fun _ => ?_⟩
      · rw [h7] at q; exact absurd ((nI_leI (by omega) (by omega)).mp q) (by omega)
      rw [cl j (by omega)]
      refine ⟨vp_in_nI (by omega) (by omega), fun q => h60 j x5 (by omega) (Or.inl q) hn hz, fun q => ⟨fun q1 => ?_, fun q1 => h60 j x5 (by omega) (Or.inr q1) hn hz⟩⟩
      rw [nI_1]
      exact hn (by simp [jmpB, q, q1])
  refine r141_0 ⟨_, s115, fun q => ?_, fun q => ⟨fun q1 => ?_, fun q1 => ?_⟩⟩
  all_goals rw [in_rg (N := 8) (by omega) (by omega) (by decide)] at q
  all_goals try rw [h7] at q1
  · exact r141_21 (r141_22 (lp c 0 0 (by omega) (Or.inl rfl) (fun _ => Or.inl (b_eq.mp q)) (fun q1 => absurd q1 (by decide))))
  · refine r141_21 (r141_22 (lp c 0 0 (by omega) (Or.inl rfl) (fun _ => Or.inr (Or.inl ?_)) (fun q1 => absurd q1 (by decide))))
    have := (nI_leI (a := c) (b := 0) (by omega) (by omega)).mp q1
    omega
  · refine r141_22 (lp c 0 1 (by omega) (Or.inr rfl) (fun q2 => absurd q2 (by decide)) (fun _ => ⟨b_ne.mp q, ?_, fun i hi => absurd hi (by omega)⟩))
    refine Nat.pos_of_ne_zero (fun e => q1 ?_)
    rw [e]; decide
/-- a program is copied (class) -/
def pCpy (I : rI) (p c : Nat) : rI := u2 (u1 (u1 I (107 + 5 * p) (va_cpy (I 8) (I (107 + 5 * p)) 0 0 c)) (108 + 5 * p) (va_cpy (I 9) (I (108 + 5 * p)) 0 0 c)) (106 + 5 * p) 2 (nI c)
theorem z0 : (0 : Int32).toNatClampNeg = 0 := by decide
theorem nI_n0 {c : Nat} (hc : c < 2147483648) : ¬ nI c < 0 := by rw [show (0 : Int32) = nI 0 from rfl, nI_ltI hc (by omega)]; omega
theorem w5_p {p : Nat} (hp : p < 8) : w5 (106 + 5 * p) := by have := w6_w0 (sP hp); rwa [(R0_p hp).1] at this
theorem s57 {p c : Nat} (hp : p < 8) (hc : c ≤ 64) (h7 : I 7 2 = nI c) : dU 57 [.ref (106 + 5 * p), .ref 7] L h z I J (pCpy I p c) J := by
  refine r57_0 (w5_p hp) ?_
  rw [(R0_p hp).2.1, (R0_p hp).2.2.1, z0, h7, cl c (by omega)]
  have e1 : ∀ r, u1 I (107 + 5 * p) r 7 2 = nI c := fun r => by rw [u1_ne (by omega)]; exact h7
  have e2 : ∀ r, u1 I (107 + 5 * p) r 9 = I 9 := fun r => by rw [u1_ne (by omega)]
  have e3 : ∀ r, u1 I (107 + 5 * p) r (108 + 5 * p) = I (108 + 5 * p) := fun r => by rw [u1_ne (by omega)]
  have e4 : ∀ r r', u1 (u1 I (107 + 5 * p) r) (108 + 5 * p) r' 7 2 = nI c := fun r r' => by rw [u1_ne (by omega)]; exact e1 r
  rw [e1, cl c (by omega), e2, e3, e4]
  exact ⟨nI_n0 (by omega), by omega, by omega, nI_n0 (by omega), by omega, by omega, rfl, rfl⟩
def pMk (I : rI) (p c : Nat) (x2 x3 x4 : Int32) : rI := u2 (u2 (u2 (u2 (u2 (u2 (pCpy I p c) (105 + 5 * p) 2 1) (105 + 5 * p) 3 x2) (105 + 5 * p) 4 x3) (105 + 5 * p) 5 x4) (105 + 5 * p) 6 0) (105 + 5 * p) 7 0
def pFl (J : rJ) (p : Nat) : rJ := u1 J (109 + 5 * p) (fun j => if j < 128 then 0 else J (109 + 5 * p) j)
theorem s59 {p c : Nat} {x2 x3 x4 : Int32} (hp : p < 8) (hc : c ≤ 64) (h7 : I 7 2 = nI c) (h4 : bI x4) : dU 59 [.ref (105 + 5 * p), .ref 7, .int x2, .int x3, .int x4] L h z I J (pMk I p c x2 x3 x4) (pFl J p) := by
  have ha : aK (109 + 5 * p) .long 128 := by have := w6_a1 (sP hp); rwa [(R0_p hp).2.2.2] at this
  have k := s154 (L := L) (h := h) (z := z) (I := pCpy I p c) (J := J) (x := 0) ha (by omega)
  refine r59_0 (sP hp) ⟨pCpy I p c, J, ?_, pCpy I p c, pFl J p, ?_, ?_, rfl, rfl⟩
  · rw [(R0_p hp).1]; exact s57 hp hc h7
  · rw [(R0_p hp).2.2.2]; exact k
  · rcases h4 with rfl | rfl <;> exact ⟨rfl, rfl⟩
/-- a program is copied (model) -/
def mCpy (M : rI) (p k : Nat) : rI := fun b j => if b = 172 ∧ 64 * p ≤ j ∧ j < 64 * p + k then M 168 (j - 64 * p) else if b = 173 ∧ 64 * p ≤ j ∧ j < 64 * p + k then M 169 (j - 64 * p) else M b j
theorem mCpy_ne {p k b : Nat} (h1 : ¬ b = 172) (h2 : ¬ b = 173) : mCpy M p k b = M b := by
  funext j; unfold mCpy; rw [if_neg (fun q => h1 q.1), if_neg (fun q => h2 q.1)]
theorem mCpy_s {p k : Nat} : u2 (u2 (mCpy M p k) 172 (64 * p + k) (M 168 k)) 173 (64 * p + k) (M 169 k) = mCpy M p (k + 1) := by
  funext b j
  rw [u2_at, u2_at]
  unfold mCpy
  by_cases c : j = 64 * p + k
  · subst c
    rw [show 64 * p + k - 64 * p = k by omega]
    by_cases b2 : b = 172
    · rw [if_neg (by omega), if_pos ⟨b2, rfl⟩, if_pos ⟨b2, by omega, by omega⟩]
    · by_cases b3 : b = 173
      · rw [if_pos ⟨b3, rfl⟩, if_neg (by omega), if_pos ⟨b3, by omega, by omega⟩]
      · rw [if_neg (fun q => b3 q.1), if_neg (fun q => b2 q.1), if_neg (fun q => b2 q.1), if_neg (fun q => b3 q.1), if_neg (fun q => b2 q.1), if_neg (fun q => b3 q.1)]
  · have e : (j < 64 * p + (k + 1)) ↔ (j < 64 * p + k) := by omega
    rw [if_neg (fun q => c q.2), if_neg (fun q => c q.2)]
    simp only [e]
theorem s141_cp {p c : Nat} {x2 x3 x4 : Int32} {o : eO} {σo : eS} (hp : p < 8) (hc : c ≤ 64) (H : Run 141 188 [(0, .ref 145), (1, .int (nI p)), (2, .int x2), (3, .int x3), (4, .int x4), (6, .int (nI c)), (7, .int (nI c))] [] (mS L (mCpy M p c) J h z) o σo) : ∀ m k, k + m = c →
    Run 141 188 [(0, .ref 145), (1, .int (nI p)), (2, .int x2), (3, .int x3), (4, .int x4), (6, .int (nI c)), (7, .int (nI k))] [] (mS L (mCpy M p k) J h z) o σo := by
  intro m
  induction m with
  | zero => intro k hk; rw [show k = c by omega]; exact H
  | succ m ih =>
    intro k hk
    have e : (64 : Int32) * nI p + nI k = nI (64 * p + k) := by
      rw [show (64 : Int32) = nI 64 from rfl, nI_mul, nI_add]
    refine r141_188 ⟨fun q => absurd ((nI_leI (by omega) (by omega)).mp q) (by omega), fun _ => ?_⟩
    rw [e, cl _ (by omega), cl k (by omega), mCpy_ne (b := 168) (by omega) (by omega), mCpy_ne (b := 169) (by omega) (by omega), mCpy_s, nI_1]
    exact ⟨vp_in_nI (by omega) (by omega), vp_in_nI (by omega) (by omega), ih (k + 1) (by omega)⟩
def mFl (K : rJ) (p k : Nat) : rJ := fun b j => if b = 179 ∧ 128 * p ≤ j ∧ j < 128 * p + k then 0 else K b j
theorem mFl_s {p k : Nat} : u2 (mFl K p k) 179 (128 * p + k) 0 = mFl K p (k + 1) := by
  funext b j
  rw [u2_at]
  unfold mFl
  by_cases c : j = 128 * p + k
  · subst c
    by_cases b2 : b = 179
    · rw [if_pos ⟨b2, rfl⟩, if_pos ⟨b2, by omega, by omega⟩]
    · rw [if_neg (fun q => b2 q.1), if_neg (fun q => b2 q.1), if_neg (fun q => b2 q.1)]
  · have e : (j < 128 * p + (k + 1)) ↔ (j < 128 * p + k) := by omega
    rw [if_neg (fun q => c q.2)]
    simp only [e]
theorem s141_fl {p : Nat} {x6 : Int32} {o : eO} {σo : eS} (hp : p < 8) (H : Run 141 306 [(0, .ref 145), (6, .int x6)] [] (mS L M (mFl K p 128) h z) o σo) : ∀ m k, k + m = 128 →
    Run 141 278 [(0, .ref 145), (1, .int (nI p)), (6, .int x6), (7, .int (nI k))] [] (mS L M (mFl K p k) h z) o σo := by
  intro m
  induction m with
  | zero => intro k hk; rw [show k = 128 by omega]; exact r141_278 ⟨fun _ => H, fun q => absurd (by decide) q⟩
  | succ m ih =>
    intro k hk
    have e : (128 : Int32) * nI p + nI k = nI (128 * p + k) := by
      rw [show (128 : Int32) = nI 128 from rfl, nI_mul, nI_add]
    refine r141_278 ⟨fun q => absurd ((nI_leI (a := 128) (by omega) (by omega)).mp q) (by omega), fun _ => ?_⟩
    rw [e, cl _ (by omega), mFl_s, nI_1]
    exact ⟨vp_in_nI (by omega) (by omega), ih (k + 1) (by omega)⟩
theorem IJ1_pw {p : Nat} (h : IJ1 n p I J M K) (h1 : ∀ b, 105 + 5 * p ≤ b → b ≤ 109 + 5 * p → I' b = I b ∧ J' b = J b) (h2 : ∀ b, 170 ≤ b → b ≤ 178 → ¬ b = 172 → ¬ b = 173 → M' b p = M b p) (h3 : ∀ b i, b = 172 ∨ b = 173 → i < 64 → M' b (64 * p + i) = M b (64 * p + i)) (h4 : ∀ i, i < 128 → K' 179 (128 * p + i) = K 179 (128 * p + i)) : IJ1 n p I' J' M' K' := by
  unfold IJ1 IJm at h ⊢
  rw [(h1 (105 + 5 * p) (by omega) (by omega)).1, (h1 (106 + 5 * p) (by omega) (by omega)).1, (h1 (107 + 5 * p) (by omega) (by omega)).1, (h1 (108 + 5 * p) (by omega) (by omega)).1, (h1 (109 + 5 * p) (by omega) (by omega)).2, h2 170 (by omega) (by omega) (by omega) (by omega), h2 171 (by omega) (by omega) (by omega) (by omega), h2 174 (by omega) (by omega) (by omega) (by omega), h2 175 (by omega) (by omega) (by omega) (by omega), h2 176 (by omega) (by omega) (by omega) (by omega), h2 177 (by omega) (by omega) (by omega) (by omega), h2 178 (by omega) (by omega) (by omega) (by omega)]
  obtain ⟨a1, a2, a3⟩ := h
  refine ⟨a1, a2, fun q => ?_⟩
  obtain ⟨⟨c, b1, b2, b3, b4⟩, b5, b6, b7, b8, b9, b10, b11, b12, b13⟩ := a3 q
  refine ⟨⟨c, b1, b2, b3, fun i hi => ?_⟩, b5, b6, b7, b8, b9, b10, b11, b12, fun i hi => by rw [h4 i hi]; exact b13 i hi⟩
  rw [h3 172 i (Or.inl rfl) (by omega), h3 173 i (Or.inr rfl) (by omega)]
  exact b4 i hi
/-- a projection has changed on both sides -/
theorem InvC_P1 {p : Nat} (hp : p < 8) (h : InvC n t st tm fv I J M K) (hP : IJ1 n p I' J' M' K') (h1 : ∀ b, 0 < b → b < 145 → ¬ b = 2 → ¬ (105 + 5 * p ≤ b ∧ b ≤ 109 + 5 * p) → I' b = I b ∧ J' b = J b) (h2 : ∀ b, 145 < b → b < 170 ∨ 178 < b → M' b = M b) (h3 : ∀ j, j = 2 ∨ j = 13 ∨ j = 22 ∨ j = 32 → M' 145 j = M 145 j)
    (h4 : ∀ b i, 170 ≤ b → b ≤ 178 → ¬ b = 172 → ¬ b = 173 → ¬ i = p → M' b i = M b i) (h5 : ∀ b i, b = 172 ∨ b = 173 → i < 64 * p ∨ 64 * p + 64 ≤ i → M' b i = M b i) (h6 : ∀ i, i < 128 * p ∨ 128 * p + 128 ≤ i → K' 179 i = K 179 i) (h7 : ∀ b, ¬ b = 179 → K' b = K b) : InvC n t st tm fv I' J' M' K' := by
  obtain ⟨a, b, c, d, e⟩ := h
  refine ⟨IE_fr a (h1 10 (by omega) (by omega) (by omega) (by omega)).1 (fun b q1 q2 => (h1 b (by omega) (by omega) (by omega) (by omega)).1) (fun b q1 q2 => h2 b (by omega) (by omega)) (h3 2 (by omega)) (h3 13 (by omega)) (h1 15 (by omega) (by omega) (by omega) (by omega)).2 (h7 150 (by omega)),
    ID_fr b (by rw [(h1 3 (by omega) (by omega) (by omega) (by omega)).1]) (fun b q1 q2 => (h1 b (by omega) (by omega) (by omega) (by omega)).1) ⟨h2 158 (by omega) (by omega), h2 159 (by omega) (by omega)⟩ (h3 22 (by omega)) (h1 6 (by omega) (by omega) (by omega) (by omega)).2 (h7 160 (by omega)),
    IP_fr c (by rw [(h1 7 (by omega) (by omega) (by omega) (by omega)).1]) (fun b q1 q2 => (h1 b (by omega) (by omega) (by omega) (by omega)).1) ⟨h2 168 (by omega) (by omega), h2 169 (by omega) (by omega)⟩ (h3 32 (by omega)),
    IG_fr d (fun b q1 q2 => (h1 b (by omega) (by omega) (by omega) (by omega)).1) (fun b q1 q2 => h2 b (by omega) (by omega)) (fun e he => by rw [h2 146 (by omega) (by omega)]), fun p' hp' => ?_⟩
  by_cases k : p' = p
  · rw [k]; exact hP
  · exact IJ1_pw (e p' hp') (fun b q1 q2 => h1 b (by omega) (by omega) (by omega) (by omega)) (fun b q1 q2 q3 q4 => h4 b p' q1 q2 q3 q4 k) (fun b i q1 q2 => h5 b _ q1 (by omega)) (fun i hi => h6 _ (by omega))
/-- the program that was put together is empty -/
theorem InvC_c0 (h : InvC n t st tm fv I J M K) : InvC n t st tm fv (u2 I 7 2 0) J (u2 M 145 32 0) K := by
  obtain ⟨a, b, c, d, e⟩ := h
  have q1 : ∀ b, ¬ b = 7 → u2 I 7 2 0 b = I b := fun b hb => u2_ne hb
  have q2 : ∀ b, ¬ b = 145 → u2 M 145 32 0 b = M b := fun b hb => u2_ne hb
  have q3 : ∀ j, ¬ j = 32 → u2 M 145 32 0 145 j = M 145 j := fun j hj => by rw [u2_at, if_neg (fun q => hj q.2)]
  refine ⟨IE_fr a (q1 10 (by omega)) (fun b _ _ => q1 b (by omega)) (fun b _ _ => q2 b (by omega)) (q3 2 (by omega)) (q3 13 (by omega)) rfl rfl,
    ID_fr b (by rw [q1 3 (by omega)]) (fun b _ _ => q1 b (by omega)) ⟨q2 158 (by omega), q2 159 (by omega)⟩ (q3 22 (by omega)) rfl rfl, ?_,
    IG_fr d (fun b _ _ => q1 b (by omega)) (fun b _ _ => q2 b (by omega)) (fun e he => by rw [q2 146 (by omega)]),
    IJ_fr e (fun b _ _ => q1 b (by omega)) (fun b _ _ => q2 b (by omega)) (fun b _ _ => rfl) rfl⟩
  obtain ⟨k, c1, c2, c3, c4, c5, c6⟩ := c
  refine ⟨0, by omega, by rw [u2_at, if_pos ⟨rfl, rfl⟩]; rfl, by rw [u2_at, if_pos ⟨rfl, rfl⟩]; rfl, by rw [q1 8 (by omega), q2 168 (by omega)]; exact c4, by rw [q1 9 (by omega), q2 169 (by omega)]; exact c5, fun i hi => absurd hi (by omega)⟩
theorem wsM_u2 {x y : Int32} {i : Nat} (hi : ¬ i = 3 ∧ ¬ i = 4 ∧ ¬ i = 5 ∧ ¬ i = 43) : wsM (u2 M 145 i x) y = u2 (wsM M y) 145 i x := by
  have e : ∀ j, ¬ j = i → u2 M 145 i x 145 j = M 145 j := fun j hj => by rw [u2_at, if_neg (fun q => hj q.2)]
  unfold wsM lsM flM
  rw [e 5 (by omega), e 3 (by omega), e 4 (by omega)]
  split
  · rw [u2_c (a := 145) (i := i) (j := 43) (Or.inr (by omega)), u2_c (a := 145) (i := i) (j := 3) (Or.inr (by omega)), u2_c (a := 145) (i := i) (j := 4) (Or.inr (by omega))]
  · rw [u2_c (a := 145) (i := i) (j := 43) (Or.inr (by omega))]
end
