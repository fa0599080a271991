/-! scavenge: how many bytes are kept, on both sides. -/
theorem lcz {y : Int64} : lg_cmp y 0 = 0 ↔ y = 0 := by
  unfold lg_cmp
  by_cases c : y > 0
  · rw [if_pos c]
    constructor
    · intro q; exact absurd q (by decide)
    · intro q; subst q; exact absurd c Int64.lt_irrefl
  · rw [if_neg c]
    by_cases c2 : y = 0
    · rw [if_pos c2]; simp [c2]
    · rw [if_neg c2]
      constructor
      · intro q; exact absurd q (by decide)
      · intro q; exact absurd q c2
theorem or64 {a b : Int64} : a ||| b = 0 ↔ a = 0 ∧ b = 0 := by
  rw [← Int64.toBitVec_inj, ← Int64.toBitVec_inj, ← Int64.toBitVec_inj, Int64.toBitVec_or]
  exact BitVec.or_eq_zero_iff
theorem cn_add {P Q R : Nat → Bool} : ∀ n, (∀ e, e < n → (if P e = true then 1 else 0) = (if Q e = true then 1 else 0) + (if R e = true then 1 else 0)) → cn P n = cn Q n + cn R n := by
  intro n
  induction n with
  | zero => intro _; rfl
  | succ n ih =>
    intro h
    have h1 := ih (fun e he => h e (by omega))
    have h2 := h n (by omega)
    rw [cn_s, cn_s, cn_s, h1]
    omega
abbrev usd (M : rI) (s : Nat) : Bool := decide (0 ≤ M 153 s) || (!decide (M 154 s = 0) || (!decide (M 155 s = 0) || (!decide (M 156 s = 0) || !decide (M 157 s = 0))))
abbrev gSz (M : rI) (n g : Nat) : Nat := if M 161 g = 0 then 0 else 32 + 4 * (cn (mst M g 1) n + cn (mst M g 2) n)
def uVr (r : Nat → Int64) (s : Nat) : Bool := !(decide (r (4 * s + 0) = 0) && (decide (r (4 * s + 1) = 0) && (decide (r (4 * s + 2) = 0) && decide (r (4 * s + 3) = 0))))
theorem uVr_f {r : Nat → Int64} {s : Nat} (h : ∀ i, i < 4 → r (4 * s + i) = 0) : uVr r s = false := by
  unfold uVr
  rw [decide_eq_true (h 0 (by omega)), decide_eq_true (h 1 (by omega)), decide_eq_true (h 2 (by omega)), decide_eq_true (h 3 (by omega))]; rfl
theorem uVr_t {r : Nat → Int64} {s : Nat} (h : ¬ ∀ i, i < 4 → r (4 * s + i) = 0) : uVr r s = true := by
  cases hu : uVr r s with
  | true => rfl
  | false =>
    exfalso
    unfold uVr at hu
    simp only [Bool.not_eq_false', Bool.and_eq_true, decide_eq_true_eq] at hu
    obtain ⟨h0, h1, h2, h3⟩ := hu
    refine h (fun i hi => ?_)
    have : i = 0 ∨ i = 1 ∨ i = 2 ∨ i = 3 := by omega
    rcases this with rfl | rfl | rfl | rfl
    · exact h0
    · exact h1
    · exact h2
    · exact h3
abbrev pSz (M : rI) (K : rJ) (p : Nat) : Nat := if M 170 p = 0 then 0 else 64 + 8 * (M 171 p).toNatClampNeg + 40 * cn (uVr (fun i => K 179 (128 * p + i))) 32
section
variable {L h z n t : Nat} {st tm fv fv' : Nat → Nat} {I I' M M' : rI} {J K J' K' : rJ}
theorem s69 {s : Nat} (hs : s < 40) (hE : IE n t st tm fv I J M K) : dP 69 [.ref (18 + s)] L h z I J (bb (usd M s)) := by
  obtain ⟨c1, c2, c3, c4, c5, c6, c7⟩ := hE.2.2.2.2.2.2.2.2 s hs
  unfold usd
  rw [← c1, ← c3, ← c4, ← c5, ← c6]
  refine r69_0 (sS hs) ⟨fun q => ?_, fun q => ⟨fun q1 => ?_, fun q1 => ⟨fun q2 => ?_, fun q2 => ⟨fun q3 => ?_, fun q3 => ⟨fun q4 => ?_, fun q4 => ?_⟩⟩⟩⟩⟩
  · rw [decide_eq_true q]; exact ⟨rfl, rfl⟩
  · rw [decide_eq_false q, decide_eq_false q1]; exact ⟨rfl, rfl⟩
  · rw [decide_eq_false q, decide_eq_true q1, decide_eq_false q2]; exact ⟨rfl, rfl⟩
  · rw [decide_eq_false q, decide_eq_true q1, decide_eq_true q2, decide_eq_false q3]; exact ⟨rfl, rfl⟩
  · rw [decide_eq_false q, decide_eq_true q1, decide_eq_true q2, decide_eq_true q3, decide_eq_true q4]; exact ⟨rfl, rfl⟩
  · rw [decide_eq_false q, decide_eq_true q1, decide_eq_true q2, decide_eq_true q3, decide_eq_false q4]; exact ⟨rfl, rfl⟩
theorem s109_s {A : Nat} {o : eO} {σo : eS} (hE : IE n t st tm fv I J M K) (H : Run 109 56 [(0, .ref 1), (1, .int (nI (A + 24 * cn (usd M) 40))), (2, .int (nI 0))] [] (mS L I J h z) o σo) : ∀ m s, s + m = 40 →
    Run 109 18 [(0, .ref 1), (1, .int (nI (A + 24 * cn (usd M) s))), (2, .int (nI s))] [] (mS L I J h z) o σo := by
  intro m
  induction m with
  | zero => intro s hs; rw [show s = 40 by omega]; exact r109_18 ⟨fun _ => H, fun c => absurd (by decide) c⟩
  | succ m ih =>
    intro s hs
    have hi := ih (s + 1) (by omega)
    refine r109_18 ⟨fun c => absurd ((nI_leI (a := 40) (by omega) (by omega)).mp c) (by omega), fun _ => ⟨vp_in_nI (by omega) (by omega), ?_⟩⟩
    rw [cl s (by omega), R0_17 (by omega)]
    refine ⟨_, s69 (by omega) hE, fun c => ?_, fun c => ?_⟩
    · rw [cn_s0 (b_eq.mp c)] at hi
      rw [Int32.add_zero, nI_1]; exact hi
    · rw [cn_s1 (b_ne.mp c)] at hi
      rw [show (24 : Int32) = nI 24 from rfl, nI_add, nI_1, show A + 24 * cn (usd M) s + 24 = A + 24 * (cn (usd M) s + 1) by omega]; exact hi
theorem s110 {g : Nat} (hg : g < 8) (hE : IE n t st tm fv I J M K) (hG : IG1 n g I M) : dP 110 [.ref 1, .ref (65 + 5 * g)] L h z I J (nI (32 + 4 * (cn (mst M g 1) n + cn (mst M g 2) n))) := by
  have n1 := hE.1
  have hr : ∀ e, e < n → I (66 + 5 * g) e = M 165 (2500 * g + e) := fun e he => (hG.2.2.2.2.2.2.1 e (by omega)).1
  have k1 := s36 (L := L) (h := h) (z := z) (x := 1) hg hE
  have k2 := s36 (L := L) (h := h) (z := z) (x := 2) hg hE
  rw [cnt_mk hE hr] at k1 k2
  refine r110_0 (sG hg) ⟨_, k1, _, k2, ?_, rfl⟩
  rw [nI_add, show (4 : Int32) = nI 4 from rfl, nI_mul, show (32 : Int32) = nI 32 from rfl, nI_add]
theorem s109_g {A : Nat} {o : eO} {σo : eS} (hE : IE n t st tm fv I J M K) (hG : IG n I M) (H : Run 109 99 [(0, .ref 1), (1, .int (nI (A + tot (gSz M n) 8))), (2, .int (nI 0))] [] (mS L I J h z) o σo) : ∀ m g, g + m = 8 →
    Run 109 56 [(0, .ref 1), (1, .int (nI (A + tot (gSz M n) g))), (2, .int (nI g))] [] (mS L I J h z) o σo := by
  intro m
  induction m with
  | zero => intro g hg; rw [show g = 8 by omega]; exact r109_56 ⟨fun _ => H, fun c => absurd (by decide) c⟩
  | succ m ih =>
    intro g hg
    have hi := ih (g + 1) (by omega)
    rw [show tot (gSz M n) (g + 1) = tot (gSz M n) g + gSz M n g from rfl] at hi
    have h1 := (hG g (by omega)).1
    refine r109_56 ⟨fun c => absurd ((nI_leI (a := 8) (by omega) (by omega)).mp c) (by omega), fun _ => ⟨vp_in_nI (by omega) (by omega), fun c => ?_, fun c => ?_⟩⟩
    all_goals rw [cl g (by omega), R0_63 (by omega)] at c
    all_goals rw [h1] at c
    · rw [gSz, if_pos c] at hi
      rw [Int32.add_zero, nI_1]; exact hi
    · rw [gSz, if_neg c] at hi
      rw [cl g (by omega), R0_63 (by omega)]
      refine ⟨_, s110 (by omega) hE (hG g (by omega)), ?_⟩
      rw [nI_add, nI_1, Nat.add_assoc]; exact hi
theorem s64_in {p s x1 : Nat} {o : eO} {σo : eS} {r : Nat → Int64} (hp : p < 8) (hr : J (109 + 5 * p) = r) (hs : s < 32) (H : ∀ y : Int64, (y = 0 ↔ ∀ i, i < 4 → r (4 * s + i) = 0) → Run 64 18 [(0, .ref (105 + 5 * p)), (1, .int (nI x1)), (2, .int (nI (4 * s))), (3, .long y), (5, .int (nI 4))] [] (mS L I J h z) o σo) : ∀ m k (y : Int64), k + m = 4 → (y = 0 ↔ ∀ i, i < k → r (4 * s + i) = 0) →
    Run 64 18 [(0, .ref (105 + 5 * p)), (1, .int (nI x1)), (2, .int (nI (4 * s))), (3, .long y), (5, .int (nI k))] [] (mS L I J h z) o σo := by
  intro m
  induction m with
  | zero => intro k y hk hy; rw [show k = 4 by omega] at hy ⊢; exact H y hy
  | succ m ih =>
    intro k y hk hy
    refine r64_18 (sP hp) ⟨fun c => absurd ((nI_leI (a := 4) (by omega) (by omega)).mp c) (by omega), fun _ => ?_⟩
    rw [nI_add, (R0_p hp).2.2.2, cl _ (by omega), hr, nI_1]
    refine ⟨vp_in_nI (by omega) (by omega), ih (k + 1) _ (by omega) ?_⟩
    rw [or64, hy]
    constructor
    · rintro ⟨q1, q2⟩ i hi
      by_cases e : i = k
      · rw [e]; exact q2
      · exact q1 i (by omega)
    · intro q
      exact ⟨fun i hi => q i (by omega), q k (by omega)⟩
theorem s64_loop {p : Nat} {r : Nat → Int64} (hp : p < 8) (hr : J (109 + 5 * p) = r) : ∀ m s, s + m = 32 →
    Run 64 4 [(0, .ref (105 + 5 * p)), (1, .int (nI (cn (uVr r) s))), (2, .int (nI (4 * s)))] [] (mS L I J h z) (.inl (some (.int (nI (cn (uVr r) 32))))) (mS L I J h z) := by
  intro m
  induction m with
  | zero =>
    intro s hs
    have : s = 32 := by omega
    subst this
    exact r64_4 (sP hp) ⟨fun _ => ⟨rfl, rfl⟩, fun c => absurd (by decide) c⟩
  | succ m ih =>
    intro s hs
    have hi := ih (s + 1) (by omega)
    refine r64_4 (sP hp) ⟨fun c => absurd ((nI_leI (a := 128) (by omega) (by omega)).mp c) (by omega), fun _ => ?_⟩
    refine s64_in hp hr (by omega) (fun y hy => ?_) 4 0 0 (by omega) ⟨fun _ i hi => absurd hi (by omega), fun _ => rfl⟩
    have e4 : nI (4 * s) + 4 = nI (4 * (s + 1)) := by rw [show (4 : Int32) = nI 4 from rfl, nI_add]; rfl
    refine r64_18 (sP hp) ⟨fun _ => ⟨fun c => ?_, fun c => ?_⟩, fun c => absurd (by decide) c⟩
    · rw [lcz, hy] at c
      rw [cn_s0 (uVr_f c)] at hi
      rw [Int32.add_zero, e4]; exact hi
    · rw [lcz, hy] at c
      rw [cn_s1 (uVr_t c)] at hi
      rw [nI_1, e4]; exact hi
theorem s64 {p : Nat} (hp : p < 8) : dP 64 [.ref (105 + 5 * p)] L h z I J (nI (cn (uVr (J (109 + 5 * p))) 32)) :=
  r64_0 (sP hp) (s64_loop hp rfl 32 0 (by omega))
theorem s111 {p : Nat} (hp : p < 8) (hP : IJm n p I J M K) : dP 111 [.ref (105 + 5 * p)] L h z I J (nI (64 + 8 * (M 171 p).toNatClampNeg + 40 * cn (uVr (fun i => K 179 (128 * p + i))) 32)) := by
  obtain ⟨⟨c, c1, c2, c3, c4⟩, -, -, -, -, -, -, -, -, hv⟩ := hP
  have e : cn (uVr (J (109 + 5 * p))) 32 = cn (uVr (fun i => K 179 (128 * p + i))) 32 := by
    refine cn_congr (fun s hs => ?_)
    unfold uVr
    rw [hv _ (by omega), hv _ (by omega), hv _ (by omega), hv _ (by omega)]
  have k := s64 (L := L) (h := h) (z := z) (I := I) (J := J) hp
  rw [e] at k
  refine r111_0 (sP hp) ⟨_, k, ?_, rfl⟩
  rw [(R0_p hp).1, c2, c3, cl c (by omega), show (8 : Int32) = nI 8 from rfl, nI_mul, show (40 : Int32) = nI 40 from rfl, nI_mul, show (64 : Int32) = nI 64 from rfl, nI_add, nI_add]
theorem s109_p {A : Nat} (hP : IJ n I J M K) : ∀ m p, p + m = 8 →
    Run 109 99 [(0, .ref 1), (1, .int (nI (A + tot (pSz M K) p))), (2, .int (nI p))] [] (mS L I J h z) (.inl (some (.int (nI (A + tot (pSz M K) 8))))) (mS L I J h z) := by
  intro m
  induction m with
  | zero => intro p hp; rw [show p = 8 by omega]; exact r109_99 ⟨fun _ => ⟨rfl, rfl⟩, fun c => absurd (by decide) c⟩
  | succ m ih =>
    intro p hp
    have hi := ih (p + 1) (by omega)
    rw [show tot (pSz M K) (p + 1) = tot (pSz M K) p + pSz M K p from rfl] at hi
    obtain ⟨h1, h2, h3⟩ := hP p (by omega)
    refine r109_99 ⟨fun c => absurd ((nI_leI (a := 8) (by omega) (by omega)).mp c) (by omega), fun _ => ⟨vp_in_nI (by omega) (by omega), fun c => ?_, fun c => ?_⟩⟩
    all_goals rw [cl p (by omega), R0_64 (by omega)] at c
    all_goals rw [h1] at c
    · rw [pSz, if_pos c] at hi
      rw [Int32.add_zero, nI_1]; exact hi
    · rw [pSz, if_neg c] at hi
      rw [cl p (by omega), R0_64 (by omega)]
      refine ⟨_, s111 (by omega) (h3 (h2.resolve_left c)), ?_⟩
      rw [nI_add, nI_1, Nat.add_assoc]; exact hi
/-- what is kept -/
def kSz (n : Nat) (st fv : Nat → Nat) (M : rI) (K : rJ) : Nat := 64 + 24 * cn (mvs M (-1)) n + 24 * cn (usd M) 40 + tot (gSz M n) 8 + tot (pSz M K) 8
theorem s109 (h0 : InvC n t st tm fv I J M K) : dP 109 [.ref 1] L h z I J (nI (kSz n st fv M K)) := by
  have hE := h0.1
  have k := s15 (L := L) (h := h) (z := z) (J := J) (s := -1) (f := 0) (IE_CW hE) (by omega)
  rw [cnt_vis hE (Or.inl rfl)] at k
  refine r109_0 ⟨_, k, ?_⟩
  rw [show (24 : Int32) = nI 24 from rfl, nI_mul, show (64 : Int32) = nI 64 from rfl, nI_add]
  exact s109_s hE (s109_g hE h0.2.2.2.1 (s109_p h0.2.2.2.2 8 0 (by omega)) 8 0 (by omega)) 40 0 (by omega)
/-! the model -/
theorem usd_ver {s : Nat} : (-1 : Int32) < M 153 s ↔ 0 ≤ M 153 s := by
  simp only [ti_lt, ti_le, Int32.reduceToInt]; omega
theorem s148_s {A : Nat} {o : eO} {σo : eS} (H : Run 148 99 [(0, .ref 145), (1, .int (nI (A + 24 * cn (usd M) 40))), (2, .int (nI 0))] [] (mS L M K h z) o σo) : ∀ m s, s + m = 40 →
    Run 148 36 [(0, .ref 145), (1, .int (nI (A + 24 * cn (usd M) s))), (2, .int (nI s))] [] (mS L M K h z) o σo := by
  intro m
  induction m with
  | zero => intro s hs; rw [show s = 40 by omega]; exact r148_36 ⟨fun _ => H, fun c => absurd (by decide) c⟩
  | succ m ih =>
    intro s hs
    have hi := ih (s + 1) (by omega)
    have T : usd M s = true → Run 148 36 [(0, .ref 145), (1, .int (nI (A + 24 * cn (usd M) s) + 24)), (2, .int (nI s + 1))] [] (mS L M K h z) o σo := fun c => by
      rw [cn_s1 c] at hi
      rw [show (24 : Int32) = nI 24 from rfl, nI_add, nI_1, show A + 24 * cn (usd M) s + 24 = A + 24 * (cn (usd M) s + 1) by omega]; exact hi
    have F : usd M s = false → Run 148 36 [(0, .ref 145), (1, .int (nI (A + 24 * cn (usd M) s))), (2, .int (nI s + 1))] [] (mS L M K h z) o σo := fun c => by
      rw [cn_s0 c] at hi
      rw [nI_1]; exact hi
    refine r148_36 ⟨fun c => absurd ((nI_leI (a := 40) (by omega) (by omega)).mp c) (by omega), fun _ => ?_⟩
    rw [cl s (by omega)]
    refine ⟨vp_in_nI (by omega) (by omega), fun q => T ?_, fun q => ⟨fun q1 => T ?_, fun q1 => ⟨fun q2 => T ?_, fun q2 => ⟨fun q3 => T ?_, fun q3 => ⟨fun q4 => F ?_, fun q4 => T ?_⟩⟩⟩⟩⟩
    all_goals rw [usd_ver] at q
    all_goals unfold usd
    · rw [decide_eq_true q]; rfl
    · rw [decide_eq_false q1]; simp
    · rw [decide_eq_false q2]; simp
    · rw [decide_eq_false q3]; simp
    · rw [decide_eq_false q, decide_eq_true q1, decide_eq_true q2, decide_eq_true q3, decide_eq_true q4]; rfl
    · rw [decide_eq_false q4]; simp
abbrev mkd (M : rI) (g e : Nat) : Bool := decide (M 152 e = 0) && !decide (M 165 (2500 * g + e) = 0)
theorem mkd_cn {g : Nat} (hG : IG1 n g I M) : cn (mkd M g) n = cn (mst M g 1) n + cn (mst M g 2) n := by
  obtain ⟨f, b1, b2, b3⟩ := hG.2.2.2.2.2.2.2.2.1
  refine cn_add n (fun e he => ?_)
  have h3 := (b3 e he).1
  unfold mkd mst
  by_cases c : M 152 e = 0
  · rcases h3 with h3 | h3 | h3 <;> simp [c, h3]
  · simp [c]
theorem s148_in {B g : Nat} {o : eO} {σo : eS} (hg : g < 8) (hE : IE n t st tm fv I J M K) (hG : IG1 n g I M) (H : Run 148 99 [(0, .ref 145), (1, .int (nI (B + 4 * cn (mkd M g) n))), (2, .int (nI (g + 1)))] [] (mS L M K h z) o σo) : ∀ m j, j + m = n →
    Run 148 122 [(0, .ref 145), (1, .int (nI (B + 4 * cn (mkd M g) j))), (2, .int (nI g)), (3, .int (nI j))] [] (mS L M K h z) o σo := by
  have n1 := hE.1
  have h13 := hE.2.2.2.1
  obtain ⟨a1, a2, a3, a4, a5, a6, a7, a8, ⟨f, b1, b2, b3⟩, a9⟩ := hG
  intro m
  induction m with
  | zero =>
    intro j hj
    refine r148_122 ⟨fun _ => ?_, fun c => absurd ?_ c⟩
    · rw [show j = n by omega, nI_1]; exact H
    · rw [h13]; exact nI_le (by omega) (by omega)
  | succ m ih =>
    intro j hj
    have hi := ih (j + 1) (by omega)
    have e : nI g * 2500 + nI j = nI (2500 * g + j) := by
      rw [show (2500 : Int32) = nI 2500 from rfl, nI_mul, nI_add, Nat.mul_comm]
    have F : mkd M g j = false → Run 148 122 [(0, .ref 145), (1, .int (nI (B + 4 * cn (mkd M g) j))), (2, .int (nI g)), (3, .int (nI j + 1))] [] (mS L M K h z) o σo := fun c => by
      rw [cn_s0 c] at hi
      rw [nI_1]; exact hi
    refine r148_122 ⟨fun c => ?_, fun _ => ?_⟩
    · rw [h13] at c; exact absurd ((nI_leI (by omega) (by omega)).mp c) (by omega)
    rw [cl j (by omega)]
    refine ⟨vp_in_nI (by omega) (by omega), fun c => F (by unfold mkd; rw [decide_eq_false c]; rfl), fun c => ⟨_, s132 hg (by omega) hE b2 b1 rfl a6, fun c2 => F ?_, fun c2 => ?_⟩⟩
    · have c2 := b_eq.mp c2
      have hz : M 165 (2500 * g + j) = 0 := Classical.byContradiction fun k => by
        obtain ⟨y1, y2, y3⟩ := (b3 j (by omega)).2 (Or.inl k)
        rw [(hE.2.2.2.2.2.2.2.1 j (by omega)).2.1] at y3
        simp [y2] at c2
        rcases y3 with y3 | y3
        · exact c2.1 y3
        · exact c2.2 y3
      unfold mkd; rw [decide_eq_true hz]; simp
    · rw [e, cl _ (by omega)]
      refine ⟨vp_in_nI (by omega) (by omega), fun c3 => F (by unfold mkd; rw [decide_eq_true c3]; simp), fun c3 => ?_⟩
      rw [cn_s1 (by unfold mkd; rw [decide_eq_true c, decide_eq_false c3]; rfl)] at hi
      rw [show (4 : Int32) = nI 4 from rfl, nI_add, nI_1, show B + 4 * cn (mkd M g) j + 4 = B + 4 * (cn (mkd M g) j + 1) by omega]; exact hi
theorem s148_g {A : Nat} {o : eO} {σo : eS} (hE : IE n t st tm fv I J M K) (hG : IG n I M) (H : Run 148 180 [(0, .ref 145), (1, .int (nI (A + tot (gSz M n) 8))), (2, .int (nI 0))] [] (mS L M K h z) o σo) : ∀ m g, g + m = 8 →
    Run 148 99 [(0, .ref 145), (1, .int (nI (A + tot (gSz M n) g))), (2, .int (nI g))] [] (mS L M K h z) o σo := by
  intro m
  induction m with
  | zero => intro g hg; rw [show g = 8 by omega]; exact r148_99 ⟨fun _ => H, fun c => absurd (by decide) c⟩
  | succ m ih =>
    intro g hg
    have hi := ih (g + 1) (by omega)
    rw [show tot (gSz M n) (g + 1) = tot (gSz M n) g + gSz M n g from rfl] at hi
    refine r148_99 ⟨fun c => absurd ((nI_leI (a := 8) (by omega) (by omega)).mp c) (by omega), fun _ => ⟨vp_in_nI (by omega) (by omega), fun c => ?_, fun c => ?_⟩⟩
    all_goals rw [cl g (by omega)] at c
    · rw [gSz, if_neg c, ← mkd_cn (hG g (by omega)), ← Nat.add_assoc, ← Nat.add_assoc] at hi
      rw [show (32 : Int32) = nI 32 from rfl, nI_add]
      exact s148_in (by omega) hE (hG g (by omega)) hi n 0 (by omega)
    · rw [gSz, if_pos c] at hi
      rw [nI_1]; exact hi
theorem s148_k {p s x1 : Nat} {o : eO} {σo : eS} (hp : p < 8) (hs : s < 32) (H : ∀ x4 : Int32, (x4 = 0 ↔ ∀ i, i < 4 → K 179 (128 * p + (4 * s + i)) = 0) → Run 148 227 [(0, .ref 145), (1, .int (nI x1)), (2, .int (nI p)), (3, .int (nI s)), (4, .int x4), (5, .int (nI 4))] [] (mS L M K h z) o σo) : ∀ m k (x4 : Int32), k + m = 4 → (x4 = 0 ↔ ∀ i, i < k → K 179 (128 * p + (4 * s + i)) = 0) →
    Run 148 227 [(0, .ref 145), (1, .int (nI x1)), (2, .int (nI p)), (3, .int (nI s)), (4, .int x4), (5, .int (nI k))] [] (mS L M K h z) o σo := by
  intro m
  induction m with
  | zero => intro k y hk hy; rw [show k = 4 by omega] at hy ⊢; exact H y hy
  | succ m ih =>
    intro k y hk hy
    have e : (128 : Int32) * nI p + 4 * nI s + nI k = nI (128 * p + (4 * s + k)) := by
      rw [show (128 : Int32) = nI 128 from rfl, nI_mul, show (4 : Int32) = nI 4 from rfl, nI_mul, nI_add, nI_add, Nat.add_assoc]
    refine r148_227 ⟨fun c => absurd ((nI_leI (a := 4) (by omega) (by omega)).mp c) (by omega), fun _ => ⟨fun c => ?_, fun c => ?_⟩⟩
    · rw [nI_1]
      refine ih (k + 1) 1 (by omega) ⟨fun q => absurd q (by decide), fun q => absurd (hy.mpr fun i hi => q i (by omega)) c⟩
    · rw [e, cl _ (by omega), nI_1, lcz]
      refine ⟨vp_in_nI (by omega) (by omega), fun c2 => ih (k + 1) 0 (by omega) ⟨fun _ i hi => ?_, fun _ => rfl⟩, fun c2 => ih (k + 1) 1 (by omega) ⟨fun q => absurd q (by decide), fun q => absurd (q k (by omega)) c2⟩⟩
      by_cases e : i = k
      · rw [e]; exact c2
      · exact hy.mp c i (by omega)
theorem s148_v {p x1 : Nat} {o : eO} {σo : eS} (hp : p < 8) (H : Run 148 180 [(0, .ref 145), (1, .int (nI (x1 + 40 * cn (uVr (fun i => K 179 (128 * p + i))) 32))), (2, .int (nI (p + 1)))] [] (mS L M K h z) o σo) : ∀ m s, s + m = 32 →
    Run 148 215 [(0, .ref 145), (1, .int (nI (x1 + 40 * cn (uVr (fun i => K 179 (128 * p + i))) s))), (2, .int (nI p)), (3, .int (nI s))] [] (mS L M K h z) o σo := by
  intro m
  induction m with
  | zero => intro s hs; rw [show s = 32 by omega]; refine r148_215 ⟨fun _ => ?_, fun c => absurd (by decide) c⟩; rw [nI_1]; exact H
  | succ m ih =>
    intro s hs
    have hi := ih (s + 1) (by omega)
    refine r148_215 ⟨fun c => absurd ((nI_leI (a := 32) (by omega) (by omega)).mp c) (by omega), fun _ => ?_⟩
    refine s148_k hp (by omega) (fun y hy => ?_) 4 0 0 (by omega) ⟨fun _ i hi => absurd hi (by omega), fun _ => rfl⟩
    refine r148_227 ⟨fun _ => ⟨fun c => ?_, fun c => ?_⟩, fun c => absurd (by decide) c⟩
    · rw [hy] at c
      rw [cn_s0 (uVr_f c)] at hi
      rw [nI_1]; exact hi
    · rw [hy] at c
      rw [cn_s1 (uVr_t c)] at hi
      rw [show (40 : Int32) = nI 40 from rfl, nI_add, nI_1, show ∀ q, x1 + 40 * q + 40 = x1 + 40 * (q + 1) by intro q; omega]; exact hi
theorem s148_p {A : Nat} {o : eO} {σo : eS} (hP : IJ n I J M K) (H : Run 148 180 [(0, .ref 145), (1, .int (nI (A + tot (pSz M K) 8))), (2, .int (nI 8))] [] (mS L M K h z) o σo) : ∀ m p, p + m = 8 →
    Run 148 180 [(0, .ref 145), (1, .int (nI (A + tot (pSz M K) p))), (2, .int (nI p))] [] (mS L M K h z) o σo := by
  intro m
  induction m with
  | zero => intro p hp; rw [show p = 8 by omega]; exact H
  | succ m ih =>
    intro p hp
    have hi := ih (p + 1) (by omega)
    rw [show tot (pSz M K) (p + 1) = tot (pSz M K) p + pSz M K p from rfl] at hi
    obtain ⟨h1, h2, h3⟩ := hP p (by omega)
    refine r148_180 ⟨fun c => absurd ((nI_leI (a := 8) (by omega) (by omega)).mp c) (by omega), fun _ => ⟨vp_in_nI (by omega) (by omega), fun c => ?_, fun c => ?_⟩⟩
    all_goals rw [cl p (by omega)] at c
    · obtain ⟨⟨k, c1, c2, c3, c4⟩, -⟩ := h3 (h2.resolve_left c)
      rw [pSz, if_neg c, ← Nat.add_assoc, ← Nat.add_assoc, c3, cl k (by omega)] at hi
      rw [cl p (by omega), c3, show (8 : Int32) = nI 8 from rfl, nI_mul, show (64 : Int32) = nI 64 from rfl, nI_add, nI_add]
      exact s148_v (by omega) hi 32 0 (by omega)
    · rw [pSz, if_pos c] at hi
      rw [nI_1]; exact hi
theorem s148 {o : eO} {σo : eS} (h0 : InvC n t st tm fv I J M K) (H : Run 148 180 [(0, .ref 145), (1, .int (nI (kSz n st fv M K))), (2, .int (nI 8))] [] (mS L M K h z) o σo) : ∃ v6 : Int32, Den 126 [.ref 145, .int (-1)] (mS L M K h z) (.inl (some (.int v6))) (mS L M K h z) ∧ Run 148 36 [(0, .ref 145), (1, .int (64 + 24 * v6)), (2, .int 0)] [] (mS L M K h z) o σo := by
  have hE := h0.1
  refine ⟨_, s126 hE.1 hE.2.2.2.1, ?_⟩
  rw [show (24 : Int32) = nI 24 from rfl, nI_mul, show (64 : Int32) = nI 64 from rfl, nI_add]
  exact s148_s (s148_g hE h0.2.2.2.1 (s148_p h0.2.2.2.2 H 8 0 (by omega)) 8 0 (by omega)) 40 0 (by omega)
end
