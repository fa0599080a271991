/-! tick: what is due, on both sides. -/
theorem cn_s {P : Nat → Bool} {j : Nat} : cn P (j + 1) = cn P j + (if P j = true then 1 else 0) := rfl
theorem cn_s1 {P : Nat → Bool} {j : Nat} (h : P j = true) : cn P (j + 1) = cn P j + 1 := by rw [cn_s, if_pos h]
theorem cn_s0 {P : Nat → Bool} {j : Nat} (h : P j = false) : cn P (j + 1) = cn P j := by rw [cn_s, if_neg (by rw [h]; decide), Nat.add_zero]
theorem nlt {a b : Int32} : ¬ a < b ↔ b ≤ a := by rw [ti_lt, ti_le]; omega
theorem nle {a b : Int32} : ¬ a ≤ b ↔ b < a := by rw [ti_lt, ti_le]; omega
theorem cn_bij {n : Nat} {po : Nat → Nat} {Q : Nat → Bool} : ∀ (k : Nat) (P : Nat → Bool), (∀ i, i < k → po i < n) → (∀ i, i < k → ∀ j, j < k → po j = po i → j = i) → (∀ e, e < n → (P e = true ↔ ∃ i, i < k ∧ Q i = true ∧ po i = e)) → cn P n = cn Q k := by
  intro k
  induction k with
  | zero =>
    intro P _ _ h
    rw [cn_zero (fun e he => Bool.eq_false_iff.mpr (fun q => by obtain ⟨i, hi, _⟩ := (h e he).mp q; omega))]
    rfl
  | succ k ih =>
    intro P h1 h2 h3
    by_cases hq : Q k = true
    · have hp : P (po k) = true := (h3 (po k) (h1 k (by omega))).mpr ⟨k, by omega, hq, rfl⟩
      rw [cn_rm (h1 k (by omega)) hp, cn_s1 hq, ih (fun e => P e && !decide (e = po k)) (fun i hi => h1 i (by omega)) (fun i hi j hj => h2 i (by omega) j (by omega)) (fun e he => ?_)]
      simp only [Bool.and_eq_true, Bool.not_eq_true', decide_eq_false_iff_not, h3 e he]
      constructor
      · rintro ⟨⟨i, q1, q2, q3⟩, q4⟩
        exact ⟨i, Nat.lt_of_le_of_ne (by omega) (fun q => q4 (by rw [← q3, q])), q2, q3⟩
      · rintro ⟨i, q1, q2, q3⟩
        exact ⟨⟨i, by omega, q2, q3⟩, fun q => by have := h2 k (by omega) i (by omega) (by rw [q3, q]); omega⟩
    · rw [cn_s0 (Bool.eq_false_iff.mpr hq)]
      refine ih P (fun i hi => h1 i (by omega)) (fun i hi j hj => h2 i (by omega) j (by omega)) (fun e he => ?_)
      rw [h3 e he]
      constructor
      · rintro ⟨i, q1, q2, q3⟩
        exact ⟨i, Nat.lt_of_le_of_ne (by omega) (fun q => hq (by rw [← q]; exact q2)), q2, q3⟩
      · rintro ⟨i, q1, q2, q3⟩
        exact ⟨i, by omega, q2, q3⟩
/-- a sum over the first ones -/
def tot (f : Nat → Nat) : Nat → Nat
  | 0 => 0
  | g + 1 => tot f g + f g
theorem tot_le {f : Nat → Nat} {c : Nat} : ∀ x, (∀ g, g < x → f g ≤ c) → tot f x ≤ x * c := by
  intro x
  induction x with
  | zero => intro _; exact Nat.zero_le _
  | succ x ih =>
    intro h
    have h1 := ih (fun g hg => h g (by omega))
    have h2 := h x (by omega)
    rw [Nat.succ_mul]
    exact Nat.add_le_add h1 h2
theorem tot_congr {f f' : Nat → Nat} : ∀ x, (∀ g, g < x → f g = f' g) → tot f x = tot f' x := by
  intro x
  induction x with
  | zero => intro _; rfl
  | succ x ih =>
    intro h
    show tot f x + f x = tot f' x + f' x
    rw [ih (fun g hg => h g (by omega)), h x (by omega)]
abbrev due (M : rI) (y : Int32) (g e : Nat) : Bool := !decide (M 166 (2500 * g + e) = 0) && decide (M 166 (2500 * g + e) ≤ y)
abbrev spt (M : rI) (g e : Nat) : Bool := !decide (M 167 (2500 * g + e) ≤ M 164 g)
abbrev dsp (M : rI) (y : Int32) (g e : Nat) : Bool := due M y g e && spt M g e
section
variable {L h z n t : Nat} {st tm fv fv' : Nat → Nat} {I I' M M' : rI} {J K J' K' : rJ}
theorem out_bij {g k : Nat} {po : Nat → Nat} {P Q : Nat → Bool} (hn : n ≤ 2500) (ho : IGo n g k po I M) (h : ∀ i, i < k → (P (po i) = Q i)) (h0 : ∀ e, e < n → M 166 (2500 * g + e) = 0 → P e = false) : cn P n = cn Q k := by
  refine cn_bij k P (fun i hi => (ho.2.2.1 i hi).1) (fun i hi j hj q => (ho.2.2.1 i hi).2.2.2.2 j hj q) (fun e he => ?_)
  constructor
  · intro q
    obtain ⟨i, hi, hpi⟩ : ∃ i, i < k ∧ po i = e := Classical.byContradiction fun c => by
      have := h0 e he (ho.2.2.2 e (by omega) (fun i hi r => c ⟨i, hi, r⟩))
      rw [this] at q
      cases q
    exact ⟨i, hi, by rw [← h i hi, hpi]; exact q, hpi⟩
  · rintro ⟨i, hi, q, rfl⟩
    rw [h i hi]; exact q
theorem s34_loop {g k : Nat} {y : Int32} (hg : g < 8) (hk : k ≤ 16) (h4 : I (65 + 5 * g) 4 = nI k) : ∀ m j, j + m = k →
    Run 34 4 [(0, .ref (65 + 5 * g)), (1, .int y), (2, .int (nI (cn (fun i => decide (I (69 + 5 * g) i ≤ y)) j))), (3, .int (nI j))] [] (mS L I J h z) (.inl (some (.int (nI (cn (fun i => decide (I (69 + 5 * g) i ≤ y)) k))))) (mS L I J h z) := by
  intro m
  induction m with
  | zero =>
    intro j hj
    refine r34_4 (sG hg) ⟨fun _ => by rw [show j = k by omega]; exact ⟨rfl, rfl⟩, fun c => absurd ?_ c⟩
    rw [h4]; exact nI_le (by omega) (by omega)
  | succ m ih =>
    intro j hj
    have hi := ih (j + 1) (by omega)
    refine r34_4 (sG hg) ⟨fun c => ?_, fun _ => ⟨vp_in_nI (by omega) (by omega), fun c => ?_, fun c => ?_⟩⟩
    · rw [h4] at c; exact absurd ((nI_leI (by omega) (by omega)).mp c) (by omega)
    all_goals rw [(R0_g hg).2.2.2, cl j (by omega)] at c
    · rw [cn_s0 (decide_eq_false (fun q => absurd c (nlt.mpr q)))] at hi
      rw [Int32.add_zero, nI_1]; exact hi
    · rw [cn_s1 (decide_eq_true (nlt.mp c))] at hi
      rw [nI_1, nI_1]; exact hi
/-- countDue -/
theorem s34 {g : Nat} {y : Int32} (hg : g < 8) (hn : n ≤ 2500) (hG : IG1 n g I M) : dP 34 [.ref (65 + 5 * g), .int y] L h z I J (nI (cn (due M y g) n)) := by
  obtain ⟨a1, a2, a3, a4, a5, a6, a7, a8, a9, k, po, ho⟩ := hG
  have e : cn (due M y g) n = cn (fun i => decide (I (69 + 5 * g) i ≤ y)) k := by
    refine out_bij hn ho (fun i hi => ?_) (fun e he q => ?_)
    · obtain ⟨y1, y2, y3, y4, y5⟩ := ho.2.2.1 i hi
      rw [due, y3, decide_eq_false y4]; rfl
    · rw [due, decide_eq_true q]; rfl
  rw [e]
  exact r34_0 (sG hg) (s34_loop hg ho.1 ho.2.1 k 0 (by omega))
theorem s35_loop {g k : Nat} {po : Nat → Nat} {y : Int32} (hg : g < 8) (hk : k ≤ 16) (h4 : I (65 + 5 * g) 4 = nI k) (hpo : ∀ i, i < k → po i < 2500 ∧ I (68 + 5 * g) i = nI (po i)) : ∀ m j, j + m = k →
    Run 35 4 [(0, .ref (65 + 5 * g)), (1, .int y), (2, .int (nI (cn (fun i => decide (I (69 + 5 * g) i ≤ y) && !decide (I (67 + 5 * g) (po i) ≤ I (65 + 5 * g) 8)) j))), (3, .int (nI j))] [] (mS L I J h z) (.inl (some (.int (nI (cn (fun i => decide (I (69 + 5 * g) i ≤ y) && !decide (I (67 + 5 * g) (po i) ≤ I (65 + 5 * g) 8)) k))))) (mS L I J h z) := by
  intro m
  induction m with
  | zero =>
    intro j hj
    refine r35_4 (sG hg) ⟨fun _ => by rw [show j = k by omega]; exact ⟨rfl, rfl⟩, fun c => absurd ?_ c⟩
    rw [h4]; exact nI_le (by omega) (by omega)
  | succ m ih =>
    intro j hj
    have hi := ih (j + 1) (by omega)
    obtain ⟨p1, p2⟩ := hpo j (by omega)
    refine r35_4 (sG hg) ⟨fun c => ?_, fun _ => ⟨vp_in_nI (by omega) (by omega), fun c => ?_, fun c => ?_⟩⟩
    · rw [h4] at c; exact absurd ((nI_leI (by omega) (by omega)).mp c) (by omega)
    all_goals rw [(R0_g hg).2.2.2, cl j (by omega)] at c
    · rw [cn_s0 (by rw [decide_eq_false (fun q => absurd c (nlt.mpr q))]; rfl)] at hi
      rw [Int32.add_zero, nI_1]; exact hi
    · rw [(R0_g hg).2.2.1, cl j (by omega), p2]
      refine ⟨_, s30 hg p1, fun c2 => ?_, fun c2 => ?_⟩
      · rw [cn_s0 (by rw [b_eq.mp c2]; simp)] at hi
        rw [Int32.add_zero, nI_1]; exact hi
      · rw [cn_s1 (by rw [b_ne.mp c2, decide_eq_true (nlt.mp c)]; rfl)] at hi
        rw [nI_1, nI_1]; exact hi
/-- countParkedBy -/
theorem s35 {g : Nat} {y : Int32} (hg : g < 8) (hn : n ≤ 2500) (hG : IG1 n g I M) : dP 35 [.ref (65 + 5 * g), .int y] L h z I J (nI (cn (dsp M y g) n)) := by
  obtain ⟨a1, a2, a3, a4, a5, a6, a7, a8, a9, k, po, ho⟩ := hG
  have e : cn (dsp M y g) n = cn (fun i => decide (I (69 + 5 * g) i ≤ y) && !decide (I (67 + 5 * g) (po i) ≤ I (65 + 5 * g) 8)) k := by
    refine out_bij hn ho (fun i hi => ?_) (fun e he q => ?_)
    · obtain ⟨y1, y2, y3, y4, y5⟩ := ho.2.2.1 i hi
      rw [dsp, due, spt, y3, decide_eq_false y4, a5, (a7 (po i) (by omega)).2]; rfl
    · rw [dsp, due, decide_eq_true q]; rfl
  rw [e]
  exact r35_0 (sG hg) (s35_loop hg ho.1 ho.2.1 (fun i hi => ⟨by have := (ho.2.2.1 i hi).1; omega, (ho.2.2.1 i hi).2.1⟩) k 0 (by omega))
theorem due_le {g : Nat} {y : Int32} (hn : n ≤ 2500) (hG : IG1 n g I M) : cn (due M y g) n ≤ 16 ∧ cn (dsp M y g) n ≤ 16 := by
  obtain ⟨a1, a2, a3, a4, a5, a6, a7, a8, a9, k, po, ho⟩ := hG
  have hk := ho.1
  have e1 := out_bij (P := due M y g) (Q := fun i => due M y g (po i)) hn ho (fun _ _ => rfl) (fun e he q => by rw [due, decide_eq_true q]; rfl)
  have e2 := out_bij (P := dsp M y g) (Q := fun i => dsp M y g (po i)) hn ho (fun _ _ => rfl) (fun e he q => by rw [dsp, due, decide_eq_true q]; rfl)
  rw [e1, e2]
  have h1 := cn_le (fun i => due M y g (po i)) k
  have h2 := cn_le (fun i => dsp M y g (po i)) k
  omega
/-- the class counts over its groups -/
theorem s75_loop {y : Int32} {o : eO} {σo : eS} (hn : n ≤ 2500) (hG : IG n I M) (H : Run 75 44 [(0, .ref 1), (2, .int y), (3, .int (nI (tot (fun g => cn (due M y g) n) 8))), (4, .int (nI (tot (fun g => cn (dsp M y g) n) 8))), (5, .int (nI 8))] [] (mS L I J h z) o σo) : ∀ m g, g + m = 8 →
    Run 75 44 [(0, .ref 1), (2, .int y), (3, .int (nI (tot (fun g => cn (due M y g) n) g))), (4, .int (nI (tot (fun g => cn (dsp M y g) n) g))), (5, .int (nI g))] [] (mS L I J h z) o σo := by
  intro m
  induction m with
  | zero => intro g hg; rw [show g = 8 by omega]; exact H
  | succ m ih =>
    intro g hg
    have hi := ih (g + 1) (by omega)
    refine r75_44 ⟨fun c => absurd ((nI_leI (a := 8) (by omega) (by omega)).mp c) (by omega), fun _ => ⟨vp_in_nI (by omega) (by omega), ?_⟩⟩
    rw [cl g (by omega), R0_63 (by omega)]
    refine ⟨_, s34 (by omega) hn (hG g (by omega)), _, s35 (by omega) hn (hG g (by omega)), ?_⟩
    rw [nI_add, nI_add, nI_1]
    exact hi
/-- the model counts -/
theorem s129_in {A B g : Nat} {x1 y : Int32} {o : eO} {σo : eS} (hg : g < 8) (hn : n ≤ 2500) (h13 : I 145 13 = nI n) (hy : I 145 2 + x1 = y) (H : Run 129 53 [(0, .ref 145), (1, .int x1), (2, .int (nI (A + cn (due I y g) n))), (3, .int (nI (B + cn (dsp I y g) n))), (4, .int (nI (g + 1)))] [] (mS L I J h z) o σo) : ∀ m j, j + m = n →
    Run 129 63 [(0, .ref 145), (1, .int x1), (2, .int (nI (A + cn (due I y g) j))), (3, .int (nI (B + cn (dsp I y g) j))), (4, .int (nI g)), (5, .int (nI j))] [] (mS L I J h z) o σo := by
  intro m
  induction m with
  | zero =>
    intro j hj
    refine r129_63 ⟨fun _ => ?_, fun c => absurd ?_ c⟩
    · rw [show j = n by omega, nI_1]; exact H
    · rw [h13]; exact nI_le (by omega) (by omega)
  | succ m ih =>
    intro j hj
    have hi := ih (j + 1) (by omega)
    have e : nI g * 2500 + nI j = nI (2500 * g + j) := by
      rw [show (2500 : Int32) = nI 2500 from rfl, nI_mul, nI_add, Nat.mul_comm]
    refine r129_63 ⟨fun c => ?_, fun _ => ?_⟩
    · rw [h13] at c; exact absurd ((nI_leI (by omega) (by omega)).mp c) (by omega)
    rw [e, cl _ (by omega), cl g (by omega), hy]
    refine ⟨vp_in_nI (by omega) (by omega), fun c => ?_, fun c => ⟨fun c2 => ⟨vp_in_nI hg (by omega), fun c3 => ?_, fun c3 => ?_⟩, fun c2 => ?_⟩⟩
    · have d1 : due I y g j = false := by rw [due, decide_eq_true c]; rfl
      rw [cn_s0 d1, cn_s0 (by rw [dsp, d1]; rfl)] at hi
      rw [nI_1]; exact hi
    · have d1 : due I y g j = true := by rw [due, decide_eq_false c, decide_eq_true c2]; rfl
      rw [cn_s1 d1, cn_s0 (by rw [dsp, spt, decide_eq_true c3]; simp)] at hi
      rw [nI_1, nI_1]; exact hi
    · have d1 : due I y g j = true := by rw [due, decide_eq_false c, decide_eq_true c2]; rfl
      rw [cn_s1 d1, cn_s1 (by rw [dsp, d1, spt, decide_eq_false c3]; rfl)] at hi
      rw [nI_1, nI_1, nI_1]; exact hi
    · have d1 : due I y g j = false := by rw [due, decide_eq_false c2]; simp
      rw [cn_s0 d1, cn_s0 (by rw [dsp, d1]; rfl)] at hi
      rw [nI_1]; exact hi
theorem s129_out {x1 y : Int32} {o : eO} {σo : eS} (hn : n ≤ 2500) (h13 : I 145 13 = nI n) (hy : I 145 2 + x1 = y) (H : Run 129 53 [(0, .ref 145), (1, .int x1), (2, .int (nI (tot (fun g => cn (due I y g) n) 8))), (3, .int (nI (tot (fun g => cn (dsp I y g) n) 8))), (4, .int (nI 8))] [] (mS L I J h z) o σo) : ∀ m g, g + m = 8 →
    Run 129 53 [(0, .ref 145), (1, .int x1), (2, .int (nI (tot (fun g => cn (due I y g) n) g))), (3, .int (nI (tot (fun g => cn (dsp I y g) n) g))), (4, .int (nI g))] [] (mS L I J h z) o σo := by
  intro m
  induction m with
  | zero => intro g hg; rw [show g = 8 by omega]; exact H
  | succ m ih =>
    intro g hg
    have hi := ih (g + 1) (by omega)
    refine r129_53 ⟨fun c => absurd ((nI_leI (a := 8) (by omega) (by omega)).mp c) (by omega), fun _ => ?_⟩
    exact s129_in (by omega) hn h13 hy hi n 0 (by omega)
/-- what a tick takes back, in the model -/
def mTk (M : rI) (n : Nat) (y : Int32) (x : Nat) : rI := fun b j => if j < x ∧ j % 2500 < n ∧ ¬ M 166 j = 0 ∧ M 166 j ≤ y then (if b = 166 then 0 else if b = 165 ∧ ¬ M 167 j ≤ M 164 (j / 2500) then 2 else M b j) else M b j
theorem mTk_ne {y : Int32} {x b : Nat} (h1 : ¬ b = 165) (h2 : ¬ b = 166) : mTk M n y x b = M b := by
  funext j
  unfold mTk
  simp [h1, h2]
theorem mTk_0 {y : Int32} : mTk M n y 0 = M := by
  funext b j; unfold mTk; rw [if_neg (by omega)]
theorem mTk_at {y : Int32} {x b j : Nat} (h : x ≤ j) : mTk M n y x b j = M b j := by
  unfold mTk; rw [if_neg (by omega)]
theorem mTk_s0 {y : Int32} {x : Nat} (h : ¬ (x % 2500 < n ∧ ¬ M 166 x = 0 ∧ M 166 x ≤ y)) : mTk M n y x = mTk M n y (x + 1) := by
  funext b j
  unfold mTk
  by_cases c : j = x
  · subst c; rw [if_neg (by omega), if_neg (fun q => h q.2)]
  · simp only [show (j < x + 1) = (j < x) by rw [eq_iff_iff]; omega]
theorem mTk_s1 {y : Int32} {x : Nat} (h : x % 2500 < n ∧ ¬ M 166 x = 0 ∧ M 166 x ≤ y) (h2 : M 167 x ≤ M 164 (x / 2500)) : u2 (mTk M n y x) 166 x 0 = mTk M n y (x + 1) := by
  funext b j
  rw [u2_at]
  unfold mTk
  by_cases c : j = x
  · subst c
    by_cases cb : b = 166
    · rw [if_pos ⟨cb, rfl⟩, if_pos ⟨by omega, h⟩, if_pos cb]
    · rw [if_neg (fun q => cb q.1), if_neg (by omega), if_pos ⟨by omega, h⟩, if_neg cb, if_neg (fun q => q.2 h2)]
  · rw [if_neg (fun q => c q.2)]
    simp only [show (j < x + 1) = (j < x) by rw [eq_iff_iff]; omega]
theorem mTk_s2 {y : Int32} {x : Nat} (h : x % 2500 < n ∧ ¬ M 166 x = 0 ∧ M 166 x ≤ y) (h2 : ¬ M 167 x ≤ M 164 (x / 2500)) : u2 (u2 (mTk M n y x) 166 x 0) 165 x 2 = mTk M n y (x + 1) := by
  funext b j
  rw [u2_at, u2_at]
  unfold mTk
  by_cases c : j = x
  · subst c
    by_cases cb : b = 165
    · rw [if_pos ⟨cb, rfl⟩, if_pos ⟨by omega, h⟩, if_neg (by omega), if_pos ⟨cb, h2⟩]
    · rw [if_neg (fun q => cb q.1)]
      by_cases cb2 : b = 166
      · rw [if_pos ⟨cb2, rfl⟩, if_pos ⟨by omega, h⟩, if_pos cb2]
      · rw [if_neg (fun q => cb2 q.1), if_neg (by omega), if_pos ⟨by omega, h⟩, if_neg cb2, if_neg (fun q => cb q.1)]
  · rw [if_neg (fun q => c q.2), if_neg (fun q => c q.2)]
    simp only [show (j < x + 1) = (j < x) by rw [eq_iff_iff]; omega]
theorem mTk_g {y : Int32} {g : Nat} (hn : n ≤ 2500) : mTk M n y (2500 * g + n) = mTk M n y (2500 * (g + 1)) := by
  funext b j
  unfold mTk
  by_cases c : j % 2500 < n
  · have e : (j < 2500 * g + n) ↔ (j < 2500 * (g + 1)) := by omega
    simp only [e]
  · rw [if_neg (fun q => c q.2.1), if_neg (fun q => c q.2.1)]
theorem s129_in2 {g : Nat} {y x2 : Int32} {o : eO} {σo : eS} (hg : g < 8) (hn : n ≤ 2500) (h13 : M 145 13 = nI n) (hy : M 145 2 = y) (H : Run 129 195 [(0, .ref 145), (2, .int x2), (4, .int (nI (g + 1)))] [] (mS L (mTk M n y (2500 * (g + 1))) J h z) o σo) : ∀ m j, j + m = n →
    Run 129 205 [(0, .ref 145), (2, .int x2), (4, .int (nI g)), (5, .int (nI j))] [] (mS L (mTk M n y (2500 * g + j)) J h z) o σo := by
  intro m
  induction m with
  | zero =>
    intro j hj
    refine r129_205 ⟨fun _ => ?_, fun c => absurd ?_ c⟩
    · rw [show j = n by omega, nI_1, mTk_g hn]; exact H
    · rw [mTk_ne (by omega) (by omega), h13]; exact nI_le (by omega) (by omega)
  | succ m ih =>
    intro j hj
    have hi := ih (j + 1) (by omega)
    have e : nI g * 2500 + nI j = nI (2500 * g + j) := by
      rw [show (2500 : Int32) = nI 2500 from rfl, nI_mul, nI_add, Nat.mul_comm]
    have em : (2500 * g + j) % 2500 = j := by omega
    have ed : (2500 * g + j) / 2500 = g := by omega
    refine r129_205 ⟨fun c => ?_, fun _ => ?_⟩
    · rw [mTk_ne (by omega) (by omega), h13] at c; exact absurd ((nI_leI (by omega) (by omega)).mp c) (by omega)
    rw [e, cl _ (by omega), cl g (by omega), mTk_at (Nat.le_refl _), mTk_ne (b := 167) (by omega) (by omega), mTk_ne (b := 164) (by omega) (by omega), mTk_ne (b := 145) (by omega) (by omega), hy, nI_1]
    refine ⟨vp_in_nI (by omega) (by omega), fun c => ?_, fun c => ⟨fun c2 => ⟨vp_in_nI hg (by omega), fun c3 => ?_, fun c3 => ?_⟩, fun c2 => ?_⟩⟩
    · rw [mTk_s0 (fun q => q.2.1 c)]; exact hi
    · rw [mTk_s1 ⟨by omega, c, c2⟩ (by rw [ed]; exact c3)]; exact hi
    · rw [mTk_s2 ⟨by omega, c, c2⟩ (by rw [ed]; exact c3)]; exact hi
    · rw [mTk_s0 (fun q => c2 q.2.2)]; exact hi
theorem s129_out2 {y x2 : Int32} {o : eO} {σo : eS} (hn : n ≤ 2500) (h13 : M 145 13 = nI n) (hy : M 145 2 = y) (H : Run 129 195 [(0, .ref 145), (2, .int x2), (4, .int (nI 8))] [] (mS L (mTk M n y 20000) J h z) o σo) : ∀ m g, g + m = 8 →
    Run 129 195 [(0, .ref 145), (2, .int x2), (4, .int (nI g))] [] (mS L (mTk M n y (2500 * g)) J h z) o σo := by
  intro m
  induction m with
  | zero => intro g hg; rw [show g = 8 by omega]; exact H
  | succ m ih =>
    intro g hg
    have hi := ih (g + 1) (by omega)
    refine r129_195 ⟨fun c => absurd ((nI_leI (a := 8) (by omega) (by omega)).mp c) (by omega), fun _ => ?_⟩
    exact s129_in2 (by omega) hn h13 hy hi n 0 (by omega)
end
