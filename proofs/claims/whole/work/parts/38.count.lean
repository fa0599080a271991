/-! Counts: what is visible, marked, out. -/
theorem dbt {b : Bool} : decide (b = true) = b := by cases b <;> rfl
theorem cn_rm {P : Nat → Bool} {x n : Nat} (hx : x < n) (hp : P x = true) : cn P n = cn (fun e => P e && !decide (e = x)) n + 1 := by
  induction n with
  | zero => omega
  | succ n ih =>
    unfold cn
    by_cases h : x = n
    · subst h
      have e : cn (fun e => P e && !decide (e = x)) x = cn P x := cn_congr (fun k hk => by simp; intro _; omega)
      rw [e]
      simp [hp]
    · rw [ih (by omega)]
      have : (P n && !decide (n = x)) = P n := by
        rw [decide_eq_false (show ¬ n = x by omega)]; simp
      rw [this]; omega
theorem cn_img {n : Nat} : ∀ (k : Nat) (P : Nat → Bool) (po : Nat → Nat), (∀ i, i < k → po i < n) → (∀ i, i < k → ∀ j, j < k → po j = po i → j = i) → (∀ e, e < n → (P e = true ↔ ∃ i, i < k ∧ po i = e)) → cn P n = k := by
  intro k
  induction k with
  | zero =>
    intro P po h1 h2 h3
    refine cn_zero (fun e he => ?_)
    rw [← Bool.not_eq_true, h3 e he]
    rintro ⟨i, hi, _⟩
    omega
  | succ k ih =>
    intro P po h1 h2 h3
    have hp : P (po k) = true := (h3 _ (h1 k (by omega))).mpr ⟨k, by omega, rfl⟩
    rw [cn_rm (h1 k (by omega)) hp, ih (fun e => P e && !decide (e = po k)) po (fun i hi => h1 i (by omega)) (fun i hi j hj => h2 i (by omega) j (by omega)) (fun e he => ?_)]
    simp only [Bool.and_eq_true, Bool.not_eq_true', decide_eq_false_iff_not, h3 e he]
    constructor
    · rintro ⟨⟨i, hi, q⟩, hne⟩
      refine ⟨i, ?_, q⟩
      by_cases hk : i = k
      · subst hk; exact absurd q.symm hne
      · omega
    · rintro ⟨i, hi, q⟩
      refine ⟨⟨i, by omega, q⟩, fun c => ?_⟩
      have := h2 i (by omega) k (by omega) (c.symm.trans q.symm)
      omega
section
variable {L h z n t : Nat} {st tm fv : Nat → Nat} {I I' M M' : rI} {J K J' K' : rJ}
/-- out of a group (model) -/
abbrev mo (M : rI) (g e : Nat) : Bool := !decide (M 166 (2500 * g + e) = 0)
theorem out_cn {g k : Nat} {po : Nat → Nat} (hn : n ≤ 2500) (h : IGo n g k po I M) : cn (mo M g) n = k := by
  obtain ⟨h1, h2, h3, h4⟩ := h
  refine cn_img k _ po (fun i hi => (h3 i hi).1) (fun i hi => (h3 i hi).2.2.2.2) (fun e he => ?_)
  constructor
  · intro hp
    refine Classical.byContradiction fun c => ?_
    have := h4 e (by omega) (fun i hi q => c ⟨i, hi, q⟩)
    simp [mo, this] at hp
  · rintro ⟨i, hi, rfl⟩
    obtain ⟨a1, a2, a3, a4, a5⟩ := h3 i hi
    simp only [mo, a3, decide_eq_false a4, Bool.not_false]
theorem s135_loop {g : Nat} (hg : g < 8) (hn : n ≤ 2500) (h13 : I 145 13 = nI n) : ∀ m k, k + m = n →
    Run 135 4 [(0, .ref 145), (1, .int (nI g)), (2, .int (nI (cn (mo I g) k))), (3, .int (nI k))] [] (mS L I J h z) (.inl (some (.int (nI (cn (mo I g) n))))) (mS L I J h z) := by
  intro m
  induction m with
  | zero =>
    intro k hk
    refine r135_4 ⟨fun _ => by rw [show k = n by omega]; exact ⟨rfl, rfl⟩, fun c => absurd ?_ c⟩
    rw [h13]; exact nI_le (by omega) (by omega)
  | succ m ih =>
    intro k hk
    have e : nI g * 2500 + nI k = nI (2500 * g + k) := by
      rw [show (2500 : Int32) = nI 2500 from rfl, nI_mul, nI_add, Nat.mul_comm]
    refine r135_4 ⟨fun c => ?_, fun _ => ?_⟩
    · rw [h13] at c
      exact absurd ((nI_leI (by omega) (by omega)).mp c) (by omega)
    · rw [e, cl _ (by omega), nI_1]
      refine ⟨vp_in_nI (by omega) (by omega), fun c => ?_, fun c => ?_⟩
      · have := ih (k + 1) (by omega)
        rw [show cn (mo I g) (k + 1) = cn (mo I g) k by show cn _ k + _ = _; simp [mo, c]] at this
        exact this
      · have := ih (k + 1) (by omega)
        rw [show cn (mo I g) (k + 1) = cn (mo I g) k + 1 by show cn _ k + _ = _; simp [mo, c]] at this
        rw [nI_1]
        exact this
theorem s135 {g : Nat} (hg : g < 8) (hn : n ≤ 2500) (h13 : I 145 13 = nI n) : dP 135 [.ref 145, .int (nI g)] L h z I J (nI (cn (mo I g) n)) :=
  r135_0 (s135_loop hg hn h13 n 0 (by omega))
/-- visible, and of a stream (all: below 0) -/
abbrev mvs (I : rI) (x : Int32) (e : Nat) : Bool := decide (I 152 e = 0) && (decide (x < 0) || decide (I 146 e = x))
theorem s126_loop {x : Int32} (hn : n ≤ 2500) (h13 : I 145 13 = nI n) : ∀ m k, k + m = n →
    Run 126 4 [(0, .ref 145), (1, .int x), (2, .int (nI (cn (mvs I x) k))), (3, .int (nI k))] [] (mS L I J h z) (.inl (some (.int (nI (cn (mvs I x) n))))) (mS L I J h z) := by
  intro m
  induction m with
  | zero =>
    intro k hk
    refine r126_4 ⟨fun _ => by rw [show k = n by omega]; exact ⟨rfl, rfl⟩, fun c => absurd ?_ c⟩
    rw [h13]; exact nI_le (by omega) (by omega)
  | succ m ih =>
    intro k hk
    have h0 := ih (k + 1) (by omega)
    have h1 : mvs I x k = true → Run 126 4 [(0, .ref 145), (1, .int x), (2, .int (nI (cn (mvs I x) k) + 1)), (3, .int (nI k + 1))] [] (mS L I J h z) (.inl (some (.int (nI (cn (mvs I x) n))))) (mS L I J h z) := by
      intro c
      rw [show cn (mvs I x) (k + 1) = cn (mvs I x) k + 1 by show cn _ k + _ = _; rw [if_pos c]] at h0
      rw [nI_1, nI_1]; exact h0
    have h2 : mvs I x k = false → Run 126 4 [(0, .ref 145), (1, .int x), (2, .int (nI (cn (mvs I x) k))), (3, .int (nI k + 1))] [] (mS L I J h z) (.inl (some (.int (nI (cn (mvs I x) n))))) (mS L I J h z) := by
      intro c
      rw [show cn (mvs I x) (k + 1) = cn (mvs I x) k by show cn _ k + _ = _; rw [c]; rfl] at h0
      rw [nI_1]; exact h0
    refine r126_4 ⟨fun c => ?_, fun _ => ?_⟩
    · rw [h13] at c
      exact absurd ((nI_leI (by omega) (by omega)).mp c) (by omega)
    · rw [cl _ (by omega)]
      refine ⟨vp_in_nI (by omega) (by omega), fun c => h2 ?_, fun c => ⟨fun c2 => h1 ?_, fun c2 => ⟨fun c3 => h2 ?_, fun c3 => h1 ?_⟩⟩⟩
      · simp [mvs, c]
      · simp [mvs, c, c2]
      · simp [mvs, c, c2, c3]
      · simp [mvs, c, c3]
theorem s126 {x : Int32} (hn : n ≤ 2500) (h13 : I 145 13 = nI n) : dP 126 [.ref 145, .int x] L h z I J (nI (cn (mvs I x) n)) :=
  r126_0 (s126_loop hn h13 n 0 (by omega))
/-- of a group: visible, and in a state -/
abbrev mst (I : rI) (g : Nat) (x : Int32) (e : Nat) : Bool := decide (I 152 e = 0) && decide (I 165 (2500 * g + e) = x)
theorem s151_loop {g : Nat} {x : Int32} (hg : g < 8) (hn : n ≤ 2500) (h13 : I 145 13 = nI n) : ∀ m k, k + m = n →
    Run 151 16 [(0, .ref 145), (1, .int (nI g)), (2, .int x), (3, .int (nI (cn (mst I g x) k))), (4, .int (nI k))] [] (mS L I J h z) (.inl (some (.int (nI (cn (mst I g x) n))))) (mS L I J h z) := by
  intro m
  induction m with
  | zero =>
    intro k hk
    refine r151_16 ⟨fun _ => by rw [show k = n by omega]; exact ⟨rfl, rfl⟩, fun c => absurd ?_ c⟩
    rw [h13]; exact nI_le (by omega) (by omega)
  | succ m ih =>
    intro k hk
    have h0 := ih (k + 1) (by omega)
    have e : nI g * 2500 + nI k = nI (2500 * g + k) := by
      rw [show (2500 : Int32) = nI 2500 from rfl, nI_mul, nI_add, Nat.mul_comm]
    have h1 : mst I g x k = true → Run 151 16 [(0, .ref 145), (1, .int (nI g)), (2, .int x), (3, .int (nI (cn (mst I g x) k) + 1)), (4, .int (nI k + 1))] [] (mS L I J h z) (.inl (some (.int (nI (cn (mst I g x) n))))) (mS L I J h z) := by
      intro c
      rw [show cn (mst I g x) (k + 1) = cn (mst I g x) k + 1 by show cn _ k + _ = _; rw [if_pos c]] at h0
      rw [nI_1, nI_1]; exact h0
    have h2 : mst I g x k = false → Run 151 16 [(0, .ref 145), (1, .int (nI g)), (2, .int x), (3, .int (nI (cn (mst I g x) k))), (4, .int (nI k + 1))] [] (mS L I J h z) (.inl (some (.int (nI (cn (mst I g x) n))))) (mS L I J h z) := by
      intro c
      rw [show cn (mst I g x) (k + 1) = cn (mst I g x) k by show cn _ k + _ = _; rw [c]; rfl] at h0
      rw [nI_1]; exact h0
    refine r151_16 ⟨fun c => ?_, fun _ => ?_⟩
    · rw [h13] at c
      exact absurd ((nI_leI (by omega) (by omega)).mp c) (by omega)
    · rw [cl _ (by omega), e, cl _ (by omega)]
      refine ⟨vp_in_nI (by omega) (by omega), fun c => h2 ?_, fun c => ⟨vp_in_nI (by omega) (by omega), fun c2 => h2 ?_, fun c2 => h1 ?_⟩⟩
      · simp [mst, c]
      · simp [mst, c, c2]
      · simp [mst, c, c2]
theorem s151 {g : Nat} {x : Int32} (hg : g < 8) (hn : n ≤ 2500) (h13 : I 145 13 = nI n) : dP 151 [.ref 145, .int (nI g), .int x] L h z I J (if I 161 g = 0 then -1 else nI (cn (mst I g x) n)) := by
  refine r151_0 ⟨vp_in_nI hg (by omega), fun c => ?_, fun c => ?_⟩
  · rw [cl _ (by omega)] at c
    rw [if_neg c]
    exact s151_loop hg hn h13 n 0 (by omega)
  · rw [cl _ (by omega)] at c
    rw [if_pos c]
    exact ⟨rfl, rfl⟩
/-- of a group (class): visible, and marked -/
abbrev cmk (st fv : Nat → Nat) (I : rI) (g : Nat) (x : Int32) (e : Nat) : Bool := decide (I (66 + 5 * g) e = x) && vis st fv e
theorem s36_loop {g : Nat} {x : Int32} (hg : g < 8) (hE : IE n t st tm fv I J M K) : ∀ m k, k + m = n →
    Run 36 5 [(0, .ref (65 + 5 * g)), (1, .ref 10), (2, .int x), (3, .int (nI (cn (cmk st fv I g x) k))), (4, .int (nI k))] [] (mS L I J h z) (.inl (some (.int (nI (cn (cmk st fv I g x) n))))) (mS L I J h z) := by
  have hn := hE.1
  have h13 := hE.2.2.1
  intro m
  induction m with
  | zero =>
    intro k hk
    refine r36_5 (sG hg) ⟨fun _ => by rw [show k = n by omega]; exact ⟨rfl, rfl⟩, fun c => absurd ?_ c⟩
    rw [h13]; exact nI_le (by omega) (by omega)
  | succ m ih =>
    intro k hk
    have h0 := ih (k + 1) (by omega)
    have h1 : cmk st fv I g x k = true → Run 36 5 [(0, .ref (65 + 5 * g)), (1, .ref 10), (2, .int x), (3, .int (nI (cn (cmk st fv I g x) k) + 1)), (4, .int (nI k + 1))] [] (mS L I J h z) (.inl (some (.int (nI (cn (cmk st fv I g x) n))))) (mS L I J h z) := by
      intro c
      rw [show cn (cmk st fv I g x) (k + 1) = cn (cmk st fv I g x) k + 1 by show cn _ k + _ = _; rw [if_pos c]] at h0
      rw [nI_1, nI_1]; exact h0
    have h2 : cmk st fv I g x k = false → Run 36 5 [(0, .ref (65 + 5 * g)), (1, .ref 10), (2, .int x), (3, .int (nI (cn (cmk st fv I g x) k) + 0)), (4, .int (nI k + 1))] [] (mS L I J h z) (.inl (some (.int (nI (cn (cmk st fv I g x) n))))) (mS L I J h z) := by
      intro c
      rw [show cn (cmk st fv I g x) (k + 1) = cn (cmk st fv I g x) k by show cn _ k + _ = _; rw [c]; rfl] at h0
      rw [nI_1, Int32.add_zero]; exact h0
    refine r36_5 (sG hg) ⟨fun c => ?_, fun _ => ?_⟩
    · rw [h13] at c
      exact absurd ((nI_leI (by omega) (by omega)).mp c) (by omega)
    · rw [cl _ (by omega), (R0_g hg).1]
      refine ⟨vp_in_nI (by omega) (by omega), fun c => h2 ?_, fun c => ⟨_, vis_13 hE (by omega), fun c2 => h2 ?_, fun c2 => h1 ?_⟩⟩
      · simp [cmk, c]
      · rw [cmk, b_eq.mp c2]; simp
      · rw [cmk, b_ne.mp c2]; simp [c]
theorem s36 {g : Nat} {x : Int32} (hg : g < 8) (hE : IE n t st tm fv I J M K) : dP 36 [.ref (65 + 5 * g), .ref 10, .int x] L h z I J (nI (cn (cmk st fv I g x) n)) :=
  r36_0 (sG hg) (s36_loop hg hE n 0 (by omega))
/-- both count the same: visible ones -/
theorem cnt_vis (hE : IE n t st tm fv I J M K) {x : Int32} (hx : x = -1 ∨ rg x 40 = true) : cn (cfr I x 0) n = cn (mvs M x) n := by
  refine cn_congr (fun e he => ?_)
  have hx0 : x < 0 ↔ x = -1 := by
    rcases hx with hx | hx
    · subst hx; decide
    · obtain ⟨s, hs, rfl⟩ := (rg_t (by omega)).mp hx
      simp only [ti_lt, ti_le, ti_eq, ti_nI, Int32.reduceToInt]
      omega
  have h1 := (hE.2.2.2.2.2.2.2.1 e he).2.1
  have h2 := M_vis hE he
  unfold mvs cfr
  rw [cin_eq hE he, h1]
  simp only [h2, hx0, Nat.zero_le, decide_true, Bool.true_and]
  rw [dbt]
  rw [Bool.and_comm]
  rw [show decide (x = nI (st e)) = decide (nI (st e) = x) by simp only [eq_comm]]
theorem cnt_mk (hE : IE n t st tm fv I J M K) {g : Nat} {x : Int32} (h : ∀ e, e < n → I (66 + 5 * g) e = M 165 (2500 * g + e)) : cn (cmk st fv I g x) n = cn (mst M g x) n := by
  refine cn_congr (fun e he => ?_)
  have h2 := M_vis hE he
  unfold cmk mst
  rw [h e he]
  simp only [h2]
  rw [dbt]
  rw [Bool.and_comm]
end
