/-! append: what is looked for. -/
theorem sk_eq {P : Nat → Bool} {n j : Nat} (hj : j < n) (hp : P j = true) (hn : ∀ i, i < j → P i = false) : sk P n 0 = some j := by
  cases h : sk P n 0 with
  | none =>
    have := sk_none h j (by omega) (by omega)
    rw [hp] at this; cases this
  | some k =>
    obtain ⟨h1, h2, h3, h4⟩ := sk_some h
    have : k = j := by
      refine Classical.byContradiction fun c => ?_
      rcases Nat.lt_or_ge k j with q | q
      · rw [hn k q] at h3; cases h3
      · rw [h4 j (by omega) (by omega)] at hp; cases hp
    rw [this]
/-- where a number of a stream stands -/
abbrev atP (st : Nat → Nat) (n s N : Nat) : Option Nat := sk (fun e => decide (st e = s) && decide (nm st e = N)) n 0
theorem atP_some {st : Nat → Nat} {n s N e : Nat} (h : atP st n s N = some e) : e < n ∧ st e = s ∧ nm st e = N := by
  obtain ⟨h1, h2, h3, h4⟩ := sk_some h
  simp only [Bool.and_eq_true, decide_eq_true_eq] at h3
  exact ⟨by omega, h3⟩
theorem atP_eq {st : Nat → Nat} {n s N e : Nat} (he : e < n) (hs : st e = s) (hN : nm st e = N) : atP st n s N = some e := by
  refine sk_eq he (by simp only [hs, hN, decide_true]; rfl) (fun i hi => ?_)
  rw [Bool.and_eq_false_iff]
  by_cases c : st i = s
  · right
    have := nm_mono (st := st) hi (by rw [c, hs])
    rw [decide_eq_false (by omega)]
  · left; rw [decide_eq_false c]
theorem atP_none {st : Nat → Nat} {n s N : Nat} (h : ct st s n ≤ N) : atP st n s N = none := by
  cases ha : atP st n s N with
  | none => rfl
  | some e =>
    obtain ⟨h1, h2, h3⟩ := atP_some ha
    have := nm_ct h1 h2
    omega
abbrev okN (st fv : Nat → Nat) (n s N : Nat) (ids did : Nat → Int32) (j : Nat) : Bool := match atP st n s (N + j) with
  | none => false
  | some e => vis st fv e && decide (ids e = did j)
abbrev stB (st fv : Nat → Nat) (n s : Nat) (ids did : Nat → Int32) (d N : Nat) : Bool := (sk (fun j => !okN st fv n s N ids did j) d 0).isNone
abbrev hld (r : Nat → Int32) (d : Nat) (x : Int32) : Bool := (sk (fun i => decide (r i = x)) d 0).isSome
theorem stB_f {st fv : Nat → Nat} {n s d N j : Nat} {ids did : Nat → Int32} (hj : j < d) (h : okN st fv n s N ids did j = false) : stB st fv n s ids did d N = false := by
  cases hk : sk (fun j => !okN st fv n s N ids did j) d 0 with
  | none =>
    have := sk_none hk j (by omega) (by omega)
    rw [h] at this; cases this
  | some k => show (sk _ d 0).isNone = false; rw [hk]; rfl
theorem stB_t {st fv : Nat → Nat} {n s d N : Nat} {ids did : Nat → Int32} (h : ∀ j, j < d → okN st fv n s N ids did j = true) : stB st fv n s ids did d N = true := by
  have : sk (fun j => !okN st fv n s N ids did j) d 0 = none := sk_allf (fun j q1 q2 => by rw [h j (by omega)]; rfl)
  show (sk _ d 0).isNone = true; rw [this]; rfl
theorem stB_ok {st fv : Nat → Nat} {n s d N : Nat} {ids did : Nat → Int32} (h : stB st fv n s ids did d N = true) : ∀ j, j < d → okN st fv n s N ids did j = true := by
  intro j hj
  cases ho : okN st fv n s N ids did j with
  | true => rfl
  | false => rw [stB_f hj ho] at h; cases h
theorem okN_at {st fv : Nat → Nat} {n s N j : Nat} {ids did : Nat → Int32} (h : okN st fv n s N ids did j = true) : ∃ e, atP st n s (N + j) = some e ∧ vis st fv e = true ∧ ids e = did j := by
  unfold okN at h
  cases ha : atP st n s (N + j) with
  | none => rw [ha] at h; cases h
  | some e =>
    rw [ha] at h
    simp only [Bool.and_eq_true, decide_eq_true_eq] at h
    exact ⟨e, rfl, h⟩
section
variable {L h z n t : Nat} {st tm fv fv' : Nat → Nat} {I I' M M' : rI} {J K J' K' : rJ}
theorem s123_loop {s N : Nat} (hs : s < 40) (hN : N < 100000) (hE : IE n t st tm fv I J M K) : ∀ m j, j + m = n →
    Run 123 2 [(0, .ref 145), (1, .int (nI s)), (2, .int (nI N)), (3, .int (nI j))] [] (mS L M K h z) (.inl (some (.int (oI (sk (fun e => decide (st e = s) && decide (nm st e = N)) m j))))) (mS L M K h z) := by
  have n1 := hE.1
  have h13 := hE.2.2.2.1
  intro m
  induction m with
  | zero =>
    intro j hj
    refine r123_2 ⟨fun _ => ⟨rfl, rfl⟩, fun c => absurd ?_ c⟩
    rw [h13]; exact nI_le (by omega) (by omega)
  | succ m ih =>
    intro j hj
    have hi := ih (j + 1) (by omega)
    obtain ⟨d1, d2, d3, d4⟩ := hE.2.2.2.2.2.2.2.1 j (by omega)
    have hnm := nm_lt (st := st) (e := j)
    have F : (decide (st j = s) && decide (nm st j = N)) = false → Run 123 2 [(0, .ref 145), (1, .int (nI s)), (2, .int (nI N)), (3, .int (nI j + 1))] [] (mS L M K h z) (.inl (some (.int (oI (sk (fun e => decide (st e = s) && decide (nm st e = N)) (m + 1) j))))) (mS L M K h z) := fun c => by
      rw [sk, if_neg (by rw [c]; decide), nI_1]; exact hi
    refine r123_2 ⟨fun c => ?_, fun _ => ?_⟩
    · rw [h13] at c; exact absurd ((nI_leI (by omega) (by omega)).mp c) (by omega)
    rw [cl j (by omega), d2, d3, nI_eq (by omega) (by omega), nI_eq (by omega) (by omega)]
    refine ⟨vp_in_nI (by omega) (by omega), fun c => F (by rw [decide_eq_false c]; rfl), fun c => ⟨fun c2 => F (by rw [decide_eq_false c2]; simp), fun c2 => ?_⟩⟩
    rw [sk, if_pos (by rw [decide_eq_true c, decide_eq_true c2]; rfl)]
    exact ⟨rfl, rfl⟩
theorem s123 {s N : Nat} (hs : s < 40) (hN : N < 100000) (hE : IE n t st tm fv I J M K) : dP 123 [.ref 145, .int (nI s), .int (nI N)] L h z M K (oI (atP st n s N)) :=
  r123_0 (s123_loop hs hN hE n 0 (by omega))
theorem oI_lt {r : Option Nat} (hr : ∀ j, r = some j → j < 2147483648) : oI r < 0 ↔ r = none := by
  cases r with
  | none => simp only [oI, iff_true]; decide
  | some j =>
    have := hr j rfl
    simp only [oI, ti_lt, ti_nI, Int32.reduceToInt]
    constructor
    · intro q; omega
    · intro q; cases q
theorem atP_lt {s N : Nat} (hE : IE n t st tm fv I J M K) : ∀ j, atP st n s N = some j → j < 2147483648 := fun j hj => by
  have := (atP_some hj).1
  have := hE.1
  omega
theorem s124_loop {s N d : Nat} (hs : s < 40) (hN : N ≤ 2500) (hd : d ≤ 8) (hE : IE n t st tm fv I J M K) : ∀ m j, j + m = d → (∀ i, i < j → okN st fv n s N (M 148) (M 158) i = true) →
    Run 124 3 [(0, .ref 145), (1, .int (nI s)), (2, .int (nI N)), (3, .int (nI d)), (4, .int (nI j))] [] (mS L M K h z) (.inl (some (.int (oI (if stB st fv n s (M 148) (M 158) d N = true then atP st n s N else none))))) (mS L M K h z) := by
  have n1 := hE.1
  intro m
  induction m with
  | zero =>
    intro j hj hall
    refine r124_3 ⟨fun _ => ⟨_, s123 hs (by omega) hE, ?_, rfl⟩, fun c => absurd (nI_le (by omega) (by omega)) c⟩
    rw [if_pos (stB_t (fun i hi => hall i (by omega)))]
  | succ m ih =>
    intro j hj hall
    have F : okN st fv n s N (M 148) (M 158) j = false → (.inl (some (.int (oI (if stB st fv n s (M 148) (M 158) d N = true then atP st n s N else none)))) : eO) = .inl (some (.int (-1))) := fun c => by
      rw [if_neg (by rw [stB_f (by omega) c]; decide)]; rfl
    refine r124_3 ⟨fun c => absurd ((nI_leI (by omega) (by omega)).mp c) (by omega), fun _ => ?_⟩
    rw [nI_add]
    refine ⟨_, s123 hs (by omega) hE, fun c => ?_, fun c => ?_⟩
    · have c := (oI_lt (atP_lt hE)).mp c
      exact ⟨F (by unfold okN; rw [c]), rfl⟩
    · cases ha : atP st n s (N + j) with
      | none => rw [ha] at c; exact absurd (by decide) c
      | some e =>
        obtain ⟨e1, e2, e3⟩ := atP_some ha
        have hv := M_vis hE e1
        show vp_in (nI e) 2500 ∧ _
        rw [show oI (some e) = nI e from rfl, cl e (by omega), cl j (by omega)]
        refine ⟨vp_in_nI (by omega) (by omega), fun c1 => ⟨F ?_, rfl⟩, fun c1 => ⟨vp_in_nI (by omega) (by omega), fun c2 => ?_, fun c2 => ⟨F ?_, rfl⟩⟩⟩
        · unfold okN; rw [ha]
          show (vis st fv e && _) = false
          rw [Bool.eq_false_iff.mpr (fun q => c1 (hv.mpr q))]; rfl
        · rw [nI_1]
          refine ih (j + 1) (by omega) (fun i hi => ?_)
          by_cases q : i = j
          · subst q; unfold okN; rw [ha]
            show (vis st fv e && _) = true
            rw [hv.mp c1, decide_eq_true c2]; rfl
          · exact hall i (by omega)
        · unfold okN; rw [ha]
          show (_ && decide _) = false
          rw [decide_eq_false c2]; simp
theorem s124 {s N d : Nat} (hs : s < 40) (hN : N ≤ 2500) (hd : d ≤ 8) (hE : IE n t st tm fv I J M K) : dP 124 [.ref 145, .int (nI s), .int (nI N), .int (nI d)] L h z M K (oI (if stB st fv n s (M 148) (M 158) d N = true then atP st n s N else none)) :=
  r124_0 (s124_loop hs hN hd hE d 0 (by omega) (fun i hi => absurd hi (by omega)))
/-! class -/
theorem s9_loop {d : Nat} {x : Int32} (hd : d ≤ 8) (h3 : I 3 3 = nI d) : ∀ m j, j + m = d →
    Run 9 2 [(0, .ref 3), (1, .int x), (2, .int (nI j))] [] (mS L I J h z) (.inl (some (.int (bb (sk (fun i => decide (I 4 i = x)) m j).isSome)))) (mS L I J h z) := by
  intro m
  induction m with
  | zero =>
    intro j hj
    refine r9_2 ⟨fun _ => ⟨rfl, rfl⟩, fun c => absurd ?_ c⟩
    rw [h3]; exact nI_le (by omega) (by omega)
  | succ m ih =>
    intro j hj
    have hi := ih (j + 1) (by omega)
    refine r9_2 ⟨fun c => ?_, fun _ => ?_⟩
    · rw [h3] at c; exact absurd ((nI_leI (by omega) (by omega)).mp c) (by omega)
    rw [cl j (by omega)]
    refine ⟨vp_in_nI (by omega) (by omega), fun c => ?_, fun c => ?_⟩
    · rw [sk, if_neg (by rw [decide_eq_false c]; decide), nI_1]; exact hi
    · rw [sk, if_pos (by rw [decide_eq_true c])]; exact ⟨rfl, rfl⟩
theorem s9 {d : Nat} {x : Int32} (hd : d ≤ 8) (h3 : I 3 3 = nI d) : dP 9 [.ref 3, .int x] L h z I J (bb (hld (I 4) d x)) :=
  r9_0 (s9_loop hd h3 d 0 (by omega))
theorem s17 {s : Nat} {x : Int32} (hs : s < 40) : dP 17 [.ref 10, .int (nI s), .int x] L h z I J (bb (decide (x = -2) || decide (x = I (18 + s) 0))) := by
  refine r17_0 ⟨fun c => ?_, fun c => ⟨vp_in_nI hs (by omega), fun c2 => ?_, fun c2 => ?_⟩⟩
  · rw [decide_eq_true c]; exact ⟨rfl, rfl⟩
  · rw [cl s (by omega), R0_17 hs] at c2
    rw [decide_eq_false c, decide_eq_false c2]; exact ⟨rfl, rfl⟩
  · rw [cl s (by omega), R0_17 hs] at c2
    rw [decide_eq_false c, decide_eq_true c2]; exact ⟨rfl, rfl⟩
theorem s14s {s e : Nat} (hs : s < 40) (hE : IE n t st tm fv I J M K) (he : e < n) : dP 14 [.ref 10, .int (nI s), .int (nI e)] L h z I J (bb (decide (st e = s) && vis st fv e)) := by
  have k := s14e (L := L) (h := h) (z := z) (x := nI s) hE he
  have h1 := (hE.2.2.2.2.2.2.2.1 e he).1
  have e1 : (decide (nI s = -1) || decide (nI s = nI (st e))) = decide (st e = s) := by
    rw [decide_eq_false (show ¬ nI s = -1 by simp only [ti_eq, ti_nI, Int32.reduceToInt]; omega), Bool.false_or]
    rw [decide_eq_decide, nI_eq (by omega) (by omega)]
    exact eq_comm
  rw [e1] at k
  exact k
abbrev knP (st fv : Nat → Nat) (s d : Nat) (ids did : Nat → Int32) (e : Nat) : Bool := (decide (st e = s) && vis st fv e) && hld did d (ids e)
theorem s18_loop {s d : Nat} (hs : s < 40) (hd : d ≤ 8) (h3 : I 3 3 = nI d) (hE : IE n t st tm fv I J M K) : ∀ m j, j + m = n →
    Run 18 2 [(0, .ref 10), (1, .ref 3), (2, .int (nI s)), (3, .int (nI j))] [] (mS L I J h z) (.inl (some (.int (bb (sk (knP st fv s d (I 13) (I 4)) m j).isSome)))) (mS L I J h z) := by
  have n1 := hE.1
  have h7 := hE.2.2.1
  intro m
  induction m with
  | zero =>
    intro j hj
    refine r18_2 ⟨fun _ => ⟨rfl, rfl⟩, fun c => absurd ?_ c⟩
    rw [h7]; exact nI_le (by omega) (by omega)
  | succ m ih =>
    intro j hj
    have hi := ih (j + 1) (by omega)
    have F : knP st fv s d (I 13) (I 4) j = false → Run 18 2 [(0, .ref 10), (1, .ref 3), (2, .int (nI s)), (3, .int (nI j + 1))] [] (mS L I J h z) (.inl (some (.int (bb (sk (knP st fv s d (I 13) (I 4)) (m + 1) j).isSome)))) (mS L I J h z) := fun c => by
      rw [sk, if_neg (by rw [c]; decide), nI_1]; exact hi
    refine r18_2 ⟨fun c => ?_, fun _ => ⟨_, s14s hs hE (by omega), fun c => F ?_, fun c => ⟨vp_in_nI (by omega) (by omega), ?_⟩⟩⟩
    · rw [h7] at c; exact absurd ((nI_leI (by omega) (by omega)).mp c) (by omega)
    · unfold knP; rw [b_eq.mp c]; rfl
    · rw [cl j (by omega)]
      refine ⟨_, s9 hd h3, fun c2 => F ?_, fun c2 => ?_⟩
      · unfold knP; rw [b_eq.mp c2]; simp
      · rw [sk, if_pos (by unfold knP; rw [b_ne.mp c, b_ne.mp c2]; rfl)]; exact ⟨rfl, rfl⟩
theorem s18 {s d : Nat} (hs : s < 40) (hd : d ≤ 8) (h3 : I 3 3 = nI d) (hE : IE n t st tm fv I J M K) : dP 18 [.ref 10, .ref 3, .int (nI s)] L h z I J (bb (sk (knP st fv s d (I 13) (I 4)) n 0).isSome) :=
  r18_0 (s18_loop hs hd h3 hE n 0 (by omega))
theorem s20_loop {s d e0 : Nat} (hs : s < 40) (hd : d ≤ 8) (h3 : I 3 3 = nI d) (hE : IE n t st tm fv I J M K) (he0 : e0 < n) (hs0 : st e0 = s) (hv0 : vis st fv e0 = true) : ∀ m x j, x + m = n → e0 ≤ x → j + nm st e0 = ct st s x → j ≤ d → (∀ i, i < j → okN st fv n s (nm st e0) (I 13) (I 4) i = true) →
    Run 20 5 [(0, .ref 10), (1, .ref 3), (2, .int (nI e0)), (3, .int (nI j)), (4, .int (nI x))] [] (mS L I J h z) (.inl (some (.int (bb (stB st fv n s (I 13) (I 4) d (nm st e0)))))) (mS L I J h z) := by
  have n1 := hE.1
  have h7 := hE.2.2.1
  obtain ⟨g1, g2, g3, g4, g5, g6⟩ := hE.2.2.2.2.2.2.1
  intro m
  induction m with
  | zero =>
    intro x j hx hex hj hjd hall
    refine r20_5 ⟨fun _ => ⟨fun c => ?_, fun c => ?_⟩, fun c => absurd ?_ c⟩
    · rw [h3, nI_eq (by omega) (by omega)] at c
      rw [stB_f (j := j) (by omega) (by unfold okN; rw [atP_none (by rw [show n = x by omega]; omega)])]
      exact ⟨rfl, rfl⟩
    · rw [h3, nI_eq (by omega) (by omega)] at c
      rw [stB_t (fun i hi => hall i (by omega))]
      exact ⟨rfl, rfl⟩
    · rw [h7]; exact nI_le (by omega) (by omega)
  | succ m ih =>
    intro x j hx hex hj hjd hall
    refine r20_5 ⟨fun c => ?_, fun _ => ⟨fun c => ⟨fun c2 => ?_, fun c2 => ?_⟩, fun c => ?_⟩⟩
    · rw [h7] at c; exact absurd ((nI_leI (by omega) (by omega)).mp c) (by omega)
    · rw [h3] at c c2
      have := (nI_leI (by omega) (by omega)).mp c
      exact absurd (by rw [show j = d by omega]) c2
    · rw [h3, nI_eq (by omega) (by omega)] at c2
      rw [stB_t (fun i hi => hall i (by omega))]
      exact ⟨rfl, rfl⟩
    · rw [h3, nI_leI (by omega) (by omega)] at c
      have d2 := (hE.2.2.2.2.2.2.2.1 x (by omega)).2.1
      have d1 := (hE.2.2.2.2.2.2.2.1 x (by omega)).1
      have d02 := (hE.2.2.2.2.2.2.2.1 e0 he0).2.1
      rw [cl x (by omega), cl e0 (by omega), cl j (by omega), g1, d2, d02, hs0, nI_eq (by omega) (by omega)]
      refine ⟨vp_in_nI (by omega) (by omega), vp_in_nI (by omega) (by omega), fun c2 => ?_, fun c2 => ⟨vp_in_nI (by omega) (by omega), ?_⟩⟩
      · rw [nI_1]
        refine ih (x + 1) j (by omega) (by omega) ?_ hjd hall
        rw [hj]
        exact (cn_s0 (decide_eq_false c2)).symm
      · have hnx : nm st x = nm st e0 + j := by
          have : nm st x = ct st s x := by unfold nm; rw [c2]
          omega
        have ha : atP st n s (nm st e0 + j) = some x := atP_eq (by omega) c2 hnx
        have hvx : vis st fv x = true := by
          simp only [Bool.not_eq_true', decide_eq_false_iff_not] at hv0 ⊢
          rw [hs0] at hv0
          rw [c2]; omega
        refine ⟨fun c3 => ?_, fun c3 => ?_⟩
        · rw [nI_1, nI_1]
          refine ih (x + 1) (j + 1) (by omega) (by omega) ?_ (by omega) (fun i hi => ?_)
          · have : ct st s (x + 1) = ct st s x + 1 := cn_s1 (decide_eq_true c2)
            omega
          · by_cases q : i = j
            · subst q; unfold okN; rw [ha]
              show (vis st fv x && decide _) = true
              rw [hvx, decide_eq_true c3]; rfl
            · exact hall i (by omega)
        · rw [stB_f (j := j) (by omega) (by
            unfold okN; rw [ha]
            show (_ && decide _) = false
            rw [decide_eq_false c3]; simp)]
          exact ⟨rfl, rfl⟩
theorem s20 {s d e0 : Nat} (hs : s < 40) (hd : d ≤ 8) (h3 : I 3 3 = nI d) (hE : IE n t st tm fv I J M K) (he0 : e0 < n) (hs0 : st e0 = s) (hv0 : vis st fv e0 = true) : dP 20 [.ref 10, .ref 3, .int (nI e0)] L h z I J (bb (stB st fv n s (I 13) (I 4) d (nm st e0))) :=
  r20_0 (s20_loop hs hd h3 hE he0 hs0 hv0 (n - e0) e0 0 (by omega) (Nat.le_refl _) (by show 0 + ct st (st e0) e0 = ct st s e0; rw [hs0, Nat.zero_add]) (by omega) (fun i hi => absurd hi (by omega)))
abbrev fdP (st fv : Nat → Nat) (n s d : Nat) (ids did : Nat → Int32) (x : Int32) (e : Nat) : Bool := (decide (x = -2) || decide (nI (nm st e) - 1 = x)) && ((decide (st e = s) && vis st fv e) && stB st fv n s ids did d (nm st e))
theorem s19_loop {s d : Nat} {x : Int32} (hs : s < 40) (hd : d ≤ 8) (h3 : I 3 3 = nI d) (hE : IE n t st tm fv I J M K) : ∀ m j, j + m = n →
    Run 19 3 [(0, .ref 10), (1, .ref 3), (2, .int (nI s)), (3, .int x), (4, .int (nI j))] [] (mS L I J h z) (.inl (some (.int (oI (sk (fdP st fv n s d (I 13) (I 4) x) m j))))) (mS L I J h z) := by
  have n1 := hE.1
  have h7 := hE.2.2.1
  obtain ⟨g1, g2, g3, g4, g5, g6⟩ := hE.2.2.2.2.2.2.1
  intro m
  induction m with
  | zero =>
    intro j hj
    refine r19_3 ⟨fun _ => ⟨rfl, rfl⟩, fun c => absurd ?_ c⟩
    rw [h7]; exact nI_le (by omega) (by omega)
  | succ m ih =>
    intro j hj
    have hi := ih (j + 1) (by omega)
    have d3 := (hE.2.2.2.2.2.2.2.1 j (by omega)).2.2.1
    have F : fdP st fv n s d (I 13) (I 4) x j = false → Run 19 3 [(0, .ref 10), (1, .ref 3), (2, .int (nI s)), (3, .int x), (4, .int (nI j + 1))] [] (mS L I J h z) (.inl (some (.int (oI (sk (fdP st fv n s d (I 13) (I 4) x) (m + 1) j))))) (mS L I J h z) := fun c => by
      rw [sk, if_neg (by rw [c]; decide), nI_1]; exact hi
    have T : fdP st fv n s d (I 13) (I 4) x j = true → ∀ (o : eO) (σo : eS), o = .inl (some (.int (nI j))) ∧ σo = mS L I J h z → o = .inl (some (.int (oI (sk (fdP st fv n s d (I 13) (I 4) x) (m + 1) j)))) ∧ σo = mS L I J h z := fun c o σo H => by
      rw [sk, if_pos c]; exact H
    have tail : (decide (x = -2) || decide (nI (nm st j) - 1 = x)) = true → ∃ v4 : Int32, Den 14 [.ref 10, .int (nI s), .int (nI j)] (mS L I J h z) (.inl (some (.int v4))) (mS L I J h z) ∧ (v4 = 0 → Run 19 3 [(0, .ref 10), (1, .ref 3), (2, .int (nI s)), (3, .int x), (4, .int (nI j + 1))] [] (mS L I J h z) (.inl (some (.int (oI (sk (fdP st fv n s d (I 13) (I 4) x) (m + 1) j))))) (mS L I J h z)) ∧ (¬ v4 = 0 → (∃ v6 : Int32, Den 20 [.ref 10, .ref 3, .int (nI j)] (mS L I J h z) (.inl (some (.int v6))) (mS L I J h z) ∧ (v6 = 0 → Run 19 3 [(0, .ref 10), (1, .ref 3), (2, .int (nI s)), (3, .int x), (4, .int (nI j + 1))] [] (mS L I J h z) (.inl (some (.int (oI (sk (fdP st fv n s d (I 13) (I 4) x) (m + 1) j))))) (mS L I J h z)) ∧ (¬ v6 = 0 → (.inl (some (.int (oI (sk (fdP st fv n s d (I 13) (I 4) x) (m + 1) j)))) : eO) = .inl (some (.int (nI j))) ∧ mS L I J h z = mS L I J h z))) := by
      intro hx
      refine ⟨_, s14s hs hE (by omega), fun c => F ?_, fun c => ?_⟩
      · unfold fdP; rw [b_eq.mp c]; simp
      · have c := b_ne.mp c
        have c0 := c
        rw [Bool.and_eq_true, decide_eq_true_eq] at c
        refine ⟨_, s20 hs hd h3 hE (by omega) c.1 c.2, fun c2 => F ?_, fun c2 => ?_⟩
        · unfold fdP; rw [b_eq.mp c2]; simp
        · rw [sk, if_pos (by unfold fdP; rw [hx, c0, b_ne.mp c2]; rfl)]; exact ⟨rfl, rfl⟩
    refine r19_3 ⟨fun c => ?_, fun _ => ⟨fun c => ?_, fun c => ⟨vp_in_nI (by omega) (by omega), ?_⟩⟩⟩
    · rw [h7] at c; exact absurd ((nI_leI (by omega) (by omega)).mp c) (by omega)
    · exact tail (by rw [decide_eq_true c]; rfl)
    · rw [cl j (by omega), g2, d3]
      exact ⟨fun c2 => F (by unfold fdP; rw [decide_eq_false c, decide_eq_false c2]; rfl), fun c2 => tail (by rw [decide_eq_true c2]; simp)⟩
theorem s19 {s d : Nat} {x : Int32} (hs : s < 40) (hd : d ≤ 8) (h3 : I 3 3 = nI d) (hE : IE n t st tm fv I J M K) : dP 19 [.ref 10, .ref 3, .int (nI s), .int x] L h z I J (oI (sk (fdP st fv n s d (I 13) (I 4) x) n 0)) :=
  r19_0 (s19_loop hs hd h3 hE n 0 (by omega))
end
