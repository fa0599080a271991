/-! read. -/
def rd (P : Nat → Bool) (ps : Nat → Nat) : Nat → Nat → Nat → Int32
  | 0, _, _ => -1
  | m + 1, k, l => if P k = true then (if l = 0 then nI (ps k) else rd P ps m (k + 1) (l - 1)) else rd P ps m (k + 1) l
theorem nI_sub {a b : Nat} (h : b ≤ a) (ha : a < 2147483648) : nI a - nI b = nI (a - b) := by
  rw [ti_eq]; simp only [ti_sub, ti_nI]; omega
theorem nI_m1 {a : Nat} (h : 0 < a) (ha : a < 2147483648) : nI a + (-1) = nI (a - 1) := by
  rw [ti_eq]; simp only [ti_add, ti_nI, Int32.reduceToInt]; omega
abbrev rps (n : Nat) (x4 : Int32) (k : Nat) : Nat := if x4 = 0 then k else n - 1 - k
abbrev rpl (st : Nat → Nat) (x1 : Int32) (e : Nat) : Int32 := if x1 = -1 then nI e else nI (nm st e)
abbrev rpc (st : Nat → Nat) (x1 x2 x4 : Int32) (e : Nat) : Bool := if x4 = 0 then !decide (rpl st x1 e < x2) else !decide (x2 < rpl st x1 e)
abbrev rpp (n : Nat) (st fv : Nat → Nat) (x1 x2 x4 : Int32) (k : Nat) : Bool := rpc st x1 x2 x4 (rps n x4 k) && ((decide (x1 = -1) || decide (x1 = nI (st (rps n x4 k)))) && vis st fv (rps n x4 k))
section
variable {L h z n t : Nat} {st tm fv : Nat → Nat} {I I' M M' : rI} {J K J' K' : rJ}
theorem s14e (hE : IE n t st tm fv I J M K) {e : Nat} {x : Int32} (he : e < n) : dP 14 [.ref 10, .int x, .int (nI e)] L h z I J (bb ((decide (x = -1) || decide (x = nI (st e))) && vis st fv e)) := by
  have := s14 (L := L) (h := h) (z := z) (J := J) (s := x) (IE_CW hE) he
  rw [cin_eq hE he] at this
  exact this
theorem s16_loop {x1 x2 x4 : Int32} (hE : IE n t st tm fv I J M K) : ∀ m k l, k + m = n → l ≤ 100 →
    Run 16 6 [(0, .ref 10), (1, .int x1), (2, .int x2), (4, .int x4), (5, .int (nI l)), (6, .int (nI k))] [] (mS L I J h z) (.inl (some (.int (rd (rpp n st fv x1 x2 x4) (rps n x4) m k l)))) (mS L I J h z) := by
  have n1 := hE.1
  have n2 := hE.2.2.1
  intro m
  induction m with
  | zero =>
    intro k l hk hl
    refine r16_6 ⟨fun _ => ⟨rfl, rfl⟩, fun c => absurd ?_ c⟩
    rw [n2]; exact nI_le (by omega) (by omega)
  | succ m ih =>
    intro k l hk hl
    have he : rps n x4 k < n := by unfold rps; split <;> omega
    have hv : vp_in (nI (rps n x4 k)) 2500 := vp_in_nI (by omega) (by omega)
    have h12 : I 12 (rps n x4 k) = nI (nm st (rps n x4 k)) := by
      rw [hE.2.2.2.2.2.2.1.2.1]; exact (hE.2.2.2.2.2.2.2.1 _ he).2.2.1
    have nx : rpp n st fv x1 x2 x4 k = false → Run 16 6 [(0, .ref 10), (1, .int x1), (2, .int x2), (4, .int x4), (5, .int (nI l)), (6, .int (nI k + 1))] [] (mS L I J h z) (.inl (some (.int (rd (rpp n st fv x1 x2 x4) (rps n x4) (m + 1) k l)))) (mS L I J h z) := by
      intro hp
      rw [nI_1, rd, if_neg (by rw [hp]; decide)]
      exact ih (k + 1) l (by omega) hl
    have h75 : rpc st x1 x2 x4 (rps n x4 k) = true → Run 16 75 [(0, .ref 10), (1, .int x1), (2, .int x2), (4, .int x4), (5, .int (nI l)), (6, .int (nI k)), (7, .int (nI (rps n x4 k)))] [] (mS L I J h z) (.inl (some (.int (rd (rpp n st fv x1 x2 x4) (rps n x4) (m + 1) k l)))) (mS L I J h z) := by
      intro hp
      refine r16_75 ⟨_, s14e hE he, fun c => ?_, fun c => ?_⟩
      · have c := b_eq.mp c
        exact nx (by unfold rpp; rw [hp, c]; rfl)
      · have c := b_ne.mp c
        have hr : rpp n st fv x1 x2 x4 k = true := by unfold rpp; rw [hp, c]; rfl
        rw [rd, if_pos hr]
        refine ⟨fun c2 => ?_, fun c2 => ?_⟩
        · have : ¬ l = 0 := fun k => c2 (by rw [k]; rfl)
          rw [if_neg this, nI_m1 (by omega) (by omega), nI_1]
          exact ih (k + 1) (l - 1) (by omega) (by omega)
        · have : l = 0 := nI_inj (a := l) (b := 0) (by omega) (by omega) c2
          rw [if_pos this]
          exact ⟨rfl, rfl⟩
    have h53 : Run 16 53 [(0, .ref 10), (1, .int x1), (2, .int x2), (4, .int x4), (5, .int (nI l)), (6, .int (nI k)), (7, .int (nI (rps n x4 k)))] [.int (rpl st x1 (rps n x4 k))] (mS L I J h z) (.inl (some (.int (rd (rpp n st fv x1 x2 x4) (rps n x4) (m + 1) k l)))) (mS L I J h z) := by
      refine r16_53 ⟨fun c => ⟨fun c2 => ?_, fun c2 => ?_⟩, fun c => ⟨fun c2 => ?_, fun c2 => ?_⟩⟩
      · exact nx (by unfold rpp rpc; rw [if_pos c, decide_eq_true c2]; rfl)
      · exact h75 (by unfold rpc; rw [if_pos c, decide_eq_false c2]; rfl)
      · exact nx (by unfold rpp rpc; rw [if_neg c, decide_eq_true c2]; rfl)
      · exact h75 (by unfold rpc; rw [if_neg c, decide_eq_false c2]; rfl)
    have h34 : Run 16 34 [(0, .ref 10), (1, .int x1), (2, .int x2), (4, .int x4), (5, .int (nI l)), (6, .int (nI k))] [.int (nI (rps n x4 k))] (mS L I J h z) (.inl (some (.int (rd (rpp n st fv x1 x2 x4) (rps n x4) (m + 1) k l)))) (mS L I J h z) := by
      refine r16_34 ⟨fun c => ⟨hv, ?_⟩, fun c => ?_⟩
      · rw [cl _ (by omega), h12]
        unfold rpl at h53
        rw [if_neg c] at h53
        exact h53
      · unfold rpl at h53
        rw [if_pos c] at h53
        exact h53
    refine r16_6 ⟨fun c => ?_, fun _ => ⟨fun c => ?_, fun c => ?_⟩⟩
    · rw [n2] at c
      exact absurd ((nI_leI (by omega) (by omega)).mp c) (by omega)
    · unfold rps at h34
      rw [if_pos c] at h34
      exact h34
    · have e : I 10 7 - 1 - nI k = nI (n - 1 - k) := by
        rw [n2, show (1 : Int32) = nI 1 from rfl, nI_sub (by omega) (by omega), nI_sub (by omega) (by omega)]
      rw [e]
      unfold rps at h34
      rw [if_neg c] at h34
      exact h34
theorem s130_loop {x1 x2 x4 : Int32} (hx : x1 = -1 ∨ rg x1 40 = true) (hE : IE n t st tm fv I J M K) : ∀ m k l, k + m = n → l ≤ 100 →
    Run 130 61 [(0, .ref 145), (1, .int x1), (2, .int x2), (4, .int x4), (5, .int (nI l)), (6, .int (nI k))] [] (mS L M K h z) (.inl (some (.int (rd (rpp n st fv x1 x2 x4) (rps n x4) m k l)))) (mS L M K h z) := by
  have n1 := hE.1
  have n2 := hE.2.2.2.1
  have hx0 : (0 ≤ x1 ↔ ¬ x1 = -1) ∧ (x1 < 0 ↔ x1 = -1) := by
    rcases hx with hx | hx
    · subst hx; decide
    · obtain ⟨s, hs, rfl⟩ := (rg_t (by omega)).mp hx
      simp only [ti_lt, ti_le, ti_eq, ti_nI, Int32.reduceToInt]
      omega
  intro m
  induction m with
  | zero =>
    intro k l hk hl
    refine r130_61 ⟨fun _ => ⟨rfl, rfl⟩, fun c => absurd ?_ c⟩
    rw [n2]; exact nI_le (by omega) (by omega)
  | succ m ih =>
    intro k l hk hl
    have he : rps n x4 k < n := by unfold rps; split <;> omega
    have hv : vp_in (nI (rps n x4 k)) 2500 := vp_in_nI (by omega) (by omega)
    have h12 : M 147 (rps n x4 k) = nI (nm st (rps n x4 k)) := (hE.2.2.2.2.2.2.2.1 _ he).2.2.1
    have h11 : M 146 (rps n x4 k) = nI (st (rps n x4 k)) := (hE.2.2.2.2.2.2.2.1 _ he).2.1
    have h15 := M_vis hE he
    have nx : rpp n st fv x1 x2 x4 k = false → Run 130 61 [(0, .ref 145), (1, .int x1), (2, .int x2), (4, .int x4), (5, .int (nI l)), (6, .int (nI k + 1))] [] (mS L M K h z) (.inl (some (.int (rd (rpp n st fv x1 x2 x4) (rps n x4) (m + 1) k l)))) (mS L M K h z) := by
      intro hp
      rw [nI_1, rd, if_neg (by rw [hp]; decide)]
      exact ih (k + 1) l (by omega) hl
    have h157 : rpp n st fv x1 x2 x4 k = true → Run 130 157 [(0, .ref 145), (1, .int x1), (2, .int x2), (4, .int x4), (5, .int (nI l)), (6, .int (nI k)), (7, .int (nI (rps n x4 k)))] [] (mS L M K h z) (.inl (some (.int (rd (rpp n st fv x1 x2 x4) (rps n x4) (m + 1) k l)))) (mS L M K h z) := by
      intro hr
      rw [rd, if_pos hr]
      refine r130_157 ⟨fun c2 => ?_, fun c2 => ?_⟩
      · have : ¬ l = 0 := fun k => c2 (by rw [k]; rfl)
        rw [if_neg this, nI_m1 (by omega) (by omega), nI_1]
        exact ih (k + 1) (l - 1) (by omega) (by omega)
      · have : l = 0 := nI_inj (a := l) (b := 0) (by omega) (by omega) c2
        rw [if_pos this]
        exact ⟨rfl, rfl⟩
    have h134 : ((decide (x1 = -1) || decide (x1 = nI (st (rps n x4 k)))) && vis st fv (rps n x4 k)) = true → Run 130 134 [(0, .ref 145), (1, .int x1), (2, .int x2), (4, .int x4), (5, .int (nI l)), (6, .int (nI k)), (7, .int (nI (rps n x4 k))), (8, .int (rpl st x1 (rps n x4 k)))] [] (mS L M K h z) (.inl (some (.int (rd (rpp n st fv x1 x2 x4) (rps n x4) (m + 1) k l)))) (mS L M K h z) := by
      intro hp
      have e1 : ∀ a b : Int32, (a ≤ b ↔ ¬ b < a) := fun a b => by simp only [ti_lt, ti_le]; omega
      refine r130_134 ⟨fun c => ⟨fun c2 => ?_, fun c2 => ?_⟩, fun c => ⟨fun c2 => ?_, fun c2 => ?_⟩⟩
      · rw [e1] at c2
        exact h157 (by unfold rpp rpc; rw [if_pos c, decide_eq_false c2, hp]; rfl)
      · rw [e1, Classical.not_not] at c2
        exact nx (by unfold rpp rpc; rw [if_pos c, decide_eq_true c2]; rfl)
      · rw [e1] at c2
        exact h157 (by unfold rpp rpc; rw [if_neg c, decide_eq_false c2, hp]; rfl)
      · rw [e1, Classical.not_not] at c2
        exact nx (by unfold rpp rpc; rw [if_neg c, decide_eq_true c2]; rfl)
    have h107 : Run 130 107 [(0, .ref 145), (1, .int x1), (2, .int x2), (4, .int x4), (5, .int (nI l)), (6, .int (nI k)), (7, .int (nI (rps n x4 k)))] [.int (rpl st x1 (rps n x4 k))] (mS L M K h z) (.inl (some (.int (rd (rpp n st fv x1 x2 x4) (rps n x4) (m + 1) k l)))) (mS L M K h z) := by
      refine r130_107 ⟨hv, fun c => ?_, fun c => ⟨fun c2 => ?_, fun c2 => ⟨fun c3 => ?_, fun c3 => ?_⟩⟩⟩
      · rw [cl _ (by omega), h15] at c
        have c := Bool.eq_false_iff.mpr c
        exact nx (by unfold rpp; rw [c]; simp)
      · rw [cl _ (by omega), h15] at c
        exact h134 (by rw [c, decide_eq_true (hx0.2.mp c2)]; rfl)
      · rw [cl _ (by omega), h15] at c
        rw [cl _ (by omega), h11] at c3
        exact nx (by unfold rpp; rw [decide_eq_false (fun k => c2 (hx0.2.mpr k)), decide_eq_false (fun k => c3 k.symm)]; simp)
      · rw [cl _ (by omega), h15] at c
        rw [cl _ (by omega), h11] at c3
        exact h134 (by rw [c, decide_eq_true c3.symm]; simp)
    have h89 : Run 130 89 [(0, .ref 145), (1, .int x1), (2, .int x2), (4, .int x4), (5, .int (nI l)), (6, .int (nI k))] [.int (nI (rps n x4 k))] (mS L M K h z) (.inl (some (.int (rd (rpp n st fv x1 x2 x4) (rps n x4) (m + 1) k l)))) (mS L M K h z) := by
      refine r130_89 ⟨fun c => ⟨hv, ?_⟩, fun c => ?_⟩
      · rw [cl _ (by omega), h12]
        unfold rpl at h107
        rw [if_neg (hx0.1.mp c)] at h107
        exact h107
      · unfold rpl at h107
        rw [if_pos (Classical.not_not.mp (fun k => c (hx0.1.mpr k)))] at h107
        exact h107
    refine r130_61 ⟨fun c => ?_, fun _ => ⟨fun c => ?_, fun c => ?_⟩⟩
    · rw [n2] at c
      exact absurd ((nI_leI (by omega) (by omega)).mp c) (by omega)
    · unfold rps at h89
      rw [if_pos c] at h89
      exact h89
    · have e : M 145 13 - 1 - nI k = nI (n - 1 - k) := by
        rw [n2, show (1 : Int32) = nI 1 from rfl, nI_sub (by omega) (by omega), nI_sub (by omega) (by omega)]
      rw [e]
      unfold rps at h89
      rw [if_neg c] at h89
      exact h89
theorem in_rg1 {x : Int32} : (!decide (x < -1) && !decide (39 < x)) = (decide (x = -1) || rg x 40) := by
  unfold rg
  have e1 : x = -1 ∨ ¬ x = -1 := Classical.em _
  rcases e1 with e1 | e1
  · subst e1; decide
  · have e2 : x < -1 ↔ x < 0 := by simp only [ti_lt, ti_eq, Int32.reduceToInt] at *; omega
    have e3 : 39 < x ↔ nI 40 ≤ x := by simp only [ti_lt, ti_le, ti_nI, Int32.reduceToInt] at *; omega
    simp only [e1, e2, e3, decide_false, Bool.false_or]
theorem s115s {x : Int32} {b : Bool} (hr : (decide (x = -1) || rg x 40) = b) : dP 115 [.int x, .int (-1), .int 39] L h z I J (bb b) := by
  have := s115 (L := L) (h := h) (z := z) (I := I) (J := J) (v := x) (a := -1) (b := 39)
  rw [in_rg1, hr] at this
  exact this
theorem IE_t0 (hE : IE n t st tm fv I J M K) {i : Nat} {x : Int32} (hi : i = 0 ∨ i = 43 ∨ i = 45 ∨ i = 49 ∨ i = 50) : IE n t st tm fv I J (u2 M 145 i x) K :=
  IE_fr hE rfl (fun _ _ _ => rfl) (fun b q1 q2 => u2_ne (by omega)) (by rw [u2_at, if_neg (by omega)]) (by rw [u2_at, if_neg (by omega)]) rfl rfl
theorem call_read {x1 x2 x3 x4 : Int32} (hI : Inv n t st tm fv I J I J) : callOk 76 130 [.int x1, .int x2, .int x3, .int x4] [0, 1] t L h z I J := by
  have hE := hI.1.1
  have n1 := hE.1
  have h93 := s93 (L := L) (h := h) (z := z) (I := I) (J := J) (x := x1)
  cases h1 : (decide (x1 = -1) || rg x1 40) with
  | false =>
    rw [h1] at h93
    refine call_bad (rv := some (.int 0)) (e := 0) (c := 1) hI ?_ ?_ (by decide) (by decide)
    · exact r76_0 ⟨_, h93, fun _ => ⟨rfl, rfl⟩, fun c => absurd rfl c⟩
    · refine r130_0 ⟨_, s115s h1, fun _ => ?_, fun c => absurd rfl c⟩
      exact r130_26 ⟨_, _, _, s114t, fun _ => ⟨rfl, rfl⟩, fun c => absurd c (by decide)⟩
  | true =>
    rw [h1] at h93
    have e3 := rg_lt (x := x3) (c := 101) (N := 101) (by omega) (by decide)
    have e3' : x3 < 101 ↔ x3 ≤ 100 := by simp only [ti_lt, ti_le, Int32.reduceToInt]; omega
    rw [show decide (x3 < 101) = decide (x3 ≤ 100) by simp only [e3']] at e3
    cases h3 : rg x3 101 with
    | false =>
      rw [h3] at e3
      refine call_bad (rv := some (.int 0)) (e := 0) (c := 1) hI ?_ ?_ (by decide) (by decide)
      · refine r76_0 ⟨_, h93, fun c => absurd c (by decide), fun _ => ⟨fun _ => ⟨rfl, rfl⟩, fun c => ⟨fun c2 => ?_, fun _ => ⟨rfl, rfl⟩⟩⟩⟩
        simp [c, c2] at e3
      · refine r130_0 ⟨_, s115s h1, fun c => absurd c (by decide), fun _ => ⟨_, s115r h3 (by omega) (by omega) (by decide), fun c => absurd rfl c, fun _ => ?_⟩⟩
        exact r130_26 ⟨_, _, _, s114t, fun _ => ⟨rfl, rfl⟩, fun c => absurd c (by decide)⟩
    | true =>
      rw [h3] at e3
      have c3 : ¬ x3 < 0 ∧ x3 ≤ 100 := by
        by_cases k : x3 < 0 <;> simp [k] at e3
        exact ⟨k, e3⟩
      have hm : ∀ (h z : Nat) (o : eO) (σo : eS), Run 130 26 [(0, .ref 145), (1, .int x1), (2, .int x2), (3, .int x3), (4, .int x4)] [.int 0, .ref 145] (mS L I J h z) o σo → Run 130 0 [(0, .ref 145), (1, .int x1), (2, .int x2), (3, .int x3), (4, .int x4)] [] (mS L I J h z) o σo :=
        fun h z o σo H => r130_0 ⟨_, s115s h1, fun c => absurd c (by decide), fun _ => ⟨_, s115r h3 (by omega) (by omega) (by decide), fun _ => H, fun c => absurd c (by decide)⟩⟩
      rcases Inv_on hI with ⟨o1, o2⟩ | ⟨o1, o2⟩
      · refine call_bad (rv := some (.int 0)) (e := 1) (c := 2) hI ?_ (hm _ _ _ _ ?_) (by decide) (by decide)
        · exact r76_0 ⟨_, h93, fun c => absurd c (by decide), fun _ => ⟨fun c => absurd c c3.1, fun _ => ⟨fun _ => Or.inr ⟨1, s100t o2, rfl, rfl⟩, fun c => absurd c3.2 c⟩⟩⟩
        · refine r130_26 ⟨_, _, _, s114f, fun c => absurd rfl c, fun _ => ⟨fun c => absurd ?_ c, fun _ => ?_⟩⟩
          · rw [u2_at, if_neg (by omega)]; exact o1
          · refine r130_46 ⟨_, _, _, s114t, fun c => absurd c (by decide), fun _ => ⟨rfl, ?_⟩⟩
            rw [u2_u2]
      · obtain ⟨l, hl, rfl⟩ := (rg_t (by omega)).mp h3
        have hx : x1 = -1 ∨ rg x1 40 = true := by simpa using h1
        refine call_rd (rv := some (.int (rd (rpp n st fv x1 x2 x4) (rps n x4) n 0 l))) hI ?_ (hm _ _ _ _ ?_)
        · exact r76_0 ⟨_, h93, fun c => absurd c (by decide), fun _ => ⟨fun c => absurd c c3.1, fun _ => ⟨fun _ => Or.inl ⟨s100 o2, _, r16_0 (s16_loop hE n 0 l (by omega) (by omega)), rfl, rfl⟩, fun c => absurd c3.2 c⟩⟩⟩
        · refine r130_26 ⟨_, _, _, s114f, fun c => absurd rfl c, fun _ => ⟨fun _ => ?_, fun c => absurd c ?_⟩⟩
          · refine r130_46 ⟨_, _, _, s114f, fun _ => ?_, fun c => absurd rfl c⟩
            rw [u2_u2]
            exact s130_loop hx (IE_t0 hE (Or.inl rfl)) n 0 l (by omega) (by omega)
          · rw [u2_at, if_neg (by omega), o1]; decide
end
