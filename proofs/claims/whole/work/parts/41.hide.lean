/-! What hides: hideBelow, hideByNumber, hideOld (class), hide (model). -/
theorem cn_lt {P : Nat → Bool} {e n : Nat} (he : e < n) (hp : P e = true) : cn P e < cn P n := by
  have h1 := cn_mono (P := P) (show e + 1 ≤ n by omega)
  have h2 : cn P (e + 1) = cn P e + 1 := by show cn P e + _ = _; rw [if_pos hp]
  omega
theorem nm_ct {st : Nat → Nat} {e n s : Nat} (he : e < n) (hs : st e = s) : nm st e < ct st s n := by
  subst hs
  exact cn_lt he (by simp)
theorem nm_mono {st : Nat → Nat} {e e' : Nat} (he : e < e') (hs : st e = st e') : nm st e < nm st e' := by
  have := nm_ct (st := st) he hs
  exact this
theorem nm_le {st : Nat → Nat} {e e' : Nat} (hs : st e = st e') (h : nm st e ≤ nm st e') : e ≤ e' := by
  refine Classical.byContradiction fun c => ?_
  have := nm_mono (st := st) (show e' < e by omega) hs.symm
  omega
theorem nm_surj {st : Nat → Nat} {s k : Nat} : ∀ n, k < ct st s n → ∃ e, e < n ∧ st e = s ∧ nm st e = k := by
  intro n
  induction n with
  | zero => intro h; exact absurd h (Nat.not_lt_zero _)
  | succ n ih =>
    intro h
    by_cases c : k < ct st s n
    · obtain ⟨e, h1, h2, h3⟩ := ih c
      exact ⟨e, by omega, h2, h3⟩
    · have e : ct st s (n + 1) = ct st s n + (if decide (st n = s) = true then 1 else 0) := rfl
      by_cases hs : st n = s
      · refine ⟨n, by omega, hs, ?_⟩
        rw [if_pos (by simpa using hs)] at e
        have : nm st n = ct st s n := by unfold nm; rw [hs]
        omega
      · rw [if_neg (by simpa using hs)] at e
        omega
/-- the new first visible number -/
def hb (f v : Nat) (x : Int32) : Nat := max f (min x.toInt.toNat v)
theorem hb_ge {f v : Nat} {x : Int32} : f ≤ hb f v x := Nat.le_max_left _ _
theorem hb_le {f v : Nat} {x : Int32} (h : f ≤ v) : hb f v x ≤ v := Nat.max_le.mpr ⟨h, Nat.min_le_right _ _⟩
theorem lt_nI1 {j k : Nat} (hk : k < 2500) : (j : Int) < (nI k + 1).toInt ↔ j ≤ k := by
  rw [nI_1, nI_toInt (by omega)]; omega
theorem ver_sub {v : Nat} {m : Int32} (hv : v ≤ 2500) (hm : 0 ≤ m) : (nI v - 1 - m).toInt = (v : Int) - 1 - m.toInt ∧ (nI v - 1 - m + 1).toInt = (v : Int) - m.toInt := by
  have h1 := ti_hi m
  have h2 : 0 ≤ m.toInt := by simpa only [ti_le, Int32.reduceToInt] using hm
  have h3 : (nI v - 1).toInt = (v : Int) - 1 := by
    rw [ti_sub, nI_toInt (by omega), show (1 : Int32).toInt = 1 from rfl]
    generalize m.toInt = y at *
    omega
  have h4 : (nI v - 1 - m).toInt = (v : Int) - 1 - m.toInt := by
    rw [ti_sub, h3]
    generalize m.toInt = y at *
    omega
  refine ⟨h4, ?_⟩
  rw [ti_add, h4, show (1 : Int32).toInt = 1 from rfl]
  generalize m.toInt = y at *
  omega
theorem age_mono {ag : Int32} {a b t : Nat} (h : ag ≤ nI t - nI b) (hab : a ≤ b) (hb : b ≤ t) (ht : t ≤ 1000000) : ag ≤ nI t - nI a := by
  rw [nI_sub (by omega) (by omega)] at h ⊢
  rw [ti_le, nI_toInt (by omega)] at h ⊢
  omega
theorem hb_lt {f v k : Nat} {x : Int32} (h : k < v) : k < hb f v x ↔ k < f ∨ (k : Int) < x.toInt := by
  unfold hb
  omega
def hcb (mo ag fr en ve now nu ca : Int32) : Bool := decide (nu < fr) || ((!decide (mo = 0) && decide (nu ≤ ve - mo)) || ((!decide (ag = 0) && decide (ag ≤ now - ca)) || !decide (en = 0)))
theorem hcb_t {mo ag fr en ve now nu ca : Int32} : hcb mo ag fr en ve now nu ca = true ↔ hcP mo ag fr en ve now nu ca := by
  unfold hcb hcP
  simp only [Bool.or_eq_true, Bool.and_eq_true, Bool.not_eq_true', decide_eq_true_eq, decide_eq_false_iff_not]
/-- the class's view of streams and events -/
def CV (n t : Nat) (st tm fv : Nat → Nat) (I : rI) : Prop :=
  n ≤ 2500 ∧ t ≤ 1000000 ∧ I 10 7 = nI n ∧ I 10 8 = nI t ∧ (∀ e, e < n → st e < 40 ∧ I 11 e = nI (st e) ∧ I 12 e = nI (nm st e) ∧ tm e ≤ t ∧ I 16 e = nI (tm e) ∧ ∀ i, i < e → tm i ≤ tm e) ∧
  ∀ s, s < 40 → I (18 + s) 0 = nI (ct st s n) - 1 ∧ I (18 + s) 5 = nI (fv s) ∧ fv s ≤ ct st s n ∧ 0 ≤ I (18 + s) 1 ∧ 0 ≤ I (18 + s) 2 ∧ 0 ≤ I (18 + s) 3
/-- the class's reason to hide -/
def hideK (I : rI) (s e : Nat) : Prop := hcP (I (18 + s) 1) (I (18 + s) 2) (I (18 + s) 3) (I (18 + s) 4) (I (18 + s) 0) (I 10 8) (I 12 e) (I 16 e)
section
variable {L h z n t : Nat} {st tm fv : Nat → Nat} {I I' M M' : rI} {J K J' K' : rJ}
theorem IE_CV (h : IE n t st tm fv I J M K) : CV n t st tm fv I := by
  obtain ⟨a1, a2, a3, a4, a5, a6, ⟨b1, b2, b3, b4, b5, b6⟩, a7, a8⟩ := h
  refine ⟨a1, a2, a3, a5, fun e he => ?_, fun s hs => ?_⟩
  · obtain ⟨c1, c2, c3, c4, c5, c6, c7⟩ := a7 e he
    exact ⟨c1, by rw [b1]; exact c2, by rw [b2]; exact c3, c4, by rw [b6]; exact c5, c6⟩
  · obtain ⟨c1, c2, c3, c4, c5, c6, c7, c8, c9, c10, c11, c12⟩ := a8 s hs
    exact ⟨c1.trans c2, c11, c12, by rw [c3]; exact c7, by rw [c4]; exact c8, by rw [c5]; exact c9⟩
theorem s68 {s v f : Nat} {x : Int32} (hs : s < 40) (h0 : I (18 + s) 0 = nI v - 1) (h5 : I (18 + s) 5 = nI f) (hv : v ≤ 2500) (hf : f ≤ v) : dU 68 [.ref (18 + s), .int x] L h z I J (u2 I (18 + s) 5 (nI (hb f v x))) J := by
  refine r68_0 (sS hs) ⟨rfl, ?_⟩
  have e : (if (I (18 + s) 5) < (if ((I (18 + s) 0) + (1 : Int32)) < x then ((I (18 + s) 0) + (1 : Int32)) else x) then (if ((I (18 + s) 0) + (1 : Int32)) < x then ((I (18 + s) 0) + (1 : Int32)) else x) else (I (18 + s) 5)) = nI (hb f v x) := by
    rw [h0, h5]
    have h2 : nI v - 1 + 1 = nI v := by rw [ti_eq]; simp only [ti_sub, ti_add, ti_nI, Int32.reduceToInt]; omega
    rw [h2]
    have hx := ti_lo x
    have hx2 := ti_hi x
    have hm : (hb f v x : Int) = max (f : Int) (min (x.toInt.toNat : Int) (v : Int)) := by
      unfold hb; omega
    rw [ti_eq, ti_nI]
    by_cases c1 : nI v < x
    · rw [if_pos c1]
      by_cases c2 : nI f < nI v
      · rw [if_pos c2]
        simp only [ti_lt, ti_nI] at *
        omega
      · rw [if_neg c2]
        simp only [ti_lt, ti_nI] at *
        omega
    · rw [if_neg c1]
      by_cases c2 : nI f < x
      · rw [if_pos c2]
        simp only [ti_lt, ti_nI] at *
        omega
      · rw [if_neg c2]
        simp only [ti_lt, ti_nI] at *
        omega
  rw [e]
/-- hideByNumber -/
theorem s67 {s v f : Nat} (hs : s < 40) (h0 : I (18 + s) 0 = nI v - 1) (h5 : I (18 + s) 5 = nI f) (hv : v ≤ 2500) (hf : f ≤ v) (hm : 0 ≤ I (18 + s) 1) :
    ∃ g, dU 67 [.ref (18 + s)] L h z I J (u2 I (18 + s) 5 (nI g)) J ∧ f ≤ g ∧ g ≤ v ∧ ∀ k, k < v → (k < g ↔ k < f ∨ nI k < I (18 + s) 3 ∨ (¬ I (18 + s) 1 = 0 ∧ nI k ≤ I (18 + s) 0 - I (18 + s) 1) ∨ ¬ I (18 + s) 4 = 0) := by
  have ex : ∀ (k : Nat) (x : Int32), k < v → ((k : Int) < x.toInt ↔ nI k < x) := by
    intro k x hk
    simp only [ti_lt, ti_nI]; omega
  have q0 : ∀ f', u2 I (18 + s) 5 (nI f') (18 + s) 0 = I (18 + s) 0 := fun f' => by rw [u2_at, if_neg (by omega)]
  have q1 : ∀ f', u2 I (18 + s) 5 (nI f') (18 + s) 1 = I (18 + s) 1 := fun f' => by rw [u2_at, if_neg (by omega)]
  have q4 : ∀ f', u2 I (18 + s) 5 (nI f') (18 + s) 4 = I (18 + s) 4 := fun f' => by rw [u2_at, if_neg (by omega)]
  have q5 : ∀ f', u2 I (18 + s) 5 (nI f') (18 + s) 5 = nI f' := fun f' => by rw [u2_at, if_pos ⟨rfl, rfl⟩]
  have en : ∀ k, k < v → ((k : Int) < (I (18 + s) 0 + 1).toInt) := by
    intro k hk
    rw [h0]
    simp only [ti_sub, ti_add, ti_nI, Int32.reduceToInt]; omega
  have em : ¬ I (18 + s) 1 = 0 → ∀ k, k < v → ((k : Int) < (I (18 + s) 0 - I (18 + s) 1 + 1).toInt ↔ nI k ≤ I (18 + s) 0 - I (18 + s) 1) := by
    intro hne k hk
    rw [h0, ti_le, (ver_sub hv hm).1, (ver_sub hv hm).2, nI_toInt (by omega)]
    omega
  have hf1 := hb_le (x := I (18 + s) 3) hf
  have g1 := hb_ge (f := f) (v := v) (x := I (18 + s) 3)
  have p1 := s68 (L := L) (h := h) (z := z) (I := I) (J := J) (x := I (18 + s) 3) hs h0 h5 hv hf
  by_cases c1 : I (18 + s) 1 = 0
  · by_cases c4 : I (18 + s) 4 = 0
    · refine ⟨hb f v (I (18 + s) 3), r67_0 (sS hs) ⟨_, _, p1, fun _ => ⟨fun _ => ⟨rfl, rfl⟩, fun c => absurd ?_ c⟩, fun c => absurd ?_ c⟩, g1, hf1, fun k hk => ?_⟩
      · rw [q4]; exact c4
      · rw [q1]; exact c1
      · rw [hb_lt hk, ex _ _ hk]
        simp [c1, c4]
    · have p2 := s68 (L := L) (h := h) (z := z) (I := u2 I (18 + s) 5 (nI (hb f v (I (18 + s) 3)))) (J := J) (x := I (18 + s) 0 + 1) hs (by rw [q0]; exact h0) (q5 _) hv hf1
      rw [u2_u2] at p2
      refine ⟨hb (hb f v (I (18 + s) 3)) v (I (18 + s) 0 + 1), r67_0 (sS hs) ⟨_, _, p1, fun _ => ⟨fun c => ?_, fun _ => ?_⟩, fun c => absurd ?_ c⟩, Nat.le_trans g1 hb_ge, hb_le hf1, fun k hk => ?_⟩
      · rw [q4] at c; exact absurd c c4
      · rw [q0]; exact ⟨_, _, p2, rfl, rfl⟩
      · rw [q1]; exact c1
      · rw [hb_lt hk, hb_lt hk, ex _ _ hk]
        have := en k hk
        constructor
        · intro _; exact Or.inr (Or.inr (Or.inr c4))
        · intro _; exact Or.inr this
  · have p2 := s68 (L := L) (h := h) (z := z) (I := u2 I (18 + s) 5 (nI (hb f v (I (18 + s) 3)))) (J := J) (x := I (18 + s) 0 - I (18 + s) 1 + 1) hs (by rw [q0]; exact h0) (q5 _) hv hf1
    rw [u2_u2] at p2
    have hf2 := hb_le (x := I (18 + s) 0 - I (18 + s) 1 + 1) hf1
    by_cases c4 : I (18 + s) 4 = 0
    · refine ⟨hb (hb f v (I (18 + s) 3)) v (I (18 + s) 0 - I (18 + s) 1 + 1), r67_0 (sS hs) ⟨_, _, p1, fun c => ?_, fun _ => ?_⟩, Nat.le_trans g1 hb_ge, hf2, fun k hk => ?_⟩
      · rw [q1] at c; exact absurd c c1
      · rw [q0, q1]
        refine ⟨_, _, p2, fun _ => ⟨rfl, rfl⟩, fun c => absurd ?_ c⟩
        rw [q4]; exact c4
      · rw [hb_lt hk, hb_lt hk, ex _ _ hk, em c1 k hk]
        simp only [c1, c4, not_false_iff, not_true, true_and, or_false, or_assoc]
    · have p3 := s68 (L := L) (h := h) (z := z) (I := u2 I (18 + s) 5 (nI (hb (hb f v (I (18 + s) 3)) v (I (18 + s) 0 - I (18 + s) 1 + 1)))) (J := J) (x := I (18 + s) 0 + 1) hs (by rw [q0]; exact h0) (q5 _) hv hf2
      rw [u2_u2] at p3
      refine ⟨hb (hb (hb f v (I (18 + s) 3)) v (I (18 + s) 0 - I (18 + s) 1 + 1)) v (I (18 + s) 0 + 1), r67_0 (sS hs) ⟨_, _, p1, fun c => ?_, fun _ => ?_⟩, Nat.le_trans g1 (Nat.le_trans hb_ge hb_ge), hb_le hf2, fun k hk => ?_⟩
      · rw [q1] at c; exact absurd c c1
      · rw [q0, q1]
        refine ⟨_, _, p2, fun c => ?_, fun _ => ?_⟩
        · rw [q4] at c; exact absurd c c4
        · rw [q0]; exact ⟨_, _, p3, rfl, rfl⟩
      · rw [hb_lt hk]
        have := en k hk
        constructor
        · intro _; exact Or.inr (Or.inr (Or.inr c4))
        · intro _; exact Or.inr this
/-- hideOld -/
theorem s24_loop {s : Nat} (hs : s < 40) (hC : CV n t st tm fv I) : ∀ m k f, k + m = n → f ≤ ct st s n →
    ∃ g, Run 24 21 [(0, .ref 10), (1, .int (nI s)), (2, .ref (18 + s)), (3, .int (nI k))] [] (mS L (u2 I (18 + s) 5 (nI f)) J h z) (.inl none) (mS L (u2 I (18 + s) 5 (nI g)) J h z) ∧ f ≤ g ∧ g ≤ ct st s n ∧
      ∀ j, j < ct st s n → (j < g ↔ j < f ∨ ∃ e, k ≤ e ∧ e < n ∧ st e = s ∧ I (18 + s) 2 ≤ I 10 8 - I 16 e ∧ j ≤ nm st e) := by
  obtain ⟨a1, a2, a3, a4, a5, a6⟩ := hC
  have e10 : ∀ g j, u2 I (18 + s) 5 (nI g) 10 j = I 10 j := fun g j => by rw [u2_ne (by omega)]
  have e11 : ∀ g j, u2 I (18 + s) 5 (nI g) 11 j = I 11 j := fun g j => by rw [u2_ne (by omega)]
  have e12 : ∀ g j, u2 I (18 + s) 5 (nI g) 12 j = I 12 j := fun g j => by rw [u2_ne (by omega)]
  have e16 : ∀ g j, u2 I (18 + s) 5 (nI g) 16 j = I 16 j := fun g j => by rw [u2_ne (by omega)]
  have es2 : ∀ g, u2 I (18 + s) 5 (nI g) (18 + s) 2 = I (18 + s) 2 := fun g => by rw [u2_at, if_neg (by omega)]
  intro m
  induction m with
  | zero =>
    intro k f hk hf
    refine ⟨f, r24_21 (sS hs) ⟨fun _ => ⟨rfl, rfl⟩, fun c => absurd ?_ c⟩, Nat.le_refl _, hf, fun j hj => ⟨Or.inl, fun q => q.elim id ?_⟩⟩
    · rw [e10, a3]; exact nI_le (by omega) (by omega)
    · rintro ⟨e, h1, h2, _⟩; omega
  | succ m ih =>
    intro k f hk hf
    obtain ⟨c1, c2, c3, c4, c5, c6⟩ := a5 k (by omega)
    have hv : vp_in (nI k) 2500 := vp_in_nI (by omega) (by omega)
    have skip : (∀ j, j < ct st s n → st k = s → I (18 + s) 2 ≤ I 10 8 - I 16 k → j ≤ nm st k → j < f) → ∃ g, Run 24 21 [(0, .ref 10), (1, .int (nI s)), (2, .ref (18 + s)), (3, .int (nI k + 1))] [] (mS L (u2 I (18 + s) 5 (nI f)) J h z) (.inl none) (mS L (u2 I (18 + s) 5 (nI g)) J h z) ∧ f ≤ g ∧ g ≤ ct st s n ∧
      ∀ j, j < ct st s n → (j < g ↔ j < f ∨ ∃ e, k ≤ e ∧ e < n ∧ st e = s ∧ I (18 + s) 2 ≤ I 10 8 - I 16 e ∧ j ≤ nm st e) := by
      intro hsk
      obtain ⟨g, b1, b2, b3, b4⟩ := ih (k + 1) f (by omega) hf
      rw [nI_1]
      refine ⟨g, b1, b2, b3, fun j hj => ?_⟩
      rw [b4 j hj]
      constructor
      · rintro (q | ⟨e, h1, h2⟩)
        · exact Or.inl q
        · exact Or.inr ⟨e, by omega, h2⟩
      · rintro (q | ⟨e, h1, h2, h3, h4, h5⟩)
        · exact Or.inl q
        · by_cases hek : e = k
          · subst hek; exact Or.inl (hsk j hj h3 h4 h5)
          · exact Or.inr ⟨e, by omega, h2, h3, h4, h5⟩
    have lt : ¬ nI n ≤ nI k := fun c => absurd ((nI_leI (by omega) (by omega)).mp c) (by omega)
    by_cases hst : st k = s
    · by_cases hag : I 10 8 - I 16 k < I (18 + s) 2
      · obtain ⟨g, b1, b2⟩ := skip (fun j _ _ q _ => by simp only [ti_lt, ti_le] at *; omega)
        refine ⟨g, r24_21 (sS hs) ⟨fun c => ?_, fun _ => ⟨hv, fun c => absurd ?_ c, fun _ => ⟨fun _ => b1, fun c => absurd ?_ c⟩⟩⟩, b2⟩
        · rw [e10, a3] at c; exact absurd c lt
        · rw [cl k (by omega), e11, c2, hst]
        · rw [cl k (by omega), e10, e16, es2]; exact hag
      · have hx := s68 (L := L) (h := h) (z := z) (I := u2 I (18 + s) 5 (nI f)) (J := J) (x := nI (nm st k) + 1) hs (v := ct st s n) (f := f) (by rw [u2_at, if_neg (by omega)]; exact (a6 s hs).1) (by rw [u2_at, if_pos ⟨rfl, rfl⟩]) (Nat.le_trans (cn_le _ _) a1) hf
        rw [u2_u2] at hx
        obtain ⟨g, b1, b2, b3, b4⟩ := ih (k + 1) (hb f (ct st s n) (nI (nm st k) + 1)) (by omega) (hb_le hf)
        have hnm := nm_lt (st := st) (e := k)
        refine ⟨g, r24_21 (sS hs) ⟨fun c => ?_, fun _ => ⟨hv, fun c => absurd ?_ c, fun _ => ⟨fun c => absurd ?_ hag, fun _ => ?_⟩⟩⟩, Nat.le_trans hb_ge b2, b3, fun j hj => ?_⟩
        · rw [e10, a3] at c; exact absurd c lt
        · rw [cl k (by omega), e11, c2, hst]
        · rw [cl k (by omega), e10, e16, es2] at c; exact c
        · rw [cl k (by omega), e12, c3]
          exact ⟨_, _, hx, by rw [nI_1]; exact b1⟩
        · rw [b4 j hj, hb_lt hj]
          have e : (j : Int) < (nI (nm st k) + 1).toInt ↔ j ≤ nm st k := by
            exact lt_nI1 (by omega)
          rw [e]
          constructor
          · rintro ((q | q) | ⟨e, h1, h2⟩)
            · exact Or.inl q
            · refine Or.inr ⟨k, by omega, by omega, hst, ?_, q⟩
              simp only [ti_lt, ti_le] at *; omega
            · exact Or.inr ⟨e, by omega, h2⟩
          · rintro (q | ⟨e, h1, h2, h3, h4, h5⟩)
            · exact Or.inl (Or.inl q)
            · by_cases hek : e = k
              · subst hek; exact Or.inl (Or.inr h5)
              · exact Or.inr ⟨e, by omega, h2, h3, h4, h5⟩
    · obtain ⟨g, b1, b2⟩ := skip (fun j _ q _ _ => absurd q hst)
      refine ⟨g, r24_21 (sS hs) ⟨fun c => ?_, fun _ => ⟨hv, fun _ => b1, fun c => ?_⟩⟩, b2⟩
      · rw [e10, a3] at c; exact absurd c lt
      · rw [cl k (by omega), e11, c2] at c
        exact absurd (nI_inj (by omega) (by omega) c) hst
theorem s24 {s : Nat} (hs : s < 40) (hC : CV n t st tm fv I) : ∃ f, dU 24 [.ref 10, .int (nI s)] L h z I J (u2 I (18 + s) 5 (nI f)) J ∧ fv s ≤ f ∧ f ≤ ct st s n ∧
    ∀ e, e < n → st e = s → (nm st e < f ↔ nm st e < fv s ∨ hideK I s e) := by
  have hC0 := hC
  obtain ⟨a1, a2, a3, a4, a5, a6⟩ := hC
  obtain ⟨d1, d2, d3, d4, d5, d6⟩ := a6 s hs
  have hv : ct st s n ≤ 2500 := Nat.le_trans (cn_le _ _) a1
  obtain ⟨g, b1, b2, b3, b4⟩ := s67 (L := L) (h := h) (z := z) (J := J) hs d1 d2 hv d3 d4
  have e2 : u2 I (18 + s) 5 (nI g) (18 + s) 2 = I (18 + s) 2 := by rw [u2_at, if_neg (by omega)]
  by_cases c : I (18 + s) 2 = 0
  · refine ⟨g, r24_0 ⟨vp_in_nI hs (by omega), ?_⟩, b2, b3, fun e he hse => ?_⟩
    · rw [cl s (by omega), R0_17 hs]
      exact ⟨_, _, b1, fun k => absurd (by rw [e2]; exact c) k, fun _ => ⟨rfl, rfl⟩⟩
    · rw [b4 _ (nm_ct he hse)]
      unfold hideK hcP
      rw [(a5 e he).2.2.1]
      simp only [c, not_true, false_and, false_or]
  · obtain ⟨f, p1, p2, p3, p4⟩ := s24_loop (L := L) (h := h) (z := z) (J := J) hs hC0 n 0 g (by omega) b3
    refine ⟨f, r24_0 ⟨vp_in_nI hs (by omega), ?_⟩, Nat.le_trans b2 p2, p3, fun e he hse => ?_⟩
    · rw [cl s (by omega), R0_17 hs]
      exact ⟨_, _, b1, fun _ => p1, fun k => absurd (by rw [e2] at k; exact k) c⟩
    · have hj := nm_ct (st := st) he hse
      rw [p4 _ hj, b4 _ hj]
      unfold hideK hcP
      obtain ⟨c1, c2, c3, c4, c5, c6⟩ := a5 e he
      rw [c3]
      have hage : (∃ e', 0 ≤ e' ∧ e' < n ∧ st e' = s ∧ I (18 + s) 2 ≤ I 10 8 - I 16 e' ∧ nm st e ≤ nm st e') ↔ (¬ I (18 + s) 2 = 0 ∧ I (18 + s) 2 ≤ I 10 8 - I 16 e) := by
        constructor
        · rintro ⟨e', _, h2, h3, h4, h5⟩
          refine ⟨c, ?_⟩
          have hle := nm_le (st := st) (e := e) (e' := e') (by rw [hse, h3]) h5
          obtain ⟨x1, x2, x3, x4, x5, x6⟩ := a5 e' h2
          have htm : tm e ≤ tm e' := by
            by_cases q : e = e'
            · rw [q]; exact Nat.le_refl _
            · exact x6 e (by omega)
          rw [x5, a4] at h4
          rw [c5, a4]
          exact age_mono h4 htm x4 a2
        · rintro ⟨_, h4⟩
          exact ⟨e, by omega, he, hse, h4, Nat.le_refl _⟩
      rw [hage]
      constructor
      · rintro ((q | q | q | q) | q)
        · exact Or.inl q
        · exact Or.inr (Or.inl q)
        · exact Or.inr (Or.inr (Or.inl q))
        · exact Or.inr (Or.inr (Or.inr (Or.inr q)))
        · exact Or.inr (Or.inr (Or.inr (Or.inl q)))
      · rintro (q | q | q | q | q)
        · exact Or.inl (Or.inl q)
        · exact Or.inl (Or.inr (Or.inl q))
        · exact Or.inl (Or.inr (Or.inr (Or.inl q)))
        · exact Or.inr q
        · exact Or.inl (Or.inr (Or.inr (Or.inr q)))
end
