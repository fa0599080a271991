/-! settings and end. -/
section
variable {L h z n t : Nat} {st tm fv fv' : Nat → Nat} {I I' M M' : rI} {J K J' K' : rJ}
theorem room {b x : Nat} (hb : b ≤ 100000) (hx : x ≤ 1000000) : (100000 - nI b < nI x ↔ 100000 < b + x) ∧ (nI b + nI x ≤ 100000 ↔ b + x ≤ 100000) := by
  rw [show (100000 : Int32) = nI 100000 from rfl, nI_sub hb (by omega), nI_add, nI_ltI (by omega) (by omega), nI_leI (by omega) (by omega)]
  omega
theorem s102 {s : Nat} (hs : s < 40) (ho : I 2 0 = 1) (he : I (18 + s) 4 = 0) : dN 102 [.ref 1, .int (nI s)] L h z I J := by
  refine r102_0 (Or.inl ⟨s100 ho, vp_in_nI hs (by omega), fun _ => ⟨rfl, rfl⟩, fun c => absurd ?_ c⟩)
  rw [cl s (by omega), R0_17 hs]; exact he
theorem s102t {s : Nat} (hs : s < 40) (ho : I 2 0 = 0 ∨ (I 2 0 = 1 ∧ ¬ I (18 + s) 4 = 0)) : dT 102 [.ref 1, .int (nI s)] L h z I J 1 I J := by
  rcases ho with ho | ⟨ho, he⟩
  · exact r102_0 (Or.inr ⟨1, s100t ho, rfl, rfl⟩)
  · refine r102_0 (Or.inl ⟨s100 ho, vp_in_nI hs (by omega), fun c => absurd c ?_, fun _ => ⟨rfl, rfl⟩⟩)
    rw [cl s (by omega), R0_17 hs]; exact he
/-- the settings of a stream have changed on both sides -/
theorem IE_S {s : Nat} (hs : s < 40) (hE : IE n t st tm fv I J M K) (h1 : ∀ b, 10 ≤ b → b < 58 → ¬ b = 18 + s → I' b = I b) (h2 : I' (18 + s) 0 = I (18 + s) 0 ∧ I' (18 + s) 5 = I (18 + s) 5)
    (h3 : ∀ b, 146 ≤ b → b ≤ 153 → M' b = M b) (h4 : ∀ b i, 154 ≤ b → b ≤ 157 → ¬ i = s → M' b i = M b i) (h5 : M' 145 2 = M 145 2 ∧ M' 145 13 = M 145 13)
    (h6 : I' (18 + s) 1 = M' 154 s ∧ I' (18 + s) 2 = M' 155 s ∧ I' (18 + s) 3 = M' 156 s ∧ I' (18 + s) 4 = M' 157 s ∧ 0 ≤ M' 154 s ∧ 0 ≤ M' 155 s ∧ 0 ≤ M' 156 s ∧ bI (M' 157 s))
    (hc : HC (fun _ => True) n st fv M) : IE n t st tm fv I' J M' K ∧ HC (fun i => ¬ i = s) n st fv M' := by
  obtain ⟨a1, a2, a3, a4, a5, a6, ⟨b1, b2, b3, b4, b5, b6⟩, a7, a8⟩ := hE
  refine ⟨⟨a1, a2, by rw [h1 10 (by omega) (by omega) (by omega)]; exact a3, by rw [h5.2]; exact a4, by rw [h1 10 (by omega) (by omega) (by omega)]; exact a5, by rw [h5.1]; exact a6, ⟨?_, ?_, ?_, ?_, b5, ?_⟩, fun e he => ?_, fun i hi => ?_⟩, fun e he hse hh => ?_⟩
  · rw [h1 11 (by omega) (by omega) (by omega), h3 146 (by omega) (by omega)]; exact b1
  · rw [h1 12 (by omega) (by omega) (by omega), h3 147 (by omega) (by omega)]; exact b2
  · rw [h1 13 (by omega) (by omega) (by omega), h3 148 (by omega) (by omega)]; exact b3
  · rw [h1 14 (by omega) (by omega) (by omega), h3 149 (by omega) (by omega)]; exact b4
  · rw [h1 16 (by omega) (by omega) (by omega), h3 151 (by omega) (by omega)]; exact b6
  · have := a7 e he
    unfold IEe at this ⊢
    rw [h3 146 (by omega) (by omega), h3 147 (by omega) (by omega), h3 151 (by omega) (by omega), h3 152 (by omega) (by omega), h3 149 (by omega) (by omega)]
    exact this
  · have q := a8 i hi
    by_cases k : i = s
    · subst k
      obtain ⟨c1, c2, c3, c4, c5, c6, c7, c8, c9, c10, c11, c12⟩ := q
      obtain ⟨d1, d2, d3, d4, d5, d6, d7, d8⟩ := h6
      exact ⟨by rw [h2.1, h3 153 (by omega) (by omega)]; exact c1, by rw [h3 153 (by omega) (by omega)]; exact c2, d1, d2, d3, d4, d5, d6, d7, d8, by rw [h2.2]; exact c11, c12⟩
    · unfold IEs at q ⊢
      rw [h1 (18 + i) (by omega) (by omega) (by omega), h3 153 (by omega) (by omega), h4 154 i (by omega) (by omega) k, h4 155 i (by omega) (by omega) k, h4 156 i (by omega) (by omega) k, h4 157 i (by omega) (by omega) k]
      exact q
  · refine hc e he trivial ?_
    have k : ¬ st e = s := hse
    unfold hideC at hh ⊢
    rw [h4 154 _ (by omega) (by omega) k, h4 155 _ (by omega) (by omega) k, h4 156 _ (by omega) (by omega) k, h4 157 _ (by omega) (by omega) k, h3 153 (by omega) (by omega), h5.1, h3 147 (by omega) (by omega), h3 151 (by omega) (by omega)] at hh
    exact hh
/-- the class's view alone, after new settings -/
theorem CV_S {s : Nat} (hs : s < 40) (hC : CV n t st tm fv I) (h1 : ∀ b, 10 ≤ b → b < 58 → ¬ b = 18 + s → I' b = I b) (h2 : I' (18 + s) 0 = I (18 + s) 0 ∧ I' (18 + s) 5 = I (18 + s) 5)
    (h6 : 0 ≤ I' (18 + s) 1 ∧ 0 ≤ I' (18 + s) 2 ∧ 0 ≤ I' (18 + s) 3) : CV n t st tm fv I' := by
  obtain ⟨a1, a2, a3, a4, a5, a6⟩ := hC
  unfold CV
  rw [h1 10 (by omega) (by omega) (by omega), h1 11 (by omega) (by omega) (by omega), h1 12 (by omega) (by omega) (by omega), h1 16 (by omega) (by omega) (by omega)]
  refine ⟨a1, a2, a3, a4, a5, fun i hi => ?_⟩
  by_cases k : i = s
  · subst k
    rw [h2.1, h2.2]
    obtain ⟨c1, c2, c3, c4⟩ := a6 i hi
    exact ⟨c1, c2, c3, h6⟩
  · rw [h1 (18 + i) (by omega) (by omega) (by omega)]
    exact a6 i hi
/-- a call that wrote a record, once both are through -/
theorem call_w {q qm : Nat} {as : List Value} {es : List Nat} {p c : Int32} {I3 M3 : rI} {J3 K3 : rJ} {n' t' : Nat} {st' tm' : Nat → Nat} {v : Option Value}
    (hC : InvC n' t' st' tm' fv' I3 J3 M3 K3) (hH : HC (fun _ => True) n' st' fv' M3) (hK : IKm p I3 M3)
    (hc1 : p = -1 → Den q (.ref 1 :: as) (mS L I J h z) (.inl v) (mS L I3 J3 h z)) (hc2 : ¬ p = -1 → Den q (.ref 1 :: as) (mS L I J h z) (.inr 2) (mS L (cOff I3) J3 (h + 1) (z + 6)))
    (hm : ∀ h z, ∃ rv, Den qm (.ref 145 :: as) (mS L (epC p I3) J3 h z) (.inl rv) (mS L (epM p c M3) K3 h z) ∧ (p = -1 → v = rv))
    (hf : ∀ b, b < 145 → M3 b = epC p I3 b) (hfJ : ∀ b, 0 < b → b < 145 → K3 b = J3 b) (h0 : I3 0 = I 0) (ht : t' ≤ t + 1000) (he : 2 ∈ es) (hcc : c = nI (es.idxOf 2 + 1)) : callOk q qm as es t L h z I J := by
  have hF := Inv_ep (c := c) hC hH hK
  have hX : Inv n' t' st' tm' fv' (epM p c M3) K3 (epM p c M3) K3 := Inv_mix hF (fun b q1 q2 => ⟨by rw [epM_c q2, hf b q2], hfJ b q1 q2⟩)
  have h00 : epM p c M3 0 = I 0 := by rw [epM_s, hf 0 (by omega), epC_m (by omega), h0]
  by_cases hp : p = -1
  · obtain ⟨rv, m1, m2⟩ := hm h z
    have e1 : epC p I3 = I3 := if_pos hp
    rw [e1] at m1
    refine ⟨_, _, _, _, _, hc1 hp, And.intro rfl rfl, fun e k => (nomatch k), _, _, _, m1, h00, ?_, fun x k => (Sum.inl.inj k).symm.trans (m2 hp), n', t', st', tm', fv', ht, hX⟩
    rw [epM_0, if_pos hp]; rfl
  · obtain ⟨rv, m1, m2⟩ := hm (h + 1) (z + 6)
    have e1 : epC p I3 = cOff I3 := if_neg hp
    rw [e1] at m1
    refine ⟨_, _, _, _, _, hc2 hp, And.intro rfl rfl, fun e k => (Sum.inr.inj k) ▸ he, _, _, _, m1, h00, ?_, fun x k => (nomatch k), n', t', st', tm', fv', ht, hX⟩
    rw [epM_0, if_neg hp, hcc]; rfl
/-- the model looks for the first visible number -/
theorem s127_loop {s : Nat} (hs : s < 40) (hE : IE n t st tm fv I J M K) : ∀ m k, k + m = n → (∀ e, e < k → st e = s → nm st e < fv s) →
    Run 127 119 [(0, .ref 145), (1, .int (nI s)), (5, .int (nI k))] [] (mS L M K h z) (.inl (some (.int (nI (fv s))))) (mS L M K h z) := by
  have hE0 := hE
  obtain ⟨a1, a2, a3, a4, a5, a6, b, a7, a8⟩ := hE
  obtain ⟨c1, c2, c3, c4, c5, c6, c7, c8, c9, c10, c11, c12⟩ := a8 s hs
  have hv0 : ct st s n ≤ 2500 := Nat.le_trans (cn_le _ _) a1
  intro m
  induction m with
  | zero =>
    intro k hk hall
    refine r127_119 ⟨fun _ => ⟨vp_in_nI hs (by omega), ?_, rfl⟩, fun c => absurd ?_ c⟩
    · rw [cl s (by omega), c2]
      have : fv s = ct st s n := by
        refine Classical.byContradiction fun c => ?_
        obtain ⟨e, h1, h2, h3⟩ := nm_surj (st := st) (s := s) (k := fv s) n (by omega)
        have := hall e (by omega) h2
        omega
      rw [this]
      congr 3
      exact (Int32.sub_add_cancel _ _).symm
    · rw [a4]; exact nI_le (by omega) (by omega)
  | succ m ih =>
    intro k hk hall
    obtain ⟨d1, d2, d3, d4, d5, d6, d7, d8⟩ := a7 k (by omega)
    have hn := nm_lt (st := st) (e := k)
    refine r127_119 ⟨fun c => ?_, fun _ => ⟨vp_in_nI (by omega) (by omega), fun c => ?_, fun c => ⟨fun c2 => ?_, fun c2 => ?_⟩⟩⟩
    · rw [a4] at c; exact absurd ((nI_leI (by omega) (by omega)).mp c) (by omega)
    · rw [cl k (by omega), d2] at c
      rw [nI_1]
      refine ih (k + 1) (by omega) (fun e he hse => ?_)
      by_cases q : e = k
      · subst q; rw [hse] at c; exact absurd rfl c
      · exact hall e (by omega) hse
    · rw [cl k (by omega), d2] at c
      have c := nI_inj (by omega) (by omega) c
      rw [cl k (by omega), d7] at c2
      rw [nI_1]
      refine ih (k + 1) (by omega) (fun e he hse => ?_)
      by_cases q : e = k
      · subst q
        rw [← c]
        refine Classical.byContradiction fun k => c2 (if_neg k)
      · exact hall e (by omega) hse
    · rw [cl k (by omega), d2] at c
      have c := nI_inj (by omega) (by omega) c
      rw [cl k (by omega), d7] at c2
      have hge : ¬ nm st k < fv (st k) := fun q => by rw [if_pos q] at c2; exact absurd c2 (by decide)
      rw [cl k (by omega), d3]
      have : nm st k = fv s := by
        refine Classical.byContradiction fun q => ?_
        obtain ⟨e, h1, h2, h3⟩ := nm_surj (st := st) (s := s) (k := fv s) k (by
          have : nm st k = ct st s k := by unfold nm; rw [c]
          rw [c] at hge
          omega)
        have := hall e h1 h2
        omega
      rw [this]
      exact ⟨rfl, rfl⟩
theorem call_settings {x1 m a f : Int32} (hI : Inv n t st tm fv I J I J) : callOk 73 127 [.int x1, .int m, .int a, .int f] [0, 1, 2] t L h z I J := by
  have hE := hI.1.1
  have n1 := hE.1
  have n2 := hE.2.2.2.1
  have h92 := s92 (L := L) (h := h) (z := z) (I := I) (J := J) (x := x1)
  have hbad : ∀ (hc : Run 73 0 [(0, .ref 1), (1, .int x1), (2, .int m), (3, .int a), (4, .int f)] [] (mS L I J h z) (.inr 0) (mS L I J (h + 1) (z + 6))), (Run 127 29 [(0, .ref 145), (1, .int x1), (2, .int m), (3, .int a), (4, .int f)] [.int 1, .ref 145] (mS L I J (h + 1) (z + 6)) (.inl (some (.int 0))) (mS L (u2 I 145 0 1) J (h + 1) (z + 6)) → Run 127 0 [(0, .ref 145), (1, .int x1), (2, .int m), (3, .int a), (4, .int f)] [] (mS L I J (h + 1) (z + 6)) (.inl (some (.int 0))) (mS L (u2 I 145 0 1) J (h + 1) (z + 6))) → callOk 73 127 [.int x1, .int m, .int a, .int f] [0, 1, 2] t L h z I J :=
    fun hc hm => call_bad (rv := some (.int 0)) (e := 0) (c := 1) hI hc (hm (r127_29 ⟨_, _, _, s114t, fun _ => ⟨rfl, rfl⟩, fun c => absurd c (by decide)⟩)) (by decide) (by decide)
  cases h1 : rg x1 40 with
  | false =>
    rw [h1] at h92
    exact hbad (r73_0 ⟨_, h92, fun _ => ⟨rfl, rfl⟩, fun c => absurd rfl c⟩) (fun H => r127_0 ⟨_, s115r h1 (by omega) (by omega) (by decide), fun _ => H, fun c => absurd rfl c⟩)
  | true =>
  rw [h1] at h92
  by_cases hm : m < 0
  · exact hbad (r73_0 ⟨_, h92, fun c => absurd c (by decide), fun _ => ⟨fun _ => ⟨rfl, rfl⟩, fun c => absurd hm c⟩⟩) (fun H => r127_0 ⟨_, s115r h1 (by omega) (by omega) (by decide), fun c => absurd c (by decide), fun _ => ⟨fun _ => H, fun c => absurd hm c⟩⟩)
  by_cases ha : a < 0
  · exact hbad (r73_0 ⟨_, h92, fun c => absurd c (by decide), fun _ => ⟨fun c => absurd c hm, fun _ => ⟨fun _ => ⟨rfl, rfl⟩, fun c => absurd ha c⟩⟩⟩) (fun H => r127_0 ⟨_, s115r h1 (by omega) (by omega) (by decide), fun c => absurd c (by decide), fun _ => ⟨fun c => absurd c hm, fun _ => ⟨fun _ => H, fun c => absurd ha c⟩⟩⟩)
  by_cases hf : 0 ≤ f
  case neg =>
    exact hbad (r73_0 ⟨_, h92, fun c => absurd c (by decide), fun _ => ⟨fun c => absurd c hm, fun _ => ⟨fun c => absurd c ha, fun _ => ⟨fun c => absurd c hf, fun _ => ⟨rfl, rfl⟩⟩⟩⟩⟩) (fun H => r127_0 ⟨_, s115r h1 (by omega) (by omega) (by decide), fun c => absurd c (by decide), fun _ => ⟨fun c => absurd c hm, fun _ => ⟨fun c => absurd c ha, fun _ => ⟨fun c => absurd c hf, fun _ => H⟩⟩⟩⟩)
  have hm0 : 0 ≤ m := by simp only [ti_lt, ti_le] at *; omega
  have ha0 : 0 ≤ a := by simp only [ti_lt, ti_le] at *; omega
  obtain ⟨s, hs, rfl⟩ := (rg_t (by omega)).mp h1
  have hvs : vp_in (nI s) 40 := vp_in_nI hs (by omega)
  have hcs := cl s (by omega)
  obtain ⟨c1, c2, c3, c4, c5, c6, c7, c8, c9, c10, c11, c12⟩ := hE.2.2.2.2.2.2.2.2 s hs
  -- the class, from its first question on
  have hc0 : ∀ (o : eO) (σo : eS), ((Den 102 [.ref 1, .int (nI s)] (mS L I J h z) (.inr 1) (mS L I J (h + 1) (z + 6)) ∧ o = .inr 1 ∧ σo = mS L I J (h + 1) (z + 6)) ∨ (Den 102 [.ref 1, .int (nI s)] (mS L I J h z) (.inl none) (mS L I J h z) ∧ Den 101 [.ref 1, .int 32] (mS L I J h z) (.inr 1) (mS L I J (h + 1) (z + 6)) ∧ o = .inr 1 ∧ σo = mS L I J (h + 1) (z + 6))) → Run 73 0 [(0, .ref 1), (1, .int (nI s)), (2, .int m), (3, .int a), (4, .int f)] [] (mS L I J h z) o σo := by
    rintro o σo (⟨k1, k2, k3⟩ | ⟨k1, k2, k3, k4⟩)
    · exact r73_0 ⟨_, h92, fun c => absurd c (by decide), fun _ => ⟨fun c => absurd c hm, fun _ => ⟨fun c => absurd c ha, fun _ => ⟨fun _ => Or.inr ⟨1, k1, k2, k3⟩, fun c => absurd hf c⟩⟩⟩⟩
    · exact r73_0 ⟨_, h92, fun c => absurd c (by decide), fun _ => ⟨fun c => absurd c hm, fun _ => ⟨fun c => absurd c ha, fun _ => ⟨fun _ => Or.inl ⟨k1, Or.inr ⟨1, k2, k3, k4⟩⟩, fun c => absurd hf c⟩⟩⟩⟩
  have hm00 : ∀ (I' : rI) (J' : rJ) (h z : Nat) (o : eO) (σo : eS), Run 127 29 [(0, .ref 145), (1, .int (nI s)), (2, .int m), (3, .int a), (4, .int f)] [.int 0, .ref 145] (mS L I' J' h z) o σo → Run 127 0 [(0, .ref 145), (1, .int (nI s)), (2, .int m), (3, .int a), (4, .int f)] [] (mS L I' J' h z) o σo :=
    fun I' J' h z o σo H => r127_0 ⟨_, s115r h1 (by omega) (by omega) (by decide), fun c => absurd c (by decide), fun _ => ⟨fun c => absurd c hm, fun _ => ⟨fun c => absurd c ha, fun _ => ⟨fun _ => H, fun c => absurd hf c⟩⟩⟩⟩
  have h67t : Run 127 67 [(0, .ref 145), (1, .int (nI s)), (2, .int m), (3, .int a), (4, .int f)] [.int 1, .ref 145] (mS L (u2 I 145 0 0) J (h + 1) (z + 6)) (.inl (some (.int 0))) (mS L (u2 I 145 0 2) J (h + 1) (z + 6)) := by
    refine r127_67 ⟨_, _, _, s114t, fun c => absurd c (by decide), fun _ => ⟨rfl, ?_⟩⟩
    rw [u2_u2]
  rcases Inv_on hI with ⟨o1, o2⟩ | ⟨o1, o2⟩
  · refine call_bad (rv := some (.int 0)) (e := 1) (c := 2) hI (hc0 _ _ (Or.inl ⟨s102t hs (Or.inl o2), rfl, rfl⟩)) (hm00 _ _ _ _ _ _ (r127_29 ⟨_, _, _, s114f, fun c => absurd rfl c, fun _ => ⟨fun _ => h67t, fun c => absurd ?_ c⟩⟩)) (by decide) (by decide)
    rw [u2_at, if_neg (by omega)]; exact o1
  have p1 : ¬ u2 I 145 0 0 145 1 = 0 := by rw [u2_at, if_neg (by omega), o1]; decide
  by_cases hen : I 157 s = 0
  case neg =>
    refine call_bad (rv := some (.int 0)) (e := 1) (c := 2) hI (hc0 _ _ (Or.inl ⟨s102t hs (Or.inr ⟨o2, by rw [c6]; exact hen⟩), rfl, rfl⟩)) (hm00 _ _ _ _ _ _ (r127_29 ⟨_, _, _, s114f, fun c => absurd rfl c, fun _ => ⟨fun c => absurd c p1, fun _ => ⟨hvs, fun _ => h67t, fun c => absurd ?_ hen⟩⟩⟩)) (by decide) (by decide)
    rw [hcs, u2_ne (by omega)] at c; exact c
  have k102 := s102 (L := L) (h := h) (z := z) (J := J) hs o2 (c6.trans hen)
  obtain ⟨b, hb, hb2⟩ := hI.2.2.2.2.2.1
  have hb1 : I 2 1 = nI b := hI.2.2.2.2.1.trans hb2
  have hroom := room (x := 32) hb (by omega)
  by_cases hr : b + 32 ≤ 100000
  case neg =>
    have k101 := s101t (L := L) (h := h) (z := z) (I := I) (J := J) (x := nI 32) (by rw [hb1]; exact hroom.1.mpr (by omega))
    refine call_bad (rv := some (.int 0)) (e := 1) (c := 2) hI (hc0 _ _ (Or.inr ⟨k102, k101, rfl, rfl⟩)) (hm00 _ _ _ _ _ _ (r127_29 ⟨_, _, _, s114f, fun c => absurd rfl c, fun _ => ⟨fun c => absurd c p1, fun _ => ⟨hvs, fun c => absurd ?_ c, fun _ => ⟨_, s117, fun c => absurd ?_ (show ¬ nI b + nI 32 ≤ 100000 from fun q => hr (hroom.2.mp q)), fun _ => h67t⟩⟩⟩⟩)) (by decide) (by decide)
    · rw [hcs, u2_ne (by omega)]; exact hen
    · have c := b_eq.mp c
      rw [u2_at, if_neg (by omega), hb2] at c
      have c : nI b + 32 ≤ 100000 := by simpa using c
      exact c
  have k101 := s101 (L := L) (h := h) (z := z) (I := I) (J := J) (x := nI 32) (by rw [hb1]; exact fun q => absurd (hroom.1.mp q) (by omega))
  -- a record is written
  have hls : ∀ (Ic : rI), frM I J Ic J → Inv n t st tm fv I J (u2 Ic 145 0 0) J := fun Ic hfr => Inv_t0 (Inv_cg hI frC_rfl hfr) (Or.inl rfl)
  have hsz : (32 : Int32) = nI 32 := rfl
  have hws : ∀ (Ic : rI), frM I J Ic J → IKm (I 145 5) (wsC I 32) (wsM (u2 Ic 145 0 0) 32) ∧ lsC I 32 = lsM (u2 Ic 145 0 0) 32 ∧ (lsM (u2 Ic 145 0 0) 32 = false → ¬ I 145 5 = -1) := by
    intro Ic hfr
    have q : ∀ j, ¬ j = 0 → u2 Ic 145 0 0 145 j = I 145 j := fun j hj => by rw [u2_at, if_neg (fun k => hj k.2), (hfr 145 (by omega)).1]
    have := IK_ws (x := 32) (b := b + 32) (hls Ic hfr).2.2 (by rw [q 1 (by omega)]; exact o1) (by decide) (by rw [q 3 (by omega), hb2, hsz, nI_add]) hr
    rw [q 5 (by omega)] at this
    exact this
  have k2 := s2 (L := L) (h := h) (z := z) (I := I) (J := J) (x := 32)
  -- the model up to the record
  have hmd : ∀ (Ic : rI) (h z : Nat) (o : eO) (σo : eS), frM I J Ic J → ((lsC I 32 = false → Run 127 111 [(0, .ref 145), (1, .int (nI s))] [] (mS L (wsM (u2 Ic 145 0 0) 32) J h z) o σo) ∧ (lsC I 32 = true → Run 127 111 [(0, .ref 145), (1, .int (nI s))] [] (mS L (mHd st (u2 (u2 (u2 (wsM (u2 Ic 145 0 0) 32) 154 s m) 155 s a) 156 s f) n) J h z) o σo)) → Run 127 0 [(0, .ref 145), (1, .int (nI s)), (2, .int m), (3, .int a), (4, .int f)] [] (mS L Ic J h z) o σo := by
    intro Ic h z o σo hfr H
    have q : ∀ j, ¬ j = 0 → u2 Ic 145 0 0 145 j = I 145 j := fun j hj => by rw [u2_at, if_neg (fun k => hj k.2), (hfr 145 (by omega)).1]
    have q2 : ∀ b, 145 < b → u2 Ic 145 0 0 b = I b := fun b hb => by rw [u2_ne (by omega), (hfr b (by omega)).1]
    have hl := (hws Ic hfr).2.1
    refine hm00 _ _ _ _ _ _ (r127_29 ⟨_, _, _, s114f, fun c => absurd rfl c, fun _ => ⟨fun c => absurd c (by rw [q 1 (by omega), o1]; decide), fun _ => ⟨hvs, fun c => absurd ?_ c, fun _ => ⟨_, s117, fun _ => ?_, fun c => absurd ?_ c⟩⟩⟩⟩)
    · rw [hcs, q2 157 (by omega)]; exact hen
    · refine r127_67 ⟨_, _, _, s114f, fun _ => ⟨_, _, _, s118, fun c => ?_, fun c => ⟨hvs, _, _, s120 (n := n) (st := st) n1 ?_ (fun e he => ⟨(hE.2.2.2.2.2.2.2.1 e he).1, ?_⟩), ?_⟩⟩, fun c => absurd rfl c⟩
      · rw [u2_u2] at c ⊢
        exact H.1 (hl.trans (b_eq.mp c))
      · rw [u2_u2, u2_ne (by omega), u2_ne (by omega), u2_ne (by omega), wsM_145 (by omega), q 13 (by omega)]; exact n2
      · rw [u2_u2, u2_ne (by omega), u2_ne (by omega), u2_ne (by omega), wsM_ne (by omega), q2 146 (by omega)]; exact (hE.2.2.2.2.2.2.2.1 e he).2.1
      · rw [u2_u2] at c ⊢
        rw [hcs]
        exact H.2 (hl.trans (b_ne.mp c))
    · rw [q 3 (by omega), hb2, hsz, decide_eq_true (hroom.2.mpr hr)]; rfl
  cases hl : lsC I 32 with
  | false =>
    rw [hl] at k2
    have hp : ¬ I 145 5 = -1 := by
      have := hws I frM_rfl
      exact this.2.2 (this.2.1.symm.trans hl)
    have hfr : frM I J (epC (I 145 5) (wsC I 32)) J := fun b hb => ⟨by rw [epC_m hb, wsC_ne (by omega)], rfl⟩
    have H0 := hls _ hfr
    have hK := (hws _ hfr).1
    have hC := InvC_ws (x := 32) H0.1
    have hH := HC_ws (x := 32) H0.2.1
    refine call_w (n' := n) (t' := t) (st' := st) (tm' := tm) (fv' := fv) (v := none) (c := 3) hC hH hK (fun k => absurd k hp) (fun _ => ?_) (fun h z => ?_) (fun b hb => ?_) (fun _ _ _ => rfl) (wsC_ne (by omega)) (by omega) (by decide) (by decide)
    · refine r73_0 ⟨_, h92, fun c => absurd c (by decide), fun _ => ⟨fun c => absurd c hm, fun _ => ⟨fun c => absurd c ha, fun _ => ⟨fun _ => Or.inl ⟨k102, Or.inl ⟨k101, _, _, _, k2, fun _ => Or.inr ⟨2, _, _, s104t ?_, rfl, rfl⟩, fun c => absurd rfl c⟩⟩, fun c => absurd hf c⟩⟩⟩⟩
      rw [hK.2.1, if_neg hp]
    · have hF := Inv_ep (c := 3) hC hH hK
      exact ⟨_, hmd _ _ _ _ _ hfr ⟨fun _ => r127_111 ⟨_, _, s119e hK, s127_loop hs hF.1.1 n 0 (by omega) (fun e he => absurd he (by omega))⟩, fun c => absurd (hl.symm.trans c) (by decide)⟩, fun k => absurd k hp⟩
    · rw [wsM_ne (by omega), u2_ne (by omega)]
  | true =>
    rw [hl] at k2
    have hCV0 : CV n t st tm fv (wsC I 32) := by
      have := (InvC_ws (x := 32) (M := I) (K := J) hI.1).1
      exact IE_CV this
    have hCV : CV n t st tm fv (u2 (u2 (u2 (wsC I 32) (18 + s) 1 m) (18 + s) 2 a) (18 + s) 3 f) := by
      refine CV_S hs hCV0 (fun b q1 q2 q3 => by rw [u2_ne q3, u2_ne q3, u2_ne q3]) ⟨?_, ?_⟩ ⟨?_, ?_, ?_⟩ <;> simp [u2_at, hm0, ha0, hf]
    obtain ⟨g, k24, g1, g2, g3⟩ := s24 (L := L) (h := h) (z := z) (J := J) hs hCV
    have hfr : frM I J (epC (I 145 5) (u2 (u2 (u2 (u2 (wsC I 32) (18 + s) 1 m) (18 + s) 2 a) (18 + s) 3 f) (18 + s) 5 (nI g))) J := fun b hb => ⟨by rw [epC_m hb, u2_ne (by omega), u2_ne (by omega), u2_ne (by omega), u2_ne (by omega), wsC_ne (by omega)], rfl⟩
    have H0 := hls _ hfr
    have hK0 := (hws _ hfr).1
    have hC0 := InvC_ws (x := 32) H0.1
    have hH0 := HC_ws (x := 32) H0.2.1
    generalize hMw : wsM (u2 (epC (I 145 5) (u2 (u2 (u2 (u2 (wsC I 32) (18 + s) 1 m) (18 + s) 2 a) (18 + s) 3 f) (18 + s) 5 (nI g))) 145 0 0) 32 = Mw at hK0 hC0 hH0
    have hS := IE_S (I' := u2 (u2 (u2 (wsC I 32) (18 + s) 1 m) (18 + s) 2 a) (18 + s) 3 f) (M' := u2 (u2 (u2 Mw 154 s m) 155 s a) 156 s f) hs hC0.1 (fun b q1 q2 q3 => by rw [u2_ne q3, u2_ne q3, u2_ne q3]) (by constructor <;> simp [u2_at]) (fun b q1 q2 => by rw [u2_ne (by omega), u2_ne (by omega), u2_ne (by omega)])
      (fun b i q1 q2 q3 => by simp [u2_at, q3]) (by constructor <;> simp [u2_at]) (by
        obtain ⟨e1, e2, e3, e4, e5, e6, e7, e8, e9, e10, e11, e12⟩ := hC0.1.2.2.2.2.2.2.2.2 s hs
        refine ⟨?_, ?_, ?_, ?_, ?_, ?_, ?_, ?_⟩ <;> simp [u2_at, hm0, ha0, hf, e6, e10]) hH0
    have hE3 := IE_hide1 hS.1 hS.2 hs g2 g3
    have hC3 : InvC n t st tm (updn fv s g) (u2 (u2 (u2 (u2 (wsC I 32) (18 + s) 1 m) (18 + s) 2 a) (18 + s) 3 f) (18 + s) 5 (nI g)) J (mHd st (u2 (u2 (u2 Mw 154 s m) 155 s a) 156 s f) n) J := by
      refine InvC_E hC0 hE3.1 (fun b q1 q2 q3 => ⟨by rw [u2_ne (by omega), u2_ne (by omega), u2_ne (by omega), u2_ne (by omega)], rfl⟩) (fun b q1 => ⟨by rw [mHd_ne (by omega), u2_ne (by omega), u2_ne (by omega), u2_ne (by omega)], rfl⟩) (fun j hj => by rw [mHd_ne (by omega), u2_ne (by omega), u2_ne (by omega), u2_ne (by omega)]) (fun e he => by rw [mHd_ne (by omega), u2_ne (by omega), u2_ne (by omega), u2_ne (by omega)])
    have hK3 : IKm (I 145 5) (u2 (u2 (u2 (u2 (wsC I 32) (18 + s) 1 m) (18 + s) 2 a) (18 + s) 3 f) (18 + s) 5 (nI g)) (mHd st (u2 (u2 (u2 Mw 154 s m) 155 s a) 156 s f) n) := by
      have e : mHd st (u2 (u2 (u2 Mw 154 s m) 155 s a) 156 s f) n 145 = Mw 145 := by rw [mHd_ne (by omega), u2_ne (by omega), u2_ne (by omega), u2_ne (by omega)]
      exact IKm_fr hK0 (by rw [u2_ne (by omega), u2_ne (by omega), u2_ne (by omega), u2_ne (by omega)]) (by rw [e]) (by rw [e]) (by rw [e]) (by rw [e]) (by rw [e])
    refine call_w (n' := n) (t' := t) (st' := st) (tm' := tm) (fv' := updn fv s g) (v := some (.int (nI g))) (c := 3) hC3 hE3.2 hK3 (fun hp => ?_) (fun hp => ?_) (fun h z => ?_) (fun b hb => ?_) (fun _ _ _ => rfl) ?_ (by omega) (by decide) (by decide)
    · refine r73_0 ⟨_, h92, fun c => absurd c (by decide), fun _ => ⟨fun c => absurd c hm, fun _ => ⟨fun c => absurd c ha, fun _ => ⟨fun _ => Or.inl ⟨k102, Or.inl ⟨k101, _, _, _, k2, fun c => absurd c (by decide), fun _ => ⟨hvs, ?_⟩⟩⟩, fun c => absurd hf c⟩⟩⟩⟩
      rw [hcs, R0_17 hs]
      refine ⟨_, _, r66_0 (sS hs) ⟨rfl, rfl⟩, _, _, k24, Or.inl ⟨_, _, s104 ?_, ?_, rfl⟩⟩
      · rw [hK3.2.1, if_pos hp]
      · rw [u2_at, if_pos ⟨rfl, rfl⟩]
    · refine r73_0 ⟨_, h92, fun c => absurd c (by decide), fun _ => ⟨fun c => absurd c hm, fun _ => ⟨fun c => absurd c ha, fun _ => ⟨fun _ => Or.inl ⟨k102, Or.inl ⟨k101, _, _, _, k2, fun c => absurd c (by decide), fun _ => ⟨hvs, ?_⟩⟩⟩, fun c => absurd hf c⟩⟩⟩⟩
      rw [hcs, R0_17 hs]
      refine ⟨_, _, r66_0 (sS hs) ⟨rfl, rfl⟩, _, _, k24, Or.inr ⟨2, _, _, s104t ?_, rfl, rfl⟩⟩
      rw [hK3.2.1, if_neg hp]
    · have hF := Inv_ep (c := 3) hC3 hE3.2 hK3
      refine ⟨some (.int (nI g)), hmd _ _ _ _ _ hfr ⟨fun c => absurd (hl.symm.trans c) (by decide), fun _ => ?_⟩, fun _ => rfl⟩
      rw [hMw]
      have := s127_loop (L := L) (h := h) (z := z) hs hF.1.1 n 0 (by omega) (fun e he => absurd he (by omega))
      rw [show updn fv s g s = g from if_pos rfl] at this
      exact r127_111 ⟨_, _, s119e hK3, this⟩
    · rw [mHd_ne (by omega), u2_ne (by omega), u2_ne (by omega), u2_ne (by omega), ← hMw, wsM_ne (by omega), u2_ne (by omega)]
    · rw [u2_ne (by omega), u2_ne (by omega), u2_ne (by omega), u2_ne (by omega), wsC_ne (by omega)]
end
