/-! tick. -/
section
variable {L h z n t : Nat} {st tm fv fv' : Nat → Nat} {I I' M M' : rI} {J K J' K' : rJ}
theorem IE_time {t' : Nat} (hE : IE n t st tm fv I J M K) (h1 : t ≤ t') (h2 : t' ≤ 1000000) (h3 : I' 10 7 = I 10 7) (h4 : I' 10 8 = nI t') (h5 : ∀ b, 11 ≤ b → b < 58 → I' b = I b) (h6 : ∀ b, 146 ≤ b → b ≤ 157 → M' b = M b) (h7 : M' 145 13 = M 145 13) (h8 : M' 145 2 = nI t') : IE n t' st tm fv I' J M' K := by
  obtain ⟨a1, a2, a3, a4, a5, a6, ⟨b1, b2, b3, b4, b5, b6⟩, a7, a8⟩ := hE
  refine ⟨a1, h2, h3.trans a3, h7.trans a4, h4, h8, ⟨?_, ?_, ?_, ?_, b5, ?_⟩, fun e he => ?_, fun s hs => ?_⟩
  · rw [h5 11 (by omega) (by omega), h6 146 (by omega) (by omega)]; exact b1
  · rw [h5 12 (by omega) (by omega), h6 147 (by omega) (by omega)]; exact b2
  · rw [h5 13 (by omega) (by omega), h6 148 (by omega) (by omega)]; exact b3
  · rw [h5 14 (by omega) (by omega), h6 149 (by omega) (by omega)]; exact b4
  · rw [h5 16 (by omega) (by omega), h6 151 (by omega) (by omega)]; exact b6
  · obtain ⟨c1, c2, c3, c4, c5⟩ := a7 e he
    unfold IEe
    rw [h6 146 (by omega) (by omega), h6 147 (by omega) (by omega), h6 151 (by omega) (by omega), h6 152 (by omega) (by omega), h6 149 (by omega) (by omega)]
    exact ⟨c1, c2, c3, Nat.le_trans c4 h1, c5⟩
  · have := a8 s hs
    unfold IEs at this ⊢
    rw [h5 (18 + s) (by omega) (by omega), h6 153 (by omega) (by omega), h6 154 (by omega) (by omega), h6 155 (by omega) (by omega), h6 156 (by omega) (by omega), h6 157 (by omega) (by omega)]
    exact this
theorem mTk_cg {y : Int32} {x b : Nat} (h : ∀ b, 164 ≤ b → b ≤ 167 → M' b = M b) (hb : 164 ≤ b ∧ b ≤ 167) : mTk M' n y x b = mTk M n y x b := by
  funext j
  unfold mTk
  rw [h 166 (by omega) (by omega), h 167 (by omega) (by omega), h 164 (by omega) (by omega), h b hb.1 hb.2]
theorem tk_rg {x : Int32} : (!decide (x < 1) && !decide (1000 < x)) = true ↔ ∃ a, 1 ≤ a ∧ a ≤ 1000 ∧ x = nI a := by
  simp only [Bool.and_eq_true, Bool.not_eq_true', decide_eq_false_iff_not]
  constructor
  · rintro ⟨h1, h2⟩
    refine ⟨x.toInt.toNat, ?_⟩
    simp only [ti_lt, ti_le, ti_eq, ti_nI, Int32.reduceToInt] at *
    omega
  · rintro ⟨a, h1, h2, rfl⟩
    simp only [ti_lt, ti_le, ti_nI, Int32.reduceToInt]
    omega
theorem call_tick {x1 : Int32} (hI : Inv n t st tm fv I J I J) (ht : t + 1000 ≤ 1000000) : callOk 75 129 [.int x1] [0, 1, 2] t L h z I J := by
  have hE := hI.1.1
  have n1 := hE.1
  have n2 := hE.2.2.2.1
  have hG := hI.1.2.2.2.1
  have e8 := hE.2.2.2.2.1
  have h115 : ∀ (b : Bool), (!decide (x1 < 1) && !decide (1000 < x1)) = b → ∀ (I : rI) (J : rJ) (h z : Nat), dP 115 [.int x1, .int 1, .int 1000] L h z I J (bb b) := fun b hb I J h z => by
    have := s115 (L := L) (h := h) (z := z) (I := I) (J := J) (v := x1) (a := 1) (b := 1000)
    rw [hb] at this
    exact this
  cases hb : (!decide (x1 < 1) && !decide (1000 < x1)) with
  | false =>
    refine call_bad (rv := some (.int 0)) (e := 0) (c := 1) hI ?_ ?_ (by decide) (by decide)
    · refine r75_0 ⟨fun _ => ⟨rfl, rfl⟩, fun c => ⟨fun c2 => ?_, fun _ => ⟨rfl, rfl⟩⟩⟩
      rw [decide_eq_false c, decide_eq_false (fun q => absurd c2 (nle.mpr q))] at hb
      cases hb
    · exact r129_0 ⟨_, h115 _ hb _ _ _ _, fun c => absurd rfl c, fun _ => ⟨_, _, _, s114t, fun _ => ⟨rfl, rfl⟩, fun c => absurd c (by decide)⟩⟩
  | true =>
  have h115 := h115 _ hb
  obtain ⟨a, ha1, ha2, rfl⟩ := tk_rg.mp hb
  have x1a : ¬ nI a < 1 := by
    rw [show (1 : Int32) = nI 1 from rfl, nI_ltI (by omega) (by omega)]; omega
  have x1b : nI a ≤ 1000 := (nI_leI (b := 1000) (by omega) (by omega)).mpr ha2
  rcases Inv_on hI with ⟨o1, o2⟩ | ⟨o1, o2⟩
  · refine call_bad (rv := some (.int 0)) (e := 1) (c := 2) hI ?_ ?_ (by decide) (by decide)
    · exact r75_0 ⟨fun c => absurd c x1a, fun _ => ⟨fun _ => Or.inr ⟨1, s100t o2, rfl, rfl⟩, fun c => absurd x1b c⟩⟩
    · refine r129_0 ⟨_, h115 _ _ _ _, fun _ => ⟨_, _, _, s114f, fun c => absurd rfl c, fun _ => ⟨fun c => absurd ?_ c, fun _ => ⟨_, _, _, s114t, fun c => absurd c (by decide), fun _ => ⟨rfl, ?_⟩⟩⟩⟩, fun c => absurd c (by decide)⟩
      · rw [u2_at, if_neg (by omega)]; exact o1
      · rw [u2_u2]
  have o10 : ¬ I 145 1 = 0 := by rw [o1]; decide
  generalize hy : nI (t + a) = y
  have ey : nI t + nI a = y := by rw [nI_add, hy]
  generalize hD : tot (fun g => cn (due I y g) n) 8 = D
  generalize hP : tot (fun g => cn (dsp I y g) n) 8 = P
  have hP128 : P ≤ 8 * 16 := by rw [← hP]; exact tot_le 8 (fun g hg => (due_le n1 (hG g hg)).2)
  have eSz : (32 : Int32) + 8 * nI P = nI (32 + 8 * P) := by
    rw [show (8 : Int32) = nI 8 from rfl, nI_mul, show (32 : Int32) = nI 32 from rfl, nI_add]
  generalize hS : 32 + 8 * P = S at eSz
  obtain ⟨b, hb1, hb2⟩ := hI.2.2.2.2.2.1
  have hbc : I 2 1 = nI b := hI.2.2.2.2.1.trans hb2
  -- the class up to its room
  have hc0 : ∀ (o : eO) (σo : eS), Run 75 44 [(0, .ref 1), (2, .int y), (3, .int (nI D)), (4, .int (nI P)), (5, .int (nI 8))] [] (mS L I J h z) o σo → Run 75 0 [(0, .ref 1), (1, .int (nI a))] [] (mS L I J h z) o σo := by
    intro o σo H
    refine r75_0 ⟨fun c => absurd c x1a, fun _ => ⟨fun _ => Or.inl ⟨s100 o2, ?_⟩, fun c => absurd x1b c⟩⟩
    rw [e8, ey]
    rw [← hD, ← hP] at H
    exact s75_loop n1 hG H 8 0 (by omega)
  -- the model up to its record
  have hm0 : ∀ (Ic : rI) (h z : Nat) (o : eO) (σo : eS), frM I J Ic J → (100000 < b + S → o = .inl (some (.int 0)) ∧ σo = mS L (u2 Ic 145 0 2) J h z) → (¬ 100000 < b + S → (lsC I (nI S) = false → ∃ I4 : rI, Den 119 [.ref 145, .int 3] (mS L (wsM (u2 Ic 145 0 0) (nI S)) J h z) (.inl none) (mS L I4 J h z) ∧ o = .inl (some (.int (nI D))) ∧ σo = mS L I4 J h z) ∧ (lsC I (nI S) = true → Run 129 195 [(0, .ref 145), (2, .int (nI D)), (4, .int (nI 0))] [] (mS L (u2 (wsM (u2 Ic 145 0 0) (nI S)) 145 2 y) J h z) o σo)) → Run 129 0 [(0, .ref 145), (1, .int (nI a))] [] (mS L Ic J h z) o σo := by
    intro Ic h z o σo hfr H1 H2
    have q : ∀ j, ¬ j = 0 → u2 Ic 145 0 0 145 j = I 145 j := fun j hj => by rw [u2_at, if_neg (fun k => hj k.2), (hfr 145 (by omega)).1]
    have q2 : ∀ b, 145 < b → u2 Ic 145 0 0 b = I b := fun b hb => by rw [u2_ne (by omega), (hfr b (by omega)).1]
    have e2 : u2 Ic 145 0 0 145 2 = nI t := by rw [q 2 (by omega)]; exact hE.2.2.2.2.2.1
    have d1 : tot (fun g => cn (due (u2 Ic 145 0 0) y g) n) 8 = D := by
      rw [← hD]; refine tot_congr 8 (fun g _ => cn_congr (fun e _ => ?_)); unfold due; rw [q2 166 (by omega)]
    have d2 : tot (fun g => cn (dsp (u2 Ic 145 0 0) y g) n) 8 = P := by
      rw [← hP]; refine tot_congr 8 (fun g _ => cn_congr (fun e _ => ?_)); unfold dsp due spt; rw [q2 166 (by omega), q2 167 (by omega), q2 164 (by omega)]
    refine r129_0 ⟨_, h115 _ _ _ _, fun _ => ⟨_, _, _, s114f, fun c => absurd rfl c, fun _ => ⟨fun _ => ⟨_, _, _, s114f, fun _ => ?_, fun c => absurd rfl c⟩, fun c => absurd c (by rw [q 1 (by omega)]; exact o10)⟩⟩, fun c => absurd c (by decide)⟩
    rw [u2_u2]
    refine s129_out (y := y) n1 (by rw [q 13 (by omega)]; exact n2) (by rw [e2]; exact ey) ?_ 8 0 (by omega)
    rw [d1, d2]
    refine r129_53 ⟨fun _ => ?_, fun c => absurd (by decide) c⟩
    rw [eSz]
    refine ⟨_, s117r (k := S) (b := b) (by rw [q 3 (by omega)]; exact hb2) hb1 (by omega), _, _, _, s114, fun c => ?_, fun c => ?_⟩
    · have c := b_eq.mp c
      rw [c]
      have hr : ¬ 100000 < b + S := by simpa using c
      obtain ⟨G1, G2⟩ := H2 hr
      have hl := (wprep (k := S) hI o1 hb2 (by omega) (by omega) hfr).2.2.2.1
      rw [if_neg (by decide), u2_u2]
      refine ⟨_, _, _, s118, fun c3 => ?_, fun c3 => ?_⟩
      · obtain ⟨I4, g1, g2, g3⟩ := G1 (hl.trans (b_eq.mp c3))
        exact ⟨_, _, g1, g2, g3⟩
      · rw [show wsM (u2 Ic 145 0 0) (nI S) 145 2 + nI a = y by rw [wsM_145 (by omega), e2, ey]]
        exact G2 (hl.trans (b_ne.mp c3))
    · have c := b_ne.mp c
      rw [c]
      have hr : 100000 < b + S := by simpa using c
      obtain ⟨G1, G2⟩ := H1 hr
      rw [u2_u2, if_pos rfl]
      exact ⟨G1, G2⟩
  by_cases hr : b + S ≤ 100000
  case neg =>
    refine call_bad (rv := some (.int 0)) (e := 1) (c := 2) hI (hc0 _ _ (r75_44 ⟨fun _ => ?_, fun c => absurd (by decide) c⟩)) (hm0 _ _ _ _ _ frM_rfl (fun _ => ⟨rfl, rfl⟩) (fun c => absurd (by omega) c)) (by decide) (by decide)
    rw [eSz]
    exact Or.inr ⟨1, s101rt (k := S) hbc hb1 (by omega) hr, rfl, rfl⟩
  have hrn : ¬ 100000 < b + S := by omega
  have k101 := s101r (L := L) (h := h) (z := z) (J := J) (k := S) hbc hb1 hr
  have k2 := s2 (L := L) (h := h) (z := z) (I := I) (J := J) (x := nI S)
  cases hl : lsC I (nI S) with
  | false =>
    rw [hl] at k2
    have hfr : frM I J (epC (I 145 5) (wsC I (nI S))) J := fun b hb => ⟨by rw [epC_m hb, wsC_ne (by omega)], rfl⟩
    obtain ⟨hC, hH, hK, -, hp⟩ := wprep (k := S) hI o1 hb2 (by omega) hr hfr
    have hp := hp hl
    refine call_w (n' := n) (t' := t) (st' := st) (tm' := tm) (fv' := fv) (v := none) (c := 3) hC hH hK (fun k => absurd k hp) (fun _ => ?_) (fun h z => ?_) (fun b hb => ?_) (fun _ _ _ => rfl) (wsC_ne (by omega)) (by omega) (by decide) (by decide)
    · refine hc0 _ _ (r75_44 ⟨fun _ => ?_, fun c => absurd (by decide) c⟩)
      rw [eSz]
      exact Or.inl ⟨k101, _, _, _, k2, fun _ => Or.inr ⟨2, _, _, s104t (hK.2.1.trans (if_neg hp)), rfl, rfl⟩, fun c => absurd rfl c⟩
    · exact ⟨_, hm0 _ _ _ _ _ hfr (fun c => absurd c hrn) (fun _ => ⟨fun _ => ⟨_, s119e hK, rfl, rfl⟩, fun c => absurd (hl.symm.trans c) (by decide)⟩), fun k => absurd k hp⟩
    · rw [wsM_ne (by omega), u2_ne (by omega)]
  | true =>
    rw [hl] at k2
    have hGw : IG n (wsC I (nI S)) I := IG_fr hG (fun b q1 q2 => wsC_ne (by omega)) (fun _ _ _ => rfl) (fun _ _ => rfl)
    obtain ⟨Ig, g1, g2, g3⟩ := s106_g (L := L) (h := h) (z := z) (J := J) (y := y) n1 hGw 8 0 (wsC I (nI S)) (by omega) (fun g hg => absurd hg (by omega)) (fun b hb => rfl)
    have hEq : IE n (t + a) st tm fv (u2 Ig 10 8 y) J (u2 I 145 2 y) J := by
      refine IE_time hE (by omega) (by omega) ?_ ?_ (fun b q1 q2 => ?_) (fun b q1 q2 => u2_ne (by omega)) ?_ ?_
      · rw [u2_at, if_neg (by omega), g3 10 (by omega), wsC_ne (by omega)]
      · rw [u2_at, if_pos ⟨rfl, rfl⟩, hy]
      · rw [u2_ne (by omega), g3 b (by omega), wsC_ne (by omega)]
      · rw [u2_at, if_neg (by omega)]
      · rw [u2_at, if_pos ⟨rfl, rfl⟩, hy]
    obtain ⟨I3, fv3, w1, w2, w3, w4, w5⟩ := s106_s (L := L) (h := h) (z := z) (J := J) (IE_CV hEq) 40 0 (u2 Ig 10 8 y) fv (by omega) (IE_CV hEq) (fun _ _ _ => rfl) (fun e he hse => absurd hse (by omega)) (fun _ _ => rfl) (fun _ _ _ _ => rfl)
    have i3 : ∀ b, b < 65 ∨ 105 ≤ b → ¬ b = 10 → ¬ (18 ≤ b ∧ b < 58) → I3 b = wsC I (nI S) b := fun b q1 q3 q4 => by rw [w4 b (by omega), u2_ne q3, g3 b q1]
    have hfr : frM I J (epC (I 145 5) I3) J := fun b hb => ⟨by rw [epC_m hb, i3 b (by omega) (by omega) (by omega), wsC_ne (by omega)], rfl⟩
    obtain ⟨hC0, hH0, hK0, -, -⟩ := wprep (k := S) hI o1 hb2 (by omega) hr hfr
    have hM2 : ∀ b, 145 < b → wsM (u2 (epC (I 145 5) I3) 145 0 0) (nI S) b = I b := fun b hb => by rw [wsM_ne (by omega), u2_ne (by omega), (hfr b (by omega)).1]
    generalize hMw : wsM (u2 (epC (I 145 5) I3) 145 0 0) (nI S) = Mw at hC0 hH0 hK0 hM2
    have hE1 : IE n (t + a) st tm fv (u2 Ig 10 8 y) J (mTk (u2 Mw 145 2 y) n y 20000) J := by
      refine IE_time hC0.1 (by omega) (by omega) ?_ ?_ (fun b q1 q2 => ?_) (fun b q1 q2 => ?_) ?_ ?_
      · rw [u2_at, if_neg (by omega), g3 10 (by omega)]
      · rw [u2_at, if_pos ⟨rfl, rfl⟩, hy]
      · rw [u2_ne (by omega), g3 b (by omega)]
      · rw [mTk_ne (by omega) (by omega), u2_ne (by omega)]
      · rw [mTk_ne (by omega) (by omega), u2_at, if_neg (by omega)]
      · rw [mTk_ne (by omega) (by omega), u2_at, if_pos ⟨rfl, rfl⟩, hy]
    have hE3 := IE_hide (I' := I3) (fv' := fv3) hE1 (fun b q1 q2 => w4 b (by omega)) (fun s hs => ⟨fun j hj => w5 s hs j (by omega), (w2.2.2.2.2.2 s hs).2.1, (w2.2.2.2.2.2 s hs).2.2.1⟩) (fun e he => by rw [w3 e he, hideK_C hE1 (hE1.2.2.2.2.2.2.2.1 e he).1])
    have m3 : ∀ b, 145 < b → ¬ b = 152 → ¬ b = 165 → ¬ b = 166 → mHd st (mTk (u2 Mw 145 2 y) n y 20000) n b = Mw b := fun b q1 q2 q3 q4 => by rw [mHd_ne q2, mTk_ne q3 q4, u2_ne (by omega)]
    have m145 : ∀ j, ¬ j = 2 → mHd st (mTk (u2 Mw 145 2 y) n y 20000) n 145 j = Mw 145 j := fun j hj => by rw [mHd_ne (by omega), mTk_ne (by omega) (by omega), u2_at, if_neg (fun q => hj q.2)]
    have hC3 : InvC n (t + a) st tm fv3 I3 J (mHd st (mTk (u2 Mw 145 2 y) n y 20000) n) J := by
      refine ⟨hE3.1, ID_fr hC0.2.1 ?_ (fun b q1 q2 => i3 b (by omega) (by omega) (by omega)) ⟨m3 158 (by omega) (by omega) (by omega) (by omega), m3 159 (by omega) (by omega) (by omega) (by omega)⟩ (m145 22 (by omega)) rfl rfl,
        IP_fr hC0.2.2.1 ?_ (fun b q1 q2 => i3 b (by omega) (by omega) (by omega)) ⟨m3 168 (by omega) (by omega) (by omega) (by omega), m3 169 (by omega) (by omega) (by omega) (by omega)⟩ (m145 32 (by omega)),
        IG_fr g2 (fun b q1 q2 => ?_) (fun b q1 q2 => ?_) (fun e he => ?_),
        IJ_fr hC0.2.2.2.2 (fun b q1 q2 => i3 b (by omega) (by omega) (by omega)) (fun b q1 q2 => m3 b (by omega) (by omega) (by omega) (by omega)) (fun b q1 q2 => rfl) rfl⟩
      · rw [i3 3 (by omega) (by omega) (by omega)]
      · rw [i3 7 (by omega) (by omega) (by omega)]
      · rw [w4 b (by omega), u2_ne (by omega)]
      · rw [mHd_ne (by omega)]
        by_cases c : 164 ≤ b
        · exact mTk_cg (fun b q1 q2 => by rw [u2_ne (by omega), hM2 b (by omega)]) ⟨c, q2⟩
        · rw [mTk_ne (by omega) (by omega), mTk_ne (by omega) (by omega), u2_ne (by omega), hM2 b (by omega)]
      · rw [m3 146 (by omega) (by omega) (by omega) (by omega), mTk_ne (by omega) (by omega), hM2 146 (by omega)]
    have hK3 : IKm (I 145 5) I3 (mHd st (mTk (u2 Mw 145 2 y) n y 20000) n) :=
      IKm_fr hK0 (i3 2 (by omega) (by omega) (by omega)) (m145 1 (by omega)) (m145 3 (by omega)) (m145 4 (by omega)) (m145 5 (by omega)) (m145 43 (by omega))
    have hcl : ∀ (o : eO) (σo : eS), _ → Run 75 0 [(0, .ref 1), (1, .int (nI a))] [] (mS L I J h z) o σo := fun o σo H => hc0 o σo (r75_44 ⟨fun _ => Or.inl ⟨by rw [eSz]; exact k101, _, _, _, by rw [eSz]; exact k2, fun c => absurd c (by decide), fun _ => ⟨_, _, r106_0 (g1 _ _ w1), H⟩⟩, fun c => absurd (by decide) c⟩)
    refine call_w (n' := n) (t' := t + a) (st' := st) (tm' := tm) (fv' := fv3) (v := some (.int (nI D))) (c := 3) hC3 hE3.2 hK3 (fun hp => ?_) (fun hp => ?_) (fun h z => ?_) (fun b hb => ?_) (fun _ _ _ => rfl) ?_ (by omega) (by decide) (by decide)
    · exact hcl _ _ (Or.inl ⟨_, _, s104 (hK3.2.1.trans (if_pos hp)), rfl, rfl⟩)
    · exact hcl _ _ (Or.inr ⟨2, _, _, s104t (hK3.2.1.trans (if_neg hp)), rfl, rfl⟩)
    · refine ⟨_, hm0 _ _ _ _ _ hfr (fun c => absurd c hrn) (fun _ => ⟨fun c => absurd (hl.symm.trans c) (by decide), fun _ => ?_⟩), fun _ => rfl⟩
      rw [hMw]
      have h13 : u2 Mw 145 2 y 145 13 = nI n := by rw [u2_at, if_neg (by omega)]; exact hC0.1.2.2.2.1
      have hx := s129_out2 (L := L) (h := h) (z := z) (J := J) (M := u2 Mw 145 2 y) (n := n) (y := y) (x2 := nI D) (o := .inl (some (.int (nI D)))) (σo := mS L (epM (I 145 5) 3 (mHd st (mTk (u2 Mw 145 2 y) n y 20000) n)) J h z) n1 h13 (by rw [u2_at, if_pos ⟨rfl, rfl⟩]) (r129_195 ⟨fun _ => ⟨_, _, s120 (st := st) n1 (by rw [mTk_ne (by omega) (by omega)]; exact h13) (fun e he => ⟨(hE1.2.2.2.2.2.2.2.1 e he).1, (hE1.2.2.2.2.2.2.2.1 e he).2.1⟩), _, _, s119e hK3, rfl, rfl⟩, fun c => absurd (by decide) c⟩) 8 0 (by omega)
      rw [show 2500 * 0 = 0 from rfl, mTk_0] at hx
      exact hx
    · rw [mHd_ne (by omega), mTk_ne (by omega) (by omega), u2_ne (by omega), ← hMw, wsM_ne (by omega), u2_ne (by omega)]
    · rw [i3 0 (by omega) (by omega) (by omega), wsC_ne (by omega)]
end
