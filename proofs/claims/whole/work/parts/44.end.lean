/-! end. -/
section
variable {L h z n t : Nat} {st tm fv fv' : Nat → Nat} {I I' M M' : rI} {J K J' K' : rJ}
/-- what stands when a record of k bytes is written (Ic: the ints behind the class's call) -/
theorem wprep {k b : Nat} {Ic : rI} {J' : rJ} (hI : Inv n t st tm fv I J I J) (o1 : I 145 1 = 1) (hb2 : I 145 3 = nI b) (hk : 0 < k) (hr : b + k ≤ 100000) (hfr : frM I J Ic J') :
    InvC n t st tm fv (wsC I (nI k)) J (wsM (u2 Ic 145 0 0) (nI k)) J' ∧ HC (fun _ => True) n st fv (wsM (u2 Ic 145 0 0) (nI k)) ∧ IKm (I 145 5) (wsC I (nI k)) (wsM (u2 Ic 145 0 0) (nI k)) ∧ lsC I (nI k) = lsM (u2 Ic 145 0 0) (nI k) ∧ (lsC I (nI k) = false → ¬ I 145 5 = -1) := by
  have H0 : Inv n t st tm fv I J (u2 Ic 145 0 0) J' := Inv_t0 (Inv_cg hI frC_rfl hfr) (Or.inl rfl)
  have q : ∀ j, ¬ j = 0 → u2 Ic 145 0 0 145 j = I 145 j := fun j hj => by rw [u2_at, if_neg (fun k => hj k.2), (hfr 145 (by omega)).1]
  have := IK_ws (x := nI k) (b := b + k) H0.2.2 (by rw [q 1 (by omega)]; exact o1) ((nI_ltI (a := 0) (by omega) (by omega)).mpr hk) (by rw [q 3 (by omega), hb2, nI_add]) hr
  rw [q 5 (by omega)] at this
  exact ⟨InvC_ws H0.1, HC_ws H0.2.1, this.1, this.2.1, fun k => this.2.2 (this.2.1.symm.trans k)⟩
theorem s117r {k b : Nat} (hb : I 145 3 = nI b) (h1 : b ≤ 100000) (hk : k ≤ 1000000) : dP 117 [.ref 145, .int (nI k)] L h z I J (bb (decide (100000 < b + k))) := by
  have := s117 (L := L) (h := h) (z := z) (I := I) (J := J) (x := nI k)
  rw [hb] at this
  have e := (room h1 hk).2
  rw [show (!decide (nI b + nI k ≤ 100000)) = decide (100000 < b + k) by rw [Bool.eq_iff_iff]; simp only [e, Bool.not_eq_true', decide_eq_false_iff_not, decide_eq_true_eq]; omega] at this
  exact this
theorem s101r {k b : Nat} (hb : I 2 1 = nI b) (h1 : b ≤ 100000) (hk : b + k ≤ 100000) : dN 101 [.ref 1, .int (nI k)] L h z I J :=
  s101 (by rw [hb]; exact fun q => absurd ((room h1 (by omega)).1.mp q) (by omega))
theorem s101rt {k b : Nat} (hb : I 2 1 = nI b) (h1 : b ≤ 100000) (hk0 : k ≤ 1000000) (hk : ¬ b + k ≤ 100000) : dT 101 [.ref 1, .int (nI k)] L h z I J 1 I J :=
  s101t (by rw [hb]; exact (room h1 hk0).1.mpr (by omega))
theorem call_end {x1 : Int32} (hI : Inv n t st tm fv I J I J) : callOk 74 128 [.int x1] [0, 1, 2] t L h z I J := by
  have hE := hI.1.1
  have n1 := hE.1
  have n2 := hE.2.2.2.1
  have h91 := s91 (L := L) (h := h) (z := z) (I := I) (J := J) (x := x1)
  cases h1 : rg x1 32 with
  | false =>
    rw [h1] at h91
    refine call_bad (rv := some (.int 0)) (e := 0) (c := 1) hI (r74_0 ⟨_, h91, fun c => absurd rfl c, fun _ => ⟨rfl, rfl⟩⟩) (r128_0 ⟨_, s115r h1 (by omega) (by omega) (by decide), fun c => absurd rfl c, fun _ => ?_⟩) (by decide) (by decide)
    exact r128_16 ⟨_, _, _, s114t, fun _ => ⟨rfl, rfl⟩, fun c => absurd c (by decide)⟩
  | true =>
  rw [h1] at h91
  obtain ⟨s, hs32, rfl⟩ := (rg_t (by omega)).mp h1
  have hs : s < 40 := by omega
  have hvs : vp_in (nI s) 40 := vp_in_nI hs (by omega)
  have hcs := cl s (by omega)
  obtain ⟨c1, c2, c3, c4, c5, c6, c7, c8, c9, c10, c11, c12⟩ := hE.2.2.2.2.2.2.2.2 s hs
  have hc0 : ∀ (o : eO) (σo : eS), ((Den 102 [.ref 1, .int (nI s)] (mS L I J h z) (.inr 1) (mS L I J (h + 1) (z + 6)) ∧ o = .inr 1 ∧ σo = mS L I J (h + 1) (z + 6)) ∨ (Den 102 [.ref 1, .int (nI s)] (mS L I J h z) (.inl none) (mS L I J h z) ∧ Den 101 [.ref 1, .int 32] (mS L I J h z) (.inr 1) (mS L I J (h + 1) (z + 6)) ∧ o = .inr 1 ∧ σo = mS L I J (h + 1) (z + 6))) → Run 74 0 [(0, .ref 1), (1, .int (nI s))] [] (mS L I J h z) o σo := by
    rintro o σo (⟨k1, k2, k3⟩ | ⟨k1, k2, k3, k4⟩)
    · exact r74_0 ⟨_, h91, fun _ => Or.inr ⟨1, k1, k2, k3⟩, fun c => absurd c (by decide)⟩
    · exact r74_0 ⟨_, h91, fun _ => Or.inl ⟨k1, Or.inr ⟨1, k2, k3, k4⟩⟩, fun c => absurd c (by decide)⟩
  have hm00 : ∀ (I' : rI) (J' : rJ) (h z : Nat) (o : eO) (σo : eS), Run 128 54 [(0, .ref 145), (1, .int (nI s))] [.int (bb (decide (I 145 1 = 0) || !decide (I 157 s = 0) || decide (100000 < (I 145 3).toNatClampNeg + 32))), .ref 145] (mS L (u2 I' 145 0 0) J' h z) o σo → frM I J I' J' → Run 128 0 [(0, .ref 145), (1, .int (nI s))] [] (mS L I' J' h z) o σo := by
    intro I' J' h z o σo H hfr
    obtain ⟨b, hb, hb2⟩ := hI.2.2.2.2.2.1
    have q : ∀ j, ¬ j = 0 → u2 I' 145 0 0 145 j = I 145 j := fun j hj => by rw [u2_at, if_neg (fun k => hj k.2), (hfr 145 (by omega)).1]
    have q2 : ∀ b, 145 < b → u2 I' 145 0 0 b = I b := fun b hb => by rw [u2_ne (by omega), (hfr b (by omega)).1]
    rw [hb2, cl b (by omega)] at H
    refine r128_0 ⟨_, s115r h1 (by omega) (by omega) (by decide), fun _ => ?_, fun c => absurd c (by decide)⟩
    refine r128_16 ⟨_, _, _, s114f, fun c => absurd rfl c, fun _ => ⟨fun c => ?_, fun c => ⟨hvs, fun c2 => ?_, fun c2 => ⟨_, s117r (k := 32) (b := b) (by rw [q 3 (by omega)]; exact hb2) hb (by omega), fun c3 => ?_, fun c3 => ?_⟩⟩⟩⟩
    · rw [q 1 (by omega)] at c
      rw [decide_eq_true c] at H; exact H
    all_goals rw [q 1 (by omega)] at c
    all_goals rw [hcs, q2 157 (by omega)] at c2
    · rw [decide_eq_false c, decide_eq_false c2] at H; exact H
    · rw [decide_eq_false c, decide_eq_true c2, b_eq.mp c3] at H; exact H
    · rw [decide_eq_false c, decide_eq_true c2, b_ne.mp c3] at H; exact H
  have h54t : ∀ (I' : rI) (J' : rJ) (h z : Nat), Run 128 54 [(0, .ref 145), (1, .int (nI s))] [.int 1, .ref 145] (mS L (u2 I' 145 0 0) J' h z) (.inl (some (.int 0))) (mS L (u2 I' 145 0 2) J' h z) := by
    intro I' J' h z
    refine r128_54 ⟨_, _, _, s114t, fun c => absurd c (by decide), fun _ => ⟨rfl, ?_⟩⟩
    rw [u2_u2]
  obtain ⟨b, hb, hb2⟩ := hI.2.2.2.2.2.1
  have hb1 : I 2 1 = nI b := hI.2.2.2.2.1.trans hb2
  have hbc : (I 145 3).toNatClampNeg = b := by rw [hb2, cl b (by omega)]
  rcases Inv_on hI with ⟨o1, o2⟩ | ⟨o1, o2⟩
  · refine call_bad (rv := some (.int 0)) (e := 1) (c := 2) hI (hc0 _ _ (Or.inl ⟨s102t hs (Or.inl o2), rfl, rfl⟩)) (hm00 _ _ _ _ _ _ ?_ frM_rfl) (by decide) (by decide)
    rw [decide_eq_true o1]; exact h54t _ _ _ _
  have o10 : ¬ I 145 1 = 0 := by rw [o1]; decide
  by_cases hen : I 157 s = 0
  case neg =>
    refine call_bad (rv := some (.int 0)) (e := 1) (c := 2) hI (hc0 _ _ (Or.inl ⟨s102t hs (Or.inr ⟨o2, by rw [c6]; exact hen⟩), rfl, rfl⟩)) (hm00 _ _ _ _ _ _ ?_ frM_rfl) (by decide) (by decide)
    rw [decide_eq_false o10, decide_eq_false hen]; exact h54t _ _ _ _
  have k102 := s102 (L := L) (h := h) (z := z) (J := J) hs o2 (c6.trans hen)
  by_cases hr : b + 32 ≤ 100000
  case neg =>
    refine call_bad (rv := some (.int 0)) (e := 1) (c := 2) hI (hc0 _ _ (Or.inr ⟨k102, s101rt (k := 32) hb1 hb (by omega) hr, rfl, rfl⟩)) (hm00 _ _ _ _ _ _ ?_ frM_rfl) (by decide) (by decide)
    rw [decide_eq_false o10, decide_eq_true hen, hbc, decide_eq_true (show 100000 < b + 32 by omega)]; exact h54t _ _ _ _
  have k101 := s101r (L := L) (h := h) (z := z) (J := J) hb1 hb hr
  have k2 := s2 (L := L) (h := h) (z := z) (I := I) (J := J) (x := 32)
  have k15 := s15 (L := L) (h := h) (z := z) (I := I) (J := J) (s := nI s) (f := 0) (IE_CW hE) (by omega)
  have hmd : ∀ (Ic : rI) (h z : Nat) (o : eO) (σo : eS), frM I J Ic J → ((lsC I 32 = false → Run 128 89 [(0, .ref 145), (2, .int (nI (cn (cfr I (nI s) 0) n)))] [] (mS L (wsM (u2 Ic 145 0 0) 32) J h z) o σo) ∧ (lsC I 32 = true → Run 128 89 [(0, .ref 145), (2, .int (nI (cn (cfr I (nI s) 0) n)))] [] (mS L (mHd st (u2 (wsM (u2 Ic 145 0 0) 32) 157 s 1) n) J h z) o σo)) → Run 128 0 [(0, .ref 145), (1, .int (nI s))] [] (mS L Ic J h z) o σo := by
    intro Ic h z o σo hfr H
    have hl := (wprep (k := 32) hI o1 hb2 (by omega) hr hfr).2.2.2.1
    have q : ∀ j, ¬ j = 0 → u2 Ic 145 0 0 145 j = I 145 j := fun j hj => by rw [u2_at, if_neg (fun k => hj k.2), (hfr 145 (by omega)).1]
    have q2 : ∀ b, 145 < b → u2 Ic 145 0 0 b = I b := fun b hb => by rw [u2_ne (by omega), (hfr b (by omega)).1]
    refine hm00 _ _ _ _ _ _ ?_ hfr
    rw [decide_eq_false o10, decide_eq_true hen, hbc, decide_eq_false (show ¬ 100000 < b + 32 by omega)]
    refine r128_54 ⟨_, _, _, s114f, fun _ => ⟨_, s126 (x := nI s) n1 (by rw [u2_u2, q 13 (by omega)]; exact n2), _, _, _, s118, fun c => ?_, fun c => ⟨hvs, _, _, s120 (n := n) (st := st) n1 ?_ (fun e he => ⟨(hE.2.2.2.2.2.2.2.1 e he).1, ?_⟩), ?_⟩⟩, fun c => absurd rfl c⟩
    · have e : cn (mvs (u2 (u2 Ic 145 0 0) 145 0 0) (nI s)) n = cn (cfr I (nI s) 0) n := by
        rw [u2_u2, cnt_vis (M := u2 Ic 145 0 0) (K := J) (IE_t0 (Inv_cg hI frC_rfl hfr).1.1 (Or.inl rfl)) (Or.inr (by rw [rg_w (by omega) (by omega)]; exact decide_eq_true hs))]
      rw [e]
      rw [u2_u2] at c ⊢
      exact H.1 (hl.trans (b_eq.mp c))
    · rw [u2_u2, u2_ne (by omega), wsM_145 (by omega), q 13 (by omega)]; exact n2
    · rw [u2_u2, u2_ne (by omega), wsM_ne (by omega), q2 146 (by omega)]; exact (hE.2.2.2.2.2.2.2.1 e he).2.1
    · have e : cn (mvs (u2 (u2 Ic 145 0 0) 145 0 0) (nI s)) n = cn (cfr I (nI s) 0) n := by
        rw [u2_u2, cnt_vis (M := u2 Ic 145 0 0) (K := J) (IE_t0 (Inv_cg hI frC_rfl hfr).1.1 (Or.inl rfl)) (Or.inr (by rw [rg_w (by omega) (by omega)]; exact decide_eq_true hs))]
      rw [e]
      rw [u2_u2] at c ⊢
      rw [hcs]
      exact H.2 (hl.trans (b_ne.mp c))
  cases hl : lsC I 32 with
  | false =>
    rw [hl] at k2
    have hfr : frM I J (epC (I 145 5) (wsC I 32)) J := fun b hb => ⟨by rw [epC_m hb, wsC_ne (by omega)], rfl⟩
    obtain ⟨hC, hH, hK, -, hp⟩ := wprep (k := 32) hI o1 hb2 (by omega) hr hfr
    have hp := hp hl
    refine call_w (n' := n) (t' := t) (st' := st) (tm' := tm) (fv' := fv) (v := none) (c := 3) hC hH hK (fun k => absurd k hp) (fun _ => ?_) (fun h z => ?_) (fun b hb => ?_) (fun _ _ _ => rfl) (wsC_ne (by omega)) (by omega) (by decide) (by decide)
    · refine r74_0 ⟨_, h91, fun _ => Or.inl ⟨k102, Or.inl ⟨k101, _, k15, _, _, _, k2, fun _ => Or.inr ⟨2, _, _, s104t ?_, rfl, rfl⟩, fun c => absurd rfl c⟩⟩, fun c => absurd c (by decide)⟩
      exact hK.2.1.trans (if_neg hp)
    · exact ⟨_, hmd _ _ _ _ _ hfr ⟨fun _ => r128_89 ⟨_, _, s119e hK, rfl, rfl⟩, fun c => absurd (hl.symm.trans c) (by decide)⟩, fun k => absurd k hp⟩
    · rw [wsM_ne (by omega), u2_ne (by omega)]; rfl
  | true =>
    rw [hl] at k2
    have hCV0 : CV n t st tm fv (wsC I 32) := IE_CV (InvC_ws (x := 32) (M := I) (K := J) hI.1).1
    obtain ⟨v1, v2, v3, v4, v5⟩ := hCV0.2.2.2.2.2 s hs
    have hCV : CV n t st tm fv (u2 (wsC I 32) (18 + s) 4 1) := by
      refine CV_S hs hCV0 (fun b q1 q2 q3 => by rw [u2_ne q3]) ⟨?_, ?_⟩ ⟨?_, ?_, ?_⟩ <;> simp [u2_at, v4, v5]
    obtain ⟨g, k24, g1, g2, g3⟩ := s24 (L := L) (h := h) (z := z) (J := J) hs hCV
    have hfr : frM I J (epC (I 145 5) (u2 (u2 (wsC I 32) (18 + s) 4 1) (18 + s) 5 (nI g))) J := fun b hb => ⟨by rw [epC_m hb, u2_ne (by omega), u2_ne (by omega), wsC_ne (by omega)], rfl⟩
    obtain ⟨hC0, hH0, hK0, -, -⟩ := wprep (k := 32) hI o1 hb2 (by omega) hr hfr
    generalize hMw : wsM (u2 (epC (I 145 5) (u2 (u2 (wsC I 32) (18 + s) 4 1) (18 + s) 5 (nI g))) 145 0 0) (nI 32) = Mw at hK0 hC0 hH0
    have hS := IE_S (I' := u2 (wsC I 32) (18 + s) 4 1) (M' := u2 Mw 157 s 1) hs hC0.1 (fun b q1 q2 q3 => by rw [u2_ne q3]; rfl) (by constructor <;> (rw [u2_at, if_neg (by omega)]; rfl)) (fun b q1 q2 => by rw [u2_ne (by omega)])
      (fun b i q1 q2 q3 => by simp [u2_at, q3]) (by constructor <;> simp [u2_at]) (by
        obtain ⟨e1, e2, e3, e4, e5, e6, e7, e8, e9, e10, e11, e12⟩ := hC0.1.2.2.2.2.2.2.2.2 s hs
        rw [show wsC I (nI 32) = wsC I 32 from rfl] at e1 e3 e4 e5 e6
        refine ⟨?_, ?_, ?_, ?_, ?_, ?_, ?_, ?_⟩ <;> simp [u2_at, e3, e4, e5, e7, e8, e9, bI]) hH0
    have hE3 := IE_hide1 hS.1 hS.2 hs g2 g3
    have hC3 : InvC n t st tm (updn fv s g) (u2 (u2 (wsC I 32) (18 + s) 4 1) (18 + s) 5 (nI g)) J (mHd st (u2 Mw 157 s 1) n) J := by
      refine InvC_E hC0 hE3.1 (fun b q1 q2 q3 => ⟨by rw [u2_ne (by omega), u2_ne (by omega)]; rfl, rfl⟩) (fun b q1 => ⟨by rw [mHd_ne (by omega), u2_ne (by omega)], rfl⟩) (fun j hj => by rw [mHd_ne (by omega), u2_ne (by omega)]) (fun e he => by rw [mHd_ne (by omega), u2_ne (by omega)])
    have hK3 : IKm (I 145 5) (u2 (u2 (wsC I 32) (18 + s) 4 1) (18 + s) 5 (nI g)) (mHd st (u2 Mw 157 s 1) n) := by
      have e : mHd st (u2 Mw 157 s 1) n 145 = Mw 145 := by rw [mHd_ne (by omega), u2_ne (by omega)]
      exact IKm_fr hK0 (by rw [u2_ne (by omega), u2_ne (by omega)]; rfl) (by rw [e]) (by rw [e]) (by rw [e]) (by rw [e]) (by rw [e])
    refine call_w (n' := n) (t' := t) (st' := st) (tm' := tm) (fv' := updn fv s g) (v := some (.int (nI (cn (cfr I (nI s) 0) n)))) (c := 3) hC3 hE3.2 hK3 (fun hp => ?_) (fun hp => ?_) (fun h z => ?_) (fun b hb => ?_) (fun _ _ _ => rfl) ?_ (by omega) (by decide) (by decide)
    · refine r74_0 ⟨_, h91, fun _ => Or.inl ⟨k102, Or.inl ⟨k101, _, k15, _, _, _, k2, fun c => absurd c (by decide), fun _ => ⟨hvs, ?_⟩⟩⟩, fun c => absurd c (by decide)⟩
      rw [hcs, R0_17 hs]
      exact ⟨_, _, k24, Or.inl ⟨_, _, s104 (by rw [hK3.2.1, if_pos hp]), rfl, rfl⟩⟩
    · refine r74_0 ⟨_, h91, fun _ => Or.inl ⟨k102, Or.inl ⟨k101, _, k15, _, _, _, k2, fun c => absurd c (by decide), fun _ => ⟨hvs, ?_⟩⟩⟩, fun c => absurd c (by decide)⟩
      rw [hcs, R0_17 hs]
      exact ⟨_, _, k24, Or.inr ⟨2, _, _, s104t (by rw [hK3.2.1, if_neg hp]), rfl, rfl⟩⟩
    · refine ⟨_, hmd _ _ _ _ _ hfr ⟨fun c => absurd (hl.symm.trans c) (by decide), fun _ => ?_⟩, fun _ => rfl⟩
      rw [show wsM (u2 (epC (I 145 5) (u2 (u2 (wsC I 32) (18 + s) 4 1) (18 + s) 5 (nI g))) 145 0 0) 32 = Mw from hMw]
      exact r128_89 ⟨_, _, s119e hK3, rfl, rfl⟩
    · rw [mHd_ne (by omega), u2_ne (by omega), ← hMw, wsM_ne (by omega), u2_ne (by omega)]
    · rw [u2_ne (by omega), u2_ne (by omega), wsC_ne (by omega)]
end
