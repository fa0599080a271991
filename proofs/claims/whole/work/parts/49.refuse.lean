/-! refuse. -/
section
variable {L h z n t : Nat} {st tm fv fv' : Nat → Nat} {I I' M M' : rI} {J K J' K' : rJ}
theorem call_refuse {x1 x2 : Int32} (hI : Inv n t st tm fv I J I J) : callOk 81 139 [.int x1, .int x2] [3, 1, 2] t L h z I J := by
  have hE := hI.1.1
  have n1 := hE.1
  have n2 := hE.2.2.2.1
  rcases Inv_on hI with ⟨o1, o2⟩ | ⟨o1, o2⟩
  · refine call_bad (rv := some (.int 0)) (e := 1) (c := 2) hI ?_ ?_ (by decide) (by decide)
    · exact r81_0 (Or.inr ⟨1, r103_0 (Or.inr ⟨1, s100t o2, rfl, rfl⟩), rfl, rfl⟩)
    · exact r139_0 ⟨fun c => absurd o1 c, fun _ => r139_13 ⟨_, _, _, s114t, fun _ => ⟨rfl, rfl⟩, fun c => absurd c (by decide)⟩⟩
  have o10 : ¬ I 145 1 = 0 := by rw [o1]; decide
  by_cases hO : isOutP I n x1 x2
  case neg =>
    refine call_bad (rv := some (.int 0)) (e := 3) (c := 1) hI ?_ ?_ (by decide) (by decide)
    · exact r81_0 (Or.inr ⟨3, s103t hI o2 hO, rfl, rfl⟩)
    · refine r139_0 ⟨fun _ => r139_13 ⟨_, _, _, s114f, fun c => absurd rfl c, fun _ => ⟨_, s137f (Inv_t0 hI (Or.inl rfl)) (by unfold isOutP; rw [u2_ne (by omega)]; exact hO), fun c => absurd rfl c, fun _ => ?_⟩⟩, fun c => absurd c o10⟩
      refine r139_35 ⟨_, _, _, s114t, fun c => absurd c (by decide), fun _ => ⟨rfl, ?_⟩⟩
      rw [u2_u2]
  have k103 := s103 (L := L) (h := h) (z := z) hI o2 hO
  have hO0 := hO
  obtain ⟨g, p, hg, rfl, hp, rfl, hne⟩ := hO
  have hv : vp_in (nI g) 8 := vp_in_nI hg (by omega)
  have hcg := cl g (by omega)
  obtain ⟨a1, a2, a3, a4, a5, a6, a7, a8, a9, k, po, ho⟩ := hI.1.2.2.2.1 g hg
  have hk16 := ho.1
  obtain ⟨i, hi, hpi⟩ : ∃ i, i < k ∧ po i = p := Classical.byContradiction fun c => hne (ho.2.2.2 p (by omega) (fun i hi q => c ⟨i, hi, q⟩))
  have hfo : fo po k p = some i := by rw [← hpi]; exact fo_some hi (ho.2.2.1 i hi).2.2.2.2
  have hpo : ∀ i, i < k → po i < 2500 ∧ I (68 + 5 * g) i = nI (po i) := fun i hi => ⟨by have := (ho.2.2.1 i hi).1; omega, (ho.2.2.1 i hi).2.1⟩
  obtain ⟨b, hb, hb2⟩ := hI.2.2.2.2.2.1
  have hb1 : I 2 1 = nI b := hI.2.2.2.2.1.trans hb2
  have e : nI g * 2500 + nI p = nI (2500 * g + p) := by
    rw [show (2500 : Int32) = nI 2500 from rfl, nI_mul, nI_add, Nat.mul_comm]
  have k30 := s30 (L := L) (h := h) (z := z) (I := I) (J := J) (p := p) hg (by omega)
  rw [(a7 p (by omega)).2, a5] at k30
  -- the model up to its question
  have hm0 : ∀ (Ic : rI) (h z : Nat) (o : eO) (σo : eS), frM I J Ic J → (I 167 (2500 * g + p) ≤ I 164 g → o = .inl (some (.int 0)) ∧ σo = mS L (u2 (u2 Ic 145 0 0) 166 (2500 * g + p) 0) J h z) → (¬ I 167 (2500 * g + p) ≤ I 164 g → 100000 < b + 24 → o = .inl (some (.int 0)) ∧ σo = mS L (u2 Ic 145 0 2) J h z) → (¬ I 167 (2500 * g + p) ≤ I 164 g → ¬ 100000 < b + 24 → (lsC I 24 = false → Run 139 115 [(0, .ref 145)] [] (mS L (wsM (u2 Ic 145 0 0) 24) J h z) o σo) ∧ (lsC I 24 = true → Run 139 115 [(0, .ref 145)] [] (mS L (u2 (u2 (wsM (u2 Ic 145 0 0) 24) 165 (2500 * g + p) 2) 166 (2500 * g + p) 0) J h z) o σo)) → Run 139 0 [(0, .ref 145), (1, .int (nI g)), (2, .int (nI p))] [] (mS L Ic J h z) o σo := by
    intro Ic h z o σo hfr H1 H2 H3
    have q : ∀ j, ¬ j = 0 → u2 Ic 145 0 0 145 j = I 145 j := fun j hj => by rw [u2_at, if_neg (fun k => hj k.2), (hfr 145 (by omega)).1]
    have q2 : ∀ b, 145 < b → u2 Ic 145 0 0 b = I b := fun b hb => by rw [u2_ne (by omega), (hfr b (by omega)).1]
    have hI0 : Inv n t st tm fv I J (u2 Ic 145 0 0) J := Inv_t0 (Inv_cg hI frC_rfl hfr) (Or.inl rfl)
    refine r139_0 ⟨fun _ => r139_13 ⟨_, _, _, s114f, fun c => absurd rfl c, fun _ => ⟨_, s137t hI0 (by unfold isOutP; rw [q2 166 (by omega)]; exact hO0), fun _ => ?_, fun c => absurd c (by decide)⟩⟩, fun c => absurd c (by rw [(hfr 145 (by omega)).1]; exact o10)⟩
    refine r139_35 ⟨_, _, _, s114f, fun _ => ?_, fun c => absurd rfl c⟩
    rw [u2_u2, e, cl (2500 * g + p) (by omega), hcg, q2 164 (by omega), q2 167 (by omega)]
    refine ⟨vp_in_nI (by omega) (by omega), hv, fun c => ?_, fun c => ?_⟩
    · have hs : ¬ I 167 (2500 * g + p) ≤ I 164 g := by simp only [ti_lt, ti_le] at *; omega
      refine ⟨_, s117r (k := 24) (b := b) (by rw [q 3 (by omega)]; exact hb2) hb (by omega), _, _, _, s114, fun c2 => ?_, fun c2 => ?_⟩
      · have c2 := b_eq.mp c2
        rw [c2]
        have hr : ¬ 100000 < b + 24 := by simpa using c2
        obtain ⟨G1, G2⟩ := H3 hs hr
        have hl := (wprep (k := 24) hI o1 hb2 (by omega) (by omega) hfr).2.2.2.1
        rw [if_neg (by decide), u2_u2]
        exact ⟨_, _, _, s118, fun c3 => G1 (hl.trans (b_eq.mp c3)), fun c3 => G2 (hl.trans (b_ne.mp c3))⟩
      · have c2 := b_ne.mp c2
        rw [c2]
        have hr : 100000 < b + 24 := by simpa using c2
        obtain ⟨G1, G2⟩ := H2 hs hr
        rw [u2_u2, if_pos rfl]
        exact ⟨G1, G2⟩
    · exact H1 (by simp only [ti_lt, ti_le] at *; omega)
  by_cases hs : I 167 (2500 * g + p) ≤ I 164 g
  · rw [decide_eq_true hs] at k30
    have k32 := s32 (L := L) (h := h) (z := z) (I := I) (J := J) (p := p) hg hk16 (by omega) ho.2.1 hpo hfo
    rw [if_pos (by rw [(a7 p (by omega)).2, a5]; exact hs)] at k32
    have hfr : frM I J (gDr I g k i) J := fun b hb => ⟨by rw [gDr_ne (by omega)], rfl⟩
    have hI0 : Inv n t st tm fv I J (u2 (gDr I g k i) 145 0 0) J := Inv_t0 (Inv_cg hI frC_rfl hfr) (Or.inl rfl)
    have hoM : IGo n g k po I (u2 (gDr I g k i) 145 0 0) := by
      unfold IGo at ho ⊢; rw [u2_ne (by omega), gDr_ne (by omega)]; exact ho
    have hC3 := InvC_drop hI0.1 hg hoM hi
    rw [hpi] at hC3
    refine ⟨.inl (some (.int 0)), gDr I g k i, J, h, z, ?_, And.intro rfl rfl, fun e k => (nomatch k), some (.int 0), _, _, hm0 _ _ _ _ _ hfr (fun _ => ⟨rfl, rfl⟩) (fun c => absurd hs c) (fun c => absurd hs c), ?_, ?_, fun v k => (Sum.inl.inj k).symm, n, t, st, tm, fv, by omega, ?_⟩
    · refine r81_0 (Or.inl ⟨k103, hv, ?_⟩)
      rw [hcg, R0_63 hg]
      exact ⟨_, k30, fun c => absurd rfl c, fun _ => ⟨_, _, k32, rfl, rfl⟩⟩
    · rw [u2_ne (by omega), u2_ne (by omega), gDr_ne (by omega)]
    · rw [u2_ne (by omega), u2_at, if_pos ⟨rfl, rfl⟩]; rfl
    · refine Inv_mix (I := gDr I g k i) ⟨hC3, HC_fr hI0.2.1 (fun b q1 q2 => u2_ne (by omega)) (by rw [u2_ne (by omega)]), IK_fr hI0.2.2 (gDr_ne (by omega)) (by rw [u2_ne (by omega)]) (by rw [u2_ne (by omega)]) (by rw [u2_ne (by omega)]) (by rw [u2_ne (by omega)])⟩ (fun b q1 q2 => ⟨by rw [u2_ne (by omega), u2_ne (by omega)], rfl⟩)
  rw [decide_eq_false hs] at k30
  have hc0 : ∀ (o : eO) (σo : eS), _ → Run 81 0 [(0, .ref 1), (1, .int (nI g)), (2, .int (nI p))] [] (mS L I J h z) o σo := fun o σo H => r81_0 (Or.inl ⟨k103, hv, _, (by rw [hcg, R0_63 hg]; exact k30), fun _ => H, fun c => absurd c (by decide)⟩)
  by_cases hr : b + 24 ≤ 100000
  case neg =>
    refine call_bad (rv := some (.int 0)) (e := 1) (c := 2) hI (hc0 _ _ (Or.inr ⟨1, s101rt (k := 24) hb1 hb (by omega) hr, rfl, rfl⟩)) (hm0 _ _ _ _ _ frM_rfl (fun c => absurd c hs) (fun _ _ => ⟨rfl, rfl⟩) (fun _ c => absurd (by omega) c)) (by decide) (by decide)
  have hrn : ¬ 100000 < b + 24 := by omega
  have k101 := s101r (L := L) (h := h) (z := z) (J := J) (k := 24) hb1 hb hr
  have k2 := s2 (L := L) (h := h) (z := z) (I := I) (J := J) (x := 24)
  cases hl : lsC I 24 with
  | false =>
    rw [hl] at k2
    have hfr : frM I J (epC (I 145 5) (wsC I 24)) J := fun b hb => ⟨by rw [epC_m hb, wsC_ne (by omega)], rfl⟩
    obtain ⟨hC, hH, hK, -, hp⟩ := wprep (k := 24) hI o1 hb2 (by omega) hr hfr
    have hp := hp hl
    refine call_w (n' := n) (t' := t) (st' := st) (tm' := tm) (fv' := fv) (v := none) (c := 3) hC hH hK (fun k => absurd k hp) (fun _ => ?_) (fun h z => ?_) (fun b hb => ?_) (fun _ _ _ => rfl) (wsC_ne (by omega)) (by omega) (by decide) (by decide)
    · exact hc0 _ _ (Or.inl ⟨k101, _, _, _, k2, fun _ => Or.inr ⟨2, _, _, s104t (hK.2.1.trans (if_neg hp)), rfl, rfl⟩, fun c => absurd rfl c⟩)
    · exact ⟨_, hm0 _ _ _ _ _ hfr (fun c => absurd c hs) (fun _ c => absurd c hrn) (fun _ _ => ⟨fun _ => r139_115 ⟨_, _, s119e hK, rfl, rfl⟩, fun c => absurd (hl.symm.trans c) (by decide)⟩), fun k => absurd k hp⟩
    · rw [wsM_ne (by omega), u2_ne (by omega)]; rfl
  | true =>
    rw [hl] at k2
    have hfr : frM I J (epC (I 145 5) (u2 (gDr (wsC I 24) g k i) (66 + 5 * g) p 2)) J := fun b hb => ⟨by rw [epC_m hb, u2_ne (by omega), gDr_ne (by omega), wsC_ne (by omega)], rfl⟩
    obtain ⟨hC0, hH0, hK0, -, -⟩ := wprep (k := 24) hI o1 hb2 (by omega) hr hfr
    have hoW : IGo n g k po (wsC I (nI 24)) (wsM (u2 (epC (I 145 5) (u2 (gDr (wsC I 24) g k i) (66 + 5 * g) p 2)) 145 0 0) (nI 24)) := IGo_ws ho (fun b hb => by rw [u2_ne (by omega), (hfr b (by omega)).1])
    have hC3 := InvC_mark (x := 2) hC0 hg hoW hi (Or.inr rfl)
    rw [hpi] at hC3
    generalize hMw : wsM (u2 (epC (I 145 5) (u2 (gDr (wsC I 24) g k i) (66 + 5 * g) p 2)) 145 0 0) (nI 24) = Mw at hC3 hH0 hK0
    have hH3 : HC (fun _ => True) n st fv (u2 (u2 Mw 165 (2500 * g + p) 2) 166 (2500 * g + p) 0) := HC_fr hH0 (fun b q1 q2 => by rw [u2_ne (by omega), u2_ne (by omega)]) (by rw [u2_ne (by omega), u2_ne (by omega)])
    have hK3 : IKm (I 145 5) (u2 (gDr (wsC I (nI 24)) g k i) (66 + 5 * g) p 2) (u2 (u2 Mw 165 (2500 * g + p) 2) 166 (2500 * g + p) 0) := by
      have e : u2 (u2 Mw 165 (2500 * g + p) 2) 166 (2500 * g + p) 0 145 = Mw 145 := by rw [u2_ne (by omega), u2_ne (by omega)]
      exact IKm_fr hK0 (by rw [u2_ne (by omega), gDr_ne (by omega)]) (by rw [e]) (by rw [e]) (by rw [e]) (by rw [e]) (by rw [e])
    have k32 := s32 (L := L) (h := h) (z := z) (I := wsC I 24) (J := J) (p := p) (po := po) hg hk16 (by omega) (by rw [wsC_ne (by omega)]; exact ho.2.1) (fun i hi => ⟨by have := (ho.2.2.1 i hi).1; omega, by rw [wsC_ne (by omega)]; exact (ho.2.2.1 i hi).2.1⟩) hfo
    rw [if_neg (by rw [wsC_ne (by omega), wsC_ne (by omega), (a7 p (by omega)).2, a5]; exact hs)] at k32
    refine call_w (n' := n) (t' := t) (st' := st) (tm' := tm) (fv' := fv) (v := some (.int 1)) (c := 3) hC3 hH3 hK3 (fun hp => ?_) (fun hp => ?_) (fun h z => ?_) (fun b hb => ?_) (fun _ _ _ => rfl) ?_ (by omega) (by decide) (by decide)
    · refine hc0 _ _ (Or.inl ⟨k101, _, _, _, k2, fun c => absurd c (by decide), fun _ => ?_⟩)
      rw [hcg, R0_63 hg]
      exact ⟨_, _, k32, Or.inl ⟨_, _, s104 (hK3.2.1.trans (if_pos hp)), rfl, rfl⟩⟩
    · refine hc0 _ _ (Or.inl ⟨k101, _, _, _, k2, fun c => absurd c (by decide), fun _ => ?_⟩)
      rw [hcg, R0_63 hg]
      exact ⟨_, _, k32, Or.inr ⟨2, _, _, s104t (hK3.2.1.trans (if_neg hp)), rfl, rfl⟩⟩
    · refine ⟨_, hm0 _ _ _ _ _ hfr (fun c => absurd c hs) (fun _ c => absurd c hrn) (fun _ _ => ⟨fun c => absurd (hl.symm.trans c) (by decide), fun _ => ?_⟩), fun _ => rfl⟩
      rw [show wsM (u2 (epC (I 145 5) (u2 (gDr (wsC I (nI 24)) g k i) (66 + 5 * g) p 2)) 145 0 0) 24 = Mw from hMw]
      exact r139_115 ⟨_, _, s119e hK3, rfl, rfl⟩
    · rw [u2_ne (by omega), u2_ne (by omega), ← hMw, wsM_ne (by omega), u2_ne (by omega)]; rfl
    · rw [u2_ne (by omega), gDr_ne (by omega), wsC_ne (by omega)]
end
