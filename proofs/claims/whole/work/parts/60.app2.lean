/-! append. -/
section
variable {L h z n t : Nat} {st tm fv fv' : Nat → Nat} {I I' M M' : rI} {J K J' K' : rJ}
theorem m22 {x y : Int32} {Ic : rI} : u2 (u2 (u2 Ic 145 0 y) 145 22 0) 145 0 x = u2 (u2 Ic 145 22 0) 145 0 x := by
  rw [u2_c (a := 145) (i := 0) (b := 145) (j := 22) (Or.inr (by omega)), u2_u2]
theorem call_append {x1 x2 : Int32} (hI : Inv n t st tm fv I J I J) : callOk 72 125 [.int x1, .int x2] [0, 1, 2] t L h z I J := by
  have hE := hI.1.1
  have n1 := hE.1
  have n2 := hE.2.2.2.1
  have n7 := hE.2.2.1
  obtain ⟨d, b1, b2, b3, b4, b5, b6, b7⟩ := hI.1.2.1
  obtain ⟨r1, r2, r3, r4, r5, r6⟩ := hE.2.2.2.2.2.2.1
  have h91 := s91 (L := L) (h := h) (z := z) (I := I) (J := J) (x := x1)
  by_cases hgood : rg x1 32 = true ∧ -2 ≤ x2
  case neg =>
    refine call_bad (rv := some (.int 0)) (e := 0) (c := 1) hI ?_ ?_ (by decide) (by decide)
    · refine r72_0 ⟨_, h91, fun _ => ⟨rfl, rfl⟩, fun q => ⟨fun q2 => absurd ⟨b_ne.mp q, q2⟩ hgood, fun _ => ⟨rfl, rfl⟩⟩⟩
    · have H : Run 125 22 [(0, .ref 145), (1, .int x1), (2, .int x2)] [.int 1, .ref 145] (mS L I J (h + 1) (z + 6)) (.inl (some (.int 0))) (mS L (u2 I 145 0 1) J (h + 1) (z + 6)) := r125_22 ⟨_, _, _, s114t, fun _ => ⟨rfl, rfl⟩, fun c => absurd c (by decide)⟩
      refine r125_0 ⟨_, s115r rfl (N := 32) (by omega) (by omega) (by decide), fun _ => H, fun q => ⟨fun q2 => absurd ⟨b_ne.mp q, q2⟩ hgood, fun _ => H⟩⟩
  obtain ⟨g1, hx2⟩ := hgood
  obtain ⟨s, hs32, rfl⟩ := (rg_t (by omega)).mp g1
  have hs : s < 40 := by omega
  rw [g1] at h91
  have hvs : vp_in (nI s) 40 := vp_in_nI hs (by omega)
  have hcs := cl s (by omega)
  obtain ⟨c1, c2, c3, c4, c5, c6, c7, c8, c9, c10, c11, c12⟩ := hE.2.2.2.2.2.2.2.2 s hs
  have hm0 : ∀ (Ic : rI) (J' : rJ) (h z : Nat) (o : eO) (σo : eS), Run 125 22 [(0, .ref 145), (1, .int (nI s)), (2, .int x2)] [.int 0, .ref 145] (mS L Ic J' h z) o σo → Run 125 0 [(0, .ref 145), (1, .int (nI s)), (2, .int x2)] [] (mS L Ic J' h z) o σo :=
    fun Ic J' h z o σo H => r125_0 ⟨_, s115r g1 (by omega) (by omega) (by decide), fun c => absurd c (by decide), fun _ => ⟨fun _ => H, fun c => absurd hx2 c⟩⟩
  rcases Inv_on hI with ⟨o1, o2⟩ | ⟨o1, o2⟩
  · refine call_bad (rv := some (.int 0)) (e := 1) (c := 2) hI ?_ (hm0 _ _ _ _ _ _ (r125_22 ⟨_, _, _, s114f, fun c => absurd rfl c, fun _ => ⟨fun c => absurd ?_ c, fun _ => r125_42 ⟨_, _, _, s114t, fun c => absurd c (by decide), fun _ => ⟨rfl, ?_⟩⟩⟩⟩)) (by decide) (by decide)
    · exact r72_0 ⟨_, h91, fun q => absurd q (by decide), fun _ => ⟨fun _ => Or.inr ⟨1, s100t o2, rfl, rfl⟩, fun q => absurd hx2 q⟩⟩
    · rw [u2_at, if_neg (by omega)]; exact o1
    · rw [u2_u2]
  have o10 : ¬ I 145 1 = 0 := by rw [o1]; decide
  by_cases hd0 : d = 0
  · subst hd0
    have i22 : I 145 22 = 0 := b3
    have H80 : Run 125 80 [(0, .ref 145), (1, .int (nI s)), (2, .int x2), (3, .int (u2 (u2 I 145 0 0) 145 0 0 145 22))] [.int 1, .ref 145] (mS L (u2 (u2 (u2 I 145 0 0) 145 0 0) 145 22 0) J (h + 1) (z + 6)) (.inl (some (.int 0))) (mS L (u2 I 145 0 2) J (h + 1) (z + 6)) := by
      refine r125_80 ⟨_, _, _, s114t, fun c => absurd c (by decide), fun _ => ⟨rfl, ?_⟩⟩
      rw [u2_u2, m22, u2_same i22]
    refine call_bad (rv := some (.int 0)) (e := 1) (c := 2) hI ?_ (hm0 _ _ _ _ _ _ (r125_22 ⟨_, _, _, s114f, fun c => absurd rfl c, fun _ => ⟨fun _ => r125_42 ⟨_, _, _, s114f, fun _ => ⟨fun _ => H80, fun c => absurd ?_ c⟩, fun c => absurd rfl c⟩, fun c => absurd c ?_⟩⟩)) (by decide) (by decide)
    · exact r72_0 ⟨_, h91, fun q => absurd q (by decide), fun _ => ⟨fun _ => Or.inl ⟨s100 o2, fun q => absurd b2 q, fun _ => ⟨rfl, rfl⟩⟩, fun q => absurd hx2 q⟩⟩
    · rw [u2_u2, u2_at, if_neg (by omega)]; exact i22
    · rw [u2_at, if_neg (by omega)]; exact o10
  have hdp : 0 < d := by omega
  have d30 : ¬ I 3 3 = 0 := by rw [b2]; exact nI_ne0 hdp (by omega)
  generalize hr : sk (fdP st fv n s d (I 148) (I 158) x2) n 0 = r
  have k19 := s19 (L := L) (h := h) (z := z) (x := x2) hs b1 b2 hE
  rw [r3, b4, hr] at k19
  have k18 := s18 (L := L) (h := h) (z := z) hs b1 b2 hE
  rw [r3, b4] at k18
  have k17 := s17 (L := L) (h := h) (z := z) (I := I) (J := J) (x := x2) hs
  -- the model: from its questions on
  have hm1 : ∀ (Ic : rI) (J' : rJ) (h z : Nat) (o : eO) (σo : eS), frM I J Ic J' → (¬ I 157 s = 0 → o = .inl (some (.int 0)) ∧ σo = mS L (u2 (u2 Ic 145 22 0) 145 0 2) J' h z) →
      (I 157 s = 0 → ((∃ e, e < n ∧ knP st fv s d (I 148) (I 158) e = true) ∨ (¬ x2 = -2 ∧ ¬ x2 = I 153 s)) → (r = none → o = .inl (some (.int 0)) ∧ σo = mS L (u2 (u2 Ic 145 22 0) 145 0 2) J' h z) ∧ (∀ p, r = some p → o = .inl (some (.int (nI p))) ∧ σo = mS L (u2 (u2 Ic 145 22 0) 145 0 0) J' h z)) →
      (I 157 s = 0 → (∀ e, e < n → knP st fv s d (I 148) (I 158) e = false) → (x2 = -2 ∨ x2 = I 153 s) → Run 125 283 [(0, .ref 145), (1, .int (nI s)), (3, .int (nI d))] [] (mS L (u2 (u2 Ic 145 22 0) 145 0 0) J' h z) o σo) → Run 125 0 [(0, .ref 145), (1, .int (nI s)), (2, .int x2)] [] (mS L Ic J' h z) o σo := by
    intro Ic J' h z o σo hfr H1 H2 H3
    have q : ∀ j, ¬ j = 0 → ¬ j = 22 → u2 (u2 Ic 145 22 0) 145 0 0 145 j = I 145 j := fun j h0 hj => by rw [u2_at, if_neg (fun k => h0 k.2), u2_at, if_neg (fun k => hj k.2), (hfr 145 (by omega)).1]
    have q2 : ∀ b, 145 < b → u2 (u2 Ic 145 22 0) 145 0 0 b = I b := fun b hb => by rw [u2_ne (by omega), u2_ne (by omega), (hfr b (by omega)).1]
    have hE0 : IE n t st tm fv I J (u2 (u2 Ic 145 22 0) 145 0 0) J' := IE_fr hE rfl (fun _ _ _ => rfl) (fun b q1 _ => q2 b (by omega)) (q 2 (by omega) (by omega)) (q 13 (by omega) (by omega)) rfl (hfr 150 (by omega)).2
    have e22 : u2 (u2 Ic 145 0 0) 145 0 0 145 22 = nI d := by rw [u2_u2, u2_at, if_neg (by omega), (hfr 145 (by omega)).1, b3]
    have e157 : u2 (u2 Ic 145 0 0) 145 0 0 157 s = I 157 s := by rw [u2_u2, u2_ne (by omega), (hfr 157 (by omega)).1]
    have nf : (r = none → o = .inl (some (.int 0)) ∧ σo = mS L (u2 (u2 Ic 145 22 0) 145 0 2) J' h z) ∧ (∀ p, r = some p → o = .inl (some (.int (nI p))) ∧ σo = mS L (u2 (u2 Ic 145 22 0) 145 0 0) J' h z) → Run 125 187 [(0, .ref 145), (1, .int (nI s)), (2, .int x2), (3, .int (nI d))] [] (mS L (u2 (u2 Ic 145 22 0) 145 0 0) J' h z) o σo := by
      rintro ⟨G1, G2⟩
      refine s125_nf hs hdp b1 hx2 hE0 (fun k => ?_) (fun p k => ?_)
      · rw [q2 148 (by omega), q2 158 (by omega), hr] at k
        rw [u2_u2]; exact G1 k
      · rw [q2 148 (by omega), q2 158 (by omega), hr] at k
        rw [u2_u2]; exact G2 p k
    refine hm0 _ _ _ _ _ _ (r125_22 ⟨_, _, _, s114f, fun c => absurd rfl c, fun _ => ⟨fun _ => r125_42 ⟨_, _, _, s114f, fun _ => ⟨fun c => absurd (e22.symm.trans c) (nI_ne0 hdp (by omega)), fun _ => ⟨hvs, fun c => ?_, fun c => ?_⟩⟩, fun c => absurd rfl c⟩, fun c => absurd c ?_⟩⟩)
    · rw [hcs, e157] at c
      rw [e22, u2_u2]
      refine r125_80 ⟨_, _, _, s114f, fun _ => ?_, fun k => absurd rfl k⟩
      rw [m22]
      refine s125_kn hs b1 hE0 (fun k => ?_) (fun k => ?_) n 0 0 (by omega) (Or.inl rfl) (fun k => absurd k (by decide)) (fun _ e he => absurd he (by omega))
      · rw [q2 148 (by omega), q2 158 (by omega)] at k
        exact nf (H2 c (Or.inl k))
      · rw [q2 148 (by omega), q2 158 (by omega)] at k
        refine r125_95 ⟨fun _ => ⟨fun k => absurd rfl k, fun _ => ⟨fun k2 => H3 c k (Or.inl k2), fun k2 => ⟨hvs, fun k3 => ?_, fun k3 => ?_⟩⟩⟩, fun k => absurd ?_ k⟩
        · rw [hcs, q2 153 (by omega)] at k3
          exact H3 c k (Or.inr k3)
        · rw [hcs, q2 153 (by omega)] at k3
          exact nf (H2 c (Or.inr ⟨k2, k3⟩))
        · rw [q 13 (by omega) (by omega), n2]; exact nI_le (Nat.le_refl _) (by omega)
    · rw [hcs, e157] at c
      rw [u2_u2]
      refine r125_80 ⟨_, _, _, s114t, fun k => absurd k (by decide), fun _ => ?_⟩
      rw [m22]
      exact H1 c
    · rw [u2_at, if_neg (by omega), (hfr 145 (by omega)).1]; exact o10
  -- the class: from its questions on
  have hc0 : ∀ (o : eO) (σo : eS), (((∃ e, e < n ∧ knP st fv s d (I 148) (I 158) e = true) ∨ (¬ x2 = -2 ∧ ¬ x2 = I 153 s)) → Run 72 79 [(0, .ref 1), (1, .int (nI s)), (2, .int x2)] [.int 0] (mS L I J h z) o σo) → ((∀ e, e < n → knP st fv s d (I 148) (I 158) e = false) → (x2 = -2 ∨ x2 = I 153 s) → Run 72 79 [(0, .ref 1), (1, .int (nI s)), (2, .int x2)] [.int 1] (mS L I J h z) o σo) → Run 72 0 [(0, .ref 1), (1, .int (nI s)), (2, .int x2)] [] (mS L I J h z) o σo := by
    intro o σo H1 H2
    refine r72_0 ⟨_, h91, fun q => absurd q (by decide), fun _ => ⟨fun _ => Or.inl ⟨s100 o2, fun _ => ⟨_, k17, fun q => r72_78 (H1 (Or.inr ?_)), fun q => ⟨_, k18, fun q2 => r72_78 (H1 (Or.inl ?_)), fun q2 => H2 (fun e he => ?_) ?_⟩⟩, fun q => absurd q d30⟩, fun q => absurd hx2 q⟩⟩
    · have q := b_eq.mp q
      rw [Bool.or_eq_false_iff, decide_eq_false_iff_not, decide_eq_false_iff_not, c1] at q
      exact q
    · have q2 := b_ne.mp q2
      cases hk : sk (knP st fv s d (I 148) (I 158)) n 0 with
      | none => rw [hk] at q2; cases q2
      | some e => exact ⟨e, by have := (sk_some hk).2.1; omega, (sk_some hk).2.2.1⟩
    · have q2 := b_eq.mp q2
      cases hk : sk (knP st fv s d (I 148) (I 158)) n 0 with
      | none => exact sk_none hk e (by omega) (by omega)
      | some e => rw [hk] at q2; cases q2
    · have q := b_ne.mp q
      rw [Bool.or_eq_true, decide_eq_true_eq, decide_eq_true_eq, c1] at q
      exact q
  have h194 : Run 72 194 [(0, .ref 1)] [] (mS L I J h z) (.inr 1) (mS L (u2 I 3 3 0) J (h + 1) (z + 6)) := r72_194 ⟨_, _, s8, rfl, rfl⟩
  have h154 : ∀ (x5 xs : Int32), Run 72 154 [(0, .ref 1), (1, .int (nI s)), (3, .int 0), (5, .int x5)] [.int xs] (mS L I J h z) (.inr 1) (mS L (u2 I 3 3 0) J (h + 1) (z + 6)) := fun x5 xs => r72_154 ⟨fun _ => h194, fun q => absurd rfl q⟩
  have h79n : r = none → Run 72 79 [(0, .ref 1), (1, .int (nI s)), (2, .int x2)] [.int 0] (mS L I J h z) (.inr 1) (mS L (u2 I 3 3 0) J (h + 1) (z + 6)) := fun q => by
    rw [q] at k19
    exact r72_79 ⟨fun _ => ⟨_, k19, r72_101 ⟨fun _ => ⟨hvs, fun _ => h154 _ _, fun _ => h154 _ _⟩, fun q => absurd rfl q⟩⟩, fun q => absurd rfl q⟩
  by_cases hen : I 157 s = 0
  case neg =>
    -- an ended stream
    have hvis : ∀ e, e < n → st e = s → vis st fv e = false := fun e he hse => by
      have := hI.2.1 e he trivial (by unfold hideC hcP; rw [hse]; exact Or.inr (Or.inr (Or.inr hen)))
      rw [vis, decide_eq_true this]; rfl
    have hrn : r = none := by
      rw [← hr]
      exact fd_none (fun e he h1 h2 _ _ => by rw [hvis e he h1] at h2; cases h2)
    refine call_clr (rv := some (.int 0)) (e := 1) (c := 2) hI (hc0 _ _ (fun _ => h79n hrn) (fun _ _ => ?_)) (hm1 _ _ _ _ _ _ frM_d0 (fun _ => ⟨rfl, rfl⟩) (fun c => absurd c hen) (fun c => absurd c hen)) (by decide) (by decide)
    refine r72_79 ⟨fun q => absurd q (by decide), fun _ => r72_101 ⟨fun _ => ⟨hvs, fun _ => r72_154 ⟨fun q => absurd q (by decide), fun _ => ⟨fun _ => h194, fun q => absurd rfl q⟩⟩, fun q => absurd ?_ hen⟩, fun q => absurd rfl q⟩⟩
    rw [hcs, R0_17 hs, c6] at q; exact q
  by_cases hcm : (∀ e, e < n → knP st fv s d (I 148) (I 158) e = false) ∧ (x2 = -2 ∨ x2 = I 153 s)
  case neg =>
    have hcx : ¬ ((∀ e, e < n → knP st fv s d (I 148) (I 158) e = false) ∧ (x2 = -2 ∨ x2 = I 153 s)) := hcm
    cases hrr : r with
    | none =>
      exact call_clr (rv := some (.int 0)) (e := 1) (c := 2) hI (hc0 _ _ (fun _ => h79n hrr) (fun p1 p2 => absurd ⟨p1, p2⟩ hcx)) (hm1 _ _ _ _ _ _ frM_d0 (fun c => absurd hen c) (fun _ _ => ⟨fun _ => ⟨rfl, rfl⟩, fun p k => by rw [hrr] at k; cases k⟩) (fun _ p1 p2 => absurd ⟨p1, p2⟩ hcx)) (by decide) (by decide)
    | some p =>
      have hp : p < n := by have := (sk_some (hr.trans hrr)).2.1; omega
      refine call_clv (rv := some (.int (nI p))) hI (hc0 _ _ (fun _ => ?_) (fun p1 p2 => absurd ⟨p1, p2⟩ hcx)) (hm1 _ _ _ _ _ _ frM_d0 (fun c => absurd hen c) (fun _ _ => ⟨fun k => absurd (hrr.symm.trans k) (fun q => nomatch q), fun p' k => (Option.some.inj (hrr.symm.trans k)) ▸ ⟨rfl, rfl⟩⟩) (fun _ p1 p2 => absurd ⟨p1, p2⟩ hcx))
      rw [hrr] at k19
      refine r72_79 ⟨fun _ => ⟨_, k19, r72_101 ⟨fun q => absurd q ?_, fun _ => ⟨_, _, s8, rfl, rfl⟩⟩⟩, fun q => absurd rfl q⟩
      intro q
      have := (oI_m1 (r := some p) (fun j hj => by cases hj; omega)).mp q
      cases this
  obtain ⟨hkn, hfit⟩ := hcm
  have hnk : ¬ ((∃ e, e < n ∧ knP st fv s d (I 148) (I 158) e = true) ∨ (¬ x2 = -2 ∧ ¬ x2 = I 153 s)) := by
    rintro (⟨e, q1, q2⟩ | ⟨q1, q2⟩)
    · rw [hkn e q1] at q2; cases q2
    · exact hfit.elim q1 q2
  have eSz : (24 : Int32) + 24 * nI d = nI (24 + 24 * d) := by
    rw [show (24 : Int32) = nI 24 from rfl, nI_mul, nI_add]
  generalize hS : 24 + 24 * d = S at eSz
  obtain ⟨b, hb1, hb2⟩ := hI.2.2.2.2.2.1
  have hbc : I 2 1 = nI b := hI.2.2.2.2.1.trans hb2
  -- the class up to its record
  have hc1 : ∀ (o : eO) (σo : eS), Run 72 154 [(0, .ref 1), (1, .int (nI s)), (3, .int 1), (5, .int (nI S))] [.int 1] (mS L I J h z) o σo → Run 72 0 [(0, .ref 1), (1, .int (nI s)), (2, .int x2)] [] (mS L I J h z) o σo := by
    intro o σo H
    refine hc0 _ _ (fun k => absurd k hnk) (fun _ _ => r72_79 ⟨fun q => absurd q (by decide), fun _ => r72_101 ⟨fun _ => ⟨hvs, fun q => absurd ?_ q, fun _ => ?_⟩, fun q => absurd rfl q⟩⟩)
    · rw [hcs, R0_17 hs, c6]; exact hen
    · rw [b2, eSz]; exact H
  have k12 := s12 (L := L) (h := h) (z := z) (I := I) (J := J) (x := I 3 3)
  have e12 : (!decide (2500 - I 10 7 < I 3 3)) = decide (n + d ≤ 2500) := by
    rw [b2, n7, show (2500 : Int32) = nI 2500 from rfl, nI_sub n1 (by omega), Bool.eq_iff_iff]
    simp only [Bool.not_eq_true', decide_eq_false_iff_not, decide_eq_true_eq]
    rw [nI_ltI (by omega) (by omega)]; omega
  rw [e12] at k12
  have k1 := s1 (L := L) (h := h) (z := z) (I := I) (J := J) (x := nI S)
  have e1 : (!decide (100000 - I 2 1 < nI S)) = decide (b + S ≤ 100000) := by
    rw [hbc, Bool.eq_iff_iff]
    simp only [Bool.not_eq_true', decide_eq_false_iff_not, decide_eq_true_eq]
    rw [(room hb1 (by omega)).1]; omega
  rw [e1] at k1
  -- the model up to its record
  have hm2 : ∀ (Ic : rI) (J' : rJ) (h z : Nat) (o : eO) (σo : eS), frM I J Ic J' → (¬ (n + d ≤ 2500 ∧ b + S ≤ 100000) → o = .inl (some (.int 0)) ∧ σo = mS L (u2 (u2 Ic 145 22 0) 145 0 2) J' h z) →
      ((n + d ≤ 2500 ∧ b + S ≤ 100000) → (lsC I (nI S) = false → Run 125 388 [(0, .ref 145), (6, .int (nI n))] [] (mS L (u2 (wsM (u2 Ic 145 0 0) (nI S)) 145 22 0) J' h z) o σo) ∧ (lsC I (nI S) = true → Run 125 346 [(0, .ref 145), (1, .int (nI s)), (3, .int (nI d)), (6, .int (nI n)), (7, .int (nI 0))] [] (mS L (u2 (wsM (u2 Ic 145 0 0) (nI S)) 145 22 0) J' h z) o σo)) → Run 125 0 [(0, .ref 145), (1, .int (nI s)), (2, .int x2)] [] (mS L Ic J' h z) o σo := by
    intro Ic J' h z o σo hfr H1 H2
    refine hm1 _ _ _ _ _ _ hfr (fun c => absurd hen c) (fun _ k => absurd k hnk) (fun _ _ _ => ?_)
    have q : ∀ j, ¬ j = 0 → ¬ j = 22 → u2 (u2 Ic 145 22 0) 145 0 0 145 j = I 145 j := fun j h0 hj => by rw [u2_at, if_neg (fun k => h0 k.2), u2_at, if_neg (fun k => hj k.2), (hfr 145 (by omega)).1]
    have h319 : ∀ (bv : Bool), bv = !decide (n + d ≤ 2500 ∧ b + S ≤ 100000) → Run 125 319 [(0, .ref 145), (1, .int (nI s)), (3, .int (nI d)), (5, .int (nI S))] [.int (bb bv), .ref 145] (mS L (u2 (u2 Ic 145 22 0) 145 0 0) J' h z) o σo := by
      intro bv hbv
      refine r125_319 ⟨_, _, _, s114, fun k => ?_, fun k => ?_⟩
      · have k := b_eq.mp k
        have hr : n + d ≤ 2500 ∧ b + S ≤ 100000 := by rw [k] at hbv; simpa using hbv.symm
        obtain ⟨G1, G2⟩ := H2 hr
        have hl := (wprep (k := S) hI o1 hb2 (by omega) (by omega) hfr).2.2.2.1
        rw [k, if_neg (by decide), u2_u2]
        have ew : wsM (u2 (u2 Ic 145 22 0) 145 0 0) (nI S) = u2 (wsM (u2 Ic 145 0 0) (nI S)) 145 22 0 := by
          rw [u2_c (a := 145) (i := 22) (b := 145) (j := 0) (Or.inr (by omega)), wsM_u2 (by omega)]
        have el : lsM (u2 (u2 Ic 145 22 0) 145 0 0) (nI S) = lsM (u2 Ic 145 0 0) (nI S) := by
          unfold lsM
          rw [u2_at, if_neg (by omega), u2_at, if_neg (by omega), u2_at, if_neg (by omega)]
        have k118 := s118 (L := L) (h := h) (z := z) (I := u2 (u2 Ic 145 22 0) 145 0 0) (J := J') (x := nI S)
        rw [ew, el] at k118
        refine ⟨_, _, _, k118, fun k3 => ?_, fun k3 => ?_⟩
        · rw [q 13 (by omega) (by omega), n2]; exact G1 (hl.trans (b_eq.mp k3))
        · rw [q 13 (by omega) (by omega), n2]; exact G2 (hl.trans (b_ne.mp k3))
      · have k := b_ne.mp k
        have hr : ¬ (n + d ≤ 2500 ∧ b + S ≤ 100000) := by
          rw [k] at hbv
          have := hbv.symm
          rw [Bool.not_eq_true'] at this
          exact of_decide_eq_false this
        obtain ⟨G1, G2⟩ := H1 hr
        rw [k, if_pos rfl, u2_u2]
        exact ⟨G1, G2⟩
    refine r125_283 ⟨fun k => ?_, fun k => ?_⟩
    all_goals rw [q 13 (by omega) (by omega), n2, nI_add, show (2500 : Int32) = nI 2500 from rfl, nI_ltI (by omega) (by omega)] at k
    · rw [eSz]
      exact h319 true (by rw [decide_eq_false (fun k2 => by omega)]; rfl)
    · rw [eSz]
      refine ⟨_, s117r (k := S) (b := b) (by rw [q 3 (by omega) (by omega)]; exact hb2) hb1 (by omega), fun k2 => h319 false ?_, fun k2 => h319 true ?_⟩
      · have k2 := b_eq.mp k2
        rw [decide_eq_false_iff_not] at k2
        rw [decide_eq_true ⟨by omega, by omega⟩]; rfl
      · have k2 := b_ne.mp k2
        rw [decide_eq_true_eq] at k2
        rw [decide_eq_false (fun k3 => by omega)]; rfl
  by_cases hr2 : n + d ≤ 2500 ∧ b + S ≤ 100000
  case neg =>
    refine call_clr (rv := some (.int 0)) (e := 1) (c := 2) hI (hc1 _ _ (r72_154 ⟨fun q => absurd q (by decide), fun _ => ⟨fun q => absurd q (by decide), fun _ => ⟨_, k12, fun _ => h194, fun q => ⟨_, k1, fun q2 => absurd ⟨?_, ?_⟩ hr2, fun _ => h194⟩⟩⟩⟩)) (hm2 _ _ _ _ _ _ frM_d0 (fun _ => ⟨rfl, rfl⟩) (fun k => absurd k hr2)) (by decide) (by decide)
    · exact of_decide_eq_true (b_ne.mp q)
    · exact of_decide_eq_true (b_ne.mp q2)
  obtain ⟨hrn, hrb⟩ := hr2
  rw [decide_eq_true hrn] at k12
  rw [decide_eq_true hrb] at k1
  have k2 := s2 (L := L) (h := h) (z := z) (I := I) (J := J) (x := nI S)
  have hcw : ∀ (o : eO) (σo : eS), _ → Run 72 0 [(0, .ref 1), (1, .int (nI s)), (2, .int x2)] [] (mS L I J h z) o σo := fun o σo H => hc1 o σo (r72_154 ⟨fun q => absurd q (by decide), fun _ => ⟨fun q => absurd q (by decide), fun _ => ⟨_, k12, fun q => absurd q (by decide), fun _ => ⟨_, k1, fun _ => H, fun q => absurd q (by decide)⟩⟩⟩⟩)
  have e22 : ∀ j, ¬ j = 22 → ∀ (M : rI), u2 M 145 22 0 145 j = M 145 j := fun j hj M => by rw [u2_at, if_neg (fun k => hj k.2)]
  cases hl : lsC I (nI S) with
  | false =>
    rw [hl] at k2
    have hfr : frM I J (epC (I 145 5) (u2 (wsC I (nI S)) 3 3 0)) J := fun b hb => ⟨by rw [epC_m hb, u2_ne (by omega), wsC_ne (by omega)], rfl⟩
    obtain ⟨hC, hH, hK, -, hpp⟩ := wprep (k := S) hI o1 hb2 (by omega) hrb hfr
    have hpp := hpp hl
    have hC := InvC_d0 hC
    have hH : HC (fun _ => True) n st fv (u2 (wsM (u2 (epC (I 145 5) (u2 (wsC I (nI S)) 3 3 0)) 145 0 0) (nI S)) 145 22 0) := HC_fr hH (fun b _ _ => u2_ne (by omega)) (e22 2 (by omega) _)
    have hK : IKm (I 145 5) (u2 (wsC I (nI S)) 3 3 0) (u2 (wsM (u2 (epC (I 145 5) (u2 (wsC I (nI S)) 3 3 0)) 145 0 0) (nI S)) 145 22 0) := IKm_fr hK (u2_ne (by omega)) (e22 1 (by omega) _) (e22 3 (by omega) _) (e22 4 (by omega) _) (e22 5 (by omega) _) (e22 43 (by omega) _)
    refine call_w (n' := n) (t' := t) (st' := st) (tm' := tm) (fv' := fv) (v := none) (c := 3) hC hH hK (fun k => absurd k hpp) (fun _ => ?_) (fun h z => ?_) (fun b hb => ?_) (fun _ _ _ => rfl) (by rw [u2_ne (by omega), wsC_ne (by omega)]) (by omega) (by decide) (by decide)
    · exact hcw _ _ ⟨_, _, _, k2, fun _ => r72_244 ⟨_, _, s8, Or.inr ⟨2, _, _, s104t (hK.2.1.trans (if_neg hpp)), rfl, rfl⟩⟩, fun k => absurd rfl k⟩
    · exact ⟨_, hm2 _ _ _ _ _ _ hfr (fun k => absurd ⟨hrn, hrb⟩ k) (fun _ => ⟨fun _ => r125_388 ⟨_, _, s119e hK, rfl, rfl⟩, fun k => absurd (hl.symm.trans k) (by decide)⟩), fun k => absurd k hpp⟩
    · rw [u2_ne (by omega), wsM_ne (by omega), u2_ne (by omega)]
  | true =>
    rw [hl] at k2
    have hty : ∀ i, i < d → ∃ k, k < 16 ∧ I 5 i = nI k := fun i hi => by rw [b5]; exact b7 i hi
    -- the class alone
    have hEGJ0 : EGJ n t st tm fv (wsC I (nI S)) J I J := EGJ_fr ⟨hE, hI.1.2.2.2.1, hI.1.2.2.2.2⟩ (wsC_ne (by omega)) (fun b q1 q2 q3 => wsC_ne (by omega)) (fun b _ _ _ => rfl) rfl rfl
    obtain ⟨hAc, -⟩ := EGJ_n (ids := I 4) (tys := I 5) (ds := J 6) hs hrn hty hEGJ0 (fun e he _ hc => hI.2.1 e he trivial hc) d (Nat.le_refl _)
    obtain ⟨f, k24, f1, f2, f3⟩ := s24 (L := L) (h := h) (z := z) (J := jAn 15 n (J 6) J d) hs (IE_CV hAc.1)
    have k21 := s21 (L := L) (h := h) (z := z) (I := wsC I (nI S)) (J := J) (ids := I 4) (tys := I 5) (ds := J 6) hs b1 hrn (by rw [wsC_ne (by omega)]; exact b2) (by rw [wsC_ne (by omega)]; exact n7) (wsC_ne (by omega)) (wsC_ne (by omega)) rfl k24
    generalize hI3 : u2 (u2 (cAn s n (I 4) (I 5) (wsC I (nI S)) d) (18 + s) 5 (nI f)) 3 3 0 = I3
    have i3 : ∀ b, ¬ (2 ≤ b ∧ b ≤ 57) ∨ (4 ≤ b ∧ b ≤ 9) → I3 b = I b := fun b hb => by rw [← hI3, u2_ne (by omega), u2_ne (by omega), cAn_ne (by omega), wsC_ne (by omega)]
    have i32 : I3 2 = wsC I (nI S) 2 := by rw [← hI3, u2_ne (by omega), u2_ne (by omega), cAn_ne (by omega)]
    have hfr : frM I J (epC (I 145 5) I3) (jAn 15 n (J 6) J d) := fun b hb => ⟨by rw [epC_m hb, i3 b (by omega)], jAn_ne (by omega) d⟩
    obtain ⟨hC0, hH0, hK0, -, -⟩ := wprep (k := S) hI o1 hb2 (by omega) hrb hfr
    have hM2 : ∀ b, 145 < b → wsM (u2 (epC (I 145 5) I3) 145 0 0) (nI S) b = I b := fun b hb => by rw [wsM_ne (by omega), u2_ne (by omega), (hfr b (by omega)).1]
    generalize hMw : wsM (u2 (epC (I 145 5) I3) 145 0 0) (nI S) = Mw at hC0 hH0 hK0 hM2
    have hEGJ1 : EGJ n t st tm fv (wsC I (nI S)) J (u2 Mw 145 22 0) (jAn 15 n (J 6) J d) := EGJ_fr ⟨hC0.1, hC0.2.2.2.1, hC0.2.2.2.2⟩ rfl (fun b _ _ _ => rfl) (fun b q1 _ _ => u2_ne (by omega)) (e22 2 (by omega) _) (e22 13 (by omega) _)
    have hH1 : HC (fun i => ¬ i = s) n st fv (u2 Mw 145 22 0) := by
      have : HC (fun _ => True) n st fv (u2 Mw 145 22 0) := HC_fr hH0 (fun b _ _ => u2_ne (by omega)) (e22 2 (by omega) _)
      exact fun e he _ hc => this e he trivial hc
    obtain ⟨hA, hHA⟩ := EGJ_n (ids := I 4) (tys := I 5) (ds := J 6) hs hrn hty hEGJ1 hH1 d (Nat.le_refl _)
    obtain ⟨hE3, hH3⟩ := IE_hide1 hA.1 hHA hs f2 (fun e he hse => f3 e he hse)
    generalize hMa : mAn s n (I 4) (I 5) (u2 Mw 145 22 0) d = Ma at hA hHA hE3 hH3
    have ma : ∀ b, b < 145 ∨ 153 < b ∨ b = 150 → Ma b = u2 Mw 145 22 0 b := fun b hb => by rw [← hMa, mAn_ne hb]
    have ma145 : ∀ j, ¬ j = 13 → Ma 145 j = u2 Mw 145 22 0 145 j := fun j hj => by rw [← hMa, mAn_145 hj]
    have m3 : ∀ b, 153 < b → mHd (upn st n s d) Ma (n + d) b = Mw b := fun b hb => by rw [mHd_ne (by omega), ma b (by omega), u2_ne (by omega)]
    have m145 : ∀ j, ¬ j = 13 → ¬ j = 22 → mHd (upn st n s d) Ma (n + d) 145 j = Mw 145 j := fun j q1 q2 => by rw [mHd_ne (by omega), ma145 j q1, e22 j q2]
    have hC3 : InvC (n + d) t (upn st n s d) (upn tm n t d) (updn fv s f) I3 (jAn 15 n (J 6) J d) (mHd (upn st n s d) Ma (n + d)) (jAn 150 n (J 6) (jAn 15 n (J 6) J d) d) := by
      refine ⟨IE_fr hE3 ?_ (fun b q1 q2 => ?_) (fun _ _ _ => rfl) rfl rfl rfl rfl, ?_, IP_fr hC0.2.2.1 ?_ (fun b q1 q2 => ?_) ⟨m3 168 (by omega), m3 169 (by omega)⟩ (m145 32 (by omega) (by omega)), IG_fr hA.2.1 (fun b q1 q2 => ?_) (fun b q1 q2 => ?_) (fun e he => ?_), IJ_fr hA.2.2 (fun b q1 q2 => ?_) (fun b q1 q2 => ?_) (fun _ _ _ => rfl) rfl⟩
      · rw [← hI3, u2_ne (by omega)]
      · rw [← hI3, u2_ne (by omega)]
      · refine ⟨0, by omega, by rw [← hI3, u2_at, if_pos ⟨rfl, rfl⟩]; rfl, by rw [mHd_ne (by omega), ma145 22 (by omega), u2_at, if_pos ⟨rfl, rfl⟩]; rfl, ?_, ?_, ?_, fun i hi => absurd hi (by omega)⟩
        · rw [i3 4 (by omega), m3 158 (by omega), hM2 158 (by omega)]; exact b4
        · rw [i3 5 (by omega), m3 159 (by omega), hM2 159 (by omega)]; exact b5
        · rw [jAn_ne (by omega), jAn_ne (by omega), jAn_ne (by omega)]; exact b6
      · rw [i3 7 (by omega), wsC_ne (by omega)]
      · rw [i3 b (by omega), wsC_ne (by omega)]
      · rw [← hI3, u2_ne (by omega), u2_ne (by omega)]
      · rw [mHd_ne (by omega)]
      · rw [mHd_ne (by omega)]
      · rw [← hI3, u2_ne (by omega), u2_ne (by omega)]
      · rw [mHd_ne (by omega)]
    have hK3 : IKm (I 145 5) I3 (mHd (upn st n s d) Ma (n + d)) := IKm_fr hK0 i32 (m145 1 (by omega) (by omega)) (m145 3 (by omega) (by omega)) (m145 4 (by omega) (by omega)) (m145 5 (by omega) (by omega)) (m145 43 (by omega) (by omega))
    have hcl : ∀ (o : eO) (σo : eS), _ → Run 72 0 [(0, .ref 1), (1, .int (nI s)), (2, .int x2)] [] (mS L I J h z) o σo := fun o σo H => hcw o σo ⟨_, _, _, k2, fun k => absurd k (by decide), fun _ => ⟨_, _, k21, r72_244 ⟨I3, _, (by rw [← hI3]; exact s8), H⟩⟩⟩
    refine call_w (n' := n + d) (t' := t) (st' := upn st n s d) (tm' := upn tm n t d) (fv' := updn fv s f) (v := some (.int (nI n))) (c := 3) hC3 hH3 hK3 (fun hq => ?_) (fun hq => ?_) (fun h z => ?_) (fun b hb => ?_) (fun b q1 q2 => jAn_ne (by omega) d) ?_ (by omega) (by decide) (by decide)
    · exact hcl _ _ (Or.inl ⟨_, _, s104 (hK3.2.1.trans (if_pos hq)), by rw [n7], rfl⟩)
    · exact hcl _ _ (Or.inr ⟨2, _, _, s104t (hK3.2.1.trans (if_neg hq)), rfl, rfl⟩)
    · refine ⟨_, hm2 _ _ _ _ _ _ hfr (fun k => absurd ⟨hrn, hrb⟩ k) (fun _ => ⟨fun k => absurd (hl.symm.trans k) (by decide), fun _ => ?_⟩), fun _ => rfl⟩
      rw [hMw]
      have h165 : ∀ g e, g < 8 → n ≤ e → e < 2500 → u2 Mw 145 22 0 165 (2500 * g + e) = 0 := fun g e hg q1 q2 => by
        rw [u2_ne (by omega)]; exact ((hC0.2.2.2.1 g hg).2.2.2.2.2.2.2.1 e q1 q2).1
      have hx := s125_ad (L := L) (h := h) (z := z) (M := u2 Mw 145 22 0) (K := jAn 15 n (J 6) J d) (x6 := nI n) (ids := I 4) (tys := I 5) (ds := J 6) (o := .inl (some (.int (nI n)))) (σo := mS L (epM (I 145 5) 3 (mHd (upn st n s d) Ma (n + d))) (jAn 150 n (J 6) (jAn 15 n (J 6) J d) d) h z) hs b1 hrn (by rw [e22 13 (by omega)]; exact hC0.1.2.2.2.1) (by rw [u2_ne (by omega), hM2 158 (by omega), b4]) (by rw [u2_ne (by omega), hM2 159 (by omega), b5]) (by rw [jAn_ne (by omega), ← b6]) h165 (by
          rw [hMa]
          refine r125_346 ⟨fun _ => ⟨_, _, s120 (st := upn st n s d) (n := n + d) hrn hA.1.2.2.2.1 (fun e he => ⟨(hA.1.2.2.2.2.2.2.2.1 e he).1, (hA.1.2.2.2.2.2.2.2.1 e he).2.1⟩), r125_388 ⟨_, _, s119e hK3, rfl, rfl⟩⟩, fun k => absurd (nI_le (Nat.le_refl _) (by omega)) k⟩) d 0 (by omega)
      exact hx
    · rw [mHd_ne (by omega), ma b (by omega), u2_ne (by omega), ← hMw, wsM_ne (by omega), u2_ne (by omega)]
    · exact i3 0 (by omega)
end
