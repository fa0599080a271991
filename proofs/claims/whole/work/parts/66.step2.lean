/-! step. -/
section
variable {L h z n t c : Nat} {st tm fv fv' : Nat → Nat} {I I' M M' : rI} {J K J' K' : rJ}
theorem call_step {x1 : Int32} (hI : Inv n t st tm fv I J I J) : callOk 84 146 [.int x1] [3, 1, 2] t L h z I J := by
  have hE := hI.1.1
  have n1 := hE.1
  have n2 := hE.2.2.2.1
  have n7 := hE.2.2.1
  rcases Inv_on hI with ⟨o1, o2⟩ | ⟨o1, o2⟩
  · refine call_bad (rv := some (.int 0)) (e := 1) (c := 2) hI ?_ ?_ (by decide) (by decide)
    · exact r84_0 (Or.inr ⟨1, s100t o2, rfl, rfl⟩)
    · exact r146_0 ⟨fun q => absurd o1 q, fun _ => r146_13 ⟨_, _, _, s114t, fun _ => ⟨rfl, rfl⟩, fun q => absurd q (by decide)⟩⟩
  have o10 : ¬ I 145 1 = 0 := by rw [o1]; decide
  have h95 := s95 (L := L) (h := h) (z := z) (I := I) (J := J) (x := x1)
  have h45 : Run 146 45 [(0, .ref 145), (1, .int x1)] [.int 1, .ref 145] (mS L (u2 I 145 0 0) J (h + 1) (z + 6)) (.inl (some (.int 0))) (mS L (u2 I 145 0 1) J (h + 1) (z + 6)) :=
    r146_45 ⟨_, _, _, s114t, fun _ => ⟨rfl, by rw [u2_u2]⟩, fun q => absurd q (by decide)⟩
  cases hr1 : rg x1 8 with
  | false =>
    rw [hr1] at h95
    refine call_bad (rv := some (.int 0)) (e := 3) (c := 1) hI ?_ ?_ (by decide) (by decide)
    · exact r84_0 (Or.inl ⟨s100 o2, _, h95, fun _ => ⟨rfl, rfl⟩, fun q => absurd rfl q⟩)
    · exact r146_0 ⟨fun _ => r146_13 ⟨_, _, _, s114f, fun q => absurd rfl q, fun _ => ⟨_, s115r hr1 (by omega) (by omega) (by decide), fun _ => h45, fun q => absurd rfl q⟩⟩, fun q => absurd q o10⟩
  | true =>
  have hr0 := hr1
  rw [hr1] at h95
  obtain ⟨p, hp, rfl⟩ := (rg_t (by omega)).mp hr1
  have hvp : vp_in (nI p) 8 := vp_in_nI hp (by omega)
  have hcp := cl p (by omega)
  obtain ⟨a1, a2, a3⟩ := hI.1.2.2.2.2 p hp
  have a0 : IJ1 n p I J I J := ⟨a1, a2, a3⟩
  rcases a2 with a2 | a2
  · refine call_bad (rv := some (.int 0)) (e := 3) (c := 1) hI ?_ ?_ (by decide) (by decide)
    · refine r84_0 (Or.inl ⟨s100 o2, _, h95, fun q => absurd q (by decide), fun _ => ⟨hvp, fun q => ?_, fun _ => ⟨rfl, rfl⟩⟩⟩)
      rw [hcp, R0_64 hp, a1] at q
      exact absurd a2 q
    · refine r146_0 ⟨fun _ => r146_13 ⟨_, _, _, s114f, fun q => absurd rfl q, fun _ => ⟨_, s115r hr0 (by omega) (by omega) (by decide), fun q => absurd q (by decide), fun _ => ⟨hvp, fun q => ?_, fun _ => h45⟩⟩⟩, fun q => absurd q o10⟩
      rw [hcp, u2_ne (by omega)] at q
      exact absurd a2 q
  obtain ⟨⟨c, d1, d2, d3, d4⟩, d5, d6, d7, d8, d9, ⟨cu, d10, d11⟩, d12, d13, d14⟩ := a3 a2
  have mk : ¬ I 170 p = 0 := by rw [a2]; decide
  have mkc : ¬ I (105 + 5 * p) 2 = 0 := by rw [a1]; exact mk
  -- the model up to its search
  have hm75 : ∀ (Ic : rI) (Jc : rJ) (h z : Nat) (o : eO) (σo : eS), frM I J Ic Jc → (I 178 p = 0 → Run 146 75 [(0, .ref 145), (1, .int (nI p)), (2, .int (nI cu))] [] (mS L (u2 Ic 145 0 0) Jc h z) o σo) → (¬ I 178 p = 0 → o = .inl (some (.int 0)) ∧ σo = mS L (u2 Ic 145 0 2) Jc h z) → Run 146 0 [(0, .ref 145), (1, .int (nI p))] [] (mS L Ic Jc h z) o σo := by
    intro Ic Jc h z o σo hfr H1 H2
    have q2 : ∀ b, 145 < b → u2 Ic 145 0 0 b = I b := fun b hb => by rw [u2_ne (by omega), (hfr b (by omega)).1]
    refine r146_0 ⟨fun _ => r146_13 ⟨_, _, _, s114f, fun k => absurd rfl k, fun _ => ⟨_, s115r (rg_nI (by omega) hp) (by omega) (by omega) (by decide), fun k => absurd k (by decide), fun _ => ⟨hvp, fun _ => ?_, fun k => absurd ?_ mk⟩⟩⟩, fun k => absurd k (by rw [(hfr 145 (by omega)).1]; exact o10)⟩
    · refine r146_45 ⟨_, _, _, s114f, fun k => absurd rfl k, fun _ => ⟨hvp, ?_⟩⟩
      rw [hcp, u2_u2, q2 178 (by omega)]
      rcases d13 with d13 | d13
      · rw [d13]
        refine ⟨_, _, _, s114f, fun _ => ?_, fun k => absurd rfl k⟩
        rw [u2_u2, q2 177 (by omega), d11]
        exact H1 d13
      · rw [d13]
        refine ⟨_, _, _, s114t, fun k => absurd k (by decide), fun _ => ?_⟩
        rw [u2_u2]
        exact H2 (by rw [d13]; decide)
    · rw [hcp, q2 170 (by omega)] at k; exact k
  -- the class up to its search
  have hc1 : ∀ (o : eO) (σo : eS), _ → Run 84 0 [(0, .ref 1), (1, .int (nI p))] [] (mS L I J h z) o σo := fun o σo H => r84_0 (Or.inl ⟨s100 o2, _, h95, fun q => absurd q (by decide), fun _ => ⟨hvp, by rw [hcp, R0_64 hp]; exact ⟨fun _ => H, fun q => absurd q mkc⟩⟩⟩)
  by_cases h178 : I 178 p = 0
  case neg =>
    exact call_bad (rv := some (.int 0)) (e := 1) (c := 2) hI (hc1 _ _ ⟨fun q => absurd (d12.symm.trans q) h178, fun _ => ⟨rfl, rfl⟩⟩) (hm75 _ _ _ _ _ _ frM_rfl (fun q => absurd q h178) (fun _ => ⟨rfl, rfl⟩)) (by decide) (by decide)
  have c7 : I (105 + 5 * p) 7 = 0 := d12.trans h178
  have k60 := s60 (L := L) (h := h) (z := z) hp hE (d9.trans d11) d10
  obtain ⟨r1, r2, r3, r4, r5, r6⟩ := hE.2.2.2.2.2.2.1
  rw [d5, d6, r4] at k60
  cases hnx : sk (wP st fv (I 174 p) (I 175 p) (I 149)) (n - cu) cu with
  | none =>
    rw [hnx] at k60
    refine call_rd (rv := some (.int (-1))) hI (hc1 _ _ ⟨fun _ => ⟨_, k60, fun q => absurd rfl q, fun _ => ⟨rfl, rfl⟩⟩, fun q => absurd c7 q⟩) (hm75 _ _ _ _ _ _ frM_rfl (fun _ => ?_) (fun q => absurd h178 q))
    have q2 : ∀ b, 145 < b → u2 I 145 0 0 b = I b := fun b hb => u2_ne (by omega)
    have hI0 : Inv n t st tm fv I J (u2 I 145 0 0) J := Inv_t0 hI (Or.inl rfl)
    refine s146_nx hp hI0.1.1 (n - cu) cu (by omega) ?_
    rw [q2 174 (by omega), q2 175 (by omega), q2 149 (by omega), hnx]
    refine r146_145 ⟨fun q => absurd ?_ q, fun _ => ⟨rfl, rfl⟩⟩
    show nI n = u2 I 145 0 0 145 13
    rw [u2_at, if_neg (by omega), n2]
  | some e =>
  rw [hnx] at k60
  obtain ⟨e0, e1, e2, -⟩ := sk_some hnx
  have hen : e < n := by omega
  have hs32 : st e < 32 := by
    simp only [wP, Bool.and_eq_true, decide_eq_true_eq] at e2
    exact e2.1.1
  obtain ⟨x1, x2, x3, x4, x5, x6, x7, x8⟩ := hE.2.2.2.2.2.2.2.1 e hen
  have ne1 : ¬ oI (some e) = -1 := fun q => by
    have := (oI_m1 (r := some e) (fun j hj => by cases hj; omega)).mp q
    cases this
  generalize hv : (if I 176 p = 0 then 4 * st e else 0) = v
  have hv4 : v ≤ 124 := by rw [← hv]; split <;> omega
  generalize hwd : (fun i => J 179 (128 * p + v + i)) = w
  have hw : ∀ i, i < 4 → J 179 (128 * p + v + i) = w i := fun i _ => by rw [← hwd]
  have hok : ∀ i, i < c → okOp (I 172 (64 * p + i)) (I 173 (64 * p + i)) ∧ (I 172 (64 * p + i) = 16 ∨ I 172 (64 * p + i) = 17 → ∃ k, k ≤ c ∧ I 173 (64 * p + i) = nI k) := fun i hi => (d4 i hi).2.2
  obtain ⟨I7, J7, k40, f7, fin7⟩ := s40 (I := I) (J := J) (v := v) (f := fun i => I 172 (64 * p + i)) (a := fun i => I 173 (64 * p + i)) (d := J 150 e) (y := (I 149 e).toInt64) (s' := (I 146 e).toInt64) (u := (I 147 e).toInt64) (w := w) (s := st e) hp d1 (show e < 2500 by omega) hok (fun i hi => ⟨(d4 i hi).1, (d4 i hi).2.1⟩) d2 (by rw [r5]) (by rw [r4]) (by rw [r1]) (by rw [r2]) (by rw [r1]; exact x2) hs32 (by rw [d7]; exact hv.symm) (fun i hi => by rw [d14 (v + i) (by omega), ← Nat.add_assoc]; exact hw i hi)
  have mdl : ∀ (Ic : rI) (Jc : rJ), frM I J Ic Jc → _ := fun Ic Jc hfr => s146 (v := v) (e := e) (f := fun i => I 172 (64 * p + i)) (a := fun i => I 173 (64 * p + i)) (d := J 150 e) (y := (I 149 e).toInt64) (s' := (I 146 e).toInt64) (u := (I 147 e).toInt64) (w := w) hp d1 hok hI hfr o10 mk h178 d11 d10 hnx d3 (fun i hi => ⟨rfl, rfl⟩) rfl rfl rfl rfl hv.symm hv4 hw
  generalize vm c (fun i => I 172 (64 * p + i)) (fun i => I 173 (64 * p + i)) (J 150 e) (I 149 e).toInt64 (I 146 e).toInt64 (I 147 e).toInt64 200 (0, (fun _ => 0), w, 0, (fun _ => 0), (fun _ => 0), 0) = r at fin7 mdl
  obtain ⟨b, hb1, hb2⟩ := hI.2.2.2.2.2.1
  have hbc : I7 2 1 = nI b := by rw [f7.1 2 (by omega) (by omega)]; exact hI.2.2.2.2.1.trans hb2
  have i70 : ∀ b, ¬ b = 58 → ¬ b = 61 → I7 b = I b := f7.1
  -- what the model's run leaves
  have prep : ∀ (Ic : rI) (Jc : rJ), frM I J Ic Jc → ∃ (M7 : rI) (K7 : rJ), Inv n t st tm fv I7 J7 M7 K7 ∧ finM M7 K7 r ∧ (∀ b, b < 145 → M7 b = Ic b) ∧ (∀ b, 0 < b → b < 145 → K7 b = Jc b) ∧ M7 145 0 = 0 ∧ (∀ j, ¬ j = 0 → ¬ j = 45 → ¬ j = 49 → ¬ j = 50 → M7 145 j = I 145 j) ∧ (∀ b, 145 < b → ¬ b = 182 → M7 b = I b) ∧
      ∀ (L h z : Nat) (o : eO) (σo : eS), Run 146 242 [(0, .ref 145), (1, .int (nI p)), (2, .int (nI e)), (3, .int (nI (128 * p + v))), (4, .int (bb r.isSome))] [.int (if r.isSome = true then 56 + 24 * M7 145 49 else 24)] (mS L M7 K7 h z) o σo → Run 146 0 [(0, .ref 145), (1, .int (nI p))] [] (mS L Ic Jc h z) o σo := by
    intro Ic Jc hfr
    obtain ⟨M7, K7, z1, z2, z3⟩ := mdl Ic Jc hfr
    have hI0 : Inv n t st tm fv I J (u2 Ic 145 0 0) Jc := Inv_t0 (Inv_cg hI frC_rfl hfr) (Or.inl rfl)
    refine ⟨M7, K7, Inv_vm hI0 (fun b _ _ q1 q2 => f7.1 b q1 q2) (fun b _ _ q1 q2 q3 => f7.2 b q1 q2 q3) (fun b q1 q2 => z1.1 b (by omega) q2) (fun j _ q1 q2 q3 => z1.2.1 j q1 q2 q3) (fun b _ q1 q2 q3 => z1.2.2 b q1 q2 q3), z2, fun b hb => ?_, fun b _ hb => z1.2.2 b (by omega) (by omega) (by omega), ?_, fun j q0 q1 q2 q3 => ?_, fun b q1 q2 => ?_, z3⟩
    · rw [z1.1 b (by omega) (by omega), u2_ne (by omega)]
    · rw [z1.2.1 0 (by omega) (by omega) (by omega), u2_at, if_pos ⟨rfl, rfl⟩]
    · rw [z1.2.1 j q1 q2 q3, u2_at, if_neg (fun k => q0 k.2), (hfr 145 (by omega)).1]
    · rw [z1.1 b (by omega) q2, u2_ne (by omega), (hfr b (by omega)).1]
  have frM7 : frM I J I7 J7 := fun b hb => ⟨f7.1 b (by omega) (by omega), f7.2 b (by omega) (by omega) (by omega)⟩
  have hc2 : ∀ (o : eO) (σo : eS), _ → Run 84 0 [(0, .ref 1), (1, .int (nI p))] [] (mS L I J h z) o σo := fun o σo H => hc1 o σo ⟨fun _ => ⟨_, k60, fun _ => ⟨I7, J7, k40 L h z, H⟩, fun q => absurd q ne1⟩, fun q => absurd c7 q⟩
  cases r with
  | none =>
    have h8 : ¬ I7 58 8 = 0 := fin7
    have e24 : (if (none : Option vS).isSome = true then 56 + 24 * (0 : Int32) else 24) = nI 24 := rfl
    by_cases hr : b + 24 ≤ 100000
    case neg =>
      obtain ⟨M7, K7, p1, p2, p3, p4, p5, p6, p7, p8⟩ := prep I7 J7 frM7
      refine call_rf (e := 1) (c := 2) (rv := some (.int 0)) (Inv_t0 p1 (Or.inl rfl)) (hc2 _ _ ⟨fun q => absurd q h8, fun _ => Or.inr ⟨1, _, _, r107_0 (sP hp) (Or.inr ⟨1, s101rt (k := 24) hbc hb1 (by omega) hr, rfl, rfl⟩), rfl, rfl⟩⟩) (p8 _ _ _ _ _ (s146_rec (g := false) (S := 24) (m := 0) (b := b) hp p5 ((p6 3 (by omega) (by omega) (by omega) (by omega)).trans hb2) hb1 (by omega) ((p6 13 (by omega) (by omega) (by omega) (by omega)).trans n2) n1 (fun k => nomatch k) (fun _ => ⟨rfl, rfl⟩) (fun k => absurd k.2 hr))) p3 p4 (i70 0 (by omega) (by omega)) (by decide) (by decide)
    have k101 := s101r (L := L) (h := h) (z := z) (J := J7) (k := 24) hbc hb1 hr
    have k2 := s2 (L := L) (h := h) (z := z) (I := I7) (J := J7) (x := 24)
    have hroom : (false = true → n + 0 ≤ 2500) ∧ b + 24 ≤ 100000 := ⟨(fun k => nomatch k), hr⟩
    cases hl : lsC I7 24 with
    | false =>
      rw [hl] at k2
      have hfr : frM I J (epC (I 145 5) (wsC I7 24)) J7 := fun b hb => ⟨by rw [epC_m hb, wsC_ne (by omega), (frM7 b hb).1], (frM7 b hb).2⟩
      obtain ⟨M7, K7, p1, p2, p3, p4, p5, p6, p7, p8⟩ := prep _ _ hfr
      have m1 : M7 145 1 = 1 := (p6 1 (by omega) (by omega) (by omega) (by omega)).trans o1
      obtain ⟨hK, -, hpp⟩ := IK_ws (x := 24) (b := b + 24) p1.2.2 m1 (by decide) (by rw [p6 3 (by omega) (by omega) (by omega) (by omega), hb2, show (24 : Int32) = nI 24 from rfl, nI_add]) hr
      have hlm : lsM M7 24 = false := (lsC_M p1.2.2 m1).symm.trans hl
      have hpp := hpp hlm
      rw [p6 5 (by omega) (by omega) (by omega) (by omega)] at hK hpp
      refine call_w (n' := n) (t' := t) (st' := st) (tm' := tm) (fv' := fv) (v := none) (c := 3) (InvC_ws p1.1) (HC_ws p1.2.1) hK (fun k => absurd k hpp) (fun _ => ?_) (fun h z => ?_) (fun b hb => ?_) (fun b q1 q2 => p4 b q1 q2) ?_ (by omega) (by decide) (by decide)
      · exact hc2 _ _ ⟨fun q => absurd q h8, fun _ => Or.inr ⟨2, _, _, r107_0 (sP hp) (Or.inl ⟨k101, _, _, _, k2, fun _ => Or.inr ⟨2, _, _, s104t (hK.2.1.trans (if_neg hpp)), rfl, rfl⟩, fun q => absurd rfl q⟩), rfl, rfl⟩⟩
      · exact ⟨_, p8 _ _ _ _ _ (s146_rec (g := false) (S := 24) (m := 0) (b := b) hp p5 ((p6 3 (by omega) (by omega) (by omega) (by omega)).trans hb2) hb1 (by omega) ((p6 13 (by omega) (by omega) (by omega) (by omega)).trans n2) n1 (fun k => nomatch k) (fun k => absurd hroom k) (fun _ => ⟨fun _ => r146_409 ⟨_, _, s119e hK, fun _ => ⟨rfl, rfl⟩, fun q => absurd rfl q⟩, fun k => absurd (hlm.symm.trans k) (by decide), fun k => absurd (hlm.symm.trans k) (by decide)⟩)), fun k => absurd k hpp⟩
      · rw [wsM_ne (by omega), p3 b hb]
      · rw [wsC_ne (by omega), i70 0 (by omega) (by omega)]
    | true =>
      rw [hl] at k2
      have hfr : frM I J (epC (I 145 5) (u2 (u2 (wsC I7 24) (105 + 5 * p) 7 1) (105 + 5 * p) 6 (nI e))) J7 := fun b hb => ⟨by rw [epC_m hb, u2_ne (by omega), u2_ne (by omega), wsC_ne (by omega), (frM7 b hb).1], (frM7 b hb).2⟩
      obtain ⟨M7, K7, p1, p2, p3, p4, p5, p6, p7, p8⟩ := prep _ _ hfr
      have m1 : M7 145 1 = 1 := (p6 1 (by omega) (by omega) (by omega) (by omega)).trans o1
      obtain ⟨hK0, -, -⟩ := IK_ws (x := 24) (b := b + 24) p1.2.2 m1 (by decide) (by rw [p6 3 (by omega) (by omega) (by omega) (by omega), hb2, show (24 : Int32) = nI 24 from rfl, nI_add]) hr
      have hlm : lsM M7 24 = true := (lsC_M p1.2.2 m1).symm.trans hl
      rw [p6 5 (by omega) (by omega) (by omega) (by omega)] at hK0
      have hCw := InvC_ws (x := 24) p1.1
      have m170 : wsM M7 24 170 p = 1 := by rw [wsM_ne (by omega), p7 170 (by omega) (by omega)]; exact a2
      have hC3 : InvC n t st tm fv (u2 (u2 (wsC I7 24) (105 + 5 * p) 7 1) (105 + 5 * p) 6 (nI e)) J7 (u2 (u2 (wsM M7 24) 178 p 1) 177 p (nI e)) K7 :=
        InvC_P1 hp hCw (IJ1_brk (hCw.2.2.2.2 p hp) m170 hen) (fun b q1 q2 q3 q4 => ⟨by rw [u2_ne (by omega), u2_ne (by omega)], rfl⟩) (fun b q1 q2 => by rw [u2_ne (by omega), u2_ne (by omega)]) (fun j hj => by rw [u2_ne (by omega), u2_ne (by omega)]) (fun b i q1 q2 q3 q4 q5 => by rw [u2_at, if_neg (fun q => q5 q.2), u2_at, if_neg (fun q => q5 q.2)]) (fun b i q1 q2 => by rw [u2_ne (by omega), u2_ne (by omega)]) (fun i hi => rfl) (fun b hb => rfl)
      have hH3 : HC (fun _ => True) n st fv (u2 (u2 (wsM M7 24) 178 p 1) 177 p (nI e)) := HC_fr (HC_ws (x := 24) p1.2.1) (fun b q1 q2 => by rw [u2_ne (by omega), u2_ne (by omega)]) (by rw [u2_ne (by omega), u2_ne (by omega)])
      have hK3 : IKm (I 145 5) (u2 (u2 (wsC I7 24) (105 + 5 * p) 7 1) (105 + 5 * p) 6 (nI e)) (u2 (u2 (wsM M7 24) 178 p 1) 177 p (nI e)) := by
        have em : u2 (u2 (wsM M7 24) 178 p 1) 177 p (nI e) 145 = wsM M7 24 145 := by rw [u2_ne (by omega), u2_ne (by omega)]
        exact IKm_fr hK0 (by rw [u2_ne (by omega), u2_ne (by omega)]) (by rw [em]) (by rw [em]) (by rw [em]) (by rw [em]) (by rw [em])
      have hcl : ∀ (o : eO) (σo : eS), (∃ (v16 : Int32) (I17 : rI) (J18 : rJ), Den 107 [.ref 1, .ref (105 + 5 * p), .int (oI (some e))] (mS L I7 J7 h z) (.inl (some (.int v16))) (mS L I17 J18 h z) ∧ o = .inl (some (.int v16)) ∧ σo = mS L I17 J18 h z) ∨ (∃ (e19 : Nat) (I20 : rI) (J21 : rJ), Den 107 [.ref 1, .ref (105 + 5 * p), .int (oI (some e))] (mS L I7 J7 h z) (.inr e19) (mS L I20 J21 (h + 1) (z + 6)) ∧ o = .inr e19 ∧ σo = mS L I20 J21 (h + 1) (z + 6)) → Run 84 0 [(0, .ref 1), (1, .int (nI p))] [] (mS L I J h z) o σo := fun o σo H => hc2 o σo ⟨fun q => absurd q h8, fun _ => H⟩
      refine call_w (n' := n) (t' := t) (st' := st) (tm' := tm) (fv' := fv) (v := some (.int (-2))) (c := 3) hC3 hH3 hK3 (fun hq => ?_) (fun hq => ?_) (fun h z => ?_) (fun b hb => ?_) (fun b q1 q2 => p4 b q1 q2) ?_ (by omega) (by decide) (by decide)
      · exact hcl _ _ (Or.inl ⟨_, _, _, r107_0 (sP hp) (Or.inl ⟨k101, _, _, _, k2, fun q => absurd q (by decide), fun _ => Or.inl ⟨_, _, s104 (hK3.2.1.trans (if_pos hq)), rfl, rfl⟩⟩), rfl, rfl⟩)
      · exact hcl _ _ (Or.inr ⟨2, _, _, r107_0 (sP hp) (Or.inl ⟨k101, _, _, _, k2, fun q => absurd q (by decide), fun _ => Or.inr ⟨2, _, _, s104t (hK3.2.1.trans (if_neg hq)), rfl, rfl⟩⟩), rfl, rfl⟩)
      · exact ⟨_, p8 _ _ _ _ _ (s146_rec (g := false) (S := 24) (m := 0) (b := b) hp p5 ((p6 3 (by omega) (by omega) (by omega) (by omega)).trans hb2) hb1 (by omega) ((p6 13 (by omega) (by omega) (by omega) (by omega)).trans n2) n1 (fun k => nomatch k) (fun k => absurd hroom k) (fun _ => ⟨fun k => absurd (hlm.symm.trans k) (by decide), fun _ _ => r146_409 ⟨_, _, s119e hK3, fun _ => ⟨rfl, rfl⟩, fun q => absurd rfl q⟩, fun _ k => nomatch k⟩)), fun _ => rfl⟩
      · rw [u2_ne (by omega), u2_ne (by omega), wsM_ne (by omega), p3 b hb]
      · rw [u2_ne (by omega), u2_ne (by omega), wsC_ne (by omega), i70 0 (by omega) (by omega)]
  | some σ =>
  obtain ⟨h', kk, w', m, tys, ds, pc'⟩ := σ
  obtain ⟨g1, g2, g3, g4, g5⟩ := fin7
  have eSz : (56 : Int32) + 24 * nI m = nI (56 + 24 * m) := by
    rw [show (24 : Int32) = nI 24 from rfl, nI_mul, show (56 : Int32) = nI 56 from rfl, nI_add]
  generalize hS : 56 + 24 * m = S at eSz
  have k12 := s12 (L := L) (h := h) (z := z) (I := I7) (J := J7) (x := I7 58 4)
  have i10 : I7 10 7 = nI n := by rw [i70 10 (by omega) (by omega)]; exact n7
  have e12 : (!decide (2500 - I7 10 7 < I7 58 4)) = decide (n + m ≤ 2500) := by
    rw [g3, i10, show (2500 : Int32) = nI 2500 from rfl, nI_sub n1 (by omega), Bool.eq_iff_iff]
    simp only [Bool.not_eq_true', decide_eq_false_iff_not, decide_eq_true_eq]
    rw [nI_ltI (by omega) (by omega)]; omega
  rw [e12] at k12
  have hc3 : ∀ (o : eO) (σo : eS), (∃ (v10 : Int32) (I11 : rI) (J12 : rJ), Den 108 [.ref 1, .int (nI p), .int (nI e)] (mS L I7 J7 h z) (.inl (some (.int v10))) (mS L I11 J12 h z) ∧ o = .inl (some (.int v10)) ∧ σo = mS L I11 J12 h z) ∨ (∃ (e13 : Nat) (I14 : rI) (J15 : rJ), Den 108 [.ref 1, .int (nI p), .int (nI e)] (mS L I7 J7 h z) (.inr e13) (mS L I14 J15 (h + 1) (z + 6)) ∧ o = .inr e13 ∧ σo = mS L I14 J15 (h + 1) (z + 6)) → Run 84 0 [(0, .ref 1), (1, .int (nI p))] [] (mS L I J h z) o σo := fun o σo H => hc2 o σo ⟨fun _ => H, fun q => absurd g1 q⟩
  have p49 : ∀ (M7 : rI) (K7 : rJ), finM M7 K7 (some (h', kk, w', m, tys, ds, pc')) → M7 145 49 = nI m ∧ m ≤ 4 := fun M7 K7 q => ⟨q.2.1, q.1⟩
  -- the model behind its program
  have hm3 : ∀ (M7 : rI) (K7 : rJ) (L h z : Nat) (o : eO) (σo : eS), finM M7 K7 (some (h', kk, w', m, tys, ds, pc')) → M7 145 0 = 0 → M7 145 3 = nI b → M7 145 13 = nI n → (¬ (n + m ≤ 2500 ∧ b + S ≤ 100000) → o = .inl (some (.int 0)) ∧ σo = mS L (u2 M7 145 0 2) K7 h z) → (n + m ≤ 2500 ∧ b + S ≤ 100000 → (lsM M7 (nI S) = false → Run 146 409 [(0, .ref 145), (2, .int (nI e)), (4, .int 1)] [] (mS L (wsM M7 (nI S)) K7 h z) o σo) ∧ (lsM M7 (nI S) = true → Run 146 305 [(0, .ref 145), (1, .int (nI p)), (2, .int (nI e)), (3, .int (nI (128 * p + v))), (4, .int 1), (6, .int (nI 0))] [] (mS L (wsM M7 (nI S)) K7 h z) o σo)) → Run 146 242 [(0, .ref 145), (1, .int (nI p)), (2, .int (nI e)), (3, .int (nI (128 * p + v))), (4, .int (bb (some (h', kk, w', m, tys, ds, pc')).isSome))] [.int (if (some (h', kk, w', m, tys, ds, pc')).isSome = true then 56 + 24 * M7 145 49 else 24)] (mS L M7 K7 h z) o σo := by
    intro M7 K7 L h z o σo hf h0 h3 h13 H1 H2
    obtain ⟨q1, q2⟩ := p49 M7 K7 hf
    show Run 146 242 [(0, .ref 145), (1, .int (nI p)), (2, .int (nI e)), (3, .int (nI (128 * p + v))), (4, .int (bb true))] [.int (56 + 24 * M7 145 49)] (mS L M7 K7 h z) o σo
    rw [q1, eSz]
    exact s146_rec (g := true) (S := S) (m := m) (b := b) hp h0 h3 hb1 (by omega) h13 n1 (fun _ => ⟨q1, q2⟩) (fun k => H1 (fun k2 => k ⟨fun _ => k2.1, k2.2⟩)) (fun k => ⟨(H2 ⟨k.1 rfl, k.2⟩).1, (fun _ k3 => nomatch k3), fun k2 _ => (H2 ⟨k.1 rfl, k.2⟩).2 k2⟩)
  by_cases hr2 : n + m ≤ 2500 ∧ b + S ≤ 100000
  case neg =>
    obtain ⟨M7, K7, p1, p2, p3, p4, p5, p6, p7, p8⟩ := prep I7 J7 frM7
    refine call_rf (e := 1) (c := 2) (rv := some (.int 0)) (Inv_t0 p1 (Or.inl rfl)) (hc3 _ _ (Or.inr ⟨1, I7, J7, r108_0 ⟨_, k12, fun q => ?_, fun _ => ⟨rfl, rfl⟩⟩, rfl, rfl⟩)) (p8 _ _ _ _ _ (hm3 _ _ _ _ _ _ _ p2 p5 ((p6 3 (by omega) (by omega) (by omega) (by omega)).trans hb2) ((p6 13 (by omega) (by omega) (by omega) (by omega)).trans n2) (fun _ => ⟨rfl, rfl⟩) (fun k => absurd k hr2))) p3 p4 (i70 0 (by omega) (by omega)) (by decide) (by decide)
    have q := of_decide_eq_true (b_ne.mp q)
    rw [g3, eSz]
    exact Or.inr ⟨1, s101rt (k := S) hbc hb1 (by omega) (fun k => hr2 ⟨q, k⟩), rfl, rfl⟩
  obtain ⟨hrn, hrb⟩ := hr2
  rw [decide_eq_true hrn] at k12
  have k101 := s101r (L := L) (h := h) (z := z) (J := J7) (k := S) hbc hb1 hrb
  have k2 := s2 (L := L) (h := h) (z := z) (I := I7) (J := J7) (x := nI S)
  have hc4 : ∀ (o : eO) (σo : eS), _ → Run 108 0 [(0, .ref 1), (1, .int (nI p)), (2, .int (nI e))] [] (mS L I7 J7 h z) o σo := fun o σo H => r108_0 ⟨_, k12, fun _ => Or.inl ⟨by rw [g3, eSz]; exact k101, _, _, _, by rw [g3, eSz]; exact k2, H⟩, fun q => absurd q (by decide)⟩
  cases hl : lsC I7 (nI S) with
  | false =>
    rw [hl] at hc4
    have hfr : frM I J (epC (I 145 5) (wsC I7 (nI S))) J7 := fun b hb => ⟨by rw [epC_m hb, wsC_ne (by omega), (frM7 b hb).1], (frM7 b hb).2⟩
    obtain ⟨M7, K7, p1, p2, p3, p4, p5, p6, p7, p8⟩ := prep _ _ hfr
    have m1 : M7 145 1 = 1 := (p6 1 (by omega) (by omega) (by omega) (by omega)).trans o1
    obtain ⟨hK, -, hpp⟩ := IK_ws (x := nI S) (b := b + S) p1.2.2 m1 ((nI_ltI (a := 0) (by omega) (by omega)).mpr (by omega)) (by rw [p6 3 (by omega) (by omega) (by omega) (by omega), hb2, nI_add]) hrb
    have hlm : lsM M7 (nI S) = false := (lsC_M p1.2.2 m1).symm.trans hl
    have hpp := hpp hlm
    rw [p6 5 (by omega) (by omega) (by omega) (by omega)] at hK hpp
    refine call_w (n' := n) (t' := t) (st' := st) (tm' := tm) (fv' := fv) (v := none) (c := 3) (InvC_ws p1.1) (HC_ws p1.2.1) hK (fun k => absurd k hpp) (fun _ => ?_) (fun h z => ?_) (fun b hb => ?_) (fun b q1 q2 => p4 b q1 q2) ?_ (by omega) (by decide) (by decide)
    · exact hc3 _ _ (Or.inr ⟨2, _, _, hc4 _ _ ⟨fun _ => Or.inr ⟨2, _, _, s104t (hK.2.1.trans (if_neg hpp)), rfl, rfl⟩, fun q => absurd rfl q⟩, rfl, rfl⟩)
    · exact ⟨_, p8 _ _ _ _ _ (hm3 _ _ _ _ _ _ _ p2 p5 ((p6 3 (by omega) (by omega) (by omega) (by omega)).trans hb2) ((p6 13 (by omega) (by omega) (by omega) (by omega)).trans n2) (fun k => absurd ⟨hrn, hrb⟩ k) (fun _ => ⟨fun _ => r146_409 ⟨_, _, s119e hK, fun q => absurd q (by decide), fun _ => ⟨rfl, rfl⟩⟩, fun k => absurd (hlm.symm.trans k) (by decide)⟩)), fun k => absurd k hpp⟩
    · rw [wsM_ne (by omega), p3 b hb]
    · rw [wsC_ne (by omega), i70 0 (by omega) (by omega)]
  | true =>
    rw [hl] at hc4
    have hs : 32 + p < 40 := by omega
    have hty : ∀ i, i < m → ∃ k, k < 16 ∧ tys i = nI k := fun i hi => (g5 i hi).2.2
    -- the class alone
    have e0 : EGJ n t st tm fv (wsC I7 (nI S)) J7 I (u1 J 181 w') := by
      refine ⟨IE_fr hE ?_ (fun b q1 q2 => ?_) (fun _ _ _ => rfl) rfl rfl (f7.2 15 (by omega) (by omega) (by omega)) (u1_ne (by omega)), IG_fr hI.1.2.2.2.1 (fun b q1 q2 => ?_) (fun _ _ _ => rfl) (fun _ _ => rfl), IJ_fr hI.1.2.2.2.2 (fun b q1 q2 => ?_) (fun _ _ _ => rfl) (fun b q1 q2 => f7.2 b (by omega) (by omega) (by omega)) (u1_ne (by omega))⟩
      · rw [wsC_ne (by omega), i70 10 (by omega) (by omega)]
      · rw [wsC_ne (by omega), i70 b (by omega) (by omega)]
      · rw [wsC_ne (by omega), i70 b (by omega) (by omega)]
      · rw [wsC_ne (by omega), i70 b (by omega) (by omega)]
    have e1 := EGJ_keep (e := e) hp e0 a2 hv4 (fun i hi => ⟨g4 i hi, by rw [u1_eq]⟩) hen
    obtain ⟨hAc, -⟩ := EGJ_n (ids := fun i => 4 * nI e + nI i) (tys := tys) (ds := ds) hs hrn hty e1 (fun e he _ hc => hI.2.1 e he trivial (by
      unfold hideC at hc ⊢
      rw [u2_ne (by omega), u2_ne (by omega), u2_ne (by omega), u2_ne (by omega), u2_ne (by omega), u2_ne (by omega), u2_ne (by omega), u2_ne (by omega)] at hc
      exact hc)) m (Nat.le_refl _)
    generalize hI9 : u2 (wsC I7 (nI S)) (105 + 5 * p) 6 (nI e + 1) = I9 at e1 hAc
    generalize hJ9 : u1 J7 (109 + 5 * p) (va_cpy (J7 60) (J7 (109 + 5 * p)) 0 v 4) = J9 at e1 hAc
    have i9 : ∀ b, ¬ b = 2 → ¬ b = 105 + 5 * p → I9 b = I7 b := fun b q1 q2 => by rw [← hI9, u2_ne q2, wsC_ne q1]
    have j9 : ∀ b, ¬ b = 109 + 5 * p → J9 b = J7 b := fun b q1 => by rw [← hJ9, u1_ne q1]
    obtain ⟨f, k24, f1, f2, f3⟩ := s24 (L := L) (h := h) (z := z) (J := jAn 15 n ds J9 m) hs (IE_CV hAc.1)
    have k22 := s22 (L := L) (h := h) (z := z) (I := I9) (J := J9) (x3 := 4 * nI e) (tys := tys) (ds := ds) hs g2 hrn (by rw [i9 58 (by omega) (by omega)]; exact g3) (by rw [i9 10 (by omega) (by omega)]; exact i10) (fun i hi => ⟨by rw [i9 61 (by omega) (by omega)]; exact (g5 i hi).1, by rw [j9 62 (by omega)]; exact (g5 i hi).2.1⟩) k24
    have k63 := s63 (L := L) (h := h) (z := z) (I := wsC I7 (nI S)) (J := J7) (s := st e) (v := v) hp hs32 (by rw [wsC_ne (by omega), i70 (105 + 5 * p) (by omega) (by omega), d7]; exact hv.symm)
    rw [hJ9] at k63
    generalize hI3 : u2 (cAn (32 + p) n (fun i => 4 * nI e + nI i) tys I9 m) (18 + (32 + p)) 5 (nI f) = I3 at k22
    have i3 : ∀ b, ¬ (10 ≤ b ∧ b ≤ 16) → ¬ b = 18 + (32 + p) → I3 b = I9 b := fun b q1 q2 => by rw [← hI3, u2_ne q2, cAn_ne (by omega)]
    have i30 : ∀ b, b = 0 ∨ 145 ≤ b → I3 b = I b := fun b hb => by rw [i3 b (by omega) (by omega), i9 b (by omega) (by omega), i70 b (by omega) (by omega)]
    have hfr : frM I J (epC (I 145 5) I3) (jAn 15 n ds J9 m) := fun b hb => ⟨by rw [epC_m hb, i30 b (by omega)], by rw [jAn_ne (by omega) m, j9 b (by omega), (frM7 b hb).2]⟩
    obtain ⟨M7, K7, p1, p2, p3, p4, p5, p6, p7, p8⟩ := prep _ _ hfr
    have m1 : M7 145 1 = 1 := (p6 1 (by omega) (by omega) (by omega) (by omega)).trans o1
    obtain ⟨hK0, -, -⟩ := IK_ws (x := nI S) (b := b + S) p1.2.2 m1 ((nI_ltI (a := 0) (by omega) (by omega)).mpr (by omega)) (by rw [p6 3 (by omega) (by omega) (by omega) (by omega), hb2, nI_add]) hrb
    have hlm : lsM M7 (nI S) = true := (lsC_M p1.2.2 m1).symm.trans hl
    rw [p6 5 (by omega) (by omega) (by omega) (by omega)] at hK0
    have hCw := InvC_ws (x := nI S) p1.1
    have hHw := HC_ws (x := nI S) p1.2.1
    obtain ⟨q1, q2, q3, q4⟩ := p2
    have m170 : wsM M7 (nI S) 170 p = 1 := by rw [wsM_ne (by omega), p7 170 (by omega) (by omega)]; exact a2
    have e2 := EGJ_keep (e := e) hp ⟨hCw.1, hCw.2.2.2.1, hCw.2.2.2.2⟩ m170 hv4 (fun i hi => ⟨g4 i hi, q3 i hi⟩) hen
    rw [hI9, hJ9] at e2
    generalize hMw : u2 (wsM M7 (nI S)) 177 p (nI e + 1) = Mw at e2
    have mw : ∀ b, ¬ b = 177 → Mw b = wsM M7 (nI S) b := fun b q => by rw [← hMw, u2_ne q]
    have hH2 : HC (fun i => ¬ i = 32 + p) n st fv Mw := by
      have : HC (fun _ => True) n st fv Mw := HC_fr hHw (fun b q1 q2 => mw b (by omega)) (by rw [mw 145 (by omega)])
      exact fun e he _ hc => this e he trivial hc
    obtain ⟨hA, hHA⟩ := EGJ_n (ids := fun i => 4 * nI e + nI i) (tys := tys) (ds := ds) hs hrn hty e2 hH2 m (Nat.le_refl _)
    obtain ⟨hE3, hH3⟩ := IE_hide1 hA.1 hHA hs f2 (fun e he hse => f3 e he hse)
    rw [hI3] at hE3
    generalize hMa : mAn (32 + p) n (fun i => 4 * nI e + nI i) tys Mw m = Ma at hA hHA hE3 hH3
    have ma : ∀ b, b < 145 ∨ 153 < b ∨ b = 150 → Ma b = Mw b := fun b hb => by rw [← hMa, mAn_ne hb]
    have ma145 : ∀ j, ¬ j = 13 → Ma 145 j = Mw 145 j := fun j hj => by rw [← hMa, mAn_145 hj]
    have m3 : ∀ b, 153 < b → ¬ b = 177 → mHd (upn st n (32 + p) m) Ma (n + m) b = wsM M7 (nI S) b := fun b hb h7 => by rw [mHd_ne (by omega), ma b (by omega), mw b h7]
    have m145 : ∀ j, ¬ j = 13 → mHd (upn st n (32 + p) m) Ma (n + m) 145 j = wsM M7 (nI S) 145 j := fun j q1 => by rw [mHd_ne (by omega), ma145 j q1, mw 145 (by omega)]
    have jn : ∀ b, ¬ b = 15 → jAn 15 n ds J9 m b = J9 b := fun b hb => jAn_ne hb m
    have hC3 : InvC (n + m) t (upn st n (32 + p) m) (upn tm n t m) (updn fv (32 + p) f) I3 (jAn 15 n ds J9 m) (mHd (upn st n (32 + p) m) Ma (n + m)) (jAn 150 n ds (mKp K7 (128 * p + v) 4) m) := by
      refine ⟨hE3, ID_fr hCw.2.1 ?_ (fun b q1 q2 => ?_) ⟨m3 158 (by omega) (by omega), m3 159 (by omega) (by omega)⟩ (m145 22 (by omega)) ?_ ?_, IP_fr hCw.2.2.1 ?_ (fun b q1 q2 => ?_) ⟨m3 168 (by omega) (by omega), m3 169 (by omega) (by omega)⟩ (m145 32 (by omega)), IG_fr hA.2.1 (fun b q1 q2 => ?_) (fun b q1 q2 => ?_) (fun e he => ?_), IJ_fr hA.2.2 (fun b q1 q2 => ?_) (fun b q1 q2 => ?_) (fun _ _ _ => rfl) rfl⟩
      · rw [i3 3 (by omega) (by omega), i9 3 (by omega) (by omega), wsC_ne (by omega)]
      · rw [i3 b (by omega) (by omega), i9 b (by omega) (by omega), wsC_ne (by omega)]
      · rw [jn 6 (by omega), j9 6 (by omega)]
      · rw [jAn_ne (by omega) m, mKp_ne (by omega)]
      · rw [i3 7 (by omega) (by omega), i9 7 (by omega) (by omega), wsC_ne (by omega)]
      · rw [i3 b (by omega) (by omega), i9 b (by omega) (by omega), wsC_ne (by omega)]
      · rw [← hI3, u2_ne (by omega)]
      · rw [mHd_ne (by omega)]
      · rw [mHd_ne (by omega)]
      · rw [← hI3, u2_ne (by omega)]
      · rw [mHd_ne (by omega)]
    have hK3 : IKm (I 145 5) I3 (mHd (upn st n (32 + p) m) Ma (n + m)) := IKm_fr hK0 (by rw [i3 2 (by omega) (by omega), ← hI9, u2_ne (by omega)]) (m145 1 (by omega)) (m145 3 (by omega)) (m145 4 (by omega)) (m145 5 (by omega)) (m145 43 (by omega))
    have e32 : (32 : Int32) + nI p = nI (32 + p) := by rw [show (32 : Int32) = nI 32 from rfl, nI_add]
    have ev11 : wsC I7 (nI S) 11 (nI e).toNatClampNeg = nI (st e) := by rw [wsC_ne (by omega), cl e (by omega), i70 11 (by omega) (by omega), r1]; exact x2
    have hc5 : ∀ (o : eO) (σo : eS), _ → Run 108 0 [(0, .ref 1), (1, .int (nI p)), (2, .int (nI e))] [] (mS L I7 J7 h z) o σo := fun o σo H => hc4 o σo ⟨fun q => absurd q (by decide), fun _ => ⟨hvp, vp_in_nI (by omega) (by omega), _, _, by rw [hcp, R0_64 hp, ev11]; exact k63, _, _, by rw [hcp, R0_64 hp, hI9, e32]; exact k22, H⟩⟩
    refine call_w (n' := n + m) (t' := t) (st' := upn st n (32 + p) m) (tm' := upn tm n t m) (fv' := updn fv (32 + p) f) (v := some (.int (nI e))) (c := 3) hC3 hH3 hK3 (fun hq => ?_) (fun hq => ?_) (fun h z => ?_) (fun b hb => ?_) (fun b q1 q2 => ?_) ?_ (by omega) (by decide) (by decide)
    · exact hc3 _ _ (Or.inl ⟨_, _, _, hc5 _ _ (Or.inl ⟨_, _, s104 (hK3.2.1.trans (if_pos hq)), rfl, rfl⟩), rfl, rfl⟩)
    · exact hc3 _ _ (Or.inr ⟨2, _, _, hc5 _ _ (Or.inr ⟨2, _, _, s104t (hK3.2.1.trans (if_neg hq)), rfl, rfl⟩), rfl, rfl⟩)
    · refine ⟨_, p8 _ _ _ _ _ (hm3 _ _ _ _ _ _ _ ⟨q1, q2, q3, q4⟩ p5 ((p6 3 (by omega) (by omega) (by omega) (by omega)).trans hb2) ((p6 13 (by omega) (by omega) (by omega) (by omega)).trans n2) (fun k => absurd ⟨hrn, hrb⟩ k) (fun _ => ⟨fun k => absurd (hlm.symm.trans k) (by decide), fun _ => ?_⟩)), fun _ => rfl⟩
      have h165 : ∀ g e, g < 8 → n ≤ e → e < 2500 → Mw 165 (2500 * g + e) = 0 := fun g e hg q1 q2 => by
        rw [mw 165 (by omega)]; exact ((hCw.2.2.2.1 g hg).2.2.2.2.2.2.2.1 e q1 q2).1
      have y2 := s146_ad (L := L) (h := h) (z := z) (M := Mw) (K := mKp K7 (128 * p + v) 4) (e := e) (x4 := 1) (tys := tys) (ds := ds) (o := .inl (some (.int (nI e)))) (σo := mS L (epM (I 145 5) 3 (mHd (upn st n (32 + p) m) Ma (n + m))) (jAn 150 n ds (mKp K7 (128 * p + v) 4) m) h z) hp g2 hrn (e2.1.2.2.2.1) (by rw [mw 145 (by omega), wsM_145 (by omega)]; exact q2) (fun i hi => ⟨by rw [mw 182 (by omega), wsM_ne (by omega)]; exact (q4 i hi).1, by rw [mKp_ne (by omega)]; exact (q4 i hi).2⟩) h165 (by
          rw [hMa]
          refine r146_345 ⟨fun _ => ⟨_, _, s120 (st := upn st n (32 + p) m) (n := n + m) hrn hA.1.2.2.2.1 (fun e he => ⟨(hA.1.2.2.2.2.2.2.2.1 e he).1, (hA.1.2.2.2.2.2.2.2.1 e he).2.1⟩), r146_409 ⟨_, _, s119e hK3, fun q => absurd q (by decide), fun _ => ⟨rfl, rfl⟩⟩⟩, fun k => absurd ?_ k⟩
          rw [ma145 49 (by omega), mw 145 (by omega), wsM_145 (by omega), q2]
          exact nI_le (Nat.le_refl _) (by omega)) m 0 (by omega)
      have y1 := s146_k (L := L) (h := h) (z := z) (M := wsM M7 (nI S)) (K := K7) (p := p) (e := e) (v := 128 * p + v) (x4 := 1) (o := .inl (some (.int (nI e)))) (σo := mS L (epM (I 145 5) 3 (mHd (upn st n (32 + p) m) Ma (n + m))) (jAn 150 n ds (mKp K7 (128 * p + v) 4) m) h z) (by omega) (r146_305 ⟨fun _ => ⟨hvp, by rw [hcp, hMw]; exact y2⟩, fun k => absurd (by decide) k⟩) 4 0 (by omega)
      have ek : mKp K7 (128 * p + v) 0 = K7 := by funext b j; unfold mKp; rw [if_neg (by omega)]
      rw [ek] at y1
      exact y1
    · rw [mHd_ne (by omega), ma b (by omega), mw b (by omega), wsM_ne (by omega), p3 b hb]
    · rw [jAn_ne (by omega) m, mKp_ne (by omega), p4 b q1 q2]
    · exact i30 0 (by omega)
end
