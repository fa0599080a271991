/-! acknowledge and refuse. -/
section
variable {L h z n t : Nat} {st tm fv fv' : Nat → Nat} {I I' M M' : rI} {J K J' K' : rJ}
def isOutP (M : rI) (n : Nat) (x1 x2 : Int32) : Prop := ∃ g p, g < 8 ∧ x1 = nI g ∧ p < n ∧ x2 = nI p ∧ ¬ M 166 (2500 * g + p) = 0
theorem s103 {x1 x2 : Int32} (hI : Inv n t st tm fv I J M K) (o2 : I 2 0 = 1) (hP : isOutP M n x1 x2) : dN 103 [.ref 1, .int x1, .int x2] L h z I J := by
  obtain ⟨g, p, hg, rfl, hp, rfl, hne⟩ := hP
  have hE := hI.1.1
  have n1 := hE.1
  obtain ⟨a1, a2, a3, a4, a5, a6, a7, a8, a9, k, po, ho⟩ := hI.1.2.2.2.1 g hg
  have hpo : ∀ i, i < k → po i < 2500 ∧ I (68 + 5 * g) i = nI (po i) := fun i hi => ⟨by have := (ho.2.2.1 i hi).1; omega, (ho.2.2.1 i hi).2.1⟩
  have h94 := s94 (L := L) (h := h) (z := z) (I := I) (J := J) (x := nI g)
  rw [rg_nI (by omega) hg] at h94
  have h11 := s11 (L := L) (h := h) (z := z) (J := J) (x := nI p) hE.2.2.1
  rw [rg_nI (by omega) hp] at h11
  have h29 := s29 (L := L) (h := h) (z := z) (J := J) hg ho.1 (p := p) (by omega) ho.2.1 hpo
  rw [fo_out n1 hp ho, mo, decide_eq_false hne] at h29
  refine r103_0 (Or.inl ⟨s100 o2, _, h94, fun c => absurd c (by decide), fun _ => ⟨_, h11, fun c => absurd c (by decide), fun _ => ⟨vp_in_nI hg (by omega), ?_⟩⟩⟩)
  rw [cl g (by omega), R0_63 hg]
  exact ⟨_, h29, fun _ => ⟨rfl, rfl⟩, fun c => absurd c (by decide)⟩
theorem s103t {x1 x2 : Int32} (hI : Inv n t st tm fv I J M K) (o2 : I 2 0 = 1) (hP : ¬ isOutP M n x1 x2) : dT 103 [.ref 1, .int x1, .int x2] L h z I J 3 I J := by
  have hE := hI.1.1
  have n1 := hE.1
  have h94 := s94 (L := L) (h := h) (z := z) (I := I) (J := J) (x := x1)
  cases hr : rg x1 8 with
  | false =>
    rw [hr] at h94
    exact r103_0 (Or.inl ⟨s100 o2, _, h94, fun _ => ⟨rfl, rfl⟩, fun c => absurd rfl c⟩)
  | true =>
  rw [hr] at h94
  obtain ⟨g, hg, rfl⟩ := (rg_t (by omega)).mp hr
  have h11 := s11 (L := L) (h := h) (z := z) (J := J) (x := x2) hE.2.2.1
  cases hp : rg x2 n with
  | false =>
    rw [hp] at h11
    exact r103_0 (Or.inl ⟨s100 o2, _, h94, fun c => absurd c (by decide), fun _ => ⟨_, h11, fun _ => ⟨rfl, rfl⟩, fun c => absurd rfl c⟩⟩)
  | true =>
  rw [hp] at h11
  obtain ⟨p, hpn, rfl⟩ := (rg_t (by omega)).mp hp
  obtain ⟨a1, a2, a3, a4, a5, a6, a7, a8, a9, k, po, ho⟩ := hI.1.2.2.2.1 g hg
  have hpo : ∀ i, i < k → po i < 2500 ∧ I (68 + 5 * g) i = nI (po i) := fun i hi => ⟨by have := (ho.2.2.1 i hi).1; omega, (ho.2.2.1 i hi).2.1⟩
  have hz : M 166 (2500 * g + p) = 0 := Classical.byContradiction fun c => hP ⟨g, p, hg, rfl, hpn, rfl, c⟩
  have h29 := s29 (L := L) (h := h) (z := z) (J := J) hg ho.1 (p := p) (by omega) ho.2.1 hpo
  rw [fo_out n1 hpn ho, mo, decide_eq_true hz] at h29
  refine r103_0 (Or.inl ⟨s100 o2, _, h94, fun c => absurd c (by decide), fun _ => ⟨_, h11, fun c => absurd c (by decide), fun _ => ⟨vp_in_nI hg (by omega), ?_⟩⟩⟩)
  rw [cl g (by omega), R0_63 hg]
  exact ⟨_, h29, fun c => absurd rfl c, fun _ => ⟨rfl, rfl⟩⟩
theorem s137t {x1 x2 : Int32} (hI : Inv n t st tm fv I J M K) (hP : isOutP M n x1 x2) : dP 137 [.ref 145, .int x1, .int x2] L h z M K 1 := by
  obtain ⟨g, p, hg, rfl, hp, rfl, hne⟩ := hP
  have n1 := hI.1.1.1
  have n2 := hI.1.1.2.2.2.1
  obtain ⟨a1, a2, a3, a4, a5, a6, a7, a8, ⟨f, b1, b2, b3⟩, k, po, ho⟩ := hI.1.2.2.2.1 g hg
  have e : nI g * 2500 + nI p = nI (2500 * g + p) := by
    rw [show (2500 : Int32) = nI 2500 from rfl, nI_mul, nI_add, Nat.mul_comm]
  refine r137_0 ⟨_, s134t hg ((b3 p hp).2 (Or.inr hne)).1, fun c => absurd c (by decide), fun _ => ⟨_, s115n (rg_nI (by omega) hp) (by omega) (by rw [n2]), fun c => absurd c (by decide), fun _ => ?_⟩⟩
  rw [e, cl _ (by omega)]
  exact ⟨vp_in_nI (by omega) (by omega), fun c => absurd c hne, fun _ => ⟨rfl, rfl⟩⟩
theorem s137f {x1 x2 : Int32} (hI : Inv n t st tm fv I J M K) (hP : ¬ isOutP M n x1 x2) : dP 137 [.ref 145, .int x1, .int x2] L h z M K 0 := by
  have n1 := hI.1.1.1
  have n2 := hI.1.1.2.2.2.1
  cases hr : rg x1 8 with
  | false => exact r137_0 ⟨_, s134f (Or.inl hr), fun _ => ⟨rfl, rfl⟩, fun c => absurd rfl c⟩
  | true =>
  obtain ⟨g, hg, rfl⟩ := (rg_t (by omega)).mp hr
  obtain ⟨a1, a2, a3, a4, a5, a6, a7, a8, a9⟩ := hI.1.2.2.2.1 g hg
  rcases a2 with a2 | a2
  · exact r137_0 ⟨_, s134f (Or.inr ⟨g, hg, rfl, a2⟩), fun _ => ⟨rfl, rfl⟩, fun c => absurd rfl c⟩
  cases hp : rg x2 n with
  | false => exact r137_0 ⟨_, s134t hg a2, fun c => absurd c (by decide), fun _ => ⟨_, s115n hp (by omega) (by rw [n2]), fun _ => ⟨rfl, rfl⟩, fun c => absurd rfl c⟩⟩
  | true =>
  have hp0 := hp
  obtain ⟨p, hpn, rfl⟩ := (rg_t (by omega)).mp hp
  have hz : M 166 (2500 * g + p) = 0 := Classical.byContradiction fun c => hP ⟨g, p, hg, rfl, hpn, rfl, c⟩
  have e : nI g * 2500 + nI p = nI (2500 * g + p) := by
    rw [show (2500 : Int32) = nI 2500 from rfl, nI_mul, nI_add, Nat.mul_comm]
  refine r137_0 ⟨_, s134t hg a2, fun c => absurd c (by decide), fun _ => ⟨_, s115n hp0 (by omega) (by rw [n2]), fun c => absurd c (by decide), fun _ => ?_⟩⟩
  rw [e, cl _ (by omega)]
  exact ⟨vp_in_nI (by omega) (by omega), fun _ => ⟨rfl, rfl⟩, fun c => absurd hz c⟩
theorem gDr_u2 {g k i p : Nat} {x : Int32} : gDr (u2 I (66 + 5 * g) p x) g k i = u2 (gDr I g k i) (66 + 5 * g) p x := by
  unfold gDr
  rw [u2_ne (show ¬ 68 + 5 * g = 66 + 5 * g by omega), u2_ne (show ¬ 69 + 5 * g = 66 + 5 * g by omega), u2_c (a := 66 + 5 * g) (b := 65 + 5 * g) (Or.inl (by omega)), u2_c (a := 66 + 5 * g) (b := 68 + 5 * g) (Or.inl (by omega)), u2_c (a := 66 + 5 * g) (b := 69 + 5 * g) (Or.inl (by omega))]
theorem gDr_ne {g k i b : Nat} (hb : ¬ (65 + 5 * g ≤ b ∧ b ≤ 69 + 5 * g)) : gDr I g k i b = I b := by
  unfold gDr; rw [u2_ne (by omega), u2_ne (by omega), u2_ne (by omega)]
theorem InvC_drop {g k i : Nat} {po : Nat → Nat} (h : InvC n t st tm fv I J M K) (hg : g < 8) (ho : IGo n g k po I M) (hi : i < k) : InvC n t st tm fv (gDr I g k i) J (u2 M 166 (2500 * g + po i) 0) K := by
  have n1 := h.1.1
  have hpi := (ho.2.2.1 i hi).1
  refine InvC_G1 hg h (IG1_drop hg n1 (h.2.2.2.1 g hg) ho hi) (fun b q1 q2 q3 q4 => gDr_ne q4) (fun b q1 q2 => u2_ne (by omega)) (fun j hj => by rw [u2_ne (by omega)]) (fun b i q1 q2 q3 => by rw [u2_ne (by omega)]) (fun b j q1 q2 q3 => by rw [u2_at, if_neg (by omega)])
theorem InvC_mark {g k i : Nat} {x : Int32} {po : Nat → Nat} (h : InvC n t st tm fv I J M K) (hg : g < 8) (ho : IGo n g k po I M) (hi : i < k) (hx : x = 1 ∨ x = 2) : InvC n t st tm fv (u2 (gDr I g k i) (66 + 5 * g) (po i) x) J (u2 (u2 M 165 (2500 * g + po i) x) 166 (2500 * g + po i) 0) K := by
  have n1 := h.1.1
  obtain ⟨hpi, y2, y3, y4, -⟩ := ho.2.2.1 i hi
  have hw : ¬ M 166 (2500 * g + po i) = 0 := by rw [y3]; exact y4
  have hG1 := IG1_mark hg n1 (h.2.2.2.1 g hg) hpi hw hx
  have ho1 : IGo n g k po (u2 I (66 + 5 * g) (po i) x) (u2 M 165 (2500 * g + po i) x) := by
    unfold IGo at ho ⊢
    rw [u2_ne (show ¬ 65 + 5 * g = 66 + 5 * g by omega), u2_ne (show ¬ 68 + 5 * g = 66 + 5 * g by omega), u2_ne (show ¬ 69 + 5 * g = 66 + 5 * g by omega), u2_ne (show ¬ 166 = 165 by omega)]
    exact ho
  have hG2 := IG1_drop hg n1 hG1 ho1 hi
  rw [gDr_u2] at hG2
  refine InvC_G1 hg h hG2 (fun b q1 q2 q3 q4 => by rw [u2_ne (by omega)]; exact gDr_ne q4) (fun b q1 q2 => by rw [u2_ne (by omega), u2_ne (by omega)]) (fun j hj => by rw [u2_ne (by omega), u2_ne (by omega)]) (fun b i q1 q2 q3 => by rw [u2_ne (by omega), u2_ne (by omega)]) (fun b j q1 q2 q3 => by rw [u2_at, if_neg (by omega), u2_at, if_neg (by omega)])
theorem IGo_ws {g k : Nat} {po : Nat → Nat} {x : Int32} {Ic : rI} (ho : IGo n g k po I M) (hM : ∀ b, 145 < b → Ic b = M b) : IGo n g k po (wsC I x) (wsM Ic x) := by
  unfold IGo at ho ⊢
  rw [wsC_ne (by omega), wsC_ne (by omega), wsC_ne (by omega), wsM_ne (by omega), hM 166 (by omega)]
  exact ho
theorem call_ack {x1 x2 : Int32} (hI : Inv n t st tm fv I J I J) : callOk 80 138 [.int x1, .int x2] [3, 1, 2] t L h z I J := by
  have hE := hI.1.1
  have n1 := hE.1
  have n2 := hE.2.2.2.1
  rcases Inv_on hI with ⟨o1, o2⟩ | ⟨o1, o2⟩
  · refine call_bad (rv := some (.int 0)) (e := 1) (c := 2) hI ?_ ?_ (by decide) (by decide)
    · exact r80_0 (Or.inr ⟨1, r103_0 (Or.inr ⟨1, s100t o2, rfl, rfl⟩), rfl, rfl⟩)
    · exact r138_0 ⟨fun c => absurd o1 c, fun _ => r138_13 ⟨_, _, _, s114t, fun _ => ⟨rfl, rfl⟩, fun c => absurd c (by decide)⟩⟩
  have o10 : ¬ I 145 1 = 0 := by rw [o1]; decide
  by_cases hO : isOutP I n x1 x2
  case neg =>
    refine call_bad (rv := some (.int 0)) (e := 3) (c := 1) hI ?_ ?_ (by decide) (by decide)
    · exact r80_0 (Or.inr ⟨3, s103t hI o2 hO, rfl, rfl⟩)
    · refine r138_0 ⟨fun _ => r138_13 ⟨_, _, _, s114f, fun c => absurd rfl c, fun _ => ⟨_, s137f (Inv_t0 hI (Or.inl rfl)) (by unfold isOutP; rw [u2_ne (by omega)]; exact hO), fun c => absurd rfl c, fun _ => ?_⟩⟩, fun c => absurd c o10⟩
      refine r138_35 ⟨_, _, _, s114t, fun _ => ⟨rfl, ?_⟩, fun c => absurd c (by decide)⟩
      rw [u2_u2]
  have k103 := s103 (L := L) (h := h) (z := z) hI o2 hO
  have hO0 := hO
  obtain ⟨g, p, hg, rfl, hp, rfl, hne⟩ := hO
  have hv : vp_in (nI g) 8 := vp_in_nI hg (by omega)
  have hcg := cl g (by omega)
  obtain ⟨a1, a2, a3, a4, a5, a6, a7, a8, a9, k, po, ho⟩ := hI.1.2.2.2.1 g hg
  have hk16 := ho.1
  have hcnt := out_cn n1 ho
  obtain ⟨i, hi, hpi⟩ : ∃ i, i < k ∧ po i = p := Classical.byContradiction fun c => hne (ho.2.2.2 p (by omega) (fun i hi q => c ⟨i, hi, q⟩))
  have hfo : fo po k p = some i := by rw [← hpi]; exact fo_some hi (ho.2.2.1 i hi).2.2.2.2
  obtain ⟨b, hb, hb2⟩ := hI.2.2.2.2.2.1
  have hb1 : I 2 1 = nI b := hI.2.2.2.2.1.trans hb2
  have e : nI g * 2500 + nI p = nI (2500 * g + p) := by
    rw [show (2500 : Int32) = nI 2500 from rfl, nI_mul, nI_add, Nat.mul_comm]
  have e1 : nI k - 1 = nI (k - 1) := by rw [show (1 : Int32) = nI 1 from rfl, nI_sub (by omega) (by omega)]
  -- the model up to its room
  have hm0 : ∀ (Ic : rI) (h z : Nat) (o : eO) (σo : eS), frM I J Ic J → ((100000 < b + 32 → o = .inl (some (.int 0)) ∧ σo = mS L (u2 Ic 145 0 2) J h z) ∧ (¬ 100000 < b + 32 → (lsC I 32 = false → Run 138 101 [(0, .ref 145), (3, .int (nI (k - 1)))] [] (mS L (wsM (u2 Ic 145 0 0) 32) J h z) o σo) ∧ (lsC I 32 = true → Run 138 101 [(0, .ref 145), (3, .int (nI (k - 1)))] [] (mS L (u2 (u2 (wsM (u2 Ic 145 0 0) 32) 165 (2500 * g + p) 1) 166 (2500 * g + p) 0) J h z) o σo))) → Run 138 0 [(0, .ref 145), (1, .int (nI g)), (2, .int (nI p))] [] (mS L Ic J h z) o σo := by
    intro Ic h z o σo hfr H
    have q : ∀ j, ¬ j = 0 → u2 Ic 145 0 0 145 j = I 145 j := fun j hj => by rw [u2_at, if_neg (fun k => hj k.2), (hfr 145 (by omega)).1]
    have q2 : ∀ b, 145 < b → u2 Ic 145 0 0 b = I b := fun b hb => by rw [u2_ne (by omega), (hfr b (by omega)).1]
    have hI0 : Inv n t st tm fv I J (u2 Ic 145 0 0) J := Inv_t0 (Inv_cg hI frC_rfl hfr) (Or.inl rfl)
    refine r138_0 ⟨fun _ => r138_13 ⟨_, _, _, s114f, fun c => absurd rfl c, fun _ => ⟨_, s137t hI0 (by unfold isOutP; rw [q2 166 (by omega)]; exact hO0), fun _ => ?_, fun c => absurd c (by decide)⟩⟩, fun c => absurd c (by rw [(hfr 145 (by omega)).1]; exact o10)⟩
    refine r138_35 ⟨_, _, _, s114f, fun c => absurd rfl c, fun _ => ⟨_, s117r (k := 32) (b := b) (by rw [u2_u2, q 3 (by omega)]; exact hb2) hb (by omega), _, _, _, s114, fun c => ?_, fun c => ?_⟩⟩
    · have c := b_eq.mp c
      rw [c]
      have hr : ¬ 100000 < b + 32 := by simpa using c
      obtain ⟨H1, H2⟩ := H.2 hr
      have hl := (wprep (k := 32) hI o1 hb2 (by omega) (by omega) hfr).2.2.2.1
      rw [u2_u2, if_neg (by decide), u2_u2]
      refine ⟨_, s135 (n := n) hg n1 (by rw [q 13 (by omega)]; exact n2), _, _, _, s118, fun c => ?_, fun c => ?_⟩
      all_goals rw [show cn (mo (u2 Ic 145 0 0) g) n = k by unfold mo; rw [q2 166 (by omega)]; exact hcnt, e1]
      · exact H1 (hl.trans (b_eq.mp c))
      · rw [e, cl _ (by omega)]
        exact ⟨vp_in_nI (by omega) (by omega), H2 (hl.trans (b_ne.mp c))⟩
    · have c := b_ne.mp c
      rw [c]
      have hr : 100000 < b + 32 := by simpa using c
      obtain ⟨H1, H2⟩ := H.1 hr
      rw [u2_u2, if_pos rfl, u2_u2]
      exact ⟨H1, H2⟩
  by_cases hr : b + 32 ≤ 100000
  case neg =>
    refine call_bad (rv := some (.int 0)) (e := 1) (c := 2) hI (r80_0 (Or.inl ⟨k103, Or.inr ⟨1, s101rt (k := 32) hb1 hb (by omega) hr, rfl, rfl⟩⟩)) (hm0 _ _ _ _ _ frM_rfl ⟨fun _ => ⟨rfl, rfl⟩, fun c => absurd (by omega) c⟩) (by decide) (by decide)
  have hrn : ¬ 100000 < b + 32 := by omega
  have k101 := s101r (L := L) (h := h) (z := z) (J := J) (k := 32) hb1 hb hr
  have k2 := s2 (L := L) (h := h) (z := z) (I := I) (J := J) (x := 32)
  cases hl : lsC I 32 with
  | false =>
    rw [hl] at k2
    have hfr : frM I J (epC (I 145 5) (wsC I 32)) J := fun b hb => ⟨by rw [epC_m hb, wsC_ne (by omega)], rfl⟩
    obtain ⟨hC, hH, hK, -, hp⟩ := wprep (k := 32) hI o1 hb2 (by omega) hr hfr
    have hp := hp hl
    refine call_w (n' := n) (t' := t) (st' := st) (tm' := tm) (fv' := fv) (v := none) (c := 3) hC hH hK (fun k => absurd k hp) (fun _ => ?_) (fun h z => ?_) (fun b hb => ?_) (fun _ _ _ => rfl) (wsC_ne (by omega)) (by omega) (by decide) (by decide)
    · exact r80_0 (Or.inl ⟨k103, Or.inl ⟨k101, _, _, _, k2, fun _ => Or.inr ⟨2, _, _, s104t (hK.2.1.trans (if_neg hp)), rfl, rfl⟩, fun c => absurd rfl c⟩⟩)
    · exact ⟨_, hm0 _ _ _ _ _ hfr ⟨fun c => absurd c hrn, fun _ => ⟨fun _ => r138_101 ⟨_, _, s119e hK, rfl, rfl⟩, fun c => absurd (hl.symm.trans c) (by decide)⟩⟩, fun k => absurd k hp⟩
    · rw [wsM_ne (by omega), u2_ne (by omega)]; rfl
  | true =>
    rw [hl] at k2
    have hfr : frM I J (epC (I 145 5) (u2 (gDr (wsC I 32) g k i) (66 + 5 * g) p 1)) J := fun b hb => ⟨by rw [epC_m hb, u2_ne (by omega), gDr_ne (by omega), wsC_ne (by omega)], rfl⟩
    obtain ⟨hC0, hH0, hK0, -, -⟩ := wprep (k := 32) hI o1 hb2 (by omega) hr hfr
    have hoW : IGo n g k po (wsC I (nI 32)) (wsM (u2 (epC (I 145 5) (u2 (gDr (wsC I 32) g k i) (66 + 5 * g) p 1)) 145 0 0) (nI 32)) := IGo_ws ho (fun b hb => by rw [u2_ne (by omega), (hfr b (by omega)).1])
    have hC3 := InvC_mark (x := 1) hC0 hg hoW hi (Or.inl rfl)
    rw [hpi] at hC3
    generalize hMw : wsM (u2 (epC (I 145 5) (u2 (gDr (wsC I 32) g k i) (66 + 5 * g) p 1)) 145 0 0) (nI 32) = Mw at hC3 hH0 hK0
    have hH3 : HC (fun _ => True) n st fv (u2 (u2 Mw 165 (2500 * g + p) 1) 166 (2500 * g + p) 0) := HC_fr hH0 (fun b q1 q2 => by rw [u2_ne (by omega), u2_ne (by omega)]) (by rw [u2_ne (by omega), u2_ne (by omega)])
    have hK3 : IKm (I 145 5) (u2 (gDr (wsC I (nI 32)) g k i) (66 + 5 * g) p 1) (u2 (u2 Mw 165 (2500 * g + p) 1) 166 (2500 * g + p) 0) := by
      have e : u2 (u2 Mw 165 (2500 * g + p) 1) 166 (2500 * g + p) 0 145 = Mw 145 := by rw [u2_ne (by omega), u2_ne (by omega)]
      exact IKm_fr hK0 (by rw [u2_ne (by omega), gDr_ne (by omega)]) (by rw [e]) (by rw [e]) (by rw [e]) (by rw [e]) (by rw [e])
    have k31 := s31 (L := L) (h := h) (z := z) (I := wsC I 32) (J := J) (p := p) (po := po) hg hk16 (by omega) (by rw [wsC_ne (by omega)]; exact ho.2.1) (fun i hi => ⟨by have := (ho.2.2.1 i hi).1; omega, by rw [wsC_ne (by omega)]; exact (ho.2.2.1 i hi).2.1⟩) hfo
    refine call_w (n' := n) (t' := t) (st' := st) (tm' := tm) (fv' := fv) (v := some (.int (nI (k - 1)))) (c := 3) hC3 hH3 hK3 (fun hp => ?_) (fun hp => ?_) (fun h z => ?_) (fun b hb => ?_) (fun _ _ _ => rfl) ?_ (by omega) (by decide) (by decide)
    · refine r80_0 (Or.inl ⟨k103, Or.inl ⟨k101, _, _, _, k2, fun c => absurd c (by decide), fun _ => ⟨hv, ?_⟩⟩⟩)
      rw [hcg, R0_63 hg]
      refine ⟨_, _, k31, Or.inl ⟨_, _, s104 (hK3.2.1.trans (if_pos hp)), ?_, rfl⟩⟩
      rw [u2_ne (by omega)]
      unfold gDr
      rw [u2_ne (by omega), u2_ne (by omega), u2_at, if_pos ⟨rfl, rfl⟩]
    · refine r80_0 (Or.inl ⟨k103, Or.inl ⟨k101, _, _, _, k2, fun c => absurd c (by decide), fun _ => ⟨hv, ?_⟩⟩⟩)
      rw [hcg, R0_63 hg]
      exact ⟨_, _, k31, Or.inr ⟨2, _, _, s104t (hK3.2.1.trans (if_neg hp)), rfl, rfl⟩⟩
    · refine ⟨_, hm0 _ _ _ _ _ hfr ⟨fun c => absurd c hrn, fun _ => ⟨fun c => absurd (hl.symm.trans c) (by decide), fun _ => ?_⟩⟩, fun _ => rfl⟩
      rw [show wsM (u2 (epC (I 145 5) (u2 (gDr (wsC I (nI 32)) g k i) (66 + 5 * g) p 1)) 145 0 0) 32 = Mw from hMw]
      exact r138_101 ⟨_, _, s119e hK3, rfl, rfl⟩
    · rw [u2_ne (by omega), u2_ne (by omega), ← hMw, wsM_ne (by omega), u2_ne (by omega)]; rfl
    · rw [u2_ne (by omega), gDr_ne (by omega), wsC_ne (by omega)]
end
