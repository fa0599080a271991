/-! projection. -/
section
variable {L h z n t : Nat} {st tm fv fv' : Nat → Nat} {I I' M M' : rI} {J K J' K' : rJ}
theorem pMk_5 {p c : Nat} {x2 x3 x4 : Int32} : pMk I p c x2 x3 x4 (105 + 5 * p) 2 = 1 ∧ pMk I p c x2 x3 x4 (105 + 5 * p) 3 = x2 ∧ pMk I p c x2 x3 x4 (105 + 5 * p) 4 = x3 ∧ pMk I p c x2 x3 x4 (105 + 5 * p) 5 = x4 ∧ pMk I p c x2 x3 x4 (105 + 5 * p) 6 = 0 ∧ pMk I p c x2 x3 x4 (105 + 5 * p) 7 = 0 := by
  unfold pMk
  refine ⟨?_, ?_, ?_, ?_, ?_, ?_⟩ <;> simp [u2_at]
theorem pMk_b {p c b : Nat} {x2 x3 x4 : Int32} (hb : ¬ b = 105 + 5 * p) : pMk I p c x2 x3 x4 b = pCpy I p c b := by
  unfold pMk; rw [u2_ne hb, u2_ne hb, u2_ne hb, u2_ne hb, u2_ne hb, u2_ne hb]
theorem pCpy_6 {p c : Nat} : pCpy I p c (106 + 5 * p) 2 = nI c := by
  unfold pCpy; rw [u2_at, if_pos ⟨rfl, rfl⟩]
theorem pCpy_7 {p c i : Nat} (hi : i < c) : pCpy I p c (107 + 5 * p) i = I 8 i := by
  unfold pCpy va_cpy
  rw [u2_ne (by omega), u1_ne (by omega), u1_eq, if_pos ⟨by omega, by omega⟩, show 0 + (i - 0) = i by omega]
theorem pCpy_8 {p c i : Nat} (hi : i < c) : pCpy I p c (108 + 5 * p) i = I 9 i := by
  unfold pCpy va_cpy
  rw [u2_ne (by omega), u1_eq, if_pos ⟨by omega, by omega⟩, show 0 + (i - 0) = i by omega]
theorem pCpy_ne {p c b : Nat} (hb : ¬ (106 + 5 * p ≤ b ∧ b ≤ 108 + 5 * p)) : pCpy I p c b = I b := by
  unfold pCpy; rw [u2_ne (by omega), u1_ne (by omega), u1_ne (by omega)]
theorem pMk_ne {p c b : Nat} {x2 x3 x4 : Int32} (hb : ¬ (105 + 5 * p ≤ b ∧ b ≤ 109 + 5 * p)) : pMk I p c x2 x3 x4 b = I b := by
  rw [pMk_b (by omega), pCpy_ne (by omega)]
theorem pFl_ne {p b : Nat} (hb : ¬ b = 109 + 5 * p) : pFl J p b = J b := u1_ne hb
theorem mFl_ne {p k b : Nat} (hb : ¬ b = 179) : mFl K p k b = K b := by
  funext j; unfold mFl; rw [if_neg (fun q => hb q.1)]
def pMm (M : rI) (p c : Nat) (x2 x3 x4 : Int32) : rI := u2 (u2 (u2 (u2 (u2 (mCpy (u2 (u2 M 170 p 1) 171 p (nI c)) p c) 174 p x2) 175 p x3) 176 p x4) 177 p 0) 178 p 0
theorem pMm_ne {p c b : Nat} {x2 x3 x4 : Int32} (hb : b < 170 ∨ 178 < b) : pMm M p c x2 x3 x4 b = M b := by
  unfold pMm
  rw [u2_ne (by omega), u2_ne (by omega), u2_ne (by omega), u2_ne (by omega), u2_ne (by omega), mCpy_ne (by omega) (by omega), u2_ne (by omega), u2_ne (by omega)]
theorem pMm_i {p c b i : Nat} {x2 x3 x4 : Int32} (h1 : ¬ b = 172) (h2 : ¬ b = 173) (hi : ¬ i = p) : pMm M p c x2 x3 x4 b i = M b i := by
  unfold pMm
  rw [u2_at, if_neg (fun q => hi q.2), u2_at, if_neg (fun q => hi q.2), u2_at, if_neg (fun q => hi q.2), u2_at, if_neg (fun q => hi q.2), u2_at, if_neg (fun q => hi q.2), mCpy_ne h1 h2, u2_at, if_neg (fun q => hi q.2), u2_at, if_neg (fun q => hi q.2)]
theorem pMm_o {p c b i : Nat} {x2 x3 x4 : Int32} (hb : b = 172 ∨ b = 173) (hc : c ≤ 64) (hi : i < 64 * p ∨ 64 * p + 64 ≤ i) : pMm M p c x2 x3 x4 b i = M b i := by
  unfold pMm mCpy
  rw [u2_ne (by omega), u2_ne (by omega), u2_ne (by omega), u2_ne (by omega), u2_ne (by omega), if_neg (by omega), if_neg (by omega), u2_ne (by omega), u2_ne (by omega)]
theorem pMm_p {p c : Nat} {x2 x3 x4 : Int32} : pMm M p c x2 x3 x4 170 p = 1 ∧ pMm M p c x2 x3 x4 171 p = nI c ∧ pMm M p c x2 x3 x4 174 p = x2 ∧ pMm M p c x2 x3 x4 175 p = x3 ∧ pMm M p c x2 x3 x4 176 p = x4 ∧ pMm M p c x2 x3 x4 177 p = 0 ∧ pMm M p c x2 x3 x4 178 p = 0 := by
  unfold pMm
  refine ⟨?_, ?_, ?_, ?_, ?_, ?_, ?_⟩
  · rw [u2_ne (by omega), u2_ne (by omega), u2_ne (by omega), u2_ne (by omega), u2_ne (by omega), mCpy_ne (by omega) (by omega), u2_ne (by omega), u2_at, if_pos ⟨rfl, rfl⟩]
  · rw [u2_ne (by omega), u2_ne (by omega), u2_ne (by omega), u2_ne (by omega), u2_ne (by omega), mCpy_ne (by omega) (by omega), u2_at, if_pos ⟨rfl, rfl⟩]
  all_goals simp [u2_at]
theorem pMm_2 {p c i : Nat} {x2 x3 x4 : Int32} (hi : i < c) : pMm M p c x2 x3 x4 172 (64 * p + i) = M 168 i ∧ pMm M p c x2 x3 x4 173 (64 * p + i) = M 169 i := by
  unfold pMm mCpy
  constructor
  · rw [u2_ne (by omega), u2_ne (by omega), u2_ne (by omega), u2_ne (by omega), u2_ne (by omega), if_pos ⟨rfl, by omega, by omega⟩, u2_ne (by omega), u2_ne (by omega), show 64 * p + i - 64 * p = i by omega]
  · rw [u2_ne (by omega), u2_ne (by omega), u2_ne (by omega), u2_ne (by omega), u2_ne (by omega), if_neg (by omega), if_pos ⟨rfl, by omega, by omega⟩, u2_ne (by omega), u2_ne (by omega), show 64 * p + i - 64 * p = i by omega]
theorem call_proj {x1 x2 x3 x4 : Int32} (h4 : bI x4) (hI : Inv n t st tm fv I J I J) : callOk 83 141 [.int x1, .int x2, .int x3, .int x4] [0, 1, 2] t L h z I J := by
  have hE := hI.1.1
  obtain ⟨c, c1, c2, c3, c4, c5, c6⟩ := hI.1.2.2.1
  have h95 := s95 (L := L) (h := h) (z := z) (I := I) (J := J) (x := x1)
  by_cases hgood : rg x1 8 = true ∧ 0 < c ∧ ∀ i, i < c → jmpB (I 168) (I 169) c i = true
  case neg =>
    have hbad : rg x1 8 = false ∨ c = 0 ∨ ∃ i, i < c ∧ jmpB (I 168) (I 169) c i = false := by
      by_cases b1 : rg x1 8 = true
      · by_cases b2 : c = 0
        · exact Or.inr (Or.inl b2)
        · refine Or.inr (Or.inr (Classical.byContradiction fun b3 => hgood ⟨b1, by omega, fun i hi => ?_⟩))
          cases hj : jmpB (I 168) (I 169) c i with
          | true => rfl
          | false => exact absurd ⟨i, hi, hj⟩ b3
      · exact Or.inl (Bool.eq_false_iff.mpr b1)
    refine call_bad (rv := some (.int 0)) (e := 0) (c := 1) hI ?_ ?_ (by decide) (by decide)
    · refine r83_0 ⟨_, h95, fun _ => ⟨rfl, rfl⟩, fun q => ⟨fun _ => ⟨rfl, rfl⟩, fun q2 => ⟨_, s56f c1 c2 ?_, fun q3 => absurd rfl q3, fun _ => ⟨rfl, rfl⟩⟩⟩⟩
      rcases hbad with hb | hb | hb
      · exact absurd hb (by rw [b_ne.mp q]; decide)
      · rw [c2, hb] at q2; exact absurd rfl q2
      · rw [c4, c5]; exact hb
    · exact s141 c1 c3 (fun p1 p2 p3 => absurd ⟨p1, p2, p3⟩ hgood) (fun _ => r141_98 ⟨_, _, _, s114t, fun _ => ⟨rfl, rfl⟩, fun q => absurd q (by decide)⟩)
  obtain ⟨g1, g2, g3⟩ := hgood
  have hgg : ¬ (rg x1 8 = false ∨ c = 0 ∨ ∃ i, i < c ∧ jmpB (I 168) (I 169) c i = false) := by
    rintro (q | q | ⟨i, q1, q2⟩)
    · rw [g1] at q; cases q
    · omega
    · rw [g3 i q1] at q2; cases q2
  obtain ⟨p, hp, rfl⟩ := (rg_t (by omega)).mp g1
  rw [g1] at h95
  have hv : vp_in (nI p) 8 := vp_in_nI hp (by omega)
  have hcp := cl p (by omega)
  have k56 := s56t (L := L) (h := h) (z := z) (J := J) c1 c2 (by rw [c4, c5]; exact g3)
  have n0 : ¬ nI c = 0 := nI_ne0 g2 (by omega)
  have hc0 : ∀ (o : eO) (σo : eS), _ → Run 83 0 [(0, .ref 1), (1, .int (nI p)), (2, .int x2), (3, .int x3), (4, .int x4)] [] (mS L I J h z) o σo := fun o σo H => r83_0 ⟨_, h95, fun q => absurd q (by decide), fun _ => ⟨fun q => absurd (c2.symm.trans q) n0, fun _ => ⟨_, k56, fun _ => H, fun q => absurd q (by decide)⟩⟩⟩
  rcases Inv_on hI with ⟨o1, o2⟩ | ⟨o1, o2⟩
  · refine call_bad (rv := some (.int 0)) (e := 1) (c := 2) hI (hc0 _ _ (Or.inr ⟨1, s100t o2, rfl, rfl⟩)) (s141 c1 c3 (fun _ _ _ => r141_98 ⟨_, _, _, s114f, fun q => absurd rfl q, fun _ => ⟨fun _ => r141_135 ⟨_, _, _, s114t, fun q => absurd q (by decide), fun _ => ⟨rfl, ?_⟩⟩, fun q => absurd ?_ q⟩⟩) (fun q => absurd q hgg)) (by decide) (by decide)
    · rw [u2_u2]
    · rw [u2_at, if_neg (by omega)]; exact o1
  have o10 : ¬ I 145 1 = 0 := by rw [o1]; decide
  have eSz : (24 : Int32) + 8 * nI c = nI (24 + 8 * c) := by
    rw [show (8 : Int32) = nI 8 from rfl, nI_mul, show (24 : Int32) = nI 24 from rfl, nI_add]
  generalize hS : 24 + 8 * c = S at eSz
  obtain ⟨b, hb1, hb2⟩ := hI.2.2.2.2.2.1
  have hbc : I 2 1 = nI b := hI.2.2.2.2.1.trans hb2
  have x4n : vp_nar .boolean x4 = x4 := by rcases h4 with rfl | rfl <;> rfl
  have hm0 : ∀ (Ic : rI) (Jc : rJ) (h z : Nat) (o : eO) (σo : eS), frM I J Ic Jc → (100000 < b + S → o = .inl (some (.int 0)) ∧ σo = mS L (u2 Ic 145 0 2) Jc h z) → (¬ 100000 < b + S → (lsC I (nI S) = false → Run 141 306 [(0, .ref 145), (6, .int (nI c))] [] (mS L (u2 (wsM (u2 Ic 145 0 0) (nI S)) 145 32 0) Jc h z) o σo) ∧ (lsC I (nI S) = true → Run 141 306 [(0, .ref 145), (6, .int (nI c))] [] (mS L (pMm (u2 (wsM (u2 Ic 145 0 0) (nI S)) 145 32 0) p c x2 x3 x4) (mFl Jc p 128) h z) o σo)) → Run 141 0 [(0, .ref 145), (1, .int (nI p)), (2, .int x2), (3, .int x3), (4, .int x4)] [] (mS L Ic Jc h z) o σo := by
    intro Ic Jc h z o σo hfr H1 H2
    have q : ∀ j, ¬ j = 0 → u2 Ic 145 0 0 145 j = I 145 j := fun j hj => by rw [u2_at, if_neg (fun k => hj k.2), (hfr 145 (by omega)).1]
    have qc : ∀ b, 145 < b → Ic b = I b := fun b hb => (hfr b (by omega)).1
    refine s141 c1 (by rw [(hfr 145 (by omega)).1]; exact c3) (fun _ _ _ => ?_) (fun k => absurd k (by rw [qc 168 (by omega), qc 169 (by omega)]; exact hgg))
    refine r141_98 ⟨_, _, _, s114f, fun k => absurd rfl k, fun _ => ⟨fun k => absurd k (by rw [q 1 (by omega)]; exact o10), fun _ => ?_⟩⟩
    rw [q 32 (by omega), c3, eSz]
    have h135 : ∀ (bv : Bool), bv = decide (100000 < b + S) → Run 141 135 [(0, .ref 145), (1, .int (nI p)), (2, .int x2), (3, .int x3), (4, .int x4)] [.int (bb bv), .ref 145] (mS L (u2 Ic 145 0 0) Jc h z) o σo := by
      intro bv hbv
      refine r141_135 ⟨_, _, _, s114, fun k => ?_, fun k => ?_⟩
      · have k := b_eq.mp k
        have hr : ¬ 100000 < b + S := by rw [k] at hbv; simpa using hbv.symm
        obtain ⟨G1, G2⟩ := H2 hr
        have hl := (wprep (k := S) hI o1 hb2 (by omega) (by omega) hfr).2.2.2.1
        rw [k, if_neg (by decide), u2_u2, q 32 (by omega), c3, eSz]
        have k118 := s118 (L := L) (h := h) (z := z) (I := u2 (u2 Ic 145 0 0) 145 32 0) (J := Jc) (x := nI S)
        rw [wsM_u2 (by omega)] at k118
        have e118 : lsM (u2 (u2 Ic 145 0 0) 145 32 0) (nI S) = lsM (u2 Ic 145 0 0) (nI S) := by
          unfold lsM; rw [u2_at, if_neg (by omega)]
        rw [e118] at k118
        refine ⟨_, _, _, k118, fun k3 => G1 (hl.trans (b_eq.mp k3)), fun k3 => ⟨hv, ?_⟩⟩
        rw [hcp]
        have G2 := G2 (hl.trans (b_ne.mp k3))
        have y1 := s141_cp (L := L) (h := h) (z := z) (M := u2 (u2 (u2 (wsM (u2 Ic 145 0 0) (nI S)) 145 32 0) 170 p 1) 171 p (nI c)) (J := Jc) (x2 := x2) (x3 := x3) (x4 := x4) (o := o) (σo := σo) hp c1 (r141_188 ⟨fun _ => ⟨hv, ?_⟩, fun k => absurd (nI_le (Nat.le_refl _) (by omega)) k⟩) c 0 (by omega)
        · have e0 : mCpy (u2 (u2 (u2 (wsM (u2 Ic 145 0 0) (nI S)) 145 32 0) 170 p 1) 171 p (nI c)) p 0 = u2 (u2 (u2 (wsM (u2 Ic 145 0 0) (nI S)) 145 32 0) 170 p 1) 171 p (nI c) := by
            funext b j; unfold mCpy; rw [if_neg (by omega), if_neg (by omega)]
          rw [e0] at y1
          exact y1
        · rw [hcp, x4n]
          have y2 := s141_fl (L := L) (h := h) (z := z) (M := pMm (u2 (wsM (u2 Ic 145 0 0) (nI S)) 145 32 0) p c x2 x3 x4) (K := Jc) (x6 := nI c) (o := o) (σo := σo) hp G2 128 0 (by omega)
          have e0 : mFl Jc p 0 = Jc := by
            funext b j; unfold mFl; rw [if_neg (by omega)]
          rw [e0] at y2
          exact y2
      · have k := b_ne.mp k
        have hr : 100000 < b + S := by rw [k] at hbv; simpa using hbv.symm
        obtain ⟨G1, G2⟩ := H1 hr
        rw [k, if_pos rfl, u2_u2]
        exact ⟨G1, G2⟩
    refine ⟨_, s117r (k := S) (b := b) (by rw [q 3 (by omega)]; exact hb2) hb1 (by omega), fun k => h135 false (b_eq.mp k).symm, fun k => h135 true (b_ne.mp k).symm⟩
  by_cases hr : b + S ≤ 100000
  case neg =>
    refine call_bad (rv := some (.int 0)) (e := 1) (c := 2) hI (hc0 _ _ (Or.inl ⟨s100 o2, Or.inr ⟨1, ?_, rfl, rfl⟩⟩)) (hm0 _ _ _ _ _ _ frM_rfl (fun _ => ⟨rfl, rfl⟩) (fun k => absurd (by omega) k)) (by decide) (by decide)
    rw [c2, eSz]
    exact s101rt (k := S) hbc hb1 (by omega) hr
  have hrn : ¬ 100000 < b + S := by omega
  have k101 := s101r (L := L) (h := h) (z := z) (J := J) (k := S) hbc hb1 hr
  have k2 := s2 (L := L) (h := h) (z := z) (I := I) (J := J) (x := nI S)
  have e2' : ∀ j, ¬ j = 32 → ∀ (M : rI), u2 M 145 32 0 145 j = M 145 j := fun j hj M => by rw [u2_at, if_neg (fun k => hj k.2)]
  cases hl : lsC I (nI S) with
  | false =>
    rw [hl] at k2
    have hfr : frM I J (epC (I 145 5) (u2 (wsC I (nI S)) 7 2 0)) J := fun b hb => ⟨by rw [epC_m hb, u2_ne (by omega), wsC_ne (by omega)], rfl⟩
    obtain ⟨hC, hH, hK, -, hpp⟩ := wprep (k := S) hI o1 hb2 (by omega) hr hfr
    have hpp := hpp hl
    have hC := InvC_c0 hC
    have hH : HC (fun _ => True) n st fv (u2 (wsM (u2 (epC (I 145 5) (u2 (wsC I (nI S)) 7 2 0)) 145 0 0) (nI S)) 145 32 0) := HC_fr hH (fun b _ _ => u2_ne (by omega)) (e2' 2 (by omega) _)
    have hK : IKm (I 145 5) (u2 (wsC I (nI S)) 7 2 0) (u2 (wsM (u2 (epC (I 145 5) (u2 (wsC I (nI S)) 7 2 0)) 145 0 0) (nI S)) 145 32 0) := IKm_fr hK (u2_ne (by omega)) (e2' 1 (by omega) _) (e2' 3 (by omega) _) (e2' 4 (by omega) _) (e2' 5 (by omega) _) (e2' 43 (by omega) _)
    refine call_w (n' := n) (t' := t) (st' := st) (tm' := tm) (fv' := fv) (v := none) (c := 3) hC hH hK (fun k => absurd k hpp) (fun _ => ?_) (fun h z => ?_) (fun b hb => ?_) (fun _ _ _ => rfl) (by rw [u2_ne (by omega), wsC_ne (by omega)]) (by omega) (by decide) (by decide)
    · refine hc0 _ _ (Or.inl ⟨s100 o2, Or.inl ⟨by rw [c2, eSz]; exact k101, _, _, _, by rw [c2, eSz]; exact k2, fun _ => ⟨_, _, s55, Or.inr ⟨2, _, _, s104t (hK.2.1.trans (if_neg hpp)), rfl, rfl⟩⟩, fun k => absurd rfl k⟩⟩)
    · exact ⟨_, hm0 _ _ _ _ _ _ hfr (fun k => absurd k hrn) (fun _ => ⟨fun _ => r141_306 ⟨_, _, s119e hK, rfl, rfl⟩, fun k => absurd (hl.symm.trans k) (by decide)⟩), fun k => absurd k hpp⟩
    · rw [u2_ne (by omega), wsM_ne (by omega), u2_ne (by omega)]
  | true =>
    rw [hl] at k2
    have i3 : ∀ b, b = 0 ∨ 145 ≤ b → u2 (pMk (wsC I (nI S)) p c x2 x3 x4) 7 2 0 b = I b := fun b hb => by rw [u2_ne (by omega), pMk_ne (by omega), wsC_ne (by omega)]
    have hfr : frM I J (epC (I 145 5) (u2 (pMk (wsC I (nI S)) p c x2 x3 x4) 7 2 0)) (pFl J p) := fun b hb => ⟨by rw [epC_m hb, i3 b (by omega)], pFl_ne (by omega)⟩
    obtain ⟨hC0, hH0, hK0, -, -⟩ := wprep (k := S) hI o1 hb2 (by omega) hr hfr
    have hM2 : ∀ b, 145 < b → wsM (u2 (epC (I 145 5) (u2 (pMk (wsC I (nI S)) p c x2 x3 x4) 7 2 0)) 145 0 0) (nI S) b = I b := fun b hb => by rw [wsM_ne (by omega), u2_ne (by omega), (hfr b (by omega)).1]
    generalize hMw : wsM (u2 (epC (I 145 5) (u2 (pMk (wsC I (nI S)) p c x2 x3 x4) 7 2 0)) 145 0 0) (nI S) = Mw at hC0 hH0 hK0 hM2
    have hC1 := InvC_c0 hC0
    have hP : IJ1 n p (u2 (pMk (wsC I (nI S)) p c x2 x3 x4) 7 2 0) (pFl J p) (pMm (u2 Mw 145 32 0) p c x2 x3 x4) (mFl (pFl J p) p 128) := by
      obtain ⟨y1, y2, y3, y4, y5, y6⟩ := pMk_5 (I := wsC I (nI S)) (p := p) (c := c) (x2 := x2) (x3 := x3) (x4 := x4)
      obtain ⟨w1, w2, w3, w4, w5, w6, w7⟩ := pMm_p (M := u2 Mw 145 32 0) (p := p) (c := c) (x2 := x2) (x3 := x3) (x4 := x4)
      unfold IJ1 IJm
      rw [u2_ne (show ¬ 105 + 5 * p = 7 by omega), u2_ne (show ¬ 106 + 5 * p = 7 by omega), u2_ne (show ¬ 107 + 5 * p = 7 by omega), u2_ne (show ¬ 108 + 5 * p = 7 by omega), y1, y2, y3, y4, y5, y6, w1, w2, w3, w4, w5, w6, w7]
      refine ⟨rfl, Or.inr rfl, fun _ => ⟨⟨c, c1, ?_, rfl, fun i hi => ?_⟩, rfl, rfl, rfl, h4, rfl, ⟨0, by omega, rfl⟩, rfl, Or.inl rfl, fun i hi => ?_⟩⟩
      · rw [pMk_b (by omega), pCpy_6]
      · obtain ⟨v1, v2⟩ := pMm_2 (M := u2 Mw 145 32 0) (p := p) (c := c) (x2 := x2) (x3 := x3) (x4 := x4) hi
        rw [v1, v2, pMk_b (by omega), pMk_b (by omega), pCpy_7 hi, pCpy_8 hi, wsC_ne (by omega), wsC_ne (by omega), u2_ne (by omega), u2_ne (by omega), hM2 168 (by omega), hM2 169 (by omega), c4, c5]
        exact ⟨rfl, rfl, c6 i hi, fun hj => jmpB_k c1 (g3 i hi) hj⟩
      · unfold pFl mFl
        rw [u1_at, if_pos rfl, if_pos hi, if_pos ⟨rfl, by omega, by omega⟩]
    have hC3 : InvC n t st tm fv (u2 (pMk (wsC I (nI S)) p c x2 x3 x4) 7 2 0) (pFl J p) (pMm (u2 Mw 145 32 0) p c x2 x3 x4) (mFl (pFl J p) p 128) := by
      refine InvC_P1 hp hC1 hP (fun b q1 q2 q3 q4 => ⟨?_, pFl_ne (by omega)⟩) (fun b q1 q2 => pMm_ne (by omega)) (fun j hj => by rw [pMm_ne (by omega)]) (fun b i q1 q2 q3 q4 q5 => pMm_i q3 q4 q5) (fun b i q1 q2 => pMm_o q1 c1 q2) (fun i hi => ?_) (fun b hb => mFl_ne hb)
      · by_cases e7 : b = 7
        · subst e7
          funext j
          rw [u2_at, u2_at, pMk_ne (by omega)]
        · rw [u2_ne e7, u2_ne e7, pMk_ne q4]
      · unfold mFl; rw [if_neg (by omega)]
    have m145 : ∀ j, ¬ j = 32 → pMm (u2 Mw 145 32 0) p c x2 x3 x4 145 j = Mw 145 j := fun j hj => by rw [pMm_ne (by omega), e2' j hj]
    have hH3 : HC (fun _ => True) n st fv (pMm (u2 Mw 145 32 0) p c x2 x3 x4) := HC_fr hH0 (fun b q1 q2 => by rw [pMm_ne (by omega), u2_ne (by omega)]) (m145 2 (by omega))
    have hK3 : IKm (I 145 5) (u2 (pMk (wsC I (nI S)) p c x2 x3 x4) 7 2 0) (pMm (u2 Mw 145 32 0) p c x2 x3 x4) := IKm_fr hK0 (by rw [u2_ne (by omega), pMk_ne (by omega)]) (m145 1 (by omega)) (m145 3 (by omega)) (m145 4 (by omega)) (m145 5 (by omega)) (m145 43 (by omega))
    have k59 := s59 (L := L) (h := h) (z := z) (I := wsC I (nI S)) (J := J) (x2 := x2) (x3 := x3) hp c1 (by rw [wsC_ne (by omega)]; exact c2) h4
    have hcl : ∀ (o : eO) (σo : eS), _ → Run 83 0 [(0, .ref 1), (1, .int (nI p)), (2, .int x2), (3, .int x3), (4, .int x4)] [] (mS L I J h z) o σo := fun o σo H => hc0 o σo (Or.inl ⟨s100 o2, Or.inl ⟨by rw [c2, eSz]; exact k101, _, _, _, by rw [c2, eSz]; exact k2, fun k => absurd k (by decide), fun _ => ⟨hv, _, _, by rw [hcp, R0_64 hp]; exact k59, _, _, s55, H⟩⟩⟩)
    refine call_w (n' := n) (t' := t) (st' := st) (tm' := tm) (fv' := fv) (v := some (.int (nI c))) (c := 3) hC3 hH3 hK3 (fun hq => ?_) (fun hq => ?_) (fun h z => ?_) (fun b hb => ?_) (fun b q1 q2 => mFl_ne (by omega)) ?_ (by omega) (by decide) (by decide)
    · exact hcl _ _ (Or.inl ⟨_, _, s104 (hK3.2.1.trans (if_pos hq)), by rw [c2], rfl⟩)
    · exact hcl _ _ (Or.inr ⟨2, _, _, s104t (hK3.2.1.trans (if_neg hq)), rfl, rfl⟩)
    · refine ⟨_, hm0 _ _ _ _ _ _ hfr (fun k => absurd k hrn) (fun _ => ⟨fun k => absurd (hl.symm.trans k) (by decide), fun _ => ?_⟩), fun _ => rfl⟩
      rw [hMw]
      exact r141_306 ⟨_, _, s119e hK3, rfl, rfl⟩
    · rw [pMm_ne (by omega), u2_ne (by omega), ← hMw, wsM_ne (by omega), u2_ne (by omega)]
    · exact i3 0 (by omega)
end
