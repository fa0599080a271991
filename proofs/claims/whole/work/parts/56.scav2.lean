/-! scavenge. -/
section
variable {L h z n t : Nat} {st tm fv fv' : Nat → Nat} {I I' M M' : rI} {J K J' K' : rJ}
def rwC (I : rI) (x : Int32) : rI := if lsC I x = true then u2 (u2 (u2 I 2 0 (onC I)) 2 1 x) 2 2 1 else u2 I 2 0 (onC I)
def rwM (I : rI) (x : Int32) : rI := if lsM I x = true then u2 (u2 (u2 I 145 43 (flM I)) 145 3 x) 145 4 1 else u2 I 145 43 (flM I)
theorem s3 {x : Int32} : dU 3 [.ref 2, .int x] L h z I J (rwC I x) J := by
  refine r3_0 ⟨_, _, _, s5, fun c => ?_, fun c => ?_⟩
  · exact ⟨rfl, by unfold rwC; rw [b_eq.mp c]; rfl⟩
  · exact ⟨rfl, by unfold rwC; rw [b_ne.mp c]; rfl⟩
theorem rwC_ne {x : Int32} {b : Nat} (hb : ¬ b = 2) : rwC I x b = I b := by
  unfold rwC; split <;> simp only [u2_ne hb]
theorem rwM_ne {x : Int32} {b : Nat} (hb : ¬ b = 145) : rwM M x b = M b := by
  unfold rwM; split <;> simp only [u2_ne hb]
theorem rwM_145 {x : Int32} {j : Nat} (hj : ¬ j = 3 ∧ ¬ j = 4 ∧ ¬ j = 43) : rwM M x 145 j = M 145 j := by
  unfold rwM; split
  · rw [u2_at, if_neg (by omega), u2_at, if_neg (by omega), u2_at, if_neg (by omega)]
  · rw [u2_at, if_neg (by omega)]
theorem IK_rw {x : Nat} (h : IK I M) (ho : M 145 1 = 1) (hx : x ≤ 100000) : IKm (M 145 5) (rwC I (nI x)) (rwM M (nI x)) ∧ (M 145 5 = -1 → rwC I (nI x) 2 1 = nI x) := by
  obtain ⟨a1, a2, a3, a4, a5, a6, a7⟩ := h
  have a6 := a6 ho
  have e : lsC I (nI x) = lsM M (nI x) := by
    unfold lsC lsM
    rw [a6]
    by_cases c : M 145 5 = -1
    · rw [c]; rfl
    · have c2 : ¬ M 145 5 < 0 := by
        simp only [ti_lt, ti_le, ti_eq, Int32.reduceToInt] at *; omega
      simp only [c, c2, decide_false, Bool.false_or]
      by_cases c3 : M 145 5 < nI x
      · have : ¬ nI x ≤ M 145 5 := by simp only [ti_lt, ti_le] at *; omega
        simp [c3, this]
      · have : nI x ≤ M 145 5 := by simp only [ti_lt, ti_le] at *; omega
        simp [c3, this]
  have e3 : M 145 5 = -1 ↔ M 145 5 < 0 := by
    simp only [ti_lt, ti_le, ti_eq, Int32.reduceToInt] at *; omega
  refine ⟨?_, fun k => ?_⟩
  · unfold IKm rwC rwM onC flM
    rw [e]
    cases hl : lsM M (nI x) with
    | true =>
      simp only [if_true, u2_at]
      simp [ho, a3, a5, a6, a7, e3]
      exact ⟨x, hx, rfl⟩
    | false =>
      simp [u2_at, ho, a3, a5, a6, a7, e3]
      obtain ⟨b, hb1, hb2⟩ := a4
      exact ⟨b, hb1, hb2⟩
  · have : lsC I (nI x) = true := by rw [e]; unfold lsM; simp [e3.mp k]
    unfold rwC
    rw [this]
    simp [u2_at]
theorem kSz_le (h0 : InvC n t st tm fv I J M K) : kSz n st fv M K ≤ 1000000 := by
  have n1 := h0.1.1
  unfold kSz
  have h1 := cn_le (mvs M (-1)) n
  have h2 := cn_le (usd M) 40
  have h3 := tot_le (f := gSz M n) (c := 20032) 8 (fun g hg => by
    have q1 := cn_le (mst M g 1) n
    have q2 := cn_le (mst M g 2) n
    unfold gSz; split <;> omega)
  have h4 := tot_le (f := pSz M K) (c := 1856) 8 (fun p hp => by
    have q1 := cn_le (uVr (fun i => K 179 (128 * p + i))) 32
    obtain ⟨y1, y2, y3⟩ := h0.2.2.2.2 p hp
    unfold pSz
    split
    · omega
    · rename_i c
      obtain ⟨⟨k, c1, c2, c3, c4⟩, -⟩ := y3 (y2.resolve_left c)
      rw [c3, cl k (by omega)]
      omega)
  omega
theorem kSz_cg {I0 : rI} (h1 : ∀ b, 145 < b → I0 b = M b) : kSz n st fv I0 K = kSz n st fv M K := by
  unfold kSz
  have e1 : mvs I0 (-1) = mvs M (-1) := by funext e; unfold mvs; rw [h1 152 (by omega), h1 146 (by omega)]
  have e2 : usd I0 = usd M := by funext e; unfold usd; rw [h1 153 (by omega), h1 154 (by omega), h1 155 (by omega), h1 156 (by omega), h1 157 (by omega)]
  have e3 : gSz I0 n = gSz M n := by
    funext g
    have : ∀ x, mst I0 g x = mst M g x := fun x => by funext e; unfold mst; rw [h1 152 (by omega), h1 165 (by omega)]
    unfold gSz; rw [h1 161 (by omega), this, this]
  have e4 : pSz I0 K = pSz M K := by funext p; unfold pSz; rw [h1 170 (by omega), h1 171 (by omega)]
  rw [e1, e2, e3, e4]
theorem call_scav (hI : Inv n t st tm fv I J I J) : callOk 86 148 [] [1, 2] t L h z I J := by
  rcases Inv_on hI with ⟨o1, o2⟩ | ⟨o1, o2⟩
  · refine call_bad (rv := some (.int 0)) (e := 1) (c := 1) hI ?_ ?_ (by decide) (by decide)
    · exact r86_0 (Or.inr ⟨1, s100t o2, rfl, rfl⟩)
    · exact r148_0 ⟨fun c => absurd o1 c, fun _ => r148_13 ⟨_, _, _, s114t, fun c => absurd c (by decide), fun _ => ⟨rfl, rfl⟩⟩⟩
  have o10 : ¬ I 145 1 = 0 := by rw [o1]; decide
  have hS1 := kSz_le hI.1
  have k109 := s109 (L := L) (h := h) (z := z) hI.1
  have hm0 : ∀ (Ic : rI) (h z : Nat) (o : eO) (σo : eS), frM I J Ic J → (¬ kSz n st fv I J ≤ 100000 → o = .inl (some (.int 0)) ∧ σo = mS L (u2 Ic 145 0 1) J h z) → (kSz n st fv I J ≤ 100000 → Run 148 355 [(0, .ref 145), (1, .int (nI (kSz n st fv I J)))] [] (mS L (rwM (u2 Ic 145 0 0) (nI (kSz n st fv I J))) J h z) o σo) → Run 148 0 [(0, .ref 145)] [] (mS L Ic J h z) o σo := by
    intro Ic h z o σo hfr H1 H2
    have q2 : ∀ b, 145 < b → u2 Ic 145 0 0 b = I b := fun b hb => by rw [u2_ne (by omega), (hfr b (by omega)).1]
    have q : ∀ j, ¬ j = 0 → u2 Ic 145 0 0 145 j = I 145 j := fun j hj => by rw [u2_at, if_neg (fun k => hj k.2), (hfr 145 (by omega)).1]
    have hI0 : Inv n t st tm fv I J (u2 Ic 145 0 0) J := Inv_t0 (Inv_cg hI frC_rfl hfr) (Or.inl rfl)
    have eK : kSz n st fv (u2 Ic 145 0 0) J = kSz n st fv I J := kSz_cg q2
    refine r148_0 ⟨fun _ => r148_13 ⟨_, _, _, s114f, fun _ => s148 hI0.1 ?_, fun c => absurd rfl c⟩, fun c => absurd c (by rw [(hfr 145 (by omega)).1]; exact o10)⟩
    rw [eK]
    refine r148_180 ⟨fun _ => ⟨fun c => ?_, fun c => ?_⟩, fun c => absurd (by decide) c⟩
    · have c := (nI_leI (b := 100000) (by omega) (by omega)).mp c
      have H2 := H2 c
      refine r148_305 ⟨_, _, _, s114f, fun _ => ?_, fun c => absurd rfl c⟩
      rw [u2_u2]
      unfold rwM lsM flM at H2
      refine ⟨fun c5 => ?_, fun c5 => ?_⟩
      · refine r148_327 ⟨⟨rfl, rfl⟩, fun _ => r148_345 ?_, fun c6 => absurd rfl c6⟩
        rw [decide_eq_true c5, Bool.true_or, if_pos rfl, if_pos c5] at H2
        exact H2
      · refine r148_327 ⟨⟨rfl, rfl⟩, fun c6 => absurd c6 (by decide), fun _ => ⟨fun c7 => ?_, fun c7 => r148_345 ?_⟩⟩
        · rw [decide_eq_false c5, decide_eq_false (nle.mpr c7), if_neg c5] at H2
          exact H2
        · rw [decide_eq_true (nlt.mp c7), Bool.or_true, if_pos rfl, if_neg c5] at H2
          exact H2
    · have c : ¬ kSz n st fv I J ≤ 100000 := fun k => c ((nI_leI (b := 100000) (by omega) (by omega)).mpr k)
      obtain ⟨G1, G2⟩ := H1 c
      refine r148_305 ⟨_, _, _, s114t, fun c => absurd c (by decide), fun _ => ⟨G1, ?_⟩⟩
      rw [u2_u2]; exact G2
  by_cases hr : kSz n st fv I J ≤ 100000
  case neg =>
    refine call_bad (rv := some (.int 0)) (e := 1) (c := 1) hI (r86_0 (Or.inl ⟨s100 o2, _, k109, fun c => absurd ((nI_leI (b := 100000) (by omega) (by omega)).mp c) hr, fun _ => ⟨rfl, rfl⟩⟩)) (hm0 _ _ _ _ _ frM_rfl (fun _ => ⟨rfl, rfl⟩) (fun c => absurd c hr)) (by decide) (by decide)
  have hle : nI (kSz n st fv I J) ≤ 100000 := (nI_leI (b := 100000) (by omega) (by omega)).mpr hr
  generalize hx : kSz n st fv I J = x at *
  have hfr : frM I J (epC (I 145 5) (rwC I (nI x))) J := fun b hb => ⟨by rw [epC_m hb, rwC_ne (by omega)], rfl⟩
  have hI0 : Inv n t st tm fv I J (u2 (epC (I 145 5) (rwC I (nI x))) 145 0 0) J := Inv_t0 (Inv_cg hI frC_rfl hfr) (Or.inl rfl)
  have q : ∀ j, ¬ j = 0 → u2 (epC (I 145 5) (rwC I (nI x))) 145 0 0 145 j = I 145 j := fun j hj => by rw [u2_at, if_neg (fun k => hj k.2), (hfr 145 (by omega)).1]
  obtain ⟨hK, hv⟩ := IK_rw (x := x) hI0.2.2 (by rw [q 1 (by omega)]; exact o1) hr
  rw [q 5 (by omega)] at hK hv
  have hC : InvC n t st tm fv (rwC I (nI x)) J (rwM (u2 (epC (I 145 5) (rwC I (nI x))) 145 0 0) (nI x)) J := InvC_fr2 hI0.1 (fun b _ _ hb => rwC_ne hb) (fun b hb => rwM_ne (by omega)) (fun j hj => rwM_145 (by omega))
  have hH := HC_fr (M' := rwM (u2 (epC (I 145 5) (rwC I (nI x))) 145 0 0) (nI x)) hI0.2.1 (fun b h1 h2 => rwM_ne (by omega)) (rwM_145 (by omega))
  refine call_w (n' := n) (t' := t) (st' := st) (tm' := tm) (fv' := fv) (v := some (.int (nI x))) (c := 2) hC hH hK (fun hp => ?_) (fun hp => ?_) (fun h z => ?_) (fun b hb => ?_) (fun _ _ _ => rfl) (rwC_ne (by omega)) (by omega) (by decide) (by decide)
  · exact r86_0 (Or.inl ⟨s100 o2, _, k109, fun _ => ⟨_, _, s3, Or.inl ⟨_, _, s104 (hK.2.1.trans (if_pos hp)), by rw [hv hp], rfl⟩⟩, fun c => absurd hle c⟩)
  · exact r86_0 (Or.inl ⟨s100 o2, _, k109, fun _ => ⟨_, _, s3, Or.inr ⟨2, _, _, s104t (hK.2.1.trans (if_neg hp)), rfl, rfl⟩⟩, fun c => absurd hle c⟩)
  · exact ⟨_, hm0 _ _ _ _ _ hfr (fun c => absurd hr c) (fun _ => r148_355 ⟨_, _, s119e hK, rfl, rfl⟩), fun _ => rfl⟩
  · rw [rwM_ne (by omega), u2_ne (by omega)]
end
