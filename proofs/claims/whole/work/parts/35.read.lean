/-! variable, event, read. -/
section
variable {L h z n t : Nat} {st tm fv : Nat → Nat} {I I' M M' : rI} {J K J' K' : rJ}
theorem nI_mul (a b : Nat) : nI a * nI b = nI (a * b) := (Int32.ofNat_mul a b).symm
theorem Inv_on (hI : Inv n t st tm fv I J M K) : (M 145 1 = 0 ∧ I 2 0 = 0) ∨ (M 145 1 = 1 ∧ I 2 0 = 1) := by
  obtain ⟨a1, a2, a3, a4, a5, a6, a7⟩ := hI.2.2
  rcases a1 with a1 | a1
  · exact Or.inl ⟨a1, a2.trans a1⟩
  · exact Or.inr ⟨a1, a2.trans a1⟩
/-- visible: what both say -/
abbrev vis (st fv : Nat → Nat) (e : Nat) : Bool := !decide (nm st e < fv (st e))
theorem nm_lt {e : Nat} : nm st e ≤ e := cn_le _ _
theorem IE_CW (hE : IE n t st tm fv I J M K) : CW I n := by
  obtain ⟨a1, a2, a3, a4, a5, a6, ⟨b1, b2, b3, b4, b5, b6⟩, a7, a8⟩ := hE
  refine ⟨a3, a1, fun e he => ⟨st e, (a7 e he).1, ?_⟩⟩
  rw [b1]; exact (a7 e he).2.1
theorem IE_fv (hE : IE n t st tm fv I J M K) {s : Nat} (hs : s < 40) : fv s ≤ n := by
  obtain ⟨a1, a2, a3, a4, a5, a6, b, a7, a8⟩ := hE
  have := (a8 s hs).2.2.2.2.2.2.2.2.2.2.2
  exact Nat.le_trans this (cn_le _ _)
theorem cvis_eq (hE : IE n t st tm fv I J M K) {e : Nat} (he : e < n) : cvis I e = vis st fv e := by
  have hf := IE_fv hE (hE.2.2.2.2.2.2.2.1 e he).1
  obtain ⟨a1, a2, a3, a4, a5, a6, ⟨b1, b2, b3, b4, b5, b6⟩, a7, a8⟩ := hE
  obtain ⟨c1, c2, c3, c4⟩ := a7 e he
  have h8 := (a8 (st e) c1).2.2.2.2.2.2.2.2.2.2.1
  have := nm_lt (st := st) (e := e)
  unfold cvis vis
  rw [b1, c2, cl _ (by omega), h8, b2, c3]
  simp only [nI_ltI (show nm st e < 2 ^ 31 by omega) (show fv (st e) < 2 ^ 31 by omega), decide_not]
theorem M_vis (hE : IE n t st tm fv I J M K) {e : Nat} (he : e < n) : M 152 e = 0 ↔ vis st fv e = true := by
  obtain ⟨a1, a2, a3, a4, a5, a6, b, a7, a8⟩ := hE
  obtain ⟨c1, c2, c3, c4, c5, c6, c7, c8⟩ := a7 e he
  rw [c7]
  by_cases k : nm st e < fv (st e) <;> simp [vis, k]
theorem cin_eq (hE : IE n t st tm fv I J M K) {e : Nat} {x : Int32} (he : e < n) : cin I x e = ((decide (x = -1) || decide (x = nI (st e))) && vis st fv e) := by
  have h1 := (hE.2.2.2.2.2.2.2.1 e he).2.1
  unfold cin
  rw [cvis_eq hE he, hE.2.2.2.2.2.2.1.1, h1]
theorem nI_inj {a b : Nat} (ha : a < 2 ^ 31) (hb : b < 2 ^ 31) (h : nI a = nI b) : a = b := (nI_eq ha hb).mp h
/-- both are off -/
theorem call_var {p s v : Int32} (hI : Inv n t st tm fv I J I J) : callOkL 85 147 [.int p, .int s, .int v] [3, 0, 1] t L h z I J := by
  rcases Inv_on hI with ⟨o1, o2⟩ | ⟨o1, o2⟩
  · refine call_badL (x := 0) (e := 1) (c := 3) hI ?_ ?_ (by decide) (by decide)
    · exact r85_0 (Or.inr ⟨1, s100t o2, rfl, rfl⟩)
    · exact r147_0 ⟨fun c => absurd o1 c, fun _ => r147_13 ⟨_, _, _, s114t, fun _ => ⟨rfl, rfl⟩, fun c => absurd c (by decide)⟩⟩
  cases hp : rg p 8 with
  | false =>
    have h95 := s95 (L := L) (h := h) (z := z) (I := I) (J := J) (x := p)
    rw [hp] at h95
    refine call_badL (x := 0) (e := 3) (c := 1) hI ?_ ?_ (by decide) (by decide)
    · exact r85_0 (Or.inl ⟨s100 o2, _, h95, fun _ => ⟨rfl, rfl⟩, fun c => absurd rfl c⟩)
    · refine r147_0 ⟨fun _ => r147_13 ⟨_, _, _, s114f, fun c => absurd rfl c, fun _ => ⟨_, s115r hp (by omega) (by omega) (by decide), fun _ => ?_, fun c => absurd rfl c⟩⟩, fun c => absurd (c.symm.trans o1) (by decide)⟩
      refine r147_45 ⟨_, _, _, s114t, fun _ => ⟨rfl, ?_⟩, fun c => absurd c (by decide)⟩
      rw [u2_u2]
  | true =>
    have h95 := s95 (L := L) (h := h) (z := z) (I := I) (J := J) (x := p)
    rw [hp] at h95
    obtain ⟨p, hp8, rfl⟩ := (rg_t (by omega)).mp hp
    have hv : vp_in (nI p) 8 := vp_in_nI hp8 (by omega)
    obtain ⟨m1, m2, m3⟩ := hI.1.2.2.2.2 p hp8
    rcases m2 with m2 | m2
    · refine call_badL (x := 0) (e := 3) (c := 1) hI ?_ ?_ (by decide) (by decide)
      · refine r85_0 (Or.inl ⟨s100 o2, _, h95, fun c => absurd c (by decide), fun _ => ⟨hv, fun c => ?_, fun _ => ⟨rfl, rfl⟩⟩⟩)
        rw [cl p (by omega), R0_64 hp8, m1] at c
        exact absurd m2 c
      · refine r147_0 ⟨fun _ => r147_13 ⟨_, _, _, s114f, fun c => absurd rfl c, fun _ => ⟨_, s115r hp (by omega) (by omega) (by decide), fun c => absurd c (by decide), fun _ => ⟨hv, fun c => ?_, fun _ => ?_⟩⟩⟩, fun c => absurd (c.symm.trans o1) (by decide)⟩
        · rw [cl p (by omega), u2_ne (by omega)] at c
          exact absurd m2 c
        · refine r147_45 ⟨_, _, _, s114t, fun _ => ⟨rfl, ?_⟩, fun c => absurd c (by decide)⟩
          rw [u2_u2]
    · have m4 := m3 m2
      have hm : ∀ (L h z : Nat) (I' : rI) (o : eO) (σo : eS), I' 145 1 = 1 → I' 170 p = 1 → Run 147 45 [(0, .ref 145), (1, .int (nI p)), (2, .int s), (3, .int v)] [.int 0, .ref 145] (mS L (u2 I' 145 0 0) J h z) o σo → Run 147 0 [(0, .ref 145), (1, .int (nI p)), (2, .int s), (3, .int v)] [] (mS L I' J h z) o σo := by
        intro L h z I' o σo k1 k2 H
        refine r147_0 ⟨fun _ => r147_13 ⟨_, _, _, s114f, fun c => absurd rfl c, fun _ => ⟨_, s115r hp (by omega) (by omega) (by decide), fun c => absurd c (by decide), fun _ => ⟨hv, fun _ => H, fun c => ?_⟩⟩⟩, fun c => absurd (c.symm.trans k1) (by decide)⟩
        rw [cl p (by omega), u2_ne (by omega), k2] at c
        exact absurd c (by decide)
      have hc : ∀ (o : eO) (σo : eS), ((∃ v4 : Int32, Den 91 [.int s] (mS L I J h z) (.inl (some (.int v4))) (mS L I J h z) ∧ (v4 = 0 → o = .inr 0 ∧ σo = (mS L I J (h + 1) (z + 6))) ∧ (¬ v4 = 0 → (v < 0 → o = .inr 0 ∧ σo = (mS L I J (h + 1) (z + 6))) ∧ (¬ v < 0 → (v < 4 → vp_in ((s * 4) + v) 128 ∧ o = .inl (some (.long (J (109 + 5 * p) ((s * 4) + v).toNatClampNeg))) ∧ σo = (mS L I J h z)) ∧ (¬ v < 4 → o = .inr 0 ∧ σo = (mS L I J (h + 1) (z + 6))))))) → Run 85 0 [(0, .ref 1), (1, .int (nI p)), (2, .int s), (3, .int v)] [] (mS L I J h z) o σo := by
        intro o σo H
        refine r85_0 (Or.inl ⟨s100 o2, _, h95, fun c => absurd c (by decide), fun _ => ⟨hv, fun _ => ?_, fun c => ?_⟩⟩)
        · rw [cl p (by omega), R0_64 hp8, (R0_p hp8).2.2.2]
          exact H
        · rw [cl p (by omega), R0_64 hp8, m1, m2] at c
          exact absurd c (by decide)
      have h91 := s91 (L := L) (h := h) (z := z) (I := I) (J := J) (x := s)
      cases hs : rg s 32 with
      | false =>
        rw [hs] at h91
        refine call_badL (x := 0) (e := 0) (c := 2) hI (hc _ _ ⟨_, h91, fun _ => ⟨rfl, rfl⟩, fun c => absurd rfl c⟩) ?_ (by decide) (by decide)
        refine hm _ _ _ _ _ _ o1 m2 (r147_45 ⟨_, _, _, s114f, fun c => absurd rfl c, fun _ => ⟨_, s115r hs (by omega) (by omega) (by decide), fun _ => ?_, fun c => absurd rfl c⟩⟩)
        refine r147_77 ⟨_, _, _, s114t, fun c => absurd c (by decide), fun _ => ⟨rfl, ?_⟩⟩
        rw [u2_u2, u2_u2]
      | true =>
        rw [hs] at h91
        obtain ⟨s, hs8, rfl⟩ := (rg_t (by omega)).mp hs
        have e4 := rg_lt (x := v) (c := 4) (N := 4) (by omega) (by decide)
        cases hv4 : rg v 4 with
        | false =>
          rw [hv4] at e4
          refine call_badL (x := 0) (e := 0) (c := 2) hI (hc _ _ ⟨_, h91, fun c => absurd c (by decide), fun _ => ⟨fun _ => ⟨rfl, rfl⟩, fun c => ⟨fun c2 => ?_, fun _ => ⟨rfl, rfl⟩⟩⟩⟩) ?_ (by decide) (by decide)
          · simp [c, c2] at e4
          · refine hm _ _ _ _ _ _ o1 m2 (r147_45 ⟨_, _, _, s114f, fun c => absurd rfl c, fun _ => ⟨_, s115r hs (by omega) (by omega) (by decide), fun c => absurd c (by decide), fun _ => ⟨_, s115r hv4 (by omega) (by omega) (by decide), fun c => absurd rfl c, fun _ => ?_⟩⟩⟩)
            refine r147_77 ⟨_, _, _, s114t, fun c => absurd c (by decide), fun _ => ⟨rfl, ?_⟩⟩
            rw [u2_u2, u2_u2]
        | true =>
          rw [hv4] at e4
          obtain ⟨v, hv8, rfl⟩ := (rg_t (by omega)).mp hv4
          have e5 : (¬ nI v < 0) ∧ nI v < 4 := by
            by_cases k : nI v < 0 <;> simp [k] at e4
            exact ⟨k, e4⟩
          have e6 : nI s * 4 + nI v = nI (4 * s + v) := by
            rw [show (4 : Int32) = nI 4 from rfl, nI_mul, nI_add, Nat.mul_comm]
          have e7 : (128 : Int32) * nI p + 4 * nI s + nI v = nI (128 * p + (4 * s + v)) := by
            rw [show (4 : Int32) = nI 4 from rfl, show (128 : Int32) = nI 128 from rfl, nI_mul, nI_mul, nI_add, nI_add, Nat.add_assoc]
          have e8 := m4.2.2.2.2.2.2.2.2.2 (4 * s + v) (by omega)
          refine call_rdL (x := (J 179 (128 * p + (4 * s + v)))) hI (hc _ _ ⟨_, h91, fun c => absurd c (by decide), fun _ => ⟨fun c => absurd c e5.1, fun _ => ⟨fun _ => ?_, fun c => absurd e5.2 c⟩⟩⟩) ?_
          · rw [e6, cl _ (by omega), e8]
            exact ⟨vp_in_nI (by omega) (by omega), rfl, rfl⟩
          · refine hm _ _ _ _ _ _ o1 m2 (r147_45 ⟨_, _, _, s114f, fun c => absurd rfl c, fun _ => ⟨_, s115r hs (by omega) (by omega) (by decide), fun c => absurd c (by decide), fun _ => ⟨_, s115r hv4 (by omega) (by omega) (by decide), fun _ => ?_, fun c => absurd c (by decide)⟩⟩⟩)
            refine r147_77 ⟨_, _, _, s114f, fun _ => ?_, fun c => absurd rfl c⟩
            rw [e7, cl _ (by omega)]
            refine ⟨vp_in_nI (by omega) (by omega), rfl, ?_⟩
            rw [u2_u2, u2_u2]
end
