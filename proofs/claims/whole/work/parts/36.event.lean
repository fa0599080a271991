/-! event. -/
section
variable {L h z n t : Nat} {st tm fv : Nat → Nat} {I I' M M' : rI} {J K J' K' : rJ}
theorem in_rgn {x c : Int32} {N : Nat} (hN : N < 2147483648) (hc : c = nI N - 1) : (!decide (x < 0) && !decide (c < x)) = rg x N := by
  unfold rg
  by_cases h0 : x < 0
  · simp [h0]
  have : (c < x) ↔ (nI N ≤ x) := by
    subst hc
    simp only [ti_lt, ti_le, ti_sub, ti_nI, Int32.reduceToInt] at *
    have := ti_lo x
    have := ti_hi x
    omega
  simp only [this]
theorem s115n {x c : Int32} {N : Nat} {b : Bool} (hr : rg x N = b) (hN : N < 2147483648) (hc : c = nI N - 1) : dP 115 [.int x, .int 0, .int c] L h z I J (bb b) := by
  have := s115 (L := L) (h := h) (z := z) (I := I) (J := J) (v := x) (a := 0) (b := c)
  rw [in_rgn hN hc, hr] at this
  exact this
theorem swT_out {x : Int32} {d : Int} {k : Nat} {offs : Array Int} (hk : k < 2147483647) (h : rg x (k + 1) = false) : swT d 0 k offs x = some d := by
  unfold swT
  refine if_pos ?_
  unfold rg at h
  by_cases c : x < 0
  · exact Or.inl (by simpa only [ti_lt, Int32.reduceToInt] using c)
  · right
    simp [c] at h
    simp only [ti_lt, ti_le, ti_nI, Int32.reduceToInt] at *
    omega
theorem vis_13 (hE : IE n t st tm fv I J M K) {k : Nat} (hk : k < n) : dP 13 [.ref 10, .int (nI k)] L h z I J (bb (vis st fv k)) := by
  have := s13 (L := L) (h := h) (z := z) (J := J) (IE_CW hE) hk
  rw [cvis_eq hE hk] at this
  exact this
theorem call_event {p w : Int32} (hI : Inv n t st tm fv I J I J) : callOkL 77 131 [.int p, .int w] [3, 0, 1] t L h z I J := by
  have hE := hI.1.1
  rcases Inv_on hI with ⟨o1, o2⟩ | ⟨o1, o2⟩
  · refine call_badL (x := 0) (e := 1) (c := 3) hI ?_ ?_ (by decide) (by decide)
    · exact r77_0 (Or.inr ⟨1, s100t o2, rfl, rfl⟩)
    · exact r131_0 ⟨fun c => absurd o1 c, fun _ => r131_13 ⟨_, _, _, s114t, fun _ => ⟨rfl, rfl⟩, fun c => absurd c (by decide)⟩⟩
  have n1 := hE.1
  have n2 := hE.2.2.1
  have n3 := hE.2.2.2.1
  have e13 : u2 I 145 0 0 145 13 = nI n := by rw [u2_at, if_neg (by omega)]; exact n3
  have h11 := s11 (L := L) (h := h) (z := z) (J := J) (x := p) n2
  cases hp : rg p n with
  | false =>
    rw [hp] at h11
    refine call_badL (x := 0) (e := 3) (c := 1) hI ?_ ?_ (by decide) (by decide)
    · exact r77_0 (Or.inl ⟨s100 o2, _, h11, fun _ => ⟨rfl, rfl⟩, fun c => absurd rfl c⟩)
    · refine r131_0 ⟨fun _ => r131_13 ⟨_, _, _, s114f, fun c => absurd rfl c, fun _ => ⟨_, s115n hp (by omega) (by rw [e13]), fun _ => ?_, fun c => absurd rfl c⟩⟩, fun c => absurd (c.symm.trans o1) (by decide)⟩
      refine r131_49 ⟨_, _, _, s114t, fun _ => ⟨rfl, ?_⟩, fun c => absurd c (by decide)⟩
      rw [u2_u2]
  | true =>
    rw [hp] at h11
    obtain ⟨p, hp8, rfl⟩ := (rg_t (by omega)).mp hp
    have hv : vp_in (nI p) 2500 := vp_in_nI (by omega) (by omega)
    have h13 := vis_13 (L := L) (h := h) (z := z) hE hp8
    cases hvs : vis st fv p with
    | false =>
      rw [hvs] at h13
      refine call_badL (x := 0) (e := 3) (c := 1) hI ?_ ?_ (by decide) (by decide)
      · exact r77_0 (Or.inl ⟨s100 o2, _, h11, fun c => absurd c (by decide), fun _ => ⟨_, h13, fun c => absurd rfl c, fun _ => ⟨rfl, rfl⟩⟩⟩)
      · refine r131_0 ⟨fun _ => r131_13 ⟨_, _, _, s114f, fun c => absurd rfl c, fun _ => ⟨_, s115n hp (by omega) (by rw [e13]), fun c => absurd c (by decide), fun _ => ⟨hv, fun c => ?_, fun _ => ?_⟩⟩⟩, fun c => absurd (c.symm.trans o1) (by decide)⟩
        · rw [cl p (by omega), u2_ne (by omega), M_vis hE hp8, hvs] at c
          cases c
        · refine r131_49 ⟨_, _, _, s114t, fun _ => ⟨rfl, ?_⟩, fun c => absurd c (by decide)⟩
          rw [u2_u2]
    | true =>
      rw [hvs] at h13
      have hc : ∀ (o : eO) (σo : eS) (off : Int), swT 104 0 5 #[39, 50, 61, 72, 83, 93] w = some off → 0 ≤ (37 : Int) + off → Run 77 (jmp 37 off) [(0, .ref 1), (1, .int (nI p)), (2, .int w)] [] (mS L I J h z) o σo → Run 77 0 [(0, .ref 1), (1, .int (nI p)), (2, .int w)] [] (mS L I J h z) o σo := by
        intro o σo off k1 k2 H
        exact r77_0 (Or.inl ⟨s100 o2, _, h11, fun c => absurd c (by decide), fun _ => ⟨_, h13, fun _ => ⟨off, k1, k2, H⟩, fun c => absurd c (by decide)⟩⟩)
      have hm : ∀ (h z : Nat) (o : eO) (σo : eS), Run 131 49 [(0, .ref 145), (1, .int (nI p)), (2, .int w)] [.int 0, .ref 145] (mS L (u2 I 145 0 0) J h z) o σo → Run 131 0 [(0, .ref 145), (1, .int (nI p)), (2, .int w)] [] (mS L I J h z) o σo := by
        intro h z o σo H
        refine r131_0 ⟨fun _ => r131_13 ⟨_, _, _, s114f, fun c => absurd rfl c, fun _ => ⟨_, s115n hp (by omega) (by rw [e13]), fun c => absurd c (by decide), fun _ => ⟨hv, fun _ => H, fun c => ?_⟩⟩⟩, fun c => absurd (c.symm.trans o1) (by decide)⟩
        rw [cl p (by omega), u2_ne (by omega)] at c
        exact absurd ((M_vis hE hp8).mpr hvs) c
      cases hw : rg w 6 with
      | false =>
        refine call_badL (x := 0) (e := 0) (c := 2) hI (hc _ _ 104 (swT_out (k := 5) (by omega) hw) (by omega) ?_) (hm _ _ _ _ ?_) (by decide) (by decide)
        · refine Run.sub [] (fun q hq => by cases hq) ?_
          exact r77_141 ⟨rfl, rfl⟩
        · refine r131_49 ⟨_, _, _, s114f, fun c => absurd rfl c, fun _ => ⟨_, s115r hw (by omega) (by omega) (by decide), fun c => absurd rfl c, fun _ => ?_⟩⟩
          refine r131_71 ⟨_, _, _, s114t, fun c => absurd c (by decide), fun _ => ⟨rfl, ?_⟩⟩
          rw [u2_u2, u2_u2]
      | true =>
        have hm2 : ∀ (h z : Nat) (o : eO) (σo : eS), Run 131 71 [(0, .ref 145), (1, .int (nI p)), (2, .int w)] [.int 0, .ref 145] (mS L (u2 I 145 0 0) J h z) o σo → Run 131 0 [(0, .ref 145), (1, .int (nI p)), (2, .int w)] [] (mS L I J h z) o σo := by
          intro h z o σo H
          refine hm _ _ _ _ (r131_49 ⟨_, _, _, s114f, fun c => absurd rfl c, fun _ => ⟨_, s115r hw (by omega) (by omega) (by decide), fun _ => ?_, fun c => absurd c (by decide)⟩⟩)
          rw [u2_u2]
          exact H
        obtain ⟨w, hw6, rfl⟩ := (rg_t (by omega)).mp hw
        obtain ⟨g1, g2, g3, g4, g5, g6⟩ := hE.2.2.2.2.2.2.1
        have hs : ∀ (off : Int), (∀ q ∈ [(0, Value.ref 1), (1, .int (nI p))], q ∈ [(0, Value.ref 1), (1, .int (nI p)), (2, .int (nI w))]) := by
          intro _ q hq
          simp at hq
          rcases hq with hq | hq <;> simp [hq]
        have q0 : ∀ j, u2 (u2 I 145 0 0) 145 0 0 146 j = I 146 j ∧ u2 (u2 I 145 0 0) 145 0 0 147 j = I 147 j ∧ u2 (u2 I 145 0 0) 145 0 0 148 j = I 148 j ∧ u2 (u2 I 145 0 0) 145 0 0 149 j = I 149 j ∧ u2 (u2 I 145 0 0) 145 0 0 151 j = I 151 j := by
          intro j; simp [u2_at]
        have hw' : w = 0 ∨ w = 1 ∨ w = 2 ∨ w = 3 ∨ w = 4 ∨ w = 5 := by omega
        rcases hw' with rfl | rfl | rfl | rfl | rfl | rfl
        · refine call_rdL (x := (I 146 p).toInt64) hI (hc _ _ 39 (by decide) (by omega) (Run.sub _ (hs 0) (r77_76 ⟨hv, ?_, rfl⟩))) (hm2 _ _ _ _ (r131_71 ⟨_, _, _, s114f, fun _ => ⟨fun c => absurd rfl c, fun _ => ⟨hv, ?_, by rw [u2_u2]⟩⟩, fun c => absurd rfl c⟩))
          · rw [cl p (by omega), g1]
          · rw [cl p (by omega), (q0 p).1]
        · refine call_rdL (x := (I 147 p).toInt64) hI (hc _ _ 50 (by decide) (by omega) (Run.sub _ (hs 0) (r77_87 ⟨hv, ?_, rfl⟩))) (hm2 _ _ _ _ (r131_71 ⟨_, _, _, s114f, fun _ => ⟨fun _ => ⟨fun c => absurd rfl c, fun _ => ⟨hv, ?_, by rw [u2_u2]⟩⟩, fun c => absurd c (by decide)⟩, fun c => absurd rfl c⟩))
          · rw [cl p (by omega), g2]
          · rw [cl p (by omega), (q0 p).2.1]
        · refine call_rdL (x := (I 148 p).toInt64) hI (hc _ _ 61 (by decide) (by omega) (Run.sub _ (hs 0) (r77_98 ⟨hv, ?_, rfl⟩))) (hm2 _ _ _ _ (r131_71 ⟨_, _, _, s114f, fun _ => ⟨fun _ => ⟨fun _ => ⟨fun c => absurd rfl c, fun _ => ⟨hv, ?_, by rw [u2_u2]⟩⟩, fun c => absurd c (by decide)⟩, fun c => absurd c (by decide)⟩, fun c => absurd rfl c⟩))
          · rw [cl p (by omega), g3]
          · rw [cl p (by omega), (q0 p).2.2.1]
        · refine call_rdL (x := (I 149 p).toInt64) hI (hc _ _ 72 (by decide) (by omega) (Run.sub _ (hs 0) (r77_109 ⟨hv, ?_, rfl⟩))) (hm2 _ _ _ _ (r131_71 ⟨_, _, _, s114f, fun _ => ⟨fun _ => ⟨fun _ => ⟨fun _ => ⟨fun c => absurd rfl c, fun _ => ⟨hv, ?_, by rw [u2_u2]⟩⟩, fun c => absurd c (by decide)⟩, fun c => absurd c (by decide)⟩, fun c => absurd c (by decide)⟩, fun c => absurd rfl c⟩))
          · rw [cl p (by omega), g4]
          · rw [cl p (by omega), (q0 p).2.2.2.1]
        · refine call_rdL (x := (J 150 p)) hI (hc _ _ 83 (by decide) (by omega) (Run.sub _ (hs 0) (r77_120 ⟨hv, ?_, rfl⟩))) (hm2 _ _ _ _ (r131_71 ⟨_, _, _, s114f, fun _ => ⟨fun _ => ⟨fun _ => ⟨fun _ => ⟨fun _ => ⟨fun c => absurd rfl c, fun _ => ⟨hv, ?_, by rw [u2_u2]⟩⟩, fun c => absurd c (by decide)⟩, fun c => absurd c (by decide)⟩, fun c => absurd c (by decide)⟩, fun c => absurd c (by decide)⟩, fun c => absurd rfl c⟩))
          · rw [cl p (by omega), g5]
          · rw [cl p (by omega)]
        · refine call_rdL (x := (I 151 p).toInt64) hI (hc _ _ 93 (by decide) (by omega) (Run.sub _ (hs 0) (r77_130 ⟨hv, ?_, rfl⟩))) (hm2 _ _ _ _ (r131_71 ⟨_, _, _, s114f, fun _ => ⟨fun _ => ⟨fun _ => ⟨fun _ => ⟨fun _ => ⟨fun _ => ⟨hv, ?_, by rw [u2_u2]⟩, fun c => absurd c (by decide)⟩, fun c => absurd c (by decide)⟩, fun c => absurd c (by decide)⟩, fun c => absurd c (by decide)⟩, fun c => absurd c (by decide)⟩, fun c => absurd rfl c⟩))
          · rw [cl p (by omega), g6]
          · rw [cl p (by omega), (q0 p).2.2.2.2]
end
