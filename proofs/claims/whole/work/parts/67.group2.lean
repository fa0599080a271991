/-! group. -/
section
variable {L h z n t : Nat} {st tm fv fv' : Nat → Nat} {I I' M M' : rI} {J K J' K' : rJ}
abbrev gwP (M : rI) (f : Nat) (x : Int32) (e : Nat) : Bool := decide (M 152 e = 0) && (decide (f ≤ e) && (decide (x < 0) || decide (M 146 e = x)))
theorem s133_loop {f : Nat} {x : Int32} (hf : f ≤ 2500) (hn : n ≤ 2500) (h13 : M 145 13 = nI n) : ∀ m j, j + m = n →
    Run 133 194 [(0, .ref 145), (2, .int x), (3, .int (nI f)), (5, .int (nI (cn (gwP M f x) j))), (6, .int (nI j))] [] (mS L M K h z) (.inl (some (.int (nI (cn (gwP M f x) n))))) (mS L M K h z) := by
  intro m
  induction m with
  | zero =>
    intro j hj
    refine r133_194 ⟨fun _ => by rw [show j = n by omega]; exact ⟨rfl, rfl⟩, fun q => absurd ?_ q⟩
    rw [h13]; exact nI_le (by omega) (by omega)
  | succ m ih =>
    intro j hj
    have hi := ih (j + 1) (by omega)
    have F : gwP M f x j = false → Run 133 194 [(0, .ref 145), (2, .int x), (3, .int (nI f)), (5, .int (nI (cn (gwP M f x) j))), (6, .int (nI j + 1))] [] (mS L M K h z) (.inl (some (.int (nI (cn (gwP M f x) n))))) (mS L M K h z) := fun q => by
      rw [cn_s0 q] at hi
      rw [nI_1]; exact hi
    have T : gwP M f x j = true → Run 133 194 [(0, .ref 145), (2, .int x), (3, .int (nI f)), (5, .int (nI (cn (gwP M f x) j) + 1)), (6, .int (nI j + 1))] [] (mS L M K h z) (.inl (some (.int (nI (cn (gwP M f x) n))))) (mS L M K h z) := fun q => by
      rw [cn_s1 q] at hi
      rw [nI_1, nI_1]; exact hi
    refine r133_194 ⟨fun q => ?_, fun _ => ?_⟩
    · rw [h13] at q; exact absurd ((nI_leI (by omega) (by omega)).mp q) (by omega)
    rw [cl j (by omega)]
    refine ⟨vp_in_nI (by omega) (by omega), fun q => F ?_, fun q => ⟨fun q1 => F ?_, fun q1 => ⟨fun q2 => T ?_, fun q2 => ⟨fun q3 => F ?_, fun q3 => T ?_⟩⟩⟩⟩
    · unfold gwP; rw [decide_eq_false q]; rfl
    all_goals rw [nI_ltI (by omega) (by omega)] at q1
    · unfold gwP; rw [decide_eq_false (show ¬ f ≤ j by omega)]; simp
    · unfold gwP; rw [decide_eq_true q, decide_eq_true (show f ≤ j by omega), decide_eq_true q2]; rfl
    · unfold gwP; rw [decide_eq_false q2, decide_eq_false q3]; simp
    · unfold gwP; rw [decide_eq_true q, decide_eq_true (show f ≤ j by omega), decide_eq_true q3]; simp
theorem cnt_gw (hE : IE n t st tm fv I J M K) {x : Int32} {f : Nat} (hx : x = -1 ∨ rg x 40 = true) : cn (cfr I x f) n = cn (gwP M f x) n := by
  refine cn_congr (fun e he => ?_)
  have hx0 : x < 0 ↔ x = -1 := by
    rcases hx with hx | hx
    · subst hx; decide
    · obtain ⟨s, hs, rfl⟩ := (rg_t (by omega)).mp hx
      simp only [ti_lt, ti_eq, ti_nI, Int32.reduceToInt]; omega
  have h1 := (hE.2.2.2.2.2.2.2.1 e he).2.1
  have h2 := M_vis hE he
  unfold cfr gwP
  rw [cin_eq hE he, h1]
  simp only [h2, hx0]
  rw [dbt, show decide (x = nI (st e)) = decide (nI (st e) = x) by simp only [eq_comm]]
  cases decide (f ≤ e) <;> cases decide (x = -1) <;> cases decide (nI (st e) = x) <;> cases vis st fv e <;> rfl
def mGr (M : rI) (g k : Nat) : rI := fun b j => if (b = 165 ∨ b = 166 ∨ b = 167) ∧ 2500 * g ≤ j ∧ j < 2500 * g + k then 0 else M b j
theorem mGr_s {g k : Nat} : u2 (u2 (u2 (mGr M g k) 165 (2500 * g + k) 0) 166 (2500 * g + k) 0) 167 (2500 * g + k) 0 = mGr M g (k + 1) := by
  funext b j
  rw [u2_at, u2_at, u2_at]
  unfold mGr
  by_cases q : j = 2500 * g + k
  · subst q
    by_cases b5 : b = 165 ∨ b = 166 ∨ b = 167
    · rw [if_pos (show (b = 165 ∨ b = 166 ∨ b = 167) ∧ 2500 * g ≤ 2500 * g + k ∧ 2500 * g + k < 2500 * g + (k + 1) from ⟨b5, by omega, by omega⟩)]
      rcases b5 with rfl | rfl | rfl
      · rw [if_neg (by omega), if_neg (by omega), if_pos ⟨rfl, rfl⟩]
      · rw [if_neg (by omega), if_pos ⟨rfl, rfl⟩]
      · rw [if_pos ⟨rfl, rfl⟩]
    · rw [if_neg (fun k => b5 (Or.inr (Or.inr k.1))), if_neg (fun k => b5 (Or.inr (Or.inl k.1))), if_neg (fun k => b5 (Or.inl k.1)), if_neg (fun k => b5 k.1), if_neg (fun k => b5 k.1)]
  · have e : (j < 2500 * g + (k + 1)) ↔ (j < 2500 * g + k) := by omega
    rw [if_neg (fun k => q k.2), if_neg (fun k => q k.2), if_neg (fun k => q k.2)]
    simp only [e]
theorem mGr_ne {g k b : Nat} (hb : b < 165 ∨ 167 < b) : mGr M g k b = M b := by
  funext j; unfold mGr; rw [if_neg (by omega)]
theorem s133_cl {g : Nat} {x2 x3 : Int32} {o : eO} {σo : eS} (hg : g < 8) (H : Run 133 183 [(0, .ref 145), (2, .int x2), (3, .int x3)] [] (mS L (mGr M g 2500) K h z) o σo) : ∀ m k, k + m = 2500 →
    Run 133 127 [(0, .ref 145), (1, .int (nI g)), (2, .int x2), (3, .int x3), (5, .int (nI k))] [] (mS L (mGr M g k) K h z) o σo := by
  intro m
  induction m with
  | zero => intro k hk; rw [show k = 2500 by omega]; exact r133_127 ⟨fun _ => H, fun q => absurd (by decide) q⟩
  | succ m ih =>
    intro k hk
    have e : nI g * 2500 + nI k = nI (2500 * g + k) := by
      rw [show (2500 : Int32) = nI 2500 from rfl, nI_mul, nI_add, Nat.mul_comm]
    refine r133_127 ⟨fun q => absurd ((nI_leI (a := 2500) (by omega) (by omega)).mp q) (by omega), fun _ => ?_⟩
    rw [e, cl _ (by omega), mGr_s, nI_1]
    exact ⟨vp_in_nI (by omega) (by omega), ih (k + 1) (by omega)⟩
theorem gMk_ne {g b : Nat} {s f r : Int32} (hb : ¬ (65 + 5 * g ≤ b ∧ b ≤ 69 + 5 * g)) : gMk I g s f r b = I b := by
  unfold gMk
  rw [u1_ne (by omega), u2_ne (by omega), u1_ne (by omega), u2_ne (by omega), u2_ne (by omega), u2_ne (by omega), u2_ne (by omega)]
theorem gMk_5 {g : Nat} {s f r : Int32} : gMk I g s f r (65 + 5 * g) 4 = 0 ∧ gMk I g s f r (65 + 5 * g) 5 = 1 ∧ gMk I g s f r (65 + 5 * g) 6 = s ∧ gMk I g s f r (65 + 5 * g) 7 = f ∧ gMk I g s f r (65 + 5 * g) 8 = r := by
  have e : ∀ j, gMk I g s f r (65 + 5 * g) j = if j = 4 then 0 else if j = 8 then r else if j = 7 then f else if j = 6 then s else if j = 5 then 1 else I (65 + 5 * g) j := fun j => by
    unfold gMk
    rw [u1_ne (by omega), u2_row, u1_ne (by omega), u2_row, u2_row, u2_row, u2_row]
  refine ⟨?_, ?_, ?_, ?_, ?_⟩ <;> rw [e] <;> rfl
theorem gMk_r {g j : Nat} {s f r : Int32} (hj : j < 2500) : gMk I g s f r (66 + 5 * g) j = 0 ∧ gMk I g s f r (67 + 5 * g) j = 0 := by
  unfold gMk
  constructor
  · rw [u1_ne (by omega), u2_ne (by omega), u1_eq, if_pos hj]
  · rw [u1_eq, if_pos hj]
abbrev mGk (M : rI) (g : Nat) (s f r : Int32) : rI := mGr (u2 (u2 (u2 (u2 M 161 g 1) 162 g s) 163 g f) 164 g r) g 2500
theorem mGk_ne {g b : Nat} {s f r : Int32} (hb : b < 161 ∨ 167 < b) : mGk M g s f r b = M b := by
  unfold mGk
  rw [mGr_ne (by omega), u2_ne (by omega), u2_ne (by omega), u2_ne (by omega), u2_ne (by omega)]
theorem call_group {x1 x2 x3 x4 : Int32} (hI : Inv n t st tm fv I J I J) : callOk 78 133 [.int x1, .int x2, .int x3, .int x4] [0, 1, 2] t L h z I J := by
  have hE := hI.1.1
  have n1 := hE.1
  have n2 := hE.2.2.2.1
  have h94 := s94 (L := L) (h := h) (z := z) (I := I) (J := J) (x := x1)
  have h93 := s93 (L := L) (h := h) (z := z) (I := I) (J := J) (x := x2)
  have hbad : Run 78 0 [(0, .ref 1), (1, .int x1), (2, .int x2), (3, .int x3), (4, .int x4)] [] (mS L I J h z) (.inr 0) (mS L I J (h + 1) (z + 6)) → (Run 133 48 [(0, .ref 145), (1, .int x1), (2, .int x2), (3, .int x3), (4, .int x4)] [.int 1, .ref 145] (mS L I J (h + 1) (z + 6)) (.inl (some (.int 0))) (mS L (u2 I 145 0 1) J (h + 1) (z + 6)) → Run 133 0 [(0, .ref 145), (1, .int x1), (2, .int x2), (3, .int x3), (4, .int x4)] [] (mS L I J (h + 1) (z + 6)) (.inl (some (.int 0))) (mS L (u2 I 145 0 1) J (h + 1) (z + 6))) → callOk 78 133 [.int x1, .int x2, .int x3, .int x4] [0, 1, 2] t L h z I J :=
    fun hc hm => call_bad (rv := some (.int 0)) (e := 0) (c := 1) hI hc (hm (r133_48 ⟨_, _, _, s114t, fun _ => ⟨rfl, rfl⟩, fun c => absurd c (by decide)⟩)) (by decide) (by decide)
  cases h1 : rg x1 8 with
  | false =>
    rw [h1] at h94
    exact hbad (r78_0 ⟨_, h94, fun _ => ⟨rfl, rfl⟩, fun q => absurd rfl q⟩) (fun H => r133_0 ⟨_, s115r h1 (by omega) (by omega) (by decide), fun _ => H, fun q => absurd rfl q⟩)
  | true =>
  rw [h1] at h94
  cases h2 : (decide (x2 = -1) || rg x2 40) with
  | false =>
    rw [h2] at h93
    exact hbad (r78_0 ⟨_, h94, fun q => absurd q (by decide), fun _ => ⟨_, h93, fun q => absurd rfl q, fun _ => ⟨rfl, rfl⟩⟩⟩) (fun H => r133_0 ⟨_, s115r h1 (by omega) (by omega) (by decide), fun q => absurd q (by decide), fun _ => ⟨_, s115s h2, fun _ => H, fun q => absurd rfl q⟩⟩)
  | true =>
  rw [h2] at h93
  have cpre : ∀ (o : eO) (σo : eS), _ → Run 78 0 [(0, .ref 1), (1, .int x1), (2, .int x2), (3, .int x3), (4, .int x4)] [] (mS L I J h z) o σo := fun o σo H => r78_0 ⟨_, h94, fun q => absurd q (by decide), fun _ => ⟨_, h93, fun _ => H, fun q => absurd q (by decide)⟩⟩
  have mpre : ∀ (Ic : rI) (Jc : rJ) (h z : Nat) (o : eO) (σo : eS), _ → Run 133 0 [(0, .ref 145), (1, .int x1), (2, .int x2), (3, .int x3), (4, .int x4)] [] (mS L Ic Jc h z) o σo := fun Ic Jc h z o σo H => r133_0 ⟨_, s115r h1 (by omega) (by omega) (by decide), fun q => absurd q (by decide), fun _ => ⟨_, s115s h2, fun q => absurd q (by decide), fun _ => H⟩⟩
  have w3 : ∀ q, rg x3 2501 = q → ((x3 < 0 ∨ 2500 < x3) ↔ q = false) := fun q hq => by
    rw [← hq]
    unfold rg
    have : nI 2501 ≤ x3 ↔ 2500 < x3 := by
      simp only [ti_lt, ti_le, ti_nI, Int32.reduceToInt]; omega
    simp only [this]
    by_cases c1 : x3 < 0 <;> by_cases c2 : 2500 < x3 <;> simp [c1, c2]
  have w4 : ∀ q, rg x4 10 = q → ((x4 < 0 ∨ ¬ x4 ≤ 9) ↔ q = false) := fun q hq => by
    rw [← hq]
    unfold rg
    have : nI 10 ≤ x4 ↔ ¬ x4 ≤ 9 := by
      simp only [ti_le, ti_nI, Int32.reduceToInt]; omega
    simp only [this]
    by_cases c1 : x4 < 0 <;> by_cases c2 : x4 ≤ 9 <;> simp [c1, c2]
  cases h3 : rg x3 2501 with
  | false =>
    refine hbad (cpre _ _ ⟨fun _ => ⟨rfl, rfl⟩, fun c => ⟨fun _ => ⟨rfl, rfl⟩, fun c2 => absurd ((w3 _ h3).mpr rfl) (fun k => k.elim c c2)⟩⟩) (fun H => mpre _ _ _ _ _ _ ⟨_, s115r h3 (by omega) (by omega) (by decide), fun _ => H, fun q => absurd rfl q⟩)
  | true =>
  have n3 : ¬ x3 < 0 ∧ ¬ 2500 < x3 := ⟨fun k => (nomatch (w3 _ h3).mp (Or.inl k)), fun k => (nomatch (w3 _ h3).mp (Or.inr k))⟩
  have cpre2 : ∀ (o : eO) (σo : eS), _ → Run 78 0 [(0, .ref 1), (1, .int x1), (2, .int x2), (3, .int x3), (4, .int x4)] [] (mS L I J h z) o σo := fun o σo H => cpre o σo ⟨fun k => absurd k n3.1, fun _ => ⟨fun k => absurd k n3.2, fun _ => H⟩⟩
  have mpre2 : ∀ (Ic : rI) (Jc : rJ) (h z : Nat) (o : eO) (σo : eS), _ → Run 133 0 [(0, .ref 145), (1, .int x1), (2, .int x2), (3, .int x3), (4, .int x4)] [] (mS L Ic Jc h z) o σo := fun Ic Jc h z o σo H => mpre Ic Jc h z o σo ⟨_, s115r h3 (by omega) (by omega) (by decide), fun q => absurd q (by decide), fun _ => H⟩
  cases h4 : rg x4 10 with
  | false =>
    refine hbad (cpre2 _ _ ⟨fun _ => ⟨rfl, rfl⟩, fun c => ⟨fun c2 => absurd ((w4 _ h4).mpr rfl) (fun k => k.elim c (fun q => q c2)), fun _ => ⟨rfl, rfl⟩⟩⟩) (fun H => mpre2 _ _ _ _ _ _ ⟨_, s115r h4 (by omega) (by omega) (by decide), fun q => absurd rfl q, fun _ => H⟩)
  | true =>
  have n4 : ¬ x4 < 0 ∧ x4 ≤ 9 := ⟨fun k => (nomatch (w4 _ h4).mp (Or.inl k)), Classical.byContradiction fun k => (nomatch (w4 _ h4).mp (Or.inr k))⟩
  obtain ⟨g, hg, rfl⟩ := (rg_t (by omega)).mp h1
  obtain ⟨f, hf, rfl⟩ := (rg_t (by omega)).mp h3
  have hvg : vp_in (nI g) 8 := vp_in_nI hg (by omega)
  have hcg := cl g (by omega)
  have hx2 : x2 = -1 ∨ rg x2 40 = true := by
    rw [Bool.or_eq_true, decide_eq_true_eq] at h2; exact h2
  have hx2s : x2 = -1 ∨ ∃ s, s < 40 ∧ x2 = nI s := hx2.imp id (fun k => (rg_t (by omega)).mp k)
  have cpre3 : ∀ (o : eO) (σo : eS), _ → Run 78 0 [(0, .ref 1), (1, .int (nI g)), (2, .int x2), (3, .int (nI f)), (4, .int x4)] [] (mS L I J h z) o σo := fun o σo H => cpre2 o σo ⟨fun k => absurd k n4.1, fun _ => ⟨fun _ => H, fun k => absurd n4.2 k⟩⟩
  have mpre3 : ∀ (Ic : rI) (Jc : rJ) (h z : Nat) (o : eO) (σo : eS), Run 133 48 [(0, .ref 145), (1, .int (nI g)), (2, .int x2), (3, .int (nI f)), (4, .int x4)] [.int 0, .ref 145] (mS L Ic Jc h z) o σo → Run 133 0 [(0, .ref 145), (1, .int (nI g)), (2, .int x2), (3, .int (nI f)), (4, .int x4)] [] (mS L Ic Jc h z) o σo := fun Ic Jc h z o σo H => mpre2 Ic Jc h z o σo ⟨_, s115r h4 (by omega) (by omega) (by decide), fun _ => H, fun q => absurd q (by decide)⟩
  rcases Inv_on hI with ⟨o1, o2⟩ | ⟨o1, o2⟩
  · refine call_bad (rv := some (.int 0)) (e := 1) (c := 2) hI (cpre3 _ _ (Or.inr ⟨1, s100t o2, rfl, rfl⟩)) (mpre3 _ _ _ _ _ _ (r133_48 ⟨_, _, _, s114f, fun q => absurd rfl q, fun _ => ⟨fun _ => r133_77 ⟨_, _, _, s114t, fun q => absurd q (by decide), fun _ => ⟨rfl, ?_⟩⟩, fun q => absurd ?_ q⟩⟩)) (by decide) (by decide)
    · rw [u2_u2]
    · rw [u2_at, if_neg (by omega)]; exact o1
  have o10 : ¬ I 145 1 = 0 := by rw [o1]; decide
  obtain ⟨b, hb, hb2⟩ := hI.2.2.2.2.2.1
  have hb1 : I 2 1 = nI b := hI.2.2.2.2.1.trans hb2
  have hm0 : ∀ (Ic : rI) (h z : Nat) (o : eO) (σo : eS), frM I J Ic J → (100000 < b + 32 → o = .inl (some (.int 0)) ∧ σo = mS L (u2 Ic 145 0 2) J h z) → (¬ 100000 < b + 32 → (lsC I 32 = false → Run 133 183 [(0, .ref 145), (2, .int x2), (3, .int (nI f))] [] (mS L (wsM (u2 Ic 145 0 0) 32) J h z) o σo) ∧ (lsC I 32 = true → Run 133 183 [(0, .ref 145), (2, .int x2), (3, .int (nI f))] [] (mS L (mGk (wsM (u2 Ic 145 0 0) 32) g x2 (nI f) x4) J h z) o σo)) → Run 133 0 [(0, .ref 145), (1, .int (nI g)), (2, .int x2), (3, .int (nI f)), (4, .int x4)] [] (mS L Ic J h z) o σo := by
    intro Ic h z o σo hfr H1 H2
    have q : ∀ j, ¬ j = 0 → u2 Ic 145 0 0 145 j = I 145 j := fun j hj => by rw [u2_at, if_neg (fun k => hj k.2), (hfr 145 (by omega)).1]
    have h77 : ∀ (bv : Bool), bv = decide (100000 < b + 32) → Run 133 77 [(0, .ref 145), (1, .int (nI g)), (2, .int x2), (3, .int (nI f)), (4, .int x4)] [.int (bb bv), .ref 145] (mS L (u2 Ic 145 0 0) J h z) o σo := by
      intro bv hbv
      refine r133_77 ⟨_, _, _, s114, fun k => ?_, fun k => ?_⟩
      · have k := b_eq.mp k
        have hr : ¬ 100000 < b + 32 := by rw [k] at hbv; simpa using hbv.symm
        obtain ⟨G1, G2⟩ := H2 hr
        have hl := (wprep (k := 32) hI o1 hb2 (by omega) (by omega) hfr).2.2.2.1
        rw [k, if_neg (by decide), u2_u2]
        refine ⟨_, _, _, s118, fun k3 => G1 (hl.trans (b_eq.mp k3)), fun k3 => ⟨hvg, ?_⟩⟩
        rw [hcg]
        have y := s133_cl (L := L) (h := h) (z := z) (M := u2 (u2 (u2 (u2 (wsM (u2 Ic 145 0 0) 32) 161 g 1) 162 g x2) 163 g (nI f)) 164 g x4) (K := J) (o := o) (σo := σo) hg (G2 (hl.trans (b_ne.mp k3))) 2500 0 (by omega)
        have e0 : mGr (u2 (u2 (u2 (u2 (wsM (u2 Ic 145 0 0) 32) 161 g 1) 162 g x2) 163 g (nI f)) 164 g x4) g 0 = u2 (u2 (u2 (u2 (wsM (u2 Ic 145 0 0) 32) 161 g 1) 162 g x2) 163 g (nI f)) 164 g x4 := by
          funext b j; unfold mGr; rw [if_neg (by omega)]
        rw [e0] at y
        exact y
      · have k := b_ne.mp k
        have hr : 100000 < b + 32 := by rw [k] at hbv; simpa using hbv.symm
        obtain ⟨G1, G2⟩ := H1 hr
        rw [k, if_pos rfl, u2_u2]
        exact ⟨G1, G2⟩
    refine mpre3 _ _ _ _ _ _ (r133_48 ⟨_, _, _, s114f, fun k => absurd rfl k, fun _ => ⟨fun k => absurd k (by rw [q 1 (by omega)]; exact o10), fun _ => ⟨_, s117r (k := 32) (b := b) (by rw [q 3 (by omega)]; exact hb2) hb (by omega), fun k => h77 false (b_eq.mp k).symm, fun k => h77 true (b_ne.mp k).symm⟩⟩⟩)
  by_cases hr : b + 32 ≤ 100000
  case neg =>
    exact call_bad (rv := some (.int 0)) (e := 1) (c := 2) hI (cpre3 _ _ (Or.inl ⟨s100 o2, Or.inr ⟨1, s101rt (k := 32) hb1 hb (by omega) hr, rfl, rfl⟩⟩)) (hm0 _ _ _ _ _ frM_rfl (fun _ => ⟨rfl, rfl⟩) (fun k => absurd (by omega) k)) (by decide) (by decide)
  have hrn : ¬ 100000 < b + 32 := by omega
  have k101 := s101r (L := L) (h := h) (z := z) (J := J) (k := 32) hb1 hb hr
  have k2 := s2 (L := L) (h := h) (z := z) (I := I) (J := J) (x := 32)
  cases hl : lsC I 32 with
  | false =>
    rw [hl] at k2
    have hfr : frM I J (epC (I 145 5) (wsC I 32)) J := fun b hb => ⟨by rw [epC_m hb, wsC_ne (by omega)], rfl⟩
    obtain ⟨hC, hH, hK, -, hp⟩ := wprep (k := 32) hI o1 hb2 (by omega) hr hfr
    have hp := hp hl
    refine call_w (n' := n) (t' := t) (st' := st) (tm' := tm) (fv' := fv) (v := none) (c := 3) hC hH hK (fun k => absurd k hp) (fun _ => ?_) (fun h z => ?_) (fun b hb => ?_) (fun _ _ _ => rfl) (wsC_ne (by omega)) (by omega) (by decide) (by decide)
    · exact cpre3 _ _ (Or.inl ⟨s100 o2, Or.inl ⟨k101, _, _, _, k2, fun _ => Or.inr ⟨2, _, _, s104t (hK.2.1.trans (if_neg hp)), rfl, rfl⟩, fun k => absurd rfl k⟩⟩)
    · have hF := Inv_ep (c := 3) hC hH hK
      exact ⟨_, hm0 _ _ _ _ _ hfr (fun k => absurd k hrn) (fun _ => ⟨fun _ => r133_183 ⟨_, _, s119e hK, s133_loop (show f ≤ 2500 by omega) n1 hF.1.1.2.2.2.1 n 0 (by omega)⟩, fun k => absurd (hl.symm.trans k) (by decide)⟩), fun k => absurd k hp⟩
    · rw [wsM_ne (by omega), u2_ne (by omega)]; rfl
  | true =>
    rw [hl] at k2
    have hfr : frM I J (epC (I 145 5) (gMk (wsC I 32) g x2 (nI f) x4)) J := fun b hb => ⟨by rw [epC_m hb, gMk_ne (by omega), wsC_ne (by omega)], rfl⟩
    obtain ⟨hC0, hH0, hK0, -, -⟩ := wprep (k := 32) hI o1 hb2 (by omega) hr hfr
    have hMw0 : ∀ b, b < 145 → wsM (u2 (epC (I 145 5) (gMk (wsC I 32) g x2 (nI f) x4)) 145 0 0) 32 b = epC (I 145 5) (gMk (wsC I 32) g x2 (nI f) x4) b := fun b hb => by rw [wsM_ne (by omega), u2_ne (by omega)]
    generalize hMw : wsM (u2 (epC (I 145 5) (gMk (wsC I 32) g x2 (nI f) x4)) 145 0 0) 32 = Mw at hMw0
    rw [show wsM (u2 (epC (I 145 5) (gMk (wsC I 32) g x2 (nI f) x4)) 145 0 0) (nI 32) = Mw from hMw] at hC0 hH0 hK0
    obtain ⟨y4, y5, y6, y7, y8⟩ := gMk_5 (I := wsC I 32) (g := g) (s := x2) (f := nI f) (r := x4)
    have q161 : mGk Mw g x2 (nI f) x4 161 g = 1 := by unfold mGk; rw [mGr_ne (by omega), u2_ne (by omega), u2_ne (by omega), u2_ne (by omega), u2_at, if_pos ⟨rfl, rfl⟩]
    have q162 : mGk Mw g x2 (nI f) x4 162 g = x2 := by unfold mGk; rw [mGr_ne (by omega), u2_ne (by omega), u2_ne (by omega), u2_at, if_pos ⟨rfl, rfl⟩]
    have q163 : mGk Mw g x2 (nI f) x4 163 g = nI f := by unfold mGk; rw [mGr_ne (by omega), u2_ne (by omega), u2_at, if_pos ⟨rfl, rfl⟩]
    have q164 : mGk Mw g x2 (nI f) x4 164 g = x4 := by unfold mGk; rw [mGr_ne (by omega), u2_at, if_pos ⟨rfl, rfl⟩]
    have q5 : ∀ b e, (b = 165 ∨ b = 166 ∨ b = 167) → e < 2500 → mGk Mw g x2 (nI f) x4 b (2500 * g + e) = 0 := fun b e hb he => by unfold mGk mGr; rw [if_pos ⟨hb, by omega, by omega⟩]
    have hG3 : IG1 n g (gMk (wsC I 32) g x2 (nI f) x4) (mGk Mw g x2 (nI f) x4) := by
      unfold IG1
      rw [y5, y6, y7, y8, q161, q162, q163, q164]
      refine ⟨rfl, Or.inr rfl, rfl, rfl, rfl, hx2s, fun e he => ?_, fun e q1 q2 => ?_, ⟨f, by omega, rfl, fun e he => ?_⟩, 0, fun _ => 0, by omega, y4, fun i hi => absurd hi (by omega), fun e he _ => q5 166 e (by omega) he⟩
      · rw [q5 165 e (by omega) he, q5 167 e (by omega) he]; exact gMk_r he
      · exact ⟨q5 165 e (by omega) q2, q5 167 e (by omega) q2⟩
      · refine ⟨Or.inl (q5 165 e (by omega) (by omega)), fun k => ?_⟩
        rcases k with k | k
        · exact absurd (q5 165 e (by omega) (by omega)) k
        · exact absurd (q5 166 e (by omega) (by omega)) k
    have hC3 : InvC n t st tm fv (gMk (wsC I 32) g x2 (nI f) x4) J (mGk Mw g x2 (nI f) x4) J := by
      refine InvC_G1 hg hC0 hG3 (fun b q1 q2 q3 q4 => gMk_ne q4) (fun b q1 q2 => mGk_ne (by omega)) (fun j hj => by rw [mGk_ne (by omega)]) (fun b i q1 q2 q3 => ?_) (fun b i q1 q2 q3 => ?_)
      · unfold mGk
        rw [mGr_ne (by omega), u2_at, if_neg (fun k => q3 k.2), u2_at, if_neg (fun k => q3 k.2), u2_at, if_neg (fun k => q3 k.2), u2_at, if_neg (fun k => q3 k.2)]
      · unfold mGk mGr
        rw [if_neg (by omega), u2_ne (by omega), u2_ne (by omega), u2_ne (by omega), u2_ne (by omega)]
    have hH3 : HC (fun _ => True) n st fv (mGk Mw g x2 (nI f) x4) := HC_fr hH0 (fun b q1 q2 => mGk_ne (by omega)) (by rw [mGk_ne (by omega)])
    have hK3 : IKm (I 145 5) (gMk (wsC I 32) g x2 (nI f) x4) (mGk Mw g x2 (nI f) x4) := by
      have em : mGk Mw g x2 (nI f) x4 145 = Mw 145 := mGk_ne (by omega)
      exact IKm_fr hK0 (gMk_ne (by omega)) (by rw [em]) (by rw [em]) (by rw [em]) (by rw [em]) (by rw [em])
    have k26 := s26 (L := L) (h := h) (z := z) (I := wsC I 32) (J := J) (s := x2) (f := nI f) (r := x4) hg
    have hF := Inv_ep (c := 3) hC3 hH3 hK3
    have e15 : cn (cfr (gMk (wsC I 32) g x2 (nI f) x4) x2 f) n = cn (gwP (epM (I 145 5) 3 (mGk Mw g x2 (nI f) x4)) f x2) n := by
      rw [cnt_gw hC3.1 hx2]
      have e1 : ∀ b, b = 152 ∨ b = 146 → epM (I 145 5) 3 (mGk Mw g x2 (nI f) x4) b = mGk Mw g x2 (nI f) x4 b := fun b hb => by
        unfold epM; split
        · exact u2_ne (by omega)
        · rw [u2_ne (by omega), mOff_lo (by omega), u2_ne (by omega)]
      unfold gwP
      rw [e1 152 (by omega), e1 146 (by omega)]
    have k15 := s15 (L := L) (h := h) (z := z) (J := J) (s := x2) (f := f) (IE_CW hC3.1) (by omega)
    rw [e15] at k15
    have hcl : ∀ (o : eO) (σo : eS), _ → Run 78 0 [(0, .ref 1), (1, .int (nI g)), (2, .int x2), (3, .int (nI f)), (4, .int x4)] [] (mS L I J h z) o σo := fun o σo H => cpre3 o σo (Or.inl ⟨s100 o2, Or.inl ⟨k101, _, _, _, k2, fun k => absurd k (by decide), fun _ => ⟨hvg, _, _, by rw [hcg, R0_63 hg]; exact k26, H⟩⟩⟩)
    refine call_w (n' := n) (t' := t) (st' := st) (tm' := tm) (fv' := fv) (v := some (.int (nI (cn (gwP (epM (I 145 5) 3 (mGk Mw g x2 (nI f) x4)) f x2) n)))) (c := 3) hC3 hH3 hK3 (fun hp => ?_) (fun hp => ?_) (fun h z => ?_) (fun b hb => ?_) (fun _ _ _ => rfl) ?_ (by omega) (by decide) (by decide)
    · exact hcl _ _ (Or.inl ⟨_, _, s104 (hK3.2.1.trans (if_pos hp)), _, k15, rfl, rfl⟩)
    · exact hcl _ _ (Or.inr ⟨2, _, _, s104t (hK3.2.1.trans (if_neg hp)), rfl, rfl⟩)
    · refine ⟨_, hm0 _ _ _ _ _ hfr (fun k => absurd k hrn) (fun _ => ⟨fun k => absurd (hl.symm.trans k) (by decide), fun _ => ?_⟩), fun _ => rfl⟩
      rw [hMw]
      exact r133_183 ⟨_, _, s119e hK3, s133_loop (show f ≤ 2500 by omega) n1 hF.1.1.2.2.2.1 n 0 (by omega)⟩
    · rw [mGk_ne (by omega), hMw0 b hb]
    · rw [gMk_ne (by omega), wsC_ne (by omega)]
end
