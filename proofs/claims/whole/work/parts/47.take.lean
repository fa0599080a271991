/-! take. -/
theorem sk_skip {P : Nat → Bool} : ∀ (d m k : Nat), (∀ j, k ≤ j → j < k + d → P j = false) → sk P (d + m) k = sk P m (k + d) := by
  intro d
  induction d with
  | zero => intro m k _; rw [Nat.zero_add, Nat.add_zero]
  | succ d ih =>
    intro m k h
    rw [show d + 1 + m = (d + m) + 1 by omega, sk, if_neg (by rw [h k (by omega) (by omega)]; decide), ih m (k + 1) (fun j h1 h2 => h j (by omega) (by omega)), show k + 1 + d = k + (d + 1) by omega]
theorem sk_allf {P : Nat → Bool} {m k : Nat} (h : ∀ j, k ≤ j → j < k + m → P j = false) : sk P m k = none := by
  have := sk_skip m 0 k h
  rw [Nat.add_zero] at this
  rw [this]; rfl
section
variable {L h z n t : Nat} {st tm fv fv' : Nat → Nat} {I I' M M' : rI} {J K J' K' : rJ}
/-- an event that a group takes -/
abbrev tkP (st fv : Nat → Nat) (M : rI) (g f : Nat) (w : Int32) (e : Nat) : Bool := decide (f ≤ e) && (decide (M 165 (2500 * g + e) = 0) && (!mo M g e && ((decide (w = -1) || decide (w = nI (st e))) && vis st fv e)))
def gRs (I : rI) (g k t : Nat) (r : Option Nat) : rI := match r with
  | none => I
  | some e => u2 (u2 (u2 (u2 I (68 + 5 * g) k (nI e)) (69 + 5 * g) k (nI t + 8)) (65 + 5 * g) 4 (nI k + 1)) (67 + 5 * g) e (I (67 + 5 * g) e + 1)
def mRs (M : rI) (g : Nat) (r : Option Nat) : rI := match r with
  | none => M
  | some e => u2 (u2 M 166 (2500 * g + e) (M 145 2 + 8)) 167 (2500 * g + e) (M 167 (2500 * g + e) + 1)
theorem s28_loop {g f k : Nat} {po : Nat → Nat} {w : Int32} (hg : g < 8) (hk : k < 16) (hE : IE n t st tm fv I J M K) (ho : IGo n g k po I M) (hw : I (65 + 5 * g) 6 = w) (hs : ∀ e, e < 2500 → I (66 + 5 * g) e = M 165 (2500 * g + e)) : ∀ m j, n ≤ j + m → f ≤ j → j ≤ 2500 → (m = 0 ∨ j + m = n) →
    Run 28 16 [(0, .ref (65 + 5 * g)), (1, .ref 10), (2, .int (nI j))] [] (mS L I J h z) (.inl (some (.int (oI (sk (tkP st fv M g f w) m j))))) (mS L (gRs I g k t (sk (tkP st fv M g f w) m j)) J h z) := by
  have hn := hE.1
  have h13 := hE.2.2.1
  have h8 := hE.2.2.2.2.1
  have hpo : ∀ i, i < k → po i < 2500 ∧ I (68 + 5 * g) i = nI (po i) := fun i hi => ⟨by have := (ho.2.2.1 i hi).1; omega, (ho.2.2.1 i hi).2.1⟩
  intro m
  induction m with
  | zero =>
    intro j hj hf hj2 _
    refine r28_16 (sG hg) ⟨fun _ => ⟨rfl, rfl⟩, fun c => absurd ?_ c⟩
    rw [h13]; exact nI_le (by omega) (by omega)
  | succ m ih =>
    intro j hj hf hj2 hm
    have hjn : j < n := by omega
    have hv : vp_in (nI j) 2500 := vp_in_nI (by omega) (by omega)
    have hrow : ∀ e, e < 2500 → I (R0 (65 + 5 * g) 0) e = M 165 (2500 * g + e) := fun e he => by rw [(R0_g hg).1]; exact hs e he
    have nx : tkP st fv M g f w j = false → Run 28 16 [(0, .ref (65 + 5 * g)), (1, .ref 10), (2, .int (nI j + 1))] [] (mS L I J h z) (.inl (some (.int (oI (sk (tkP st fv M g f w) (m + 1) j))))) (mS L (gRs I g k t (sk (tkP st fv M g f w) (m + 1) j)) J h z) := by
      intro hp
      rw [sk, if_neg (by rw [hp]; decide), nI_1]
      exact ih (j + 1) (by omega) (by omega) (by omega) (by omega)
    refine r28_16 (sG hg) ⟨fun c => ?_, fun _ => ⟨hv, fun c => nx ?_, fun c => ⟨_, s29 hg (by omega) (p := j) (by omega) ho.2.1 hpo, fun c2 => nx ?_, fun c2 => ⟨_, s14e hE hjn, fun c3 => nx ?_, fun c3 => ?_⟩⟩⟩⟩
    · rw [h13] at c; exact absurd ((nI_leI (by omega) (by omega)).mp c) (by omega)
    · rw [cl j (by omega), hrow j (by omega)] at c
      simp [tkP, c]
    · have c2 := b_ne.mp c2
      rw [fo_out hn hjn ho] at c2
      rw [tkP, c2]; simp
    · rw [hw] at c3
      rw [tkP, b_eq.mp c3]; simp
    · rw [cl j (by omega), hrow j (by omega)] at c
      have c2 := b_eq.mp c2
      rw [fo_out hn hjn ho] at c2
      rw [hw] at c3
      have hp : tkP st fv M g f w j = true := by
        rw [tkP, c2, b_ne.mp c3, decide_eq_true c, decide_eq_true hf]; rfl
      rw [sk, if_pos hp]
      have e4 : I (65 + 5 * g) 4 = nI k := ho.2.1
      rw [(R0_g hg).2.1, (R0_g hg).2.2.1, (R0_g hg).2.2.2, cl j (by omega), e4, cl k (by omega)]
      have q1 : u2 I (68 + 5 * g) k (nI j) (65 + 5 * g) 4 = nI k := by rw [u2_ne (by omega)]; exact e4
      rw [q1, cl k (by omega)]
      have q2 : u2 I (68 + 5 * g) k (nI j) 10 8 = nI t := by rw [u2_ne (by omega)]; exact h8
      rw [q2]
      have q3 : u2 (u2 I (68 + 5 * g) k (nI j)) (69 + 5 * g) k (nI t + 8) (65 + 5 * g) 4 = nI k := by rw [u2_ne (by omega)]; exact q1
      rw [q3]
      have q4 : u2 (u2 (u2 I (68 + 5 * g) k (nI j)) (69 + 5 * g) k (nI t + 8)) (65 + 5 * g) 4 (nI k + 1) (67 + 5 * g) j = I (67 + 5 * g) j := by rw [u2_ne (by omega), u2_ne (by omega), u2_ne (by omega)]
      rw [q4]
      exact ⟨vp_in_nI (by omega) (by omega), vp_in_nI (by omega) (by omega), rfl, rfl⟩
theorem s132 {g e f : Nat} {w : Int32} (hg : g < 8) (he : e < n) (hE : IE n t st tm fv I J M K) (hf : M 163 g = nI f) (hf2 : f ≤ 2500) (hw : M 162 g = w) (hw2 : w = -1 ∨ ∃ s, s < 40 ∧ w = nI s) :
    dP 132 [.ref 145, .int (nI g), .int (nI e)] L h z M K (bb (decide (f ≤ e) && (decide (w = -1) || decide (w = nI (st e))))) := by
  have hn := hE.1
  have h1 := (hE.2.2.2.2.2.2.2.1 e he).2.1
  have hx0 : w < 0 ↔ w = -1 := by
    rcases hw2 with hx | ⟨s, hs, rfl⟩
    · subst hx; decide
    · simp only [ti_lt, ti_eq, ti_nI, Int32.reduceToInt]; omega
  refine r132_0 ⟨vp_in_nI hg (by omega), fun c => ?_, fun c => ⟨fun c2 => ?_, fun c2 => ⟨vp_in_nI (by omega) (by omega), fun c3 => ?_, fun c3 => ?_⟩⟩⟩
  · rw [cl g (by omega), hf, nI_ltI (by omega) (by omega)] at c
    rw [decide_eq_false (show ¬ f ≤ e by omega)]; exact ⟨rfl, rfl⟩
  all_goals rw [cl g (by omega), hf, nI_ltI (by omega) (by omega)] at c
  all_goals rw [cl g (by omega), hw, hx0] at c2
  · rw [decide_eq_true (show f ≤ e by omega), decide_eq_true c2]; exact ⟨rfl, rfl⟩
  · rw [cl e (by omega), cl g (by omega), hw, h1] at c3
    rw [decide_eq_true (show f ≤ e by omega), decide_eq_false c2, decide_eq_false (fun q => c3 q.symm)]; exact ⟨rfl, rfl⟩
  · rw [cl e (by omega), cl g (by omega), hw, h1] at c3
    rw [decide_eq_true (show f ≤ e by omega), decide_eq_true c3.symm]; simp
theorem s136_loop {g f : Nat} {w : Int32} (hg : g < 8) (hE : IE n t st tm fv I J M K) (hf : M 163 g = nI f) (hf2 : f ≤ 2500) (hw : M 162 g = w) (hw2 : w = -1 ∨ ∃ s, s < 40 ∧ w = nI s) : ∀ m j, j + m = n →
    Run 136 57 [(0, .ref 145), (1, .int (nI g)), (2, .int (nI j))] [] (mS L M K h z) (.inl (some (.int (oI (sk (tkP st fv M g f w) m j))))) (mS L (mRs M g (sk (tkP st fv M g f w) m j)) K h z) := by
  have hn := hE.1
  have h13 := hE.2.2.2.1
  intro m
  induction m with
  | zero =>
    intro j hj
    refine r136_57 ⟨fun _ => ⟨rfl, rfl⟩, fun c => absurd ?_ c⟩
    rw [h13]; exact nI_le (by omega) (by omega)
  | succ m ih =>
    intro j hj
    have hjn : j < n := by omega
    have hv : vp_in (nI j) 2500 := vp_in_nI (by omega) (by omega)
    have h15 := M_vis hE hjn
    have e : nI g * 2500 + nI j = nI (2500 * g + j) := by
      rw [show (2500 : Int32) = nI 2500 from rfl, nI_mul, nI_add, Nat.mul_comm]
    have hv2 : vp_in (nI (2500 * g + j)) 20000 := vp_in_nI (by omega) (by omega)
    have nx : tkP st fv M g f w j = false → Run 136 57 [(0, .ref 145), (1, .int (nI g)), (2, .int (nI j + 1))] [] (mS L M K h z) (.inl (some (.int (oI (sk (tkP st fv M g f w) (m + 1) j))))) (mS L (mRs M g (sk (tkP st fv M g f w) (m + 1) j)) K h z) := by
      intro hp
      rw [sk, if_neg (by rw [hp]; decide), nI_1]
      exact ih (j + 1) (by omega)
    refine r136_57 ⟨fun c => ?_, fun _ => ⟨hv, fun c => nx ?_, fun c => ⟨_, s132 hg hjn hE hf hf2 hw hw2, fun c2 => nx ?_, fun c2 => ?_⟩⟩⟩
    · rw [h13] at c; exact absurd ((nI_leI (by omega) (by omega)).mp c) (by omega)
    · rw [cl j (by omega), h15] at c
      rw [tkP, Bool.eq_false_iff.mpr c]; simp
    · have c2 := b_eq.mp c2
      rw [Bool.and_eq_false_iff] at c2
      rcases c2 with c2 | c2
      · rw [tkP, c2]; rfl
      · rw [tkP, c2]; simp
    · have c2 := b_ne.mp c2
      rw [cl j (by omega), h15] at c
      rw [Bool.and_eq_true] at c2
      rw [e, cl _ (by omega)]
      refine ⟨hv2, fun c3 => nx ?_, fun c3 => ⟨fun c4 => ?_, fun c4 => nx ?_⟩⟩
      · rw [tkP, decide_eq_false c3]; simp
      · have hp : tkP st fv M g f w j = true := by
          rw [tkP, c2.1, c2.2, c, decide_eq_true c3, mo, decide_eq_true c4]; rfl
        rw [sk, if_pos hp]
        exact ⟨rfl, rfl⟩
      · rw [tkP, mo, decide_eq_false c4]; simp
theorem s134t {g : Nat} (hg : g < 8) (h1 : I 161 g = 1) : dP 134 [.ref 145, .int (nI g)] L h z I J 1 := by
  refine r134_0 ⟨_, s115r (rg_nI (by omega) hg) (by omega) (by omega) (by decide), fun c => absurd c (by decide), fun _ => ⟨vp_in_nI hg (by omega), fun c => ?_, fun _ => ⟨rfl, rfl⟩⟩⟩
  rw [cl g (by omega), h1] at c
  exact absurd c (by decide)
theorem s134f {x : Int32} (h1 : rg x 8 = false ∨ ∃ g, g < 8 ∧ x = nI g ∧ I 161 g = 0) : dP 134 [.ref 145, .int x] L h z I J 0 := by
  rcases h1 with h1 | ⟨g, hg, rfl, h1⟩
  · exact r134_0 ⟨_, s115r h1 (by omega) (by omega) (by decide), fun _ => ⟨rfl, rfl⟩, fun c => absurd rfl c⟩
  · refine r134_0 ⟨_, s115r (rg_nI (by omega) hg) (by omega) (by omega) (by decide), fun c => absurd c (by decide), fun _ => ⟨vp_in_nI hg (by omega), fun _ => ⟨rfl, rfl⟩, fun c => ?_⟩⟩
    rw [cl g (by omega)] at c
    exact absurd h1 c
/-- a group: one more is out -/
theorem IG1_take {g f k p : Nat} {po : Nat → Nat} {w : Int32} (hg : g < 8) (hn : n ≤ 2500) (ht : t ≤ 1000000) (h : IG1 n g I M) (ho : IGo n g k po I M) (hk : k < 16) (hp : p < n) (hf : M 163 g = nI f) (hf2 : f ≤ 2500) (hfp : f ≤ p) (hw : M 162 g = -1 ∨ M 162 g = M 146 p) (h0 : M 166 (2500 * g + p) = 0) (h2 : M 145 2 = nI t) (h1m : M 161 g = 1) :
    IG1 n g (gRs I g k t (some p)) (mRs M g (some p)) := by
  obtain ⟨a1, a2, a3, a4, a5, a6, a7, a8, ⟨f', b1, b2, b3⟩, -⟩ := h
  have ef : f' = f := nI_inj (by omega) (by omega) (b2.symm.trans hf)
  subst ef
  have r5 : ∀ j, ¬ j = 4 → gRs I g k t (some p) (65 + 5 * g) j = I (65 + 5 * g) j := fun j hj => by
    unfold gRs; simp only; rw [u2_ne (by omega), u2_at, if_neg (by omega), u2_ne (by omega), u2_ne (by omega)]
  have r6 : gRs I g k t (some p) (66 + 5 * g) = I (66 + 5 * g) := by
    unfold gRs; simp only; rw [u2_ne (by omega), u2_ne (by omega), u2_ne (by omega), u2_ne (by omega)]
  have r7 : ∀ e, gRs I g k t (some p) (67 + 5 * g) e = if e = p then I (67 + 5 * g) p + 1 else I (67 + 5 * g) e := fun e => by
    unfold gRs; simp only; rw [u2_at]
    by_cases c : e = p
    · rw [if_pos ⟨rfl, c⟩, if_pos c]
    · rw [if_neg (fun q => c q.2), if_neg c, u2_ne (by omega), u2_ne (by omega), u2_ne (by omega)]
  have r8 : ∀ j, gRs I g k t (some p) (68 + 5 * g) j = if j = k then nI p else I (68 + 5 * g) j := fun j => by
    unfold gRs; simp only; rw [u2_ne (by omega), u2_ne (by omega), u2_ne (by omega), u2_at]; simp only [true_and]
  have r9 : ∀ j, gRs I g k t (some p) (69 + 5 * g) j = if j = k then nI t + 8 else I (69 + 5 * g) j := fun j => by
    unfold gRs; simp only; rw [u2_ne (by omega), u2_ne (by omega), u2_at]
    by_cases c : j = k
    · rw [if_pos ⟨rfl, c⟩, if_pos c]
    · rw [if_neg (fun q => c q.2), if_neg c, u2_ne (by omega)]
  have q : ∀ b, ¬ b = 166 → ¬ b = 167 → mRs M g (some p) b = M b := fun b hb hb2 => by
    unfold mRs; simp only; rw [u2_ne hb2, u2_ne hb]
  have q6 : ∀ e, mRs M g (some p) 166 (2500 * g + e) = if e = p then nI t + 8 else M 166 (2500 * g + e) := fun e => by
    unfold mRs; simp only; rw [u2_ne (by omega), u2_at, h2]
    by_cases c : e = p
    · rw [if_pos ⟨rfl, by rw [c]⟩, if_pos c]
    · rw [if_neg (by omega), if_neg c]
  have q7 : ∀ e, mRs M g (some p) 167 (2500 * g + e) = if e = p then M 167 (2500 * g + p) + 1 else M 167 (2500 * g + e) := fun e => by
    unfold mRs; simp only; rw [u2_at]
    by_cases c : e = p
    · rw [if_pos ⟨rfl, by rw [c]⟩, if_pos c]
    · rw [if_neg (by omega), if_neg c, u2_ne (by omega)]
  unfold IG1
  rw [r5 5 (by omega), r5 6 (by omega), r5 7 (by omega), r5 8 (by omega), r6, q 161 (by omega) (by omega), q 162 (by omega) (by omega), q 163 (by omega) (by omega), q 164 (by omega) (by omega), q 165 (by omega) (by omega)]
  refine ⟨a1, a2, a3, a4, a5, a6, fun e he => ?_, fun e q1 q2 => ?_, ⟨f', b1, b2, fun e he => ?_⟩, k + 1, fun j => if j = k then p else po j, IGo_add (x := nI t + 8) hn ho hk hp h0 ?_ ?_ r8 r9 q6 (fun _ => rfl)⟩
  · rw [r7, q7]
    obtain ⟨x1, x2⟩ := a7 e he
    by_cases c : e = p
    · rw [if_pos c, if_pos c, ← c, x2]; exact ⟨x1, rfl⟩
    · rw [if_neg c, if_neg c]; exact ⟨x1, x2⟩
  · rw [q7, if_neg (by omega)]; exact a8 e q1 q2
  · have := b3 e he
    unfold IGw at this ⊢
    rw [q 165 (by omega) (by omega), q6, q 161 (by omega) (by omega), q 162 (by omega) (by omega), q 146 (by omega) (by omega)]
    by_cases c : e = p
    · subst c; exact ⟨this.1, fun _ => ⟨h1m, hfp, hw⟩⟩
    · rw [if_neg c]; exact this
  · rw [show (8 : Int32) = nI 8 from rfl, nI_add]
    exact nI_ne0 (by omega) (by omega)
  · unfold gRs; simp only; rw [u2_ne (by omega), u2_at, if_pos ⟨rfl, rfl⟩, nI_1]
theorem oI_inj {a b : Option Nat} (h : a = b) : oI a = oI b := by rw [h]
theorem call_take {x1 : Int32} (hI : Inv n t st tm fv I J I J) : callOk 79 136 [.int x1] [3, 1] t L h z I J := by
  have hE := hI.1.1
  have n1 := hE.1
  have n2 := hE.2.2.2.1
  rcases Inv_on hI with ⟨o1, o2⟩ | ⟨o1, o2⟩
  · refine call_bad (rv := some (.int 0)) (e := 1) (c := 2) hI ?_ ?_ (by decide) (by decide)
    · exact r79_0 (Or.inr ⟨1, s100t o2, rfl, rfl⟩)
    · exact r136_0 ⟨fun c => absurd o1 c, fun _ => r136_13 ⟨_, _, _, s114t, fun _ => ⟨rfl, rfl⟩, fun c => absurd c (by decide)⟩⟩
  have o10 : ¬ I 145 1 = 0 := by rw [o1]; decide
  have h94 := s94 (L := L) (h := h) (z := z) (I := I) (J := J) (x := x1)
  have hbad : Run 79 0 [(0, .ref 1), (1, .int x1)] [] (mS L I J h z) (.inr 3) (mS L I J (h + 1) (z + 6)) → (rg x1 8 = false ∨ ∃ g, g < 8 ∧ x1 = nI g ∧ I 161 g = 0) → callOk 79 136 [.int x1] [3, 1] t L h z I J := by
    intro hc hq
    refine call_bad (rv := some (.int 0)) (e := 3) (c := 1) hI hc ?_ (by decide) (by decide)
    refine r136_0 ⟨fun _ => r136_13 ⟨_, _, _, s114f, fun c => absurd rfl c, fun _ => ⟨_, s134f ?_, fun c => absurd rfl c, fun _ => ?_⟩⟩, fun c => absurd c o10⟩
    · rw [u2_ne (by omega)]; exact hq
    · refine r136_34 ⟨_, _, _, s114t, fun c => absurd c (by decide), fun _ => ⟨rfl, ?_⟩⟩
      rw [u2_u2]
  cases hp : rg x1 8 with
  | false =>
    rw [hp] at h94
    exact hbad (r79_0 (Or.inl ⟨s100 o2, _, h94, fun _ => ⟨rfl, rfl⟩, fun c => absurd rfl c⟩)) (Or.inl hp)
  | true =>
  rw [hp] at h94
  obtain ⟨g, hg, rfl⟩ := (rg_t (by omega)).mp hp
  have hv : vp_in (nI g) 8 := vp_in_nI hg (by omega)
  have hcg := cl g (by omega)
  have hG := hI.1.2.2.2.1 g hg
  obtain ⟨a1, a2, a3, a4, a5, a6, a7, a8, ⟨f, b1, b2, b3⟩, k, po, ho⟩ := hI.1.2.2.2.1 g hg
  rcases a2 with a2 | a2
  · refine hbad (r79_0 (Or.inl ⟨s100 o2, _, h94, fun c => absurd c (by decide), fun _ => ⟨hv, fun c => ?_, fun _ => ⟨rfl, rfl⟩⟩⟩)) (Or.inr ⟨g, hg, rfl, a2⟩)
    rw [hcg, R0_63 hg, a1] at c
    exact absurd a2 c
  have a20 : ¬ I (65 + 5 * g) 5 = 0 := by rw [a1, a2]; decide
  have hk16 := ho.1
  have hcnt := out_cn n1 ho
  -- the model up to its search
  have hmd : ∀ (Ic : rI) (o : eO) (σo : eS), frM I J Ic J → ((k = 16 → o = .inl (some (.int (-1))) ∧ σo = mS L (u2 Ic 145 0 0) J h z) ∧ (¬ k = 16 → Run 136 57 [(0, .ref 145), (1, .int (nI g)), (2, .int (nI 0))] [] (mS L (u2 Ic 145 0 0) J h z) o σo)) → Run 136 0 [(0, .ref 145), (1, .int (nI g))] [] (mS L Ic J h z) o σo := by
    intro Ic o σo hfr H
    have q : ∀ j, ¬ j = 0 → u2 Ic 145 0 0 145 j = I 145 j := fun j hj => by rw [u2_at, if_neg (fun k => hj k.2), (hfr 145 (by omega)).1]
    have q2 : ∀ b, 145 < b → u2 Ic 145 0 0 b = I b := fun b hb => by rw [u2_ne (by omega), (hfr b (by omega)).1]
    refine r136_0 ⟨fun _ => r136_13 ⟨_, _, _, s114f, fun c => absurd rfl c, fun _ => ⟨_, s134t hg (by rw [q2 161 (by omega)]; exact a2), fun _ => ?_, fun c => absurd c (by decide)⟩⟩, fun c => absurd c (by rw [(hfr 145 (by omega)).1]; exact o10)⟩
    refine r136_34 ⟨_, _, _, s114f, fun _ => ⟨_, s135 (n := n) hg n1 (by rw [u2_u2, q 13 (by omega)]; exact n2), fun c => ?_, fun c => ?_⟩, fun c => absurd rfl c⟩
    all_goals rw [u2_u2] at c ⊢
    all_goals rw [show cn (mo (u2 Ic 145 0 0) g) n = k by unfold mo; rw [q2 166 (by omega)]; exact hcnt] at c
    · exact H.2 (fun e => c (by rw [e]; rfl))
    · exact H.1 (nI_inj (b := 16) (by omega) (by omega) c)
  by_cases hk : k = 16
  · refine call_rd (rv := some (.int (-1))) hI ?_ (hmd I _ _ frM_rfl ⟨fun _ => ⟨rfl, rfl⟩, fun c => absurd hk c⟩)
    refine r79_0 (Or.inl ⟨s100 o2, _, h94, fun c => absurd c (by decide), fun _ => ⟨hv, fun _ => ?_, fun c => ?_⟩⟩)
    · rw [hcg, R0_63 hg]
      refine ⟨_, _, _, r28_0 (sG hg) ⟨fun c => ?_, fun _ => ⟨rfl, rfl⟩⟩, rfl, rfl⟩
      rw [ho.2.1, hk] at c; exact absurd c (by decide)
    · rw [hcg, R0_63 hg] at c; exact absurd c a20
  · have hk' : k < 16 := by omega
    have hcs : Run 28 16 [(0, .ref (65 + 5 * g)), (1, .ref 10), (2, .int (nI f))] [] (mS L I J h z) (.inl (some (.int (oI (sk (tkP st fv I g f (I 162 g)) n 0))))) (mS L (gRs I g k t (sk (tkP st fv I g f (I 162 g)) n 0)) J h z) := by
      by_cases hfn : f ≤ n
      · have e := sk_skip (P := tkP st fv I g f (I 162 g)) f (n - f) 0 (fun j q1 q2 => by rw [tkP, decide_eq_false (show ¬ f ≤ j by omega)]; rfl)
        rw [show f + (n - f) = n by omega, Nat.zero_add] at e
        rw [e]
        exact s28_loop hg hk' hE ho a3 (fun e he => (a7 e he).1) (n - f) f (by omega) (by omega) b1 (by omega)
      · have e : sk (tkP st fv I g f (I 162 g)) n 0 = none := sk_allf (fun j q1 q2 => by rw [tkP, decide_eq_false (show ¬ f ≤ j by omega)]; rfl)
        rw [e]
        exact s28_loop (f := f) hg hk' hE ho a3 (fun e he => (a7 e he).1) 0 f (by omega) (by omega) b1 (by omega)
    have hc79 : Run 79 0 [(0, .ref 1), (1, .int (nI g))] [] (mS L I J h z) (.inl (some (.int (oI (sk (tkP st fv I g f (I 162 g)) n 0))))) (mS L (gRs I g k t (sk (tkP st fv I g f (I 162 g)) n 0)) J h z) := by
      refine r79_0 (Or.inl ⟨s100 o2, _, h94, fun c => absurd c (by decide), fun _ => ⟨hv, fun _ => ?_, fun c => ?_⟩⟩)
      · rw [hcg, R0_63 hg]
        refine ⟨_, _, _, r28_0 (sG hg) ⟨fun _ => ?_, fun c => absurd ?_ c⟩, rfl, rfl⟩
        · rw [a4, b2]; exact hcs
        · rw [ho.2.1]; exact (nI_ltI (b := 16) (by omega) (by omega)).mpr hk'
      · rw [hcg, R0_63 hg] at c; exact absurd c a20
    generalize hr : sk (tkP st fv I g f (I 162 g)) n 0 = r at hc79
    have hfr : frM I J (gRs I g k t r) J := by
      intro b hb
      refine ⟨?_, rfl⟩
      unfold gRs
      cases r with
      | none => rfl
      | some e => simp only; rw [u2_ne (by omega), u2_ne (by omega), u2_ne (by omega), u2_ne (by omega)]
    have hI0 : Inv n t st tm fv I J (u2 (gRs I g k t r) 145 0 0) J := Inv_t0 (Inv_cg hI frC_rfl hfr) (Or.inl rfl)
    have q2 : ∀ b, 145 < b → u2 (gRs I g k t r) 145 0 0 b = I b := fun b hb => by rw [u2_ne (by omega), (hfr b (by omega)).1]
    have hml := s136_loop (L := L) (h := h) (z := z) (w := I 162 g) hg hI0.1.1 (f := f) (by rw [q2 163 (by omega)]; exact b2) b1 (by rw [q2 162 (by omega)]) a6 n 0 (by omega)
    have hP : tkP st fv (u2 (gRs I g k t r) 145 0 0) g f (I 162 g) = tkP st fv I g f (I 162 g) := by
      funext e; unfold tkP mo; rw [q2 165 (by omega), q2 166 (by omega)]
    rw [hP, hr] at hml
    refine ⟨_, _, _, _, _, hc79, And.intro rfl rfl, fun e k => (nomatch k), _, _, _, hmd _ _ _ hfr ⟨fun c => absurd c hk, fun _ => hml⟩, ?_, ?_, fun v k => (Sum.inl.inj k).symm, n, t, st, tm, fv, by omega, ?_⟩
    · unfold mRs gRs
      cases r with
      | none => exact u2_ne (by omega)
      | some e => simp only; rw [u2_ne (by omega), u2_ne (by omega), u2_ne (by omega), u2_ne (by omega), u2_ne (by omega), u2_ne (by omega), u2_ne (by omega)]
    · unfold mRs
      cases r with
      | none => simp only; rw [u2_at, if_pos ⟨rfl, rfl⟩]; rfl
      | some e => simp only; rw [u2_ne (by omega), u2_ne (by omega), u2_at, if_pos ⟨rfl, rfl⟩]; rfl
    · cases r with
      | none => exact Inv_mix hI0 (fun b q1 q3 => ⟨by show u2 I 145 0 0 b = I b; rw [u2_ne (by omega)], rfl⟩)
      | some p =>
        obtain ⟨y1, y2, y3, y4⟩ := sk_some hr
        have hpn : p < n := by omega
        simp only [tkP, Bool.and_eq_true, Bool.or_eq_true, Bool.not_eq_true', decide_eq_true_eq] at y3
        obtain ⟨y5, y6, y7, y8, y9⟩ := y3
        have hG1 := hI0.1.2.2.2.1 g hg
        have hoM : IGo n g k po I (u2 (gRs I g k t (some p)) 145 0 0) := by
          unfold IGo at ho ⊢; rw [q2 166 (by omega)]; exact ho
        have hG2 := IG1_take hg n1 hE.2.1 hG1 hoM hk' hpn (f := f) (w := 0) (by rw [q2 163 (by omega)]; exact b2) b1 y5 (by
          rw [q2 162 (by omega), q2 146 (by omega), (hE.2.2.2.2.2.2.2.1 p hpn).2.1]; exact y8) (by rw [q2 166 (by omega)]; simpa [mo] using y7) hI0.1.1.2.2.2.2.2.1 (by rw [q2 161 (by omega)]; exact a2)
        have hfin : Inv n t st tm fv (gRs I g k t (some p)) J (mRs (u2 (gRs I g k t (some p)) 145 0 0) g (some p)) J := by
          have z1 : ∀ b, ¬ b = 166 → ¬ b = 167 → mRs (u2 (gRs I g k t (some p)) 145 0 0) g (some p) b = u2 (gRs I g k t (some p)) 145 0 0 b := fun b hb hb2 => by
            unfold mRs; simp only; rw [u2_ne hb2, u2_ne hb]
          have z2 : ∀ b, ¬ (65 + 5 * g ≤ b ∧ b ≤ 69 + 5 * g) → gRs I g k t (some p) b = I b := fun b hb => by
            unfold gRs; simp only; rw [u2_ne (by omega), u2_ne (by omega), u2_ne (by omega), u2_ne (by omega)]
          refine ⟨InvC_G1 hg hI0.1 hG2 (fun b q1 q2 q3 q4 => z2 b q4) (fun b q1 q3 => z1 b (by omega) (by omega)) (fun j hj => by rw [z1 145 (by omega) (by omega)]) (fun b i q1 q3 q4 => by rw [z1 b (by omega) (by omega)]) (fun b i q1 q3 q4 => ?_), HC_fr hI0.2.1 (fun b q1 q3 => z1 b (by omega) (by omega)) (by rw [z1 145 (by omega) (by omega)]), IK_fr hI0.2.2 (z2 2 (by omega)) (by rw [z1 145 (by omega) (by omega)]) (by rw [z1 145 (by omega) (by omega)]) (by rw [z1 145 (by omega) (by omega)]) (by rw [z1 145 (by omega) (by omega)])⟩
          unfold mRs; simp only; rw [u2_at, if_neg (by omega), u2_at, if_neg (by omega)]
        refine Inv_mix hfin (fun b q1 q3 => ⟨?_, rfl⟩)
        unfold mRs; simp only; rw [u2_ne (by omega), u2_ne (by omega), u2_ne (by omega)]
end
