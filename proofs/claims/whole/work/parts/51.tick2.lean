/-! tick: what the class takes back; passTo. -/
section
variable {L h z n t : Nat} {st tm fv fv' : Nat → Nat} {I I' M M' : rI} {J K J' K' : rJ}
/-- what a group's virtual model may be, while the class takes back what is due -/
def tkR (M Mv : rI) (g : Nat) (y : Int32) : Prop := (∀ b, ¬ b = 165 → ¬ b = 166 → Mv b = M b) ∧
  ∀ e, e < 2500 → (Mv 166 (2500 * g + e) = M 166 (2500 * g + e) ∧ Mv 165 (2500 * g + e) = M 165 (2500 * g + e)) ∨ (due M y g e = true ∧ Mv 166 (2500 * g + e) = 0 ∧ Mv 165 (2500 * g + e) = if spt M g e = true then 2 else M 165 (2500 * g + e))
theorem IGo_mark {g k p : Nat} {x x' : Int32} {po : Nat → Nat} (ho : IGo n g k po I M) : IGo n g k po (u2 I (66 + 5 * g) p x) (u2 M 165 (2500 * g + p) x') := by
  unfold IGo at ho ⊢
  rw [u2_ne (show ¬ 65 + 5 * g = 66 + 5 * g by omega), u2_ne (show ¬ 68 + 5 * g = 66 + 5 * g by omega), u2_ne (show ¬ 69 + 5 * g = 66 + 5 * g by omega), u2_ne (show ¬ 166 = 165 by omega)]
  exact ho
theorem gDr_69 {g k i j : Nat} : gDr I g k i (69 + 5 * g) j = if j = i then I (69 + 5 * g) (k - 1) else I (69 + 5 * g) j := by
  unfold gDr; rw [u2_at]
  by_cases c : j = i
  · rw [if_pos ⟨rfl, c⟩, if_pos c]
  · rw [if_neg (fun q => c q.2), if_neg c, u2_ne (by omega), u2_ne (by omega)]
theorem m1_add (x : Nat) : nI x + (-1) = nI x - 1 := by
  rw [ti_eq, ti_add, ti_sub, show (-1 : Int32).toInt = -1 from rfl, show (1 : Int32).toInt = 1 from rfl]; rfl
theorem s33_loop {g : Nat} {y : Int32} (hg : g < 8) (hn : n ≤ 2500) : ∀ (m : Nat) (Iv Mv : rI) (k : Nat) (po : Nat → Nat), m ≤ k → IG1 n g Iv Mv → IGo n g k po Iv Mv → tkR M Mv g y → (∀ j, m ≤ j → j < k → ¬ Iv (69 + 5 * g) j ≤ y) →
    ∃ (I' M' : rI) (k' : Nat) (po' : Nat → Nat), Run 33 7 [(0, .ref (65 + 5 * g)), (1, .int y), (2, .int (nI m - 1))] [] (mS L Iv J h z) (.inl none) (mS L I' J h z) ∧ IG1 n g I' M' ∧ IGo n g k' po' I' M' ∧ tkR M M' g y ∧ (∀ j, j < k' → ¬ I' (69 + 5 * g) j ≤ y) ∧ ∀ b, ¬ (65 + 5 * g ≤ b ∧ b ≤ 69 + 5 * g) → I' b = Iv b := by
  intro m
  induction m with
  | zero =>
    intro Iv Mv k po _ hG ho hR hd
    exact ⟨Iv, Mv, k, po, r33_7 (sG hg) ⟨fun _ => ⟨rfl, rfl⟩, fun c => absurd (by decide) c⟩, hG, ho, hR, fun j hj => hd j (by omega) hj, fun _ _ => rfl⟩
  | succ m ih =>
    intro Iv Mv k po hm hG ho hR hd
    have hk16 := ho.1
    have e1 : nI (m + 1) - 1 = nI m := by rw [show (1 : Int32) = nI 1 from rfl, nI_sub (by omega) (by omega)]; rfl
    have hneg : ¬ nI m < 0 := by rw [show (0 : Int32) = nI 0 from rfl, nI_ltI (by omega) (by omega)]; omega
    have hv : vp_in (nI m) 16 := vp_in_nI (by omega) (by omega)
    obtain ⟨y1, y2, y3, y4, y5⟩ := ho.2.2.1 m (by omega)
    by_cases hdue : Iv (69 + 5 * g) m ≤ y
    case neg =>
      obtain ⟨I', M', k', po', q1, q2⟩ := ih Iv Mv k po (by omega) hG ho hR (fun j h1 h2 => by
        by_cases c : j = m
        · rw [c]; exact hdue
        · exact hd j (by omega) h2)
      refine ⟨I', M', k', po', ?_, q2⟩
      rw [e1]
      refine r33_7 (sG hg) ⟨fun c => absurd c hneg, fun _ => ⟨hv, fun _ => ?_, fun c => absurd ?_ c⟩⟩
      · rw [m1_add]; exact q1
      · rw [(R0_g hg).2.2.2, cl m (by omega)]; exact nle.mp hdue
    case pos =>
      have hfo : fo po k (po m) = some m := fo_some (by omega) y5
      have hpo : ∀ i, i < k → po i < 2500 ∧ Iv (68 + 5 * g) i = nI (po i) := fun i hi => ⟨by have := (ho.2.2.1 i hi).1; omega, (ho.2.2.1 i hi).2.1⟩
      have k32 := s32 (L := L) (h := h) (z := z) (J := J) (p := po m) hg hk16 (by omega) ho.2.1 hpo hfo
      have hRe := hR.2 (po m) (by omega)
      have hun : Mv 166 (2500 * g + po m) = M 166 (2500 * g + po m) ∧ Mv 165 (2500 * g + po m) = M 165 (2500 * g + po m) := by
        rcases hRe with q | ⟨_, q, _⟩
        · exact q
        · rw [y3] at q; exact absurd q y4
      have hdM : due M y g (po m) = true := by
        rw [due, ← hun.1, y3, decide_eq_false y4, decide_eq_true hdue]; rfl
      obtain ⟨a1, a2, a3, a4, a5, a6, a7, a8, a9⟩ := hG
      have hG : IG1 n g Iv Mv := ⟨a1, a2, a3, a4, a5, a6, a7, a8, a9⟩
      have esp : (Iv (67 + 5 * g) (po m) ≤ Iv (65 + 5 * g) 8) = (M 167 (2500 * g + po m) ≤ M 164 g) := by
        rw [(a7 (po m) (by omega)).2, a5, hR.1 167 (by omega) (by omega), hR.1 164 (by omega) (by omega)]
      -- one step of both
      have step : ∀ (Iw Mw : rI), IG1 n g Iw Mw → IGo n g (k - 1) (fun j => if j = m then po (k - 1) else po j) Iw Mw → tkR M Mw g y → (∀ j, Iw (69 + 5 * g) j = if j = m then Iv (69 + 5 * g) (k - 1) else Iv (69 + 5 * g) j) → (∀ b, ¬ (65 + 5 * g ≤ b ∧ b ≤ 69 + 5 * g) → Iw b = Iv b) → dU 32 [.ref (65 + 5 * g), .int (nI (po m))] L h z Iv J Iw J →
          ∃ (I' M' : rI) (k' : Nat) (po' : Nat → Nat), Run 33 7 [(0, .ref (65 + 5 * g)), (1, .int y), (2, .int (nI (m + 1) - 1))] [] (mS L Iv J h z) (.inl none) (mS L I' J h z) ∧ IG1 n g I' M' ∧ IGo n g k' po' I' M' ∧ tkR M M' g y ∧ (∀ j, j < k' → ¬ I' (69 + 5 * g) j ≤ y) ∧ ∀ b, ¬ (65 + 5 * g ≤ b ∧ b ≤ 69 + 5 * g) → I' b = Iv b := by
        intro Iw Mw w1 w2 w3 w4 w5 w6
        obtain ⟨I', M', k', po', q1, q2, q3, q4, q5, q6⟩ := ih Iw Mw (k - 1) _ (by omega) w1 w2 w3 (fun j h1 h2 => by
          rw [w4]
          by_cases c : j = m
          · rw [if_pos c]; exact hd (k - 1) (by omega) (by omega)
          · rw [if_neg c]; exact hd j (by omega) (by omega))
        refine ⟨I', M', k', po', ?_, q2, q3, q4, q5, fun b hb => by rw [q6 b hb, w5 b hb]⟩
        rw [e1]
        refine r33_7 (sG hg) ⟨fun c => absurd c hneg, fun _ => ⟨hv, fun c => absurd c ?_, fun _ => ?_⟩⟩
        · rw [(R0_g hg).2.2.2, cl m (by omega)]; exact nlt.mpr hdue
        · rw [(R0_g hg).2.2.1, cl m (by omega), y2, m1_add]
          exact ⟨_, _, w6, q1⟩
      by_cases hs : M 167 (2500 * g + po m) ≤ M 164 g
      · rw [if_pos (by rw [esp]; exact hs)] at k32
        refine step _ _ (IG1_drop hg hn hG ho (by omega)) (IGo_drop hn ho (by omega) (fun _ => rfl)) ⟨fun b h1 h2 => by rw [u2_ne h2]; exact hR.1 b h1 h2, fun e he => ?_⟩ (fun j => gDr_69) (fun b hb => gDr_ne hb) k32
        rw [u2_at, u2_ne (show ¬ 165 = 166 by omega)]
        by_cases c : e = po m
        · subst c
          rw [if_pos ⟨rfl, rfl⟩]
          refine Or.inr ⟨hdM, rfl, ?_⟩
          rw [hun.2, if_neg (by rw [spt, decide_eq_true hs]; decide)]
        · rw [if_neg (by omega)]
          exact hR.2 e he
      · rw [if_neg (by rw [esp]; exact hs)] at k32
        have hG1 := IG1_mark (x := 2) hg hn hG y1 (by rw [y3]; exact y4) (Or.inr rfl)
        have ho1 := IGo_mark (p := po m) (x := 2) (x' := 2) ho
        have hG2 := IG1_drop hg hn hG1 ho1 (i := m) (by omega)
        have ho2 := IGo_drop hn ho1 (i := m) (by omega) (fun _ => rfl)
        rw [gDr_u2] at hG2 ho2
        refine step _ _ hG2 ho2 ⟨fun b h1 h2 => by rw [u2_ne h2, u2_ne h1]; exact hR.1 b h1 h2, fun e he => ?_⟩ (fun j => by rw [u2_ne (by omega)]; exact gDr_69) (fun b hb => by rw [u2_ne (by omega)]; exact gDr_ne hb) k32
        rw [u2_at, u2_ne (show ¬ 165 = 166 by omega), u2_ne (show ¬ 166 = 165 by omega), u2_at]
        by_cases c : e = po m
        · subst c
          rw [if_pos ⟨rfl, rfl⟩, if_pos ⟨rfl, rfl⟩]
          refine Or.inr ⟨hdM, rfl, ?_⟩
          rw [if_pos (by rw [spt, decide_eq_false hs]; rfl)]
        · rw [if_neg (by omega), if_neg (by omega)]
          exact hR.2 e he
/-- takeBackDue -/
theorem s33 {g : Nat} {y : Int32} (hg : g < 8) (hn : n ≤ 2500) (hG : IG1 n g I M) : ∃ I', dU 33 [.ref (65 + 5 * g), .int y] L h z I J I' J ∧ IG1 n g I' (mTk M n y 20000) ∧ ∀ b, ¬ (65 + 5 * g ≤ b ∧ b ≤ 69 + 5 * g) → I' b = I b := by
  obtain ⟨k, po, ho⟩ := hG.2.2.2.2.2.2.2.2.2
  obtain ⟨I', M', k', po', q1, q2, q3, q4, q5, q6⟩ := s33_loop (L := L) (h := h) (z := z) (J := J) (M := M) (y := y) hg hn k I M k po (Nat.le_refl _) hG ho ⟨fun _ _ _ => rfl, fun _ _ => Or.inl ⟨rfl, rfl⟩⟩ (fun j h1 h2 => by omega)
  refine ⟨I', r33_0 (sG hg) (by rw [ho.2.1]; exact q1), ?_, q6⟩
  have hout : ∀ e, n ≤ e → e < 2500 → M 166 (2500 * g + e) = 0 := fun e h1 h2 => ho.2.2.2 e h2 (fun i hi q => by have := (ho.2.2.1 i hi).1; omega)
  have hst : ∀ e, e < 2500 → mTk M n y 20000 166 (2500 * g + e) = M' 166 (2500 * g + e) ∧ mTk M n y 20000 165 (2500 * g + e) = M' 165 (2500 * g + e) := by
    intro e he
    have em : (2500 * g + e) % 2500 = e := by omega
    have ed : (2500 * g + e) / 2500 = g := by omega
    unfold mTk
    rw [em, ed]
    rcases q4.2 e he with ⟨x1, x2⟩ | ⟨x1, x2, x3⟩
    · have hc : ¬ (2500 * g + e < 20000 ∧ e < n ∧ ¬ M 166 (2500 * g + e) = 0 ∧ M 166 (2500 * g + e) ≤ y) := by
        rintro ⟨_, c1, c2, c3⟩
        obtain ⟨i, hi, hpi⟩ : ∃ i, i < k' ∧ po' i = e := Classical.byContradiction fun c => c2 (by rw [← x1]; exact q3.2.2.2 e he (fun i hi q => c ⟨i, hi, q⟩))
        have := q5 i hi
        rw [← (q3.2.2.1 i hi).2.2.1, hpi, x1] at this
        exact this c3
      rw [if_neg hc, if_neg hc, x1, x2]
      exact ⟨rfl, rfl⟩
    · simp only [due, Bool.and_eq_true, Bool.not_eq_true', decide_eq_false_iff_not, decide_eq_true_eq] at x1
      have hen : e < n := Classical.byContradiction fun c => x1.1 (hout e (by omega) he)
      have hc : (2500 * g + e < 20000 ∧ e < n ∧ ¬ M 166 (2500 * g + e) = 0 ∧ M 166 (2500 * g + e) ≤ y) := ⟨by omega, hen, x1⟩
      rw [if_pos hc, if_pos hc, if_pos rfl, if_neg (by omega), x2, x3]
      refine ⟨rfl, ?_⟩
      by_cases hs : M 167 (2500 * g + e) ≤ M 164 g
      · rw [if_neg (fun q => q.2 hs), if_neg (by rw [spt, decide_eq_true hs]; decide)]
      · rw [if_pos ⟨rfl, hs⟩, if_pos (by rw [spt, decide_eq_false hs]; rfl)]
  refine IG1_pw hn q2 (fun _ _ _ => rfl) (fun b h1 h2 => by rw [mTk_ne (by omega) (by omega), q4.1 b (by omega) (by omega)]) (fun b e h1 h2 h3 => ?_) (fun e he => by rw [mTk_ne (by omega) (by omega), q4.1 146 (by omega) (by omega)])
  by_cases c : b = 165
  · rw [c]; exact (hst e h3).2
  by_cases c2 : b = 166
  · rw [c2]; exact (hst e h3).1
  · rw [mTk_ne c c2, q4.1 b c c2]
theorem s106_g {y : Int32} (hn : n ≤ 2500) (hG : IG n I M) : ∀ m g Iv, g + m = 8 → (∀ g', g' < g → IG1 n g' Iv (mTk M n y 20000)) → (∀ b, b < 65 ∨ 65 + 5 * g ≤ b → Iv b = I b) →
    ∃ I', (∀ (o : eO) (σo : eS), Run 106 34 [(0, .ref 1), (2, .int 0)] [] (mS L (u2 I' 10 8 y) J h z) o σo → Run 106 2 [(0, .ref 1), (1, .int y), (2, .int (nI g))] [] (mS L Iv J h z) o σo) ∧ IG n I' (mTk M n y 20000) ∧ ∀ b, b < 65 ∨ 105 ≤ b → I' b = I b := by
  intro m
  induction m with
  | zero =>
    intro g Iv hg h1 h2
    have : g = 8 := by omega
    subst this
    exact ⟨Iv, fun o σo H => r106_2 ⟨fun _ => H, fun c => absurd (by decide) c⟩, h1, fun b hb => h2 b (by omega)⟩
  | succ m ih =>
    intro g Iv hg h1 h2
    have hgg : IG1 n g Iv M := IG1_pw hn (hG g (by omega)) (fun b q1 q2 => h2 b (by omega)) (fun _ _ _ => rfl) (fun _ _ _ _ _ => rfl) (fun _ _ => rfl)
    obtain ⟨Iw, w1, w2, w3⟩ := s33 (L := L) (h := h) (z := z) (J := J) (y := y) (by omega) hn hgg
    obtain ⟨I', q1, q2, q3⟩ := ih (g + 1) Iw (by omega) (fun g' hg' => by
      by_cases c : g' = g
      · rw [c]; exact w2
      · exact IG1_pw hn (h1 g' (by omega)) (fun b q1 q2 => w3 b (by omega)) (fun _ _ _ => rfl) (fun _ _ _ _ _ => rfl) (fun _ _ => rfl)) (fun b hb => by rw [w3 b (by omega), h2 b (by omega)])
    refine ⟨I', fun o σo H => ?_, q2, q3⟩
    refine r106_2 ⟨fun c => absurd ((nI_leI (a := 8) (by omega) (by omega)).mp c) (by omega), fun _ => ⟨vp_in_nI (by omega) (by omega), ?_⟩⟩
    rw [cl g (by omega), R0_63 (by omega)]
    refine ⟨_, _, w1, ?_⟩
    rw [nI_1]
    exact q1 o σo H
theorem CV_5 {s f : Nat} (hs : s < 40) (hC : CV n t st tm fv I) (hf : f ≤ ct st s n) : CV n t st tm (updn fv s f) (u2 I (18 + s) 5 (nI f)) := by
  obtain ⟨a1, a2, a3, a4, a5, a6⟩ := hC
  refine ⟨a1, a2, by rw [u2_ne (by omega)]; exact a3, by rw [u2_ne (by omega)]; exact a4, fun e he => ?_, fun i hi => ?_⟩
  · rw [u2_ne (by omega), u2_ne (by omega), u2_ne (by omega)]; exact a5 e he
  · obtain ⟨c1, c2, c3, c4, c5, c6⟩ := a6 i hi
    unfold updn
    by_cases k : i = s
    · subst k
      rw [if_pos rfl, u2_at, if_neg (by omega), u2_at, if_pos ⟨rfl, rfl⟩, u2_at, if_neg (by omega), u2_at, if_neg (by omega), u2_at, if_neg (by omega)]
      exact ⟨c1, rfl, hf, c4, c5, c6⟩
    · rw [if_neg k, u2_ne (by omega)]
      exact ⟨c1, c2, c3, c4, c5, c6⟩
/-- all streams hide -/
theorem s106_s (hC : CV n t st tm fv I) : ∀ m s Iv fw, s + m = 40 → CV n t st tm fw Iv → (∀ i, s ≤ i → i < 40 → fw i = fv i) → (∀ e, e < n → st e < s → (nm st e < fw (st e) ↔ nm st e < fv (st e) ∨ hideK I (st e) e)) → (∀ b, b < 18 ∨ 58 ≤ b → Iv b = I b) → (∀ i, i < 40 → ∀ j, ¬ j = 5 → Iv (18 + i) j = I (18 + i) j) →
    ∃ I' fv', Run 106 34 [(0, .ref 1), (2, .int (nI s))] [] (mS L Iv J h z) (.inl none) (mS L I' J h z) ∧ CV n t st tm fv' I' ∧ (∀ e, e < n → (nm st e < fv' (st e) ↔ nm st e < fv (st e) ∨ hideK I (st e) e)) ∧ (∀ b, b < 18 ∨ 58 ≤ b → I' b = I b) ∧ ∀ i, i < 40 → ∀ j, ¬ j = 5 → I' (18 + i) j = I (18 + i) j := by
  intro m
  induction m with
  | zero =>
    intro s Iv fw hs h1 h2 h3 h4 h5
    have : s = 40 := by omega
    subst this
    exact ⟨Iv, fw, r106_34 ⟨fun _ => ⟨rfl, rfl⟩, fun c => absurd (by decide) c⟩, h1, fun e he => h3 e he (h1.2.2.2.2.1 e he).1, h4, h5⟩
  | succ m ih =>
    intro s Iv fw hs h1 h2 h3 h4 h5
    obtain ⟨f, w1, w2, w3, w4⟩ := s24 (L := L) (h := h) (z := z) (J := J) (s := s) (by omega) h1
    have hK : ∀ e, hideK Iv s e = hideK I s e := fun e => by
      unfold hideK
      rw [h5 s (by omega) 1 (by omega), h5 s (by omega) 2 (by omega), h5 s (by omega) 3 (by omega), h5 s (by omega) 4 (by omega), h5 s (by omega) 0 (by omega), h4 10 (by omega), h4 12 (by omega), h4 16 (by omega)]
    obtain ⟨I', fv', q1, q2, q3, q4, q5⟩ := ih (s + 1) (u2 Iv (18 + s) 5 (nI f)) (updn fw s f) (by omega) (CV_5 (by omega) h1 w3) (fun i hi hi2 => by
        unfold updn; rw [if_neg (by omega)]; exact h2 i (by omega) hi2) (fun e he hse => by
        unfold updn
        by_cases c : st e = s
        · rw [if_pos c, w4 e he c, hK, h2 s (by omega) (by omega), c]
        · rw [if_neg c]; exact h3 e he (by omega)) (fun b hb => by rw [u2_ne (by omega)]; exact h4 b hb) (fun i hi j hj => by rw [u2_at, if_neg (fun q => hj q.2)]; exact h5 i hi j hj)
    refine ⟨I', fv', ?_, q2, q3, q4, q5⟩
    refine r106_34 ⟨fun c => absurd ((nI_leI (a := 40) (by omega) (by omega)).mp c) (by omega), fun _ => ⟨_, _, w1, ?_⟩⟩
    rw [nI_1]
    exact q1
end
