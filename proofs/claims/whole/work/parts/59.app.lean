/-! append: its pieces. -/
theorem hld_f {r : Nat → Int32} {d : Nat} {x : Int32} (h : ∀ i, i < d → ¬ r i = x) : hld r d x = false := by
  have : sk (fun i => decide (r i = x)) d 0 = none := sk_allf (fun j q1 q2 => decide_eq_false (h j (by omega)))
  show (sk _ d 0).isSome = false
  rw [this]; rfl
theorem hld_t {r : Nat → Int32} {d i : Nat} {x : Int32} (hi : i < d) (h : r i = x) : hld r d x = true := by
  cases hs : sk (fun i => decide (r i = x)) d 0 with
  | none =>
    have := sk_none hs i (by omega) (by omega)
    rw [decide_eq_true h] at this; cases this
  | some k => show (sk _ d 0).isSome = true; rw [hs]; rfl
section
variable {st fv : Nat → Nat} {n s d : Nat} {ids did : Nat → Int32} {x : Int32}
theorem fd_none (h : ∀ e, e < n → st e = s → vis st fv e = true → stB st fv n s ids did d (nm st e) = true → (x = -2 ∨ nI (nm st e) - 1 = x) → False) : sk (fdP st fv n s d ids did x) n 0 = none := by
  refine sk_allf (fun e _ he => Bool.eq_false_iff.mpr (fun q => ?_))
  simp only [fdP, Bool.and_eq_true, Bool.or_eq_true, decide_eq_true_eq] at q
  exact h e (by omega) q.2.1.1 q.2.1.2 q.2.2 q.1
theorem stB_at {k : Nat} (hd : 0 < d) (h : stB st fv n s ids did d k = true) : ∃ e, atP st n s k = some e ∧ vis st fv e = true := by
  obtain ⟨e, h1, h2, h3⟩ := okN_at (stB_ok h 0 hd)
  exact ⟨e, h1, h2⟩
theorem fd_some {k e : Nat} (hd : 0 < d) (h : stB st fv n s ids did d k = true) (ha : atP st n s k = some e) (hx : x = -2 ∨ nI (nm st e) - 1 = x) (hl : ∀ i, i < e → st i = s → stB st fv n s ids did d (nm st i) = true → (x = -2 ∨ nI (nm st i) - 1 = x) → False) : sk (fdP st fv n s d ids did x) n 0 = some e := by
  obtain ⟨e1, e2, e3⟩ := atP_some ha
  obtain ⟨e', h1, h2⟩ := stB_at hd h
  rw [ha] at h1
  cases h1
  refine sk_eq e1 ?_ (fun i hi => Bool.eq_false_iff.mpr (fun q => ?_))
  · simp only [fdP, Bool.and_eq_true, Bool.or_eq_true, decide_eq_true_eq]
    exact ⟨hx, ⟨e2, h2⟩, by rw [e3]; exact h⟩
  · simp only [fdP, Bool.and_eq_true, Bool.or_eq_true, decide_eq_true_eq] at q
    exact hl i hi q.2.1.1 q.2.2 q.1
end
section
variable {L h z n t : Nat} {st tm fv fv' : Nat → Nat} {I I' M M' : rI} {J K J' K' : rJ}
/-- the model looks whether an id is known -/
theorem s125_kn {s d : Nat} {x2 : Int32} {o : eO} {σo : eS} (hs : s < 40) (hd : d ≤ 8) (hE : IE n t st tm fv I J M K) (HK : (∃ e, e < n ∧ knP st fv s d (M 148) (M 158) e = true) → Run 125 187 [(0, .ref 145), (1, .int (nI s)), (2, .int x2), (3, .int (nI d))] [] (mS L M K h z) o σo)
    (HN : (∀ e, e < n → knP st fv s d (M 148) (M 158) e = false) → Run 125 95 [(0, .ref 145), (1, .int (nI s)), (2, .int x2), (3, .int (nI d)), (4, .int 0), (5, .int (nI n))] [] (mS L M K h z) o σo) : ∀ m j (x4 : Int32), j + m = n → (x4 = 0 ∨ x4 = 1) → (x4 = 1 → ∃ e, e < n ∧ knP st fv s d (M 148) (M 158) e = true) → (x4 = 0 → ∀ e, e < j → knP st fv s d (M 148) (M 158) e = false) →
      Run 125 95 [(0, .ref 145), (1, .int (nI s)), (2, .int x2), (3, .int (nI d)), (4, .int x4), (5, .int (nI j))] [] (mS L M K h z) o σo := by
  have n1 := hE.1
  have h13 := hE.2.2.2.1
  intro m
  induction m with
  | zero =>
    intro j x4 hj h01 h1 h0
    have : j = n := by omega
    subst this
    rcases h01 with rfl | rfl
    · exact HN (h0 rfl)
    · refine r125_95 ⟨fun _ => ⟨fun _ => HK (h1 rfl), fun c => absurd c (by decide)⟩, fun c => absurd ?_ c⟩
      rw [h13]; exact nI_le (by omega) (by omega)
  | succ m ih =>
    intro j x4 hj h01 h1 h0
    obtain ⟨d1, d2, d3, d4⟩ := hE.2.2.2.2.2.2.2.1 j (by omega)
    have hv := M_vis hE (show j < n by omega)
    have inn : ∀ m' k (x4 : Int32), k + m' = d → (x4 = 0 ∨ x4 = 1) → (x4 = 1 → ∃ e, e < n ∧ knP st fv s d (M 148) (M 158) e = true) → (x4 = 0 → (∀ e, e < j → knP st fv s d (M 148) (M 158) e = false) ∧ ((decide (st j = s) && vis st fv j) = true → ∀ i, i < k → ¬ M 158 i = M 148 j)) →
        Run 125 107 [(0, .ref 145), (1, .int (nI s)), (2, .int x2), (3, .int (nI d)), (4, .int x4), (5, .int (nI j)), (6, .int (nI k))] [] (mS L M K h z) o σo := by
      intro m'
      induction m' with
      | zero =>
        intro k x4 hk h01 h1 h0
        refine r125_107 ⟨fun _ => ?_, fun c => absurd (nI_le (by omega) (by omega)) c⟩
        rw [nI_1]
        refine ih (j + 1) x4 (by omega) h01 h1 (fun q e he => ?_)
        by_cases c : e = j
        · subst c
          unfold knP
          by_cases q2 : (decide (st e = s) && vis st fv e) = true
          · rw [hld_f (fun i hi => (h0 q).2 q2 i (by omega))]; simp
          · rw [Bool.eq_false_iff.mpr q2]; rfl
        · exact (h0 q).1 e (by omega)
      | succ m' ih' =>
        intro k x4 hk h01 h1 h0
        have C : ((decide (st j = s) && vis st fv j) = true → ¬ M 158 k = M 148 j) → Run 125 107 [(0, .ref 145), (1, .int (nI s)), (2, .int x2), (3, .int (nI d)), (4, .int x4), (5, .int (nI j)), (6, .int (nI k + 1))] [] (mS L M K h z) o σo := fun q => by
          rw [nI_1]
          refine ih' (k + 1) x4 (by omega) h01 h1 (fun q0 => ⟨(h0 q0).1, fun q1 i hi => ?_⟩)
          by_cases c : i = k
          · rw [c]; exact q q1
          · exact (h0 q0).2 q1 i (by omega)
        refine r125_107 ⟨fun c => absurd ((nI_leI (by omega) (by omega)).mp c) (by omega), fun _ => ?_⟩
        rw [cl j (by omega), cl k (by omega), d2, nI_eq (by omega) (by omega)]
        refine ⟨vp_in_nI (by omega) (by omega), fun c => C (fun q => ?_), fun c => ⟨fun c2 => C (fun q => ?_), fun c2 => ⟨vp_in_nI (by omega) (by omega), fun c3 => C (fun _ q => c3 q.symm), fun c3 => ?_⟩⟩⟩
        · rw [decide_eq_false c] at q; cases q
        · rw [Bool.and_eq_true] at q; exact absurd (hv.mpr q.2) c2
        · rw [nI_1]
          refine ih' (k + 1) 1 (by omega) (Or.inr rfl) (fun _ => ⟨j, by omega, ?_⟩) (fun q => absurd q (by decide))
          unfold knP
          rw [decide_eq_true c, hv.mp c2, hld_t (i := k) (by omega) c3.symm]; rfl
    refine r125_95 ⟨fun c => ?_, fun _ => inn d 0 x4 (by omega) h01 h1 (fun q => ⟨h0 q, fun _ i hi => absurd hi (by omega)⟩)⟩
    rw [h13] at c; exact absurd ((nI_leI (by omega) (by omega)).mp c) (by omega)
theorem fd_ver {a c : Nat} {x : Int32} (h : nI a - 1 = x) (h2 : nI c - 1 ≤ x) (ha : a < c) (hc : c ≤ 2500) : False := by
  subst h
  simp only [ti_le, ti_sub, ti_nI, Int32.reduceToInt] at h2
  omega
theorem fd_a {c k : Nat} (hc : c ≤ 2500) (hk : k = c) : nI c - 1 < nI k := by
  subst hk
  simp only [ti_lt, ti_sub, ti_nI, Int32.reduceToInt]; omega
theorem fd_b {c k : Nat} (hc : c ≤ 2500) (h : nI c - 1 < nI k) (hk : k < c) : False := by
  simp only [ti_lt, ti_sub, ti_nI, Int32.reduceToInt] at h; omega
theorem fd_c {c : Nat} {x : Int32} (hc : c ≤ 2500) (h1 : ¬ x < -1) (h2 : ¬ nI c - 1 ≤ x) : ∃ N, N < 2500 ∧ x + 1 = nI N := by
  refine ⟨(x.toInt + 1).toNat, ?_⟩
  simp only [ti_lt, ti_le, ti_eq, ti_add, ti_sub, ti_nI, Int32.reduceToInt] at *
  omega
/-- the model looks for the draft -/
theorem s125_nf {s d : Nat} {x2 : Int32} {o : eO} {σo : eS} (hs : s < 40) (hd0 : 0 < d) (hd : d ≤ 8) (hx : -2 ≤ x2) (hE : IE n t st tm fv I J M K)
    (HR : sk (fdP st fv n s d (M 148) (M 158) x2) n 0 = none → o = .inl (some (.int 0)) ∧ σo = mS L (u2 M 145 0 2) K h z) (HF : ∀ p, sk (fdP st fv n s d (M 148) (M 158) x2) n 0 = some p → o = .inl (some (.int (nI p))) ∧ σo = mS L (u2 M 145 0 0) K h z) :
      Run 125 187 [(0, .ref 145), (1, .int (nI s)), (2, .int x2), (3, .int (nI d))] [] (mS L M K h z) o σo := by
  have n1 := hE.1
  obtain ⟨c1, c2, c3, c4, c5, c6, c7, c8, c9, c10, c11, c12⟩ := hE.2.2.2.2.2.2.2.2 s hs
  have hct : ct st s n ≤ 2500 := Nat.le_trans (cn_le _ _) n1
  have fin : ∀ r, sk (fdP st fv n s d (M 148) (M 158) x2) n 0 = r → Run 125 258 [(0, .ref 145), (5, .int (oI r))] [] (mS L M K h z) o σo := by
    intro r hr
    cases r with
    | none => exact r125_258 ⟨fun c => absurd c (by decide), fun _ => r125_269 ⟨_, _, _, s114t, fun c => absurd c (by decide), fun _ => HR hr⟩⟩
    | some p =>
      have hp : p < n := by have := (sk_some hr).2.1; omega
      refine r125_258 ⟨fun _ => r125_269 ⟨_, _, _, s114f, fun _ => HF p hr, fun c => absurd rfl c⟩, fun c => absurd ?_ c⟩
      show (0 : Int32) ≤ nI p
      rw [show (0 : Int32) = nI 0 from rfl, nI_leI (by omega) (by omega)]; omega
  have hv : vp_in (nI s) 40 := vp_in_nI hs (by omega)
  by_cases h2 : x2 = -2
  · subst h2
    refine r125_187 ⟨fun _ => r125_214 (r125_215 ?_), fun c => absurd (by decide) c⟩
    have lp : ∀ m k, k + m = ct st s n → (∀ i, i < k → stB st fv n s (M 148) (M 158) d i = false) → Run 125 220 [(0, .ref 145), (1, .int (nI s)), (2, .int (-2)), (3, .int (nI d)), (5, .int (-1)), (6, .int (nI k))] [] (mS L M K h z) o σo := by
      intro m
      induction m with
      | zero =>
        intro k hk hall
        refine r125_220 ⟨fun c => absurd rfl c, fun _ => ⟨fun c => absurd c (by decide), fun _ => ⟨hv, fun _ => fin none (fd_none (fun e he h1 _ h3 _ => ?_)), fun c => absurd ?_ c⟩⟩⟩
        · have := nm_ct he h1
          rw [hall _ (by omega)] at h3; cases h3
        · rw [cl s (by omega), c2]
          exact fd_a hct (by omega)
      | succ m ih =>
        intro k hk hall
        refine r125_220 ⟨fun c => absurd rfl c, fun _ => ⟨fun c => absurd c (by decide), fun _ => ⟨hv, fun c => ?_, fun _ => ⟨_, s124 hs (by omega) hd hE, ?_⟩⟩⟩⟩
        · rw [cl s (by omega), c2] at c
          exact (fd_b hct c (by omega)).elim
        · rw [nI_1]
          by_cases hb : stB st fv n s (M 148) (M 158) d k = true
          · rw [if_pos hb]
            obtain ⟨e, e1, e2⟩ := stB_at hd0 hb
            rw [e1]
            obtain ⟨e3, e4, e5⟩ := atP_some e1
            refine r125_220 ⟨fun c => absurd rfl c, fun _ => ⟨fun _ => fin (some e) (fd_some hd0 hb e1 (Or.inl rfl) (fun i hi h1 h3 _ => ?_)), fun c => absurd ?_ c⟩⟩
            · have := nm_mono (st := st) hi (by rw [h1, e4])
              rw [hall _ (by omega)] at h3; cases h3
            · show (0 : Int32) ≤ nI e
              rw [show (0 : Int32) = nI 0 from rfl, nI_leI (by omega) (by omega)]; omega
          · rw [if_neg hb]
            refine ih (k + 1) (by omega) (fun i hi => ?_)
            by_cases q : i = k
            · rw [q]; exact Bool.eq_false_iff.mpr hb
            · exact hall i (by omega)
    exact lp (ct st s n) 0 (by omega) (fun i hi => absurd hi (by omega))
  · have hx1 : ¬ x2 < -1 := by
      simp only [ti_lt, ti_le, ti_eq, Int32.reduceToInt] at *; omega
    refine r125_187 ⟨fun c => absurd c hx1, fun _ => ⟨hv, fun c => r125_214 (r125_215 (r125_220 ⟨fun _ => fin none (fd_none (fun e he h1 _ _ h4 => ?_)), fun c => absurd c h2⟩)), fun c => ?_⟩⟩
    · rw [cl s (by omega), c2] at c
      exact fd_ver (h4.resolve_left h2) c (nm_ct he h1) hct
    · rw [cl s (by omega), c2] at c
      obtain ⟨N, hN, hN2⟩ := fd_c hct hx1 c
      have hiff : ∀ a, a < 2500 → (nI a - 1 = x2 ↔ a = N) := by
        intro a ha
        constructor
        · intro q
          rw [← q, Int32.sub_add_cancel] at hN2
          exact nI_inj (by omega) (by omega) hN2
        · rintro rfl
          rw [← hN2]; exact Int32.add_sub_cancel _ _
      rw [hN2]
      refine ⟨_, s124 hs (by omega) hd hE, r125_215 (r125_220 ⟨fun _ => fin _ ?_, fun c => absurd c h2⟩)⟩
      by_cases hb : stB st fv n s (M 148) (M 158) d N = true
      · rw [if_pos hb]
        obtain ⟨e, e1, e2⟩ := stB_at hd0 hb
        obtain ⟨e3, e4, e5⟩ := atP_some e1
        rw [e1]
        refine fd_some hd0 hb e1 (Or.inr ((hiff _ (by omega)).mpr e5)) (fun i hi h1 _ h4 => ?_)
        have := nm_mono (st := st) hi (by rw [h1, e4])
        have := (hiff _ (by omega)).mp (h4.resolve_left h2)
        omega
      · rw [if_neg hb]
        refine fd_none (fun e he h1 _ h3 h4 => ?_)
        have := nm_lt (st := st) (e := e)
        have := (hiff _ (by omega)).mp (h4.resolve_left h2)
        rw [this] at h3
        exact hb h3
/-! adding -/
theorem cAn_7 {s : Nat} {ids tys : Nat → Int32} (h : I 10 7 = nI n) : ∀ j, cAn s n ids tys I j 10 7 = nI (n + j) := by
  intro j
  cases j with
  | zero => exact h
  | succ j => show cAd _ _ _ _ _ _ 10 7 = _; rw [cAd_10, if_pos rfl]; rfl
theorem mAn_13 {s : Nat} {ids tys : Nat → Int32} (h : M 145 13 = nI n) : ∀ j, mAn s n ids tys M j 145 13 = nI (n + j) := by
  intro j
  cases j with
  | zero => exact h
  | succ j => show mAd _ _ _ _ _ 145 13 = _; rw [mAd_145, if_pos rfl]; rfl
theorem s21 {s d f : Nat} {ids tys : Nat → Int32} {ds : Nat → Int64} (hs : s < 40) (hd : d ≤ 8) (hn : n + d ≤ 2500) (h3 : I 3 3 = nI d) (h7 : I 10 7 = nI n) (h4 : I 4 = ids) (h5 : I 5 = tys) (h6 : J 6 = ds)
    (H : dU 24 [.ref 10, .int (nI s)] L h z (cAn s n ids tys I d) (jAn 15 n ds J d) (u2 (cAn s n ids tys I d) (18 + s) 5 (nI f)) (jAn 15 n ds J d)) : dU 21 [.ref 10, .ref 3, .int (nI s)] L h z I J (u2 (cAn s n ids tys I d) (18 + s) 5 (nI f)) (jAn 15 n ds J d) := by
  have lp : ∀ m j, j + m = d → Run 21 2 [(0, .ref 10), (1, .ref 3), (2, .int (nI s)), (3, .int (nI j))] [] (mS L (cAn s n ids tys I j) (jAn 15 n ds J j) h z) (.inl none) (mS L (u2 (cAn s n ids tys I d) (18 + s) 5 (nI f)) (jAn 15 n ds J d) h z) := by
    intro m
    induction m with
    | zero =>
      intro j hj
      have : j = d := by omega
      subst this
      refine r21_2 ⟨fun _ => ⟨_, _, H, rfl, rfl⟩, fun c => absurd ?_ c⟩
      rw [cAn_ne (by omega), h3]; exact nI_le (by omega) (by omega)
    | succ m ih =>
      intro j hj
      refine r21_2 ⟨fun c => ?_, fun _ => ?_⟩
      · rw [cAn_ne (by omega), h3] at c; exact absurd ((nI_leI (by omega) (by omega)).mp c) (by omega)
      rw [cAn_ne (b := 4) (by omega), cAn_ne (b := 5) (by omega), jAn_ne (b := 6) (by omega), h4, h5, h6, cl j (by omega), nI_1]
      exact ⟨vp_in_nI (by omega) (by omega), _, _, s23 hs (show n + j < 2500 by omega) (cAn_7 h7 j), ih (j + 1) (by omega)⟩
  exact r21_0 (lp d 0 (by omega))
theorem s125_ad {s d : Nat} {x6 : Int32} {ids tys : Nat → Int32} {ds : Nat → Int64} {o : eO} {σo : eS} (hs : s < 40) (hd : d ≤ 8) (hn : n + d ≤ 2500) (h13 : M 145 13 = nI n) (h4 : M 158 = ids) (h5 : M 159 = tys) (h6 : K 160 = ds) (hz : ∀ g e, g < 8 → n ≤ e → e < 2500 → M 165 (2500 * g + e) = 0)
    (H : Run 125 346 [(0, .ref 145), (1, .int (nI s)), (3, .int (nI d)), (6, .int x6), (7, .int (nI d))] [] (mS L (mAn s n ids tys M d) (jAn 150 n ds K d) h z) o σo) : ∀ m j, j + m = d → Run 125 346 [(0, .ref 145), (1, .int (nI s)), (3, .int (nI d)), (6, .int x6), (7, .int (nI j))] [] (mS L (mAn s n ids tys M j) (jAn 150 n ds K j) h z) o σo := by
  intro m
  induction m with
  | zero => intro j hj; rw [show j = d by omega]; exact H
  | succ m ih =>
    intro j hj
    refine r125_346 ⟨fun c => absurd ((nI_leI (by omega) (by omega)).mp c) (by omega), fun _ => ?_⟩
    rw [mAn_ne (b := 158) (by omega), mAn_ne (b := 159) (by omega), jAn_ne (b := 160) (by omega), h4, h5, h6, cl j (by omega), nI_1]
    exact ⟨vp_in_nI (by omega) (by omega), _, _, s121 hs (show n + j < 2500 by omega) (mAn_13 h13 j) (fun g hg => by rw [mAn_ne (by omega)]; exact hz g (n + j) hg (by omega) (by omega)), ih (j + 1) (by omega)⟩
theorem EGJ_fr (h : EGJ n t st tm fv I J M K) (h0 : I' 10 = I 10) (h1 : ∀ b, 11 ≤ b → b < 145 → ¬ (58 ≤ b ∧ b < 65) → I' b = I b) (h2 : ∀ b, 145 < b → b < 179 → ¬ (158 ≤ b ∧ b ≤ 160) → M' b = M b) (h3 : M' 145 2 = M 145 2) (h4 : M' 145 13 = M 145 13) : EGJ n t st tm fv I' J M' K := by
  obtain ⟨a, b, c⟩ := h
  exact ⟨IE_fr a h0 (fun b q1 q2 => h1 b q1 (by omega) (by omega)) (fun b q1 q2 => h2 b (by omega) (by omega) (by omega)) h3 h4 rfl rfl,
    IG_fr b (fun b q1 q2 => h1 b (by omega) (by omega) (by omega)) (fun b q1 q2 => h2 b (by omega) (by omega) (by omega)) (fun e _ => by rw [h2 146 (by omega) (by omega) (by omega)]),
    IJ_fr c (fun b q1 q2 => h1 b (by omega) (by omega) (by omega)) (fun b q1 q2 => h2 b (by omega) (by omega) (by omega)) (fun _ _ _ => rfl) rfl⟩
/-- the draft is empty -/
theorem InvC_d0 (h : InvC n t st tm fv I J M K) : InvC n t st tm fv (u2 I 3 3 0) J (u2 M 145 22 0) K := by
  obtain ⟨a, b, c, d, e⟩ := h
  have q1 : ∀ b, ¬ b = 3 → u2 I 3 3 0 b = I b := fun b hb => u2_ne hb
  have q2 : ∀ b, ¬ b = 145 → u2 M 145 22 0 b = M b := fun b hb => u2_ne hb
  have q3 : ∀ j, ¬ j = 22 → u2 M 145 22 0 145 j = M 145 j := fun j hj => by rw [u2_at, if_neg (fun q => hj q.2)]
  refine ⟨IE_fr a (q1 10 (by omega)) (fun b _ _ => q1 b (by omega)) (fun b _ _ => q2 b (by omega)) (q3 2 (by omega)) (q3 13 (by omega)) rfl rfl, ?_,
    IP_fr c (by rw [q1 7 (by omega)]) (fun b _ _ => q1 b (by omega)) ⟨q2 168 (by omega), q2 169 (by omega)⟩ (q3 32 (by omega)),
    IG_fr d (fun b _ _ => q1 b (by omega)) (fun b _ _ => q2 b (by omega)) (fun e he => by rw [q2 146 (by omega)]),
    IJ_fr e (fun b _ _ => q1 b (by omega)) (fun b _ _ => q2 b (by omega)) (fun b _ _ => rfl) rfl⟩
  obtain ⟨k, c1, c2, c3, c4, c5, c6, c7⟩ := b
  exact ⟨0, by omega, by rw [u2_at, if_pos ⟨rfl, rfl⟩]; rfl, by rw [u2_at, if_pos ⟨rfl, rfl⟩]; rfl, by rw [q1 4 (by omega), q2 158 (by omega)]; exact c4, by rw [q1 5 (by omega), q2 159 (by omega)]; exact c5, c6, fun i hi => absurd hi (by omega)⟩
theorem Inv_d0 {c : Int32} {Ic : rI} (hI : Inv n t st tm fv I J I J) (hfr : frM I J Ic J) : Inv n t st tm fv (u2 I 3 3 0) J (u2 (u2 Ic 145 22 0) 145 0 c) J := by
  have h0 : Inv n t st tm fv I J Ic J := Inv_cg hI frC_rfl hfr
  have q3 : ∀ j, ¬ j = 22 → u2 Ic 145 22 0 145 j = Ic 145 j := fun j hj => by rw [u2_at, if_neg (fun q => hj q.2)]
  exact Inv_t0 ⟨InvC_d0 h0.1, HC_fr h0.2.1 (fun b _ _ => u2_ne (by omega)) (q3 2 (by omega)), IK_fr h0.2.2 (u2_ne (by omega)) (q3 1 (by omega)) (q3 3 (by omega)) (q3 4 (by omega)) (q3 5 (by omega))⟩ (Or.inl rfl)
theorem frM_d0 : frM I J (u2 I 3 3 0) J := fun b hb => ⟨u2_ne (by omega), rfl⟩
theorem call_clr {q qm : Nat} {as : List Value} {es : List Nat} {e : Nat} {rv : Option Value} {c : Int32} (hI : Inv n t st tm fv I J I J)
    (h1 : Den q (.ref 1 :: as) (mS L I J h z) (.inr e) (mS L (u2 I 3 3 0) J (h + 1) (z + 6))) (h2 : Den qm (.ref 145 :: as) (mS L (u2 I 3 3 0) J (h + 1) (z + 6)) (.inl rv) (mS L (u2 (u2 (u2 I 3 3 0) 145 22 0) 145 0 c) J (h + 1) (z + 6))) (he : e ∈ es) (hc : c = nI (es.idxOf e + 1)) : callOk q qm as es t L h z I J := by
  refine ⟨_, _, _, _, _, h1, And.intro rfl rfl, fun e' k => (Sum.inr.inj k) ▸ he, _, _, _, h2, ?_, ?_, fun v k => (nomatch k), n, t, st, tm, fv, by omega, Inv_mix (Inv_d0 hI frM_d0) (fun b q1 q2 => ⟨?_, rfl⟩)⟩
  · rw [u2_ne (by omega), u2_ne (by omega), u2_ne (by omega)]
  · rw [u2_at, if_pos ⟨rfl, rfl⟩, hc]; rfl
  · rw [u2_ne (by omega), u2_ne (by omega)]
theorem call_clv {q qm : Nat} {as : List Value} {es : List Nat} {rv : Option Value} (hI : Inv n t st tm fv I J I J)
    (h1 : Den q (.ref 1 :: as) (mS L I J h z) (.inl rv) (mS L (u2 I 3 3 0) J h z)) (h2 : Den qm (.ref 145 :: as) (mS L (u2 I 3 3 0) J h z) (.inl rv) (mS L (u2 (u2 (u2 I 3 3 0) 145 22 0) 145 0 0) J h z)) : callOk q qm as es t L h z I J := by
  refine ⟨_, _, _, _, _, h1, And.intro rfl rfl, fun e' k => (nomatch k), _, _, _, h2, ?_, ?_, fun v k => (Sum.inl.inj k).symm, n, t, st, tm, fv, by omega, Inv_mix (Inv_d0 hI frM_d0) (fun b q1 q2 => ⟨?_, rfl⟩)⟩
  · rw [u2_ne (by omega), u2_ne (by omega), u2_ne (by omega)]
  · rw [u2_at, if_pos ⟨rfl, rfl⟩]; rfl
  · rw [u2_ne (by omega), u2_ne (by omega)]
end
