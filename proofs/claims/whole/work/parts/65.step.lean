/-! step: both sides up to their records. -/
section
variable {L h z n t c : Nat} {st tm fv fv' : Nat → Nat} {I I' M M' : rI} {J K J' K' : rJ}
theorem Inv_vm (hI : Inv n t st tm fv I J M K) (h1 : ∀ b, 0 < b → b < 145 → ¬ b = 58 → ¬ b = 61 → I' b = I b) (h2 : ∀ b, 0 < b → b < 145 → ¬ b = 59 → ¬ b = 60 → ¬ b = 62 → J' b = J b) (h3 : ∀ b, 145 < b → ¬ b = 182 → M' b = M b) (h4 : ∀ j, ¬ j = 0 → ¬ j = 45 → ¬ j = 49 → ¬ j = 50 → M' 145 j = M 145 j) (h5 : ∀ b, 145 < b → ¬ b = 180 → ¬ b = 181 → ¬ b = 183 → K' b = K b) : Inv n t st tm fv I' J' M' K' := by
  obtain ⟨⟨a, b, c, d, e⟩, f, g⟩ := hI
  exact ⟨⟨IE_fr a (h1 10 (by omega) (by omega) (by omega) (by omega)) (fun b q1 q2 => h1 b (by omega) (by omega) (by omega) (by omega)) (fun b q1 q2 => h3 b (by omega) (by omega)) (h4 2 (by omega) (by omega) (by omega) (by omega)) (h4 13 (by omega) (by omega) (by omega) (by omega)) (h2 15 (by omega) (by omega) (by omega) (by omega) (by omega)) (h5 150 (by omega) (by omega) (by omega) (by omega)),
    ID_fr b (by rw [h1 3 (by omega) (by omega) (by omega) (by omega)]) (fun b q1 q2 => h1 b (by omega) (by omega) (by omega) (by omega)) ⟨h3 158 (by omega) (by omega), h3 159 (by omega) (by omega)⟩ (h4 22 (by omega) (by omega) (by omega) (by omega)) (h2 6 (by omega) (by omega) (by omega) (by omega) (by omega)) (h5 160 (by omega) (by omega) (by omega) (by omega)),
    IP_fr c (by rw [h1 7 (by omega) (by omega) (by omega) (by omega)]) (fun b q1 q2 => h1 b (by omega) (by omega) (by omega) (by omega)) ⟨h3 168 (by omega) (by omega), h3 169 (by omega) (by omega)⟩ (h4 32 (by omega) (by omega) (by omega) (by omega)),
    IG_fr d (fun b q1 q2 => h1 b (by omega) (by omega) (by omega) (by omega)) (fun b q1 q2 => h3 b (by omega) (by omega)) (fun e _ => by rw [h3 146 (by omega) (by omega)]),
    IJ_fr e (fun b q1 q2 => h1 b (by omega) (by omega) (by omega) (by omega)) (fun b q1 q2 => h3 b (by omega) (by omega)) (fun b q1 q2 => h2 b (by omega) (by omega) (by omega) (by omega) (by omega)) (h5 179 (by omega) (by omega) (by omega) (by omega))⟩,
    HC_fr f (fun b q1 q2 => h3 b (by omega) (by omega)) (h4 2 (by omega) (by omega) (by omega) (by omega)),
    IK_fr g (h1 2 (by omega) (by omega) (by omega) (by omega)) (h4 1 (by omega) (by omega) (by omega) (by omega)) (h4 3 (by omega) (by omega) (by omega) (by omega)) (h4 4 (by omega) (by omega) (by omega) (by omega)) (h4 5 (by omega) (by omega) (by omega) (by omega))⟩
/-- a call that is refused behind a machine's run -/
theorem call_rf {q qm : Nat} {as : List Value} {es : List Nat} {e : Nat} {rv : Option Value} {c : Int32} {I7 M7 : rI} {J7 K7 : rJ} (hI7 : Inv n t st tm fv I7 J7 (u2 M7 145 0 c) K7)
    (h1 : Den q (.ref 1 :: as) (mS L I J h z) (.inr e) (mS L I7 J7 (h + 1) (z + 6))) (h2 : Den qm (.ref 145 :: as) (mS L I7 J7 (h + 1) (z + 6)) (.inl rv) (mS L (u2 M7 145 0 c) K7 (h + 1) (z + 6))) (hf : ∀ b, b < 145 → M7 b = I7 b) (hfJ : ∀ b, 0 < b → b < 145 → K7 b = J7 b) (h0 : I7 0 = I 0) (he : e ∈ es) (hc : c = nI (es.idxOf e + 1)) : callOk q qm as es t L h z I J := by
  refine ⟨_, _, _, _, _, h1, And.intro rfl rfl, fun e' k => (Sum.inr.inj k) ▸ he, _, _, _, h2, ?_, ?_, fun v k => (nomatch k), n, t, st, tm, fv, by omega, Inv_mix hI7 (fun b q1 q2 => ⟨?_, hfJ b q1 q2⟩)⟩
  · rw [u2_ne (by omega), hf 0 (by omega), h0]
  · rw [u2_at, if_pos ⟨rfl, rfl⟩, hc]; rfl
  · rw [u2_ne (by omega), hf b q2]
/-- the model, from its program's end to its record -/
theorem s146_rec {g : Bool} {p e x3 S m b : Nat} {o : eO} {σo : eS} (hp : p < 8) (h0 : M 145 0 = 0) (h3 : M 145 3 = nI b) (hb : b ≤ 100000) (hS : S ≤ 1000) (h13 : M 145 13 = nI n) (hn : n ≤ 2500) (h49 : g = true → M 145 49 = nI m ∧ m ≤ 4)
    (HR : ¬ ((g = true → n + m ≤ 2500) ∧ b + S ≤ 100000) → o = .inl (some (.int 0)) ∧ σo = mS L (u2 M 145 0 2) K h z)
    (HW : ((g = true → n + m ≤ 2500) ∧ b + S ≤ 100000) → (lsM M (nI S) = false → Run 146 409 [(0, .ref 145), (2, .int (nI e)), (4, .int (bb g))] [] (mS L (wsM M (nI S)) K h z) o σo) ∧ (lsM M (nI S) = true → g = false → Run 146 409 [(0, .ref 145), (2, .int (nI e)), (4, .int 0)] [] (mS L (u2 (u2 (wsM M (nI S)) 178 p 1) 177 p (nI e)) K h z) o σo) ∧ (lsM M (nI S) = true → g = true → Run 146 305 [(0, .ref 145), (1, .int (nI p)), (2, .int (nI e)), (3, .int (nI x3)), (4, .int 1), (6, .int (nI 0))] [] (mS L (wsM M (nI S)) K h z) o σo)) :
    Run 146 242 [(0, .ref 145), (1, .int (nI p)), (2, .int (nI e)), (3, .int (nI x3)), (4, .int (bb g))] [.int (nI S)] (mS L M K h z) o σo := by
  have h279 : ∀ (bv : Bool), (bv = false → (g = true → n + m ≤ 2500) ∧ b + S ≤ 100000) → (bv = true → ¬ ((g = true → n + m ≤ 2500) ∧ b + S ≤ 100000)) → Run 146 279 [(0, .ref 145), (1, .int (nI p)), (2, .int (nI e)), (3, .int (nI x3)), (4, .int (bb g)), (5, .int (nI S))] [.int (bb bv), .ref 145] (mS L M K h z) o σo := by
    intro bv q1 q2
    refine r146_279 ⟨_, _, _, s114, fun k => ?_, fun k => ?_⟩
    · have k := b_eq.mp k
      obtain ⟨G1, G2, G3⟩ := HW (q1 k)
      rw [k, if_neg (by decide), u2_same h0]
      refine ⟨_, _, _, s118, fun k3 => G1 (b_eq.mp k3), fun k3 => ⟨fun k4 => ⟨vp_in_nI hp (by omega), ?_⟩, fun k4 => ?_⟩⟩
      · have k4 := b_eq.mp k4
        rw [cl p (by omega), k4]
        exact G2 (b_ne.mp k3) k4
      · have k4 := b_ne.mp k4
        rw [k4]
        exact G3 (b_ne.mp k3) k4
    · have k := b_ne.mp k
      obtain ⟨G1, G2⟩ := HR (q2 k)
      rw [k, if_pos rfl]
      exact ⟨G1, G2⟩
  have h265 : (g = true → n + m ≤ 2500) → Run 146 265 [(0, .ref 145), (1, .int (nI p)), (2, .int (nI e)), (3, .int (nI x3)), (4, .int (bb g)), (5, .int (nI S))] [.ref 145] (mS L M K h z) o σo := by
    intro hg
    refine r146_265 ⟨_, s117r (k := S) (b := b) h3 hb (by omega), fun k => h279 false (fun _ => ⟨hg, ?_⟩) (fun k => nomatch k), fun k => h279 true (fun k => nomatch k) (fun _ k2 => ?_)⟩
    · have k := b_eq.mp k
      rw [decide_eq_false_iff_not] at k
      omega
    · have k := b_ne.mp k
      rw [decide_eq_true_eq] at k
      omega
  refine r146_242 ⟨fun k => h265 (fun q => ?_), fun k => ?_⟩
  · rw [b_eq.mp k] at q; cases q
  · obtain ⟨g1, g2⟩ := h49 (b_ne.mp k)
    rw [h13, g1, nI_add, show (2500 : Int32) = nI 2500 from rfl, nI_ltI (by omega) (by omega)]
    refine ⟨fun q => h279 true (fun k => nomatch k) (fun _ k2 => ?_), fun q => h265 (fun _ => by omega)⟩
    have := k2.1 (b_ne.mp k)
    omega
theorem resOk_init {M0 : rI} {K0 : rJ} {w : Nat → Int64} (hw : ∀ i, i < 4 → K0 181 i = w i) : resM 0 (u2 (u2 (u2 M0 145 45 0) 145 49 0) 145 50 0) K0 (some (0, (fun _ => 0), w, 0, (fun _ => 0), (fun _ => 0), 0)) := by
  refine ⟨eMi, by omega, ?_, by omega, ?_, rfl, fun i hi => absurd hi (by omega), hw, fun i hi => absurd hi (by omega)⟩
  · rw [rM (by omega), rM (by omega), eMi]; rfl
  · rw [rM (by omega), eMi]; rfl
/-- the model, from its start to its program's end -/
theorem s146 {p e cu v : Nat} {f a : Nat → Int32} {d y s' u : Int64} {w : Nat → Int64} {Ic : rI} {Jc : rJ} (hp : p < 8) (hc : c ≤ 64) (hok : ∀ i, i < c → okOp (f i) (a i) ∧ (f i = 16 ∨ f i = 17 → ∃ k, k ≤ c ∧ a i = nI k)) (hI : Inv n t st tm fv I J I J) (hfr : frM I J Ic Jc) (o1 : ¬ I 145 1 = 0) (h170 : ¬ I 170 p = 0) (h178 : I 178 p = 0) (hcu : I 177 p = nI cu) (hcn : cu ≤ n)
    (hnx : sk (wP st fv (I 174 p) (I 175 p) (I 149)) (n - cu) cu = some e) (h171 : I 171 p = nI c) (hf : ∀ i, i < c → I 172 (64 * p + i) = f i ∧ I 173 (64 * p + i) = a i) (hd : J 150 e = d) (hy : (I 149 e).toInt64 = y) (hs : (I 146 e).toInt64 = s') (hu : (I 147 e).toInt64 = u) (hv : v = if I 176 p = 0 then 4 * st e else 0) (hv4 : v ≤ 124) (hw : ∀ i, i < 4 → J 179 (128 * p + v + i) = w i) :
    ∃ (M7 : rI) (K7 : rJ), FrM (u2 Ic 145 0 0) Jc M7 K7 ∧ finM M7 K7 (vm c f a d y s' u 200 (0, (fun _ => 0), w, 0, (fun _ => 0), (fun _ => 0), 0)) ∧
      ∀ (L h z : Nat) (o : eO) (σo : eS), Run 146 242 [(0, .ref 145), (1, .int (nI p)), (2, .int (nI e)), (3, .int (nI (128 * p + v))), (4, .int (bb (vm c f a d y s' u 200 (0, (fun _ => 0), w, 0, (fun _ => 0), (fun _ => 0), 0)).isSome))] [.int (if (vm c f a d y s' u 200 (0, (fun _ => 0), w, 0, (fun _ => 0), (fun _ => 0), 0)).isSome = true then 56 + 24 * M7 145 49 else 24)] (mS L M7 K7 h z) o σo → Run 146 0 [(0, .ref 145), (1, .int (nI p))] [] (mS L Ic Jc h z) o σo := by
  have hE := hI.1.1
  have n1 := hE.1
  obtain ⟨e0, e1, e2, -⟩ := sk_some hnx
  have hen : e < n := by omega
  have q : ∀ j, ¬ j = 0 → u2 Ic 145 0 0 145 j = I 145 j := fun j hj => by rw [u2_at, if_neg (fun k => hj k.2), (hfr 145 (by omega)).1]
  have q2 : ∀ b, 145 < b → u2 Ic 145 0 0 b = I b := fun b hb => by rw [u2_ne (by omega), (hfr b (by omega)).1]
  have hI0 : Inv n t st tm fv I J (u2 Ic 145 0 0) Jc := Inv_t0 (Inv_cg hI frC_rfl hfr) (Or.inl rfl)
  have fr1 : FrM (u2 Ic 145 0 0) Jc (u2 (u2 (u2 (u2 Ic 145 0 0) 145 45 0) 145 49 0) 145 50 0) (mF4 Jc (128 * p + v) 4) := ⟨fun b h1 h2 => by rw [u2_ne h1, u2_ne h1, u2_ne h1], fun j h1 h2 h3 => by rw [rM h3, rM h2, rM h1], fun b h1 h2 h3 => mF4_ne h2⟩
  have hr1 : resM 0 (u2 (u2 (u2 (u2 Ic 145 0 0) 145 45 0) 145 49 0) 145 50 0) (mF4 Jc (128 * p + v) 4) (some (0, (fun _ => 0), w, 0, (fun _ => 0), (fun _ => 0), 0)) := by
    refine resOk_init (fun i hi => ?_)
    unfold mF4
    rw [if_pos ⟨rfl, hi⟩, (hfr 179 (by omega)).2]
    exact hw i hi
  obtain ⟨M7, K7, z1, z2, z3⟩ := loopM (M0 := u2 Ic 145 0 0) (K0 := Jc) (e := e) (f := f) (a := a) (d := d) (y := y) (s := s') (u := u) hp hc (show e < 2500 by omega) hok (by rw [q2 171 (by omega)]; exact h171) (fun i hi => by rw [q2 172 (by omega), q2 173 (by omega)]; exact hf i hi) (by rw [(hfr 150 (by omega)).2]; exact hd) (by rw [q2 149 (by omega)]; exact hy) (by rw [q2 146 (by omega)]; exact hs) (by rw [q2 147 (by omega)]; exact hu) 200 0 _ _ _ (by omega) (by omega) hr1 fr1
  refine ⟨M7, K7, FrM_tr fr1 z2, z3, fun L h z o σo H => ?_⟩
  have hvp : vp_in (nI p) 8 := vp_in_nI hp (by omega)
  have hcp := cl p (by omega)
  have ne0 : ¬ (nI e) = nI n := fun k => by have := nI_inj (by omega) (by omega) k; omega
  refine r146_0 ⟨fun _ => r146_13 ⟨_, _, _, s114f, fun k => absurd rfl k, fun _ => ⟨_, s115r (rg_nI (by omega) hp) (by omega) (by omega) (by decide), fun k => absurd k (by decide), fun _ => ⟨hvp, fun _ => ?_, fun k => absurd ?_ h170⟩⟩⟩, fun k => absurd k (by rw [(hfr 145 (by omega)).1]; exact o1)⟩
  · refine r146_45 ⟨_, _, _, s114f, fun k => absurd rfl k, fun _ => ⟨hvp, ?_⟩⟩
    rw [hcp, u2_u2, q2 178 (by omega), h178]
    refine ⟨_, _, _, s114f, fun _ => ?_, fun k => absurd rfl k⟩
    rw [u2_u2, q2 177 (by omega), hcu]
    refine s146_nx hp hI0.1.1 (n - cu) cu (by omega) ?_
    rw [q2 174 (by omega), q2 175 (by omega), q2 149 (by omega), hnx]
    show Run 146 145 [(0, .ref 145), (1, .int (nI p)), (2, .int (nI e))] [] _ _ _
    refine r146_145 ⟨fun _ => ⟨hvp, ?_⟩, fun k => absurd ?_ ne0⟩
    · rw [hcp, q2 176 (by omega), cl e (by omega), q2 146 (by omega), (hE.2.2.2.2.2.2.2.1 e hen).2.1]
      have e128 : (128 : Int32) * nI p = nI (128 * p) := by rw [show (128 : Int32) = nI 128 from rfl, nI_mul]
      have go : ∀ (x : Int32), (128 : Int32) * nI p + 4 * x = nI (128 * p + v) → Run 146 180 [(0, .ref 145), (1, .int (nI p)), (2, .int (nI e))] [.int x, .int 4, .int (128 * nI p)] (mS L (u2 Ic 145 0 0) Jc h z) o σo := by
        intro x hx
        refine r146_180 ?_
        rw [hx]
        have y1 := s146_4 (L := L) (h := h) (z := z) (M := u2 Ic 145 0 0) (K := Jc) (p := p) (e := e) (v := 128 * p + v) (o := o) (σo := σo) (by omega) (r146_186 ⟨fun _ => ⟨_, M7, K7, r144_0 (z1 L h z), fun k => ?_, fun k => ?_⟩, fun k => absurd (by decide) k⟩) 4 0 (by omega)
        · have e0 : mF4 Jc (128 * p + v) 0 = Jc := by funext b j; unfold mF4; rw [if_neg (by omega)]
          rw [e0] at y1
          exact y1
        · have k := b_eq.mp k
          rw [k] at H ⊢
          exact H
        · have k := b_ne.mp k
          rw [k] at H ⊢
          exact H
      refine ⟨fun k => ⟨vp_in_nI (by omega) (by omega), go _ ?_⟩, fun k => go _ ?_⟩
      · rw [if_pos k] at hv
        rw [e128, show (4 : Int32) = nI 4 from rfl, nI_mul, nI_add, hv]
      · rw [if_neg k] at hv
        rw [e128, hv]
        show nI (128 * p) + 4 * 0 = nI (128 * p)
        rw [show (4 : Int32) * 0 = 0 from rfl, Int32.add_zero]
    · rw [q 13 (by omega), hE.2.2.2.1] at k; exact k
  · rw [hcp, q2 170 (by omega)] at k; exact k
theorem EGJ_keep {p v e : Nat} {w : Nat → Int64} (hp : p < 8) (h : EGJ n t st tm fv I J M K) (hm : M 170 p = 1) (hv : v ≤ 124) (hw : ∀ i, i < 4 → J 60 i = w i ∧ K 181 i = w i) (he : e < n) : EGJ n t st tm fv (u2 I (105 + 5 * p) 6 (nI e + 1)) (u1 J (109 + 5 * p) (va_cpy (J 60) (J (109 + 5 * p)) 0 v 4)) (u2 M 177 p (nI e + 1)) (mKp K (128 * p + v) 4) := by
  obtain ⟨a, b, c⟩ := h
  refine ⟨IE_fr a (u2_ne (by omega)) (fun b q1 q2 => u2_ne (by omega)) (fun b q1 q2 => u2_ne (by omega)) (by rw [u2_ne (by omega)]) (by rw [u2_ne (by omega)]) (u1_ne (by omega)) (mKp_ne (by omega)),
    IG_fr b (fun b q1 q2 => u2_ne (by omega)) (fun b q1 q2 => u2_ne (by omega)) (fun e _ => by rw [u2_ne (by omega)]), fun p' hp' => ?_⟩
  by_cases k : p' = p
  · rw [k]; exact IJ1_keep hp (c p hp) hm hv hw he
  · refine IJ1_pw (c p' hp') (fun b q1 q2 => ⟨u2_ne (by omega), u1_ne (by omega)⟩) (fun b q1 q2 q3 q4 => by rw [u2_at, if_neg (fun q => k q.2)]) (fun b i q1 q2 => by rw [u2_ne (by omega)]) (fun i hi => ?_)
    unfold mKp
    rw [if_neg (by omega)]
theorem lsC_M {x : Int32} (h : IK I M) (ho : M 145 1 = 1) : lsC I x = lsM M x := by
  obtain ⟨a1, a2, a3, a4, a5, a6, a7⟩ := h
  have a6 := a6 ho
  unfold lsC lsM
  rw [a6]
  by_cases c : M 145 5 = -1
  · rw [c]; rfl
  · have c2 : ¬ M 145 5 < 0 := by
      simp only [ti_lt, ti_le, ti_eq, Int32.reduceToInt] at *; omega
    simp only [c, c2, decide_false, Bool.false_or]
    by_cases c3 : M 145 5 < x
    · have : ¬ x ≤ M 145 5 := nle.mpr c3
      simp [c3, this]
    · have : x ≤ M 145 5 := nlt.mp c3
      simp [c3, this]
end
