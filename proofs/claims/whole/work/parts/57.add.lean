/-! One more event, on both sides; then some. -/
theorem u2_row {α : Type} {f : Nat → Nat → α} {a i j : Nat} {x : α} : u2 f a i x a j = if j = i then x else f a j := by
  rw [u2_at]; simp only [true_and]
theorem u2_same {α : Type} {f : Nat → Nat → α} {a i : Nat} {x : α} (h : f a i = x) : u2 f a i x = f := by
  rw [← h]; exact u2_id f a i
def cAd (I : rI) (s n : Nat) (id ty tt : Int32) : rI := u2 (u2 (u2 (u2 (u2 (u2 (u2 I (18 + s) 0 (I (18 + s) 0 + 1)) 11 n (nI s)) 12 n (I (18 + s) 0 + 1)) 13 n id) 14 n ty) 16 n tt) 10 7 (nI (n + 1))
def mAd (M : rI) (s n : Nat) (id ty : Int32) : rI := u2 (u2 (u2 (u2 (u2 (u2 (u2 (u2 M 146 n (nI s)) 153 s (M 153 s + 1)) 147 n (M 153 s + 1)) 148 n id) 149 n ty) 151 n (M 145 2)) 152 n 0) 145 13 (nI (n + 1))
section
variable {L h z n t : Nat} {st tm fv fv' : Nat → Nat} {I I' M M' : rI} {J K J' K' : rJ}
theorem cAd_ne {s b : Nat} {id ty tt : Int32} (hb : ¬ (10 ≤ b ∧ b ≤ 16) ∧ ¬ b = 18 + s ∨ b = 15) : cAd I s n id ty tt b = I b := by
  unfold cAd
  rw [u2_ne (by omega), u2_ne (by omega), u2_ne (by omega), u2_ne (by omega), u2_ne (by omega), u2_ne (by omega), u2_ne (by omega)]
theorem cAd_10 {s j : Nat} {id ty tt : Int32} : cAd I s n id ty tt 10 j = if j = 7 then nI (n + 1) else I 10 j := by
  unfold cAd
  rw [u2_row, u2_ne (by omega), u2_ne (by omega), u2_ne (by omega), u2_ne (by omega), u2_ne (by omega), u2_ne (by omega)]
theorem cAd_16 {s j : Nat} {id ty tt : Int32} : cAd I s n id ty tt 16 j = if j = n then tt else I 16 j := by
  unfold cAd
  rw [u2_ne (by omega), u2_row, u2_ne (by omega), u2_ne (by omega), u2_ne (by omega), u2_ne (by omega), u2_ne (by omega)]
theorem cAd_14 {s j : Nat} {id ty tt : Int32} : cAd I s n id ty tt 14 j = if j = n then ty else I 14 j := by
  unfold cAd
  rw [u2_ne (by omega), u2_ne (by omega), u2_row, u2_ne (by omega), u2_ne (by omega), u2_ne (by omega), u2_ne (by omega)]
theorem cAd_13 {s j : Nat} {id ty tt : Int32} : cAd I s n id ty tt 13 j = if j = n then id else I 13 j := by
  unfold cAd
  rw [u2_ne (by omega), u2_ne (by omega), u2_ne (by omega), u2_row, u2_ne (by omega), u2_ne (by omega), u2_ne (by omega)]
theorem cAd_12 {s j : Nat} {id ty tt : Int32} : cAd I s n id ty tt 12 j = if j = n then I (18 + s) 0 + 1 else I 12 j := by
  unfold cAd
  rw [u2_ne (by omega), u2_ne (by omega), u2_ne (by omega), u2_ne (by omega), u2_row, u2_ne (by omega), u2_ne (by omega)]
theorem cAd_11 {s j : Nat} {id ty tt : Int32} : cAd I s n id ty tt 11 j = if j = n then nI s else I 11 j := by
  unfold cAd
  rw [u2_ne (by omega), u2_ne (by omega), u2_ne (by omega), u2_ne (by omega), u2_ne (by omega), u2_row, u2_ne (by omega)]
theorem cAd_s {s j : Nat} {id ty tt : Int32} : cAd I s n id ty tt (18 + s) j = if j = 0 then I (18 + s) 0 + 1 else I (18 + s) j := by
  unfold cAd
  rw [u2_ne (by omega), u2_ne (by omega), u2_ne (by omega), u2_ne (by omega), u2_ne (by omega), u2_ne (by omega), u2_row]
theorem mAd_ne {s b : Nat} {id ty : Int32} (hb : b < 145 ∨ 153 < b ∨ b = 150) : mAd M s n id ty b = M b := by
  unfold mAd
  rw [u2_ne (by omega), u2_ne (by omega), u2_ne (by omega), u2_ne (by omega), u2_ne (by omega), u2_ne (by omega), u2_ne (by omega), u2_ne (by omega)]
theorem mAd_145 {s j : Nat} {id ty : Int32} : mAd M s n id ty 145 j = if j = 13 then nI (n + 1) else M 145 j := by
  unfold mAd
  rw [u2_row, u2_ne (by omega), u2_ne (by omega), u2_ne (by omega), u2_ne (by omega), u2_ne (by omega), u2_ne (by omega), u2_ne (by omega)]
theorem mAd_152 {s j : Nat} {id ty : Int32} : mAd M s n id ty 152 j = if j = n then 0 else M 152 j := by
  unfold mAd
  rw [u2_ne (by omega), u2_row, u2_ne (by omega), u2_ne (by omega), u2_ne (by omega), u2_ne (by omega), u2_ne (by omega), u2_ne (by omega)]
theorem mAd_151 {s j : Nat} {id ty : Int32} : mAd M s n id ty 151 j = if j = n then M 145 2 else M 151 j := by
  unfold mAd
  rw [u2_ne (by omega), u2_ne (by omega), u2_row, u2_ne (by omega), u2_ne (by omega), u2_ne (by omega), u2_ne (by omega), u2_ne (by omega)]
theorem mAd_149 {s j : Nat} {id ty : Int32} : mAd M s n id ty 149 j = if j = n then ty else M 149 j := by
  unfold mAd
  rw [u2_ne (by omega), u2_ne (by omega), u2_ne (by omega), u2_row, u2_ne (by omega), u2_ne (by omega), u2_ne (by omega), u2_ne (by omega)]
theorem mAd_148 {s j : Nat} {id ty : Int32} : mAd M s n id ty 148 j = if j = n then id else M 148 j := by
  unfold mAd
  rw [u2_ne (by omega), u2_ne (by omega), u2_ne (by omega), u2_ne (by omega), u2_row, u2_ne (by omega), u2_ne (by omega), u2_ne (by omega)]
theorem mAd_147 {s j : Nat} {id ty : Int32} : mAd M s n id ty 147 j = if j = n then M 153 s + 1 else M 147 j := by
  unfold mAd
  rw [u2_ne (by omega), u2_ne (by omega), u2_ne (by omega), u2_ne (by omega), u2_ne (by omega), u2_row, u2_ne (by omega), u2_ne (by omega)]
theorem mAd_153 {s j : Nat} {id ty : Int32} : mAd M s n id ty 153 j = if j = s then M 153 s + 1 else M 153 j := by
  unfold mAd
  rw [u2_ne (by omega), u2_ne (by omega), u2_ne (by omega), u2_ne (by omega), u2_ne (by omega), u2_ne (by omega), u2_row, u2_ne (by omega)]
theorem mAd_146 {s j : Nat} {id ty : Int32} : mAd M s n id ty 146 j = if j = n then nI s else M 146 j := by
  unfold mAd
  rw [u2_ne (by omega), u2_ne (by omega), u2_ne (by omega), u2_ne (by omega), u2_ne (by omega), u2_ne (by omega), u2_ne (by omega), u2_row]
theorem s23 {s : Nat} {id ty : Int32} {d : Int64} (hs : s < 40) (hn : n < 2500) (h7 : I 10 7 = nI n) : dU 23 [.ref 10, .int (nI s), .int id, .int ty, .long d] L h z I J (cAd I s n id ty (I 10 8)) (u2 J 15 n d) := by
  refine r23_0 ⟨vp_in_nI hs (by omega), ?_⟩
  rw [cl s (by omega), R0_17 hs]
  have e1 : ∀ j, u2 I (18 + s) 0 (I (18 + s) 0 + 1) 10 j = I 10 j := fun j => by rw [u2_ne (by omega)]
  rw [e1, e1, h7, cl n (by omega), nI_1]
  rw [show u2 (u2 I (18 + s) 0 (I (18 + s) 0 + 1)) 11 n (nI s) (18 + s) 0 = I (18 + s) 0 + 1 by rw [u2_ne (by omega), u2_at, if_pos ⟨rfl, rfl⟩]]
  exact ⟨vp_in_nI hn (by omega), rfl, rfl⟩
theorem s121 {s : Nat} {id ty : Int32} {d : Int64} (hs : s < 40) (hn : n < 2500) (h13 : M 145 13 = nI n) (hz : ∀ g, g < 8 → M 165 (2500 * g + n) = 0) : dU 121 [.ref 145, .int (nI s), .int id, .int ty, .long d] L h z M K (mAd M s n id ty) (u2 K 150 n d) := by
  refine r121_0 ?_
  rw [h13, cl n (by omega), cl s (by omega)]
  rw [show u2 (u2 M 146 n (nI s)) 153 s (M 153 s + 1) 153 s = M 153 s + 1 by rw [u2_at, if_pos ⟨rfl, rfl⟩]]
  refine ⟨vp_in_nI hn (by omega), vp_in_nI hs (by omega), ?_⟩
  generalize hM1 : u2 (u2 (u2 (u2 (u2 (u2 (u2 M 146 n (nI s)) 153 s (M 153 s + 1)) 147 n (M 153 s + 1)) 148 n id) 149 n ty) 151 n (M 145 2)) 152 n 0 = M1
  have p13 : M1 145 13 = nI n := by
    rw [← hM1, u2_ne (by omega), u2_ne (by omega), u2_ne (by omega), u2_ne (by omega), u2_ne (by omega), u2_ne (by omega), u2_ne (by omega)]; exact h13
  have p165 : ∀ j, M1 165 j = M 165 j := fun j => by
    rw [← hM1, u2_ne (by omega), u2_ne (by omega), u2_ne (by omega), u2_ne (by omega), u2_ne (by omega), u2_ne (by omega), u2_ne (by omega)]
  have lp : ∀ m g, g + m = 8 → Run 121 92 [(0, .ref 145), (6, .int (nI g))] [] (mS L M1 (u2 K 150 n d) h z) (.inl none) (mS L (mAd M s n id ty) (u2 K 150 n d) h z) := by
    intro m
    induction m with
    | zero =>
      intro g hg
      refine r121_92 ⟨fun _ => ⟨rfl, ?_⟩, fun c => absurd (by rw [show g = 8 by omega]; decide) c⟩
      rw [p13, nI_1, ← hM1]; rfl
    | succ m ih =>
      intro g hg
      have e : nI g * 2500 + nI n = nI (2500 * g + n) := by
        rw [show (2500 : Int32) = nI 2500 from rfl, nI_mul, nI_add, Nat.mul_comm]
      refine r121_92 ⟨fun c => absurd ((nI_leI (a := 8) (by omega) (by omega)).mp c) (by omega), fun _ => ?_⟩
      rw [p13, e, cl _ (by omega), u2_same (by rw [p165]; exact hz g (by omega)), nI_1]
      exact ⟨vp_in_nI (by omega) (by omega), ih (g + 1) (by omega)⟩
  exact lp 8 0 (by omega)
theorem nm_up {s e : Nat} (he : e < n) : nm (updn st n s) e = nm st e := by
  refine cn_congr (fun i hi => ?_)
  unfold updn
  rw [if_neg (by omega), if_neg (by omega)]
theorem nm_upn {s : Nat} : nm (updn st n s) n = ct st s n := by
  refine cn_congr (fun i hi => ?_)
  unfold updn
  rw [if_neg (by omega), if_pos rfl]
theorem ct_up {s i : Nat} : ct (updn st n s) i (n + 1) = ct st i n + (if s = i then 1 else 0) := by
  show cn _ n + _ = _
  have e1 : cn (fun j => decide (updn st n s j = i)) n = ct st i n := cn_congr (fun j hj => by unfold updn; rw [if_neg (by omega)])
  have e2 : updn st n s n = s := by unfold updn; rw [if_pos rfl]
  rw [e1]
  show ct st i n + (if decide (updn st n s n = i) = true then 1 else 0) = _
  rw [e2]
  simp only [decide_eq_true_eq]
theorem upd_lt {s e x : Nat} {f : Nat → Nat} (h : ¬ e = s) : updn f s x e = f e := by unfold updn; rw [if_neg h]
theorem upd_at {s x : Nat} {f : Nat → Nat} : updn f s x s = x := by unfold updn; rw [if_pos rfl]
theorem IG1_n1 {g : Nat} (hn : n < 2500) (h : IG1 n g I M) : IG1 (n + 1) g I M := by
  obtain ⟨a1, a2, a3, a4, a5, a6, a7, a8, ⟨f, b1, b2, b3⟩, k, po, d1, d2, d3, d4⟩ := h
  refine ⟨a1, a2, a3, a4, a5, a6, a7, fun e q1 q2 => a8 e (by omega) q2, ⟨f, b1, b2, fun e he => ?_⟩, k, po, d1, d2, fun i hi => ⟨by have := (d3 i hi).1; omega, (d3 i hi).2⟩, d4⟩
  by_cases c : e = n
  · subst c
    have h5 := (a8 e (Nat.le_refl _) hn).1
    have h6 : M 166 (2500 * g + e) = 0 := d4 e hn (fun i hi q => by have := (d3 i hi).1; omega)
    exact ⟨Or.inl h5, fun q => q.elim (fun q => absurd h5 q) (fun q => absurd h6 q)⟩
  · exact b3 e (by omega)
theorem IJ1_n1 {p : Nat} (h : IJ1 n p I J M K) : IJ1 (n + 1) p I J M K := by
  obtain ⟨a1, a2, a3⟩ := h
  refine ⟨a1, a2, fun q => ?_⟩
  obtain ⟨b1, b2, b3, b4, b5, b6, ⟨k, b7, b8⟩, b9⟩ := a3 q
  exact ⟨b1, b2, b3, b4, b5, b6, ⟨k, by omega, b8⟩, b9⟩
/-- events, groups, projections -/
def EGJ (n t : Nat) (st tm fv : Nat → Nat) (I : rI) (J : rJ) (M : rI) (K : rJ) : Prop := IE n t st tm fv I J M K ∧ IG n I M ∧ IJ n I J M K
theorem add_step {s : Nat} {id ty : Int32} {d : Int64} (hs : s < 40) (hn : n < 2500) (hty : ∃ k, k < 16 ∧ ty = nI k) (h : EGJ n t st tm fv I J M K) :
    EGJ (n + 1) t (updn st n s) (updn tm n t) fv (cAd I s n id ty (I 10 8)) (u2 J 15 n d) (mAd M s n id ty) (u2 K 150 n d) := by
  obtain ⟨⟨a1, a2, a3, a4, a5, a6, ⟨b1, b2, b3, b4, b5, b6⟩, a7, a8⟩, hG, hJ⟩ := h
  obtain ⟨c1, c2, c3, c4, c5, c6, c7, c8, c9, c10, c11, c12⟩ := a8 s hs
  have ev : nI (ct st s n) - 1 + 1 = nI (ct st s n) := Int32.sub_add_cancel _ _
  refine ⟨⟨by omega, a2, by rw [cAd_10, if_pos rfl], by rw [mAd_145, if_pos rfl], by rw [cAd_10, if_neg (by omega)]; exact a5, by rw [mAd_145, if_neg (by omega)]; exact a6, ⟨?_, ?_, ?_, ?_, ?_, ?_⟩, fun e he => ?_, fun i hi => ?_⟩, fun g hg => ?_, fun p hp => ?_⟩
  · funext j; rw [cAd_11, mAd_146, b1]
  · funext j; rw [cAd_12, mAd_147, b2, c1]
  · funext j; rw [cAd_13, mAd_148, b3]
  · funext j; rw [cAd_14, mAd_149, b4]
  · funext j; rw [u2_row, u2_row, b5]
  · funext j; rw [cAd_16, mAd_151, b6, a5, a6]
  · by_cases c : e = n
    · subst c
      unfold IEe
      rw [nm_upn, upd_at, upd_at, mAd_146, if_pos rfl, mAd_147, if_pos rfl, mAd_151, if_pos rfl, mAd_152, if_pos rfl, mAd_149, if_pos rfl, c2, ev]
      refine ⟨hs, rfl, rfl, Nat.le_refl _, a6, fun i hi => ?_, ?_, hty⟩
      · rw [upd_lt (by omega)]; exact (a7 i hi).2.2.2.1
      · rw [if_neg (by omega)]
    · obtain ⟨d1, d2, d3, d4, d5, d6, d7, d8⟩ := a7 e (by omega)
      unfold IEe
      rw [nm_up (by omega), upd_lt c, upd_lt c, mAd_146, if_neg c, mAd_147, if_neg c, mAd_151, if_neg c, mAd_152, if_neg c, mAd_149, if_neg c]
      refine ⟨d1, d2, d3, d4, d5, fun i hi => ?_, d7, d8⟩
      rw [upd_lt (by omega)]; exact d6 i hi
  · unfold IEs
    rw [ct_up, mAd_ne (b := 154) (by omega), mAd_ne (b := 155) (by omega), mAd_ne (b := 156) (by omega), mAd_ne (b := 157) (by omega), mAd_153]
    by_cases c : i = s
    · subst c
      have q0 : cAd I i n id ty (I 10 8) (18 + i) 0 = I (18 + i) 0 + 1 := by rw [cAd_s, if_pos rfl]
      have qj : ∀ j, ¬ j = 0 → cAd I i n id ty (I 10 8) (18 + i) j = I (18 + i) j := fun j hj => by rw [cAd_s, if_neg hj]
      rw [q0, qj 1 (by omega), qj 2 (by omega), qj 3 (by omega), qj 4 (by omega), qj 5 (by omega), if_pos rfl, if_pos rfl, c1]
      refine ⟨rfl, ?_, c3, c4, c5, c6, c7, c8, c9, c10, c11, by omega⟩
      rw [c2, ev, ← nI_1]
      exact (Int32.add_sub_cancel _ _).symm
    · obtain ⟨e1, e2, e3⟩ := a8 i hi
      rw [if_neg c, if_neg (fun q => c q.symm), cAd_ne (by omega)]
      exact a8 i hi
  · refine IG1_n1 hn (IG1_pw a1 (hG g hg) (fun b q1 q2 => cAd_ne (by omega)) (fun b q1 q2 => by rw [mAd_ne (by omega)]) (fun b e q1 q2 _ => by rw [mAd_ne (by omega)]) (fun e he => by rw [mAd_146, if_neg (by omega)]))
  · refine IJ1_n1 (IJ1_fr hp (hJ p hp) (fun b q1 q2 => cAd_ne (by omega)) (fun b q1 q2 => mAd_ne (by omega)) (u2_ne (by omega)) (u2_ne (by omega)))
theorem HC_add {s : Nat} {id ty : Int32} (h : HC (fun i => ¬ i = s) n st fv M) : HC (fun i => ¬ i = s) (n + 1) (updn st n s) fv (mAd M s n id ty) := by
  intro e he hs hc
  have c : ¬ e = n := fun c => by subst c; rw [upd_at] at hs; exact hs rfl
  rw [upd_lt c] at hs hc ⊢
  rw [nm_up (by omega)]
  refine h e (by omega) hs ?_
  unfold hideC at hc ⊢
  rw [mAd_ne (b := 154) (by omega), mAd_ne (b := 155) (by omega), mAd_ne (b := 156) (by omega), mAd_ne (b := 157) (by omega), mAd_153, if_neg hs, mAd_145, if_neg (by omega), mAd_147, if_neg c, mAd_151, if_neg c] at hc
  exact hc
/-- several -/
def cAn (s n : Nat) (ids tys : Nat → Int32) (I : rI) : Nat → rI
  | 0 => I
  | j + 1 => cAd (cAn s n ids tys I j) s (n + j) (ids j) (tys j) (cAn s n ids tys I j 10 8)
def mAn (s n : Nat) (ids tys : Nat → Int32) (M : rI) : Nat → rI
  | 0 => M
  | j + 1 => mAd (mAn s n ids tys M j) s (n + j) (ids j) (tys j)
def jAn (b n : Nat) (ds : Nat → Int64) (J : rJ) : Nat → rJ
  | 0 => J
  | j + 1 => u2 (jAn b n ds J j) b (n + j) (ds j)
def upn (f : Nat → Nat) (n s : Nat) : Nat → Nat → Nat
  | 0 => f
  | j + 1 => updn (upn f n s j) (n + j) s
theorem EGJ_n {s c : Nat} {ids tys : Nat → Int32} {ds : Nat → Int64} (hs : s < 40) (hn : n + c ≤ 2500) (hty : ∀ i, i < c → ∃ k, k < 16 ∧ tys i = nI k) (h : EGJ n t st tm fv I J M K) (hh : HC (fun i => ¬ i = s) n st fv M) : ∀ j, j ≤ c →
    EGJ (n + j) t (upn st n s j) (upn tm n t j) fv (cAn s n ids tys I j) (jAn 15 n ds J j) (mAn s n ids tys M j) (jAn 150 n ds K j) ∧ HC (fun i => ¬ i = s) (n + j) (upn st n s j) fv (mAn s n ids tys M j) := by
  intro j
  induction j with
  | zero => intro _; exact ⟨h, hh⟩
  | succ j ih =>
    intro hj
    obtain ⟨h1, h2⟩ := ih (by omega)
    exact ⟨add_step hs (show n + j < 2500 by omega) (hty j (by omega)) h1, HC_add h2⟩
theorem cAn_ne {s b : Nat} {ids tys : Nat → Int32} (hb : ¬ (10 ≤ b ∧ b ≤ 16) ∧ ¬ b = 18 + s ∨ b = 15) : ∀ j, cAn s n ids tys I j b = I b := by
  intro j
  induction j with
  | zero => rfl
  | succ j ih => show cAd _ _ _ _ _ _ b = _; rw [cAd_ne hb, ih]
theorem cAn_10 {s i : Nat} {ids tys : Nat → Int32} (hi : ¬ i = 7) : ∀ j, cAn s n ids tys I j 10 i = I 10 i := by
  intro j
  induction j with
  | zero => rfl
  | succ j ih => show cAd _ _ _ _ _ _ 10 i = _; rw [cAd_10, if_neg hi, ih]
theorem cAn_s {s i : Nat} {ids tys : Nat → Int32} (hi : ¬ i = 0) : ∀ j, cAn s n ids tys I j (18 + s) i = I (18 + s) i := by
  intro j
  induction j with
  | zero => rfl
  | succ j ih => show cAd _ _ _ _ _ _ (18 + s) i = _; rw [cAd_s, if_neg hi, ih]
theorem mAn_ne {s b : Nat} {ids tys : Nat → Int32} (hb : b < 145 ∨ 153 < b ∨ b = 150) : ∀ j, mAn s n ids tys M j b = M b := by
  intro j
  induction j with
  | zero => rfl
  | succ j ih => show mAd _ _ _ _ _ b = _; rw [mAd_ne hb, ih]
theorem mAn_145 {s i : Nat} {ids tys : Nat → Int32} (hi : ¬ i = 13) : ∀ j, mAn s n ids tys M j 145 i = M 145 i := by
  intro j
  induction j with
  | zero => rfl
  | succ j ih => show mAd _ _ _ _ _ 145 i = _; rw [mAd_145, if_neg hi, ih]
theorem jAn_ne {b b' : Nat} {ds : Nat → Int64} (hb : ¬ b = b') : ∀ j, jAn b' n ds J j b = J b := by
  intro j
  induction j with
  | zero => rfl
  | succ j ih => show u2 _ _ _ _ b = _; rw [u2_ne hb, ih]
end
