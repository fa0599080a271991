/-! draft, code, power, reopen, check, variable. -/
theorem in_rg {x c : Int32} {N : Nat} (h0 : 0 < N) (hN : N < 2147483648) (hc : c = nI N - 1) : (!decide (x < 0) && !decide (c < x)) = rg x N := by
  unfold rg
  have : (c < x) ↔ (nI N ≤ x) := by
    subst hc
    simp only [ti_lt, ti_le, ti_sub, ti_nI, Int32.reduceToInt]
    have := ti_lo x
    have := ti_hi x
    omega
  simp only [this]
section
variable {L h z n t : Nat} {st tm fv : Nat → Nat} {I I' M M' : rI} {J K J' K' : rJ}
theorem s115r {x c : Int32} {N : Nat} {b : Bool} (hr : rg x N = b) (h0 : 0 < N) (hN : N < 2147483648) (hc : c = nI N - 1) : dP 115 [.int x, .int 0, .int c] L h z I J (bb b) := by
  have := s115 (L := L) (h := h) (z := z) (I := I) (J := J) (v := x) (a := 0) (b := c)
  rw [in_rg h0 hN hc, hr] at this
  exact this
theorem Inv_D (hI : Inv n t st tm fv I J M K) (hD : ID I' J' M' K') (h1 : ∀ b, 0 < b → b < 3 ∨ (6 < b ∧ b < 145) → I' b = I b ∧ J' b = J b) (h2 : ∀ b, (145 < b ∧ b < 158) ∨ 160 < b → M' b = M b ∧ K' b = K b) (h3 : ∀ j, ¬ j = 0 → ¬ j = 22 → M' 145 j = M 145 j) : Inv n t st tm fv I' J' M' K' := by
  obtain ⟨⟨a, b, c, d, e⟩, f, g⟩ := hI
  exact ⟨⟨IE_fr a (h1 10 (by omega) (by omega)).1 (fun b q1 q2 => (h1 b (by omega) (by omega)).1) (fun b q1 q2 => (h2 b (by omega)).1) (h3 2 (by omega) (by omega)) (h3 13 (by omega) (by omega)) (h1 15 (by omega) (by omega)).2 (h2 150 (by omega)).2, hD,
    IP_fr c (by rw [(h1 7 (by omega) (by omega)).1]) (fun b q1 q2 => (h1 b (by omega) (by omega)).1) ⟨(h2 168 (by omega)).1, (h2 169 (by omega)).1⟩ (h3 32 (by omega) (by omega)),
    IG_fr d (fun b q1 q2 => (h1 b (by omega) (by omega)).1) (fun b q1 q2 => (h2 b (by omega)).1) (fun e _ => by rw [(h2 146 (by omega)).1]),
    IJ_fr e (fun b q1 q2 => (h1 b (by omega) (by omega)).1) (fun b q1 q2 => (h2 b (by omega)).1) (fun b q1 q2 => (h1 b (by omega) (by omega)).2) (h2 179 (by omega)).2⟩,
    HC_fr f (fun b q1 q2 => (h2 b (by omega)).1) (h3 2 (by omega) (by omega)),
    IK_fr g (h1 2 (by omega) (by omega)).1 (h3 1 (by omega) (by omega)) (h3 3 (by omega) (by omega)) (h3 4 (by omega) (by omega)) (h3 5 (by omega) (by omega))⟩
theorem Inv_P (hI : Inv n t st tm fv I J M K) (hP : IP I' M') (h1 : ∀ b, 0 < b → b < 7 ∨ (9 < b ∧ b < 145) → I' b = I b) (h2 : ∀ b, (145 < b ∧ b < 168) ∨ 169 < b → M' b = M b) (h3 : ∀ j, ¬ j = 0 → ¬ j = 32 → M' 145 j = M 145 j) : Inv n t st tm fv I' J M' K := by
  obtain ⟨⟨a, b, c, d, e⟩, f, g⟩ := hI
  exact ⟨⟨IE_fr a (h1 10 (by omega) (by omega)) (fun b q1 q2 => (h1 b (by omega) (by omega))) (fun b q1 q2 => (h2 b (by omega))) (h3 2 (by omega) (by omega)) (h3 13 (by omega) (by omega)) rfl rfl,
    ID_fr b (by rw [h1 3 (by omega) (by omega)]) (fun b q1 q2 => h1 b (by omega) (by omega)) ⟨h2 158 (by omega), h2 159 (by omega)⟩ (h3 22 (by omega) (by omega)) rfl rfl, hP,
    IG_fr d (fun b q1 q2 => (h1 b (by omega) (by omega))) (fun b q1 q2 => (h2 b (by omega))) (fun e _ => by rw [(h2 146 (by omega))]),
    IJ_fr e (fun b q1 q2 => (h1 b (by omega) (by omega))) (fun b q1 q2 => (h2 b (by omega))) (fun b q1 q2 => rfl) rfl⟩,
    HC_fr f (fun b q1 q2 => (h2 b (by omega))) (h3 2 (by omega) (by omega)),
    IK_fr g (h1 2 (by omega) (by omega)) (h3 1 (by omega) (by omega)) (h3 3 (by omega) (by omega)) (h3 4 (by omega) (by omega)) (h3 5 (by omega) (by omega))⟩
theorem rg16 {x : Int32} (h : rg x 16 = false) : x < 0 ∨ ¬ x < 16 := by
  unfold rg at h
  by_cases c : x < 0
  · exact Or.inl c
  · right
    simp [c] at h
    simp only [ti_lt, ti_le, ti_nI, Int32.reduceToInt] at *
    omega
theorem rg16t {x : Int32} (h : rg x 16 = true) : ¬ x < 0 ∧ x < 16 := by
  obtain ⟨s, hs, rfl⟩ := (rg_t (by omega)).mp h
  simp only [ti_lt, ti_le, ti_nI, Int32.reduceToInt] at *
  omega
theorem call_draft {a ty : Int32} {d : Int64} (hI : Inv n t st tm fv I J I J) : callOk 71 122 [.int a, .int ty, .long d] [0, 1] t L h z I J := by
  obtain ⟨k, b1, b2, b3, b4, b5, b6, b7⟩ := hI.1.2.1
  cases hr : rg ty 16 with
  | false =>
    refine call_bad (rv := some (.int 0)) (e := 0) (c := 1) hI ?_ ?_ (by decide) (by decide)
    · refine r71_0 ⟨fun c => ⟨rfl, rfl⟩, fun c => ⟨fun c2 => ?_, fun _ => ⟨rfl, rfl⟩⟩⟩
      exact absurd c2 ((rg16 hr).resolve_left c)
    · refine r122_0 ⟨_, s115r hr (by omega) (by omega) (by decide), fun c => absurd rfl c, fun _ => ?_⟩
      exact r122_16 ⟨_, _, _, s114t, fun _ => ⟨rfl, rfl⟩, fun c => absurd c (by decide)⟩
  | true =>
    obtain ⟨c1, c2⟩ := rg16t hr
    by_cases hk : k = 8
    · subst hk
      refine call_bad (rv := some (.int 0)) (e := 1) (c := 2) hI ?_ ?_ (by decide) (by decide)
      · refine r71_0 ⟨fun c => absurd c c1, fun _ => ⟨fun _ => ⟨fun c => ?_, fun _ => ⟨rfl, rfl⟩⟩, fun c => absurd c2 c⟩⟩
        rw [b2] at c
        exact absurd c (by decide)
      · refine r122_0 ⟨_, s115r hr (by omega) (by omega) (by decide), fun _ => ?_, fun c => absurd c (by decide)⟩
        refine r122_16 ⟨_, _, _, s114f, fun c => absurd rfl c, fun _ => ⟨fun c => ?_, fun _ => ?_⟩⟩
        · rw [u2_at, if_neg (by omega), b3] at c
          exact absurd rfl c
        · refine r122_38 ⟨_, _, _, s114t, fun c => absurd c (by decide), fun _ => ⟨rfl, ?_⟩⟩
          rw [u2_u2]
    · have hk8 : k < 8 := by omega
      have hv : vp_in (nI k) 8 := vp_in_nI hk8 (by omega)
      refine ⟨.inl (some (.int (nI k + 1))), u2 (u2 (u2 I 4 k a) 5 k ty) 3 3 (nI k + 1), u2 J 6 k d, h, z, ?_, And.intro rfl rfl, fun e k => (nomatch k), some (.int (nI k + 1)),
        u2 (u2 (u2 (u2 (u2 (u2 (u2 I 4 k a) 5 k ty) 3 3 (nI k + 1)) 145 0 0) 158 k a) 159 k ty) 145 22 (nI k + 1), u2 (u2 J 6 k d) 160 k d, ?_, ?_, ?_, fun v k => (Sum.inl.inj k).symm, n, t, st, tm, fv, by omega, ?_⟩
      · refine r71_0 ⟨fun c => absurd c c1, fun _ => ⟨fun _ => ⟨fun c => ⟨_, _, _, r7_0 ?_, rfl, rfl⟩, fun c => absurd ?_ c⟩, fun c => absurd c2 c⟩⟩
        · rw [b2, cl k (by omega)]
          exact ⟨hv, rfl, rfl⟩
        · rw [b2]; exact (nI_ltI (b := 8) (by omega) (by omega)).mpr hk8
      · refine r122_0 ⟨_, s115r hr (by omega) (by omega) (by decide), fun _ => ?_, fun c => absurd c (by decide)⟩
        refine r122_16 ⟨_, _, _, s114f, fun c => absurd rfl c, fun _ => ⟨fun _ => ?_, fun c => ?_⟩⟩
        · refine r122_38 ⟨_, _, _, s114f, fun _ => ?_, fun c => absurd rfl c⟩
          rw [u2_u2]
          have e : u2 (u2 (u2 (u2 I 4 k a) 5 k ty) 3 3 (nI k + 1)) 145 0 0 145 22 = nI k := by
            simp only [u2_at]; simp [b3]
          rw [e, cl k (by omega)]
          exact ⟨hv, rfl, rfl⟩
        · have e : u2 (u2 (u2 (u2 I 4 k a) 5 k ty) 3 3 (nI k + 1)) 145 0 0 145 22 = nI k := by
            simp only [u2_at]; simp [b3]
          rw [e] at c
          exact absurd ((nI_eq (b := 8) (by omega) (by omega)).mp c) hk
      · funext j; simp [u2_at]
      · simp [u2_at, cdo]
      · refine Inv_mix (Inv_D (I' := u2 (u2 (u2 I 4 k a) 5 k ty) 3 3 (nI k + 1)) (J' := u2 J 6 k d) hI ?_ (fun b q1 q2 => ?_) (fun b q1 => ?_) (fun j q1 q2 => ?_)) (fun b q1 q2 => ?_)
        · refine ⟨k + 1, by omega, ?_, ?_, ?_, ?_, ?_, fun i hi => ?_⟩
          · simp [u2_at, nI_1]
          · simp [u2_at, nI_1]
          · funext j; simp [u2_at, b4]
          · funext j; simp [u2_at, b5]
          · funext j; simp [u2_at, b6]
          · by_cases hik : i = k
            · obtain ⟨s, hs, e⟩ := (rg_t (by omega)).mp hr
              exact ⟨s, hs, by simp [u2_at, hik, e]⟩
            · obtain ⟨s, hs, e⟩ := b7 i (by omega)
              exact ⟨s, hs, by simp [u2_at, hik, e]⟩
        · exact ⟨by rw [u2_ne (by omega), u2_ne (by omega), u2_ne (by omega)], by rw [u2_ne (by omega)]⟩
        · refine ⟨by rw [u2_ne (by omega), u2_ne (by omega), u2_ne (by omega), u2_ne (by omega), u2_ne (by omega), u2_ne (by omega), u2_ne (by omega)], by rw [u2_ne (by omega), u2_ne (by omega)]⟩
        · simp [u2_at, q1, q2]
        · refine ⟨by rw [u2_ne (by omega), u2_ne (by omega), u2_ne (by omega), u2_ne (by omega)], by rw [u2_ne (by omega)]⟩
theorem call_check (hI : Inv n t st tm fv I J I J) : callOk 90 153 [] [] t L h z I J :=
  call_rd hI (r90_0 ⟨rfl, rfl⟩) (r153_0 ⟨rfl, rfl⟩)
end
