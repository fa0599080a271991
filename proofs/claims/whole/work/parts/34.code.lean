/-! code, power, reopen, variable. -/
section
variable {L h z n t : Nat} {st tm fv : Nat → Nat} {I I' M M' : rI} {J K J' K' : rJ}
def isIb (op a : Int32) : Bool := rg op 20 && ((!decide (op = 5) && !decide (op = 6)) || rg a 4) && (!decide (op = 18) || rg a 16)
theorem rg_lt {x c : Int32} {N : Nat} (hN : N < 2147483648) (hc : c = nI N) : rg x N = (!decide (x < 0) && decide (x < c)) := by
  unfold rg
  have : (nI N ≤ x) ↔ ¬ (x < c) := by
    subst hc
    simp only [ti_lt, ti_le]; omega
  simp only [this]
  by_cases k : x < c <;> simp [k]
theorem rg_ge {x c : Int32} {N : Nat} (hc : c = nI N) : rg x N = (!decide (x < 0) && !decide (c ≤ x)) := by
  subst hc; rfl
theorem le19 {x : Int32} : (x ≤ 19) = (x < 20) := propext (by simp only [ti_lt, ti_le, Int32.reduceToInt]; omega)
theorem s53 {op a : Int32} : dP 53 [.int op, .int a] L h z I J (bb (isIb op a)) := by
  have e1 := rg_lt (x := op) (c := 20) (N := 20) (by omega) (by decide)
  have e2 := rg_ge (x := a) (c := 4) (N := 4) (by decide)
  have e3 := rg_ge (x := a) (c := 16) (N := 16) (by decide)
  have e5 : ¬ (5 : Int32) = 18 := by decide
  have e6 : ¬ (6 : Int32) = 18 := by decide
  have e7 : ¬ (18 : Int32) = 5 := by decide
  have e8 : ¬ (18 : Int32) = 6 := by decide
  refine r53_0 ?_
  rw [le19 (x := op)]
  unfold isIb
  rw [e1, e2, e3]
  clear e1 e2 e3
  repeat' (first | (intro _) | apply And.intro)
  all_goals first | rfl | (simp [*]; done) | (simp_all; done) | (subst_vars; simp_all; done)
theorem s140 {op a : Int32} {o : eO} {σo : eS} (H : Run 140 52 [(0, .ref 145), (1, .int op), (2, .int a)] [.int (bb (!isIb op a)), .ref 145] (mS L I J h z) o σo) : Run 140 0 [(0, .ref 145), (1, .int op), (2, .int a)] [] (mS L I J h z) o σo := by
  cases h1 : rg op 20 with
  | false =>
    have e : isIb op a = false := by simp [isIb, h1]
    rw [e] at H
    exact r140_0 ⟨_, s115r h1 (by omega) (by omega) (by decide), fun _ => H, fun c => absurd rfl c⟩
  | true =>
    have q3 : ∀ (_ : (!decide (op = 5) && !decide (op = 6) || rg a 4) = true), Run 140 31 [(0, .ref 145), (1, .int op), (2, .int a)] [.ref 145] (mS L I J h z) o σo := by
      intro hp
      refine r140_31 ⟨fun c => r140_51 ?_, fun c => ?_⟩
      · have e : isIb op a = true := by unfold isIb; rw [h1, hp]; simp [c]
        rw [e] at H
        exact H
      · cases h3 : rg a 16 with
        | false =>
          have e : isIb op a = false := by unfold isIb; rw [h1, hp, h3]; simp [c]
          rw [e] at H
          exact ⟨_, s115r h3 (by omega) (by omega) (by decide), fun c => absurd rfl c, fun _ => H⟩
        | true =>
          have e : isIb op a = true := by unfold isIb; rw [h1, hp, h3]; simp
          rw [e] at H
          exact ⟨_, s115r h3 (by omega) (by omega) (by decide), fun _ => r140_51 H, fun c => absurd c (by decide)⟩
    have q2 : ∀ (_ : op = 5 ∨ op = 6), Run 140 22 [(0, .ref 145), (1, .int op), (2, .int a)] [.ref 145] (mS L I J h z) o σo := by
      intro hp
      cases h3 : rg a 4 with
      | false =>
        have e : isIb op a = false := by unfold isIb; rw [h3]; rcases hp with hp | hp <;> simp [hp]
        rw [e] at H
        exact r140_22 ⟨_, s115r h3 (by omega) (by omega) (by decide), fun _ => H, fun c => absurd rfl c⟩
      | true => exact r140_22 ⟨_, s115r h3 (by omega) (by omega) (by decide), fun c => absurd c (by decide), fun _ => q3 (by simp [h3])⟩
    exact r140_0 ⟨_, s115r h1 (by omega) (by omega) (by decide), fun c => absurd c (by decide), fun _ => ⟨fun c => q2 (Or.inl c), fun c => ⟨fun c2 => q3 (by simp [c, c2]), fun c2 => q2 (Or.inr c2)⟩⟩⟩
theorem isIb_ok {op a : Int32} (h : isIb op a = true) : okOp op a := by
  unfold isIb at h
  simp only [Bool.and_eq_true, Bool.or_eq_true, Bool.not_eq_true', decide_eq_false_iff_not] at h
  obtain ⟨⟨h1, h2⟩, h3⟩ := h
  refine ⟨(rg_t (by omega)).mp h1, fun k => ?_, fun k => ?_⟩
  · rcases h2 with h2 | h2
    · exact absurd k (not_or.mpr h2)
    · exact (rg_t (by omega)).mp h2
  · rcases h3 with h3 | h3
    · exact absurd k h3
    · exact (rg_t (by omega)).mp h3
theorem call_code {op a : Int32} (hI : Inv n t st tm fv I J I J) : callOk 82 140 [.int op, .int a] [0, 1] t L h z I J := by
  obtain ⟨k, b1, b2, b3, b4, b5, b6⟩ := hI.1.2.2.1
  cases hr : isIb op a with
  | false =>
    refine call_bad (rv := some (.int 0)) (e := 0) (c := 1) hI ?_ ?_ (by decide) (by decide)
    · refine r82_0 ⟨_, s53, fun c => ?_, fun _ => ⟨rfl, rfl⟩⟩
      rw [hr] at c
      exact absurd rfl c
    · refine s140 ?_
      rw [hr]
      exact r140_52 ⟨_, _, _, s114t, fun _ => ⟨rfl, rfl⟩, fun c => absurd c (by decide)⟩
  | true =>
    have h53 : dP 53 [.int op, .int a] L h z I J 1 := by have := s53 (L := L) (h := h) (z := z) (I := I) (J := J) (op := op) (a := a); rw [hr] at this; exact this
    by_cases hk : k = 64
    · subst hk
      refine call_bad (rv := some (.int 0)) (e := 1) (c := 2) hI ?_ ?_ (by decide) (by decide)
      · refine r82_0 ⟨_, h53, fun _ => ⟨fun c => ?_, fun _ => ⟨rfl, rfl⟩⟩, fun c => absurd c (by decide)⟩
        rw [b2] at c
        exact absurd c (by decide)
      · refine s140 ?_
        rw [hr]
        refine r140_52 ⟨_, _, _, s114f, fun c => absurd rfl c, fun _ => ⟨fun c => ?_, fun _ => ?_⟩⟩
        · rw [u2_at, if_neg (by omega), b3] at c
          exact absurd rfl c
        · refine r140_74 ⟨_, _, _, s114t, fun c => absurd c (by decide), fun _ => ⟨rfl, ?_⟩⟩
          rw [u2_u2]
    · have hk8 : k < 64 := by omega
      have hv : vp_in (nI k) 64 := vp_in_nI hk8 (by omega)
      have e : u2 (u2 (u2 (u2 I 8 k op) 9 k a) 7 2 (nI k + 1)) 145 0 0 145 32 = nI k := by
        simp only [u2_at]; simp [b3]
      refine ⟨.inl (some (.int (nI k + 1))), u2 (u2 (u2 I 8 k op) 9 k a) 7 2 (nI k + 1), J, h, z, ?_, And.intro rfl rfl, fun e k => (nomatch k), some (.int (nI k + 1)),
        u2 (u2 (u2 (u2 (u2 (u2 (u2 I 8 k op) 9 k a) 7 2 (nI k + 1)) 145 0 0) 168 k op) 169 k a) 145 32 (nI k + 1), J, ?_, ?_, ?_, fun v k => (Sum.inl.inj k).symm, n, t, st, tm, fv, by omega, ?_⟩
      · refine r82_0 ⟨_, h53, fun _ => ⟨fun _ => ⟨_, _, _, r54_0 ?_, rfl, rfl⟩, fun c => absurd ?_ c⟩, fun c => absurd c (by decide)⟩
        · rw [b2, cl k (by omega)]
          exact ⟨hv, rfl, rfl⟩
        · rw [b2]; exact (nI_ltI (b := 64) (by omega) (by omega)).mpr hk8
      · refine s140 ?_
        rw [hr]
        refine r140_52 ⟨_, _, _, s114f, fun c => absurd rfl c, fun _ => ⟨fun _ => ?_, fun c => ?_⟩⟩
        · refine r140_74 ⟨_, _, _, s114f, fun _ => ?_, fun c => absurd rfl c⟩
          rw [u2_u2, e, cl k (by omega)]
          exact ⟨hv, rfl, rfl⟩
        · rw [e] at c
          exact absurd ((nI_eq (b := 64) (by omega) (by omega)).mp c) hk
      · funext j; simp [u2_at]
      · simp [u2_at, cdo]
      · refine Inv_mix (Inv_P (I' := u2 (u2 (u2 I 8 k op) 9 k a) 7 2 (nI k + 1)) hI ?_ (fun b q1 q2 => ?_) (fun b q1 => ?_) (fun j q1 q2 => ?_)) (fun b q1 q2 => ?_)
        · refine ⟨k + 1, by omega, ?_, ?_, ?_, ?_, fun i hi => ?_⟩
          · simp [u2_at, nI_1]
          · simp [u2_at, nI_1]
          · funext j; simp [u2_at, b4]
          · funext j; simp [u2_at, b5]
          · by_cases hik : i = k
            · have := isIb_ok hr
              simpa [u2_at, hik] using this
            · have := b6 i (by omega)
              simpa [u2_at, hik] using this
        · rw [u2_ne (by omega), u2_ne (by omega), u2_ne (by omega)]
        · rw [u2_ne (by omega), u2_ne (by omega), u2_ne (by omega), u2_ne (by omega), u2_ne (by omega), u2_ne (by omega), u2_ne (by omega)]
        · simp [u2_at, q1, q2]
        · refine ⟨by rw [u2_ne (by omega), u2_ne (by omega), u2_ne (by omega), u2_ne (by omega)], rfl⟩
/-- the disk alone has changed -/
theorem Inv_K (hI : Inv n t st tm fv I J M K) (hK : IK I' M') (h1 : ∀ b, 0 < b → b < 145 → ¬ b = 2 → I' b = I b) (h2 : ∀ b, 145 < b → M' b = M b) (h3 : ∀ j, j = 2 ∨ j = 13 ∨ j = 22 ∨ j = 32 → M' 145 j = M 145 j) : Inv n t st tm fv I' J M' K :=
  ⟨InvC_fr2 hI.1 h1 h2 h3, HC_fr hI.2.1 (fun b q1 q2 => h2 b (by omega)) (h3 2 (by omega)), hK⟩
theorem call_power {k : Int32} (hI : Inv n t st tm fv I J I J) : callOk 87 149 [.int k] [0] t L h z I J := by
  have h115 := s115 (L := L) (h := h + 1) (z := z + 6) (I := I) (J := J) (v := k) (a := -1) (b := 70000)
  by_cases c1 : k < -1
  · refine call_bad (rv := none) (e := 0) (c := 1) hI ?_ ?_ (by decide) (by decide)
    · exact r87_0 ⟨fun _ => ⟨rfl, rfl⟩, fun c => absurd c1 c⟩
    · simp only [c1, decide_true, Bool.not_true, Bool.false_and] at h115
      exact r149_0 ⟨_, h115, fun c => absurd rfl c, fun _ => ⟨_, _, _, s114t, fun _ => ⟨rfl, rfl⟩, fun c => absurd c (by decide)⟩⟩
  · by_cases c2 : 70000 < k
    · refine call_bad (rv := none) (e := 0) (c := 1) hI ?_ ?_ (by decide) (by decide)
      · refine r87_0 ⟨fun c => absurd c c1, fun _ => ⟨fun c => ?_, fun _ => ⟨rfl, rfl⟩⟩⟩
        simp only [ti_lt, ti_le] at *; omega
      · simp only [c2, decide_true, Bool.not_true, Bool.and_false] at h115
        exact r149_0 ⟨_, h115, fun c => absurd rfl c, fun _ => ⟨_, _, _, s114t, fun _ => ⟨rfl, rfl⟩, fun c => absurd c (by decide)⟩⟩
    · have h115 := s115 (L := L) (h := h) (z := z) (I := u2 I 2 3 k) (J := J) (v := k) (a := -1) (b := 70000)
      simp only [c1, c2, decide_false, Bool.not_false, Bool.and_true] at h115
      refine ⟨.inl none, u2 I 2 3 k, J, h, z, r87_0 ⟨fun c => absurd c c1, fun _ => ⟨fun _ => ⟨rfl, rfl⟩, fun c => ?_⟩⟩, And.intro rfl rfl, fun e k => (nomatch k), none,
        u2 (u2 (u2 I 2 3 k) 145 0 0) 145 5 k, J, r149_0 ⟨_, h115, fun _ => ⟨_, _, _, s114f, fun c => absurd rfl c, fun _ => ⟨rfl, rfl⟩⟩, fun c => absurd c (by decide)⟩, ?_, ?_, fun v k => (Sum.inl.inj k).symm, n, t, st, tm, fv, by omega, ?_⟩
      · simp only [ti_lt, ti_le] at *; omega
      · funext j; simp [u2_at]
      · simp [u2_at, cdo]
      · refine Inv_mix (Inv_K (I' := u2 I 2 3 k) hI ?_ (fun b q1 q2 q3 => u2_ne q3) (fun b q1 => ?_) (fun j q1 => ?_)) (fun b q1 q2 => ⟨?_, rfl⟩)
        · obtain ⟨a1, a2, a3, a4, a5, a6, a7⟩ := hI.2.2
          unfold IK
          refine ⟨by simpa [u2_at] using a1, by simpa [u2_at] using a2, by simpa [u2_at] using a3, by simpa [u2_at] using a4, by simpa [u2_at] using a5, fun _ => by simp [u2_at], ?_⟩
          simp only [u2_at]
          simp only [ti_lt, ti_le, Int32.reduceToInt] at *
          simp
          omega
        · rw [u2_ne (by omega), u2_ne (by omega), u2_ne (by omega)]
        · rw [u2_at, if_neg (by omega), u2_at, if_neg (by omega), u2_at, if_neg (by omega)]
        · rw [u2_ne (by omega), u2_ne (by omega)]
theorem call_reopen (hI : Inv n t st tm fv I J I J) : callOk 88 150 [] [] t L h z I J := by
  have hn := hI.1.1.2.2.1
  have hn2 := hI.1.1.2.2.2.1
  have e1 : u2 (u2 (cOff I) 2 0 1) 2 3 (-1) 10 7 = nI n := by
    simp only [u2_at]; rw [cOff_lo (by omega)]; simp [hn]
  have e2 : mOff (u2 (u2 (u2 (cOff I) 2 0 1) 2 3 (-1)) 145 0 0) 145 13 = nI n := by
    rw [mOff_145]; simp only [u2_at]; rw [cOff_lo (by omega)]; simp [hn2]
  refine ⟨.inl (some (.int (nI n))), u2 (u2 (cOff I) 2 0 1) 2 3 (-1), J, h, z, r88_0 ⟨_, _, s105, _, _, s4, by rw [e1], rfl⟩, And.intro rfl rfl, fun e k => (nomatch k), some (.int (nI n)),
    u2 (u2 (mOff (u2 (u2 (u2 (cOff I) 2 0 1) 2 3 (-1)) 145 0 0)) 145 1 1) 145 5 (-1), J, r150_0 ⟨_, _, s116, by rw [e2], rfl⟩, ?_, ?_, fun v k => (Sum.inl.inj k).symm, n, t, st, tm, fv, by omega, ?_⟩
  · rw [u2_ne (by omega), u2_ne (by omega), mOff_lo (by omega), u2_ne (by omega), u2_ne (by omega), u2_ne (by omega), cOff_lo (by omega)]
  · simp only [u2_at]; rw [mOff_145]; simp [u2_at, cdo]
  · have h0 : InvC n t st tm fv I J (u2 (u2 (u2 (cOff I) 2 0 1) 2 3 (-1)) 145 0 0) J := InvC_fr2 hI.1 (fun b q1 q2 q3 => rfl) (fun b q => by rw [u2_ne (by omega), u2_ne (by omega), u2_ne (by omega), cOff_lo (by omega)]) (fun j hj => by rw [u2_at, if_neg (by omega), u2_ne (by omega), u2_ne (by omega), cOff_lo (by omega)])
    have h1 := InvC_off h0
    have h2 := HC_off (S := fun _ => True) (HC_fr (M' := u2 (u2 (u2 (cOff I) 2 0 1) 2 3 (-1)) 145 0 0) hI.2.1 (fun b q1 q2 => by rw [u2_ne (by omega), u2_ne (by omega), u2_ne (by omega), cOff_lo (by omega)]) (by rw [u2_at, if_neg (by omega), u2_ne (by omega), u2_ne (by omega), cOff_lo (by omega)]))
    refine Inv_mix (I := u2 (u2 (cOff I) 2 0 1) 2 3 (-1)) (J := J) ⟨InvC_fr2 h1 (fun b q1 q2 q3 => by rw [u2_ne q3, u2_ne q3]) (fun b q => by rw [u2_ne (by omega), u2_ne (by omega)]) (fun j hj => by rw [u2_at, if_neg (by omega), u2_at, if_neg (by omega)]), HC_fr h2 (fun b q1 q2 => by rw [u2_ne (by omega), u2_ne (by omega)]) (by rw [u2_at, if_neg (by omega), u2_at, if_neg (by omega)]), ?_⟩ (fun b q1 q2 => ⟨?_, rfl⟩)
    · obtain ⟨a1, a2, a3, a4, a5, a6, a7⟩ := hI.2.2
      unfold IK
      simp only [u2_at, mOff_145, cOff_lo (show (2 : Nat) < 3 ∨ _ from Or.inl (by omega)), cOff_lo (b := 145) (by omega)]
      refine ⟨by simp [bI], by simp, by simpa using a3, by simpa using a4, by simpa using a5, fun _ => by simp, ?_⟩
      simp
    · rw [u2_ne (by omega), u2_ne (by omega), mOff_lo (by omega), u2_ne (by omega)]
end
