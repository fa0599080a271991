/-! told: the call. -/
section
variable {L h z n t : Nat} {st tm fv : Nat → Nat} {I I' M M' : rI} {J K J' K' : rJ}
theorem call_told {x : Int32} (hI : Inv n t st tm fv I J I J) : callOk 89 152 [.int x] [0] t L h z I J := by
  have hE := hI.1.1
  have n1 := hE.1
  have n2 := hE.2.2.2.1
  have h96 := s96 (L := L) (h := h) (z := z) (I := I) (J := J) (x := x)
  cases hk : knb x with
  | false =>
    rw [hk] at h96
    refine call_bad (rv := some (.int 0)) (e := 0) (c := 1) hI ?_ ?_ (by decide) (by decide)
    · exact r89_0 ⟨_, h96, fun c => absurd rfl c, fun _ => ⟨rfl, rfl⟩⟩
    · refine s152k ?_
      rw [hk]
      refine r152_110 ⟨fun c => absurd rfl c, fun _ => ?_⟩
      exact r152_121 ⟨_, _, _, s114t, fun c => absurd c (by decide), fun _ => ⟨rfl, rfl⟩⟩
  | true =>
    rw [hk] at h96
    obtain ⟨w, hw, rfl⟩ := nI_of (show ¬ x < 0 from fun hx => by rw [knb_neg hx] at hk; cases hk)
    have hk2 := hk
    rw [knb_nI hw] at hk2
    simp only [Bool.and_eq_true, decide_eq_true_eq] at hk2
    obtain ⟨hq, hr⟩ := hk2
    have C : ∀ (o : eO) (σo : eS) (off : Int), swT 94 0 7 #[46, 94, 94, 94, 62, 70, 78, 86] (nI w) = some off → 0 ≤ (18 : Int) + off → Run 89 (jmp 18 off) [(0, .ref 1), (1, .int (nI w))] [] (mS L I J h z) o σo → Run 89 0 [(0, .ref 1), (1, .int (nI w))] [] (mS L I J h z) o σo :=
      fun o σo off k1 k2 H => r89_0 ⟨_, h96, fun _ => ⟨off, k1, k2, H⟩, fun c => absurd c (by decide)⟩
    have G : ∀ (o : eO) (σo : eS) (off : Int), swT 78 0 7 #[45, 78, 78, 78, 58, 63, 68, 73] (nI w) = some off → 0 ≤ (131 : Int) + off → Run 152 (jmp 131 off) [(0, .ref 145), (1, .int (nI w)), (2, .int (nI (w % 100)))] [] (mS L (u2 I 145 0 0) J h z) o σo → Run 152 0 [(0, .ref 145), (1, .int (nI w))] [] (mS L I J h z) o σo := by
      intro o σo off k1 k2 H
      refine s152k ?_
      rw [hk, nI_rem hw]
      refine r152_110 ⟨fun _ => ?_, fun c => absurd c (by decide)⟩
      exact r152_121 ⟨_, _, _, s114f, fun _ => ⟨off, k1, k2, H⟩, fun c => absurd rfl c⟩
    have sC : ∀ q ∈ [(0, Value.ref 1)], q ∈ [(0, Value.ref 1), (1, .int (nI w))] := by
      intro q hq
      simp at hq
      simp [hq]
    have sG0 : ∀ q ∈ [(0, Value.ref 145)], q ∈ [(0, Value.ref 145), (1, .int (nI w)), (2, .int (nI (w % 100)))] := by
      intro q hq
      simp at hq
      simp [hq]
    have sG1 : ∀ q ∈ [(0, Value.ref 145), (1, .int (nI w))], q ∈ [(0, Value.ref 145), (1, .int (nI w)), (2, .int (nI (w % 100)))] := by
      intro q hq
      simp at hq
      rcases hq with hq | hq <;> simp [hq]
    have sG2 : ∀ q ∈ [(0, Value.ref 145), (2, .int (nI (w % 100)))], q ∈ [(0, Value.ref 145), (1, .int (nI w)), (2, .int (nI (w % 100)))] := by
      intro q hq
      simp at hq
      rcases hq with hq | hq <;> simp [hq]
    have sA1 : ∀ q ∈ [(0, Value.ref 1), (1, .int (nI w))], q ∈ [(2, Value.int (nI (w % 100))), (0, Value.ref 1), (1, .int (nI w))] := by
      intro q hq
      simp at hq
      rcases hq with hq | hq <;> simp [hq]
    have sA2 : ∀ q ∈ [(0, Value.ref 1), (2, .int (nI (w % 100)))], q ∈ [(2, Value.int (nI (w % 100))), (0, Value.ref 1), (1, .int (nI w))] := by
      intro q hq
      simp at hq
      rcases hq with hq | hq <;> simp [hq]
    have sA3 : ∀ q ∈ [(0, Value.ref 1), (1, .int (nI w)), (2, .int (nI (w % 100)))], q ∈ [(2, Value.int (nI (w % 100))), (0, Value.ref 1), (1, .int (nI w))] := by
      intro q hq
      simp at hq
      rcases hq with hq | hq | hq <;> simp [hq]
    have u0 : ∀ j, ¬ j = 0 → u2 I 145 0 0 145 j = I 145 j := fun j hj => by rw [u2_at, if_neg (fun k => hj k.2)]
    have u0b : ∀ b, ¬ b = 145 → u2 I 145 0 0 b = I b := fun b hb => u2_ne hb
    obtain ⟨a1, a2, a3, a4, a5, a6, a7⟩ := hI.2.2
    by_cases hs : w = 0 ∨ w = 4 ∨ w = 5 ∨ w = 6 ∨ w = 7
    · rcases hs with rfl | rfl | rfl | rfl | rfl
      · have e : ∀ v : Int32, (I 2 0 = 0 → v = 0) → (¬ I 2 0 = 0 → v = 1) → callOk 89 152 [.int (nI 0)] [0] t L h z I J := by
          intro v v0 v1
          refine call_rd (rv := some (.int v)) hI (C _ _ 46 (by decide) (by omega) (Run.sub _ sC (r89_64 ⟨fun c => ⟨by rw [v0 c], rfl⟩, fun c => ⟨by rw [v1 c], rfl⟩⟩))) (G _ _ 45 (by decide) (by omega) (Run.sub _ sG0 (r152_176 ⟨fun c => ?_, fun c => ?_⟩)))
          · rw [u0 1 (by omega), ← a2] at c
            exact ⟨by rw [v0 c], rfl⟩
          · rw [u0 1 (by omega), ← a2] at c
            exact ⟨by rw [v1 c], rfl⟩
        exact e (if I 2 0 = 0 then 0 else 1) (fun c => if_pos c) (fun c => if_neg c)
      · exact call_rd (rv := some (.int (I 2 1))) hI (C _ _ 62 (by decide) (by omega) (Run.sub _ sC (r89_80 ⟨rfl, rfl⟩))) (G _ _ 58 (by decide) (by omega) (Run.sub _ sG0 (r152_189 ⟨by rw [u0 3 (by omega), a3], rfl⟩)))
      · obtain ⟨d, b1, b2, b3, b⟩ := hI.1.2.1
        exact call_rd (rv := some (.int (I 3 3))) hI (C _ _ 70 (by decide) (by omega) (Run.sub _ sC (r89_88 ⟨rfl, rfl⟩))) (G _ _ 63 (by decide) (by omega) (Run.sub _ sG0 (r152_194 ⟨by rw [u0 22 (by omega), b2, b3], rfl⟩)))
      · obtain ⟨d, b1, b2, b3, b⟩ := hI.1.2.2.1
        exact call_rd (rv := some (.int (I 7 2))) hI (C _ _ 78 (by decide) (by omega) (Run.sub _ sC (r89_96 ⟨rfl, rfl⟩))) (G _ _ 68 (by decide) (by omega) (Run.sub _ sG0 (r152_199 ⟨by rw [u0 32 (by omega), b2, b3], rfl⟩)))
      · exact call_rd (rv := some (.int (I 2 2))) hI (C _ _ 86 (by decide) (by omega) (Run.sub _ sC (r89_104 ⟨rfl, rfl⟩))) (G _ _ 73 (by decide) (by omega) (Run.sub _ sG0 (r152_204 ⟨by rw [u0 4 (by omega), a5], rfl⟩)))
    · have dC : swT 94 0 7 #[46, 94, 94, 94, 62, 70, 78, 86] (nI w) = some 94 := by
        by_cases h8 : w < 8
        · have : w = 1 ∨ w = 2 ∨ w = 3 := by omega
          rcases this with rfl | rfl | rfl <;> decide
        · exact swT_out (k := 7) (by omega) (by rw [rg_w (by omega) (by omega), decide_eq_false (by omega)])
      have dG : swT 78 0 7 #[45, 78, 78, 78, 58, 63, 68, 73] (nI w) = some 78 := by
        by_cases h8 : w < 8
        · have : w = 1 ∨ w = 2 ∨ w = 3 := by omega
          rcases this with rfl | rfl | rfl <;> decide
        · exact swT_out (k := 7) (by omega) (by rw [rg_w (by omega) (by omega), decide_eq_false (by omega)])
      rcases Inv_on hI with ⟨o1, o2⟩ | ⟨o1, o2⟩
      · refine call_rd (rv := some (.int (-1))) hI (C _ _ 94 dC (by omega) (r89_112 ⟨fun _ => ⟨rfl, rfl⟩, fun c => absurd o2 c⟩)) (G _ _ 78 dG (by omega) (r152_209 ⟨fun c => absurd ?_ c, fun _ => ⟨rfl, rfl⟩⟩))
        rw [u0 1 (by omega)]; exact o1
      · have fin : ∀ (v : Int32) (off off2 : Int), swT 140 0 6 #[43, 49, 62, 83, 83, 83, 114] (nI (w / 100)) = some off → 0 ≤ (9 : Int) + off → Run 97 (jmp 9 off) [(2, .int (nI (w % 100))), (0, .ref 1), (1, .int (nI w))] [] (mS L I J h z) (.inl (some (.int v))) (mS L I J h z) →
            swT 147 0 6 #[42, 72, 79, 94, 113, 120, 127] (nI (w / 100)) = some off2 → 0 ≤ (222 : Int) + off2 → Run 152 (jmp 222 off2) [(0, .ref 145), (1, .int (nI w)), (2, .int (nI (w % 100)))] [] (mS L (u2 I 145 0 0) J h z) (.inl (some (.int v))) (mS L (u2 I 145 0 0) J h z) → callOk 89 152 [.int (nI w)] [0] t L h z I J := by
          intro v off off2 k1 k2 H k3 k4 H2
          refine call_rd (rv := some (.int v)) hI (C _ _ 94 dC (by omega) (r89_112 ⟨fun c => absurd (o2.symm.trans c) (by decide), fun _ => ⟨v, r97_0 ⟨off, ?_, k2, ?_⟩, rfl, rfl⟩⟩)) (G _ _ 78 dG (by omega) (r152_209 ⟨fun _ => ⟨off2, ?_, k4, H2⟩, fun c => absurd ?_ (show ¬ I 145 1 = 0 by rw [o1]; decide)⟩))
          · rw [nI_div hw]; exact k1
          · rw [nI_rem hw]; exact H
          · rw [nI_div hw]; exact k3
          · rw [u0 1 (by omega)] at c; exact c
        have hq8 : w / 100 = 0 ∨ w / 100 = 1 ∨ w / 100 = 2 ∨ w / 100 = 3 ∨ w / 100 = 4 ∨ w / 100 = 5 ∨ w / 100 = 6 ∨ w / 100 = 7 := by omega
        have hr1 : w / 100 = 1 ∨ w / 100 = 2 → w % 100 < 40 := by
          intro q
          rw [if_neg (by omega), if_pos (by omega)] at hr
          omega
        have hr2 : 3 ≤ w / 100 → w % 100 < 8 := by
          intro q
          rw [if_neg (by omega), if_neg (by omega)] at hr
          omega
        have hE0 : IE n t st tm fv I J (u2 I 145 0 0) J := IE_t0 hE (Or.inl rfl)
        have hcr := cl (w % 100) (by omega)
        rcases hq8 with q | q | q | q | q | q | q | q
        · have hw3 : w = 1 ∨ w = 2 ∨ w = 3 := by
            rw [if_pos q] at hr; omega
          rcases hw3 with rfl | rfl | rfl
          · refine fin (I 10 8) 43 42 (by decide) (by omega) (Run.sub _ sA1 (r97_52 ⟨_, r98_0 ⟨by decide, Run.sub _ sC (r98_28 ⟨rfl, rfl⟩)⟩, rfl, rfl⟩)) (by decide) (by omega) (Run.sub _ sG1 (r152_264 ⟨fun c => absurd rfl c, fun _ => ⟨?_, rfl⟩⟩))
            rw [u0 2 (by omega), hE.2.2.2.2.1, hE.2.2.2.2.2.1]
          · refine fin (I 10 7) 43 42 (by decide) (by omega) (Run.sub _ sA1 (r97_52 ⟨_, r98_0 ⟨by decide, Run.sub _ sC (r98_36 ⟨rfl, rfl⟩)⟩, rfl, rfl⟩)) (by decide) (by omega) (Run.sub _ sG1 (r152_264 ⟨fun _ => ⟨fun c => absurd rfl c, fun _ => ⟨?_, rfl⟩⟩, fun c => absurd c (by decide)⟩))
            rw [u0 13 (by omega), hE.2.2.1, n2]
          · refine fin (nI (cn (cfr I (-1) 0) n)) 43 42 (by decide) (by omega) (Run.sub _ sA1 (r97_52 ⟨_, r98_0 ⟨by decide, Run.sub _ sC (r98_44 ⟨_, s15 (f := 0) (IE_CW hE) (by omega), rfl, rfl⟩)⟩, rfl, rfl⟩)) (by decide) (by omega) (Run.sub _ sG1 (r152_264 ⟨fun _ => ⟨fun _ => ⟨_, s126 n1 (by rw [u0 13 (by omega)]; exact n2), ?_, rfl⟩, fun c => absurd c (by decide)⟩, fun c => absurd c (by decide)⟩))
            rw [cnt_vis hE0 (Or.inl rfl)]
        · have hr := hr1 (by omega)
          have h8 := (hE.2.2.2.2.2.2.2.2 (w % 100) hr).1
          refine fin (I 153 (w % 100)) 49 72 (by rw [q]; decide) (by omega) (Run.sub _ sA2 (r97_58 ⟨vp_in_nI hr (by omega), ?_, rfl⟩)) (by rw [q]; decide) (by omega) (Run.sub _ sG2 (r152_294 ⟨vp_in_nI hr (by omega), ?_, rfl⟩))
          · rw [hcr, R0_17 hr, h8]
          · rw [hcr, u0b 153 (by omega)]
        · have hr := hr1 (by omega)
          have h8 := (hE.2.2.2.2.2.2.2.2 (w % 100) hr).2.2.2.2.2.1
          refine fin (if I 157 (w % 100) = 0 then 0 else 1) 62 79 (by rw [q]; decide) (by omega) (Run.sub _ sA2 (r97_71 ⟨vp_in_nI hr (by omega), fun c => ?_, fun c => ?_⟩)) (by rw [q]; decide) (by omega) (Run.sub _ sG2 (r152_301 ⟨vp_in_nI hr (by omega), fun c => ?_, fun c => ?_⟩))
          · rw [hcr, R0_17 hr, h8] at c
            rw [if_pos c]; exact ⟨rfl, rfl⟩
          · rw [hcr, R0_17 hr, h8] at c
            rw [if_neg c]; exact ⟨rfl, rfl⟩
          · rw [hcr, u0b 157 (by omega)] at c
            rw [if_pos c]; exact ⟨rfl, rfl⟩
          · rw [hcr, u0b 157 (by omega)] at c
            rw [if_neg c]; exact ⟨rfl, rfl⟩
        all_goals have hr := hr2 (by omega)
        all_goals have hvr : vp_in (nI (w % 100)) 8 := vp_in_nI hr (by omega)
        · obtain ⟨g1, g2, g3, g4, g5, g6, g7, g8, g9, k, po, g10⟩ := hI.1.2.2.2.1 (w % 100) hr
          refine fin (if I 161 (w % 100) = 0 then -1 else nI k) 83 94 (by rw [q]; decide) (by omega) (Run.sub _ sA3 (r97_92 ⟨hvr, fun c => ?_, fun c => ?_⟩)) (by rw [q]; decide) (by omega) (Run.sub _ sG2 (r152_316 ⟨hvr, fun c => ?_, fun c => ?_⟩))
          · rw [hcr, R0_63 hr, g1] at c
            rw [if_pos c]; exact ⟨rfl, rfl⟩
          · rw [hcr, R0_63 hr, g1] at c
            rw [if_neg c, hcr, R0_63 hr, nI_div hw, q]
            refine ⟨_, r99_0 (sG hr) ⟨by decide, Run.sub [(1, .ref (65 + 5 * (w % 100)))] (fun q hq => ?_) (r99_28 (sG hr) ⟨rfl, rfl⟩)⟩, by rw [g10.2.1], rfl⟩
            simp at hq; simp [hq]
          · rw [hcr, u0b 161 (by omega)] at c
            rw [if_pos c]; exact ⟨rfl, rfl⟩
          · rw [hcr, u0b 161 (by omega)] at c
            rw [if_neg c]
            refine ⟨_, s135 hr n1 (by rw [u0 13 (by omega)]; exact n2), ?_, rfl⟩
            rw [← out_cn n1 g10]
            unfold mo
            rw [u0b 166 (by omega)]
        · obtain ⟨g1, g2, g3, g4, g5, g6, g7, g8, g9, k, po, g10⟩ := hI.1.2.2.2.1 (w % 100) hr
          refine fin (if I 161 (w % 100) = 0 then -1 else nI (cn (cmk st fv I (w % 100) 1) n)) 83 113 (by rw [q]; decide) (by omega) (Run.sub _ sA3 (r97_92 ⟨hvr, fun c => ?_, fun c => ?_⟩)) (by rw [q]; decide) (by omega) (Run.sub _ sG2 (r152_335 ⟨_, s151 hr n1 (by rw [u0 13 (by omega)]; exact n2), ?_, rfl⟩))
          · rw [hcr, R0_63 hr, g1] at c
            rw [if_pos c]; exact ⟨rfl, rfl⟩
          · rw [hcr, R0_63 hr, g1] at c
            rw [if_neg c, hcr, R0_63 hr, nI_div hw, q]
            refine ⟨_, r99_0 (sG hr) ⟨by decide, Run.sub [(0, .ref 1), (1, .ref (65 + 5 * (w % 100)))] (fun q hq => ?_) (r99_33 (sG hr) ⟨_, s36 hr hE, rfl, rfl⟩)⟩, rfl, rfl⟩
            simp at hq; rcases hq with hq | hq <;> simp [hq]
          · rw [u0b 161 (by omega), cnt_mk hE0 (fun e he => by rw [u0b 165 (by omega)]; exact (g7 e (by omega)).1)]
        · obtain ⟨g1, g2, g3, g4, g5, g6, g7, g8, g9, k, po, g10⟩ := hI.1.2.2.2.1 (w % 100) hr
          refine fin (if I 161 (w % 100) = 0 then -1 else nI (cn (cmk st fv I (w % 100) 2) n)) 83 120 (by rw [q]; decide) (by omega) (Run.sub _ sA3 (r97_92 ⟨hvr, fun c => ?_, fun c => ?_⟩)) (by rw [q]; decide) (by omega) (Run.sub _ sG2 (r152_342 ⟨_, s151 hr n1 (by rw [u0 13 (by omega)]; exact n2), ?_, rfl⟩))
          · rw [hcr, R0_63 hr, g1] at c
            rw [if_pos c]; exact ⟨rfl, rfl⟩
          · rw [hcr, R0_63 hr, g1] at c
            rw [if_neg c, hcr, R0_63 hr, nI_div hw, q]
            refine ⟨_, r99_0 (sG hr) ⟨by decide, Run.sub [(0, .ref 1), (1, .ref (65 + 5 * (w % 100)))] (fun q hq => ?_) (r99_43 (sG hr) ⟨_, s36 hr hE, rfl, rfl⟩)⟩, rfl, rfl⟩
            simp at hq; rcases hq with hq | hq <;> simp [hq]
          · rw [u0b 161 (by omega), cnt_mk hE0 (fun e he => by rw [u0b 165 (by omega)]; exact (g7 e (by omega)).1)]
        · obtain ⟨m1, m2, m3⟩ := hI.1.2.2.2.2 (w % 100) hr
          refine fin (if I 170 (w % 100) = 0 then -1 else I 177 (w % 100)) 114 127 (by rw [q]; decide) (by omega) (Run.sub _ sA2 (r97_123 ⟨hvr, fun c => ?_, fun c => ?_⟩)) (by rw [q]; decide) (by omega) (Run.sub _ sG2 (r152_349 ⟨hvr, fun c => ?_, fun c => ?_⟩))
          · rw [hcr, R0_64 hr, m1] at c
            rw [if_pos c]; exact ⟨rfl, rfl⟩
          · rw [hcr, R0_64 hr, m1] at c
            rw [if_neg c, hcr, R0_64 hr, (m3 (m2.resolve_left c)).2.2.2.2.2.1]; exact ⟨rfl, rfl⟩
          · rw [hcr, u0b 170 (by omega)] at c
            rw [if_pos c]; exact ⟨rfl, rfl⟩
          · rw [hcr, u0b 170 (by omega)] at c
            rw [if_neg c, hcr, u0b 177 (by omega)]; exact ⟨rfl, rfl⟩
        · obtain ⟨m1, m2, m3⟩ := hI.1.2.2.2.2 (w % 100) hr
          refine fin (if I 170 (w % 100) = 0 then -1 else if I 178 (w % 100) = 0 then 0 else 1) 140 147 (by rw [q]; decide) (by omega) (Run.sub _ sA2 (r97_149 ⟨hvr, fun c => ?_, fun c => ⟨fun c2 => ?_, fun c2 => ?_⟩⟩)) (by rw [q]; decide) (by omega) (Run.sub _ sG2 (r152_369 ⟨hvr, fun c => ⟨fun c2 => ?_, fun c2 => ?_⟩, fun c => ?_⟩))
          · rw [hcr, R0_64 hr, m1] at c
            rw [if_pos c]; exact ⟨rfl, rfl⟩
          · rw [hcr, R0_64 hr, m1] at c
            rw [hcr, R0_64 hr, (m3 (m2.resolve_left c)).2.2.2.2.2.2.2.1] at c2
            rw [if_neg c, if_pos c2]; exact ⟨rfl, rfl⟩
          · rw [hcr, R0_64 hr, m1] at c
            rw [hcr, R0_64 hr, (m3 (m2.resolve_left c)).2.2.2.2.2.2.2.1] at c2
            rw [if_neg c, if_neg c2]; exact ⟨rfl, rfl⟩
          · rw [hcr, u0b 170 (by omega)] at c
            rw [hcr, u0b 178 (by omega)] at c2
            rw [if_neg c, if_pos c2]; exact ⟨rfl, rfl⟩
          · rw [hcr, u0b 170 (by omega)] at c
            rw [hcr, u0b 178 (by omega)] at c2
            rw [if_neg c, if_neg c2]; exact ⟨rfl, rfl⟩
          · rw [hcr, u0b 170 (by omega)] at c
            rw [if_pos c]; exact ⟨rfl, rfl⟩
end
