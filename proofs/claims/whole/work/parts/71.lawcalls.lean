/-! What the law hears of each call; one round of its loop. -/
theorem z_c : (0 : Int32).toNatClampNeg = 0 := by decide
theorem v01 : vp_in (0 : Int32) 1 := vp_in_nI (n := 0) (by omega) (by omega)
theorem r161_0_okg {o : eO} {σo : eS} {L h z : Nat} {I : Nat → Nat → Int32} {J : Nat → Nat → Int64} {x1 x2 x3 x4 : Int32}  (H : (∃ v1 : Int32, ∃ I2 : Nat → Nat → Int32, ∃ J3 : Nat → Nat → Int64, Den 76 [.ref 1, .int x1, .int x2, .int x3, .int x4] (mS L I J h z) (.inl (some (.int v1))) (mS L I2 J3 h z) ∧ vp_in (0 : Int32) 1 ∧ o = .inl (some (.int (0 : Int32))) ∧ σo = (mS L I2 (u2 J3 184 ((0 : Int32).toNatClampNeg) v1.toInt64) h z))) : Run 161 0 [(0, .ref 1), (1, .int x1), (2, .int x2), (3, .int x3), (4, .int x4), (5, .ref 184)] [] (mS L I J h z) o σo :=
  Run.blk k161_0 c161_0 (And.intro (Nat.le_of_ble_eq_true rfl) (And.intro gw76 (And.intro (Nat.le_of_ble_eq_true rfl) (And.intro (recv_o (q := 76) rk76 rc76 (oK_isO kO_1)) (Exists.elim H (fun v1 hq1 => Exists.elim hq1 (fun I2 hq2 => Exists.elim hq2 (fun J3 hq3 => have h2 := hq3; (Or.inl (Exists.intro (some (.int v1)) (Exists.intro (mS L I2 J3 h z) (And.intro h2.1 (Exists.intro 1 (And.intro kA_184.1 (And.intro (aK_isA kA_184) (And.intro h2.2.1 (Run.blk (μ := 161) (pc := 25) k161_25 c161_25 (ret_i rt161 rfl h2.2.2))))))))))))))))))
theorem r162_0_okg {o : eO} {σo : eS} {L h z : Nat} {I : Nat → Nat → Int32} {J : Nat → Nat → Int64} {x1 x2 : Int32}  (H : (∃ v1 : Int64, ∃ I2 : Nat → Nat → Int32, ∃ J3 : Nat → Nat → Int64, Den 77 [.ref 1, .int x1, .int x2] (mS L I J h z) (.inl (some (.long v1))) (mS L I2 J3 h z) ∧ vp_in (0 : Int32) 1 ∧ o = .inl (some (.int (0 : Int32))) ∧ σo = (mS L I2 (u2 J3 184 ((0 : Int32).toNatClampNeg) v1) h z))) : Run 162 0 [(0, .ref 1), (1, .int x1), (2, .int x2), (3, .ref 184)] [] (mS L I J h z) o σo :=
  Run.blk k162_0 c162_0 (And.intro (Nat.le_of_ble_eq_true rfl) (And.intro gw77 (And.intro (Nat.le_of_ble_eq_true rfl) (And.intro (recv_o (q := 77) rk77 rc77 (oK_isO kO_1)) (Exists.elim H (fun v1 hq1 => Exists.elim hq1 (fun I2 hq2 => Exists.elim hq2 (fun J3 hq3 => have h2 := hq3; (Or.inl (Exists.intro (some (.long v1)) (Exists.intro (mS L I2 J3 h z) (And.intro h2.1 (Exists.intro 1 (And.intro kA_184.1 (And.intro (aK_isA kA_184) (And.intro h2.2.1 (Run.blk (μ := 162) (pc := 24) k162_24 c162_24 (ret_i rt162 rfl h2.2.2))))))))))))))))))
theorem r170_0_okg {o : eO} {σo : eS} {L h z : Nat} {I : Nat → Nat → Int32} {J : Nat → Nat → Int64} {x1 x2 x3 : Int32}  (H : (∃ v1 : Int64, ∃ I2 : Nat → Nat → Int32, ∃ J3 : Nat → Nat → Int64, Den 85 [.ref 1, .int x1, .int x2, .int x3] (mS L I J h z) (.inl (some (.long v1))) (mS L I2 J3 h z) ∧ vp_in (0 : Int32) 1 ∧ o = .inl (some (.int (0 : Int32))) ∧ σo = (mS L I2 (u2 J3 184 ((0 : Int32).toNatClampNeg) v1) h z))) : Run 170 0 [(0, .ref 1), (1, .int x1), (2, .int x2), (3, .int x3), (4, .ref 184)] [] (mS L I J h z) o σo :=
  Run.blk k170_0 c170_0 (And.intro (Nat.le_of_ble_eq_true rfl) (And.intro gw85 (And.intro (Nat.le_of_ble_eq_true rfl) (And.intro (recv_o (q := 85) rk85 rc85 (oK_isO kO_1)) (Exists.elim H (fun v1 hq1 => Exists.elim hq1 (fun I2 hq2 => Exists.elim hq2 (fun J3 hq3 => have h2 := hq3; (Or.inl (Exists.intro (some (.long v1)) (Exists.intro (mS L I2 J3 h z) (And.intro h2.1 (Exists.intro 1 (And.intro kA_184.1 (And.intro (aK_isA kA_184) (And.intro h2.2.1 (Run.blk (μ := 170) (pc := 26) k170_26 c170_26 (ret_i rt170 rfl h2.2.2))))))))))))))))))
theorem r173_0_okg {o : eO} {σo : eS} {L h z : Nat} {I : Nat → Nat → Int32} {J : Nat → Nat → Int64} {x1 : Int32}  (H : (∃ v1 : Int32, ∃ I2 : Nat → Nat → Int32, ∃ J3 : Nat → Nat → Int64, Den 89 [.ref 1, .int x1] (mS L I J h z) (.inl (some (.int v1))) (mS L I2 J3 h z) ∧ vp_in (0 : Int32) 1 ∧ o = .inl (some (.int (0 : Int32))) ∧ σo = (mS L I2 (u2 J3 184 ((0 : Int32).toNatClampNeg) v1.toInt64) h z))) : Run 173 0 [(0, .ref 1), (1, .int x1), (2, .ref 184)] [] (mS L I J h z) o σo :=
  Run.blk k173_0 c173_0 (And.intro (Nat.le_of_ble_eq_true rfl) (And.intro gw89 (And.intro (Nat.le_of_ble_eq_true rfl) (And.intro (recv_o (q := 89) rk89 rc89 (oK_isO kO_1)) (Exists.elim H (fun v1 hq1 => Exists.elim hq1 (fun I2 hq2 => Exists.elim hq2 (fun J3 hq3 => have h2 := hq3; (Or.inl (Exists.intro (some (.int v1)) (Exists.intro (mS L I2 J3 h z) (And.intro h2.1 (Exists.intro 1 (And.intro kA_184.1 (And.intro (aK_isA kA_184) (And.intro h2.2.1 (Run.blk (μ := 173) (pc := 15) k173_15 c173_15 (ret_i rt173 rfl h2.2.2))))))))))))))))))
section
variable {L h z n t : Nat} {st tm fv : Nat → Nat} {I : rI} {J : rJ}
theorem lw_156 {x1 x2 : Int32} {y3 : Int64} (hI : Inv n t st tm fv I J I J) : lwOk 156 122 [.int x1, .int x2, .long y3] [.ref 184] t L h z I J :=
  lw_I (q := 71) (es := [0, 1]) rt71 (by decide) rt122 (by decide) (nrS_i (nrS_i (nrS_l nrS_n))) (by decide)
    (fun v I1 J1 d => r156_0_ok ⟨v, I1, J1, d, v01, rfl, by rw [z_c]⟩)
    (fun e I1 J1 c he hc d => by
      simp only [List.mem_cons, List.not_mem_nil, or_false] at he
      rcases he with rfl | rfl
      · exact r156_0_0 ⟨I1, J1, d, cd_i (hc.trans (by decide)), rfl⟩
      · exact r156_0_1 ⟨I1, J1, d, cd_i (hc.trans (by decide)), rfl⟩
    )
    (call_draft hI)
theorem lw_157 {x1 x2 : Int32} (hI : Inv n t st tm fv I J I J) : lwOk 157 125 [.int x1, .int x2] [.ref 184] t L h z I J :=
  lw_I (q := 72) (es := [0, 1, 2]) rt72 (by decide) rt125 (by decide) (nrS_i (nrS_i nrS_n)) (by decide)
    (fun v I1 J1 d => r157_0_ok ⟨v, I1, J1, d, v01, rfl, by rw [z_c]⟩)
    (fun e I1 J1 c he hc d => by
      simp only [List.mem_cons, List.not_mem_nil, or_false] at he
      rcases he with rfl | rfl | rfl
      · exact r157_0_0 ⟨I1, J1, d, cd_i (hc.trans (by decide)), rfl⟩
      · exact r157_0_1 ⟨I1, J1, d, cd_i (hc.trans (by decide)), rfl⟩
      · exact r157_0_2 ⟨I1, J1, d, cd_i (hc.trans (by decide)), rfl⟩
    )
    (call_append hI)
theorem lw_158 {x1 x2 x3 x4 : Int32} (hI : Inv n t st tm fv I J I J) : lwOk 158 127 [.int x1, .int x2, .int x3, .int x4] [.ref 184] t L h z I J :=
  lw_I (q := 73) (es := [0, 1, 2]) rt73 (by decide) rt127 (by decide) (nrS_i (nrS_i (nrS_i (nrS_i nrS_n)))) (by decide)
    (fun v I1 J1 d => r158_0_ok ⟨v, I1, J1, d, v01, rfl, by rw [z_c]⟩)
    (fun e I1 J1 c he hc d => by
      simp only [List.mem_cons, List.not_mem_nil, or_false] at he
      rcases he with rfl | rfl | rfl
      · exact r158_0_0 ⟨I1, J1, d, cd_i (hc.trans (by decide)), rfl⟩
      · exact r158_0_1 ⟨I1, J1, d, cd_i (hc.trans (by decide)), rfl⟩
      · exact r158_0_2 ⟨I1, J1, d, cd_i (hc.trans (by decide)), rfl⟩
    )
    (call_settings hI)
theorem lw_159 {x1 : Int32} (hI : Inv n t st tm fv I J I J) : lwOk 159 128 [.int x1] [.ref 184] t L h z I J :=
  lw_I (q := 74) (es := [0, 1, 2]) rt74 (by decide) rt128 (by decide) (nrS_i nrS_n) (by decide)
    (fun v I1 J1 d => r159_0_ok ⟨v, I1, J1, d, v01, rfl, by rw [z_c]⟩)
    (fun e I1 J1 c he hc d => by
      simp only [List.mem_cons, List.not_mem_nil, or_false] at he
      rcases he with rfl | rfl | rfl
      · exact r159_0_0 ⟨I1, J1, d, cd_i (hc.trans (by decide)), rfl⟩
      · exact r159_0_1 ⟨I1, J1, d, cd_i (hc.trans (by decide)), rfl⟩
      · exact r159_0_2 ⟨I1, J1, d, cd_i (hc.trans (by decide)), rfl⟩
    )
    (call_end hI)
theorem lw_160 {x1 : Int32} (hI : Inv n t st tm fv I J I J) (ht : t + 1000 ≤ 1000000) : lwOk 160 129 [.int x1] [.ref 184] t L h z I J :=
  lw_I (q := 75) (es := [0, 1, 2]) rt75 (by decide) rt129 (by decide) (nrS_i nrS_n) (by decide)
    (fun v I1 J1 d => r160_0_ok ⟨v, I1, J1, d, v01, rfl, by rw [z_c]⟩)
    (fun e I1 J1 c he hc d => by
      simp only [List.mem_cons, List.not_mem_nil, or_false] at he
      rcases he with rfl | rfl | rfl
      · exact r160_0_0 ⟨I1, J1, d, cd_i (hc.trans (by decide)), rfl⟩
      · exact r160_0_1 ⟨I1, J1, d, cd_i (hc.trans (by decide)), rfl⟩
      · exact r160_0_2 ⟨I1, J1, d, cd_i (hc.trans (by decide)), rfl⟩
    )
    (call_tick hI ht)
theorem lw_161 {x1 x2 x3 x4 : Int32} (hI : Inv n t st tm fv I J I J) : lwOk 161 130 [.int x1, .int x2, .int x3, .int x4] [.ref 184] t L h z I J :=
  lw_I (q := 76) (es := [0, 1]) rt76 (by decide) rt130 (by decide) (nrS_i (nrS_i (nrS_i (nrS_i nrS_n)))) (by decide)
    (fun v I1 J1 d => r161_0_okg ⟨v, I1, J1, d, v01, rfl, by rw [z_c]⟩)
    (fun e I1 J1 c he hc d => by
      simp only [List.mem_cons, List.not_mem_nil, or_false] at he
      rcases he with rfl | rfl
      · exact r161_0_0 ⟨I1, J1, d, cd_i (hc.trans (by decide)), rfl⟩
      · exact r161_0_1 ⟨I1, J1, d, cd_i (hc.trans (by decide)), rfl⟩
    )
    (call_read hI)
theorem lw_162 {x1 x2 : Int32} (hI : Inv n t st tm fv I J I J) : lwOkL 162 131 [.int x1, .int x2] [.ref 184] t L h z I J :=
  lw_L (q := 77) (es := [3, 0, 1]) (nrS_i (nrS_i nrS_n)) (by decide)
    (fun v I1 J1 d => r162_0_okg ⟨v, I1, J1, d, v01, rfl, by rw [z_c]⟩)
    (fun e I1 J1 c he hc d => by
      simp only [List.mem_cons, List.not_mem_nil, or_false] at he
      rcases he with rfl | rfl | rfl
      · exact r162_0_3 ⟨I1, J1, d, cd_i (hc.trans (by decide)), rfl⟩
      · exact r162_0_0 ⟨I1, J1, d, cd_i (hc.trans (by decide)), rfl⟩
      · exact r162_0_1 ⟨I1, J1, d, cd_i (hc.trans (by decide)), rfl⟩
    )
    (call_event hI)
theorem lw_163 {x1 x2 x3 x4 : Int32} (hI : Inv n t st tm fv I J I J) : lwOk 163 133 [.int x1, .int x2, .int x3, .int x4] [.ref 184] t L h z I J :=
  lw_I (q := 78) (es := [0, 1, 2]) rt78 (by decide) rt133 (by decide) (nrS_i (nrS_i (nrS_i (nrS_i nrS_n)))) (by decide)
    (fun v I1 J1 d => r163_0_ok ⟨v, I1, J1, d, v01, rfl, by rw [z_c]⟩)
    (fun e I1 J1 c he hc d => by
      simp only [List.mem_cons, List.not_mem_nil, or_false] at he
      rcases he with rfl | rfl | rfl
      · exact r163_0_0 ⟨I1, J1, d, cd_i (hc.trans (by decide)), rfl⟩
      · exact r163_0_1 ⟨I1, J1, d, cd_i (hc.trans (by decide)), rfl⟩
      · exact r163_0_2 ⟨I1, J1, d, cd_i (hc.trans (by decide)), rfl⟩
    )
    (call_group hI)
theorem lw_164 {x1 : Int32} (hI : Inv n t st tm fv I J I J) : lwOk 164 136 [.int x1] [.ref 184] t L h z I J :=
  lw_I (q := 79) (es := [3, 1]) rt79 (by decide) rt136 (by decide) (nrS_i nrS_n) (by decide)
    (fun v I1 J1 d => r164_0_ok ⟨v, I1, J1, d, v01, rfl, by rw [z_c]⟩)
    (fun e I1 J1 c he hc d => by
      simp only [List.mem_cons, List.not_mem_nil, or_false] at he
      rcases he with rfl | rfl
      · exact r164_0_3 ⟨I1, J1, d, cd_i (hc.trans (by decide)), rfl⟩
      · exact r164_0_1 ⟨I1, J1, d, cd_i (hc.trans (by decide)), rfl⟩
    )
    (call_take hI)
theorem lw_165 {x1 x2 : Int32} (hI : Inv n t st tm fv I J I J) : lwOk 165 138 [.int x1, .int x2] [.ref 184] t L h z I J :=
  lw_I (q := 80) (es := [3, 1, 2]) rt80 (by decide) rt138 (by decide) (nrS_i (nrS_i nrS_n)) (by decide)
    (fun v I1 J1 d => r165_0_ok ⟨v, I1, J1, d, v01, rfl, by rw [z_c]⟩)
    (fun e I1 J1 c he hc d => by
      simp only [List.mem_cons, List.not_mem_nil, or_false] at he
      rcases he with rfl | rfl | rfl
      · exact r165_0_3 ⟨I1, J1, d, cd_i (hc.trans (by decide)), rfl⟩
      · exact r165_0_1 ⟨I1, J1, d, cd_i (hc.trans (by decide)), rfl⟩
      · exact r165_0_2 ⟨I1, J1, d, cd_i (hc.trans (by decide)), rfl⟩
    )
    (call_ack hI)
theorem lw_166 {x1 x2 : Int32} (hI : Inv n t st tm fv I J I J) : lwOk 166 139 [.int x1, .int x2] [.ref 184] t L h z I J :=
  lw_I (q := 81) (es := [3, 1, 2]) rt81 (by decide) rt139 (by decide) (nrS_i (nrS_i nrS_n)) (by decide)
    (fun v I1 J1 d => r166_0_ok ⟨v, I1, J1, d, v01, rfl, by rw [z_c]⟩)
    (fun e I1 J1 c he hc d => by
      simp only [List.mem_cons, List.not_mem_nil, or_false] at he
      rcases he with rfl | rfl | rfl
      · exact r166_0_3 ⟨I1, J1, d, cd_i (hc.trans (by decide)), rfl⟩
      · exact r166_0_1 ⟨I1, J1, d, cd_i (hc.trans (by decide)), rfl⟩
      · exact r166_0_2 ⟨I1, J1, d, cd_i (hc.trans (by decide)), rfl⟩
    )
    (call_refuse hI)
theorem lw_167 {x1 x2 : Int32} (hI : Inv n t st tm fv I J I J) : lwOk 167 140 [.int x1, .int x2] [.ref 184] t L h z I J :=
  lw_I (q := 82) (es := [0, 1]) rt82 (by decide) rt140 (by decide) (nrS_i (nrS_i nrS_n)) (by decide)
    (fun v I1 J1 d => r167_0_ok ⟨v, I1, J1, d, v01, rfl, by rw [z_c]⟩)
    (fun e I1 J1 c he hc d => by
      simp only [List.mem_cons, List.not_mem_nil, or_false] at he
      rcases he with rfl | rfl
      · exact r167_0_0 ⟨I1, J1, d, cd_i (hc.trans (by decide)), rfl⟩
      · exact r167_0_1 ⟨I1, J1, d, cd_i (hc.trans (by decide)), rfl⟩
    )
    (call_code hI)
theorem lw_168 {x1 x2 x3 x4 : Int32} (hI : Inv n t st tm fv I J I J) (h4 : bI x4) : lwOk 168 141 [.int x1, .int x2, .int x3, .int x4] [.ref 184] t L h z I J :=
  lw_I (q := 83) (es := [0, 1, 2]) rt83 (by decide) rt141 (by decide) (nrS_i (nrS_i (nrS_i (nrS_i nrS_n)))) (by decide)
    (fun v I1 J1 d => r168_0_ok ⟨v, I1, J1, d, v01, rfl, by rw [z_c]⟩)
    (fun e I1 J1 c he hc d => by
      simp only [List.mem_cons, List.not_mem_nil, or_false] at he
      rcases he with rfl | rfl | rfl
      · exact r168_0_0 ⟨I1, J1, d, cd_i (hc.trans (by decide)), rfl⟩
      · exact r168_0_1 ⟨I1, J1, d, cd_i (hc.trans (by decide)), rfl⟩
      · exact r168_0_2 ⟨I1, J1, d, cd_i (hc.trans (by decide)), rfl⟩
    )
    (call_proj h4 hI)
theorem lw_169 {x1 : Int32} (hI : Inv n t st tm fv I J I J) : lwOk 169 146 [.int x1] [.ref 184] t L h z I J :=
  lw_I (q := 84) (es := [3, 1, 2]) rt84 (by decide) rt146 (by decide) (nrS_i nrS_n) (by decide)
    (fun v I1 J1 d => r169_0_ok ⟨v, I1, J1, d, v01, rfl, by rw [z_c]⟩)
    (fun e I1 J1 c he hc d => by
      simp only [List.mem_cons, List.not_mem_nil, or_false] at he
      rcases he with rfl | rfl | rfl
      · exact r169_0_3 ⟨I1, J1, d, cd_i (hc.trans (by decide)), rfl⟩
      · exact r169_0_1 ⟨I1, J1, d, cd_i (hc.trans (by decide)), rfl⟩
      · exact r169_0_2 ⟨I1, J1, d, cd_i (hc.trans (by decide)), rfl⟩
    )
    (call_step hI)
theorem lw_170 {x1 x2 x3 : Int32} (hI : Inv n t st tm fv I J I J) : lwOkL 170 147 [.int x1, .int x2, .int x3] [.ref 184] t L h z I J :=
  lw_L (q := 85) (es := [3, 0, 1]) (nrS_i (nrS_i (nrS_i nrS_n))) (by decide)
    (fun v I1 J1 d => r170_0_okg ⟨v, I1, J1, d, v01, rfl, by rw [z_c]⟩)
    (fun e I1 J1 c he hc d => by
      simp only [List.mem_cons, List.not_mem_nil, or_false] at he
      rcases he with rfl | rfl | rfl
      · exact r170_0_3 ⟨I1, J1, d, cd_i (hc.trans (by decide)), rfl⟩
      · exact r170_0_0 ⟨I1, J1, d, cd_i (hc.trans (by decide)), rfl⟩
      · exact r170_0_1 ⟨I1, J1, d, cd_i (hc.trans (by decide)), rfl⟩
    )
    (call_var hI)
theorem lw_171 (hI : Inv n t st tm fv I J I J) : lwOk 171 148 [] [.ref 184] t L h z I J :=
  lw_I (q := 86) (es := [1, 2]) rt86 (by decide) rt148 (by decide) nrS_n (by decide)
    (fun v I1 J1 d => r171_0_ok ⟨v, I1, J1, d, v01, rfl, by rw [z_c]⟩)
    (fun e I1 J1 c he hc d => by
      simp only [List.mem_cons, List.not_mem_nil, or_false] at he
      rcases he with rfl | rfl
      · exact r171_0_1 ⟨I1, J1, d, cd_i (hc.trans (by decide)), rfl⟩
      · exact r171_0_2 ⟨I1, J1, d, cd_i (hc.trans (by decide)), rfl⟩
    )
    (call_scav hI)
theorem lw_173 {x1 : Int32} (hI : Inv n t st tm fv I J I J) : lwOk 173 152 [.int x1] [.ref 184] t L h z I J :=
  lw_I (q := 89) (es := [0]) rt89 (by decide) rt152 (by decide) (nrS_i nrS_n) (by decide)
    (fun v I1 J1 d => r173_0_okg ⟨v, I1, J1, d, v01, rfl, by rw [z_c]⟩)
    (fun e I1 J1 c he hc d => by
      simp only [List.mem_cons, List.not_mem_nil, or_false] at he
      subst he
      · exact r173_0_0 ⟨I1, J1, d, cd_i (hc.trans (by decide)), rfl⟩
    )
    (call_told hI)
theorem lw_172 {x1 : Int32} (hI : Inv n t st tm fv I J I J) : ∃ c I1 J1 h1 z1 I2 J2, Den 172 [.ref 1, .int x1] (mS L I J h z) (.inl (some (.int c))) (mS L I1 J1 h1 z1) ∧ I1 0 = I 0 ∧
    Den 149 [.ref 145, .int x1] (mS L I1 J1 h1 z1) (.inl none) (mS L I2 J2 h1 z1) ∧ I2 145 0 = c ∧ nx t h z I I2 J2 h1 z1 := by
  obtain ⟨o, I1, J1, h1, z1, d1, hz, he, rv, I2, J2, d2, e0, et, ev, n', t', st', tm', fv', ht, hinv⟩ := call_power (L := L) (h := h) (z := z) (k := x1) hI
  have k1 := Run.kd d1 m_pos
  have k2 := Run.kd d2 m_pos
  have hrv := (k2.2 rv rfl).1 rt149
  subst hrv
  cases o with
  | inl v =>
    have hv := (k1.2 v rfl).1 rt87
    subst hv
    obtain ⟨rfl, rfl⟩ := hz
    exact ⟨0, I1, J1, h1, z1, I2, J2, r172_0_ok ⟨I1, J1, d1, rfl, rfl⟩, funext k1.1, d2, et, e0, Or.inl ⟨rfl, rfl⟩, n', t', st', tm', fv', ht, hinv⟩
  | inr e =>
    obtain ⟨rfl, rfl⟩ := hz
    have := he e rfl
    simp only [List.mem_cons, List.not_mem_nil, or_false] at this
    subst this
    exact ⟨1, I1, J1, h + 1, z + 6, I2, J2, r172_0_0 ⟨I1, J1, d1, rfl, rfl⟩, funext k1.1, d2, et, e0, Or.inr ⟨rfl, rfl⟩, n', t', st', tm', fv', ht, hinv⟩
abbrev ll (i : Nat) : eLs := [(0, .ref 0), (1, .ref 1), (2, .ref 145), (3, .ref 184), (4, .int (nI i))]
/-- a round of the loop from an instruction on: a store after it from which the rest goes on -/
def LC (pc t L h z i : Nat) (I : rI) (J : rJ) : Prop :=
  ∃ I2 J2 h2 z2, nx t h z I I2 J2 h2 z2 ∧ ∀ o σo, Run 174 1448 (ll i) [] (mS L I2 J2 h2 z2) o σo → Run 174 pc (ll i) [] (mS L I J h z) o σo
theorem lc_132 {i : Nat} (hI : Inv n t st tm fv I J I J) (hL : L ≤ 320) (hi : i + 5 ≤ L) : LC 132 t L h z i I J := by
  obtain ⟨c, I1, J1, h1, z1, rv, I2, J2, dh, e1, dm, et, ec, hn⟩ := lw_156 (L := L) (h := h) (z := z) (x1 := (I 0 (nI i + (1 : Int32)).toNatClampNeg)) (x2 := (I 0 (nI i + (2 : Int32)).toNatClampNeg)) (y3 := ((I 0 (nI i + (3 : Int32)).toNatClampNeg).toInt64 <<< ((32 : Int32).toInt64 &&& 63)) ||| ((I 0 (nI i + (4 : Int32)).toNatClampNeg).toInt64 &&& (4294967295 : Int64))) hI
  exact ⟨I2, J2, h1, z1, hn, fun o σo R => r174_132 ⟨lp_in hL 1 hi (by omega), lp_in hL 2 hi (by omega), lp_in hL 3 hi (by omega), lp_in hL 4 hi (by omega), c, I1, J1, h1, z1, dh, rv, I2, J2, by first | exact dm | (rw [e1]; exact dm), c, r113_0 ⟨by rw [et], rfl⟩, lw_t ec R⟩⟩
theorem lc_244 {i : Nat} (hI : Inv n t st tm fv I J I J) (hL : L ≤ 320) (hi : i + 5 ≤ L) : LC 244 t L h z i I J := by
  obtain ⟨c, I1, J1, h1, z1, rv, I2, J2, dh, e1, dm, et, ec, hn⟩ := lw_157 (L := L) (h := h) (z := z) (x1 := (I 0 (nI i + (1 : Int32)).toNatClampNeg)) (x2 := (I 0 (nI i + (2 : Int32)).toNatClampNeg)) hI
  exact ⟨I2, J2, h1, z1, hn, fun o σo R => r174_244 ⟨lp_in hL 1 hi (by omega), lp_in hL 2 hi (by omega), c, I1, J1, h1, z1, dh, rv, I2, J2, by first | exact dm | (rw [e1]; exact dm), c, r113_0 ⟨by rw [et], rfl⟩, lw_t ec R⟩⟩
theorem lc_312 {i : Nat} (hI : Inv n t st tm fv I J I J) (hL : L ≤ 320) (hi : i + 5 ≤ L) : LC 312 t L h z i I J := by
  obtain ⟨c, I1, J1, h1, z1, rv, I2, J2, dh, e1, dm, et, ec, hn⟩ := lw_158 (L := L) (h := h) (z := z) (x1 := (I 0 (nI i + (1 : Int32)).toNatClampNeg)) (x2 := (I 0 (nI i + (2 : Int32)).toNatClampNeg)) (x3 := (I 0 (nI i + (3 : Int32)).toNatClampNeg)) (x4 := (I 0 (nI i + (4 : Int32)).toNatClampNeg)) hI
  exact ⟨I2, J2, h1, z1, hn, fun o σo R => r174_312 ⟨lp_in hL 1 hi (by omega), lp_in hL 2 hi (by omega), lp_in hL 3 hi (by omega), lp_in hL 4 hi (by omega), c, I1, J1, h1, z1, dh, rv, I2, J2, by first | exact dm | (rw [e1]; exact dm), c, r113_0 ⟨by rw [et], rfl⟩, lw_t ec R⟩⟩
theorem lc_404 {i : Nat} (hI : Inv n t st tm fv I J I J) (hL : L ≤ 320) (hi : i + 5 ≤ L) : LC 404 t L h z i I J := by
  obtain ⟨c, I1, J1, h1, z1, rv, I2, J2, dh, e1, dm, et, ec, hn⟩ := lw_159 (L := L) (h := h) (z := z) (x1 := (I 0 (nI i + (1 : Int32)).toNatClampNeg)) hI
  exact ⟨I2, J2, h1, z1, hn, fun o σo R => r174_404 ⟨lp_in hL 1 hi (by omega), c, I1, J1, h1, z1, dh, rv, I2, J2, by first | exact dm | (rw [e1]; exact dm), c, r113_0 ⟨by rw [et], rfl⟩, lw_t ec R⟩⟩
theorem lc_460 {i : Nat} (hI : Inv n t st tm fv I J I J) (hL : L ≤ 320) (hi : i + 5 ≤ L) (ht : t + 1000 ≤ 1000000) : LC 460 t L h z i I J := by
  obtain ⟨c, I1, J1, h1, z1, rv, I2, J2, dh, e1, dm, et, ec, hn⟩ := lw_160 (L := L) (h := h) (z := z) (x1 := (I 0 (nI i + (1 : Int32)).toNatClampNeg)) hI ht
  exact ⟨I2, J2, h1, z1, hn, fun o σo R => r174_460 ⟨lp_in hL 1 hi (by omega), c, I1, J1, h1, z1, dh, rv, I2, J2, by first | exact dm | (rw [e1]; exact dm), c, r113_0 ⟨by rw [et], rfl⟩, lw_t ec R⟩⟩
theorem lc_516 {i : Nat} (hI : Inv n t st tm fv I J I J) (hL : L ≤ 320) (hi : i + 5 ≤ L) : LC 516 t L h z i I J := by
  by_cases c4 : I 0 (nI i + (4 : Int32)).toNatClampNeg = 0
  · obtain ⟨c, I1, J1, h1, z1, rv, I2, J2, dh, e1, dm, et, ec, hn⟩ := lw_161 (L := L) (h := h) (z := z) (x1 := (I 0 (nI i + (1 : Int32)).toNatClampNeg)) (x2 := (I 0 (nI i + (2 : Int32)).toNatClampNeg)) (x3 := (I 0 (nI i + (3 : Int32)).toNatClampNeg)) (x4 := (0 : Int32)) hI
    refine ⟨I2, J2, h1, z1, hn, fun o σo R => ?_⟩
    have key := r174_549 (o := o) (σo := σo) (x4 := nI i) (xs0 := (0 : Int32)) (xs1 := (I 0 (nI i + (3 : Int32)).toNatClampNeg)) (xs2 := (I 0 (nI i + (2 : Int32)).toNatClampNeg)) (xs3 := (I 0 (nI i + (1 : Int32)).toNatClampNeg)) (L := L) (h := h) (z := z) (I := I) (J := J) ⟨c, I1, J1, h1, z1, dh, lp_in hL 1 hi (by omega), lp_in hL 2 hi (by omega), lp_in hL 3 hi (by omega), lp_in hL 4 hi (by omega), (fun _ => r174_588 ⟨rv, I2, J2, by rw [e1]; exact dm, c, r113_0 ⟨by rw [et], rfl⟩, lw_t ec R⟩), (fun q => absurd c4 (by rw [e1] at q; exact q))⟩
    exact r174_516 ⟨lp_in hL 1 hi (by omega), lp_in hL 2 hi (by omega), lp_in hL 3 hi (by omega), lp_in hL 4 hi (by omega), (fun _ => key), (fun q => absurd c4 q)⟩
  · obtain ⟨c, I1, J1, h1, z1, rv, I2, J2, dh, e1, dm, et, ec, hn⟩ := lw_161 (L := L) (h := h) (z := z) (x1 := (I 0 (nI i + (1 : Int32)).toNatClampNeg)) (x2 := (I 0 (nI i + (2 : Int32)).toNatClampNeg)) (x3 := (I 0 (nI i + (3 : Int32)).toNatClampNeg)) (x4 := (1 : Int32)) hI
    refine ⟨I2, J2, h1, z1, hn, fun o σo R => ?_⟩
    have key := r174_549 (o := o) (σo := σo) (x4 := nI i) (xs0 := (1 : Int32)) (xs1 := (I 0 (nI i + (3 : Int32)).toNatClampNeg)) (xs2 := (I 0 (nI i + (2 : Int32)).toNatClampNeg)) (xs3 := (I 0 (nI i + (1 : Int32)).toNatClampNeg)) (L := L) (h := h) (z := z) (I := I) (J := J) ⟨c, I1, J1, h1, z1, dh, lp_in hL 1 hi (by omega), lp_in hL 2 hi (by omega), lp_in hL 3 hi (by omega), lp_in hL 4 hi (by omega), (fun q => absurd (by rw [e1] at q; exact q) c4), (fun _ => r174_588 ⟨rv, I2, J2, by rw [e1]; exact dm, c, r113_0 ⟨by rw [et], rfl⟩, lw_t ec R⟩)⟩
    exact r174_516 ⟨lp_in hL 1 hi (by omega), lp_in hL 2 hi (by omega), lp_in hL 3 hi (by omega), lp_in hL 4 hi (by omega), (fun q => absurd q c4), (fun _ => key)⟩
theorem lc_624 {i : Nat} (hI : Inv n t st tm fv I J I J) (hL : L ≤ 320) (hi : i + 5 ≤ L) : LC 624 t L h z i I J := by
  obtain ⟨c, I1, J1, h1, z1, rv, I2, J2, dh, e1, dm, et, ec, hn⟩ := lw_162 (L := L) (h := h) (z := z) (x1 := (I 0 (nI i + (1 : Int32)).toNatClampNeg)) (x2 := (I 0 (nI i + (2 : Int32)).toNatClampNeg)) hI
  exact ⟨I2, J2, h1, z1, hn, fun o σo R => r174_624 ⟨lp_in hL 1 hi (by omega), lp_in hL 2 hi (by omega), c, I1, J1, h1, z1, dh, rv, I2, J2, by first | exact dm | (rw [e1]; exact dm), c, r113_0 ⟨by rw [et], rfl⟩, lw_t ec R⟩⟩
theorem lc_691 {i : Nat} (hI : Inv n t st tm fv I J I J) (hL : L ≤ 320) (hi : i + 5 ≤ L) : LC 691 t L h z i I J := by
  obtain ⟨c, I1, J1, h1, z1, rv, I2, J2, dh, e1, dm, et, ec, hn⟩ := lw_163 (L := L) (h := h) (z := z) (x1 := (I 0 (nI i + (1 : Int32)).toNatClampNeg)) (x2 := (I 0 (nI i + (2 : Int32)).toNatClampNeg)) (x3 := (I 0 (nI i + (3 : Int32)).toNatClampNeg)) (x4 := (I 0 (nI i + (4 : Int32)).toNatClampNeg)) hI
  exact ⟨I2, J2, h1, z1, hn, fun o σo R => r174_691 ⟨lp_in hL 1 hi (by omega), lp_in hL 2 hi (by omega), lp_in hL 3 hi (by omega), lp_in hL 4 hi (by omega), c, I1, J1, h1, z1, dh, rv, I2, J2, by first | exact dm | (rw [e1]; exact dm), c, r113_0 ⟨by rw [et], rfl⟩, lw_t ec R⟩⟩
theorem lc_783 {i : Nat} (hI : Inv n t st tm fv I J I J) (hL : L ≤ 320) (hi : i + 5 ≤ L) : LC 783 t L h z i I J := by
  obtain ⟨c, I1, J1, h1, z1, rv, I2, J2, dh, e1, dm, et, ec, hn⟩ := lw_164 (L := L) (h := h) (z := z) (x1 := (I 0 (nI i + (1 : Int32)).toNatClampNeg)) hI
  exact ⟨I2, J2, h1, z1, hn, fun o σo R => r174_783 ⟨lp_in hL 1 hi (by omega), c, I1, J1, h1, z1, dh, rv, I2, J2, by first | exact dm | (rw [e1]; exact dm), c, r113_0 ⟨by rw [et], rfl⟩, lw_t ec R⟩⟩
theorem lc_839 {i : Nat} (hI : Inv n t st tm fv I J I J) (hL : L ≤ 320) (hi : i + 5 ≤ L) : LC 839 t L h z i I J := by
  obtain ⟨c, I1, J1, h1, z1, rv, I2, J2, dh, e1, dm, et, ec, hn⟩ := lw_165 (L := L) (h := h) (z := z) (x1 := (I 0 (nI i + (1 : Int32)).toNatClampNeg)) (x2 := (I 0 (nI i + (2 : Int32)).toNatClampNeg)) hI
  exact ⟨I2, J2, h1, z1, hn, fun o σo R => r174_839 ⟨lp_in hL 1 hi (by omega), lp_in hL 2 hi (by omega), c, I1, J1, h1, z1, dh, rv, I2, J2, by first | exact dm | (rw [e1]; exact dm), c, r113_0 ⟨by rw [et], rfl⟩, lw_t ec R⟩⟩
theorem lc_907 {i : Nat} (hI : Inv n t st tm fv I J I J) (hL : L ≤ 320) (hi : i + 5 ≤ L) : LC 907 t L h z i I J := by
  obtain ⟨c, I1, J1, h1, z1, rv, I2, J2, dh, e1, dm, et, ec, hn⟩ := lw_166 (L := L) (h := h) (z := z) (x1 := (I 0 (nI i + (1 : Int32)).toNatClampNeg)) (x2 := (I 0 (nI i + (2 : Int32)).toNatClampNeg)) hI
  exact ⟨I2, J2, h1, z1, hn, fun o σo R => r174_907 ⟨lp_in hL 1 hi (by omega), lp_in hL 2 hi (by omega), c, I1, J1, h1, z1, dh, rv, I2, J2, by first | exact dm | (rw [e1]; exact dm), c, r113_0 ⟨by rw [et], rfl⟩, lw_t ec R⟩⟩
theorem lc_975 {i : Nat} (hI : Inv n t st tm fv I J I J) (hL : L ≤ 320) (hi : i + 5 ≤ L) : LC 975 t L h z i I J := by
  obtain ⟨c, I1, J1, h1, z1, rv, I2, J2, dh, e1, dm, et, ec, hn⟩ := lw_167 (L := L) (h := h) (z := z) (x1 := (I 0 (nI i + (1 : Int32)).toNatClampNeg)) (x2 := (I 0 (nI i + (2 : Int32)).toNatClampNeg)) hI
  exact ⟨I2, J2, h1, z1, hn, fun o σo R => r174_975 ⟨lp_in hL 1 hi (by omega), lp_in hL 2 hi (by omega), c, I1, J1, h1, z1, dh, rv, I2, J2, by first | exact dm | (rw [e1]; exact dm), c, r113_0 ⟨by rw [et], rfl⟩, lw_t ec R⟩⟩
theorem lc_1043 {i : Nat} (hI : Inv n t st tm fv I J I J) (hL : L ≤ 320) (hi : i + 5 ≤ L) : LC 1043 t L h z i I J := by
  by_cases c4 : I 0 (nI i + (4 : Int32)).toNatClampNeg = 0
  · obtain ⟨c, I1, J1, h1, z1, rv, I2, J2, dh, e1, dm, et, ec, hn⟩ := lw_168 (L := L) (h := h) (z := z) (x1 := (I 0 (nI i + (1 : Int32)).toNatClampNeg)) (x2 := (I 0 (nI i + (2 : Int32)).toNatClampNeg)) (x3 := (I 0 (nI i + (3 : Int32)).toNatClampNeg)) (x4 := (0 : Int32)) hI (Or.inl rfl)
    refine ⟨I2, J2, h1, z1, hn, fun o σo R => ?_⟩
    have key := r174_1076 (o := o) (σo := σo) (x4 := nI i) (xs0 := (0 : Int32)) (xs1 := (I 0 (nI i + (3 : Int32)).toNatClampNeg)) (xs2 := (I 0 (nI i + (2 : Int32)).toNatClampNeg)) (xs3 := (I 0 (nI i + (1 : Int32)).toNatClampNeg)) (L := L) (h := h) (z := z) (I := I) (J := J) ⟨c, I1, J1, h1, z1, dh, lp_in hL 1 hi (by omega), lp_in hL 2 hi (by omega), lp_in hL 3 hi (by omega), lp_in hL 4 hi (by omega), (fun _ => r174_1115 ⟨rv, I2, J2, by rw [e1]; exact dm, c, r113_0 ⟨by rw [et], rfl⟩, lw_t ec R⟩), (fun q => absurd c4 (by rw [e1] at q; exact q))⟩
    exact r174_1043 ⟨lp_in hL 1 hi (by omega), lp_in hL 2 hi (by omega), lp_in hL 3 hi (by omega), lp_in hL 4 hi (by omega), (fun _ => key), (fun q => absurd c4 q)⟩
  · obtain ⟨c, I1, J1, h1, z1, rv, I2, J2, dh, e1, dm, et, ec, hn⟩ := lw_168 (L := L) (h := h) (z := z) (x1 := (I 0 (nI i + (1 : Int32)).toNatClampNeg)) (x2 := (I 0 (nI i + (2 : Int32)).toNatClampNeg)) (x3 := (I 0 (nI i + (3 : Int32)).toNatClampNeg)) (x4 := (1 : Int32)) hI (Or.inr rfl)
    refine ⟨I2, J2, h1, z1, hn, fun o σo R => ?_⟩
    have key := r174_1076 (o := o) (σo := σo) (x4 := nI i) (xs0 := (1 : Int32)) (xs1 := (I 0 (nI i + (3 : Int32)).toNatClampNeg)) (xs2 := (I 0 (nI i + (2 : Int32)).toNatClampNeg)) (xs3 := (I 0 (nI i + (1 : Int32)).toNatClampNeg)) (L := L) (h := h) (z := z) (I := I) (J := J) ⟨c, I1, J1, h1, z1, dh, lp_in hL 1 hi (by omega), lp_in hL 2 hi (by omega), lp_in hL 3 hi (by omega), lp_in hL 4 hi (by omega), (fun q => absurd (by rw [e1] at q; exact q) c4), (fun _ => r174_1115 ⟨rv, I2, J2, by rw [e1]; exact dm, c, r113_0 ⟨by rw [et], rfl⟩, lw_t ec R⟩)⟩
    exact r174_1043 ⟨lp_in hL 1 hi (by omega), lp_in hL 2 hi (by omega), lp_in hL 3 hi (by omega), lp_in hL 4 hi (by omega), (fun q => absurd q c4), (fun _ => key)⟩
theorem lc_1151 {i : Nat} (hI : Inv n t st tm fv I J I J) (hL : L ≤ 320) (hi : i + 5 ≤ L) : LC 1151 t L h z i I J := by
  obtain ⟨c, I1, J1, h1, z1, rv, I2, J2, dh, e1, dm, et, ec, hn⟩ := lw_169 (L := L) (h := h) (z := z) (x1 := (I 0 (nI i + (1 : Int32)).toNatClampNeg)) hI
  exact ⟨I2, J2, h1, z1, hn, fun o σo R => r174_1151 ⟨lp_in hL 1 hi (by omega), c, I1, J1, h1, z1, dh, rv, I2, J2, by first | exact dm | (rw [e1]; exact dm), c, r113_0 ⟨by rw [et], rfl⟩, lw_t ec R⟩⟩
theorem lc_1207 {i : Nat} (hI : Inv n t st tm fv I J I J) (hL : L ≤ 320) (hi : i + 5 ≤ L) : LC 1207 t L h z i I J := by
  obtain ⟨c, I1, J1, h1, z1, rv, I2, J2, dh, e1, dm, et, ec, hn⟩ := lw_170 (L := L) (h := h) (z := z) (x1 := (I 0 (nI i + (1 : Int32)).toNatClampNeg)) (x2 := (I 0 (nI i + (2 : Int32)).toNatClampNeg)) (x3 := (I 0 (nI i + (3 : Int32)).toNatClampNeg)) hI
  exact ⟨I2, J2, h1, z1, hn, fun o σo R => r174_1207 ⟨lp_in hL 1 hi (by omega), lp_in hL 2 hi (by omega), lp_in hL 3 hi (by omega), c, I1, J1, h1, z1, dh, rv, I2, J2, by first | exact dm | (rw [e1]; exact dm), c, r113_0 ⟨by rw [et], rfl⟩, lw_t ec R⟩⟩
theorem lc_1286 {i : Nat} (hI : Inv n t st tm fv I J I J) (hL : L ≤ 320) (hi : i + 5 ≤ L) : LC 1286 t L h z i I J := by
  obtain ⟨c, I1, J1, h1, z1, rv, I2, J2, dh, e1, dm, et, ec, hn⟩ := lw_171 (L := L) (h := h) (z := z)  hI
  exact ⟨I2, J2, h1, z1, hn, fun o σo R => r174_1286 ⟨c, I1, J1, h1, z1, dh, rv, I2, J2, by first | exact dm | (rw [e1]; exact dm), c, r113_0 ⟨by rw [et], rfl⟩, lw_t ec R⟩⟩
theorem lc_1379 {i : Nat} (hI : Inv n t st tm fv I J I J) (hL : L ≤ 320) (hi : i + 5 ≤ L) : LC 1379 t L h z i I J := by
  obtain ⟨c, I1, J1, h1, z1, rv, I2, J2, dh, e1, dm, et, ec, hn⟩ := lw_173 (L := L) (h := h) (z := z) (x1 := (I 0 (nI i + (1 : Int32)).toNatClampNeg)) hI
  exact ⟨I2, J2, h1, z1, hn, fun o σo R => r174_1379 ⟨lp_in hL 1 hi (by omega), c, I1, J1, h1, z1, dh, rv, I2, J2, by first | exact dm | (rw [e1]; exact dm), c, r113_0 ⟨by rw [et], rfl⟩, lw_t ec R⟩⟩
theorem lc_1330 {i : Nat} (hI : Inv n t st tm fv I J I J) (hL : L ≤ 320) (hi : i + 5 ≤ L) : LC 1330 t L h z i I J := by
  obtain ⟨c, I1, J1, h1, z1, I2, J2, dh, e1, dm, et, hn⟩ := lw_172 (L := L) (h := h) (z := z) (x1 := (I 0 (nI i + (1 : Int32)).toNatClampNeg)) hI
  exact ⟨I2, J2, h1, z1, hn, fun o σo R => r174_1330 ⟨lp_in hL 1 hi (by omega), c, I1, J1, h1, z1, dh, I2, J2, by rw [e1]; exact dm, c, r113_0 ⟨by rw [et], rfl⟩, fun _ => R, fun k => absurd rfl k⟩⟩
theorem lc_1366 {i : Nat} (hI : Inv n t st tm fv I J I J) : LC 1366 t L h z i I J := by
  obtain ⟨o, I1, J1, h1, z1, d1, hz, he, rv, I2, J2, d2, e0, et, ev, n', t', st', tm', fv', ht, hinv⟩ := call_reopen (L := L) (h := h) (z := z) hI
  have k1 := Run.kd d1 m_pos
  cases o with
  | inr e => exact absurd (he e rfl) (by simp)
  | inl v =>
    obtain ⟨x, rfl⟩ := (k1.2 v rfl).2 _ rt88 (by decide)
    have := ev _ rfl
    subst this
    obtain ⟨rfl, rfl⟩ := hz
    exact ⟨I2, J2, h1, z1, ⟨e0, Or.inl ⟨rfl, rfl⟩, n', t', st', tm', fv', ht, hinv⟩, fun o σo R => r174_1366 ⟨x, I1, J1, d1, x, I2, J2, d2, fun _ => R, fun k => absurd rfl k⟩⟩
theorem lc_1435 {i : Nat} (hI : Inv n t st tm fv I J I J) : LC 1435 t L h z i I J := by
  refine ⟨_, _, h, z, ⟨u2_ne (by omega), Or.inl ⟨rfl, rfl⟩, n, t, st, tm, fv, by omega, Inv_mix (Inv_t0 hI (Or.inl rfl)) (fun b q1 q2 => ⟨u2_ne (by omega), rfl⟩)⟩, fun o σo R => r174_1435 ⟨_, r90_0 ⟨rfl, rfl⟩, _, _, _, r153_0 ⟨rfl, rfl⟩, fun _ => R, fun k => absurd rfl k⟩⟩
theorem lc_23 {i : Nat} (hI : Inv n t st tm fv I J I J) (hL : L ≤ 320) (hi : i + 5 ≤ L) (ht : t + 1000 ≤ 1000000) : LC 23 t L h z i I J := by
  obtain ⟨k, hk, e⟩ := and_31 (I 0 (nI i).toNatClampNeg)
  have go : ∀ (pc : Nat) (off : Int), swT 1409 0 19 #[93, 205, 273, 365, 421, 477, 585, 652, 744, 800, 868, 936, 1004, 1112, 1168, 1247, 1291, 1327, 1340, 1396] (nI k) = some off → 0 ≤ (39 : Int) + off → jmp 39 off = pc → LC pc t L h z i I J → LC 23 t L h z i I J := by
    intro pc off h1 h2 h3 ⟨I2, J2, hh2, z2, hn, H⟩
    subst h3
    refine ⟨I2, J2, hh2, z2, hn, fun o σo R => r174_23 ⟨fun c => absurd ((lp_end hL (by omega)).mp c) (by omega), fun _ => ⟨lp_in0 hL hi, off, by rw [e]; exact h1, h2, H o σo R⟩⟩⟩
  by_cases hk2 : k < 20
  · obtain rfl | rfl | rfl | rfl | rfl | rfl | rfl | rfl | rfl | rfl | rfl | rfl | rfl | rfl | rfl | rfl | rfl | rfl | rfl | rfl : k = 0 ∨ k = 1 ∨ k = 2 ∨ k = 3 ∨ k = 4 ∨ k = 5 ∨ k = 6 ∨ k = 7 ∨ k = 8 ∨ k = 9 ∨ k = 10 ∨ k = 11 ∨ k = 12 ∨ k = 13 ∨ k = 14 ∨ k = 15 ∨ k = 16 ∨ k = 17 ∨ k = 18 ∨ k = 19 := by omega
    · exact go 132 93 (by decide) (by omega) (by decide) (lc_132 hI hL hi)
    · exact go 244 205 (by decide) (by omega) (by decide) (lc_244 hI hL hi)
    · exact go 312 273 (by decide) (by omega) (by decide) (lc_312 hI hL hi)
    · exact go 404 365 (by decide) (by omega) (by decide) (lc_404 hI hL hi)
    · exact go 460 421 (by decide) (by omega) (by decide) (lc_460 hI hL hi ht)
    · exact go 516 477 (by decide) (by omega) (by decide) (lc_516 hI hL hi)
    · exact go 624 585 (by decide) (by omega) (by decide) (lc_624 hI hL hi)
    · exact go 691 652 (by decide) (by omega) (by decide) (lc_691 hI hL hi)
    · exact go 783 744 (by decide) (by omega) (by decide) (lc_783 hI hL hi)
    · exact go 839 800 (by decide) (by omega) (by decide) (lc_839 hI hL hi)
    · exact go 907 868 (by decide) (by omega) (by decide) (lc_907 hI hL hi)
    · exact go 975 936 (by decide) (by omega) (by decide) (lc_975 hI hL hi)
    · exact go 1043 1004 (by decide) (by omega) (by decide) (lc_1043 hI hL hi)
    · exact go 1151 1112 (by decide) (by omega) (by decide) (lc_1151 hI hL hi)
    · exact go 1207 1168 (by decide) (by omega) (by decide) (lc_1207 hI hL hi)
    · exact go 1286 1247 (by decide) (by omega) (by decide) (lc_1286 hI hL hi)
    · exact go 1330 1291 (by decide) (by omega) (by decide) (lc_1330 hI hL hi)
    · exact go 1366 1327 (by decide) (by omega) (by decide) (lc_1366 hI)
    · exact go 1379 1340 (by decide) (by omega) (by decide) (lc_1379 hI hL hi)
    · exact go 1435 1396 (by decide) (by omega) (by decide) (lc_1435 hI)
  · refine go 1448 1409 (swT_out (k := 19) (by omega) (by rw [rg_w (by omega) (by omega), decide_eq_false (by omega)])) (by omega) (by decide) ⟨I, J, h, z, ⟨rfl, Or.inl ⟨rfl, rfl⟩, n, t, st, tm, fv, by omega, hI⟩, fun o σo R => R⟩
end
theorem lp_all {L : Nat} (hL : L ≤ 320) : ∀ (m i n t h z : Nat) (st tm fv : Nat → Nat) (I : rI) (J : rJ), L < i + 5 + 5 * m → i + 5 * m ≤ 320 → t + 1000 * m ≤ 1000000 → Inv n t st tm fv I J I J →
    ∃ I' J' h' z', h' ≤ h + m ∧ z' ≤ z + 6 * m ∧ Run 174 23 (ll i) [] (mS L I J h z) (.inl (some (.int 1))) (mS L I' J' h' z') := by
  intro m
  induction m with
  | zero => exact fun i n t h z st tm fv I J h1 h2 h3 hI => ⟨I, J, h, z, by omega, by omega, r174_23 ⟨fun _ => ⟨rfl, rfl⟩, fun c => absurd ((lp_end hL (by omega)).mpr (by omega)) c⟩⟩
  | succ m ih =>
    intro i n t h z st tm fv I J h1 h2 h3 hI
    by_cases c : L < i + 5
    · exact ⟨I, J, h, z, by omega, by omega, r174_23 ⟨fun _ => ⟨rfl, rfl⟩, fun k => absurd ((lp_end hL (by omega)).mpr c) k⟩⟩
    · have hq : t + 1000 + 1000 * m ≤ 1000000 := by rw [Nat.mul_succ] at h3; omega
      have hq2 : t + 1000 ≤ 1000000 := Nat.le_trans (Nat.le_add_right _ _) hq
      obtain ⟨I2, J2, hh2, z2, ⟨e0, hz, n', t', st', tm', fv', ht, hinv⟩, H⟩ := lc_23 (h := h) (z := z) hI hL (Nat.not_lt.mp c) hq2
      have hq3 : t' + 1000 * m ≤ 1000000 := Nat.le_trans (Nat.add_le_add_right ht _) hq
      obtain ⟨I', J', h', z', a1, a2, a3⟩ := ih (i + 5) n' t' hh2 z2 st' tm' fv' I2 J2 (by omega) (by omega) hq3 hinv
      refine ⟨I', J', h', z', by omega, by omega, H _ _ (r174_1448 ?_)⟩
      rw [show nI i + 5 = nI (i + 5) from (Int32.ofNat_add i 5).symm]
      exact a3
