/-! Rules of the methods: what each asks, from cut point to cut point (laid by gen_rules.py). -/
-- X0_hasRoom
theorem rt1 : eRt 1 = some .boolean := by decide +kernel
theorem rx1 : ¬ eKd 1 = 3 := by decide +kernel
theorem ry1 : ¬ eKd 1 = 4 := by decide +kernel
abbrev k1_0 : List (Instr × Nat) := [(.iload_n 1, 1), (.iconst 100000, 2), (.aload_n 0, 1), (.getfield 1, 3), (.isub, 1), (.if_icmp .gt 7, 3), (.iconst 1, 1), (.goto 4, 3)]
theorem c1_0 : chk 1 0 k1_0 = true := by decide +kernel
abbrev k1_15 : List (Instr × Nat) := [(.iconst 0, 1), (.ireturn, 1)]
theorem c1_15 : chk 1 15 k1_15 = true := by decide +kernel
abbrev k1_16 : List (Instr × Nat) := [(.ireturn, 1)]
theorem c1_16 : chk 1 16 k1_16 = true := by decide +kernel
theorem r1_0 {o : eO} {σo : eS} {L h z : Nat} {I : Nat → Nat → Int32} {J : Nat → Nat → Int64} {x1 : Int32}  (H : (((100000 : Int32) - (I 2 1)) < x1 → o = .inl (some (.int (0 : Int32))) ∧ σo = (mS L I J h z)) ∧ (¬ ((100000 : Int32) - (I 2 1)) < x1 → o = .inl (some (.int (1 : Int32))) ∧ σo = (mS L I J h z))) : Run 1 0 [(0, .ref 2), (1, .int x1)] [] (mS L I J h z) o σo :=
  Run.blk k1_0 c1_0 (And.intro (oK_isO kO_2) (And.intro (fun c1 => (Run.blk (μ := 1) (pc := 15) k1_15 c1_15 (ret_i rt1 rfl (H.1 c1)))) (fun c1 => (Run.blk (μ := 1) (pc := 16) k1_16 c1_16 (ret_i rt1 rfl (H.2 c1))))))
-- X0_writes
theorem rt2 : eRt 2 = some .boolean := by decide +kernel
theorem gw5 : 2 ≤ eL 5 := by decide +kernel
theorem rk5 : eKd 5 = 0 ∨ eKd 5 = 2 := by decide +kernel
theorem rc5 : eC 5 = 0 := by decide +kernel
theorem rx2 : ¬ eKd 2 = 3 := by decide +kernel
theorem ry2 : ¬ eKd 2 = 4 := by decide +kernel
abbrev k2_0 : List (Instr × Nat) := [(.aload_n 0, 1), (.iload_n 1, 1), (.invokeinterface 5 2, 3), (.istore_n 2, 1), (.iload_n 2, 1), (.ifCond .eq 23, 3), (.aload_n 0, 1), (.dup, 1), (.getfield 1, 3), (.iload_n 1, 1), (.iadd, 1), (.putfield 1, 3), (.aload_n 0, 1), (.dup, 1), (.getfield 2, 3), (.iconst 1, 1), (.iadd, 1), (.putfield 2, 3), (.iload_n 2, 1), (.ireturn, 1)]
theorem c2_0 : chk 2 0 k2_0 = true := by decide +kernel
abbrev k2_30 : List (Instr × Nat) := [(.iload_n 2, 1), (.ireturn, 1)]
theorem c2_30 : chk 2 30 k2_30 = true := by decide +kernel
theorem r2_0 {o : eO} {σo : eS} {L h z : Nat} {I : Nat → Nat → Int32} {J : Nat → Nat → Int64} {x1 : Int32}  (H : (∃ v1 : Int32, ∃ I2 : Nat → Nat → Int32, ∃ J3 : Nat → Nat → Int64, Den 5 [.ref 2, .int x1] (mS L I J h z) (.inl (some (.int v1))) (mS L I2 J3 h z) ∧ (v1 = 0 → narrow .boolean (.int v1) = .int v1 ∧ o = .inl (some (.int v1)) ∧ σo = (mS L I2 J3 h z)) ∧ (¬ v1 = 0 → narrow .boolean (.int v1) = .int v1 ∧ o = .inl (some (.int v1)) ∧ σo = (mS L (u2 (u2 I2 2 1 ((I2 2 1) + x1)) 2 2 ((I2 2 2) + (1 : Int32))) J3 h z)))) : Run 2 0 [(0, .ref 2), (1, .int x1)] [] (mS L I J h z) o σo :=
  Run.blk k2_0 c2_0 (And.intro (Nat.le_of_ble_eq_true rfl) (And.intro gw5 (And.intro (Nat.le_of_ble_eq_true rfl) (And.intro (recv_o (q := 5) rk5 rc5 (oK_isO kO_2)) (Exists.elim H (fun v1 h6 => Exists.elim h6 (fun I2 h7 => Exists.elim h7 (fun J3 h8 => have h5 := h8; (Or.inl (Exists.intro (some (.int v1)) (Exists.intro (mS L I2 J3 h z) (And.intro h5.1 (And.intro (fun c4 => (Run.blk (μ := 2) (pc := 30) k2_30 c2_30 (ret_i rt2 (h5.2.1 c4).1 (h5.2.1 c4).2))) (fun c4 => (And.intro rfl (And.intro (oK_isO kO_2) (And.intro (oK_isO kO_2) (And.intro ⟨rfl, rfl⟩ (And.intro rfl (And.intro (oK_isO kO_2) (And.intro (oK_isO kO_2) (And.intro ⟨rfl, rfl⟩ (ret_i rt2 (h5.2.2 c4).1 (h5.2.2 c4).2)))))))))))))))))))))))
-- X0_rewrites
theorem rt3 : eRt 3 = none := by decide +kernel
theorem rx3 : ¬ eKd 3 = 3 := by decide +kernel
theorem ry3 : ¬ eKd 3 = 4 := by decide +kernel
abbrev k3_0 : List (Instr × Nat) := [(.aload_n 0, 1), (.iload_n 1, 1), (.invokeinterface 5 2, 3), (.ifCond .eq 13, 3), (.aload_n 0, 1), (.iload_n 1, 1), (.putfield 1, 3), (.aload_n 0, 1), (.iconst 1, 1), (.putfield 2, 3), (.return_, 1)]
theorem c3_0 : chk 3 0 k3_0 = true := by decide +kernel
abbrev k3_18 : List (Instr × Nat) := [(.return_, 1)]
theorem c3_18 : chk 3 18 k3_18 = true := by decide +kernel
theorem r3_0 {o : eO} {σo : eS} {L h z : Nat} {I : Nat → Nat → Int32} {J : Nat → Nat → Int64} {x1 : Int32}  (H : (∃ v1 : Int32, ∃ I2 : Nat → Nat → Int32, ∃ J3 : Nat → Nat → Int64, Den 5 [.ref 2, .int x1] (mS L I J h z) (.inl (some (.int v1))) (mS L I2 J3 h z) ∧ (v1 = 0 → o = .inl none ∧ σo = (mS L I2 J3 h z)) ∧ (¬ v1 = 0 → o = .inl none ∧ σo = (mS L (u2 (u2 I2 2 1 x1) 2 2 (1 : Int32)) J3 h z)))) : Run 3 0 [(0, .ref 2), (1, .int x1)] [] (mS L I J h z) o σo :=
  Run.blk k3_0 c3_0 (And.intro (Nat.le_of_ble_eq_true rfl) (And.intro gw5 (And.intro (Nat.le_of_ble_eq_true rfl) (And.intro (recv_o (q := 5) rk5 rc5 (oK_isO kO_2)) (Exists.elim H (fun v1 h6 => Exists.elim h6 (fun I2 h7 => Exists.elim h7 (fun J3 h8 => have h5 := h8; (Or.inl (Exists.intro (some (.int v1)) (Exists.intro (mS L I2 J3 h z) (And.intro h5.1 (And.intro (fun c4 => (Run.blk (μ := 3) (pc := 18) k3_18 c3_18 (And.intro rt3 (h5.2.1 c4)))) (fun c4 => (And.intro (oK_isO kO_2) (And.intro ⟨rfl, rfl⟩ (And.intro (oK_isO kO_2) (And.intro ⟨rfl, rfl⟩ (And.intro rt3 (h5.2.2 c4))))))))))))))))))))
-- X0_turnOn
theorem rt4 : eRt 4 = none := by decide +kernel
theorem rx4 : ¬ eKd 4 = 3 := by decide +kernel
theorem ry4 : ¬ eKd 4 = 4 := by decide +kernel
abbrev k4_0 : List (Instr × Nat) := [(.aload_n 0, 1), (.iconst 1, 1), (.putfield 0, 3), (.aload_n 0, 1), (.iconst (-1), 1), (.putfield 3, 3), (.return_, 1)]
theorem c4_0 : chk 4 0 k4_0 = true := by decide +kernel
theorem r4_0 {o : eO} {σo : eS} {L h z : Nat} {I : Nat → Nat → Int32} {J : Nat → Nat → Int64}  (H : o = .inl none ∧ σo = (mS L (u2 (u2 I 2 0 (1 : Int32)) 2 3 (-1 : Int32)) J h z)) : Run 4 0 [(0, .ref 2)] [] (mS L I J h z) o σo :=
  Run.blk k4_0 c4_0 (And.intro (oK_isO kO_2) (And.intro ⟨rfl, rfl⟩ (And.intro (oK_isO kO_2) (And.intro ⟨rfl, rfl⟩ (And.intro rt4 H)))))
-- X0_outlastsPower
theorem rt5 : eRt 5 = some .boolean := by decide +kernel
theorem rx5 : ¬ eKd 5 = 3 := by decide +kernel
theorem ry5 : ¬ eKd 5 = 4 := by decide +kernel
abbrev k5_0 : List (Instr × Nat) := [(.aload_n 0, 1), (.aload_n 0, 1), (.getfield 3, 3), (.iconst (-1), 1), (.if_icmp .ne 7, 3), (.iconst 1, 1), (.goto 4, 3)]
theorem c5_0 : chk 5 0 k5_0 = true := by decide +kernel
abbrev k5_13 : List (Instr × Nat) := [(.iconst 0, 1), (.putfield 0, 3), (.aload_n 0, 1), (.getfield 0, 3), (.ifCond .ne 11, 3), (.aload_n 0, 1), (.getfield 3, 3), (.iload_n 1, 1), (.if_icmp .lt 7, 3), (.iconst 1, 1), (.goto 4, 3)]
theorem c5_13 : chk 5 13 k5_13 = true := by decide +kernel
abbrev k5_14 : List (Instr × Nat) := [(.putfield 0, 3), (.aload_n 0, 1), (.getfield 0, 3), (.ifCond .ne 11, 3), (.aload_n 0, 1), (.getfield 3, 3), (.iload_n 1, 1), (.if_icmp .lt 7, 3), (.iconst 1, 1), (.goto 4, 3)]
theorem c5_14 : chk 5 14 k5_14 = true := by decide +kernel
abbrev k5_32 : List (Instr × Nat) := [(.iconst 1, 1), (.goto 4, 3)]
theorem c5_32 : chk 5 32 k5_32 = true := by decide +kernel
abbrev k5_36 : List (Instr × Nat) := [(.iconst 0, 1), (.ireturn, 1)]
theorem c5_36 : chk 5 36 k5_36 = true := by decide +kernel
abbrev k5_37 : List (Instr × Nat) := [(.ireturn, 1)]
theorem c5_37 : chk 5 37 k5_37 = true := by decide +kernel
theorem r5_0 {o : eO} {σo : eS} {L h z : Nat} {I : Nat → Nat → Int32} {J : Nat → Nat → Int64} {x1 : Int32}  (H : (¬ (I 2 3) = (-1 : Int32) → (¬ (0 : Int32) = 0 → o = .inl (some (.int (1 : Int32))) ∧ σo = (mS L (u2 I 2 0 (0 : Int32)) J h z)) ∧ ((0 : Int32) = 0 → ((I 2 3) < x1 → o = .inl (some (.int (0 : Int32))) ∧ σo = (mS L (u2 I 2 0 (0 : Int32)) J h z)) ∧ (¬ (I 2 3) < x1 → o = .inl (some (.int (1 : Int32))) ∧ σo = (mS L (u2 I 2 0 (0 : Int32)) J h z)))) ∧ ((I 2 3) = (-1 : Int32) → (¬ (1 : Int32) = 0 → o = .inl (some (.int (1 : Int32))) ∧ σo = (mS L (u2 I 2 0 (1 : Int32)) J h z)) ∧ ((1 : Int32) = 0 → ((I 2 3) < x1 → o = .inl (some (.int (0 : Int32))) ∧ σo = (mS L (u2 I 2 0 (1 : Int32)) J h z)) ∧ (¬ (I 2 3) < x1 → o = .inl (some (.int (1 : Int32))) ∧ σo = (mS L (u2 I 2 0 (1 : Int32)) J h z))))) : Run 5 0 [(0, .ref 2), (1, .int x1)] [] (mS L I J h z) o σo :=
  Run.blk k5_0 c5_0 (And.intro (oK_isO kO_2) (And.intro (fun c1 => (Run.blk (μ := 5) (pc := 13) k5_13 c5_13 (And.intro (oK_isO kO_2) (And.intro ⟨rfl, rfl⟩ (And.intro (oK_isO kO_2) (And.intro (fun c2 => (Run.blk (μ := 5) (pc := 32) k5_32 c5_32 (Run.blk (μ := 5) (pc := 37) k5_37 c5_37 (ret_i rt5 rfl ((H.1 c1).1 c2))))) (fun c2 => (And.intro (oK_isO kO_2) (And.intro (fun c3 => (Run.blk (μ := 5) (pc := 36) k5_36 c5_36 (ret_i rt5 rfl (((H.1 c1).2 c2).1 c3)))) (fun c3 => (Run.blk (μ := 5) (pc := 37) k5_37 c5_37 (ret_i rt5 rfl (((H.1 c1).2 c2).2 c3))))))))))))) (fun c1 => (Run.blk (μ := 5) (pc := 14) k5_14 c5_14 (And.intro (oK_isO kO_2) (And.intro ⟨rfl, rfl⟩ (And.intro (oK_isO kO_2) (And.intro (fun c4 => (Run.blk (μ := 5) (pc := 32) k5_32 c5_32 (Run.blk (μ := 5) (pc := 37) k5_37 c5_37 (ret_i rt5 rfl ((H.2 c1).1 c4))))) (fun c4 => (And.intro (oK_isO kO_2) (And.intro (fun c5 => (Run.blk (μ := 5) (pc := 36) k5_36 c5_36 (ret_i rt5 rfl (((H.2 c1).2 c4).1 c5)))) (fun c5 => (Run.blk (μ := 5) (pc := 37) k5_37 c5_37 (ret_i rt5 rfl (((H.2 c1).2 c4).2 c5)))))))))))))))
-- X1_put
theorem rt7 : eRt 7 = some .int := by decide +kernel
theorem rx7 : ¬ eKd 7 = 3 := by decide +kernel
theorem ry7 : ¬ eKd 7 = 4 := by decide +kernel
abbrev k7_0 : List (Instr × Nat) := [(.aload_n 0, 1), (.getfield 64, 3), (.aload_n 0, 1), (.getfield 67, 3), (.iload_n 1, 1), (.iastore, 1), (.aload_n 0, 1), (.getfield 65, 3), (.aload_n 0, 1), (.getfield 67, 3), (.iload_n 2, 1), (.iastore, 1), (.aload_n 0, 1), (.getfield 66, 3), (.aload_n 0, 1), (.getfield 67, 3), (.lload_n 3, 1), (.lastore, 1), (.aload_n 0, 1), (.dup, 1), (.getfield 67, 3), (.iconst 1, 1), (.iadd, 1), (.putfield 67, 3), (.aload_n 0, 1), (.getfield 67, 3), (.ireturn, 1)]
theorem c7_0 : chk 7 0 k7_0 = true := by decide +kernel
theorem r7_0 {o : eO} {σo : eS} {L h z : Nat} {I : Nat → Nat → Int32} {J : Nat → Nat → Int64} {x1 x2 : Int32} {y3 : Int64}  (H : vp_in (I 3 3) 8 ∧ o = .inl (some (.int ((I 3 3) + (1 : Int32)))) ∧ σo = (mS L (u2 (u2 (u2 I 4 ((I 3 3).toNatClampNeg) x1) 5 ((I 3 3).toNatClampNeg) x2) 3 3 ((I 3 3) + (1 : Int32))) (u2 J 6 ((I 3 3).toNatClampNeg) y3) h z)) : Run 7 0 [(0, .ref 3), (1, .int x1), (2, .int x2), (3, .long y3)] [] (mS L I J h z) o σo :=
  Run.blk k7_0 c7_0 (And.intro (oK_isO kO_3) (And.intro rN_3_0 (And.intro (oK_isO kO_3) (Exists.intro 8 (And.intro kA_4.1 (And.intro (aK_isA kA_4) (And.intro H.1 (And.intro (oK_isO kO_3) (And.intro rN_3_1 (And.intro (oK_isO kO_3) (Exists.intro 8 (And.intro kA_5.1 (And.intro (aK_isA kA_5) (And.intro H.1 (And.intro (oK_isO kO_3) (And.intro rN_3_2 (And.intro (oK_isO kO_3) (Exists.intro 8 (And.intro kA_6.1 (And.intro (aK_isA kA_6) (And.intro H.1 (And.intro rfl (And.intro (oK_isO kO_3) (And.intro (oK_isO kO_3) (And.intro ⟨rfl, rfl⟩ (And.intro (oK_isO kO_3) (ret_i rt7 rfl H.2)))))))))))))))))))))))))))
-- X1_clear
theorem rt8 : eRt 8 = none := by decide +kernel
theorem rx8 : ¬ eKd 8 = 3 := by decide +kernel
theorem ry8 : ¬ eKd 8 = 4 := by decide +kernel
abbrev k8_0 : List (Instr × Nat) := [(.aload_n 0, 1), (.iconst 0, 1), (.putfield 67, 3), (.return_, 1)]
theorem c8_0 : chk 8 0 k8_0 = true := by decide +kernel
theorem r8_0 {o : eO} {σo : eS} {L h z : Nat} {I : Nat → Nat → Int32} {J : Nat → Nat → Int64}  (H : o = .inl none ∧ σo = (mS L (u2 I 3 3 (0 : Int32)) J h z)) : Run 8 0 [(0, .ref 3)] [] (mS L I J h z) o σo :=
  Run.blk k8_0 c8_0 (And.intro (oK_isO kO_3) (And.intro ⟨rfl, rfl⟩ (And.intro rt8 H)))
-- X1_holds
theorem rt9 : eRt 9 = some .boolean := by decide +kernel
theorem rx9 : ¬ eKd 9 = 3 := by decide +kernel
theorem ry9 : ¬ eKd 9 = 4 := by decide +kernel
abbrev k9_0 : List (Instr × Nat) := [(.iconst 0, 1), (.istore_n 2, 1)]
theorem c9_0 : chk 9 0 k9_0 = true := by decide +kernel
abbrev k9_2 : List (Instr × Nat) := [(.iload_n 2, 1), (.aload_n 0, 1), (.getfield 67, 3), (.if_icmp .ge 21, 3), (.aload_n 0, 1), (.getfield 64, 3), (.iload_n 2, 1), (.iaload, 1), (.iload_n 1, 1), (.if_icmp .ne 5, 3), (.iconst 1, 1), (.ireturn, 1)]
theorem c9_2 : chk 9 2 k9_2 = true := by decide +kernel
abbrev k9_22 : List (Instr × Nat) := [(.iinc 2 1, 3), (.goto (-23), 3)]
theorem c9_22 : chk 9 22 k9_22 = true := by decide +kernel
abbrev k9_28 : List (Instr × Nat) := [(.iconst 0, 1), (.ireturn, 1)]
theorem c9_28 : chk 9 28 k9_28 = true := by decide +kernel
theorem r9_0 {o : eO} {σo : eS} {L h z : Nat} {I : Nat → Nat → Int32} {J : Nat → Nat → Int64} {x1 : Int32}  (H : Run 9 2 [(0, .ref 3), (1, .int x1), (2, .int (0 : Int32))] [] (mS L I J h z) o σo) : Run 9 0 [(0, .ref 3), (1, .int x1)] [] (mS L I J h z) o σo :=
  Run.blk k9_0 c9_0 (Run.sub [(0, .ref 3), (1, .int x1), (2, .int (0 : Int32))] (sub_pick [1, 2, 0] rfl) H)
theorem r9_2 {o : eO} {σo : eS} {L h z : Nat} {I : Nat → Nat → Int32} {J : Nat → Nat → Int64} {x1 x2 : Int32}  (H : ((I 3 3) ≤ x2 → o = .inl (some (.int (0 : Int32))) ∧ σo = (mS L I J h z)) ∧ (¬ (I 3 3) ≤ x2 → vp_in x2 8 ∧ (¬ (I 4 x2.toNatClampNeg) = x1 → Run 9 2 [(0, .ref 3), (1, .int x1), (2, .int (x2 + 1))] [] (mS L I J h z) o σo) ∧ ((I 4 x2.toNatClampNeg) = x1 → o = .inl (some (.int (1 : Int32))) ∧ σo = (mS L I J h z)))) : Run 9 2 [(0, .ref 3), (1, .int x1), (2, .int x2)] [] (mS L I J h z) o σo :=
  Run.blk k9_2 c9_2 (And.intro (oK_isO kO_3) (And.intro (fun c1 => (Run.blk (μ := 9) (pc := 28) k9_28 c9_28 (ret_i rt9 rfl (H.1 c1)))) (fun c1 => (And.intro (oK_isO kO_3) (And.intro rN_3_0 (Exists.intro 8 (And.intro (aK_isA kA_4) (And.intro (H.2 c1).1 (And.intro (fun c2 => (Run.blk (μ := 9) (pc := 22) k9_22 c9_22 (Run.sub [(0, .ref 3), (1, .int x1), (2, .int (x2 + 1))] (sub_pick [1, 2, 0] rfl) ((H.2 c1).2.1 c2)))) (fun c2 => (ret_i rt9 rfl ((H.2 c1).2.2 c2))))))))))))
-- X5_isInstruction
theorem rt53 : eRt 53 = some .boolean := by decide +kernel
theorem rx53 : ¬ eKd 53 = 3 := by decide +kernel
theorem ry53 : ¬ eKd 53 = 4 := by decide +kernel
abbrev k53_0 : List (Instr × Nat) := [(.iload_n 0, 1), (.ifCond .lt 9, 3), (.iload_n 0, 1), (.iconst 19, 2), (.if_icmp .le 5, 3), (.iconst 0, 1), (.ireturn, 1)]
theorem c53_0 : chk 53 0 k53_0 = true := by decide +kernel
abbrev k53_10 : List (Instr × Nat) := [(.iconst 0, 1), (.ireturn, 1)]
theorem c53_10 : chk 53 10 k53_10 = true := by decide +kernel
abbrev k53_12 : List (Instr × Nat) := [(.iload_n 0, 1), (.iconst 5, 1), (.if_icmp .eq 9, 3), (.iload_n 0, 1), (.iconst 6, 2), (.if_icmp .ne 18, 3), (.iload_n 1, 1), (.ifCond .lt 12, 3), (.iload_n 1, 1), (.iconst 4, 1), (.if_icmp .ge 7, 3), (.iconst 1, 1), (.goto 4, 3)]
theorem c53_12 : chk 53 12 k53_12 = true := by decide +kernel
abbrev k53_23 : List (Instr × Nat) := [(.iload_n 1, 1), (.ifCond .lt 12, 3), (.iload_n 1, 1), (.iconst 4, 1), (.if_icmp .ge 7, 3), (.iconst 1, 1), (.goto 4, 3)]
theorem c53_23 : chk 53 23 k53_23 = true := by decide +kernel
abbrev k53_36 : List (Instr × Nat) := [(.iconst 0, 1), (.ireturn, 1)]
theorem c53_36 : chk 53 36 k53_36 = true := by decide +kernel
abbrev k53_37 : List (Instr × Nat) := [(.ireturn, 1)]
theorem c53_37 : chk 53 37 k53_37 = true := by decide +kernel
abbrev k53_38 : List (Instr × Nat) := [(.iload_n 0, 1), (.iconst 18, 2), (.if_icmp .ne 13, 3), (.iload_n 1, 1), (.ifCond .lt 13, 3), (.iload_n 1, 1), (.iconst 16, 2), (.if_icmp .ge 7, 3), (.iconst 1, 1), (.goto 4, 3)]
theorem c53_38 : chk 53 38 k53_38 = true := by decide +kernel
abbrev k53_54 : List (Instr × Nat) := [(.iconst 1, 1), (.goto 4, 3)]
theorem c53_54 : chk 53 54 k53_54 = true := by decide +kernel
abbrev k53_58 : List (Instr × Nat) := [(.iconst 0, 1), (.ireturn, 1)]
theorem c53_58 : chk 53 58 k53_58 = true := by decide +kernel
abbrev k53_59 : List (Instr × Nat) := [(.ireturn, 1)]
theorem c53_59 : chk 53 59 k53_59 = true := by decide +kernel
theorem r53_0 {o : eO} {σo : eS} {L h z : Nat} {I : Nat → Nat → Int32} {J : Nat → Nat → Int64} {x0 x1 : Int32}  (H : (x0 < 0 → o = .inl (some (.int (0 : Int32))) ∧ σo = (mS L I J h z)) ∧ (¬ x0 < 0 → (x0 ≤ (19 : Int32) → (x0 = (5 : Int32) → (x1 < 0 → o = .inl (some (.int (0 : Int32))) ∧ σo = (mS L I J h z)) ∧ (¬ x1 < 0 → ((4 : Int32) ≤ x1 → o = .inl (some (.int (0 : Int32))) ∧ σo = (mS L I J h z)) ∧ (¬ (4 : Int32) ≤ x1 → o = .inl (some (.int (1 : Int32))) ∧ σo = (mS L I J h z)))) ∧ (¬ x0 = (5 : Int32) → (¬ x0 = (6 : Int32) → (¬ x0 = (18 : Int32) → o = .inl (some (.int (1 : Int32))) ∧ σo = (mS L I J h z)) ∧ (x0 = (18 : Int32) → (x1 < 0 → o = .inl (some (.int (0 : Int32))) ∧ σo = (mS L I J h z)) ∧ (¬ x1 < 0 → ((16 : Int32) ≤ x1 → o = .inl (some (.int (0 : Int32))) ∧ σo = (mS L I J h z)) ∧ (¬ (16 : Int32) ≤ x1 → o = .inl (some (.int (1 : Int32))) ∧ σo = (mS L I J h z))))) ∧ (x0 = (6 : Int32) → (x1 < 0 → o = .inl (some (.int (0 : Int32))) ∧ σo = (mS L I J h z)) ∧ (¬ x1 < 0 → ((4 : Int32) ≤ x1 → o = .inl (some (.int (0 : Int32))) ∧ σo = (mS L I J h z)) ∧ (¬ (4 : Int32) ≤ x1 → o = .inl (some (.int (1 : Int32))) ∧ σo = (mS L I J h z)))))) ∧ (¬ x0 ≤ (19 : Int32) → o = .inl (some (.int (0 : Int32))) ∧ σo = (mS L I J h z)))) : Run 53 0 [(0, .int x0), (1, .int x1)] [] (mS L I J h z) o σo :=
  Run.blk k53_0 c53_0 (And.intro (fun c1 => (Run.blk (μ := 53) (pc := 10) k53_10 c53_10 (ret_i rt53 rfl (H.1 c1)))) (fun c1 => (And.intro (fun c2 => (Run.blk (μ := 53) (pc := 12) k53_12 c53_12 (And.intro (fun c3 => (Run.blk (μ := 53) (pc := 23) k53_23 c53_23 (And.intro (fun c4 => (Run.blk (μ := 53) (pc := 36) k53_36 c53_36 (ret_i rt53 rfl ((((H.2 c1).1 c2).1 c3).1 c4)))) (fun c4 => (And.intro (fun c5 => (Run.blk (μ := 53) (pc := 36) k53_36 c53_36 (ret_i rt53 rfl (((((H.2 c1).1 c2).1 c3).2 c4).1 c5)))) (fun c5 => (Run.blk (μ := 53) (pc := 37) k53_37 c53_37 (ret_i rt53 rfl (((((H.2 c1).1 c2).1 c3).2 c4).2 c5))))))))) (fun c3 => (And.intro (fun c6 => (Run.blk (μ := 53) (pc := 38) k53_38 c53_38 (And.intro (fun c7 => (Run.blk (μ := 53) (pc := 54) k53_54 c53_54 (Run.blk (μ := 53) (pc := 59) k53_59 c53_59 (ret_i rt53 rfl (((((H.2 c1).1 c2).2 c3).1 c6).1 c7))))) (fun c7 => (And.intro (fun c8 => (Run.blk (μ := 53) (pc := 58) k53_58 c53_58 (ret_i rt53 rfl ((((((H.2 c1).1 c2).2 c3).1 c6).2 c7).1 c8)))) (fun c8 => (And.intro (fun c9 => (Run.blk (μ := 53) (pc := 58) k53_58 c53_58 (ret_i rt53 rfl (((((((H.2 c1).1 c2).2 c3).1 c6).2 c7).2 c8).1 c9)))) (fun c9 => (Run.blk (μ := 53) (pc := 59) k53_59 c53_59 (ret_i rt53 rfl (((((((H.2 c1).1 c2).2 c3).1 c6).2 c7).2 c8).2 c9))))))))))) (fun c6 => (And.intro (fun c10 => (Run.blk (μ := 53) (pc := 36) k53_36 c53_36 (ret_i rt53 rfl (((((H.2 c1).1 c2).2 c3).2 c6).1 c10)))) (fun c10 => (And.intro (fun c11 => (Run.blk (μ := 53) (pc := 36) k53_36 c53_36 (ret_i rt53 rfl ((((((H.2 c1).1 c2).2 c3).2 c6).2 c10).1 c11)))) (fun c11 => (Run.blk (μ := 53) (pc := 37) k53_37 c53_37 (ret_i rt53 rfl ((((((H.2 c1).1 c2).2 c3).2 c6).2 c10).2 c11))))))))))))) (fun c2 => (ret_i rt53 rfl ((H.2 c1).2 c2))))))
-- X5_put
theorem rt54 : eRt 54 = some .int := by decide +kernel
theorem rx54 : ¬ eKd 54 = 3 := by decide +kernel
theorem ry54 : ¬ eKd 54 = 4 := by decide +kernel
abbrev k54_0 : List (Instr × Nat) := [(.aload_n 0, 1), (.getfield 320, 3), (.aload_n 0, 1), (.getfield 322, 3), (.iload_n 1, 1), (.iastore, 1), (.aload_n 0, 1), (.getfield 321, 3), (.aload_n 0, 1), (.getfield 322, 3), (.iload_n 2, 1), (.iastore, 1), (.aload_n 0, 1), (.dup, 1), (.getfield 322, 3), (.iconst 1, 1), (.iadd, 1), (.putfield 322, 3), (.aload_n 0, 1), (.getfield 322, 3), (.ireturn, 1)]
theorem c54_0 : chk 54 0 k54_0 = true := by decide +kernel
theorem r54_0 {o : eO} {σo : eS} {L h z : Nat} {I : Nat → Nat → Int32} {J : Nat → Nat → Int64} {x1 x2 : Int32}  (H : vp_in (I 7 2) 64 ∧ o = .inl (some (.int ((I 7 2) + (1 : Int32)))) ∧ σo = (mS L (u2 (u2 (u2 I 8 ((I 7 2).toNatClampNeg) x1) 9 ((I 7 2).toNatClampNeg) x2) 7 2 ((I 7 2) + (1 : Int32))) J h z)) : Run 54 0 [(0, .ref 7), (1, .int x1), (2, .int x2)] [] (mS L I J h z) o σo :=
  Run.blk k54_0 c54_0 (And.intro (oK_isO kO_7) (And.intro rN_7_0 (And.intro (oK_isO kO_7) (Exists.intro 64 (And.intro kA_8.1 (And.intro (aK_isA kA_8) (And.intro H.1 (And.intro (oK_isO kO_7) (And.intro rN_7_1 (And.intro (oK_isO kO_7) (Exists.intro 64 (And.intro kA_9.1 (And.intro (aK_isA kA_9) (And.intro H.1 (And.intro rfl (And.intro (oK_isO kO_7) (And.intro (oK_isO kO_7) (And.intro ⟨rfl, rfl⟩ (And.intro (oK_isO kO_7) (ret_i rt54 rfl H.2))))))))))))))))))))
-- X5_clear
theorem rt55 : eRt 55 = none := by decide +kernel
theorem rx55 : ¬ eKd 55 = 3 := by decide +kernel
theorem ry55 : ¬ eKd 55 = 4 := by decide +kernel
abbrev k55_0 : List (Instr × Nat) := [(.aload_n 0, 1), (.iconst 0, 1), (.putfield 322, 3), (.return_, 1)]
theorem c55_0 : chk 55 0 k55_0 = true := by decide +kernel
theorem r55_0 {o : eO} {σo : eS} {L h z : Nat} {I : Nat → Nat → Int32} {J : Nat → Nat → Int64}  (H : o = .inl none ∧ σo = (mS L (u2 I 7 2 (0 : Int32)) J h z)) : Run 55 0 [(0, .ref 7)] [] (mS L I J h z) o σo :=
  Run.blk k55_0 c55_0 (And.intro (oK_isO kO_7) (And.intro ⟨rfl, rfl⟩ (And.intro rt55 H)))
-- X5_jumpsInside
theorem rt56 : eRt 56 = some .boolean := by decide +kernel
theorem rx56 : ¬ eKd 56 = 3 := by decide +kernel
theorem ry56 : ¬ eKd 56 = 4 := by decide +kernel
abbrev k56_0 : List (Instr × Nat) := [(.iconst 0, 1), (.istore_n 1, 1)]
theorem c56_0 : chk 56 0 k56_0 = true := by decide +kernel
abbrev k56_2 : List (Instr × Nat) := [(.iload_n 1, 1), (.aload_n 0, 1), (.getfield 322, 3), (.if_icmp .ge 65, 3), (.aload_n 0, 1), (.getfield 320, 3), (.iload_n 1, 1), (.iaload, 1), (.iconst 16, 2), (.if_icmp .eq 14, 3), (.aload_n 0, 1), (.getfield 320, 3), (.iload_n 1, 1), (.iaload, 1), (.iconst 17, 2), (.if_icmp .ne 7, 3), (.iconst 1, 1), (.goto 4, 3)]
theorem c56_2 : chk 56 2 k56_2 = true := by decide +kernel
abbrev k56_32 : List (Instr × Nat) := [(.iconst 1, 1), (.goto 4, 3)]
theorem c56_32 : chk 56 32 k56_32 = true := by decide +kernel
abbrev k56_36 : List (Instr × Nat) := [(.iconst 0, 1), (.istore_n 2, 1), (.iload_n 2, 1), (.ifCond .eq 27, 3), (.aload_n 0, 1), (.getfield 321, 3), (.iload_n 1, 1), (.iaload, 1), (.ifCond .lt 16, 3), (.aload_n 0, 1), (.getfield 321, 3), (.iload_n 1, 1), (.iaload, 1), (.aload_n 0, 1), (.getfield 322, 3), (.if_icmp .le 5, 3), (.iconst 0, 1), (.ireturn, 1)]
theorem c56_36 : chk 56 36 k56_36 = true := by decide +kernel
abbrev k56_37 : List (Instr × Nat) := [(.istore_n 2, 1), (.iload_n 2, 1), (.ifCond .eq 27, 3), (.aload_n 0, 1), (.getfield 321, 3), (.iload_n 1, 1), (.iaload, 1), (.ifCond .lt 16, 3), (.aload_n 0, 1), (.getfield 321, 3), (.iload_n 1, 1), (.iaload, 1), (.aload_n 0, 1), (.getfield 322, 3), (.if_icmp .le 5, 3), (.iconst 0, 1), (.ireturn, 1)]
theorem c56_37 : chk 56 37 k56_37 = true := by decide +kernel
abbrev k56_64 : List (Instr × Nat) := [(.iconst 0, 1), (.ireturn, 1)]
theorem c56_64 : chk 56 64 k56_64 = true := by decide +kernel
abbrev k56_66 : List (Instr × Nat) := [(.iinc 1 1, 3), (.goto (-67), 3)]
theorem c56_66 : chk 56 66 k56_66 = true := by decide +kernel
abbrev k56_72 : List (Instr × Nat) := [(.iconst 1, 1), (.ireturn, 1)]
theorem c56_72 : chk 56 72 k56_72 = true := by decide +kernel
theorem r56_0 {o : eO} {σo : eS} {L h z : Nat} {I : Nat → Nat → Int32} {J : Nat → Nat → Int64}  (H : Run 56 2 [(0, .ref 7), (1, .int (0 : Int32))] [] (mS L I J h z) o σo) : Run 56 0 [(0, .ref 7)] [] (mS L I J h z) o σo :=
  Run.blk k56_0 c56_0 (Run.sub [(0, .ref 7), (1, .int (0 : Int32))] (sub_pick [1, 0] rfl) H)
theorem r56_2 {o : eO} {σo : eS} {L h z : Nat} {I : Nat → Nat → Int32} {J : Nat → Nat → Int64} {x1 : Int32}  (H : ((I 7 2) ≤ x1 → o = .inl (some (.int (1 : Int32))) ∧ σo = (mS L I J h z)) ∧ (¬ (I 7 2) ≤ x1 → vp_in x1 64 ∧ ((I 8 x1.toNatClampNeg) = (16 : Int32) → ((I 9 x1.toNatClampNeg) < 0 → o = .inl (some (.int (0 : Int32))) ∧ σo = (mS L I J h z)) ∧ (¬ (I 9 x1.toNatClampNeg) < 0 → ((I 9 x1.toNatClampNeg) ≤ (I 7 2) → Run 56 2 [(0, .ref 7), (1, .int (x1 + 1))] [] (mS L I J h z) o σo) ∧ (¬ (I 9 x1.toNatClampNeg) ≤ (I 7 2) → o = .inl (some (.int (0 : Int32))) ∧ σo = (mS L I J h z)))) ∧ (¬ (I 8 x1.toNatClampNeg) = (16 : Int32) → (¬ (I 8 x1.toNatClampNeg) = (17 : Int32) → Run 56 2 [(0, .ref 7), (1, .int (x1 + 1))] [] (mS L I J h z) o σo) ∧ ((I 8 x1.toNatClampNeg) = (17 : Int32) → ((I 9 x1.toNatClampNeg) < 0 → o = .inl (some (.int (0 : Int32))) ∧ σo = (mS L I J h z)) ∧ (¬ (I 9 x1.toNatClampNeg) < 0 → ((I 9 x1.toNatClampNeg) ≤ (I 7 2) → Run 56 2 [(0, .ref 7), (1, .int (x1 + 1))] [] (mS L I J h z) o σo) ∧ (¬ (I 9 x1.toNatClampNeg) ≤ (I 7 2) → o = .inl (some (.int (0 : Int32))) ∧ σo = (mS L I J h z))))))) : Run 56 2 [(0, .ref 7), (1, .int x1)] [] (mS L I J h z) o σo :=
  Run.blk k56_2 c56_2 (And.intro (oK_isO kO_7) (And.intro (fun c1 => (Run.blk (μ := 56) (pc := 72) k56_72 c56_72 (ret_i rt56 rfl (H.1 c1)))) (fun c1 => (And.intro (oK_isO kO_7) (And.intro rN_7_0 (Exists.intro 64 (And.intro (aK_isA kA_8) (And.intro (H.2 c1).1 (And.intro (fun c2 => (Run.blk (μ := 56) (pc := 32) k56_32 c56_32 (Run.blk (μ := 56) (pc := 37) k56_37 c56_37 (And.intro (fun c3 => absurd c3 (by decide)) (fun c3 => (And.intro (oK_isO kO_7) (And.intro rN_7_1 (Exists.intro 64 (And.intro (aK_isA kA_9) (And.intro (H.2 c1).1 (And.intro (fun c4 => (Run.blk (μ := 56) (pc := 64) k56_64 c56_64 (ret_i rt56 rfl (((H.2 c1).2.1 c2).1 c4)))) (fun c4 => (And.intro (oK_isO kO_7) (And.intro rN_7_1 (Exists.intro 64 (And.intro (aK_isA kA_9) (And.intro (H.2 c1).1 (And.intro (oK_isO kO_7) (And.intro (fun c5 => (Run.blk (μ := 56) (pc := 66) k56_66 c56_66 (Run.sub [(0, .ref 7), (1, .int (x1 + 1))] (sub_pick [2, 0] rfl) ((((H.2 c1).2.1 c2).2 c4).1 c5)))) (fun c5 => (ret_i rt56 rfl ((((H.2 c1).2.1 c2).2 c4).2 c5)))))))))))))))))))))) (fun c2 => (And.intro (oK_isO kO_7) (And.intro rN_7_0 (Exists.intro 64 (And.intro (aK_isA kA_8) (And.intro (H.2 c1).1 (And.intro (fun c6 => (Run.blk (μ := 56) (pc := 36) k56_36 c56_36 (And.intro (fun c7 => (Run.blk (μ := 56) (pc := 66) k56_66 c56_66 (Run.sub [(0, .ref 7), (1, .int (x1 + 1))] (sub_pick [2, 0] rfl) (((H.2 c1).2.2 c2).1 c6)))) (fun c7 => absurd c7 (by decide))))) (fun c6 => (Run.blk (μ := 56) (pc := 37) k56_37 c56_37 (And.intro (fun c8 => absurd c8 (by decide)) (fun c8 => (And.intro (oK_isO kO_7) (And.intro rN_7_1 (Exists.intro 64 (And.intro (aK_isA kA_9) (And.intro (H.2 c1).1 (And.intro (fun c9 => (Run.blk (μ := 56) (pc := 64) k56_64 c56_64 (ret_i rt56 rfl ((((H.2 c1).2.2 c2).2 c6).1 c9)))) (fun c9 => (And.intro (oK_isO kO_7) (And.intro rN_7_1 (Exists.intro 64 (And.intro (aK_isA kA_9) (And.intro (H.2 c1).1 (And.intro (oK_isO kO_7) (And.intro (fun c10 => (Run.blk (μ := 56) (pc := 66) k56_66 c56_66 (Run.sub [(0, .ref 7), (1, .int (x1 + 1))] (sub_pick [2, 0] rfl) (((((H.2 c1).2.2 c2).2 c6).2 c9).1 c10)))) (fun c10 => (ret_i rt56 rfl (((((H.2 c1).2.2 c2).2 c6).2 c9).2 c10)))))))))))))))))))))))))))))))))))))
-- X5_copy
theorem rt57 : eRt 57 = none := by decide +kernel
theorem rx57 : ¬ eKd 57 = 3 := by decide +kernel
theorem ry57 : ¬ eKd 57 = 4 := by decide +kernel
abbrev k57_0 : List (Instr × Nat) := [(.aload_n 1, 1), (.getfield 320, 3), (.iconst 0, 1), (.aload_n 0, 1), (.getfield 320, 3), (.iconst 0, 1), (.aload_n 1, 1), (.getfield 322, 3), (.monitorexit, 3), (.aload_n 1, 1), (.getfield 321, 3), (.iconst 0, 1), (.aload_n 0, 1), (.getfield 321, 3), (.iconst 0, 1), (.aload_n 1, 1), (.getfield 322, 3), (.monitorexit, 3), (.aload_n 0, 1), (.aload_n 1, 1), (.getfield 322, 3), (.putfield 322, 3), (.return_, 1)]
theorem c57_0 : chk 57 0 k57_0 = true := by decide +kernel
theorem r57_0 {o : eO} {σo : eS} {L h z : Nat} {I : Nat → Nat → Int32} {J : Nat → Nat → Int64} {a0 : Nat} (hw0 : w5 a0) (H : ¬ (I 7 2) < 0 ∧ (0 : Int32).toNatClampNeg + (I 7 2).toNatClampNeg ≤ 64 ∧ (0 : Int32).toNatClampNeg + (I 7 2).toNatClampNeg ≤ 64 ∧ ¬ ((u1 I (R0 a0 0) (va_cpy (I 8) (I (R0 a0 0)) (0 : Int32).toNatClampNeg (0 : Int32).toNatClampNeg (I 7 2).toNatClampNeg)) 7 2) < 0 ∧ (0 : Int32).toNatClampNeg + ((u1 I (R0 a0 0) (va_cpy (I 8) (I (R0 a0 0)) (0 : Int32).toNatClampNeg (0 : Int32).toNatClampNeg (I 7 2).toNatClampNeg)) 7 2).toNatClampNeg ≤ 64 ∧ (0 : Int32).toNatClampNeg + ((u1 I (R0 a0 0) (va_cpy (I 8) (I (R0 a0 0)) (0 : Int32).toNatClampNeg (0 : Int32).toNatClampNeg (I 7 2).toNatClampNeg)) 7 2).toNatClampNeg ≤ 64 ∧ o = .inl none ∧ σo = (mS L (u2 (u1 (u1 I (R0 a0 0) (va_cpy (I 8) (I (R0 a0 0)) (0 : Int32).toNatClampNeg (0 : Int32).toNatClampNeg (I 7 2).toNatClampNeg)) (R0 a0 1) (va_cpy ((u1 I (R0 a0 0) (va_cpy (I 8) (I (R0 a0 0)) (0 : Int32).toNatClampNeg (0 : Int32).toNatClampNeg (I 7 2).toNatClampNeg)) 9) ((u1 I (R0 a0 0) (va_cpy (I 8) (I (R0 a0 0)) (0 : Int32).toNatClampNeg (0 : Int32).toNatClampNeg (I 7 2).toNatClampNeg)) (R0 a0 1)) (0 : Int32).toNatClampNeg (0 : Int32).toNatClampNeg ((u1 I (R0 a0 0) (va_cpy (I 8) (I (R0 a0 0)) (0 : Int32).toNatClampNeg (0 : Int32).toNatClampNeg (I 7 2).toNatClampNeg)) 7 2).toNatClampNeg)) a0 2 ((u1 (u1 I (R0 a0 0) (va_cpy (I 8) (I (R0 a0 0)) (0 : Int32).toNatClampNeg (0 : Int32).toNatClampNeg (I 7 2).toNatClampNeg)) (R0 a0 1) (va_cpy ((u1 I (R0 a0 0) (va_cpy (I 8) (I (R0 a0 0)) (0 : Int32).toNatClampNeg (0 : Int32).toNatClampNeg (I 7 2).toNatClampNeg)) 9) ((u1 I (R0 a0 0) (va_cpy (I 8) (I (R0 a0 0)) (0 : Int32).toNatClampNeg (0 : Int32).toNatClampNeg (I 7 2).toNatClampNeg)) (R0 a0 1)) (0 : Int32).toNatClampNeg (0 : Int32).toNatClampNeg ((u1 I (R0 a0 0) (va_cpy (I 8) (I (R0 a0 0)) (0 : Int32).toNatClampNeg (0 : Int32).toNatClampNeg (I 7 2).toNatClampNeg)) 7 2).toNatClampNeg)) 7 2)) J h z)) : Run 57 0 [(0, .ref a0), (1, .ref 7)] [] (mS L I J h z) o σo :=
  Run.blk k57_0 c57_0 (And.intro (oK_isO kO_7) (And.intro rN_7_0 (And.intro (oK_isO (w5_o hw0)) (And.intro (a_nz (w5_a0 hw0)) (And.intro (oK_isO kO_7) (And.intro (Nat.le_of_ble_eq_true rfl) (And.intro (by decide) (And.intro (by decide) (And.intro H.1 (And.intro kA_8.1 (And.intro (w5_a0 hw0).1 (Or.inl (Exists.intro 64 (Exists.intro 64 (And.intro (aK_isA kA_8) (And.intro (aK_isA (w5_a0 hw0)) (And.intro H.2.1 (And.intro H.2.2.1 (And.intro (oK_isO kO_7) (And.intro rN_7_1 (And.intro (oK_isO (w5_o hw0)) (And.intro (a_nz (w5_a1 hw0)) (And.intro (oK_isO kO_7) (And.intro (Nat.le_of_ble_eq_true rfl) (And.intro (by decide) (And.intro (by decide) (And.intro H.2.2.2.1 (And.intro kA_9.1 (And.intro (w5_a1 hw0).1 (Or.inl (Exists.intro 64 (Exists.intro 64 (And.intro (aK_isA kA_9) (And.intro (aK_isA (w5_a1 hw0)) (And.intro H.2.2.2.2.1 (And.intro H.2.2.2.2.2.1 (And.intro (oK_isO kO_7) (And.intro (oK_isO (w5_o hw0)) (And.intro ⟨rfl, rfl⟩ (And.intro rt57 H.2.2.2.2.2.2))))))))))))))))) )))))))))))))))))) )))))
-- X7_set
theorem rt66 : eRt 66 = none := by decide +kernel
theorem rx66 : ¬ eKd 66 = 3 := by decide +kernel
theorem ry66 : ¬ eKd 66 = 4 := by decide +kernel
abbrev k66_0 : List (Instr × Nat) := [(.aload_n 0, 1), (.iload_n 1, 1), (.putfield 449, 3), (.aload_n 0, 1), (.iload_n 2, 1), (.putfield 450, 3), (.aload_n 0, 1), (.iload_n 3, 1), (.putfield 451, 3), (.return_, 1)]
theorem c66_0 : chk 66 0 k66_0 = true := by decide +kernel
theorem r66_0 {o : eO} {σo : eS} {L h z : Nat} {I : Nat → Nat → Int32} {J : Nat → Nat → Int64} {x1 x2 x3 : Int32} {a0 : Nat} (hw0 : w7 a0) (H : o = .inl none ∧ σo = (mS L (u2 (u2 (u2 I a0 1 x1) a0 2 x2) a0 3 x3) J h z)) : Run 66 0 [(0, .ref a0), (1, .int x1), (2, .int x2), (3, .int x3)] [] (mS L I J h z) o σo :=
  Run.blk k66_0 c66_0 (And.intro (oK_isO hw0) (And.intro ⟨rfl, rfl⟩ (And.intro (oK_isO hw0) (And.intro ⟨rfl, rfl⟩ (And.intro (oK_isO hw0) (And.intro ⟨rfl, rfl⟩ (And.intro rt66 H)))))))
-- X7_hideByNumber
theorem rt67 : eRt 67 = none := by decide +kernel
theorem gw68 : 2 ≤ eL 68 := by decide +kernel
theorem rk68 : eKd 68 = 0 ∨ eKd 68 = 2 := by decide +kernel
theorem rc68 : eC 68 = 7 := by decide +kernel
theorem rx67 : ¬ eKd 67 = 3 := by decide +kernel
theorem ry67 : ¬ eKd 67 = 4 := by decide +kernel
abbrev k67_0 : List (Instr × Nat) := [(.aload_n 0, 1), (.aload_n 0, 1), (.getfield 451, 3), (.invokeinterface 68 2, 3), (.aload_n 0, 1), (.getfield 449, 3), (.ifCond .eq 18, 3), (.aload_n 0, 1), (.aload_n 0, 1), (.getfield 448, 3), (.aload_n 0, 1), (.getfield 449, 3), (.isub, 1), (.iconst 1, 1), (.iadd, 1), (.invokeinterface 68 2, 3), (.aload_n 0, 1), (.getfield 452, 3), (.ifCond .eq 13, 3), (.aload_n 0, 1), (.aload_n 0, 1), (.getfield 448, 3), (.iconst 1, 1), (.iadd, 1), (.invokeinterface 68 2, 3), (.return_, 1)]
theorem c67_0 : chk 67 0 k67_0 = true := by decide +kernel
abbrev k67_30 : List (Instr × Nat) := [(.aload_n 0, 1), (.getfield 452, 3), (.ifCond .eq 13, 3), (.aload_n 0, 1), (.aload_n 0, 1), (.getfield 448, 3), (.iconst 1, 1), (.iadd, 1), (.invokeinterface 68 2, 3), (.return_, 1)]
theorem c67_30 : chk 67 30 k67_30 = true := by decide +kernel
abbrev k67_47 : List (Instr × Nat) := [(.return_, 1)]
theorem c67_47 : chk 67 47 k67_47 = true := by decide +kernel
theorem r67_0 {o : eO} {σo : eS} {L h z : Nat} {I : Nat → Nat → Int32} {J : Nat → Nat → Int64} {a0 : Nat} (hw0 : w7 a0) (H : (∃ I1 : Nat → Nat → Int32, ∃ J2 : Nat → Nat → Int64, Den 68 [.ref a0, .int (I a0 3)] (mS L I J h z) (.inl none) (mS L I1 J2 h z) ∧ ((I1 a0 1) = 0 → ((I1 a0 4) = 0 → o = .inl none ∧ σo = (mS L I1 J2 h z)) ∧ (¬ (I1 a0 4) = 0 → (∃ I5 : Nat → Nat → Int32, ∃ J6 : Nat → Nat → Int64, Den 68 [.ref a0, .int ((I1 a0 0) + (1 : Int32))] (mS L I1 J2 h z) (.inl none) (mS L I5 J6 h z) ∧ o = .inl none ∧ σo = (mS L I5 J6 h z)))) ∧ (¬ (I1 a0 1) = 0 → (∃ I7 : Nat → Nat → Int32, ∃ J8 : Nat → Nat → Int64, Den 68 [.ref a0, .int (((I1 a0 0) - (I1 a0 1)) + (1 : Int32))] (mS L I1 J2 h z) (.inl none) (mS L I7 J8 h z) ∧ ((I7 a0 4) = 0 → o = .inl none ∧ σo = (mS L I7 J8 h z)) ∧ (¬ (I7 a0 4) = 0 → (∃ I10 : Nat → Nat → Int32, ∃ J11 : Nat → Nat → Int64, Den 68 [.ref a0, .int ((I7 a0 0) + (1 : Int32))] (mS L I7 J8 h z) (.inl none) (mS L I10 J11 h z) ∧ o = .inl none ∧ σo = (mS L I10 J11 h z))))))) : Run 67 0 [(0, .ref a0)] [] (mS L I J h z) o σo :=
  Run.blk k67_0 c67_0 (And.intro (oK_isO hw0) (And.intro (Nat.le_of_ble_eq_true rfl) (And.intro gw68 (And.intro (Nat.le_of_ble_eq_true rfl) (And.intro (recv_o (q := 68) rk68 rc68 (oK_isO hw0)) (Exists.elim H (fun I1 h22 => Exists.elim h22 (fun J2 h23 => have h12 := h23; (Or.inl (Exists.intro none (Exists.intro (mS L I1 J2 h z) (And.intro h12.1 (And.intro (oK_isO hw0) (And.intro (fun c3 => (Run.blk (μ := 67) (pc := 30) k67_30 c67_30 (And.intro (oK_isO hw0) (And.intro (fun c4 => (Run.blk (μ := 67) (pc := 47) k67_47 c67_47 (And.intro rt67 ((h12.2.1 c3).1 c4)))) (fun c4 => (And.intro (oK_isO hw0) (And.intro (Nat.le_of_ble_eq_true rfl) (And.intro gw68 (And.intro (Nat.le_of_ble_eq_true rfl) (And.intro (recv_o (q := 68) rk68 rc68 (oK_isO hw0)) (Exists.elim ((h12.2.1 c3).2 c4) (fun I5 h14 => Exists.elim h14 (fun J6 h15 => have h13 := h15; (Or.inl (Exists.intro none (Exists.intro (mS L I5 J6 h z) (And.intro h13.1 (And.intro rt67 h13.2)))))))))))))))))) (fun c3 => (And.intro (oK_isO hw0) (And.intro (oK_isO hw0) (And.intro (Nat.le_of_ble_eq_true rfl) (And.intro gw68 (And.intro (Nat.le_of_ble_eq_true rfl) (And.intro (recv_o (q := 68) rk68 rc68 (oK_isO hw0)) (Exists.elim (h12.2.2 c3) (fun I7 h20 => Exists.elim h20 (fun J8 h21 => have h16 := h21; (Or.inl (Exists.intro none (Exists.intro (mS L I7 J8 h z) (And.intro h16.1 (And.intro (oK_isO hw0) (And.intro (fun c9 => (Run.blk (μ := 67) (pc := 47) k67_47 c67_47 (And.intro rt67 (h16.2.1 c9)))) (fun c9 => (And.intro (oK_isO hw0) (And.intro (Nat.le_of_ble_eq_true rfl) (And.intro gw68 (And.intro (Nat.le_of_ble_eq_true rfl) (And.intro (recv_o (q := 68) rk68 rc68 (oK_isO hw0)) (Exists.elim (h16.2.2 c9) (fun I10 h18 => Exists.elim h18 (fun J11 h19 => have h17 := h19; (Or.inl (Exists.intro none (Exists.intro (mS L I10 J11 h z) (And.intro h17.1 (And.intro rt67 h17.2))))))))))))))))))))))))))))))))))))))))))))
-- X7_hideBelow
theorem rt68 : eRt 68 = none := by decide +kernel
theorem rx68 : ¬ eKd 68 = 3 := by decide +kernel
theorem ry68 : ¬ eKd 68 = 4 := by decide +kernel
abbrev k68_0 : List (Instr × Nat) := [(.aload_n 0, 1), (.aload_n 0, 1), (.getfield 453, 3), (.iload_n 1, 1), (.aload_n 0, 1), (.getfield 448, 3), (.iconst 1, 1), (.iadd, 1), (.dsub, 3), (.dadd, 3), (.putfield 453, 3), (.return_, 1)]
theorem c68_0 : chk 68 0 k68_0 = true := by decide +kernel
theorem r68_0 {o : eO} {σo : eS} {L h z : Nat} {I : Nat → Nat → Int32} {J : Nat → Nat → Int64} {x1 : Int32} {a0 : Nat} (hw0 : w7 a0) (H : o = .inl none ∧ σo = (mS L (u2 I a0 5 (if (I a0 5) < (if ((I a0 0) + (1 : Int32)) < x1 then ((I a0 0) + (1 : Int32)) else x1) then (if ((I a0 0) + (1 : Int32)) < x1 then ((I a0 0) + (1 : Int32)) else x1) else (I a0 5))) J h z)) : Run 68 0 [(0, .ref a0), (1, .int x1)] [] (mS L I J h z) o σo :=
  Run.blk k68_0 c68_0 (And.intro (oK_isO hw0) (And.intro (oK_isO hw0) (And.intro (Nat.le_of_ble_eq_true rfl) (And.intro (Nat.le_of_ble_eq_true rfl) (And.intro (oK_isO hw0) (And.intro ⟨rfl, rfl⟩ (And.intro rt68 H)))))))
-- X7_isUsed
theorem rt69 : eRt 69 = some .boolean := by decide +kernel
theorem rx69 : ¬ eKd 69 = 3 := by decide +kernel
theorem ry69 : ¬ eKd 69 = 4 := by decide +kernel
abbrev k69_0 : List (Instr × Nat) := [(.aload_n 0, 1), (.getfield 448, 3), (.ifCond .ge 31, 3), (.aload_n 0, 1), (.getfield 449, 3), (.ifCond .ne 24, 3), (.aload_n 0, 1), (.getfield 450, 3), (.ifCond .ne 17, 3), (.aload_n 0, 1), (.getfield 451, 3), (.ifCond .ne 10, 3), (.aload_n 0, 1), (.getfield 452, 3), (.ifCond .eq 7, 3), (.iconst 1, 1), (.goto 4, 3)]
theorem c69_0 : chk 69 0 k69_0 = true := by decide +kernel
abbrev k69_35 : List (Instr × Nat) := [(.iconst 1, 1), (.goto 4, 3)]
theorem c69_35 : chk 69 35 k69_35 = true := by decide +kernel
abbrev k69_39 : List (Instr × Nat) := [(.iconst 0, 1), (.ireturn, 1)]
theorem c69_39 : chk 69 39 k69_39 = true := by decide +kernel
abbrev k69_40 : List (Instr × Nat) := [(.ireturn, 1)]
theorem c69_40 : chk 69 40 k69_40 = true := by decide +kernel
theorem r69_0 {o : eO} {σo : eS} {L h z : Nat} {I : Nat → Nat → Int32} {J : Nat → Nat → Int64} {a0 : Nat} (hw0 : w7 a0) (H : (0 ≤ (I a0 0) → o = .inl (some (.int (1 : Int32))) ∧ σo = (mS L I J h z)) ∧ (¬ 0 ≤ (I a0 0) → (¬ (I a0 1) = 0 → o = .inl (some (.int (1 : Int32))) ∧ σo = (mS L I J h z)) ∧ ((I a0 1) = 0 → (¬ (I a0 2) = 0 → o = .inl (some (.int (1 : Int32))) ∧ σo = (mS L I J h z)) ∧ ((I a0 2) = 0 → (¬ (I a0 3) = 0 → o = .inl (some (.int (1 : Int32))) ∧ σo = (mS L I J h z)) ∧ ((I a0 3) = 0 → ((I a0 4) = 0 → o = .inl (some (.int (0 : Int32))) ∧ σo = (mS L I J h z)) ∧ (¬ (I a0 4) = 0 → o = .inl (some (.int (1 : Int32))) ∧ σo = (mS L I J h z))))))) : Run 69 0 [(0, .ref a0)] [] (mS L I J h z) o σo :=
  Run.blk k69_0 c69_0 (And.intro (oK_isO hw0) (And.intro (fun c1 => (Run.blk (μ := 69) (pc := 35) k69_35 c69_35 (Run.blk (μ := 69) (pc := 40) k69_40 c69_40 (ret_i rt69 rfl (H.1 c1))))) (fun c1 => (And.intro (oK_isO hw0) (And.intro (fun c2 => (Run.blk (μ := 69) (pc := 35) k69_35 c69_35 (Run.blk (μ := 69) (pc := 40) k69_40 c69_40 (ret_i rt69 rfl ((H.2 c1).1 c2))))) (fun c2 => (And.intro (oK_isO hw0) (And.intro (fun c3 => (Run.blk (μ := 69) (pc := 35) k69_35 c69_35 (Run.blk (μ := 69) (pc := 40) k69_40 c69_40 (ret_i rt69 rfl (((H.2 c1).2 c2).1 c3))))) (fun c3 => (And.intro (oK_isO hw0) (And.intro (fun c4 => (Run.blk (μ := 69) (pc := 35) k69_35 c69_35 (Run.blk (μ := 69) (pc := 40) k69_40 c69_40 (ret_i rt69 rfl ((((H.2 c1).2 c2).2 c3).1 c4))))) (fun c4 => (And.intro (oK_isO hw0) (And.intro (fun c5 => (Run.blk (μ := 69) (pc := 39) k69_39 c69_39 (ret_i rt69 rfl (((((H.2 c1).2 c2).2 c3).2 c4).1 c5)))) (fun c5 => (Run.blk (μ := 69) (pc := 40) k69_40 c69_40 (ret_i rt69 rfl (((((H.2 c1).2 c2).2 c3).2 c4).2 c5))))))))))))))))))
-- J7_fill_d0a16
theorem rt154 : eRt 154 = none := by decide +kernel
theorem rx154 : ¬ eKd 154 = 3 := by decide +kernel
theorem ry154 : ¬ eKd 154 = 4 := by decide +kernel
abbrev k154_0 : List (Instr × Nat) := [(.iconst 0, 1), (.istore_n 3, 1), (.aload_n 0, 1), (.arraylength, 1), (.istore 4, 2)]
theorem c154_0 : chk 154 0 k154_0 = true := by decide +kernel
abbrev k154_6 : List (Instr × Nat) := [(.iload_n 3, 1), (.iload 4, 2), (.if_icmp .ge 13, 3), (.aload_n 0, 1), (.iload_n 3, 1), (.lload_n 1, 1), (.lastore, 1), (.iinc 3 1, 3), (.goto (-13), 3)]
theorem c154_6 : chk 154 6 k154_6 = true := by decide +kernel
abbrev k154_22 : List (Instr × Nat) := [(.return_, 1)]
theorem c154_22 : chk 154 22 k154_22 = true := by decide +kernel
theorem r154_0 {o : eO} {σo : eS} {L h z : Nat} {I : Nat → Nat → Int32} {J : Nat → Nat → Int64} {y1 : Int64} {a0 : Nat} {n0 : Nat} (hk0 : aK a0 .long n0) (H : Run 154 6 [(0, .ref a0), (1, .long y1), (3, .int (0 : Int32)), (4, .int (Int32.ofNat n0))] [] (mS L I J h z) o σo) : Run 154 0 [(0, .ref a0), (1, .long y1)] [] (mS L I J h z) o σo :=
  Run.blk k154_0 c154_0 (Exists.intro .long (Exists.intro n0 (And.intro (aK_isA hk0) (Run.sub [(0, .ref a0), (1, .long y1), (3, .int (0 : Int32)), (4, .int (Int32.ofNat n0))] (sub_pick [2, 3, 1, 0] rfl) H))))
theorem r154_6 {o : eO} {σo : eS} {L h z : Nat} {I : Nat → Nat → Int32} {J : Nat → Nat → Int64} {x3 x4 : Int32} {y1 : Int64} {a0 : Nat} {n0 : Nat} (hk0 : aK a0 .long n0) (H : (x4 ≤ x3 → o = .inl none ∧ σo = (mS L I J h z)) ∧ (¬ x4 ≤ x3 → vp_in x3 n0 ∧ Run 154 6 [(0, .ref a0), (1, .long y1), (3, .int (x3 + 1)), (4, .int x4)] [] (mS L I (u2 J a0 x3.toNatClampNeg y1) h z) o σo)) : Run 154 6 [(0, .ref a0), (1, .long y1), (3, .int x3), (4, .int x4)] [] (mS L I J h z) o σo :=
  Run.blk k154_6 c154_6 (And.intro (fun c1 => (Run.blk (μ := 154) (pc := 22) k154_22 c154_22 (And.intro rt154 (H.1 c1)))) (fun c1 => (Exists.intro n0 (And.intro hk0.1 (And.intro (aK_isA hk0) (And.intro (H.2 c1).1 (Run.sub [(0, .ref a0), (1, .long y1), (3, .int (x3 + 1)), (4, .int x4)] (sub_pick [1, 2, 0, 3] rfl) (H.2 c1).2)))))))
-- J7_fill_53178
theorem rt155 : eRt 155 = none := by decide +kernel
theorem rx155 : ¬ eKd 155 = 3 := by decide +kernel
theorem ry155 : ¬ eKd 155 = 4 := by decide +kernel
abbrev k155_0 : List (Instr × Nat) := [(.iconst 0, 1), (.istore_n 2, 1), (.aload_n 0, 1), (.arraylength, 1), (.istore_n 3, 1)]
theorem c155_0 : chk 155 0 k155_0 = true := by decide +kernel
abbrev k155_5 : List (Instr × Nat) := [(.iload_n 2, 1), (.iload_n 3, 1), (.if_icmp .ge 13, 3), (.aload_n 0, 1), (.iload_n 2, 1), (.iload_n 1, 1), (.iastore, 1), (.iinc 2 1, 3), (.goto (-12), 3)]
theorem c155_5 : chk 155 5 k155_5 = true := by decide +kernel
abbrev k155_20 : List (Instr × Nat) := [(.return_, 1)]
theorem c155_20 : chk 155 20 k155_20 = true := by decide +kernel
theorem r155_0 {o : eO} {σo : eS} {L h z : Nat} {I : Nat → Nat → Int32} {J : Nat → Nat → Int64} {x1 : Int32} {a0 : Nat} {n0 : Nat} (hk0 : aK a0 .int n0) (H : Run 155 5 [(0, .ref a0), (1, .int x1), (2, .int (0 : Int32)), (3, .int (Int32.ofNat n0))] [] (mS L I J h z) o σo) : Run 155 0 [(0, .ref a0), (1, .int x1)] [] (mS L I J h z) o σo :=
  Run.blk k155_0 c155_0 (Exists.intro .int (Exists.intro n0 (And.intro (aK_isA hk0) (Run.sub [(0, .ref a0), (1, .int x1), (2, .int (0 : Int32)), (3, .int (Int32.ofNat n0))] (sub_pick [2, 3, 1, 0] rfl) H))))
theorem r155_5 {o : eO} {σo : eS} {L h z : Nat} {I : Nat → Nat → Int32} {J : Nat → Nat → Int64} {x1 x2 x3 : Int32} {a0 : Nat} {n0 : Nat} (hk0 : aK a0 .int n0) (H : (x3 ≤ x2 → o = .inl none ∧ σo = (mS L I J h z)) ∧ (¬ x3 ≤ x2 → vp_in x2 n0 ∧ Run 155 5 [(0, .ref a0), (1, .int x1), (2, .int (x2 + 1)), (3, .int x3)] [] (mS L (u2 I a0 x2.toNatClampNeg x1) J h z) o σo)) : Run 155 5 [(0, .ref a0), (1, .int x1), (2, .int x2), (3, .int x3)] [] (mS L I J h z) o σo :=
  Run.blk k155_5 c155_5 (And.intro (fun c1 => (Run.blk (μ := 155) (pc := 20) k155_20 c155_20 (And.intro rt155 (H.1 c1)))) (fun c1 => (Exists.intro n0 (And.intro hk0.1 (And.intro (aK_isA hk0) (And.intro (H.2 c1).1 (Run.sub [(0, .ref a0), (1, .int x1), (2, .int (x2 + 1)), (3, .int x3)] (sub_pick [1, 2, 0, 3] rfl) (H.2 c1).2)))))))
