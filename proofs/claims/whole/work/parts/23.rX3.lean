/-! Rules of the methods: what each asks, from cut point to cut point (laid by gen_rules.py). -/
-- X3_make
theorem rt26 : eRt 26 = none := by decide +kernel
theorem gw27 : 1 ≤ eL 27 := by decide +kernel
theorem rk27 : eKd 27 = 0 ∨ eKd 27 = 2 := by decide +kernel
theorem rc27 : eC 27 = 3 := by decide +kernel
theorem gw155 : 2 ≤ eL 155 := by decide +kernel
theorem rk155 : ¬ eKd 155 = 0 := by decide +kernel
theorem rj155 : ¬ eKd 155 = 2 := by decide +kernel
theorem rx26 : ¬ eKd 26 = 3 := by decide +kernel
theorem ry26 : ¬ eKd 26 = 4 := by decide +kernel
abbrev k26_0 : List (Instr × Nat) := [(.aload_n 0, 1), (.iconst 1, 1), (.putfield 197, 3), (.aload_n 0, 1), (.iload_n 1, 1), (.putfield 198, 3), (.aload_n 0, 1), (.iload_n 2, 1), (.putfield 199, 3), (.aload_n 0, 1), (.iload_n 3, 1), (.putfield 200, 3), (.aload_n 0, 1), (.getfield 192, 3), (.iconst 0, 1), (.invokeinterface 155 2, 3), (.aload_n 0, 1), (.invokeinterface 27 1, 3), (.return_, 1)]
theorem c26_0 : chk 26 0 k26_0 = true := by decide +kernel
theorem r26_0 {o : eO} {σo : eS} {L h z : Nat} {I : Nat → Nat → Int32} {J : Nat → Nat → Int64} {x1 x2 x3 : Int32} {a0 : Nat} (hw0 : w3 a0) (H : (∃ I1 : Nat → Nat → Int32, ∃ J2 : Nat → Nat → Int64, Den 155 [.ref (R0 a0 0), .int (0 : Int32)] (mS L (u2 (u2 (u2 (u2 I a0 5 (1 : Int32)) a0 6 x1) a0 7 x2) a0 8 x3) J h z) (.inl none) (mS L I1 J2 h z) ∧ (∃ I3 : Nat → Nat → Int32, ∃ J4 : Nat → Nat → Int64, Den 27 [.ref a0] (mS L I1 J2 h z) (.inl none) (mS L I3 J4 h z) ∧ o = .inl none ∧ σo = (mS L I3 J4 h z)))) : Run 26 0 [(0, .ref a0), (1, .int x1), (2, .int x2), (3, .int x3)] [] (mS L I J h z) o σo :=
  Run.blk k26_0 c26_0 (And.intro (oK_isO (w3_o hw0)) (And.intro ⟨rfl, rfl⟩ (And.intro (oK_isO (w3_o hw0)) (And.intro ⟨rfl, rfl⟩ (And.intro (oK_isO (w3_o hw0)) (And.intro ⟨rfl, rfl⟩ (And.intro (oK_isO (w3_o hw0)) (And.intro ⟨rfl, rfl⟩ (And.intro (oK_isO (w3_o hw0)) (And.intro (a_nz (w3_a0 hw0)) (And.intro (Nat.le_of_ble_eq_true rfl) (And.intro gw155 (And.intro (Nat.le_of_ble_eq_true rfl) (And.intro (recv_s (q := 155) rk155 rj155) (Exists.elim H (fun I1 h9 => Exists.elim h9 (fun J2 h10 => have h5 := h10; (Or.inl (Exists.intro none (Exists.intro (mS L I1 J2 h z) (And.intro h5.1 (And.intro (Nat.le_of_ble_eq_true rfl) (And.intro gw27 (And.intro (Nat.le_of_ble_eq_true rfl) (And.intro (recv_o (q := 27) rk27 rc27 (oK_isO (w3_o hw0))) (Exists.elim h5.2 (fun I3 h7 => Exists.elim h7 (fun J4 h8 => have h6 := h8; (Or.inl (Exists.intro none (Exists.intro (mS L I3 J4 h z) (And.intro h6.1 (And.intro rt26 h6.2)))))))))))))))))))))))))))))))))
-- X3_forgetGiven
theorem rt27 : eRt 27 = none := by decide +kernel
theorem rx27 : ¬ eKd 27 = 3 := by decide +kernel
theorem ry27 : ¬ eKd 27 = 4 := by decide +kernel
abbrev k27_0 : List (Instr × Nat) := [(.aload_n 0, 1), (.iconst 0, 1), (.putfield 196, 3), (.aload_n 0, 1), (.getfield 193, 3), (.iconst 0, 1), (.invokeinterface 155 2, 3), (.return_, 1)]
theorem c27_0 : chk 27 0 k27_0 = true := by decide +kernel
theorem r27_0 {o : eO} {σo : eS} {L h z : Nat} {I : Nat → Nat → Int32} {J : Nat → Nat → Int64} {a0 : Nat} (hw0 : w3 a0) (H : (∃ I1 : Nat → Nat → Int32, ∃ J2 : Nat → Nat → Int64, Den 155 [.ref (R0 a0 1), .int (0 : Int32)] (mS L (u2 I a0 4 (0 : Int32)) J h z) (.inl none) (mS L I1 J2 h z) ∧ o = .inl none ∧ σo = (mS L I1 J2 h z))) : Run 27 0 [(0, .ref a0)] [] (mS L I J h z) o σo :=
  Run.blk k27_0 c27_0 (And.intro (oK_isO (w3_o hw0)) (And.intro ⟨rfl, rfl⟩ (And.intro (oK_isO (w3_o hw0)) (And.intro (a_nz (w3_a1 hw0)) (And.intro (Nat.le_of_ble_eq_true rfl) (And.intro gw155 (And.intro (Nat.le_of_ble_eq_true rfl) (And.intro (recv_s (q := 155) rk155 rj155) (Exists.elim H (fun I1 h4 => Exists.elim h4 (fun J2 h5 => have h3 := h5; (Or.inl (Exists.intro none (Exists.intro (mS L I1 J2 h z) (And.intro h3.1 (And.intro rt27 h3.2))))))))))))))))
-- X3_give
theorem rt28 : eRt 28 = some .int := by decide +kernel
theorem gw29 : 2 ≤ eL 29 := by decide +kernel
theorem rk29 : eKd 29 = 0 ∨ eKd 29 = 2 := by decide +kernel
theorem rc29 : eC 29 = 3 := by decide +kernel
theorem rx28 : ¬ eKd 28 = 3 := by decide +kernel
theorem ry28 : ¬ eKd 28 = 4 := by decide +kernel
abbrev k28_0 : List (Instr × Nat) := [(.aload_n 0, 1), (.getfield 196, 3), (.iconst 16, 2), (.if_icmp .lt 5, 3), (.iconst (-1), 1), (.ireturn, 1)]
theorem c28_0 : chk 28 0 k28_0 = true := by decide +kernel
abbrev k28_11 : List (Instr × Nat) := [(.aload_n 0, 1), (.getfield 199, 3), (.istore_n 2, 1)]
theorem c28_11 : chk 28 11 k28_11 = true := by decide +kernel
abbrev k28_16 : List (Instr × Nat) := [(.iload_n 2, 1), (.aload_n 1, 1), (.getfield 135, 3), (.if_icmp .ge 86, 3), (.aload_n 0, 1), (.getfield 192, 3), (.iload_n 2, 1), (.iaload, 1), (.ifCond .ne 71, 3), (.aload_n 0, 1), (.iload_n 2, 1), (.invokeinterface 29 2, 3), (.ifCond .ne 63, 3), (.aload_n 1, 1), (.aload_n 0, 1), (.getfield 198, 3), (.iload_n 2, 1), (.invokeinterface 14 3, 3), (.ifCond .eq 51, 3), (.aload_n 0, 1), (.getfield 194, 3), (.aload_n 0, 1), (.getfield 196, 3), (.iload_n 2, 1), (.iastore, 1), (.aload_n 0, 1), (.getfield 195, 3), (.aload_n 0, 1), (.getfield 196, 3), (.aload_n 1, 1), (.getfield 136, 3), (.iconst 8, 2), (.iadd, 1), (.iastore, 1), (.aload_n 0, 1), (.dup, 1), (.getfield 196, 3), (.iconst 1, 1), (.iadd, 1), (.putfield 196, 3), (.aload_n 0, 1), (.getfield 193, 3), (.iload_n 2, 1), (.dup2, 1), (.iaload, 1), (.iconst 1, 1), (.iadd, 1), (.iastore, 1), (.iload_n 2, 1), (.ireturn, 1)]
theorem c28_16 : chk 28 16 k28_16 = true := by decide +kernel
abbrev k28_101 : List (Instr × Nat) := [(.iinc 2 1, 3), (.goto (-88), 3)]
theorem c28_101 : chk 28 101 k28_101 = true := by decide +kernel
abbrev k28_107 : List (Instr × Nat) := [(.iconst (-1), 1), (.ireturn, 1)]
theorem c28_107 : chk 28 107 k28_107 = true := by decide +kernel
theorem r28_0 {o : eO} {σo : eS} {L h z : Nat} {I : Nat → Nat → Int32} {J : Nat → Nat → Int64} {a0 : Nat} (hw0 : w3 a0) (H : ((I a0 4) < (16 : Int32) → Run 28 16 [(0, .ref a0), (1, .ref 10), (2, .int (I a0 7))] [] (mS L I J h z) o σo) ∧ (¬ (I a0 4) < (16 : Int32) → o = .inl (some (.int (-1 : Int32))) ∧ σo = (mS L I J h z))) : Run 28 0 [(0, .ref a0), (1, .ref 10)] [] (mS L I J h z) o σo :=
  Run.blk k28_0 c28_0 (And.intro (oK_isO (w3_o hw0)) (And.intro (fun c1 => (Run.blk (μ := 28) (pc := 11) k28_11 c28_11 (And.intro (oK_isO (w3_o hw0)) (Run.sub [(0, .ref a0), (1, .ref 10), (2, .int (I a0 7))] (sub_pick [1, 2, 0] rfl) (H.1 c1))))) (fun c1 => (ret_i rt28 rfl (H.2 c1)))))
theorem r28_16 {o : eO} {σo : eS} {L h z : Nat} {I : Nat → Nat → Int32} {J : Nat → Nat → Int64} {x2 : Int32} {a0 : Nat} (hw0 : w3 a0) (H : ((I 10 7) ≤ x2 → o = .inl (some (.int (-1 : Int32))) ∧ σo = (mS L I J h z)) ∧ (¬ (I 10 7) ≤ x2 → vp_in x2 2500 ∧ (¬ (I (R0 a0 0) x2.toNatClampNeg) = 0 → Run 28 16 [(0, .ref a0), (1, .ref 10), (2, .int (x2 + 1))] [] (mS L I J h z) o σo) ∧ ((I (R0 a0 0) x2.toNatClampNeg) = 0 → (∃ v4 : Int32, Den 29 [.ref a0, .int x2] (mS L I J h z) (.inl (some (.int v4))) (mS L I J h z) ∧ (¬ v4 = 0 → Run 28 16 [(0, .ref a0), (1, .ref 10), (2, .int (x2 + 1))] [] (mS L I J h z) o σo) ∧ (v4 = 0 → (∃ v6 : Int32, Den 14 [.ref 10, .int (I a0 6), .int x2] (mS L I J h z) (.inl (some (.int v6))) (mS L I J h z) ∧ (v6 = 0 → Run 28 16 [(0, .ref a0), (1, .ref 10), (2, .int (x2 + 1))] [] (mS L I J h z) o σo) ∧ (¬ v6 = 0 → vp_in (I a0 4) 16 ∧ vp_in ((u2 I (R0 a0 2) ((I a0 4).toNatClampNeg) x2) a0 4) 16 ∧ o = .inl (some (.int x2)) ∧ σo = (mS L (u2 (u2 (u2 (u2 I (R0 a0 2) ((I a0 4).toNatClampNeg) x2) (R0 a0 3) (((u2 I (R0 a0 2) ((I a0 4).toNatClampNeg) x2) a0 4).toNatClampNeg) (((u2 I (R0 a0 2) ((I a0 4).toNatClampNeg) x2) 10 8) + (8 : Int32))) a0 4 (((u2 (u2 I (R0 a0 2) ((I a0 4).toNatClampNeg) x2) (R0 a0 3) (((u2 I (R0 a0 2) ((I a0 4).toNatClampNeg) x2) a0 4).toNatClampNeg) (((u2 I (R0 a0 2) ((I a0 4).toNatClampNeg) x2) 10 8) + (8 : Int32))) a0 4) + (1 : Int32))) (R0 a0 1) x2.toNatClampNeg (((u2 (u2 (u2 I (R0 a0 2) ((I a0 4).toNatClampNeg) x2) (R0 a0 3) (((u2 I (R0 a0 2) ((I a0 4).toNatClampNeg) x2) a0 4).toNatClampNeg) (((u2 I (R0 a0 2) ((I a0 4).toNatClampNeg) x2) 10 8) + (8 : Int32))) a0 4 (((u2 (u2 I (R0 a0 2) ((I a0 4).toNatClampNeg) x2) (R0 a0 3) (((u2 I (R0 a0 2) ((I a0 4).toNatClampNeg) x2) a0 4).toNatClampNeg) (((u2 I (R0 a0 2) ((I a0 4).toNatClampNeg) x2) 10 8) + (8 : Int32))) a0 4) + (1 : Int32))) (R0 a0 1) x2.toNatClampNeg) + (1 : Int32))) J h z)))))))) : Run 28 16 [(0, .ref a0), (1, .ref 10), (2, .int x2)] [] (mS L I J h z) o σo :=
  Run.blk k28_16 c28_16 (And.intro (oK_isO kO_10) (And.intro (fun c2 => (Run.blk (μ := 28) (pc := 107) k28_107 c28_107 (ret_i rt28 rfl (H.1 c2)))) (fun c2 => (And.intro (oK_isO (w3_o hw0)) (And.intro (a_nz (w3_a0 hw0)) (Exists.intro 2500 (And.intro (aK_isA (w3_a0 hw0)) (And.intro (H.2 c2).1 (And.intro (fun c3 => (Run.blk (μ := 28) (pc := 101) k28_101 c28_101 (Run.sub [(0, .ref a0), (1, .ref 10), (2, .int (x2 + 1))] (sub_pick [1, 2, 0] rfl) ((H.2 c2).2.1 c3)))) (fun c3 => (And.intro (Nat.le_of_ble_eq_true rfl) (And.intro gw29 (And.intro (Nat.le_of_ble_eq_true rfl) (And.intro (recv_o (q := 29) rk29 rc29 (oK_isO (w3_o hw0))) (Exists.elim ((H.2 c2).2.2 c3) (fun v4 h11 => have h8 := h11; (Or.inl (Exists.intro (some (.int v4)) (Exists.intro (mS L I J h z) (And.intro h8.1 (And.intro (fun c5 => (Run.blk (μ := 28) (pc := 101) k28_101 c28_101 (Run.sub [(0, .ref a0), (1, .ref 10), (2, .int (x2 + 1))] (sub_pick [1, 2, 0] rfl) (h8.2.1 c5)))) (fun c5 => (And.intro (oK_isO (w3_o hw0)) (And.intro (Nat.le_of_ble_eq_true rfl) (And.intro gw14 (And.intro (Nat.le_of_ble_eq_true rfl) (And.intro (recv_o (q := 14) rk14 rc14 (oK_isO kO_10)) (Exists.elim (h8.2.2 c5) (fun v6 h10 => have h9 := h10; (Or.inl (Exists.intro (some (.int v6)) (Exists.intro (mS L I J h z) (And.intro h9.1 (And.intro (fun c7 => (Run.blk (μ := 28) (pc := 101) k28_101 c28_101 (Run.sub [(0, .ref a0), (1, .ref 10), (2, .int (x2 + 1))] (sub_pick [1, 2, 0] rfl) (h9.2.1 c7)))) (fun c7 => (And.intro (oK_isO (w3_o hw0)) (And.intro (a_nz (w3_a2 hw0)) (And.intro (oK_isO (w3_o hw0)) (Exists.intro 16 (And.intro (w3_a2 hw0).1 (And.intro (aK_isA (w3_a2 hw0)) (And.intro (h9.2.2 c7).1 (And.intro (oK_isO (w3_o hw0)) (And.intro (a_nz (w3_a3 hw0)) (And.intro (oK_isO (w3_o hw0)) (And.intro (oK_isO kO_10) (Exists.intro 16 (And.intro (w3_a3 hw0).1 (And.intro (aK_isA (w3_a3 hw0)) (And.intro (h9.2.2 c7).2.1 (And.intro rfl (And.intro (oK_isO (w3_o hw0)) (And.intro (oK_isO (w3_o hw0)) (And.intro ⟨rfl, rfl⟩ (And.intro (oK_isO (w3_o hw0)) (And.intro (a_nz (w3_a1 hw0)) (And.intro rfl (And.intro rfl (Exists.intro 2500 (And.intro (aK_isA (w3_a1 hw0)) (And.intro (H.2 c2).1 (Exists.intro 2500 (And.intro (w3_a1 hw0).1 (And.intro (aK_isA (w3_a1 hw0)) (And.intro (H.2 c2).1 (ret_i rt28 rfl (h9.2.2 c7).2.2))))))))))))))))))))))))))))))))))))))))))))))))))))))))))))))))))
-- X3_isOut
theorem rt29 : eRt 29 = some .boolean := by decide +kernel
theorem gw37 : 2 ≤ eL 37 := by decide +kernel
theorem rk37 : eKd 37 = 0 ∨ eKd 37 = 2 := by decide +kernel
theorem rc37 : eC 37 = 3 := by decide +kernel
theorem rx29 : ¬ eKd 29 = 3 := by decide +kernel
theorem ry29 : ¬ eKd 29 = 4 := by decide +kernel
abbrev k29_0 : List (Instr × Nat) := [(.aload_n 0, 1), (.iload_n 1, 1), (.invokeinterface 37 2, 3), (.iconst (-1), 1), (.if_icmp .eq 7, 3), (.iconst 1, 1), (.goto 4, 3)]
theorem c29_0 : chk 29 0 k29_0 = true := by decide +kernel
abbrev k29_13 : List (Instr × Nat) := [(.iconst 0, 1), (.ireturn, 1)]
theorem c29_13 : chk 29 13 k29_13 = true := by decide +kernel
abbrev k29_14 : List (Instr × Nat) := [(.ireturn, 1)]
theorem c29_14 : chk 29 14 k29_14 = true := by decide +kernel
theorem r29_0 {o : eO} {σo : eS} {L h z : Nat} {I : Nat → Nat → Int32} {J : Nat → Nat → Int64} {x1 : Int32} {a0 : Nat} (hw0 : w3 a0) (H : (∃ v1 : Int32, Den 37 [.ref a0, .int x1] (mS L I J h z) (.inl (some (.int v1))) (mS L I J h z) ∧ (v1 = (-1 : Int32) → o = .inl (some (.int (0 : Int32))) ∧ σo = (mS L I J h z)) ∧ (¬ v1 = (-1 : Int32) → o = .inl (some (.int (1 : Int32))) ∧ σo = (mS L I J h z)))) : Run 29 0 [(0, .ref a0), (1, .int x1)] [] (mS L I J h z) o σo :=
  Run.blk k29_0 c29_0 (And.intro (Nat.le_of_ble_eq_true rfl) (And.intro gw37 (And.intro (Nat.le_of_ble_eq_true rfl) (And.intro (recv_o (q := 37) rk37 rc37 (oK_isO (w3_o hw0))) (Exists.elim H (fun v1 h4 => have h3 := h4; (Or.inl (Exists.intro (some (.int v1)) (Exists.intro (mS L I J h z) (And.intro h3.1 (And.intro (fun c2 => (Run.blk (μ := 29) (pc := 13) k29_13 c29_13 (ret_i rt29 rfl (h3.2.1 c2)))) (fun c2 => (Run.blk (μ := 29) (pc := 14) k29_14 c29_14 (ret_i rt29 rfl (h3.2.2 c2)))))))))))))))
-- X3_isSpent
theorem rt30 : eRt 30 = some .boolean := by decide +kernel
theorem rx30 : ¬ eKd 30 = 3 := by decide +kernel
theorem ry30 : ¬ eKd 30 = 4 := by decide +kernel
abbrev k30_0 : List (Instr × Nat) := [(.aload_n 0, 1), (.getfield 193, 3), (.iload_n 1, 1), (.iaload, 1), (.aload_n 0, 1), (.getfield 200, 3), (.if_icmp .le 7, 3), (.iconst 1, 1), (.goto 4, 3)]
theorem c30_0 : chk 30 0 k30_0 = true := by decide +kernel
abbrev k30_17 : List (Instr × Nat) := [(.iconst 0, 1), (.ireturn, 1)]
theorem c30_17 : chk 30 17 k30_17 = true := by decide +kernel
abbrev k30_18 : List (Instr × Nat) := [(.ireturn, 1)]
theorem c30_18 : chk 30 18 k30_18 = true := by decide +kernel
theorem r30_0 {o : eO} {σo : eS} {L h z : Nat} {I : Nat → Nat → Int32} {J : Nat → Nat → Int64} {x1 : Int32} {a0 : Nat} (hw0 : w3 a0) (H : vp_in x1 2500 ∧ ((I (R0 a0 1) x1.toNatClampNeg) ≤ (I a0 8) → o = .inl (some (.int (0 : Int32))) ∧ σo = (mS L I J h z)) ∧ (¬ (I (R0 a0 1) x1.toNatClampNeg) ≤ (I a0 8) → o = .inl (some (.int (1 : Int32))) ∧ σo = (mS L I J h z))) : Run 30 0 [(0, .ref a0), (1, .int x1)] [] (mS L I J h z) o σo :=
  Run.blk k30_0 c30_0 (And.intro (oK_isO (w3_o hw0)) (And.intro (a_nz (w3_a1 hw0)) (Exists.intro 2500 (And.intro (aK_isA (w3_a1 hw0)) (And.intro H.1 (And.intro (oK_isO (w3_o hw0)) (And.intro (fun c1 => (Run.blk (μ := 30) (pc := 17) k30_17 c30_17 (ret_i rt30 rfl (H.2.1 c1)))) (fun c1 => (Run.blk (μ := 30) (pc := 18) k30_18 c30_18 (ret_i rt30 rfl (H.2.2 c1)))))))))))
-- X3_finish
theorem rt31 : eRt 31 = none := by decide +kernel
theorem gw38 : 2 ≤ eL 38 := by decide +kernel
theorem rk38 : eKd 38 = 0 ∨ eKd 38 = 2 := by decide +kernel
theorem rc38 : eC 38 = 3 := by decide +kernel
theorem rx31 : ¬ eKd 31 = 3 := by decide +kernel
theorem ry31 : ¬ eKd 31 = 4 := by decide +kernel
abbrev k31_0 : List (Instr × Nat) := [(.aload_n 0, 1), (.aload_n 0, 1), (.iload_n 1, 1), (.invokeinterface 37 2, 3), (.invokeinterface 38 2, 3), (.aload_n 0, 1), (.getfield 192, 3), (.iload_n 1, 1), (.iconst 1, 1), (.iastore, 1), (.return_, 1)]
theorem c31_0 : chk 31 0 k31_0 = true := by decide +kernel
theorem r31_0 {o : eO} {σo : eS} {L h z : Nat} {I : Nat → Nat → Int32} {J : Nat → Nat → Int64} {x1 : Int32} {a0 : Nat} (hw0 : w3 a0) (H : (∃ v1 : Int32, Den 37 [.ref a0, .int x1] (mS L I J h z) (.inl (some (.int v1))) (mS L I J h z) ∧ (∃ I2 : Nat → Nat → Int32, ∃ J3 : Nat → Nat → Int64, Den 38 [.ref a0, .int v1] (mS L I J h z) (.inl none) (mS L I2 J3 h z) ∧ vp_in x1 2500 ∧ o = .inl none ∧ σo = (mS L (u2 I2 (R0 a0 0) x1.toNatClampNeg (1 : Int32)) J3 h z)))) : Run 31 0 [(0, .ref a0), (1, .int x1)] [] (mS L I J h z) o σo :=
  Run.blk k31_0 c31_0 (And.intro (Nat.le_of_ble_eq_true rfl) (And.intro gw37 (And.intro (Nat.le_of_ble_eq_true rfl) (And.intro (recv_o (q := 37) rk37 rc37 (oK_isO (w3_o hw0))) (Exists.elim H (fun v1 h8 => have h4 := h8; (Or.inl (Exists.intro (some (.int v1)) (Exists.intro (mS L I J h z) (And.intro h4.1 (And.intro (Nat.le_of_ble_eq_true rfl) (And.intro gw38 (And.intro (Nat.le_of_ble_eq_true rfl) (And.intro (recv_o (q := 38) rk38 rc38 (oK_isO (w3_o hw0))) (Exists.elim h4.2 (fun I2 h6 => Exists.elim h6 (fun J3 h7 => have h5 := h7; (Or.inl (Exists.intro none (Exists.intro (mS L I2 J3 h z) (And.intro h5.1 (And.intro (oK_isO (w3_o hw0)) (And.intro (a_nz (w3_a0 hw0)) (Exists.intro 2500 (And.intro (w3_a0 hw0).1 (And.intro (aK_isA (w3_a0 hw0)) (And.intro h5.2.1 (And.intro rt31 h5.2.2))))))))))))))))))))))))))))
-- X3_takeBack
theorem rt32 : eRt 32 = none := by decide +kernel
theorem gw30 : 2 ≤ eL 30 := by decide +kernel
theorem rk30 : eKd 30 = 0 ∨ eKd 30 = 2 := by decide +kernel
theorem rc30 : eC 30 = 3 := by decide +kernel
theorem rx32 : ¬ eKd 32 = 3 := by decide +kernel
theorem ry32 : ¬ eKd 32 = 4 := by decide +kernel
abbrev k32_0 : List (Instr × Nat) := [(.aload_n 0, 1), (.aload_n 0, 1), (.iload_n 1, 1), (.invokeinterface 37 2, 3), (.invokeinterface 38 2, 3), (.aload_n 0, 1), (.iload_n 1, 1), (.invokeinterface 30 2, 3), (.ifCond .eq 10, 3), (.aload_n 0, 1), (.getfield 192, 3), (.iload_n 1, 1), (.iconst 2, 1), (.iastore, 1), (.return_, 1)]
theorem c32_0 : chk 32 0 k32_0 = true := by decide +kernel
abbrev k32_24 : List (Instr × Nat) := [(.return_, 1)]
theorem c32_24 : chk 32 24 k32_24 = true := by decide +kernel
theorem r32_0 {o : eO} {σo : eS} {L h z : Nat} {I : Nat → Nat → Int32} {J : Nat → Nat → Int64} {x1 : Int32} {a0 : Nat} (hw0 : w3 a0) (H : (∃ v1 : Int32, Den 37 [.ref a0, .int x1] (mS L I J h z) (.inl (some (.int v1))) (mS L I J h z) ∧ (∃ I2 : Nat → Nat → Int32, ∃ J3 : Nat → Nat → Int64, Den 38 [.ref a0, .int v1] (mS L I J h z) (.inl none) (mS L I2 J3 h z) ∧ (∃ v4 : Int32, Den 30 [.ref a0, .int x1] (mS L I2 J3 h z) (.inl (some (.int v4))) (mS L I2 J3 h z) ∧ (v4 = 0 → o = .inl none ∧ σo = (mS L I2 J3 h z)) ∧ (¬ v4 = 0 → vp_in x1 2500 ∧ o = .inl none ∧ σo = (mS L (u2 I2 (R0 a0 0) x1.toNatClampNeg (2 : Int32)) J3 h z)))))) : Run 32 0 [(0, .ref a0), (1, .int x1)] [] (mS L I J h z) o σo :=
  Run.blk k32_0 c32_0 (And.intro (Nat.le_of_ble_eq_true rfl) (And.intro gw37 (And.intro (Nat.le_of_ble_eq_true rfl) (And.intro (recv_o (q := 37) rk37 rc37 (oK_isO (w3_o hw0))) (Exists.elim H (fun v1 h12 => have h6 := h12; (Or.inl (Exists.intro (some (.int v1)) (Exists.intro (mS L I J h z) (And.intro h6.1 (And.intro (Nat.le_of_ble_eq_true rfl) (And.intro gw38 (And.intro (Nat.le_of_ble_eq_true rfl) (And.intro (recv_o (q := 38) rk38 rc38 (oK_isO (w3_o hw0))) (Exists.elim h6.2 (fun I2 h10 => Exists.elim h10 (fun J3 h11 => have h7 := h11; (Or.inl (Exists.intro none (Exists.intro (mS L I2 J3 h z) (And.intro h7.1 (And.intro (Nat.le_of_ble_eq_true rfl) (And.intro gw30 (And.intro (Nat.le_of_ble_eq_true rfl) (And.intro (recv_o (q := 30) rk30 rc30 (oK_isO (w3_o hw0))) (Exists.elim h7.2 (fun v4 h9 => have h8 := h9; (Or.inl (Exists.intro (some (.int v4)) (Exists.intro (mS L I2 J3 h z) (And.intro h8.1 (And.intro (fun c5 => (Run.blk (μ := 32) (pc := 24) k32_24 c32_24 (And.intro rt32 (h8.2.1 c5)))) (fun c5 => (And.intro (oK_isO (w3_o hw0)) (And.intro (a_nz (w3_a0 hw0)) (Exists.intro 2500 (And.intro (w3_a0 hw0).1 (And.intro (aK_isA (w3_a0 hw0)) (And.intro (h8.2.2 c5).1 (And.intro rt32 (h8.2.2 c5).2))))))))))))))))))))))))))))))))))))))))
-- X3_takeBackDue
theorem rt33 : eRt 33 = none := by decide +kernel
theorem gw32 : 2 ≤ eL 32 := by decide +kernel
theorem rk32 : eKd 32 = 0 ∨ eKd 32 = 2 := by decide +kernel
theorem rc32 : eC 32 = 3 := by decide +kernel
theorem rx33 : ¬ eKd 33 = 3 := by decide +kernel
theorem ry33 : ¬ eKd 33 = 4 := by decide +kernel
abbrev k33_0 : List (Instr × Nat) := [(.aload_n 0, 1), (.getfield 196, 3), (.iconst 1, 1), (.isub, 1), (.istore_n 2, 1)]
theorem c33_0 : chk 33 0 k33_0 = true := by decide +kernel
abbrev k33_7 : List (Instr × Nat) := [(.iload_n 2, 1), (.ifCond .lt 29, 3), (.aload_n 0, 1), (.getfield 195, 3), (.iload_n 2, 1), (.iaload, 1), (.iload_n 1, 1), (.if_icmp .gt 13, 3), (.aload_n 0, 1), (.aload_n 0, 1), (.getfield 194, 3), (.iload_n 2, 1), (.iaload, 1), (.invokeinterface 32 2, 3), (.iinc 2 (-1), 3), (.goto (-27), 3)]
theorem c33_7 : chk 33 7 k33_7 = true := by decide +kernel
abbrev k33_31 : List (Instr × Nat) := [(.iinc 2 (-1), 3), (.goto (-27), 3)]
theorem c33_31 : chk 33 31 k33_31 = true := by decide +kernel
abbrev k33_37 : List (Instr × Nat) := [(.return_, 1)]
theorem c33_37 : chk 33 37 k33_37 = true := by decide +kernel
theorem r33_0 {o : eO} {σo : eS} {L h z : Nat} {I : Nat → Nat → Int32} {J : Nat → Nat → Int64} {x1 : Int32} {a0 : Nat} (hw0 : w3 a0) (H : Run 33 7 [(0, .ref a0), (1, .int x1), (2, .int ((I a0 4) - (1 : Int32)))] [] (mS L I J h z) o σo) : Run 33 0 [(0, .ref a0), (1, .int x1)] [] (mS L I J h z) o σo :=
  Run.blk k33_0 c33_0 (And.intro (oK_isO (w3_o hw0)) (Run.sub [(0, .ref a0), (1, .int x1), (2, .int ((I a0 4) - (1 : Int32)))] (sub_pick [1, 2, 0] rfl) H))
theorem r33_7 {o : eO} {σo : eS} {L h z : Nat} {I : Nat → Nat → Int32} {J : Nat → Nat → Int64} {x1 x2 : Int32} {a0 : Nat} (hw0 : w3 a0) (H : (x2 < 0 → o = .inl none ∧ σo = (mS L I J h z)) ∧ (¬ x2 < 0 → vp_in x2 16 ∧ (x1 < (I (R0 a0 3) x2.toNatClampNeg) → Run 33 7 [(0, .ref a0), (1, .int x1), (2, .int (x2 + (-1)))] [] (mS L I J h z) o σo) ∧ (¬ x1 < (I (R0 a0 3) x2.toNatClampNeg) → (∃ I3 : Nat → Nat → Int32, ∃ J4 : Nat → Nat → Int64, Den 32 [.ref a0, .int (I (R0 a0 2) x2.toNatClampNeg)] (mS L I J h z) (.inl none) (mS L I3 J4 h z) ∧ Run 33 7 [(0, .ref a0), (1, .int x1), (2, .int (x2 + (-1)))] [] (mS L I3 J4 h z) o σo)))) : Run 33 7 [(0, .ref a0), (1, .int x1), (2, .int x2)] [] (mS L I J h z) o σo :=
  Run.blk k33_7 c33_7 (And.intro (fun c1 => (Run.blk (μ := 33) (pc := 37) k33_37 c33_37 (And.intro rt33 (H.1 c1)))) (fun c1 => (And.intro (oK_isO (w3_o hw0)) (And.intro (a_nz (w3_a3 hw0)) (Exists.intro 16 (And.intro (aK_isA (w3_a3 hw0)) (And.intro (H.2 c1).1 (And.intro (fun c2 => (Run.blk (μ := 33) (pc := 31) k33_31 c33_31 (Run.sub [(0, .ref a0), (1, .int x1), (2, .int (x2 + (-1)))] (sub_pick [1, 2, 0] rfl) ((H.2 c1).2.1 c2)))) (fun c2 => (And.intro (oK_isO (w3_o hw0)) (And.intro (a_nz (w3_a2 hw0)) (Exists.intro 16 (And.intro (aK_isA (w3_a2 hw0)) (And.intro (H.2 c1).1 (And.intro (Nat.le_of_ble_eq_true rfl) (And.intro gw32 (And.intro (Nat.le_of_ble_eq_true rfl) (And.intro (recv_o (q := 32) rk32 rc32 (oK_isO (w3_o hw0))) (Exists.elim ((H.2 c1).2.2 c2) (fun I3 h6 => Exists.elim h6 (fun J4 h7 => have h5 := h7; (Or.inl (Exists.intro none (Exists.intro (mS L I3 J4 h z) (And.intro h5.1 (Run.sub [(0, .ref a0), (1, .int x1), (2, .int (x2 + (-1)))] (sub_pick [1, 2, 0] rfl) h5.2))))))))))))))))))))))))))
-- X3_countDue
theorem rt34 : eRt 34 = some .int := by decide +kernel
theorem rx34 : ¬ eKd 34 = 3 := by decide +kernel
theorem ry34 : ¬ eKd 34 = 4 := by decide +kernel
abbrev k34_0 : List (Instr × Nat) := [(.iconst 0, 1), (.istore_n 2, 1), (.iconst 0, 1), (.istore_n 3, 1)]
theorem c34_0 : chk 34 0 k34_0 = true := by decide +kernel
abbrev k34_4 : List (Instr × Nat) := [(.iload_n 3, 1), (.aload_n 0, 1), (.getfield 196, 3), (.if_icmp .ge 27, 3), (.iload_n 2, 1), (.aload_n 0, 1), (.getfield 195, 3), (.iload_n 3, 1), (.iaload, 1), (.iload_n 1, 1), (.if_icmp .gt 7, 3), (.iconst 1, 1), (.goto 4, 3)]
theorem c34_4 : chk 34 4 k34_4 = true := by decide +kernel
abbrev k34_27 : List (Instr × Nat) := [(.iconst 0, 1), (.iadd, 1), (.istore_n 2, 1), (.iinc 3 1, 3), (.goto (-29), 3)]
theorem c34_27 : chk 34 27 k34_27 = true := by decide +kernel
abbrev k34_28 : List (Instr × Nat) := [(.iadd, 1), (.istore_n 2, 1), (.iinc 3 1, 3), (.goto (-29), 3)]
theorem c34_28 : chk 34 28 k34_28 = true := by decide +kernel
abbrev k34_36 : List (Instr × Nat) := [(.iload_n 2, 1), (.ireturn, 1)]
theorem c34_36 : chk 34 36 k34_36 = true := by decide +kernel
theorem r34_0 {o : eO} {σo : eS} {L h z : Nat} {I : Nat → Nat → Int32} {J : Nat → Nat → Int64} {x1 : Int32} {a0 : Nat} (hw0 : w3 a0) (H : Run 34 4 [(0, .ref a0), (1, .int x1), (2, .int (0 : Int32)), (3, .int (0 : Int32))] [] (mS L I J h z) o σo) : Run 34 0 [(0, .ref a0), (1, .int x1)] [] (mS L I J h z) o σo :=
  Run.blk k34_0 c34_0 (Run.sub [(0, .ref a0), (1, .int x1), (2, .int (0 : Int32)), (3, .int (0 : Int32))] (sub_pick [2, 3, 1, 0] rfl) H)
theorem r34_4 {o : eO} {σo : eS} {L h z : Nat} {I : Nat → Nat → Int32} {J : Nat → Nat → Int64} {x1 x2 x3 : Int32} {a0 : Nat} (hw0 : w3 a0) (H : ((I a0 4) ≤ x3 → o = .inl (some (.int x2)) ∧ σo = (mS L I J h z)) ∧ (¬ (I a0 4) ≤ x3 → vp_in x3 16 ∧ (x1 < (I (R0 a0 3) x3.toNatClampNeg) → Run 34 4 [(0, .ref a0), (1, .int x1), (2, .int (x2 + (0 : Int32))), (3, .int (x3 + 1))] [] (mS L I J h z) o σo) ∧ (¬ x1 < (I (R0 a0 3) x3.toNatClampNeg) → Run 34 4 [(0, .ref a0), (1, .int x1), (2, .int (x2 + (1 : Int32))), (3, .int (x3 + 1))] [] (mS L I J h z) o σo))) : Run 34 4 [(0, .ref a0), (1, .int x1), (2, .int x2), (3, .int x3)] [] (mS L I J h z) o σo :=
  Run.blk k34_4 c34_4 (And.intro (oK_isO (w3_o hw0)) (And.intro (fun c1 => (Run.blk (μ := 34) (pc := 36) k34_36 c34_36 (ret_i rt34 rfl (H.1 c1)))) (fun c1 => (And.intro (oK_isO (w3_o hw0)) (And.intro (a_nz (w3_a3 hw0)) (Exists.intro 16 (And.intro (aK_isA (w3_a3 hw0)) (And.intro (H.2 c1).1 (And.intro (fun c2 => (Run.blk (μ := 34) (pc := 27) k34_27 c34_27 (Run.sub [(0, .ref a0), (1, .int x1), (2, .int (x2 + (0 : Int32))), (3, .int (x3 + 1))] (sub_pick [2, 3, 1, 0] rfl) ((H.2 c1).2.1 c2)))) (fun c2 => (Run.blk (μ := 34) (pc := 28) k34_28 c34_28 (Run.sub [(0, .ref a0), (1, .int x1), (2, .int (x2 + (1 : Int32))), (3, .int (x3 + 1))] (sub_pick [2, 3, 1, 0] rfl) ((H.2 c1).2.2 c2)))))))))))))
-- X3_countParkedBy
theorem rt35 : eRt 35 = some .int := by decide +kernel
theorem rx35 : ¬ eKd 35 = 3 := by decide +kernel
theorem ry35 : ¬ eKd 35 = 4 := by decide +kernel
abbrev k35_0 : List (Instr × Nat) := [(.iconst 0, 1), (.istore_n 2, 1), (.iconst 0, 1), (.istore_n 3, 1)]
theorem c35_0 : chk 35 0 k35_0 = true := by decide +kernel
abbrev k35_4 : List (Instr × Nat) := [(.iload_n 3, 1), (.aload_n 0, 1), (.getfield 196, 3), (.if_icmp .ge 40, 3), (.iload_n 2, 1), (.aload_n 0, 1), (.getfield 195, 3), (.iload_n 3, 1), (.iaload, 1), (.iload_n 1, 1), (.if_icmp .gt 20, 3), (.aload_n 0, 1), (.aload_n 0, 1), (.getfield 194, 3), (.iload_n 3, 1), (.iaload, 1), (.invokeinterface 30 2, 3), (.ifCond .eq 7, 3), (.iconst 1, 1), (.goto 4, 3)]
theorem c35_4 : chk 35 4 k35_4 = true := by decide +kernel
abbrev k35_40 : List (Instr × Nat) := [(.iconst 0, 1), (.iadd, 1), (.istore_n 2, 1), (.iinc 3 1, 3), (.goto (-42), 3)]
theorem c35_40 : chk 35 40 k35_40 = true := by decide +kernel
abbrev k35_41 : List (Instr × Nat) := [(.iadd, 1), (.istore_n 2, 1), (.iinc 3 1, 3), (.goto (-42), 3)]
theorem c35_41 : chk 35 41 k35_41 = true := by decide +kernel
abbrev k35_49 : List (Instr × Nat) := [(.iload_n 2, 1), (.ireturn, 1)]
theorem c35_49 : chk 35 49 k35_49 = true := by decide +kernel
theorem r35_0 {o : eO} {σo : eS} {L h z : Nat} {I : Nat → Nat → Int32} {J : Nat → Nat → Int64} {x1 : Int32} {a0 : Nat} (hw0 : w3 a0) (H : Run 35 4 [(0, .ref a0), (1, .int x1), (2, .int (0 : Int32)), (3, .int (0 : Int32))] [] (mS L I J h z) o σo) : Run 35 0 [(0, .ref a0), (1, .int x1)] [] (mS L I J h z) o σo :=
  Run.blk k35_0 c35_0 (Run.sub [(0, .ref a0), (1, .int x1), (2, .int (0 : Int32)), (3, .int (0 : Int32))] (sub_pick [2, 3, 1, 0] rfl) H)
theorem r35_4 {o : eO} {σo : eS} {L h z : Nat} {I : Nat → Nat → Int32} {J : Nat → Nat → Int64} {x1 x2 x3 : Int32} {a0 : Nat} (hw0 : w3 a0) (H : ((I a0 4) ≤ x3 → o = .inl (some (.int x2)) ∧ σo = (mS L I J h z)) ∧ (¬ (I a0 4) ≤ x3 → vp_in x3 16 ∧ (x1 < (I (R0 a0 3) x3.toNatClampNeg) → Run 35 4 [(0, .ref a0), (1, .int x1), (2, .int (x2 + (0 : Int32))), (3, .int (x3 + 1))] [] (mS L I J h z) o σo) ∧ (¬ x1 < (I (R0 a0 3) x3.toNatClampNeg) → (∃ v3 : Int32, Den 30 [.ref a0, .int (I (R0 a0 2) x3.toNatClampNeg)] (mS L I J h z) (.inl (some (.int v3))) (mS L I J h z) ∧ (v3 = 0 → Run 35 4 [(0, .ref a0), (1, .int x1), (2, .int (x2 + (0 : Int32))), (3, .int (x3 + 1))] [] (mS L I J h z) o σo) ∧ (¬ v3 = 0 → Run 35 4 [(0, .ref a0), (1, .int x1), (2, .int (x2 + (1 : Int32))), (3, .int (x3 + 1))] [] (mS L I J h z) o σo))))) : Run 35 4 [(0, .ref a0), (1, .int x1), (2, .int x2), (3, .int x3)] [] (mS L I J h z) o σo :=
  Run.blk k35_4 c35_4 (And.intro (oK_isO (w3_o hw0)) (And.intro (fun c1 => (Run.blk (μ := 35) (pc := 49) k35_49 c35_49 (ret_i rt35 rfl (H.1 c1)))) (fun c1 => (And.intro (oK_isO (w3_o hw0)) (And.intro (a_nz (w3_a3 hw0)) (Exists.intro 16 (And.intro (aK_isA (w3_a3 hw0)) (And.intro (H.2 c1).1 (And.intro (fun c2 => (Run.blk (μ := 35) (pc := 40) k35_40 c35_40 (Run.sub [(0, .ref a0), (1, .int x1), (2, .int (x2 + (0 : Int32))), (3, .int (x3 + 1))] (sub_pick [2, 3, 1, 0] rfl) ((H.2 c1).2.1 c2)))) (fun c2 => (And.intro (oK_isO (w3_o hw0)) (And.intro (a_nz (w3_a2 hw0)) (Exists.intro 16 (And.intro (aK_isA (w3_a2 hw0)) (And.intro (H.2 c1).1 (And.intro (Nat.le_of_ble_eq_true rfl) (And.intro gw30 (And.intro (Nat.le_of_ble_eq_true rfl) (And.intro (recv_o (q := 30) rk30 rc30 (oK_isO (w3_o hw0))) (Exists.elim ((H.2 c1).2.2 c2) (fun v3 h6 => have h5 := h6; (Or.inl (Exists.intro (some (.int v3)) (Exists.intro (mS L I J h z) (And.intro h5.1 (And.intro (fun c4 => (Run.blk (μ := 35) (pc := 40) k35_40 c35_40 (Run.sub [(0, .ref a0), (1, .int x1), (2, .int (x2 + (0 : Int32))), (3, .int (x3 + 1))] (sub_pick [2, 3, 1, 0] rfl) (h5.2.1 c4)))) (fun c4 => (Run.blk (μ := 35) (pc := 41) k35_41 c35_41 (Run.sub [(0, .ref a0), (1, .int x1), (2, .int (x2 + (1 : Int32))), (3, .int (x3 + 1))] (sub_pick [2, 3, 1, 0] rfl) (h5.2.2 c4))))))))))))))))))))))))))))))
-- X3_countMarked
theorem rt36 : eRt 36 = some .int := by decide +kernel
theorem rx36 : ¬ eKd 36 = 3 := by decide +kernel
theorem ry36 : ¬ eKd 36 = 4 := by decide +kernel
abbrev k36_0 : List (Instr × Nat) := [(.iconst 0, 1), (.istore_n 3, 1), (.iconst 0, 1), (.istore 4, 2)]
theorem c36_0 : chk 36 0 k36_0 = true := by decide +kernel
abbrev k36_5 : List (Instr × Nat) := [(.iload 4, 2), (.aload_n 1, 1), (.getfield 135, 3), (.if_icmp .ge 37, 3), (.iload_n 3, 1), (.aload_n 0, 1), (.getfield 192, 3), (.iload 4, 2), (.iaload, 1), (.iload_n 2, 1), (.if_icmp .ne 16, 3), (.aload_n 1, 1), (.iload 4, 2), (.invokeinterface 13 2, 3), (.ifCond .eq 7, 3), (.iconst 1, 1), (.goto 4, 3)]
theorem c36_5 : chk 36 5 k36_5 = true := by decide +kernel
abbrev k36_39 : List (Instr × Nat) := [(.iconst 0, 1), (.iadd, 1), (.istore_n 3, 1), (.iinc 4 1, 3), (.goto (-40), 3)]
theorem c36_39 : chk 36 39 k36_39 = true := by decide +kernel
abbrev k36_40 : List (Instr × Nat) := [(.iadd, 1), (.istore_n 3, 1), (.iinc 4 1, 3), (.goto (-40), 3)]
theorem c36_40 : chk 36 40 k36_40 = true := by decide +kernel
abbrev k36_48 : List (Instr × Nat) := [(.iload_n 3, 1), (.ireturn, 1)]
theorem c36_48 : chk 36 48 k36_48 = true := by decide +kernel
theorem r36_0 {o : eO} {σo : eS} {L h z : Nat} {I : Nat → Nat → Int32} {J : Nat → Nat → Int64} {x2 : Int32} {a0 : Nat} (hw0 : w3 a0) (H : Run 36 5 [(0, .ref a0), (1, .ref 10), (2, .int x2), (3, .int (0 : Int32)), (4, .int (0 : Int32))] [] (mS L I J h z) o σo) : Run 36 0 [(0, .ref a0), (1, .ref 10), (2, .int x2)] [] (mS L I J h z) o σo :=
  Run.blk k36_0 c36_0 (Run.sub [(0, .ref a0), (1, .ref 10), (2, .int x2), (3, .int (0 : Int32)), (4, .int (0 : Int32))] (sub_pick [2, 3, 4, 1, 0] rfl) H)
theorem r36_5 {o : eO} {σo : eS} {L h z : Nat} {I : Nat → Nat → Int32} {J : Nat → Nat → Int64} {x2 x3 x4 : Int32} {a0 : Nat} (hw0 : w3 a0) (H : ((I 10 7) ≤ x4 → o = .inl (some (.int x3)) ∧ σo = (mS L I J h z)) ∧ (¬ (I 10 7) ≤ x4 → vp_in x4 2500 ∧ (¬ (I (R0 a0 0) x4.toNatClampNeg) = x2 → Run 36 5 [(0, .ref a0), (1, .ref 10), (2, .int x2), (3, .int (x3 + (0 : Int32))), (4, .int (x4 + 1))] [] (mS L I J h z) o σo) ∧ ((I (R0 a0 0) x4.toNatClampNeg) = x2 → (∃ v3 : Int32, Den 13 [.ref 10, .int x4] (mS L I J h z) (.inl (some (.int v3))) (mS L I J h z) ∧ (v3 = 0 → Run 36 5 [(0, .ref a0), (1, .ref 10), (2, .int x2), (3, .int (x3 + (0 : Int32))), (4, .int (x4 + 1))] [] (mS L I J h z) o σo) ∧ (¬ v3 = 0 → Run 36 5 [(0, .ref a0), (1, .ref 10), (2, .int x2), (3, .int (x3 + (1 : Int32))), (4, .int (x4 + 1))] [] (mS L I J h z) o σo))))) : Run 36 5 [(0, .ref a0), (1, .ref 10), (2, .int x2), (3, .int x3), (4, .int x4)] [] (mS L I J h z) o σo :=
  Run.blk k36_5 c36_5 (And.intro (oK_isO kO_10) (And.intro (fun c1 => (Run.blk (μ := 36) (pc := 48) k36_48 c36_48 (ret_i rt36 rfl (H.1 c1)))) (fun c1 => (And.intro (oK_isO (w3_o hw0)) (And.intro (a_nz (w3_a0 hw0)) (Exists.intro 2500 (And.intro (aK_isA (w3_a0 hw0)) (And.intro (H.2 c1).1 (And.intro (fun c2 => (Run.blk (μ := 36) (pc := 39) k36_39 c36_39 (Run.sub [(0, .ref a0), (1, .ref 10), (2, .int x2), (3, .int (x3 + (0 : Int32))), (4, .int (x4 + 1))] (sub_pick [2, 3, 4, 1, 0] rfl) ((H.2 c1).2.1 c2)))) (fun c2 => (And.intro (Nat.le_of_ble_eq_true rfl) (And.intro gw13 (And.intro (Nat.le_of_ble_eq_true rfl) (And.intro (recv_o (q := 13) rk13 rc13 (oK_isO kO_10)) (Exists.elim ((H.2 c1).2.2 c2) (fun v3 h6 => have h5 := h6; (Or.inl (Exists.intro (some (.int v3)) (Exists.intro (mS L I J h z) (And.intro h5.1 (And.intro (fun c4 => (Run.blk (μ := 36) (pc := 39) k36_39 c36_39 (Run.sub [(0, .ref a0), (1, .ref 10), (2, .int x2), (3, .int (x3 + (0 : Int32))), (4, .int (x4 + 1))] (sub_pick [2, 3, 4, 1, 0] rfl) (h5.2.1 c4)))) (fun c4 => (Run.blk (μ := 36) (pc := 40) k36_40 c36_40 (Run.sub [(0, .ref a0), (1, .ref 10), (2, .int x2), (3, .int (x3 + (1 : Int32))), (4, .int (x4 + 1))] (sub_pick [2, 3, 4, 1, 0] rfl) (h5.2.2 c4)))))))))))))))))))))))))
-- X3_findOut
theorem rt37 : eRt 37 = some .int := by decide +kernel
theorem rx37 : ¬ eKd 37 = 3 := by decide +kernel
theorem ry37 : ¬ eKd 37 = 4 := by decide +kernel
abbrev k37_0 : List (Instr × Nat) := [(.iconst 0, 1), (.istore_n 2, 1)]
theorem c37_0 : chk 37 0 k37_0 = true := by decide +kernel
abbrev k37_2 : List (Instr × Nat) := [(.iload_n 2, 1), (.aload_n 0, 1), (.getfield 196, 3), (.if_icmp .ge 21, 3), (.aload_n 0, 1), (.getfield 194, 3), (.iload_n 2, 1), (.iaload, 1), (.iload_n 1, 1), (.if_icmp .ne 5, 3), (.iload_n 2, 1), (.ireturn, 1)]
theorem c37_2 : chk 37 2 k37_2 = true := by decide +kernel
abbrev k37_22 : List (Instr × Nat) := [(.iinc 2 1, 3), (.goto (-23), 3)]
theorem c37_22 : chk 37 22 k37_22 = true := by decide +kernel
abbrev k37_28 : List (Instr × Nat) := [(.iconst (-1), 1), (.ireturn, 1)]
theorem c37_28 : chk 37 28 k37_28 = true := by decide +kernel
theorem r37_0 {o : eO} {σo : eS} {L h z : Nat} {I : Nat → Nat → Int32} {J : Nat → Nat → Int64} {x1 : Int32} {a0 : Nat} (hw0 : w3 a0) (H : Run 37 2 [(0, .ref a0), (1, .int x1), (2, .int (0 : Int32))] [] (mS L I J h z) o σo) : Run 37 0 [(0, .ref a0), (1, .int x1)] [] (mS L I J h z) o σo :=
  Run.blk k37_0 c37_0 (Run.sub [(0, .ref a0), (1, .int x1), (2, .int (0 : Int32))] (sub_pick [1, 2, 0] rfl) H)
theorem r37_2 {o : eO} {σo : eS} {L h z : Nat} {I : Nat → Nat → Int32} {J : Nat → Nat → Int64} {x1 x2 : Int32} {a0 : Nat} (hw0 : w3 a0) (H : ((I a0 4) ≤ x2 → o = .inl (some (.int (-1 : Int32))) ∧ σo = (mS L I J h z)) ∧ (¬ (I a0 4) ≤ x2 → vp_in x2 16 ∧ (¬ (I (R0 a0 2) x2.toNatClampNeg) = x1 → Run 37 2 [(0, .ref a0), (1, .int x1), (2, .int (x2 + 1))] [] (mS L I J h z) o σo) ∧ ((I (R0 a0 2) x2.toNatClampNeg) = x1 → o = .inl (some (.int x2)) ∧ σo = (mS L I J h z)))) : Run 37 2 [(0, .ref a0), (1, .int x1), (2, .int x2)] [] (mS L I J h z) o σo :=
  Run.blk k37_2 c37_2 (And.intro (oK_isO (w3_o hw0)) (And.intro (fun c1 => (Run.blk (μ := 37) (pc := 28) k37_28 c37_28 (ret_i rt37 rfl (H.1 c1)))) (fun c1 => (And.intro (oK_isO (w3_o hw0)) (And.intro (a_nz (w3_a2 hw0)) (Exists.intro 16 (And.intro (aK_isA (w3_a2 hw0)) (And.intro (H.2 c1).1 (And.intro (fun c2 => (Run.blk (μ := 37) (pc := 22) k37_22 c37_22 (Run.sub [(0, .ref a0), (1, .int x1), (2, .int (x2 + 1))] (sub_pick [1, 2, 0] rfl) ((H.2 c1).2.1 c2)))) (fun c2 => (ret_i rt37 rfl ((H.2 c1).2.2 c2))))))))))))
-- X3_dropOut
theorem rt38 : eRt 38 = none := by decide +kernel
theorem rx38 : ¬ eKd 38 = 3 := by decide +kernel
theorem ry38 : ¬ eKd 38 = 4 := by decide +kernel
abbrev k38_0 : List (Instr × Nat) := [(.iload_n 1, 1), (.iconst (-1), 1), (.if_icmp .ne 4, 3), (.return_, 1)]
theorem c38_0 : chk 38 0 k38_0 = true := by decide +kernel
abbrev k38_6 : List (Instr × Nat) := [(.aload_n 0, 1), (.dup, 1), (.getfield 196, 3), (.iconst 1, 1), (.isub, 1), (.putfield 196, 3), (.aload_n 0, 1), (.getfield 194, 3), (.iload_n 1, 1), (.aload_n 0, 1), (.getfield 194, 3), (.aload_n 0, 1), (.getfield 196, 3), (.iaload, 1), (.iastore, 1), (.aload_n 0, 1), (.getfield 195, 3), (.iload_n 1, 1), (.aload_n 0, 1), (.getfield 195, 3), (.aload_n 0, 1), (.getfield 196, 3), (.iaload, 1), (.iastore, 1), (.return_, 1)]
theorem c38_6 : chk 38 6 k38_6 = true := by decide +kernel
theorem r38_0 {o : eO} {σo : eS} {L h z : Nat} {I : Nat → Nat → Int32} {J : Nat → Nat → Int64} {x1 : Int32} {a0 : Nat} (hw0 : w3 a0) (H : (¬ x1 = (-1 : Int32) → vp_in ((u2 I a0 4 ((I a0 4) - (1 : Int32))) a0 4) 16 ∧ vp_in x1 16 ∧ vp_in ((u2 (u2 I a0 4 ((I a0 4) - (1 : Int32))) (R0 a0 2) x1.toNatClampNeg ((u2 I a0 4 ((I a0 4) - (1 : Int32))) (R0 a0 2) (((u2 I a0 4 ((I a0 4) - (1 : Int32))) a0 4).toNatClampNeg))) a0 4) 16 ∧ o = .inl none ∧ σo = (mS L (u2 (u2 (u2 I a0 4 ((I a0 4) - (1 : Int32))) (R0 a0 2) x1.toNatClampNeg ((u2 I a0 4 ((I a0 4) - (1 : Int32))) (R0 a0 2) (((u2 I a0 4 ((I a0 4) - (1 : Int32))) a0 4).toNatClampNeg))) (R0 a0 3) x1.toNatClampNeg ((u2 (u2 I a0 4 ((I a0 4) - (1 : Int32))) (R0 a0 2) x1.toNatClampNeg ((u2 I a0 4 ((I a0 4) - (1 : Int32))) (R0 a0 2) (((u2 I a0 4 ((I a0 4) - (1 : Int32))) a0 4).toNatClampNeg))) (R0 a0 3) (((u2 (u2 I a0 4 ((I a0 4) - (1 : Int32))) (R0 a0 2) x1.toNatClampNeg ((u2 I a0 4 ((I a0 4) - (1 : Int32))) (R0 a0 2) (((u2 I a0 4 ((I a0 4) - (1 : Int32))) a0 4).toNatClampNeg))) a0 4).toNatClampNeg))) J h z)) ∧ (x1 = (-1 : Int32) → o = .inl none ∧ σo = (mS L I J h z))) : Run 38 0 [(0, .ref a0), (1, .int x1)] [] (mS L I J h z) o σo :=
  Run.blk k38_0 c38_0 (And.intro (fun c1 => (Run.blk (μ := 38) (pc := 6) k38_6 c38_6 (And.intro rfl (And.intro (oK_isO (w3_o hw0)) (And.intro (oK_isO (w3_o hw0)) (And.intro ⟨rfl, rfl⟩ (And.intro (oK_isO (w3_o hw0)) (And.intro (a_nz (w3_a2 hw0)) (And.intro (oK_isO (w3_o hw0)) (And.intro (a_nz (w3_a2 hw0)) (And.intro (oK_isO (w3_o hw0)) (Exists.intro 16 (And.intro (aK_isA (w3_a2 hw0)) (And.intro (H.1 c1).1 (Exists.intro 16 (And.intro (w3_a2 hw0).1 (And.intro (aK_isA (w3_a2 hw0)) (And.intro (H.1 c1).2.1 (And.intro (oK_isO (w3_o hw0)) (And.intro (a_nz (w3_a3 hw0)) (And.intro (oK_isO (w3_o hw0)) (And.intro (a_nz (w3_a3 hw0)) (And.intro (oK_isO (w3_o hw0)) (Exists.intro 16 (And.intro (aK_isA (w3_a3 hw0)) (And.intro (H.1 c1).2.2.1 (Exists.intro 16 (And.intro (w3_a3 hw0).1 (And.intro (aK_isA (w3_a3 hw0)) (And.intro (H.1 c1).2.1 (And.intro rt38 (H.1 c1).2.2.2))))))))))))))))))))))))))))))) (fun c1 => (And.intro rt38 (H.2 c1))))
-- X6_make
theorem rt59 : eRt 59 = none := by decide +kernel
theorem gw57 : 2 ≤ eL 57 := by decide +kernel
theorem rk57 : eKd 57 = 0 ∨ eKd 57 = 2 := by decide +kernel
theorem rc57 : eC 57 = 5 := by decide +kernel
theorem gw154 : 3 ≤ eL 154 := by decide +kernel
theorem rk154 : ¬ eKd 154 = 0 := by decide +kernel
theorem rj154 : ¬ eKd 154 = 2 := by decide +kernel
theorem rx59 : ¬ eKd 59 = 3 := by decide +kernel
theorem ry59 : ¬ eKd 59 = 4 := by decide +kernel
abbrev k59_0 : List (Instr × Nat) := [(.aload_n 0, 1), (.getfield 384, 3), (.aload_n 1, 1), (.invokeinterface 57 2, 3), (.aload_n 0, 1), (.getfield 385, 3), (.lconst 0, 1), (.invokeinterface 154 2, 3), (.aload_n 0, 1), (.iconst 1, 1), (.putfield 386, 3), (.aload_n 0, 1), (.iload_n 2, 1), (.putfield 387, 3), (.aload_n 0, 1), (.iload_n 3, 1), (.putfield 388, 3), (.aload_n 0, 1), (.iload 4, 2), (.putfield 389, 3), (.aload_n 0, 1), (.iconst 0, 1), (.putfield 390, 3), (.aload_n 0, 1), (.iconst 0, 1), (.putfield 391, 3), (.return_, 1)]
theorem c59_0 : chk 59 0 k59_0 = true := by decide +kernel
theorem r59_0 {o : eO} {σo : eS} {L h z : Nat} {I : Nat → Nat → Int32} {J : Nat → Nat → Int64} {x2 x3 x4 : Int32} {a0 : Nat} (hw0 : w6 a0) (H : (∃ I1 : Nat → Nat → Int32, ∃ J2 : Nat → Nat → Int64, Den 57 [.ref (R0 a0 0), .ref 7] (mS L I J h z) (.inl none) (mS L I1 J2 h z) ∧ (∃ I3 : Nat → Nat → Int32, ∃ J4 : Nat → Nat → Int64, Den 154 [.ref (R0 a0 1), .long (0 : Int64)] (mS L I1 J2 h z) (.inl none) (mS L I3 J4 h z) ∧ okI .boolean x4 ∧ o = .inl none ∧ σo = (mS L (u2 (u2 (u2 (u2 (u2 (u2 I3 a0 2 (1 : Int32)) a0 3 x2) a0 4 x3) a0 5 x4) a0 6 (0 : Int32)) a0 7 (0 : Int32)) J4 h z)))) : Run 59 0 [(0, .ref a0), (1, .ref 7), (2, .int x2), (3, .int x3), (4, .int x4)] [] (mS L I J h z) o σo :=
  Run.blk k59_0 c59_0 (And.intro (oK_isO (w6_o hw0)) (And.intro (w_nz5 (w6_w0 hw0)) (And.intro (Nat.le_of_ble_eq_true rfl) (And.intro gw57 (And.intro (Nat.le_of_ble_eq_true rfl) (And.intro (recv_o (q := 57) rk57 rc57 (oK_isO (w5_o (w6_w0 hw0)))) (Exists.elim H (fun I1 h9 => Exists.elim h9 (fun J2 h10 => have h5 := h10; (Or.inl (Exists.intro none (Exists.intro (mS L I1 J2 h z) (And.intro h5.1 (And.intro (oK_isO (w6_o hw0)) (And.intro (a_nz (w6_a1 hw0)) (And.intro (Nat.le_of_ble_eq_true rfl) (And.intro gw154 (And.intro (Nat.le_of_ble_eq_true rfl) (And.intro (recv_s (q := 154) rk154 rj154) (Exists.elim h5.2 (fun I3 h7 => Exists.elim h7 (fun J4 h8 => have h6 := h8; (Or.inl (Exists.intro none (Exists.intro (mS L I3 J4 h z) (And.intro h6.1 (And.intro (oK_isO (w6_o hw0)) (And.intro ⟨rfl, rfl⟩ (And.intro (oK_isO (w6_o hw0)) (And.intro ⟨rfl, rfl⟩ (And.intro (oK_isO (w6_o hw0)) (And.intro ⟨rfl, rfl⟩ (And.intro (oK_isO (w6_o hw0)) (And.intro h6.2.1 (And.intro (oK_isO (w6_o hw0)) (And.intro ⟨rfl, rfl⟩ (And.intro (oK_isO (w6_o hw0)) (And.intro ⟨rfl, rfl⟩ (And.intro rt59 h6.2.2)))))))))))))))))))))))))))))))))))))))
-- X6_findNext
theorem rt60 : eRt 60 = some .int := by decide +kernel
theorem gw61 : 3 ≤ eL 61 := by decide +kernel
theorem rk61 : eKd 61 = 0 ∨ eKd 61 = 2 := by decide +kernel
theorem rc61 : eC 61 = 6 := by decide +kernel
theorem rx60 : ¬ eKd 60 = 3 := by decide +kernel
theorem ry60 : ¬ eKd 60 = 4 := by decide +kernel
abbrev k60_0 : List (Instr × Nat) := [(.aload_n 0, 1), (.getfield 390, 3), (.istore_n 2, 1)]
theorem c60_0 : chk 60 0 k60_0 = true := by decide +kernel
abbrev k60_5 : List (Instr × Nat) := [(.iload_n 2, 1), (.aload_n 1, 1), (.getfield 135, 3), (.if_icmp .ge 38, 3), (.aload_n 0, 1), (.aload_n 1, 1), (.getfield 128, 3), (.iload_n 2, 1), (.iaload, 1), (.aload_n 1, 1), (.getfield 131, 3), (.iload_n 2, 1), (.iaload, 1), (.invokeinterface 61 3, 3), (.ifCond .eq 13, 3), (.aload_n 1, 1), (.iload_n 2, 1), (.invokeinterface 13 2, 3), (.ifCond .eq 5, 3), (.iload_n 2, 1), (.ireturn, 1)]
theorem c60_5 : chk 60 5 k60_5 = true := by decide +kernel
abbrev k60_42 : List (Instr × Nat) := [(.iinc 2 1, 3), (.goto (-40), 3)]
theorem c60_42 : chk 60 42 k60_42 = true := by decide +kernel
abbrev k60_48 : List (Instr × Nat) := [(.iconst (-1), 1), (.ireturn, 1)]
theorem c60_48 : chk 60 48 k60_48 = true := by decide +kernel
theorem r60_0 {o : eO} {σo : eS} {L h z : Nat} {I : Nat → Nat → Int32} {J : Nat → Nat → Int64} {a0 : Nat} (hw0 : w6 a0) (H : Run 60 5 [(0, .ref a0), (1, .ref 10), (2, .int (I a0 6))] [] (mS L I J h z) o σo) : Run 60 0 [(0, .ref a0), (1, .ref 10)] [] (mS L I J h z) o σo :=
  Run.blk k60_0 c60_0 (And.intro (oK_isO (w6_o hw0)) (Run.sub [(0, .ref a0), (1, .ref 10), (2, .int (I a0 6))] (sub_pick [1, 2, 0] rfl) H))
theorem r60_5 {o : eO} {σo : eS} {L h z : Nat} {I : Nat → Nat → Int32} {J : Nat → Nat → Int64} {x2 : Int32} {a0 : Nat} (hw0 : w6 a0) (H : ((I 10 7) ≤ x2 → o = .inl (some (.int (-1 : Int32))) ∧ σo = (mS L I J h z)) ∧ (¬ (I 10 7) ≤ x2 → vp_in x2 2500 ∧ (∃ v2 : Int32, Den 61 [.ref a0, .int (I 11 x2.toNatClampNeg), .int (I 14 x2.toNatClampNeg)] (mS L I J h z) (.inl (some (.int v2))) (mS L I J h z) ∧ (v2 = 0 → Run 60 5 [(0, .ref a0), (1, .ref 10), (2, .int (x2 + 1))] [] (mS L I J h z) o σo) ∧ (¬ v2 = 0 → (∃ v4 : Int32, Den 13 [.ref 10, .int x2] (mS L I J h z) (.inl (some (.int v4))) (mS L I J h z) ∧ (v4 = 0 → Run 60 5 [(0, .ref a0), (1, .ref 10), (2, .int (x2 + 1))] [] (mS L I J h z) o σo) ∧ (¬ v4 = 0 → o = .inl (some (.int x2)) ∧ σo = (mS L I J h z))))))) : Run 60 5 [(0, .ref a0), (1, .ref 10), (2, .int x2)] [] (mS L I J h z) o σo :=
  Run.blk k60_5 c60_5 (And.intro (oK_isO kO_10) (And.intro (fun c1 => (Run.blk (μ := 60) (pc := 48) k60_48 c60_48 (ret_i rt60 rfl (H.1 c1)))) (fun c1 => (And.intro (oK_isO kO_10) (And.intro rN_10_0 (Exists.intro 2500 (And.intro (aK_isA kA_11) (And.intro (H.2 c1).1 (And.intro (oK_isO kO_10) (And.intro rN_10_3 (Exists.intro 2500 (And.intro (aK_isA kA_14) (And.intro (H.2 c1).1 (And.intro (Nat.le_of_ble_eq_true rfl) (And.intro gw61 (And.intro (Nat.le_of_ble_eq_true rfl) (And.intro (recv_o (q := 61) rk61 rc61 (oK_isO (w6_o hw0))) (Exists.elim (H.2 c1).2 (fun v2 h9 => have h6 := h9; (Or.inl (Exists.intro (some (.int v2)) (Exists.intro (mS L I J h z) (And.intro h6.1 (And.intro (fun c3 => (Run.blk (μ := 60) (pc := 42) k60_42 c60_42 (Run.sub [(0, .ref a0), (1, .ref 10), (2, .int (x2 + 1))] (sub_pick [1, 2, 0] rfl) (h6.2.1 c3)))) (fun c3 => (And.intro (Nat.le_of_ble_eq_true rfl) (And.intro gw13 (And.intro (Nat.le_of_ble_eq_true rfl) (And.intro (recv_o (q := 13) rk13 rc13 (oK_isO kO_10)) (Exists.elim (h6.2.2 c3) (fun v4 h8 => have h7 := h8; (Or.inl (Exists.intro (some (.int v4)) (Exists.intro (mS L I J h z) (And.intro h7.1 (And.intro (fun c5 => (Run.blk (μ := 60) (pc := 42) k60_42 c60_42 (Run.sub [(0, .ref a0), (1, .ref 10), (2, .int (x2 + 1))] (sub_pick [1, 2, 0] rfl) (h7.2.1 c5)))) (fun c5 => (ret_i rt60 rfl (h7.2.2 c5)))))))))))))))))))))))))))))))))))))))
-- X6_wants
theorem rt61 : eRt 61 = some .boolean := by decide +kernel
theorem rx61 : ¬ eKd 61 = 3 := by decide +kernel
theorem ry61 : ¬ eKd 61 = 4 := by decide +kernel
abbrev k61_0 : List (Instr × Nat) := [(.iload_n 1, 1), (.iconst 32, 2), (.if_icmp .ge 31, 3), (.aload_n 0, 1), (.getfield 387, 3), (.iload_n 1, 1), (.iushr, 1), (.iconst 1, 1), (.iand, 1), (.iconst 1, 1), (.if_icmp .ne 19, 3), (.aload_n 0, 1), (.getfield 388, 3), (.iload_n 2, 1), (.iushr, 1), (.iconst 1, 1), (.iand, 1), (.iconst 1, 1), (.if_icmp .ne 7, 3), (.iconst 1, 1), (.goto 4, 3)]
theorem c61_0 : chk 61 0 k61_0 = true := by decide +kernel
abbrev k61_34 : List (Instr × Nat) := [(.iconst 0, 1), (.ireturn, 1)]
theorem c61_34 : chk 61 34 k61_34 = true := by decide +kernel
abbrev k61_35 : List (Instr × Nat) := [(.ireturn, 1)]
theorem c61_35 : chk 61 35 k61_35 = true := by decide +kernel
theorem r61_0 {o : eO} {σo : eS} {L h z : Nat} {I : Nat → Nat → Int32} {J : Nat → Nat → Int64} {x1 x2 : Int32} {a0 : Nat} (hw0 : w6 a0) (H : ((32 : Int32) ≤ x1 → o = .inl (some (.int (0 : Int32))) ∧ σo = (mS L I J h z)) ∧ (¬ (32 : Int32) ≤ x1 → (¬ ((((I a0 3).toUInt32 >>> (x1.toUInt32 &&& Int32.toUInt32 31)).toInt32) &&& (1 : Int32)) = (1 : Int32) → o = .inl (some (.int (0 : Int32))) ∧ σo = (mS L I J h z)) ∧ (((((I a0 3).toUInt32 >>> (x1.toUInt32 &&& Int32.toUInt32 31)).toInt32) &&& (1 : Int32)) = (1 : Int32) → (¬ ((((I a0 4).toUInt32 >>> (x2.toUInt32 &&& Int32.toUInt32 31)).toInt32) &&& (1 : Int32)) = (1 : Int32) → o = .inl (some (.int (0 : Int32))) ∧ σo = (mS L I J h z)) ∧ (((((I a0 4).toUInt32 >>> (x2.toUInt32 &&& Int32.toUInt32 31)).toInt32) &&& (1 : Int32)) = (1 : Int32) → o = .inl (some (.int (1 : Int32))) ∧ σo = (mS L I J h z))))) : Run 61 0 [(0, .ref a0), (1, .int x1), (2, .int x2)] [] (mS L I J h z) o σo :=
  Run.blk k61_0 c61_0 (And.intro (fun c1 => (Run.blk (μ := 61) (pc := 34) k61_34 c61_34 (ret_i rt61 rfl (H.1 c1)))) (fun c1 => (And.intro (oK_isO (w6_o hw0)) (And.intro (fun c2 => (Run.blk (μ := 61) (pc := 34) k61_34 c61_34 (ret_i rt61 rfl ((H.2 c1).1 c2)))) (fun c2 => (And.intro (oK_isO (w6_o hw0)) (And.intro (fun c3 => (Run.blk (μ := 61) (pc := 34) k61_34 c61_34 (ret_i rt61 rfl (((H.2 c1).2 c2).1 c3)))) (fun c3 => (Run.blk (μ := 61) (pc := 35) k61_35 c61_35 (ret_i rt61 rfl (((H.2 c1).2 c2).2 c3)))))))))))
-- X6_firstVariable
theorem rt62 : eRt 62 = some .int := by decide +kernel
theorem rx62 : ¬ eKd 62 = 3 := by decide +kernel
theorem ry62 : ¬ eKd 62 = 4 := by decide +kernel
abbrev k62_0 : List (Instr × Nat) := [(.aload_n 0, 1), (.getfield 389, 3), (.ifCond .eq 7, 3), (.iconst 0, 1), (.goto 6, 3)]
theorem c62_0 : chk 62 0 k62_0 = true := by decide +kernel
abbrev k62_11 : List (Instr × Nat) := [(.iload_n 1, 1), (.iconst 4, 1), (.imul, 1), (.ireturn, 1)]
theorem c62_11 : chk 62 11 k62_11 = true := by decide +kernel
abbrev k62_14 : List (Instr × Nat) := [(.ireturn, 1)]
theorem c62_14 : chk 62 14 k62_14 = true := by decide +kernel
theorem r62_0 {o : eO} {σo : eS} {L h z : Nat} {I : Nat → Nat → Int32} {J : Nat → Nat → Int64} {x1 : Int32} {a0 : Nat} (hw0 : w6 a0) (H : ((I a0 5) = 0 → o = .inl (some (.int (x1 * (4 : Int32)))) ∧ σo = (mS L I J h z)) ∧ (¬ (I a0 5) = 0 → o = .inl (some (.int (0 : Int32))) ∧ σo = (mS L I J h z))) : Run 62 0 [(0, .ref a0), (1, .int x1)] [] (mS L I J h z) o σo :=
  Run.blk k62_0 c62_0 (And.intro (oK_isO (w6_o hw0)) (And.intro (fun c1 => (Run.blk (μ := 62) (pc := 11) k62_11 c62_11 (ret_i rt62 rfl (H.1 c1)))) (fun c1 => (Run.blk (μ := 62) (pc := 14) k62_14 c62_14 (ret_i rt62 rfl (H.2 c1))))))
-- X6_keep
theorem rt63 : eRt 63 = none := by decide +kernel
theorem gw62 : 2 ≤ eL 62 := by decide +kernel
theorem rk62 : eKd 62 = 0 ∨ eKd 62 = 2 := by decide +kernel
theorem rc62 : eC 62 = 6 := by decide +kernel
theorem rx63 : ¬ eKd 63 = 3 := by decide +kernel
theorem ry63 : ¬ eKd 63 = 4 := by decide +kernel
abbrev k63_0 : List (Instr × Nat) := [(.aload_n 1, 1), (.getfield 257, 3), (.iconst 0, 1), (.aload_n 0, 1), (.getfield 385, 3), (.aload_n 0, 1), (.iload_n 2, 1), (.invokeinterface 62 2, 3), (.iconst 4, 1), (.monitorexit, 3), (.return_, 1)]
theorem c63_0 : chk 63 0 k63_0 = true := by decide +kernel
theorem r63_0 {o : eO} {σo : eS} {L h z : Nat} {I : Nat → Nat → Int32} {J : Nat → Nat → Int64} {x2 : Int32} {a0 : Nat} (hw0 : w6 a0) (H : (∃ v1 : Int32, Den 62 [.ref a0, .int x2] (mS L I J h z) (.inl (some (.int v1))) (mS L I J h z) ∧ ¬ v1 < 0 ∧ v1.toNatClampNeg + (4 : Int32).toNatClampNeg ≤ 128 ∧ o = .inl none ∧ σo = (mS L I (u1 J (R0 a0 1) (va_cpy (J 60) (J (R0 a0 1)) (0 : Int32).toNatClampNeg v1.toNatClampNeg (4 : Int32).toNatClampNeg)) h z))) : Run 63 0 [(0, .ref a0), (1, .ref 58), (2, .int x2)] [] (mS L I J h z) o σo :=
  Run.blk k63_0 c63_0 (And.intro (oK_isO kO_58) (And.intro rN_58_1 (And.intro (oK_isO (w6_o hw0)) (And.intro (a_nz (w6_a1 hw0)) (And.intro (Nat.le_of_ble_eq_true rfl) (And.intro gw62 (And.intro (Nat.le_of_ble_eq_true rfl) (And.intro (recv_o (q := 62) rk62 rc62 (oK_isO (w6_o hw0))) (Exists.elim H (fun v1 h3 => have h2 := h3; (Or.inl (Exists.intro (some (.int v1)) (Exists.intro (mS L I J h z) (And.intro h2.1 (And.intro (Nat.le_of_ble_eq_true rfl) (And.intro (by decide) (And.intro h2.2.1 (And.intro (by decide) (And.intro kA_60.1 (And.intro (w6_a1 hw0).1 (Or.inr (Exists.intro 4 (Exists.intro 128 (And.intro (aK_isA kA_60) (And.intro (aK_isA (w6_a1 hw0)) (And.intro (by decide) (And.intro h2.2.2.1 (And.intro rt63 h2.2.2.2)))))))))))))) ))))))))))))))
-- X6_countStreamsWithVariables
theorem rt64 : eRt 64 = some .int := by decide +kernel
theorem rx64 : ¬ eKd 64 = 3 := by decide +kernel
theorem ry64 : ¬ eKd 64 = 4 := by decide +kernel
abbrev k64_0 : List (Instr × Nat) := [(.iconst 0, 1), (.istore_n 1, 1), (.iconst 0, 1), (.istore_n 2, 1)]
theorem c64_0 : chk 64 0 k64_0 = true := by decide +kernel
abbrev k64_4 : List (Instr × Nat) := [(.iload_n 2, 1), (.aload_n 0, 1), (.getfield 385, 3), (.arraylength, 1), (.if_icmp .ge 52, 3), (.lconst 0, 1), (.lstore_n 3, 1), (.iconst 0, 1), (.istore 5, 2)]
theorem c64_4 : chk 64 4 k64_4 = true := by decide +kernel
abbrev k64_18 : List (Instr × Nat) := [(.iload 5, 2), (.iconst 4, 1), (.if_icmp .ge 21, 3), (.lload_n 3, 1), (.aload_n 0, 1), (.getfield 385, 3), (.iload_n 2, 1), (.iload 5, 2), (.iadd, 1), (.laload, 1), (.lor, 1), (.lstore_n 3, 1), (.iinc 5 1, 3), (.goto (-21), 3)]
theorem c64_18 : chk 64 18 k64_18 = true := by decide +kernel
abbrev k64_42 : List (Instr × Nat) := [(.iload_n 1, 1), (.lload_n 3, 1), (.lconst 0, 1), (.lcmp, 1), (.ifCond .eq 7, 3), (.iconst 1, 1), (.goto 4, 3)]
theorem c64_42 : chk 64 42 k64_42 = true := by decide +kernel
abbrev k64_53 : List (Instr × Nat) := [(.iconst 0, 1), (.iadd, 1), (.istore_n 1, 1), (.iinc 2 4, 3), (.goto (-55), 3)]
theorem c64_53 : chk 64 53 k64_53 = true := by decide +kernel
abbrev k64_54 : List (Instr × Nat) := [(.iadd, 1), (.istore_n 1, 1), (.iinc 2 4, 3), (.goto (-55), 3)]
theorem c64_54 : chk 64 54 k64_54 = true := by decide +kernel
abbrev k64_62 : List (Instr × Nat) := [(.iload_n 1, 1), (.ireturn, 1)]
theorem c64_62 : chk 64 62 k64_62 = true := by decide +kernel
theorem r64_0 {o : eO} {σo : eS} {L h z : Nat} {I : Nat → Nat → Int32} {J : Nat → Nat → Int64} {a0 : Nat} (hw0 : w6 a0) (H : Run 64 4 [(0, .ref a0), (1, .int (0 : Int32)), (2, .int (0 : Int32))] [] (mS L I J h z) o σo) : Run 64 0 [(0, .ref a0)] [] (mS L I J h z) o σo :=
  Run.blk k64_0 c64_0 (Run.sub [(0, .ref a0), (1, .int (0 : Int32)), (2, .int (0 : Int32))] (sub_pick [2, 1, 0] rfl) H)
theorem r64_4 {o : eO} {σo : eS} {L h z : Nat} {I : Nat → Nat → Int32} {J : Nat → Nat → Int64} {x1 x2 : Int32} {a0 : Nat} (hw0 : w6 a0) (H : ((Int32.ofNat 128) ≤ x2 → o = .inl (some (.int x1)) ∧ σo = (mS L I J h z)) ∧ (¬ (Int32.ofNat 128) ≤ x2 → Run 64 18 [(0, .ref a0), (1, .int x1), (2, .int x2), (3, .long (0 : Int64)), (5, .int (0 : Int32))] [] (mS L I J h z) o σo)) : Run 64 4 [(0, .ref a0), (1, .int x1), (2, .int x2)] [] (mS L I J h z) o σo :=
  Run.blk k64_4 c64_4 (And.intro (oK_isO (w6_o hw0)) (And.intro (a_nz (w6_a1 hw0)) (Exists.intro .long (Exists.intro 128 (And.intro (aK_isA (w6_a1 hw0)) (And.intro (fun c1 => (Run.blk (μ := 64) (pc := 62) k64_62 c64_62 (ret_i rt64 rfl (H.1 c1)))) (fun c1 => (Run.sub [(0, .ref a0), (1, .int x1), (2, .int x2), (3, .long (0 : Int64)), (5, .int (0 : Int32))] (sub_pick [2, 3, 4, 1, 0] rfl) (H.2 c1)))))))))
theorem r64_18 {o : eO} {σo : eS} {L h z : Nat} {I : Nat → Nat → Int32} {J : Nat → Nat → Int64} {x1 x2 x5 : Int32} {y3 : Int64} {a0 : Nat} (hw0 : w6 a0) (H : ((4 : Int32) ≤ x5 → ((lg_cmp y3 (0 : Int64)) = 0 → Run 64 4 [(0, .ref a0), (1, .int (x1 + (0 : Int32))), (2, .int (x2 + 4))] [] (mS L I J h z) o σo) ∧ (¬ (lg_cmp y3 (0 : Int64)) = 0 → Run 64 4 [(0, .ref a0), (1, .int (x1 + (1 : Int32))), (2, .int (x2 + 4))] [] (mS L I J h z) o σo)) ∧ (¬ (4 : Int32) ≤ x5 → vp_in (x2 + x5) 128 ∧ Run 64 18 [(0, .ref a0), (1, .int x1), (2, .int x2), (3, .long (y3 ||| (J (R0 a0 1) ((x2 + x5).toNatClampNeg)))), (5, .int (x5 + 1))] [] (mS L I J h z) o σo)) : Run 64 18 [(0, .ref a0), (1, .int x1), (2, .int x2), (3, .long y3), (5, .int x5)] [] (mS L I J h z) o σo :=
  Run.blk k64_18 c64_18 (And.intro (fun c2 => (Run.blk (μ := 64) (pc := 42) k64_42 c64_42 (And.intro (fun c3 => (Run.blk (μ := 64) (pc := 53) k64_53 c64_53 (Run.sub [(0, .ref a0), (1, .int (x1 + (0 : Int32))), (2, .int (x2 + 4))] (sub_pick [2, 1, 0] rfl) ((H.1 c2).1 c3)))) (fun c3 => (Run.blk (μ := 64) (pc := 54) k64_54 c64_54 (Run.sub [(0, .ref a0), (1, .int (x1 + (1 : Int32))), (2, .int (x2 + 4))] (sub_pick [2, 1, 0] rfl) ((H.1 c2).2 c3))))))) (fun c2 => (And.intro (oK_isO (w6_o hw0)) (And.intro (a_nz (w6_a1 hw0)) (Exists.intro 128 (And.intro (w6_a1 hw0).1 (And.intro (aK_isA (w6_a1 hw0)) (And.intro (H.2 c2).1 (Run.sub [(0, .ref a0), (1, .int x1), (2, .int x2), (3, .long (y3 ||| (J (R0 a0 1) ((x2 + x5).toNatClampNeg)))), (5, .int (x5 + 1))] (sub_pick [2, 3, 4, 1, 0] rfl) (H.2 c2).2)))))))))
