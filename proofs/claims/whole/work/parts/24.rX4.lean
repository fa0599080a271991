/-! Rules of the methods: what each asks, from cut point to cut point (laid by gen_rules.py). -/
-- X4_run
theorem rt40 : eRt 40 = none := by decide +kernel
theorem gw41 : 1 ≤ eL 41 := by decide +kernel
theorem rk41 : eKd 41 = 0 ∨ eKd 41 = 2 := by decide +kernel
theorem rc41 : eC 41 = 4 := by decide +kernel
theorem gw42 : 5 ≤ eL 42 := by decide +kernel
theorem rk42 : eKd 42 = 0 ∨ eKd 42 = 2 := by decide +kernel
theorem rc42 : eC 42 = 4 := by decide +kernel
theorem rx40 : ¬ eKd 40 = 3 := by decide +kernel
theorem ry40 : ¬ eKd 40 = 4 := by decide +kernel
abbrev k40_0 : List (Instr × Nat) := [(.aload_n 1, 1), (.getfield 384, 3), (.astore 4, 2), (.aload_n 1, 1), (.aload_n 2, 1), (.getfield 128, 3), (.iload_n 3, 1), (.iaload, 1), (.invokeinterface 62 2, 3), (.istore 5, 2), (.aload_n 1, 1), (.getfield 385, 3), (.iload 5, 2), (.aload_n 0, 1), (.getfield 257, 3), (.iconst 0, 1), (.iconst 4, 1), (.monitorexit, 3), (.aload_n 0, 1), (.iconst 0, 1), (.putfield 260, 3), (.aload_n 0, 1), (.iconst 0, 1), (.putfield 261, 3), (.aload_n 0, 1), (.iconst 0, 1), (.putfield 262, 3), (.aload_n 0, 1), (.aload 4, 2), (.getfield 322, 3), (.putfield 263, 3), (.aload_n 0, 1), (.iconst 0, 1), (.putfield 264, 3), (.iconst 0, 1), (.istore 6, 2)]
theorem c40_0 : chk 40 0 k40_0 = true := by decide +kernel
abbrev k40_65 : List (Instr × Nat) := [(.iload 6, 2), (.iconst 200, 3), (.if_icmp .ge 60, 3), (.aload_n 0, 1), (.invokeinterface 41 1, 3), (.ifCond .eq 53, 3), (.aload 4, 2), (.getfield 320, 3), (.aload_n 0, 1), (.getfield 262, 3), (.iaload, 1), (.istore 7, 2), (.aload 4, 2), (.getfield 321, 3), (.aload_n 0, 1), (.getfield 262, 3), (.iaload, 1), (.istore 8, 2), (.aload_n 0, 1), (.dup, 1), (.getfield 262, 3), (.iconst 1, 1), (.iadd, 1), (.putfield 262, 3), (.aload_n 0, 1), (.iload 7, 2), (.iload 8, 2), (.aload_n 2, 1), (.iload_n 3, 1), (.invokeinterface 42 5, 3), (.iinc 6 1, 3), (.goto (-62), 3)]
theorem c40_65 : chk 40 65 k40_65 = true := by decide +kernel
abbrev k40_130 : List (Instr × Nat) := [(.aload_n 0, 1), (.invokeinterface 41 1, 3), (.ifCond .eq 8, 3), (.aload_n 0, 1), (.iconst 1, 1), (.putfield 264, 3), (.return_, 1)]
theorem c40_130 : chk 40 130 k40_130 = true := by decide +kernel
abbrev k40_142 : List (Instr × Nat) := [(.return_, 1)]
theorem c40_142 : chk 40 142 k40_142 = true := by decide +kernel
theorem r40_0 {o : eO} {σo : eS} {L h z : Nat} {I : Nat → Nat → Int32} {J : Nat → Nat → Int64} {x3 : Int32} {a1 : Nat} (hw1 : w6 a1) (H : vp_in x3 2500 ∧ (∃ v1 : Int32, Den 62 [.ref a1, .int (I 11 x3.toNatClampNeg)] (mS L I J h z) (.inl (some (.int v1))) (mS L I J h z) ∧ ¬ v1 < 0 ∧ v1.toNatClampNeg + (4 : Int32).toNatClampNeg ≤ 128 ∧ Run 40 65 [(0, .ref 58), (2, .ref 10), (3, .int x3), (4, .ref (R0 a1 0)), (6, .int (0 : Int32))] [] (mS L (u2 (u2 (u2 (u2 (u2 I 58 4 (0 : Int32)) 58 5 (0 : Int32)) 58 6 (0 : Int32)) 58 7 ((u2 (u2 (u2 I 58 4 (0 : Int32)) 58 5 (0 : Int32)) 58 6 (0 : Int32)) (R0 a1 0) 2)) 58 8 (0 : Int32)) (u1 J 60 (va_cpy (J (R0 a1 1)) (J 60) v1.toNatClampNeg (0 : Int32).toNatClampNeg (4 : Int32).toNatClampNeg)) h z) o σo)) : Run 40 0 [(0, .ref 58), (1, .ref a1), (2, .ref 10), (3, .int x3)] [] (mS L I J h z) o σo :=
  Run.blk k40_0 c40_0 (And.intro (oK_isO (w6_o hw1)) (And.intro (w_nz5 (w6_w0 hw1)) (And.intro (oK_isO kO_10) (And.intro rN_10_0 (Exists.intro 2500 (And.intro (aK_isA kA_11) (And.intro H.1 (And.intro (Nat.le_of_ble_eq_true rfl) (And.intro gw62 (And.intro (Nat.le_of_ble_eq_true rfl) (And.intro (recv_o (q := 62) rk62 rc62 (oK_isO (w6_o hw1))) (Exists.elim H.2 (fun v1 h3 => have h2 := h3; (Or.inl (Exists.intro (some (.int v1)) (Exists.intro (mS L I J h z) (And.intro h2.1 (And.intro (oK_isO (w6_o hw1)) (And.intro (a_nz (w6_a1 hw1)) (And.intro (oK_isO kO_58) (And.intro rN_58_1 (And.intro (Nat.le_of_ble_eq_true rfl) (And.intro h2.2.1 (And.intro (by decide) (And.intro (by decide) (And.intro (w6_a1 hw1).1 (And.intro kA_60.1 (Or.inr (Exists.intro 128 (Exists.intro 4 (And.intro (aK_isA (w6_a1 hw1)) (And.intro (aK_isA kA_60) (And.intro h2.2.2.1 (And.intro (by decide) (And.intro (oK_isO kO_58) (And.intro ⟨rfl, rfl⟩ (And.intro (oK_isO kO_58) (And.intro ⟨rfl, rfl⟩ (And.intro (oK_isO kO_58) (And.intro ⟨rfl, rfl⟩ (And.intro (oK_isO (w5_o (w6_w0 hw1))) (And.intro (oK_isO kO_58) (And.intro ⟨rfl, rfl⟩ (And.intro (oK_isO kO_58) (And.intro ⟨rfl, rfl⟩ (Run.sub [(0, .ref 58), (2, .ref 10), (3, .int x3), (4, .ref (R0 a1 0)), (6, .int (0 : Int32))] (sub_pick [3, 5, 6, 2, 0] rfl) h2.2.2.2))))))))))))))))))))))))) )))))))))))))))))))))
theorem r40_65 {o : eO} {σo : eS} {L h z : Nat} {I : Nat → Nat → Int32} {J : Nat → Nat → Int64} {x3 x6 : Int32} {a4 : Nat} (hw4 : w5 a4) (H : ((200 : Int32) ≤ x6 → (∃ v5 : Int32, Den 41 [.ref 58] (mS L I J h z) (.inl (some (.int v5))) (mS L I J h z) ∧ (v5 = 0 → o = .inl none ∧ σo = (mS L I J h z)) ∧ (¬ v5 = 0 → o = .inl none ∧ σo = (mS L (u2 I 58 8 (1 : Int32)) J h z)))) ∧ (¬ (200 : Int32) ≤ x6 → (∃ v7 : Int32, Den 41 [.ref 58] (mS L I J h z) (.inl (some (.int v7))) (mS L I J h z) ∧ (v7 = 0 → (∃ v9 : Int32, Den 41 [.ref 58] (mS L I J h z) (.inl (some (.int v9))) (mS L I J h z) ∧ (v9 = 0 → o = .inl none ∧ σo = (mS L I J h z)) ∧ (¬ v9 = 0 → o = .inl none ∧ σo = (mS L (u2 I 58 8 (1 : Int32)) J h z)))) ∧ (¬ v7 = 0 → vp_in (I 58 6) 64 ∧ (∃ I11 : Nat → Nat → Int32, ∃ J12 : Nat → Nat → Int64, Den 42 [.ref 58, .int (I (R0 a4 0) ((I 58 6).toNatClampNeg)), .int (I (R0 a4 1) ((I 58 6).toNatClampNeg)), .ref 10, .int x3] (mS L (u2 I 58 6 ((I 58 6) + (1 : Int32))) J h z) (.inl none) (mS L I11 J12 h z) ∧ Run 40 65 [(0, .ref 58), (2, .ref 10), (3, .int x3), (4, .ref a4), (6, .int (x6 + 1))] [] (mS L I11 J12 h z) o σo))))) : Run 40 65 [(0, .ref 58), (2, .ref 10), (3, .int x3), (4, .ref a4), (6, .int x6)] [] (mS L I J h z) o σo :=
  Run.blk k40_65 c40_65 (And.intro (fun c4 => (Run.blk (μ := 40) (pc := 130) k40_130 c40_130 (And.intro (Nat.le_of_ble_eq_true rfl) (And.intro gw41 (And.intro (Nat.le_of_ble_eq_true rfl) (And.intro (recv_o (q := 41) rk41 rc41 (oK_isO kO_58)) (Exists.elim (H.1 c4) (fun v5 h14 => have h13 := h14; (Or.inl (Exists.intro (some (.int v5)) (Exists.intro (mS L I J h z) (And.intro h13.1 (And.intro (fun c6 => (Run.blk (μ := 40) (pc := 142) k40_142 c40_142 (And.intro rt40 (h13.2.1 c6)))) (fun c6 => (And.intro (oK_isO kO_58) (And.intro ⟨rfl, rfl⟩ (And.intro rt40 (h13.2.2 c6)))))))))))))))))) (fun c4 => (And.intro (Nat.le_of_ble_eq_true rfl) (And.intro gw41 (And.intro (Nat.le_of_ble_eq_true rfl) (And.intro (recv_o (q := 41) rk41 rc41 (oK_isO kO_58)) (Exists.elim (H.2 c4) (fun v7 h21 => have h15 := h21; (Or.inl (Exists.intro (some (.int v7)) (Exists.intro (mS L I J h z) (And.intro h15.1 (And.intro (fun c8 => (Run.blk (μ := 40) (pc := 130) k40_130 c40_130 (And.intro (Nat.le_of_ble_eq_true rfl) (And.intro gw41 (And.intro (Nat.le_of_ble_eq_true rfl) (And.intro (recv_o (q := 41) rk41 rc41 (oK_isO kO_58)) (Exists.elim (h15.2.1 c8) (fun v9 h17 => have h16 := h17; (Or.inl (Exists.intro (some (.int v9)) (Exists.intro (mS L I J h z) (And.intro h16.1 (And.intro (fun c10 => (Run.blk (μ := 40) (pc := 142) k40_142 c40_142 (And.intro rt40 (h16.2.1 c10)))) (fun c10 => (And.intro (oK_isO kO_58) (And.intro ⟨rfl, rfl⟩ (And.intro rt40 (h16.2.2 c10)))))))))))))))))) (fun c8 => (And.intro (oK_isO (w5_o hw4)) (And.intro (a_nz (w5_a0 hw4)) (And.intro (oK_isO kO_58) (Exists.intro 64 (And.intro (aK_isA (w5_a0 hw4)) (And.intro (h15.2.2 c8).1 (And.intro (oK_isO (w5_o hw4)) (And.intro (a_nz (w5_a1 hw4)) (And.intro (oK_isO kO_58) (Exists.intro 64 (And.intro (aK_isA (w5_a1 hw4)) (And.intro (h15.2.2 c8).1 (And.intro rfl (And.intro (oK_isO kO_58) (And.intro (oK_isO kO_58) (And.intro ⟨rfl, rfl⟩ (And.intro (Nat.le_of_ble_eq_true rfl) (And.intro gw42 (And.intro (Nat.le_of_ble_eq_true rfl) (And.intro (recv_o (q := 42) rk42 rc42 (oK_isO kO_58)) (Exists.elim (h15.2.2 c8).2 (fun I11 h19 => Exists.elim h19 (fun J12 h20 => have h18 := h20; (Or.inl (Exists.intro none (Exists.intro (mS L I11 J12 h z) (And.intro h18.1 (Run.sub [(0, .ref 58), (2, .ref 10), (3, .int x3), (4, .ref a4), (6, .int (x6 + 1))] (sub_pick [3, 4, 5, 6, 0] rfl) h18.2))))))))))))))))))))))))))))))))))))))))))
-- X4_isRunning
theorem rt41 : eRt 41 = some .boolean := by decide +kernel
theorem rx41 : ¬ eKd 41 = 3 := by decide +kernel
theorem ry41 : ¬ eKd 41 = 4 := by decide +kernel
abbrev k41_0 : List (Instr × Nat) := [(.aload_n 0, 1), (.getfield 264, 3), (.ifCond .ne 18, 3), (.aload_n 0, 1), (.getfield 262, 3), (.aload_n 0, 1), (.getfield 263, 3), (.if_icmp .ge 7, 3), (.iconst 1, 1), (.goto 4, 3)]
theorem c41_0 : chk 41 0 k41_0 = true := by decide +kernel
abbrev k41_22 : List (Instr × Nat) := [(.iconst 0, 1), (.ireturn, 1)]
theorem c41_22 : chk 41 22 k41_22 = true := by decide +kernel
abbrev k41_23 : List (Instr × Nat) := [(.ireturn, 1)]
theorem c41_23 : chk 41 23 k41_23 = true := by decide +kernel
theorem r41_0 {o : eO} {σo : eS} {L h z : Nat} {I : Nat → Nat → Int32} {J : Nat → Nat → Int64}  (H : (¬ (I 58 8) = 0 → o = .inl (some (.int (0 : Int32))) ∧ σo = (mS L I J h z)) ∧ ((I 58 8) = 0 → ((I 58 7) ≤ (I 58 6) → o = .inl (some (.int (0 : Int32))) ∧ σo = (mS L I J h z)) ∧ (¬ (I 58 7) ≤ (I 58 6) → o = .inl (some (.int (1 : Int32))) ∧ σo = (mS L I J h z)))) : Run 41 0 [(0, .ref 58)] [] (mS L I J h z) o σo :=
  Run.blk k41_0 c41_0 (And.intro (oK_isO kO_58) (And.intro (fun c1 => (Run.blk (μ := 41) (pc := 22) k41_22 c41_22 (ret_i rt41 rfl (H.1 c1)))) (fun c1 => (And.intro (oK_isO kO_58) (And.intro (oK_isO kO_58) (And.intro (fun c2 => (Run.blk (μ := 41) (pc := 22) k41_22 c41_22 (ret_i rt41 rfl ((H.2 c1).1 c2)))) (fun c2 => (Run.blk (μ := 41) (pc := 23) k41_23 c41_23 (ret_i rt41 rfl ((H.2 c1).2 c2))))))))))
-- X4_work
theorem rt42 : eRt 42 = none := by decide +kernel
theorem gw43 : 5 ≤ eL 43 := by decide +kernel
theorem rk43 : eKd 43 = 0 ∨ eKd 43 = 2 := by decide +kernel
theorem rc43 : eC 43 = 4 := by decide +kernel
theorem gw44 : 6 ≤ eL 44 := by decide +kernel
theorem rk44 : eKd 44 = 0 ∨ eKd 44 = 2 := by decide +kernel
theorem rc44 : eC 44 = 4 := by decide +kernel
theorem gw46 : 3 ≤ eL 46 := by decide +kernel
theorem rk46 : eKd 46 = 0 ∨ eKd 46 = 2 := by decide +kernel
theorem rc46 : eC 46 = 4 := by decide +kernel
theorem gw50 : 3 ≤ eL 50 := by decide +kernel
theorem rk50 : eKd 50 = 0 ∨ eKd 50 = 2 := by decide +kernel
theorem rc50 : eC 50 = 4 := by decide +kernel
theorem gw51 : 1 ≤ eL 51 := by decide +kernel
theorem rk51 : eKd 51 = 0 ∨ eKd 51 = 2 := by decide +kernel
theorem rc51 : eC 51 = 4 := by decide +kernel
theorem rx42 : ¬ eKd 42 = 3 := by decide +kernel
theorem ry42 : ¬ eKd 42 = 4 := by decide +kernel
abbrev k42_0 : List (Instr × Nat) := [(.iload_n 1, 1), (.iconst 5, 1), (.if_icmp .gt 19, 3), (.aload_n 0, 1), (.aload_n 0, 1), (.iload_n 1, 1), (.iload_n 2, 1), (.aload_n 3, 1), (.iload 4, 2), (.invokeinterface 43 5, 3), (.invokeinterface 50 2, 3), (.goto 45, 3)]
theorem c42_0 : chk 42 0 k42_0 = true := by decide +kernel
abbrev k42_21 : List (Instr × Nat) := [(.iload_n 1, 1), (.iconst 7, 2), (.if_icmp .lt 33, 3), (.iload_n 1, 1), (.iconst 12, 2), (.if_icmp .gt 27, 3), (.aload_n 0, 1), (.invokeinterface 51 1, 3), (.lstore 5, 2), (.aload_n 0, 1), (.aload_n 0, 1), (.iload_n 1, 1), (.aload_n 0, 1), (.invokeinterface 51 1, 3), (.lload 5, 2), (.invokeinterface 44 4, 3), (.invokeinterface 50 2, 3), (.goto 9, 3)]
theorem c42_21 : chk 42 21 k42_21 = true := by decide +kernel
abbrev k42_57 : List (Instr × Nat) := [(.aload_n 0, 1), (.iload_n 1, 1), (.iload_n 2, 1), (.invokeinterface 46 3, 3), (.return_, 1)]
theorem c42_57 : chk 42 57 k42_57 = true := by decide +kernel
abbrev k42_63 : List (Instr × Nat) := [(.return_, 1)]
theorem c42_63 : chk 42 63 k42_63 = true := by decide +kernel
theorem r42_0 {o : eO} {σo : eS} {L h z : Nat} {I : Nat → Nat → Int32} {J : Nat → Nat → Int64} {x1 x2 x4 : Int32}  (H : ((5 : Int32) < x1 → (x1 < (7 : Int32) → (∃ I3 : Nat → Nat → Int32, ∃ J4 : Nat → Nat → Int64, Den 46 [.ref 58, .int x1, .int x2] (mS L I J h z) (.inl none) (mS L I3 J4 h z) ∧ o = .inl none ∧ σo = (mS L I3 J4 h z))) ∧ (¬ x1 < (7 : Int32) → ((12 : Int32) < x1 → (∃ I6 : Nat → Nat → Int32, ∃ J7 : Nat → Nat → Int64, Den 46 [.ref 58, .int x1, .int x2] (mS L I J h z) (.inl none) (mS L I6 J7 h z) ∧ o = .inl none ∧ σo = (mS L I6 J7 h z))) ∧ (¬ (12 : Int32) < x1 → (∃ v8 : Int64, ∃ I9 : Nat → Nat → Int32, ∃ J10 : Nat → Nat → Int64, Den 51 [.ref 58] (mS L I J h z) (.inl (some (.long v8))) (mS L I9 J10 h z) ∧ (∃ v11 : Int64, ∃ I12 : Nat → Nat → Int32, ∃ J13 : Nat → Nat → Int64, Den 51 [.ref 58] (mS L I9 J10 h z) (.inl (some (.long v11))) (mS L I12 J13 h z) ∧ (∃ v14 : Int64, ∃ I15 : Nat → Nat → Int32, ∃ J16 : Nat → Nat → Int64, Den 44 [.ref 58, .int x1, .long v11, .long v8] (mS L I12 J13 h z) (.inl (some (.long v14))) (mS L I15 J16 h z) ∧ (∃ I17 : Nat → Nat → Int32, ∃ J18 : Nat → Nat → Int64, Den 50 [.ref 58, .long v14] (mS L I15 J16 h z) (.inl none) (mS L I17 J18 h z) ∧ o = .inl none ∧ σo = (mS L I17 J18 h z)))))))) ∧ (¬ (5 : Int32) < x1 → (∃ v19 : Int64, Den 43 [.ref 58, .int x1, .int x2, .ref 10, .int x4] (mS L I J h z) (.inl (some (.long v19))) (mS L I J h z) ∧ (∃ I20 : Nat → Nat → Int32, ∃ J21 : Nat → Nat → Int64, Den 50 [.ref 58, .long v19] (mS L I J h z) (.inl none) (mS L I20 J21 h z) ∧ o = .inl none ∧ σo = (mS L I20 J21 h z))))) : Run 42 0 [(0, .ref 58), (1, .int x1), (2, .int x2), (3, .ref 10), (4, .int x4)] [] (mS L I J h z) o σo :=
  Run.blk k42_0 c42_0 (And.intro (fun c1 => (Run.blk (μ := 42) (pc := 21) k42_21 c42_21 (And.intro (fun c2 => (Run.blk (μ := 42) (pc := 57) k42_57 c42_57 (And.intro (Nat.le_of_ble_eq_true rfl) (And.intro gw46 (And.intro (Nat.le_of_ble_eq_true rfl) (And.intro (recv_o (q := 46) rk46 rc46 (oK_isO kO_58)) (Exists.elim ((H.1 c1).1 c2) (fun I3 h23 => Exists.elim h23 (fun J4 h24 => have h22 := h24; (Or.inl (Exists.intro none (Exists.intro (mS L I3 J4 h z) (And.intro h22.1 (And.intro rt42 h22.2)))))))))))))) (fun c2 => (And.intro (fun c5 => (Run.blk (μ := 42) (pc := 57) k42_57 c42_57 (And.intro (Nat.le_of_ble_eq_true rfl) (And.intro gw46 (And.intro (Nat.le_of_ble_eq_true rfl) (And.intro (recv_o (q := 46) rk46 rc46 (oK_isO kO_58)) (Exists.elim (((H.1 c1).2 c2).1 c5) (fun I6 h26 => Exists.elim h26 (fun J7 h27 => have h25 := h27; (Or.inl (Exists.intro none (Exists.intro (mS L I6 J7 h z) (And.intro h25.1 (And.intro rt42 h25.2)))))))))))))) (fun c5 => (And.intro (Nat.le_of_ble_eq_true rfl) (And.intro gw51 (And.intro (Nat.le_of_ble_eq_true rfl) (And.intro (recv_o (q := 51) rk51 rc51 (oK_isO kO_58)) (Exists.elim (((H.1 c1).2 c2).2 c5) (fun v8 h40 => Exists.elim h40 (fun I9 h41 => Exists.elim h41 (fun J10 h42 => have h28 := h42; (Or.inl (Exists.intro (some (.long v8)) (Exists.intro (mS L I9 J10 h z) (And.intro h28.1 (And.intro (Nat.le_of_ble_eq_true rfl) (And.intro gw51 (And.intro (Nat.le_of_ble_eq_true rfl) (And.intro (recv_o (q := 51) rk51 rc51 (oK_isO kO_58)) (Exists.elim h28.2 (fun v11 h37 => Exists.elim h37 (fun I12 h38 => Exists.elim h38 (fun J13 h39 => have h29 := h39; (Or.inl (Exists.intro (some (.long v11)) (Exists.intro (mS L I12 J13 h z) (And.intro h29.1 (And.intro (Nat.le_of_ble_eq_true rfl) (And.intro gw44 (And.intro (Nat.le_of_ble_eq_true rfl) (And.intro (recv_o (q := 44) rk44 rc44 (oK_isO kO_58)) (Exists.elim h29.2 (fun v14 h34 => Exists.elim h34 (fun I15 h35 => Exists.elim h35 (fun J16 h36 => have h30 := h36; (Or.inl (Exists.intro (some (.long v14)) (Exists.intro (mS L I15 J16 h z) (And.intro h30.1 (And.intro (Nat.le_of_ble_eq_true rfl) (And.intro gw50 (And.intro (Nat.le_of_ble_eq_true rfl) (And.intro (recv_o (q := 50) rk50 rc50 (oK_isO kO_58)) (Exists.elim h30.2 (fun I17 h32 => Exists.elim h32 (fun J18 h33 => have h31 := h33; (Or.inl (Exists.intro none (Exists.intro (mS L I17 J18 h z) (And.intro h31.1 (Run.blk (μ := 42) (pc := 63) k42_63 c42_63 (And.intro rt42 h31.2))))))))))))))))))))))))))))))))))))))))))))))))))))))) (fun c1 => (And.intro (Nat.le_of_ble_eq_true rfl) (And.intro gw43 (And.intro (Nat.le_of_ble_eq_true rfl) (And.intro (recv_o (q := 43) rk43 rc43 (oK_isO kO_58)) (Exists.elim (H.2 c1) (fun v19 h47 => have h43 := h47; (Or.inl (Exists.intro (some (.long v19)) (Exists.intro (mS L I J h z) (And.intro h43.1 (And.intro (Nat.le_of_ble_eq_true rfl) (And.intro gw50 (And.intro (Nat.le_of_ble_eq_true rfl) (And.intro (recv_o (q := 50) rk50 rc50 (oK_isO kO_58)) (Exists.elim h43.2 (fun I20 h45 => Exists.elim h45 (fun J21 h46 => have h44 := h46; (Or.inl (Exists.intro none (Exists.intro (mS L I20 J21 h z) (And.intro h44.1 (Run.blk (μ := 42) (pc := 63) k42_63 c42_63 (And.intro rt42 h44.2)))))))))))))))))))))))))
-- X4_pushed
theorem rt43 : eRt 43 = some .long := by decide +kernel
theorem rx43 : ¬ eKd 43 = 3 := by decide +kernel
theorem ry43 : ¬ eKd 43 = 4 := by decide +kernel
abbrev k43_0 : List (Instr × Nat) := [(.iload_n 1, 1), (.tableswitch 73 0 4 #[35, 38, 46, 55, 64], 35)]
theorem c43_0 : chk 43 0 k43_0 = true := by decide +kernel
abbrev k43_36 : List (Instr × Nat) := [(.iload_n 2, 1), (.i2l, 1), (.lreturn, 1)]
theorem c43_36 : chk 43 36 k43_36 = true := by decide +kernel
abbrev k43_39 : List (Instr × Nat) := [(.aload_n 3, 1), (.getfield 132, 3), (.iload 4, 2), (.laload, 1), (.lreturn, 1)]
theorem c43_39 : chk 43 39 k43_39 = true := by decide +kernel
abbrev k43_47 : List (Instr × Nat) := [(.aload_n 3, 1), (.getfield 131, 3), (.iload 4, 2), (.iaload, 1), (.i2l, 1), (.lreturn, 1)]
theorem c43_47 : chk 43 47 k43_47 = true := by decide +kernel
abbrev k43_56 : List (Instr × Nat) := [(.aload_n 3, 1), (.getfield 128, 3), (.iload 4, 2), (.iaload, 1), (.i2l, 1), (.lreturn, 1)]
theorem c43_56 : chk 43 56 k43_56 = true := by decide +kernel
abbrev k43_65 : List (Instr × Nat) := [(.aload_n 3, 1), (.getfield 129, 3), (.iload 4, 2), (.iaload, 1), (.i2l, 1), (.lreturn, 1)]
theorem c43_65 : chk 43 65 k43_65 = true := by decide +kernel
abbrev k43_74 : List (Instr × Nat) := [(.aload_n 0, 1), (.getfield 257, 3), (.iload_n 2, 1), (.laload, 1), (.lreturn, 1)]
theorem c43_74 : chk 43 74 k43_74 = true := by decide +kernel
theorem r43_0 {o : eO} {σo : eS} {L h z : Nat} {I : Nat → Nat → Int32} {J : Nat → Nat → Int64} {x1 x2 x4 : Int32}  (H : ∃ off : Int, swT 73 0 4 #[35, 38, 46, 55, 64] x1 = some off ∧ 0 ≤ (1 : Int) + off ∧ Run 43 (jmp 1 off) [(0, .ref 58), (1, .int x1), (2, .int x2), (3, .ref 10), (4, .int x4)] [] (mS L I J h z) o σo) : Run 43 0 [(0, .ref 58), (1, .int x1), (2, .int x2), (3, .ref 10), (4, .int x4)] [] (mS L I J h z) o σo :=
  Run.blk k43_0 c43_0 H
theorem r43_36 {o : eO} {σo : eS} {L h z : Nat} {I : Nat → Nat → Int32} {J : Nat → Nat → Int64} {x2 : Int32}  (H : o = .inl (some (.long x2.toInt64)) ∧ σo = (mS L I J h z)) : Run 43 36 [(2, .int x2)] [] (mS L I J h z) o σo :=
  Run.blk k43_36 c43_36 (And.intro rt43 H)
theorem r43_39 {o : eO} {σo : eS} {L h z : Nat} {I : Nat → Nat → Int32} {J : Nat → Nat → Int64} {x4 : Int32}  (H : vp_in x4 2500 ∧ o = .inl (some (.long (J 15 x4.toNatClampNeg))) ∧ σo = (mS L I J h z)) : Run 43 39 [(3, .ref 10), (4, .int x4)] [] (mS L I J h z) o σo :=
  Run.blk k43_39 c43_39 (And.intro (oK_isO kO_10) (And.intro rN_10_4 (Exists.intro 2500 (And.intro kA_15.1 (And.intro (aK_isA kA_15) (And.intro H.1 (And.intro rt43 H.2)))))))
theorem r43_47 {o : eO} {σo : eS} {L h z : Nat} {I : Nat → Nat → Int32} {J : Nat → Nat → Int64} {x4 : Int32}  (H : vp_in x4 2500 ∧ o = .inl (some (.long ((I 14 x4.toNatClampNeg).toInt64))) ∧ σo = (mS L I J h z)) : Run 43 47 [(3, .ref 10), (4, .int x4)] [] (mS L I J h z) o σo :=
  Run.blk k43_47 c43_47 (And.intro (oK_isO kO_10) (And.intro rN_10_3 (Exists.intro 2500 (And.intro (aK_isA kA_14) (And.intro H.1 (And.intro rt43 H.2))))))
theorem r43_56 {o : eO} {σo : eS} {L h z : Nat} {I : Nat → Nat → Int32} {J : Nat → Nat → Int64} {x4 : Int32}  (H : vp_in x4 2500 ∧ o = .inl (some (.long ((I 11 x4.toNatClampNeg).toInt64))) ∧ σo = (mS L I J h z)) : Run 43 56 [(3, .ref 10), (4, .int x4)] [] (mS L I J h z) o σo :=
  Run.blk k43_56 c43_56 (And.intro (oK_isO kO_10) (And.intro rN_10_0 (Exists.intro 2500 (And.intro (aK_isA kA_11) (And.intro H.1 (And.intro rt43 H.2))))))
theorem r43_65 {o : eO} {σo : eS} {L h z : Nat} {I : Nat → Nat → Int32} {J : Nat → Nat → Int64} {x4 : Int32}  (H : vp_in x4 2500 ∧ o = .inl (some (.long ((I 12 x4.toNatClampNeg).toInt64))) ∧ σo = (mS L I J h z)) : Run 43 65 [(3, .ref 10), (4, .int x4)] [] (mS L I J h z) o σo :=
  Run.blk k43_65 c43_65 (And.intro (oK_isO kO_10) (And.intro rN_10_1 (Exists.intro 2500 (And.intro (aK_isA kA_12) (And.intro H.1 (And.intro rt43 H.2))))))
theorem r43_74 {o : eO} {σo : eS} {L h z : Nat} {I : Nat → Nat → Int32} {J : Nat → Nat → Int64} {x2 : Int32}  (H : vp_in x2 4 ∧ o = .inl (some (.long (J 60 x2.toNatClampNeg))) ∧ σo = (mS L I J h z)) : Run 43 74 [(0, .ref 58), (2, .int x2)] [] (mS L I J h z) o σo :=
  Run.blk k43_74 c43_74 (And.intro (oK_isO kO_58) (And.intro rN_58_1 (Exists.intro 4 (And.intro kA_60.1 (And.intro (aK_isA kA_60) (And.intro H.1 (And.intro rt43 H.2)))))))
-- X4_joined
theorem rt44 : eRt 44 = some .long := by decide +kernel
theorem gw45 : 5 ≤ eL 45 := by decide +kernel
theorem rk45 : eKd 45 = 0 ∨ eKd 45 = 2 := by decide +kernel
theorem rc45 : eC 45 = 4 := by decide +kernel
theorem rx44 : ¬ eKd 44 = 3 := by decide +kernel
theorem ry44 : ¬ eKd 44 = 4 := by decide +kernel
abbrev k44_0 : List (Instr × Nat) := [(.iload_n 1, 1), (.tableswitch 71 7 11 #[35, 40, 45, 50, 58], 35)]
theorem c44_0 : chk 44 0 k44_0 = true := by decide +kernel
abbrev k44_36 : List (Instr × Nat) := [(.lload_n 2, 1), (.lload 4, 2), (.ladd, 1), (.lreturn, 1)]
theorem c44_36 : chk 44 36 k44_36 = true := by decide +kernel
abbrev k44_41 : List (Instr × Nat) := [(.lload_n 2, 1), (.lload 4, 2), (.lsub, 1), (.lreturn, 1)]
theorem c44_41 : chk 44 41 k44_41 = true := by decide +kernel
abbrev k44_46 : List (Instr × Nat) := [(.lload_n 2, 1), (.lload 4, 2), (.lmul, 1), (.lreturn, 1)]
theorem c44_46 : chk 44 46 k44_46 = true := by decide +kernel
abbrev k44_51 : List (Instr × Nat) := [(.aload_n 0, 1), (.lload_n 2, 1), (.lload 4, 2), (.invokeinterface 45 3, 3), (.lreturn, 1)]
theorem c44_51 : chk 44 51 k44_51 = true := by decide +kernel
abbrev k44_59 : List (Instr × Nat) := [(.lload_n 2, 1), (.lload 4, 2), (.lcmp, 1), (.ifCond .ge 7, 3), (.lconst 1, 1), (.goto 4, 3)]
theorem c44_59 : chk 44 59 k44_59 = true := by decide +kernel
abbrev k44_70 : List (Instr × Nat) := [(.lconst 0, 1), (.lreturn, 1)]
theorem c44_70 : chk 44 70 k44_70 = true := by decide +kernel
abbrev k44_71 : List (Instr × Nat) := [(.lreturn, 1)]
theorem c44_71 : chk 44 71 k44_71 = true := by decide +kernel
abbrev k44_72 : List (Instr × Nat) := [(.lload_n 2, 1), (.lload 4, 2), (.lcmp, 1), (.ifCond .ne 7, 3), (.lconst 1, 1), (.goto 4, 3)]
theorem c44_72 : chk 44 72 k44_72 = true := by decide +kernel
abbrev k44_83 : List (Instr × Nat) := [(.lconst 0, 1), (.lreturn, 1)]
theorem c44_83 : chk 44 83 k44_83 = true := by decide +kernel
abbrev k44_84 : List (Instr × Nat) := [(.lreturn, 1)]
theorem c44_84 : chk 44 84 k44_84 = true := by decide +kernel
theorem r44_0 {o : eO} {σo : eS} {L h z : Nat} {I : Nat → Nat → Int32} {J : Nat → Nat → Int64} {x1 : Int32} {y2 y4 : Int64}  (H : ∃ off : Int, swT 71 7 11 #[35, 40, 45, 50, 58] x1 = some off ∧ 0 ≤ (1 : Int) + off ∧ Run 44 (jmp 1 off) [(0, .ref 58), (1, .int x1), (2, .long y2), (4, .long y4)] [] (mS L I J h z) o σo) : Run 44 0 [(0, .ref 58), (1, .int x1), (2, .long y2), (4, .long y4)] [] (mS L I J h z) o σo :=
  Run.blk k44_0 c44_0 H
theorem r44_36 {o : eO} {σo : eS} {L h z : Nat} {I : Nat → Nat → Int32} {J : Nat → Nat → Int64} {y2 y4 : Int64}  (H : o = .inl (some (.long (y2 + y4))) ∧ σo = (mS L I J h z)) : Run 44 36 [(2, .long y2), (4, .long y4)] [] (mS L I J h z) o σo :=
  Run.blk k44_36 c44_36 (And.intro rt44 H)
theorem r44_41 {o : eO} {σo : eS} {L h z : Nat} {I : Nat → Nat → Int32} {J : Nat → Nat → Int64} {y2 y4 : Int64}  (H : o = .inl (some (.long (y2 - y4))) ∧ σo = (mS L I J h z)) : Run 44 41 [(2, .long y2), (4, .long y4)] [] (mS L I J h z) o σo :=
  Run.blk k44_41 c44_41 (And.intro rt44 H)
theorem r44_46 {o : eO} {σo : eS} {L h z : Nat} {I : Nat → Nat → Int32} {J : Nat → Nat → Int64} {y2 y4 : Int64}  (H : o = .inl (some (.long (y2 * y4))) ∧ σo = (mS L I J h z)) : Run 44 46 [(2, .long y2), (4, .long y4)] [] (mS L I J h z) o σo :=
  Run.blk k44_46 c44_46 (And.intro rt44 H)
theorem r44_51 {o : eO} {σo : eS} {L h z : Nat} {I : Nat → Nat → Int32} {J : Nat → Nat → Int64} {y2 y4 : Int64}  (H : (∃ v1 : Int64, ∃ I2 : Nat → Nat → Int32, ∃ J3 : Nat → Nat → Int64, Den 45 [.ref 58, .long y2, .long y4] (mS L I J h z) (.inl (some (.long v1))) (mS L I2 J3 h z) ∧ o = .inl (some (.long v1)) ∧ σo = (mS L I2 J3 h z))) : Run 44 51 [(0, .ref 58), (2, .long y2), (4, .long y4)] [] (mS L I J h z) o σo :=
  Run.blk k44_51 c44_51 (And.intro (Nat.le_of_ble_eq_true rfl) (And.intro gw45 (And.intro (Nat.le_of_ble_eq_true rfl) (And.intro (recv_o (q := 45) rk45 rc45 (oK_isO kO_58)) (Exists.elim H (fun v1 h5 => Exists.elim h5 (fun I2 h6 => Exists.elim h6 (fun J3 h7 => have h4 := h7; (Or.inl (Exists.intro (some (.long v1)) (Exists.intro (mS L I2 J3 h z) (And.intro h4.1 (And.intro rt44 h4.2)))))))))))))
theorem r44_59 {o : eO} {σo : eS} {L h z : Nat} {I : Nat → Nat → Int32} {J : Nat → Nat → Int64} {y2 y4 : Int64}  (H : (0 ≤ (lg_cmp y2 y4) → o = .inl (some (.long (0 : Int64))) ∧ σo = (mS L I J h z)) ∧ (¬ 0 ≤ (lg_cmp y2 y4) → o = .inl (some (.long (1 : Int64))) ∧ σo = (mS L I J h z))) : Run 44 59 [(2, .long y2), (4, .long y4)] [] (mS L I J h z) o σo :=
  Run.blk k44_59 c44_59 (And.intro (fun c8 => (Run.blk (μ := 44) (pc := 70) k44_70 c44_70 (And.intro rt44 (H.1 c8)))) (fun c8 => (Run.blk (μ := 44) (pc := 71) k44_71 c44_71 (And.intro rt44 (H.2 c8)))))
theorem r44_72 {o : eO} {σo : eS} {L h z : Nat} {I : Nat → Nat → Int32} {J : Nat → Nat → Int64} {y2 y4 : Int64}  (H : (¬ (lg_cmp y2 y4) = 0 → o = .inl (some (.long (0 : Int64))) ∧ σo = (mS L I J h z)) ∧ ((lg_cmp y2 y4) = 0 → o = .inl (some (.long (1 : Int64))) ∧ σo = (mS L I J h z))) : Run 44 72 [(2, .long y2), (4, .long y4)] [] (mS L I J h z) o σo :=
  Run.blk k44_72 c44_72 (And.intro (fun c9 => (Run.blk (μ := 44) (pc := 83) k44_83 c44_83 (And.intro rt44 (H.1 c9)))) (fun c9 => (Run.blk (μ := 44) (pc := 84) k44_84 c44_84 (And.intro rt44 (H.2 c9)))))
-- X4_divided
theorem rt45 : eRt 45 = some .long := by decide +kernel
theorem rx45 : ¬ eKd 45 = 3 := by decide +kernel
theorem ry45 : ¬ eKd 45 = 4 := by decide +kernel
abbrev k45_0 : List (Instr × Nat) := [(.lload_n 3, 1), (.lconst 0, 1), (.lcmp, 1), (.ifCond .ne 10, 3), (.aload_n 0, 1), (.iconst 1, 1), (.putfield 264, 3), (.lconst 0, 1), (.lreturn, 1)]
theorem c45_0 : chk 45 0 k45_0 = true := by decide +kernel
abbrev k45_13 : List (Instr × Nat) := [(.lload_n 1, 1), (.lload_n 3, 1), (.ldiv, 1), (.lreturn, 1)]
theorem c45_13 : chk 45 13 k45_13 = true := by decide +kernel
theorem r45_0 {o : eO} {σo : eS} {L h z : Nat} {I : Nat → Nat → Int32} {J : Nat → Nat → Int64} {y1 y3 : Int64}  (H : (¬ (lg_cmp y3 (0 : Int64)) = 0 → ¬ y3 = 0 ∧ o = .inl (some (.long (y1 / y3))) ∧ σo = (mS L I J h z)) ∧ ((lg_cmp y3 (0 : Int64)) = 0 → o = .inl (some (.long (0 : Int64))) ∧ σo = (mS L (u2 I 58 8 (1 : Int32)) J h z))) : Run 45 0 [(0, .ref 58), (1, .long y1), (3, .long y3)] [] (mS L I J h z) o σo :=
  Run.blk k45_0 c45_0 (And.intro (fun c1 => (Run.blk (μ := 45) (pc := 13) k45_13 c45_13 (And.intro (H.1 c1).1 (And.intro rt45 (H.1 c1).2)))) (fun c1 => (And.intro (oK_isO kO_58) (And.intro ⟨rfl, rfl⟩ (And.intro rt45 (H.2 c1))))))
-- X4_workRest
theorem rt46 : eRt 46 = none := by decide +kernel
theorem gw47 : 3 ≤ eL 47 := by decide +kernel
theorem rk47 : eKd 47 = 0 ∨ eKd 47 = 2 := by decide +kernel
theorem rc47 : eC 47 = 4 := by decide +kernel
theorem gw48 : 5 ≤ eL 48 := by decide +kernel
theorem rk48 : eKd 48 = 0 ∨ eKd 48 = 2 := by decide +kernel
theorem rc48 : eC 48 = 4 := by decide +kernel
theorem gw49 : 4 ≤ eL 49 := by decide +kernel
theorem rk49 : eKd 49 = 0 ∨ eKd 49 = 2 := by decide +kernel
theorem rc49 : eC 49 = 4 := by decide +kernel
theorem rx46 : ¬ eKd 46 = 3 := by decide +kernel
theorem ry46 : ¬ eKd 46 = 4 := by decide +kernel
abbrev k46_0 : List (Instr × Nat) := [(.iload_n 1, 1), (.tableswitch 158 6 18 #[67, 158, 158, 158, 158, 158, 158, 80, 91, 99, 114, 122, 146], 67)]
theorem c46_0 : chk 46 0 k46_0 = true := by decide +kernel
abbrev k46_68 : List (Instr × Nat) := [(.aload_n 0, 1), (.getfield 257, 3), (.iload_n 2, 1), (.aload_n 0, 1), (.invokeinterface 51 1, 3), (.lastore, 1), (.goto 89, 3)]
theorem c46_68 : chk 46 68 k46_68 = true := by decide +kernel
abbrev k46_81 : List (Instr × Nat) := [(.aload_n 0, 1), (.aload_n 0, 1), (.invokeinterface 51 1, 3), (.invokeinterface 47 2, 3), (.goto 78, 3)]
theorem c46_81 : chk 46 81 k46_81 = true := by decide +kernel
abbrev k46_92 : List (Instr × Nat) := [(.aload_n 0, 1), (.invokeinterface 51 1, 3), (.pop2, 1), (.goto 70, 3)]
theorem c46_92 : chk 46 92 k46_92 = true := by decide +kernel
abbrev k46_100 : List (Instr × Nat) := [(.aload_n 0, 1), (.aload_n 0, 1), (.invokeinterface 51 1, 3), (.aload_n 0, 1), (.invokeinterface 51 1, 3), (.invokeinterface 48 3, 3), (.goto 55, 3)]
theorem c46_100 : chk 46 100 k46_100 = true := by decide +kernel
abbrev k46_115 : List (Instr × Nat) := [(.aload_n 0, 1), (.iload_n 2, 1), (.putfield 262, 3), (.goto 47, 3)]
theorem c46_115 : chk 46 115 k46_115 = true := by decide +kernel
abbrev k46_123 : List (Instr × Nat) := [(.aload_n 0, 1), (.aload_n 0, 1), (.invokeinterface 51 1, 3), (.lconst 0, 1), (.lcmp, 1), (.ifCond .ne 7, 3), (.iload_n 2, 1), (.goto 7, 3)]
theorem c46_123 : chk 46 123 k46_123 = true := by decide +kernel
abbrev k46_137 : List (Instr × Nat) := [(.aload_n 0, 1), (.getfield 262, 3), (.putfield 262, 3), (.goto 23, 3)]
theorem c46_137 : chk 46 137 k46_137 = true := by decide +kernel
abbrev k46_141 : List (Instr × Nat) := [(.putfield 262, 3), (.goto 23, 3)]
theorem c46_141 : chk 46 141 k46_141 = true := by decide +kernel
abbrev k46_147 : List (Instr × Nat) := [(.aload_n 0, 1), (.iload_n 2, 1), (.aload_n 0, 1), (.invokeinterface 51 1, 3), (.invokeinterface 49 3, 3), (.goto 11, 3)]
theorem c46_147 : chk 46 147 k46_147 = true := by decide +kernel
abbrev k46_159 : List (Instr × Nat) := [(.aload_n 0, 1), (.aload_n 0, 1), (.getfield 263, 3), (.putfield 262, 3), (.return_, 1)]
theorem c46_159 : chk 46 159 k46_159 = true := by decide +kernel
abbrev k46_167 : List (Instr × Nat) := [(.return_, 1)]
theorem c46_167 : chk 46 167 k46_167 = true := by decide +kernel
theorem r46_0 {o : eO} {σo : eS} {L h z : Nat} {I : Nat → Nat → Int32} {J : Nat → Nat → Int64} {x1 x2 : Int32}  (H : ∃ off : Int, swT 158 6 18 #[67, 158, 158, 158, 158, 158, 158, 80, 91, 99, 114, 122, 146] x1 = some off ∧ 0 ≤ (1 : Int) + off ∧ Run 46 (jmp 1 off) [(0, .ref 58), (1, .int x1), (2, .int x2)] [] (mS L I J h z) o σo) : Run 46 0 [(0, .ref 58), (1, .int x1), (2, .int x2)] [] (mS L I J h z) o σo :=
  Run.blk k46_0 c46_0 H
theorem r46_68 {o : eO} {σo : eS} {L h z : Nat} {I : Nat → Nat → Int32} {J : Nat → Nat → Int64} {x2 : Int32}  (H : (∃ v1 : Int64, ∃ I2 : Nat → Nat → Int32, ∃ J3 : Nat → Nat → Int64, Den 51 [.ref 58] (mS L I J h z) (.inl (some (.long v1))) (mS L I2 J3 h z) ∧ vp_in x2 4 ∧ o = .inl none ∧ σo = (mS L I2 (u2 J3 60 x2.toNatClampNeg v1) h z))) : Run 46 68 [(0, .ref 58), (2, .int x2)] [] (mS L I J h z) o σo :=
  Run.blk k46_68 c46_68 (And.intro (oK_isO kO_58) (And.intro rN_58_1 (And.intro (Nat.le_of_ble_eq_true rfl) (And.intro gw51 (And.intro (Nat.le_of_ble_eq_true rfl) (And.intro (recv_o (q := 51) rk51 rc51 (oK_isO kO_58)) (Exists.elim H (fun v1 h5 => Exists.elim h5 (fun I2 h6 => Exists.elim h6 (fun J3 h7 => have h4 := h7; (Or.inl (Exists.intro (some (.long v1)) (Exists.intro (mS L I2 J3 h z) (And.intro h4.1 (Exists.intro 4 (And.intro kA_60.1 (And.intro (aK_isA kA_60) (And.intro h4.2.1 (Run.blk (μ := 46) (pc := 167) k46_167 c46_167 (And.intro rt46 h4.2.2))))))))))))))))))))
theorem r46_81 {o : eO} {σo : eS} {L h z : Nat} {I : Nat → Nat → Int32} {J : Nat → Nat → Int64}  (H : (∃ v8 : Int64, ∃ I9 : Nat → Nat → Int32, ∃ J10 : Nat → Nat → Int64, Den 51 [.ref 58] (mS L I J h z) (.inl (some (.long v8))) (mS L I9 J10 h z) ∧ (∃ I11 : Nat → Nat → Int32, ∃ J12 : Nat → Nat → Int64, Den 47 [.ref 58, .long v8] (mS L I9 J10 h z) (.inl none) (mS L I11 J12 h z) ∧ o = .inl none ∧ σo = (mS L I11 J12 h z)))) : Run 46 81 [(0, .ref 58)] [] (mS L I J h z) o σo :=
  Run.blk k46_81 c46_81 (And.intro (Nat.le_of_ble_eq_true rfl) (And.intro gw51 (And.intro (Nat.le_of_ble_eq_true rfl) (And.intro (recv_o (q := 51) rk51 rc51 (oK_isO kO_58)) (Exists.elim H (fun v8 h17 => Exists.elim h17 (fun I9 h18 => Exists.elim h18 (fun J10 h19 => have h13 := h19; (Or.inl (Exists.intro (some (.long v8)) (Exists.intro (mS L I9 J10 h z) (And.intro h13.1 (And.intro (Nat.le_of_ble_eq_true rfl) (And.intro gw47 (And.intro (Nat.le_of_ble_eq_true rfl) (And.intro (recv_o (q := 47) rk47 rc47 (oK_isO kO_58)) (Exists.elim h13.2 (fun I11 h15 => Exists.elim h15 (fun J12 h16 => have h14 := h16; (Or.inl (Exists.intro none (Exists.intro (mS L I11 J12 h z) (And.intro h14.1 (Run.blk (μ := 46) (pc := 167) k46_167 c46_167 (And.intro rt46 h14.2)))))))))))))))))))))))))
theorem r46_92 {o : eO} {σo : eS} {L h z : Nat} {I : Nat → Nat → Int32} {J : Nat → Nat → Int64}  (H : (∃ v20 : Int64, ∃ I21 : Nat → Nat → Int32, ∃ J22 : Nat → Nat → Int64, Den 51 [.ref 58] (mS L I J h z) (.inl (some (.long v20))) (mS L I21 J22 h z) ∧ o = .inl none ∧ σo = (mS L I21 J22 h z))) : Run 46 92 [(0, .ref 58)] [] (mS L I J h z) o σo :=
  Run.blk k46_92 c46_92 (And.intro (Nat.le_of_ble_eq_true rfl) (And.intro gw51 (And.intro (Nat.le_of_ble_eq_true rfl) (And.intro (recv_o (q := 51) rk51 rc51 (oK_isO kO_58)) (Exists.elim H (fun v20 h24 => Exists.elim h24 (fun I21 h25 => Exists.elim h25 (fun J22 h26 => have h23 := h26; (Or.inl (Exists.intro (some (.long v20)) (Exists.intro (mS L I21 J22 h z) (And.intro h23.1 (Run.blk (μ := 46) (pc := 167) k46_167 c46_167 (And.intro rt46 h23.2))))))))))))))
theorem r46_100 {o : eO} {σo : eS} {L h z : Nat} {I : Nat → Nat → Int32} {J : Nat → Nat → Int64}  (H : (∃ v27 : Int64, ∃ I28 : Nat → Nat → Int32, ∃ J29 : Nat → Nat → Int64, Den 51 [.ref 58] (mS L I J h z) (.inl (some (.long v27))) (mS L I28 J29 h z) ∧ (∃ v30 : Int64, ∃ I31 : Nat → Nat → Int32, ∃ J32 : Nat → Nat → Int64, Den 51 [.ref 58] (mS L I28 J29 h z) (.inl (some (.long v30))) (mS L I31 J32 h z) ∧ (∃ I33 : Nat → Nat → Int32, ∃ J34 : Nat → Nat → Int64, Den 48 [.ref 58, .long v27, .long v30] (mS L I31 J32 h z) (.inl none) (mS L I33 J34 h z) ∧ o = .inl none ∧ σo = (mS L I33 J34 h z))))) : Run 46 100 [(0, .ref 58)] [] (mS L I J h z) o σo :=
  Run.blk k46_100 c46_100 (And.intro (Nat.le_of_ble_eq_true rfl) (And.intro gw51 (And.intro (Nat.le_of_ble_eq_true rfl) (And.intro (recv_o (q := 51) rk51 rc51 (oK_isO kO_58)) (Exists.elim H (fun v27 h43 => Exists.elim h43 (fun I28 h44 => Exists.elim h44 (fun J29 h45 => have h35 := h45; (Or.inl (Exists.intro (some (.long v27)) (Exists.intro (mS L I28 J29 h z) (And.intro h35.1 (And.intro (Nat.le_of_ble_eq_true rfl) (And.intro gw51 (And.intro (Nat.le_of_ble_eq_true rfl) (And.intro (recv_o (q := 51) rk51 rc51 (oK_isO kO_58)) (Exists.elim h35.2 (fun v30 h40 => Exists.elim h40 (fun I31 h41 => Exists.elim h41 (fun J32 h42 => have h36 := h42; (Or.inl (Exists.intro (some (.long v30)) (Exists.intro (mS L I31 J32 h z) (And.intro h36.1 (And.intro (Nat.le_of_ble_eq_true rfl) (And.intro gw48 (And.intro (Nat.le_of_ble_eq_true rfl) (And.intro (recv_o (q := 48) rk48 rc48 (oK_isO kO_58)) (Exists.elim h36.2 (fun I33 h38 => Exists.elim h38 (fun J34 h39 => have h37 := h39; (Or.inl (Exists.intro none (Exists.intro (mS L I33 J34 h z) (And.intro h37.1 (Run.blk (μ := 46) (pc := 167) k46_167 c46_167 (And.intro rt46 h37.2)))))))))))))))))))))))))))))))))))))
theorem r46_115 {o : eO} {σo : eS} {L h z : Nat} {I : Nat → Nat → Int32} {J : Nat → Nat → Int64} {x2 : Int32}  (H : o = .inl none ∧ σo = (mS L (u2 I 58 6 x2) J h z)) : Run 46 115 [(0, .ref 58), (2, .int x2)] [] (mS L I J h z) o σo :=
  Run.blk k46_115 c46_115 (And.intro (oK_isO kO_58) (And.intro ⟨rfl, rfl⟩ (Run.blk (μ := 46) (pc := 167) k46_167 c46_167 (And.intro rt46 H))))
theorem r46_123 {o : eO} {σo : eS} {L h z : Nat} {I : Nat → Nat → Int32} {J : Nat → Nat → Int64} {x2 : Int32}  (H : (∃ v46 : Int64, ∃ I47 : Nat → Nat → Int32, ∃ J48 : Nat → Nat → Int64, Den 51 [.ref 58] (mS L I J h z) (.inl (some (.long v46))) (mS L I47 J48 h z) ∧ (¬ (lg_cmp v46 (0 : Int64)) = 0 → o = .inl none ∧ σo = (mS L (u2 I47 58 6 (I47 58 6)) J48 h z)) ∧ ((lg_cmp v46 (0 : Int64)) = 0 → o = .inl none ∧ σo = (mS L (u2 I47 58 6 x2) J48 h z)))) : Run 46 123 [(0, .ref 58), (2, .int x2)] [] (mS L I J h z) o σo :=
  Run.blk k46_123 c46_123 (And.intro (Nat.le_of_ble_eq_true rfl) (And.intro gw51 (And.intro (Nat.le_of_ble_eq_true rfl) (And.intro (recv_o (q := 51) rk51 rc51 (oK_isO kO_58)) (Exists.elim H (fun v46 h51 => Exists.elim h51 (fun I47 h52 => Exists.elim h52 (fun J48 h53 => have h50 := h53; (Or.inl (Exists.intro (some (.long v46)) (Exists.intro (mS L I47 J48 h z) (And.intro h50.1 (And.intro (fun c49 => (Run.blk (μ := 46) (pc := 137) k46_137 c46_137 (And.intro (oK_isO kO_58) (And.intro (oK_isO kO_58) (And.intro ⟨rfl, rfl⟩ (Run.blk (μ := 46) (pc := 167) k46_167 c46_167 (And.intro rt46 (h50.2.1 c49)))))))) (fun c49 => (Run.blk (μ := 46) (pc := 141) k46_141 c46_141 (And.intro (oK_isO kO_58) (And.intro ⟨rfl, rfl⟩ (Run.blk (μ := 46) (pc := 167) k46_167 c46_167 (And.intro rt46 (h50.2.2 c49))))))))))))))))))))
theorem r46_147 {o : eO} {σo : eS} {L h z : Nat} {I : Nat → Nat → Int32} {J : Nat → Nat → Int64} {x2 : Int32}  (H : (∃ v54 : Int64, ∃ I55 : Nat → Nat → Int32, ∃ J56 : Nat → Nat → Int64, Den 51 [.ref 58] (mS L I J h z) (.inl (some (.long v54))) (mS L I55 J56 h z) ∧ (∃ I57 : Nat → Nat → Int32, ∃ J58 : Nat → Nat → Int64, Den 49 [.ref 58, .int x2, .long v54] (mS L I55 J56 h z) (.inl none) (mS L I57 J58 h z) ∧ o = .inl none ∧ σo = (mS L I57 J58 h z)))) : Run 46 147 [(0, .ref 58), (2, .int x2)] [] (mS L I J h z) o σo :=
  Run.blk k46_147 c46_147 (And.intro (Nat.le_of_ble_eq_true rfl) (And.intro gw51 (And.intro (Nat.le_of_ble_eq_true rfl) (And.intro (recv_o (q := 51) rk51 rc51 (oK_isO kO_58)) (Exists.elim H (fun v54 h63 => Exists.elim h63 (fun I55 h64 => Exists.elim h64 (fun J56 h65 => have h59 := h65; (Or.inl (Exists.intro (some (.long v54)) (Exists.intro (mS L I55 J56 h z) (And.intro h59.1 (And.intro (Nat.le_of_ble_eq_true rfl) (And.intro gw49 (And.intro (Nat.le_of_ble_eq_true rfl) (And.intro (recv_o (q := 49) rk49 rc49 (oK_isO kO_58)) (Exists.elim h59.2 (fun I57 h61 => Exists.elim h61 (fun J58 h62 => have h60 := h62; (Or.inl (Exists.intro none (Exists.intro (mS L I57 J58 h z) (And.intro h60.1 (Run.blk (μ := 46) (pc := 167) k46_167 c46_167 (And.intro rt46 h60.2)))))))))))))))))))))))))
theorem r46_159 {o : eO} {σo : eS} {L h z : Nat} {I : Nat → Nat → Int32} {J : Nat → Nat → Int64}  (H : o = .inl none ∧ σo = (mS L (u2 I 58 6 (I 58 7)) J h z)) : Run 46 159 [(0, .ref 58)] [] (mS L I J h z) o σo :=
  Run.blk k46_159 c46_159 (And.intro (oK_isO kO_58) (And.intro (oK_isO kO_58) (And.intro ⟨rfl, rfl⟩ (And.intro rt46 H))))
-- X4_pushTwice
theorem rt47 : eRt 47 = none := by decide +kernel
theorem rx47 : ¬ eKd 47 = 3 := by decide +kernel
theorem ry47 : ¬ eKd 47 = 4 := by decide +kernel
abbrev k47_0 : List (Instr × Nat) := [(.aload_n 0, 1), (.lload_n 1, 1), (.invokeinterface 50 2, 3), (.aload_n 0, 1), (.lload_n 1, 1), (.invokeinterface 50 2, 3), (.return_, 1)]
theorem c47_0 : chk 47 0 k47_0 = true := by decide +kernel
theorem r47_0 {o : eO} {σo : eS} {L h z : Nat} {I : Nat → Nat → Int32} {J : Nat → Nat → Int64} {y1 : Int64}  (H : (∃ I1 : Nat → Nat → Int32, ∃ J2 : Nat → Nat → Int64, Den 50 [.ref 58, .long y1] (mS L I J h z) (.inl none) (mS L I1 J2 h z) ∧ (∃ I3 : Nat → Nat → Int32, ∃ J4 : Nat → Nat → Int64, Den 50 [.ref 58, .long y1] (mS L I1 J2 h z) (.inl none) (mS L I3 J4 h z) ∧ o = .inl none ∧ σo = (mS L I3 J4 h z)))) : Run 47 0 [(0, .ref 58), (1, .long y1)] [] (mS L I J h z) o σo :=
  Run.blk k47_0 c47_0 (And.intro (Nat.le_of_ble_eq_true rfl) (And.intro gw50 (And.intro (Nat.le_of_ble_eq_true rfl) (And.intro (recv_o (q := 50) rk50 rc50 (oK_isO kO_58)) (Exists.elim H (fun I1 h9 => Exists.elim h9 (fun J2 h10 => have h5 := h10; (Or.inl (Exists.intro none (Exists.intro (mS L I1 J2 h z) (And.intro h5.1 (And.intro (Nat.le_of_ble_eq_true rfl) (And.intro gw50 (And.intro (Nat.le_of_ble_eq_true rfl) (And.intro (recv_o (q := 50) rk50 rc50 (oK_isO kO_58)) (Exists.elim h5.2 (fun I3 h7 => Exists.elim h7 (fun J4 h8 => have h6 := h8; (Or.inl (Exists.intro none (Exists.intro (mS L I3 J4 h z) (And.intro h6.1 (And.intro rt47 h6.2)))))))))))))))))))))))
-- X4_pushChanged
theorem rt48 : eRt 48 = none := by decide +kernel
theorem rx48 : ¬ eKd 48 = 3 := by decide +kernel
theorem ry48 : ¬ eKd 48 = 4 := by decide +kernel
abbrev k48_0 : List (Instr × Nat) := [(.aload_n 0, 1), (.lload_n 1, 1), (.invokeinterface 50 2, 3), (.aload_n 0, 1), (.lload_n 3, 1), (.invokeinterface 50 2, 3), (.return_, 1)]
theorem c48_0 : chk 48 0 k48_0 = true := by decide +kernel
theorem r48_0 {o : eO} {σo : eS} {L h z : Nat} {I : Nat → Nat → Int32} {J : Nat → Nat → Int64} {y1 y3 : Int64}  (H : (∃ I1 : Nat → Nat → Int32, ∃ J2 : Nat → Nat → Int64, Den 50 [.ref 58, .long y1] (mS L I J h z) (.inl none) (mS L I1 J2 h z) ∧ (∃ I3 : Nat → Nat → Int32, ∃ J4 : Nat → Nat → Int64, Den 50 [.ref 58, .long y3] (mS L I1 J2 h z) (.inl none) (mS L I3 J4 h z) ∧ o = .inl none ∧ σo = (mS L I3 J4 h z)))) : Run 48 0 [(0, .ref 58), (1, .long y1), (3, .long y3)] [] (mS L I J h z) o σo :=
  Run.blk k48_0 c48_0 (And.intro (Nat.le_of_ble_eq_true rfl) (And.intro gw50 (And.intro (Nat.le_of_ble_eq_true rfl) (And.intro (recv_o (q := 50) rk50 rc50 (oK_isO kO_58)) (Exists.elim H (fun I1 h9 => Exists.elim h9 (fun J2 h10 => have h5 := h10; (Or.inl (Exists.intro none (Exists.intro (mS L I1 J2 h z) (And.intro h5.1 (And.intro (Nat.le_of_ble_eq_true rfl) (And.intro gw50 (And.intro (Nat.le_of_ble_eq_true rfl) (And.intro (recv_o (q := 50) rk50 rc50 (oK_isO kO_58)) (Exists.elim h5.2 (fun I3 h7 => Exists.elim h7 (fun J4 h8 => have h6 := h8; (Or.inl (Exists.intro none (Exists.intro (mS L I3 J4 h z) (And.intro h6.1 (And.intro rt48 h6.2)))))))))))))))))))))))
-- X4_emit
theorem rt49 : eRt 49 = none := by decide +kernel
theorem rx49 : ¬ eKd 49 = 3 := by decide +kernel
theorem ry49 : ¬ eKd 49 = 4 := by decide +kernel
abbrev k49_0 : List (Instr × Nat) := [(.aload_n 0, 1), (.getfield 260, 3), (.iconst 4, 1), (.if_icmp .lt 9, 3), (.aload_n 0, 1), (.iconst 1, 1), (.putfield 264, 3), (.return_, 1)]
theorem c49_0 : chk 49 0 k49_0 = true := by decide +kernel
abbrev k49_14 : List (Instr × Nat) := [(.aload_n 0, 1), (.getfield 258, 3), (.aload_n 0, 1), (.getfield 260, 3), (.iload_n 1, 1), (.iastore, 1), (.aload_n 0, 1), (.getfield 259, 3), (.aload_n 0, 1), (.getfield 260, 3), (.lload_n 2, 1), (.lastore, 1), (.aload_n 0, 1), (.dup, 1), (.getfield 260, 3), (.iconst 1, 1), (.iadd, 1), (.putfield 260, 3), (.return_, 1)]
theorem c49_14 : chk 49 14 k49_14 = true := by decide +kernel
theorem r49_0 {o : eO} {σo : eS} {L h z : Nat} {I : Nat → Nat → Int32} {J : Nat → Nat → Int64} {x1 : Int32} {y2 : Int64}  (H : ((I 58 4) < (4 : Int32) → vp_in (I 58 4) 4 ∧ o = .inl none ∧ σo = (mS L (u2 (u2 I 61 ((I 58 4).toNatClampNeg) x1) 58 4 ((I 58 4) + (1 : Int32))) (u2 J 62 ((I 58 4).toNatClampNeg) y2) h z)) ∧ (¬ (I 58 4) < (4 : Int32) → o = .inl none ∧ σo = (mS L (u2 I 58 8 (1 : Int32)) J h z))) : Run 49 0 [(0, .ref 58), (1, .int x1), (2, .long y2)] [] (mS L I J h z) o σo :=
  Run.blk k49_0 c49_0 (And.intro (oK_isO kO_58) (And.intro (fun c1 => (Run.blk (μ := 49) (pc := 14) k49_14 c49_14 (And.intro (oK_isO kO_58) (And.intro rN_58_2 (And.intro (oK_isO kO_58) (Exists.intro 4 (And.intro kA_61.1 (And.intro (aK_isA kA_61) (And.intro (H.1 c1).1 (And.intro (oK_isO kO_58) (And.intro rN_58_3 (And.intro (oK_isO kO_58) (Exists.intro 4 (And.intro kA_62.1 (And.intro (aK_isA kA_62) (And.intro (H.1 c1).1 (And.intro rfl (And.intro (oK_isO kO_58) (And.intro (oK_isO kO_58) (And.intro ⟨rfl, rfl⟩ (And.intro rt49 (H.1 c1).2))))))))))))))))))))) (fun c1 => (And.intro (oK_isO kO_58) (And.intro ⟨rfl, rfl⟩ (And.intro rt49 (H.2 c1)))))))
-- X4_push
theorem rt50 : eRt 50 = none := by decide +kernel
theorem rx50 : ¬ eKd 50 = 3 := by decide +kernel
theorem ry50 : ¬ eKd 50 = 4 := by decide +kernel
abbrev k50_0 : List (Instr × Nat) := [(.aload_n 0, 1), (.getfield 261, 3), (.iconst 16, 2), (.if_icmp .lt 9, 3), (.aload_n 0, 1), (.iconst 1, 1), (.putfield 264, 3), (.return_, 1)]
theorem c50_0 : chk 50 0 k50_0 = true := by decide +kernel
abbrev k50_15 : List (Instr × Nat) := [(.aload_n 0, 1), (.getfield 256, 3), (.aload_n 0, 1), (.getfield 261, 3), (.lload_n 1, 1), (.lastore, 1), (.aload_n 0, 1), (.dup, 1), (.getfield 261, 3), (.iconst 1, 1), (.iadd, 1), (.putfield 261, 3), (.return_, 1)]
theorem c50_15 : chk 50 15 k50_15 = true := by decide +kernel
theorem r50_0 {o : eO} {σo : eS} {L h z : Nat} {I : Nat → Nat → Int32} {J : Nat → Nat → Int64} {y1 : Int64}  (H : ((I 58 5) < (16 : Int32) → vp_in (I 58 5) 16 ∧ o = .inl none ∧ σo = (mS L (u2 I 58 5 ((I 58 5) + (1 : Int32))) (u2 J 59 ((I 58 5).toNatClampNeg) y1) h z)) ∧ (¬ (I 58 5) < (16 : Int32) → o = .inl none ∧ σo = (mS L (u2 I 58 8 (1 : Int32)) J h z))) : Run 50 0 [(0, .ref 58), (1, .long y1)] [] (mS L I J h z) o σo :=
  Run.blk k50_0 c50_0 (And.intro (oK_isO kO_58) (And.intro (fun c1 => (Run.blk (μ := 50) (pc := 15) k50_15 c50_15 (And.intro (oK_isO kO_58) (And.intro rN_58_0 (And.intro (oK_isO kO_58) (Exists.intro 16 (And.intro kA_59.1 (And.intro (aK_isA kA_59) (And.intro (H.1 c1).1 (And.intro rfl (And.intro (oK_isO kO_58) (And.intro (oK_isO kO_58) (And.intro ⟨rfl, rfl⟩ (And.intro rt50 (H.1 c1).2)))))))))))))) (fun c1 => (And.intro (oK_isO kO_58) (And.intro ⟨rfl, rfl⟩ (And.intro rt50 (H.2 c1)))))))
-- X4_pop
theorem rt51 : eRt 51 = some .long := by decide +kernel
theorem rx51 : ¬ eKd 51 = 3 := by decide +kernel
theorem ry51 : ¬ eKd 51 = 4 := by decide +kernel
abbrev k51_0 : List (Instr × Nat) := [(.aload_n 0, 1), (.getfield 261, 3), (.ifCond .gt 10, 3), (.aload_n 0, 1), (.iconst 1, 1), (.putfield 264, 3), (.lconst 0, 1), (.lreturn, 1)]
theorem c51_0 : chk 51 0 k51_0 = true := by decide +kernel
abbrev k51_14 : List (Instr × Nat) := [(.aload_n 0, 1), (.dup, 1), (.getfield 261, 3), (.iconst 1, 1), (.isub, 1), (.putfield 261, 3), (.aload_n 0, 1), (.getfield 256, 3), (.aload_n 0, 1), (.getfield 261, 3), (.laload, 1), (.lreturn, 1)]
theorem c51_14 : chk 51 14 k51_14 = true := by decide +kernel
theorem r51_0 {o : eO} {σo : eS} {L h z : Nat} {I : Nat → Nat → Int32} {J : Nat → Nat → Int64}  (H : (0 < (I 58 5) → vp_in ((I 58 5) - (1 : Int32)) 16 ∧ o = .inl (some (.long (J 59 (((I 58 5) - (1 : Int32)).toNatClampNeg)))) ∧ σo = (mS L (u2 I 58 5 ((I 58 5) - (1 : Int32))) J h z)) ∧ (¬ 0 < (I 58 5) → o = .inl (some (.long (0 : Int64))) ∧ σo = (mS L (u2 I 58 8 (1 : Int32)) J h z))) : Run 51 0 [(0, .ref 58)] [] (mS L I J h z) o σo :=
  Run.blk k51_0 c51_0 (And.intro (oK_isO kO_58) (And.intro (fun c1 => (Run.blk (μ := 51) (pc := 14) k51_14 c51_14 (And.intro rfl (And.intro (oK_isO kO_58) (And.intro (oK_isO kO_58) (And.intro ⟨rfl, rfl⟩ (And.intro (oK_isO kO_58) (And.intro rN_58_0 (And.intro (oK_isO kO_58) (Exists.intro 16 (And.intro kA_59.1 (And.intro (aK_isA kA_59) (And.intro (H.1 c1).1 (And.intro rt51 (H.1 c1).2)))))))))))))) (fun c1 => (And.intro (oK_isO kO_58) (And.intro ⟨rfl, rfl⟩ (And.intro rt51 (H.2 c1)))))))
