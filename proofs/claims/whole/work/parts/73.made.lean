/-! The constructors, and the law up to its loop. -/
/-- the ints as far as they are set -/
def Ist (xs : Nat → Int32) (m b j : Nat) : Int32 := if b < m then I0 xs b j else 0
theorem Ist_z {xs : Nat → Int32} {m b : Nat} (h : m ≤ b) (j : Nat) : Ist xs m b j = 0 := if_neg (by omega)
theorem I0_z1 {xs : Nat → Int32} {b : Nat} (h : 3 ≤ b) (h2 : b < 18) (j : Nat) : I0 xs b j = 0 := by
  unfold I0
  rw [if_neg (by omega), if_neg (by omega), if_neg (by omega), if_neg (by omega), if_neg (by omega)]
theorem I0_z2 {xs : Nat → Int32} {b : Nat} (h : 58 ≤ b) (h2 : ¬ b = 145) (h3 : ¬ b = 153) (j : Nat) : I0 xs b j = 0 := by
  unfold I0
  rw [if_neg (by omega), if_neg (by omega), if_neg (by omega), if_neg (by omega), if_neg (by omega)]
theorem Ist_z1 {xs : Nat → Int32} {b : Nat} (h : 3 ≤ b) (j : Nat) : Ist xs 18 b j = 0 := by
  unfold Ist
  by_cases c : b < 18
  · rw [if_pos c]; exact I0_z1 h c j
  · exact if_neg c
theorem Ist_d {xs : Nat → Int32} : u2 (u2 (Ist xs 2) 2 0 1) 2 3 (-1) = Ist xs 18 := by
  funext b j
  simp only [u2_at]
  by_cases c : b = 2
  · subst c
    unfold Ist I0
    simp
    by_cases c3 : j = 3
    · simp [c3]
    · simp [c3]
  · rw [if_neg (fun q => c q.1), if_neg (fun q => c q.1)]
    by_cases c2 : b < 2
    · unfold Ist; rw [if_pos c2, if_pos (by omega)]
    · rw [Ist_z (by omega), Ist_z1 (by omega)]
theorem Ist_s {xs : Nat → Int32} {i : Nat} (hi : i < 40) : u2 (Ist xs (18 + i)) (18 + i) 0 (-1) = Ist xs (18 + (i + 1)) := by
  funext b j
  rw [u2_at]
  by_cases c : b = 18 + i
  · have e1 : I0 xs b j = if j = 0 then -1 else 0 := by
      unfold I0
      rw [if_neg (by omega), if_neg (by omega), if_pos (by omega)]
    have e2 : Ist xs (18 + (i + 1)) b j = I0 xs b j := if_pos (by omega)
    rw [e2, e1]
    by_cases c2 : j = 0
    · rw [if_pos ⟨c, c2⟩, if_pos c2]
    · rw [if_neg (fun q => c2 q.2), if_neg c2, Ist_z (by omega)]
  · rw [if_neg (fun q => c q.1)]
    unfold Ist
    by_cases c2 : b < 18 + i
    · rw [if_pos c2, if_pos (by omega)]
    · rw [if_neg c2, if_neg (by omega)]
theorem rtC0 : eRt 0 = none := by decide +kernel
theorem rtC6 : eRt 6 = none := by decide +kernel
theorem rtC10 : eRt 10 = none := by decide +kernel
theorem rtC25 : eRt 25 = none := by decide +kernel
theorem rtC39 : eRt 39 = none := by decide +kernel
theorem rtC52 : eRt 52 = none := by decide +kernel
theorem rtC58 : eRt 58 = none := by decide +kernel
theorem rtC65 : eRt 65 = none := by decide +kernel
theorem rtC70 : eRt 70 = none := by decide +kernel
theorem rtC112 : eRt 112 = none := by decide +kernel
section
variable {L N z : Nat} {p : List Nat} {I : rI}
theorem mk0 {a : Nat} (ha : oK a 0) (haN : a < N) : Den 0 [.ref a] (mC L N p I z) (.inl none) (mC L N p (u2 (u2 I a 0 1) a 3 (-1)) z) :=
  Run.blk [(.aload_n 0, 1), (.monitorenter, 3), (.aload_n 0, 1), (.iconst 1, 1), (.putfield 0, 3), (.aload_n 0, 1), (.iconst (-1), 1), (.putfield 3, 3), (.return_, 1)] (by decide +kernel)
    (And.intro (Nat.le_of_ble_eq_true rfl) (And.intro ⟨ha.1, haN, ha.2.2 L⟩ (And.intro ⟨rfl, rfl⟩ (And.intro ⟨ha.1, haN, ha.2.2 L⟩ (And.intro ⟨rfl, rfl⟩ ⟨rtC0, rfl, rfl⟩)))))
theorem mk7 {a : Nat} (ha : oK a 7) (haN : a < N) : Den 65 [.ref a] (mC L N p I z) (.inl none) (mC L N p (u2 I a 0 (-1)) z) :=
  Run.blk [(.aload_n 0, 1), (.monitorenter, 3), (.aload_n 0, 1), (.iconst (-1), 1), (.putfield 448, 3), (.return_, 1)] (by decide +kernel)
    (And.intro (Nat.le_of_ble_eq_true rfl) (And.intro ⟨ha.1, haN, ha.2.2 L⟩ (And.intro ⟨rfl, rfl⟩ ⟨rtC65, rfl, rfl⟩)))
theorem mk3 {a : Nat} (hw : w3 a) (r0 : R0 a 0 = N) (r1 : R0 a 1 = N + 1) (r2 : R0 a 2 = N + 2) (r3 : R0 a 3 = N + 3) (hI : ∀ b, N ≤ b → ∀ j, I b j = 0) (hp : ∀ x ∈ p, x < N) : Den 25 [.ref a] (mC L N p I z) (.inl none) (mC L (N + 4) p I (z + 2500 + 2500 + 16 + 16)) := by
  refine Run.blk [(.aload_n 0, 1), (.monitorenter, 3)] (by decide +kernel) (And.intro (Nat.le_of_ble_eq_true rfl) ?_)
  refine nwA (N := N) (l := 3) (f := 192) (v := 2500) (n := 2500) (t := .int) (ty := .int) (by decide +kernel) (by decide +kernel) hw.1 rfl r0 (by decide) (by decide) (Nat.le_of_ble_eq_true rfl) (r0 ▸ w3_a0 hw) rfl (fun b hb => hI b (by omega)) hp ?_
  refine nwA (N := N + 1) (l := 3) (f := 193) (v := 2500) (n := 2500) (t := .int) (ty := .int) (by decide +kernel) (by decide +kernel) hw.1 rfl r1 (by decide) (by decide) (Nat.le_of_ble_eq_true rfl) (r1 ▸ w3_a1 hw) rfl (fun b hb => hI b (by omega)) (fun x q => Nat.lt_of_lt_of_le (hp x q) (Nat.le_add_right _ _)) ?_
  refine nwA (N := N + 2) (l := 2) (f := 194) (v := 16) (n := 16) (t := .int) (ty := .int) (by decide +kernel) (by decide +kernel) hw.1 rfl r2 (by decide) (by decide) (Nat.le_of_ble_eq_true rfl) (r2 ▸ w3_a2 hw) rfl (fun b hb => hI b (by omega)) (fun x q => Nat.lt_of_lt_of_le (hp x q) (Nat.le_add_right _ _)) ?_
  refine nwA (N := N + 3) (l := 2) (f := 195) (v := 16) (n := 16) (t := .int) (ty := .int) (by decide +kernel) (by decide +kernel) hw.1 rfl r3 (by decide) (by decide) (Nat.le_of_ble_eq_true rfl) (r3 ▸ w3_a3 hw) rfl (fun b hb => hI b (by omega)) (fun x q => Nat.lt_of_lt_of_le (hp x q) (Nat.le_add_right _ _)) ?_
  exact Run.blk [(.return_, 1)] (by decide +kernel) ⟨rtC25, rfl, rfl⟩
theorem mk5 {a : Nat} (hw : w5 a) (r0 : R0 a 0 = N) (r1 : R0 a 1 = N + 1) (hI : ∀ b, N ≤ b → ∀ j, I b j = 0) (hp : ∀ x ∈ p, x < N) : Den 52 [.ref a] (mC L N p I z) (.inl none) (mC L (N + 2) p I (z + 64 + 64)) := by
  refine Run.blk [(.aload_n 0, 1), (.monitorenter, 3)] (by decide +kernel) (And.intro (Nat.le_of_ble_eq_true rfl) ?_)
  refine nwA (N := N) (l := 2) (f := 320) (v := 64) (n := 64) (t := .int) (ty := .int) (by decide +kernel) (by decide +kernel) hw.1 rfl r0 (by decide) (by decide) (Nat.le_of_ble_eq_true rfl) (r0 ▸ w5_a0 hw) rfl (fun b hb => hI b (by omega)) hp ?_
  refine nwA (N := N + 1) (l := 2) (f := 321) (v := 64) (n := 64) (t := .int) (ty := .int) (by decide +kernel) (by decide +kernel) hw.1 rfl r1 (by decide) (by decide) (Nat.le_of_ble_eq_true rfl) (r1 ▸ w5_a1 hw) rfl (fun b hb => hI b (by omega)) (fun x q => Nat.lt_of_lt_of_le (hp x q) (Nat.le_add_right _ _)) ?_
  exact Run.blk [(.return_, 1)] (by decide +kernel) ⟨rtC52, rfl, rfl⟩
theorem mk6 {a : Nat} (hw : w6 a) (r0 : R0 a 0 = N) (r1 : R0 N 0 = N + 1) (r2 : R0 N 1 = N + 2) (r3 : R0 a 1 = N + 3) (hI : ∀ b, N ≤ b → ∀ j, I b j = 0) (hp : ∀ x ∈ p, x < N) : Den 58 [.ref a] (mC L N p I z) (.inl none) (mC L (N + 4) p I (z + 3 + 64 + 64 + 128)) := by
  have w5' : w5 N := r0 ▸ w6_w0 hw
  refine Run.blk [(.aload_n 0, 1), (.monitorenter, 3)] (by decide +kernel) (And.intro (Nat.le_of_ble_eq_true rfl) ?_)
  refine nwO (N := N) (N' := N + 3) (z' := z + 3 + 64 + 64) (f := 384) (c := 5) (q := 52) (by decide +kernel) (by decide +kernel) hw.1 rfl r0 w5'.1 hI hp (by decide +kernel) (by decide +kernel) (by decide +kernel) (by omega) (mk5 w5' r1 r2 (fun b hb => hI b (by omega)) (fun x q => ?_)) ?_
  · rcases List.mem_cons.mp q with q | q
    · omega
    · exact Nat.lt_succ_of_lt (hp x q)
  refine nwA (N := N + 3) (l := 3) (f := 385) (v := 128) (n := 128) (t := .long) (ty := .long) (by decide +kernel) (by decide +kernel) hw.1 rfl r3 (by decide) (by decide) (Nat.le_of_ble_eq_true rfl) (r3 ▸ w6_a1 hw) rfl (fun b hb => hI b (by omega)) (fun x q => Nat.lt_of_lt_of_le (hp x q) (Nat.le_add_right _ _)) ?_
  exact Run.blk [(.return_, 1)] (by decide +kernel) ⟨rtC58, rfl, rfl⟩
end
theorem mk1 {L : Nat} {I : rI} (hI : ∀ b, 4 ≤ b → ∀ j, I b j = 0) : Den 6 [.ref 3] (mC L 4 [3] I 15) (.inl none) (mC L 7 [3] I 39) := by
  refine Run.blk [(.aload_n 0, 1), (.monitorenter, 3)] (by decide +kernel) (And.intro (Nat.le_of_ble_eq_true rfl) ?_)
  refine nwA (N := 4) (z := 15) (l := 2) (f := 64) (v := 8) (n := 8) (t := .int) (ty := .int) (by decide +kernel) (by decide +kernel) kO_3 rfl (by decide +kernel) (by decide) (by decide) (Nat.le_of_ble_eq_true rfl) kA_4 rfl (fun b hb => hI b (Nat.le_trans (Nat.le_of_ble_eq_true rfl) hb)) (by decide) ?_
  refine nwA (N := 5) (z := 23) (l := 2) (f := 65) (v := 8) (n := 8) (t := .int) (ty := .int) (by decide +kernel) (by decide +kernel) kO_3 rfl (by decide +kernel) (by decide) (by decide) (Nat.le_of_ble_eq_true rfl) kA_5 rfl (fun b hb => hI b (Nat.le_trans (Nat.le_of_ble_eq_true rfl) hb)) (by decide) ?_
  refine nwA (N := 6) (z := 31) (l := 2) (f := 66) (v := 8) (n := 8) (t := .long) (ty := .long) (by decide +kernel) (by decide +kernel) kO_3 rfl (by decide +kernel) (by decide) (by decide) (Nat.le_of_ble_eq_true rfl) kA_6 rfl (fun b hb => hI b (Nat.le_trans (Nat.le_of_ble_eq_true rfl) hb)) (by decide) ?_
  exact Run.blk [(.return_, 1)] (by decide +kernel) ⟨rtC6, rfl, rfl⟩
theorem lpS {L : Nat} {xs : Nat → Int32} : ∀ k i, i + k = 40 → Run 10 69 [(0, .ref 10), (1, .int (nI i))] [] (mC L (18 + i) [10] (Ist xs (18 + i)) (15219 + 6 * i)) (.inl none) (mC L 58 [10] (Ist xs 58) 15459) := by
  intro k
  induction k with
  | zero =>
    intro i hi
    have hi2 : i = 40 := hi
    subst hi2
    refine nwX (n := 40) (v := 40) (by decide +kernel) (by decide) rfl ?_
    exact Run.blk [(.return_, 1)] (by decide +kernel) ⟨rtC10, rfl, rfl⟩
  | succ k ih =>
    intro i hi
    have hi2 : i < 40 := by omega
    refine nwL (N := 18 + i) (N' := 18 + (i + 1)) (z := 15219 + 6 * i) (z' := 15219 + 6 * (i + 1)) (I' := Ist xs (18 + (i + 1))) (f := 134) (A := 17) (c := 7) (q := 65) (n := 40) (v := 40) (by decide +kernel) (by decide +kernel) (by decide) (by omega) hi2 kO_10 (by omega) rfl (by decide +kernel) kA_17 (by omega) (by decide) (R0_17 hi2) (sS hi2) (by decide) (fun b hb => Ist_z hb) (fun x q => ?_) (by decide +kernel) (by decide +kernel) (by decide +kernel) (by omega) ?_ (ih (i + 1) (by omega))
    · rcases List.mem_cons.mp q with q | q
      · omega
      · cases q
    · have := mk7 (L := L) (N := 18 + (i + 1)) (z := 15219 + 6 * (i + 1)) (p := [18 + i, 10]) (I := Ist xs (18 + i)) (sS hi2) (by omega)
      rw [Ist_s hi2] at this
      exact this
theorem mk2 {L : Nat} {xs : Nat → Int32} : Den 10 [.ref 10] (mC L 11 [10] (Ist xs 18) 179) (.inl none) (mC L 58 [10] (Ist xs 58) 15459) := by
  have hI : ∀ b, 11 ≤ b → ∀ j, Ist xs 18 b j = 0 := fun b hb => Ist_z1 (by omega)
  refine Run.blk [(.aload_n 0, 1), (.monitorenter, 3)] (by decide +kernel) (And.intro (Nat.le_of_ble_eq_true rfl) ?_)
  refine nwA (N := 11) (z := 179) (l := 3) (f := 128) (v := 2500) (n := 2500) (t := .int) (ty := .int) (by decide +kernel) (by decide +kernel) kO_10 rfl (by decide +kernel) (by decide) (by decide) (Nat.le_of_ble_eq_true rfl) kA_11 rfl (fun b hb => hI b (Nat.le_trans (Nat.le_of_ble_eq_true rfl) hb)) (by decide) ?_
  refine nwA (N := 12) (z := 2679) (l := 3) (f := 129) (v := 2500) (n := 2500) (t := .int) (ty := .int) (by decide +kernel) (by decide +kernel) kO_10 rfl (by decide +kernel) (by decide) (by decide) (Nat.le_of_ble_eq_true rfl) kA_12 rfl (fun b hb => hI b (Nat.le_trans (Nat.le_of_ble_eq_true rfl) hb)) (by decide) ?_
  refine nwA (N := 13) (z := 5179) (l := 3) (f := 130) (v := 2500) (n := 2500) (t := .int) (ty := .int) (by decide +kernel) (by decide +kernel) kO_10 rfl (by decide +kernel) (by decide) (by decide) (Nat.le_of_ble_eq_true rfl) kA_13 rfl (fun b hb => hI b (Nat.le_trans (Nat.le_of_ble_eq_true rfl) hb)) (by decide) ?_
  refine nwA (N := 14) (z := 7679) (l := 3) (f := 131) (v := 2500) (n := 2500) (t := .int) (ty := .int) (by decide +kernel) (by decide +kernel) kO_10 rfl (by decide +kernel) (by decide) (by decide) (Nat.le_of_ble_eq_true rfl) kA_14 rfl (fun b hb => hI b (Nat.le_trans (Nat.le_of_ble_eq_true rfl) hb)) (by decide) ?_
  refine nwA (N := 15) (z := 10179) (l := 3) (f := 132) (v := 2500) (n := 2500) (t := .long) (ty := .long) (by decide +kernel) (by decide +kernel) kO_10 rfl (by decide +kernel) (by decide) (by decide) (Nat.le_of_ble_eq_true rfl) kA_15 rfl (fun b hb => hI b (Nat.le_trans (Nat.le_of_ble_eq_true rfl) hb)) (by decide) ?_
  refine nwA (N := 16) (z := 12679) (l := 3) (f := 133) (v := 2500) (n := 2500) (t := .int) (ty := .int) (by decide +kernel) (by decide +kernel) kO_10 rfl (by decide +kernel) (by decide) (by decide) (Nat.le_of_ble_eq_true rfl) kA_16 rfl (fun b hb => hI b (Nat.le_trans (Nat.le_of_ble_eq_true rfl) hb)) (by decide) ?_
  refine nwR (N := 17) (z := 15179) (l := 2) (f := 134) (v := 40) (n := 40) (c := 7) (by decide +kernel) (by decide +kernel) kO_10 rfl (by decide +kernel) (by decide) (by decide) (Nat.le_of_ble_eq_true rfl) kA_17 (fun b hb => hI b (Nat.le_trans (Nat.le_of_ble_eq_true rfl) hb)) (by decide) ?_
  refine Run.blk [(.iconst 0, 1), (.istore_n 1, 1)] (by decide +kernel) ?_
  exact Run.sub [(0, .ref 10), (1, .int (nI 0))] (sub_pick [1, 0] rfl) (lpS 40 0 rfl)
theorem mk4 {L : Nat} {I : rI} (hI : ∀ b, 59 ≤ b → ∀ j, I b j = 0) : Den 39 [.ref 58] (mC L 59 [58] I 15468) (.inl none) (mC L 63 [58] I 15496) := by
  refine Run.blk [(.aload_n 0, 1), (.monitorenter, 3)] (by decide +kernel) (And.intro (Nat.le_of_ble_eq_true rfl) ?_)
  refine nwA (N := 59) (z := 15468) (l := 2) (f := 256) (v := 16) (n := 16) (t := .long) (ty := .long) (by decide +kernel) (by decide +kernel) kO_58 rfl (by decide +kernel) (by decide) (by decide) (Nat.le_of_ble_eq_true rfl) kA_59 rfl (fun b hb => hI b (Nat.le_trans (Nat.le_of_ble_eq_true rfl) hb)) (by decide) ?_
  refine nwA (N := 60) (z := 15484) (l := 1) (f := 257) (v := 4) (n := 4) (t := .long) (ty := .long) (by decide +kernel) (by decide +kernel) kO_58 rfl (by decide +kernel) (by decide) (by decide) (Nat.le_of_ble_eq_true rfl) kA_60 rfl (fun b hb => hI b (Nat.le_trans (Nat.le_of_ble_eq_true rfl) hb)) (by decide) ?_
  refine nwA (N := 61) (z := 15488) (l := 1) (f := 258) (v := 4) (n := 4) (t := .int) (ty := .int) (by decide +kernel) (by decide +kernel) kO_58 rfl (by decide +kernel) (by decide) (by decide) (Nat.le_of_ble_eq_true rfl) kA_61 rfl (fun b hb => hI b (Nat.le_trans (Nat.le_of_ble_eq_true rfl) hb)) (by decide) ?_
  refine nwA (N := 62) (z := 15492) (l := 1) (f := 259) (v := 4) (n := 4) (t := .long) (ty := .long) (by decide +kernel) (by decide +kernel) kO_58 rfl (by decide +kernel) (by decide) (by decide) (Nat.le_of_ble_eq_true rfl) kA_62 rfl (fun b hb => hI b (Nat.le_trans (Nat.le_of_ble_eq_true rfl) hb)) (by decide) ?_
  exact Run.blk [(.return_, 1)] (by decide +kernel) ⟨rtC39, rfl, rfl⟩
theorem lpG {L : Nat} {xs : Nat → Int32} : ∀ k i, i + k = 8 → Run 70 104 [(0, .ref 1)] [] (mC L 105 [] (Ist xs 58) 55840) (.inl none) (mC L 145 [] (Ist xs 58) 57976) → Run 70 79 [(0, .ref 1), (1, .int (nI i))] [] (mC L (65 + 5 * i) [] (Ist xs 58) (15512 + 5041 * i)) (.inl none) (mC L 145 [] (Ist xs 58) 57976) := by
  intro k
  induction k with
  | zero =>
    intro i hi H
    have hi2 : i = 8 := hi
    subst hi2
    refine nwX (n := 8) (v := 8) (by decide +kernel) (by decide) rfl ?_
    exact Run.sub [(0, .ref 1)] (sub_pick [0] rfl) H
  | succ k ih =>
    intro i hi H
    have hi2 : i < 8 := by omega
    obtain ⟨q0, q1, q2, q3⟩ := R0_g hi2
    refine nwL (N := 65 + 5 * i) (N' := 65 + 5 * (i + 1)) (z := 15512 + 5041 * i) (z' := 15512 + 5041 * (i + 1)) (I' := Ist xs 58) (f := 517) (A := 63) (c := 3) (q := 25) (n := 8) (v := 8) (by decide +kernel) (by decide +kernel) (by decide) (by omega) hi2 kO_1 (by omega) rfl (by decide +kernel) kA_63 (by omega) (by decide) (R0_63 hi2) (w3_o (sG hi2)) (by decide) (fun b hb => Ist_z (by omega)) (fun x q => nomatch q) (by decide +kernel) (by decide +kernel) (by decide +kernel) (by omega) ?_ (ih (i + 1) (by omega) H)
    have := mk3 (L := L) (N := 65 + 5 * i + 1) (z := 15512 + 5041 * i + 9) (p := [65 + 5 * i]) (I := Ist xs 58) (sG hi2) (by omega) (by omega) (by omega) (by omega) (fun b hb => Ist_z (by omega)) (fun x q => by
      rcases List.mem_cons.mp q with q | q
      · omega
      · cases q)
    rw [show 65 + 5 * (i + 1) = 65 + 5 * i + 1 + 4 by omega, show 15512 + 5041 * (i + 1) = 15512 + 5041 * i + 9 + 2500 + 2500 + 16 + 16 by omega]
    exact this
theorem lpJ {L : Nat} {xs : Nat → Int32} : ∀ k i, i + k = 8 → Run 70 106 [(0, .ref 1), (1, .int (nI i))] [] (mC L (105 + 5 * i) [] (Ist xs 58) (55840 + 267 * i)) (.inl none) (mC L 145 [] (Ist xs 58) 57976) := by
  intro k
  induction k with
  | zero =>
    intro i hi
    have hi2 : i = 8 := hi
    subst hi2
    refine nwX (n := 8) (v := 8) (by decide +kernel) (by decide) rfl ?_
    exact Run.blk [(.return_, 1)] (by decide +kernel) ⟨rtC70, rfl, rfl⟩
  | succ k ih =>
    intro i hi
    have hi2 : i < 8 := by omega
    obtain ⟨q0, q1, q2, q3⟩ := R0_p hi2
    refine nwL (N := 105 + 5 * i) (N' := 105 + 5 * (i + 1)) (z := 55840 + 267 * i) (z' := 55840 + 267 * (i + 1)) (I' := Ist xs 58) (f := 518) (A := 64) (c := 6) (q := 58) (n := 8) (v := 8) (by decide +kernel) (by decide +kernel) (by decide) (by omega) hi2 kO_1 (by omega) rfl (by decide +kernel) kA_64 (by omega) (by decide) (R0_64 hi2) (w6_o (sP hi2)) (by decide) (fun b hb => Ist_z (by omega)) (fun x q => nomatch q) (by decide +kernel) (by decide +kernel) (by decide +kernel) (by omega) ?_ (ih (i + 1) (by omega))
    have := mk6 (L := L) (N := 105 + 5 * i + 1) (z := 55840 + 267 * i + 8) (p := [105 + 5 * i]) (I := Ist xs 58) (sP hi2) (by omega) (by rw [show 105 + 5 * i + 1 = 106 + 5 * i by omega]; omega) (by rw [show 105 + 5 * i + 1 = 106 + 5 * i by omega]; omega) (by omega) (fun b hb => Ist_z (by omega)) (fun x q => by
      rcases List.mem_cons.mp q with q | q
      · omega
      · cases q)
    rw [show 105 + 5 * (i + 1) = 105 + 5 * i + 1 + 4 by omega, show 55840 + 267 * (i + 1) = 55840 + 267 * i + 8 + 3 + 64 + 64 + 128 by omega]
    exact this
theorem mk8 {L : Nat} {xs : Nat → Int32} : Den 70 [.ref 1] (mC L 2 [] (Ist xs 2) 7) (.inl none) (mC L 145 [] (Ist xs 58) 57976) := by
  have hI2 : ∀ b, 2 ≤ b → ∀ j, Ist xs 2 b j = 0 := fun b hb => Ist_z hb
  have hI18 : ∀ b, 3 ≤ b → ∀ j, Ist xs 18 b j = 0 := fun b hb => Ist_z1 hb
  have hI58 : ∀ b, 58 ≤ b → ∀ j, Ist xs 58 b j = 0 := fun b hb => Ist_z hb
  refine Run.blk [(.aload_n 0, 1), (.monitorenter, 3)] (by decide +kernel) (And.intro (Nat.le_of_ble_eq_true rfl) ?_)
  refine nwO (N := 2) (N' := 3) (z := 7) (z' := 11) (f := 512) (c := 0) (q := 0) (by decide +kernel) (by decide +kernel) kO_1 rfl (by decide +kernel) kO_2 (fun b hb => hI2 b (Nat.le_trans (Nat.le_of_ble_eq_true rfl) hb)) (by decide) (by decide +kernel) (by decide +kernel) (by decide +kernel) (Nat.le_of_ble_eq_true rfl) (by have := mk0 (L := L) (N := 3) (z := 11) (p := [2]) (I := Ist xs 2) kO_2 (by omega); rw [Ist_d] at this; exact this) ?_
  refine nwO (N := 3) (N' := 7) (z := 11) (z' := 39) (f := 513) (c := 1) (q := 6) (by decide +kernel) (by decide +kernel) kO_1 rfl (by decide +kernel) kO_3 (fun b hb => hI18 b (Nat.le_trans (Nat.le_of_ble_eq_true rfl) hb)) (by decide) (by decide +kernel) (by decide +kernel) (by decide +kernel) (Nat.le_of_ble_eq_true rfl) (mk1 (fun b hb => Ist_z1 (by omega))) ?_
  refine nwO (N := 7) (N' := 10) (z := 39) (z' := 170) (f := 514) (c := 5) (q := 52) (by decide +kernel) (by decide +kernel) kO_1 rfl (by decide +kernel) kO_7 (fun b hb => hI18 b (Nat.le_trans (Nat.le_of_ble_eq_true rfl) hb)) (by decide) (by decide +kernel) (by decide +kernel) (by decide +kernel) (Nat.le_of_ble_eq_true rfl) (mk5 (N := 8) (z := 42) (p := [7]) w5_c (by decide +kernel) (by decide +kernel) (fun b hb => Ist_z1 (by omega)) (by decide)) ?_
  refine nwO (N := 10) (N' := 58) (z := 170) (z' := 15459) (f := 515) (c := 2) (q := 10) (by decide +kernel) (by decide +kernel) kO_1 rfl (by decide +kernel) kO_10 (fun b hb => hI18 b (Nat.le_trans (Nat.le_of_ble_eq_true rfl) hb)) (by decide) (by decide +kernel) (by decide +kernel) (by decide +kernel) (Nat.le_of_ble_eq_true rfl) (mk2) ?_
  refine nwO (N := 58) (N' := 63) (z := 15459) (z' := 15496) (f := 516) (c := 4) (q := 39) (by decide +kernel) (by decide +kernel) kO_1 rfl (by decide +kernel) kO_58 (fun b hb => hI58 b (Nat.le_trans (Nat.le_of_ble_eq_true rfl) hb)) (by decide) (by decide +kernel) (by decide +kernel) (by decide +kernel) (Nat.le_of_ble_eq_true rfl) (mk4 (fun b hb => Ist_z (by omega))) ?_
  refine nwR (N := 63) (z := 15496) (l := 2) (f := 517) (v := 8) (n := 8) (c := 3) (by decide +kernel) (by decide +kernel) kO_1 rfl (by decide +kernel) (by decide) (by decide) (Nat.le_of_ble_eq_true rfl) kA_63 (fun b hb => hI58 b (Nat.le_trans (Nat.le_of_ble_eq_true rfl) hb)) (by decide) ?_
  refine nwR (N := 64) (z := 15504) (l := 2) (f := 518) (v := 8) (n := 8) (c := 6) (by decide +kernel) (by decide +kernel) kO_1 rfl (by decide +kernel) (by decide) (by decide) (Nat.le_of_ble_eq_true rfl) kA_64 (fun b hb => hI58 b (Nat.le_trans (Nat.le_of_ble_eq_true rfl) hb)) (by decide) ?_
  refine Run.blk [(.iconst 0, 1), (.istore_n 1, 1)] (by decide +kernel) ?_
  refine Run.sub [(0, .ref 1), (1, .int (nI 0))] (sub_pick [1, 0] rfl) (lpG 8 0 rfl ?_)
  refine Run.blk [(.iconst 0, 1), (.istore_n 1, 1)] (by decide +kernel) ?_
  exact Run.sub [(0, .ref 1), (1, .int (nI 0))] (sub_pick [1, 0] rfl) (lpJ 8 0 rfl)
/-- the model's ints once its fields are set, and i of its versions -/
def Im (xs : Nat → Int32) : rI := u2 (u2 (Ist xs 58) 145 1 1) 145 5 (-1)
theorem Im_z {xs : Nat → Int32} {b : Nat} (h : 146 ≤ b) (j : Nat) : Im xs b j = 0 := by
  unfold Im
  rw [u2_ne (by omega), u2_ne (by omega)]
  exact Ist_z (by omega) j
def Iw (xs : Nat → Int32) (i b j : Nat) : Int32 := if b = 153 ∧ j < i then -1 else Im xs b j
theorem Iw_s {xs : Nat → Int32} {i : Nat} : u2 (Iw xs i) 153 i (-1) = Iw xs (i + 1) := by
  funext b j
  rw [u2_at]
  unfold Iw
  by_cases c : b = 153 ∧ j = i
  · rw [if_pos c, if_pos ⟨c.1, by omega⟩]
  · rw [if_neg c]
    by_cases c2 : b = 153 ∧ j < i
    · rw [if_pos c2, if_pos ⟨c2.1, by omega⟩]
    · rw [if_neg c2, if_neg (fun q => c2 ⟨q.1, by have : ¬ j = i := fun e => c ⟨q.1, e⟩; omega⟩)]
theorem Iw_40 {xs : Nat → Int32} : Iw xs 40 = I0 xs := by
  funext b j
  unfold Iw
  by_cases c : b = 153
  · subst c
    unfold I0
    by_cases c2 : j < 40
    · simp [c2]
    · simp [c2]; exact Im_z (by omega) j
  · rw [if_neg (fun q => c q.1)]
    unfold Im
    by_cases c2 : b = 145
    · subst c2
      simp only [u2_at]
      unfold I0
      by_cases c3 : j = 5
      · simp [c3]
      · by_cases c4 : j = 1
        · simp [c4]
        · simp [c3, c4]; exact Ist_z (by omega) j
    · rw [u2_ne c2, u2_ne c2]
      unfold Ist
      by_cases c3 : b < 58
      · rw [if_pos c3]
      · rw [if_neg c3, I0_z2 (by omega) c2 c]
theorem lpW {L : Nat} {xs : Nat → Int32} : ∀ k i, i + k = 40 → Run 112 330 [(0, .ref 145), (1, .int (nI i))] [] (mC L 184 [] (Iw xs i) 138043) (.inl none) (mC L 184 [] (I0 xs) 138043) := by
  intro k
  induction k with
  | zero =>
    intro i hi
    have hi2 : i = 40 := hi
    subst hi2
    refine Run.blk [(.iload_n 1, 1), (.iconst 40, 2), (.if_icmp .ge 16, 3)] (by decide +kernel) ⟨fun _ => ?_, fun h => absurd (show Int32.ofInt 40 ≤ nI 40 by decide) h⟩
    refine Run.blk (pc := 349) [(.return_, 1)] (by decide +kernel) ⟨rtC112, rfl, ?_⟩
    rw [Iw_40]
  | succ k ih =>
    intro i hi
    have hi2 : i < 40 := by omega
    have e1 : Rp 184 [] 145 (590 % 64) = 153 := by decide +kernel
    refine Run.blk [(.iload_n 1, 1), (.iconst 40, 2), (.if_icmp .ge 16, 3), (.aload_n 0, 1), (.getfield 590, 3), (.iload_n 1, 1), (.iconst (-1), 1)] (by decide +kernel) ⟨fun h => ?_, fun _ => ?_⟩
    · rw [show Int32.ofInt 40 = nI 40 by decide] at h
      exact absurd ((nI_leI (by omega) (by omega)).mp h) (by omega)
    refine And.intro ⟨kO_145.1, Nat.le_of_ble_eq_true rfl, kO_145.2.2 L⟩ (And.intro (show ¬ Rp 184 [] 145 (590 % 64) = 0 by rw [e1]; decide) ?_)
    show Run 112 342 _ [.int (Int32.ofInt (-1)), .int (nI i), .ref (Rp 184 [] 145 (590 % 64))] _ _ _
    rw [e1]
    refine Run.blk [(.iastore, 1), (.iinc 1 1, 3), (.goto (-16), 3)] (by decide +kernel) ⟨40, kA_153.1, ⟨Nat.le_of_ble_eq_true rfl, kA_153.2.2 L⟩, vp_in_nI hi2 (by omega), ?_⟩
    rw [cl i (by omega)]
    show Run 112 330 [(1, .int (nI i + Int32.ofInt 1)), (0, .ref 145)] [] (mC L 184 [] (u2 (Iw xs i) 153 i (-1)) _) _ _
    rw [Iw_s]
    refine Run.sub [(0, .ref 145), (1, .int (nI (i + 1)))] ?_ (ih (i + 1) (by omega))
    intro x hx
    rw [show nI (i + 1) = nI i + Int32.ofInt 1 from Int32.ofNat_add i 1] at hx
    rcases List.mem_cons.mp hx with rfl | hx
    · exact List.mem_cons_of_mem _ (List.mem_cons_self ..)
    · rcases List.mem_cons.mp hx with rfl | hx
      · exact List.mem_cons_self ..
      · cases hx
theorem mk9 {L : Nat} {xs : Nat → Int32} : Den 112 [.ref 145] (mC L 146 [] (Ist xs 58) 58027) (.inl none) (mC L 184 [] (I0 xs) 138043) := by
  have hIm : ∀ b, 146 ≤ b → ∀ j, Im xs b j = 0 := fun b hb => Im_z hb
  refine Run.blk [(.aload_n 0, 1), (.monitorenter, 3), (.aload_n 0, 1), (.iconst 1, 1), (.putfield 577, 3), (.aload_n 0, 1), (.iconst (-1), 1), (.putfield 581, 3)] (by decide +kernel) (And.intro (Nat.le_of_ble_eq_true rfl) (And.intro ⟨kO_145.1, Nat.le_of_ble_eq_true rfl, kO_145.2.2 L⟩ (And.intro ⟨rfl, rfl⟩ (And.intro ⟨kO_145.1, Nat.le_of_ble_eq_true rfl, kO_145.2.2 L⟩ (And.intro ⟨rfl, rfl⟩ ?_)))))
  show Run 112 14 [(0, .ref 145)] [] (mC L 146 [] (Im xs) 58027) _ _
  refine nwA (N := 146) (z := 58027) (l := 3) (f := 582) (v := 2500) (n := 2500) (t := .int) (ty := .int) (by decide +kernel) (by decide +kernel) kO_145 rfl (by decide +kernel) (by decide) (by decide) (Nat.le_of_ble_eq_true rfl) kA_146 rfl (fun b hb => hIm b (Nat.le_trans (Nat.le_of_ble_eq_true rfl) hb)) (by decide) ?_
  refine nwA (N := 147) (z := 60527) (l := 3) (f := 583) (v := 2500) (n := 2500) (t := .int) (ty := .int) (by decide +kernel) (by decide +kernel) kO_145 rfl (by decide +kernel) (by decide) (by decide) (Nat.le_of_ble_eq_true rfl) kA_147 rfl (fun b hb => hIm b (Nat.le_trans (Nat.le_of_ble_eq_true rfl) hb)) (by decide) ?_
  refine nwA (N := 148) (z := 63027) (l := 3) (f := 584) (v := 2500) (n := 2500) (t := .int) (ty := .int) (by decide +kernel) (by decide +kernel) kO_145 rfl (by decide +kernel) (by decide) (by decide) (Nat.le_of_ble_eq_true rfl) kA_148 rfl (fun b hb => hIm b (Nat.le_trans (Nat.le_of_ble_eq_true rfl) hb)) (by decide) ?_
  refine nwA (N := 149) (z := 65527) (l := 3) (f := 585) (v := 2500) (n := 2500) (t := .int) (ty := .int) (by decide +kernel) (by decide +kernel) kO_145 rfl (by decide +kernel) (by decide) (by decide) (Nat.le_of_ble_eq_true rfl) kA_149 rfl (fun b hb => hIm b (Nat.le_trans (Nat.le_of_ble_eq_true rfl) hb)) (by decide) ?_
  refine nwA (N := 150) (z := 68027) (l := 3) (f := 586) (v := 2500) (n := 2500) (t := .long) (ty := .long) (by decide +kernel) (by decide +kernel) kO_145 rfl (by decide +kernel) (by decide) (by decide) (Nat.le_of_ble_eq_true rfl) kA_150 rfl (fun b hb => hIm b (Nat.le_trans (Nat.le_of_ble_eq_true rfl) hb)) (by decide) ?_
  refine nwA (N := 151) (z := 70527) (l := 3) (f := 587) (v := 2500) (n := 2500) (t := .int) (ty := .int) (by decide +kernel) (by decide +kernel) kO_145 rfl (by decide +kernel) (by decide) (by decide) (Nat.le_of_ble_eq_true rfl) kA_151 rfl (fun b hb => hIm b (Nat.le_trans (Nat.le_of_ble_eq_true rfl) hb)) (by decide) ?_
  refine nwA (N := 152) (z := 73027) (l := 3) (f := 588) (v := 2500) (n := 2500) (t := .boolean) (ty := .boolean) (by decide +kernel) (by decide +kernel) kO_145 rfl (by decide +kernel) (by decide) (by decide) (Nat.le_of_ble_eq_true rfl) kA_152 rfl (fun b hb => hIm b (Nat.le_trans (Nat.le_of_ble_eq_true rfl) hb)) (by decide) ?_
  refine nwA (N := 153) (z := 75527) (l := 2) (f := 590) (v := 40) (n := 40) (t := .int) (ty := .int) (by decide +kernel) (by decide +kernel) kO_145 rfl (by decide +kernel) (by decide) (by decide) (Nat.le_of_ble_eq_true rfl) kA_153 rfl (fun b hb => hIm b (Nat.le_trans (Nat.le_of_ble_eq_true rfl) hb)) (by decide) ?_
  refine nwA (N := 154) (z := 75567) (l := 2) (f := 591) (v := 40) (n := 40) (t := .int) (ty := .int) (by decide +kernel) (by decide +kernel) kO_145 rfl (by decide +kernel) (by decide) (by decide) (Nat.le_of_ble_eq_true rfl) kA_154 rfl (fun b hb => hIm b (Nat.le_trans (Nat.le_of_ble_eq_true rfl) hb)) (by decide) ?_
  refine nwA (N := 155) (z := 75607) (l := 2) (f := 592) (v := 40) (n := 40) (t := .int) (ty := .int) (by decide +kernel) (by decide +kernel) kO_145 rfl (by decide +kernel) (by decide) (by decide) (Nat.le_of_ble_eq_true rfl) kA_155 rfl (fun b hb => hIm b (Nat.le_trans (Nat.le_of_ble_eq_true rfl) hb)) (by decide) ?_
  refine nwA (N := 156) (z := 75647) (l := 2) (f := 593) (v := 40) (n := 40) (t := .int) (ty := .int) (by decide +kernel) (by decide +kernel) kO_145 rfl (by decide +kernel) (by decide) (by decide) (Nat.le_of_ble_eq_true rfl) kA_156 rfl (fun b hb => hIm b (Nat.le_trans (Nat.le_of_ble_eq_true rfl) hb)) (by decide) ?_
  refine nwA (N := 157) (z := 75687) (l := 2) (f := 594) (v := 40) (n := 40) (t := .boolean) (ty := .boolean) (by decide +kernel) (by decide +kernel) kO_145 rfl (by decide +kernel) (by decide) (by decide) (Nat.le_of_ble_eq_true rfl) kA_157 rfl (fun b hb => hIm b (Nat.le_trans (Nat.le_of_ble_eq_true rfl) hb)) (by decide) ?_
  refine nwA (N := 158) (z := 75727) (l := 2) (f := 595) (v := 8) (n := 8) (t := .int) (ty := .int) (by decide +kernel) (by decide +kernel) kO_145 rfl (by decide +kernel) (by decide) (by decide) (Nat.le_of_ble_eq_true rfl) kA_158 rfl (fun b hb => hIm b (Nat.le_trans (Nat.le_of_ble_eq_true rfl) hb)) (by decide) ?_
  refine nwA (N := 159) (z := 75735) (l := 2) (f := 596) (v := 8) (n := 8) (t := .int) (ty := .int) (by decide +kernel) (by decide +kernel) kO_145 rfl (by decide +kernel) (by decide) (by decide) (Nat.le_of_ble_eq_true rfl) kA_159 rfl (fun b hb => hIm b (Nat.le_trans (Nat.le_of_ble_eq_true rfl) hb)) (by decide) ?_
  refine nwA (N := 160) (z := 75743) (l := 2) (f := 597) (v := 8) (n := 8) (t := .long) (ty := .long) (by decide +kernel) (by decide +kernel) kO_145 rfl (by decide +kernel) (by decide) (by decide) (Nat.le_of_ble_eq_true rfl) kA_160 rfl (fun b hb => hIm b (Nat.le_trans (Nat.le_of_ble_eq_true rfl) hb)) (by decide) ?_
  refine nwA (N := 161) (z := 75751) (l := 2) (f := 599) (v := 8) (n := 8) (t := .boolean) (ty := .boolean) (by decide +kernel) (by decide +kernel) kO_145 rfl (by decide +kernel) (by decide) (by decide) (Nat.le_of_ble_eq_true rfl) kA_161 rfl (fun b hb => hIm b (Nat.le_trans (Nat.le_of_ble_eq_true rfl) hb)) (by decide) ?_
  refine nwA (N := 162) (z := 75759) (l := 2) (f := 600) (v := 8) (n := 8) (t := .int) (ty := .int) (by decide +kernel) (by decide +kernel) kO_145 rfl (by decide +kernel) (by decide) (by decide) (Nat.le_of_ble_eq_true rfl) kA_162 rfl (fun b hb => hIm b (Nat.le_trans (Nat.le_of_ble_eq_true rfl) hb)) (by decide) ?_
  refine nwA (N := 163) (z := 75767) (l := 2) (f := 601) (v := 8) (n := 8) (t := .int) (ty := .int) (by decide +kernel) (by decide +kernel) kO_145 rfl (by decide +kernel) (by decide) (by decide) (Nat.le_of_ble_eq_true rfl) kA_163 rfl (fun b hb => hIm b (Nat.le_trans (Nat.le_of_ble_eq_true rfl) hb)) (by decide) ?_
  refine nwA (N := 164) (z := 75775) (l := 2) (f := 602) (v := 8) (n := 8) (t := .int) (ty := .int) (by decide +kernel) (by decide +kernel) kO_145 rfl (by decide +kernel) (by decide) (by decide) (Nat.le_of_ble_eq_true rfl) kA_164 rfl (fun b hb => hIm b (Nat.le_trans (Nat.le_of_ble_eq_true rfl) hb)) (by decide) ?_
  refine nwA (N := 165) (z := 75783) (l := 3) (f := 603) (v := 20000) (n := 20000) (t := .byte) (ty := .byte) (by decide +kernel) (by decide +kernel) kO_145 rfl (by decide +kernel) (by decide) (by decide) (Nat.le_of_ble_eq_true rfl) kA_165 rfl (fun b hb => hIm b (Nat.le_trans (Nat.le_of_ble_eq_true rfl) hb)) (by decide) ?_
  refine nwA (N := 166) (z := 95783) (l := 3) (f := 604) (v := 20000) (n := 20000) (t := .int) (ty := .int) (by decide +kernel) (by decide +kernel) kO_145 rfl (by decide +kernel) (by decide) (by decide) (Nat.le_of_ble_eq_true rfl) kA_166 rfl (fun b hb => hIm b (Nat.le_trans (Nat.le_of_ble_eq_true rfl) hb)) (by decide) ?_
  refine nwA (N := 167) (z := 115783) (l := 3) (f := 605) (v := 20000) (n := 20000) (t := .int) (ty := .int) (by decide +kernel) (by decide +kernel) kO_145 rfl (by decide +kernel) (by decide) (by decide) (Nat.le_of_ble_eq_true rfl) kA_167 rfl (fun b hb => hIm b (Nat.le_trans (Nat.le_of_ble_eq_true rfl) hb)) (by decide) ?_
  refine nwA (N := 168) (z := 135783) (l := 2) (f := 606) (v := 64) (n := 64) (t := .int) (ty := .int) (by decide +kernel) (by decide +kernel) kO_145 rfl (by decide +kernel) (by decide) (by decide) (Nat.le_of_ble_eq_true rfl) kA_168 rfl (fun b hb => hIm b (Nat.le_trans (Nat.le_of_ble_eq_true rfl) hb)) (by decide) ?_
  refine nwA (N := 169) (z := 135847) (l := 2) (f := 607) (v := 64) (n := 64) (t := .int) (ty := .int) (by decide +kernel) (by decide +kernel) kO_145 rfl (by decide +kernel) (by decide) (by decide) (Nat.le_of_ble_eq_true rfl) kA_169 rfl (fun b hb => hIm b (Nat.le_trans (Nat.le_of_ble_eq_true rfl) hb)) (by decide) ?_
  refine nwA (N := 170) (z := 135911) (l := 2) (f := 609) (v := 8) (n := 8) (t := .boolean) (ty := .boolean) (by decide +kernel) (by decide +kernel) kO_145 rfl (by decide +kernel) (by decide) (by decide) (Nat.le_of_ble_eq_true rfl) kA_170 rfl (fun b hb => hIm b (Nat.le_trans (Nat.le_of_ble_eq_true rfl) hb)) (by decide) ?_
  refine nwA (N := 171) (z := 135919) (l := 2) (f := 610) (v := 8) (n := 8) (t := .int) (ty := .int) (by decide +kernel) (by decide +kernel) kO_145 rfl (by decide +kernel) (by decide) (by decide) (Nat.le_of_ble_eq_true rfl) kA_171 rfl (fun b hb => hIm b (Nat.le_trans (Nat.le_of_ble_eq_true rfl) hb)) (by decide) ?_
  refine nwA (N := 172) (z := 135927) (l := 3) (f := 611) (v := 512) (n := 512) (t := .int) (ty := .int) (by decide +kernel) (by decide +kernel) kO_145 rfl (by decide +kernel) (by decide) (by decide) (Nat.le_of_ble_eq_true rfl) kA_172 rfl (fun b hb => hIm b (Nat.le_trans (Nat.le_of_ble_eq_true rfl) hb)) (by decide) ?_
  refine nwA (N := 173) (z := 136439) (l := 3) (f := 612) (v := 512) (n := 512) (t := .int) (ty := .int) (by decide +kernel) (by decide +kernel) kO_145 rfl (by decide +kernel) (by decide) (by decide) (Nat.le_of_ble_eq_true rfl) kA_173 rfl (fun b hb => hIm b (Nat.le_trans (Nat.le_of_ble_eq_true rfl) hb)) (by decide) ?_
  refine nwA (N := 174) (z := 136951) (l := 2) (f := 613) (v := 8) (n := 8) (t := .int) (ty := .int) (by decide +kernel) (by decide +kernel) kO_145 rfl (by decide +kernel) (by decide) (by decide) (Nat.le_of_ble_eq_true rfl) kA_174 rfl (fun b hb => hIm b (Nat.le_trans (Nat.le_of_ble_eq_true rfl) hb)) (by decide) ?_
  refine nwA (N := 175) (z := 136959) (l := 2) (f := 614) (v := 8) (n := 8) (t := .int) (ty := .int) (by decide +kernel) (by decide +kernel) kO_145 rfl (by decide +kernel) (by decide) (by decide) (Nat.le_of_ble_eq_true rfl) kA_175 rfl (fun b hb => hIm b (Nat.le_trans (Nat.le_of_ble_eq_true rfl) hb)) (by decide) ?_
  refine nwA (N := 176) (z := 136967) (l := 2) (f := 615) (v := 8) (n := 8) (t := .boolean) (ty := .boolean) (by decide +kernel) (by decide +kernel) kO_145 rfl (by decide +kernel) (by decide) (by decide) (Nat.le_of_ble_eq_true rfl) kA_176 rfl (fun b hb => hIm b (Nat.le_trans (Nat.le_of_ble_eq_true rfl) hb)) (by decide) ?_
  refine nwA (N := 177) (z := 136975) (l := 2) (f := 616) (v := 8) (n := 8) (t := .int) (ty := .int) (by decide +kernel) (by decide +kernel) kO_145 rfl (by decide +kernel) (by decide) (by decide) (Nat.le_of_ble_eq_true rfl) kA_177 rfl (fun b hb => hIm b (Nat.le_trans (Nat.le_of_ble_eq_true rfl) hb)) (by decide) ?_
  refine nwA (N := 178) (z := 136983) (l := 2) (f := 617) (v := 8) (n := 8) (t := .boolean) (ty := .boolean) (by decide +kernel) (by decide +kernel) kO_145 rfl (by decide +kernel) (by decide) (by decide) (Nat.le_of_ble_eq_true rfl) kA_178 rfl (fun b hb => hIm b (Nat.le_trans (Nat.le_of_ble_eq_true rfl) hb)) (by decide) ?_
  refine nwA (N := 179) (z := 136991) (l := 3) (f := 618) (v := 1024) (n := 1024) (t := .long) (ty := .long) (by decide +kernel) (by decide +kernel) kO_145 rfl (by decide +kernel) (by decide) (by decide) (Nat.le_of_ble_eq_true rfl) kA_179 rfl (fun b hb => hIm b (Nat.le_trans (Nat.le_of_ble_eq_true rfl) hb)) (by decide) ?_
  refine nwA (N := 180) (z := 138015) (l := 2) (f := 620) (v := 16) (n := 16) (t := .long) (ty := .long) (by decide +kernel) (by decide +kernel) kO_145 rfl (by decide +kernel) (by decide) (by decide) (Nat.le_of_ble_eq_true rfl) kA_180 rfl (fun b hb => hIm b (Nat.le_trans (Nat.le_of_ble_eq_true rfl) hb)) (by decide) ?_
  refine nwA (N := 181) (z := 138031) (l := 1) (f := 622) (v := 4) (n := 4) (t := .long) (ty := .long) (by decide +kernel) (by decide +kernel) kO_145 rfl (by decide +kernel) (by decide) (by decide) (Nat.le_of_ble_eq_true rfl) kA_181 rfl (fun b hb => hIm b (Nat.le_trans (Nat.le_of_ble_eq_true rfl) hb)) (by decide) ?_
  refine nwA (N := 182) (z := 138035) (l := 1) (f := 623) (v := 4) (n := 4) (t := .int) (ty := .int) (by decide +kernel) (by decide +kernel) kO_145 rfl (by decide +kernel) (by decide) (by decide) (Nat.le_of_ble_eq_true rfl) kA_182 rfl (fun b hb => hIm b (Nat.le_trans (Nat.le_of_ble_eq_true rfl) hb)) (by decide) ?_
  refine nwA (N := 183) (z := 138039) (l := 1) (f := 624) (v := 4) (n := 4) (t := .long) (ty := .long) (by decide +kernel) (by decide +kernel) kO_145 rfl (by decide +kernel) (by decide) (by decide) (Nat.le_of_ble_eq_true rfl) kA_183 rfl (fun b hb => hIm b (Nat.le_trans (Nat.le_of_ble_eq_true rfl) hb)) (by decide) ?_
  refine Run.blk [(.iconst 0, 1), (.istore_n 1, 1)] (by decide +kernel) ?_
  refine Run.sub [(0, .ref 145), (1, .int (nI 0))] (sub_pick [1, 0] rfl) ?_
  have e0 : Im xs = Iw xs 0 := by funext b j; unfold Iw; rw [if_neg (by omega)]
  rw [e0]
  exact lpW 40 0 rfl
