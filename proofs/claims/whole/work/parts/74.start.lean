/-! The law from its first instruction on; what couples the two at the start. -/
theorem agU {L N z x : Nat} {p : List Nat} {I : rI} (hx : 0 < x) (hpa : (pa x).1 = 0) : eAg (mC L N (x :: p) I z) (mC L N p I z) := by
  refine ⟨rfl, rfl, rfl, rfl, fun _ => rfl, ?_⟩
  intro b hb hb2
  have e2 : ∀ i, Rp N p b i = Rp N (x :: p) b i := fun i => by
    unfold Rp
    have : ¬ R0 b i = x := fun q => by
      have h := R0_pa b i
      rw [q] at h
      rcases h with h | ⟨_, _, h⟩
      · omega
      · rw [h] at hpa
        have : b = 0 := hpa
        omega
    by_cases c2 : R0 b i < N ∧ ¬ R0 b i ∈ p
    · rw [if_pos c2, if_pos ⟨c2.1, fun q => by
          rcases List.mem_cons.mp q with q | q
          · exact this q
          · exact c2.2 q⟩]
    · rw [if_neg c2, if_neg (fun q => c2 ⟨q.1, fun q2 => q.2 (List.mem_cons_of_mem _ q2)⟩)]
  exact ⟨rfl, fun c _ i _ => ⟨rfl, e2 i⟩, fun ty n _ i _ => ⟨rfl, rfl, e2 i⟩⟩
theorem agF {L z : Nat} {I : rI} : eAg (mC L 185 [] I z) (mS L I (fun _ _ => 0) 0 z) := by
  refine ⟨rfl, rfl, rfl, rfl, fun _ => rfl, ?_⟩
  intro b hb hb2
  have e2 : ∀ i, R0 b i = Rp 185 [] b i := fun i => by
    unfold Rp
    by_cases c : R0 b i < 185 ∧ ¬ R0 b i ∈ []
    · rw [if_pos c]
    · rw [if_neg c]
      rcases R0_pa b i with h | h
      · exact h
      · exact absurd ⟨h.2.1, fun q => nomatch q⟩ c
  exact ⟨rfl, fun c _ i _ => ⟨rfl, e2 i⟩, fun ty n _ i _ => ⟨rfl, rfl, e2 i⟩⟩
theorem Ist_12 {xs : Nat → Int32} : Ist xs 1 = Ist xs 2 := by
  funext b j
  unfold Ist
  by_cases c : b = 1
  · rw [if_neg (by omega), if_pos (by omega), c]
    rfl
  · by_cases c2 : b < 1
    · rw [if_pos c2, if_pos (by omega)]
    · rw [if_neg c2, if_neg (by omega)]
theorem I0_st {xs : Nat → Int32} {s j : Nat} (hs : s < 40) : I0 xs (18 + s) j = if j = 0 then -1 else 0 := by
  unfold I0
  rw [if_neg (by omega), if_neg (by omega), if_pos (by omega)]
theorem I0_153 {xs : Nat → Int32} {s : Nat} (hs : s < 40) : I0 xs 153 s = -1 := by
  unfold I0
  rw [if_neg (by omega), if_neg (by omega), if_neg (by omega), if_neg (by omega), if_pos rfl, if_pos hs]
theorem I0_r {xs : Nat → Int32} {b c : Nat} (h1 : 3 ≤ b) (h2 : b < 18) (h3 : 58 ≤ c) (h4 : ¬ c = 145) (h5 : ¬ c = 153) : I0 xs b = I0 xs c := by
  funext j
  rw [I0_z1 h1 h2, I0_z2 h3 h4 h5]
theorem Inv_0 {xs : Nat → Int32} : Inv 0 0 (fun _ => 0) (fun _ => 0) (fun _ => 0) (I0 xs) (fun _ _ => 0) (I0 xs) (fun _ _ => 0) := by
  have z2 : ∀ b, 58 ≤ b → ¬ b = 145 → ¬ b = 153 → ∀ j, I0 xs b j = 0 := fun b h1 h2 h3 j => I0_z2 h1 h2 h3 j
  have hE : IE 0 0 (fun _ => 0) (fun _ => 0) (fun _ => 0) (I0 xs) (fun _ _ => 0) (I0 xs) (fun _ _ => 0) := by
    refine ⟨by omega, by omega, I0_z1 (by omega) (by omega) 7, rfl, I0_z1 (by omega) (by omega) 8, rfl, ⟨I0_r (by omega) (by omega) (by omega) (by omega) (by omega), I0_r (by omega) (by omega) (by omega) (by omega) (by omega), I0_r (by omega) (by omega) (by omega) (by omega) (by omega), I0_r (by omega) (by omega) (by omega) (by omega) (by omega), rfl, I0_r (by omega) (by omega) (by omega) (by omega) (by omega)⟩, fun e he => absurd he (Nat.not_lt_zero e), fun s hs => ?_⟩
    unfold IEs
    rw [I0_153 hs, I0_st hs, I0_st hs, I0_st hs, I0_st hs, I0_st hs, I0_st hs, z2 154 (by omega) (by omega) (by omega), z2 155 (by omega) (by omega) (by omega), z2 156 (by omega) (by omega) (by omega), z2 157 (by omega) (by omega) (by omega)]
    exact ⟨rfl, rfl, rfl, rfl, rfl, rfl, by decide, by decide, by decide, Or.inl rfl, rfl, Nat.zero_le _⟩
  have hG : IG 0 (I0 xs) (I0 xs) := by
    intro g hg
    unfold IG1
    rw [z2 (65 + 5 * g) (by omega) (by omega) (by omega), z2 161 (by omega) (by omega) (by omega), z2 (65 + 5 * g) (by omega) (by omega) (by omega), z2 162 (by omega) (by omega) (by omega), z2 (65 + 5 * g) (by omega) (by omega) (by omega), z2 163 (by omega) (by omega) (by omega), z2 (65 + 5 * g) (by omega) (by omega) (by omega), z2 164 (by omega) (by omega) (by omega)]
    refine ⟨rfl, Or.inl rfl, rfl, rfl, rfl, Or.inr ⟨0, by omega, rfl⟩, fun e he => ?_, fun e _ he => ?_, ⟨0, by omega, rfl, fun e he => absurd he (Nat.not_lt_zero e)⟩, 0, fun _ => 0, by omega, ?_, fun i hi => absurd hi (Nat.not_lt_zero i), fun e he _ => ?_⟩
    · rw [z2 (66 + 5 * g) (by omega) (by omega) (by omega), z2 165 (by omega) (by omega) (by omega), z2 (67 + 5 * g) (by omega) (by omega) (by omega), z2 167 (by omega) (by omega) (by omega)]
      exact ⟨rfl, rfl⟩
    · exact ⟨z2 165 (by omega) (by omega) (by omega) _, z2 167 (by omega) (by omega) (by omega) _⟩
    · exact z2 (65 + 5 * g) (by omega) (by omega) (by omega) _
    · exact z2 166 (by omega) (by omega) (by omega) _
  have hJ : IJ 0 (I0 xs) (fun _ _ => 0) (I0 xs) (fun _ _ => 0) := by
    intro p hp
    unfold IJ1
    rw [z2 (105 + 5 * p) (by omega) (by omega) (by omega), z2 170 (by omega) (by omega) (by omega)]
    exact ⟨rfl, Or.inl rfl, fun q => absurd q (by decide)⟩
  refine ⟨⟨hE, ⟨0, by omega, I0_z1 (by omega) (by omega) 3, rfl, I0_r (by omega) (by omega) (by omega) (by omega) (by omega), I0_r (by omega) (by omega) (by omega) (by omega) (by omega), rfl, fun i hi => absurd hi (Nat.not_lt_zero i)⟩,
    ⟨0, by omega, I0_z1 (by omega) (by omega) 2, rfl, I0_r (by omega) (by omega) (by omega) (by omega) (by omega), I0_r (by omega) (by omega) (by omega) (by omega) (by omega), fun i hi => absurd hi (Nat.not_lt_zero i)⟩, hG, hJ⟩, fun e he => absurd he (Nat.not_lt_zero e), ?_⟩
  exact ⟨Or.inr rfl, rfl, rfl, ⟨0, by omega, rfl⟩, rfl, fun _ => rfl, by show (-1 : Int32) ≤ -1; decide⟩
theorem gwL70 : 1 ≤ eL 70 := by decide +kernel
theorem gwL112 : 1 ≤ eL 112 := by decide +kernel
theorem law_run {L : Nat} {xs : Nat → Int32} (hL : L ≤ 320) : ∃ I' J' h' z', h' ≤ 64 ∧ z' ≤ 138428 ∧ Run 174 0 [(0, .ref 0)] [] (mC L 1 [] (Ist xs 1) 0) (.inl (some (.int 1))) (mS L I' J' h' z') := by
  obtain ⟨I', J', h', z', a1, a2, a3⟩ := lp_all hL 64 0 0 0 0 138044 (fun _ => 0) (fun _ => 0) (fun _ => 0) (I0 xs) (fun _ _ => 0) (by omega) (by omega) (by omega) Inv_0
  refine ⟨I', J', h', z', by omega, by omega, ?_⟩
  refine Run.blk [(.new 8, 3), (.dup, 1)] (by decide +kernel) (And.intro rfl (And.intro rfl ?_))
  refine Run.agree _ (agN (by decide) (kO_1.2.2 L) (fun j => Ist_z (Nat.le_refl _) j)) ?_
  refine Run.agree _ (agU (by decide) (by decide)) ?_
  rw [Ist_12]
  refine Run.blk (pc := 4) [(.invokeinterface 70 1, 3), (.astore_n 1, 1), (.new 9, 3), (.dup, 1)] (by decide +kernel) (And.intro (Nat.le_of_ble_eq_true rfl) (And.intro gwL70 (And.intro (Nat.le_of_ble_eq_true rfl) (And.intro (recv_o (q := 70) (by decide +kernel) (by decide +kernel) ⟨kO_1.1, Nat.le_of_ble_eq_true rfl, kO_1.2.2 L⟩) (Or.inl ⟨none, _, mk8, And.intro rfl (And.intro rfl ?_)⟩)))))
  refine Run.agree _ (agN (by decide) (kO_145.2.2 L) (fun j => Ist_z (by decide) j)) ?_
  refine Run.agree _ (agU (by decide) (by decide)) ?_
  refine Run.blk (pc := 12) [(.invokeinterface 112 1, 3), (.astore_n 2, 1), (.iconst 1, 1), (.newarray .long, 2)] (by decide +kernel) (And.intro (Nat.le_of_ble_eq_true rfl) (And.intro gwL112 (And.intro (Nat.le_of_ble_eq_true rfl) (And.intro (recv_o (q := 112) (by decide +kernel) (by decide +kernel) ⟨kO_145.1, Nat.le_of_ble_eq_true rfl, kO_145.2.2 L⟩) (Or.inl ⟨none, _, mk9, And.intro rfl (And.intro (by decide) (And.intro (by decide) ?_))⟩)))))
  refine Run.agree _ (agN (by decide) (kA_184.2.2 L) (fun j => I0_z2 (by decide) (by decide) (by decide) j)) ?_
  refine Run.agree _ (agU (by decide) (by decide)) ?_
  refine Run.agree _ agF ?_
  refine Run.blk (pc := 19) [(.astore_n 3, 1), (.iconst 0, 1), (.istore 4, 2)] (by decide +kernel) ?_
  exact Run.sub (ll 0) (sub_pick [4, 3, 2, 1, 0] rfl) a3
