/-! The two objects as they are made: what a store looks like on the way, and the steps that make it. -/
def paT : List (Nat × Nat) := [(0, 0), (0, 0), (1, 0), (1, 1), (3, 0), (3, 1), (3, 2), (1, 2), (7, 0), (7, 1), (1, 3), (10, 0), (10, 1), (10, 2), (10, 3), (10, 4), (10, 5), (10, 6), (17, 0), (17, 1), (17, 2), (17, 3), (17, 4), (17, 5), (17, 6), (17, 7), (17, 8), (17, 9), (17, 10), (17, 11), (17, 12), (17, 13), (17, 14), (17, 15), (17, 16), (17, 17), (17, 18), (17, 19), (17, 20), (17, 21), (17, 22), (17, 23), (17, 24), (17, 25), (17, 26), (17, 27), (17, 28), (17, 29), (17, 30), (17, 31), (17, 32), (17, 33), (17, 34), (17, 35), (17, 36), (17, 37), (17, 38), (17, 39), (1, 4), (58, 0), (58, 1), (58, 2), (58, 3), (1, 5), (1, 6), (63, 0), (65, 0), (65, 1), (65, 2), (65, 3), (63, 1), (70, 0), (70, 1), (70, 2), (70, 3), (63, 2), (75, 0), (75, 1), (75, 2), (75, 3), (63, 3), (80, 0), (80, 1), (80, 2), (80, 3), (63, 4), (85, 0), (85, 1), (85, 2), (85, 3), (63, 5), (90, 0), (90, 1), (90, 2), (90, 3), (63, 6), (95, 0), (95, 1), (95, 2), (95, 3), (63, 7), (100, 0), (100, 1), (100, 2), (100, 3), (64, 0), (105, 0), (106, 0), (106, 1), (105, 1), (64, 1), (110, 0), (111, 0), (111, 1), (110, 1), (64, 2), (115, 0), (116, 0), (116, 1), (115, 1), (64, 3), (120, 0), (121, 0), (121, 1), (120, 1), (64, 4), (125, 0), (126, 0), (126, 1), (125, 1), (64, 5), (130, 0), (131, 0), (131, 1), (130, 1), (64, 6), (135, 0), (136, 0), (136, 1), (135, 1), (64, 7), (140, 0), (141, 0), (141, 1), (140, 1), (0, 0), (145, 6), (145, 7), (145, 8), (145, 9), (145, 10), (145, 11), (145, 12), (145, 14), (145, 15), (145, 16), (145, 17), (145, 18), (145, 19), (145, 20), (145, 21), (145, 23), (145, 24), (145, 25), (145, 26), (145, 27), (145, 28), (145, 29), (145, 30), (145, 31), (145, 33), (145, 34), (145, 35), (145, 36), (145, 37), (145, 38), (145, 39), (145, 40), (145, 41), (145, 42), (145, 44), (145, 46), (145, 47), (145, 48), (0, 0)]
def pa (t : Nat) : Nat × Nat := (paT[t]?).getD (0, 0)
theorem tb_pa {T : List (List Nat)} (h : (T.zipIdx.all fun r => r.1.zipIdx.all fun x => x.1 == 0 || (decide (r.2 < x.1) && decide (x.1 < 185) && pa x.1 == (r.2, x.2))) = true) (a i : Nat) :
    ((((T[a]?).getD [])[i]?).getD 0) = 0 ∨ (a < ((((T[a]?).getD [])[i]?).getD 0) ∧ ((((T[a]?).getD [])[i]?).getD 0) < 185 ∧ pa ((((T[a]?).getD [])[i]?).getD 0) = (a, i)) := by
  cases h1 : T[a]? with
  | none => rw [Option.getD_none]; left; rfl
  | some r =>
    rw [Option.getD_some]
    cases h2 : r[i]? with
    | none => rw [Option.getD_none]; left; rfl
    | some x =>
      rw [Option.getD_some]
      have q1 := List.all_eq_true.mp h (r, a) (List.mem_zipIdx_iff_getElem?.mpr h1)
      have q2 := List.all_eq_true.mp q1 (x, i) (List.mem_zipIdx_iff_getElem?.mpr h2)
      simp at q2
      rcases q2 with q2 | q2
      · exact Or.inl q2
      · exact Or.inr ⟨q2.1.1, q2.1.2, q2.2⟩
theorem tb_pT : (rTab.zipIdx.all fun r => r.1.zipIdx.all fun x => x.1 == 0 || (decide (r.2 < x.1) && decide (x.1 < 185) && pa x.1 == (r.2, x.2))) = true := by decide +kernel
theorem pa_s : ∀ i, i < 40 → pa (18 + i) = (17, i) := by decide +kernel
theorem pa_g : ∀ i, i < 8 → pa (65 + 5 * i) = (63, i) := by decide +kernel
theorem pa_p : ∀ i, i < 8 → pa (105 + 5 * i) = (64, i) := by decide +kernel
/-- a cell is shown in one place, and it comes after that one -/
theorem R0_pa (a i : Nat) : R0 a i = 0 ∨ (a < R0 a i ∧ R0 a i < 185 ∧ pa (R0 a i) = (a, i)) := by
  unfold R0
  by_cases c1 : a = 17
  · rw [if_pos c1]
    by_cases c2 : i < 40
    · rw [if_pos c2, c1]; right; exact ⟨by omega, by omega, pa_s i c2⟩
    · rw [if_neg c2]; left; rfl
  rw [if_neg c1]
  by_cases c3 : a = 63
  · rw [if_pos c3]
    by_cases c2 : i < 8
    · rw [if_pos c2, c3]; right; exact ⟨by omega, by omega, pa_g i c2⟩
    · rw [if_neg c2]; left; rfl
  rw [if_neg c3]
  by_cases c4 : a = 64
  · rw [if_pos c4]
    by_cases c2 : i < 8
    · rw [if_pos c2, c4]; right; exact ⟨by omega, by omega, pa_p i c2⟩
    · rw [if_neg c2]; left; rfl
  rw [if_neg c4]
  exact tb_pa tb_pT a i
theorem R0_u {a i b j x : Nat} (hx : 0 < x) (h1 : R0 a i = x) (h2 : R0 b j = x) : b = a ∧ j = i := by
  have q1 := R0_pa a i
  have q2 := R0_pa b j
  rw [h1] at q1
  rw [h2] at q2
  rcases q1 with q1 | ⟨_, _, q1⟩
  · omega
  rcases q2 with q2 | ⟨_, _, q2⟩
  · omega
  rw [q1] at q2
  cases q2
  exact ⟨rfl, rfl⟩
theorem R0_gt {a i x : Nat} (hx : 0 < x) (h : R0 a i = x) : a < x := by
  have q := R0_pa a i
  rw [h] at q
  rcases q with q | q
  · omega
  · exact q.1
/-- references as far as they are set: to cells that are made, but for some -/
def Rp (N : Nat) (p : List Nat) (b i : Nat) : Nat := if R0 b i < N ∧ ¬ R0 b i ∈ p then R0 b i else 0
/-- a store on the way: N cells, those in p are made but nobody shows them yet -/
abbrev mC (L N : Nat) (p : List Nat) (I : rI) (z : Nat) : eS := (I, fun _ _ => 0, Rp N p, K0 L, (N, 0, z))
theorem agN {L N z k : Nat} {p : List Nat} {I : rI} {kd : Nat ⊕ (FieldType × Nat)} (h0 : 0 < N) (hk : K0 L N = kd) (hI : ∀ j, I N j = 0) : eAg (newK (mC L N p I z) kd k) (mC L (N + 1) (N :: p) I (z + k)) := by
  refine ⟨rfl, rfl, rfl, ?_, ?_, ?_⟩
  · show K0 L 0 = if 0 = N then kd else K0 L 0
    rw [if_neg (by omega)]
  · intro j
    show I 0 j = u1 I N (fun _ => 0) 0 j
    rw [u1_ne (by omega)]
  · intro b hb hb2
    have hb3 : b < N + 1 := hb2
    have e1 : ∀ i, I b i = u1 I N (fun _ => 0) b i := fun i => by
      by_cases c : b = N
      · rw [c, u1_eq, hI i]
      · rw [u1_ne c]
    have e2 : ∀ i, Rp (N + 1) (N :: p) b i = u1 (Rp N p) N (fun _ => 0) b i := fun i => by
      by_cases c : b = N
      · rw [c, u1_eq]
        unfold Rp
        by_cases q : R0 N i < N + 1 ∧ ¬ R0 N i ∈ N :: p
        · rw [if_pos q]
          rcases R0_pa N i with c0 | c0
          · exact c0
          · omega
        · exact if_neg q
      · rw [u1_ne c]
        unfold Rp
        by_cases c2 : R0 b i < N ∧ ¬ R0 b i ∈ p
        · rw [if_pos c2, if_pos ⟨by omega, fun q => by
            rcases List.mem_cons.mp q with q | q
            · omega
            · exact c2.2 q⟩]
        · rw [if_neg c2, if_neg (fun q => c2 ⟨?_, fun q2 => q.2 (List.mem_cons_of_mem _ q2)⟩)]
          have : ¬ R0 b i = N := fun q2 => q.2 (by rw [q2]; exact List.mem_cons_self ..)
          omega
    have e3 : ∀ i, (0 : Int64) = u1 (fun _ _ => (0 : Int64)) N (fun _ => 0) b i := fun i => by rw [u1_at]; split <;> rfl
    refine ⟨?_, fun c _ i _ => ⟨e1 i, e2 i⟩, fun ty n _ i _ => ⟨e1 i, e3 i, e2 i⟩⟩
    show K0 L b = if b = N then kd else K0 L b
    by_cases c : b = N
    · rw [if_pos c, c, hk]
    · rw [if_neg c]
theorem agP {L N z a f x : Nat} {p : List Nat} {I : rI} (hx : 0 < x) (hr : R0 a f = x) (hp : ¬ x ∈ p) (hN : x < N) : eAg (setR (mC L N (x :: p) I z) a f x) (mC L N p I z) := by
  refine ⟨rfl, rfl, rfl, rfl, fun _ => rfl, ?_⟩
  intro b hb hb2
  have e2 : ∀ i, Rp N p b i = u2 (Rp N (x :: p)) a f x b i := fun i => by
    rw [u2_at]
    by_cases c : b = a ∧ i = f
    · rw [if_pos c, c.1, c.2]
      unfold Rp
      rw [hr, if_pos ⟨hN, hp⟩]
    · rw [if_neg c]
      unfold Rp
      have : ¬ R0 b i = x := fun q => c (R0_u hx hr q)
      by_cases c2 : R0 b i < N ∧ ¬ R0 b i ∈ p
      · rw [if_pos c2, if_pos ⟨c2.1, fun q => by
            rcases List.mem_cons.mp q with q | q
            · exact this q
            · exact c2.2 q⟩]
      · rw [if_neg c2, if_neg (fun q => c2 ⟨q.1, fun q2 => q.2 (List.mem_cons_of_mem _ q2)⟩)]
  exact ⟨rfl, fun c _ i _ => ⟨rfl, e2 i⟩, fun ty n _ i _ => ⟨rfl, rfl, e2 i⟩⟩
theorem st1 {x : Nat} : stw [(.ref x : Value)] = 1 := rfl
section
variable {μ pc L N N' z z' : Nat} {p : List Nat} {I I' : rI} {ls : eLs} {o : eO} {σo : eS}
/-- a row of a field -/
theorem nwA {l f a n : Nat} {v : Int} {t} {ty : FieldType} (hcA : chk μ pc [(.aload_n 0, 1), (.iconst v, l), (.newarray t, 2)] = true) (hcB : chk μ (pc + 1 + l + 2) [(.putfield f, 3)] = true) (ha : oK a (f / 64))
    (hf : eRf (f / 64) (f % 64) = true) (hr : R0 a (f % 64) = N) (hv : ¬ Int32.ofInt v < 0) (hn : (Int32.ofInt v).toNatClampNeg = n) (hn2 : n ≤ 100000) (hk : aK N ty n) (ht : newarray.typeOf t = ty) (hI : ∀ b, N ≤ b → ∀ j, I b j = 0) (hp : ∀ x ∈ p, x < N)
    (H : Run μ (pc + 1 + l + 2 + 3) ((0, .ref a) :: ls) [] (mC L (N + 1) p I (z + n)) o σo) : Run μ pc ((0, .ref a) :: ls) [] (mC L N p I z) o σo := by
  have haN : a < N := R0_gt hk.1 hr
  refine Run.blk _ hcA ?_
  refine And.intro rfl (And.intro hv (And.intro (by rw [hn]; exact hn2) ?_))
  rw [hn, ht]
  refine Run.agree _ (agN hk.1 (hk.2.2 L) (hI N (Nat.le_refl _))) ?_
  refine Run.blk _ hcB ?_
  simp only [wp, wp1, hf]
  refine ⟨⟨ha.1, Nat.lt_succ_of_lt haN, ha.2.2 L⟩, hk.1, ?_⟩
  exact Run.agree _ (agP hk.1 hr (fun q => absurd (hp _ q) (Nat.lt_irrefl _)) (Nat.lt_succ_self _)) H
theorem nwR {l f a n : Nat} {v : Int} {c : Nat} (hcA : chk μ pc [(.aload_n 0, 1), (.iconst v, l), (.anewarray c, 3)] = true) (hcB : chk μ (pc + 1 + l + 3) [(.putfield f, 3)] = true) (ha : oK a (f / 64))
    (hf : eRf (f / 64) (f % 64) = true) (hr : R0 a (f % 64) = N) (hv : ¬ Int32.ofInt v < 0) (hn : (Int32.ofInt v).toNatClampNeg = n) (hn2 : n ≤ 100000) (hk : aK N (.object (eCN c)) n) (hI : ∀ b, N ≤ b → ∀ j, I b j = 0) (hp : ∀ x ∈ p, x < N)
    (H : Run μ (pc + 1 + l + 3 + 3) ((0, .ref a) :: ls) [] (mC L (N + 1) p I (z + n)) o σo) : Run μ pc ((0, .ref a) :: ls) [] (mC L N p I z) o σo := by
  have haN : a < N := R0_gt hk.1 hr
  refine Run.blk _ hcA ?_
  refine And.intro rfl (And.intro hv (And.intro (by rw [hn]; exact hn2) ?_))
  rw [hn]
  refine Run.agree _ (agN hk.1 (hk.2.2 L) (hI N (Nat.le_refl _))) ?_
  refine Run.blk _ hcB ?_
  simp only [wp, wp1, hf]
  refine ⟨⟨ha.1, Nat.lt_succ_of_lt haN, ha.2.2 L⟩, hk.1, ?_⟩
  exact Run.agree _ (agP hk.1 hr (fun q => absurd (hp _ q) (Nat.lt_irrefl _)) (Nat.lt_succ_self _)) H
/-- an object of a field -/
theorem nwO {f a c q : Nat} (hcA : chk μ pc [(.aload_n 0, 1), (.new c, 3), (.dup, 1)] = true) (hcB : chk μ (pc + 1 + 3 + 1) [(.invokeinterface q 1, 3), (.putfield f, 3)] = true) (ha : oK a (f / 64))
    (hf : eRf (f / 64) (f % 64) = true) (hr : R0 a (f % 64) = N) (hk : oK N c) (hI : ∀ b, N ≤ b → ∀ j, I b j = 0) (hp : ∀ x ∈ p, x < N) (hq : eKd q = 0 ∨ eKd q = 2) (hqc : eC q = c) (hqL : 1 ≤ eL q) (hN' : N < N')
    (D : Den q [.ref N] (mC L (N + 1) (N :: p) I (z + eNF c)) (.inl none) (mC L N' (N :: p) I' z'))
    (H : Run μ (pc + 1 + 3 + 1 + 3 + 3) ((0, .ref a) :: ls) [] (mC L N' p I' z') o σo) : Run μ pc ((0, .ref a) :: ls) [] (mC L N p I z) o σo := by
  have haN : a < N := R0_gt hk.1 hr
  refine Run.blk _ hcA ?_
  refine And.intro rfl (And.intro rfl ?_)
  refine Run.agree _ (agN hk.1 (hk.2.2 L) (hI N (Nat.le_refl _))) ?_
  refine Run.blk _ hcB ?_
  refine ⟨Nat.le_of_ble_eq_true rfl, hqL, Nat.le_of_ble_eq_true rfl, recv_o (q := q) hq hqc ⟨hk.1, Nat.lt_succ_self _, hk.2.2 L⟩, Or.inl ⟨none, _, D, ?_⟩⟩
  show wp1 _ _ _ _ _ (.putfield f) _ _ _ _ _
  simp only [wp, wp1, hf]
  refine ⟨⟨ha.1, Nat.lt_trans haN hN', ha.2.2 L⟩, hk.1, ?_⟩
  exact Run.agree _ (agP hk.1 hr (fun q => absurd (hp _ q) (Nat.lt_irrefl _)) hN') H
/-- an object of a row, in a loop -/
theorem nwL {f a A c q n i : Nat} {v : Int} (hcA : chk μ pc [(.iload_n 1, 1), (.iconst v, 2), (.if_icmp .ge 22, 3), (.aload_n 0, 1), (.getfield f, 3), (.iload_n 1, 1), (.new c, 3), (.dup, 1)] = true)
    (hcB : chk μ (pc + 1 + 2 + 3 + 1 + 3 + 1 + 3 + 1) [(.invokeinterface q 1, 3), (.aastore, 1), (.iinc 1 1, 3), (.goto (-22), 3)] = true) (hv : Int32.ofInt v = nI n) (hn : n ≤ 1000) (hi : i < n) (ha : oK a (f / 64)) (haN : a < N) (hf : eRf (f / 64) (f % 64) = true) (hr : R0 a (f % 64) = A)
    (hA : aK A (.object (eCN c)) n) (hAN : A < N) (hAp : ¬ A ∈ p) (hri : R0 A i = N) (hk : oK N c) (hc10 : c < 10) (hI : ∀ b, N ≤ b → ∀ j, I b j = 0) (hp : ∀ x ∈ p, x < N) (hq : eKd q = 0 ∨ eKd q = 2) (hqc : eC q = c) (hqL : 1 ≤ eL q) (hN' : N < N')
    (D : Den q [.ref N] (mC L (N + 1) (N :: p) I (z + eNF c)) (.inl none) (mC L N' (N :: p) I' z'))
    (H : Run μ (jmp (pc + 1 + 2 + 3 + 1 + 3 + 1 + 3 + 1 + 3 + 1 + 3) (-22)) [(0, .ref a), (1, .int (nI (i + 1)))] [] (mC L N' p I' z') o σo) : Run μ pc [(0, .ref a), (1, .int (nI i))] [] (mC L N p I z) o σo := by
  refine Run.blk _ hcA ?_
  refine ⟨fun h => ?_, fun _ => ?_⟩
  · rw [hv] at h
    exact absurd ((nI_leI (by omega) (by omega)).mp h) (by omega)
  have e1 : Rp N p a (f % 64) = A := by unfold Rp; rw [hr, if_pos ⟨hAN, hAp⟩]
  refine ⟨⟨ha.1, haN, ha.2.2 L⟩, ?_⟩
  rw [hf]
  refine And.intro (show ¬ Rp N p a (f % 64) = 0 by rw [e1]; exact Nat.pos_iff_ne_zero.mp hA.1) ?_
  refine And.intro rfl (And.intro rfl ?_)
  show Run μ _ _ [.ref N, .ref N, .int (nI i), .ref (Rp N p a (f % 64))] _ _ _
  rw [e1]
  refine Run.agree _ (agN hk.1 (hk.2.2 L) (hI N (Nat.le_refl _))) ?_
  refine Run.blk _ hcB ?_
  refine ⟨Nat.le_of_ble_eq_true rfl, hqL, Nat.le_of_ble_eq_true rfl, recv_o (q := q) hq hqc ⟨hk.1, Nat.lt_succ_self _, hk.2.2 L⟩, Or.inl ⟨none, _, D, ?_⟩⟩
  refine ⟨c, n, hc10, hA.1, ⟨Nat.lt_trans hAN hN', hA.2.2 L⟩, vp_in_nI hi (by omega), ⟨hk.1, hN', hk.2.2 L⟩, ?_⟩
  rw [cl i (by omega)]
  refine Run.agree _ (agP hk.1 hri (fun q => absurd (hp _ q) (Nat.lt_irrefl _)) hN') ?_
  refine Run.sub [(0, .ref a), (1, .int (nI (i + 1)))] ?_ H
  intro x hx
  rw [show nI (i + 1) = nI i + Int32.ofInt 1 from Int32.ofNat_add i 1] at hx
  rcases List.mem_cons.mp hx with rfl | hx
  · exact List.mem_cons_of_mem _ (List.mem_cons_self ..)
  · rcases List.mem_cons.mp hx with rfl | hx
    · exact List.mem_cons_self ..
    · cases hx
theorem nwX {a n i : Nat} {v : Int} (hcA : chk μ pc [(.iload_n 1, 1), (.iconst v, 2), (.if_icmp .ge 22, 3)] = true) (hv : Int32.ofInt v = nI n) (hi : i = n)
    (H : Run μ (jmp (pc + 1 + 2) 22) [(0, .ref a), (1, .int (nI i))] [] (mC L N p I z) o σo) : Run μ pc [(0, .ref a), (1, .int (nI i))] [] (mC L N p I z) o σo := by
  refine Run.blk _ hcA ⟨fun _ => H, fun h => absurd ?_ h⟩
  rw [hv, hi]
  exact Int32.le_refl _
end
