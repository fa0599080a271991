/-! The law's own calls: what it hears of each call. -/
theorem tb_ne {T : List (List Nat)} (h : (T.all fun r => r.all fun x => x != 184) = true) (a i : Nat) : ¬ ((((T[a]?).getD [])[i]?).getD 0) = 184 := by
  have h0 : ∀ r ∈ T, ∀ x ∈ r, ¬ x = 184 := by simpa using h
  cases h1 : T[a]? with
  | none => rw [Option.getD_none]; intro k; cases k
  | some r =>
    rw [Option.getD_some]
    cases h2 : r[i]? with
    | none => rw [Option.getD_none]; intro k; cases k
    | some x => rw [Option.getD_some]; exact h0 r (List.mem_of_getElem? h1) x (List.mem_of_getElem? h2)
theorem tb_all : (rTab.all fun r => r.all fun x => x != 184) = true := by decide +kernel
theorem R0_184 {a i : Nat} : ¬ R0 a i = 184 := by
  unfold R0
  by_cases c1 : a = 17
  · rw [if_pos c1]
    by_cases c2 : i < 40
    · rw [if_pos c2]; omega
    · rw [if_neg c2]; omega
  rw [if_neg c1]
  by_cases c3 : a = 63
  · rw [if_pos c3]
    by_cases c2 : i < 8
    · rw [if_pos c2]; omega
    · rw [if_neg c2]; omega
  rw [if_neg c3]
  by_cases c4 : a = 64
  · rw [if_pos c4]
    by_cases c2 : i < 8
    · rw [if_pos c2]; omega
    · rw [if_neg c2]; omega
  rw [if_neg c4]
  exact tb_ne tb_all a i
theorem nrC_m {L h z : Nat} {I : rI} {J : rJ} : nrC (mS L I J h z) :=
  ⟨by show 184 < 185; decide, fun a _ _ => ⟨fun _ _ i _ => R0_184, fun _ _ _ i _ => R0_184⟩⟩
theorem nrS_n : nrS [] := fun v hv => nomatch hv
theorem Inv_184 {n t : Nat} {st tm fv : Nat → Nat} {I : rI} {J : rJ} {x : Int64} (h : Inv n t st tm fv I J I J) : Inv n t st tm fv I (u2 J 184 0 x) I (u2 J 184 0 x) := by
  obtain ⟨⟨a, b, c, d, e⟩, f, g⟩ := h
  exact ⟨⟨IE_fr a rfl (fun _ _ _ => rfl) (fun _ _ _ => rfl) rfl rfl (u2_ne (by omega)) (u2_ne (by omega)),
    ID_fr b rfl (fun _ _ _ => rfl) ⟨rfl, rfl⟩ rfl (u2_ne (by omega)) (u2_ne (by omega)), c, d,
    IJ_fr e (fun _ _ _ => rfl) (fun _ _ _ => rfl) (fun b _ _ => u2_ne (by omega)) (u2_ne (by omega))⟩, f, g⟩
/-- what stands after a call of both -/
def nx (t h z : Nat) (I I2 : rI) (J2 : rJ) (h2 z2 : Nat) : Prop :=
  I2 0 = I 0 ∧ (h2 = h ∧ z2 = z ∨ h2 = h + 1 ∧ z2 = z + 6) ∧ ∃ n' t' st' tm' fv', t' ≤ t + 1000 ∧ Inv n' t' st' tm' fv' I2 J2 I2 J2
/-- what the law hears of a call -/
def lwOk (hq qm : Nat) (as sl : List Value) (t L h z : Nat) (I : rI) (J : rJ) : Prop :=
  ∃ c I1 J1 h1 z1 rv I2 J2, Den hq (.ref 1 :: (as ++ sl)) (mS L I J h z) (.inl (some (.int c))) (mS L I1 J1 h1 z1) ∧ I1 0 = I 0 ∧
  Den qm (.ref 145 :: as) (mS L I1 J1 h1 z1) (.inl (some (.int rv))) (mS L I2 J2 h1 z1) ∧ I2 145 0 = c ∧ (c = 0 → J2 184 0 = rv.toInt64) ∧ nx t h z I I2 J2 h1 z1
def lwOkL (hq qm : Nat) (as sl : List Value) (t L h z : Nat) (I : rI) (J : rJ) : Prop :=
  ∃ c I1 J1 h1 z1 rv I2 J2, Den hq (.ref 1 :: (as ++ sl)) (mS L I J h z) (.inl (some (.int c))) (mS L I1 J1 h1 z1) ∧ I1 0 = I 0 ∧
  Den qm (.ref 145 :: as) (mS L I1 J1 h1 z1) (.inl (some (.long rv))) (mS L I2 J2 h1 z1) ∧ I2 145 0 = c ∧ (c = 0 → J2 184 0 = rv) ∧ nx t h z I I2 J2 h1 z1
theorem nI_s1 {k : Nat} (h : k < 2147483647) : ¬ nI (k + 1) = 0 := fun q => by
  have := (nI_eq (a := k + 1) (b := 0) (by omega) (by omega)).mp q
  omega
theorem m_pos {L h z : Nat} {I : rI} {J : rJ} : 0 < sN (mS L I J h z) := by show 0 < 185; decide
theorem fr_d {qm : Nat} {as : List Value} {o : eO} {L h z h1 z1 : Nat} {I I1 : rI} {J J1 : rJ} (nr : nrS as) (x : Int64) (d : Den qm (.ref 145 :: as) (mS L I J h z) o (mS L I1 J1 h1 z1)) :
    Den qm (.ref 145 :: as) (mS L I (u2 J 184 0 x) h z) o (mS L I1 (u2 J1 184 0 x) h1 z1) :=
  Run.frame d (nrL_a _ _ (nrS_c (ne_ref (by decide)) nr)) nrS_n nrC_m x
section
variable {q qm hq t L h z : Nat} {as sl : List Value} {es : List Nat} {I : rI} {J : rJ}
theorem lw_I {ty tym : FieldType} (hr : eRt q = some ty) (hty : ¬ ty = .long) (hrm : eRt qm = some tym) (htym : ¬ tym = .long) (nr : nrS as) (hes : es.length ≤ 3)
    (ok : ∀ v I1 J1, Den q (.ref 1 :: as) (mS L I J h z) (.inl (some (.int v))) (mS L I1 J1 h z) → Den hq (.ref 1 :: (as ++ sl)) (mS L I J h z) (.inl (some (.int 0))) (mS L I1 (u2 J1 184 0 v.toInt64) h z))
    (bad : ∀ e I1 J1 c, e ∈ es → c = nI (es.idxOf e + 1) → Den q (.ref 1 :: as) (mS L I J h z) (.inr e) (mS L I1 J1 (h + 1) (z + 6)) → Den hq (.ref 1 :: (as ++ sl)) (mS L I J h z) (.inl (some (.int c))) (mS L I1 J1 (h + 1) (z + 6)))
    (H : callOk q qm as es t L h z I J) : lwOk hq qm as sl t L h z I J := by
  obtain ⟨o, I1, J1, h1, z1, d1, hz, he, rv, I2, J2, d2, e0, et, ev, n', t', st', tm', fv', ht, hinv⟩ := H
  have k1 := Run.kd d1 m_pos
  have k2 := Run.kd d2 m_pos
  cases o with
  | inl v =>
    obtain ⟨x, rfl⟩ := (k1.2 v rfl).2 ty hr hty
    obtain ⟨rfl, rfl⟩ := hz
    have := ev _ rfl
    subst this
    exact ⟨0, I1, u2 J1 184 0 x.toInt64, h1, z1, x, I2, u2 J2 184 0 x.toInt64, ok x I1 J1 d1, funext k1.1, fr_d nr _ d2, et, fun _ => by rw [u2_at, if_pos ⟨rfl, rfl⟩], e0, Or.inl ⟨rfl, rfl⟩, n', t', st', tm', fv', ht, Inv_184 hinv⟩
  | inr e =>
    obtain ⟨x, rfl⟩ := (k2.2 rv rfl).2 tym hrm htym
    obtain ⟨rfl, rfl⟩ := hz
    have hl : es.idxOf e < 2147483647 := by have := List.idxOf_le_length (l := es) (a := e); omega
    exact ⟨nI (es.idxOf e + 1), I1, J1, h + 1, z + 6, x, I2, J2, bad e I1 J1 _ (he e rfl) rfl d1, funext k1.1, d2, et, fun c => absurd c (nI_s1 hl), e0, Or.inr ⟨rfl, rfl⟩, n', t', st', tm', fv', ht, hinv⟩
theorem lw_L (nr : nrS as) (hes : es.length ≤ 3)
    (ok : ∀ v I1 J1, Den q (.ref 1 :: as) (mS L I J h z) (.inl (some (.long v))) (mS L I1 J1 h z) → Den hq (.ref 1 :: (as ++ sl)) (mS L I J h z) (.inl (some (.int 0))) (mS L I1 (u2 J1 184 0 v) h z))
    (bad : ∀ e I1 J1 c, e ∈ es → c = nI (es.idxOf e + 1) → Den q (.ref 1 :: as) (mS L I J h z) (.inr e) (mS L I1 J1 (h + 1) (z + 6)) → Den hq (.ref 1 :: (as ++ sl)) (mS L I J h z) (.inl (some (.int c))) (mS L I1 J1 (h + 1) (z + 6)))
    (H : callOkL q qm as es t L h z I J) : lwOkL hq qm as sl t L h z I J := by
  obtain ⟨o, I1, J1, h1, z1, d1, hz, he, rv, I2, J2, d2, e0, et, ev, n', t', st', tm', fv', ht, hinv⟩ := H
  have k1 := Run.kd d1 m_pos
  cases o with
  | inl v =>
    obtain ⟨rfl, rfl⟩ := hz
    have := ev _ rfl
    subst this
    exact ⟨0, I1, u2 J1 184 0 rv, h1, z1, rv, I2, u2 J2 184 0 rv, ok rv I1 J1 d1, funext k1.1, fr_d nr _ d2, et, fun _ => by rw [u2_at, if_pos ⟨rfl, rfl⟩], e0, Or.inl ⟨rfl, rfl⟩, n', t', st', tm', fv', ht, Inv_184 hinv⟩
  | inr e =>
    obtain ⟨rfl, rfl⟩ := hz
    have hl : es.idxOf e < 2147483647 := by have := List.idxOf_le_length (l := es) (a := e); omega
    exact ⟨nI (es.idxOf e + 1), I1, J1, h + 1, z + 6, rv, I2, J2, bad e I1 J1 _ (he e rfl) rfl d1, funext k1.1, d2, et, fun c => absurd c (nI_s1 hl), e0, Or.inr ⟨rfl, rfl⟩, n', t', st', tm', fv', ht, hinv⟩
end
theorem lw_t {c : Int32} {x y : Int64} {R A B : Prop} (hx : c = 0 → x = y) (r : R) : (c = c → (¬ c = 0 → R) ∧ (c = 0 → vp_in (0 : Int32) 1 ∧ (lg_cmp x y = 0 → R) ∧ (¬ lg_cmp x y = 0 → A))) ∧ (¬ c = c → B) :=
  ⟨fun _ => ⟨fun _ => r, fun c0 => ⟨vp_in_nI (n := 0) (by omega) (by omega), fun _ => r, fun k => absurd (by rw [hx c0]; unfold lg_cmp; simp) k⟩⟩, fun k => absurd rfl k⟩
theorem cd_i {c d : Int32} (h : c = d) : (.inl (some (.int c)) : eO) = .inl (some (.int d)) := by rw [h]
theorem and_31 (x : Int32) : ∃ k, k < 32 ∧ x &&& 31 = nI k := by
  refine ⟨(x &&& 31).toBitVec.toNat, ?_, ?_⟩
  · have : (x &&& 31).toBitVec = x.toBitVec &&& 31#32 := rfl
    rw [this, BitVec.toNat_and]
    exact Nat.lt_succ_of_le Nat.and_le_right
  · have : ∀ y : Int32, y = nI y.toBitVec.toNat := fun y => by
      apply Int32.toBitVec_inj.mp
      show y.toBitVec = BitVec.ofNat 32 y.toBitVec.toNat
      simp
    exact this _
theorem lp_end {L i : Nat} (hL : L ≤ 320) (hi : i ≤ 400) : Int32.ofNat L - 5 < nI i ↔ L < i + 5 := by
  have : (Int32.ofNat L - (5 : Int32)).toInt = (L : Int) - 5 := by
    rw [Int32.toInt_sub]
    have h1 : (Int32.ofNat L).toInt = if (L : Int) % 4294967296 < 2147483648 then (L : Int) % 4294967296 else (L : Int) % 4294967296 - 4294967296 := ti_nI L
    rw [h1, show (5 : Int32).toInt = 5 from rfl]
    rw [Int.bmod_def]
    omega
  rw [ti_lt, this, ti_nI]
  omega
theorem lp_in {L i : Nat} (hL : L ≤ 320) (k : Nat) (h : i + 5 ≤ L) (hk : k < 5) : vp_in (nI i + nI k) L := by
  have : nI i + nI k = nI (i + k) := (Int32.ofNat_add i k).symm
  rw [this]
  exact vp_in_nI (by omega) (by omega)
theorem lp_in0 {L i : Nat} (hL : L ≤ 320) (h : i + 5 ≤ L) : vp_in (nI i) L := vp_in_nI (by omega) (by omega)
