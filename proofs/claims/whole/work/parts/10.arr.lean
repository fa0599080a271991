/-! Arrays; the script. -/
section
variable {μ pc : Nat} {ls : eLs} {st : List Value} {σ : eS} {o : eO} {σo : eS} {r : List Value}
theorem eTs_int {cA : FieldType → ClassId} : (eTs cA)[0]? = some (cA .int, .int) := rfl
theorem eTs_long {cA : FieldType → ClassId} : (eTs cA)[3]? = some (cA .long, .long) := rfl
theorem m_iaload {a n : Nat} {i : Int32} (hd : decode (eB μ) pc = .ok (.iaload, 1)) (ha : isA σ a .int n) (hi : vp_in i n) (h : eMP μ (pc + 1) ls (.int (sI σ a i.toNatClampNeg) :: r) σ o σo) : eMP μ pc ls (.int i :: .ref a :: r) σ o σo := by
  refine eStep _ _ _ h fun l b base L xs cA D p e R s m args below meth c H locs cells slots Q la hf hs hr hR hS hla hc hz k => ?_
  by_cases h0 : a = 0
  · subst h0
    obtain ⟨-, -, -, r4, r5, r6⟩ := hR
    have e1 : Sum.inr (FieldType.int, L) = (Sum.inr (FieldType.int, n) : Nat ⊕ (FieldType × Nat)) := r5.symm.trans ha.2
    have e2 : L = n := by injection e1 with e1; injection e1
    subst e2
    have k9 := k la hla
    rw [r6] at k9
    exact va_sld (A := eA base) hf.1 hf.2.1 hs.2.2.2.1 (by have := hs.2.2.2.2.1; have := hs.2.2.2.2.2.1; omega) (by show ¬ base ≤ b; have := hs.2.2.2.2.1; omega) hS hi hd k9
  · exact va_iald hf.1 hf.2.1 hs.1 hR.1 (a - 1) 0 (eW_int (by omega) ha (Or.inl rfl)) eTs_int hi hd (k la hla)
theorem m_baload {a n : Nat} {ty : FieldType} {i : Int32} (hd : decode (eB μ) pc = .ok (.baload, 1)) (ht : ty = .boolean ∨ ty = .byte) (h0 : 0 < a) (ha : isA σ a ty n) (hi : vp_in i n) (h : eMP μ (pc + 1) ls (.int (sI σ a i.toNatClampNeg) :: r) σ o σo) : eMP μ pc ls (.int i :: .ref a :: r) σ o σo := by
  refine eStep _ _ _ h fun l b base L xs cA D p e R s m args below meth c H locs cells slots Q la hf hs hr hR hS hla hc hz k => ?_
  rcases ht with rfl | rfl
  · exact va_zald hf.1 hf.2.1 hs.1 hR.1 (a - 1) 1 (eW_int h0 ha (Or.inr (Or.inl rfl))) rfl hi hd (k la hla)
  · exact va_bald hf.1 hf.2.1 hs.1 hR.1 (a - 1) 2 (eW_int h0 ha (Or.inr (Or.inr rfl))) rfl hi hd (k la hla)
theorem m_laload {a n : Nat} {i : Int32} (hd : decode (eB μ) pc = .ok (.laload, 1)) (h0 : 0 < a) (ha : isA σ a .long n) (hi : vp_in i n) (h : eMP μ (pc + 1) ls (.long (sL σ a i.toNatClampNeg) :: r) σ o σo) : eMP μ pc ls (.int i :: .ref a :: r) σ o σo := by
  refine eStep _ _ _ h fun l b base L xs cA D p e R s m args below meth c H locs cells slots Q la hf hs hr hR hS hla hc hz k => ?_
  exact va_lald hf.1 hf.2.1 hs.1 hR.1 (a - 1) 3 (eW_long h0 ha) eTs_long hi hd (k la hla)
theorem m_aaload {a n : Nat} {C : String} {i : Int32} (hd : decode (eB μ) pc = .ok (.aaload, 1)) (h0 : 0 < a) (ha : isA σ a (.object C) n) (hi : vp_in i n) (hz0 : ¬ sR σ a i.toNatClampNeg = 0) (h : eMP μ (pc + 1) ls (.ref (sR σ a i.toNatClampNeg) :: r) σ o σo) : eMP μ pc ls (.int i :: .ref a :: r) σ o σo := by
  refine eStep _ _ _ h fun l b base L xs cA D p e R s m args below meth c H locs cells slots Q la hf hs hr hR hS hla hc hz k => ?_
  obtain ⟨t0, ht0⟩ := eTs_at (cA := cA) ((hR.2.2.1 a h0 ha.1).2 _ _ ha.2).1
  refine va_aldq hf.1 hf.2.1 hs.1 hR.1 (a - 1) t0 (eW_ref (b := b) (base := base) (cA := cA) h0 ha) ht0 hi hd ?_
  refine W.eq (g2 := F0 m (pc + 1) la ((Value.ref (sR σ a i.toNatClampNeg) :: r).map (eVl b base))) ?_ (k la hla)
  show F0 m (pc + 1) la (va_rf (if sR σ a i.toNatClampNeg = 0 then none else some (eAd b base (sR σ a i.toNatClampNeg))) :: r.map (eVl b base)) = _
  rw [if_neg hz0]
  rfl
theorem eRep_int {b base L : Nat} {xs : Nat → Int32} {cA : FieldType → ClassId} {D : va_G} {H H1 : Heap} {a n i : Nat} {x : Int32} {ty : FieldType} (hR : eRep b base L xs cA D σ H) (h0 : 0 < a) (ha : isA σ a ty n) (ht : ty = .int ∨ ty = .boolean ∨ ty = .byte)
    (hP : va_P D eCl ((eW b base cA σ).set (a - 1) (eAd b base a, .inl (cA ty, n, .inl (upd (sI σ a) i x)))) H1) : eRep b base L xs cA D (setI σ a i x) H1 := by
  refine eRep_set hR h0 ha.1 rfl rfl (fun a' h => ⟨u2_o h, rfl, rfl⟩) ?_ hP
  unfold eCell
  rw [show sK (setI σ a i x) a = .inr (ty, n) from ha.2]
  have e1 : sI (setI σ a i x) a = upd (sI σ a) i x := by
    funext j
    show u2 (sI σ) a i x a j = _
    rw [u2_s]; rfl
  rcases ht with rfl | rfl | rfl <;> (dsimp only; rw [e1])
theorem m_iastore {a n : Nat} {i x : Int32} (hd : decode (eB μ) pc = .ok (.iastore, 1)) (h0 : 0 < a) (ha : isA σ a .int n) (hi : vp_in i n) (h : eMP μ (pc + 1) ls r (setI σ a i.toNatClampNeg x) o σo) : eMP μ pc ls (.int x :: .int i :: .ref a :: r) σ o σo := by
  refine eStepW _ _ (σ' := setI σ a i.toNatClampNeg x) ⟨rfl, rfl, rfl⟩ h fun l b base L xs cA D p e R s m args below meth c H locs cells slots Q la hf hs hr hR hS hla k => ?_
  exact va_iast hf.1 hf.2.1 hs.1 hR.1 eW_D hS (a - 1) 0 (eW_int h0 ha (Or.inl rfl)) eTs_int hi hd (fun H1 locs1 hP _ hS1 => k H1 locs1 (eRep_int hR h0 ha (Or.inl rfl) hP) hS1)
theorem m_bastore {a n : Nat} {ty : FieldType} {i x : Int32} (hd : decode (eB μ) pc = .ok (.bastore, 1)) (ht : ty = .boolean ∨ ty = .byte) (h0 : 0 < a) (ha : isA σ a ty n) (hi : vp_in i n) (h : eMP μ (pc + 1) ls r (setI σ a i.toNatClampNeg (vp_nar ty x)) o σo) : eMP μ pc ls (.int x :: .int i :: .ref a :: r) σ o σo := by
  refine eStepW _ _ (σ' := setI σ a i.toNatClampNeg (vp_nar ty x)) ⟨rfl, rfl, rfl⟩ h fun l b base L xs cA D p e R s m args below meth c H locs cells slots Q la hf hs hr hR hS hla k => ?_
  rcases ht with rfl | rfl
  · exact va_zast hf.1 hf.2.1 hs.1 hR.1 eW_D hS (a - 1) 1 (eW_int h0 ha (Or.inr (Or.inl rfl))) rfl hi hd (fun H1 locs1 hP _ hS1 => k H1 locs1 (eRep_int hR h0 ha (Or.inr (Or.inl rfl)) hP) hS1)
  · exact va_bast hf.1 hf.2.1 hs.1 hR.1 eW_D hS (a - 1) 2 (eW_int h0 ha (Or.inr (Or.inr rfl))) rfl hi hd (fun H1 locs1 hP _ hS1 => k H1 locs1 (eRep_int hR h0 ha (Or.inr (Or.inr rfl)) hP) hS1)
theorem m_lastore {a n : Nat} {i : Int32} {x : Int64} (hd : decode (eB μ) pc = .ok (.lastore, 1)) (h0 : 0 < a) (ha : isA σ a .long n) (hi : vp_in i n) (h : eMP μ (pc + 1) ls r (setL σ a i.toNatClampNeg x) o σo) : eMP μ pc ls (.long x :: .int i :: .ref a :: r) σ o σo := by
  refine eStepW _ _ (σ' := setL σ a i.toNatClampNeg x) ⟨rfl, rfl, rfl⟩ h fun l b base L xs cA D p e R s m args below meth c H locs cells slots Q la hf hs hr hR hS hla k => ?_
  refine va_last hf.1 hf.2.1 hs.1 hR.1 eW_D hS (a - 1) 3 (eW_long h0 ha) eTs_long hi hd (fun H1 locs1 hP _ hS1 => k H1 locs1 (eRep_set hR h0 ha.1 rfl rfl (fun a' h => ⟨rfl, u2_o h, rfl⟩) ?_ hP) hS1)
  unfold eCell
  rw [show sK (setL σ a i.toNatClampNeg x) a = .inr (.long, n) from ha.2]
  have e1 : sL (setL σ a i.toNatClampNeg x) a = vp_updL (sL σ a) i.toNatClampNeg x := by
    funext j
    show u2 (sL σ) a i.toNatClampNeg x a j = _
    rw [u2_s]; rfl
  dsimp only
  rw [e1]
theorem m_aastore {a n v ci : Nat} {i : Int32} (hd : decode (eB μ) pc = .ok (.aastore, 1)) (hci : ci < 10) (h0 : 0 < a) (ha : isA σ a (.object (eCN ci)) n) (hi : vp_in i n) (hv : isO σ v ci) (h : eMP μ (pc + 1) ls r (setR σ a i.toNatClampNeg v) o σo) : eMP μ pc ls (.ref v :: .int i :: .ref a :: r) σ o σo := by
  refine eStepW _ _ (σ' := setR σ a i.toNatClampNeg v) ⟨rfl, rfl, rfl⟩ h fun l b base L xs cA D p e R s m args below meth c H locs cells slots Q la hf hs hr hR hS hla k => ?_
  obtain ⟨t0, ht0⟩ := eTs_at (cA := cA) ((hR.2.2.1 a h0 ha.1).2 _ _ ha.2).1
  refine va_astq hf.1 hf.2.1 hs.1 hR.1 eW_D hS (a - 1) t0 (v - 1) ci (r := (eCN ci, eT ci, eNF ci)) (eW_ref (b := b) (base := base) (cA := cA) h0 ha) ht0 (eW_obj (b := b) (base := base) (cA := cA) hv) (eCl_at hci) hi hd (fun H1 locs1 hP _ hS1 => k H1 locs1 (eRep_set hR h0 ha.1 rfl rfl (fun a' h => ⟨rfl, rfl, u2_o h⟩) ?_ hP) hS1)
  unfold eCell
  rw [show sK (setR σ a i.toNatClampNeg v) a = .inr (.object (eCN ci), n) from ha.2]
  have e1 : (fun j => if sR (setR σ a i.toNatClampNeg v) a j = 0 then none else some (eAd b base (sR (setR σ a i.toNatClampNeg v) a j))) = va_up (fun j => if sR σ a j = 0 then none else some (eAd b base (sR σ a j))) i.toNatClampNeg (some (eAd b base v)) := by
    funext j
    show (if u2 (sR σ) a i.toNatClampNeg v a j = 0 then none else some (eAd b base (u2 (sR σ) a i.toNatClampNeg v a j))) = va_up _ _ _ j
    rw [u2_s]
    unfold va_up
    by_cases hj : j = i.toNatClampNeg
    · rw [if_pos hj, if_pos hj, if_neg (by have := hv.1; omega)]
    · rw [if_neg hj, if_neg hj]
  dsimp only
  rw [e1]
theorem m_arraylength {a n : Nat} {ty : FieldType} (hd : decode (eB μ) pc = .ok (.arraylength, 1)) (ha : isA σ a ty n) (h : eMP μ (pc + 1) ls (.int (Int32.ofNat n) :: r) σ o σo) : eMP μ pc ls (.ref a :: r) σ o σo := by
  refine eStep _ _ _ h fun l b base L xs cA D p e R s m args below meth c H locs cells slots Q la hf hs hr hR hS hla hc hz k => ?_
  by_cases h0 : a = 0
  · subst h0
    obtain ⟨-, -, -, r4, r5, r6⟩ := hR
    have e1 : Sum.inr (FieldType.int, L) = (Sum.inr (ty, n) : Nat ⊕ (FieldType × Nat)) := r5.symm.trans ha.2
    have e2 : L = n := by injection e1 with e1; injection e1
    subst e2
    have q1 := hs.2.2.2.2.1
    have q2 := hs.2.2.2.2.2.1
    have q3 : ¬ eA base b := fun z => Nat.lt_irrefl _ (Nat.lt_of_lt_of_le q1 z)
    have q4 : b < s.heap.size := Nat.lt_of_lt_of_le q1 q2
    exact va_slen (A := eA base) hf.1 hf.2.1 hs.2.2.2.1 q4 q3 hS hd (k la hla)
  · have ha0 : 0 < a := by omega
    obtain ⟨t0, ht0⟩ := eTs_at (cA := cA) ((hR.2.2.1 a ha0 ha.1).2 _ _ ha.2).1
    have he : ∃ y, (eW b base cA σ)[a - 1]? = some (eAd b base a, .inl (cA ty, n, y)) := by
      rw [eW_at ha0 ha.1]
      unfold eCell
      rw [ha.2]
      exact ⟨_, rfl⟩
    obtain ⟨y, he⟩ := he
    exact va_alen hf.1 hf.2.1 hs.1 hR.1 (a - 1) t0 he ht0 rfl hd (k la hla)
theorem m_copyI {a a0 n0 n1 i : Nat} {n dp sp : Int32} (hd : decode (eB μ) pc = .ok (.invokestatic i, 3)) (hw : Cond.methodLink (eCN (eC μ)) i arraycopyName ∈ gTb) (hnat : Cond.native arraycopyName ∈ gTb) (hst : Cond.static arraycopyName ∈ gTb) (hin : Cond.initialized "java/lang/System" ∈ gTb) (hdp : 1 ≤ eDp μ) (h8 : stw r ≤ 8)
    (g1 : ¬ sp < 0) (g2 : ¬ dp < 0) (g3 : ¬ n < 0) (g4 : 0 < a0) (g5 : 0 < a) (ha0 : isA σ a0 .int n0) (ha : isA σ a .int n1) (g6 : sp.toNatClampNeg + n.toNatClampNeg ≤ n0) (g7 : dp.toNatClampNeg + n.toNatClampNeg ≤ n1)
    (h : eMP μ (pc + 3) ls r (cpyI σ a0 a sp.toNatClampNeg dp.toNatClampNeg n.toNatClampNeg) o σo) : eMP μ pc ls (.int n :: .int dp :: .ref a :: .int sp :: .ref a0 :: r) σ o σo := by
  refine eStepW _ _ (σ' := cpyI σ a0 a sp.toNatClampNeg dp.toNatClampNeg n.toNatClampNeg) ⟨rfl, rfl, rfl⟩ h fun l b base L xs cA D p e R s m args below meth c H locs cells slots Q la hf hs hr hR hS hla k => ?_
  have h9 := eRoom (b := b) (base := base) h8
  have hww : nativeFrameWords "java/lang/System" "arraycopy" 5 + 11 ≤ 100 := by decide +kernel
  refine va_copyi hf.1 hf.2.1 (by rw [hf.2.2.2.1]; exact hla.1.symm) hf.2.2.2.2.1 (hf.2.2.2.2.2.1 _ hw) (hf.2.2.2.2.2.1 _ hnat) (hf.2.2.2.2.2.1 _ hst) (hf.2.2.2.2.2.1 _ hin) hs.1 hR.1 eW_D hS (a0 - 1) (a - 1) 0 0 (eW_int g4 ha0 (Or.inl rfl)) (eW_int g5 ha (Or.inl rfl)) eTs_int eTs_int rfl g1 g2 g3 g6 g7 (fun _ _ => rfl) (by have := hr.1; omega) (by have := hr.2; omega) hd
    (fun H1 locs1 hP _ hS1 => k H1 locs1 (eRep_set hR g5 ha.1 rfl rfl (fun a' h => ⟨u1_o h, rfl, rfl⟩) ?_ hP) hS1)
  unfold eCell
  rw [show sK (cpyI σ a0 a sp.toNatClampNeg dp.toNatClampNeg n.toNatClampNeg) a = .inr (.int, n1) from ha.2]
  have e1 : sI (cpyI σ a0 a sp.toNatClampNeg dp.toNatClampNeg n.toNatClampNeg) a = va_cpy (sI σ a0) (sI σ a) sp.toNatClampNeg dp.toNatClampNeg n.toNatClampNeg := by
    funext j
    show u1 _ a _ a j = _
    unfold u1; rw [if_pos rfl]
  dsimp only
  rw [e1]
theorem m_copyL {a a0 n0 n1 i : Nat} {n dp sp : Int32} (hd : decode (eB μ) pc = .ok (.invokestatic i, 3)) (hw : Cond.methodLink (eCN (eC μ)) i arraycopyName ∈ gTb) (hnat : Cond.native arraycopyName ∈ gTb) (hst : Cond.static arraycopyName ∈ gTb) (hin : Cond.initialized "java/lang/System" ∈ gTb) (hdp : 1 ≤ eDp μ) (h8 : stw r ≤ 8)
    (g1 : ¬ sp < 0) (g2 : ¬ dp < 0) (g3 : ¬ n < 0) (g4 : 0 < a0) (g5 : 0 < a) (ha0 : isA σ a0 .long n0) (ha : isA σ a .long n1) (g6 : sp.toNatClampNeg + n.toNatClampNeg ≤ n0) (g7 : dp.toNatClampNeg + n.toNatClampNeg ≤ n1)
    (h : eMP μ (pc + 3) ls r (cpyL σ a0 a sp.toNatClampNeg dp.toNatClampNeg n.toNatClampNeg) o σo) : eMP μ pc ls (.int n :: .int dp :: .ref a :: .int sp :: .ref a0 :: r) σ o σo := by
  refine eStepW _ _ (σ' := cpyL σ a0 a sp.toNatClampNeg dp.toNatClampNeg n.toNatClampNeg) ⟨rfl, rfl, rfl⟩ h fun l b base L xs cA D p e R s m args below meth c H locs cells slots Q la hf hs hr hR hS hla k => ?_
  have h9 := eRoom (b := b) (base := base) h8
  have hww : nativeFrameWords "java/lang/System" "arraycopy" 5 + 11 ≤ 100 := by decide +kernel
  refine va_copyl hf.1 hf.2.1 (by rw [hf.2.2.2.1]; exact hla.1.symm) hf.2.2.2.2.1 (hf.2.2.2.2.2.1 _ hw) (hf.2.2.2.2.2.1 _ hnat) (hf.2.2.2.2.2.1 _ hst) (hf.2.2.2.2.2.1 _ hin) hs.1 hR.1 eW_D hS (a0 - 1) (a - 1) 3 3 (eW_long g4 ha0) (eW_long g5 ha) eTs_long eTs_long rfl g1 g2 g3 g6 g7 (fun _ _ => rfl) (by have := hr.1; omega) (by have := hr.2; omega) hd
    (fun H1 locs1 hP _ hS1 => k H1 locs1 (eRep_set hR g5 ha.1 rfl rfl (fun a' h => ⟨rfl, u1_o h, rfl⟩) ?_ hP) hS1)
  unfold eCell
  rw [show sK (cpyL σ a0 a sp.toNatClampNeg dp.toNatClampNeg n.toNatClampNeg) a = .inr (.long, n1) from ha.2]
  have e1 : sL (cpyL σ a0 a sp.toNatClampNeg dp.toNatClampNeg n.toNatClampNeg) a = va_cpy (sL σ a0) (sL σ a) sp.toNatClampNeg dp.toNatClampNeg n.toNatClampNeg := by
    funext j
    show u1 _ a _ a j = _
    unfold u1; rw [if_pos rfl]
  dsimp only
  rw [e1]
end
