/-! Fields and arrays. -/
theorem eNF_le (c : Nat) : eNF c ≤ 51 := by unfold eNF; split <;> decide
theorem eCl_at {c : Nat} (h : c < 10) : eCl[c]? = some (eCN c, eT c, eNF c) := by
  match c, h with
  | 0, _ => rfl | 1, _ => rfl | 2, _ => rfl | 3, _ => rfl | 4, _ => rfl | 5, _ => rfl | 6, _ => rfl | 7, _ => rfl | 8, _ => rfl | 9, _ => rfl
theorem eU_good {C : String} {T : u_T} {n : Nat} : ∀ w ∈ u_ws C T n, goodWord w = true := by
  intro w hw
  obtain ⟨k, -, rfl⟩ := List.mem_map.mp hw
  unfold u_lay
  split <;> rfl
theorem eU_in {c : Nat} (h : c < 10) : ∀ w ∈ u_ws (eCN c) (eT c) (eNF c), w ∈ gTb := by
  intro w hw
  have h1 := of_decide_eq_true (List.all_eq_true.mp eU_ok c (List.mem_range.mpr h))
  refine List.mem_filter.mpr ⟨List.mem_append_right _ ?_, eU_good w hw⟩
  rw [h1] at hw
  obtain ⟨i, -, hi⟩ := List.mem_filterMap.mp hw
  exact List.mem_of_getElem? hi
theorem eTy_ok {c : Nat} (h : c < 10) : ∀ k, k < eNF c → parseFieldDescriptor (eT c k).2.2.1 = some (eTy c k) := by
  match c, h with
  | 0, _ => exact tyX0_ok | 1, _ => exact tyX1_ok | 2, _ => exact tyX2_ok | 3, _ => exact tyX3_ok | 4, _ => exact tyX4_ok | 5, _ => exact tyX5_ok | 6, _ => exact tyX6_ok | 7, _ => exact tyX7_ok | 8, _ => exact tyX8_ok | 9, _ => exact tyX9_ok
theorem eNm_ok {c : Nat} (h : c < 10) : ∀ a, a < eNF c → ∀ b, b < eNF c → a ≠ b → (eT c a).2.1 ≠ (eT c b).2.1 := by
  match c, h with
  | 0, _ => exact nmX0 | 1, _ => exact nmX1 | 2, _ => exact nmX2 | 3, _ => exact nmX3 | 4, _ => exact nmX4 | 5, _ => exact nmX5 | 6, _ => exact nmX6 | 7, _ => exact nmX7 | 8, _ => exact nmX8 | 9, _ => exact nmX9
theorem lkF_spec {own i f : Nat} (h : lkF own i f = true) : f / 64 < 10 ∧ f % 64 < eNF (f / 64) ∧
    (Cond.fieldLinkNest (eCN own) i (eT (f / 64) (f % 64)).1 (eT (f / 64) (f % 64)).2.1 (eT (f / 64) (f % 64)).2.2.1 "EventVault" ∈ lw_tbl ∨ Cond.fieldLink (eCN own) i (eT (f / 64) (f % 64)).1 (eT (f / 64) (f % 64)).2.1 (eT (f / 64) (f % 64)).2.2.1 ∈ lw_tbl) := by
  obtain ⟨t, ht, h1⟩ := List.any_eq_true.mp h
  simp only [Bool.and_eq_true, beq_iff_eq] at h1
  obtain ⟨⟨h1, h2⟩, h3⟩ := h1
  have h4 := List.all_eq_true.mp eLF_ok t ht
  simp only [Bool.and_eq_true, decide_eq_true_eq] at h4
  obtain ⟨⟨h4, h5⟩, h6⟩ := h4
  have h7 := eNF_le t.2.2.1
  have e1 : f / 64 = t.2.2.1 := by omega
  have e2 : f % 64 = t.2.2.2.1 := by omega
  rw [e1, e2]
  refine ⟨h6, h5, ?_⟩
  have h8 := eAt_mem h4
  unfold eFw at h8
  rw [h1, h2] at h8
  split at h8
  · exact Or.inl h8
  · exact Or.inr h8
theorem lkG_spec {μ i f : Nat} (h : lkG μ i f = true) : f / 64 < 10 ∧ f % 64 < eNF (f / 64) ∧
    (((eT (f / 64) (f % 64)).2.2.2 = false ∧ Cond.fieldLinkNest (eCN (eC μ)) i (eT (f / 64) (f % 64)).1 (eT (f / 64) (f % 64)).2.1 (eT (f / 64) (f % 64)).2.2.1 "EventVault" ∈ lw_tbl) ∨
     ((eT (f / 64) (f % 64)).2.2.2 = false ∧ Cond.fieldLink (eCN (eC μ)) i (eT (f / 64) (f % 64)).1 (eT (f / 64) (f % 64)).2.1 (eT (f / 64) (f % 64)).2.2.1 ∈ lw_tbl) ∨
     ((eT (f / 64) (f % 64)).2.2.2 = true ∧ eKd μ = 2 ∧ (eT (f / 64) (f % 64)).1 = eCN (eC μ) ∧ Cond.fieldLink (eCN (eC μ)) i (eT (f / 64) (f % 64)).1 (eT (f / 64) (f % 64)).2.1 (eT (f / 64) (f % 64)).2.2.1 ∈ lw_tbl)) := by
  obtain ⟨t, ht, h1⟩ := List.any_eq_true.mp h
  simp only [Bool.and_eq_true, beq_iff_eq, Bool.or_eq_true, Bool.not_eq_true', decide_eq_true_eq] at h1
  obtain ⟨⟨⟨h1, h2⟩, h3⟩, h9⟩ := h1
  have h4 := List.all_eq_true.mp eLF_ok t ht
  simp only [Bool.and_eq_true, decide_eq_true_eq] at h4
  obtain ⟨⟨h4, h5⟩, h6⟩ := h4
  have h7 := eNF_le t.2.2.1
  have e1 : f / 64 = t.2.2.1 := by omega
  have e2 : f % 64 = t.2.2.2.1 := by omega
  rw [e1, e2]
  refine ⟨h6, h5, ?_⟩
  have h8 := eAt_mem h4
  unfold eFw at h8
  rw [h1, h2] at h8
  rcases h9 with h9 | ⟨⟨h9, h10⟩, h11⟩
  · split at h8
    · exact Or.inl ⟨h9, h8⟩
    · exact Or.inr (Or.inl ⟨h9, h8⟩)
  · rw [h9] at h8
    cases hz : (eT t.2.2.1 t.2.2.2.1).2.2.2 with
    | false => exact Or.inr (Or.inl ⟨rfl, h8⟩)
    | true => exact Or.inr (Or.inr ⟨rfl, h10, h11, h8⟩)
theorem eW_obj {b base : Nat} {cA : FieldType → ClassId} {σ : eS} {a c : Nat} (h : isO σ a c) : (eW b base cA σ)[a - 1]? = some (eAd b base a, .inr (c, (List.range (eNF c)).map (fun i => eFl b base σ a c i))) := by
  rw [eW_at h.1 h.2.1]
  unfold eCell
  rw [h.2.2]
theorem eW_int {b base : Nat} {cA : FieldType → ClassId} {σ : eS} {a n : Nat} {ty : FieldType} (h0 : 0 < a) (h : isA σ a ty n) (ht : ty = .int ∨ ty = .boolean ∨ ty = .byte) : (eW b base cA σ)[a - 1]? = some (eAd b base a, .inl (cA ty, n, .inl (sI σ a))) := by
  rw [eW_at h0 h.1]
  unfold eCell
  rw [h.2]
  rcases ht with rfl | rfl | rfl <;> rfl
theorem eW_long {b base : Nat} {cA : FieldType → ClassId} {σ : eS} {a n : Nat} (h0 : 0 < a) (h : isA σ a .long n) : (eW b base cA σ)[a - 1]? = some (eAd b base a, .inl (cA .long, n, .inr (.inl (sL σ a)))) := by
  rw [eW_at h0 h.1]
  unfold eCell
  rw [h.2]
theorem eW_ref {b base : Nat} {cA : FieldType → ClassId} {σ : eS} {a n : Nat} {C : String} (h0 : 0 < a) (h : isA σ a (.object C) n) : (eW b base cA σ)[a - 1]? = some (eAd b base a, .inl (cA (.object C), n, .inr (.inr (.inr (.inr (fun i => if sR σ a i = 0 then none else some (eAd b base (sR σ a i)))))))) := by
  rw [eW_at h0 h.1]
  unfold eCell
  rw [h.2]
theorem eTs_at {cA : FieldType → ClassId} {ty : FieldType} (h : ty ∈ eTys) : ∃ t0 : Nat, (eTs cA)[t0]? = some (cA ty, ty) := by
  obtain ⟨t0, h0⟩ := List.getElem?_of_mem h
  exact ⟨t0, by unfold eTs; rw [List.getElem?_map, h0]; rfl⟩
theorem map_range_at {α : Type} (f : Nat → α) {n k : Nat} (h : k < n) : ((List.range n).map f)[k]? = some (f k) := by
  rw [List.getElem?_map, List.getElem?_range h]; rfl
theorem map_range_set {α : Type} {f g : Nat → α} {n k : Nat} {v : α} (h : ∀ i, i < n → g i = if i = k then v else f i) : ((List.range n).map f).set k v = (List.range n).map g := by
  apply List.ext_getElem?
  intro i
  rw [List.getElem?_set]
  by_cases hi : i < n
  · rw [map_range_at g hi, h i hi]
    by_cases hk : k = i
    · rw [if_pos hk, if_pos hk.symm, List.length_map, List.length_range, if_pos (by omega)]
    · rw [if_neg hk, if_neg (fun z => hk z.symm), map_range_at f hi]
  · have e1 : ((List.range n).map g)[i]? = none := by simp; omega
    have e2 : ((List.range n).map f)[i]? = none := by simp; omega
    rw [e1, e2, List.length_map, List.length_range]
    by_cases hk : k = i
    · rw [if_pos hk, if_neg (by omega)]
    · rw [if_neg hk]
/-- the store after a write of one cell, in the heap after it -/
theorem eRep_set {b base L : Nat} {xs : Nat → Int32} {cA : FieldType → ClassId} {D : va_G} {σ σ' : eS} {H H1 : Heap} {a : Nat} (hR : eRep b base L xs cA D σ H) (h0 : 0 < a) (h1 : a < sN σ) (hn : sN σ' = sN σ) (hK : sK σ' = sK σ)
    (ho : ∀ a', a' ≠ a → sI σ' a' = sI σ a' ∧ sL σ' a' = sL σ a' ∧ sR σ' a' = sR σ a') {x : va_E} (hx : eCell b base cA σ' a = x)
    (hP : va_P D eCl ((eW b base cA σ).set (a - 1) (eAd b base a, x)) H1) : eRep b base L xs cA D σ' H1 := by
  obtain ⟨-, r2, r3, r4, r5, r6⟩ := hR
  refine ⟨?_, by rw [hn]; exact r2, fun a' q1 q2 => by rw [hK]; exact r3 a' q1 (by rw [← hn]; exact q2), r4, by rw [hK]; exact r5, fun j => by rw [(ho 0 (by omega)).1]; exact r6 j⟩
  rw [eW_set h0 h1 hn (fun a' ha => eCell_eq (by rw [hK]) (ho a' ha).1 (ho a' ha).2.1 (ho a' ha).2.2) hx] at hP
  exact hP
section
variable {μ pc : Nat} {ls : eLs} {st : List Value} {σ : eS} {o : eO} {σo : eS} {r : List Value}
theorem m_getfield {a f i : Nat} {v : Value} (hd : decode (eB μ) pc = .ok (.getfield i, 3)) (hl : lkF (eC μ) i f = true) (ho : isO σ a (f / 64)) (hv : ∀ b base, eFl b base σ a (f / 64) (f % 64) = eVl b base v) (h : eMP μ (pc + 3) ls (v :: r) σ o σo) : eMP μ pc ls (.ref a :: r) σ o σo := by
  obtain ⟨q1, q2, q3⟩ := lkF_spec hl
  refine eStep _ _ _ h fun l b base L xs cA D p e R s m args below meth c H locs cells slots Q la hf hs hr hR hS hla hc hz k => ?_
  have he := eW_obj (b := b) (base := base) (cA := cA) ho
  have hvv := (map_range_at (fun i => eFl b base σ a (f / 64) i) q2).trans (congrArg some (hv b base))
  rcases q3 with q3 | q3
  · exact va_getN hf.1 hf.2.1 hf.2.2.2.2.2.1 (eU_in q1) hf.2.2.2.2.1 hs.1 hR.1 (a - 1) he (eCl_at q1) (f % 64) q2 (va_Nw.use rfl (hs.2.2.2.2.2.2.1 _ q3 rfl)) (fun _ h9 => h9) hvv hd (k la hla)
  · exact va_get hf.1 hf.2.1 hf.2.2.2.2.2.1 (eU_in q1) hf.2.2.2.2.1 hs.1 hR.1 (a - 1) he (eCl_at q1) (f % 64) q2 (hf.2.2.2.2.2.1 _ (List.mem_filter.mpr ⟨q3, rfl⟩)) (fun _ h9 => h9) hvv hd (k la hla)
/-- a field is written: σ' is the store behind it -/
theorem m_putfield {a f i : Nat} {v : Value} {σ' : eS} (hd : decode (eB μ) pc = .ok (.putfield i, 3)) (hl : lkG μ i f = true) (ho : isO σ a (f / 64)) (hn : sN σ' = sN σ ∧ sH σ' = sH σ ∧ sZ σ' = sZ σ) (hK : sK σ' = sK σ)
    (hoth : ∀ a', a' ≠ a → sI σ' a' = sI σ a' ∧ sL σ' a' = sL σ a' ∧ sR σ' a' = sR σ a')
    (hv : ∀ b base i, i < eNF (f / 64) → eFl b base σ' a (f / 64) i = if i = f % 64 then eVl b base v else eFl b base σ a (f / 64) i)
    (hfit : ∀ b base, narrow (eTy (f / 64) (f % 64)) (eVl b base v) = eVl b base v ∧ fits (eTy (f / 64) (f % 64)) (eVl b base v) = true)
    (h : eMP μ (pc + 3) ls r σ' o σo) : eMP μ pc ls (v :: .ref a :: r) σ o σo := by
  obtain ⟨q1, q2, q3⟩ := lkG_spec hl
  refine eStepW _ _ hn h fun l b base L xs cA D p e R s m args below meth c H locs cells slots Q la hf hs hr hR hS hla k => ?_
  have he := eW_obj (b := b) (base := base) (cA := cA) ho
  have hlen : f % 64 < ((List.range (eNF (f / 64))).map (fun i => eFl b base σ a (f / 64) i)).length := by rw [List.length_map, List.length_range]; exact q2
  have kk : ∀ (H1 : Heap) (locs1 : List Loc), va_P D eCl ((eW b base cA σ).set (a - 1) (eAd b base a, .inr (f / 64, ((List.range (eNF (f / 64))).map (fun i => eFl b base σ a (f / 64) i)).set (f % 64) (eVl b base v)))) H1 →
      va_D (eA base) ((eW b base cA σ).set (a - 1) (eAd b base a, .inr (f / 64, ((List.range (eNF (f / 64))).map (fun i => eFl b base σ a (f / 64) i)).set (f % 64) (eVl b base v)))) → va_S (eA base) s.heap H1 locs1 →
      W p l e R s m args below meth c H1 locs1 cells slots Q (F0 m (pc + 3) la (r.map (eVl b base))) := by
    intro H1 locs1 hP1 _ hS1
    refine k H1 locs1 (eRep_set hR ho.1 ho.2.1 hn.1 hK hoth ?_ hP1) hS1
    unfold eCell
    rw [hK, ho.2.2]
    dsimp only
    rw [map_range_set (hv b base)]
  rcases q3 with ⟨g1, q3⟩ | ⟨g1, q3⟩ | ⟨g1, g2, g3, q3⟩
  · exact va_putN hf.1 hf.2.1 hf.2.2.2.2.2.1 (eU_in q1) (eTy (f / 64)) (eTy_ok q1) (eNm_ok q1) hf.2.2.2.2.1 hs.1 hR.1 eW_D hS (a - 1) he (eCl_at q1) (f % 64) q2 (va_Nw.use rfl (hs.2.2.2.2.2.2.1 _ q3 rfl)) (fun _ h9 => h9) g1 (eTy_ok q1 _ q2) (hfit b base).1 (hfit b base).2 hlen hd kk
  · exact va_put hf.1 hf.2.1 hf.2.2.2.2.2.1 (eU_in q1) (eTy (f / 64)) (eTy_ok q1) (eNm_ok q1) hf.2.2.2.2.1 hs.1 hR.1 eW_D hS (a - 1) he (eCl_at q1) (f % 64) q2 (hf.2.2.2.2.2.1 _ (List.mem_filter.mpr ⟨q3, rfl⟩)) (fun _ h9 => h9) g1 (eTy_ok q1 _ q2) (hfit b base).1 (hfit b base).2 hlen hd kk
  · exact va_putF hf.1 hf.2.1 hf.2.2.2.2.2.1 (eU_in q1) (eTy (f / 64)) (eTy_ok q1) (eNm_ok q1) hf.2.2.2.2.1 hs.1 hR.1 eW_D hS (a - 1) he (eCl_at q1) (f % 64) q2 (hf.2.2.2.2.2.1 _ (List.mem_filter.mpr ⟨q3, rfl⟩)) (fun _ h9 => h9) g1 (hf.2.2.2.2.2.2.2.2.2 g2) g3 (eTy_ok q1 _ q2) (hfit b base).1 (hfit b base).2 hlen hd kk
theorem m_getR {a f i : Nat} (hd : decode (eB μ) pc = .ok (.getfield i, 3)) (hl : lkF (eC μ) i f = true) (ho : isO σ a (f / 64)) (hr : eRf (f / 64) (f % 64) = true) (h0 : ¬ sR σ a (f % 64) = 0) (h : eMP μ (pc + 3) ls (.ref (sR σ a (f % 64)) :: r) σ o σo) : eMP μ pc ls (.ref a :: r) σ o σo :=
  m_getfield hd hl ho (fun b base => by unfold eFl; rw [if_pos hr, if_neg h0]; rfl) h
theorem m_getI {a f i : Nat} (hd : decode (eB μ) pc = .ok (.getfield i, 3)) (hl : lkF (eC μ) i f = true) (ho : isO σ a (f / 64)) (hr : eRf (f / 64) (f % 64) = false) (h : eMP μ (pc + 3) ls (.int (sI σ a (f % 64)) :: r) σ o σo) : eMP μ pc ls (.ref a :: r) σ o σo :=
  m_getfield hd hl ho (fun b base => by unfold eFl; rw [if_neg (by rw [hr]; decide)]; rfl) h
theorem u2_o {α : Type} {f : Nat → Nat → α} {a i a' : Nat} {x : α} (h : a' ≠ a) : u2 f a i x a' = f a' := by funext j; unfold u2; rw [if_neg h]
theorem u1_o {α : Type} {f : Nat → Nat → α} {a a' : Nat} {g : Nat → α} (h : a' ≠ a) : u1 f a g a' = f a' := by funext j; unfold u1; rw [if_neg h]
theorem u2_s {α : Type} {f : Nat → Nat → α} {a i j : Nat} {x : α} : u2 f a i x a j = if j = i then x else f a j := by unfold u2; rw [if_pos rfl]
theorem m_putI {a f i : Nat} {x : Int32} (hd : decode (eB μ) pc = .ok (.putfield i, 3)) (hl : lkG μ i f = true) (ho : isO σ a (f / 64)) (hr : eRf (f / 64) (f % 64) = false) (hx : okI (eTy (f / 64) (f % 64)) x) (h : eMP μ (pc + 3) ls r (setI σ a (f % 64) x) o σo) : eMP μ pc ls (.int x :: .ref a :: r) σ o σo := by
  refine m_putfield (σ' := setI σ a (f % 64) x) hd hl ho ⟨rfl, rfl, rfl⟩ rfl (fun a' ha => ⟨u2_o ha, rfl, rfl⟩) (fun b base j _ => ?_) (fun b base => hx) h
  unfold eFl
  show (if eRf (f / 64) j = true then _ else Value.int (u2 (sI σ) a (f % 64) x a j)) = _
  rw [u2_s]
  by_cases hj : j = f % 64
  · rw [if_pos hj, if_pos hj, hj, if_neg (by rw [hr]; decide)]; rfl
  · rw [if_neg hj, if_neg hj]
theorem m_putR {a f i b9 : Nat} (hd : decode (eB μ) pc = .ok (.putfield i, 3)) (hl : lkG μ i f = true) (ho : isO σ a (f / 64)) (hr : eRf (f / 64) (f % 64) = true) (hx : 0 < b9) (h : eMP μ (pc + 3) ls r (setR σ a (f % 64) b9) o σo) : eMP μ pc ls (.ref b9 :: .ref a :: r) σ o σo := by
  refine m_putfield (σ' := setR σ a (f % 64) b9) hd hl ho ⟨rfl, rfl, rfl⟩ rfl (fun a' ha => ⟨rfl, rfl, u2_o ha⟩) (fun b base j _ => ?_) (fun b base => ?_) h
  · unfold eFl
    show (if eRf (f / 64) j = true then (if u2 (sR σ) a (f % 64) b9 a j = 0 then Value.null else .ref (eAd b base (u2 (sR σ) a (f % 64) b9 a j))) else _) = _
    rw [u2_s]
    by_cases hj : j = f % 64
    · rw [if_pos hj, if_pos hj, hj, if_pos hr, if_neg (by omega)]; rfl
    · rw [if_neg hj, if_neg hj]
  · unfold eRf at hr
    cases hT : eTy (f / 64) (f % 64) <;> rw [hT] at hr <;> first | exact ⟨rfl, rfl⟩ | cases hr
end
