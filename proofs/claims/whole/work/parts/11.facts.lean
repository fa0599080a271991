/-! More that stands among the tables' words. -/
def eIp : List (Nat × Nat) := [(31, 2), (54, 3), (100, 5), (227, 8), (184, 7), (80, 4), (262, 9), (107, 6), (23, 1), (963, 10)]
theorem eI_ok : ((List.range 10).all fun c => eAt ((eIp[c]?).getD (0, 0)).1 (.instantiable (eCN c) (eNF c)) && eAt ((eIp[c]?).getD (0, 0)).2 (.initialized (eCN c))) = true := by decide +kernel
theorem eAC_int : Cond.arrayClass .int ∈ gTb := List.mem_filter.mpr ⟨eAt_mem (i := 77) (by decide +kernel), rfl⟩
theorem eAC_long : Cond.arrayClass .long ∈ gTb := List.mem_filter.mpr ⟨eAt_mem (i := 78) (by decide +kernel), rfl⟩
theorem eAC_byte : Cond.arrayClass .byte ∈ gTb := List.mem_filter.mpr ⟨eAt_mem (i := 431) (by decide +kernel), rfl⟩
theorem eAC_boolean : Cond.arrayClass .boolean ∈ gTb := List.mem_filter.mpr ⟨eAt_mem (i := 1122) (by decide +kernel), rfl⟩
theorem eSys_nat : Cond.native arraycopyName ∈ gTb := List.mem_filter.mpr ⟨eAt_mem (i := 792) (by decide +kernel), rfl⟩
theorem eSys_st : Cond.static arraycopyName ∈ gTb := List.mem_filter.mpr ⟨eAt_mem (i := 791) (by decide +kernel), rfl⟩
theorem eSys_in : Cond.initialized "java/lang/System" ∈ gTb := List.mem_filter.mpr ⟨eAt_mem (i := 21) (by decide +kernel), rfl⟩
theorem eMath_in : Cond.initialized "java/lang/Math" ∈ gTb := List.mem_filter.mpr ⟨eAt_mem (i := 18) (by decide +kernel), rfl⟩
theorem eMath_max_st : Cond.static Lib.Math.max.name ∈ gTb := List.mem_filter.mpr ⟨eAt_mem (i := 558) (by decide +kernel), rfl⟩
theorem eMath_max_co : Cond.code Lib.Math.max.name Lib.Math.max.code 2 (some .int) ∈ gTb := List.mem_filter.mpr ⟨eAt_mem (i := 559) (by decide +kernel), rfl⟩
theorem eMath_min_st : Cond.static Lib.Math.min.name ∈ gTb := List.mem_filter.mpr ⟨eAt_mem (i := 555) (by decide +kernel), rfl⟩
theorem eMath_min_co : Cond.code Lib.Math.min.name Lib.Math.min.code 2 (some .int) ∈ gTb := List.mem_filter.mpr ⟨eAt_mem (i := 556) (by decide +kernel), rfl⟩
theorem eObj_in : Cond.instanceMethod objectInit ∈ gTb := List.mem_filter.mpr ⟨eAt_mem (i := 28) (by decide +kernel), rfl⟩
theorem eObj_co : Cond.code objectInit ⟨#[0xb1]⟩ 1 none ∈ gTb := List.mem_filter.mpr ⟨eAt_mem (i := 29) (by decide +kernel), rfl⟩
theorem eEI_0 : Cond.initialized (eEN 0) ∈ gTb := List.mem_filter.mpr ⟨eAt_mem (i := 14) (by decide +kernel), rfl⟩
theorem eEI_1 : Cond.initialized (eEN 1) ∈ gTb := List.mem_filter.mpr ⟨eAt_mem (i := 15) (by decide +kernel), rfl⟩
theorem eEI_2 : Cond.initialized (eEN 2) ∈ gTb := List.mem_filter.mpr ⟨eAt_mem (i := 16) (by decide +kernel), rfl⟩
theorem eEI_3 : Cond.initialized (eEN 3) ∈ gTb := List.mem_filter.mpr ⟨eAt_mem (i := 20) (by decide +kernel), rfl⟩
abbrev eNms : List String := ["java/lang/RuntimeException", "java/lang/Exception"]
theorem eEx_0 : ∀ w ∈ vx_atS RX8 62 (eEN 0) eNms, w ∈ lw_tbl ∧ (goodWord w = true ∨ eNg w = true) := by decide +kernel
theorem eCs_0 : Cond.castable (eEN 0) (eEN 0) ∈ lw_tbl := eAt_mem (i := 365) (by decide +kernel)
theorem eEx_1 : ∀ w ∈ vx_atS RX8 73 (eEN 1) eNms, w ∈ lw_tbl ∧ (goodWord w = true ∨ eNg w = true) := by decide +kernel
theorem eCs_1 : Cond.castable (eEN 1) (eEN 1) ∈ lw_tbl := eAt_mem (i := 434) (by decide +kernel)
theorem eEx_2 : ∀ w ∈ vx_atS RX8 371 (eEN 2) eNms, w ∈ lw_tbl ∧ (goodWord w = true ∨ eNg w = true) := by decide +kernel
theorem eCs_2 : Cond.castable (eEN 2) (eEN 2) ∈ lw_tbl := eAt_mem (i := 467) (by decide +kernel)
theorem eCs_3 : Cond.castable (eEN 3) (eEN 3) ∈ lw_tbl := eAt_mem (i := 676) (by decide +kernel)
theorem eLI_e : (eLI.all fun t => decide (t.2.1 = match t.2.2.1 with | 0 => 62 | 1 => 73 | 2 => 371 | _ => 193) && decide (t.1 = 8)) = true := by decide +kernel
theorem eLn : ((List.range 175).all fun q => decide (eL q ≤ 21)) = true := by decide +kernel
theorem eEI {e : Nat} (h : e < 4) : Cond.initialized (eEN e) ∈ gTb := by
  match e, h with
  | 0, _ => exact eEI_0 | 1, _ => exact eEI_1 | 2, _ => exact eEI_2 | 3, _ => exact eEI_3
theorem eCs {e : Nat} (h : e < 4) : Cond.castable (eEN e) (eEN e) ∈ lw_tbl := by
  match e, h with
  | 0, _ => exact eCs_0 | 1, _ => exact eCs_1 | 2, _ => exact eCs_2 | 3, _ => exact eCs_3
theorem eFit {e : Nat} (h : e < 4) : Bundle.fit (eEN e) = true := by
  match e, h with
  | 0, _ => decide +kernel | 1, _ => decide +kernel | 2, _ => decide +kernel | 3, _ => decide +kernel
theorem eEx {ic e : Nat} (h : lkI 8 ic e = true) (he : e < 3) : ∀ w ∈ vx_atS RX8 ic (eEN e) eNms, w ∈ lw_tbl ∧ (goodWord w = true ∨ eNg w = true) := by
  obtain ⟨t, ht, h1⟩ := List.any_eq_true.mp h
  simp only [Bool.and_eq_true, beq_iff_eq] at h1
  obtain ⟨⟨-, h1⟩, h2⟩ := h1
  have h3 := List.all_eq_true.mp eLI_e t ht
  simp only [Bool.and_eq_true, decide_eq_true_eq] at h3
  rw [h1, h2] at h3
  obtain ⟨h3, -⟩ := h3
  match e, he with
  | 0, _ => rw [h3]; exact eEx_0
  | 1, _ => rw [h3]; exact eEx_1
  | 2, _ => rw [h3]; exact eEx_2
theorem eInst {c : Nat} (h : c < 10) : Cond.instantiable (eCN c) (eNF c) ∈ gTb ∧ Cond.initialized (eCN c) ∈ gTb := by
  have h1 := List.all_eq_true.mp eI_ok c (List.mem_range.mpr h)
  simp only [Bool.and_eq_true] at h1
  exact ⟨List.mem_filter.mpr ⟨eAt_mem h1.1, rfl⟩, List.mem_filter.mpr ⟨eAt_mem h1.2, rfl⟩⟩
theorem eDef_ok : ((List.range 10).all fun c => (List.range (eNF c)).all fun k => decide (defaultValue (eTy c k) = if eRf c k = true then .null else .int 0)) = true := by decide +kernel
theorem eDef {c k : Nat} (h : c < 10) (hk : k < eNF c) : defaultValue (eTy c k) = if eRf c k = true then .null else .int 0 :=
  of_decide_eq_true (List.all_eq_true.mp (List.all_eq_true.mp eDef_ok c (List.mem_range.mpr h)) k (List.mem_range.mpr hk))
theorem eNg_tab {w : Cond} (h : eNg w = true) : w.onTables = true := by
  cases w <;> simp only [eNg] at h <;> first | rfl | cases h
theorem lk_any {α : Type} {l : List α} {f g : α → Bool} (hf : l.any f = true) (hg : l.all g = true) : ∃ t ∈ l, f t = true ∧ g t = true := by
  obtain ⟨t, ht, h1⟩ := List.any_eq_true.mp hf
  exact ⟨t, ht, h1, List.all_eq_true.mp hg t ht⟩
theorem lkN_spec {own i c : Nat} (h : lkN own i c = true) : c < 10 ∧ Cond.classLink (eCN own) i (eCN c) ∈ gTb := by
  obtain ⟨t, -, h1, h2⟩ := lk_any h eLN_ok
  simp only [Bool.and_eq_true, beq_iff_eq, decide_eq_true_eq] at h1 h2
  obtain ⟨⟨e1, e2⟩, e3⟩ := h1
  rw [e1, e2, e3] at h2
  exact ⟨h2.2, List.mem_filter.mpr ⟨eAt_mem h2.1, rfl⟩⟩
theorem lkE_spec {own i e : Nat} (h : lkE own i e = true) : Cond.classLink (eCN own) i (eEN e) ∈ gTb := by
  obtain ⟨t, -, h1, h2⟩ := lk_any h eLE_ok
  simp only [Bool.and_eq_true, beq_iff_eq] at h1
  obtain ⟨⟨e1, e2⟩, e3⟩ := h1
  rw [e1, e2, e3] at h2
  exact List.mem_filter.mpr ⟨eAt_mem h2, rfl⟩
theorem lkC_spec {own i : Nat} {v : Int} (h : lkC own i v = true) : Cond.constant (eCN own) i (Int32.ofInt v) ∈ gTb := by
  obtain ⟨t, -, h1, h2⟩ := lk_any h eLC_ok
  simp only [Bool.and_eq_true, beq_iff_eq] at h1
  obtain ⟨⟨e1, e2⟩, e3⟩ := h1
  rw [e1, e2, e3] at h2
  exact List.mem_filter.mpr ⟨eAt_mem h2, rfl⟩
theorem lkL_spec {own i v : Nat} (h : lkL own i v = true) : Cond.constantLong (eCN own) i (Int64.ofNat v) ∈ gTb := by
  obtain ⟨t, -, h1, h2⟩ := lk_any h eLL_ok
  simp only [Bool.and_eq_true, beq_iff_eq] at h1
  obtain ⟨⟨e1, e2⟩, e3⟩ := h1
  rw [e1, e2, e3] at h2
  exact List.mem_filter.mpr ⟨eAt_mem h2, rfl⟩
theorem lkO_spec {own i : Nat} (h : lkO own i = true) : Cond.methodLink (eCN own) i objectInit ∈ gTb := by
  obtain ⟨t, -, h1, h2⟩ := lk_any h eLO_ok
  simp only [Bool.and_eq_true, beq_iff_eq] at h1
  obtain ⟨e1, e2⟩ := h1
  rw [e1, e2] at h2
  exact List.mem_filter.mpr ⟨eAt_mem h2, rfl⟩
theorem lkP_spec {own i : Nat} (h : lkP own i = true) : Cond.methodLink (eCN own) i arraycopyName ∈ gTb := by
  obtain ⟨t, -, h1, h2⟩ := lk_any h eLP_ok
  simp only [Bool.and_eq_true, beq_iff_eq] at h1
  obtain ⟨e1, e2⟩ := h1
  rw [e1, e2] at h2
  exact List.mem_filter.mpr ⟨eAt_mem h2, rfl⟩
theorem lkX_spec {own i e : Nat} (h : lkX own i e = true) : Cond.methodLink (eCN own) i (if e = 1 then Lib.Math.max.name else Lib.Math.min.name) ∈ gTb := by
  obtain ⟨t, -, h1, h2⟩ := lk_any h eLX_ok
  simp only [Bool.and_eq_true, beq_iff_eq] at h1
  obtain ⟨⟨e1, e2⟩, e3⟩ := h1
  rw [e1, e2, e3] at h2
  exact List.mem_filter.mpr ⟨eAt_mem h2, rfl⟩
theorem lkS_spec {i : Nat} (h : lkS i = true) : ∃ tx, (i, tx) ∈ eLS.map (fun t => (t.1, t.2.1)) := by
  obtain ⟨t, ht, h1⟩ := List.any_eq_true.mp h
  simp only [beq_iff_eq] at h1
  exact ⟨t.2.1, List.mem_map.mpr ⟨t, ht, by rw [h1]⟩⟩
theorem lkM_spec {own i q : Nat} (h : lkM own i q = true) : Cond.methodLinkNest (eCN own) i (eY q) "EventVault" ∈ lw_tbl ∨ Cond.methodLink (eCN own) i (eY q) ∈ gTb := by
  obtain ⟨t, -, h1, h2⟩ := lk_any h eLM_ok
  simp only [Bool.and_eq_true, beq_iff_eq, decide_eq_true_eq] at h1 h2
  obtain ⟨⟨e1, e2⟩, e3⟩ := h1
  have h3 := eAt_mem h2.1
  unfold eMw at h3
  rw [e1, e2, e3] at h3
  split at h3
  · exact Or.inl h3
  · exact Or.inr (List.mem_filter.mpr ⟨h3, rfl⟩)
