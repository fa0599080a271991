/-! What 'Run' says of the machine: 'eMP'; one step of it, by kinds. -/
abbrev eLm (b base : Nat) (ls : eLs) : List (Nat × Value) := ls.map (fun q => (q.1, eVl b base q.2))
def eFr (μ : Nat) (p : Program) (s : State) (m : MethodId) (args : Array Value) (meth : Method) (c : Code) : Prop :=
  p.tables.exec = Jvm.exec ∧ c.code = eB μ ∧ meth.sig.returnType = eRt μ ∧ c.maxLocals = eL μ ∧ s.vm.findClass (eCN (eC μ)) = some m.cls ∧ (∀ w ∈ gTb, w.before args s = true) ∧ meth.locks = false ∧
  (eKd μ = 3 → c.exceptionTable.toList = tableOf (eHL μ)) ∧ (¬ eKd μ = 3 → ¬ eKd μ = 4 → ∀ x ∈ c.exceptionTable.toList, False) ∧ (eKd μ = 2 → meth.name = "<init>")
abbrev eRm (μ : Nat) (R : Room) : Prop := eDp μ ≤ R.frames ∧ 40 * eDp μ + 100 ≤ R.locals
def eQc (b base L : Nat) (xs : Nat → Int32) (cA : FieldType → ClassId) (D : va_G) (o : eO) (σo : eS) : Array Value → State → Outcome → State → Prop := fun _ st oc t => match o with
  | .inl v => oc = .returned (v.map (eVl b base)) ∧ eRep b base L xs cA D σo t.heap ∧ va_F (eA base) st t
  | .inr _ => False
def eXC (b base L : Nat) (xs : Nat → Int32) (cA : FieldType → ClassId) (D : va_G) (o : eO) (σo : eS) : String → State → State → Prop := fun E st t => match o with
  | .inl _ => False
  | .inr e => e < 4 ∧ E = eEN e ∧ eRep b base L xs cA D σo t.heap ∧ va_F (eA base) st t
def eGo (μ pc : Nat) (ls : eLs) (st : List Value) (σ : eS) (o : eO) (σo : eS) : Prop :=
  ∀ (l : Launch) (b base L : Nat) (xs : Nat → Int32) (cA : FieldType → ClassId) (D : va_G) (p : Program) (e : Env) (R : Room) (s : State) (m : MethodId) (args : Array Value) (below : List Frame) (meth : Method) (c : Code) (mc ms : Nat),
   l.stackTraces = false → eFr μ p s m args meth c → eSt b base L xs cA D s → eRm μ R → mc ≤ R.cells → ms ≤ R.slots →
   ∀ (H : Heap) (locs : List Loc) (cells slots : Nat) (la : Array Slot), eRep b base L xs cA D σ H → va_S (eA base) s.heap H locs → lv_has la (eL μ) (eLm b base ls) →
    s.heap.size + cells ≤ base + (sN σ - 1) + sH σ → cells + (sN σo + sH σo - (sN σ + sH σ)) ≤ mc → slots + (sZ σo - sZ σ) ≤ ms →
    W p l e R s m args below meth c H locs cells slots (vx_MQ below (eQc b base L xs cA D o σo) (eXC b base L xs cA D o σo) args s mc ms (eA base)) (F0 m pc la (st.map (eVl b base)))
def eMP : eP := fun μ pc ls st σ o σo => (sN σ ≤ sN σo ∧ sH σ ≤ sH σo ∧ sZ σ ≤ sZ σo) ∧ eGo μ pc ls st σ o σo
/-- a step that leaves the store as it is -/
theorem eStep {μ pc : Nat} (pc' : Nat) {ls : eLs} (ls' : eLs) {st : List Value} (st' : List Value) {σ : eS} {o : eO} {σo : eS} (h : eMP μ pc' ls' st' σ o σo)
    (row : ∀ (l : Launch) (b base L : Nat) (xs : Nat → Int32) (cA : FieldType → ClassId) (D : va_G) (p : Program) (e : Env) (R : Room) (s : State) (m : MethodId) (args : Array Value) (below : List Frame) (meth : Method) (c : Code) (H : Heap) (locs : List Loc) (cells slots : Nat) (Q : State → Prop) (la : Array Slot),
      eFr μ p s m args meth c → eSt b base L xs cA D s → eRm μ R → eRep b base L xs cA D σ H → va_S (eA base) s.heap H locs → lv_has la (eL μ) (eLm b base ls) → cells ≤ R.cells → slots ≤ R.slots →
      (∀ la', lv_has la' (eL μ) (eLm b base ls') → W p l e R s m args below meth c H locs cells slots Q (F0 m pc' la' (st'.map (eVl b base)))) →
      W p l e R s m args below meth c H locs cells slots Q (F0 m pc la (st.map (eVl b base)))) : eMP μ pc ls st σ o σo := by
  refine ⟨h.1, ?_⟩
  intro l b base L xs cA D p e R s m args below meth c mc ms hl hf hs hr hmc hms H locs cells slots la hR hS hla hsz hc hz
  exact row l b base L xs cA D p e R s m args below meth c H locs cells slots _ la hf hs hr hR hS hla (by omega) (by omega) (fun la' hla' => h.2 l b base L xs cA D p e R s m args below meth c mc ms hl hf hs hr hmc hms H locs cells slots la' hR hS hla' hsz hc hz)
/-- a step that writes cells -/
theorem eStepW {μ pc : Nat} (pc' : Nat) {ls : eLs} {st : List Value} (st' : List Value) {σ σ' : eS} {o : eO} {σo : eS} (hn : sN σ' = sN σ ∧ sH σ' = sH σ ∧ sZ σ' = sZ σ) (h : eMP μ pc' ls st' σ' o σo)
    (row : ∀ (l : Launch) (b base L : Nat) (xs : Nat → Int32) (cA : FieldType → ClassId) (D : va_G) (p : Program) (e : Env) (R : Room) (s : State) (m : MethodId) (args : Array Value) (below : List Frame) (meth : Method) (c : Code) (H : Heap) (locs : List Loc) (cells slots : Nat) (Q : State → Prop) (la : Array Slot),
      eFr μ p s m args meth c → eSt b base L xs cA D s → eRm μ R → eRep b base L xs cA D σ H → va_S (eA base) s.heap H locs → lv_has la (eL μ) (eLm b base ls) →
      (∀ (H1 : Heap) (locs1 : List Loc), eRep b base L xs cA D σ' H1 → va_S (eA base) s.heap H1 locs1 → W p l e R s m args below meth c H1 locs1 cells slots Q (F0 m pc' la (st'.map (eVl b base)))) →
      W p l e R s m args below meth c H locs cells slots Q (F0 m pc la (st.map (eVl b base)))) : eMP μ pc ls st σ o σo := by
  obtain ⟨n1, n2, n3⟩ := hn
  refine ⟨by rw [← n1, ← n2, ← n3]; exact h.1, ?_⟩
  intro l b base L xs cA D p e R s m args below meth c mc ms hl hf hs hr hmc hms H locs cells slots la hR hS hla hsz hc hz
  exact row l b base L xs cA D p e R s m args below meth c H locs cells slots _ la hf hs hr hR hS hla (fun H1 locs1 hR1 hS1 => h.2 l b base L xs cA D p e R s m args below meth c mc ms hl hf hs hr hmc hms H1 locs1 cells slots la hR1 hS1 hla (by rw [n1, n2]; exact hsz) (by rw [n1, n2]; exact hc) (by rw [n3]; exact hz))
theorem lk_at {ls : eLs} {i : Nat} {v : Value} (h : lk ls i = some v) : (i, v) ∈ ls := by
  induction ls with
  | nil => cases h
  | cons q r ih =>
    unfold lk at h
    by_cases hq : q.1 = i
    · rw [if_pos hq] at h
      cases h
      rw [← hq]
      exact List.mem_cons_self
    · rw [if_neg hq] at h
      exact List.mem_cons_of_mem _ (ih h)
theorem eLm_at {b base n : Nat} {la : Array Slot} {ls : eLs} {i : Nat} {v : Value} (h : lv_has la n (eLm b base ls)) (hk : lk ls i = some v) : la[i]? = some (.val (eVl b base v)) :=
  h.2.2 (i, eVl b base v) (List.mem_map.mpr ⟨(i, v), lk_at hk, rfl⟩)
theorem eLm_fl1 {b base : Nat} {ls : eLs} {i : Nat} : (eLm b base ls).filter (fun q => !(q.1 == i) && !(q.1 + 1 == i && q.2.category == 2)) = eLm b base (fl1 ls i) := by
  unfold eLm fl1
  rw [List.filter_map]
  congr 1
  apply List.filter_congr
  intro q _
  simp only [Function.comp, eVl_cat]
theorem eLm_fl2 {b base : Nat} {ls : eLs} {i : Nat} : (eLm b base ls).filter (fun q => !(q.1 == i) && (!(q.1 == i + 1) && !(q.1 + 1 == i && q.2.category == 2))) = eLm b base (fl2 ls i) := by
  unfold eLm fl2
  rw [List.filter_map]
  congr 1
  apply List.filter_congr
  intro q _
  simp only [Function.comp, eVl_cat]
theorem jmp_eq {pc : Nat} {off : Int} (h : okj pc off = true) : (pc : Int) + off = (jmp pc off : Int) := by
  have h1 : 0 ≤ (pc : Int) + off := of_decide_eq_true h
  unfold jmp
  omega
section
variable {μ pc : Nat} {ls : eLs} {st : List Value} {σ : eS} {o : eO} {σo : eS} {r : List Value}
theorem m_aload {i : Nat} {a : Nat} (hd : decode (eB μ) pc = .ok (.aload i, 2)) (hk : lk ls i = some (.ref a)) (h : eMP μ (pc + 2) ls (.ref a :: st) σ o σo) : eMP μ pc ls st σ o σo :=
  eStep _ _ _ h fun l b base L xs cA D p e R s m args below meth c H locs cells slots Q la hf hs hr hR hS hla hc hz k => lv_aload hf.1 hf.2.1 hd (eLm_at hla hk) (k la hla)
theorem m_aload_n {i : Fin 4} {a : Nat} (hd : decode (eB μ) pc = .ok (.aload_n i, 1)) (hk : lk ls i = some (.ref a)) (h : eMP μ (pc + 1) ls (.ref a :: st) σ o σo) : eMP μ pc ls st σ o σo :=
  eStep _ _ _ h fun l b base L xs cA D p e R s m args below meth c H locs cells slots Q la hf hs hr hR hS hla hc hz k => lv_aload_n hf.1 hf.2.1 hd rfl (eLm_at hla hk) (k la hla)
theorem m_iload {i : Nat} {x : Int32} (hd : decode (eB μ) pc = .ok (.iload i, 2)) (hk : lk ls i = some (.int x)) (h : eMP μ (pc + 2) ls (.int x :: st) σ o σo) : eMP μ pc ls st σ o σo :=
  eStep _ _ _ h fun l b base L xs cA D p e R s m args below meth c H locs cells slots Q la hf hs hr hR hS hla hc hz k => lv_iload hf.1 hf.2.1 hd (eLm_at hla hk) (k la hla)
theorem m_iload_n {i : Fin 4} {x : Int32} (hd : decode (eB μ) pc = .ok (.iload_n i, 1)) (hk : lk ls i = some (.int x)) (h : eMP μ (pc + 1) ls (.int x :: st) σ o σo) : eMP μ pc ls st σ o σo :=
  eStep _ _ _ h fun l b base L xs cA D p e R s m args below meth c H locs cells slots Q la hf hs hr hR hS hla hc hz k => lv_iload_n hf.1 hf.2.1 hd rfl (eLm_at hla hk) (k la hla)
theorem m_lload {i : Nat} {x : Int64} (hd : decode (eB μ) pc = .ok (.lload i, 2)) (hk : lk ls i = some (.long x)) (h : eMP μ (pc + 2) ls (.long x :: st) σ o σo) : eMP μ pc ls st σ o σo :=
  eStep _ _ _ h fun l b base L xs cA D p e R s m args below meth c H locs cells slots Q la hf hs hr hR hS hla hc hz k => lv_lload hf.1 hf.2.1 hd (eLm_at hla hk) (k la hla)
theorem m_lload_n {i : Fin 4} {x : Int64} (hd : decode (eB μ) pc = .ok (.lload_n i, 1)) (hk : lk ls i = some (.long x)) (h : eMP μ (pc + 1) ls (.long x :: st) σ o σo) : eMP μ pc ls st σ o σo :=
  eStep _ _ _ h fun l b base L xs cA D p e R s m args below meth c H locs cells slots Q la hf hs hr hR hS hla hc hz k => lv_lload_n hf.1 hf.2.1 hd rfl (eLm_at hla hk) (k la hla)
theorem m_istore {i : Nat} {x : Int32} (hd : decode (eB μ) pc = .ok (.istore i, 2)) (hi : i < eL μ) (h : eMP μ (pc + 2) ((i, .int x) :: fl1 ls i) r σ o σo) : eMP μ pc ls (.int x :: r) σ o σo :=
  eStep _ _ _ h fun l b base L xs cA D p e R s m args below meth c H locs cells slots Q la hf hs hr hR hS hla hc hz k => lv_istore hf.1 hf.2.1 hd hla hi (by rw [eLm_fl1]; rfl) (fun la' hla' => k la' hla')
theorem m_istore_n {i : Fin 4} {x : Int32} (hd : decode (eB μ) pc = .ok (.istore_n i, 1)) (hi : (i : Nat) < eL μ) (h : eMP μ (pc + 1) (((i : Nat), .int x) :: fl1 ls i) r σ o σo) : eMP μ pc ls (.int x :: r) σ o σo :=
  eStep _ _ _ h fun l b base L xs cA D p e R s m args below meth c H locs cells slots Q la hf hs hr hR hS hla hc hz k => lv_istore_n hf.1 hf.2.1 hd rfl hla hi (by rw [eLm_fl1]; rfl) (fun la' hla' => k la' hla')
theorem m_astore {i : Nat} {x : Nat} (hd : decode (eB μ) pc = .ok (.astore i, 2)) (hi : i < eL μ) (h : eMP μ (pc + 2) ((i, .ref x) :: fl1 ls i) r σ o σo) : eMP μ pc ls (.ref x :: r) σ o σo :=
  eStep _ _ _ h fun l b base L xs cA D p e R s m args below meth c H locs cells slots Q la hf hs hr hR hS hla hc hz k => lv_astore hf.1 hf.2.1 hd hla hi (by rw [eLm_fl1]; rfl) (fun la' hla' => k la' hla')
theorem m_astore_n {i : Fin 4} {x : Nat} (hd : decode (eB μ) pc = .ok (.astore_n i, 1)) (hi : (i : Nat) < eL μ) (h : eMP μ (pc + 1) (((i : Nat), .ref x) :: fl1 ls i) r σ o σo) : eMP μ pc ls (.ref x :: r) σ o σo :=
  eStep _ _ _ h fun l b base L xs cA D p e R s m args below meth c H locs cells slots Q la hf hs hr hR hS hla hc hz k => lv_astore_n hf.1 hf.2.1 hd rfl hla hi (by rw [eLm_fl1]; rfl) (fun la' hla' => k la' hla')
theorem m_lstore {i : Nat} {x : Int64} (hd : decode (eB μ) pc = .ok (.lstore i, 2)) (hi : i + 1 < eL μ) (h : eMP μ (pc + 2) ((i, .long x) :: fl2 ls i) r σ o σo) : eMP μ pc ls (.long x :: r) σ o σo :=
  eStep _ _ _ h fun l b base L xs cA D p e R s m args below meth c H locs cells slots Q la hf hs hr hR hS hla hc hz k => lv_lstore hf.1 hf.2.1 hd hla hi (by rw [eLm_fl2]; rfl) (fun la' hla' => k la' hla')
theorem m_lstore_n {i : Fin 4} {x : Int64} (hd : decode (eB μ) pc = .ok (.lstore_n i, 1)) (hi : (i : Nat) + 1 < eL μ) (h : eMP μ (pc + 1) (((i : Nat), .long x) :: fl2 ls i) r σ o σo) : eMP μ pc ls (.long x :: r) σ o σo :=
  eStep _ _ _ h fun l b base L xs cA D p e R s m args below meth c H locs cells slots Q la hf hs hr hR hS hla hc hz k => lv_lstore_n hf.1 hf.2.1 hd rfl hla hi (by rw [eLm_fl2]; rfl) (fun la' hla' => k la' hla')
theorem m_iinc {i : Nat} {n : Int} {x : Int32} (hd : decode (eB μ) pc = .ok (.iinc i n, 3)) (hi : i < eL μ) (hk : lk ls i = some (.int x)) (h : eMP μ (pc + 3) ((i, .int (x + Int32.ofInt n)) :: fl1 ls i) st σ o σo) : eMP μ pc ls st σ o σo :=
  eStep _ _ _ h fun l b base L xs cA D p e R s m args below meth c H locs cells slots Q la hf hs hr hR hS hla hc hz k => by
    obtain ⟨k0, hk0⟩ := List.getElem?_of_mem (List.mem_map.mpr ⟨(i, .int x), lk_at hk, rfl⟩ : (i, Value.int x) ∈ eLm b base ls)
    exact lv_iinc hf.1 hf.2.1 hd hla hk0 rfl hi (by rw [eLm_fl1]; rfl) (fun la' hla' => k la' hla')
end
