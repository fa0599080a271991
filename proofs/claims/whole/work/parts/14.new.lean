/-! Throws, what is made, returns: of the machine. -/
theorem eRep_thr {b base L : Nat} {xs : Nat → Int32} {cA : FieldType → ClassId} {D : va_G} {σ : eS} {H H1 : Heap} (hR : eRep b base L xs cA D σ H) (h : ∀ q : Nat, q < H.size → H1[q]? = H[q]?) : eRep b base L xs cA D (thrS σ) H1 := by
  obtain ⟨r1, r2, r3, r4, r5, r6⟩ := hR
  exact ⟨r1.kept (fun k q hq => h q.1 (r1 k q hq).lt), r2, r3, r4, r5, r6⟩
theorem eVk {b base L : Nat} {xs : Nat → Int32} {cA : FieldType → ClassId} {D : va_G} {s : State} (hs : eSt b base L xs cA D s) {i : Nat} (h : lkS i = true) : ∃ tx sa, vk_R RX8 i tx sa s := by
  obtain ⟨t, ht, h1⟩ := List.any_eq_true.mp h
  simp only [beq_iff_eq] at h1
  obtain ⟨sa, h2⟩ := hs.2.2.2.2.2.2.2.2.1 t ht
  exact ⟨t.2.1, sa, h1 ▸ h2⟩
section
variable {μ pc : Nat} {ls : eLs} {st : List Value} {σ : eS} {o : eO} {σo : eS} {r : List Value}
theorem m_throw {e9 len : Nat} (hc : chk1 μ pc (.checkcast e9) len = true) (h8 : stw st ≤ 8) : eMP μ pc ls st σ (.inr e9) (thrS σ) := by
  refine ⟨⟨Nat.le_refl _, Nat.le_succ _, by show sZ σ ≤ sZ σ + 6; omega⟩, ?_⟩
  intro l b base L xs cA D p e R s m args below meth c mc ms hl hf hs hr hmc hms H locs cells slots la hR hS hla hsz hcc hzz
  simp only [chk1, Bool.and_eq_true, decide_eq_true_eq, beq_iff_eq, Bool.not_eq_true', beq_eq_false_iff_ne, ne_eq] at hc
  obtain ⟨⟨⟨⟨⟨c1, c2⟩, c3⟩, c3'⟩, c4⟩, c5⟩ := hc
  obtain ⟨hx, hb, -, hml, hown, hts, hlk, -, hex, -⟩ := hf
  have hex := hex c3 c3'
  rw [c2] at hown
  have h9 := eRoom (b := b) (base := base) h8
  have e1 : cells + 1 ≤ mc := by
    have : cells + (sN σ + (sH σ + 1) - (sN σ + sH σ)) ≤ mc := hcc
    omega
  have e2 : slots + 6 ≤ ms := by
    have : slots + (sZ σ + 6 - sZ σ) ≤ ms := hzz
    omega
  have hxc : ∀ t : State, s.vm.Alike t.vm → H.size ≤ t.heap.size → (∀ q : Nat, q < H.size → t.heap[q]? = H[q]?) → eXC b base L xs cA D (.inr e9) (thrS σ) (eEN e9) s t := fun t _ z k =>
    ⟨c1, rfl, eRep_thr hR k, Nat.le_trans hS.1 z, fun q q1 q2 => (k q (Nat.lt_of_lt_of_le q1 hS.1)).trans (hS.2.1 q q1 q2)⟩
  have r1 := hr.1
  have r2 := hr.2
  have hAll : ∀ (is : Nat), lkS is = true → ∀ (ik ic : Nat), lkE 8 ik e9 = true → lkI 8 ic e9 = true → decode (eB μ) pc = .ok (.new ik, 3) → decode (eB μ) (pc + 3) = .ok (.dup, 1) →
      ((decode (eB μ) (pc + 4) = .ok (.ldc is, 2) ∧ decode (eB μ) (pc + 6) = .ok (.invokespecial ic, 3) ∧ decode (eB μ) (pc + 9) = .ok (.athrow, 1)) ∨
       (decode (eB μ) (pc + 4) = .ok (.ldc_w is, 3) ∧ decode (eB μ) (pc + 7) = .ok (.invokespecial ic, 3) ∧ decode (eB μ) (pc + 10) = .ok (.athrow, 1))) →
      W p l e R s m args below meth c H locs cells slots (vx_MQ below (eQc b base L xs cA D (.inr e9) (thrS σ)) (eXC b base L xs cA D (.inr e9) (thrS σ)) args s mc ms (eA base)) (F0 m pc la (st.map (eVl b base))) := by
    intro is hls ik ic he hi d0 d3 dd
    obtain ⟨tx, sa, hvk⟩ := eVk hs hls
    by_cases h3 : e9 = 3
    · subst h3
      have hic := lkI_3 hi
      subst hic
      have hat : ∀ w ∈ (nsAtoms RX8 193 (eEN 3) 13 ns_rx "java/lang/RuntimeException" ["java/lang/Exception"]).filter vx_no, w.before args s = true := fun w hw => eTb_before hs hts (ns_words w hw)
      have hgood : ∀ w ∈ Cond.classLink RX8 ik (eEN 3) :: Cond.initialized (eEN 3) :: (nsAtoms RX8 193 (eEN 3) 13 ns_rx "java/lang/RuntimeException" ["java/lang/Exception"]).filter vx_no, vx_ot w = true := by
        intro w hw
        rcases List.mem_cons.mp hw with rfl | hw
        · rfl
        · rcases List.mem_cons.mp hw with rfl | hw
          · rfl
          · exact eTb_ot (ns_words w hw)
      rcases dd with ⟨d4, d6, d9⟩ | ⟨d4, d6, d9⟩
      · refine ns_throw (pq := pc + 6) (sa := sa) hx hb hl ns_x0 ns_x1 ns_x2 ns_x5 hown (eFit c1) eNms_fit (hts _ (lkE_spec he)) (hts _ (eEI c1)) hat hgood hs.2.1 hs.2.2.1 hS (by rw [hml]; exact hla.1) d0 d3 (fun R1 s1 T1 l1 k1 n1 hW X st tg h => ?_) d6 d9 (fun x hx => (hex x hx).elim) (by show 2 + 3 < R.frames; omega) (by show _ + (13 * (2 + 1) + 43) ≤ _; omega) (by omega) (by omega) hlk hxc hS.2.2 e1 e2
        have hv1 := vk_R.warm hW hvk
        have ho1 : s1.vm.findClass RX8 = some m.cls := by rw [hW.alike.findClass]; exact hown
        exact X.ldcString hx (own := RX8) (text := tx) (index := is) (a := sa) ho1 hv1.1 hv1.2 (g := { method := m, pc := pc + 4, locals := la, stack := st, locked := none }) rfl (by rw [hb]; exact d4) _ h
      · refine ns_throw (pq := pc + 7) (sa := sa) hx hb hl ns_x0 ns_x1 ns_x2 ns_x5 hown (eFit c1) eNms_fit (hts _ (lkE_spec he)) (hts _ (eEI c1)) hat hgood hs.2.1 hs.2.2.1 hS (by rw [hml]; exact hla.1) d0 d3 (fun R1 s1 T1 l1 k1 n1 hW X st tg h => ?_) d6 d9 (fun x hx => (hex x hx).elim) (by show 2 + 3 < R.frames; omega) (by show _ + (13 * (2 + 1) + 43) ≤ _; omega) (by omega) (by omega) hlk hxc hS.2.2 e1 e2
        have hv1 := vk_R.warm hW hvk
        have ho1 : s1.vm.findClass RX8 = some m.cls := by rw [hW.alike.findClass]; exact hown
        exact X.ldcStringW hx (own := RX8) (text := tx) (index := is) (a := sa) ho1 hv1.1 hv1.2 (g := { method := m, pc := pc + 4, locals := la, stack := st, locked := none }) rfl (by rw [hb]; exact d4) _ h
    · have c9 : e9 < 3 := by omega
      have hat : ∀ w ∈ vx_atS RX8 ic (eEN e9) eNms, w.before args s = true := fun w hw => eTb_before hs hts (eEx hi c9 w hw)
      have hgood : ∀ w ∈ Cond.classLink RX8 ik (eEN e9) :: Cond.initialized (eEN e9) :: vx_atS RX8 ic (eEN e9) eNms, vx_ot w = true := by
        intro w hw
        rcases List.mem_cons.mp hw with rfl | hw
        · rfl
        · rcases List.mem_cons.mp hw with rfl | hw
          · rfl
          · exact eTb_ot (eEx hi c9 w hw)
      rcases dd with ⟨d4, d6, d9⟩ | ⟨d4, d6, d9⟩
      · exact vx_throwS hx hb hl hown (eFit c1) eNms_fit (hts _ (lkE_spec he)) (hts _ (eEI c1)) hvk hat hgood hs.2.1 hs.2.2.1 hS (by rw [hml]; exact hla.1) d0 d3 d4 d6 d9 (fun x hx => (hex x hx).elim) (by show 2 + 3 < R.frames; omega) (by show _ + (13 * (2 + 1) + 43) ≤ _; omega) (by omega) (by omega) hlk hxc hS.2.2 e1 e2
      · exact vx_throwSW hx hb hl hown (eFit c1) eNms_fit (hts _ (lkE_spec he)) (hts _ (eEI c1)) hvk hat hgood hs.2.1 hs.2.2.1 hS (by rw [hml]; exact hla.1) d0 d3 d4 d6 d9 (fun x hx => (hex x hx).elim) (by show 2 + 3 < R.frames; omega) (by show _ + (13 * (2 + 1) + 43) ≤ _; omega) (by omega) (by omega) hlk hxc hS.2.2 e1 e2
  split at c5
  · rename_i ik is d0 d3 d4
    simp only [Bool.and_eq_true] at c5
    obtain ⟨⟨g1, g2⟩, g3⟩ := c5
    split at g3
    · rename_i ic d6 d9
      exact hAll is g2 ik ic g1 g3 d0 d3 (Or.inl ⟨d4, d6, d9⟩)
    · cases g3
  · rename_i ik is d0 d3 d4
    simp only [Bool.and_eq_true] at c5
    obtain ⟨⟨g1, g2⟩, g3⟩ := c5
    split at g3
    · rename_i ic d6 d9
      exact hAll is g2 ik ic g1 g3 d0 d3 (Or.inr ⟨d4, d6, d9⟩)
    · cases g3
  · cases c5
theorem m_ireturn {x : Int32} {ty : FieldType} (hd : decode (eB μ) pc = .ok (.ireturn, 1)) (hr : eRt μ = some ty) (hn : narrow ty (.int x) = .int x) : eMP μ pc ls [.int x] σ (.inl (some (.int x))) σ := by
  refine ⟨⟨Nat.le_refl _, Nat.le_refl _, Nat.le_refl _⟩, ?_⟩
  intro l b base L xs cA D p e R s m args below meth c mc ms hl hf hs hrm hmc hms H locs cells slots la hR hS hla hsz hcc hzz
  refine W.widen (k := mc) (n := ms) (by omega) (by omega) (vx_ret ?_)
  exact W.zret hf.1 hf.2.1 (hf.2.2.1.trans hr) hn (fun t ht hW => ⟨rfl, by rw [ht]; exact hR, hS.F ht⟩) hS.2.2 hd hf.2.2.2.2.2.2.1
theorem m_lreturn {x : Int64} (hd : decode (eB μ) pc = .ok (.lreturn, 1)) (hr : eRt μ = some .long) : eMP μ pc ls [.long x] σ (.inl (some (.long x))) σ := by
  refine ⟨⟨Nat.le_refl _, Nat.le_refl _, Nat.le_refl _⟩, ?_⟩
  intro l b base L xs cA D p e R s m args below meth c mc ms hl hf hs hrm hmc hms H locs cells slots la hR hS hla hsz hcc hzz
  refine W.widen (k := mc) (n := ms) (by omega) (by omega) (vx_ret ?_)
  exact W.lret hf.1 hf.2.1 (hf.2.2.1.trans hr) (fun t ht hW => ⟨rfl, by rw [ht]; exact hR, hS.F ht⟩) hS.2.2 hd hf.2.2.2.2.2.2.1
theorem m_return (hd : decode (eB μ) pc = .ok (.return_, 1)) (hr : eRt μ = none) : eMP μ pc ls [] σ (.inl none) σ := by
  refine ⟨⟨Nat.le_refl _, Nat.le_refl _, Nat.le_refl _⟩, ?_⟩
  intro l b base L xs cA D p e R s m args below meth c mc ms hl hf hs hrm hmc hms H locs cells slots la hR hS hla hsz hcc hzz
  refine W.widen (k := mc) (n := ms) (by omega) (by omega) (vx_ret ?_)
  exact W.vret hf.1 hf.2.1 (hf.2.2.1.trans hr) (fun t ht hW => ⟨rfl, by rw [ht]; exact hR, hS.F ht⟩) hS.2.2 hd hf.2.2.2.2.2.2.1
theorem eRep_lb {b base L : Nat} {xs : Nat → Int32} {cA : FieldType → ClassId} {D : va_G} {H : Heap} (hR : eRep b base L xs cA D σ H) (h : base ≤ H.size) : base + (sN σ - 1) ≤ H.size := by
  by_cases h1 : sN σ - 1 = 0
  · omega
  · have h2 := (hR.1 _ _ (eW_at (b := b) (base := base) (cA := cA) (σ := σ) (a := sN σ - 1) (by omega) (by omega))).lt
    have h3 : eAd b base (sN σ - 1) = base + (sN σ - 1 - 1) := by
      obtain ⟨j, hj⟩ : ∃ j, sN σ - 1 = j + 1 := ⟨sN σ - 2, by omega⟩
      rw [hj]; rfl
    have h4 : eAd b base (sN σ - 1) < H.size := h2
    omega
theorem eRep_new {b base L : Nat} {xs : Nat → Int32} {cA : FieldType → ClassId} {D : va_G} {H H1 : Heap} {kd : Nat ⊕ (FieldType × Nat)} {z : Nat} (hR : eRep b base L xs cA D σ H) (hh : H.size = base + (sN σ - 1)) (ho : ∀ q : Nat, q < H.size → H1[q]? = H[q]?)
    (hk : (∀ c, kd = .inl c → c < 10) ∧ (∀ ty n, kd = .inr (ty, n) → ty ∈ eTys ∧ n ≤ 100000)) (hat : va_at D eCl (base + (sN σ - 1), eCell b base cA (newK σ kd z) (sN σ)) H1) : eRep b base L xs cA D (newK σ kd z) H1 := by
  obtain ⟨r1, r2, r3, r4, r5, r6⟩ := hR
  have hne : ∀ a', a' < sN σ → ¬ a' = sN σ := fun a' h => by omega
  have h0 : ¬ 0 = sN σ := by omega
  refine ⟨?_, by show 1 ≤ sN σ + 1; omega, fun a q1 q2 => ?_, r4, ?_, fun j => ?_⟩
  · rw [← eW_new r2 (σ := σ) (σ' := newK σ kd z) rfl (fun a' h => eCell_eq (by show (if a' = sN σ then kd else sK σ a') = _; rw [if_neg (hne a' h)]) (u1_o (hne a' h)) (u1_o (hne a' h)) (u1_o (hne a' h))) rfl]
    refine (r1.kept (fun k q hq => ho q.1 (r1 k q hq).lt)).app (fun k x hx => ?_)
    have hz : k < 1 := (List.getElem?_eq_some_iff.mp hx).1
    rw [show k = 0 by omega] at hx
    cases hx
    exact hat
  · by_cases ha : a = sN σ
    · have e1 : sK (newK σ kd z) a = kd := by show (if a = sN σ then kd else sK σ a) = _; rw [if_pos ha]
      rw [e1]; exact hk
    · have e1 : sK (newK σ kd z) a = sK σ a := by show (if a = sN σ then kd else sK σ a) = _; rw [if_neg ha]
      rw [e1]
      exact r3 a q1 (by have : a < sN σ + 1 := q2; omega)
  · show (if 0 = sN σ then kd else sK σ 0) = _
    rw [if_neg h0]; exact r5
  · show u1 (sI σ) (sN σ) (fun _ => 0) 0 j = _
    rw [u1_o h0]; exact r6 j
theorem eAd_new {b base : Nat} {σ : eS} (h : 1 ≤ sN σ) : eAd b base (sN σ) = base + (sN σ - 1) := by
  obtain ⟨j, hj⟩ : ∃ j, sN σ = j + 1 := ⟨sN σ - 1, by omega⟩
  rw [hj]; rfl
/-- a step that makes one cell of z slots -/
theorem eStepN {pc' : Nat} {st' : List Value} {kd : Nat ⊕ (FieldType × Nat)} {z : Nat} (h0 : sH σ = 0) (h : eMP μ pc' ls st' (newK σ kd z) o σo)
    (row : ∀ (l : Launch) (b base L : Nat) (xs : Nat → Int32) (cA : FieldType → ClassId) (D : va_G) (p : Program) (e : Env) (R : Room) (s : State) (m : MethodId) (args : Array Value) (below : List Frame) (meth : Method) (c : Code) (H : Heap) (locs : List Loc) (cells slots : Nat) (Q : State → Prop) (la : Array Slot),
      eFr μ p s m args meth c → eSt b base L xs cA D s → eRep b base L xs cA D σ H → H.size = base + (sN σ - 1) → cells + 1 ≤ R.cells → slots + z ≤ R.slots →
      (∀ (H1 : Heap), eRep b base L xs cA D (newK σ kd z) H1 → H1.size = H.size + 1 → (∀ q : Nat, q < H.size → H1[q]? = H[q]?) → W p l e R s m args below meth c H1 locs (cells + 1) (slots + z) Q (F0 m pc' la (st'.map (eVl b base)))) →
      W p l e R s m args below meth c H locs cells slots Q (F0 m pc la (st.map (eVl b base)))) : eMP μ pc ls st σ o σo := by
  obtain ⟨⟨m1, m2, m3⟩, h⟩ := h
  have m1 : sN σ + 1 ≤ sN σo := m1
  have m2 : sH σ ≤ sH σo := m2
  have m3 : sZ σ + z ≤ sZ σo := m3
  refine ⟨⟨by omega, m2, by omega⟩, ?_⟩
  intro l b base L xs cA D p e R s m args below meth c mc ms hl hf hs hr hmc hms H locs cells slots la hR hS hla hsz hc hz T hT X
  have hub := X.heapSize
  rw [hT] at hub
  have hlb := eRep_lb hR (Nat.le_trans hs.2.2.2.2.2.1 hS.1)
  have hN1 := hR.2.1
  refine row l b base L xs cA D p e R s m args below meth c H locs cells slots _ la hf hs hR (by omega) (by omega) (by omega) (fun H1 hR1 hz1 ho1 => ?_) T hT X
  refine h l b base L xs cA D p e R s m args below meth c mc ms hl hf hs hr hmc hms H1 locs (cells + 1) (slots + z) la hR1 ⟨by have := hS.1; omega, fun q q1 q2 => (ho1 q (Nat.lt_of_lt_of_le q1 hS.1)).trans (hS.2.1 q q1 q2), hS.2.2⟩ hla ?_ ?_ ?_
  · show s.heap.size + (cells + 1) ≤ base + (sN σ + 1 - 1) + sH σ
    omega
  · show cells + 1 + (sN σo + sH σo - (sN σ + 1 + sH σ)) ≤ mc
    omega
  · show slots + z + (sZ σo - (sZ σ + z)) ≤ ms
    omega
theorem u1_s {α : Type} {f : Nat → Nat → α} {a j : Nat} {g : Nat → α} : u1 f a g a j = g j := by unfold u1; rw [if_pos rfl]
theorem m_new {c9 i : Nat} (hd : decode (eB μ) pc = .ok (.new i, 3)) (hl : lkN (eC μ) i c9 = true) (h0 : sH σ = 0) (h : eMP μ (pc + 3) ls (.ref (sN σ) :: st) (newK σ (.inl c9) (eNF c9)) o σo) : eMP μ pc ls st σ o σo := by
  obtain ⟨q1, q2⟩ := lkN_spec hl
  refine eStepN h0 h fun l b base L xs cA D p e R s m args below meth c H locs cells slots Q la hf hs hR hh hc hz k => ?_
  have hKn := hs.1.1 c9 _ (eCl_at q1)
  refine W.newcK hf.1 hf.2.1 hf.2.2.2.2.1 (hf.2.2.2.2.2.1 _ q2) (hf.2.2.2.2.2.1 _ (eInst q1).1) (hf.2.2.2.2.2.1 _ (eInst q1).2) rfl hd hc hz hKn.2.1 hh fun H1 kC hkC e1 z1 o1 => ?_
  have o1' : ∀ q : Nat, q < H.size → H1[q]? = H[q]? := fun q hq => o1 q (by rw [← hh]; exact hq)
  have k9 := k H1 (eRep_new hR hh o1' ⟨fun c h => by cases h; exact q1, fun ty n h => by cases h⟩ ?_) (by rw [z1, hh]) o1'
  · refine W.eq ?_ k9
    show F0 m (pc + 3) la (.ref (base + (sN σ - 1)) :: _) = F0 m (pc + 3) la (.ref (eAd b base (sN σ)) :: _)
    rw [eAd_new hR.2.1]
  · have e9 : eCell b base cA (newK σ (.inl c9) (eNF c9)) (sN σ) = .inr (c9, (List.range (eNF c9)).map (fun i => eFl b base (newK σ (.inl c9) (eNF c9)) (sN σ) c9 i)) := by
      have e8 : sK (newK σ (.inl c9) (eNF c9)) (sN σ) = .inl c9 := if_pos rfl
      unfold eCell
      rw [e8]
    rw [e9]
    refine ⟨_, eCl_at q1, (u_born (eTy c9) hf.2.2.2.2.2.1 (eU_in q1) hKn hkC e1 (eTy_ok q1)).to (fun j hj => ?_)⟩
    show defaultValue (eTy c9 j) = vp_V _ j
    unfold vp_V
    rw [List.getD_eq_getElem?_getD, map_range_at _ hj]
    show defaultValue (eTy c9 j) = eFl b base (newK σ (.inl c9) (eNF c9)) (sN σ) c9 j
    rw [eDef q1 hj]
    have f1 : sR (newK σ (.inl c9) (eNF c9)) (sN σ) j = 0 := u1_s (f := sR σ) (g := fun _ => 0)
    have f2 : sI (newK σ (.inl c9) (eNF c9)) (sN σ) j = 0 := u1_s (f := sI σ) (g := fun _ => 0)
    unfold eFl
    rw [f1, f2, if_pos rfl]
theorem u1_f {α : Type} {f : Nat → Nat → α} {a : Nat} {g : Nat → α} : u1 f a g a = g := by funext j; exact u1_s
theorem m_newarray {n : Int32} {t : ArrayType} (ht : t = .int ∨ t = .long ∨ t = .byte ∨ t = .boolean) (hd : decode (eB μ) pc = .ok (.newarray t, 2)) (h0 : sH σ = 0) (hn : ¬ n < 0) (hn2 : n.toNatClampNeg ≤ 100000) (h : eMP μ (pc + 2) ls (.ref (sN σ) :: r) (newK σ (.inr (newarray.typeOf t, n.toNatClampNeg)) n.toNatClampNeg) o σo) : eMP μ pc ls (.int n :: r) σ o σo := by
  refine eStepN h0 h fun l b base L xs cA D p e R s m args below meth c H locs cells slots Q la hf hs hR hh hc hz k => ?_
  have hacl : Cond.arrayClass (newarray.typeOf t) ∈ gTb := by rcases ht with rfl | rfl | rfl | rfl <;> first | exact eAC_int | exact eAC_long | exact eAC_byte | exact eAC_boolean
  have hty : newarray.typeOf t ∈ eTys := by rcases ht with rfl | rfl | rfl | rfl <;> decide
  have hcb : n.toNatClampNeg * componentBytes (newarray.typeOf t) ≤ 536870912 := by
    have : componentBytes (newarray.typeOf t) ≤ 8 := by rcases ht with rfl | rfl | rfl | rfl <;> decide
    exact Nat.le_trans (Nat.mul_le_mul hn2 this) (by decide)
  refine va_newaK hf.1 hf.2.1 (hf.2.2.2.2.2.1 _ hacl) rfl hd rfl hn rfl hcb hc hz hh fun H1 cA1 e1 z1 o1 _ hNm => ?_
  have o1' : ∀ q : Nat, q < H.size → H1[q]? = H[q]? := fun q hq => o1 q (by rw [← hh]; exact hq)
  have hcA : cA1 = cA (newarray.typeOf t) := by
    obtain ⟨t0, ht0⟩ := eTs_at (cA := cA) hty
    have h9 := (hs.1.2 t0 _ ht0).2
    rcases ht with rfl | rfl | rfl | rfl <;> exact Option.some.inj (hNm.symm.trans h9)
  subst hcA
  have k9 := k H1 (eRep_new hR hh o1' ⟨(fun c h => by cases h), (fun ty n9 h => by cases h; exact ⟨hty, hn2⟩)⟩ ?_) (by rw [z1, hh]) o1'
  · refine W.eq ?_ k9
    show F0 m (pc + 2) la (.ref (base + (sN σ - 1)) :: _) = F0 m (pc + 2) la (.ref (eAd b base (sN σ)) :: _)
    rw [eAd_new hR.2.1]
  · have e8 : sK (newK σ (.inr (newarray.typeOf t, n.toNatClampNeg)) n.toNatClampNeg) (sN σ) = .inr (newarray.typeOf t, n.toNatClampNeg) := if_pos rfl
    have f1 : sL (newK σ (.inr (newarray.typeOf t, n.toNatClampNeg)) n.toNatClampNeg) (sN σ) = fun _ => 0 := u1_f (f := sL σ) (g := fun _ => 0)
    have f2 : sI (newK σ (.inr (newarray.typeOf t, n.toNatClampNeg)) n.toNatClampNeg) (sN σ) = fun _ => 0 := u1_f (f := sI σ) (g := fun _ => 0)
    unfold eCell
    rw [e8]
    dsimp only
    rw [f1, f2]
    rcases ht with rfl | rfl | rfl | rfl <;> exact e1
theorem m_anewarray {n : Int32} {c9 i : Nat} (h367 : c9 = 3 ∨ c9 = 6 ∨ c9 = 7) (hd : decode (eB μ) pc = .ok (.anewarray i, 3)) (hl : lkN (eC μ) i c9 = true) (h0 : sH σ = 0) (hn : ¬ n < 0) (hn2 : n.toNatClampNeg ≤ 100000) (h : eMP μ (pc + 3) ls (.ref (sN σ) :: r) (newK σ (.inr (.object (eCN c9), n.toNatClampNeg)) n.toNatClampNeg) o σo) : eMP μ pc ls (.int n :: r) σ o σo := by
  obtain ⟨q1, q2⟩ := lkN_spec hl
  refine eStepN h0 h fun l b base L xs cA D p e R s m args below meth c H locs cells slots Q la hf hs hR hh hc hz k => ?_
  have hao : va_AO (eCN c9) s := by
    obtain ⟨g1, g2, g3⟩ := hs.2.2.2.2.2.2.2.1
    rcases h367 with rfl | rfl | rfl
    · exact g1
    · exact g2
    · exact g3
  have hty : FieldType.object (eCN c9) ∈ eTys := by rcases h367 with rfl | rfl | rfl <;> simp [eTys, eCN]
  refine W.anew hf.1 hf.2.1 hf.2.2.2.2.1 (hf.2.2.2.2.2.1 _ q2) (va_AO.use hao) rfl hd rfl hn (by omega) hc hz fun cA1 kA comp f1 f2 f3 f4 => ?_
  generalize hH1 : H.push ({ cls := cA1, slots := Array.replicate n.toNatClampNeg .null, vm := .none } : Cell) = H1
  have z1 : H1.size = H.size + 1 := by rw [← hH1, Array.size_push]
  have e1 : H1[H.size]? = some (arrV cA1 n.toNatClampNeg (fun _ => .null)) := by rw [← hH1, Array.getElem?_push_size, ← arrV_new]
  have o1 : ∀ q : Nat, q < H.size → H1[q]? = H[q]? := fun q hq => by rw [← hH1, Array.getElem?_push, if_neg (by omega)]
  have hcA : cA1 = cA (.object (eCN c9)) := by
    obtain ⟨t0, ht0⟩ := eTs_at (cA := cA) hty
    obtain ⟨k8, c8, g1, g2, g3, g4⟩ := (hs.1.2 t0 _ ht0).2
    exact Option.some.inj (f1.symm.trans g4)
  subst hcA
  have k9 := k H1 (eRep_new hR hh o1 ⟨(fun c h => by cases h), (fun ty n9 h => by cases h; exact ⟨hty, hn2⟩)⟩ ?_) z1 o1
  · refine W.eq ?_ k9
    show F0 m (pc + 3) la (.ref H.size :: _) = F0 m (pc + 3) la (.ref (eAd b base (sN σ)) :: _)
    rw [eAd_new hR.2.1, hh]
  · have e8 : sK (newK σ (.inr (.object (eCN c9), n.toNatClampNeg)) n.toNatClampNeg) (sN σ) = .inr (.object (eCN c9), n.toNatClampNeg) := if_pos rfl
    have f2 : sR (newK σ (.inr (.object (eCN c9), n.toNatClampNeg)) n.toNatClampNeg) (sN σ) = fun _ => 0 := u1_f (f := sR σ) (g := fun _ => 0)
    unfold eCell
    rw [e8]
    dsimp only
    rw [f2, ← hh]
    exact e1
end
