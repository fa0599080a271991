/-! Calls, and what catches. -/
theorem eKd_ok : ((List.range 174).all fun q => !(eKd q == 4) && (!(eKd q == 2) || decide (eRt q = none)) && (eKd q == 0 || eKd q == 1 || eKd q == 2 || eKd q == 3)) = true := by decide +kernel
theorem eKd_f {q : Nat} (h : q < 174) : ¬ eKd q = 4 ∧ (eKd q = 2 → eRt q = none) ∧ (eKd q = 0 ∨ eKd q = 1 ∨ eKd q = 2 ∨ eKd q = 3) := by
  have h1 := List.all_eq_true.mp eKd_ok q (List.mem_range.mpr h)
  simp only [Bool.and_eq_true, Bool.or_eq_true, Bool.not_eq_true', beq_eq_false_iff_ne, beq_iff_eq, decide_eq_true_eq, ne_eq] at h1
  obtain ⟨⟨h1, h2⟩, h3⟩ := h1
  exact ⟨h1, fun h => h2.resolve_left (fun n => n h), by omega⟩
theorem eMf {q : Nat} (h : q < 174) : eCw q ∈ gTb ∧ Cond.initialized (eY q).cls ∈ gTb ∧ (eY q).cls = eCN (eC q) ∧ plainName (eY q).cls = true ∧ ((eY q).cls ≠ "java/lang/invoke/MethodHandle" ∧ (eY q).cls ≠ "java/lang/invoke/VarHandle") ∧
    (parseMethodDescriptor (eY q).desc).map (fun d => d.parameters.length) = some (eNP q) ∧
    (eKd q = 0 → Cond.instanceMethod (eY q) ∈ gTb ∧ Cond.selects (eY q).cls (eY q) (eY q) ∈ gTb) ∧ (eKd q = 2 → Cond.instanceMethod (eY q) ∈ gTb ∧ (eY q).name = "<init>") ∧ (¬ eKd q = 0 → ¬ eKd q = 2 → Cond.static (eY q) ∈ gTb) := by
  have h1 := eM_ok (r := q) (by omega)
  unfold eMokR eMok at h1
  have h4 := (eKd_f h).1
  simp only [Bool.and_eq_true, Bool.or_eq_true, beq_iff_eq, decide_eq_true_eq] at h1
  rcases h1 with h1 | h1
  · exact absurd h1 h4
  · obtain ⟨⟨⟨⟨⟨⟨⟨⟨a1, a2⟩, a3⟩, a4⟩, a5⟩, a6⟩, a7⟩, a8⟩, a9⟩ := h1
    refine ⟨List.mem_filter.mpr ⟨eCat_mem a1, a2⟩, List.mem_filter.mpr ⟨eAt_mem a3, rfl⟩, a4, a5, ⟨a6, a7⟩, a8, fun hk => ?_, fun hk => ?_, fun hk hk2 => ?_⟩
    · rw [if_pos hk] at a9
      simp only [Bool.and_eq_true, decide_eq_true_eq] at a9
      exact ⟨List.mem_filter.mpr ⟨eAt_mem a9.1, rfl⟩, List.mem_filter.mpr ⟨List.mem_of_getElem? a9.2, rfl⟩⟩
    · rw [if_neg (by omega), if_pos hk] at a9
      simp only [Bool.and_eq_true, decide_eq_true_eq] at a9
      exact ⟨List.mem_filter.mpr ⟨eAt_mem a9.1, rfl⟩, a9.2⟩
    · rw [if_neg hk, if_neg hk2] at a9
      exact List.mem_filter.mpr ⟨eAt_mem a9, rfl⟩
theorem gTb_good : ∀ w ∈ gTb, w ∈ gTb ∧ ((w.onTables && w.keeps) = true ∨ ∃ ty, w = .arrayClass ty) := fun w hw => ⟨hw, good_of_word (List.mem_filter.mp hw).2⟩
abbrev eWs (q : Nat) : List Cond := eCw q :: gTb
theorem eWs_good {q : Nat} (h : q < 174) : GoodIn gTb (eWs q) := fun w hw => by
  rcases List.mem_cons.mp hw with rfl | hw
  · exact gTb_good _ (eMf h).1
  · exact gTb_good w hw
abbrev eRoomOf (q mc ms : Nat) : Room := { frames := eDp q, cells := mc, slots := ms, locals := 40 * eDp q + 100 }
def ePc (b base L : Nat) (xs : Nat → Int32) (cA : FieldType → ClassId) (D : va_G) (as : List Value) (σ : eS) : Array Value → State → Prop := fun a U =>
  a = (as.map (eVl b base)).toArray ∧ eRep b base L xs cA D σ U.heap ∧ eSt b base L xs cA D U ∧ U.heap.size ≤ base + (sN σ - 1) + sH σ
theorem ePc_blind {b base L : Nat} {xs : Nat → Int32} {cA : FieldType → ClassId} {D : va_G} {as : List Value} {σ : eS} : FrameBlind (ePc b base L xs cA D as σ) := by
  intro a U g mk ⟨h1, h2, h3, h4⟩
  exact ⟨h1, h2, h3.on (U := U.calling g mk a) (State.WarmedH.refl U) rfl va_S.rf, h4⟩
theorem lv_args_map {b base : Nat} (as : List Value) : ∀ i, lv_args i (as.map (eVl b base)) = eLm b base (lv_args i as) := by
  induction as with
  | nil => intro i; rfl
  | cons v vs ih =>
    intro i
    show (i, eVl b base v) :: lv_args (if (eVl b base v).category = 2 then i + 2 else i + 1) (vs.map (eVl b base)) = (i, eVl b base v) :: eLm b base (lv_args (if v.category = 2 then i + 2 else i + 1) vs)
    rw [eVl_cat, ih]
theorem lg_sl_len {b base : Nat} (as : List Value) : (lg_sl (as.map (eVl b base))).length = stw as := by
  induction as with
  | nil => rfl
  | cons v vs ih =>
    have e1 : lg_sl ((v :: vs).map (eVl b base)) = (if (eVl b base v).category = 2 then [.val (eVl b base v), .second] else [.val (eVl b base v)]) ++ lg_sl (vs.map (eVl b base)) := rfl
    rw [e1, List.length_append, ih, eVl_cat]
    show _ = v.category + stw vs
    rcases lv_cat v with h | h
    · rw [h, if_neg (by decide)]; rfl
    · rw [h, if_pos rfl]; rfl
section
variable {σ σ1 : eS} {o1 : eO} {as : List Value} {q : Nat}
theorem eBody (h : eMP q 0 (lv_args 0 as) [] σ o1 σ1) (hlen : stw as ≤ eL q) {l : Launch} (hl : l.stackTraces = false) {b base L : Nat} {xs : Nat → Int32} {cA : FieldType → ClassId} {D : va_G}
    {p : Program} {e : Env} {s : State} {m : MethodId} {below : List Frame} {meth : Method} {c : Code} (hf : eFr q p s m ((as.map (eVl b base)).toArray) meth c) (hR : eRep b base L xs cA D σ s.heap) (hs : eSt b base L xs cA D s) (hsz : s.heap.size ≤ base + (sN σ - 1) + sH σ) :
    W p l e (eRoomOf q (sN σ1 + sH σ1 - (sN σ + sH σ)) (sZ σ1 - sZ σ)) s m ((as.map (eVl b base)).toArray) below meth c s.heap [] 0 0 (vx_MQ below (eQc b base L xs cA D o1 σ1) (eXC b base L xs cA D o1 σ1) ((as.map (eVl b base)).toArray) s (sN σ1 + sH σ1 - (sN σ + sH σ)) (sZ σ1 - sZ σ) (eA base)) (entryFrame m ((as.map (eVl b base)).toArray) (eL q)) := by
  rw [lg_entry_eq]
  have hla := lv_entry (as.map (eVl b base)) (n := eL q) (by rw [lg_sl_len]; exact hlen)
  rw [lv_args_map] at hla
  exact h.2 l b base L xs cA D p e _ s m _ below meth c (sN σ1 + sH σ1 - (sN σ + sH σ)) (sZ σ1 - sZ σ) hl hf hs ⟨Nat.le_refl _, Nat.le_refl _⟩ (Nat.le_refl _) (Nat.le_refl _) s.heap [] 0 0 _ hR va_S.rf hla (by omega) (by omega) (by omega)
theorem eMet (hq : q < 174) (hk : ¬ eKd q = 3) (h : eMP q 0 (lv_args 0 as) [] σ o1 σ1) (hlen : stw as ≤ eL q) {l : Launch} (hl : l.stackTraces = false) {b base L : Nat} {xs : Nat → Int32} {cA : FieldType → ClassId} {D : va_G} :
    vx_Met l (eY q) (eWs q) (eRoomOf q (sN σ1 + sH σ1 - (sN σ + sH σ)) (sZ σ1 - sZ σ)) (ePc b base L xs cA D as σ) (eQc b base L xs cA D o1 σ1) (eXC b base L xs cA D o1 σ1) (sN σ1 + sH σ1 - (sN σ + sH σ)) (sZ σ1 - sZ σ) (eA base) := by
  obtain ⟨f1, f2, f3, f4, f5, f6, f7, f8, f9⟩ := eMf hq
  refine vx_ofW (cc := eB q) (maxL := eL q) (ret := eRt q) (ws' := gTb) f4 (by unfold eWs eCw; rw [if_neg hk]) ?_
  intro p e s m args below meth c s₁ B hml hex hv
  obtain ⟨rfl, hR, hs, hsz⟩ := hv
  have hts := atoms_spec (ws := eWs q) B.pre
  refine eBody h hlen hl ⟨B.exec, B.bytes, B.returns, hml, by rw [← f3]; exact findClass_of_methodNamed B.named, fun w hw => hts w (List.mem_cons_of_mem _ hw), B.notSynchronized, fun h3 => absurd h3 hk, fun _ _ => hex, fun h2 => ?_⟩ hR hs hsz
  rw [← (f8 h2).2]
  exact (name_of_methodNamed B.named B.method).1
theorem eMet3 {v : Option Value} (hq : q < 174) (hk : eKd q = 3) (h : eMP q 0 (lv_args 0 as) [] σ (.inl v) σ1) (hlen : stw as ≤ eL q) {l : Launch} (hl : l.stackTraces = false) {b base L : Nat} {xs : Nat → Int32} {cA : FieldType → ClassId} {D : va_G} :
    Met l (eY q) (eWs q) (eRoomOf q (sN σ1 + sH σ1 - (sN σ + sH σ)) (sZ σ1 - sZ σ)) (ePc b base L xs cA D as σ) (eQc b base L xs cA D (.inl v) σ1) (sN σ1 + sH σ1 - (sN σ + sH σ)) (sZ σ1 - sZ σ) (eA base) := by
  obtain ⟨f1, f2, f3, f4, f5, f6, f7, f8, f9⟩ := eMf hq
  have h9 : vx_Met l (eY q) (eWs q) (eRoomOf q (sN σ1 + sH σ1 - (sN σ + sH σ)) (sZ σ1 - sZ σ)) (ePc b base L xs cA D as σ) (eQc b base L xs cA D (.inl v) σ1) (eXC b base L xs cA D (.inl v) σ1) (sN σ1 + sH σ1 - (sN σ + sH σ)) (sZ σ1 - sZ σ) (eA base) := by
    have hcw : eCw q = Cond.codeWith (eY q) (eB q) (eL q) (eRt q) (eHL q) := by unfold eCw; rw [if_pos hk]
    refine vx_ofWH (cc := eB q) (maxL := eL q) (ret := eRt q) (hh := eHL q) (ws' := gTb) f4 (by unfold eWs; rw [hcw]) ?_
    intro p e s m args below meth c s₁ B hml hv
    obtain ⟨rfl, hR, hs, hsz⟩ := hv
    have hts := atoms_spec (ws := eWs q) B.pre
    refine eBody h hlen hl ⟨B.exec, B.bytes, B.returns, hml, by rw [← f3]; exact findClass_of_methodNamed B.named, fun w hw => hts w (List.mem_cons_of_mem _ hw), B.notSynchronized, fun _ => ?_, fun h3 => absurd hk h3, fun h2 => by omega⟩ hR hs hsz
    have h8 := hts _ List.mem_cons_self
    rw [hcw] at h8
    exact vx_table (x := eY q) B h8
  refine MetFree.mono h9 (fun _ _ h => h) (fun _ _ _ _ _ h => h) (fun a st o t _ hQ => ?_)
  rcases hQ with hQ | ⟨q9, -, E, ce, L9, hXC, -⟩
  · exact hQ
  · exact hXC.elim
/-- the words, the room of a call -/
theorem eCallB {hq : q < 174} {hk : ¬ eKd q = 3} {μ i : Nat} {R : Room} {s : State} {args : Array Value} {mc ms n : Nat} (hts : ∀ w ∈ gTb, w.before args s = true) (hrm : eRm μ R) (hdp : eDp q < eDp μ) (hl : Cond.methodLink (eCN (eC μ)) i (eY q) ∈ gTb) (hn : n = eNP q) :
    CallB R s args (eCN (eC μ)) i (eY q) (eB q) (eL q) (eRt q) (eWs q) (eRoomOf q mc ms) mc ms n := by
  obtain ⟨f1, f2, f3, f4, f5, f6, f7, f8, f9⟩ := eMf hq
  have hcw : eCw q = Cond.code (eY q) (eB q) (eL q) (eRt q) := by unfold eCw; rw [if_neg hk]
  have h21 : eL q ≤ 21 := of_decide_eq_true (List.all_eq_true.mp eLn q (List.mem_range.mpr (by omega)))
  have r1 := hrm.1
  have r2 := hrm.2
  refine ⟨rfl, rfl, by show eDp q + 1 ≤ _; omega, by show 8 + (eL q + 11) + (40 * eDp q + 100) ≤ _; omega, pay_in hts (eWs_good hq), by rw [← hcw]; exact List.mem_cons_self, by rw [← hcw]; exact hts _ f1, hts _ f2, f5, fun sig h => ?_, hts _ hl⟩
  rw [h] at f6
  exact hn.trans (Option.some.inj f6).symm
theorem eCallN {hq : q < 174} {hk : ¬ eKd q = 3} {μ i : Nat} {R : Room} {s : State} {args : Array Value} {mc ms n : Nat} (hts : ∀ w ∈ gTb, w.before args s = true) (hrm : eRm μ R) (hdp : eDp q < eDp μ) (hl : va_Nw (Cond.methodLinkNest (eCN (eC μ)) i (eY q) "EventVault") s) (hn : n = eNP q) :
    va_CN R s args (eCN (eC μ)) i (eY q) "EventVault" (eB q) (eL q) (eRt q) (eWs q) (eRoomOf q mc ms) mc ms n := by
  obtain ⟨f1, f2, f3, f4, f5, f6, f7, f8, f9⟩ := eMf hq
  have hcw : eCw q = Cond.code (eY q) (eB q) (eL q) (eRt q) := by unfold eCw; rw [if_neg hk]
  have h21 : eL q ≤ 21 := of_decide_eq_true (List.all_eq_true.mp eLn q (List.mem_range.mpr (by omega)))
  have r1 := hrm.1
  have r2 := hrm.2
  refine ⟨⟨rfl, rfl, by show eDp q + 1 ≤ _; omega, by show 8 + (eL q + 11) + (40 * eDp q + 100) ≤ _; omega, pay_in hts (eWs_good hq), by rw [← hcw]; exact List.mem_cons_self⟩, by rw [← hcw]; exact hts _ f1, hts _ f2, f5, fun sig h => ?_, va_Nw.use rfl hl⟩
  rw [h] at f6
  exact hn.trans (Option.some.inj f6).symm
end
def eRaw (μ pc q n : Nat) : Prop := ∃ i, lkM (eC μ) i q = true ∧ ((decode (eB μ) pc = .ok (.invokevirtual i, 3) ∧ eKd q = 0 ∧ n = eNP q + 1) ∨ (decode (eB μ) pc = .ok (.invokestatic i, 3) ∧ (eKd q = 1 ∨ eKd q = 3) ∧ n = eNP q) ∨ (decode (eB μ) pc = .ok (.invokespecial i, 3) ∧ eKd q = 2 ∧ n = eNP q + 1))
section
variable {μ pc q n : Nat} {ls : eLs} {st : List Value} {σ σ1 : eS} {o o1 : eO} {σo : eS}
/-- the call of a method that isn't one with handlers: the machine runs it -/
theorem eRun (hq : q < 174) (hk : ¬ eKd q = 3) (hdp : eDp q < eDp μ) (hraw : eRaw μ pc q n) (h1 : n ≤ st.length) (h0 : stw (st.take n).reverse ≤ eL q) (h2 : stw (st.drop n) ≤ 8)
    (h3 : recvOk q (st.take n).reverse σ)
    (hcal : eMP q 0 (lv_args 0 (st.take n).reverse) [] σ o1 σ1) {l : Launch} (hl : l.stackTraces = false) {b base L : Nat} {xs : Nat → Int32} {cA : FieldType → ClassId} {D : va_G} {p : Program} {e : Env} {R : Room} {s : State} {m : MethodId} {args : Array Value} {below : List Frame} {meth : Method} {c : Code}
    (hf : eFr μ p s m args meth c) (hs : eSt b base L xs cA D s) (hr : eRm μ R) {H : Heap} {locs : List Loc} {cells slots : Nat} {la : Array Slot} (hR : eRep b base L xs cA D σ H) (hS : va_S (eA base) s.heap H locs) (hla : lv_has la (eL μ) (eLm b base ls)) (hsz : H.size ≤ base + (sN σ - 1) + sH σ)
    (hc : cells + (sN σ1 + sH σ1 - (sN σ + sH σ)) ≤ R.cells) (hz : slots + (sZ σ1 - sZ σ) ≤ R.slots) :
    vx_Run p l e R s m args below meth c H locs cells slots (sN σ1 + sH σ1 - (sN σ + sH σ)) (sZ σ1 - sZ σ) (F0 m pc la (st.map (eVl b base))) ((st.drop n).map (eVl b base)) (fun st₀ oc t => eQc b base L xs cA D o1 σ1 #[] st₀ oc t) (eXC b base L xs cA D o1 σ1) (eA base) := by
  obtain ⟨f1, f2, f3, f4, f5, f6, f7, f8, f9⟩ := eMf hq
  obtain ⟨hx, hb, hret, hml, hown, hts, hlk, hh3, hhn, hin⟩ := hf
  have hM := eMet hq hk hcal h0 hl (b := b) (base := base) (L := L) (xs := xs) (cA := cA) (D := D)
  have hW := eRoom (b := b) (base := base) h2
  have hlenA : (st.take n).reverse.length = n := by rw [List.length_reverse, List.length_take]; omega
  have hst : st = (st.take n).reverse.reverse ++ st.drop n := by rw [List.reverse_reverse, List.take_append_drop]
  have hP : ∀ U : State, U.heap = H → s.WarmedH U.vm → ePc b base L xs cA D (st.take n).reverse σ ((st.take n).reverse.map (eVl b base)).toArray U := fun U hU hWU => ⟨rfl, by rw [hU]; exact hR, hs.on hWU hU hS, by rw [hU]; exact hsz⟩
  generalize (st.take n).reverse = as at hM hlenA hst hP h3
  obtain ⟨i, hlm, hraw⟩ := hraw
  have hlm := lkM_spec hlm
  have hsize : la.size = eL μ := hla.1
  rcases hraw with ⟨hd, hk0, hn⟩ | ⟨hd, hk1, hn⟩ | ⟨hd, hk2, hn⟩
  · unfold recvOk at h3
    rw [hk0] at h3
    cases as with
    | nil => exact h3.elim
    | cons v As =>
      cases v with
      | ref bb =>
        have hci := (hR.2.2.1 bb h3.1 h3.2.1).1 _ h3.2.2
        have hrecv := va_recv hs.1 hR.1 (eCl_at hci) (eW_obj (b := b) (base := base) (cA := cA) h3)
        rw [← f3] at hrecv
        have hst2 : (F0 m pc la (st.map (eVl b base))).stack = (As.map (eVl b base)).reverse ++ .ref (eAd b base bb) :: (st.drop n).map (eVl b base) := by
          show st.map (eVl b base) = _
          conv => lhs; rw [hst]
          rw [List.map_append, List.map_reverse, List.map_cons, List.reverse_cons, List.append_assoc]
          rfl
        have hn2 : (As.map (eVl b base)).length = eNP q := by rw [List.length_map]; simp only [List.length_cons] at hlenA; omega
        rcases hlm with hlm | hlm
        · exact vx_runVN ⟨hx, hb, hml, hown, hts⟩ hM ⟨eCallN (hq := hq) (hk := hk) hts hr hdp (hs.2.2.2.2.2.2.1 _ hlm rfl) rfl, hts _ (f7 hk0).1, hts _ (f7 hk0).2⟩ ⟨ePc_blind, hrecv, hP⟩ rfl hn2 hsize hst2 (lv_room hW) hd ⟨hc, hz⟩
        · exact vx_runV ⟨hx, hb, hml, hown, hts⟩ hM ⟨eCallB (hq := hq) (hk := hk) hts hr hdp hlm rfl, hts _ (f7 hk0).1, hts _ (f7 hk0).2⟩ ⟨ePc_blind, hrecv, hP⟩ rfl hn2 hsize hst2 (lv_room hW) hd ⟨hc, hz⟩
      | _ => exact h3.elim
  · have hk9 : eKd q = 1 := by omega
    have hst2 : (F0 m pc la (st.map (eVl b base))).stack = (as.map (eVl b base)).reverse ++ (st.drop n).map (eVl b base) := by
      show st.map (eVl b base) = _
      conv => lhs; rw [hst]
      rw [List.map_append, List.map_reverse]
    have hn2 : (as.map (eVl b base)).length = eNP q := by rw [List.length_map]; omega
    rcases hlm with hlm | hlm
    · exact vx_runSN (As := as.map (eVl b base)) ⟨hx, hb, hml, hown, hts⟩ hM ⟨eCallN (hq := hq) (hk := hk) hts hr hdp (hs.2.2.2.2.2.2.1 _ hlm rfl) rfl, hts _ (f9 (by omega) (by omega)), trivial⟩ ⟨ePc_blind, hP⟩ rfl hn2 hsize hst2 (lv_room hW) hd ⟨hc, hz⟩
    · exact vx_runS (As := as.map (eVl b base)) ⟨hx, hb, hml, hown, hts⟩ hM ⟨eCallB (hq := hq) (hk := hk) hts hr hdp hlm rfl, hts _ (f9 (by omega) (by omega))⟩ ⟨ePc_blind, hP⟩ rfl hn2 hsize hst2 (lv_room hW) hd ⟨hc, hz⟩
  · unfold recvOk at h3
    rw [hk2] at h3
    have hrt := (eKd_f hq).2.1 hk2
    cases as with
    | nil => exact h3.elim
    | cons v As =>
      cases v with
      | ref bb =>
        have hst2 : (F0 m pc la (st.map (eVl b base))).stack = (As.map (eVl b base)).reverse ++ .ref (eAd b base bb) :: (st.drop n).map (eVl b base) := by
          show st.map (eVl b base) = _
          conv => lhs; rw [hst]
          rw [List.map_append, List.map_reverse, List.map_cons, List.reverse_cons, List.append_assoc]
          rfl
        have hn2 : (As.map (eVl b base)).length = eNP q := by rw [List.length_map]; simp only [List.length_cons] at hlenA; omega
        rcases hlm with hlm | hlm
        · exact vx_runIN (bytes := eB q) (maxL := eL q) ⟨hx, hb, hml, hown, hts⟩ hM ⟨by rw [← hrt]; exact eCallN (hq := hq) (hk := hk) hts hr hdp (hs.2.2.2.2.2.2.1 _ hlm rfl) rfl, (f8 hk2).2, hts _ (f8 hk2).1⟩ ⟨ePc_blind, hP⟩ rfl hn2 hsize hst2 (lv_room hW) hd ⟨hc, hz⟩
        · exact vx_runI (bytes := eB q) (maxL := eL q) ⟨hx, hb, hml, hown, hts⟩ hM ⟨by rw [← hrt]; exact eCallB (hq := hq) (hk := hk) hts hr hdp hlm rfl, (f8 hk2).2, hts _ (f8 hk2).1⟩ ⟨ePc_blind, hP⟩ rfl hn2 hsize hst2 (lv_room hW) hd ⟨hc, hz⟩
      | _ => exact h3.elim
end
