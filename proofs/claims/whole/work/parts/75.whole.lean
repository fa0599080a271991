/-! The claim out of the run of the law (the parts before and behind whole_start are the given ones). -/
def R_law : String := "EventVaultLaw"
def lw_P (b : Addr) (xs : List Int32) (args : Array Value) (s : State) : Prop := args = #[.ref b] ∧ s.IntsAt b xs ∧ xs.length ≤ 320 ∧ (Jvm.Cond.and given_1 narrow_1).before args s = true
def lw_Q (_ : Array Value) (s : State) (o : Outcome) (t : State) : Prop := o = .returned (some (.int 1)) ∧ Framed s o t [] 600384 7277546
def lw_Z (below : List Frame) (a : Array Value) (s : State) : State → Prop := fun t => ∃ o, t.status = .running ∧ Ended t below o ∧ lw_Q a s o t
/-- the law's own end, with 1 on the stack, nothing written that was there before, its room as the claim has it -/
theorem lw_ret {p : Program} {l : Launch} {e : Env} {s : State} {m : MethodId} {below : List Frame} {meth : Method} {c : Code} {b : Nat} (hx : p.tables.exec = Jvm.exec) (hb : c.code = code) (hr : meth.sig.returnType = ret) (hlocks : meth.locks = false) {pc : Nat} {H : Heap} {ls : Array Slot} (hdg : decode code pc = .ok (.ireturn, 1)) : W p l e room_1 s m #[Value.ref b] below meth c H [] 600384 7277546 (lw_Z below #[Value.ref b] s) (F0 m pc ls [.int 1]) := by
  intro T hT X
  obtain ⟨fs, hret, hrun, hended, hW, hframe⟩ := X.leave (v := some (.int 1)) (hlocks := hlocks) (fun h => by rw [hr] at h; cases h)
  have hmeth' : T.vm.method? m = some meth := X.method'
  refine ⟨T.setFrames fs, ?_, .returned (some (.int 1)), hrun, hended, rfl, ⟨_, rfl⟩, hW, hframe⟩
  jvm_step X.here [X.here.top, hx, hb, hdg, hmeth', hr, ret, narrow_b1]
  (try refine ⟨rfl, ?_⟩); (try refine ⟨rfl, ?_⟩)
  first | (intro acts; rw [hret _ acts rfl rfl rfl]) | rw [hret _ _ rfl rfl rfl]
  exact Steps.refl _
/-- what holds at the law's entry: the machine, the code, the tables' words (any of lw_tbl by 'hts w (by decide +kernel)'), the script of L ints xs at the cell b, what the Statement gives of the start (any of its parts by flat_of_before) -/
def lw_At (p : Program) (s : State) (m : MethodId) (meth : Method) (c : Code) (b L : Nat) (xs : Nat → Int32) : Prop :=
  p.tables.exec = Jvm.exec ∧ c.code = code ∧ meth.sig.returnType = ret ∧ c.maxLocals = 8 ∧ s.vm.findClass R_law = some m.cls ∧ (∀ w ∈ lw_tbl, w.before #[Value.ref b] s = true) ∧ va_X b L xs s s.heap ∧ b < s.heap.size ∧ meth.locks = false ∧ (Jvm.Cond.and given_1 narrow_1).before #[Value.ref b] s = true
theorem eLS_w : ∀ t ∈ eLS, eAt t.2.2 (.stringRef RX8 t.1 t.2.1) = true := by decide +kernel
theorem eW_thr : Cond.initialized "java/lang/Throwable" ∈ lw_tbl := eAt_mem (i := 11) (by decide +kernel)
theorem eW_st0 : Cond.laysStatic Bundle.tN "UNASSIGNED_STACK" Bundle.steD ∈ lw_tbl := eAt_mem (i := 390) (by decide +kernel)
theorem eW_st1 : Cond.laysStatic Bundle.tN "SUPPRESSED_SENTINEL" Bundle.listD ∈ lw_tbl := eAt_mem (i := 392) (by decide +kernel)
theorem eW_a3 : Cond.arrayOver (.object RX3) ∈ lw_tbl := eAt_mem (i := 224) (by decide +kernel)
theorem eW_a6 : Cond.arrayOver (.object RX6) ∈ lw_tbl := eAt_mem (i := 226) (by decide +kernel)
theorem eW_a7 : Cond.arrayOver (.object RX7) ∈ lw_tbl := eAt_mem (i := 106) (by decide +kernel)
theorem aR_o {A : Array Value} {s : State} {C : String} (h : (Cond.arrayOver (.object C)).before A s = true) : ∃ cA : ClassId, ArrOfT s cA (.object C) ∧ va_RA s cA (.object C) := by
  obtain ⟨comp, c, k, h1, -, h3, h4, h5⟩ := Cond.arrayOver_spec h
  exact ⟨c, fun N z => ⟨fun k h => (by cases h), k, h3, comp, h4⟩, k, comp, h3, h4, h1, h5⟩
theorem aR_p {A : Array Value} {s : State} {ty : FieldType} (h : (Cond.arrayClass ty).before A s = true) (hr : ∀ cA, s.vm.findClass ("[" ++ ty.toString) = some cA → va_RA s cA ty) : ∃ cA : ClassId, ArrOfT s cA ty ∧ va_RA s cA ty := by
  obtain ⟨c, k, comp, h1, h2, h3⟩ := Cond.arrayClass_spec h
  exact ⟨c, fun N z => ⟨fun k h => (by cases h), k, h2, comp, h3⟩, hr c h1⟩
/-- what holds at the law's entry -/
theorem eEntry {p : Program} {s : State} {m : MethodId} {meth : Method} {c : Code} {b L : Nat} {xs : Nat → Int32} (C0 : lw_At p s m meth c b L xs) : ∃ (cA : FieldType → ClassId) (D : va_G), eSt b s.heap.size L xs cA D s := by
  obtain ⟨hx, hb, hr, hml, hown, hts, hX, hbl, hlocks, hgv⟩ := C0
  have hg : ∀ w ∈ gTb, w.before #[Value.ref b] s = true := fun w hw => hts w (List.mem_filter.mp hw).1
  have hs := flat_of_before _ hgv
  have hA : ∀ t : FieldType, ∃ cA : ClassId, t ∈ eTys → ArrOfT s cA t ∧ va_RA s cA t := by
    intro t
    by_cases ht : t ∈ eTys
    · suffices h : ∃ cA : ClassId, ArrOfT s cA t ∧ va_RA s cA t by
        obtain ⟨cA, h⟩ := h
        exact ⟨cA, fun _ => h⟩
      simp only [eTys, List.mem_cons, List.not_mem_nil, or_false] at ht
      rcases ht with rfl | rfl | rfl | rfl | rfl | rfl | rfl
      · exact aR_p (hg _ eAC_int) (fun _ h => h)
      · exact aR_p (hg _ eAC_boolean) (fun _ h => h)
      · exact aR_p (hg _ eAC_byte) (fun _ h => h)
      · exact aR_p (hg _ eAC_long) (fun _ h => h)
      · exact aR_o (hts _ eW_a3)
      · exact aR_o (hts _ eW_a6)
      · exact aR_o (hts _ eW_a7)
    · exact ⟨m.cls, fun h => absurd h ht⟩
  obtain ⟨cA, hcA⟩ := Classical.axiomOfChoice hA
  have hD : ∀ c : Nat, ∃ q : ClassId × (Nat → Nat), c < 10 → u_Kn s (eCN c) (eT c) (eNF c) q.1 q.2 := by
    intro c
    by_cases hc : c < 10
    · obtain ⟨cC, iS, h⟩ := u_known (C := eCN c) (T := eT c) (N := eNF c) hg (eU_in hc) (hg _ (eInst hc).1)
      exact ⟨(cC, iS), fun _ => h⟩
    · exact ⟨(m.cls, fun _ => 0), fun h => absurd h hc⟩
  obtain ⟨D, hD⟩ := Classical.axiomOfChoice hD
  have hK : va_K (fun c => (D c).1, fun c => (D c).2) eCl (eTs cA) s := by
    refine ⟨fun c q hq => ?_, fun k q hq => ?_⟩
    · have hc : c < 10 := (List.getElem?_eq_some_iff.mp hq).1
      rw [eCl_at hc] at hq
      cases hq
      exact hD c hc
    · have h := List.mem_of_getElem? hq
      obtain ⟨t, ht, rfl⟩ := List.mem_map.mp h
      exact hcA t ht
  have hcur : ∃ cur, s.vm.findClass RX8 = some cur := ⟨_, (hD 8 (by decide)).2.1⟩
  obtain ⟨cur, hcur⟩ := hcur
  refine ⟨cA, (fun c => (D c).1, fun c => (D c).2), hK, ?_, ?_, hX, hbl, Nat.le_refl _, fun w hw hn => va_Nw.of (eNg_tab hn) (hts w hw), ⟨va_AO.of (hts _ eW_a3), va_AO.of (hts _ eW_a6), va_AO.of (hts _ eW_a7)⟩, fun t ht => ?_, fun e e' he he' hne => ?_⟩
  · exact vx_Zqof (hts _ eW_st0) (hts _ eW_thr) (hs _ (by decide +kernel)) (fun a ha => Nat.not_le.mpr ha)
  · exact vx_Zqof (hts _ eW_st1) (hts _ eW_thr) (hs _ (by decide +kernel)) (fun a ha => Nat.not_le.mpr ha)
  · have h1 := hts _ (eAt_mem (eLS_w t ht))
    obtain ⟨-, -, -, sa, -, -, -, -, -, hev⟩ := Cond.stringRef_spec hcur h1
    exact ⟨sa, vk_R.of h1 hev⟩
  · have n1 : e = 0 ∨ e = 1 ∨ e = 2 ∨ e = 3 := by omega
    have n2 : e' = 0 ∨ e' = 1 ∨ e' = 2 ∨ e' = 3 := by omega
    rcases n1 with rfl | rfl | rfl | rfl <;> rcases n2 with rfl | rfl | rfl | rfl <;> first | exact absurd rfl hne | exact va_Nc.of (hs _ (by decide +kernel))
