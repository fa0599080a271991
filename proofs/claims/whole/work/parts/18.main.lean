/-! The machine's predicate is closed under rows of instructions; so 'Run' says what the machine does. -/
theorem chk1_d {μ pc len : Nat} {op : Instr} (hne : ∀ e, ¬ op = .checkcast e) (h : chk1 μ pc op len = true) : ∃ raw, decode (eB μ) pc = .ok (raw, len) ∧ rel μ pc op raw len = true := by
  unfold chk1 at h
  split at h
  · exact absurd rfl (hne _)
  · split at h
    · rename_i raw n hd
      simp only [Bool.and_eq_true, beq_iff_eq] at h
      exact ⟨raw, by rw [← h.2]; exact hd, h.1⟩
    · cases h
set_option maxHeartbeats 4000000 in
theorem snd1 {μ pc len : Nat} {op : Instr} {ls : eLs} {st : List Value} {σ : eS} {o : eO} {σo : eS} {k : eLs → List Value → eS → Prop} (hdp : 1 ≤ eDp μ) (hc : chk1 μ pc op len = true)
    (h : wp1 (eDen eMP) (eRt μ) (fun v σ1 => o = .inl v ∧ σo = σ1) (eTh eMP μ o σo) (fun pc ls st σ1 => eMP μ pc ls st σ1 o σo) op pc ls st σ k) (hk : ∀ ls st σ, k ls st σ → eMP μ (pc + len) ls st σ o σo) : eMP μ pc ls st σ o σo := by
  by_cases hcc : ∃ e, op = .checkcast e
  · obtain ⟨e, rfl⟩ := hcc
    simp only [wp1] at h
    obtain ⟨h8, h⟩ := h
    have hc2 := hc
    simp only [chk1, Bool.and_eq_true, Bool.not_eq_true', beq_eq_false_iff_ne, ne_eq] at hc2
    rcases h with ⟨-, -, rfl, rfl⟩ | ⟨h3, -⟩
    · exact m_throw hc h8
    · exact absurd h3 hc2.1.1.1.2
  obtain ⟨raw, hd, hr⟩ := chk1_d (fun e he => hcc ⟨e, he⟩) hc
  cases op <;> simp only [wp1] at h <;> try exact h.elim
  case aload i =>
    simp only [rel, il, iok, Bool.and_eq_true, decide_eq_true_eq, beq_iff_eq, Bool.and_true] at hr
    obtain ⟨rfl, rfl⟩ := hr
    split at h
    · rename_i a heq; exact m_aload hd heq (hk _ _ _ h)
    · exact h.elim
  case aload_n i =>
    simp only [rel, il, iok, Bool.and_eq_true, decide_eq_true_eq, beq_iff_eq, Bool.and_true] at hr
    obtain ⟨rfl, rfl⟩ := hr
    split at h
    · rename_i a heq; exact m_aload_n hd heq (hk _ _ _ h)
    · exact h.elim
  case iload i =>
    simp only [rel, il, iok, Bool.and_eq_true, decide_eq_true_eq, beq_iff_eq, Bool.and_true] at hr
    obtain ⟨rfl, rfl⟩ := hr
    split at h
    · rename_i a heq; exact m_iload hd heq (hk _ _ _ h)
    · exact h.elim
  case iload_n i =>
    simp only [rel, il, iok, Bool.and_eq_true, decide_eq_true_eq, beq_iff_eq, Bool.and_true] at hr
    obtain ⟨rfl, rfl⟩ := hr
    split at h
    · rename_i a heq; exact m_iload_n hd heq (hk _ _ _ h)
    · exact h.elim
  case lload i =>
    simp only [rel, il, iok, Bool.and_eq_true, decide_eq_true_eq, beq_iff_eq, Bool.and_true] at hr
    obtain ⟨rfl, rfl⟩ := hr
    split at h
    · rename_i a heq; exact m_lload hd heq (hk _ _ _ h)
    · exact h.elim
  case lload_n i =>
    simp only [rel, il, iok, Bool.and_eq_true, decide_eq_true_eq, beq_iff_eq, Bool.and_true] at hr
    obtain ⟨rfl, rfl⟩ := hr
    split at h
    · rename_i a heq; exact m_lload_n hd heq (hk _ _ _ h)
    · exact h.elim
  case istore i =>
    simp only [rel, il, iok, Bool.and_eq_true, decide_eq_true_eq, beq_iff_eq, Bool.and_true] at hr
    obtain ⟨⟨rfl, rfl⟩, hi⟩ := hr
    split at h
    · exact m_istore hd hi (hk _ _ _ h)
    · exact h.elim
  case istore_n i =>
    simp only [rel, il, iok, Bool.and_eq_true, decide_eq_true_eq, beq_iff_eq, Bool.and_true] at hr
    obtain ⟨⟨rfl, rfl⟩, hi⟩ := hr
    split at h
    · exact m_istore_n hd hi (hk _ _ _ h)
    · exact h.elim
  case astore i =>
    simp only [rel, il, iok, Bool.and_eq_true, decide_eq_true_eq, beq_iff_eq, Bool.and_true] at hr
    obtain ⟨⟨rfl, rfl⟩, hi⟩ := hr
    split at h
    · exact m_astore hd hi (hk _ _ _ h)
    · exact h.elim
  case astore_n i =>
    simp only [rel, il, iok, Bool.and_eq_true, decide_eq_true_eq, beq_iff_eq, Bool.and_true] at hr
    obtain ⟨⟨rfl, rfl⟩, hi⟩ := hr
    split at h
    · exact m_astore_n hd hi (hk _ _ _ h)
    · exact h.elim
  case lstore i =>
    simp only [rel, il, iok, Bool.and_eq_true, decide_eq_true_eq, beq_iff_eq, Bool.and_true] at hr
    obtain ⟨⟨rfl, rfl⟩, hi⟩ := hr
    split at h
    · exact m_lstore hd hi (hk _ _ _ h)
    · exact h.elim
  case lstore_n i =>
    simp only [rel, il, iok, Bool.and_eq_true, decide_eq_true_eq, beq_iff_eq, Bool.and_true] at hr
    obtain ⟨⟨rfl, rfl⟩, hi⟩ := hr
    split at h
    · exact m_lstore_n hd hi (hk _ _ _ h)
    · exact h.elim
  case iinc i n =>
    simp only [rel, il, iok, Bool.and_eq_true, decide_eq_true_eq, beq_iff_eq, Bool.and_true] at hr
    obtain ⟨⟨rfl, rfl⟩, hi⟩ := hr
    split at h
    · rename_i a heq; exact m_iinc hd hi heq (hk _ _ _ h)
    · exact h.elim
  case lconst v =>
    simp only [rel, il, iok, Bool.and_eq_true, decide_eq_true_eq, beq_iff_eq, Bool.and_true] at hr
    obtain ⟨rfl, rfl⟩ := hr
    exact m_lconst hd (hk _ _ _ h)
  case iadd  =>
    simp only [rel, il, iok, Bool.and_eq_true, decide_eq_true_eq, beq_iff_eq, Bool.and_true] at hr
    obtain ⟨rfl, rfl⟩ := hr
    split at h
    · exact m_iadd hd (hk _ _ _ h)
    · exact h.elim
  case isub  =>
    simp only [rel, il, iok, Bool.and_eq_true, decide_eq_true_eq, beq_iff_eq, Bool.and_true] at hr
    obtain ⟨rfl, rfl⟩ := hr
    split at h
    · exact m_isub hd (hk _ _ _ h)
    · exact h.elim
  case imul  =>
    simp only [rel, il, iok, Bool.and_eq_true, decide_eq_true_eq, beq_iff_eq, Bool.and_true] at hr
    obtain ⟨rfl, rfl⟩ := hr
    split at h
    · exact m_imul hd (hk _ _ _ h)
    · exact h.elim
  case iand  =>
    simp only [rel, il, iok, Bool.and_eq_true, decide_eq_true_eq, beq_iff_eq, Bool.and_true] at hr
    obtain ⟨rfl, rfl⟩ := hr
    split at h
    · exact m_iand hd (hk _ _ _ h)
    · exact h.elim
  case ishr  =>
    simp only [rel, il, iok, Bool.and_eq_true, decide_eq_true_eq, beq_iff_eq, Bool.and_true] at hr
    obtain ⟨rfl, rfl⟩ := hr
    split at h
    · exact m_ishr hd (hk _ _ _ h)
    · exact h.elim
  case iushr  =>
    simp only [rel, il, iok, Bool.and_eq_true, decide_eq_true_eq, beq_iff_eq, Bool.and_true] at hr
    obtain ⟨rfl, rfl⟩ := hr
    split at h
    · exact m_iushr hd (hk _ _ _ h)
    · exact h.elim
  case ladd  =>
    simp only [rel, il, iok, Bool.and_eq_true, decide_eq_true_eq, beq_iff_eq, Bool.and_true] at hr
    obtain ⟨rfl, rfl⟩ := hr
    split at h
    · exact m_ladd hd (hk _ _ _ h)
    · exact h.elim
  case lsub  =>
    simp only [rel, il, iok, Bool.and_eq_true, decide_eq_true_eq, beq_iff_eq, Bool.and_true] at hr
    obtain ⟨rfl, rfl⟩ := hr
    split at h
    · exact m_lsub hd (hk _ _ _ h)
    · exact h.elim
  case lmul  =>
    simp only [rel, il, iok, Bool.and_eq_true, decide_eq_true_eq, beq_iff_eq, Bool.and_true] at hr
    obtain ⟨rfl, rfl⟩ := hr
    split at h
    · exact m_lmul hd (hk _ _ _ h)
    · exact h.elim
  case land  =>
    simp only [rel, il, iok, Bool.and_eq_true, decide_eq_true_eq, beq_iff_eq, Bool.and_true] at hr
    obtain ⟨rfl, rfl⟩ := hr
    split at h
    · exact m_land hd (hk _ _ _ h)
    · exact h.elim
  case lor  =>
    simp only [rel, il, iok, Bool.and_eq_true, decide_eq_true_eq, beq_iff_eq, Bool.and_true] at hr
    obtain ⟨rfl, rfl⟩ := hr
    split at h
    · exact m_lor hd (hk _ _ _ h)
    · exact h.elim
  case lshl  =>
    simp only [rel, il, iok, Bool.and_eq_true, decide_eq_true_eq, beq_iff_eq, Bool.and_true] at hr
    obtain ⟨rfl, rfl⟩ := hr
    split at h
    · exact m_lshl hd (hk _ _ _ h)
    · exact h.elim
  case i2l  =>
    simp only [rel, il, iok, Bool.and_eq_true, decide_eq_true_eq, beq_iff_eq, Bool.and_true] at hr
    obtain ⟨rfl, rfl⟩ := hr
    split at h
    · exact m_i2l hd (hk _ _ _ h)
    · exact h.elim
  case lcmp  =>
    simp only [rel, il, iok, Bool.and_eq_true, decide_eq_true_eq, beq_iff_eq, Bool.and_true] at hr
    obtain ⟨rfl, rfl⟩ := hr
    split at h
    · exact m_lcmp hd (hk _ _ _ h)
    · exact h.elim
  case pop2  =>
    simp only [rel, il, iok, Bool.and_eq_true, decide_eq_true_eq, beq_iff_eq, Bool.and_true] at hr
    obtain ⟨rfl, rfl⟩ := hr
    split at h
    · exact m_pop2 hd (hk _ _ _ h)
    · exact h.elim
  case idiv  =>
    simp only [rel, il, iok, Bool.and_eq_true, decide_eq_true_eq, beq_iff_eq, Bool.and_true] at hr
    obtain ⟨rfl, rfl⟩ := hr
    split at h
    · exact m_idiv hd h.1 (hk _ _ _ h.2)
    · exact h.elim
  case irem  =>
    simp only [rel, il, iok, Bool.and_eq_true, decide_eq_true_eq, beq_iff_eq, Bool.and_true] at hr
    obtain ⟨rfl, rfl⟩ := hr
    split at h
    · exact m_irem hd h.1 (hk _ _ _ h.2)
    · exact h.elim
  case ldiv  =>
    simp only [rel, il, iok, Bool.and_eq_true, decide_eq_true_eq, beq_iff_eq, Bool.and_true] at hr
    obtain ⟨rfl, rfl⟩ := hr
    split at h
    · exact m_ldiv hd h.1 (hk _ _ _ h.2)
    · exact h.elim
  case dup  =>
    simp only [rel, il, iok, Bool.and_eq_true, decide_eq_true_eq, beq_iff_eq, Bool.and_true] at hr
    obtain ⟨rfl, rfl⟩ := hr
    split at h
    · exact m_dup hd h.1 (hk _ _ _ h.2)
    · exact h.elim
  case dup2  =>
    simp only [rel, il, iok, Bool.and_eq_true, decide_eq_true_eq, beq_iff_eq, Bool.and_true] at hr
    obtain ⟨rfl, rfl⟩ := hr
    split at h
    · exact m_dup2 hd h.1 h.2.1 (hk _ _ _ h.2.2)
    · exact h.elim
  case goto off =>
    simp only [rel, Bool.and_eq_true, decide_eq_true_eq, beq_iff_eq] at hr
    obtain ⟨⟨rfl, rfl⟩, hj⟩ := hr
    exact m_goto hd hj h
  case ifCond c off =>
    simp only [rel, Bool.and_eq_true, decide_eq_true_eq, beq_iff_eq] at hr
    obtain ⟨⟨rfl, rfl⟩, hj⟩ := hr
    split at h
    · cases c
      · exact m_if_eq hd hj h.1 (fun z => hk _ _ _ (h.2 z))
      · exact m_if_ne hd hj h.1 (fun z => hk _ _ _ (h.2 z))
      · exact m_if_lt hd hj h.1 (fun z => hk _ _ _ (h.2 z))
      · exact m_if_ge hd hj h.1 (fun z => hk _ _ _ (h.2 z))
      · exact m_if_gt hd hj h.1 (fun z => hk _ _ _ (h.2 z))
      · exact m_if_le hd hj h.1 (fun z => hk _ _ _ (h.2 z))
    · exact h.elim
  case if_icmp c off =>
    simp only [rel, Bool.and_eq_true, decide_eq_true_eq, beq_iff_eq] at hr
    obtain ⟨⟨rfl, rfl⟩, hj⟩ := hr
    split at h
    · cases c
      · exact m_icmp_eq hd hj h.1 (fun z => hk _ _ _ (h.2 z))
      · exact m_icmp_ne hd hj h.1 (fun z => hk _ _ _ (h.2 z))
      · exact m_icmp_lt hd hj h.1 (fun z => hk _ _ _ (h.2 z))
      · exact m_icmp_ge hd hj h.1 (fun z => hk _ _ _ (h.2 z))
      · exact m_icmp_gt hd hj h.1 (fun z => hk _ _ _ (h.2 z))
      · exact m_icmp_le hd hj h.1 (fun z => hk _ _ _ (h.2 z))
    · exact h.elim
  case tableswitch d lo hi offs =>
    simp only [rel, decide_eq_true_eq] at hr
    subst hr
    split at h
    · obtain ⟨off, h1, h2, h3⟩ := h; exact m_tableswitch hd h1 h2 h3
    · exact h.elim
  case lookupswitch d ps =>
    simp only [rel, Bool.and_eq_true, decide_eq_true_eq] at hr
    obtain ⟨rfl, hp⟩ := hr
    split at h
    · exact m_lookupswitch hd (by simpa using hp) h.1 h.2
    · exact h.elim
  case iconst v =>
    simp only [rel] at hr
    split at hr
    · simp only [Bool.and_eq_true, beq_iff_eq] at hr; obtain ⟨rfl, rfl⟩ := hr; exact m_iconst hd (hk _ _ _ h)
    · simp only [Bool.and_eq_true, beq_iff_eq, decide_eq_true_eq] at hr; obtain ⟨hv, rfl⟩ := hr; exact m_bipush hd hv (hk _ _ _ h)
    · simp only [Bool.and_eq_true, beq_iff_eq, decide_eq_true_eq] at hr; obtain ⟨hv, rfl⟩ := hr; exact m_sipush hd hv (hk _ _ _ h)
    · simp only [Bool.and_eq_true, beq_iff_eq] at hr; obtain ⟨hv, rfl⟩ := hr; exact m_ldc hd (lkC_spec hv) (hk _ _ _ h)
    · simp only [Bool.and_eq_true, beq_iff_eq] at hr; obtain ⟨hv, rfl⟩ := hr; exact m_ldc_w hd (lkC_spec hv) (hk _ _ _ h)
    · cases hr
  case ldc2_w v =>
    simp only [rel, Bool.and_eq_true, beq_iff_eq] at hr
    obtain ⟨rfl, hr⟩ := hr
    split at hr
    · exact m_ldc2_w hd (lkL_spec hr) (hk _ _ _ h)
    · cases hr
  case getfield f =>
    simp only [rel, Bool.and_eq_true, beq_iff_eq] at hr
    obtain ⟨rfl, hr⟩ := hr
    split at hr
    · split at h
      · obtain ⟨ho, h⟩ := h
        cases hrf : eRf (f / 64) (f % 64) with
        | true => rw [hrf] at h; exact m_getR hd hr ho hrf h.1 (hk _ _ _ h.2)
        | false => rw [hrf] at h; exact m_getI hd hr ho hrf (hk _ _ _ h)
      · exact h.elim
    · cases hr
  case putfield f =>
    simp only [rel, Bool.and_eq_true, beq_iff_eq] at hr
    obtain ⟨rfl, hr⟩ := hr
    split at hr
    · split at h
      · obtain ⟨ho, h⟩ := h
        cases hrf : eRf (f / 64) (f % 64) with
        | true =>
          rw [hrf] at h
          dsimp only at h
          split at h
          · exact m_putR hd hr ho hrf h.1 (hk _ _ _ h.2)
          · exact h.elim
        | false =>
          rw [hrf] at h
          dsimp only at h
          split at h
          · exact m_putI hd hr ho hrf h.1 (hk _ _ _ h.2)
          · exact h.elim
      · exact h.elim
    · cases hr
  case iaload  =>
    simp only [rel, il, iok, Bool.and_eq_true, decide_eq_true_eq, beq_iff_eq, Bool.and_true] at hr
    obtain ⟨rfl, rfl⟩ := hr
    split at h
    · obtain ⟨n, h1, h2, h3⟩ := h; exact m_iaload hd h1 h2 (hk _ _ _ h3)
    · exact h.elim
  case baload  =>
    simp only [rel, il, iok, Bool.and_eq_true, decide_eq_true_eq, beq_iff_eq, Bool.and_true] at hr
    obtain ⟨rfl, rfl⟩ := hr
    split at h
    · obtain ⟨ty, n, h1, h2, h3, h4, h5⟩ := h; exact m_baload hd h1 h2 h3 h4 (hk _ _ _ h5)
    · exact h.elim
  case laload  =>
    simp only [rel, il, iok, Bool.and_eq_true, decide_eq_true_eq, beq_iff_eq, Bool.and_true] at hr
    obtain ⟨rfl, rfl⟩ := hr
    split at h
    · obtain ⟨n, h1, h2, h3, h4⟩ := h; exact m_laload hd h1 h2 h3 (hk _ _ _ h4)
    · exact h.elim
  case aaload  =>
    simp only [rel, il, iok, Bool.and_eq_true, decide_eq_true_eq, beq_iff_eq, Bool.and_true] at hr
    obtain ⟨rfl, rfl⟩ := hr
    split at h
    · obtain ⟨C, n, h1, h2, h3, h4, h5⟩ := h; exact m_aaload hd h1 h2 h3 h4 (hk _ _ _ h5)
    · exact h.elim
  case iastore  =>
    simp only [rel, il, iok, Bool.and_eq_true, decide_eq_true_eq, beq_iff_eq, Bool.and_true] at hr
    obtain ⟨rfl, rfl⟩ := hr
    split at h
    · obtain ⟨n, h1, h2, h3, h4⟩ := h; exact m_iastore hd h1 h2 h3 (hk _ _ _ h4)
    · exact h.elim
  case bastore  =>
    simp only [rel, il, iok, Bool.and_eq_true, decide_eq_true_eq, beq_iff_eq, Bool.and_true] at hr
    obtain ⟨rfl, rfl⟩ := hr
    split at h
    · obtain ⟨ty, n, h1, h2, h3, h4, h5⟩ := h; exact m_bastore hd h1 h2 h3 h4 (hk _ _ _ h5)
    · exact h.elim
  case lastore  =>
    simp only [rel, il, iok, Bool.and_eq_true, decide_eq_true_eq, beq_iff_eq, Bool.and_true] at hr
    obtain ⟨rfl, rfl⟩ := hr
    split at h
    · obtain ⟨n, h1, h2, h3, h4⟩ := h; exact m_lastore hd h1 h2 h3 (hk _ _ _ h4)
    · exact h.elim
  case aastore  =>
    simp only [rel, il, iok, Bool.and_eq_true, decide_eq_true_eq, beq_iff_eq, Bool.and_true] at hr
    obtain ⟨rfl, rfl⟩ := hr
    split at h
    · obtain ⟨ci, n, h0, h1, h2, h3, h4, h5⟩ := h; exact m_aastore hd h0 h1 h2 h3 h4 (hk _ _ _ h5)
    · exact h.elim
  case arraylength  =>
    simp only [rel, il, iok, Bool.and_eq_true, decide_eq_true_eq, beq_iff_eq, Bool.and_true] at hr
    obtain ⟨rfl, rfl⟩ := hr
    split at h
    · obtain ⟨ty, n, h1, h2⟩ := h; exact m_arraylength hd h1 (hk _ _ _ h2)
    · exact h.elim
  case new c =>
    simp only [rel, Bool.and_eq_true, beq_iff_eq] at hr
    obtain ⟨rfl, hr⟩ := hr
    split at hr
    · exact m_new hd hr h.1 (hk _ _ _ h.2)
    · cases hr
  case newarray t =>
    simp only [rel, Bool.and_eq_true, beq_iff_eq, decide_eq_true_eq] at hr
    obtain ⟨⟨rfl, rfl⟩, ht⟩ := hr
    split at h
    · obtain ⟨h0, h1, h2, h3⟩ := h
      exact m_newarray (by cases t <;> first | (simp; done) | cases ht) hd h0 h1 h2 (hk _ _ _ h3)
    · exact h.elim
  case anewarray c =>
    simp only [rel, Bool.and_eq_true, beq_iff_eq] at hr
    obtain ⟨rfl, hr⟩ := hr
    split at hr
    · simp only [Bool.and_eq_true, Bool.or_eq_true, beq_iff_eq] at hr
      split at h
      · obtain ⟨h0, h1, h2, h3⟩ := h
        exact m_anewarray (by omega) hd hr.1 h0 h1 h2 (hk _ _ _ h3)
      · exact h.elim
    · cases hr
  case dadd  =>
    simp only [rel, Bool.and_eq_true, beq_iff_eq] at hr
    obtain ⟨rfl, hr⟩ := hr
    split at hr
    · split at h
      · exact m_dadd hd (lkX_spec hr) eMath_max_st eMath_in eMath_max_co hdp h.1 (hk _ _ _ h.2)
      · exact h.elim
    · cases hr
  case dsub  =>
    simp only [rel, Bool.and_eq_true, beq_iff_eq] at hr
    obtain ⟨rfl, hr⟩ := hr
    split at hr
    · split at h
      · exact m_dsub hd (lkX_spec hr) eMath_min_st eMath_in eMath_min_co hdp h.1 (hk _ _ _ h.2)
      · exact h.elim
    · cases hr
  case monitorenter  =>
    simp only [rel, Bool.and_eq_true, beq_iff_eq] at hr
    obtain ⟨rfl, hr⟩ := hr
    split at hr
    · split at h
      · exact m_objInit hd (lkO_spec hr) eObj_in eObj_co hdp h.1 (hk _ _ _ h.2)
      · exact h.elim
    · cases hr
  case monitorexit  =>
    simp only [rel, Bool.and_eq_true, beq_iff_eq] at hr
    obtain ⟨rfl, hr⟩ := hr
    split at hr
    · split at h
      · obtain ⟨h1, h2, h3, h4, h5, h6, h7⟩ := h
        rcases h7 with ⟨n0, n1, a1, a2, a3, a4, a5⟩ | ⟨n0, n1, a1, a2, a3, a4, a5⟩
        · exact m_copyI hd (lkP_spec hr) eSys_nat eSys_st eSys_in hdp h1 h2 h3 h4 h5 h6 a1 a2 a3 a4 (hk _ _ _ a5)
        · exact m_copyL hd (lkP_spec hr) eSys_nat eSys_st eSys_in hdp h1 h2 h3 h4 h5 h6 a1 a2 a3 a4 (hk _ _ _ a5)
      · exact h.elim
    · cases hr
  case invokeinterface q n =>
    simp only [rel, Bool.and_eq_true, beq_iff_eq, decide_eq_true_eq] at hr
    obtain ⟨⟨⟨rfl, hq⟩, hdq⟩, hr⟩ := hr
    have hraw : eRaw μ pc q n := by
      split at hr
      · rename_i i; simp only [Bool.and_eq_true, beq_iff_eq] at hr; exact ⟨i, hr.1.1, Or.inl ⟨hd, hr.1.2, hr.2⟩⟩
      · rename_i i; simp only [Bool.and_eq_true, beq_iff_eq, Bool.or_eq_true] at hr; exact ⟨i, hr.1.1, Or.inr (Or.inl ⟨hd, hr.1.2, hr.2⟩)⟩
      · rename_i i; simp only [Bool.and_eq_true, beq_iff_eq] at hr; exact ⟨i, hr.1.1, Or.inr (Or.inr ⟨hd, hr.1.2, hr.2⟩)⟩
      · cases hr
    obtain ⟨h1, h0, h2, h3, h4⟩ := h
    rcases h4 with ⟨v, σ1, a1, a2⟩ | ⟨e, σ1, a0, a1, a2⟩
    · exact m_callR hq hdq hraw h1 h0 h2 h3 a1 (hk _ _ _ a2)
    · exact m_callX hq a0 hdq hraw h1 h0 h2 h3 a1 a2
  case checkcast e =>
    exact absurd ⟨e, rfl⟩ hcc
  case ireturn  =>
    simp only [rel, il, iok, Bool.and_eq_true, decide_eq_true_eq, beq_iff_eq, Bool.and_true] at hr
    obtain ⟨rfl, rfl⟩ := hr
    split at h
    · unfold retI at h
      split at h
      · rename_i ty hty; obtain ⟨hn, rfl, rfl⟩ := h; exact m_ireturn hd hty hn
      · exact h.elim
    · exact h.elim
  case lreturn  =>
    simp only [rel, il, iok, Bool.and_eq_true, decide_eq_true_eq, beq_iff_eq, Bool.and_true] at hr
    obtain ⟨rfl, rfl⟩ := hr
    split at h
    · obtain ⟨hn, rfl, rfl⟩ := h; exact m_lreturn hd hn
    · exact h.elim
  case return_  =>
    simp only [rel, il, iok, Bool.and_eq_true, decide_eq_true_eq, beq_iff_eq, Bool.and_true] at hr
    obtain ⟨rfl, rfl⟩ := hr
    split at h
    · obtain ⟨hn, rfl, rfl⟩ := h; exact m_return hd hn
    · exact h.elim
theorem eDp_ok : ((List.range 175).all fun q => decide (1 ≤ eDp q)) = true := by decide +kernel
theorem eMP_sub {μ pc : Nat} {ls ls' : eLs} {st : List Value} {σ : eS} {o : eO} {σo : eS} (hs : ∀ q ∈ ls', q ∈ ls) (h : eMP μ pc ls' st σ o σo) : eMP μ pc ls st σ o σo :=
  ⟨h.1, fun l b base L xs cA D p e R s m args below meth c mc ms hl hf hS hr hmc hms H locs cells slots la hR hS2 hla hsz hc hz => h.2 l b base L xs cA D p e R s m args below meth c mc ms hl hf hS hr hmc hms H locs cells slots la hR hS2 ⟨hla.1, hla.2.1, fun q hq => by
    obtain ⟨q0, hq0, rfl⟩ := List.mem_map.mp hq
    exact hla.2.2 _ (List.mem_map.mpr ⟨q0, hs q0 hq0, rfl⟩)⟩ hsz hc hz⟩
theorem sndB {μ : Nat} (hdp : 1 ≤ eDp μ) (ops : List (Instr × Nat)) : ∀ {pc : Nat} {ls : eLs} {st : List Value} {σ : eS} {o : eO} {σo : eS}, chk μ pc ops = true →
    wp (eDen eMP) (eRt μ) (fun v σ1 => o = .inl v ∧ σo = σ1) (eTh eMP μ o σo) (fun pc ls st σ1 => eMP μ pc ls st σ1 o σo) ops pc ls st σ → eMP μ pc ls st σ o σo := by
  induction ops with
  | nil => intro pc ls st σ o σo _ h; exact h
  | cons a r ih =>
    obtain ⟨op, len⟩ := a
    intro pc ls st σ o σo hc h
    simp only [chk, Bool.and_eq_true] at hc
    exact snd1 hdp hc.1 h (fun ls st σ h9 => ih hc.2 h9)
theorem eDp_pos (μ : Nat) : 1 ≤ eDp μ := by
  by_cases h : μ < 175
  · exact of_decide_eq_true (List.all_eq_true.mp eDp_ok μ (List.mem_range.mpr h))
  · have e1 : eMs[μ]? = none := List.getElem?_eq_none (by rw [show eMs.length = 175 by decide +kernel]; omega)
    unfold eDp eM
    rw [e1]
    exact Nat.le_refl 1
theorem eClosed_mp : eClosed eMP :=
  ⟨fun μ pc ops ls st σ o σo hc h => sndB (eDp_pos μ) ops hc h, fun μ pc ls ls' st σ o σo hs h => eMP_sub hs h, fun μ pc ls st σ σ' o σo hA h => eMP_ag hA h⟩
theorem Run.sound {μ pc : Nat} {ls : eLs} {st : List Value} {σ : eS} {o : eO} {σo : eS} (h : Run μ pc ls st σ o σo) : eMP μ pc ls st σ o σo := h eMP eClosed_mp
