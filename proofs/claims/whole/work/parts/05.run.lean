/-! What a row of instructions must be among the bytes ('chk'), and 'Run'. -/
def lkF (own i c : Nat) : Bool := eLF.any fun t => t.1 == own && t.2.1 == i && (64 * t.2.2.1 + t.2.2.2.1 == c)
def lkG (μ i c : Nat) : Bool := eLF.any fun t => t.1 == eC μ && t.2.1 == i && (64 * t.2.2.1 + t.2.2.2.1 == c) && (!(eT t.2.2.1 t.2.2.2.1).2.2.2 || (!t.2.2.2.2.1 && eKd μ == 2 && decide ((eT t.2.2.1 t.2.2.2.1).1 = eCN (eC μ))))
def lkM (own i q : Nat) : Bool := eLM.any fun t => t.1 == own && t.2.1 == i && t.2.2.1 == q
def lkC (own i : Nat) (v : Int) : Bool := eLC.any fun t => t.1 == own && t.2.1 == i && t.2.2.1 == v
def lkL (own i v : Nat) : Bool := eLL.any fun t => t.1 == own && t.2.1 == i && t.2.2.1 == v
def lkN (own i c : Nat) : Bool := eLN.any fun t => t.1 == own && t.2.1 == i && t.2.2.1 == c
def lkE (own i e : Nat) : Bool := eLE.any fun t => t.1 == own && t.2.1 == i && t.2.2.1 == e
def lkI (own i e : Nat) : Bool := eLI.any fun t => t.1 == own && t.2.1 == i && t.2.2.1 == e
def lkX (own i e : Nat) : Bool := eLX.any fun t => t.1 == own && t.2.1 == i && t.2.2.1 == e
def lkO (own i : Nat) : Bool := eLO.any fun t => t.1 == own && t.2.1 == i
def lkP (own i : Nat) : Bool := eLP.any fun t => t.1 == own && t.2.1 == i
def lkS (i : Nat) : Bool := eLS.any fun t => t.1 == i
def okj (pc : Nat) (off : Int) : Bool := decide (0 ≤ (pc : Int) + off)
def il (op : Instr) : Nat := match op with
  | .aload _ => 2 | .iload _ => 2 | .lload _ => 2 | .istore _ => 2 | .astore _ => 2 | .lstore _ => 2 | .iinc _ _ => 3 | _ => 1
def iok (μ : Nat) (op : Instr) : Bool := match op with
  | .istore i => decide (i < eL μ) | .istore_n i => decide ((i : Nat) < eL μ) | .astore i => decide (i < eL μ) | .astore_n i => decide ((i : Nat) < eL μ)
  | .lstore i => decide (i + 1 < eL μ) | .lstore_n i => decide ((i : Nat) + 1 < eL μ) | .iinc i _ => decide (i < eL μ) | _ => true
def rel (μ pc : Nat) (op raw : Instr) (len : Nat) : Bool :=
  match op with
  | .getfield f => len == 3 && (match raw with | .getfield i => lkF (eC μ) i f | _ => false)
  | .putfield f => len == 3 && (match raw with | .putfield i => lkG μ i f | _ => false)
  | .invokeinterface q n => len == 3 && decide (q < 174) && decide (eDp q < eDp μ) && (match raw with
    | .invokevirtual i => lkM (eC μ) i q && eKd q == 0 && n == eNP q + 1
    | .invokestatic i => lkM (eC μ) i q && (eKd q == 1 || eKd q == 3) && n == eNP q
    | .invokespecial i => lkM (eC μ) i q && eKd q == 2 && n == eNP q + 1
    | _ => false)
  | .iconst v => (match raw with
    | .iconst w => w == v && len == 1
    | .bipush w => decide ((Int8.ofInt w).toInt32 = Int32.ofInt v) && len == 2
    | .sipush w => decide ((Int16.ofInt w).toInt32 = Int32.ofInt v) && len == 3
    | .ldc i => lkC (eC μ) i v && len == 2
    | .ldc_w i => lkC (eC μ) i v && len == 3
    | _ => false)
  | .ldc2_w v => len == 3 && (match raw with | .ldc2_w i => lkL (eC μ) i v | _ => false)
  | .new c => len == 3 && (match raw with | .new i => lkN (eC μ) i c | _ => false)
  | .anewarray c => len == 3 && (match raw with | .anewarray i => lkN (eC μ) i c && (c == 3 || c == 6 || c == 7) | _ => false)
  | .newarray t => len == 2 && decide (raw = .newarray t) && (match t with | .int => true | .long => true | .byte => true | .boolean => true | _ => false)
  | .monitorenter => len == 3 && (match raw with | .invokespecial i => lkO (eC μ) i | _ => false)
  | .monitorexit => len == 3 && (match raw with | .invokestatic i => lkP (eC μ) i | _ => false)
  | .dadd => len == 3 && (match raw with | .invokestatic i => lkX (eC μ) i 1 | _ => false)
  | .dsub => len == 3 && (match raw with | .invokestatic i => lkX (eC μ) i 0 | _ => false)
  | .checkcast _ => false
  | .goto off => len == 3 && decide (raw = op) && okj pc off
  | .ifCond _ off => len == 3 && decide (raw = op) && okj pc off
  | .if_icmp _ off => len == 3 && decide (raw = op) && okj pc off
  | .tableswitch _ _ _ _ => decide (raw = op)
  | .lookupswitch _ ps => decide (raw = op) && (ps.toList.zip (ps.toList.drop 1)).all (fun (a, next) => a.1 < next.1)
  | op => decide (raw = op) && len == il op && iok μ op
def chk1 (μ pc : Nat) (op : Instr) (len : Nat) : Bool :=
  match op with
  | .checkcast e => decide (e < 4) && eC μ == 8 && !(eKd μ == 3) && !(eKd μ == 4) && decide (6 ≤ eDp μ) && (match decode (eB μ) pc, decode (eB μ) (pc + 3), decode (eB μ) (pc + 4) with
    | .ok (.new ik, 3), .ok (.dup, 1), .ok (.ldc is, 2) => lkE 8 ik e && lkS is && (match decode (eB μ) (pc + 6), decode (eB μ) (pc + 9) with | .ok (.invokespecial ic, 3), .ok (.athrow, 1) => lkI 8 ic e | _, _ => false)
    | .ok (.new ik, 3), .ok (.dup, 1), .ok (.ldc_w is, 3) => lkE 8 ik e && lkS is && (match decode (eB μ) (pc + 7), decode (eB μ) (pc + 10) with | .ok (.invokespecial ic, 3), .ok (.athrow, 1) => lkI 8 ic e | _, _ => false)
    | _, _, _ => false)
  | op => (match decode (eB μ) pc with
    | .ok (raw, n) => rel μ pc op raw len && n == len
    | _ => false)
def chk (μ : Nat) : Nat → List (Instr × Nat) → Bool
  | _, [] => true
  | pc, (op, len) :: r => chk1 μ pc op len && chk μ (pc + len) r
/-- the handler j of a method takes e thrown at pc: its first instruction stores it into the place k -/
def hOk (μ e pc j h k len : Nat) : Bool := (match (eHL μ)[j]? with
  | some x => decide (x.1 ≤ pc) && decide (pc < x.2.1) && x.2.2.1 == h && lkE 10 x.2.2.2 e && !(x.2.2.2 == 0) && ((eHL μ).take j).all (fun y => !(y.2.2.2 == 0) && (List.range 4).any (fun e' => !(e' == e) && lkE 10 y.2.2.2 e'))
  | none => false) && (match decode (eB μ) h with | .ok (.astore_n i, 1) => (i : Nat) == k && len == 1 | .ok (.astore i, 2) => i == k && len == 2 | _ => false) && decide (k < eL μ) && decide (e < 4) && eC μ == 10
/-- two stores that show the same cells -/
def eAg (σ σ' : eS) : Prop := sN σ' = sN σ ∧ sH σ' = sH σ ∧ sZ σ' = sZ σ ∧ sK σ' 0 = sK σ 0 ∧ (∀ j, sI σ' 0 j = sI σ 0 j) ∧ ∀ a, 0 < a → a < sN σ → sK σ' a = sK σ a ∧
  (∀ c, sK σ a = .inl c → ∀ i, i < eNF c → sI σ' a i = sI σ a i ∧ sR σ' a i = sR σ a i) ∧ (∀ ty n, sK σ a = .inr (ty, n) → ∀ i, i < n → sI σ' a i = sI σ a i ∧ sL σ' a i = sL σ a i ∧ sR σ' a i = sR σ a i)
abbrev eP : Type := Nat → Nat → eLs → List Value → eS → eO → eS → Prop
def eDen (P : eP) : eD := fun q args σ o σ1 => P q 0 (lv_args 0 args) [] σ o σ1
def eTh (P : eP) (μ : Nat) (o : eO) (σo : eS) : Nat → Nat → eLs → eS → Prop := fun e pc ls σ =>
  (¬ eKd μ = 3 ∧ ¬ eKd μ = 4 ∧ o = .inr e ∧ σo = σ) ∨ (eKd μ = 3 ∧ ∃ j h k len, hOk μ e pc j h k len = true ∧ P μ (h + len) (fl1 ls k) [] σ o σo)
def eClosed (P : eP) : Prop :=
  (∀ μ pc ops ls st σ o σo, chk μ pc ops = true → wp (eDen P) (eRt μ) (fun v σ1 => o = .inl v ∧ σo = σ1) (eTh P μ o σo) (fun pc ls st σ1 => P μ pc ls st σ1 o σo) ops pc ls st σ → P μ pc ls st σ o σo) ∧
  (∀ μ pc ls ls' st σ o σo, (∀ q ∈ ls', q ∈ ls) → P μ pc ls' st σ o σo → P μ pc ls st σ o σo) ∧
  (∀ μ pc ls st σ σ' o σo, eAg σ σ' → P μ pc ls st σ' o σo → P μ pc ls st σ o σo)
def Run : eP := fun μ pc ls st σ o σo => ∀ P : eP, eClosed P → P μ pc ls st σ o σo
abbrev Den : eD := eDen Run
theorem wp1_mono {D D' : eD} {rt : Option FieldType} {Rt Rt' : Option Value → eS → Prop} {Th Th' : Nat → Nat → eLs → eS → Prop} {Q Q' : Nat → eLs → List Value → eS → Prop}
    (hD : ∀ q a σ o σ1, D q a σ o σ1 → D' q a σ o σ1) (hR : ∀ v σ, Rt v σ → Rt' v σ) (hT : ∀ e pc ls σ, Th e pc ls σ → Th' e pc ls σ) (hQ : ∀ pc ls st σ, Q pc ls st σ → Q' pc ls st σ)
    {op : Instr} {pc : Nat} {ls : eLs} {st : List Value} {σ : eS} {k k' : eLs → List Value → eS → Prop} (hk : ∀ ls st σ, k ls st σ → k' ls st σ) (h : wp1 D rt Rt Th Q op pc ls st σ k) : wp1 D' rt Rt' Th' Q' op pc ls st σ k' := by
  cases op <;> simp only [wp1] at h ⊢ <;> try exact h.elim
  case ifCond c off =>
    split at h
    · cases c <;> exact ⟨fun a => hQ _ _ _ _ (h.1 a), fun a => hk _ _ _ (h.2 a)⟩
    · exact h.elim
  case if_icmp c off =>
    split at h
    · cases c <;> exact ⟨fun a => hQ _ _ _ _ (h.1 a), fun a => hk _ _ _ (h.2 a)⟩
    · exact h.elim
  case tableswitch d lo hi offs =>
    split at h
    · obtain ⟨off, h1, h2, h3⟩ := h
      exact ⟨off, h1, h2, hQ _ _ _ _ h3⟩
    · exact h.elim
  case lookupswitch d ps =>
    split at h
    · exact ⟨h.1, hQ _ _ _ _ h.2⟩
    · exact h.elim
  case getfield f =>
    split at h
    · obtain ⟨h1, h2⟩ := h
      refine ⟨h1, ?_⟩
      cases hr : eRf (f / 64) (f % 64) with
      | true => rw [hr] at h2; exact ⟨h2.1, hk _ _ _ h2.2⟩
      | false => rw [hr] at h2; exact hk _ _ _ h2
    · exact h.elim
  case putfield f =>
    split at h
    · obtain ⟨h1, h2⟩ := h
      refine ⟨h1, ?_⟩
      cases hr : eRf (f / 64) (f % 64) with
      | true =>
        rw [hr] at h2
        dsimp only at h2 ⊢
        split at h2
        · exact ⟨h2.1, hk _ _ _ h2.2⟩
        · exact h2.elim
      | false =>
        rw [hr] at h2
        dsimp only at h2 ⊢
        split at h2
        · exact ⟨h2.1, hk _ _ _ h2.2⟩
        · exact h2.elim
    · exact h.elim
  case iaload => split at h <;> first | exact h.elim | (obtain ⟨n, h1, h2, h3⟩ := h; exact ⟨n, h1, h2, hk _ _ _ h3⟩)
  case baload => split at h <;> first | exact h.elim | (obtain ⟨ty, n, h1, h2, h3, h4, h5⟩ := h; exact ⟨ty, n, h1, h2, h3, h4, hk _ _ _ h5⟩)
  case laload => split at h <;> first | exact h.elim | (obtain ⟨n, h1, h2, h3, h4⟩ := h; exact ⟨n, h1, h2, h3, hk _ _ _ h4⟩)
  case aaload => split at h <;> first | exact h.elim | (obtain ⟨C, n, h1, h2, h3, h4, h5⟩ := h; exact ⟨C, n, h1, h2, h3, h4, hk _ _ _ h5⟩)
  case iastore => split at h <;> first | exact h.elim | (obtain ⟨n, h1, h2, h3, h4⟩ := h; exact ⟨n, h1, h2, h3, hk _ _ _ h4⟩)
  case bastore => split at h <;> first | exact h.elim | (obtain ⟨ty, n, h1, h2, h3, h4, h5⟩ := h; exact ⟨ty, n, h1, h2, h3, h4, hk _ _ _ h5⟩)
  case lastore => split at h <;> first | exact h.elim | (obtain ⟨n, h1, h2, h3, h4⟩ := h; exact ⟨n, h1, h2, h3, hk _ _ _ h4⟩)
  case aastore => split at h <;> first | exact h.elim | (obtain ⟨ci, n, h1, h2, h3, h4, h5, h6⟩ := h; exact ⟨ci, n, h1, h2, h3, h4, h5, hk _ _ _ h6⟩)
  case arraylength => split at h <;> first | exact h.elim | (obtain ⟨ty, n, h1, h2⟩ := h; exact ⟨ty, n, h1, hk _ _ _ h2⟩)
  case monitorexit =>
    split at h
    · obtain ⟨h1, h2, h3, h4, h5, h6, h7⟩ := h
      refine ⟨h1, h2, h3, h4, h5, h6, ?_⟩
      rcases h7 with ⟨n0, n1, a1, a2, a3, a4, a5⟩ | ⟨n0, n1, a1, a2, a3, a4, a5⟩
      · exact Or.inl ⟨n0, n1, a1, a2, a3, a4, hk _ _ _ a5⟩
      · exact Or.inr ⟨n0, n1, a1, a2, a3, a4, hk _ _ _ a5⟩
    · exact h.elim
  case invokeinterface q n =>
    obtain ⟨h1, h0, h2, h3, h4⟩ := h
    refine ⟨h1, h0, h2, h3, ?_⟩
    rcases h4 with ⟨v, σ1, a1, a2⟩ | ⟨e, σ1, a0, a1, a2⟩
    · exact Or.inl ⟨v, σ1, hD _ _ _ _ _ a1, hk _ _ _ a2⟩
    · exact Or.inr ⟨e, σ1, a0, hD _ _ _ _ _ a1, hT _ _ _ _ a2⟩
  case ireturn =>
    split at h
    · unfold retI at h ⊢
      split at h
      · exact ⟨h.1, hR _ _ h.2⟩
      · exact h.elim
    · exact h.elim
  case lreturn => split at h <;> first | exact h.elim | exact ⟨h.1, hR _ _ h.2⟩
  case return_ => split at h <;> first | exact h.elim | exact ⟨h.1, hR _ _ h.2⟩
  all_goals first
    | exact hk _ _ _ h
    | exact hQ _ _ _ _ h
    | exact ⟨h.1, hk _ _ _ h.2⟩
    | exact ⟨h.1, hT _ _ _ _ h.2⟩
    | (split at h <;> first | exact h.elim | exact hk _ _ _ h | exact ⟨h.1, hk _ _ _ h.2⟩ | exact ⟨h.1, h.2.1, hk _ _ _ h.2.2⟩ | exact ⟨h.1, h.2.1, h.2.2.1, hk _ _ _ h.2.2.2⟩)
theorem wp_mono {D D' : eD} {rt : Option FieldType} {Rt Rt' : Option Value → eS → Prop} {Th Th' : Nat → Nat → eLs → eS → Prop} {Q Q' : Nat → eLs → List Value → eS → Prop}
    (hD : ∀ q a σ o σ1, D q a σ o σ1 → D' q a σ o σ1) (hR : ∀ v σ, Rt v σ → Rt' v σ) (hT : ∀ e pc ls σ, Th e pc ls σ → Th' e pc ls σ) (hQ : ∀ pc ls st σ, Q pc ls st σ → Q' pc ls st σ)
    (ops : List (Instr × Nat)) : ∀ {pc : Nat} {ls : eLs} {st : List Value} {σ : eS}, wp D rt Rt Th Q ops pc ls st σ → wp D' rt Rt' Th' Q' ops pc ls st σ := by
  induction ops with
  | nil => intro pc ls st σ h; exact hQ _ _ _ _ h
  | cons a r ih =>
    obtain ⟨op, len⟩ := a
    intro pc ls st σ h
    exact wp1_mono hD hR hT hQ (fun _ _ _ h => ih h) h
theorem eTh_mono {P P' : eP} (hP : ∀ μ pc ls st σ o σo, P μ pc ls st σ o σo → P' μ pc ls st σ o σo) {μ : Nat} {o : eO} {σo : eS} (e pc : Nat) (ls : eLs) (σ : eS) (h : eTh P μ o σo e pc ls σ) : eTh P' μ o σo e pc ls σ := by
  rcases h with h | ⟨h1, j, hh, k, len, h2, h3⟩
  · exact Or.inl h
  · exact Or.inr ⟨h1, j, hh, k, len, h2, hP _ _ _ _ _ _ _ h3⟩
abbrev wpR (μ : Nat) (o : eO) (σo : eS) : List (Instr × Nat) → Nat → eLs → List Value → eS → Prop :=
  wp Den (eRt μ) (fun v σ1 => o = .inl v ∧ σo = σ1) (eTh Run μ o σo) (fun pc ls st σ1 => Run μ pc ls st σ1 o σo)
/-- a row of instructions, then on -/
theorem Run.blk {μ pc : Nat} (ops : List (Instr × Nat)) {ls : eLs} {st : List Value} {σ : eS} {o : eO} {σo : eS} (hc : chk μ pc ops = true) (h : wpR μ o σo ops pc ls st σ) : Run μ pc ls st σ o σo := by
  intro P hP
  refine hP.1 μ pc ops ls st σ o σo hc (wp_mono (fun q a σ o σ1 h => h P hP) (fun _ _ h => h) (fun e pc ls σ h => eTh_mono (fun μ pc ls st σ o σo h => h P hP) e pc ls σ h) (fun pc ls st σ h => h P hP) ops h)
theorem Run.sub {μ pc : Nat} {ls : eLs} (ls' : eLs) {st : List Value} {σ : eS} {o : eO} {σo : eS} (hs : ∀ q ∈ ls', q ∈ ls) (h : Run μ pc ls' st σ o σo) : Run μ pc ls st σ o σo :=
  fun P hP => hP.2.1 μ pc ls ls' st σ o σo hs (h P hP)
theorem Run.agree {μ pc : Nat} {ls : eLs} {st : List Value} {σ : eS} (σ' : eS) {o : eO} {σo : eS} (hs : eAg σ σ') (h : Run μ pc ls st σ' o σo) : Run μ pc ls st σ o σo :=
  fun P hP => hP.2.2 μ pc ls st σ σ' o σo hs (h P hP)
