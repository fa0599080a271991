/-! What nobody reaches doesn't matter: the row of one long (cell 184). -/
abbrev sw (x : Int64) (σ : eS) : eS := setL σ 184 0 x
def nrL (ls : eLs) : Prop := ∀ q ∈ ls, ¬ q.2 = .ref 184
def nrS (st : List Value) : Prop := ∀ v ∈ st, ¬ v = .ref 184
def nrO (o : eO) : Prop := ∀ v, o = .inl (some v) → ¬ v = .ref 184
def nrC (σ : eS) : Prop := 184 < sN σ ∧ ∀ a, 0 < a → a < sN σ → (∀ c, sK σ a = .inl c → ∀ i, i < eNF c → ¬ sR σ a i = 184) ∧ ∀ ty n, sK σ a = .inr (ty, n) → ∀ i, i < n → ¬ sR σ a i = 184
abbrev frP : eP := fun μ pc ls st σ o σo => nrL ls → nrS st → nrC σ → (nrO o ∧ nrC σo) ∧ ∀ x, Run μ pc ls st (sw x σ) o (sw x σo)
theorem nrS_t {v : Value} {st : List Value} (h : nrS (v :: st)) : nrS st := fun w hw => h w (List.mem_cons_of_mem _ hw)
theorem nrS_h {v : Value} {st : List Value} (h : nrS (v :: st)) : ¬ v = .ref 184 := h v (List.mem_cons_self ..)
theorem nrS_c {v : Value} {st : List Value} (hv : ¬ v = .ref 184) (h : nrS st) : nrS (v :: st) := fun w hw => by
  rcases List.mem_cons.mp hw with rfl | hw
  · exact hv
  · exact h w hw
theorem nrS_i {x : Int32} {st : List Value} (h : nrS st) : nrS (.int x :: st) := nrS_c (fun q => nomatch q) h
theorem nrS_l {x : Int64} {st : List Value} (h : nrS st) : nrS (.long x :: st) := nrS_c (fun q => nomatch q) h
theorem nrL_c {i : Nat} {v : Value} {ls : eLs} (hv : ¬ v = .ref 184) (h : nrL ls) : nrL ((i, v) :: ls) := fun w hw => by
  rcases List.mem_cons.mp hw with rfl | hw
  · exact hv
  · exact h w hw
theorem nrL_1 {i : Nat} {ls : eLs} (h : nrL ls) : nrL (fl1 ls i) := fun q hq => h q (List.mem_filter.mp hq).1
theorem nrL_2 {i : Nat} {ls : eLs} (h : nrL ls) : nrL (fl2 ls i) := fun q hq => h q (List.mem_filter.mp hq).1
theorem nrL_k {i : Nat} {v : Value} : ∀ {ls : eLs}, nrL ls → lk ls i = some v → ¬ v = .ref 184 := by
  intro ls
  induction ls with
  | nil => intro _ h; cases h
  | cons q r ih =>
    intro hl h
    unfold lk at h
    split at h
    · cases h; exact hl q (List.mem_cons_self ..)
    · exact ih (fun w hw => hl w (List.mem_cons_of_mem _ hw)) h
theorem nrL_a : ∀ (vs : List Value) (k : Nat), nrS vs → nrL (lv_args k vs) := by
  intro vs
  induction vs with
  | nil => intro k _ q hq; cases hq
  | cons v vs ih =>
    intro k h
    exact nrL_c (nrS_h h) (ih _ (nrS_t h))
theorem ref_ne {a : Nat} (h : ¬ (.ref a : Value) = .ref 184) : ¬ a = 184 := fun q => h (by rw [q])
theorem ne_ref {a : Nat} (h : ¬ a = 184) : ¬ (.ref a : Value) = .ref 184 := fun q => h (by cases q; rfl)
theorem eAg_sw {σ σ' : eS} {x : Int64} (h : eAg σ σ') : eAg (sw x σ) (sw x σ') := by
  obtain ⟨h1, h2, h3, h4, h5, h6⟩ := h
  refine ⟨h1, h2, h3, h4, h5, fun a q1 q2 => ?_⟩
  obtain ⟨g1, g2, g3⟩ := h6 a q1 q2
  refine ⟨g1, g2, fun ty n hk i hi => ?_⟩
  obtain ⟨e1, e2, e3⟩ := g3 ty n hk i hi
  refine ⟨e1, ?_, e3⟩
  show u2 (sL σ') 184 0 x a i = u2 (sL σ) 184 0 x a i
  rw [u2_at, u2_at, e2]
theorem nrC_ag {σ σ' : eS} (h : eAg σ σ') (hc : nrC σ) : nrC σ' := by
  obtain ⟨h1, h2, h3, h4, h5, h6⟩ := h
  refine ⟨by rw [h1]; exact hc.1, fun a q1 q2 => ?_⟩
  rw [h1] at q2
  obtain ⟨g1, g2, g3⟩ := h6 a q1 q2
  obtain ⟨c1, c2⟩ := hc.2 a q1 q2
  refine ⟨fun c hk i hi => ?_, fun ty n hk i hi => ?_⟩
  · rw [g1] at hk
    rw [(g2 c hk i hi).2]; exact c1 c hk i hi
  · rw [g1] at hk
    rw [(g3 ty n hk i hi).2.2]; exact c2 ty n hk i hi
theorem nrC_R {σ : eS} {a i b : Nat} (hb : ¬ b = 184) (hc : nrC σ) : nrC (setR σ a i b) := by
  have e : ∀ a' j, (¬ sR σ a' j = 184) → ¬ u2 (sR σ) a i b a' j = 184 := fun a' j h => by
    rw [u2_at]; split
    · exact hb
    · exact h
  exact ⟨hc.1, fun a' q1 q2 => ⟨fun c hk j hj => e a' j ((hc.2 a' q1 q2).1 c hk j hj), fun ty n hk j hj => e a' j ((hc.2 a' q1 q2).2 ty n hk j hj)⟩⟩
theorem nrC_new {σ : eS} {kd : Nat ⊕ (FieldType × Nat)} {z : Nat} (hc : nrC σ) : nrC (newK σ kd z) := by
  refine ⟨by show 184 < sN σ + 1; exact Nat.lt_succ_of_lt hc.1, fun a q1 q2 => ?_⟩
  have q2 : a < sN σ + 1 := q2
  show (∀ c, (if a = sN σ then kd else sK σ a) = .inl c → ∀ i, i < eNF c → ¬ u1 (sR σ) (sN σ) (fun _ => 0) a i = 184) ∧ ∀ ty n, (if a = sN σ then kd else sK σ a) = .inr (ty, n) → ∀ i, i < n → ¬ u1 (sR σ) (sN σ) (fun _ => 0) a i = 184
  by_cases e : a = sN σ
  · have : ∀ i, ¬ u1 (sR σ) (sN σ) (fun _ => 0) a i = 184 := fun i => by rw [u1_at, if_pos e]; decide
    exact ⟨fun c _ i _ => this i, fun ty n _ i _ => this i⟩
  · have e2 : ∀ i, u1 (sR σ) (sN σ) (fun _ => 0) a i = sR σ a i := fun i => by rw [u1_at, if_neg e]
    simp only [e2, if_neg e]
    exact hc.2 a q1 (by omega)
theorem sw_new {σ : eS} {kd : Nat ⊕ (FieldType × Nat)} {z : Nat} {x : Int64} (hc : nrC σ) : newK (sw x σ) kd z = sw x (newK σ kd z) := by
  have h := hc.1
  show (u1 (sI σ) (sN σ) (fun _ => 0), u1 (u2 (sL σ) 184 0 x) (sN σ) (fun _ => 0), _, _, _) = (u1 (sI σ) (sN σ) (fun _ => 0), u2 (u1 (sL σ) (sN σ) (fun _ => 0)) 184 0 x, _, _, _)
  have e : u1 (u2 (sL σ) 184 0 x) (sN σ) (fun _ => 0) = u2 (u1 (sL σ) (sN σ) (fun _ => 0)) 184 0 x := by
    funext b j
    rw [u1_at, u2_at, u2_at, u1_at]
    by_cases q : b = sN σ
    · rw [if_pos q, if_neg (by omega), if_pos q]
    · rw [if_neg q, if_neg q]
  rw [e]
theorem sw_L {σ : eS} {a i : Nat} {x y : Int64} (ha : ¬ a = 184) : setL (sw x σ) a i y = sw x (setL σ a i y) := by
  show (sI σ, u2 (u2 (sL σ) 184 0 x) a i y, _) = (sI σ, u2 (u2 (sL σ) a i y) 184 0 x, _)
  rw [u2_c (Or.inl (fun q => ha q.symm))]
theorem sw_cL {σ : eS} {a0 a sp dp n : Nat} {x : Int64} (ha0 : ¬ a0 = 184) (ha : ¬ a = 184) : cpyL (sw x σ) a0 a sp dp n = sw x (cpyL σ a0 a sp dp n) := by
  show (sI σ, u1 (u2 (sL σ) 184 0 x) a (va_cpy (u2 (sL σ) 184 0 x a0) (u2 (sL σ) 184 0 x a) sp dp n), _) = (sI σ, u2 (u1 (sL σ) a (va_cpy (sL σ a0) (sL σ a) sp dp n)) 184 0 x, _)
  rw [u2_ne ha0, u2_ne ha]
  have e : ∀ r : Nat → Int64, u1 (u2 (sL σ) 184 0 x) a r = u2 (u1 (sL σ) a r) 184 0 x := fun r => by
    funext b j
    rw [u1_at, u2_at, u2_at, u1_at]
    by_cases q : b = a
    · rw [if_pos q, if_neg (by omega), if_pos q]
    · rw [if_neg q, if_neg q]
  rw [e]
theorem nrC_I {σ : eS} {a i : Nat} {y : Int32} (h : nrC σ) : nrC (setI σ a i y) := h
theorem nrC_L {σ : eS} {a i : Nat} {y : Int64} (h : nrC σ) : nrC (setL σ a i y) := h
theorem nrC_cI {σ : eS} {a0 a sp dp n : Nat} (h : nrC σ) : nrC (cpyI σ a0 a sp dp n) := h
theorem nrC_cL {σ : eS} {a0 a sp dp n : Nat} (h : nrC σ) : nrC (cpyL σ a0 a sp dp n) := h
theorem int_ne (x : Int32) : ¬ (.int x : Value) = .ref 184 := fun q => nomatch q
theorem chk_gf {μ pc f len : Nat} (h : chk1 μ pc (.getfield f) len = true) : f % 64 < eNF (f / 64) := by
  unfold chk1 at h
  dsimp only at h
  split at h
  · rename_i raw n _
    simp only [rel, Bool.and_eq_true] at h
    obtain ⟨⟨_, h⟩, _⟩ := h
    split at h
    · exact (lkF_spec h).2.1
    · cases h
  · cases h
section
variable {μ : Nat} {o : eO} {σo : eS}
theorem fr1 {op : Instr} {len pc : Nat} {ls : eLs} {st : List Value} {σ : eS} {k : eLs → List Value → eS → Prop} {k' : Int64 → eLs → List Value → eS → Prop} (hc : chk1 μ pc op len = true) (nl : nrL ls) (ns : nrS st) (nc : nrC σ)
    (hk : ∀ ls st σ, nrL ls → nrS st → nrC σ → k ls st σ → (nrO o ∧ nrC σo) ∧ ∀ x, k' x ls st (sw x σ))
    (h : wp1 (eDen frP) (eRt μ) (fun v σ1 => o = .inl v ∧ σo = σ1) (eTh frP μ o σo) (fun pc ls st σ1 => frP μ pc ls st σ1 o σo) op pc ls st σ k) :
    (nrO o ∧ nrC σo) ∧ ∀ x, wp1 Den (eRt μ) (fun v σ1 => o = .inl v ∧ sw x σo = σ1) (eTh Run μ o (sw x σo)) (fun pc ls st σ1 => Run μ pc ls st σ1 o (sw x σo)) op pc ls st (sw x σ) (k' x) := by
  have thr : ∀ (e pc : Nat) (ls : eLs) (σ1 : eS), nrL ls → nrC σ1 → eTh frP μ o σo e pc ls σ1 → (nrO o ∧ nrC σo) ∧ ∀ x, eTh Run μ o (sw x σo) e pc ls (sw x σ1) := by
    intro e pc ls σ1 hl hc1 h
    rcases h with ⟨h1, h2, h3, h4⟩ | ⟨h1, j, hh, k, len, h2, h3⟩
    · subst h4
      exact ⟨⟨(fun v q => by rw [h3] at q; cases q), hc1⟩, fun x => Or.inl ⟨h1, h2, h3, rfl⟩⟩
    · obtain ⟨a, b⟩ := h3 (nrL_1 hl) (fun v hv => by cases hv) hc1
      exact ⟨a, fun x => Or.inr ⟨h1, j, hh, k, len, h2, b x⟩⟩
  cases op <;> simp only [wp1] at h ⊢ <;> try exact h.elim
  case aload_n n =>
    split at h
    · rename_i a ha
      obtain ⟨q1, q2⟩ := hk _ _ _ nl (nrS_c (nrL_k nl ha) ns) nc h
      refine ⟨q1, fun x => ?_⟩
      try rw [ha]
      exact q2 x
    · exact h.elim
  case aload n =>
    split at h
    · rename_i a ha
      obtain ⟨q1, q2⟩ := hk _ _ _ nl (nrS_c (nrL_k nl ha) ns) nc h
      refine ⟨q1, fun x => ?_⟩
      try rw [ha]
      exact q2 x
    · exact h.elim
  case iload_n n =>
    split at h
    · rename_i a ha
      obtain ⟨q1, q2⟩ := hk _ _ _ nl (nrS_i ns) nc h
      refine ⟨q1, fun x => ?_⟩
      try rw [ha]
      exact q2 x
    · exact h.elim
  case iload n =>
    split at h
    · rename_i a ha
      obtain ⟨q1, q2⟩ := hk _ _ _ nl (nrS_i ns) nc h
      refine ⟨q1, fun x => ?_⟩
      try rw [ha]
      exact q2 x
    · exact h.elim
  case lload_n n =>
    split at h
    · rename_i a ha
      obtain ⟨q1, q2⟩ := hk _ _ _ nl (nrS_l ns) nc h
      refine ⟨q1, fun x => ?_⟩
      try rw [ha]
      exact q2 x
    · exact h.elim
  case lload n =>
    split at h
    · rename_i a ha
      obtain ⟨q1, q2⟩ := hk _ _ _ nl (nrS_l ns) nc h
      refine ⟨q1, fun x => ?_⟩
      try rw [ha]
      exact q2 x
    · exact h.elim
  case iinc i n =>
    split at h
    · rename_i a ha
      obtain ⟨q1, q2⟩ := hk _ _ _ (nrL_c (int_ne _) (nrL_1 nl)) ns nc h
      refine ⟨q1, fun x => ?_⟩
      try rw [ha]
      exact q2 x
    · exact h.elim
  case iconst v => exact hk _ _ _ nl (nrS_i ns) nc h
  case lconst v => exact hk _ _ _ nl (nrS_l ns) nc h
  case ldc2_w v => exact hk _ _ _ nl (nrS_l ns) nc h
  case istore_n i => split at h <;> first | exact h.elim | exact hk _ _ _ (nrL_c (nrS_h ns) (nrL_1 nl)) (nrS_t ns) nc h
  case istore i => split at h <;> first | exact h.elim | exact hk _ _ _ (nrL_c (nrS_h ns) (nrL_1 nl)) (nrS_t ns) nc h
  case astore_n i => split at h <;> first | exact h.elim | exact hk _ _ _ (nrL_c (nrS_h ns) (nrL_1 nl)) (nrS_t ns) nc h
  case astore i => split at h <;> first | exact h.elim | exact hk _ _ _ (nrL_c (nrS_h ns) (nrL_1 nl)) (nrS_t ns) nc h
  case lstore_n i => split at h <;> first | exact h.elim | exact hk _ _ _ (nrL_c (nrS_h ns) (nrL_2 nl)) (nrS_t ns) nc h
  case lstore i => split at h <;> first | exact h.elim | exact hk _ _ _ (nrL_c (nrS_h ns) (nrL_2 nl)) (nrS_t ns) nc h
  case idiv =>
    split at h
    · obtain ⟨p1, p2⟩ := h
      obtain ⟨q1, q2⟩ := hk _ _ _ nl (nrS_i (nrS_t (nrS_t ns))) nc p2
      exact ⟨q1, fun x => ⟨p1, q2 x⟩⟩
    · exact h.elim
  case irem =>
    split at h
    · obtain ⟨p1, p2⟩ := h
      obtain ⟨q1, q2⟩ := hk _ _ _ nl (nrS_i (nrS_t (nrS_t ns))) nc p2
      exact ⟨q1, fun x => ⟨p1, q2 x⟩⟩
    · exact h.elim
  case ldiv =>
    split at h
    · obtain ⟨p1, p2⟩ := h
      obtain ⟨q1, q2⟩ := hk _ _ _ nl (nrS_l (nrS_t (nrS_t ns))) nc p2
      exact ⟨q1, fun x => ⟨p1, q2 x⟩⟩
    · exact h.elim
  case dadd =>
    split at h
    · obtain ⟨p1, p2⟩ := h
      obtain ⟨q1, q2⟩ := hk _ _ _ nl (nrS_i (nrS_t (nrS_t ns))) nc p2
      exact ⟨q1, fun x => ⟨p1, q2 x⟩⟩
    · exact h.elim
  case dsub =>
    split at h
    · obtain ⟨p1, p2⟩ := h
      obtain ⟨q1, q2⟩ := hk _ _ _ nl (nrS_i (nrS_t (nrS_t ns))) nc p2
      exact ⟨q1, fun x => ⟨p1, q2 x⟩⟩
    · exact h.elim
  case dup =>
    split at h
    · obtain ⟨p1, p2⟩ := h
      obtain ⟨q1, q2⟩ := hk _ _ _ nl (nrS_c (nrS_h ns) ns) nc p2
      exact ⟨q1, fun x => ⟨p1, q2 x⟩⟩
    · exact h.elim
  case dup2 =>
    split at h
    · obtain ⟨p1, p2, p3⟩ := h
      obtain ⟨q1, q2⟩ := hk _ _ _ nl (nrS_c (nrS_h ns) (nrS_c (nrS_h (nrS_t ns)) ns)) nc p3
      exact ⟨q1, fun x => ⟨p1, p2, q2 x⟩⟩
    · exact h.elim
  case pop2 =>
    split at h
    · exact hk _ _ _ nl (nrS_t ns) nc h
    · exact h.elim
  case goto off => exact h nl ns nc
  case ifCond c off =>
    split at h
    · rename_i xx r
      have nt := nrS_t ns
      have both : ∀ (B : Prop), (B → frP μ (jmp pc off) ls r σ o σo) → (¬ B → k ls r σ) → (nrO o ∧ nrC σo) ∧ ∀ x, (B → Run μ (jmp pc off) ls r (sw x σ) o (sw x σo)) ∧ (¬ B → k' x ls r (sw x σ)) := by
        intro B g1 g2
        by_cases hB : B
        · obtain ⟨a, b⟩ := g1 hB nl nt nc
          exact ⟨a, fun x => ⟨fun _ => b x, fun q => absurd hB q⟩⟩
        · obtain ⟨a, b⟩ := hk _ _ _ nl nt nc (g2 hB)
          exact ⟨a, fun x => ⟨fun q => absurd q hB, fun _ => b x⟩⟩
      cases c with
      | ne =>
        obtain ⟨a, b⟩ := both (¬ xx = 0) h.1 (fun q => h.2 (Classical.byContradiction q))
        exact ⟨a, fun x => ⟨(b x).1, fun q => (b x).2 (fun q2 => q2 q)⟩⟩
      | _ => exact both _ h.1 h.2
    · exact h.elim
  case if_icmp c off =>
    split at h
    · rename_i yy xx r
      have nt := nrS_t (nrS_t ns)
      have both : ∀ (B : Prop), (B → frP μ (jmp pc off) ls r σ o σo) → (¬ B → k ls r σ) → (nrO o ∧ nrC σo) ∧ ∀ x, (B → Run μ (jmp pc off) ls r (sw x σ) o (sw x σo)) ∧ (¬ B → k' x ls r (sw x σ)) := by
        intro B g1 g2
        by_cases hB : B
        · obtain ⟨a, b⟩ := g1 hB nl nt nc
          exact ⟨a, fun x => ⟨fun _ => b x, fun q => absurd hB q⟩⟩
        · obtain ⟨a, b⟩ := hk _ _ _ nl nt nc (g2 hB)
          exact ⟨a, fun x => ⟨fun q => absurd q hB, fun _ => b x⟩⟩
      cases c with
      | ne =>
        obtain ⟨a, b⟩ := both (¬ xx = yy) h.1 (fun q => h.2 (Classical.byContradiction q))
        exact ⟨a, fun x => ⟨(b x).1, fun q => (b x).2 (fun q2 => q2 q)⟩⟩
      | _ => exact both _ h.1 h.2
    · exact h.elim
  case tableswitch d lo hi offs =>
    split at h
    · obtain ⟨off, h1, h2, h3⟩ := h
      obtain ⟨a, b⟩ := h3 nl (nrS_t ns) nc
      exact ⟨a, fun x => ⟨off, h1, h2, b x⟩⟩
    · exact h.elim
  case lookupswitch d ps =>
    split at h
    · obtain ⟨h2, h3⟩ := h
      obtain ⟨a, b⟩ := h3 nl (nrS_t ns) nc
      exact ⟨a, fun x => ⟨h2, b x⟩⟩
    · exact h.elim
  case getfield f =>
    have hf := chk_gf hc
    split at h
    · obtain ⟨h1, h2⟩ := h
      cases hr : eRf (f / 64) (f % 64) with
      | true =>
        rw [hr] at h2
        obtain ⟨a, b⟩ := hk _ _ _ nl (nrS_c (ne_ref ((nc.2 _ h1.1 h1.2.1).1 _ h1.2.2 _ hf)) (nrS_t ns)) nc h2.2
        exact ⟨a, fun x => ⟨h1, h2.1, b x⟩⟩
      | false =>
        rw [hr] at h2
        obtain ⟨a, b⟩ := hk _ _ _ nl (nrS_i (nrS_t ns)) nc h2
        exact ⟨a, fun x => ⟨h1, b x⟩⟩
    · exact h.elim
  case putfield f =>
    split at h
    · obtain ⟨h1, h2⟩ := h
      cases hr : eRf (f / 64) (f % 64) with
      | true =>
        rw [hr] at h2
        dsimp only at h2 ⊢
        split at h2
        · obtain ⟨a, b⟩ := hk _ _ _ nl (nrS_t (nrS_t ns)) (nrC_R (ref_ne (nrS_h ns)) nc) h2.2
          exact ⟨a, fun x => ⟨h1, h2.1, b x⟩⟩
        · exact h2.elim
      | false =>
        rw [hr] at h2
        dsimp only at h2 ⊢
        split at h2
        · obtain ⟨a, b⟩ := hk _ _ _ nl (nrS_t (nrS_t ns)) (nrC_I nc) h2.2
          exact ⟨a, fun x => ⟨h1, h2.1, b x⟩⟩
        · exact h2.elim
    · exact h.elim
  case iaload =>
    split at h
    · obtain ⟨n, h1, h2, h3⟩ := h
      obtain ⟨a, b⟩ := hk _ _ _ nl (nrS_i (nrS_t (nrS_t ns))) nc h3
      exact ⟨a, fun x => ⟨n, h1, h2, b x⟩⟩
    · exact h.elim
  case baload =>
    split at h
    · obtain ⟨ty, n, h1, h2, h3, h4, h5⟩ := h
      obtain ⟨a, b⟩ := hk _ _ _ nl (nrS_i (nrS_t (nrS_t ns))) nc h5
      exact ⟨a, fun x => ⟨ty, n, h1, h2, h3, h4, b x⟩⟩
    · exact h.elim
  case laload =>
    split at h
    · obtain ⟨n, h1, h2, h3, h4⟩ := h
      obtain ⟨a, b⟩ := hk _ _ _ nl (nrS_l (nrS_t (nrS_t ns))) nc h4
      refine ⟨a, fun x => ⟨n, h1, h2, h3, ?_⟩⟩
      have e : ∀ j, sL (sw x σ) _ j = sL σ _ j := fun j => by rw [show sL (sw x σ) _ = sL σ _ from u2_ne (ref_ne (nrS_h (nrS_t ns)))]
      rw [e]
      exact b x
    · exact h.elim
  case aaload =>
    split at h
    · obtain ⟨C, n, h1, h2, h3, h4, h5⟩ := h
      obtain ⟨a, b⟩ := hk _ _ _ nl (nrS_c (ne_ref ((nc.2 _ h1 h2.1).2 _ _ h2.2 _ (vp_lt h3))) (nrS_t (nrS_t ns))) nc h5
      exact ⟨a, fun x => ⟨C, n, h1, h2, h3, h4, b x⟩⟩
    · exact h.elim
  case iastore =>
    split at h
    · obtain ⟨n, h1, h2, h3, h4⟩ := h
      obtain ⟨a, b⟩ := hk _ _ _ nl (nrS_t (nrS_t (nrS_t ns))) (nrC_I nc) h4
      exact ⟨a, fun x => ⟨n, h1, h2, h3, b x⟩⟩
    · exact h.elim
  case bastore =>
    split at h
    · obtain ⟨ty, n, h1, h2, h3, h4, h5⟩ := h
      obtain ⟨a, b⟩ := hk _ _ _ nl (nrS_t (nrS_t (nrS_t ns))) (nrC_I nc) h5
      exact ⟨a, fun x => ⟨ty, n, h1, h2, h3, h4, b x⟩⟩
    · exact h.elim
  case lastore =>
    split at h
    · obtain ⟨n, h1, h2, h3, h4⟩ := h
      obtain ⟨a, b⟩ := hk _ _ _ nl (nrS_t (nrS_t (nrS_t ns))) (nrC_L nc) h4
      refine ⟨a, fun x => ⟨n, h1, h2, h3, ?_⟩⟩
      have := b x
      rw [← sw_L (ref_ne (nrS_h (nrS_t (nrS_t ns))))] at this
      exact this
    · exact h.elim
  case aastore =>
    split at h
    · obtain ⟨ci, n, h1, h2, h3, h4, h5, h6⟩ := h
      obtain ⟨a, b⟩ := hk _ _ _ nl (nrS_t (nrS_t (nrS_t ns))) (nrC_R (ref_ne (nrS_h ns)) nc) h6
      exact ⟨a, fun x => ⟨ci, n, h1, h2, h3, h4, h5, b x⟩⟩
    · exact h.elim
  case arraylength =>
    split at h
    · obtain ⟨ty, n, h1, h2⟩ := h
      obtain ⟨a, b⟩ := hk _ _ _ nl (nrS_i (nrS_t ns)) nc h2
      exact ⟨a, fun x => ⟨ty, n, h1, b x⟩⟩
    · exact h.elim
  case new c =>
    obtain ⟨h1, h2⟩ := h
    obtain ⟨a, b⟩ := hk _ _ _ nl (nrS_c (ne_ref (fun q => by have := nc.1; omega)) ns) (nrC_new nc) h2
    refine ⟨a, fun x => ⟨h1, ?_⟩⟩
    rw [sw_new nc]
    exact b x
  case newarray t =>
    split at h
    · obtain ⟨h1, h2, h3, h4⟩ := h
      obtain ⟨a, b⟩ := hk _ _ _ nl (nrS_c (ne_ref (fun q => by have := nc.1; omega)) (nrS_t ns)) (nrC_new nc) h4
      refine ⟨a, fun x => ⟨h1, h2, h3, ?_⟩⟩
      rw [sw_new nc]
      exact b x
    · exact h.elim
  case anewarray t =>
    split at h
    · obtain ⟨h1, h2, h3, h4⟩ := h
      obtain ⟨a, b⟩ := hk _ _ _ nl (nrS_c (ne_ref (fun q => by have := nc.1; omega)) (nrS_t ns)) (nrC_new nc) h4
      refine ⟨a, fun x => ⟨h1, h2, h3, ?_⟩⟩
      rw [sw_new nc]
      exact b x
    · exact h.elim
  case monitorenter =>
    split at h
    · obtain ⟨h1, h2⟩ := h
      obtain ⟨a, b⟩ := hk _ _ _ nl (nrS_t ns) nc h2
      exact ⟨a, fun x => ⟨h1, b x⟩⟩
    · exact h.elim
  case monitorexit =>
    split at h
    · obtain ⟨h1, h2, h3, h4, h5, h6, h7⟩ := h
      have nt := nrS_t (nrS_t (nrS_t (nrS_t (nrS_t ns))))
      have na := ref_ne (nrS_h (nrS_t (nrS_t ns)))
      have na0 := ref_ne (nrS_h (nrS_t (nrS_t (nrS_t (nrS_t ns)))))
      rcases h7 with ⟨n0, n1, a1, a2, a3, a4, a5⟩ | ⟨n0, n1, a1, a2, a3, a4, a5⟩
      · obtain ⟨a, b⟩ := hk _ _ _ nl nt (nrC_cI nc) a5
        exact ⟨a, fun x => ⟨h1, h2, h3, h4, h5, h6, Or.inl ⟨n0, n1, a1, a2, a3, a4, b x⟩⟩⟩
      · obtain ⟨a, b⟩ := hk _ _ _ nl nt (nrC_cL nc) a5
        refine ⟨a, fun x => ⟨h1, h2, h3, h4, h5, h6, Or.inr ⟨n0, n1, a1, a2, a3, a4, ?_⟩⟩⟩
        rw [sw_cL na0 na]
        exact b x
    · exact h.elim
  case invokeinterface q n =>
    obtain ⟨h1, h0, h2, h3, h4⟩ := h
    have na : nrS (st.take n).reverse := fun v hv => ns v (List.mem_of_mem_take (List.mem_reverse.mp hv))
    have nd : nrS (st.drop n) := fun v hv => ns v (List.mem_of_mem_drop hv)
    rcases h4 with ⟨v, σ1, a1, a2⟩ | ⟨e, σ1, a0, a1, a2⟩
    · obtain ⟨⟨b1, b2⟩, b3⟩ := a1 (nrL_a _ 0 na) (fun v hv => by cases hv) nc
      have nv : nrS (v.toList ++ st.drop n) := fun w hw => by
        rcases List.mem_append.mp hw with hw | hw
        · cases v with
          | none => cases hw
          | some v0 =>
            have : w = v0 := by simpa using hw
            rw [this]; exact b1 v0 rfl
        · exact nd w hw
      obtain ⟨a, b⟩ := hk _ _ _ nl nv b2 a2
      exact ⟨a, fun x => ⟨h1, h0, h2, h3, Or.inl ⟨v, sw x σ1, b3 x, b x⟩⟩⟩
    · obtain ⟨⟨b1, b2⟩, b3⟩ := a1 (nrL_a _ 0 na) (fun v hv => by cases hv) nc
      obtain ⟨a, b⟩ := thr e pc ls σ1 nl b2 a2
      exact ⟨a, fun x => ⟨h1, h0, h2, h3, Or.inr ⟨e, sw x σ1, a0, b3 x, b x⟩⟩⟩
  case checkcast e =>
    obtain ⟨h1, h2⟩ := h
    obtain ⟨a, b⟩ := thr e pc ls (thrS σ) nl nc h2
    exact ⟨a, fun x => ⟨h1, b x⟩⟩
  case ireturn =>
    split at h
    · unfold retI at h ⊢
      split at h
      · obtain ⟨h1, h2, h3⟩ := h
        subst h3
        exact ⟨⟨(fun v q => by rw [h2] at q; cases q; exact fun q => nomatch q), nc⟩, fun x => ⟨h1, h2, rfl⟩⟩
      · exact h.elim
    · exact h.elim
  case lreturn =>
    split at h
    · obtain ⟨h1, h2, h3⟩ := h
      subst h3
      exact ⟨⟨(fun v q => by rw [h2] at q; cases q; exact fun q => nomatch q), nc⟩, fun x => ⟨h1, h2, rfl⟩⟩
    · exact h.elim
  case return_ =>
    split at h
    · obtain ⟨h1, h2, h3⟩ := h
      subst h3
      exact ⟨⟨(fun v q => by rw [h2] at q; cases q), nc⟩, fun x => ⟨h1, h2, rfl⟩⟩
    · exact h.elim
  all_goals (split at h <;> first | exact h.elim | exact hk _ _ _ nl (nrS_i (nrS_t (nrS_t ns))) nc h | exact hk _ _ _ nl (nrS_l (nrS_t (nrS_t ns))) nc h | exact hk _ _ _ nl (nrS_l (nrS_t ns)) nc h | exact hk _ _ _ nl (nrS_i (nrS_t ns)) nc h)
theorem frB (ops : List (Instr × Nat)) : ∀ {pc : Nat} {ls : eLs} {st : List Value} {σ : eS}, chk μ pc ops = true → nrL ls → nrS st → nrC σ →
    wp (eDen frP) (eRt μ) (fun v σ1 => o = .inl v ∧ σo = σ1) (eTh frP μ o σo) (fun pc ls st σ1 => frP μ pc ls st σ1 o σo) ops pc ls st σ → (nrO o ∧ nrC σo) ∧ ∀ x, wpR μ o (sw x σo) ops pc ls st (sw x σ) := by
  induction ops with
  | nil => intro pc ls st σ _ nl ns nc h; exact h nl ns nc
  | cons a r ih =>
    obtain ⟨op, len⟩ := a
    intro pc ls st σ hc nl ns nc h
    simp only [chk, Bool.and_eq_true] at hc
    exact fr1 (k' := fun x ls st σ => wpR μ o (sw x σo) r (pc + len) ls st σ) hc.1 nl ns nc (fun ls st σ nl ns nc h => ih hc.2 nl ns nc h) h
end
theorem eClosed_fr : eClosed frP := by
  refine ⟨fun μ pc ops ls st σ o σo hc h nl ns nc => ?_, fun μ pc ls ls' st σ o σo hs h nl ns nc => ?_, fun μ pc ls st σ σ' o σo hA h nl ns nc => ?_⟩
  · obtain ⟨a, b⟩ := frB ops hc nl ns nc h
    exact ⟨a, fun x => Run.blk ops hc (b x)⟩
  · obtain ⟨a, b⟩ := h (fun q hq => nl q (hs q hq)) ns nc
    exact ⟨a, fun x => Run.sub ls' hs (b x)⟩
  · obtain ⟨a, b⟩ := h nl ns (nrC_ag hA nc)
    exact ⟨a, fun x => Run.agree _ (eAg_sw hA) (b x)⟩
theorem Run.frame {μ pc : Nat} {ls : eLs} {st : List Value} {σ : eS} {o : eO} {σo : eS} (h : Run μ pc ls st σ o σo) (nl : nrL ls) (ns : nrS st) (nc : nrC σ) (x : Int64) : Run μ pc ls st (sw x σ) o (sw x σo) := (h frP eClosed_fr nl ns nc).2 x
