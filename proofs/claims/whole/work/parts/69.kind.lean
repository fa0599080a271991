/-! What a call answers, by its kind; the script stays. -/
def B0 (f : Nat → Int32) (σ : eS) : Prop := 0 < sN σ ∧ ∀ j, sI σ 0 j = f j
theorem B0_I {f : Nat → Int32} {σ : eS} {a i : Nat} {x : Int32} (ha : 0 < a) (h : B0 f σ) : B0 f (setI σ a i x) := by
  refine ⟨h.1, fun j => ?_⟩
  show u2 (sI σ) a i x 0 j = f j
  rw [u2_ne (by omega)]; exact h.2 j
theorem B0_n {f : Nat → Int32} {σ : eS} {kd : Nat ⊕ (FieldType × Nat)} {z : Nat} (h : B0 f σ) : B0 f (newK σ kd z) := by
  refine ⟨Nat.succ_pos _, fun j => ?_⟩
  have := h.1
  show u1 (sI σ) (sN σ) (fun _ => 0) 0 j = f j
  rw [u1_ne (by omega)]; exact h.2 j
theorem B0_c {f : Nat → Int32} {σ : eS} {a0 a sp dp n : Nat} (ha : 0 < a) (h : B0 f σ) : B0 f (cpyI σ a0 a sp dp n) := by
  refine ⟨h.1, fun j => ?_⟩
  show u1 (sI σ) a _ 0 j = f j
  rw [u1_ne (by omega)]; exact h.2 j
theorem B0_R {f : Nat → Int32} {σ : eS} {a i : Nat} {b : Nat} (h : B0 f σ) : B0 f (setR σ a i b) := h
theorem B0_L {f : Nat → Int32} {σ : eS} {a i : Nat} {x : Int64} (h : B0 f σ) : B0 f (setL σ a i x) := h
theorem B0_cL {f : Nat → Int32} {σ : eS} {a0 a sp dp n : Nat} (h : B0 f σ) : B0 f (cpyL σ a0 a sp dp n) := h
theorem wp1_A {A : Prop} {f : Nat → Int32} {D : eD} {rt : Option FieldType} {Rt : Option Value → eS → Prop} {Th : Nat → Nat → eLs → eS → Prop} {Q : Nat → eLs → List Value → eS → Prop} {op : Instr} {pc : Nat} {ls : eLs} {st : List Value} {σ : eS} {k : eLs → List Value → eS → Prop}
    (hD : ∀ q a σ o σ1, D q a σ o σ1 → B0 f σ → B0 f σ1) (hRi : ∀ x σ, B0 f σ → retI rt x (Rt (some (.int x)) σ) → A) (hRl : ∀ x σ, B0 f σ → rt = some .long → Rt (some (.long x)) σ → A) (hRn : ∀ σ, B0 f σ → rt = none → Rt none σ → A) (hT : ∀ e pc ls σ, B0 f σ → Th e pc ls σ → A) (hQ : ∀ pc ls st σ, B0 f σ → Q pc ls st σ → A)
    (hk : ∀ ls st σ, B0 f σ → k ls st σ → A) (hb : B0 f σ) (h : wp1 D rt Rt Th Q op pc ls st σ k) : A := by
  cases op <;> simp only [wp1] at h <;> try exact h.elim
  case ifCond c off =>
    split at h
    · have both : ∀ (B : Prop) (r : List Value), (B → Q (jmp pc off) ls r σ) → (¬ B → k ls r σ) → A := fun B r g1 g2 => by
        by_cases hB : B
        · exact hQ _ _ _ _ hb (g1 hB)
        · exact hk _ _ _ hb (g2 hB)
      cases c with
      | ne => exact both _ _ h.1 (fun q => h.2 (Classical.byContradiction q))
      | _ => exact both _ _ h.1 h.2
    · exact h.elim
  case if_icmp c off =>
    split at h
    · have both : ∀ (B : Prop) (r : List Value), (B → Q (jmp pc off) ls r σ) → (¬ B → k ls r σ) → A := fun B r g1 g2 => by
        by_cases hB : B
        · exact hQ _ _ _ _ hb (g1 hB)
        · exact hk _ _ _ hb (g2 hB)
      cases c with
      | ne => exact both _ _ h.1 (fun q => h.2 (Classical.byContradiction q))
      | _ => exact both _ _ h.1 h.2
    · exact h.elim
  case goto off => exact hQ _ _ _ _ hb h
  case tableswitch d lo hi offs =>
    split at h
    · obtain ⟨off, h1, h2, h3⟩ := h
      exact hQ _ _ _ _ hb h3
    · exact h.elim
  case lookupswitch d ps =>
    split at h
    · exact hQ _ _ _ _ hb h.2
    · exact h.elim
  case getfield f =>
    split at h
    · obtain ⟨h1, h2⟩ := h
      cases hr : eRf (f / 64) (f % 64) with
      | true => rw [hr] at h2; exact hk _ _ _ hb h2.2
      | false => rw [hr] at h2; exact hk _ _ _ hb h2
    · exact h.elim
  case putfield f =>
    split at h
    · obtain ⟨h1, h2⟩ := h
      cases hr : eRf (f / 64) (f % 64) with
      | true =>
        rw [hr] at h2
        dsimp only at h2
        split at h2
        · exact hk _ _ _ (B0_R hb) h2.2
        · exact h2.elim
      | false =>
        rw [hr] at h2
        dsimp only at h2
        split at h2
        · exact hk _ _ _ (B0_I h1.1 hb) h2.2
        · exact h2.elim
    · exact h.elim
  case iaload =>
    split at h
    · obtain ⟨n, h1, h2, h3⟩ := h
      exact hk _ _ _ hb h3
    · exact h.elim
  case baload =>
    split at h
    · obtain ⟨ty, n, h1, h2, h3, h4, h5⟩ := h
      exact hk _ _ _ hb h5
    · exact h.elim
  case laload =>
    split at h
    · obtain ⟨n, h1, h2, h3, h4⟩ := h
      exact hk _ _ _ hb h4
    · exact h.elim
  case aaload =>
    split at h
    · obtain ⟨C, n, h1, h2, h3, h4, h5⟩ := h
      exact hk _ _ _ hb h5
    · exact h.elim
  case iastore =>
    split at h
    · obtain ⟨n, h1, h2, h3, h4⟩ := h
      exact hk _ _ _ (B0_I h1 hb) h4
    · exact h.elim
  case bastore =>
    split at h
    · obtain ⟨ty, n, h1, h2, h3, h4, h5⟩ := h
      exact hk _ _ _ (B0_I h2 hb) h5
    · exact h.elim
  case lastore =>
    split at h
    · obtain ⟨n, h1, h2, h3, h4⟩ := h
      exact hk _ _ _ (B0_L hb) h4
    · exact h.elim
  case aastore =>
    split at h
    · obtain ⟨ci, n, h1, h2, h3, h4, h5, h6⟩ := h
      exact hk _ _ _ (B0_R hb) h6
    · exact h.elim
  case arraylength =>
    split at h
    · obtain ⟨ty, n, h1, h2⟩ := h
      exact hk _ _ _ hb h2
    · exact h.elim
  case new c => exact hk _ _ _ (B0_n hb) h.2
  case newarray t =>
    split at h
    · exact hk _ _ _ (B0_n hb) h.2.2.2
    · exact h.elim
  case anewarray t =>
    split at h
    · exact hk _ _ _ (B0_n hb) h.2.2.2
    · exact h.elim
  case monitorexit =>
    split at h
    · obtain ⟨h1, h2, h3, h4, h5, h6, h7⟩ := h
      rcases h7 with ⟨n0, n1, a1, a2, a3, a4, a5⟩ | ⟨n0, n1, a1, a2, a3, a4, a5⟩
      · exact hk _ _ _ (B0_c h6 hb) a5
      · exact hk _ _ _ (B0_cL hb) a5
    · exact h.elim
  case invokeinterface q n =>
    obtain ⟨h1, h0, h2, h3, h4⟩ := h
    rcases h4 with ⟨v, σ1, a1, a2⟩ | ⟨e, σ1, a0, a1, a2⟩
    · exact hk _ _ _ (hD _ _ _ _ _ a1 hb) a2
    · exact hT _ _ _ _ (hD _ _ _ _ _ a1 hb) a2
  case checkcast e => exact hT e pc ls (thrS σ) ⟨hb.1, hb.2⟩ h.2
  case ireturn =>
    split at h
    · exact hRi _ _ hb h
    · exact h.elim
  case lreturn =>
    split at h
    · exact hRl _ _ hb h.1 h.2
    · exact h.elim
  case return_ =>
    split at h
    · exact hRn _ hb h.1 h.2
    · exact h.elim
  all_goals first
    | exact hk _ _ _ hb h
    | (split at h <;> first | exact h.elim | exact hk _ _ _ hb h | exact hk _ _ _ hb h.2 | exact hk _ _ _ hb h.2.2)
def kdO (μ : Nat) (o : eO) : Prop := ∀ v, o = .inl v → (eRt μ = none → v = none) ∧ ∀ ty, eRt μ = some ty → ¬ ty = .long → ∃ x, v = some (.int x)
abbrev kdP : eP := fun μ _ _ _ σ o σo => ∀ f, B0 f σ → B0 f σo ∧ kdO μ o
theorem kdB {μ : Nat} {o : eO} {σo : eS} {f : Nat → Int32} (ops : List (Instr × Nat)) : ∀ {pc : Nat} {ls : eLs} {st : List Value} {σ : eS}, B0 f σ → wp (eDen kdP) (eRt μ) (fun v σ1 => o = .inl v ∧ σo = σ1) (eTh kdP μ o σo) (fun pc ls st σ1 => kdP μ pc ls st σ1 o σo) ops pc ls st σ → B0 f σo ∧ kdO μ o := by
  induction ops with
  | nil => intro pc ls st σ hb h; exact h f hb
  | cons a r ih =>
    obtain ⟨op, len⟩ := a
    intro pc ls st σ hb h
    refine wp1_A (f := f) (fun q a σ o σ1 h1 h2 => (h1 f h2).1) (fun x σ h1 h2 => ?_) (fun x σ h1 h2 h3 => ?_) (fun σ h1 h2 h3 => ?_) (fun e pc ls σ h1 h2 => ?_) (fun pc ls st σ h1 h2 => h2 f h1) (fun ls st σ h1 h2 => ih h1 h2) hb h
    · unfold retI at h2
      split at h2
      · rename_i ty hty
        obtain ⟨_, h4, h5⟩ := h2
        subst h5
        refine ⟨h1, fun v hv => ?_⟩
        rw [h4] at hv
        cases hv
        refine ⟨fun k => ?_, fun ty' _ _ => ⟨x, rfl⟩⟩
        rw [hty] at k; cases k
      · exact h2.elim
    · obtain ⟨h4, h5⟩ := h3
      subst h5
      refine ⟨h1, fun v hv => ?_⟩
      rw [h4] at hv
      cases hv
      refine ⟨fun k => ?_, fun ty' k1 k2 => ?_⟩
      · rw [h2] at k; cases k
      · rw [h2] at k1; cases k1; exact absurd rfl k2
    · obtain ⟨h4, h5⟩ := h3
      subst h5
      refine ⟨h1, fun v hv => ?_⟩
      rw [h4] at hv
      cases hv
      refine ⟨fun _ => rfl, fun ty' k1 k2 => ?_⟩
      rw [h2] at k1; cases k1
    · rcases h2 with ⟨_, _, h4, h5⟩ | ⟨_, j, hh, k, len, _, h3⟩
      · subst h5
        exact ⟨h1, fun v hv => by rw [h4] at hv; cases hv⟩
      · exact h3 f h1
theorem eClosed_kd : eClosed kdP := by
  refine ⟨fun μ pc ops ls st σ o σo hc h f hb => kdB ops hb h, fun μ pc ls ls' st σ o σo hs h f hb => h f hb, fun μ pc ls st σ σ' o σo hA h f hb => h f ⟨by rw [hA.1]; exact hb.1, fun j => by rw [hA.2.2.2.2.1 j]; exact hb.2 j⟩⟩
theorem Run.kd {μ pc : Nat} {ls : eLs} {st : List Value} {σ : eS} {o : eO} {σo : eS} (h : Run μ pc ls st σ o σo) (h0 : 0 < sN σ) : (∀ j, sI σo 0 j = sI σ 0 j) ∧ kdO μ o :=
  have := h kdP eClosed_kd (fun j => sI σ 0 j) ⟨h0, fun _ => rfl⟩
  ⟨this.1.2, this.2⟩
