/-! The machine's picture of a store: cells at base, base + 1, .. (the script at b); what holds at every frame's entry. -/
def eAd (b base k : Nat) : Nat := match k with
  | 0 => b
  | j + 1 => base + j
def eVl (b base : Nat) (v : Value) : Value := match v with
  | .ref k => .ref (eAd b base k)
  | v => v
theorem eVl_cat (b base : Nat) (v : Value) : (eVl b base v).category = v.category := by cases v <;> rfl
def eFl (b base : Nat) (σ : eS) (a c i : Nat) : Value := if eRf c i = true then (if sR σ a i = 0 then .null else .ref (eAd b base (sR σ a i))) else .int (sI σ a i)
def eCell (b base : Nat) (cA : FieldType → ClassId) (σ : eS) (a : Nat) : va_E := match sK σ a with
  | .inl c => .inr (c, (List.range (eNF c)).map (fun i => eFl b base σ a c i))
  | .inr (ty, n) => .inl (cA ty, n, match ty with
    | .long => .inr (.inl (sL σ a))
    | .object _ => .inr (.inr (.inr (.inr (fun i => if sR σ a i = 0 then none else some (eAd b base (sR σ a i))))))
    | _ => .inl (sI σ a))
def eW (b base : Nat) (cA : FieldType → ClassId) (σ : eS) : va_W := (List.range (sN σ - 1)).map (fun j => (base + j, eCell b base cA σ (j + 1)))
abbrev eA (base : Nat) : Nat → Prop := fun q => base ≤ q
def eTys : List FieldType := [.int, .boolean, .byte, .long, .object RX3, .object RX6, .object RX7]
abbrev eTs (cA : FieldType → ClassId) : List (ClassId × FieldType) := eTys.map (fun t => (cA t, t))
def eRep (b base L : Nat) (xs : Nat → Int32) (cA : FieldType → ClassId) (D : va_G) (σ : eS) (H : Heap) : Prop :=
  va_P D eCl (eW b base cA σ) H ∧ 1 ≤ sN σ ∧
  (∀ a, 0 < a → a < sN σ → (∀ c, sK σ a = .inl c → c < 10) ∧ (∀ ty n, sK σ a = .inr (ty, n) → ty ∈ eTys ∧ n ≤ 100000)) ∧ b < base ∧ sK σ 0 = .inr (.int, L) ∧ ∀ j, sI σ 0 j = xs j
theorem eW_at {b base : Nat} {cA : FieldType → ClassId} {σ : eS} {a : Nat} (h0 : 0 < a) (h1 : a < sN σ) : (eW b base cA σ)[a - 1]? = some (eAd b base a, eCell b base cA σ a) := by
  obtain ⟨j, rfl⟩ : ∃ j, a = j + 1 := ⟨a - 1, by omega⟩
  unfold eW
  rw [List.getElem?_map, List.getElem?_range (show j + 1 - 1 < sN σ - 1 by omega)]
  rfl
theorem eW_D {b base : Nat} {cA : FieldType → ClassId} {σ : eS} : va_D (eA base) (eW b base cA σ) := by
  have key : ∀ (i : Nat) (q : Nat × va_E), (eW b base cA σ)[i]? = some q → q.1 = base + i := by
    intro i q hq
    unfold eW at hq
    rw [List.getElem?_map] at hq
    cases hr : (List.range (sN σ - 1))[i]? with
    | none => rw [hr] at hq; cases hq
    | some j =>
      rw [hr] at hq
      have hj : i = j := by
        obtain ⟨h1, h2⟩ := List.getElem?_eq_some_iff.mp hr
        rw [List.getElem_range] at h2
        exact h2
      subst hj
      cases hq
      rfl
  refine ⟨fun i j p q hp hq he => ?_, fun k q hq => ?_⟩
  · have h1 := key i p hp
    have h2 := key j q hq
    omega
  · have h1 := key k q hq
    show base ≤ q.1
    omega
/-- one cell is written: the list of cells is set at its place -/
theorem eW_set {b base : Nat} {cA : FieldType → ClassId} {σ σ' : eS} {a : Nat} (h0 : 0 < a) (h1 : a < sN σ) (hn : sN σ' = sN σ) (ho : ∀ a', a' ≠ a → eCell b base cA σ' a' = eCell b base cA σ a') {x : va_E} (hx : eCell b base cA σ' a = x) :
    (eW b base cA σ).set (a - 1) (eAd b base a, x) = eW b base cA σ' := by
  subst hx
  apply List.ext_getElem?
  intro i
  unfold eW
  rw [List.getElem?_set, hn]
  by_cases hi : a - 1 = i
  · rw [if_pos hi]
    subst hi
    rw [List.length_map, List.length_range, if_pos (by omega), List.getElem?_map, List.getElem?_range (by omega)]
    show _ = some (base + (a - 1), eCell b base cA σ' (a - 1 + 1))
    rw [show a - 1 + 1 = a by omega]
    obtain ⟨j, rfl⟩ : ∃ j, a = j + 1 := ⟨a - 1, by omega⟩
    rfl
  · rw [if_neg hi, List.getElem?_map, List.getElem?_map]
    cases hr : (List.range (sN σ - 1))[i]? with
    | none => rfl
    | some j =>
      have hj : i = j := by
        obtain ⟨h1, h2⟩ := List.getElem?_eq_some_iff.mp hr
        rw [List.getElem_range] at h2
        exact h2
      show some (base + j, eCell b base cA σ (j + 1)) = some (base + j, eCell b base cA σ' (j + 1))
      rw [ho (j + 1) (by omega)]
/-- one cell is new: the list grows behind -/
theorem eW_new {b base : Nat} {cA : FieldType → ClassId} {σ σ' : eS} (h1 : 1 ≤ sN σ) (hn : sN σ' = sN σ + 1) (ho : ∀ a', a' < sN σ → eCell b base cA σ' a' = eCell b base cA σ a') {x : va_E} (hx : eCell b base cA σ' (sN σ) = x) :
    eW b base cA σ ++ [(base + (sN σ - 1), x)] = eW b base cA σ' := by
  subst hx
  unfold eW
  rw [hn, show sN σ + 1 - 1 = (sN σ - 1) + 1 by omega, List.range_succ, List.map_append]
  have e1 : List.map (fun j => (base + j, eCell b base cA σ (j + 1))) (List.range (sN σ - 1)) = List.map (fun j => (base + j, eCell b base cA σ' (j + 1))) (List.range (sN σ - 1)) := by
    apply List.map_congr_left
    intro j hj
    rw [ho (j + 1) (by have := List.mem_range.mp hj; omega)]
  rw [e1]
  simp only [List.map_cons, List.map_nil]
  rw [show sN σ - 1 + 1 = sN σ from by omega]
/-- cells that differ in no part that a cell shows -/
theorem eCell_eq {b base : Nat} {cA : FieldType → ClassId} {σ σ' : eS} {a : Nat} (hK : sK σ' a = sK σ a) (hI : sI σ' a = sI σ a) (hL : sL σ' a = sL σ a) (hR : sR σ' a = sR σ a) : eCell b base cA σ' a = eCell b base cA σ a := by
  unfold eCell eFl
  rw [hK, hI, hL, hR]
def eNg (w : Cond) : Bool := match w with
  | .fieldLinkNest .. => true | .methodLinkNest .. => true | .castable .. => true | .declares _ => true | _ => false
abbrev gTb : List Cond := lw_tbl.filter goodWord
/-- what holds at a frame's entry, of tables and of what the store doesn't show -/
def eSt (b base L : Nat) (xs : Nat → Int32) (cA : FieldType → ClassId) (D : va_G) (s : State) : Prop :=
  va_K D eCl (eTs cA) s ∧ vx_Zq Bundle.tN "UNASSIGNED_STACK" Bundle.steD (eA base) s s.heap ∧ vx_Zq Bundle.tN "SUPPRESSED_SENTINEL" Bundle.listD (eA base) s s.heap ∧ va_X b L xs s s.heap ∧ b < base ∧ base ≤ s.heap.size ∧
  (∀ w ∈ lw_tbl, eNg w = true → va_Nw w s) ∧ (va_AO RX3 s ∧ va_AO RX6 s ∧ va_AO RX7 s) ∧ (∀ t ∈ eLS, ∃ sa, vk_R RX8 t.1 t.2.1 sa s) ∧ (∀ e e', e < 4 → e' < 4 → e ≠ e' → va_Nc (eEN e) (eEN e') s)
theorem eSt.on {b base L : Nat} {xs : Nat → Int32} {cA : FieldType → ClassId} {D : va_G} {s U : State} {H : Heap} {locs : List Loc} (h : eSt b base L xs cA D s) (hW : s.WarmedH U.vm) (hU : U.heap = H) (hS : va_S (eA base) s.heap H locs) : eSt b base L xs cA D U := by
  obtain ⟨h1, h2, h3, h4, h5, h6, h7, ⟨h8, h8', h8''⟩, h9, h10⟩ := h
  subst hU
  have hal := hW.alike
  refine ⟨va_K.moved hal h1, vx_Zq.moved hal (h2.kept hS.2.1), vx_Zq.moved hal (h3.kept hS.2.1), va_X.moved hal (h4.kept (hS.2.1 b (by omega) (by show ¬ base ≤ b; omega))), h5, Nat.le_trans h6 hS.1, fun w hw hn => ?_, ⟨va_AO.moved hal h8, va_AO.moved hal h8', va_AO.moved hal h8''⟩, fun t ht => ?_, fun e e' he he' hne => va_Nc.moved hal (h10 e e' he he' hne)⟩
  · have h := h7 w hw hn
    cases w <;> simp only [eNg] at hn <;> first | cases hn | skip
    all_goals first | exact va_Nw.warmD hW h | exact va_Nw.warmC hW h | exact va_Nw.warmF hW h | exact va_Nw.warmM hW h
  · obtain ⟨sa, h⟩ := h9 t ht
    exact ⟨sa, vk_R.warm hW h⟩
