/-! Counts and searches; numbers below 2^31 as Int32. -/
def cn (P : Nat → Bool) : Nat → Nat
  | 0 => 0
  | n + 1 => cn P n + (if P n = true then 1 else 0)
theorem cn_le (P : Nat → Bool) (n : Nat) : cn P n ≤ n := by
  induction n with
  | zero => exact Nat.le_refl _
  | succ n ih => unfold cn; split <;> omega
theorem cn_congr {P Q : Nat → Bool} {n : Nat} (h : ∀ k, k < n → P k = Q k) : cn P n = cn Q n := by
  induction n with
  | zero => rfl
  | succ n ih => unfold cn; rw [ih (fun k hk => h k (by omega)), h n (by omega)]
theorem cn_zero {P : Nat → Bool} {n : Nat} (h : ∀ k, k < n → P k = false) : cn P n = 0 := by
  induction n with
  | zero => rfl
  | succ n ih => unfold cn; rw [ih (fun k hk => h k (by omega)), h n (by omega)]; rfl
theorem cn_mono {P : Nat → Bool} {m n : Nat} (h : m ≤ n) : cn P m ≤ cn P n := by
  induction n with
  | zero => rw [show m = 0 by omega]; exact Nat.le_refl _
  | succ n ih =>
    by_cases e : m = n + 1
    · rw [e]; exact Nat.le_refl _
    · have h1 := ih (by omega)
      show cn P m ≤ cn P n + (if P n = true then 1 else 0)
      omega
/-- the first one from k on, among m -/
def sk (P : Nat → Bool) : Nat → Nat → Option Nat
  | 0, _ => none
  | m + 1, k => if P k = true then some k else sk P m (k + 1)
theorem sk_congr {P Q : Nat → Bool} {m k : Nat} (h : ∀ j, k ≤ j → j < k + m → P j = Q j) : sk P m k = sk Q m k := by
  induction m generalizing k with
  | zero => rfl
  | succ m ih => unfold sk; rw [h k (by omega) (by omega), ih (fun j h1 h2 => h j (by omega) (by omega))]
theorem sk_some {P : Nat → Bool} {m k j : Nat} (h : sk P m k = some j) : k ≤ j ∧ j < k + m ∧ P j = true ∧ ∀ i, k ≤ i → i < j → P i = false := by
  induction m generalizing k with
  | zero => cases h
  | succ m ih =>
    unfold sk at h
    split at h
    · cases h
      rename_i hp
      exact ⟨Nat.le_refl _, by omega, hp, fun i h1 h2 => by omega⟩
    · rename_i hp
      obtain ⟨a1, a2, a3, a4⟩ := ih h
      refine ⟨by omega, by omega, a3, fun i h1 h2 => ?_⟩
      by_cases e : i = k
      · rw [e]; simpa using hp
      · exact a4 i (by omega) h2
theorem sk_none {P : Nat → Bool} {m k : Nat} (h : sk P m k = none) : ∀ j, k ≤ j → j < k + m → P j = false := by
  induction m generalizing k with
  | zero => intro j h1 h2; omega
  | succ m ih =>
    unfold sk at h
    split at h
    · cases h
    · rename_i hp
      intro j h1 h2
      by_cases e : j = k
      · rw [e]; simpa using hp
      · exact ih h j (by omega) (by omega)
theorem cl (k : Nat) (h : k < 2 ^ 31) : (nI k).toNatClampNeg = k := nI_clamp h
def oI (r : Option Nat) : Int32 := match r with | none => -1 | some k => nI k
theorem u2_u1 {α : Type} (f : Nat → Nat → α) (a i : Nat) (r : Nat → α) (x : α) : u2 (u1 f a r) a i x = u1 f a (fun j => if j = i then x else r j) := by
  funext b j
  unfold u2 u1
  by_cases hb : b = a
  · simp [hb]
  · simp [hb]
theorem u1_u1 {α : Type} (f : Nat → Nat → α) (a : Nat) (r q : Nat → α) : u1 (u1 f a r) a q = u1 f a q := by
  funext b j; unfold u1; by_cases hb : b = a <;> simp [hb]
theorem u1_id {α : Type} (f : Nat → Nat → α) (a : Nat) : u1 f a (f a) = f := by
  funext b j; unfold u1; by_cases hb : b = a <;> simp [hb]
theorem u2_id {α : Type} (f : Nat → Nat → α) (a i : Nat) : u2 f a i (f a i) = f := by
  funext b j; unfold u2
  by_cases hb : b = a
  · by_cases hj : j = i
    · simp [hb, hj]
    · simp [hj]
  · simp [hb]
theorem u2_at {α : Type} (f : Nat → Nat → α) (a i b j : Nat) (x : α) : u2 f a i x b j = if b = a ∧ j = i then x else f b j := by
  unfold u2; by_cases hb : b = a <;> by_cases hj : j = i <;> simp [hb, hj]
theorem u1_at {α : Type} (f : Nat → Nat → α) (a b j : Nat) (r : Nat → α) : u1 f a r b j = if b = a then r j else f b j := rfl
theorem b_ne {b : Bool} : (¬ (if b = true then (1 : Int32) else 0) = 0) ↔ b = true := by cases b <;> decide
theorem b_eq {b : Bool} : ((if b = true then (1 : Int32) else 0) = 0) ↔ b = false := by cases b <;> decide
theorem b_nar {b : Bool} : narrow .boolean (.int (if b = true then (1 : Int32) else 0)) = .int (if b = true then (1 : Int32) else 0) := by cases b <;> rfl
