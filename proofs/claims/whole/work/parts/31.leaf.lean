/-! Leaves: the disk, what is forgotten, what is asked first. -/
abbrev bb (b : Bool) : Int32 := if b = true then 1 else 0
abbrev dP (q : Nat) (as : List Value) (L h z : Nat) (I : rI) (J : rJ) (v : Int32) : Prop := Den q as (mS L I J h z) (.inl (some (.int v))) (mS L I J h z)
abbrev dN (q : Nat) (as : List Value) (L h z : Nat) (I : rI) (J : rJ) : Prop := Den q as (mS L I J h z) (.inl none) (mS L I J h z)
abbrev dU (q : Nat) (as : List Value) (L h z : Nat) (I : rI) (J : rJ) (I' : rI) (J' : rJ) : Prop := Den q as (mS L I J h z) (.inl none) (mS L I' J' h z)
abbrev dV (q : Nat) (as : List Value) (L h z : Nat) (I : rI) (J : rJ) (v : Int32) (I' : rI) (J' : rJ) : Prop := Den q as (mS L I J h z) (.inl (some (.int v))) (mS L I' J' h z)
abbrev dT (q : Nat) (as : List Value) (L h z : Nat) (I : rI) (J : rJ) (e : Nat) (I' : rI) (J' : rJ) : Prop := Den q as (mS L I J h z) (.inr e) (mS L I' J' (h + 1) (z + 6))
def rg (x : Int32) (N : Nat) : Bool := !decide (x < 0) && !decide (nI N ≤ x)
theorem rg_t {x : Int32} {N : Nat} (hN : N < 2147483648) : rg x N = true ↔ ∃ s, s < N ∧ x = nI s := by
  unfold rg
  simp only [Bool.and_eq_true, Bool.not_eq_true', decide_eq_false_iff_not]
  constructor
  · rintro ⟨h1, h2⟩
    refine ⟨x.toInt.toNat, ?_⟩
    simp only [ti_lt, ti_le, ti_eq, ti_nI, Int32.reduceToInt] at *
    have := ti_lo x
    have := ti_hi x
    omega
  · rintro ⟨s, hs, rfl⟩
    simp only [ti_lt, ti_le, ti_nI, Int32.reduceToInt]
    omega
theorem rg_nI {s N : Nat} (hN : N < 2147483648) (h : s < N) : rg (nI s) N = true := (rg_t hN).mpr ⟨s, h, rfl⟩
theorem rg_f {x : Int32} {N : Nat} (hN : N < 2147483648) (h : ¬ ∃ s, s < N ∧ x = nI s) : rg x N = false := by
  rw [← Bool.not_eq_true, rg_t hN]; exact h
section
variable {L h z n t : Nat} {st tm fv : Nat → Nat} {I : rI} {J : rJ}
theorem s91 {x : Int32} : dP 91 [.int x] L h z I J (bb (rg x 32)) := by
  refine r91_0 ⟨fun c => ?_, fun c => ⟨fun c2 => ?_, fun c2 => ?_⟩⟩ <;> simp [rg, nI, *]
theorem s92 {x : Int32} : dP 92 [.int x] L h z I J (bb (rg x 40)) := by
  refine r92_0 ⟨fun c => ?_, fun c => ⟨fun c2 => ?_, fun c2 => ?_⟩⟩ <;> simp [rg, nI, *]
theorem s93 {x : Int32} : dP 93 [.int x] L h z I J (bb (decide (x = -1) || rg x 40)) := by
  refine r93_0 ⟨fun c => ?_, fun c => ⟨_, s92, fun c2 => ?_, fun c2 => ?_⟩⟩
  · simp [c]
  · simp [c, b_eq.mp c2]
  · simp [c, b_ne.mp c2]
theorem s94 {x : Int32} : dP 94 [.int x] L h z I J (bb (rg x 8)) := by
  refine r94_0 ⟨fun c => ?_, fun c => ⟨fun c2 => ?_, fun c2 => ?_⟩⟩ <;> simp [rg, nI, *]
theorem s95 {x : Int32} : dP 95 [.int x] L h z I J (bb (rg x 8)) := by
  refine r95_0 ⟨fun c => ?_, fun c => ⟨fun c2 => ?_, fun c2 => ?_⟩⟩ <;> simp [rg, nI, *]
theorem s115 {v a b : Int32} : dP 115 [.int v, .int a, .int b] L h z I J (bb (!decide (v < a) && !decide (b < v))) := by
  refine r115_0 ⟨fun c => ?_, fun c => ⟨fun c2 => ?_, fun c2 => ?_⟩⟩ <;> simp [*]
theorem s11 {x : Int32} (hn : I 10 7 = nI n) : dP 11 [.ref 10, .int x] L h z I J (bb (rg x n)) := by
  refine r11_0 ⟨fun c => ?_, fun c => ⟨fun c2 => ?_, fun c2 => ?_⟩⟩
  · simp [rg, *]
  · rw [hn] at c2; simp [rg, c, c2]
  · rw [hn] at c2; simp [rg, c, c2]
theorem s1 {x : Int32} : dP 1 [.ref 2, .int x] L h z I J (bb (!decide (100000 - I 2 1 < x))) := by
  refine r1_0 ⟨fun c => ?_, fun c => ?_⟩ <;> simp [c]
theorem s12 {x : Int32} : dP 12 [.ref 10, .int x] L h z I J (bb (!decide (2500 - I 10 7 < x))) := by
  refine r12_0 ⟨fun c => ?_, fun c => ?_⟩ <;> simp [c]
/-- does a record of x bytes last (class) -/
abbrev lsC (I : rI) (x : Int32) : Bool := decide (I 2 3 = -1) || !decide (I 2 3 < x)
abbrev onC (I : rI) : Int32 := if I 2 3 = -1 then 1 else 0
theorem s5 {x : Int32} : dV 5 [.ref 2, .int x] L h z I J (bb (lsC I x)) (u2 I 2 0 (onC I)) J := by
  refine r5_0 ⟨fun c => ⟨fun c2 => absurd rfl c2, fun _ => ⟨fun c3 => ?_, fun c3 => ?_⟩⟩, fun c => ⟨fun _ => ?_, fun c2 => absurd c2 (by decide)⟩⟩ <;> simp [onC, lsC, *]
def wsC (I : rI) (x : Int32) : rI := if lsC I x = true then u2 (u2 (u2 I 2 0 (onC I)) 2 1 (I 2 1 + x)) 2 2 (I 2 2 + 1) else u2 I 2 0 (onC I)
theorem s2 {x : Int32} : dV 2 [.ref 2, .int x] L h z I J (bb (lsC I x)) (wsC I x) J := by
  refine r2_0 ⟨_, _, _, s5, fun c => ?_, fun c => ?_⟩
  · have c2 := b_eq.mp c
    exact ⟨b_nar, rfl, by unfold wsC; rw [c2]; rfl⟩
  · have c2 := b_ne.mp c
    refine ⟨b_nar, rfl, ?_⟩
    unfold wsC
    rw [c2, if_pos rfl]
    simp [u2_at]
theorem s8 : dU 8 [.ref 3] L h z I J (u2 I 3 3 0) J := r8_0 ⟨rfl, rfl⟩
theorem s55 : dU 55 [.ref 7] L h z I J (u2 I 7 2 0) J := r55_0 ⟨rfl, rfl⟩
theorem s4 : dU 4 [.ref 2] L h z I J (u2 (u2 I 2 0 1) 2 3 (-1)) J := r4_0 ⟨rfl, rfl⟩
theorem s155_loop {a N : Nat} {x : Int32} (hk : aK a .int N) (hN : N ≤ 100000) : ∀ m k (r : Nat → Int32), k + m = N →
    Run 155 5 [(0, .ref a), (1, .int x), (2, .int (nI k)), (3, .int (nI N))] [] (mS L (u1 I a r) J h z) (.inl none) (mS L (u1 I a (fun j => if k ≤ j ∧ j < N then x else r j)) J h z) := by
  intro m
  induction m with
  | zero =>
    intro k r hm
    refine r155_5 hk ⟨fun _ => ⟨rfl, ?_⟩, fun c => absurd (nI_le (by omega) (by omega)) c⟩
    have e : (fun j => if k ≤ j ∧ j < N then x else r j) = r := by
      funext j; rw [if_neg (by omega)]
    rw [e]
  | succ m ih =>
    intro k r hm
    refine r155_5 hk ⟨fun c => absurd ((nI_leI (by omega) (by omega)).mp c) (by omega), fun _ => ⟨vp_in_nI (by omega) (by omega), ?_⟩⟩
    rw [nI_1, cl k (by omega), u2_u1]
    have e := ih (k + 1) (fun j => if j = k then x else r j) (by omega)
    have e2 : (fun j => if k + 1 ≤ j ∧ j < N then x else if j = k then x else r j) = (fun j => if k ≤ j ∧ j < N then x else r j) := by
      funext j; repeat' split
      all_goals first | rfl | omega
    rw [e2] at e
    exact e
theorem s155 {a N : Nat} {x : Int32} (hk : aK a .int N) (hN : N ≤ 100000) : dU 155 [.ref a, .int x] L h z I J (u1 I a (fun j => if j < N then x else I a j)) J := by
  have e := s155_loop (L := L) (h := h) (z := z) (I := I) (J := J) (x := x) hk hN N 0 (I a) (by omega)
  rw [u1_id] at e
  have e2 : (fun j => if 0 ≤ j ∧ j < N then x else I a j) = (fun j => if j < N then x else I a j) := by
    funext j; simp
  rw [e2] at e
  exact r155_0 hk e
theorem s154_loop {a N : Nat} {x : Int64} (hk : aK a .long N) (hN : N ≤ 100000) : ∀ m k (r : Nat → Int64), k + m = N →
    Run 154 6 [(0, .ref a), (1, .long x), (3, .int (nI k)), (4, .int (nI N))] [] (mS L I (u1 J a r) h z) (.inl none) (mS L I (u1 J a (fun j => if k ≤ j ∧ j < N then x else r j)) h z) := by
  intro m
  induction m with
  | zero =>
    intro k r hm
    refine r154_6 hk ⟨fun _ => ⟨rfl, ?_⟩, fun c => absurd (nI_le (by omega) (by omega)) c⟩
    have e : (fun j => if k ≤ j ∧ j < N then x else r j) = r := by
      funext j; rw [if_neg (by omega)]
    rw [e]
  | succ m ih =>
    intro k r hm
    refine r154_6 hk ⟨fun c => absurd ((nI_leI (by omega) (by omega)).mp c) (by omega), fun _ => ⟨vp_in_nI (by omega) (by omega), ?_⟩⟩
    rw [nI_1, cl k (by omega), u2_u1]
    have e := ih (k + 1) (fun j => if j = k then x else r j) (by omega)
    have e2 : (fun j => if k + 1 ≤ j ∧ j < N then x else if j = k then x else r j) = (fun j => if k ≤ j ∧ j < N then x else r j) := by
      funext j; repeat' split
      all_goals first | rfl | omega
    rw [e2] at e
    exact e
theorem s154 {a N : Nat} {x : Int64} (hk : aK a .long N) (hN : N ≤ 100000) : dU 154 [.ref a, .long x] L h z I J I (u1 J a (fun j => if j < N then x else J a j)) := by
  have e := s154_loop (L := L) (h := h) (z := z) (I := I) (J := J) (x := x) hk hN N 0 (J a) (by omega)
  rw [u1_id] at e
  have e2 : (fun j => if 0 ≤ j ∧ j < N then x else J a j) = (fun j => if j < N then x else J a j) := by
    funext j; simp
  rw [e2] at e
  exact r154_0 hk e
theorem aK_g1 {g : Nat} (hg : g < 8) : aK (66 + 5 * g) .int 2500 := by have := w3_a0 (sG hg); rwa [(R0_g hg).1] at this
theorem aK_g2 {g : Nat} (hg : g < 8) : aK (67 + 5 * g) .int 2500 := by have := w3_a1 (sG hg); rwa [(R0_g hg).2.1] at this
theorem aK_g3 {g : Nat} (hg : g < 8) : aK (68 + 5 * g) .int 16 := by have := w3_a2 (sG hg); rwa [(R0_g hg).2.2.1] at this
theorem aK_g4 {g : Nat} (hg : g < 8) : aK (69 + 5 * g) .int 16 := by have := w3_a3 (sG hg); rwa [(R0_g hg).2.2.2] at this
/-- forgetGiven -/
theorem s27 {g : Nat} (hg : g < 8) : dU 27 [.ref (65 + 5 * g)] L h z I J (u1 (u2 I (65 + 5 * g) 4 0) (67 + 5 * g) (fun j => if j < 2500 then 0 else I (67 + 5 * g) j)) J := by
  have e := s155 (L := L) (h := h) (z := z) (I := u2 I (65 + 5 * g) 4 0) (J := J) (x := 0) (aK_g2 hg) (by omega)
  refine r27_0 (sG hg) ⟨_, _, ?_, ⟨rfl, rfl⟩⟩
  rw [(R0_g hg).2.1]
  simp only [u2_at, show ¬ (67 + 5 * g = 65 + 5 * g) by omega, false_and, if_false] at e
  exact e
/-- what groups below x forget -/
def cOg (I : rI) (x : Nat) : rI := fun b j => if 65 ≤ b ∧ b < 65 + 5 * x ∧ ((b - 65) % 5 = 0 ∧ j = 4 ∨ (b - 65) % 5 = 2 ∧ j < 2500) then 0 else I b j
def cOff (I : rI) : rI := cOg (u2 (u2 I 3 3 0) 7 2 0) 8
theorem cOg_0 : cOg I 0 = I := by
  funext b j; unfold cOg; rw [if_neg (by omega)]
theorem cOg_s {g : Nat} (I0 : rI) : u1 (u2 (cOg I0 g) (65 + 5 * g) 4 0) (67 + 5 * g) (fun j => if j < 2500 then 0 else cOg I0 g (67 + 5 * g) j) = cOg I0 (g + 1) := by
  funext b j
  simp only [u1_at, u2_at, cOg]
  repeat' split
  all_goals first | rfl | omega | (simp_all; done) | (exfalso; omega) | (subst_vars; rfl)
theorem s105_loop : ∀ m g, g + m = 8 → Run 105 16 [(0, .ref 1), (1, .int (nI g))] [] (mS L (cOg I g) J h z) (.inl none) (mS L (cOg I 8) J h z) := by
  intro m
  induction m with
  | zero =>
    intro g hg
    refine r105_16 ⟨fun _ => ⟨rfl, by rw [show g = 8 by omega]⟩, fun c => absurd (by rw [show g = 8 by omega]; decide) c⟩
  | succ m ih =>
    intro g hg
    refine r105_16 ⟨fun c => absurd ((nI_leI (a := 8) (by omega) (by omega)).mp c) (by omega), fun _ => ⟨vp_in_nI (by omega) (by omega), ?_⟩⟩
    rw [cl g (by omega), R0_63 (by omega)]
    refine ⟨_, _, s27 (by omega), ?_⟩
    rw [cOg_s, nI_1]
    exact ih (g + 1) (by omega)
/-- forgetWhatDoesNotLast -/
theorem s105 : dU 105 [.ref 1] L h z I J (cOff I) J := by
  refine r105_0 ⟨_, _, s8, _, _, s55, ?_⟩
  have e := s105_loop (L := L) (h := h) (z := z) (J := J) (I := u2 (u2 I 3 3 0) 7 2 0) 8 0 (by omega)
  rw [cOg_0] at e
  exact e
theorem s100 (ho : I 2 0 = 1) : dN 100 [.ref 1] L h z I J := by
  refine r100_0 ⟨fun _ => ⟨rfl, rfl⟩, fun c => absurd (ho.symm.trans c) (by decide)⟩
theorem s100t (ho : I 2 0 = 0) : dT 100 [.ref 1] L h z I J 1 I J := by
  refine r100_0 ⟨fun c => absurd ho c, fun _ => ⟨rfl, rfl⟩⟩
theorem s101 {x : Int32} (ho : ¬ 100000 - I 2 1 < x) : dN 101 [.ref 1, .int x] L h z I J := by
  refine r101_0 ⟨_, s1, fun _ => ⟨rfl, rfl⟩, fun c => absurd c ?_⟩
  simp [ho]
theorem s101t {x : Int32} (ho : 100000 - I 2 1 < x) : dT 101 [.ref 1, .int x] L h z I J 1 I J := by
  refine r101_0 ⟨_, s1, fun c => absurd ?_ c, fun _ => ⟨rfl, rfl⟩⟩
  simp [ho]
theorem s104 (ho : I 2 0 = 1) : dN 104 [.ref 1] L h z I J := by
  refine r104_0 ⟨fun _ => ⟨rfl, rfl⟩, fun c => absurd (ho.symm.trans c) (by decide)⟩
theorem s104t (ho : I 2 0 = 0) : dT 104 [.ref 1] L h z I J 2 (cOff I) J := by
  refine r104_0 ⟨fun c => absurd ho c, fun _ => ⟨_, _, s105, rfl, rfl⟩⟩
/-! The model's. -/
theorem s114 {b : Bool} {x : Int32} : dV 114 [.ref 145, .int (bb b), .int x] L h z I J (bb b) (u2 I 145 0 (if b = true then x else 0)) J := by
  refine r114_0 ⟨fun c => ⟨b_nar, rfl, ?_⟩, fun c => ⟨b_nar, rfl, ?_⟩⟩
  · rw [b_eq.mp c]; rfl
  · rw [b_ne.mp c]; rfl
def mO0 (I : rI) : rI := u2 (u2 (u2 (u2 I 145 1 0) 145 22 0) 145 32 0) 145 5 (-1)
def mOx (I : rI) (x : Nat) : rI := fun b j => if (b = 166 ∨ b = 167) ∧ j < x then 0 else I b j
def mOff (I : rI) : rI := mOx (mO0 I) 20000
theorem mOx_s {x : Nat} : u2 (u2 (mOx I x) 166 x 0) 167 x 0 = mOx I (x + 1) := by
  funext b j
  simp only [u2_at, mOx]
  repeat' split
  all_goals first | rfl | omega | (exfalso; omega)
theorem s116_loop : ∀ m k, k + m = 20000 → Run 116 22 [(0, .ref 145), (1, .int (nI k))] [] (mS L (mOx I k) J h z) (.inl none) (mS L (mOx I 20000) J h z) := by
  intro m
  induction m with
  | zero =>
    intro k hk
    refine r116_22 ⟨fun _ => ⟨rfl, by rw [show k = 20000 by omega]⟩, fun c => absurd (by rw [show k = 20000 by omega]; decide) c⟩
  | succ m ih =>
    intro k hk
    refine r116_22 ⟨fun c => absurd ((nI_leI (a := 20000) (by omega) (by omega)).mp c) (by omega), fun _ => ⟨vp_in_nI (by omega) (by omega), ?_⟩⟩
    rw [cl k (by omega), mOx_s, nI_1]
    exact ih (k + 1) (by omega)
theorem s116 : dU 116 [.ref 145] L h z I J (mOff I) J := by
  refine r116_0 ?_
  have e := s116_loop (L := L) (h := h) (z := z) (J := J) (I := mO0 I) 20000 0 (by omega)
  have e2 : mOx (mO0 I) 0 = mO0 I := by funext b j; unfold mOx; rw [if_neg (by omega)]
  rw [e2] at e
  exact e
theorem s117 {x : Int32} : dP 117 [.ref 145, .int x] L h z I J (bb (!decide (I 145 3 + x ≤ 100000))) := by
  refine r117_0 ⟨fun c => ?_, fun c => ?_⟩ <;> simp [c]
/-- does a record last (model) -/
abbrev lsM (I : rI) (x : Int32) : Bool := decide (I 145 5 < 0) || decide (x ≤ I 145 5)
abbrev flM (I : rI) : Int32 := if I 145 5 < 0 then 0 else 1
def wsM (I : rI) (x : Int32) : rI := if lsM I x = true then u2 (u2 (u2 I 145 43 (flM I)) 145 3 (I 145 3 + x)) 145 4 (I 145 4 + 1) else u2 I 145 43 (flM I)
theorem s118 {x : Int32} : dV 118 [.ref 145, .int x] L h z I J (bb (lsM I x)) (wsM I x) J := by
  refine r118_0 ⟨fun c => ⟨fun _ => ?_, fun c2 => absurd rfl c2⟩, fun c => ⟨fun c2 => absurd c2 (by decide), fun _ => ⟨fun c3 => ?_, fun c3 => ?_⟩⟩⟩
  · simp [wsM, flM, lsM, c]
  · simp [wsM, flM, lsM, c, c3]
  · simp [wsM, flM, lsM, c, c3]
/-- fails -/
theorem s119 {x : Int32} (hf : I 145 43 = 0) : dU 119 [.ref 145, .int x] L h z I J (u2 I 145 0 0) J :=
  r119_0 ⟨fun c => absurd hf c, fun _ => ⟨rfl, rfl⟩⟩
theorem s119t {x : Int32} (hf : ¬ I 145 43 = 0) : dU 119 [.ref 145, .int x] L h z I J (u2 (mOff (u2 I 145 0 0)) 145 0 x) J :=
  r119_0 ⟨fun _ => ⟨_, _, s116, rfl, rfl⟩, fun c => absurd c hf⟩
end
