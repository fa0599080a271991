/-! The programs of projections: what an instruction does; the class's machine. -/
/-- height, stack, variables, how many are emitted, their types and data, the next instruction -/
abbrev vS : Type := Nat × (Nat → Int64) × (Nat → Int64) × Nat × (Nat → Int32) × (Nat → Int64) × Nat
def vpush (x : Int64) : vS → Option vS
  | (h, k, w, m, y, g, pc) => if h < 16 then some (h + 1, (fun i => if i = h then x else k i), w, m, y, g, pc) else none
def vpop : vS → Option vS
  | (h, k, w, m, y, g, pc) => if 0 < h then some (h - 1, k, w, m, y, g, pc) else none
def vtop : vS → Int64
  | (h, k, _) => k (h - 1)
def vvar : vS → Nat → Int64
  | (_, _, w, _), i => w i
def vset (a : Nat) (x : Int64) : vS → vS
  | (h, k, w, m, y, g, pc) => (h, k, (fun i => if i = a then x else w i), m, y, g, pc)
def vemit (ty : Int32) (x : Int64) : vS → Option vS
  | (h, k, w, m, y, g, pc) => if m < 4 then some (h, k, w, m + 1, (fun i => if i = m then ty else y i), (fun i => if i = m then x else g i), pc) else none
def vpc (b : Nat) : vS → vS
  | (h, k, w, m, y, g, _) => (h, k, w, m, y, g, b)
def vgpc : vS → Nat
  | (_, _, _, _, _, _, pc) => pc
def vjoin (q : Nat) (lo tp : Int64) : Option Int64 := if q = 7 then some (lo + tp) else if q = 8 then some (lo - tp) else if q = 9 then some (lo * tp) else if q = 10 then (if tp = 0 then none else some (lo / tp)) else if q = 11 then some (if 0 ≤ lg_cmp lo tp then 0 else 1) else some (if lg_cmp lo tp = 0 then 1 else 0)
/-- an instruction q a, on an event with data d, type y, stream s, number u; c: the program's length -/
def vop (c q : Nat) (a : Int32) (d y s u : Int64) (σ : vS) : Option vS :=
  if q = 0 then vpush a.toInt64 σ else if q = 1 then vpush d σ else if q = 2 then vpush y σ else if q = 3 then vpush s σ else if q = 4 then vpush u σ else if q = 5 then vpush (vvar σ a.toNatClampNeg) σ
  else if q = 6 then (vpop σ).map (vset a.toNatClampNeg (vtop σ)) else if q = 13 then (vpop σ).bind (fun σ2 => (vpush (vtop σ) σ2).bind (vpush (vtop σ))) else if q = 14 then vpop σ
  else if q = 15 then (vpop σ).bind (fun σ2 => (vpop σ2).bind (fun σ3 => (vpush (vtop σ) σ3).bind (vpush (vtop σ2)))) else if q = 16 then some (vpc a.toNatClampNeg σ)
  else if q = 17 then (vpop σ).map (fun σ2 => if vtop σ = 0 then vpc a.toNatClampNeg σ2 else σ2) else if q = 18 then (vpop σ).bind (vemit a (vtop σ)) else if q = 19 then some (vpc c σ)
  else (vpop σ).bind (fun σ2 => (vpop σ2).bind (fun σ3 => (vjoin q (vtop σ2) (vtop σ)).bind (fun x => vpush x σ3)))
/-- a run, with so many instructions left -/
def vm (c : Nat) (f a : Nat → Int32) (d y s u : Int64) : Nat → vS → Option vS
  | 0, σ => if vgpc σ < c then none else some σ
  | n + 1, σ => if vgpc σ < c then (vop c (f (vgpc σ)).toNatClampNeg (a (vgpc σ)) d y s u (vpc (vgpc σ + 1) σ)).bind (vm c f a d y s u n) else some σ
def resC (c : Nat) (I : rI) (J : rJ) : Option vS → Prop
  | none => ¬ I 58 8 = 0 ∧ (∃ h, h ≤ 16 ∧ I 58 5 = nI h) ∧ ∃ m, m ≤ 4 ∧ I 58 4 = nI m
  | some (h, k, w, m, y, g, pc) => I 58 8 = 0 ∧ h ≤ 16 ∧ I 58 5 = nI h ∧ m ≤ 4 ∧ I 58 4 = nI m ∧ pc ≤ c ∧ I 58 6 = nI pc ∧ I 58 7 = nI c ∧ (∀ i, i < h → J 59 i = k i) ∧ (∀ i, i < 4 → J 60 i = w i) ∧ ∀ i, i < m → I 61 i = y i ∧ J 62 i = g i ∧ ∃ t, t < 16 ∧ y i = nI t
def FrC (I : rI) (J : rJ) (I' : rI) (J' : rJ) : Prop := (∀ b, ¬ b = 58 → ¬ b = 61 → I' b = I b) ∧ ∀ b, ¬ b = 59 → ¬ b = 60 → ¬ b = 62 → J' b = J b
section
variable {n t c : Nat} {st tm fv : Nat → Nat} {I I' M M' : rI} {J K J' K' : rJ} {r : Option vS}
theorem FrC_rfl : FrC I J I J := ⟨fun _ _ _ => rfl, fun _ _ _ _ => rfl⟩
theorem FrC_tr {I2 : rI} {J2 : rJ} (h : FrC I J I' J') (h2 : FrC I' J' I2 J2) : FrC I J I2 J2 := ⟨fun b q1 q2 => (h2.1 b q1 q2).trans (h.1 b q1 q2), fun b q1 q2 q3 => (h2.2 b q1 q2 q3).trans (h.2 b q1 q2 q3)⟩
theorem FrC_58 {i : Nat} {x : Int32} : FrC I J (u2 I 58 i x) J := ⟨fun _ q1 _ => u2_ne q1, fun _ _ _ _ => rfl⟩
theorem r58 {i j : Nat} {x : Int32} (h : ¬ j = i) : u2 I 58 i x 58 j = I 58 j := by rw [u2_at, if_neg (fun q => h q.2)]
theorem e58 {i : Nat} {x : Int32} : u2 I 58 i x 58 i = x := by rw [u2_at, if_pos ⟨rfl, rfl⟩]
theorem lt16 {h : Nat} (hh : h ≤ 16) : nI h < 16 ↔ h < 16 := nI_ltI (b := 16) (by omega) (by omega)
theorem pushC {x : Int64} (hr : resC c I J r) : ∃ (I' : rI) (J' : rJ), (∀ L h z, dU 50 [.ref 58, .long x] L h z I J I' J') ∧ FrC I J I' J' ∧ resC c I' J' (r.bind (vpush x)) := by
  match r, hr with
  | none, ⟨h1, ⟨h, hh, h2⟩, m, hm, h3⟩ =>
    by_cases q : h < 16
    · refine ⟨u2 I 58 5 (nI (h + 1)), u2 J 59 h x, fun L h' z => r50_0 ⟨fun _ => ?_, fun k => absurd ?_ k⟩, ⟨fun _ q1 _ => u2_ne q1, fun _ q1 _ _ => u2_ne q1⟩, by rw [r58 (by omega)]; exact h1, ⟨h + 1, by omega, e58⟩, m, hm, by rw [r58 (by omega)]; exact h3⟩
      · rw [h2, cl h (by omega), nI_1]; exact ⟨vp_in_nI q (by omega), rfl, rfl⟩
      · rw [h2]; exact (lt16 hh).mpr q
    · refine ⟨u2 I 58 8 1, J, fun L h' z => r50_0 ⟨fun k => absurd ?_ q, fun _ => ⟨rfl, rfl⟩⟩, FrC_58, by rw [e58]; decide, ⟨h, hh, by rw [r58 (by omega)]; exact h2⟩, m, hm, by rw [r58 (by omega)]; exact h3⟩
      rw [h2] at k; exact (lt16 hh).mp k
  | some (h, k, w, m, y, g, pc), ⟨h1, hh, h2, hm, h3, hp, h4, h5, h6, h7, h8⟩ =>
    by_cases q : h < 16
    · refine ⟨u2 I 58 5 (nI (h + 1)), u2 J 59 h x, fun L h' z => r50_0 ⟨fun _ => ?_, fun k => absurd ?_ k⟩, ⟨fun _ q1 _ => u2_ne q1, fun _ q1 _ _ => u2_ne q1⟩, ?_⟩
      · rw [h2, cl h (by omega), nI_1]; exact ⟨vp_in_nI q (by omega), rfl, rfl⟩
      · rw [h2]; exact (lt16 hh).mpr q
      · show resC c _ _ (vpush x (h, k, w, m, y, g, pc))
        unfold vpush
        dsimp only
        rw [if_pos q]
        refine ⟨by rw [r58 (by omega)]; exact h1, by omega, e58, hm, by rw [r58 (by omega)]; exact h3, hp, by rw [r58 (by omega)]; exact h4, by rw [r58 (by omega)]; exact h5, fun i hi => ?_, fun i hi => by rw [u2_ne (by omega)]; exact h7 i hi, fun i hi => by rw [u2_ne (by omega), u2_ne (by omega)]; exact h8 i hi⟩
        rw [u2_row]
        dsimp only
        by_cases e : i = h
        · rw [if_pos e, if_pos e]
        · rw [if_neg e, if_neg e]; exact h6 i (by omega)
    · refine ⟨u2 I 58 8 1, J, fun L h' z => r50_0 ⟨fun k => absurd ?_ q, fun _ => ⟨rfl, rfl⟩⟩, FrC_58, ?_⟩
      · rw [h2] at k; exact (lt16 hh).mp k
      · show resC c _ _ (vpush x (h, k, w, m, y, g, pc))
        unfold vpush
        dsimp only
        rw [if_neg q]
        exact ⟨by rw [e58]; decide, ⟨h, hh, by rw [r58 (by omega)]; exact h2⟩, m, hm, by rw [r58 (by omega)]; exact h3⟩
theorem nI_p16 {h : Nat} (hh : h ≤ 16) : 0 < nI h ↔ 0 < h := nI_ltI (a := 0) (by omega) (by omega)
theorem nI_sub1 {h : Nat} (h0 : 0 < h) (hh : h ≤ 16) : nI h - 1 = nI (h - 1) := by rw [show (1 : Int32) = nI 1 from rfl, nI_sub h0 (by omega)]
theorem popC (hr : resC c I J r) : ∃ (x : Int64) (I' : rI) (J' : rJ), (∀ L h z, Den 51 [.ref 58] (mS L I J h z) (.inl (some (.long x))) (mS L I' J' h z)) ∧ FrC I J I' J' ∧ resC c I' J' (r.bind vpop) ∧ ∀ σ σ', r = some σ → vpop σ = some σ' → x = vtop σ := by
  match r, hr with
  | none, ⟨h1, ⟨h, hh, h2⟩, m, hm, h3⟩ =>
    by_cases q : 0 < h
    · refine ⟨J 59 (h - 1), u2 I 58 5 (nI (h - 1)), J, fun L h' z => r51_0 ⟨fun _ => ?_, fun k => absurd ?_ k⟩, FrC_58, ⟨by rw [r58 (by omega)]; exact h1, ⟨h - 1, by omega, e58⟩, m, hm, by rw [r58 (by omega)]; exact h3⟩, fun σ σ' k => nomatch k⟩
      · rw [h2, nI_sub1 q hh, cl (h - 1) (by omega)]; exact ⟨vp_in_nI (by omega) (by omega), rfl, rfl⟩
      · rw [h2]; exact (nI_p16 hh).mpr q
    · refine ⟨0, u2 I 58 8 1, J, fun L h' z => r51_0 ⟨fun k => absurd ?_ q, fun _ => ⟨rfl, rfl⟩⟩, FrC_58, ⟨by rw [e58]; decide, ⟨h, hh, by rw [r58 (by omega)]; exact h2⟩, m, hm, by rw [r58 (by omega)]; exact h3⟩, fun σ σ' k => nomatch k⟩
      rw [h2] at k; exact (nI_p16 hh).mp k
  | some (h, k, w, m, y, g, pc), ⟨h1, hh, h2, hm, h3, hp, h4, h5, h6, h7, h8⟩ =>
    by_cases q : 0 < h
    · refine ⟨J 59 (h - 1), u2 I 58 5 (nI (h - 1)), J, fun L h' z => r51_0 ⟨fun _ => ?_, fun k => absurd ?_ k⟩, FrC_58, ?_, fun σ σ' e _ => ?_⟩
      · rw [h2, nI_sub1 q hh, cl (h - 1) (by omega)]; exact ⟨vp_in_nI (by omega) (by omega), rfl, rfl⟩
      · rw [h2]; exact (nI_p16 hh).mpr q
      · show resC c _ _ (vpop (h, k, w, m, y, g, pc))
        unfold vpop
        dsimp only
        rw [if_pos q]
        exact ⟨by rw [r58 (by omega)]; exact h1, by omega, e58, hm, by rw [r58 (by omega)]; exact h3, hp, by rw [r58 (by omega)]; exact h4, by rw [r58 (by omega)]; exact h5, fun i hi => h6 i (by omega), h7, fun i hi => by rw [u2_ne (by omega)]; exact h8 i hi⟩
      · cases e
        exact h6 (h - 1) (by omega)
    · refine ⟨0, u2 I 58 8 1, J, fun L h' z => r51_0 ⟨fun k => absurd ?_ q, fun _ => ⟨rfl, rfl⟩⟩, FrC_58, ?_, fun σ σ' e k => ?_⟩
      · rw [h2] at k; exact (nI_p16 hh).mp k
      · show resC c _ _ (vpop (h, k, w, m, y, g, pc))
        unfold vpop
        dsimp only
        rw [if_neg q]
        exact ⟨by rw [e58]; decide, ⟨h, hh, by rw [r58 (by omega)]; exact h2⟩, m, hm, by rw [r58 (by omega)]; exact h3⟩
      · cases e
        unfold vpop at k
        dsimp only at k
        rw [if_neg q] at k; cases k
theorem emitC {x : Int64} {ty : Int32} (hty : ∃ t, t < 16 ∧ ty = nI t) (hr : resC c I J r) : ∃ (I' : rI) (J' : rJ), (∀ L h z, dU 49 [.ref 58, .int ty, .long x] L h z I J I' J') ∧ FrC I J I' J' ∧ resC c I' J' (r.bind (vemit ty x)) := by
  have l4 : ∀ m, m ≤ 4 → (nI m < 4 ↔ m < 4) := fun m hm => nI_ltI (b := 4) (by omega) (by omega)
  match r, hr with
  | none, ⟨h1, ⟨h, hh, h2⟩, m, hm, h3⟩ =>
    by_cases q : m < 4
    · refine ⟨u2 (u2 I 61 m ty) 58 4 (nI (m + 1)), u2 J 62 m x, fun L h' z => r49_0 ⟨fun _ => ?_, fun k => absurd ?_ k⟩, ⟨fun _ q1 q2 => by rw [u2_ne q1, u2_ne q2], fun _ _ _ q3 => u2_ne q3⟩, ?_⟩
      · rw [h3, cl m (by omega), nI_1]; exact ⟨vp_in_nI q (by omega), rfl, rfl⟩
      · rw [h3]; exact (l4 m hm).mpr q
      · exact ⟨by rw [r58 (by omega), u2_ne (by omega)]; exact h1, ⟨h, hh, by rw [r58 (by omega), u2_ne (by omega)]; exact h2⟩, m + 1, by omega, e58⟩
    · refine ⟨u2 I 58 8 1, J, fun L h' z => r49_0 ⟨fun k => absurd ?_ q, fun _ => ⟨rfl, rfl⟩⟩, FrC_58, by rw [e58]; decide, ⟨h, hh, by rw [r58 (by omega)]; exact h2⟩, m, hm, by rw [r58 (by omega)]; exact h3⟩
      rw [h3] at k; exact (l4 m hm).mp k
  | some (h, k, w, m, y, g, pc), ⟨h1, hh, h2, hm, h3, hp, h4, h5, h6, h7, h8⟩ =>
    by_cases q : m < 4
    · refine ⟨u2 (u2 I 61 m ty) 58 4 (nI (m + 1)), u2 J 62 m x, fun L h' z => r49_0 ⟨fun _ => ?_, fun k => absurd ?_ k⟩, ⟨fun _ q1 q2 => by rw [u2_ne q1, u2_ne q2], fun _ _ _ q3 => u2_ne q3⟩, ?_⟩
      · rw [h3, cl m (by omega), nI_1]; exact ⟨vp_in_nI q (by omega), rfl, rfl⟩
      · rw [h3]; exact (l4 m hm).mpr q
      · show resC c _ _ (vemit ty x (h, k, w, m, y, g, pc))
        unfold vemit
        dsimp only
        rw [if_pos q]
        refine ⟨by rw [r58 (by omega), u2_ne (by omega)]; exact h1, hh, by rw [r58 (by omega), u2_ne (by omega)]; exact h2, by omega, e58, hp, by rw [r58 (by omega), u2_ne (by omega)]; exact h4, by rw [r58 (by omega), u2_ne (by omega)]; exact h5, fun i hi => by rw [u2_ne (by omega)]; exact h6 i hi, fun i hi => by rw [u2_ne (by omega)]; exact h7 i hi, fun i hi => ?_⟩
        rw [u2_ne (by omega), u2_row, u2_row]
        by_cases e : i = m
        · simp only [if_pos e]; exact ⟨trivial, trivial, hty⟩
        · simp only [if_neg e]; exact h8 i (by omega)
    · refine ⟨u2 I 58 8 1, J, fun L h' z => r49_0 ⟨fun k => absurd ?_ q, fun _ => ⟨rfl, rfl⟩⟩, FrC_58, ?_⟩
      · rw [h3] at k; exact (l4 m hm).mp k
      · show resC c _ _ (vemit ty x (h, k, w, m, y, g, pc))
        unfold vemit
        dsimp only
        rw [if_neg q]
        exact ⟨by rw [e58]; decide, ⟨h, hh, by rw [r58 (by omega)]; exact h2⟩, m, hm, by rw [r58 (by omega)]; exact h3⟩
theorem setC {a : Nat} {x : Int64} (hr : resC c I J r) : FrC I J I (u2 J 60 a x) ∧ resC c I (u2 J 60 a x) (r.map (vset a x)) := by
  refine ⟨⟨fun _ _ _ => rfl, fun _ _ q _ => u2_ne q⟩, ?_⟩
  match r, hr with
  | none, h => exact h
  | some (h, k, w, m, y, g, pc), ⟨h1, hh, h2, hm, h3, hp, h4, h5, h6, h7, h8⟩ =>
    refine ⟨h1, hh, h2, hm, h3, hp, h4, h5, fun i hi => by rw [u2_ne (by omega)]; exact h6 i hi, fun i hi => ?_, fun i hi => by rw [u2_ne (by omega)]; exact h8 i hi⟩
    rw [u2_row]
    dsimp only
    by_cases e : i = a
    · rw [if_pos e, if_pos e]
    · rw [if_neg e, if_neg e]; exact h7 i hi
theorem pcC {b : Nat} (hb : b ≤ c) (hr : resC c I J r) : resC c (u2 I 58 6 (nI b)) J (r.map (vpc b)) := by
  match r, hr with
  | none, ⟨h1, ⟨h, hh, h2⟩, m, hm, h3⟩ => exact ⟨by rw [r58 (by omega)]; exact h1, ⟨h, hh, by rw [r58 (by omega)]; exact h2⟩, m, hm, by rw [r58 (by omega)]; exact h3⟩
  | some (h, k, w, m, y, g, pc), ⟨h1, hh, h2, hm, h3, hp, h4, h5, h6, h7, h8⟩ =>
    exact ⟨by rw [r58 (by omega)]; exact h1, hh, by rw [r58 (by omega)]; exact h2, hm, by rw [r58 (by omega)]; exact h3, hb, e58, by rw [r58 (by omega)]; exact h5, h6, h7, fun i hi => by rw [u2_ne (by omega)]; exact h8 i hi⟩
/-- / -/
theorem divC {lo tp : Int64} (hr : resC c I J r) : ∃ (x : Int64) (I' : rI), (∀ L h z, Den 45 [.ref 58, .long lo, .long tp] (mS L I J h z) (.inl (some (.long x))) (mS L I' J h z)) ∧ FrC I J I' J ∧ resC c I' J (r.bind (fun σ => if tp = 0 then none else some σ)) ∧ (¬ tp = 0 → x = lo / tp) := by
  by_cases q : tp = 0
  · refine ⟨0, u2 I 58 8 1, fun L h' z => r45_0 ⟨fun k => absurd (lcz.mpr q) k, fun _ => ⟨rfl, rfl⟩⟩, FrC_58, ?_, fun k => absurd q k⟩
    match r, hr with
    | none, ⟨h1, ⟨h, hh, h2⟩, m, hm, h3⟩ => exact ⟨by rw [e58]; decide, ⟨h, hh, by rw [r58 (by omega)]; exact h2⟩, m, hm, by rw [r58 (by omega)]; exact h3⟩
    | some (h, k, w, m, y, g, pc), ⟨h1, hh, h2, hm, h3, hp, h4, h5, h6, h7, h8⟩ =>
      show resC c _ _ (if tp = 0 then none else some _)
      rw [if_pos q]
      exact ⟨by rw [e58]; decide, ⟨h, hh, by rw [r58 (by omega)]; exact h2⟩, m, hm, by rw [r58 (by omega)]; exact h3⟩
  · refine ⟨lo / tp, I, fun L h' z => r45_0 ⟨fun _ => ⟨q, rfl, rfl⟩, fun k => absurd (lcz.mp k) q⟩, FrC_rfl, ?_, fun _ => rfl⟩
    match r, hr with
    | none, h => exact h
    | some σ, h =>
      show resC c _ _ (if tp = 0 then none else some σ)
      rw [if_neg q]; exact h
end
