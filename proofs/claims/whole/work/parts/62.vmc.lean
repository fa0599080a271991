/-! The class's machine: its instructions, its run. -/
theorem map_eq {o : Option vS} {f g : vS → vS} (h : ∀ s, o = some s → f s = g s) : o.map f = o.map g := by
  cases o with
  | none => rfl
  | some s => show some _ = some _; rw [h s rfl]
theorem bind_eq {o : Option vS} {f g : vS → Option vS} (h : ∀ s, o = some s → f s = g s) : o.bind f = o.bind g := by
  cases o with
  | none => rfl
  | some s => show f s = g s; rw [h s rfl]
theorem bind_as {o : Option vS} {f g : vS → Option vS} : (o.bind f).bind g = o.bind (fun s => (f s).bind g) := by
  cases o <;> rfl
/-- what lower and top join to -/
theorem joinEq {σ : vS} {q : Nat} {x x2 v : Int64} (hx : ∀ s', vpop σ = some s' → x = vtop σ) (hx2 : ∀ s s', vpop σ = some s → vpop s = some s' → x2 = vtop s) (hv : vjoin q x2 x = some v) :
    ((vpop σ).bind vpop).bind (vpush v) = (vpop σ).bind (fun σ2 => (vpop σ2).bind (fun σ3 => (vjoin q (vtop σ2) (vtop σ)).bind (fun x => vpush x σ3))) := by
  rw [bind_as]
  refine bind_eq (fun s hs => bind_eq (fun s' hs' => ?_))
  rw [← hx s hs, ← hx2 s s' hs hs', hv]
  rfl
section
variable {n t c : Nat} {st tm fv : Nat → Nat} {I I' M M' : rI} {J K J' K' : rJ} {r : Option vS}
theorem s46p {σ : vS} (hr : resC c I J (some σ)) : ∃ (x : Int64) (I' : rI) (J' : rJ), (∀ L h z, Den 51 [.ref 58] (mS L I J h z) (.inl (some (.long x))) (mS L I' J' h z)) ∧ FrC I J I' J' ∧ resC c I' J' (vpop σ) ∧ ∀ σ', vpop σ = some σ' → x = vtop σ := by
  obtain ⟨x, I', J', h1, h2, h3, h4⟩ := popC hr
  exact ⟨x, I', J', h1, h2, h3, fun σ' k => h4 σ σ' rfl k⟩
theorem work6 {σ : vS} {k : Nat} (hk : k < 4) (hr : resC c I J (some σ)) : ∃ (I' : rI) (J' : rJ), (∀ L h z e, dU 42 [.ref 58, .int (nI 6), .int (nI k), .ref 10, .int e] L h z I J I' J') ∧ FrC I J I' J' ∧ resC c I' J' ((vpop σ).map (vset k (vtop σ))) := by
  obtain ⟨x, I1, J1, e1, e2, e3, e4⟩ := s46p hr
  obtain ⟨e5, e6⟩ := setC (a := k) (x := x) e3
  refine ⟨I1, u2 J1 60 k x, fun L h z e => r42_0 ⟨fun _ => ⟨fun _ => ⟨_, _, r46_0 ⟨67, by decide, by omega, Run.sub _ (sub_pick [0, 2] rfl) (r46_68 ⟨_, _, _, e1 L h z, vp_in_nI hk (by omega), rfl, rfl⟩)⟩, rfl, ?_⟩, fun q => absurd (by decide) q⟩, fun q => absurd (by decide) q⟩, FrC_tr e2 e5, ?_⟩
  · rw [cl k (by omega)]
  · rw [map_eq (fun s hs => by rw [e4 s hs])] at e6; exact e6
theorem work13 {σ : vS} {a : Int32} (hr : resC c I J (some σ)) : ∃ (I' : rI) (J' : rJ), (∀ L h z e, dU 42 [.ref 58, .int (nI 13), .int a, .ref 10, .int e] L h z I J I' J') ∧ FrC I J I' J' ∧ resC c I' J' ((vpop σ).bind (fun σ2 => (vpush (vtop σ) σ2).bind (vpush (vtop σ)))) := by
  obtain ⟨x, I1, J1, e1, e2, e3, e4⟩ := s46p hr
  obtain ⟨I2, J2, f1, f2, f3⟩ := pushC (x := x) e3
  obtain ⟨I3, J3, g1, g2, g3⟩ := pushC (x := x) f3
  refine ⟨I3, J3, fun L h z e => r42_0 ⟨fun _ => ⟨fun q => absurd q (by decide), fun _ => ⟨fun _ => ⟨_, _, r46_0 ⟨80, by decide, by omega, Run.sub _ (sub_pick [0] rfl) (r46_81 ⟨_, _, _, e1 L h z, _, _, r47_0 ⟨_, _, f1 L h z, _, _, g1 L h z, rfl, rfl⟩, rfl, rfl⟩)⟩, rfl, rfl⟩, fun q => absurd (by decide) q⟩⟩, fun q => absurd (by decide) q⟩, FrC_tr e2 (FrC_tr f2 g2), ?_⟩
  rw [bind_as, bind_eq (fun s hs => by rw [e4 s hs])] at g3
  exact g3
theorem work14 {σ : vS} {a : Int32} (hr : resC c I J (some σ)) : ∃ (I' : rI) (J' : rJ), (∀ L h z e, dU 42 [.ref 58, .int (nI 14), .int a, .ref 10, .int e] L h z I J I' J') ∧ FrC I J I' J' ∧ resC c I' J' (vpop σ) := by
  obtain ⟨x, I1, J1, e1, e2, e3, e4⟩ := s46p hr
  exact ⟨I1, J1, fun L h z e => r42_0 ⟨fun _ => ⟨fun q => absurd q (by decide), fun _ => ⟨fun _ => ⟨_, _, r46_0 ⟨91, by decide, by omega, Run.sub _ (sub_pick [0] rfl) (r46_92 ⟨_, _, _, e1 L h z, rfl, rfl⟩)⟩, rfl, rfl⟩, fun q => absurd (by decide) q⟩⟩, fun q => absurd (by decide) q⟩, e2, e3⟩
theorem work15 {σ : vS} {a : Int32} (hr : resC c I J (some σ)) : ∃ (I' : rI) (J' : rJ), (∀ L h z e, dU 42 [.ref 58, .int (nI 15), .int a, .ref 10, .int e] L h z I J I' J') ∧ FrC I J I' J' ∧ resC c I' J' ((vpop σ).bind (fun σ2 => (vpop σ2).bind (fun σ3 => (vpush (vtop σ) σ3).bind (vpush (vtop σ2))))) := by
  obtain ⟨x, I1, J1, e1, e2, e3, e4⟩ := s46p hr
  obtain ⟨x2, I4, J4, d1, d2, d3, d4⟩ := popC e3
  obtain ⟨I2, J2, f1, f2, f3⟩ := pushC (x := x) d3
  obtain ⟨I3, J3, g1, g2, g3⟩ := pushC (x := x2) f3
  refine ⟨I3, J3, fun L h z e => r42_0 ⟨fun _ => ⟨fun q => absurd q (by decide), fun _ => ⟨fun _ => ⟨_, _, r46_0 ⟨99, by decide, by omega, Run.sub _ (sub_pick [0] rfl) (r46_100 ⟨_, _, _, e1 L h z, _, _, _, d1 L h z, _, _, r48_0 ⟨_, _, f1 L h z, _, _, g1 L h z, rfl, rfl⟩, rfl, rfl⟩)⟩, rfl, rfl⟩, fun q => absurd (by decide) q⟩⟩, fun q => absurd (by decide) q⟩, FrC_tr e2 (FrC_tr d2 (FrC_tr f2 g2)), ?_⟩
  have : (((vpop σ).bind vpop).bind (vpush x)).bind (vpush x2) = (vpop σ).bind (fun σ2 => (vpop σ2).bind (fun σ3 => (vpush (vtop σ) σ3).bind (vpush (vtop σ2)))) := by
    rw [bind_as, bind_as]
    refine bind_eq (fun s hs => ?_)
    refine bind_eq (fun s' hs' => ?_)
    rw [e4 s hs, d4 s s' hs hs']
  rw [this] at g3
  exact g3
theorem work16 {σ : vS} {k : Nat} (hk : k ≤ c) (hr : resC c I J (some σ)) : ∃ (I' : rI) (J' : rJ), (∀ L h z e, dU 42 [.ref 58, .int (nI 16), .int (nI k), .ref 10, .int e] L h z I J I' J') ∧ FrC I J I' J' ∧ resC c I' J' (some (vpc k σ)) :=
  ⟨u2 I 58 6 (nI k), J, fun L h z e => r42_0 ⟨fun _ => ⟨fun q => absurd q (by decide), fun _ => ⟨fun _ => ⟨_, _, r46_0 ⟨114, by decide, by omega, Run.sub _ (sub_pick [0, 2] rfl) (r46_115 ⟨rfl, rfl⟩)⟩, rfl, rfl⟩, fun q => absurd (by decide) q⟩⟩, fun q => absurd (by decide) q⟩, FrC_58, pcC hk hr⟩
theorem work17 {σ : vS} {k : Nat} (hk : k ≤ c) (hr : resC c I J (some σ)) : ∃ (I' : rI) (J' : rJ), (∀ L h z e, dU 42 [.ref 58, .int (nI 17), .int (nI k), .ref 10, .int e] L h z I J I' J') ∧ FrC I J I' J' ∧ resC c I' J' ((vpop σ).map (fun σ2 => if vtop σ = 0 then vpc k σ2 else σ2)) := by
  obtain ⟨x, I1, J1, e1, e2, e3, e4⟩ := s46p hr
  by_cases hx : x = 0
  · refine ⟨u2 I1 58 6 (nI k), J1, fun L h z e => r42_0 ⟨fun _ => ⟨fun q => absurd q (by decide), fun _ => ⟨fun _ => ⟨_, _, r46_0 ⟨122, by decide, by omega, Run.sub _ (sub_pick [0, 2] rfl) (r46_123 ⟨_, _, _, e1 L h z, fun q => absurd (lcz.mpr hx) q, fun _ => ⟨rfl, rfl⟩⟩)⟩, rfl, rfl⟩, fun q => absurd (by decide) q⟩⟩, fun q => absurd (by decide) q⟩, FrC_tr e2 FrC_58, ?_⟩
    have e6 := pcC hk e3
    rw [map_eq (g := fun σ2 => if vtop σ = 0 then vpc k σ2 else σ2) (fun s hs => by rw [if_pos ((e4 s hs).symm.trans hx)])] at e6
    exact e6
  · refine ⟨I1, J1, fun L h z e => r42_0 ⟨fun _ => ⟨fun q => absurd q (by decide), fun _ => ⟨fun _ => ⟨_, _, r46_0 ⟨122, by decide, by omega, Run.sub _ (sub_pick [0, 2] rfl) (r46_123 ⟨_, _, _, e1 L h z, fun _ => ⟨rfl, by rw [u2_id]⟩, fun q => absurd (lcz.mp q) hx⟩)⟩, rfl, rfl⟩, fun q => absurd (by decide) q⟩⟩, fun q => absurd (by decide) q⟩, e2, ?_⟩
    have e : (vpop σ).map (fun σ2 => if vtop σ = 0 then vpc k σ2 else σ2) = vpop σ := by
      cases hs : vpop σ with
      | none => rfl
      | some s' =>
        show some (if vtop σ = 0 then vpc k s' else s') = some s'
        rw [if_neg (fun q => hx ((e4 _ hs).trans q))]
    rw [e]
    exact e3
theorem work18 {σ : vS} {a : Int32} (ha : ∃ t, t < 16 ∧ a = nI t) (hr : resC c I J (some σ)) : ∃ (I' : rI) (J' : rJ), (∀ L h z e, dU 42 [.ref 58, .int (nI 18), .int a, .ref 10, .int e] L h z I J I' J') ∧ FrC I J I' J' ∧ resC c I' J' ((vpop σ).bind (vemit a (vtop σ))) := by
  obtain ⟨x, I1, J1, e1, e2, e3, e4⟩ := s46p hr
  obtain ⟨I2, J2, f1, f2, f3⟩ := emitC (x := x) ha e3
  refine ⟨I2, J2, fun L h z e => r42_0 ⟨fun _ => ⟨fun q => absurd q (by decide), fun _ => ⟨fun _ => ⟨_, _, r46_0 ⟨146, by decide, by omega, Run.sub _ (sub_pick [0, 2] rfl) (r46_147 ⟨_, _, _, e1 L h z, _, _, f1 L h z, rfl, rfl⟩)⟩, rfl, rfl⟩, fun q => absurd (by decide) q⟩⟩, fun q => absurd (by decide) q⟩, FrC_tr e2 f2, ?_⟩
  rw [bind_eq (fun s hs => by rw [e4 s hs])] at f3
  exact f3
theorem work19 {σ : vS} {a : Int32} (hr : resC c I J (some σ)) : ∃ (I' : rI) (J' : rJ), (∀ L h z e, dU 42 [.ref 58, .int (nI 19), .int a, .ref 10, .int e] L h z I J I' J') ∧ FrC I J I' J' ∧ resC c I' J' (some (vpc c σ)) := by
  have h7 : I 58 7 = nI c := by
    match σ, hr with
    | (h, k, w, m, y, g, pc), ⟨h1, hh, h2, hm, h3, hp, h4, h5, h6⟩ => exact h5
  refine ⟨u2 I 58 6 (nI c), J, fun L h z e => r42_0 ⟨fun _ => ⟨fun q => absurd q (by decide), fun _ => ⟨fun _ => ⟨_, _, r46_0 ⟨158, by decide, by omega, Run.sub _ (sub_pick [0] rfl) (r46_159 ⟨rfl, rfl⟩)⟩, rfl, ?_⟩, fun q => absurd (by decide) q⟩⟩, fun q => absurd (by decide) q⟩, FrC_58, pcC (Nat.le_refl _) hr⟩
  rw [h7]
/-- what both are joined to, but for a division -/
theorem workJ {σ : vS} {a : Int32} {q : Nat} (hq : 7 ≤ q ∧ q ≤ 12) (hq2 : ¬ q = 10) (hr : resC c I J (some σ)) (hj : ∀ (lo tp : Int64), ∃ v, vjoin q lo tp = some v ∧ ∀ (L h z : Nat) (I : rI) (J : rJ), Den 44 [.ref 58, .int (nI q), .long lo, .long tp] (mS L I J h z) (.inl (some (.long v))) (mS L I J h z)) : ∃ (I' : rI) (J' : rJ), (∀ L h z e, dU 42 [.ref 58, .int (nI q), .int a, .ref 10, .int e] L h z I J I' J') ∧ FrC I J I' J' ∧ resC c I' J' ((vpop σ).bind (fun σ2 => (vpop σ2).bind (fun σ3 => (vjoin q (vtop σ2) (vtop σ)).bind (fun x => vpush x σ3)))) := by
  obtain ⟨x, I1, J1, e1, e2, e3, e4⟩ := s46p hr
  obtain ⟨x2, I4, J4, d1, d2, d3, d4⟩ := popC e3
  obtain ⟨v, hv, hd⟩ := hj x2 x
  obtain ⟨I2, J2, f1, f2, f3⟩ := pushC (x := v) d3
  refine ⟨I2, J2, fun L h z e => r42_0 ⟨fun _ => ⟨fun k => absurd k ?_, fun _ => ⟨fun k => absurd k ?_, fun _ => ⟨_, _, _, e1 L h z, _, _, _, d1 L h z, _, _, _, hd L h z _ _, _, _, f1 L h z, rfl, rfl⟩⟩⟩, fun k => absurd ?_ k⟩, FrC_tr e2 (FrC_tr d2 f2), ?_⟩
  · rw [show (7 : Int32) = nI 7 from rfl, nI_ltI (by omega) (by omega)]; omega
  · rw [show (12 : Int32) = nI 12 from rfl, nI_ltI (by omega) (by omega)]; omega
  · rw [show (5 : Int32) = nI 5 from rfl, nI_ltI (by omega) (by omega)]; omega
  · rw [joinEq e4 d4 hv] at f3; exact f3
theorem work10 {σ : vS} {a : Int32} (hr : resC c I J (some σ)) : ∃ (I' : rI) (J' : rJ), (∀ L h z e, dU 42 [.ref 58, .int (nI 10), .int a, .ref 10, .int e] L h z I J I' J') ∧ FrC I J I' J' ∧ resC c I' J' ((vpop σ).bind (fun σ2 => (vpop σ2).bind (fun σ3 => (vjoin 10 (vtop σ2) (vtop σ)).bind (fun x => vpush x σ3)))) := by
  obtain ⟨x, I1, J1, e1, e2, e3, e4⟩ := s46p hr
  obtain ⟨x2, I4, J4, d1, d2, d3, d4⟩ := popC e3
  obtain ⟨v, I5, c1, c2, c3, c4⟩ := divC (lo := x2) (tp := x) d3
  obtain ⟨I2, J2, f1, f2, f3⟩ := pushC (x := v) c3
  refine ⟨I2, J2, fun L h z e => r42_0 ⟨fun _ => ⟨fun k => absurd k (by decide), fun _ => ⟨fun k => absurd k (by decide), fun _ => ⟨_, _, _, e1 L h z, _, _, _, d1 L h z, _, _, _, r44_0 ⟨50, by decide, by omega, Run.sub _ (sub_pick [0, 2, 3] rfl) (r44_51 ⟨_, _, _, c1 L h z, rfl, rfl⟩)⟩, _, _, f1 L h z, rfl, rfl⟩⟩⟩, fun k => absurd (by decide) k⟩, FrC_tr e2 (FrC_tr d2 (FrC_tr c2 f2)), ?_⟩
  by_cases hx : x = 0
  · have e : (((vpop σ).bind vpop).bind (fun σ => if x = 0 then none else some σ)).bind (vpush v) = (vpop σ).bind (fun σ2 => (vpop σ2).bind (fun σ3 => (vjoin 10 (vtop σ2) (vtop σ)).bind (fun x => vpush x σ3))) := by
      cases hs : vpop σ with
      | none => rfl
      | some s =>
        show ((vpop s).bind _).bind _ = (vpop s).bind _
        cases hs' : vpop s with
        | none => rfl
        | some s' =>
          show (if x = 0 then none else some s').bind (vpush v) = (vjoin 10 (vtop s) (vtop σ)).bind (fun x => vpush x s')
          rw [if_pos hx, ← e4 s hs, hx]
          rfl
    rw [e] at f3; exact f3
  · have e : ((vpop σ).bind vpop).bind (fun σ => if x = 0 then none else some σ) = (vpop σ).bind vpop := by
      cases (vpop σ).bind vpop with
      | none => rfl
      | some s => show (if x = 0 then none else some s) = some s; rw [if_neg hx]
    rw [e, joinEq e4 d4 (q := 10) (by
      unfold vjoin
      rw [if_neg (by omega), if_neg (by omega), if_neg (by omega), if_pos rfl, if_neg hx, c4 hx])] at f3
    exact f3
/-- what is pushed -/
theorem workP {σ : vS} {a : Int32} {q e : Nat} {x : Int64} (hq : q ≤ 5) (hr : resC c I J (some σ)) (hp : ∀ (L h z : Nat), Den 43 [.ref 58, .int (nI q), .int a, .ref 10, .int (nI e)] (mS L I J h z) (.inl (some (.long x))) (mS L I J h z)) : ∃ (I' : rI) (J' : rJ), (∀ L h z, dU 42 [.ref 58, .int (nI q), .int a, .ref 10, .int (nI e)] L h z I J I' J') ∧ FrC I J I' J' ∧ resC c I' J' (vpush x σ) := by
  obtain ⟨I2, J2, f1, f2, f3⟩ := pushC (x := x) hr
  refine ⟨I2, J2, fun L h z => r42_0 ⟨fun k => absurd k ?_, fun _ => ⟨_, hp L h z, _, _, f1 L h z, rfl, rfl⟩⟩, f2, f3⟩
  rw [show (5 : Int32) = nI 5 from rfl, nI_ltI (by omega) (by omega)]; omega
theorem workC {σ : vS} {a : Int32} {q e : Nat} {d y s u : Int64} (hq : q < 20) (he : e < 2500) (hop : okOp (nI q) a) (hj : q = 16 ∨ q = 17 → ∃ k, k ≤ c ∧ k < 2147483648 ∧ a = nI k) (hr : resC c I J (some σ)) (hd : J 15 e = d) (hy : (I 14 e).toInt64 = y) (hs : (I 11 e).toInt64 = s) (hu : (I 12 e).toInt64 = u) :
    ∃ (I' : rI) (J' : rJ), (∀ L h z, dU 42 [.ref 58, .int (nI q), .int a, .ref 10, .int (nI e)] L h z I J I' J') ∧ FrC I J I' J' ∧ resC c I' J' (vop c q a d y s u σ) := by
  have hv : vp_in (nI e) 2500 := vp_in_nI he (by omega)
  have hce := cl e (by omega)
  have hq' : q = 0 ∨ q = 1 ∨ q = 2 ∨ q = 3 ∨ q = 4 ∨ q = 5 ∨ q = 6 ∨ q = 7 ∨ q = 8 ∨ q = 9 ∨ q = 10 ∨ q = 11 ∨ q = 12 ∨ q = 13 ∨ q = 14 ∨ q = 15 ∨ q = 16 ∨ q = 17 ∨ q = 18 ∨ q = 19 := by omega
  rcases hq' with rfl | rfl | rfl | rfl | rfl | rfl | rfl | rfl | rfl | rfl | rfl | rfl | rfl | rfl | rfl | rfl | rfl | rfl | rfl | rfl
  · exact workP (by omega) hr (fun L h z => r43_0 ⟨35, by decide, by omega, Run.sub _ (sub_pick [2] rfl) (r43_36 ⟨rfl, rfl⟩)⟩)
  · exact workP (by omega) hr (fun L h z => r43_0 ⟨38, by decide, by omega, Run.sub _ (sub_pick [3, 4] rfl) (r43_39 ⟨hv, by rw [hce, hd], rfl⟩)⟩)
  · exact workP (by omega) hr (fun L h z => r43_0 ⟨46, by decide, by omega, Run.sub _ (sub_pick [3, 4] rfl) (r43_47 ⟨hv, by rw [hce, hy], rfl⟩)⟩)
  · exact workP (by omega) hr (fun L h z => r43_0 ⟨55, by decide, by omega, Run.sub _ (sub_pick [3, 4] rfl) (r43_56 ⟨hv, by rw [hce, hs], rfl⟩)⟩)
  · exact workP (by omega) hr (fun L h z => r43_0 ⟨64, by decide, by omega, Run.sub _ (sub_pick [3, 4] rfl) (r43_65 ⟨hv, by rw [hce, hu], rfl⟩)⟩)
  · obtain ⟨k, hk, rfl⟩ := hop.2.1 (Or.inl rfl)
    have hw : J 60 k = vvar σ k := by
      match σ, hr with
      | (h, k', w, m, y, g, pc), ⟨h1, hh, h2, hm, h3, hp, h4, h5, h6, h7, h8⟩ => exact h7 k hk
    have := workP (q := 5) (a := nI k) (e := e) (x := vvar σ k) (by omega) hr (fun L h z => r43_0 ⟨73, by decide, by omega, Run.sub _ (sub_pick [0, 2] rfl) (r43_74 ⟨vp_in_nI hk (by omega), by rw [cl k (by omega), hw], rfl⟩)⟩)
    show ∃ (I' : rI) (J' : rJ), (∀ L h z, dU 42 [.ref 58, .int (nI 5), .int (nI k), .ref 10, .int (nI e)] L h z I J I' J') ∧ FrC I J I' J' ∧ resC c I' J' (vpush (vvar σ (nI k).toNatClampNeg) σ)
    rw [cl k (by omega)]
    exact this
  · obtain ⟨k, hk, rfl⟩ := hop.2.1 (Or.inr rfl)
    obtain ⟨I', J', h1, h2, h3⟩ := work6 hk hr
    refine ⟨I', J', fun L h z => h1 L h z _, h2, ?_⟩
    show resC c I' J' ((vpop σ).map (vset (nI k).toNatClampNeg (vtop σ)))
    rw [cl k (by omega)]; exact h3
  · obtain ⟨I', J', h1, h2, h3⟩ := workJ (q := 7) (a := a) (by omega) (by omega) hr (fun lo tp => ⟨_, rfl, fun L h z I J => r44_0 ⟨35, by decide, by omega, Run.sub _ (sub_pick [2, 3] rfl) (r44_36 ⟨rfl, rfl⟩)⟩⟩)
    exact ⟨I', J', fun L h z => h1 L h z _, h2, h3⟩
  · obtain ⟨I', J', h1, h2, h3⟩ := workJ (q := 8) (a := a) (by omega) (by omega) hr (fun lo tp => ⟨_, rfl, fun L h z I J => r44_0 ⟨40, by decide, by omega, Run.sub _ (sub_pick [2, 3] rfl) (r44_41 ⟨rfl, rfl⟩)⟩⟩)
    exact ⟨I', J', fun L h z => h1 L h z _, h2, h3⟩
  · obtain ⟨I', J', h1, h2, h3⟩ := workJ (q := 9) (a := a) (by omega) (by omega) hr (fun lo tp => ⟨_, rfl, fun L h z I J => r44_0 ⟨45, by decide, by omega, Run.sub _ (sub_pick [2, 3] rfl) (r44_46 ⟨rfl, rfl⟩)⟩⟩)
    exact ⟨I', J', fun L h z => h1 L h z _, h2, h3⟩
  · obtain ⟨I', J', h1, h2, h3⟩ := work10 (a := a) hr
    exact ⟨I', J', fun L h z => h1 L h z _, h2, h3⟩
  · obtain ⟨I', J', h1, h2, h3⟩ := workJ (q := 11) (a := a) (by omega) (by omega) hr (fun lo tp => ⟨_, rfl, fun L h z I J => r44_0 ⟨58, by decide, by omega, Run.sub _ (sub_pick [2, 3] rfl) (r44_59 ⟨fun k => ⟨by rw [if_pos k], rfl⟩, fun k => ⟨by rw [if_neg k], rfl⟩⟩)⟩⟩)
    exact ⟨I', J', fun L h z => h1 L h z _, h2, h3⟩
  · obtain ⟨I', J', h1, h2, h3⟩ := workJ (q := 12) (a := a) (by omega) (by omega) hr (fun lo tp => ⟨_, rfl, fun L h z I J => r44_0 ⟨71, by decide, by omega, Run.sub _ (sub_pick [2, 3] rfl) (r44_72 ⟨fun k => ⟨by rw [if_neg k], rfl⟩, fun k => ⟨by rw [if_pos k], rfl⟩⟩)⟩⟩)
    exact ⟨I', J', fun L h z => h1 L h z _, h2, h3⟩
  · obtain ⟨I', J', h1, h2, h3⟩ := work13 (a := a) hr
    exact ⟨I', J', fun L h z => h1 L h z _, h2, h3⟩
  · obtain ⟨I', J', h1, h2, h3⟩ := work14 (a := a) hr
    exact ⟨I', J', fun L h z => h1 L h z _, h2, h3⟩
  · obtain ⟨I', J', h1, h2, h3⟩ := work15 (a := a) hr
    exact ⟨I', J', fun L h z => h1 L h z _, h2, h3⟩
  · obtain ⟨k, hk, hk2, rfl⟩ := hj (Or.inl rfl)
    obtain ⟨I', J', h1, h2, h3⟩ := work16 hk hr
    refine ⟨I', J', fun L h z => h1 L h z _, h2, ?_⟩
    show resC c I' J' (some (vpc (nI k).toNatClampNeg σ))
    rw [cl k (by omega)]; exact h3
  · obtain ⟨k, hk, hk2, rfl⟩ := hj (Or.inr rfl)
    obtain ⟨I', J', h1, h2, h3⟩ := work17 hk hr
    refine ⟨I', J', fun L h z => h1 L h z _, h2, ?_⟩
    show resC c I' J' ((vpop σ).map (fun σ2 => if vtop σ = 0 then vpc (nI k).toNatClampNeg σ2 else σ2))
    rw [cl k (by omega)]; exact h3
  · obtain ⟨I', J', h1, h2, h3⟩ := work18 (hop.2.2 rfl) hr
    exact ⟨I', J', fun L h z => h1 L h z _, h2, h3⟩
  · obtain ⟨I', J', h1, h2, h3⟩ := work19 (a := a) hr
    exact ⟨I', J', fun L h z => h1 L h z _, h2, h3⟩
def finC (I : rI) (J : rJ) : Option vS → Prop
  | none => ¬ I 58 8 = 0
  | some (_, _, w, m, y, g, _) => I 58 8 = 0 ∧ m ≤ 4 ∧ I 58 4 = nI m ∧ (∀ i, i < 4 → J 60 i = w i) ∧ ∀ i, i < m → I 61 i = y i ∧ J 62 i = g i ∧ ∃ t, t < 16 ∧ y i = nI t
theorem s41_n {L h z : Nat} (h8 : ¬ I 58 8 = 0 ∨ I 58 7 ≤ I 58 6) : dP 41 [.ref 58] L h z I J 0 := by
  refine r41_0 ⟨fun _ => ⟨rfl, rfl⟩, fun q => ⟨fun _ => ⟨rfl, rfl⟩, fun q2 => ?_⟩⟩
  rcases h8 with h8 | h8
  · exact absurd q h8
  · exact absurd h8 q2
theorem s41_t {L h z : Nat} (h8 : I 58 8 = 0) (h7 : ¬ I 58 7 ≤ I 58 6) : dP 41 [.ref 58] L h z I J 1 :=
  r41_0 ⟨fun q => absurd h8 q, fun _ => ⟨fun q => absurd q h7, fun _ => ⟨rfl, rfl⟩⟩⟩
theorem loopN {p e x6 : Nat} {L h z : Nat} (hp : p < 8) (h8 : ¬ I 58 8 = 0 ∨ I 58 7 ≤ I 58 6) : Run 40 65 [(0, .ref 58), (2, .ref 10), (3, .int (nI e)), (4, .ref (106 + 5 * p)), (6, .int (nI x6))] [] (mS L I J h z) (.inl none) (mS L I J h z) :=
  r40_65 (w5_p hp) ⟨fun _ => ⟨_, s41_n h8, fun _ => ⟨rfl, rfl⟩, fun q => absurd rfl q⟩, fun _ => ⟨_, s41_n h8, fun _ => ⟨_, s41_n h8, fun _ => ⟨rfl, rfl⟩, fun q => absurd rfl q⟩, fun q => absurd rfl q⟩⟩
theorem res_fin {σ : vS} (h : resC c I J (some σ)) : finC I J (some σ) := by
  match σ, h with
  | (h, k, w, m, y, g, pc), ⟨h1, hh, h2, hm, h3, hp, h4, h5, h6, h7, h8⟩ => exact ⟨h1, hm, h3, h7, h8⟩
theorem res_pc {σ : vS} (h : resC c I J (some σ)) : I 58 8 = 0 ∧ I 58 6 = nI (vgpc σ) ∧ I 58 7 = nI c ∧ vgpc σ ≤ c := by
  match σ, h with
  | (h, k, w, m, y, g, pc), ⟨h1, hh, h2, hm, h3, hp, h4, h5, h6, h7, h8⟩ => exact ⟨h1, h4, h5, hp⟩
theorem loopC {p e : Nat} {f a : Nat → Int32} {d y s u : Int64} (hp : p < 8) (hc : c ≤ 64) (he : e < 2500) (hok : ∀ i, i < c → okOp (f i) (a i) ∧ (f i = 16 ∨ f i = 17 → ∃ k, k ≤ c ∧ a i = nI k)) {I0 : rI} {J0 : rJ} (hf : ∀ i, i < c → I0 (107 + 5 * p) i = f i ∧ I0 (108 + 5 * p) i = a i) (hd : J0 15 e = d) (hy : (I0 14 e).toInt64 = y) (hs : (I0 11 e).toInt64 = s) (hu : (I0 12 e).toInt64 = u) : ∀ (m x6 : Nat) (σ : vS) (I : rI) (J : rJ), x6 + m = 200 → resC c I J (some σ) → FrC I0 J0 I J →
    ∃ (I' : rI) (J' : rJ), (∀ L h z, Run 40 65 [(0, .ref 58), (2, .ref 10), (3, .int (nI e)), (4, .ref (106 + 5 * p)), (6, .int (nI x6))] [] (mS L I J h z) (.inl none) (mS L I' J' h z)) ∧ FrC I J I' J' ∧ finC I' J' (vm c f a d y s u m σ) := by
  intro m
  induction m with
  | zero =>
    intro x6 σ I J hx hr hfr
    obtain ⟨p1, p2, p3, p4⟩ := res_pc hr
    by_cases q : vgpc σ < c
    · have h7 : ¬ I 58 7 ≤ I 58 6 := by rw [p2, p3, nI_leI (by omega) (by omega)]; omega
      refine ⟨u2 I 58 8 1, J, fun L h z => r40_65 (w5_p hp) ⟨fun _ => ⟨_, s41_t p1 h7, fun k => absurd k (by decide), fun _ => ⟨rfl, rfl⟩⟩, fun k => absurd ?_ k⟩, FrC_58, ?_⟩
      · rw [show x6 = 200 by omega]; decide
      · show finC _ _ (if vgpc σ < c then none else some σ)
        rw [if_pos q]
        show ¬ u2 I 58 8 1 58 8 = 0
        rw [e58]; decide
    · refine ⟨I, J, fun L h z => loopN hp (Or.inr ?_), FrC_rfl, ?_⟩
      · rw [p2, p3, nI_leI (by omega) (by omega)]; omega
      · show finC _ _ (if vgpc σ < c then none else some σ)
        rw [if_neg q]; exact res_fin hr
  | succ m ih =>
    intro x6 σ I J hx hr hfr
    obtain ⟨p1, p2, p3, p4⟩ := res_pc hr
    by_cases q : vgpc σ < c
    · have h7 : ¬ I 58 7 ≤ I 58 6 := by rw [p2, p3, nI_leI (by omega) (by omega)]; omega
      obtain ⟨f1, f2⟩ := hf _ q
      obtain ⟨o1, o2⟩ := hok _ q
      obtain ⟨k, hk, hk2⟩ := o1.1
      have hr1 := pcC (b := vgpc σ + 1) (by omega) hr
      have fr1 : FrC I0 J0 (u2 I 58 6 (nI (vgpc σ + 1))) J := FrC_tr hfr FrC_58
      have fa : a (vgpc σ) = a (vgpc σ) := rfl
      obtain ⟨I1, J1, w1, w2, w3⟩ := workC (q := k) (e := e) (a := a (vgpc σ)) (d := d) (y := y) (s := s) (u := u) hk he (by rw [← hk2]; exact o1) (fun hq => by
        obtain ⟨k', h1, h2⟩ := o2 (by rw [hk2]; rcases hq with hq | hq <;> rw [hq]; exact Or.inl rfl; exact Or.inr rfl)
        exact ⟨k', h1, by omega, h2⟩) hr1 (by rw [fr1.2 15 (by omega) (by omega) (by omega)]; exact hd) (by rw [fr1.1 14 (by omega) (by omega)]; exact hy) (by rw [fr1.1 11 (by omega) (by omega)]; exact hs) (by rw [fr1.1 12 (by omega) (by omega)]; exact hu)
      have head : ∀ (L h z : Nat) (o : eO) (σo : eS), Run 40 65 [(0, .ref 58), (2, .ref 10), (3, .int (nI e)), (4, .ref (106 + 5 * p)), (6, .int (nI (x6 + 1)))] [] (mS L I1 J1 h z) o σo → Run 40 65 [(0, .ref 58), (2, .ref 10), (3, .int (nI e)), (4, .ref (106 + 5 * p)), (6, .int (nI x6))] [] (mS L I J h z) o σo := by
        intro L h z o σo H
        refine r40_65 (w5_p hp) ⟨fun k => absurd ((nI_leI (a := 200) (by omega) (by omega)).mp k) (by omega), fun _ => ⟨_, s41_t p1 h7, fun k => absurd k (by decide), fun _ => ?_⟩⟩
        rw [p2, cl _ (by omega), (R0_p hp).2.1, (R0_p hp).2.2.1, hfr.1 (107 + 5 * p) (by omega) (by omega), hfr.1 (108 + 5 * p) (by omega) (by omega), f1, f2, hk2, nI_1, nI_1]
        exact ⟨vp_in_nI (by omega) (by omega), _, _, w1 L h z, H⟩
      have hvm : vm c f a d y s u (m + 1) σ = (vop c k (a (vgpc σ)) d y s u (vpc (vgpc σ + 1) σ)).bind (vm c f a d y s u m) := by
        show (if vgpc σ < c then _ else _) = _
        rw [if_pos q, hk2, cl k (by omega)]
      rw [hvm]
      generalize hσ1 : vop c k (a (vgpc σ)) d y s u (vpc (vgpc σ + 1) σ) = r1 at w3
      cases r1 with
      | none => exact ⟨I1, J1, fun L h z => head L h z _ _ (loopN hp (Or.inl w3.1)), FrC_tr FrC_58 w2, w3.1⟩
      | some σ1 =>
        obtain ⟨I', J', z1, z2, z3⟩ := ih (x6 + 1) σ1 I1 J1 (by omega) w3 (FrC_tr fr1 w2)
        exact ⟨I', J', fun L h z => head L h z _ _ (z1 L h z), FrC_tr FrC_58 (FrC_tr w2 z2), z3⟩
    · refine ⟨I, J, fun L h z => loopN hp (Or.inr ?_), FrC_rfl, ?_⟩
      · rw [p2, p3, nI_leI (by omega) (by omega)]; omega
      · show finC _ _ (if vgpc σ < c then _ else some σ)
        rw [if_neg q]; exact res_fin hr
end
