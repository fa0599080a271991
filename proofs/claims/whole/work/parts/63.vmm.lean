/-! The model's machine. -/
def resM (pc : Nat) (M : rI) (K : rJ) : Option vS → Prop
  | none => ¬ M 145 50 = 0 ∧ (∃ h, h ≤ 16 ∧ M 145 45 = nI h) ∧ ∃ m, m ≤ 4 ∧ M 145 49 = nI m
  | some (h, k, w, m, y, g, pc') => M 145 50 = 0 ∧ h ≤ 16 ∧ M 145 45 = nI h ∧ m ≤ 4 ∧ M 145 49 = nI m ∧ pc' = pc ∧ (∀ i, i < h → K 180 i = k i) ∧ (∀ i, i < 4 → K 181 i = w i) ∧ ∀ i, i < m → M 182 i = y i ∧ K 183 i = g i
def FrM (M : rI) (K : rJ) (M' : rI) (K' : rJ) : Prop := (∀ b, ¬ b = 145 → ¬ b = 182 → M' b = M b) ∧ (∀ j, ¬ j = 45 → ¬ j = 49 → ¬ j = 50 → M' 145 j = M 145 j) ∧ ∀ b, ¬ b = 180 → ¬ b = 181 → ¬ b = 183 → K' b = K b
section
variable {n t c pc : Nat} {st tm fv : Nat → Nat} {I I' M M' : rI} {J K J' K' : rJ} {r : Option vS}
theorem FrM_rfl : FrM M K M K := ⟨fun _ _ _ => rfl, fun _ _ _ _ => rfl, fun _ _ _ _ => rfl⟩
theorem FrM_tr {I2 : rI} {J2 : rJ} (h : FrM M K M' K') (h2 : FrM M' K' I2 J2) : FrM M K I2 J2 := ⟨fun b q1 q2 => (h2.1 b q1 q2).trans (h.1 b q1 q2), fun b q1 q2 q3 => (h2.2.1 b q1 q2 q3).trans (h.2.1 b q1 q2 q3), fun b q1 q2 q3 => (h2.2.2 b q1 q2 q3).trans (h.2.2 b q1 q2 q3)⟩
theorem rM {i j : Nat} {x : Int32} (h : ¬ j = i) : u2 M 145 i x 145 j = M 145 j := by rw [u2_at, if_neg (fun q => h q.2)]
theorem eMi {i : Nat} {x : Int32} : u2 M 145 i x 145 i = x := by rw [u2_at, if_pos ⟨rfl, rfl⟩]
theorem FrM_i {i : Nat} {x : Int32} (hi : i = 45 ∨ i = 49 ∨ i = 50) : FrM M K (u2 M 145 i x) K := ⟨fun _ q1 _ => u2_ne q1, fun j q1 q2 q3 => rM (by omega), fun _ _ _ _ => rfl⟩
theorem eq16 {h : Nat} (hh : h ≤ 16) : nI h = 16 ↔ h = 16 := nI_eq (b := 16) (by omega) (by omega)
theorem eq00 {h : Nat} (hh : h ≤ 16) : nI h = 0 ↔ h = 0 := nI_eq (b := 0) (by omega) (by omega)
theorem pushM {x : Int64} (hr : resM pc M K r) : ∃ (M' : rI) (K' : rJ), (∀ L h z, dU 142 [.ref 145, .long x] L h z M K M' K') ∧ FrM M K M' K' ∧ resM pc M' K' (r.bind (vpush x)) := by
  match r, hr with
  | none, ⟨h1, ⟨h, hh, h2⟩, m, hm, h3⟩ =>
    by_cases q : h = 16
    · refine ⟨u2 M 145 50 1, K, fun L h' z => r142_0 ⟨fun k => absurd ?_ k, fun _ => ⟨rfl, rfl⟩⟩, FrM_i (by omega), by rw [eMi]; decide, ⟨h, hh, by rw [rM (by omega)]; exact h2⟩, m, hm, by rw [rM (by omega)]; exact h3⟩
      rw [h2]; exact (eq16 hh).mpr q
    · refine ⟨u2 M 145 45 (nI (h + 1)), u2 K 180 h x, fun L h' z => r142_0 ⟨fun _ => ?_, fun k => absurd ?_ q⟩, ⟨fun _ q1 _ => u2_ne q1, fun j q1 q2 q3 => rM (by omega), fun _ q1 _ _ => u2_ne q1⟩, by rw [rM (by omega)]; exact h1, ⟨h + 1, by omega, eMi⟩, m, hm, by rw [rM (by omega)]; exact h3⟩
      · rw [h2, cl h (by omega), nI_1]; exact ⟨vp_in_nI (by omega) (by omega), rfl, rfl⟩
      · rw [h2] at k; exact (eq16 hh).mp k
  | some (h, k, w, m, y, g, pc'), ⟨h1, hh, h2, hm, h3, hp, h6, h7, h8⟩ =>
    by_cases q : h < 16
    · refine ⟨u2 M 145 45 (nI (h + 1)), u2 K 180 h x, fun L h' z => r142_0 ⟨fun _ => ?_, fun k => absurd ?_ (show ¬ h = 16 by omega)⟩, ⟨fun _ q1 _ => u2_ne q1, fun j q1 q2 q3 => rM (by omega), fun _ q1 _ _ => u2_ne q1⟩, ?_⟩
      · rw [h2, cl h (by omega), nI_1]; exact ⟨vp_in_nI (by omega) (by omega), rfl, rfl⟩
      · rw [h2] at k; exact (eq16 hh).mp k
      · show resM pc _ _ (vpush x (h, k, w, m, y, g, pc'))
        unfold vpush
        dsimp only
        rw [if_pos q]
        refine ⟨by rw [rM (by omega)]; exact h1, by omega, eMi, hm, by rw [rM (by omega)]; exact h3, hp, fun i hi => ?_, fun i hi => by rw [u2_ne (by omega)]; exact h7 i hi, fun i hi => by rw [u2_ne (by omega), u2_ne (by omega)]; exact h8 i hi⟩
        rw [u2_row]
        dsimp only
        by_cases e : i = h
        · rw [if_pos e, if_pos e]
        · rw [if_neg e, if_neg e]; exact h6 i (by omega)
    · refine ⟨u2 M 145 50 1, K, fun L h' z => r142_0 ⟨fun k => absurd ?_ k, fun _ => ⟨rfl, rfl⟩⟩, FrM_i (by omega), ?_⟩
      · rw [h2]; exact (eq16 hh).mpr (by omega)
      · show resM pc _ _ (vpush x (h, k, w, m, y, g, pc'))
        unfold vpush
        dsimp only
        rw [if_neg q]
        exact ⟨by rw [eMi]; decide, ⟨h, hh, by rw [rM (by omega)]; exact h2⟩, m, hm, by rw [rM (by omega)]; exact h3⟩
theorem popM (hr : resM pc M K r) : ∃ (x : Int64) (M' : rI) (K' : rJ), (∀ L h z, Den 143 [.ref 145] (mS L M K h z) (.inl (some (.long x))) (mS L M' K' h z)) ∧ FrM M K M' K' ∧ resM pc M' K' (r.bind vpop) ∧ ∀ σ σ', r = some σ → vpop σ = some σ' → x = vtop σ := by
  match r, hr with
  | none, ⟨h1, ⟨h, hh, h2⟩, m, hm, h3⟩ =>
    by_cases q : h = 0
    · refine ⟨0, u2 M 145 50 1, K, fun L h' z => r143_0 ⟨fun k => absurd ?_ k, fun _ => ⟨rfl, rfl⟩⟩, FrM_i (by omega), ⟨by rw [eMi]; decide, ⟨h, hh, by rw [rM (by omega)]; exact h2⟩, m, hm, by rw [rM (by omega)]; exact h3⟩, fun σ σ' k => nomatch k⟩
      rw [h2]; exact (eq00 hh).mpr q
    · refine ⟨K 180 (h - 1), u2 M 145 45 (nI (h - 1)), K, fun L h' z => r143_0 ⟨fun _ => ?_, fun k => absurd ?_ q⟩, FrM_i (by omega), ⟨by rw [rM (by omega)]; exact h1, ⟨h - 1, by omega, eMi⟩, m, hm, by rw [rM (by omega)]; exact h3⟩, fun σ σ' k => nomatch k⟩
      · rw [h2, nI_sub1 (by omega) hh, cl (h - 1) (by omega)]; exact ⟨vp_in_nI (by omega) (by omega), rfl, rfl⟩
      · rw [h2] at k; exact (eq00 hh).mp k
  | some (h, k, w, m, y, g, pc'), ⟨h1, hh, h2, hm, h3, hp, h6, h7, h8⟩ =>
    by_cases q : 0 < h
    · refine ⟨K 180 (h - 1), u2 M 145 45 (nI (h - 1)), K, fun L h' z => r143_0 ⟨fun _ => ?_, fun k => absurd ?_ (show ¬ h = 0 by omega)⟩, FrM_i (by omega), ?_, fun σ σ' e _ => ?_⟩
      · rw [h2, nI_sub1 q hh, cl (h - 1) (by omega)]; exact ⟨vp_in_nI (by omega) (by omega), rfl, rfl⟩
      · rw [h2] at k; exact (eq00 hh).mp k
      · show resM pc _ _ (vpop (h, k, w, m, y, g, pc'))
        unfold vpop
        dsimp only
        rw [if_pos q]
        exact ⟨by rw [rM (by omega)]; exact h1, by omega, eMi, hm, by rw [rM (by omega)]; exact h3, hp, fun i hi => h6 i (by omega), h7, fun i hi => by rw [u2_ne (by omega)]; exact h8 i hi⟩
      · cases e
        exact h6 (h - 1) (by omega)
    · refine ⟨0, u2 M 145 50 1, K, fun L h' z => r143_0 ⟨fun k => absurd ?_ k, fun _ => ⟨rfl, rfl⟩⟩, FrM_i (by omega), ?_, fun σ σ' e k => ?_⟩
      · rw [h2]; exact (eq00 hh).mpr (by omega)
      · show resM pc _ _ (vpop (h, k, w, m, y, g, pc'))
        unfold vpop
        dsimp only
        rw [if_neg q]
        exact ⟨by rw [eMi]; decide, ⟨h, hh, by rw [rM (by omega)]; exact h2⟩, m, hm, by rw [rM (by omega)]; exact h3⟩
      · cases e
        unfold vpop at k
        dsimp only at k
        rw [if_neg q] at k; cases k
theorem resM_n {i : Nat} (hr : resM pc M K r) : resM pc (u2 M 145 50 1) K none := by
  match r, hr with
  | none, ⟨h1, ⟨h, hh, h2⟩, m, hm, h3⟩ => exact ⟨by rw [eMi]; decide, ⟨h, hh, by rw [rM (by omega)]; exact h2⟩, m, hm, by rw [rM (by omega)]; exact h3⟩
  | some (h, k, w, m, y, g, pc'), ⟨h1, hh, h2, hm, h3, hp, h6, h7, h8⟩ => exact ⟨by rw [eMi]; decide, ⟨h, hh, by rw [rM (by omega)]; exact h2⟩, m, hm, by rw [rM (by omega)]; exact h3⟩
theorem popMs {σ : vS} (hr : resM pc M K (some σ)) : ∃ (x : Int64) (M' : rI) (K' : rJ), (∀ L h z, Den 143 [.ref 145] (mS L M K h z) (.inl (some (.long x))) (mS L M' K' h z)) ∧ FrM M K M' K' ∧ resM pc M' K' (vpop σ) ∧ ∀ σ', vpop σ = some σ' → x = vtop σ := by
  obtain ⟨x, M', K', h1, h2, h3, h4⟩ := popM hr
  exact ⟨x, M', K', h1, h2, h3, fun σ' k => h4 σ σ' rfl k⟩
theorem resM_w {σ : vS} (hr : resM pc M K (some σ)) : M 145 50 = 0 := by
  match σ, hr with
  | (h, k, w, m, y, g, pc'), ⟨h1, _⟩ => exact h1
theorem does6 {σ : vS} {k e : Nat} (hk : k < 4) (hr : resM pc M K (some σ)) : ∃ (M' : rI) (K' : rJ), (∀ L h z, dU 145 [.ref 145, .int (nI 6), .int (nI k), .int (nI e)] L h z M K M' K') ∧ FrM M K M' K' ∧ resM pc M' K' ((vpop σ).map (vset k (vtop σ))) := by
  obtain ⟨x, M1, K1, e1, e2, e3, e4⟩ := popMs hr
  cases hs : vpop σ with
  | none =>
    rw [hs] at e3
    exact ⟨M1, K1, fun L h z => r145_0 ⟨fun _ => ⟨fun _ => ⟨fun _ => ⟨fun _ => ⟨fun _ => ⟨fun _ => ⟨fun k => absurd rfl k, fun _ => ⟨_, _, _, e1 L h z, fun _ => ⟨rfl, rfl⟩, fun q => absurd q e3.1⟩⟩, fun k => absurd k (by decide)⟩, fun k => absurd k (by decide)⟩, fun k => absurd k (by decide)⟩, fun k => absurd k (by decide)⟩, fun k => absurd k (by decide)⟩, fun k => absurd k (by decide)⟩, e2, e3⟩
  | some s =>
    rw [hs] at e3
    have ex := e4 s hs
    refine ⟨M1, u2 K1 181 k x, fun L h z => r145_0 ⟨fun _ => ⟨fun _ => ⟨fun _ => ⟨fun _ => ⟨fun _ => ⟨fun _ => ⟨fun k => absurd rfl k, fun _ => ⟨_, _, _, e1 L h z, fun q => absurd (resM_w e3) q, fun _ => ⟨vp_in_nI hk (by omega), rfl, ?_⟩⟩⟩, fun k => absurd k (by decide)⟩, fun k => absurd k (by decide)⟩, fun k => absurd k (by decide)⟩, fun k => absurd k (by decide)⟩, fun k => absurd k (by decide)⟩, fun k => absurd k (by decide)⟩, FrM_tr e2 ⟨fun _ _ _ => rfl, fun _ _ _ _ => rfl, fun _ _ q _ => u2_ne q⟩, ?_⟩
    · rw [cl k (by omega)]
    · rw [← ex]
      match s, e3 with
      | (h, k', w, m, y, g, pc'), ⟨h1, hh, h2, hm, h3, hp, h6, h7, h8⟩ =>
        refine ⟨h1, hh, h2, hm, h3, hp, fun i hi => by rw [u2_ne (by omega)]; exact h6 i hi, fun i hi => ?_, fun i hi => by rw [u2_ne (by omega)]; exact h8 i hi⟩
        rw [u2_row]
        dsimp only
        by_cases e : i = k
        · rw [if_pos e, if_pos e]
        · rw [if_neg e, if_neg e]; exact h7 i hi
theorem does13 {σ : vS} {a : Int32} {e : Nat} (hr : resM pc M K (some σ)) : ∃ (M' : rI) (K' : rJ), (∀ L h z, dU 145 [.ref 145, .int (nI 13), .int a, .int (nI e)] L h z M K M' K') ∧ FrM M K M' K' ∧ resM pc M' K' ((vpop σ).bind (fun σ2 => (vpush (vtop σ) σ2).bind (vpush (vtop σ)))) := by
  obtain ⟨x, M1, K1, e1, e2, e3, e4⟩ := popMs hr
  obtain ⟨M2, K2, f1, f2, f3⟩ := pushM (x := x) e3
  obtain ⟨M3, K3, g1, g2, g3⟩ := pushM (x := x) f3
  refine ⟨M3, K3, fun L h z => r145_0 ⟨fun _ => ⟨fun _ => ⟨fun _ => ⟨fun _ => ⟨fun _ => ⟨fun _ => ⟨fun _ => ⟨fun _ => ⟨fun k => absurd rfl k, fun _ => ⟨_, _, _, e1 L h z, _, _, f1 L h z, _, _, g1 L h z, rfl, rfl⟩⟩, fun k => absurd k (by decide)⟩, fun k => absurd k (by decide)⟩, fun k => absurd k (by decide)⟩, fun k => absurd k (by decide)⟩, fun k => absurd k (by decide)⟩, fun k => absurd k (by decide)⟩, fun k => absurd k (by decide)⟩, fun k => absurd k (by decide)⟩, FrM_tr e2 (FrM_tr f2 g2), ?_⟩
  rw [bind_as, bind_eq (fun s hs => by rw [e4 s hs])] at g3
  exact g3
theorem does14 {σ : vS} {a : Int32} {e : Nat} (hr : resM pc M K (some σ)) : ∃ (M' : rI) (K' : rJ), (∀ L h z, dU 145 [.ref 145, .int (nI 14), .int a, .int (nI e)] L h z M K M' K') ∧ FrM M K M' K' ∧ resM pc M' K' (vpop σ) := by
  obtain ⟨x, M1, K1, e1, e2, e3, e4⟩ := popMs hr
  exact ⟨M1, K1, fun L h z => r145_0 ⟨fun _ => ⟨fun _ => ⟨fun _ => ⟨fun _ => ⟨fun _ => ⟨fun _ => ⟨fun _ => ⟨fun k => absurd rfl k, fun _ => ⟨_, _, _, e1 L h z, rfl, rfl⟩⟩, fun k => absurd k (by decide)⟩, fun k => absurd k (by decide)⟩, fun k => absurd k (by decide)⟩, fun k => absurd k (by decide)⟩, fun k => absurd k (by decide)⟩, fun k => absurd k (by decide)⟩, fun k => absurd k (by decide)⟩, e2, e3⟩
theorem does15 {σ : vS} {a : Int32} {e : Nat} (hr : resM pc M K (some σ)) : ∃ (M' : rI) (K' : rJ), (∀ L h z, dU 145 [.ref 145, .int (nI 15), .int a, .int (nI e)] L h z M K M' K') ∧ FrM M K M' K' ∧ resM pc M' K' ((vpop σ).bind (fun σ2 => (vpop σ2).bind (fun σ3 => (vpush (vtop σ) σ3).bind (vpush (vtop σ2))))) := by
  obtain ⟨x, M1, K1, e1, e2, e3, e4⟩ := popMs hr
  obtain ⟨x2, M4, K4, d1, d2, d3, d4⟩ := popM e3
  obtain ⟨M2, K2, f1, f2, f3⟩ := pushM (x := x) d3
  obtain ⟨M3, K3, g1, g2, g3⟩ := pushM (x := x2) f3
  refine ⟨M3, K3, fun L h z => r145_0 ⟨fun _ => ⟨fun _ => ⟨fun _ => ⟨fun _ => ⟨fun _ => ⟨fun _ => ⟨fun _ => ⟨fun _ => ⟨fun _ => ⟨fun _ => ⟨_, _, _, e1 L h z, _, _, _, d1 L h z, fun q => absurd rfl q, fun _ => ⟨_, _, f1 L h z, _, _, g1 L h z, rfl, rfl⟩⟩, fun k => absurd k (by decide)⟩, fun k => absurd k (by decide)⟩, fun k => absurd k (by decide)⟩, fun k => absurd k (by decide)⟩, fun k => absurd k (by decide)⟩, fun k => absurd k (by decide)⟩, fun k => absurd k (by decide)⟩, fun k => absurd k (by decide)⟩, fun k => absurd k (by decide)⟩, fun k => absurd k (by decide)⟩, FrM_tr e2 (FrM_tr d2 (FrM_tr f2 g2)), ?_⟩
  have : (((vpop σ).bind vpop).bind (vpush x)).bind (vpush x2) = (vpop σ).bind (fun σ2 => (vpop σ2).bind (fun σ3 => (vpush (vtop σ) σ3).bind (vpush (vtop σ2)))) := by
    rw [bind_as, bind_as]
    refine bind_eq (fun s hs => ?_)
    refine bind_eq (fun s' hs' => ?_)
    rw [e4 s hs, d4 s s' hs hs']
  rw [this] at g3
  exact g3
theorem does18 {σ : vS} {a : Int32} {e : Nat} (hr : resM pc M K (some σ)) : ∃ (M' : rI) (K' : rJ), (∀ L h z, dU 145 [.ref 145, .int (nI 18), .int a, .int (nI e)] L h z M K M' K') ∧ FrM M K M' K' ∧ resM pc M' K' ((vpop σ).bind (vemit a (vtop σ))) := by
  obtain ⟨x, M1, K1, e1, e2, e3, e4⟩ := popMs hr
  have c4 : ∀ m, m ≤ 4 → (nI m = 4 ↔ m = 4) := fun m hm => nI_eq (b := 4) (by omega) (by omega)
  by_cases h4 : M1 145 49 = 4
  · refine ⟨u2 M1 145 50 1, K1, fun L h z => r145_0 ⟨fun _ => ⟨fun _ => ⟨fun _ => ⟨fun _ => ⟨fun _ => ⟨fun _ => ⟨fun _ => ⟨fun _ => ⟨fun _ => ⟨fun k => absurd rfl k, fun _ => ⟨_, _, _, e1 L h z, fun q => absurd h4 q, fun _ => r145_202 ⟨fun q => absurd q ?_, fun _ => ⟨rfl, rfl⟩⟩⟩⟩, fun k => absurd k (by decide)⟩, fun k => absurd k (by decide)⟩, fun k => absurd k (by decide)⟩, fun k => absurd k (by decide)⟩, fun k => absurd k (by decide)⟩, fun k => absurd k (by decide)⟩, fun k => absurd k (by decide)⟩, fun k => absurd k (by decide)⟩, fun k => absurd k (by decide)⟩, FrM_tr e2 (FrM_i (by omega)), ?_⟩
    · rw [eMi]; decide
    have : (vpop σ).bind (vemit a (vtop σ)) = none := by
      cases hs : vpop σ with
      | none => rfl
      | some s =>
        rw [hs] at e3
        match s, e3 with
        | (h, k', w, m, y, g, pc'), ⟨h1, hh, h2, hm, h3, hp, h6, h7, h8⟩ =>
          rw [h3, c4 m hm] at h4
          show vemit a (vtop σ) (h, k', w, m, y, g, pc') = none
          unfold vemit
          dsimp only
          rw [if_neg (by omega)]
    rw [this]
    exact resM_n (i := 0) e3
  · cases hs : vpop σ with
    | none =>
      rw [hs] at e3
      exact ⟨M1, K1, fun L h z => r145_0 ⟨fun _ => ⟨fun _ => ⟨fun _ => ⟨fun _ => ⟨fun _ => ⟨fun _ => ⟨fun _ => ⟨fun _ => ⟨fun _ => ⟨fun k => absurd rfl k, fun _ => ⟨_, _, _, e1 L h z, fun _ => r145_202 ⟨fun q => absurd q e3.1, fun _ => ⟨rfl, rfl⟩⟩, fun q => absurd q h4⟩⟩, fun k => absurd k (by decide)⟩, fun k => absurd k (by decide)⟩, fun k => absurd k (by decide)⟩, fun k => absurd k (by decide)⟩, fun k => absurd k (by decide)⟩, fun k => absurd k (by decide)⟩, fun k => absurd k (by decide)⟩, fun k => absurd k (by decide)⟩, fun k => absurd k (by decide)⟩, e2, e3⟩
    | some s =>
      rw [hs] at e3
      have ex := e4 s hs
      match s, e3 with
      | (h, k', w, m, y, g, pc'), ⟨h1, hh, h2, hm, h3, hp, h6, h7, h8⟩ =>
        have h4' : ¬ m = 4 := fun q => h4 (h3.trans ((c4 m hm).mpr q))
        refine ⟨u2 (u2 M1 182 m a) 145 49 (nI (m + 1)), u2 K1 183 m x, fun L h z => r145_0 ⟨fun _ => ⟨fun _ => ⟨fun _ => ⟨fun _ => ⟨fun _ => ⟨fun _ => ⟨fun _ => ⟨fun _ => ⟨fun _ => ⟨fun k => absurd rfl k, fun _ => ⟨_, _, _, e1 L h z, fun _ => r145_202 ⟨fun _ => ?_, fun q => absurd h1 q⟩, fun q => absurd q h4⟩⟩, fun k => absurd k (by decide)⟩, fun k => absurd k (by decide)⟩, fun k => absurd k (by decide)⟩, fun k => absurd k (by decide)⟩, fun k => absurd k (by decide)⟩, fun k => absurd k (by decide)⟩, fun k => absurd k (by decide)⟩, fun k => absurd k (by decide)⟩, fun k => absurd k (by decide)⟩, FrM_tr e2 ⟨fun _ q1 q2 => by rw [u2_ne q1, u2_ne q2], fun j q1 q2 q3 => by rw [rM (by omega), u2_ne (by omega)], fun _ _ _ q3 => u2_ne q3⟩, ?_⟩
        · rw [h3, cl m (by omega), nI_1]; exact ⟨vp_in_nI (by omega) (by omega), rfl, rfl⟩
        · show resM pc _ _ (vemit a (vtop σ) (h, k', w, m, y, g, pc'))
          unfold vemit
          dsimp only
          rw [if_pos (by omega), ← ex]
          refine ⟨by rw [rM (by omega), u2_ne (by omega)]; exact h1, hh, by rw [rM (by omega), u2_ne (by omega)]; exact h2, by omega, eMi, hp, fun i hi => by rw [u2_ne (by omega)]; exact h6 i hi, fun i hi => by rw [u2_ne (by omega)]; exact h7 i hi, fun i hi => ?_⟩
          rw [u2_ne (by omega), u2_row, u2_row]
          by_cases e : i = m
          · simp only [if_pos e]; exact ⟨trivial, trivial⟩
          · simp only [if_neg e]; exact h8 i (by omega)
theorem does10 {σ : vS} {a : Int32} {e : Nat} (hr : resM pc M K (some σ)) : ∃ (M' : rI) (K' : rJ), (∀ L h z, dU 145 [.ref 145, .int (nI 10), .int a, .int (nI e)] L h z M K M' K') ∧ FrM M K M' K' ∧ resM pc M' K' ((vpop σ).bind (fun σ2 => (vpop σ2).bind (fun σ3 => (vjoin 10 (vtop σ2) (vtop σ)).bind (fun x => vpush x σ3)))) := by
  obtain ⟨x, M1, K1, e1, e2, e3, e4⟩ := popMs hr
  obtain ⟨x2, M4, K4, d1, d2, d3, d4⟩ := popM e3
  by_cases hx : x = 0
  · refine ⟨u2 M4 145 50 1, K4, fun L h z => r145_0 ⟨fun _ => ⟨fun _ => ⟨fun _ => ⟨fun _ => ⟨fun _ => ⟨fun _ => ⟨fun _ => ⟨fun _ => ⟨fun _ => ⟨fun _ => ⟨_, _, _, e1 L h z, _, _, _, d1 L h z, fun _ => ⟨fun q => absurd rfl q, fun _ => ⟨fun q => absurd (lcz.mpr hx) q, fun _ => ⟨rfl, rfl⟩⟩⟩, fun q => absurd q (by decide)⟩, fun k => absurd k (by decide)⟩, fun k => absurd k (by decide)⟩, fun k => absurd k (by decide)⟩, fun k => absurd k (by decide)⟩, fun k => absurd k (by decide)⟩, fun k => absurd k (by decide)⟩, fun k => absurd k (by decide)⟩, fun k => absurd k (by decide)⟩, fun k => absurd k (by decide)⟩, fun k => absurd k (by decide)⟩, FrM_tr e2 (FrM_tr d2 (FrM_i (by omega))), ?_⟩
    have : (vpop σ).bind (fun σ2 => (vpop σ2).bind (fun σ3 => (vjoin 10 (vtop σ2) (vtop σ)).bind (fun x => vpush x σ3))) = none := by
      cases hs : vpop σ with
      | none => rfl
      | some s =>
        show (vpop s).bind _ = none
        cases hs' : vpop s with
        | none => rfl
        | some s' =>
          show (vjoin 10 (vtop s) (vtop σ)).bind (fun x => vpush x s') = none
          rw [← e4 s hs, hx]
          rfl
    rw [this]
    exact resM_n (i := 0) d3
  · obtain ⟨M2, K2, f1, f2, f3⟩ := pushM (x := x2 / x) d3
    refine ⟨M2, K2, fun L h z => r145_0 ⟨fun _ => ⟨fun _ => ⟨fun _ => ⟨fun _ => ⟨fun _ => ⟨fun _ => ⟨fun _ => ⟨fun _ => ⟨fun _ => ⟨fun _ => ⟨_, _, _, e1 L h z, _, _, _, d1 L h z, fun _ => ⟨fun q => absurd rfl q, fun _ => ⟨fun _ => r145_298 ⟨fun _ => ⟨fun _ => ⟨fun _ => ⟨fun k => absurd rfl k, fun _ => ⟨hx, _, _, f1 L h z, rfl, rfl⟩⟩, fun k => absurd k (by decide)⟩, fun k => absurd k (by decide)⟩, fun k => absurd k (by decide)⟩, fun q => absurd (lcz.mp q) hx⟩⟩, fun q => absurd q (by decide)⟩, fun k => absurd k (by decide)⟩, fun k => absurd k (by decide)⟩, fun k => absurd k (by decide)⟩, fun k => absurd k (by decide)⟩, fun k => absurd k (by decide)⟩, fun k => absurd k (by decide)⟩, fun k => absurd k (by decide)⟩, fun k => absurd k (by decide)⟩, fun k => absurd k (by decide)⟩, fun k => absurd k (by decide)⟩, FrM_tr e2 (FrM_tr d2 f2), ?_⟩
    rw [joinEq e4 d4 (q := 10) (by
      unfold vjoin
      rw [if_neg (by omega), if_neg (by omega), if_neg (by omega), if_pos rfl, if_neg hx])] at f3
    exact f3
theorem doesJ {σ : vS} {a : Int32} {q e : Nat} (hq : q = 7 ∨ q = 8 ∨ q = 9 ∨ q = 11 ∨ q = 12) (hr : resM pc M K (some σ)) : ∃ (M' : rI) (K' : rJ), (∀ L h z, dU 145 [.ref 145, .int (nI q), .int a, .int (nI e)] L h z M K M' K') ∧ FrM M K M' K' ∧ resM pc M' K' ((vpop σ).bind (fun σ2 => (vpop σ2).bind (fun σ3 => (vjoin q (vtop σ2) (vtop σ)).bind (fun x => vpush x σ3)))) := by
  obtain ⟨x, M1, K1, e1, e2, e3, e4⟩ := popMs hr
  obtain ⟨x2, M4, K4, d1, d2, d3, d4⟩ := popM e3
  rcases hq with rfl | rfl | rfl | rfl | rfl
  · obtain ⟨M2, K2, f1, f2, f3⟩ := pushM (x := x2 + x) d3
    exact ⟨M2, K2, fun L h z => r145_0 ⟨fun _ => ⟨fun _ => ⟨fun _ => ⟨fun _ => ⟨fun _ => ⟨fun _ => ⟨fun _ => ⟨fun _ => ⟨fun _ => ⟨fun _ => ⟨_, _, _, e1 L h z, _, _, _, d1 L h z, fun _ => ⟨fun _ => r145_298 ⟨fun k => absurd rfl k, fun _ => ⟨_, _, f1 L h z, rfl, rfl⟩⟩, fun q => absurd q (by decide)⟩, fun q => absurd q (by decide)⟩, fun k => absurd k (by decide)⟩, fun k => absurd k (by decide)⟩, fun k => absurd k (by decide)⟩, fun k => absurd k (by decide)⟩, fun k => absurd k (by decide)⟩, fun k => absurd k (by decide)⟩, fun k => absurd k (by decide)⟩, fun k => absurd k (by decide)⟩, fun k => absurd k (by decide)⟩, fun k => absurd k (by decide)⟩, FrM_tr e2 (FrM_tr d2 f2), by rw [joinEq e4 d4 (q := 7) rfl] at f3; exact f3⟩
  · obtain ⟨M2, K2, f1, f2, f3⟩ := pushM (x := x2 - x) d3
    exact ⟨M2, K2, fun L h z => r145_0 ⟨fun _ => ⟨fun _ => ⟨fun _ => ⟨fun _ => ⟨fun _ => ⟨fun _ => ⟨fun _ => ⟨fun _ => ⟨fun _ => ⟨fun _ => ⟨_, _, _, e1 L h z, _, _, _, d1 L h z, fun _ => ⟨fun _ => r145_298 ⟨fun _ => ⟨fun k => absurd rfl k, fun _ => ⟨_, _, f1 L h z, rfl, rfl⟩⟩, fun k => absurd k (by decide)⟩, fun q => absurd q (by decide)⟩, fun q => absurd q (by decide)⟩, fun k => absurd k (by decide)⟩, fun k => absurd k (by decide)⟩, fun k => absurd k (by decide)⟩, fun k => absurd k (by decide)⟩, fun k => absurd k (by decide)⟩, fun k => absurd k (by decide)⟩, fun k => absurd k (by decide)⟩, fun k => absurd k (by decide)⟩, fun k => absurd k (by decide)⟩, fun k => absurd k (by decide)⟩, FrM_tr e2 (FrM_tr d2 f2), by rw [joinEq e4 d4 (q := 8) rfl] at f3; exact f3⟩
  · obtain ⟨M2, K2, f1, f2, f3⟩ := pushM (x := x2 * x) d3
    exact ⟨M2, K2, fun L h z => r145_0 ⟨fun _ => ⟨fun _ => ⟨fun _ => ⟨fun _ => ⟨fun _ => ⟨fun _ => ⟨fun _ => ⟨fun _ => ⟨fun _ => ⟨fun _ => ⟨_, _, _, e1 L h z, _, _, _, d1 L h z, fun _ => ⟨fun _ => r145_298 ⟨fun _ => ⟨fun _ => ⟨fun k => absurd rfl k, fun _ => ⟨_, _, f1 L h z, rfl, rfl⟩⟩, fun k => absurd k (by decide)⟩, fun k => absurd k (by decide)⟩, fun q => absurd q (by decide)⟩, fun q => absurd q (by decide)⟩, fun k => absurd k (by decide)⟩, fun k => absurd k (by decide)⟩, fun k => absurd k (by decide)⟩, fun k => absurd k (by decide)⟩, fun k => absurd k (by decide)⟩, fun k => absurd k (by decide)⟩, fun k => absurd k (by decide)⟩, fun k => absurd k (by decide)⟩, fun k => absurd k (by decide)⟩, fun k => absurd k (by decide)⟩, FrM_tr e2 (FrM_tr d2 f2), by rw [joinEq e4 d4 (q := 9) rfl] at f3; exact f3⟩
  · obtain ⟨M2, K2, f1, f2, f3⟩ := pushM (x := if 0 ≤ lg_cmp x2 x then 0 else 1) d3
    refine ⟨M2, K2, fun L h z => r145_0 ⟨fun _ => ⟨fun _ => ⟨fun _ => ⟨fun _ => ⟨fun _ => ⟨fun _ => ⟨fun _ => ⟨fun _ => ⟨fun _ => ⟨fun _ => ⟨_, _, _, e1 L h z, _, _, _, d1 L h z, fun _ => ⟨fun _ => r145_298 ⟨fun _ => ⟨fun _ => ⟨fun _ => ⟨fun _ => ⟨fun k => absurd rfl k, fun _ => ⟨fun q => ⟨_, _, (by have := f1 L h z; rw [if_pos q] at this; exact this), rfl, rfl⟩, fun q => ⟨_, _, (by have := f1 L h z; rw [if_neg q] at this; exact this), rfl, rfl⟩⟩⟩, fun k => absurd k (by decide)⟩, fun k => absurd k (by decide)⟩, fun k => absurd k (by decide)⟩, fun k => absurd k (by decide)⟩, fun q => absurd q (by decide)⟩, fun q => absurd q (by decide)⟩, fun k => absurd k (by decide)⟩, fun k => absurd k (by decide)⟩, fun k => absurd k (by decide)⟩, fun k => absurd k (by decide)⟩, fun k => absurd k (by decide)⟩, fun k => absurd k (by decide)⟩, fun k => absurd k (by decide)⟩, fun k => absurd k (by decide)⟩, fun k => absurd k (by decide)⟩, fun k => absurd k (by decide)⟩, FrM_tr e2 (FrM_tr d2 f2), by rw [joinEq e4 d4 (q := 11) rfl] at f3; exact f3⟩
  · obtain ⟨M2, K2, f1, f2, f3⟩ := pushM (x := if lg_cmp x2 x = 0 then 1 else 0) d3
    refine ⟨M2, K2, fun L h z => r145_0 ⟨fun _ => ⟨fun _ => ⟨fun _ => ⟨fun _ => ⟨fun _ => ⟨fun _ => ⟨fun _ => ⟨fun _ => ⟨fun _ => ⟨fun _ => ⟨_, _, _, e1 L h z, _, _, _, d1 L h z, fun _ => ⟨fun _ => r145_298 ⟨fun _ => ⟨fun _ => ⟨fun _ => ⟨fun _ => ⟨fun _ => ⟨fun q => ⟨_, _, (by have := f1 L h z; rw [if_neg q] at this; exact this), rfl, rfl⟩, fun q => ⟨_, _, (by have := f1 L h z; rw [if_pos q] at this; exact this), rfl, rfl⟩⟩, fun k => absurd k (by decide)⟩, fun k => absurd k (by decide)⟩, fun k => absurd k (by decide)⟩, fun k => absurd k (by decide)⟩, fun k => absurd k (by decide)⟩, fun q => absurd q (by decide)⟩, fun q => absurd q (by decide)⟩, fun k => absurd k (by decide)⟩, fun k => absurd k (by decide)⟩, fun k => absurd k (by decide)⟩, fun k => absurd k (by decide)⟩, fun k => absurd k (by decide)⟩, fun k => absurd k (by decide)⟩, fun k => absurd k (by decide)⟩, fun k => absurd k (by decide)⟩, fun k => absurd k (by decide)⟩, fun k => absurd k (by decide)⟩, FrM_tr e2 (FrM_tr d2 f2), by rw [joinEq e4 d4 (q := 12) rfl] at f3; exact f3⟩
theorem doesM {σ : vS} {a : Int32} {q e : Nat} {d y s u : Int64} (hq : q < 20) (hq2 : ¬ q = 16 ∧ ¬ q = 17 ∧ ¬ q = 19) (he : e < 2500) (hop : okOp (nI q) a) (hr : resM pc M K (some σ)) (hd : K 150 e = d) (hy : (M 149 e).toInt64 = y) (hs : (M 146 e).toInt64 = s) (hu : (M 147 e).toInt64 = u) :
    ∃ (M' : rI) (K' : rJ), (∀ L h z, dU 145 [.ref 145, .int (nI q), .int a, .int (nI e)] L h z M K M' K') ∧ FrM M K M' K' ∧ resM pc M' K' (vop c q a d y s u σ) := by
  have hv : vp_in (nI e) 2500 := vp_in_nI he (by omega)
  have hce := cl e (by omega)
  have hq' : q = 0 ∨ q = 1 ∨ q = 2 ∨ q = 3 ∨ q = 4 ∨ q = 5 ∨ q = 6 ∨ q = 7 ∨ q = 8 ∨ q = 9 ∨ q = 10 ∨ q = 11 ∨ q = 12 ∨ q = 13 ∨ q = 14 ∨ q = 15 ∨ q = 18 := by omega
  rcases hq' with rfl | rfl | rfl | rfl | rfl | rfl | rfl | rfl | rfl | rfl | rfl | rfl | rfl | rfl | rfl | rfl | rfl
  · obtain ⟨M2, K2, f1, f2, f3⟩ := pushM (x := a.toInt64) hr
    exact ⟨M2, K2, fun L h z => r145_0 ⟨fun k => absurd rfl k, fun _ => ⟨_, _, f1 L h z, rfl, rfl⟩⟩, f2, f3⟩
  · obtain ⟨M2, K2, f1, f2, f3⟩ := pushM (x := d) hr
    exact ⟨M2, K2, fun L h z => r145_0 ⟨fun _ => ⟨fun k => absurd rfl k, fun _ => ⟨hv, M2, K2, (by rw [hce, hd]; exact f1 L h z), rfl, rfl⟩⟩, fun k => absurd k (by decide)⟩, f2, f3⟩
  · obtain ⟨M2, K2, f1, f2, f3⟩ := pushM (x := y) hr
    exact ⟨M2, K2, fun L h z => r145_0 ⟨fun _ => ⟨fun _ => ⟨fun k => absurd rfl k, fun _ => ⟨hv, M2, K2, (by rw [hce, hy]; exact f1 L h z), rfl, rfl⟩⟩, fun k => absurd k (by decide)⟩, fun k => absurd k (by decide)⟩, f2, f3⟩
  · obtain ⟨M2, K2, f1, f2, f3⟩ := pushM (x := s) hr
    exact ⟨M2, K2, fun L h z => r145_0 ⟨fun _ => ⟨fun _ => ⟨fun _ => ⟨fun k => absurd rfl k, fun _ => ⟨hv, M2, K2, (by rw [hce, hs]; exact f1 L h z), rfl, rfl⟩⟩, fun k => absurd k (by decide)⟩, fun k => absurd k (by decide)⟩, fun k => absurd k (by decide)⟩, f2, f3⟩
  · obtain ⟨M2, K2, f1, f2, f3⟩ := pushM (x := u) hr
    exact ⟨M2, K2, fun L h z => r145_0 ⟨fun _ => ⟨fun _ => ⟨fun _ => ⟨fun _ => ⟨fun k => absurd rfl k, fun _ => ⟨hv, M2, K2, (by rw [hce, hu]; exact f1 L h z), rfl, rfl⟩⟩, fun k => absurd k (by decide)⟩, fun k => absurd k (by decide)⟩, fun k => absurd k (by decide)⟩, fun k => absurd k (by decide)⟩, f2, f3⟩
  · obtain ⟨k, hk, rfl⟩ := hop.2.1 (Or.inl rfl)
    have hw : K 181 k = vvar σ k := by
      match σ, hr with
      | (h, k', w, m, y, g, pc'), ⟨h1, hh, h2, hm, h3, hp, h6, h7, h8⟩ => exact h7 k hk
    obtain ⟨M2, K2, f1, f2, f3⟩ := pushM (x := vvar σ k) hr
    refine ⟨M2, K2, fun L h z => r145_0 ⟨fun _ => ⟨fun _ => ⟨fun _ => ⟨fun _ => ⟨fun _ => ⟨fun k => absurd rfl k, fun _ => ⟨vp_in_nI hk (by omega), M2, K2, (by rw [cl k (by omega), hw]; exact f1 L h z), rfl, rfl⟩⟩, fun k => absurd k (by decide)⟩, fun k => absurd k (by decide)⟩, fun k => absurd k (by decide)⟩, fun k => absurd k (by decide)⟩, fun k => absurd k (by decide)⟩, f2, ?_⟩
    show resM pc M2 K2 (vpush (vvar σ (nI k).toNatClampNeg) σ)
    rw [cl k (by omega)]; exact f3
  · obtain ⟨k, hk, rfl⟩ := hop.2.1 (Or.inr rfl)
    obtain ⟨M', K', h1, h2, h3⟩ := does6 (e := e) hk hr
    refine ⟨M', K', h1, h2, ?_⟩
    show resM pc M' K' ((vpop σ).map (vset (nI k).toNatClampNeg (vtop σ)))
    rw [cl k (by omega)]; exact h3
  · exact doesJ (by omega) hr
  · exact doesJ (by omega) hr
  · exact doesJ (by omega) hr
  · exact does10 hr
  · exact doesJ (by omega) hr
  · exact doesJ (by omega) hr
  · exact does13 hr
  · exact does14 hr
  · exact does15 hr
  · exact does18 hr
def finM (M : rI) (K : rJ) : Option vS → Prop
  | none => True
  | some (_, _, w, m, y, g, _) => m ≤ 4 ∧ M 145 49 = nI m ∧ (∀ i, i < 4 → K 181 i = w i) ∧ ∀ i, i < m → M 182 i = y i ∧ K 183 i = g i
theorem resM_fin {σ : vS} {b : Nat} (h : resM pc M K (some σ)) : finM M K (some (vpc b σ)) ∧ finM M K (some σ) := by
  match σ, h with
  | (h, k, w, m, y, g, pc'), ⟨h1, hh, h2, hm, h3, hp, h6, h7, h8⟩ => exact ⟨⟨hm, h3, h7, h8⟩, hm, h3, h7, h8⟩
theorem resM_pc {σ : vS} {b : Nat} (h : resM pc M K (some σ)) : vgpc σ = pc ∧ resM b M K (some (vpc b σ)) := by
  match σ, h with
  | (h, k, w, m, y, g, pc'), ⟨h1, hh, h2, hm, h3, hp, h6, h7, h8⟩ => exact ⟨hp, h1, hh, h2, hm, h3, rfl, h6, h7, h8⟩
theorem resM_b {b : Nat} (h : resM pc M K r) : resM b M K (r.map (vpc b)) := by
  match r, h with
  | none, h => exact h
  | some σ, h => exact (resM_pc h).2
theorem vpc_vpc {σ : vS} {a b : Nat} : vpc a (vpc b σ) = vpc a σ := rfl
theorem vgpc_vpc {σ : vS} {b : Nat} : vgpc (vpc b σ) = b := rfl
theorem vm_end {f a : Nat → Int32} {d y s u : Int64} {σ : vS} (h : vgpc σ = c) : ∀ m, vm c f a d y s u m σ = some σ := by
  intro m
  cases m with
  | zero => show (if vgpc σ < c then _ else _) = _; rw [if_neg (by omega)]
  | succ m => show (if vgpc σ < c then _ else _) = _; rw [if_neg (by omega)]
theorem vpop_vpc {σ : vS} {b : Nat} : vpop (vpc b σ) = (vpop σ).map (vpc b) := by
  match σ with
  | (h, k, w, m, y, g, pc') =>
    show (if 0 < h then some _ else none) = Option.map (vpc b) (if 0 < h then some _ else none)
    by_cases q : 0 < h
    · rw [if_pos q, if_pos q]; rfl
    · rw [if_neg q, if_neg q]; rfl
theorem vtop_vpc {σ : vS} {b : Nat} : vtop (vpc b σ) = vtop σ := rfl
theorem loopM {p e : Nat} {f a : Nat → Int32} {d y s u : Int64} (hp : p < 8) (hc : c ≤ 64) (he : e < 2500) (hok : ∀ i, i < c → okOp (f i) (a i) ∧ (f i = 16 ∨ f i = 17 → ∃ k, k ≤ c ∧ a i = nI k)) {M0 : rI} {K0 : rJ} (h171 : M0 171 p = nI c) (hf : ∀ i, i < c → M0 172 (64 * p + i) = f i ∧ M0 173 (64 * p + i) = a i) (hd : K0 150 e = d) (hy : (M0 149 e).toInt64 = y) (hs : (M0 146 e).toInt64 = s) (hu : (M0 147 e).toInt64 = u) : ∀ (m pc : Nat) (σ : vS) (M : rI) (K : rJ), m ≤ 200 → pc ≤ c → resM pc M K (some σ) → FrM M0 K0 M K →
    ∃ (M' : rI) (K' : rJ), (∀ L h z, Run 144 22 [(0, .ref 145), (1, .int (nI p)), (2, .int (nI e)), (3, .int (nI pc)), (4, .int (nI m))] [] (mS L M K h z) (.inl (some (.int (bb (vm c f a d y s u m σ).isSome)))) (mS L M' K' h z)) ∧ FrM M K M' K' ∧ finM M' K' (vm c f a d y s u m σ) := by
  have hv : vp_in (nI p) 8 := vp_in_nI hp (by omega)
  have hcp := cl p (by omega)
  have E : ∀ (m pc : Nat) (σ : vS) (M : rI) (K : rJ), m ≤ 200 → ¬ pc < c → pc ≤ c → resM pc M K (some σ) → FrM M0 K0 M K → ∃ (M' : rI) (K' : rJ), (∀ L h z, Run 144 22 [(0, .ref 145), (1, .int (nI p)), (2, .int (nI e)), (3, .int (nI pc)), (4, .int (nI m))] [] (mS L M K h z) (.inl (some (.int (bb (vm c f a d y s u m σ).isSome)))) (mS L M' K' h z)) ∧ FrM M K M' K' ∧ finM M' K' (vm c f a d y s u m σ) := by
    intro m pc σ M K hm q hpc hr hfr
    rw [vm_end ((resM_pc (b := 0) hr).1.trans (by omega))]
    refine ⟨M, K, fun L h z => r144_22 ⟨fun k => absurd (resM_w hr) k, fun _ => ⟨hv, fun _ => ⟨fun k => absurd (resM_w hr) k, fun _ => ⟨rfl, rfl⟩⟩, fun k => absurd ?_ k⟩⟩, FrM_rfl, (resM_fin (b := 0) hr).2⟩
    rw [hcp, hfr.1 171 (by omega) (by omega), h171, nI_leI (by omega) (by omega)]; omega
  intro m
  induction m with
  | zero =>
    intro pc σ M K hm hpc hr hfr
    by_cases q : pc < c
    · have hv0 : vm c f a d y s u 0 σ = none := by
        show (if vgpc σ < c then _ else _) = _
        rw [(resM_pc (b := 0) hr).1, if_pos q]
      rw [hv0]
      refine ⟨M, K, fun L h z => r144_22 ⟨fun k => absurd (resM_w hr) k, fun _ => ⟨hv, fun k => absurd q ?_, fun _ => ⟨?_, fun k => absurd rfl k, fun _ => ⟨rfl, rfl⟩⟩⟩⟩, FrM_rfl, trivial⟩
      · rw [hcp, hfr.1 171 (by omega) (by omega), h171, nI_leI (by omega) (by omega)] at k; omega
      · rw [show (64 : Int32) = nI 64 from rfl, nI_mul, nI_add]; exact vp_in_nI (by omega) (by omega)
    · exact E 0 pc σ M K hm q hpc hr hfr
  | succ m ih =>
    intro pc σ M K hm hpc hr hfr
    by_cases q : pc < c
    · obtain ⟨f1, f2⟩ := hf _ q
      obtain ⟨o1, o2⟩ := hok _ q
      obtain ⟨k, hk, hk2⟩ := o1.1
      have epc := (resM_pc (b := 0) hr).1
      have e64 : (64 : Int32) * nI p + nI pc = nI (64 * p + pc) := by rw [show (64 : Int32) = nI 64 from rfl, nI_mul, nI_add]
      have hvm : vm c f a d y s u (m + 1) σ = (vop c k (a pc) d y s u (vpc (pc + 1) σ)).bind (vm c f a d y s u m) := by
        show (if vgpc σ < c then _ else _) = _
        rw [epc, if_pos q, hk2, cl k (by omega)]
      have hr1 : resM (pc + 1) M K (some (vpc (pc + 1) σ)) := (resM_pc hr).2
      have hn0 : ¬ nI (m + 1) = 0 := nI_ne0 (by omega) (by omega)
      have em1 : nI (m + 1) + (-1) = nI m := by rw [nI_m1 (by omega) (by omega)]; rfl
      have hle : ¬ M 171 p ≤ nI pc := by rw [hfr.1 171 (by omega) (by omega), h171, nI_leI (by omega) (by omega)]; omega
      -- the loop's head
      have head : ∀ (L h z : Nat) (o : eO) (σo : eS), ((¬ nI k = 19 → (¬ nI k = 16 → (¬ nI k = 17 → ∃ (I9 : rI) (J10 : rJ), Den 145 [.ref 145, .int (nI k), .int (a pc), .int (nI e)] (mS L M K h z) (.inl none) (mS L I9 J10 h z) ∧ Run 144 22 [(0, .ref 145), (1, .int (nI p)), (2, .int (nI e)), (3, .int (nI (pc + 1))), (4, .int (nI m))] [] (mS L I9 J10 h z) o σo) ∧ (nI k = 17 → ∃ (v11 : Int64) (I12 : rI) (J13 : rJ), Den 143 [.ref 145] (mS L M K h z) (.inl (some (.long v11))) (mS L I12 J13 h z) ∧ (¬ lg_cmp v11 0 = 0 → Run 144 22 [(0, .ref 145), (1, .int (nI p)), (2, .int (nI e)), (3, .int (nI (pc + 1))), (4, .int (nI m))] [] (mS L I12 J13 h z) o σo) ∧ (lg_cmp v11 0 = 0 → Run 144 22 [(0, .ref 145), (1, .int (nI p)), (2, .int (nI e)), (3, .int (a pc)), (4, .int (nI m))] [] (mS L I12 J13 h z) o σo))) ∧ (nI k = 16 → Run 144 22 [(0, .ref 145), (1, .int (nI p)), (2, .int (nI e)), (3, .int (a pc)), (4, .int (nI m))] [] (mS L M K h z) o σo)) ∧ (nI k = 19 → o = .inl (some (.int 1)) ∧ σo = mS L M K h z)) →
          Run 144 22 [(0, .ref 145), (1, .int (nI p)), (2, .int (nI e)), (3, .int (nI pc)), (4, .int (nI (m + 1)))] [] (mS L M K h z) o σo := by
        intro L h z o σo H
        refine r144_22 ⟨fun k => absurd (resM_w hr) k, fun _ => ⟨hv, fun k => absurd ?_ hle, fun _ => ?_⟩⟩
        · rw [hcp] at k; exact k
        · rw [e64, cl _ (by omega), hfr.1 172 (by omega) (by omega), hfr.1 173 (by omega) (by omega), f1, f2, hk2, nI_1, em1]
          exact ⟨vp_in_nI (by omega) (by omega), fun _ => H, fun k => absurd k hn0⟩
      by_cases k19 : k = 19
      · subst k19
        have e2 : vm c f a d y s u (m + 1) σ = some (vpc c (vpc (pc + 1) σ)) := by
          rw [hvm]
          exact vm_end vgpc_vpc m
        rw [e2]
        exact ⟨M, K, fun L h z => head L h z _ _ ⟨fun q => absurd rfl q, fun _ => ⟨rfl, rfl⟩⟩, FrM_rfl, (resM_fin hr1).1⟩
      by_cases k16 : k = 16
      · subst k16
        obtain ⟨j, hj, hj2⟩ := o2 (Or.inl hk2)
        obtain ⟨M', K', z1, z2, z3⟩ := ih j (vpc j (vpc (pc + 1) σ)) M K (by omega) hj ((resM_pc hr1).2) hfr
        have e2 : vm c f a d y s u (m + 1) σ = vm c f a d y s u m (vpc j (vpc (pc + 1) σ)) := by
          rw [hvm, hj2]
          show vm c f a d y s u m (vpc (nI j).toNatClampNeg (vpc (pc + 1) σ)) = _
          rw [cl j (by omega)]
        rw [e2]
        exact ⟨M', K', fun L h z => head L h z _ _ ⟨fun _ => ⟨fun q => absurd rfl q, fun _ => by rw [hj2]; exact z1 L h z⟩, fun q => absurd q (by decide)⟩, z2, z3⟩
      by_cases k17 : k = 17
      · subst k17
        obtain ⟨j, hj, hj2⟩ := o2 (Or.inr hk2)
        obtain ⟨x, M1, K1, e1, e2, e3, e4⟩ := popMs hr1
        have ev : vm c f a d y s u (m + 1) σ = ((vpop (vpc (pc + 1) σ)).map (fun σ2 => if vtop (vpc (pc + 1) σ) = 0 then vpc j σ2 else σ2)).bind (vm c f a d y s u m) := by
          rw [hvm, hj2]
          show ((vpop (vpc (pc + 1) σ)).map (fun σ2 => if vtop (vpc (pc + 1) σ) = 0 then vpc (nI j).toNatClampNeg σ2 else σ2)).bind _ = _
          rw [cl j (by omega)]
        rw [ev]
        have h17 : ∀ (L h z : Nat) (o : eO) (σo : eS), (¬ x = 0 → Run 144 22 [(0, .ref 145), (1, .int (nI p)), (2, .int (nI e)), (3, .int (nI (pc + 1))), (4, .int (nI m))] [] (mS L M1 K1 h z) o σo) → (x = 0 → Run 144 22 [(0, .ref 145), (1, .int (nI p)), (2, .int (nI e)), (3, .int (nI j)), (4, .int (nI m))] [] (mS L M1 K1 h z) o σo) → Run 144 22 [(0, .ref 145), (1, .int (nI p)), (2, .int (nI e)), (3, .int (nI pc)), (4, .int (nI (m + 1)))] [] (mS L M K h z) o σo := fun L h z o σo G1 G2 =>
          head L h z o σo ⟨fun _ => ⟨fun _ => ⟨fun q => absurd rfl q, fun _ => ⟨x, M1, K1, e1 L h z, fun q => G1 (fun q2 => q (lcz.mpr q2)), fun q => by rw [hj2]; exact G2 (lcz.mp q)⟩⟩, fun q => absurd q (by decide)⟩, fun q => absurd q (by decide)⟩
        have wr : ∀ (j : Nat) (L h z : Nat), ¬ M1 145 50 = 0 → Run 144 22 [(0, .ref 145), (1, .int (nI p)), (2, .int (nI e)), (3, .int (nI j)), (4, .int (nI m))] [] (mS L M1 K1 h z) (.inl (some (.int 0))) (mS L M1 K1 h z) := fun j L h z hw => r144_22 ⟨fun _ => ⟨fun _ => ⟨rfl, rfl⟩, fun q => absurd q hw⟩, fun q => absurd q hw⟩
        cases hsv : vpop (vpc (pc + 1) σ) with
        | none =>
          rw [hsv] at e3
          exact ⟨M1, K1, fun L h z => h17 L h z _ _ (fun _ => wr _ L h z e3.1) (fun _ => wr _ L h z e3.1), e2, trivial⟩
        | some s' =>
          rw [hsv] at e3
          have ex := e4 s' hsv
          show ∃ (M' : rI) (K' : rJ), (∀ L h z, Run 144 22 _ [] (mS L M K h z) (.inl (some (.int (bb (vm c f a d y s u m (if vtop (vpc (pc + 1) σ) = 0 then vpc j s' else s')).isSome)))) (mS L M' K' h z)) ∧ FrM M K M' K' ∧ finM M' K' (vm c f a d y s u m (if vtop (vpc (pc + 1) σ) = 0 then vpc j s' else s'))
          rw [← ex]
          by_cases hx : x = 0
          · rw [if_pos hx]
            obtain ⟨M', K', z1, z2, z3⟩ := ih j (vpc j s') M1 K1 (by omega) hj ((resM_pc e3).2) (FrM_tr hfr e2)
            exact ⟨M', K', fun L h z => h17 L h z _ _ (fun q => absurd hx q) (fun _ => z1 L h z), FrM_tr e2 z2, z3⟩
          · rw [if_neg hx]
            obtain ⟨M', K', z1, z2, z3⟩ := ih (pc + 1) s' M1 K1 (by omega) (by omega) e3 (FrM_tr hfr e2)
            exact ⟨M', K', fun L h z => h17 L h z _ _ (fun _ => z1 L h z) (fun q => absurd q hx), FrM_tr e2 z2, z3⟩
      · obtain ⟨M1, K1, w1, w2, w3⟩ := doesM (c := c) (q := k) (e := e) (a := a pc) (d := d) (y := y) (s := s) (u := u) hk ⟨k16, k17, k19⟩ he (by rw [← hk2]; exact o1) hr1 (by rw [hfr.2.2 150 (by omega) (by omega) (by omega)]; exact hd) (by rw [hfr.1 149 (by omega) (by omega)]; exact hy) (by rw [hfr.1 146 (by omega) (by omega)]; exact hs) (by rw [hfr.1 147 (by omega) (by omega)]; exact hu)
        have n19 : ¬ nI k = 19 := fun q => k19 ((nI_eq (b := 19) (by omega) (by omega)).mp q)
        have n16 : ¬ nI k = 16 := fun q => k16 ((nI_eq (b := 16) (by omega) (by omega)).mp q)
        have n17 : ¬ nI k = 17 := fun q => k17 ((nI_eq (b := 17) (by omega) (by omega)).mp q)
        have hD : ∀ (L h z : Nat) (o : eO) (σo : eS), Run 144 22 [(0, .ref 145), (1, .int (nI p)), (2, .int (nI e)), (3, .int (nI (pc + 1))), (4, .int (nI m))] [] (mS L M1 K1 h z) o σo → Run 144 22 [(0, .ref 145), (1, .int (nI p)), (2, .int (nI e)), (3, .int (nI pc)), (4, .int (nI (m + 1)))] [] (mS L M K h z) o σo := fun L h z o σo G =>
          head L h z o σo ⟨fun _ => ⟨fun _ => ⟨fun _ => ⟨M1, K1, w1 L h z, G⟩, fun q => absurd q n17⟩, fun q => absurd q n16⟩, fun q => absurd q n19⟩
        rw [hvm]
        generalize vop c k (a pc) d y s u (vpc (pc + 1) σ) = r1 at w3
        cases r1 with
        | none => exact ⟨M1, K1, fun L h z => hD L h z _ _ (r144_22 ⟨fun _ => ⟨fun _ => ⟨rfl, rfl⟩, fun q => absurd q w3.1⟩, fun q => absurd q w3.1⟩), w2, trivial⟩
        | some σ1 =>
          obtain ⟨M', K', z1, z2, z3⟩ := ih (pc + 1) σ1 M1 K1 (by omega) (by omega) w3 (FrM_tr hfr w2)
          exact ⟨M', K', fun L h z => hD L h z _ _ (z1 L h z), FrM_tr w2 z2, z3⟩
    · exact E (m + 1) pc σ M K hm q hpc hr hfr
end
