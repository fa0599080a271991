/-! What a call comes back with; then: the machine is closed under rows of instructions. -/
theorem eLM_nest : ((eLM.all fun t => !t.2.2.2.1 || eKd t.2.2.1 == 2) = true) := by decide +kernel
theorem lkM_static {own i q : Nat} (h : lkM own i q = true) (hk : ¬ eKd q = 2) : Cond.methodLink (eCN own) i (eY q) ∈ gTb := by
  obtain ⟨t, ht, h1⟩ := List.any_eq_true.mp h
  have h2 := List.all_eq_true.mp eLM_ok t ht
  have h4 := List.all_eq_true.mp eLM_nest t ht
  simp only [Bool.and_eq_true, beq_iff_eq, decide_eq_true_eq, Bool.or_eq_true, Bool.not_eq_true'] at h1 h2 h4
  obtain ⟨⟨e1, e2⟩, e3⟩ := h1
  have h3 := eAt_mem h2.1
  unfold eMw at h3
  rw [e1, e2, e3] at h3
  rw [e3] at h4
  rcases h4 with h4 | h4
  · rw [h4] at h3
    exact List.mem_filter.mpr ⟨h3, rfl⟩
  · exact absurd h4 hk
section
variable {μ pc q n : Nat} {ls : eLs} {st : List Value} {σ σ1 : eS} {o : eO} {σo : eS}
theorem e_back {b base : Nat} (v : Option Value) (r : List Value) : (v.map (eVl b base)).toList ++ r.map (eVl b base) = (v.toList ++ r).map (eVl b base) := by cases v <;> rfl
theorem m_callR {v : Option Value} (hq : q < 174) (hdp : eDp q < eDp μ) (hraw : eRaw μ pc q n) (h1 : n ≤ st.length) (h0 : stw (st.take n).reverse ≤ eL q) (h2 : stw (st.drop n) ≤ 8)
    (h3 : recvOk q (st.take n).reverse σ)
    (hcal : eMP q 0 (lv_args 0 (st.take n).reverse) [] σ (.inl v) σ1) (hk : eMP μ (pc + 3) ls (v.toList ++ st.drop n) σ1 o σo) : eMP μ pc ls st σ o σo := by
  obtain ⟨⟨m1, m2, m3⟩, hgo⟩ := hk
  obtain ⟨c1, c2, c3⟩ := hcal.1
  refine ⟨⟨by omega, by omega, by omega⟩, ?_⟩
  intro l b base L xs cA D p e R s m args below meth c mc ms hl hf hs hr hmc hms H locs cells slots la hR hS hla hsz hc hz T hT X
  have hub := X.heapSize
  rw [hT] at hub
  have hN1 := hR.2.1
  have key : ∃ (st₀ t T' : State) (L9 : List Loc), st₀.heap = H ∧ Stand p l e R s m args below meth c T' (locs ++ L9) (cells + (sN σ1 + sH σ1 - (sN σ + sH σ))) (slots + (sZ σ1 - sZ σ)) ∧ (∀ q ∈ L9, eA base q.base) ∧ T'.heap = t.heap ∧ eRep b base L xs cA D σ1 t.heap ∧ va_F (eA base) st₀ t ∧
      Goes p e below T (F0 m pc la (st.map (eVl b base))) T' { F0 m pc la (st.map (eVl b base)) with pc := pc + 3, stack := (v.map (eVl b base)).toList ++ (st.drop n).map (eVl b base) } := by
    by_cases hk3 : eKd q = 3
    · obtain ⟨f1, f2, f3, f4, f5, f6, f7, f8, f9⟩ := eMf hq
      obtain ⟨hx, hb, hret, hml, hown, hts, hlk, hh3, hhn, hin⟩ := hf
      have hM := eMet3 hq hk3 hcal h0 hl (b := b) (base := base) (L := L) (xs := xs) (cA := cA) (D := D)
      obtain ⟨i, hlm, hraw⟩ := hraw
      have hd : decode (eB μ) pc = .ok (.invokestatic i, 3) ∧ n = eNP q := by
        rcases hraw with ⟨hd, hk0, hn⟩ | ⟨hd, hk1, hn⟩ | ⟨hd, hk2, hn⟩
        · omega
        · exact ⟨hd, hn⟩
        · omega
      have hlm2 : Cond.methodLink (eCN (eC μ)) i (eY q) ∈ gTb := lkM_static hlm (by omega)
      have hcw : eCw q = Cond.codeWith (eY q) (eB q) (eL q) (eRt q) (eHL q) := by unfold eCw; rw [if_pos hk3]
      have h21 : eL q ≤ 21 := of_decide_eq_true (List.all_eq_true.mp eLn q (List.mem_range.mpr (by omega)))
      have r1 := hr.1
      have r2 := hr.2
      have hW := eRoom (b := b) (base := base) h2
      have hlenA : (st.take n).reverse.length = n := by rw [List.length_reverse, List.length_take]; omega
      have hst2 : (F0 m pc la (st.map (eVl b base))).stack = ((st.take n).reverse.map (eVl b base)).reverse ++ (st.drop n).map (eVl b base) := by
        show st.map (eVl b base) = _
        rw [← List.map_reverse, List.reverse_reverse, ← List.map_append, List.take_append_drop]
      obtain ⟨v9, st₀, t, T', L9, e0, X', hL, e1, e2, ⟨hv, hR1, hF⟩, hgoes⟩ := vx_runSW (As := (st.take n).reverse.map (eVl b base)) (hh := eHL q) (bytes := eB q) (maxL := eL q) (ret := eRt q) ⟨hx, hb, hml, hown, hts⟩ hM
        ⟨⟨rfl, rfl, by show eDp q + 1 ≤ _; omega, by show 8 + (eL q + 11) + (40 * eDp q + 100) ≤ _; omega, pay_in hts (eWs_good hq), by rw [← hcw]; exact List.mem_cons_self⟩, by rw [← hcw]; exact hts _ f1, hts _ f2, f5, fun sig h => by rw [h] at f6; exact hd.2.trans (Option.some.inj f6).symm, hts _ hlm2, hts _ (f9 (by omega) (by omega))⟩
        ⟨ePc_blind, fun U hU hWU => ⟨rfl, by rw [hU]; exact hR, hs.on hWU hU hS, by rw [hU]; omega⟩⟩ rfl (by rw [List.length_map, hlenA]) hla.1 hst2 (lv_room hW) hd.1 ⟨by omega, by omega⟩ T hT X
      have hv' : v9 = v.map (eVl b base) := by injection hv
      rw [hv'] at hgoes
      exact ⟨st₀, t, T', L9, e0, X', hL, e1, hR1, hF, hgoes⟩
    · rcases eRun hq hk3 hdp hraw h1 h0 h2 h3 hcal hl hf hs hr hR hS hla (by omega) (by omega) (by omega) T hT X with ⟨v9, st₀, t, T', L9, e0, X', hL, e1, e2, ⟨hv, hR1, hF⟩, hgoes⟩ | ⟨q9, st₀, t, T', L9, E, ce, e0, X', hL, e1, e2, hXC, -⟩
      · have hv' : v9 = v.map (eVl b base) := by injection hv
        rw [hv'] at hgoes
        exact ⟨st₀, t, T', L9, e0, X', hL, e1, hR1, hF, hgoes⟩
      · exact hXC.elim
  obtain ⟨st₀, t, T', L9, e0, X', hL, e1, hR1, hF, hgoes⟩ := key
  obtain ⟨k1, k2, k3⟩ := vx_keep (A1 := eA base) e0 e1 hS (fun _ _ h => h) (fun _ h => h) hL hF
  obtain ⟨t2, a1, b1⟩ := hgo l b base L xs cA D p e R s m args below meth c mc ms hl hf hs hr hmc hms T'.heap (locs ++ L9) _ _ la (by rw [e1]; exact hR1) k3 hla (by omega) (by omega) (by omega) T' rfl X'
  rw [← e_back] at a1
  exact ⟨t2, hgoes t2 a1, b1⟩
end
