section
variable {μ pc q n : Nat} {ls : eLs} {st : List Value} {σ σ1 : eS} {o : eO} {σo : eS}
theorem eTh_le {e9 : Nat} (h : eTh eMP μ o σo e9 pc ls σ1) : sN σ1 ≤ sN σo ∧ sH σ1 ≤ sH σo ∧ sZ σ1 ≤ sZ σo := by
  rcases h with ⟨-, -, -, rfl⟩ | ⟨-, j, hh, k, len, -, h⟩
  · exact ⟨Nat.le_refl _, Nat.le_refl _, Nat.le_refl _⟩
  · exact h.1
/-- thrown over this frame: caught by its table, or handed on -/
theorem e_thrown {e9 : Nat} (h : eTh eMP μ o σo e9 pc ls σ1) {l : Launch} (hl : l.stackTraces = false) {b base L : Nat} {xs : Nat → Int32} {cA : FieldType → ClassId} {D : va_G} {p : Program} {e : Env} {R : Room} {s : State} {m : MethodId} {args : Array Value} {below : List Frame} {meth : Method} {c : Code} {mc ms : Nat}
    (hf : eFr μ p s m args meth c) (hs : eSt b base L xs cA D s) (hr : eRm μ R) (hmc : mc ≤ R.cells) (hms : ms ≤ R.slots) {H : Heap} {locs : List Loc} {cells slots : Nat} {la : Array Slot} {rest : List Value} {q9 : Addr} {ce : Cell} (h4 : e9 < 4) (hR : eRep b base L xs cA D σ1 H) (hS : va_S (eA base) s.heap H locs) (hla : lv_has la (eL μ) (eLm b base ls))
    (hsz : s.heap.size + cells ≤ base + (sN σ1 - 1) + sH σ1) (hc : cells + (sN σo + sH σo - (sN σ1 + sH σ1)) ≤ mc) (hz : slots + (sZ σo - sZ σ1) ≤ ms) (hce : H[q9]? = some ce) (hcv : ce.vm = .none) (hcl : s.vm.findClass (eEN e9) = some ce.cls) :
    vx_W p l e R s m args below meth c H locs cells slots (vx_MQ below (eQc b base L xs cA D o σo) (eXC b base L xs cA D o σo) args s mc ms (eA base)) (F0 m pc la rest) q9 := by
  have hf' := hf
  obtain ⟨hx, hb, hret, hml, hown, hts, hlk, hh3, hhn, hin⟩ := hf
  rcases h with ⟨k3, k4, rfl, rfl⟩ | ⟨k3, j, hh, k, len, hok, hgo⟩
  · exact vx_out (fun x hx => ((hhn k3 k4) x hx).elim) hlk hce hcv hcl (fun t ht _ => ⟨h4, rfl, by rw [ht]; exact hR, hS.F ht⟩) hS.2.2 (by omega) (by omega)
  · unfold hOk at hok
    simp only [Bool.and_eq_true, decide_eq_true_eq, beq_iff_eq] at hok
    obtain ⟨⟨⟨⟨g1, g2⟩, g3⟩, g4⟩, g5⟩ := hok
    cases hx9 : (eHL μ)[j]? with
    | none => rw [hx9] at g1; cases g1
    | some x9 =>
      rw [hx9] at g1
      simp only [Bool.and_eq_true, decide_eq_true_eq, beq_iff_eq, Bool.not_eq_true', beq_eq_false_iff_ne, ne_eq] at g1
      obtain ⟨⟨⟨⟨⟨a1, a2⟩, a3⟩, a4⟩, a5⟩, a6⟩ := g1
      have hle := lkE_spec a4
      rw [← g5] at hle
      have hsplit : c.exceptionTable.toList = tableOf ((eHL μ).take j) ++ (⟨x9.1, x9.2.1, x9.2.2.1, x9.2.2.2⟩ : ExceptionTableEntry) :: tableOf ((eHL μ).drop (j + 1)) := by
        rw [hh3 k3]
        have e1 : eHL μ = (eHL μ).take j ++ x9 :: (eHL μ).drop (j + 1) := by
          obtain ⟨hj, hj2⟩ := List.getElem?_eq_some_iff.mp hx9
          rw [← hj2, List.getElem_cons_drop, List.take_append_drop]
        conv => lhs; rw [e1]
        unfold tableOf
        rw [List.map_append, List.map_cons]
      refine vx_catch (own := eCN (eC μ)) (name := eEN e9) (E := eEN e9) (ce := ce) hown _ _ _ hsplit (fun z hz => Or.inr ?_) ?_ a5 (hts _ hle) (va_Nw.use rfl (hs.2.2.2.2.2.2.1 _ (eCs h4) rfl)) hce hcv hcl ?_
      · unfold tableOf at hz
        obtain ⟨y, hy, rfl⟩ := List.mem_map.mp hz
        have h9 := List.all_eq_true.mp a6 y hy
        simp only [Bool.and_eq_true, Bool.not_eq_true', beq_eq_false_iff_ne, ne_eq] at h9
        obtain ⟨b1, b2⟩ := h9
        obtain ⟨e', he', b3⟩ := List.any_eq_true.mp b2
        simp only [Bool.and_eq_true, Bool.not_eq_true', beq_eq_false_iff_ne, ne_eq] at b3
        have hle2 := lkE_spec b3.2
        rw [← g5] at hle2
        exact ⟨b1, eEN e', hts _ hle2, hs.2.2.2.2.2.2.2.2.2 e9 e' h4 (List.mem_range.mp he') (fun z => b3.1 z.symm)⟩
      · show (decide (x9.1 ≤ pc) && decide (pc < x9.2.1)) = true
        simp [a1, a2]
      · show W p l e R s m args below meth c H locs cells slots _ (F0 m x9.2.2.1 la [.ref q9])
        rw [a3]
        have kk : ∀ (la' : Array Slot), lv_has la' (eL μ) ((k, .ref q9) :: (eLm b base ls).filter (fun q => !(q.1 == k) && !(q.1 + 1 == k && q.2.category == 2))) → W p l e R s m args below meth c H locs cells slots (vx_MQ below (eQc b base L xs cA D o σo) (eXC b base L xs cA D o σo) args s mc ms (eA base)) (F0 m (hh + len) la' []) := by
          intro la' hla'
          refine hgo.2 l b base L xs cA D p e R s m args below meth c mc ms hl hf' hs hr hmc hms H locs cells slots la' hR hS ?_ hsz hc hz
          rw [eLm_fl1] at hla'
          exact ⟨hla'.1, hla'.2.1, fun q hq => hla'.2.2 q (List.mem_cons_of_mem _ hq)⟩
        split at g2
        · rename_i i hdi
          simp only [Bool.and_eq_true, beq_iff_eq] at g2
          obtain ⟨g2, g6⟩ := g2
          subst g6
          exact lv_astore_n hx hb hdi g2 hla g3 rfl kk
        · rename_i i hdi
          simp only [Bool.and_eq_true, beq_iff_eq] at g2
          obtain ⟨g2, g6⟩ := g2
          subst g6
          subst g2
          exact lv_astore hx hb hdi hla g3 rfl kk
        · cases g2
theorem m_callX {e9 : Nat} (hq : q < 174) (hk3 : ¬ eKd q = 3) (hdp : eDp q < eDp μ) (hraw : eRaw μ pc q n) (h1 : n ≤ st.length) (h0 : stw (st.take n).reverse ≤ eL q) (h2 : stw (st.drop n) ≤ 8)
    (h3 : recvOk q (st.take n).reverse σ)
    (hcal : eMP q 0 (lv_args 0 (st.take n).reverse) [] σ (.inr e9) σ1) (hk : eTh eMP μ o σo e9 pc ls σ1) : eMP μ pc ls st σ o σo := by
  obtain ⟨m1, m2, m3⟩ := eTh_le hk
  obtain ⟨c1, c2, c3⟩ := hcal.1
  refine ⟨⟨by omega, by omega, by omega⟩, ?_⟩
  intro l b base L xs cA D p e R s m args below meth c mc ms hl hf hs hr hmc hms H locs cells slots la hR hS hla hsz hc hz T hT X
  have hub := X.heapSize
  rw [hT] at hub
  have hN1 := hR.2.1
  rcases eRun hq hk3 hdp hraw h1 h0 h2 h3 hcal hl hf hs hr hR hS hla (by omega) (by omega) (by omega) T hT X with ⟨v9, st₀, t, T', L9, e0, X', hL, e1, e2, ⟨⟩, -⟩ | ⟨q9, st₀, t, T', L9, E, ce, e0, X', hL, e1, e2, ⟨h4, hE, hR1, hF⟩, hce, hcv, hcl, hst⟩
  subst hE
  obtain ⟨k1, k2, k3⟩ := vx_keep (A1 := eA base) e0 e1 hS (fun _ _ h => h) (fun _ h => h) hL hF
  obtain ⟨t2, a1, b1⟩ := e_thrown hk hl (rest := (st.drop n).map (eVl b base)) hf hs hr hmc hms h4 (by rw [e1]; exact hR1) k3 hla (by omega) (by omega) (by omega) (by rw [e1]; exact hce) hcv hcl T' rfl X'
  exact ⟨t2, hst.trans a1, b1⟩
end
