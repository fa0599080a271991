/-! Stores that show the same cells stand for the same heap. -/
theorem arrV_eq {cA : ClassId} {n : Nat} {f g : Nat → Value} (h : ∀ j, j < n → f j = g j) : arrV cA n f = arrV cA n g := by
  unfold arrV
  have e1 : (Array.ofFn (n := n) fun j => f j.val) = Array.ofFn (n := n) fun j => g j.val := by
    congr 1
    funext j
    exact h j.val j.isLt
  rw [e1]
theorem eRep_ag {b base L : Nat} {xs : Nat → Int32} {cA : FieldType → ClassId} {D : va_G} {σ σ' : eS} {H : Heap} (hA : eAg σ σ') (hR : eRep b base L xs cA D σ H) : eRep b base L xs cA D σ' H := by
  obtain ⟨n1, n2, n3, n4, n5, n6⟩ := hA
  obtain ⟨r1, r2, r3, r4, r5, r6⟩ := hR
  refine ⟨fun k q hq => ?_, by rw [n1]; exact r2, fun a q1 q2 => by rw [(n6 a q1 (by rw [← n1]; exact q2)).1]; exact r3 a q1 (by rw [← n1]; exact q2), r4, by rw [n4]; exact r5, fun j => (n5 j).trans (r6 j)⟩
  have hk : k < sN σ - 1 := by
    have h1 := (List.getElem?_eq_some_iff.mp hq).1
    unfold eW at h1
    rw [List.length_map, List.length_range, n1] at h1
    exact h1
  have e1 : (eW b base cA σ')[k]? = some (base + k, eCell b base cA σ' (k + 1)) := by
    unfold eW
    rw [List.getElem?_map, List.getElem?_range (by rw [n1]; exact hk)]; rfl
  have e2 : (eW b base cA σ)[k]? = some (base + k, eCell b base cA σ (k + 1)) := by
    unfold eW
    rw [List.getElem?_map, List.getElem?_range hk]; rfl
  have h2 := r1 k _ e2
  rw [e1] at hq
  cases hq
  obtain ⟨m1, m2, m3⟩ := n6 (k + 1) (by omega) (by omega)
  unfold eCell at h2 ⊢
  rw [m1]
  cases hK : sK σ (k + 1) with
  | inl c =>
    rw [hK] at h2
    dsimp only at h2 ⊢
    have e3 : (List.range (eNF c)).map (fun i => eFl b base σ' (k + 1) c i) = (List.range (eNF c)).map (fun i => eFl b base σ (k + 1) c i) := by
      apply List.map_congr_left
      intro i hi
      obtain ⟨g1, g2⟩ := m2 c hK i (List.mem_range.mp hi)
      unfold eFl
      rw [g1, g2]
    rw [e3]
    exact h2
  | inr tn =>
    obtain ⟨ty, n⟩ := tn
    rw [hK] at h2
    dsimp only at h2 ⊢
    have m4 := m3 ty n hK
    unfold va_at at h2 ⊢
    dsimp only at h2 ⊢
    rw [h2]
    congr 1
    cases ty with
    | long => exact arrV_eq (f := fun j => .long (sL σ (k + 1) j)) (g := fun j => .long (sL σ' (k + 1) j)) (fun j hj => by rw [(m4 j hj).2.1])
    | object C => exact arrV_eq (f := fun j => va_rf (if sR σ (k + 1) j = 0 then none else some (eAd b base (sR σ (k + 1) j)))) (g := fun j => va_rf (if sR σ' (k + 1) j = 0 then none else some (eAd b base (sR σ' (k + 1) j)))) (fun j hj => by rw [(m4 j hj).2.2])
    | _ => exact arrV_eq (f := fun j => .int (sI σ (k + 1) j)) (g := fun j => .int (sI σ' (k + 1) j)) (fun j hj => by rw [(m4 j hj).1])
theorem eMP_ag {μ pc : Nat} {ls : eLs} {st : List Value} {σ σ' : eS} {o : eO} {σo : eS} (hA : eAg σ σ') (h : eMP μ pc ls st σ' o σo) : eMP μ pc ls st σ o σo := by
  have n1 := hA.1
  have n2 := hA.2.1
  have n3 := hA.2.2.1
  refine ⟨by rw [← n1, ← n2, ← n3]; exact h.1, ?_⟩
  intro l b base L xs cA D p e R s m args below meth c mc ms hl hf hS hr hmc hms H locs cells slots la hR hS2 hla hsz hc hz
  exact h.2 l b base L xs cA D p e R s m args below meth c mc ms hl hf hS hr hmc hms H locs cells slots la (eRep_ag hA hR) hS2 hla (by rw [n1, n2]; exact hsz) (by rw [n1, n2]; exact hc) (by rw [n3]; exact hz)
