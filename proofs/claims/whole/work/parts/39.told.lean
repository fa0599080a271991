/-! told. -/
theorem nI_div {w : Nat} (hw : w < 2147483648) : nI w / 100 = nI (w / 100) := by
  rw [ti_eq]
  rw [Int32.toInt_div, nI_toInt hw, nI_toInt (by omega)]
  rw [show (100 : Int32).toInt = 100 from rfl, Int.tdiv_eq_ediv_of_nonneg (by omega)]
  show Int.bmod _ 4294967296 = _
  rw [bm]; omega
theorem nI_rem {w : Nat} (hw : w < 2147483648) : nI w - nI w / 100 * 100 = nI (w % 100) := by
  rw [nI_div hw, show (100 : Int32) = nI 100 from rfl, nI_mul, nI_sub (by omega) (by omega)]
  congr 1; omega
/-- a number below 0, by 100 -/
theorem neg_div {x : Int32} (hx : x < 0) (h : 0 ≤ x - x / 100 * 100) : x / 100 < 0 := by
  have e : (x / 100).toInt = -((-x.toInt) / 100) := by
    rw [Int32.toInt_div, show (100 : Int32).toInt = 100 from rfl]
    have h1 : x.toInt.tdiv 100 = -((-x.toInt) / 100) := by
      rw [← Int.tdiv_eq_ediv_of_nonneg (a := -x.toInt) (by simp only [ti_lt, Int32.reduceToInt] at hx; omega), Int.neg_tdiv, Int.neg_neg]
    rw [h1]
    have := ti_lo x
    simp only [ti_lt, Int32.reduceToInt] at hx
    show Int.bmod _ 4294967296 = _
    rw [bm]; omega
  have := ti_lo x
  simp only [ti_lt, ti_le, ti_sub, ti_mul, Int32.reduceToInt, e] at *
  omega
abbrev inb (x a b : Int32) : Bool := !decide (x < a) && !decide (b < x)
def knb (x : Int32) : Bool := inb x 0 7 || (inb x 100 139 || (inb x 200 239 || (inb x 300 307 || (inb x 400 407 || (inb x 500 507 || (inb x 600 607 || inb x 700 707))))))
theorem inb_nI {w a b : Nat} (hw : w < 2147483648) (ha : a < 2147483648) (hb : b < 2147483648) : inb (nI w) (nI a) (nI b) = (decide (a ≤ w) && decide (w ≤ b)) := by
  unfold inb
  have h1 : nI w < nI a ↔ ¬ a ≤ w := by rw [nI_ltI hw ha]; omega
  have h2 : nI b < nI w ↔ ¬ w ≤ b := by rw [nI_ltI hb hw]; omega
  simp only [h1, h2, decide_not, Bool.not_not]
theorem inb_neg {x : Int32} {a b : Nat} (hx : x < 0) (ha : a < 2147483648) : inb x (nI a) (nI b) = false := by
  unfold inb
  have : x < nI a := by simp only [ti_lt, ti_nI, Int32.reduceToInt] at *; omega
  simp [this]
theorem knb_neg {x : Int32} (hx : x < 0) : knb x = false := by
  have h := fun a b (ha : a < 2147483648) => inb_neg (x := x) (a := a) (b := b) hx ha
  unfold knb
  rw [show inb x 0 7 = false from h 0 7 (by omega), show inb x 100 139 = false from h 100 139 (by omega), show inb x 200 239 = false from h 200 239 (by omega), show inb x 300 307 = false from h 300 307 (by omega), show inb x 400 407 = false from h 400 407 (by omega), show inb x 500 507 = false from h 500 507 (by omega), show inb x 600 607 = false from h 600 607 (by omega), show inb x 700 707 = false from h 700 707 (by omega)]
  rfl
theorem knb_nI {w : Nat} (hw : w < 2147483648) : knb (nI w) = (decide (w / 100 < 8) && decide (w % 100 ≤ if w / 100 = 0 then 7 else if w / 100 ≤ 2 then 39 else 7)) := by
  have h := fun a b (ha : a < 2147483648) (hb : b < 2147483648) => inb_nI (w := w) (a := a) (b := b) hw ha hb
  unfold knb
  rw [show inb (nI w) 0 7 = _ from h 0 7 (by omega) (by omega), show inb (nI w) 100 139 = _ from h 100 139 (by omega) (by omega), show inb (nI w) 200 239 = _ from h 200 239 (by omega) (by omega), show inb (nI w) 300 307 = _ from h 300 307 (by omega) (by omega), show inb (nI w) 400 407 = _ from h 400 407 (by omega) (by omega), show inb (nI w) 500 507 = _ from h 500 507 (by omega) (by omega), show inb (nI w) 600 607 = _ from h 600 607 (by omega) (by omega), show inb (nI w) 700 707 = _ from h 700 707 (by omega) (by omega)]
  rw [Bool.eq_iff_iff]
  simp only [Bool.or_eq_true, Bool.and_eq_true, decide_eq_true_eq]
  split
  · omega
  · split <;> omega
theorem rg_w {w N : Nat} (hw : w < 2147483648) (hN : N < 2147483648) : rg (nI w) N = decide (w < N) := by
  unfold rg
  rw [decide_eq_false (nI_pos hw)]
  have : nI N ≤ nI w ↔ ¬ w < N := by rw [nI_leI hN hw]; omega
  simp only [this, decide_not, Bool.not_false, Bool.true_and, Bool.not_not]
section
variable {L h z n t : Nat} {st tm fv : Nat → Nat} {I I' M M' : rI} {J K J' K' : rJ}
/-- isQuestion -/
theorem s96 {x : Int32} : dP 96 [.int x] L h z I J (bb (knb x)) := by
  have sb : ∀ (y : Int32), ∀ q ∈ [(1, Value.int y)], q ∈ [(1, Value.int y), (0, .int x)] := by
    intro y q hq
    simp at hq
    simp [hq]
  have r87 : ∀ (y : Int32), knb x = false → Run 96 87 [(1, Value.int y), (0, .int x)] [] (mS L I J h z) (.inl (some (.int (bb (knb x))))) (mS L I J h z) := by
    intro y hk
    rw [hk]
    exact Run.sub [] (fun q hq => by cases hq) (r96_87 ⟨rfl, rfl⟩)
  by_cases hx : x < 0
  · have hk := knb_neg hx
    refine r96_0 ⟨fun c => ⟨72, ?_, by omega, r87 _ hk⟩, fun c => by rw [hk]; exact ⟨rfl, rfl⟩⟩
    unfold swT
    refine if_pos (Or.inl ?_)
    have := neg_div hx c
    simpa only [ti_lt, Int32.reduceToInt] using this
  · obtain ⟨w, hw, rfl⟩ := nI_of hx
    have hk := knb_nI hw
    have k0 : w / 100 = 0 → knb (nI w) = decide (w % 100 ≤ 7) := fun q => by
      rw [hk, if_pos q, q]; rfl
    have k1 : (w / 100 = 1 ∨ w / 100 = 2) → knb (nI w) = rg (nI (w % 100)) 40 := fun q => by
      rw [hk, rg_w (by omega) (by omega), if_neg (by omega), if_pos (by omega), Bool.eq_iff_iff]
      simp only [Bool.and_eq_true, decide_eq_true_eq]; omega
    have k2 : 3 ≤ w / 100 → w / 100 ≤ 7 → knb (nI w) = rg (nI (w % 100)) 8 := fun q q2 => by
      rw [hk, rg_w (by omega) (by omega), if_neg (by omega), if_neg (by omega), Bool.eq_iff_iff]
      simp only [Bool.and_eq_true, decide_eq_true_eq]; omega
    refine r96_0 ⟨fun _ => ?_, fun c => absurd (nI_pos' (show w % 100 < 2 ^ 31 by omega)) (by rw [nI_rem hw] at c; exact c)⟩
    rw [nI_rem hw, nI_div hw]
    by_cases h8 : w / 100 < 8
    · have : w / 100 = 0 ∨ w / 100 = 1 ∨ w / 100 = 2 ∨ w / 100 = 3 ∨ w / 100 = 4 ∨ w / 100 = 5 ∨ w / 100 = 6 ∨ w / 100 = 7 := by omega
      rcases this with q | q | q | q | q | q | q | q
      · rw [q]
        refine ⟨45, by decide, by omega, Run.sub _ (sb _) (r96_60 ?_)⟩
        rw [k0 q, show (7 : Int32) = nI 7 from rfl, nI_ltI (by omega) (by omega)]
        refine ⟨fun c => ?_, fun c => ?_⟩
        · simp [show ¬ w % 100 ≤ 7 by omega]
        · simp [show w % 100 ≤ 7 by omega]
      · rw [q]; exact ⟨57, by decide, by omega, Run.sub _ (sb _) (r96_72 ⟨_, s92, b_nar, by rw [k1 (by omega)], rfl⟩)⟩
      · rw [q]; exact ⟨57, by decide, by omega, Run.sub _ (sb _) (r96_72 ⟨_, s92, b_nar, by rw [k1 (by omega)], rfl⟩)⟩
      · rw [q]; exact ⟨62, by decide, by omega, Run.sub _ (sb _) (r96_77 ⟨_, s94, b_nar, by rw [k2 (by omega) (by omega)], rfl⟩)⟩
      · rw [q]; exact ⟨62, by decide, by omega, Run.sub _ (sb _) (r96_77 ⟨_, s94, b_nar, by rw [k2 (by omega) (by omega)], rfl⟩)⟩
      · rw [q]; exact ⟨62, by decide, by omega, Run.sub _ (sb _) (r96_77 ⟨_, s94, b_nar, by rw [k2 (by omega) (by omega)], rfl⟩)⟩
      · rw [q]; exact ⟨67, by decide, by omega, Run.sub _ (sb _) (r96_82 ⟨_, s95, b_nar, by rw [k2 (by omega) (by omega)], rfl⟩)⟩
      · rw [q]; exact ⟨67, by decide, by omega, Run.sub _ (sb _) (r96_82 ⟨_, s95, b_nar, by rw [k2 (by omega) (by omega)], rfl⟩)⟩
    · refine ⟨72, swT_out (k := 7) (by omega) (rg_f (by omega) ?_), by omega, r87 _ ?_⟩
      · rintro ⟨s, hs, e⟩
        have := nI_inj (by omega) (by omega) e
        omega
      · rw [hk, decide_eq_false h8]; rfl
theorem s152k {x : Int32} {o : eO} {σo : eS} (H : Run 152 110 [(0, .ref 145), (1, .int x), (2, .int (x - x / 100 * 100))] [.int (bb (knb x))] (mS L I J h z) o σo) : Run 152 0 [(0, .ref 145), (1, .int x)] [] (mS L I J h z) o σo := by
  have T : knb x = true → Run 152 110 [(0, .ref 145), (1, .int x), (2, .int (x - x / 100 * 100))] [.int 1] (mS L I J h z) o σo := fun hk => by rw [hk] at H; exact H
  refine r152_0 ⟨_, s115, fun c => T ?_, fun c => ⟨_, s115, fun c2 => T ?_, fun c2 => ⟨_, s115, fun c3 => T ?_, fun c3 => ⟨_, s115, fun c4 => T ?_, fun c4 => ⟨_, s115, fun c5 => T ?_, fun c5 => ⟨_, s115, fun c6 => T ?_, fun c6 => ⟨_, s115, fun c7 => T ?_, fun c7 => ⟨_, s115, fun c8 => ?_, fun c8 => T ?_⟩⟩⟩⟩⟩⟩⟩⟩
  · simp only [knb, inb, b_ne.mp c, Bool.true_or]
  · simp only [knb, inb, b_ne.mp c2, Bool.true_or, Bool.or_true]
  · simp only [knb, inb, b_ne.mp c3, Bool.true_or, Bool.or_true]
  · simp only [knb, inb, b_ne.mp c4, Bool.true_or, Bool.or_true]
  · simp only [knb, inb, b_ne.mp c5, Bool.true_or, Bool.or_true]
  · simp only [knb, inb, b_ne.mp c6, Bool.true_or, Bool.or_true]
  · simp only [knb, inb, b_ne.mp c7, Bool.true_or, Bool.or_true]
  · have hk : knb x = false := by simp only [knb, inb, b_eq.mp c, b_eq.mp c2, b_eq.mp c3, b_eq.mp c4, b_eq.mp c5, b_eq.mp c6, b_eq.mp c7, b_eq.mp c8, Bool.or_false]
    rw [hk] at H
    exact H
  · simp only [knb, inb, b_ne.mp c8, Bool.or_true]
end
