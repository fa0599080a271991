/-! Int32 as Int, for omega. -/
theorem ti_lo (x : Int32) : -2147483648 ≤ x.toInt := Int32.le_toInt x
theorem ti_hi (x : Int32) : x.toInt < 2147483648 := Int32.toInt_lt x
theorem bm (x : Int) : Int.bmod x 4294967296 = if x % 4294967296 < 2147483648 then x % 4294967296 else x % 4294967296 - 4294967296 := rfl
theorem ti_add (x y : Int32) : (x + y).toInt = if (x.toInt + y.toInt) % 4294967296 < 2147483648 then (x.toInt + y.toInt) % 4294967296 else (x.toInt + y.toInt) % 4294967296 - 4294967296 := Int32.toInt_add x y
theorem ti_sub (x y : Int32) : (x - y).toInt = if (x.toInt - y.toInt) % 4294967296 < 2147483648 then (x.toInt - y.toInt) % 4294967296 else (x.toInt - y.toInt) % 4294967296 - 4294967296 := Int32.toInt_sub x y
theorem ti_mul (x y : Int32) : (x * y).toInt = if (x.toInt * y.toInt) % 4294967296 < 2147483648 then (x.toInt * y.toInt) % 4294967296 else (x.toInt * y.toInt) % 4294967296 - 4294967296 := Int32.toInt_mul x y
theorem ti_nI (k : Nat) : (nI k).toInt = if (k : Int) % 4294967296 < 2147483648 then (k : Int) % 4294967296 else (k : Int) % 4294967296 - 4294967296 := Int32.toInt_ofNat
theorem ti_eq {x y : Int32} : x = y ↔ x.toInt = y.toInt := Int32.toInt_inj.symm
theorem ti_lt {x y : Int32} : x < y ↔ x.toInt < y.toInt := Int32.lt_iff_toInt_lt
theorem ti_le {x y : Int32} : x ≤ y ↔ x.toInt ≤ y.toInt := Int32.le_iff_toInt_le
theorem tl_0 : (0 : Int32).toInt = 0 := rfl
theorem tl_m1 : (-1 : Int32).toInt = -1 := rfl
theorem tl_m2 : (-2 : Int32).toInt = -2 := rfl
theorem ti_bb (p : Prop) [Decidable p] (x y : Int32) : (if p then x else y).toInt = if p then x.toInt else y.toInt := by split <;> rfl
theorem t_a1 (a b : Nat) (ha : a < 2500) (hb : b < 2500) : nI a + 1 < nI b + 1 ↔ a < b := by
  simp only [ti_lt, ti_add, ti_nI, Int32.reduceToInt]
  omega
theorem t_a2 (x : Int32) (h : ¬ x < 0) (h2 : x < 16) : ∃ k, k < 16 ∧ x = nI k := by
  refine ⟨x.toInt.toNat, ?_⟩
  simp only [ti_lt, ti_eq, ti_nI, Int32.reduceToInt] at *
  have := ti_lo x
  omega
theorem t_a3 (v m f : Int32) (hv : -1 ≤ v) (hm : 0 ≤ m) (hn : ¬ m = 0) (hv2 : v < 2500) : v - m + 1 ≤ v + 1 := by
  simp only [ti_lt, ti_le, ti_eq, ti_add, ti_sub, ti_nI, Int32.reduceToInt] at *
  have := ti_lo m
  have := ti_hi m
  omega
