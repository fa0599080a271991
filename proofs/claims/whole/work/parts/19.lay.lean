/-! The canonical store: which cell is what, once the law has made its two objects and the row of one long. -/
def kTab0 : List (Nat ⊕ (FieldType × Nat)) := [.inl 8, .inl 0, .inl 1, .inr (.int, 8), .inr (.int, 8), .inr (.long, 8), .inl 5, .inr (.int, 64), .inr (.int, 64), .inl 2, .inr (.int, 2500), .inr (.int, 2500), .inr (.int, 2500), .inr (.int, 2500), .inr (.long, 2500), .inr (.int, 2500), .inr (.object "EventVault$Stream", 40), .inl 7, .inl 7, .inl 7, .inl 7, .inl 7, .inl 7, .inl 7, .inl 7, .inl 7, .inl 7, .inl 7, .inl 7, .inl 7, .inl 7, .inl 7, .inl 7, .inl 7, .inl 7, .inl 7, .inl 7, .inl 7, .inl 7, .inl 7, .inl 7, .inl 7, .inl 7, .inl 7, .inl 7, .inl 7, .inl 7, .inl 7]
def kTab1 : List (Nat ⊕ (FieldType × Nat)) := [.inl 7, .inl 7, .inl 7, .inl 7, .inl 7, .inl 7, .inl 7, .inl 7, .inl 7, .inl 4, .inr (.long, 16), .inr (.long, 4), .inr (.int, 4), .inr (.long, 4), .inr (.object "EventVault$Group", 8), .inr (.object "EventVault$Projection", 8), .inl 3, .inr (.int, 2500), .inr (.int, 2500), .inr (.int, 16), .inr (.int, 16), .inl 3, .inr (.int, 2500), .inr (.int, 2500), .inr (.int, 16), .inr (.int, 16), .inl 3, .inr (.int, 2500), .inr (.int, 2500), .inr (.int, 16), .inr (.int, 16), .inl 3, .inr (.int, 2500), .inr (.int, 2500), .inr (.int, 16), .inr (.int, 16), .inl 3, .inr (.int, 2500), .inr (.int, 2500), .inr (.int, 16), .inr (.int, 16), .inl 3, .inr (.int, 2500), .inr (.int, 2500), .inr (.int, 16), .inr (.int, 16), .inl 3, .inr (.int, 2500)]
def kTab2 : List (Nat ⊕ (FieldType × Nat)) := [.inr (.int, 2500), .inr (.int, 16), .inr (.int, 16), .inl 3, .inr (.int, 2500), .inr (.int, 2500), .inr (.int, 16), .inr (.int, 16), .inl 6, .inl 5, .inr (.int, 64), .inr (.int, 64), .inr (.long, 128), .inl 6, .inl 5, .inr (.int, 64), .inr (.int, 64), .inr (.long, 128), .inl 6, .inl 5, .inr (.int, 64), .inr (.int, 64), .inr (.long, 128), .inl 6, .inl 5, .inr (.int, 64), .inr (.int, 64), .inr (.long, 128), .inl 6, .inl 5, .inr (.int, 64), .inr (.int, 64), .inr (.long, 128), .inl 6, .inl 5, .inr (.int, 64), .inr (.int, 64), .inr (.long, 128), .inl 6, .inl 5, .inr (.int, 64), .inr (.int, 64), .inr (.long, 128), .inl 6, .inl 5, .inr (.int, 64), .inr (.int, 64), .inr (.long, 128)]
def kTab3 : List (Nat ⊕ (FieldType × Nat)) := [.inl 9, .inr (.int, 2500), .inr (.int, 2500), .inr (.int, 2500), .inr (.int, 2500), .inr (.long, 2500), .inr (.int, 2500), .inr (.boolean, 2500), .inr (.int, 40), .inr (.int, 40), .inr (.int, 40), .inr (.int, 40), .inr (.boolean, 40), .inr (.int, 8), .inr (.int, 8), .inr (.long, 8), .inr (.boolean, 8), .inr (.int, 8), .inr (.int, 8), .inr (.int, 8), .inr (.byte, 20000), .inr (.int, 20000), .inr (.int, 20000), .inr (.int, 64), .inr (.int, 64), .inr (.boolean, 8), .inr (.int, 8), .inr (.int, 512), .inr (.int, 512), .inr (.int, 8), .inr (.int, 8), .inr (.boolean, 8), .inr (.int, 8), .inr (.boolean, 8), .inr (.long, 1024), .inr (.long, 16), .inr (.long, 4), .inr (.int, 4), .inr (.long, 4), .inr (.long, 1)]
def kTab : List (Nat ⊕ (FieldType × Nat)) := kTab0 ++ (kTab1 ++ (kTab2 ++ (kTab3)))
def K0 (L : Nat) (a : Nat) : Nat ⊕ (FieldType × Nat) := match a with | 0 => .inr (.int, L) | j + 1 => (kTab[j]?).getD (.inr (.int, 0))
def rTab : List (List Nat) := [[], [2, 3, 7, 10, 58, 63, 64], [], [4, 5, 6], [], [], [], [8, 9], [], [], [11, 12, 13, 14, 15, 16, 17], [], [], [], [], [], [], [], [], [], [], [], [], [], [], [], [], [], [], [], [], [], [], [], [], [], [], [], [], [], [], [], [], [], [], [], [], [], [], [], [], [], [], [], [], [], [], [], [59, 60, 61, 62], [], [], [], [], [], [], [66, 67, 68, 69], [], [], [], [], [71, 72, 73, 74], [], [], [], [], [76, 77, 78, 79], [], [], [], [], [81, 82, 83, 84], [], [], [], [], [86, 87, 88, 89], [], [], [], [], [91, 92, 93, 94], [], [], [], [], [96, 97, 98, 99], [], [], [], [], [101, 102, 103, 104], [], [], [], [], [106, 109], [107, 108], [], [], [], [111, 114], [112, 113], [], [], [], [116, 119], [117, 118], [], [], [], [121, 124], [122, 123], [], [], [], [126, 129], [127, 128], [], [], [], [131, 134], [132, 133], [], [], [], [136, 139], [137, 138], [], [], [], [141, 144], [142, 143], [], [], [], [0, 0, 0, 0, 0, 0, 146, 147, 148, 149, 150, 151, 152, 0, 153, 154, 155, 156, 157, 158, 159, 160, 0, 161, 162, 163, 164, 165, 166, 167, 168, 169, 0, 170, 171, 172, 173, 174, 175, 176, 177, 178, 179, 0, 180, 0, 181, 182, 183], [], [], [], [], [], [], [], [], [], [], [], [], [], [], [], [], [], [], [], [], [], [], [], [], [], [], [], [], [], [], [], [], [], [], [], [], [], [], []]
def R0 (a i : Nat) : Nat := if a = 17 then (if i < 40 then 18 + i else 0) else if a = 63 then (if i < 8 then 65 + 5 * i else 0) else if a = 64 then (if i < 8 then 105 + 5 * i else 0) else (((rTab[a]?).getD [])[i]?).getD 0
def I0 (xs : Nat → Int32) (a i : Nat) : Int32 := if a = 0 then xs i else if a = 2 then (if i = 0 then 1 else if i = 3 then -1 else 0) else if 18 ≤ a ∧ a < 58 then (if i = 0 then -1 else 0) else if a = 145 then (if i = 1 then 1 else if i = 5 then -1 else 0) else if a = 153 then (if i < 40 then -1 else 0) else 0
/-- the store of the calls: ints, longs, how many were thrown; L: how long the script is -/
abbrev mS (L : Nat) (I : Nat → Nat → Int32) (J : Nat → Nat → Int64) (h z : Nat) : eS := (I, J, R0, K0 L, (185, h, z))
def oK (a c : Nat) : Prop := 0 < a ∧ a < 185 ∧ (∀ L, K0 L a = .inl c)
def aK (a : Nat) (ty : FieldType) (n : Nat) : Prop := 0 < a ∧ a < 185 ∧ (∀ L, K0 L a = .inr (ty, n))
theorem oK_isO {L a c : Nat} {I : Nat → Nat → Int32} {J : Nat → Nat → Int64} {h z : Nat} (k : oK a c) : isO (mS L I J h z) a c := ⟨k.1, k.2.1, k.2.2 L⟩
theorem aK_isA {L a n : Nat} {ty : FieldType} {I : Nat → Nat → Int32} {J : Nat → Nat → Int64} {h z : Nat} (k : aK a ty n) : isA (mS L I J h z) a ty n := ⟨k.2.1, k.2.2 L⟩
theorem oK_of {a c : Nat} (h0 : 0 < a) (h1 : a < 185) (h : kTab[a - 1]? = some (.inl c)) : oK a c := by
  refine ⟨h0, h1, fun L => ?_⟩
  obtain ⟨j, rfl⟩ : ∃ j, a = j + 1 := ⟨a - 1, by omega⟩
  show (kTab[j]?).getD _ = _
  rw [show kTab[j]? = some (.inl c) from h]; rfl
theorem aK_of {a n : Nat} {ty : FieldType} (h0 : 0 < a) (h1 : a < 185) (h : kTab[a - 1]? = some (.inr (ty, n))) : aK a ty n := by
  refine ⟨h0, h1, fun L => ?_⟩
  obtain ⟨j, rfl⟩ : ∃ j, a = j + 1 := ⟨a - 1, by omega⟩
  show (kTab[j]?).getD _ = _
  rw [show kTab[j]? = some (.inr (ty, n)) from h]; rfl
theorem kO_1 : oK 1 8 := oK_of (by decide) (by decide) (by decide +kernel)
theorem rN_1_0 : ¬ R0 1 0 = 0 := by decide +kernel
theorem rN_1_1 : ¬ R0 1 1 = 0 := by decide +kernel
theorem rN_1_2 : ¬ R0 1 2 = 0 := by decide +kernel
theorem rN_1_3 : ¬ R0 1 3 = 0 := by decide +kernel
theorem rN_1_4 : ¬ R0 1 4 = 0 := by decide +kernel
theorem rN_1_5 : ¬ R0 1 5 = 0 := by decide +kernel
theorem rN_1_6 : ¬ R0 1 6 = 0 := by decide +kernel
theorem kO_2 : oK 2 0 := oK_of (by decide) (by decide) (by decide +kernel)
theorem kO_3 : oK 3 1 := oK_of (by decide) (by decide) (by decide +kernel)
theorem rN_3_0 : ¬ R0 3 0 = 0 := by decide +kernel
theorem rN_3_1 : ¬ R0 3 1 = 0 := by decide +kernel
theorem rN_3_2 : ¬ R0 3 2 = 0 := by decide +kernel
theorem kA_4 : aK 4 (.int) 8 := aK_of (by decide) (by decide) (by decide +kernel)
theorem kA_5 : aK 5 (.int) 8 := aK_of (by decide) (by decide) (by decide +kernel)
theorem kA_6 : aK 6 (.long) 8 := aK_of (by decide) (by decide) (by decide +kernel)
theorem kO_7 : oK 7 5 := oK_of (by decide) (by decide) (by decide +kernel)
theorem rN_7_0 : ¬ R0 7 0 = 0 := by decide +kernel
theorem rN_7_1 : ¬ R0 7 1 = 0 := by decide +kernel
theorem kA_8 : aK 8 (.int) 64 := aK_of (by decide) (by decide) (by decide +kernel)
theorem kA_9 : aK 9 (.int) 64 := aK_of (by decide) (by decide) (by decide +kernel)
theorem kO_10 : oK 10 2 := oK_of (by decide) (by decide) (by decide +kernel)
theorem rN_10_0 : ¬ R0 10 0 = 0 := by decide +kernel
theorem rN_10_1 : ¬ R0 10 1 = 0 := by decide +kernel
theorem rN_10_2 : ¬ R0 10 2 = 0 := by decide +kernel
theorem rN_10_3 : ¬ R0 10 3 = 0 := by decide +kernel
theorem rN_10_4 : ¬ R0 10 4 = 0 := by decide +kernel
theorem rN_10_5 : ¬ R0 10 5 = 0 := by decide +kernel
theorem rN_10_6 : ¬ R0 10 6 = 0 := by decide +kernel
theorem kA_11 : aK 11 (.int) 2500 := aK_of (by decide) (by decide) (by decide +kernel)
theorem kA_12 : aK 12 (.int) 2500 := aK_of (by decide) (by decide) (by decide +kernel)
theorem kA_13 : aK 13 (.int) 2500 := aK_of (by decide) (by decide) (by decide +kernel)
theorem kA_14 : aK 14 (.int) 2500 := aK_of (by decide) (by decide) (by decide +kernel)
theorem kA_15 : aK 15 (.long) 2500 := aK_of (by decide) (by decide) (by decide +kernel)
theorem kA_16 : aK 16 (.int) 2500 := aK_of (by decide) (by decide) (by decide +kernel)
theorem kA_17 : aK 17 (.object "EventVault$Stream") 40 := aK_of (by decide) (by decide) (by decide +kernel)
theorem kO_58 : oK 58 4 := oK_of (by decide) (by decide) (by decide +kernel)
theorem rN_58_0 : ¬ R0 58 0 = 0 := by decide +kernel
theorem rN_58_1 : ¬ R0 58 1 = 0 := by decide +kernel
theorem rN_58_2 : ¬ R0 58 2 = 0 := by decide +kernel
theorem rN_58_3 : ¬ R0 58 3 = 0 := by decide +kernel
theorem kA_59 : aK 59 (.long) 16 := aK_of (by decide) (by decide) (by decide +kernel)
theorem kA_60 : aK 60 (.long) 4 := aK_of (by decide) (by decide) (by decide +kernel)
theorem kA_61 : aK 61 (.int) 4 := aK_of (by decide) (by decide) (by decide +kernel)
theorem kA_62 : aK 62 (.long) 4 := aK_of (by decide) (by decide) (by decide +kernel)
theorem kA_63 : aK 63 (.object "EventVault$Group") 8 := aK_of (by decide) (by decide) (by decide +kernel)
theorem kA_64 : aK 64 (.object "EventVault$Projection") 8 := aK_of (by decide) (by decide) (by decide +kernel)
theorem kO_145 : oK 145 9 := oK_of (by decide) (by decide) (by decide +kernel)
theorem rN_145_6 : ¬ R0 145 6 = 0 := by decide +kernel
theorem rN_145_7 : ¬ R0 145 7 = 0 := by decide +kernel
theorem rN_145_8 : ¬ R0 145 8 = 0 := by decide +kernel
theorem rN_145_9 : ¬ R0 145 9 = 0 := by decide +kernel
theorem rN_145_10 : ¬ R0 145 10 = 0 := by decide +kernel
theorem rN_145_11 : ¬ R0 145 11 = 0 := by decide +kernel
theorem rN_145_12 : ¬ R0 145 12 = 0 := by decide +kernel
theorem rN_145_14 : ¬ R0 145 14 = 0 := by decide +kernel
theorem rN_145_15 : ¬ R0 145 15 = 0 := by decide +kernel
theorem rN_145_16 : ¬ R0 145 16 = 0 := by decide +kernel
theorem rN_145_17 : ¬ R0 145 17 = 0 := by decide +kernel
theorem rN_145_18 : ¬ R0 145 18 = 0 := by decide +kernel
theorem rN_145_19 : ¬ R0 145 19 = 0 := by decide +kernel
theorem rN_145_20 : ¬ R0 145 20 = 0 := by decide +kernel
theorem rN_145_21 : ¬ R0 145 21 = 0 := by decide +kernel
theorem rN_145_23 : ¬ R0 145 23 = 0 := by decide +kernel
theorem rN_145_24 : ¬ R0 145 24 = 0 := by decide +kernel
theorem rN_145_25 : ¬ R0 145 25 = 0 := by decide +kernel
theorem rN_145_26 : ¬ R0 145 26 = 0 := by decide +kernel
theorem rN_145_27 : ¬ R0 145 27 = 0 := by decide +kernel
theorem rN_145_28 : ¬ R0 145 28 = 0 := by decide +kernel
theorem rN_145_29 : ¬ R0 145 29 = 0 := by decide +kernel
theorem rN_145_30 : ¬ R0 145 30 = 0 := by decide +kernel
theorem rN_145_31 : ¬ R0 145 31 = 0 := by decide +kernel
theorem rN_145_33 : ¬ R0 145 33 = 0 := by decide +kernel
theorem rN_145_34 : ¬ R0 145 34 = 0 := by decide +kernel
theorem rN_145_35 : ¬ R0 145 35 = 0 := by decide +kernel
theorem rN_145_36 : ¬ R0 145 36 = 0 := by decide +kernel
theorem rN_145_37 : ¬ R0 145 37 = 0 := by decide +kernel
theorem rN_145_38 : ¬ R0 145 38 = 0 := by decide +kernel
theorem rN_145_39 : ¬ R0 145 39 = 0 := by decide +kernel
theorem rN_145_40 : ¬ R0 145 40 = 0 := by decide +kernel
theorem rN_145_41 : ¬ R0 145 41 = 0 := by decide +kernel
theorem rN_145_42 : ¬ R0 145 42 = 0 := by decide +kernel
theorem rN_145_44 : ¬ R0 145 44 = 0 := by decide +kernel
theorem rN_145_46 : ¬ R0 145 46 = 0 := by decide +kernel
theorem rN_145_47 : ¬ R0 145 47 = 0 := by decide +kernel
theorem rN_145_48 : ¬ R0 145 48 = 0 := by decide +kernel
theorem kA_146 : aK 146 (.int) 2500 := aK_of (by decide) (by decide) (by decide +kernel)
theorem kA_147 : aK 147 (.int) 2500 := aK_of (by decide) (by decide) (by decide +kernel)
theorem kA_148 : aK 148 (.int) 2500 := aK_of (by decide) (by decide) (by decide +kernel)
theorem kA_149 : aK 149 (.int) 2500 := aK_of (by decide) (by decide) (by decide +kernel)
theorem kA_150 : aK 150 (.long) 2500 := aK_of (by decide) (by decide) (by decide +kernel)
theorem kA_151 : aK 151 (.int) 2500 := aK_of (by decide) (by decide) (by decide +kernel)
theorem kA_152 : aK 152 (.boolean) 2500 := aK_of (by decide) (by decide) (by decide +kernel)
theorem kA_153 : aK 153 (.int) 40 := aK_of (by decide) (by decide) (by decide +kernel)
theorem kA_154 : aK 154 (.int) 40 := aK_of (by decide) (by decide) (by decide +kernel)
theorem kA_155 : aK 155 (.int) 40 := aK_of (by decide) (by decide) (by decide +kernel)
theorem kA_156 : aK 156 (.int) 40 := aK_of (by decide) (by decide) (by decide +kernel)
theorem kA_157 : aK 157 (.boolean) 40 := aK_of (by decide) (by decide) (by decide +kernel)
theorem kA_158 : aK 158 (.int) 8 := aK_of (by decide) (by decide) (by decide +kernel)
theorem kA_159 : aK 159 (.int) 8 := aK_of (by decide) (by decide) (by decide +kernel)
theorem kA_160 : aK 160 (.long) 8 := aK_of (by decide) (by decide) (by decide +kernel)
theorem kA_161 : aK 161 (.boolean) 8 := aK_of (by decide) (by decide) (by decide +kernel)
theorem kA_162 : aK 162 (.int) 8 := aK_of (by decide) (by decide) (by decide +kernel)
theorem kA_163 : aK 163 (.int) 8 := aK_of (by decide) (by decide) (by decide +kernel)
theorem kA_164 : aK 164 (.int) 8 := aK_of (by decide) (by decide) (by decide +kernel)
theorem kA_165 : aK 165 (.byte) 20000 := aK_of (by decide) (by decide) (by decide +kernel)
theorem kA_166 : aK 166 (.int) 20000 := aK_of (by decide) (by decide) (by decide +kernel)
theorem kA_167 : aK 167 (.int) 20000 := aK_of (by decide) (by decide) (by decide +kernel)
theorem kA_168 : aK 168 (.int) 64 := aK_of (by decide) (by decide) (by decide +kernel)
theorem kA_169 : aK 169 (.int) 64 := aK_of (by decide) (by decide) (by decide +kernel)
theorem kA_170 : aK 170 (.boolean) 8 := aK_of (by decide) (by decide) (by decide +kernel)
theorem kA_171 : aK 171 (.int) 8 := aK_of (by decide) (by decide) (by decide +kernel)
theorem kA_172 : aK 172 (.int) 512 := aK_of (by decide) (by decide) (by decide +kernel)
theorem kA_173 : aK 173 (.int) 512 := aK_of (by decide) (by decide) (by decide +kernel)
theorem kA_174 : aK 174 (.int) 8 := aK_of (by decide) (by decide) (by decide +kernel)
theorem kA_175 : aK 175 (.int) 8 := aK_of (by decide) (by decide) (by decide +kernel)
theorem kA_176 : aK 176 (.boolean) 8 := aK_of (by decide) (by decide) (by decide +kernel)
theorem kA_177 : aK 177 (.int) 8 := aK_of (by decide) (by decide) (by decide +kernel)
theorem kA_178 : aK 178 (.boolean) 8 := aK_of (by decide) (by decide) (by decide +kernel)
theorem kA_179 : aK 179 (.long) 1024 := aK_of (by decide) (by decide) (by decide +kernel)
theorem kA_180 : aK 180 (.long) 16 := aK_of (by decide) (by decide) (by decide +kernel)
theorem kA_181 : aK 181 (.long) 4 := aK_of (by decide) (by decide) (by decide +kernel)
theorem kA_182 : aK 182 (.int) 4 := aK_of (by decide) (by decide) (by decide +kernel)
theorem kA_183 : aK 183 (.long) 4 := aK_of (by decide) (by decide) (by decide +kernel)
theorem kA_184 : aK 184 (.long) 1 := aK_of (by decide) (by decide) (by decide +kernel)
def w7 (a : Nat) : Prop := oK a 7
theorem w7_o {a : Nat} (h : w7 a) : oK a 7 := h
def w5 (a : Nat) : Prop := oK a 5 ∧ aK (R0 a 0) .int 64 ∧ aK (R0 a 1) .int 64
theorem w5_o {a : Nat} (h : w5 a) : oK a 5 := h.1
theorem w5_a0 {a : Nat} (h : w5 a) : aK (R0 a 0) .int 64 := h.2.1
theorem w5_a1 {a : Nat} (h : w5 a) : aK (R0 a 1) .int 64 := h.2.2
def w3 (a : Nat) : Prop := oK a 3 ∧ aK (R0 a 0) .int 2500 ∧ aK (R0 a 1) .int 2500 ∧ aK (R0 a 2) .int 16 ∧ aK (R0 a 3) .int 16
theorem w3_o {a : Nat} (h : w3 a) : oK a 3 := h.1
theorem w3_a0 {a : Nat} (h : w3 a) : aK (R0 a 0) .int 2500 := h.2.1
theorem w3_a1 {a : Nat} (h : w3 a) : aK (R0 a 1) .int 2500 := h.2.2.1
theorem w3_a2 {a : Nat} (h : w3 a) : aK (R0 a 2) .int 16 := h.2.2.2.1
theorem w3_a3 {a : Nat} (h : w3 a) : aK (R0 a 3) .int 16 := h.2.2.2.2
def w6 (a : Nat) : Prop := oK a 6 ∧ w5 (R0 a 0) ∧ aK (R0 a 1) .long 128
theorem w6_o {a : Nat} (h : w6 a) : oK a 6 := h.1
theorem w6_w0 {a : Nat} (h : w6 a) : w5 (R0 a 0) := h.2.1
theorem w6_a1 {a : Nat} (h : w6 a) : aK (R0 a 1) .long 128 := h.2.2
theorem kt_0 {j : Nat} (h : j < 40) : kTab[18 + j - 1]? = some (.inl 7) := by
  have h9 : ((List.range 40).all fun j => decide (kTab[18 + j - 1]? = some (.inl 7))) = true := by decide +kernel
  exact of_decide_eq_true (List.all_eq_true.mp h9 j (List.mem_range.mpr h))
theorem sS {j : Nat} (h : j < 40) : w7 (18 + j) := oK_of (by omega) (by omega) (kt_0 h)
def kt_g (j : Nat) : Bool := decide (kTab[65 + 5 * j - 1]? = some (.inl 3)) && decide (R0 (65 + 5 * j) 0 = 66 + 5 * j) && decide (kTab[66 + 5 * j - 1]? = some (.inr (.int, 2500))) && decide (R0 (65 + 5 * j) 1 = 67 + 5 * j) && decide (kTab[67 + 5 * j - 1]? = some (.inr (.int, 2500))) && decide (R0 (65 + 5 * j) 2 = 68 + 5 * j) && decide (kTab[68 + 5 * j - 1]? = some (.inr (.int, 16))) && decide (R0 (65 + 5 * j) 3 = 69 + 5 * j) && decide (kTab[69 + 5 * j - 1]? = some (.inr (.int, 16)))
theorem kt_g_ok : ((List.range 8).all kt_g) = true := by decide +kernel
theorem R0_g {j : Nat} (h : j < 8) : R0 (65 + 5 * j) 0 = 66 + 5 * j ∧ R0 (65 + 5 * j) 1 = 67 + 5 * j ∧ R0 (65 + 5 * j) 2 = 68 + 5 * j ∧ R0 (65 + 5 * j) 3 = 69 + 5 * j := by
  have h1 := List.all_eq_true.mp kt_g_ok j (List.mem_range.mpr h)
  simp only [kt_g, Bool.and_eq_true, decide_eq_true_eq] at h1
  exact ⟨h1.1.1.1.1.1.1.1.2, h1.1.1.1.1.1.2, h1.1.1.1.2, h1.1.2⟩
theorem sG {j : Nat} (h : j < 8) : w3 (65 + 5 * j) := by
  have h1 := List.all_eq_true.mp kt_g_ok j (List.mem_range.mpr h)
  simp only [kt_g, Bool.and_eq_true, decide_eq_true_eq] at h1
  obtain ⟨⟨⟨⟨⟨⟨⟨⟨a1, a2⟩, a3⟩, a4⟩, a5⟩, a6⟩, a7⟩, a8⟩, a9⟩ := h1
  exact ⟨oK_of (by omega) (by omega) a1, by rw [a2]; exact aK_of (by omega) (by omega) a3, by rw [a4]; exact aK_of (by omega) (by omega) a5, by rw [a6]; exact aK_of (by omega) (by omega) a7, by rw [a8]; exact aK_of (by omega) (by omega) a9⟩
def kt_p (j : Nat) : Bool := decide (kTab[105 + 5 * j - 1]? = some (.inl 6)) && decide (R0 (105 + 5 * j) 0 = 106 + 5 * j) && decide (kTab[106 + 5 * j - 1]? = some (.inl 5)) && decide (R0 (106 + 5 * j) 0 = 107 + 5 * j) && decide (kTab[107 + 5 * j - 1]? = some (.inr (.int, 64))) && decide (R0 (106 + 5 * j) 1 = 108 + 5 * j) && decide (kTab[108 + 5 * j - 1]? = some (.inr (.int, 64))) && decide (R0 (105 + 5 * j) 1 = 109 + 5 * j) && decide (kTab[109 + 5 * j - 1]? = some (.inr (.long, 128)))
theorem kt_p_ok : ((List.range 8).all kt_p) = true := by decide +kernel
theorem R0_p {j : Nat} (h : j < 8) : R0 (105 + 5 * j) 0 = 106 + 5 * j ∧ R0 (106 + 5 * j) 0 = 107 + 5 * j ∧ R0 (106 + 5 * j) 1 = 108 + 5 * j ∧ R0 (105 + 5 * j) 1 = 109 + 5 * j := by
  have h1 := List.all_eq_true.mp kt_p_ok j (List.mem_range.mpr h)
  simp only [kt_p, Bool.and_eq_true, decide_eq_true_eq] at h1
  exact ⟨h1.1.1.1.1.1.1.1.2, h1.1.1.1.1.1.2, h1.1.1.1.2, h1.1.2⟩
theorem sP {j : Nat} (h : j < 8) : w6 (105 + 5 * j) := by
  have h1 := List.all_eq_true.mp kt_p_ok j (List.mem_range.mpr h)
  simp only [kt_p, Bool.and_eq_true, decide_eq_true_eq] at h1
  obtain ⟨⟨⟨⟨⟨⟨⟨⟨a1, a2⟩, a3⟩, a4⟩, a5⟩, a6⟩, a7⟩, a8⟩, a9⟩ := h1
  exact ⟨oK_of (by omega) (by omega) a1, by rw [a2]; exact ⟨oK_of (by omega) (by omega) a3, by rw [a4]; exact aK_of (by omega) (by omega) a5, by rw [a6]; exact aK_of (by omega) (by omega) a7⟩, by rw [a8]; exact aK_of (by omega) (by omega) a9⟩
theorem w5_c : w5 7 := ⟨kO_7, kA_8, kA_9⟩
theorem vp_lt {x : Int32} {n : Nat} (h : vp_in x n) : x.toNatClampNeg < n := Nat.not_le.mp fun q => h (Or.inr q)
theorem R0_17 {i : Nat} (h : i < 40) : R0 17 i = 18 + i := by unfold R0; rw [if_pos rfl, if_pos h]
theorem R0_63 {i : Nat} (h : i < 8) : R0 63 i = 65 + 5 * i := by unfold R0; rw [if_neg (by decide), if_pos rfl, if_pos h]
theorem R0_64 {i : Nat} (h : i < 8) : R0 64 i = 105 + 5 * i := by unfold R0; rw [if_neg (by decide), if_neg (by decide), if_pos rfl, if_pos h]
theorem sT_17 {x : Int32} (h : vp_in x 40) : w7 (R0 17 x.toNatClampNeg) := by rw [R0_17 (vp_lt h)]; exact sS (vp_lt h)
theorem sT_63 {x : Int32} (h : vp_in x 8) : w3 (R0 63 x.toNatClampNeg) := by rw [R0_63 (vp_lt h)]; exact sG (vp_lt h)
theorem sT_64 {x : Int32} (h : vp_in x 8) : w6 (R0 64 x.toNatClampNeg) := by rw [R0_64 (vp_lt h)]; exact sP (vp_lt h)
theorem w_nz7 {a : Nat} (h : w7 a) : ¬ a = 0 := fun z => by have := h.1; omega
theorem w_nz3 {a : Nat} (h : w3 a) : ¬ a = 0 := fun z => by have := h.1.1; omega
theorem w_nz5 {a : Nat} (h : w5 a) : ¬ a = 0 := fun z => by have := h.1.1; omega
theorem w_nz6 {a : Nat} (h : w6 a) : ¬ a = 0 := fun z => by have := h.1.1; omega
theorem a_nz {a n : Nat} {ty : FieldType} (h : aK a ty n) : ¬ a = 0 := fun z => by have := h.1; omega
theorem sub_pick {ls canon : eLs} (ks : List Nat) (h : lv_pick ls ks = canon) : ∀ q ∈ canon, q ∈ ls := by
  intro q hq
  rw [← h] at hq
  obtain ⟨k, -, hk⟩ := List.mem_filterMap.mp hq
  exact List.mem_of_getElem? hk
theorem ret_i {μ : Nat} {ty : FieldType} {x : Int32} {A : Prop} (hr : eRt μ = some ty) (hn : narrow ty (.int x) = .int x) (hk : A) : retI (eRt μ) x A := by unfold retI; rw [hr]; exact ⟨hn, hk⟩
theorem recv_o {q b c : Nat} {As : List Value} {σ : eS} (hk : eKd q = 0 ∨ eKd q = 2) (hc : eC q = c) (h : isO σ b c) : recvOk q (.ref b :: As) σ := by
  unfold recvOk
  rcases hk with hk | hk <;> (rw [hk]; dsimp only; rw [hc]; exact h)
theorem recv_s {q : Nat} {as : List Value} {σ : eS} (hk : ¬ eKd q = 0) (hk2 : ¬ eKd q = 2) : recvOk q as σ := by
  unfold recvOk
  split
  · rename_i h; exact absurd h hk
  · rename_i h; exact absurd h hk2
  · trivial
