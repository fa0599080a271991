section
variable {μ pc : Nat} {ls : eLs} {st : List Value} {σ : eS} {o : eO} {σo : eS} {r : List Value}
theorem m_iadd {x y : Int32} (hd : decode (eB μ) pc = .ok (.iadd, 1))  (h : eMP μ (pc + 1) ls (.int (x + y) :: r) σ o σo) : eMP μ pc ls (.int y :: .int x :: r) σ o σo :=
  eStep _ _ _ h fun l b base L xs cA D p e R s m args below meth c H locs cells slots Q la hf hs hr hR hS hla hc hz k => lv_iadd hf.1 hf.2.1 hd (k la hla)
theorem m_isub {x y : Int32} (hd : decode (eB μ) pc = .ok (.isub, 1))  (h : eMP μ (pc + 1) ls (.int (x - y) :: r) σ o σo) : eMP μ pc ls (.int y :: .int x :: r) σ o σo :=
  eStep _ _ _ h fun l b base L xs cA D p e R s m args below meth c H locs cells slots Q la hf hs hr hR hS hla hc hz k => lv_isub hf.1 hf.2.1 hd (k la hla)
theorem m_imul {x y : Int32} (hd : decode (eB μ) pc = .ok (.imul, 1))  (h : eMP μ (pc + 1) ls (.int (x * y) :: r) σ o σo) : eMP μ pc ls (.int y :: .int x :: r) σ o σo :=
  eStep _ _ _ h fun l b base L xs cA D p e R s m args below meth c H locs cells slots Q la hf hs hr hR hS hla hc hz k => lv_imul hf.1 hf.2.1 hd (k la hla)
theorem m_iand {x y : Int32} (hd : decode (eB μ) pc = .ok (.iand, 1))  (h : eMP μ (pc + 1) ls (.int (x &&& y) :: r) σ o σo) : eMP μ pc ls (.int y :: .int x :: r) σ o σo :=
  eStep _ _ _ h fun l b base L xs cA D p e R s m args below meth c H locs cells slots Q la hf hs hr hR hS hla hc hz k => lv_iand hf.1 hf.2.1 hd (k la hla)
theorem m_ishr {x y : Int32} (hd : decode (eB μ) pc = .ok (.ishr, 1))  (h : eMP μ (pc + 1) ls (.int (x >>> (y &&& 31)) :: r) σ o σo) : eMP μ pc ls (.int y :: .int x :: r) σ o σo :=
  eStep _ _ _ h fun l b base L xs cA D p e R s m args below meth c H locs cells slots Q la hf hs hr hR hS hla hc hz k => lv_ishr hf.1 hf.2.1 hd (k la hla)
theorem m_idiv {x y : Int32} (hd : decode (eB μ) pc = .ok (.idiv, 1)) (hne : ¬ y = 0) (h : eMP μ (pc + 1) ls (.int (x / y) :: r) σ o σo) : eMP μ pc ls (.int y :: .int x :: r) σ o σo :=
  eStep _ _ _ h fun l b base L xs cA D p e R s m args below meth c H locs cells slots Q la hf hs hr hR hS hla hc hz k => lv_idiv hf.1 hf.2.1 hd hne (k la hla)
theorem m_irem {x y : Int32} (hd : decode (eB μ) pc = .ok (.irem, 1)) (hne : ¬ y = 0) (h : eMP μ (pc + 1) ls (.int (x - x / y * y) :: r) σ o σo) : eMP μ pc ls (.int y :: .int x :: r) σ o σo :=
  eStep _ _ _ h fun l b base L xs cA D p e R s m args below meth c H locs cells slots Q la hf hs hr hR hS hla hc hz k => lv_irem hf.1 hf.2.1 hd hne (k la hla)
theorem m_iushr {x y : Int32} (hd : decode (eB μ) pc = .ok (.iushr, 1))  (h : eMP μ (pc + 1) ls (.int (x.toUInt32 >>> (y.toUInt32 &&& Int32.toUInt32 31)).toInt32 :: r) σ o σo) : eMP μ pc ls (.int y :: .int x :: r) σ o σo :=
  eStep _ _ _ h fun l b base L xs cA D p e R s m args below meth c H locs cells slots Q la hf hs hr hR hS hla hc hz k => lv_iushr hf.1 hf.2.1 hd rfl (k la hla)
theorem m_ladd {x y : Int64} (hd : decode (eB μ) pc = .ok (.ladd, 1))  (h : eMP μ (pc + 1) ls (.long (x + y) :: r) σ o σo) : eMP μ pc ls (.long y :: .long x :: r) σ o σo :=
  eStep _ _ _ h fun l b base L xs cA D p e R s m args below meth c H locs cells slots Q la hf hs hr hR hS hla hc hz k => lv_ladd hf.1 hf.2.1 hd (k la hla)
theorem m_lsub {x y : Int64} (hd : decode (eB μ) pc = .ok (.lsub, 1))  (h : eMP μ (pc + 1) ls (.long (x - y) :: r) σ o σo) : eMP μ pc ls (.long y :: .long x :: r) σ o σo :=
  eStep _ _ _ h fun l b base L xs cA D p e R s m args below meth c H locs cells slots Q la hf hs hr hR hS hla hc hz k => lv_lsub hf.1 hf.2.1 hd (k la hla)
theorem m_lmul {x y : Int64} (hd : decode (eB μ) pc = .ok (.lmul, 1))  (h : eMP μ (pc + 1) ls (.long (x * y) :: r) σ o σo) : eMP μ pc ls (.long y :: .long x :: r) σ o σo :=
  eStep _ _ _ h fun l b base L xs cA D p e R s m args below meth c H locs cells slots Q la hf hs hr hR hS hla hc hz k => lv_lmul hf.1 hf.2.1 hd (k la hla)
theorem m_land {x y : Int64} (hd : decode (eB μ) pc = .ok (.land, 1))  (h : eMP μ (pc + 1) ls (.long (x &&& y) :: r) σ o σo) : eMP μ pc ls (.long y :: .long x :: r) σ o σo :=
  eStep _ _ _ h fun l b base L xs cA D p e R s m args below meth c H locs cells slots Q la hf hs hr hR hS hla hc hz k => lv_land hf.1 hf.2.1 hd (k la hla)
theorem m_lor {x y : Int64} (hd : decode (eB μ) pc = .ok (.lor, 1))  (h : eMP μ (pc + 1) ls (.long (x ||| y) :: r) σ o σo) : eMP μ pc ls (.long y :: .long x :: r) σ o σo :=
  eStep _ _ _ h fun l b base L xs cA D p e R s m args below meth c H locs cells slots Q la hf hs hr hR hS hla hc hz k => lv_lor hf.1 hf.2.1 hd (k la hla)
theorem m_ldiv {x y : Int64} (hd : decode (eB μ) pc = .ok (.ldiv, 1)) (hne : ¬ y = 0) (h : eMP μ (pc + 1) ls (.long (x / y) :: r) σ o σo) : eMP μ pc ls (.long y :: .long x :: r) σ o σo :=
  eStep _ _ _ h fun l b base L xs cA D p e R s m args below meth c H locs cells slots Q la hf hs hr hR hS hla hc hz k => lv_ldiv hf.1 hf.2.1 hd hne (k la hla)
theorem m_lshl {x : Int64} {y : Int32} (hd : decode (eB μ) pc = .ok (.lshl, 1))  (h : eMP μ (pc + 1) ls (.long (x <<< (y.toInt64 &&& 63)) :: r) σ o σo) : eMP μ pc ls (.int y :: .long x :: r) σ o σo :=
  eStep _ _ _ h fun l b base L xs cA D p e R s m args below meth c H locs cells slots Q la hf hs hr hR hS hla hc hz k => lv_lshl hf.1 hf.2.1 hd rfl (k la hla)
theorem m_i2l {x : Int32} (hd : decode (eB μ) pc = .ok (.i2l, 1))  (h : eMP μ (pc + 1) ls (.long x.toInt64 :: r) σ o σo) : eMP μ pc ls (.int x :: r) σ o σo :=
  eStep _ _ _ h fun l b base L xs cA D p e R s m args below meth c H locs cells slots Q la hf hs hr hR hS hla hc hz k => lv_i2l hf.1 hf.2.1 hd rfl (k la hla)
theorem m_lcmp {x y : Int64} (hd : decode (eB μ) pc = .ok (.lcmp, 1))  (h : eMP μ (pc + 1) ls (.int (lg_cmp x y) :: r) σ o σo) : eMP μ pc ls (.long y :: .long x :: r) σ o σo :=
  eStep _ _ _ h fun l b base L xs cA D p e R s m args below meth c H locs cells slots Q la hf hs hr hR hS hla hc hz k => W.lcmp hf.1 hf.2.1 hd (k la hla)
theorem m_dup {v : Value} (hd : decode (eB μ) pc = .ok (.dup, 1)) (hv : v.category = 1) (h : eMP μ (pc + 1) ls (v :: v :: r) σ o σo) : eMP μ pc ls (v :: r) σ o σo :=
  eStep _ _ _ h fun l b base L xs cA D p e R s m args below meth c H locs cells slots Q la hf hs hr hR hS hla hc hz k => lv_dup hf.1 hf.2.1 hd (by rw [eVl_cat]; exact hv) (k la hla)
theorem m_dup2 {v w : Value} (hd : decode (eB μ) pc = .ok (.dup2, 1)) (hv : v.category = 1) (hw : w.category = 1) (h : eMP μ (pc + 1) ls (v :: w :: v :: w :: r) σ o σo) : eMP μ pc ls (v :: w :: r) σ o σo :=
  eStep _ _ _ h fun l b base L xs cA D p e R s m args below meth c H locs cells slots Q la hf hs hr hR hS hla hc hz k => lv_dup2_11 hf.1 hf.2.1 hd (by rw [eVl_cat]; exact hv) (by rw [eVl_cat]; exact hw) (k la hla)
theorem m_pop2 {x : Int64} (hd : decode (eB μ) pc = .ok (.pop2, 1))  (h : eMP μ (pc + 1) ls (r) σ o σo) : eMP μ pc ls (.long x :: r) σ o σo :=
  eStep _ _ _ h fun l b base L xs cA D p e R s m args below meth c H locs cells slots Q la hf hs hr hR hS hla hc hz k => lv_pop2_2 hf.1 hf.2.1 hd rfl (k la hla)
theorem m_lconst {n : Fin 2} (hd : decode (eB μ) pc = .ok (.lconst n, 1)) (h : eMP μ (pc + 1) ls (.long (Int64.ofNat n) :: st) σ o σo) : eMP μ pc ls st σ o σo :=
  eStep _ _ _ h fun l b base L xs cA D p e R s m args below meth c H locs cells slots Q la hf hs hr hR hS hla hc hz k => lv_lconst hf.1 hf.2.1 hd rfl (k la hla)
theorem m_iconst {n : Int} (hd : decode (eB μ) pc = .ok (.iconst n, 1)) (h : eMP μ (pc + 1) ls (.int (Int32.ofInt n) :: st) σ o σo) : eMP μ pc ls st σ o σo :=
  eStep _ _ _ h fun l b base L xs cA D p e R s m args below meth c H locs cells slots Q la hf hs hr hR hS hla hc hz k => lv_iconst hf.1 hf.2.1 hd rfl (k la hla)
theorem m_bipush {n : Int} {v : Int32} (hd : decode (eB μ) pc = .ok (.bipush n, 2)) (hv : (Int8.ofInt n).toInt32 = v) (h : eMP μ (pc + 2) ls (.int v :: st) σ o σo) : eMP μ pc ls st σ o σo :=
  eStep _ _ _ h fun l b base L xs cA D p e R s m args below meth c H locs cells slots Q la hf hs hr hR hS hla hc hz k => lv_bipush hf.1 hf.2.1 hd hv (k la hla)
theorem m_sipush {n : Int} {v : Int32} (hd : decode (eB μ) pc = .ok (.sipush n, 3)) (hv : (Int16.ofInt n).toInt32 = v) (h : eMP μ (pc + 3) ls (.int v :: st) σ o σo) : eMP μ pc ls st σ o σo :=
  eStep _ _ _ h fun l b base L xs cA D p e R s m args below meth c H locs cells slots Q la hf hs hr hR hS hla hc hz k => lv_sipush hf.1 hf.2.1 hd hv (k la hla)
theorem m_ldc {i : Nat} {v : Int32} (hd : decode (eB μ) pc = .ok (.ldc i, 2)) (hw : Cond.constant (eCN (eC μ)) i v ∈ gTb) (h : eMP μ (pc + 2) ls (.int v :: st) σ o σo) : eMP μ pc ls st σ o σo :=
  eStep _ _ _ h fun l b base L xs cA D p e R s m args below meth c H locs cells slots Q la hf hs hr hR hS hla hc hz k => lv_ldc hf.1 hf.2.1 hf.2.2.2.2.1 (hf.2.2.2.2.2.1 _ hw) hd (k la hla)
theorem m_ldc_w {i : Nat} {v : Int32} (hd : decode (eB μ) pc = .ok (.ldc_w i, 3)) (hw : Cond.constant (eCN (eC μ)) i v ∈ gTb) (h : eMP μ (pc + 3) ls (.int v :: st) σ o σo) : eMP μ pc ls st σ o σo :=
  eStep _ _ _ h fun l b base L xs cA D p e R s m args below meth c H locs cells slots Q la hf hs hr hR hS hla hc hz k => lv_ldcw hf.1 hf.2.1 hf.2.2.2.2.1 (hf.2.2.2.2.2.1 _ hw) hd (k la hla)
theorem m_ldc2_w {i : Nat} {v : Int64} (hd : decode (eB μ) pc = .ok (.ldc2_w i, 3)) (hw : Cond.constantLong (eCN (eC μ)) i v ∈ gTb) (h : eMP μ (pc + 3) ls (.long v :: st) σ o σo) : eMP μ pc ls st σ o σo :=
  eStep _ _ _ h fun l b base L xs cA D p e R s m args below meth c H locs cells slots Q la hf hs hr hR hS hla hc hz k => lv_ldc2 hf.1 hf.2.1 hf.2.2.2.2.1 (hf.2.2.2.2.2.1 _ hw) hd (k la hla)
theorem m_goto {off : Int} (hd : decode (eB μ) pc = .ok (.goto off, 3)) (hj : okj pc off = true) (h : eMP μ (jmp pc off) ls st σ o σo) : eMP μ pc ls st σ o σo :=
  eStep _ _ _ h fun l b base L xs cA D p e R s m args below meth c H locs cells slots Q la hf hs hr hR hS hla hc hz k => lv_goto hf.1 hf.2.1 hd (jmp_eq hj) (k la hla)
theorem m_if_eq {x : Int32} {off : Int} (hd : decode (eB μ) pc = .ok (.ifCond .eq off, 3)) (hj : okj pc off = true) (kt : x = 0 → eMP μ (jmp pc off) ls r σ o σo) (kf : ¬ x = 0 → eMP μ (pc + 3) ls r σ o σo) : eMP μ pc ls (.int x :: r) σ o σo := by
  by_cases c9 : x = 0
  · exact eStep _ _ _ (kt c9) fun l b base L xs cA D p e R s m args below meth c H locs cells slots Q la hf hs hr hR hS hla hc hz k => lv_if_eq hf.1 hf.2.1 hd (jmp_eq hj) (fun _ => k la hla) (fun z => absurd c9 z)
  · exact eStep _ _ _ (kf c9) fun l b base L xs cA D p e R s m args below meth c H locs cells slots Q la hf hs hr hR hS hla hc hz k => lv_if_eq hf.1 hf.2.1 hd (jmp_eq hj) (fun z => absurd z c9) (fun _ => k la hla)
theorem m_if_lt {x : Int32} {off : Int} (hd : decode (eB μ) pc = .ok (.ifCond .lt off, 3)) (hj : okj pc off = true) (kt : x < 0 → eMP μ (jmp pc off) ls r σ o σo) (kf : ¬ x < 0 → eMP μ (pc + 3) ls r σ o σo) : eMP μ pc ls (.int x :: r) σ o σo := by
  by_cases c9 : x < 0
  · exact eStep _ _ _ (kt c9) fun l b base L xs cA D p e R s m args below meth c H locs cells slots Q la hf hs hr hR hS hla hc hz k => lv_if_lt hf.1 hf.2.1 hd (jmp_eq hj) (fun _ => k la hla) (fun z => absurd c9 z)
  · exact eStep _ _ _ (kf c9) fun l b base L xs cA D p e R s m args below meth c H locs cells slots Q la hf hs hr hR hS hla hc hz k => lv_if_lt hf.1 hf.2.1 hd (jmp_eq hj) (fun z => absurd z c9) (fun _ => k la hla)
theorem m_if_ge {x : Int32} {off : Int} (hd : decode (eB μ) pc = .ok (.ifCond .ge off, 3)) (hj : okj pc off = true) (kt : 0 ≤ x → eMP μ (jmp pc off) ls r σ o σo) (kf : ¬ 0 ≤ x → eMP μ (pc + 3) ls r σ o σo) : eMP μ pc ls (.int x :: r) σ o σo := by
  by_cases c9 : 0 ≤ x
  · exact eStep _ _ _ (kt c9) fun l b base L xs cA D p e R s m args below meth c H locs cells slots Q la hf hs hr hR hS hla hc hz k => lv_if_ge hf.1 hf.2.1 hd (jmp_eq hj) (fun _ => k la hla) (fun z => absurd c9 z)
  · exact eStep _ _ _ (kf c9) fun l b base L xs cA D p e R s m args below meth c H locs cells slots Q la hf hs hr hR hS hla hc hz k => lv_if_ge hf.1 hf.2.1 hd (jmp_eq hj) (fun z => absurd z c9) (fun _ => k la hla)
theorem m_if_gt {x : Int32} {off : Int} (hd : decode (eB μ) pc = .ok (.ifCond .gt off, 3)) (hj : okj pc off = true) (kt : 0 < x → eMP μ (jmp pc off) ls r σ o σo) (kf : ¬ 0 < x → eMP μ (pc + 3) ls r σ o σo) : eMP μ pc ls (.int x :: r) σ o σo := by
  by_cases c9 : 0 < x
  · exact eStep _ _ _ (kt c9) fun l b base L xs cA D p e R s m args below meth c H locs cells slots Q la hf hs hr hR hS hla hc hz k => lv_if_gt hf.1 hf.2.1 hd (jmp_eq hj) (fun _ => k la hla) (fun z => absurd c9 z)
  · exact eStep _ _ _ (kf c9) fun l b base L xs cA D p e R s m args below meth c H locs cells slots Q la hf hs hr hR hS hla hc hz k => lv_if_gt hf.1 hf.2.1 hd (jmp_eq hj) (fun z => absurd z c9) (fun _ => k la hla)
theorem m_if_le {x : Int32} {off : Int} (hd : decode (eB μ) pc = .ok (.ifCond .le off, 3)) (hj : okj pc off = true) (kt : x ≤ 0 → eMP μ (jmp pc off) ls r σ o σo) (kf : ¬ x ≤ 0 → eMP μ (pc + 3) ls r σ o σo) : eMP μ pc ls (.int x :: r) σ o σo := by
  by_cases c9 : x ≤ 0
  · exact eStep _ _ _ (kt c9) fun l b base L xs cA D p e R s m args below meth c H locs cells slots Q la hf hs hr hR hS hla hc hz k => lv_if_le hf.1 hf.2.1 hd (jmp_eq hj) (fun _ => k la hla) (fun z => absurd c9 z)
  · exact eStep _ _ _ (kf c9) fun l b base L xs cA D p e R s m args below meth c H locs cells slots Q la hf hs hr hR hS hla hc hz k => lv_if_le hf.1 hf.2.1 hd (jmp_eq hj) (fun z => absurd z c9) (fun _ => k la hla)
theorem m_icmp_eq {x y : Int32} {off : Int} (hd : decode (eB μ) pc = .ok (.if_icmp .eq off, 3)) (hj : okj pc off = true) (kt : x = y → eMP μ (jmp pc off) ls r σ o σo) (kf : ¬ x = y → eMP μ (pc + 3) ls r σ o σo) : eMP μ pc ls (.int y :: .int x :: r) σ o σo := by
  by_cases c9 : x = y
  · exact eStep _ _ _ (kt c9) fun l b base L xs cA D p e R s m args below meth c H locs cells slots Q la hf hs hr hR hS hla hc hz k => lv_icmp_eq hf.1 hf.2.1 hd (jmp_eq hj) (fun _ => k la hla) (fun z => absurd c9 z)
  · exact eStep _ _ _ (kf c9) fun l b base L xs cA D p e R s m args below meth c H locs cells slots Q la hf hs hr hR hS hla hc hz k => lv_icmp_eq hf.1 hf.2.1 hd (jmp_eq hj) (fun z => absurd z c9) (fun _ => k la hla)
theorem m_icmp_lt {x y : Int32} {off : Int} (hd : decode (eB μ) pc = .ok (.if_icmp .lt off, 3)) (hj : okj pc off = true) (kt : x < y → eMP μ (jmp pc off) ls r σ o σo) (kf : ¬ x < y → eMP μ (pc + 3) ls r σ o σo) : eMP μ pc ls (.int y :: .int x :: r) σ o σo := by
  by_cases c9 : x < y
  · exact eStep _ _ _ (kt c9) fun l b base L xs cA D p e R s m args below meth c H locs cells slots Q la hf hs hr hR hS hla hc hz k => lv_icmp_lt hf.1 hf.2.1 hd (jmp_eq hj) (fun _ => k la hla) (fun z => absurd c9 z)
  · exact eStep _ _ _ (kf c9) fun l b base L xs cA D p e R s m args below meth c H locs cells slots Q la hf hs hr hR hS hla hc hz k => lv_icmp_lt hf.1 hf.2.1 hd (jmp_eq hj) (fun z => absurd z c9) (fun _ => k la hla)
theorem m_icmp_ge {x y : Int32} {off : Int} (hd : decode (eB μ) pc = .ok (.if_icmp .ge off, 3)) (hj : okj pc off = true) (kt : y ≤ x → eMP μ (jmp pc off) ls r σ o σo) (kf : ¬ y ≤ x → eMP μ (pc + 3) ls r σ o σo) : eMP μ pc ls (.int y :: .int x :: r) σ o σo := by
  by_cases c9 : y ≤ x
  · exact eStep _ _ _ (kt c9) fun l b base L xs cA D p e R s m args below meth c H locs cells slots Q la hf hs hr hR hS hla hc hz k => lv_icmp_ge hf.1 hf.2.1 hd (jmp_eq hj) (fun _ => k la hla) (fun z => absurd c9 z)
  · exact eStep _ _ _ (kf c9) fun l b base L xs cA D p e R s m args below meth c H locs cells slots Q la hf hs hr hR hS hla hc hz k => lv_icmp_ge hf.1 hf.2.1 hd (jmp_eq hj) (fun z => absurd z c9) (fun _ => k la hla)
theorem m_icmp_gt {x y : Int32} {off : Int} (hd : decode (eB μ) pc = .ok (.if_icmp .gt off, 3)) (hj : okj pc off = true) (kt : y < x → eMP μ (jmp pc off) ls r σ o σo) (kf : ¬ y < x → eMP μ (pc + 3) ls r σ o σo) : eMP μ pc ls (.int y :: .int x :: r) σ o σo := by
  by_cases c9 : y < x
  · exact eStep _ _ _ (kt c9) fun l b base L xs cA D p e R s m args below meth c H locs cells slots Q la hf hs hr hR hS hla hc hz k => lv_icmp_gt hf.1 hf.2.1 hd (jmp_eq hj) (fun _ => k la hla) (fun z => absurd c9 z)
  · exact eStep _ _ _ (kf c9) fun l b base L xs cA D p e R s m args below meth c H locs cells slots Q la hf hs hr hR hS hla hc hz k => lv_icmp_gt hf.1 hf.2.1 hd (jmp_eq hj) (fun z => absurd z c9) (fun _ => k la hla)
theorem m_icmp_le {x y : Int32} {off : Int} (hd : decode (eB μ) pc = .ok (.if_icmp .le off, 3)) (hj : okj pc off = true) (kt : x ≤ y → eMP μ (jmp pc off) ls r σ o σo) (kf : ¬ x ≤ y → eMP μ (pc + 3) ls r σ o σo) : eMP μ pc ls (.int y :: .int x :: r) σ o σo := by
  by_cases c9 : x ≤ y
  · exact eStep _ _ _ (kt c9) fun l b base L xs cA D p e R s m args below meth c H locs cells slots Q la hf hs hr hR hS hla hc hz k => lv_icmp_le hf.1 hf.2.1 hd (jmp_eq hj) (fun _ => k la hla) (fun z => absurd c9 z)
  · exact eStep _ _ _ (kf c9) fun l b base L xs cA D p e R s m args below meth c H locs cells slots Q la hf hs hr hR hS hla hc hz k => lv_icmp_le hf.1 hf.2.1 hd (jmp_eq hj) (fun z => absurd z c9) (fun _ => k la hla)
theorem m_if_ne {x : Int32} {off : Int} (hd : decode (eB μ) pc = .ok (.ifCond .ne off, 3)) (hj : okj pc off = true) (kt : ¬ x = 0 → eMP μ (jmp pc off) ls r σ o σo) (kf : x = 0 → eMP μ (pc + 3) ls r σ o σo) : eMP μ pc ls (.int x :: r) σ o σo := by
  by_cases c9 : x = 0
  · exact eStep _ _ _ (kf c9) fun l b base L xs cA D p e R s m args below meth c H locs cells slots Q la hf hs hr hR hS hla hc hz k => lv_if_ne hf.1 hf.2.1 hd (jmp_eq hj) (fun z => absurd c9 z) (fun _ => k la hla)
  · exact eStep _ _ _ (kt c9) fun l b base L xs cA D p e R s m args below meth c H locs cells slots Q la hf hs hr hR hS hla hc hz k => lv_if_ne hf.1 hf.2.1 hd (jmp_eq hj) (fun _ => k la hla) (fun z => absurd z c9)
theorem m_icmp_ne {x y : Int32} {off : Int} (hd : decode (eB μ) pc = .ok (.if_icmp .ne off, 3)) (hj : okj pc off = true) (kt : ¬ x = y → eMP μ (jmp pc off) ls r σ o σo) (kf : x = y → eMP μ (pc + 3) ls r σ o σo) : eMP μ pc ls (.int y :: .int x :: r) σ o σo := by
  by_cases c9 : x = y
  · exact eStep _ _ _ (kf c9) fun l b base L xs cA D p e R s m args below meth c H locs cells slots Q la hf hs hr hR hS hla hc hz k => lv_icmp_ne hf.1 hf.2.1 hd (jmp_eq hj) (fun z => absurd c9 z) (fun _ => k la hla)
  · exact eStep _ _ _ (kt c9) fun l b base L xs cA D p e R s m args below meth c H locs cells slots Q la hf hs hr hR hS hla hc hz k => lv_icmp_ne hf.1 hf.2.1 hd (jmp_eq hj) (fun _ => k la hla) (fun z => absurd z c9)
theorem m_tableswitch {x : Int32} {dflt lo hi : Int} {offs : Array Int} {len : Nat} {off : Int} (hd : decode (eB μ) pc = .ok (.tableswitch dflt lo hi offs, len)) (ho : swT dflt lo hi offs x = some off) (hj : 0 ≤ (pc : Int) + off) (h : eMP μ (jmp pc off) ls r σ o σo) : eMP μ pc ls (.int x :: r) σ o σo := by
  refine eStep _ _ _ h fun l b base L xs cA D p e R s m args below meth c H locs cells slots Q la hf hs hr hR hS hla hc hz k => ?_
  unfold swT at ho
  have hj9 : (pc : Int) + off = (jmp pc off : Int) := by unfold jmp; omega
  by_cases c9 : x.toInt < lo ∨ hi < x.toInt
  · rw [if_pos c9] at ho
    cases ho
    exact lv_tableOut hf.1 hf.2.1 hd c9 hj9 (k la hla)
  · rw [if_neg c9] at ho
    exact lv_tableIn hf.1 hf.2.1 hd (fun z => c9 (Or.inl z)) (fun z => c9 (Or.inr z)) ho hj9 (k la hla)
theorem m_lookupswitch {x : Int32} {dflt : Int} {ps : Array (Int × Int)} {len : Nat} (hd : decode (eB μ) pc = .ok (.lookupswitch dflt ps, len)) (hp : (ps.toList.zip (ps.toList.drop 1)).all (fun (a, next) => a.1 < next.1) = true) (hj : 0 ≤ (pc : Int) + Op.lookupswitch.offset ps.toList dflt x.toInt) (h : eMP μ (jmp pc (Op.lookupswitch.offset ps.toList dflt x.toInt)) ls r σ o σo) : eMP μ pc ls (.int x :: r) σ o σo := by
  refine eStep _ _ _ h fun l b base L xs cA D p e R s m args below meth c H locs cells slots Q la hf hs hr hR hS hla hc hz k => ?_
  exact lv_lookup hf.1 hf.2.1 hd hp rfl (by unfold jmp; omega) (k la hla)
theorem eRoom {b base : Nat} {st : List Value} (h : stw st ≤ 8) : ((st.map (eVl b base)).map fun v => v.category).sum ≤ 8 := by
  have e : (st.map (eVl b base)).map (fun v => v.category) = st.map (fun v => v.category) := by
    rw [List.map_map]; apply List.map_congr_left; intro v _; exact eVl_cat b base v
  rw [e]; exact h
theorem m_dadd {x y : Int32} {i : Nat} (hd : decode (eB μ) pc = .ok (.invokestatic i, 3)) (hw : Cond.methodLink (eCN (eC μ)) i Lib.Math.max.name ∈ gTb) (hst : Cond.static Lib.Math.max.name ∈ gTb) (hin : Cond.initialized "java/lang/Math" ∈ gTb) (hco : Cond.code Lib.Math.max.name Lib.Math.max.code 2 (some .int) ∈ gTb) (hdp : 1 ≤ eDp μ) (h8 : stw r ≤ 8) (h : eMP μ (pc + 3) ls (.int (if x < y then y else x) :: r) σ o σo) : eMP μ pc ls (.int y :: .int x :: r) σ o σo := by
  refine eStep _ _ _ h fun l b base L xs cA D p e R s m args below meth c H locs cells slots Q la hf hs hr hR hS hla hc hz k => ?_
  have h9 := eRoom (b := b) (base := base) h8
  exact va_mmax hf.1 hf.2.1 (by rw [hf.2.2.2.1]; exact hla.1.symm) hf.2.2.2.2.1 (hf.2.2.2.2.2.1 _ hw) (hf.2.2.2.2.2.1 _ hst) (hf.2.2.2.2.2.1 _ hin) (hf.2.2.2.2.2.1 _ hco) (by have := hr.1; omega) (by have := hr.2; omega) hc hz hd (k la hla)
theorem m_dsub {x y : Int32} {i : Nat} (hd : decode (eB μ) pc = .ok (.invokestatic i, 3)) (hw : Cond.methodLink (eCN (eC μ)) i Lib.Math.min.name ∈ gTb) (hst : Cond.static Lib.Math.min.name ∈ gTb) (hin : Cond.initialized "java/lang/Math" ∈ gTb) (hco : Cond.code Lib.Math.min.name Lib.Math.min.code 2 (some .int) ∈ gTb) (hdp : 1 ≤ eDp μ) (h8 : stw r ≤ 8) (h : eMP μ (pc + 3) ls (.int (if y < x then y else x) :: r) σ o σo) : eMP μ pc ls (.int y :: .int x :: r) σ o σo := by
  refine eStep _ _ _ h fun l b base L xs cA D p e R s m args below meth c H locs cells slots Q la hf hs hr hR hS hla hc hz k => ?_
  have h9 := eRoom (b := b) (base := base) h8
  exact va_mmin hf.1 hf.2.1 (by rw [hf.2.2.2.1]; exact hla.1.symm) hf.2.2.2.2.1 (hf.2.2.2.2.2.1 _ hw) (hf.2.2.2.2.2.1 _ hst) (hf.2.2.2.2.2.1 _ hin) (hf.2.2.2.2.2.1 _ hco) (by have := hr.1; omega) (by have := hr.2; omega) hc hz hd (k la hla)
theorem m_objInit {a : Nat} {i : Nat} (hd : decode (eB μ) pc = .ok (.invokespecial i, 3)) (hw : Cond.methodLink (eCN (eC μ)) i objectInit ∈ gTb) (hst : Cond.instanceMethod objectInit ∈ gTb) (hco : Cond.code objectInit ⟨#[0xb1]⟩ 1 none ∈ gTb) (hdp : 1 ≤ eDp μ) (h8 : stw r ≤ 8) (h : eMP μ (pc + 3) ls r σ o σo) : eMP μ pc ls (.ref a :: r) σ o σo := by
  refine eStep _ _ _ h fun l b base L xs cA D p e R s m args below meth c H locs cells slots Q la hf hs hr hR hS hla hc hz k => ?_
  have h9 := eRoom (b := b) (base := base) h8
  refine W.objInit hf.1 hf.2.1 hf.2.2.2.2.1 (hf.2.2.2.2.2.1 _ hw) (hf.2.2.2.2.2.1 _ hst) (hf.2.2.2.2.2.1 _ hco) rfl (by rw [hf.2.2.2.1]; exact hla.1) rfl hd (by have := hr.1; omega) (by have := hr.2; have e : (F0 m pc la ((Value.ref a :: r).map (eVl b base))).monitorRoom = 0 := rfl; rw [e]; omega) ?_
  exact k la hla
end
