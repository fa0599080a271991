/-! The pure picture of a run: a store of numbered cells; what a row of instructions does to it ('wp', backwards); 'Run', the least relation closed under rows of instructions. -/
/-- ints, longs, references (0: null), kinds (an object of a class by number, or an array), how many cells there are (0 is the script), how many were thrown, how many slots were made -/
abbrev eS : Type := (Nat → Nat → Int32) × (Nat → Nat → Int64) × (Nat → Nat → Nat) × (Nat → Nat ⊕ (FieldType × Nat)) × (Nat × Nat × Nat)
abbrev sI (σ : eS) : Nat → Nat → Int32 := σ.1
abbrev sL (σ : eS) : Nat → Nat → Int64 := σ.2.1
abbrev sR (σ : eS) : Nat → Nat → Nat := σ.2.2.1
abbrev sK (σ : eS) : Nat → Nat ⊕ (FieldType × Nat) := σ.2.2.2.1
abbrev sN (σ : eS) : Nat := σ.2.2.2.2.1
abbrev sH (σ : eS) : Nat := σ.2.2.2.2.2.1
abbrev sZ (σ : eS) : Nat := σ.2.2.2.2.2.2
def u2 {α : Type} (f : Nat → Nat → α) (a i : Nat) (x : α) : Nat → Nat → α := fun b j => if b = a then (if j = i then x else f b j) else f b j
def u1 {α : Type} (f : Nat → Nat → α) (a : Nat) (g : Nat → α) : Nat → Nat → α := fun b j => if b = a then g j else f b j
abbrev setI (σ : eS) (a i : Nat) (x : Int32) : eS := (u2 (sI σ) a i x, sL σ, sR σ, sK σ, σ.2.2.2.2)
abbrev setL (σ : eS) (a i : Nat) (x : Int64) : eS := (sI σ, u2 (sL σ) a i x, sR σ, sK σ, σ.2.2.2.2)
abbrev setR (σ : eS) (a i : Nat) (x : Nat) : eS := (sI σ, sL σ, u2 (sR σ) a i x, sK σ, σ.2.2.2.2)
abbrev newK (σ : eS) (kd : Nat ⊕ (FieldType × Nat)) (z : Nat) : eS := (u1 (sI σ) (sN σ) (fun _ => 0), u1 (sL σ) (sN σ) (fun _ => 0), u1 (sR σ) (sN σ) (fun _ => 0), (fun b => if b = sN σ then kd else sK σ b), (sN σ + 1, sH σ, sZ σ + z))
abbrev thrS (σ : eS) : eS := (sI σ, sL σ, sR σ, sK σ, (sN σ, sH σ + 1, sZ σ + 6))
abbrev cpyI (σ : eS) (a0 a sp dp n : Nat) : eS := (u1 (sI σ) a (va_cpy (sI σ a0) (sI σ a) sp dp n), sL σ, sR σ, sK σ, σ.2.2.2.2)
abbrev cpyL (σ : eS) (a0 a sp dp n : Nat) : eS := (sI σ, u1 (sL σ) a (va_cpy (sL σ a0) (sL σ a) sp dp n), sR σ, sK σ, σ.2.2.2.2)
def isO (σ : eS) (a ci : Nat) : Prop := 0 < a ∧ a < sN σ ∧ sK σ a = .inl ci
def isA (σ : eS) (a : Nat) (ty : FieldType) (n : Nat) : Prop := a < sN σ ∧ sK σ a = .inr (ty, n)
/-- the receiver of a call is there -/
def recvOk (q : Nat) (as : List Value) (σ : eS) : Prop := match eKd q with
  | 0 => (match as with | .ref b :: _ => isO σ b (eC q) | _ => False)
  | 2 => (match as with | .ref b :: _ => isO σ b (eC q) | _ => False)
  | _ => True
def retI (rt : Option FieldType) (x : Int32) (A : Prop) : Prop := match rt with | some ty => narrow ty (.int x) = .int x ∧ A | none => False
abbrev eLs : Type := List (Nat × Value)
def lk (ls : eLs) (i : Nat) : Option Value := match ls with
  | [] => none
  | q :: r => if q.1 = i then some q.2 else lk r i
abbrev fl1 (ls : eLs) (i : Nat) : eLs := ls.filter (fun q => !(q.1 == i) && !(q.1 + 1 == i && q.2.category == 2))
abbrev fl2 (ls : eLs) (i : Nat) : eLs := ls.filter (fun q => !(q.1 == i) && (!(q.1 == i + 1) && !(q.1 + 1 == i && q.2.category == 2)))
def okI (ty : FieldType) (x : Int32) : Prop := narrow ty (.int x) = .int x ∧ fits ty (.int x) = true
def stw (st : List Value) : Nat := (st.map fun v => v.category).sum
abbrev eO : Type := Option Value ⊕ Nat
abbrev eD : Type := Nat → List Value → eS → eO → eS → Prop
abbrev jmp (pc : Nat) (off : Int) : Nat := ((pc : Int) + off).toNat
/-- where a switch goes -/
def swT (dflt lo hi : Int) (offs : Array Int) (x : Int32) : Option Int := if x.toInt < lo ∨ hi < x.toInt then some dflt else offs[(x.toInt - lo).toNat]?
section
variable (D : eD) (rt : Option FieldType) (Rt : Option Value → eS → Prop) (Th : Nat → Nat → eLs → eS → Prop) (Q : Nat → eLs → List Value → eS → Prop)
def wp1 (op : Instr) (pc : Nat) (ls : eLs) (st : List Value) (σ : eS) (k : eLs → List Value → eS → Prop) : Prop :=
  match op with
  | .aload_n n => match lk ls n with | some (.ref a) => k ls (.ref a :: st) σ | _ => False
  | .aload n => match lk ls n with | some (.ref a) => k ls (.ref a :: st) σ | _ => False
  | .iload_n n => match lk ls n with | some (.int x) => k ls (.int x :: st) σ | _ => False
  | .iload n => match lk ls n with | some (.int x) => k ls (.int x :: st) σ | _ => False
  | .lload_n n => match lk ls n with | some (.long x) => k ls (.long x :: st) σ | _ => False
  | .lload n => match lk ls n with | some (.long x) => k ls (.long x :: st) σ | _ => False
  | .iconst v => k ls (.int (Int32.ofInt v) :: st) σ
  | .lconst v => k ls (.long (Int64.ofNat v) :: st) σ
  | .ldc2_w v => k ls (.long (Int64.ofNat v) :: st) σ
  | .istore_n i => match st with | .int x :: r => k ((i, .int x) :: fl1 ls i) r σ | _ => False
  | .istore i => match st with | .int x :: r => k ((i, .int x) :: fl1 ls i) r σ | _ => False
  | .astore_n i => match st with | .ref x :: r => k ((i, .ref x) :: fl1 ls i) r σ | _ => False
  | .astore i => match st with | .ref x :: r => k ((i, .ref x) :: fl1 ls i) r σ | _ => False
  | .lstore_n i => match st with | .long x :: r => k ((i, .long x) :: fl2 ls i) r σ | _ => False
  | .lstore i => match st with | .long x :: r => k ((i, .long x) :: fl2 ls i) r σ | _ => False
  | .iinc i n => match lk ls i with | some (.int x) => k ((i, .int (x + Int32.ofInt n)) :: fl1 ls i) st σ | _ => False
  | .iadd => match st with | .int y :: .int x :: r => k ls (.int (x + y) :: r) σ | _ => False
  | .isub => match st with | .int y :: .int x :: r => k ls (.int (x - y) :: r) σ | _ => False
  | .imul => match st with | .int y :: .int x :: r => k ls (.int (x * y) :: r) σ | _ => False
  | .idiv => match st with | .int y :: .int x :: r => ¬ y = 0 ∧ k ls (.int (x / y) :: r) σ | _ => False
  | .irem => match st with | .int y :: .int x :: r => ¬ y = 0 ∧ k ls (.int (x - x / y * y) :: r) σ | _ => False
  | .iand => match st with | .int y :: .int x :: r => k ls (.int (x &&& y) :: r) σ | _ => False
  | .ishr => match st with | .int y :: .int x :: r => k ls (.int (x >>> (y &&& 31)) :: r) σ | _ => False
  | .iushr => match st with | .int y :: .int x :: r => k ls (.int (x.toUInt32 >>> (y.toUInt32 &&& Int32.toUInt32 31)).toInt32 :: r) σ | _ => False
  | .i2l => match st with | .int x :: r => k ls (.long x.toInt64 :: r) σ | _ => False
  | .ladd => match st with | .long y :: .long x :: r => k ls (.long (x + y) :: r) σ | _ => False
  | .lsub => match st with | .long y :: .long x :: r => k ls (.long (x - y) :: r) σ | _ => False
  | .lmul => match st with | .long y :: .long x :: r => k ls (.long (x * y) :: r) σ | _ => False
  | .ldiv => match st with | .long y :: .long x :: r => ¬ y = 0 ∧ k ls (.long (x / y) :: r) σ | _ => False
  | .land => match st with | .long y :: .long x :: r => k ls (.long (x &&& y) :: r) σ | _ => False
  | .lor => match st with | .long y :: .long x :: r => k ls (.long (x ||| y) :: r) σ | _ => False
  | .lshl => match st with | .int y :: .long x :: r => k ls (.long (x <<< (y.toInt64 &&& 63)) :: r) σ | _ => False
  | .lcmp => match st with | .long y :: .long x :: r => k ls (.int (lg_cmp x y) :: r) σ | _ => False
  | .dup => match st with | v :: r => v.category = 1 ∧ k ls (v :: v :: r) σ | _ => False
  | .dup2 => match st with | v :: w :: r => v.category = 1 ∧ w.category = 1 ∧ k ls (v :: w :: v :: w :: r) σ | _ => False
  | .pop2 => match st with | .long _ :: r => k ls r σ | _ => False
  | .goto off => Q (jmp pc off) ls st σ
  | .ifCond c off => match st with
    | .int x :: r => (match c with
      | .eq => (x = 0 → Q (jmp pc off) ls r σ) ∧ (¬ x = 0 → k ls r σ)
      | .ne => (¬ x = 0 → Q (jmp pc off) ls r σ) ∧ (x = 0 → k ls r σ)
      | .lt => (x < 0 → Q (jmp pc off) ls r σ) ∧ (¬ x < 0 → k ls r σ)
      | .ge => (0 ≤ x → Q (jmp pc off) ls r σ) ∧ (¬ 0 ≤ x → k ls r σ)
      | .gt => (0 < x → Q (jmp pc off) ls r σ) ∧ (¬ 0 < x → k ls r σ)
      | .le => (x ≤ 0 → Q (jmp pc off) ls r σ) ∧ (¬ x ≤ 0 → k ls r σ))
    | _ => False
  | .if_icmp c off => match st with
    | .int y :: .int x :: r => (match c with
      | .eq => (x = y → Q (jmp pc off) ls r σ) ∧ (¬ x = y → k ls r σ)
      | .ne => (¬ x = y → Q (jmp pc off) ls r σ) ∧ (x = y → k ls r σ)
      | .lt => (x < y → Q (jmp pc off) ls r σ) ∧ (¬ x < y → k ls r σ)
      | .ge => (y ≤ x → Q (jmp pc off) ls r σ) ∧ (¬ y ≤ x → k ls r σ)
      | .gt => (y < x → Q (jmp pc off) ls r σ) ∧ (¬ y < x → k ls r σ)
      | .le => (x ≤ y → Q (jmp pc off) ls r σ) ∧ (¬ x ≤ y → k ls r σ))
    | _ => False
  | .tableswitch dflt lo hi offs => match st with
    | .int x :: r => ∃ off, swT dflt lo hi offs x = some off ∧ 0 ≤ (pc : Int) + off ∧ Q (jmp pc off) ls r σ
    | _ => False
  | .lookupswitch dflt ps => match st with
    | .int x :: r => 0 ≤ (pc : Int) + Op.lookupswitch.offset ps.toList dflt x.toInt ∧ Q (jmp pc (Op.lookupswitch.offset ps.toList dflt x.toInt)) ls r σ
    | _ => False
  | .getfield f => match st with
    | .ref a :: r => isO σ a (f / 64) ∧ (match eRf (f / 64) (f % 64) with
      | true => ¬ sR σ a (f % 64) = 0 ∧ k ls (.ref (sR σ a (f % 64)) :: r) σ
      | false => k ls (.int (sI σ a (f % 64)) :: r) σ)
    | _ => False
  | .putfield f => match st with
    | v :: .ref a :: r => isO σ a (f / 64) ∧ (match eRf (f / 64) (f % 64) with
      | true => (match v with | .ref b => 0 < b ∧ k ls r (setR σ a (f % 64) b) | _ => False)
      | false => (match v with | .int x => okI (eTy (f / 64) (f % 64)) x ∧ k ls r (setI σ a (f % 64) x) | _ => False))
    | _ => False
  | .iaload => match st with
    | .int i :: .ref a :: r => ∃ n, isA σ a .int n ∧ vp_in i n ∧ k ls (.int (sI σ a i.toNatClampNeg) :: r) σ
    | _ => False
  | .baload => match st with
    | .int i :: .ref a :: r => ∃ ty n, (ty = .boolean ∨ ty = .byte) ∧ 0 < a ∧ isA σ a ty n ∧ vp_in i n ∧ k ls (.int (sI σ a i.toNatClampNeg) :: r) σ
    | _ => False
  | .laload => match st with
    | .int i :: .ref a :: r => ∃ n, 0 < a ∧ isA σ a .long n ∧ vp_in i n ∧ k ls (.long (sL σ a i.toNatClampNeg) :: r) σ
    | _ => False
  | .aaload => match st with
    | .int i :: .ref a :: r => ∃ C n, 0 < a ∧ isA σ a (.object C) n ∧ vp_in i n ∧ ¬ sR σ a i.toNatClampNeg = 0 ∧ k ls (.ref (sR σ a i.toNatClampNeg) :: r) σ
    | _ => False
  | .iastore => match st with
    | .int x :: .int i :: .ref a :: r => ∃ n, 0 < a ∧ isA σ a .int n ∧ vp_in i n ∧ k ls r (setI σ a i.toNatClampNeg x)
    | _ => False
  | .bastore => match st with
    | .int x :: .int i :: .ref a :: r => ∃ ty n, (ty = .boolean ∨ ty = .byte) ∧ 0 < a ∧ isA σ a ty n ∧ vp_in i n ∧ k ls r (setI σ a i.toNatClampNeg (vp_nar ty x))
    | _ => False
  | .lastore => match st with
    | .long x :: .int i :: .ref a :: r => ∃ n, 0 < a ∧ isA σ a .long n ∧ vp_in i n ∧ k ls r (setL σ a i.toNatClampNeg x)
    | _ => False
  | .aastore => match st with
    | .ref v :: .int i :: .ref a :: r => ∃ ci n, ci < 10 ∧ 0 < a ∧ isA σ a (.object (eCN ci)) n ∧ vp_in i n ∧ isO σ v ci ∧ k ls r (setR σ a i.toNatClampNeg v)
    | _ => False
  | .arraylength => match st with
    | .ref a :: r => ∃ ty n, isA σ a ty n ∧ k ls (.int (Int32.ofNat n) :: r) σ
    | _ => False
  | .new c => sH σ = 0 ∧ k ls (.ref (sN σ) :: st) (newK σ (.inl c) (eNF c))
  | .newarray t => match st with
    | .int n :: r => sH σ = 0 ∧ ¬ n < 0 ∧ n.toNatClampNeg ≤ 100000 ∧ k ls (.ref (sN σ) :: r) (newK σ (.inr (newarray.typeOf t, n.toNatClampNeg)) n.toNatClampNeg)
    | _ => False
  | .anewarray c => match st with
    | .int n :: r => sH σ = 0 ∧ ¬ n < 0 ∧ n.toNatClampNeg ≤ 100000 ∧ k ls (.ref (sN σ) :: r) (newK σ (.inr (.object (eCN c), n.toNatClampNeg)) n.toNatClampNeg)
    | _ => False
  | .dadd => match st with | .int y :: .int x :: r => stw r ≤ 8 ∧ k ls (.int (if x < y then y else x) :: r) σ | _ => False
  | .dsub => match st with | .int y :: .int x :: r => stw r ≤ 8 ∧ k ls (.int (if y < x then y else x) :: r) σ | _ => False
  | .monitorenter => match st with | .ref _ :: r => stw r ≤ 8 ∧ k ls r σ | _ => False
  | .monitorexit => match st with
    | .int n :: .int dp :: .ref a :: .int sp :: .ref a0 :: r => stw r ≤ 8 ∧ ¬ sp < 0 ∧ ¬ dp < 0 ∧ ¬ n < 0 ∧ 0 < a0 ∧ 0 < a ∧
      ((∃ n0 n1, isA σ a0 .int n0 ∧ isA σ a .int n1 ∧ sp.toNatClampNeg + n.toNatClampNeg ≤ n0 ∧ dp.toNatClampNeg + n.toNatClampNeg ≤ n1 ∧ k ls r (cpyI σ a0 a sp.toNatClampNeg dp.toNatClampNeg n.toNatClampNeg)) ∨
       (∃ n0 n1, isA σ a0 .long n0 ∧ isA σ a .long n1 ∧ sp.toNatClampNeg + n.toNatClampNeg ≤ n0 ∧ dp.toNatClampNeg + n.toNatClampNeg ≤ n1 ∧ k ls r (cpyL σ a0 a sp.toNatClampNeg dp.toNatClampNeg n.toNatClampNeg)))
    | _ => False
  | .invokeinterface q n => n ≤ st.length ∧ stw (st.take n).reverse ≤ eL q ∧ stw (st.drop n) ≤ 8 ∧
      recvOk q (st.take n).reverse σ ∧
      ((∃ v σ1, D q (st.take n).reverse σ (.inl v) σ1 ∧ k ls (v.toList ++ st.drop n) σ1) ∨ (∃ e σ1, ¬ eKd q = 3 ∧ D q (st.take n).reverse σ (.inr e) σ1 ∧ Th e pc ls σ1))
  | .checkcast e => stw st ≤ 8 ∧ Th e pc ls (thrS σ)
  | .ireturn => match st with | [.int x] => retI rt x (Rt (some (.int x)) σ) | _ => False
  | .lreturn => match st with | [.long x] => rt = some .long ∧ Rt (some (.long x)) σ | _ => False
  | .return_ => match st with | [] => rt = none ∧ Rt none σ | _ => False
  | _ => False
/-- a row of instructions (with their lengths) from pc on; past the last one, the exit Q -/
def wp : List (Instr × Nat) → Nat → eLs → List Value → eS → Prop
  | [], pc, ls, st, σ => Q pc ls st σ
  | (op, len) :: r, pc, ls, st, σ => wp1 D rt Rt Th Q op pc ls st σ (fun ls st σ => wp r (pc + len) ls st σ)
end
