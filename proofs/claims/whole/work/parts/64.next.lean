/-! step: what is worked next; a machine's run; what is kept. -/
def bit (x : Int32) (k : Nat) : Bool := x.toBitVec.getLsbD k
theorem bit_s {x : Int32} {k : Nat} (hk : k < 32) : ((x >>> (nI k &&& 31)) &&& 1).toBitVec = (BitVec.ofBool (bit x k)).setWidth 32 := by
  have e : ((nI k &&& 31).toBitVec.smod 32).toNat = k := (by decide : ∀ k : Fin 32, ((nI k.val &&& 31).toBitVec.smod 32).toNat = k.val) ⟨k, hk⟩
  show (x.toBitVec.sshiftRight ((nI k &&& 31).toBitVec.smod 32).toNat) &&& 1#32 = _
  rw [e, BitVec.and_one_eq_setWidth_ofBool_getLsbD, BitVec.getLsbD_sshiftRight]
  simp [bit, hk]
theorem bit_u {x : Int32} {k : Nat} (hk : k < 32) : (((x.toUInt32 >>> ((nI k).toUInt32 &&& Int32.toUInt32 31)).toInt32) &&& 1).toBitVec = (BitVec.ofBool (bit x k)).setWidth 32 := by
  have e : (((nI k).toUInt32 &&& Int32.toUInt32 31).toBitVec % 32).toNat = k := (by decide : ∀ k : Fin 32, (((nI k.val).toUInt32 &&& Int32.toUInt32 31).toBitVec % 32).toNat = k.val) ⟨k, hk⟩
  show (x.toBitVec >>> (((nI k).toUInt32 &&& Int32.toUInt32 31).toBitVec % 32).toNat) &&& 1#32 = _
  rw [e, BitVec.and_one_eq_setWidth_ofBool_getLsbD, BitVec.getLsbD_ushiftRight]
  rfl
theorem bw1 {b : Bool} {x : Int32} (h : x.toBitVec = (BitVec.ofBool b).setWidth 32) : (x = 1 ↔ b = true) ∧ (x = 0 ↔ b = false) := by
  rw [← Int32.toBitVec_inj, ← Int32.toBitVec_inj, h]
  cases b <;> decide
abbrev wP (st fv : Nat → Nat) (S T : Int32) (tys : Nat → Int32) (e : Nat) : Bool := (decide (st e < 32) && (bit S (st e) && bit T (tys e).toNatClampNeg)) && vis st fv e
section
variable {L h z n t c : Nat} {st tm fv fv' : Nat → Nat} {I I' M M' : rI} {J K J' K' : rJ}
theorem s61 {p s k : Nat} (hp : p < 8) (hs : s < 40) (hk : k < 16) : dP 61 [.ref (105 + 5 * p), .int (nI s), .int (nI k)] L h z I J (bb (decide (s < 32) && (bit (I (105 + 5 * p) 3) s && bit (I (105 + 5 * p) 4) k))) := by
  have l32 : ¬ (32 : Int32) ≤ nI s ↔ s < 32 := by rw [show (32 : Int32) = nI 32 from rfl, nI_leI (by omega) (by omega)]; omega
  refine r61_0 (sP hp) ⟨fun q => ?_, fun q => ?_⟩
  · rw [decide_eq_false (fun k => l32.mpr k q)]; exact ⟨rfl, rfl⟩
  · have q := l32.mp q
    have b1 := bw1 (bit_u (x := I (105 + 5 * p) 3) q)
    have b2 := bw1 (bit_u (x := I (105 + 5 * p) 4) (show k < 32 by omega))
    rw [decide_eq_true q, Bool.true_and]
    refine ⟨fun q1 => ?_, fun q1 => ⟨fun q2 => ?_, fun q2 => ?_⟩⟩
    · rw [Bool.eq_false_iff.mpr (fun k => q1 (b1.1.mpr k))]; exact ⟨rfl, rfl⟩
    · rw [b1.1.mp q1, Bool.eq_false_iff.mpr (fun k => q2 (b2.1.mpr k))]; exact ⟨rfl, rfl⟩
    · rw [b1.1.mp q1, b2.1.mp q2]; exact ⟨rfl, rfl⟩
theorem s60_loop {p : Nat} (hp : p < 8) (hE : IE n t st tm fv I J M K) : ∀ m j, j + m = n →
    Run 60 5 [(0, .ref (105 + 5 * p)), (1, .ref 10), (2, .int (nI j))] [] (mS L I J h z) (.inl (some (.int (oI (sk (wP st fv (I (105 + 5 * p) 3) (I (105 + 5 * p) 4) (I 14)) m j))))) (mS L I J h z) := by
  have n1 := hE.1
  have h7 := hE.2.2.1
  obtain ⟨g1, g2, g3, g4, g5, g6⟩ := hE.2.2.2.2.2.2.1
  intro m
  induction m with
  | zero =>
    intro j hj
    refine r60_5 (sP hp) ⟨fun _ => ⟨rfl, rfl⟩, fun q => absurd ?_ q⟩
    rw [h7]; exact nI_le (by omega) (by omega)
  | succ m ih =>
    intro j hj
    have hi := ih (j + 1) (by omega)
    obtain ⟨d1, d2, d3, d4, d5, d6, d7, ⟨k, hk, hk2⟩⟩ := hE.2.2.2.2.2.2.2.1 j (by omega)
    have F : wP st fv (I (105 + 5 * p) 3) (I (105 + 5 * p) 4) (I 14) j = false → Run 60 5 [(0, .ref (105 + 5 * p)), (1, .ref 10), (2, .int (nI j + 1))] [] (mS L I J h z) (.inl (some (.int (oI (sk (wP st fv (I (105 + 5 * p) 3) (I (105 + 5 * p) 4) (I 14)) (m + 1) j))))) (mS L I J h z) := fun q => by
      rw [sk, if_neg (by rw [q]; decide), nI_1]; exact hi
    have ek : I 14 j = nI k := by rw [g4]; exact hk2
    have ew : wP st fv (I (105 + 5 * p) 3) (I (105 + 5 * p) 4) (I 14) j = ((decide (st j < 32) && (bit (I (105 + 5 * p) 3) (st j) && bit (I (105 + 5 * p) 4) k)) && vis st fv j) := by
      unfold wP; rw [ek, cl k (by omega)]
    refine r60_5 (sP hp) ⟨fun q => ?_, fun _ => ?_⟩
    · rw [h7] at q; exact absurd ((nI_leI (by omega) (by omega)).mp q) (by omega)
    rw [cl j (by omega), g1, d2, ek]
    refine ⟨vp_in_nI (by omega) (by omega), _, s61 hp d1 hk, fun q => F ?_, fun q => ⟨_, vis_13 hE (by omega), fun q2 => F ?_, fun q2 => ?_⟩⟩
    · rw [ew, b_eq.mp q]; rfl
    · rw [ew, b_eq.mp q2]; simp
    · rw [sk, if_pos (by rw [ew, b_ne.mp q, b_ne.mp q2]; rfl)]; exact ⟨rfl, rfl⟩
theorem s60 {p cu : Nat} (hp : p < 8) (hE : IE n t st tm fv I J M K) (hcu : I (105 + 5 * p) 6 = nI cu) (hcn : cu ≤ n) : dP 60 [.ref (105 + 5 * p), .ref 10] L h z I J (oI (sk (wP st fv (I (105 + 5 * p) 3) (I (105 + 5 * p) 4) (I 14)) (n - cu) cu)) := by
  refine r60_0 (sP hp) ?_
  rw [hcu]
  exact s60_loop hp hE (n - cu) cu (by omega)
def nxt (n : Nat) (r : Option Nat) : Nat := match r with | none => n | some e => e
theorem s146_nx {p : Nat} {o : eO} {σo : eS} (hp : p < 8) (hE : IE n t st tm fv I J M K) : ∀ m j, j + m = n → Run 146 145 [(0, .ref 145), (1, .int (nI p)), (2, .int (nI (nxt n (sk (wP st fv (M 174 p) (M 175 p) (M 149)) m j))))] [] (mS L M K h z) o σo → Run 146 75 [(0, .ref 145), (1, .int (nI p)), (2, .int (nI j))] [] (mS L M K h z) o σo := by
  have n1 := hE.1
  have h13 := hE.2.2.2.1
  have hv8 : vp_in (nI p) 8 := vp_in_nI hp (by omega)
  have hcp := cl p (by omega)
  intro m
  induction m with
  | zero =>
    intro j hj H
    refine r146_75 ⟨fun _ => by rw [show j = n by omega]; exact H, fun q => absurd ?_ q⟩
    rw [h13]; exact nI_le (by omega) (by omega)
  | succ m ih =>
    intro j hj H
    obtain ⟨d1, d2, d3, d4, d5, d6, d7, ⟨k, hk, hk2⟩⟩ := hE.2.2.2.2.2.2.2.1 j (by omega)
    have hv := M_vis hE (show j < n by omega)
    have ew : wP st fv (M 174 p) (M 175 p) (M 149) j = ((decide (st j < 32) && (bit (M 174 p) (st j) && bit (M 175 p) k)) && vis st fv j) := by
      unfold wP; rw [hk2, cl k (by omega)]
    have F : wP st fv (M 174 p) (M 175 p) (M 149) j = false → Run 146 75 [(0, .ref 145), (1, .int (nI p)), (2, .int (nI j + 1))] [] (mS L M K h z) o σo := fun q => by
      rw [sk, if_neg (by rw [q]; decide)] at H
      rw [nI_1]; exact ih (j + 1) (by omega) H
    have l31 : (31 : Int32) < nI (st j) ↔ ¬ st j < 32 := by rw [show (31 : Int32) = nI 31 from rfl, nI_ltI (by omega) (by omega)]; omega
    refine r146_75 ⟨fun q => ?_, fun _ => ?_⟩
    · rw [h13] at q; exact absurd ((nI_leI (by omega) (by omega)).mp q) (by omega)
    rw [cl j (by omega), hcp, d2, hk2]
    refine ⟨vp_in_nI (by omega) (by omega), fun q => F ?_, fun q => ⟨fun q1 => F ?_, fun q1 => ⟨hv8, fun q2 => F ?_, fun q2 => ⟨fun q3 => ?_, fun q3 => F ?_⟩⟩⟩⟩
    · rw [ew, Bool.eq_false_iff.mpr (fun k => q (hv.mpr k))]; simp
    · rw [ew, decide_eq_false (l31.mp q1)]; rfl
    all_goals have q1 : st j < 32 := Classical.byContradiction fun k => q1 (l31.mpr k)
    all_goals have b1 := bw1 (bit_s (x := M 174 p) q1)
    · rw [ew, b1.2.mp q2]; simp
    all_goals have b2 := bw1 (bit_s (x := M 175 p) (show k < 32 by omega))
    · have e1 : bit (M 174 p) (st j) = true := by cases hb : bit (M 174 p) (st j) with | true => rfl | false => exact absurd (b1.2.mpr hb) q2
      have e2 : bit (M 175 p) k = true := by cases hb : bit (M 175 p) k with | true => rfl | false => exact absurd (b2.2.mpr hb) q3
      rw [sk, if_pos (by rw [ew, e1, e2, decide_eq_true q1, hv.mp q]; rfl)] at H
      exact H
    · rw [ew, b2.2.mp q3]; simp
theorem s62 {p s : Nat} (hp : p < 8) : dP 62 [.ref (105 + 5 * p), .int (nI s)] L h z I J (nI (if I (105 + 5 * p) 5 = 0 then 4 * s else 0)) := by
  refine r62_0 (sP hp) ⟨fun q => ?_, fun q => ?_⟩
  · rw [if_pos q, show (4 : Int32) = nI 4 from rfl, nI_mul, Nat.mul_comm]; exact ⟨rfl, rfl⟩
  · rw [if_neg q]; exact ⟨rfl, rfl⟩
theorem s40 {p e s v : Nat} {f a : Nat → Int32} {d y s' u : Int64} {w : Nat → Int64} (hp : p < 8) (hc : c ≤ 64) (he : e < 2500) (hok : ∀ i, i < c → okOp (f i) (a i) ∧ (f i = 16 ∨ f i = 17 → ∃ k, k ≤ c ∧ a i = nI k)) (hf : ∀ i, i < c → I (107 + 5 * p) i = f i ∧ I (108 + 5 * p) i = a i) (h2 : I (106 + 5 * p) 2 = nI c)
    (hd : J 15 e = d) (hy : (I 14 e).toInt64 = y) (hs : (I 11 e).toInt64 = s') (hu : (I 12 e).toInt64 = u) (hse : I 11 e = nI s) (hs32 : s < 32) (hv : v = if I (105 + 5 * p) 5 = 0 then 4 * s else 0) (hw : ∀ i, i < 4 → J (109 + 5 * p) (v + i) = w i) :
    ∃ (I' : rI) (J' : rJ), (∀ L h z, dU 40 [.ref 58, .ref (105 + 5 * p), .ref 10, .int (nI e)] L h z I J I' J') ∧ FrC I J I' J' ∧ finC I' J' (vm c f a d y s' u 200 (0, (fun _ => 0), w, 0, (fun _ => 0), (fun _ => 0), 0)) := by
  have hv4 : v ≤ 124 := by rw [hv]; split <;> omega
  have fr0 : FrC I J (u2 (u2 (u2 (u2 (u2 I 58 4 0) 58 5 0) 58 6 0) 58 7 (nI c)) 58 8 0) (u1 J 60 (va_cpy (J (109 + 5 * p)) (J 60) v 0 4)) := ⟨fun b q1 q2 => by rw [u2_ne q1, u2_ne q1, u2_ne q1, u2_ne q1, u2_ne q1], fun b q1 q2 q3 => u1_ne q2⟩
  have r0 : resC c (u2 (u2 (u2 (u2 (u2 I 58 4 0) 58 5 0) 58 6 0) 58 7 (nI c)) 58 8 0) (u1 J 60 (va_cpy (J (109 + 5 * p)) (J 60) v 0 4)) (some (0, (fun _ => 0), w, 0, (fun _ => 0), (fun _ => 0), 0)) := by
    refine ⟨e58, by omega, ?_, by omega, ?_, by omega, ?_, ?_, fun i hi => absurd hi (by omega), fun i hi => ?_, fun i hi => absurd hi (by omega)⟩
    · rw [r58 (by omega), r58 (by omega), r58 (by omega), e58]; rfl
    · rw [r58 (by omega), r58 (by omega), r58 (by omega), r58 (by omega), e58]; rfl
    · rw [r58 (by omega), r58 (by omega), e58]; rfl
    · rw [r58 (by omega), e58]
    · rw [u1_at, if_pos rfl]
      unfold va_cpy
      rw [if_pos ⟨by omega, by omega⟩, show v + (i - 0) = v + i by omega]
      exact hw i hi
  obtain ⟨I', J', z1, z2, z3⟩ := loopC hp hc he hok hf hd hy hs hu 200 0 _ _ _ (by omega) r0 fr0
  refine ⟨I', J', fun L h z => ?_, FrC_tr fr0 z2, z3⟩
  have k62 := s62 (L := L) (h := h) (z := z) (I := I) (J := J) (s := s) hp
  rw [← hv] at k62
  refine r40_0 (sP hp) ⟨vp_in_nI he (by omega), ?_⟩
  rw [cl e (by omega), hse]
  refine ⟨_, k62, nI_n0 (by omega), ?_, ?_⟩
  · rw [cl v (by omega)]; show v + 4 ≤ 128; omega
  · rw [(R0_p hp).1, (R0_p hp).2.2.2, cl v (by omega)]
    have e7 : u2 (u2 (u2 I 58 4 0) 58 5 0) 58 6 0 (106 + 5 * p) 2 = nI c := by rw [u2_ne (by omega), u2_ne (by omega), u2_ne (by omega)]; exact h2
    rw [e7]
    exact z1 L h z
theorem s63 {p s v : Nat} (hp : p < 8) (hs32 : s < 32) (hv : v = if I (105 + 5 * p) 5 = 0 then 4 * s else 0) : dU 63 [.ref (105 + 5 * p), .ref 58, .int (nI s)] L h z I J I (u1 J (109 + 5 * p) (va_cpy (J 60) (J (109 + 5 * p)) 0 v 4)) := by
  have hv4 : v ≤ 124 := by rw [hv]; split <;> omega
  have k62 := s62 (L := L) (h := h) (z := z) (I := I) (J := J) (s := s) hp
  rw [← hv] at k62
  refine r63_0 (sP hp) ⟨_, k62, nI_n0 (by omega), ?_, rfl, ?_⟩
  · rw [cl v (by omega)]; show v + 4 ≤ 128; omega
  · rw [(R0_p hp).2.2.2, cl v (by omega)]; rfl
theorem s22 {s m f : Nat} {x3 : Int32} {tys : Nat → Int32} {ds : Nat → Int64} (hs : s < 40) (hm : m ≤ 4) (hn : n + m ≤ 2500) (h4 : I 58 4 = nI m) (h7 : I 10 7 = nI n) (h61 : ∀ i, i < m → I 61 i = tys i ∧ J 62 i = ds i)
    (H : dU 24 [.ref 10, .int (nI s)] L h z (cAn s n (fun i => x3 + nI i) tys I m) (jAn 15 n ds J m) (u2 (cAn s n (fun i => x3 + nI i) tys I m) (18 + s) 5 (nI f)) (jAn 15 n ds J m)) : dU 22 [.ref 10, .ref 58, .int (nI s), .int x3] L h z I J (u2 (cAn s n (fun i => x3 + nI i) tys I m) (18 + s) 5 (nI f)) (jAn 15 n ds J m) := by
  have lp : ∀ m' j, j + m' = m → Run 22 3 [(0, .ref 10), (1, .ref 58), (2, .int (nI s)), (3, .int x3), (4, .int (nI j))] [] (mS L (cAn s n (fun i => x3 + nI i) tys I j) (jAn 15 n ds J j) h z) (.inl none) (mS L (u2 (cAn s n (fun i => x3 + nI i) tys I m) (18 + s) 5 (nI f)) (jAn 15 n ds J m) h z) := by
    intro m'
    induction m' with
    | zero =>
      intro j hj
      have : j = m := by omega
      subst this
      refine r22_3 ⟨fun _ => ⟨_, _, H, rfl, rfl⟩, fun q => absurd ?_ q⟩
      rw [cAn_ne (by omega), h4]; exact nI_le (by omega) (by omega)
    | succ m' ih =>
      intro j hj
      obtain ⟨p1, p2⟩ := h61 j (by omega)
      refine r22_3 ⟨fun q => ?_, fun _ => ?_⟩
      · rw [cAn_ne (by omega), h4] at q; exact absurd ((nI_leI (by omega) (by omega)).mp q) (by omega)
      rw [cAn_ne (b := 61) (by omega), jAn_ne (b := 62) (by omega), cl j (by omega), p1, p2, nI_1]
      exact ⟨vp_in_nI (by omega) (by omega), _, _, s23 hs (show n + j < 2500 by omega) (cAn_7 h7 j), ih (j + 1) (by omega)⟩
  exact r22_0 (lp m 0 (by omega))
theorem s146_ad {p e m : Nat} {x4 : Int32} {tys : Nat → Int32} {ds : Nat → Int64} {o : eO} {σo : eS} (hp : p < 8) (hm : m ≤ 4) (hn : n + m ≤ 2500) (h13 : M 145 13 = nI n) (h49 : M 145 49 = nI m) (h182 : ∀ i, i < m → M 182 i = tys i ∧ K 183 i = ds i) (hz : ∀ g e, g < 8 → n ≤ e → e < 2500 → M 165 (2500 * g + e) = 0)
    (H : Run 146 345 [(0, .ref 145), (1, .int (nI p)), (2, .int (nI e)), (4, .int x4), (6, .int (nI m))] [] (mS L (mAn (32 + p) n (fun i => 4 * nI e + nI i) tys M m) (jAn 150 n ds K m) h z) o σo) : ∀ m' j, j + m' = m → Run 146 345 [(0, .ref 145), (1, .int (nI p)), (2, .int (nI e)), (4, .int x4), (6, .int (nI j))] [] (mS L (mAn (32 + p) n (fun i => 4 * nI e + nI i) tys M j) (jAn 150 n ds K j) h z) o σo := by
  intro m'
  induction m' with
  | zero => intro j hj; rw [show j = m by omega]; exact H
  | succ m' ih =>
    intro j hj
    obtain ⟨p1, p2⟩ := h182 j (by omega)
    have e32 : (32 : Int32) + nI p = nI (32 + p) := by rw [show (32 : Int32) = nI 32 from rfl, nI_add]
    refine r146_345 ⟨fun q => ?_, fun _ => ?_⟩
    · rw [mAn_145 (by omega), h49] at q; exact absurd ((nI_leI (by omega) (by omega)).mp q) (by omega)
    rw [mAn_ne (b := 182) (by omega), jAn_ne (b := 183) (by omega), cl j (by omega), p1, p2, e32, nI_1]
    exact ⟨vp_in_nI (by omega) (by omega), _, _, s121 (by omega) (show n + j < 2500 by omega) (mAn_13 h13 j) (fun g hg => by rw [mAn_ne (by omega)]; exact hz g (n + j) hg (by omega) (by omega)), ih (j + 1) (by omega)⟩
/-- the four are laid ready (model) -/
def mF4 (K : rJ) (v k : Nat) : rJ := fun b j => if b = 181 ∧ j < k then K 179 (v + j) else K b j
theorem mF4_s {v k : Nat} : u2 (mF4 K v k) 181 k (K 179 (v + k)) = mF4 K v (k + 1) := by
  funext b j
  rw [u2_at]
  unfold mF4
  by_cases q : j = k
  · subst q
    by_cases b2 : b = 181
    · rw [if_pos ⟨b2, rfl⟩, if_pos ⟨b2, by omega⟩]
    · rw [if_neg (fun q => b2 q.1), if_neg (fun q => b2 q.1), if_neg (fun q => b2 q.1)]
  · have e : (j < k + 1) ↔ (j < k) := by omega
    rw [if_neg (fun k => q k.2)]
    simp only [e]
theorem mF4_ne {v k b : Nat} (hb : ¬ b = 181) : mF4 K v k b = K b := by
  funext j; unfold mF4; rw [if_neg (fun q => hb q.1)]
theorem s146_4 {p e v : Nat} {o : eO} {σo : eS} (hv : v + 4 ≤ 1024) (H : Run 146 186 [(0, .ref 145), (1, .int (nI p)), (2, .int (nI e)), (3, .int (nI v)), (4, .int (nI 4))] [] (mS L M (mF4 K v 4) h z) o σo) : ∀ m k, k + m = 4 → Run 146 186 [(0, .ref 145), (1, .int (nI p)), (2, .int (nI e)), (3, .int (nI v)), (4, .int (nI k))] [] (mS L M (mF4 K v k) h z) o σo := by
  intro m
  induction m with
  | zero => intro k hk; rw [show k = 4 by omega]; exact H
  | succ m ih =>
    intro k hk
    refine r146_186 ⟨fun q => absurd ((nI_leI (a := 4) (by omega) (by omega)).mp q) (by omega), fun _ => ?_⟩
    rw [nI_add, cl (v + k) (by omega), cl k (by omega), mF4_ne (b := 179) (by omega), mF4_s, nI_1]
    exact ⟨vp_in_nI (by omega) (by omega), vp_in_nI (by omega) (by omega), ih (k + 1) (by omega)⟩
/-- they are kept (model) -/
def mKp (K : rJ) (v k : Nat) : rJ := fun b j => if b = 179 ∧ v ≤ j ∧ j < v + k then K 181 (j - v) else K b j
theorem mKp_s {v k : Nat} : u2 (mKp K v k) 179 (v + k) (K 181 k) = mKp K v (k + 1) := by
  funext b j
  rw [u2_at]
  unfold mKp
  by_cases q : j = v + k
  · subst q
    by_cases b2 : b = 179
    · rw [if_pos ⟨b2, rfl⟩, if_pos ⟨b2, by omega, by omega⟩, show v + k - v = k by omega]
    · rw [if_neg (fun q => b2 q.1), if_neg (fun q => b2 q.1), if_neg (fun q => b2 q.1)]
  · have e : (j < v + (k + 1)) ↔ (j < v + k) := by omega
    rw [if_neg (fun k => q k.2)]
    simp only [e]
theorem mKp_ne {v k b : Nat} (hb : ¬ b = 179) : mKp K v k b = K b := by
  funext j; unfold mKp; rw [if_neg (fun q => hb q.1)]
theorem s146_k {p e v : Nat} {x4 : Int32} {o : eO} {σo : eS} (hv : v + 4 ≤ 1024) (H : Run 146 305 [(0, .ref 145), (1, .int (nI p)), (2, .int (nI e)), (3, .int (nI v)), (4, .int x4), (6, .int (nI 4))] [] (mS L M (mKp K v 4) h z) o σo) : ∀ m k, k + m = 4 → Run 146 305 [(0, .ref 145), (1, .int (nI p)), (2, .int (nI e)), (3, .int (nI v)), (4, .int x4), (6, .int (nI k))] [] (mS L M (mKp K v k) h z) o σo := by
  intro m
  induction m with
  | zero => intro k hk; rw [show k = 4 by omega]; exact H
  | succ m ih =>
    intro k hk
    refine r146_305 ⟨fun q => absurd ((nI_leI (a := 4) (by omega) (by omega)).mp q) (by omega), fun _ => ?_⟩
    rw [nI_add, cl (v + k) (by omega), cl k (by omega), mKp_ne (b := 181) (by omega), mKp_s, nI_1]
    exact ⟨vp_in_nI (by omega) (by omega), vp_in_nI (by omega) (by omega), ih (k + 1) (by omega)⟩
theorem IJ1_keep {p v e : Nat} {w : Nat → Int64} (hp : p < 8) (h : IJ1 n p I J M K) (hm : M 170 p = 1) (hv : v ≤ 124) (hw : ∀ i, i < 4 → J 60 i = w i ∧ K 181 i = w i) (he : e < n) : IJ1 n p (u2 I (105 + 5 * p) 6 (nI e + 1)) (u1 J (109 + 5 * p) (va_cpy (J 60) (J (109 + 5 * p)) 0 v 4)) (u2 M 177 p (nI e + 1)) (mKp K (128 * p + v) 4) := by
  obtain ⟨a1, a2, a3⟩ := h
  obtain ⟨b1, b2, b3, b4, b5, b6, b7, b8, b9, b10⟩ := a3 hm
  have q5 : ∀ j, ¬ j = 6 → u2 I (105 + 5 * p) 6 (nI e + 1) (105 + 5 * p) j = I (105 + 5 * p) j := fun j hj => by rw [u2_at, if_neg (fun q => hj q.2)]
  refine ⟨by rw [q5 2 (by omega), u2_ne (by omega)]; exact a1, by rw [u2_ne (by omega)]; exact a2, fun _ => ?_⟩
  unfold IJm
  rw [q5 3 (by omega), q5 4 (by omega), q5 5 (by omega), q5 7 (by omega), u2_ne (show ¬ 106 + 5 * p = 105 + 5 * p by omega), u2_ne (show ¬ 107 + 5 * p = 105 + 5 * p by omega), u2_ne (show ¬ 108 + 5 * p = 105 + 5 * p by omega), u2_ne (show ¬ 171 = 177 by omega), u2_ne (show ¬ 172 = 177 by omega), u2_ne (show ¬ 173 = 177 by omega), u2_ne (show ¬ 174 = 177 by omega), u2_ne (show ¬ 175 = 177 by omega), u2_ne (show ¬ 176 = 177 by omega), u2_ne (show ¬ 178 = 177 by omega)]
  refine ⟨b1, b2, b3, b4, b5, by rw [u2_at, if_pos ⟨rfl, rfl⟩, u2_at, if_pos ⟨rfl, rfl⟩], ⟨e + 1, by omega, by rw [u2_at, if_pos ⟨rfl, rfl⟩, nI_1]⟩, b8, b9, fun i hi => ?_⟩
  rw [u1_at, if_pos rfl]
  unfold va_cpy mKp
  by_cases q : v ≤ i ∧ i < v + 4
  · rw [if_pos q, if_pos ⟨rfl, by omega, by omega⟩, show 0 + (i - v) = i - v by omega, show 128 * p + i - (128 * p + v) = i - v by omega, (hw (i - v) (by omega)).1, (hw (i - v) (by omega)).2]
  · rw [if_neg q, if_neg (by omega)]; exact b10 i hi
theorem IJ1_brk {p e : Nat} (h : IJ1 n p I J M K) (hm : M 170 p = 1) (he : e < n) : IJ1 n p (u2 (u2 I (105 + 5 * p) 7 1) (105 + 5 * p) 6 (nI e)) J (u2 (u2 M 178 p 1) 177 p (nI e)) K := by
  obtain ⟨a1, a2, a3⟩ := h
  obtain ⟨b1, b2, b3, b4, b5, b6, b7, b8, b9, b10⟩ := a3 hm
  have q5 : ∀ j, ¬ j = 6 → ¬ j = 7 → u2 (u2 I (105 + 5 * p) 7 1) (105 + 5 * p) 6 (nI e) (105 + 5 * p) j = I (105 + 5 * p) j := fun j hj hj2 => by rw [u2_at, if_neg (fun q => hj q.2), u2_at, if_neg (fun q => hj2 q.2)]
  have q7 : ∀ b, ¬ b = 105 + 5 * p → u2 (u2 I (105 + 5 * p) 7 1) (105 + 5 * p) 6 (nI e) b = I b := fun b hb => by rw [u2_ne hb, u2_ne hb]
  have qm : ∀ b, ¬ b = 177 → ¬ b = 178 → u2 (u2 M 178 p 1) 177 p (nI e) b = M b := fun b h1 h2 => by rw [u2_ne h1, u2_ne h2]
  refine ⟨by rw [q5 2 (by omega) (by omega), qm 170 (by omega) (by omega)]; exact a1, by rw [qm 170 (by omega) (by omega)]; exact a2, fun _ => ?_⟩
  unfold IJm
  rw [q5 3 (by omega) (by omega), q5 4 (by omega) (by omega), q5 5 (by omega) (by omega), q7 (106 + 5 * p) (by omega), q7 (107 + 5 * p) (by omega), q7 (108 + 5 * p) (by omega), qm 171 (by omega) (by omega), qm 172 (by omega) (by omega), qm 173 (by omega) (by omega), qm 174 (by omega) (by omega), qm 175 (by omega) (by omega), qm 176 (by omega) (by omega)]
  refine ⟨b1, b2, b3, b4, b5, by rw [u2_at, if_pos ⟨rfl, rfl⟩, u2_at, if_pos ⟨rfl, rfl⟩], ⟨e, by omega, by rw [u2_at, if_pos ⟨rfl, rfl⟩]⟩, ?_, ?_, b10⟩
  · rw [u2_at, if_neg (by omega), u2_at, if_pos ⟨rfl, rfl⟩, u2_ne (by omega), u2_at, if_pos ⟨rfl, rfl⟩]
  · rw [u2_ne (by omega), u2_at, if_pos ⟨rfl, rfl⟩]; exact Or.inr rfl
end
