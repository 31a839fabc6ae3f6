/-! the stairs of one prime -/
abbrev Tt : Type := (Nat → Bool) × (Nat → Nat → Int)
def T0 : Tt := (fun _ => false, fun _ _ => 0)
def tkV (p : Int) (s l : Nat → Int) (at' : Nat) : Nat → Int := fun k => if at' ≤ k then (l k * s at' - s k * l at').tmod p else l k
def flT (T : Tt) (at' : Nat) (l : Nat → Int) : Tt := (fun j => if j = at' then true else T.1 j, fun j => if j = at' then l else T.2 j)
def addL (p : Int) (T : Tt) : Nat → Nat → (Nat → Int) → Tt
  | 0, _, _ => T
  | n + 1, at', l => if l at' = 0 then addL p T n (at' + 1) l else if T.1 at' = true then addL p T n (at' + 1) (tkV p (T.2 at') l at') else flT T at' l
def addT (p : Int) (T : Tt) (row : Nat → Int) : Tt := addL p T 19 0 row
def lB (p : Int) (l : Nat → Int) : Prop := ∀ k, -p < l k ∧ l k < p
def TB (p : Int) (T : Tt) : Prop := ∀ j, T.1 j = true → lB p (T.2 j)
theorem tmod_rg {a p : Int} (hp : 0 < p) : -p < a.tmod p ∧ a.tmod p < p := by
  have h1 := Int.tmod_lt_of_pos a hp
  have h2 := Int.lt_tmod_of_pos a hp
  omega
theorem tkV_B {p : Int} (hp : 0 < p) {s l : Nat → Int} (hl : lB p l) (at' : Nat) : lB p (tkV p s l at') := by
  intro k
  unfold tkV
  split
  · exact tmod_rg hp
  · exact hl k
theorem flT_B {p : Int} {T : Tt} (hT : TB p T) {l : Nat → Int} (hl : lB p l) (at' : Nat) : TB p (flT T at' l) := by
  intro j hj
  unfold flT at hj ⊢
  dsimp only at hj ⊢
  split
  · exact hl
  · next c => rw [if_neg c] at hj; exact hT j hj
theorem addL_B {p : Int} (hp : 0 < p) {T : Tt} (hT : TB p T) : ∀ (n at' : Nat) (l : Nat → Int), lB p l → TB p (addL p T n at' l) := by
  intro n
  induction n with
  | zero => exact fun _ _ _ => hT
  | succ n ih =>
    intro at' l hl
    unfold addL
    split
    · exact ih _ _ hl
    · split
      · exact ih _ _ (tkV_B hp hl _)
      · exact flT_B hT hl _
theorem T0_B (p : Int) : TB p T0 := fun j hj => by cases hj
theorem pr3_rg (i : Nat) : 2147483587 ≤ pr3 i ∧ pr3 i ≤ 2147483647 := by
  unfold pr3
  split
  · omega
  · split <;> omega
theorem cntN_fl (P : Nat → Bool) (at' : Nat) (h : P at' = false) (n : Nat) : cntN (fun j => if j = at' then true else P j) n = cntN P n + if at' < n then 1 else 0 := by
  induction n with
  | zero => rfl
  | succ n ih =>
    unfold cntN
    rw [ih]
    by_cases c : n = at'
    · subst c
      rw [h, if_neg (Nat.lt_irrefl _), if_pos (Nat.lt_succ_self _), if_pos rfl]
      rfl
    · rw [if_neg c]
      by_cases d : at' < n
      · have d' : at' < n + 1 := by omega
        rw [if_pos d, if_pos d']; omega
      · have d' : ¬ at' < n + 1 := by omega
        rw [if_neg d, if_neg d']; omega
/-- what belongs to the stairs i -/
def ow (ad : Ad) (i c k a : Nat) : Prop := (c = 8 ∧ (k = 4 ∨ k = 5) ∧ a = ad 10 i) ∨ (c = 107 ∧ a = ad 13 i) ∨ (c = 200 ∧ a = ad 12 i) ∨ (c = 190 ∧ ∃ j, j < 19 ∧ a = ad (20 + i) j)
def FT (ad : Ad) (i : Nat) (h h' : hp) : Prop := (∀ a, hT h' a = hT h a) ∧ (∀ c k a, hJ h' c k a = hJ h c k a) ∧ (∀ c k a, hR h' c k a = hR h c k a) ∧ ∀ c k a, ¬ ow ad i c k a → hI h' c k a = hI h c k a
theorem FT.rf {ad : Ad} {i : Nat} {h : hp} : FT ad i h h := ⟨fun _ => rfl, fun _ _ _ => rfl, fun _ _ _ => rfl, fun _ _ _ _ => rfl⟩
theorem FT.tr {ad : Ad} {i : Nat} {h h1 h2 : hp} (a : FT ad i h h1) (b : FT ad i h1 h2) : FT ad i h h2 := ⟨fun x => (b.1 x).trans (a.1 x), fun c k x => (b.2.1 c k x).trans (a.2.1 c k x), fun c k x => (b.2.2.1 c k x).trans (a.2.2.1 c k x), fun c k x z => (b.2.2.2 c k x z).trans (a.2.2.2 c k x z)⟩
theorem FT.i {ad : Ad} {i : Nat} {h h' : hp} (a : FT ad i h h') {c k x : Nat} {v : Int32} (hs : ow ad i c k x) : FT ad i h (sI h' c k x v) := by
  refine a.tr ⟨fun _ => rfl, fun _ _ _ => rfl, fun _ _ _ => rfl, fun c' k' x' hz => ?_⟩
  rw [hI_sI, if_neg]
  rintro ⟨rfl, rfl, rfl⟩
  exact hz hs
theorem FT.s {ad : Ad} {i : Nat} {h h' : hp} (f : FT ad i h h') : Fs h h' := by
  refine ⟨f.1, f.2.1, fun c k a _ => f.2.2.1 c k a, fun c k a hz => f.2.2.2 c k a ?_⟩
  unfold ow
  rintro (⟨rfl, rfl | rfl, -⟩ | ⟨rfl, -⟩ | ⟨rfl, -⟩ | ⟨rfl, -⟩) <;> cases hz
def RT (h : hp) (ad : Ad) (i : Nat) (T : Tt) : Prop :=
  (∀ j, j < 19 → hI h 200 j (ad 12 i) = iI (if T.1 j = true then 1 else 0)) ∧ hI h 8 4 (ad 10 i) = iI (cntN T.1 18 : Nat) ∧ hI h 8 5 (ad 10 i) = iI (cntN T.1 19 : Nat) ∧
  ∀ j k, j < 19 → T.1 j = true → j ≤ k → k < 19 → hI h 190 k (ad (20 + i) j) = iI (T.2 j k)
def LV (h : hp) (ad : Ad) (i : Nat) (l : Nat → Int) : Prop := ∀ k, k < 19 → hI h 107 k (ad 13 i) = iI (l k)
theorem lI_rem {a p : Int} (ha : -9223372036854775807 ≤ a ∧ a ≤ 9223372036854775807) (hp : 1 ≤ p ∧ p ≤ 9223372036854775807) : lI a - lI a / lI p * lI p = lI (a.tmod p) := by
  rw [lI_div ha hp, lI_mul, lI_sub]
  congr 1
  have := Int.mul_tdiv_add_tmod a p
  rw [Int.mul_comm] at this
  omega
theorem lI_i {a : Int} (h : -9223372036854775808 ≤ a ∧ a ≤ 9223372036854775807) : (lI a).toInt32 = iI a := by
  rw [← Int32.ofInt_int64ToInt, lI_toInt h]
  rfl
def cl_X8_clear : Nat → Nat × Nat × Spec := fun q => (0, 0, fun _ _ _ => False)

def sp_X8_clear : Spec := fun as h K => ∃ (ad : Ad) (i : Nat), as = [.ref (ad 10 i)] ∧ RW h ad ∧ i < 3 ∧ ∀ h', RT h' ad i T0 → FT ad i h h' → K none h'
theorem pf_X8_clear : PfM cl_X8_clear (0, 0) 0 2 bl_X8_clear sp_X8_clear := by
  rintro as h Q ⟨ad, i, rfl, R, hi, hQ⟩
  refine ⟨Nat.le_of_ble_eq_true rfl, fun G hG => ?_⟩
  obtain ⟨s1, s2, s3, s4, s5, s6, s7, s8, s9, s10⟩ := (R.2.1 i hi).2
  have o : isO h (ad 10 i) 8 := ⟨_, s1⟩
  have loop : ∀ (n j : Nat) (h' : hp), j + n = 19 → FT ad i h h' → (∀ m, m < j → hI h' 200 m (ad 12 i) = iI 0) → G 2 [(0, .ref (ad 10 i)), (1, .int (iI (j : Nat)))] [] h' (0, 0) := by
    intro n
    induction n with
    | zero =>
      intro j h' hj F z
      have e1 : (iI 19 ≤ iI (j : Nat)) = True := eq_true ((iI_le (by omega) (by omega)).mpr (by omega))
      have o' : isO h' (ad 10 i) 8 := ⟨_, (F.1 _).trans s1⟩
      refine hG.1 2 _ _ _ _ ?_
      rw [bq_X8_clear_2]
      simp only [bk_X8_clear_2, wp_aconst_null, wp_iconst, wp_bipush, wp_sipush, wp_ldc, wp_ldc_w, wp_ldc2_w, wp_lconst, wp_iload, wp_iload_n, wp_lload, wp_lload_n, wp_aload, wp_aload_n, wp_istore, wp_istore_n, wp_lstore, wp_lstore_n, wp_astore, wp_astore_n, wp_iinc, wp_iadd, wp_isub, wp_imul, wp_iand, wp_ior, wp_ixor, wp_ishl, wp_ishr, wp_iushr, wp_idiv, wp_irem, wp_ineg, wp_ladd, wp_lsub, wp_lmul, wp_ldiv, wp_lrem, wp_lcmp, wp_i2l, wp_l2i, wp_pop, wp_dup, wp_dup2, wp_goto, wp_ifCond, wp_if_icmp, wp_ifnull, wp_ifnonnull, wp_tableswitch, wp_getfield, wp_putfield, wp_arraylength, wp_iaload, wp_baload, wp_laload, wp_aaload, wp_iastore, wp_bastore, wp_lastore, wp_aastore, wp_new, wp_newarray, wp_anewarray, wp_multianewarray, wp_invokevirtual, wp_invokespecial, wp_invokestatic, wp_ireturn, wp_lreturn, wp_areturn, wp_return_, wpL, ldI, ldJ, ldA, lk, sL, cL, i1, i2, l1, l2, r1, pA, p1, p2, ar, tyAt, rcv, rcr, oO, cmpI, Value.category, rf_some, rf_none, ak, kc, List.drop_succ_cons, List.drop_zero, List.drop_nil, List.take_succ_cons, List.take_zero, List.take_nil, List.head?_cons, List.reverse_cons, List.reverse_nil, List.nil_append, List.cons_append, List.length_cons, List.length_nil, Option.toList_some, Option.toList_none, hT_sI, hT_sJ, hT_sR, hI_sJ, hI_sR, hJ_sI, hJ_sR, hR_sI, hR_sJ, isO_sI, isO_sJ, isO_sR, iI_add, iI_sub, iI_mul, iI_neg, lv_args, Nat.reduceAdd, Nat.reduceEqDiff, Nat.reduceLeDiff, reduceIte, ite_true, ite_false, true_and, and_true, false_and, and_false, not_true, not_false_iff, or_true, true_or, false_or, or_false, imp_self, ne_eq, Classical.not_not, forall_const, true_implies, false_implies, if_pos, Nat.zero_add, Nat.add_zero, Nat.le_refl, Nat.reduceLT, iz00, iz01, iz10, iz11, ib0, ib1, ib01, reduceCtorEq, e1]
      refine hG.1 21 _ _ _ _ ?_
      rw [bq_X8_clear_21]
      simp only [bk_X8_clear_21, wp_aconst_null, wp_iconst, wp_bipush, wp_sipush, wp_ldc, wp_ldc_w, wp_ldc2_w, wp_lconst, wp_iload, wp_iload_n, wp_lload, wp_lload_n, wp_aload, wp_aload_n, wp_istore, wp_istore_n, wp_lstore, wp_lstore_n, wp_astore, wp_astore_n, wp_iinc, wp_iadd, wp_isub, wp_imul, wp_iand, wp_ior, wp_ixor, wp_ishl, wp_ishr, wp_iushr, wp_idiv, wp_irem, wp_ineg, wp_ladd, wp_lsub, wp_lmul, wp_ldiv, wp_lrem, wp_lcmp, wp_i2l, wp_l2i, wp_pop, wp_dup, wp_dup2, wp_goto, wp_ifCond, wp_if_icmp, wp_ifnull, wp_ifnonnull, wp_tableswitch, wp_getfield, wp_putfield, wp_arraylength, wp_iaload, wp_baload, wp_laload, wp_aaload, wp_iastore, wp_bastore, wp_lastore, wp_aastore, wp_new, wp_newarray, wp_anewarray, wp_multianewarray, wp_invokevirtual, wp_invokespecial, wp_invokestatic, wp_ireturn, wp_lreturn, wp_areturn, wp_return_, wpL, ldI, ldJ, ldA, lk, sL, cL, i1, i2, l1, l2, r1, pA, p1, p2, ar, tyAt, rcv, rcr, oO, cmpI, Value.category, rf_some, rf_none, ak, kc, List.drop_succ_cons, List.drop_zero, List.drop_nil, List.take_succ_cons, List.take_zero, List.take_nil, List.head?_cons, List.reverse_cons, List.reverse_nil, List.nil_append, List.cons_append, List.length_cons, List.length_nil, Option.toList_some, Option.toList_none, hT_sI, hT_sJ, hT_sR, hI_sJ, hI_sR, hJ_sI, hJ_sR, hR_sI, hR_sJ, isO_sI, isO_sJ, isO_sR, iI_add, iI_sub, iI_mul, iI_neg, lv_args, Nat.reduceAdd, Nat.reduceEqDiff, Nat.reduceLeDiff, reduceIte, ite_true, ite_false, true_and, and_true, false_and, and_false, not_true, not_false_iff, or_true, true_or, false_or, or_false, imp_self, ne_eq, Classical.not_not, forall_const, true_implies, false_implies, if_pos, Nat.zero_add, Nat.add_zero, Nat.le_refl, Nat.reduceLT, iz00, iz01, iz10, iz11, ib0, ib1, ib01, reduceCtorEq, o']
      refine hQ _ ⟨fun j hj' => ?_, ?_, ?_, fun j k _ hz => by cases hz⟩ ((F.i (Or.inl ⟨rfl, Or.inl rfl, rfl⟩)).i (Or.inl ⟨rfl, Or.inr rfl, rfl⟩))
      · simp only [hI_sI]
        rw [if_neg (by omega), if_neg (by omega)]
        exact z j (by omega)
      · simp [hI_sI]; rfl
      · simp [hI_sI]; rfl
    | succ n ih =>
      intro j h' hj F z
      have e1 : (iI 19 ≤ iI (j : Nat)) = False := eq_false (by rw [iI_le (by omega) (by omega)]; omega)
      have o' : isO h' (ad 10 i) 8 := ⟨_, (F.1 _).trans s1⟩
      have t1 : hR h' 8 2 (ad 10 i) = some (ad 12 i) := (F.2.2.1 _ _ _).trans s4
      have t2 : hT h' (ad 12 i) = some (200, 19) := (F.1 _).trans s7
      have hin : vp_in (iI (j : Nat)) 19 := iI_in (by omega) (by omega)
      have e3 : (iI (j : Nat)).toNatClampNeg = j := by rw [iI_cl (by omega)]; omega
      refine hG.1 2 _ _ _ _ ?_
      rw [bq_X8_clear_2]
      simp only [bk_X8_clear_2, wp_aconst_null, wp_iconst, wp_bipush, wp_sipush, wp_ldc, wp_ldc_w, wp_ldc2_w, wp_lconst, wp_iload, wp_iload_n, wp_lload, wp_lload_n, wp_aload, wp_aload_n, wp_istore, wp_istore_n, wp_lstore, wp_lstore_n, wp_astore, wp_astore_n, wp_iinc, wp_iadd, wp_isub, wp_imul, wp_iand, wp_ior, wp_ixor, wp_ishl, wp_ishr, wp_iushr, wp_idiv, wp_irem, wp_ineg, wp_ladd, wp_lsub, wp_lmul, wp_ldiv, wp_lrem, wp_lcmp, wp_i2l, wp_l2i, wp_pop, wp_dup, wp_dup2, wp_goto, wp_ifCond, wp_if_icmp, wp_ifnull, wp_ifnonnull, wp_tableswitch, wp_getfield, wp_putfield, wp_arraylength, wp_iaload, wp_baload, wp_laload, wp_aaload, wp_iastore, wp_bastore, wp_lastore, wp_aastore, wp_new, wp_newarray, wp_anewarray, wp_multianewarray, wp_invokevirtual, wp_invokespecial, wp_invokestatic, wp_ireturn, wp_lreturn, wp_areturn, wp_return_, wpL, ldI, ldJ, ldA, lk, sL, cL, i1, i2, l1, l2, r1, pA, p1, p2, ar, tyAt, rcv, rcr, oO, cmpI, Value.category, rf_some, rf_none, ak, kc, List.drop_succ_cons, List.drop_zero, List.drop_nil, List.take_succ_cons, List.take_zero, List.take_nil, List.head?_cons, List.reverse_cons, List.reverse_nil, List.nil_append, List.cons_append, List.length_cons, List.length_nil, Option.toList_some, Option.toList_none, hT_sI, hT_sJ, hT_sR, hI_sJ, hI_sR, hJ_sI, hJ_sR, hR_sI, hR_sJ, isO_sI, isO_sJ, isO_sR, iI_add, iI_sub, iI_mul, iI_neg, lv_args, Nat.reduceAdd, Nat.reduceEqDiff, Nat.reduceLeDiff, reduceIte, ite_true, ite_false, true_and, and_true, false_and, and_false, not_true, not_false_iff, or_true, true_or, false_or, or_false, imp_self, ne_eq, Classical.not_not, forall_const, true_implies, false_implies, if_pos, Nat.zero_add, Nat.add_zero, Nat.le_refl, Nat.reduceLT, iz00, iz01, iz10, iz11, ib0, ib1, ib01, reduceCtorEq, e1, o', t1, t2, hin, e3]
      have q := ih (j + 1) (sI h' 200 j (ad 12 i) (iI 0)) (by omega) (F.i (Or.inr (Or.inr (Or.inl ⟨rfl, rfl⟩)))) (fun m hm => ?_)
      · rw [nc1] at q
        exact q
      · rw [hI_sI]
        by_cases c : m = j
        · rw [if_pos ⟨rfl, c, rfl⟩]
        · rw [if_neg (fun z => c z.2.1)]; exact z m (by omega)
  refine hG.1 0 _ _ _ _ ?_
  rw [bq_X8_clear_0]
  simp only [bk_X8_clear_0, wp_aconst_null, wp_iconst, wp_bipush, wp_sipush, wp_ldc, wp_ldc_w, wp_ldc2_w, wp_lconst, wp_iload, wp_iload_n, wp_lload, wp_lload_n, wp_aload, wp_aload_n, wp_istore, wp_istore_n, wp_lstore, wp_lstore_n, wp_astore, wp_astore_n, wp_iinc, wp_iadd, wp_isub, wp_imul, wp_iand, wp_ior, wp_ixor, wp_ishl, wp_ishr, wp_iushr, wp_idiv, wp_irem, wp_ineg, wp_ladd, wp_lsub, wp_lmul, wp_ldiv, wp_lrem, wp_lcmp, wp_i2l, wp_l2i, wp_pop, wp_dup, wp_dup2, wp_goto, wp_ifCond, wp_if_icmp, wp_ifnull, wp_ifnonnull, wp_tableswitch, wp_getfield, wp_putfield, wp_arraylength, wp_iaload, wp_baload, wp_laload, wp_aaload, wp_iastore, wp_bastore, wp_lastore, wp_aastore, wp_new, wp_newarray, wp_anewarray, wp_multianewarray, wp_invokevirtual, wp_invokespecial, wp_invokestatic, wp_ireturn, wp_lreturn, wp_areturn, wp_return_, wpL, ldI, ldJ, ldA, lk, sL, cL, i1, i2, l1, l2, r1, pA, p1, p2, ar, tyAt, rcv, rcr, oO, cmpI, Value.category, rf_some, rf_none, ak, kc, List.drop_succ_cons, List.drop_zero, List.drop_nil, List.take_succ_cons, List.take_zero, List.take_nil, List.head?_cons, List.reverse_cons, List.reverse_nil, List.nil_append, List.cons_append, List.length_cons, List.length_nil, Option.toList_some, Option.toList_none, hT_sI, hT_sJ, hT_sR, hI_sJ, hI_sR, hJ_sI, hJ_sR, hR_sI, hR_sJ, isO_sI, isO_sJ, isO_sR, iI_add, iI_sub, iI_mul, iI_neg, lv_args, Nat.reduceAdd, Nat.reduceEqDiff, Nat.reduceLeDiff, reduceIte, ite_true, ite_false, true_and, and_true, false_and, and_false, not_true, not_false_iff, or_true, true_or, false_or, or_false, imp_self, ne_eq, Classical.not_not, forall_const, true_implies, false_implies, if_pos, Nat.zero_add, Nat.add_zero, Nat.le_refl, Nat.reduceLT, iz00, iz01, iz10, iz11, ib0, ib1, ib01, reduceCtorEq]
  exact loop 19 0 h (by omega) FT.rf (fun m hm => by omega)
theorem val_X8_clear (g : GP) : Val g yX8_clear prog_10_method_2_code 2 none 1 60 0 0 sp_X8_clear := val_of (own := RX8) (ini := false) (on := 8) (rs := rs_X8_clear) (cl := cl_X8_clear) (rt := 0) (bl := bl_X8_clear) (plainFor_of_name (by decide +kernel)) rfl (rok_X8 _) ck_X8_clear (fun h => by cases h) rfl ((fun _ h => absurd h List.not_mem_nil)) pf_X8_clear

def cl_X8_takeOff : Nat → Nat × Nat × Spec := fun q => (0, 0, fun _ _ _ => False)

def sp_X8_takeOff : Spec := fun as h K => ∃ (ad : Ad) (i at' : Nat) (s l : Nat → Int), as = [.ref (ad 10 i), .ref (ad (20 + i) at'), .int (iI (at' : Nat))] ∧ RW h ad ∧ i < 3 ∧ at' < 19 ∧ LV h ad i l ∧ lB (pr3 i) l ∧ lB (pr3 i) s ∧ (∀ k, at' ≤ k → k < 19 → hI h 190 k (ad (20 + i) at') = iI (s k)) ∧
  ∀ h', LV h' ad i (tkV (pr3 i) s l at') → FT ad i h h' → (∀ c k a, c ≠ 107 → hI h' c k a = hI h c k a) → K none h'
theorem pf_X8_takeOff : PfM cl_X8_takeOff (0, 0) 0 8 bl_X8_takeOff sp_X8_takeOff := by
  rintro as h Q ⟨ad, i, at', s, l, rfl, R, hi, ha, hl, bl, bs, hs, hQ⟩
  refine ⟨Nat.le_of_ble_eq_true rfl, fun G hG => ?_⟩
  obtain ⟨s1, s2, s3, s4, s5, s6, s7, s8, s9, s10⟩ := (R.2.1 i hi).2
  have o : isO h (ad 10 i) 8 := ⟨_, s1⟩
  have hpr := pr3_rg i
  generalize hpp : pr3 i = p at *
  have loop : ∀ (n j : Nat) (h' : hp), j + n = 19 → at' ≤ j → FT ad i h h' → (∀ c k a, c ≠ 107 → hI h' c k a = hI h c k a) → (∀ k, k < 19 → hI h' 107 k (ad 13 i) = iI (if k < j then tkV p s l at' k else l k)) →
      G 17 [(0, .ref (ad 10 i)), (1, .ref (ad (20 + i) at')), (2, .int (iI (at' : Nat))), (3, .long (lI (l at'))), (5, .long (lI (s at'))), (7, .int (iI (j : Nat)))] [] h' (0, 0) := by
    intro n
    induction n with
    | zero =>
      intro j h' hj hja F z0 z
      have e1 : (iI 19 ≤ iI (j : Nat)) = True := eq_true ((iI_le (by omega) (by omega)).mpr (by omega))
      refine hG.1 17 _ _ _ _ ?_
      rw [bq_X8_takeOff_17]
      simp only [bk_X8_takeOff_17, wp_aconst_null, wp_iconst, wp_bipush, wp_sipush, wp_ldc, wp_ldc_w, wp_ldc2_w, wp_lconst, wp_iload, wp_iload_n, wp_lload, wp_lload_n, wp_aload, wp_aload_n, wp_istore, wp_istore_n, wp_lstore, wp_lstore_n, wp_astore, wp_astore_n, wp_iinc, wp_iadd, wp_isub, wp_imul, wp_iand, wp_ior, wp_ixor, wp_ishl, wp_ishr, wp_iushr, wp_idiv, wp_irem, wp_ineg, wp_ladd, wp_lsub, wp_lmul, wp_ldiv, wp_lrem, wp_lcmp, wp_i2l, wp_l2i, wp_pop, wp_dup, wp_dup2, wp_goto, wp_ifCond, wp_if_icmp, wp_ifnull, wp_ifnonnull, wp_tableswitch, wp_getfield, wp_putfield, wp_arraylength, wp_iaload, wp_baload, wp_laload, wp_aaload, wp_iastore, wp_bastore, wp_lastore, wp_aastore, wp_new, wp_newarray, wp_anewarray, wp_multianewarray, wp_invokevirtual, wp_invokespecial, wp_invokestatic, wp_ireturn, wp_lreturn, wp_areturn, wp_return_, wpL, ldI, ldJ, ldA, lk, sL, cL, i1, i2, l1, l2, r1, pA, p1, p2, ar, tyAt, rcv, rcr, oO, cmpI, Value.category, rf_some, rf_none, ak, kc, List.drop_succ_cons, List.drop_zero, List.drop_nil, List.take_succ_cons, List.take_zero, List.take_nil, List.head?_cons, List.reverse_cons, List.reverse_nil, List.nil_append, List.cons_append, List.length_cons, List.length_nil, Option.toList_some, Option.toList_none, hT_sI, hT_sJ, hT_sR, hI_sJ, hI_sR, hJ_sI, hJ_sR, hR_sI, hR_sJ, isO_sI, isO_sJ, isO_sR, iI_add, iI_sub, iI_mul, iI_neg, lv_args, Nat.reduceAdd, Nat.reduceEqDiff, Nat.reduceLeDiff, reduceIte, ite_true, ite_false, true_and, and_true, false_and, and_false, not_true, not_false_iff, or_true, true_or, false_or, or_false, imp_self, ne_eq, Classical.not_not, forall_const, true_implies, false_implies, if_pos, Nat.zero_add, Nat.add_zero, Nat.le_refl, Nat.reduceLT, iz00, iz01, iz10, iz11, ib0, ib1, ib01, reduceCtorEq, e1]
      refine hG.1 63 _ _ _ _ ?_
      rw [bq_X8_takeOff_63]
      simp only [bk_X8_takeOff_63, wp_aconst_null, wp_iconst, wp_bipush, wp_sipush, wp_ldc, wp_ldc_w, wp_ldc2_w, wp_lconst, wp_iload, wp_iload_n, wp_lload, wp_lload_n, wp_aload, wp_aload_n, wp_istore, wp_istore_n, wp_lstore, wp_lstore_n, wp_astore, wp_astore_n, wp_iinc, wp_iadd, wp_isub, wp_imul, wp_iand, wp_ior, wp_ixor, wp_ishl, wp_ishr, wp_iushr, wp_idiv, wp_irem, wp_ineg, wp_ladd, wp_lsub, wp_lmul, wp_ldiv, wp_lrem, wp_lcmp, wp_i2l, wp_l2i, wp_pop, wp_dup, wp_dup2, wp_goto, wp_ifCond, wp_if_icmp, wp_ifnull, wp_ifnonnull, wp_tableswitch, wp_getfield, wp_putfield, wp_arraylength, wp_iaload, wp_baload, wp_laload, wp_aaload, wp_iastore, wp_bastore, wp_lastore, wp_aastore, wp_new, wp_newarray, wp_anewarray, wp_multianewarray, wp_invokevirtual, wp_invokespecial, wp_invokestatic, wp_ireturn, wp_lreturn, wp_areturn, wp_return_, wpL, ldI, ldJ, ldA, lk, sL, cL, i1, i2, l1, l2, r1, pA, p1, p2, ar, tyAt, rcv, rcr, oO, cmpI, Value.category, rf_some, rf_none, ak, kc, List.drop_succ_cons, List.drop_zero, List.drop_nil, List.take_succ_cons, List.take_zero, List.take_nil, List.head?_cons, List.reverse_cons, List.reverse_nil, List.nil_append, List.cons_append, List.length_cons, List.length_nil, Option.toList_some, Option.toList_none, hT_sI, hT_sJ, hT_sR, hI_sJ, hI_sR, hJ_sI, hJ_sR, hR_sI, hR_sJ, isO_sI, isO_sJ, isO_sR, iI_add, iI_sub, iI_mul, iI_neg, lv_args, Nat.reduceAdd, Nat.reduceEqDiff, Nat.reduceLeDiff, reduceIte, ite_true, ite_false, true_and, and_true, false_and, and_false, not_true, not_false_iff, or_true, true_or, false_or, or_false, imp_self, ne_eq, Classical.not_not, forall_const, true_implies, false_implies, if_pos, Nat.zero_add, Nat.add_zero, Nat.le_refl, Nat.reduceLT, iz00, iz01, iz10, iz11, ib0, ib1, ib01, reduceCtorEq]
      refine hQ h' (fun k hk => ?_) F z0
      rw [z k hk, if_pos (by omega)]
    | succ n ih =>
      intro j h' hj hja F z0 z
      have e1 : (iI 19 ≤ iI (j : Nat)) = False := eq_false (by rw [iI_le (by omega) (by omega)]; omega)
      have o' : isO h' (ad 10 i) 8 := ⟨_, (F.1 _).trans s1⟩
      have t1 : hR h' 8 3 (ad 10 i) = some (ad 13 i) := (F.2.2.1 _ _ _).trans s5
      have t2 : hT h' (ad 13 i) = some (107, 19) := (F.1 _).trans s8
      have t3 : hT h' (ad (20 + i) at') = some (190, 19) := (F.1 _).trans (s9 at' ha).2
      have t4 : hI h' 8 0 (ad 10 i) = iI p := (z0 _ _ _ (by decide)).trans s2
      have hin : vp_in (iI (j : Nat)) 19 := iI_in (by omega) (by omega)
      have e3 : (iI (j : Nat)).toNatClampNeg = j := by rw [iI_cl (by omega)]; omega
      have v1 : hI h' 107 j (ad 13 i) = iI (l j) := by rw [z j (by omega), if_neg (by omega)]
      have v2 : hI h' 190 j (ad (20 + i) at') = iI (s j) := by rw [z0 _ _ _ (by decide)]; exact hs j hja (by omega)
      have x1 : (iI (l j)).toInt64 = lI (l j) := iI_64 (by have := bl j; omega)
      have x2 : (iI (s j)).toInt64 = lI (s j) := iI_64 (by have := bs j; omega)
      have x3 : (iI p).toInt64 = lI p := iI_64 (by omega)
      have m1 := mul_rg (A := 2147483646) (B := 2147483646) (a := l j) (b := s at') (by have := bl j; omega) (by have := bs at'; omega) (by omega) (by omega)
      have m2 := mul_rg (A := 2147483646) (B := 2147483646) (a := s j) (b := l at') (by have := bs j; omega) (by have := bl at'; omega) (by omega) (by omega)
      have x4 : lI (l j * s at' - s j * l at') - lI (l j * s at' - s j * l at') / lI p * lI p = lI ((l j * s at' - s j * l at').tmod p) := lI_rem (by omega) (by omega)
      have m3 : lI (l j) * lI (s at') - lI (s j) * lI (l at') = lI (l j * s at' - s j * l at') := by rw [lI_mul, lI_mul, lI_sub]
      have x5 : (lI p = 0) = False := eq_false (by rw [show (0 : Int64) = lI 0 from rfl, lI_eq (by omega) (by omega)]; omega)
      have x6 := tmod_rg (a := l j * s at' - s j * l at') (p := p) (by omega)
      have x7 : (lI ((l j * s at' - s j * l at').tmod p)).toInt32 = iI ((l j * s at' - s j * l at').tmod p) := lI_i (by omega)
      refine hG.1 17 _ _ _ _ ?_
      rw [bq_X8_takeOff_17]
      simp only [bk_X8_takeOff_17, wp_aconst_null, wp_iconst, wp_bipush, wp_sipush, wp_ldc, wp_ldc_w, wp_ldc2_w, wp_lconst, wp_iload, wp_iload_n, wp_lload, wp_lload_n, wp_aload, wp_aload_n, wp_istore, wp_istore_n, wp_lstore, wp_lstore_n, wp_astore, wp_astore_n, wp_iinc, wp_iadd, wp_isub, wp_imul, wp_iand, wp_ior, wp_ixor, wp_ishl, wp_ishr, wp_iushr, wp_idiv, wp_irem, wp_ineg, wp_ladd, wp_lsub, wp_lmul, wp_ldiv, wp_lrem, wp_lcmp, wp_i2l, wp_l2i, wp_pop, wp_dup, wp_dup2, wp_goto, wp_ifCond, wp_if_icmp, wp_ifnull, wp_ifnonnull, wp_tableswitch, wp_getfield, wp_putfield, wp_arraylength, wp_iaload, wp_baload, wp_laload, wp_aaload, wp_iastore, wp_bastore, wp_lastore, wp_aastore, wp_new, wp_newarray, wp_anewarray, wp_multianewarray, wp_invokevirtual, wp_invokespecial, wp_invokestatic, wp_ireturn, wp_lreturn, wp_areturn, wp_return_, wpL, ldI, ldJ, ldA, lk, sL, cL, i1, i2, l1, l2, r1, pA, p1, p2, ar, tyAt, rcv, rcr, oO, cmpI, Value.category, rf_some, rf_none, ak, kc, List.drop_succ_cons, List.drop_zero, List.drop_nil, List.take_succ_cons, List.take_zero, List.take_nil, List.head?_cons, List.reverse_cons, List.reverse_nil, List.nil_append, List.cons_append, List.length_cons, List.length_nil, Option.toList_some, Option.toList_none, hT_sI, hT_sJ, hT_sR, hI_sJ, hI_sR, hJ_sI, hJ_sR, hR_sI, hR_sJ, isO_sI, isO_sJ, isO_sR, iI_add, iI_sub, iI_mul, iI_neg, lv_args, Nat.reduceAdd, Nat.reduceEqDiff, Nat.reduceLeDiff, reduceIte, ite_true, ite_false, true_and, and_true, false_and, and_false, not_true, not_false_iff, or_true, true_or, false_or, or_false, imp_self, ne_eq, Classical.not_not, forall_const, true_implies, false_implies, if_pos, Nat.zero_add, Nat.add_zero, Nat.le_refl, Nat.reduceLT, iz00, iz01, iz10, iz11, ib0, ib1, ib01, reduceCtorEq, e1, o', t1, t2, t3, t4, hin, e3, v1, v2, x1, x2, x3, m3, x4, x5, x7]
      have q := ih (j + 1) (sI h' 107 j (ad 13 i) (iI ((l j * s at' - s j * l at').tmod p))) (by omega) (by omega) (F.i (Or.inr (Or.inl ⟨rfl, rfl⟩))) (fun c k a hc => by rw [hI_sI, if_neg (fun z => hc z.1)]; exact z0 c k a hc) (fun k hk => ?_)
      · rw [nc1] at q
        exact q
      · rw [hI_sI]
        by_cases c : k = j
        · subst c
          rw [if_pos ⟨rfl, rfl, rfl⟩, if_pos (by omega)]
          unfold tkV
          rw [if_pos hja]
        · rw [if_neg (fun z => c z.2.1), z k hk]
          by_cases d : k < j
          · rw [if_pos d, if_pos (by omega)]
          · rw [if_neg d, if_neg (by omega)]
  have y1 : hI h 107 at' (ad 13 i) = iI (l at') := hl at' ha
  have y2 : hI h 190 at' (ad (20 + i) at') = iI (s at') := hs at' (Nat.le_refl _) ha
  have x1 : (iI (l at')).toInt64 = lI (l at') := iI_64 (by have := bl at'; omega)
  have x2 : (iI (s at')).toInt64 = lI (s at') := iI_64 (by have := bs at'; omega)
  have hin : vp_in (iI (at' : Nat)) 19 := iI_in (by omega) (by omega)
  have e3 : (iI (at' : Nat)).toNatClampNeg = at' := by rw [iI_cl (by omega)]; omega
  have t3 := (s9 at' ha).2
  refine hG.1 0 _ _ _ _ ?_
  rw [bq_X8_takeOff_0]
  simp only [bk_X8_takeOff_0, wp_aconst_null, wp_iconst, wp_bipush, wp_sipush, wp_ldc, wp_ldc_w, wp_ldc2_w, wp_lconst, wp_iload, wp_iload_n, wp_lload, wp_lload_n, wp_aload, wp_aload_n, wp_istore, wp_istore_n, wp_lstore, wp_lstore_n, wp_astore, wp_astore_n, wp_iinc, wp_iadd, wp_isub, wp_imul, wp_iand, wp_ior, wp_ixor, wp_ishl, wp_ishr, wp_iushr, wp_idiv, wp_irem, wp_ineg, wp_ladd, wp_lsub, wp_lmul, wp_ldiv, wp_lrem, wp_lcmp, wp_i2l, wp_l2i, wp_pop, wp_dup, wp_dup2, wp_goto, wp_ifCond, wp_if_icmp, wp_ifnull, wp_ifnonnull, wp_tableswitch, wp_getfield, wp_putfield, wp_arraylength, wp_iaload, wp_baload, wp_laload, wp_aaload, wp_iastore, wp_bastore, wp_lastore, wp_aastore, wp_new, wp_newarray, wp_anewarray, wp_multianewarray, wp_invokevirtual, wp_invokespecial, wp_invokestatic, wp_ireturn, wp_lreturn, wp_areturn, wp_return_, wpL, ldI, ldJ, ldA, lk, sL, cL, i1, i2, l1, l2, r1, pA, p1, p2, ar, tyAt, rcv, rcr, oO, cmpI, Value.category, rf_some, rf_none, ak, kc, List.drop_succ_cons, List.drop_zero, List.drop_nil, List.take_succ_cons, List.take_zero, List.take_nil, List.head?_cons, List.reverse_cons, List.reverse_nil, List.nil_append, List.cons_append, List.length_cons, List.length_nil, Option.toList_some, Option.toList_none, hT_sI, hT_sJ, hT_sR, hI_sJ, hI_sR, hJ_sI, hJ_sR, hR_sI, hR_sJ, isO_sI, isO_sJ, isO_sR, iI_add, iI_sub, iI_mul, iI_neg, lv_args, Nat.reduceAdd, Nat.reduceEqDiff, Nat.reduceLeDiff, reduceIte, ite_true, ite_false, true_and, and_true, false_and, and_false, not_true, not_false_iff, or_true, true_or, false_or, or_false, imp_self, ne_eq, Classical.not_not, forall_const, true_implies, false_implies, if_pos, Nat.zero_add, Nat.add_zero, Nat.le_refl, Nat.reduceLT, iz00, iz01, iz10, iz11, ib0, ib1, ib01, reduceCtorEq, o, s5, s8, hin, e3, t3, y1, y2, x1, x2]
  exact loop (19 - at') at' h (by omega) (Nat.le_refl _) FT.rf (fun _ _ _ _ => rfl) (fun k hk => by
    rw [hl k hk]
    by_cases c : k < at'
    · rw [if_pos c]; unfold tkV; rw [if_neg (by omega)]
    · rw [if_neg c])
theorem val_X8_takeOff (g : GP) : Val g yX8_takeOff prog_10_method_5_code 8 none 1 60 0 0 sp_X8_takeOff := val_of (own := RX8) (ini := false) (on := 8) (rs := rs_X8_takeOff) (cl := cl_X8_takeOff) (rt := 0) (bl := bl_X8_takeOff) (plainFor_of_name (by decide +kernel)) rfl (rok_X8 _) ck_X8_takeOff (fun h => by cases h) rfl ((fun _ h => absurd h List.not_mem_nil)) pf_X8_takeOff

def cl_X8_fill : Nat → Nat × Nat × Spec := fun q => (0, 0, fun _ _ _ => False)

def sp_X8_fill : Spec := fun as h K => ∃ (ad : Ad) (i at' : Nat) (T : Tt) (l : Nat → Int), as = [.ref (ad 10 i), .int (iI (at' : Nat))] ∧ RW h ad ∧ i < 3 ∧ at' < 19 ∧ LV h ad i l ∧ RT h ad i T ∧ T.1 at' = false ∧
  ∀ h', RT h' ad i (flT T at' l) → FT ad i h h' → K none h'
theorem pf_X8_fill : PfM cl_X8_fill (0, 0) 0 3 bl_X8_fill sp_X8_fill := by
  rintro as h Q ⟨ad, i, at', T, l, rfl, R, hi, ha, hl, ⟨r1', r2', r3', r4'⟩, hT', hQ⟩
  refine ⟨Nat.le_of_ble_eq_true rfl, fun G hG => ?_⟩
  obtain ⟨s1, s2, s3, s4, s5, s6, s7, s8, s9, s10⟩ := (R.2.1 i hi).2
  have o : isO h (ad 10 i) 8 := ⟨_, s1⟩
  have hin : vp_in (iI (at' : Nat)) 19 := iI_in (by omega) (by omega)
  have e3 : (iI (at' : Nat)).toNatClampNeg = at' := by rw [iI_cl (by omega)]; omega
  have cn1 := cntN_fl T.1 at' hT' 18
  have cn2 := cntN_fl T.1 at' hT' 19
  have cl1 := cntN_le T.1 18
  have cl2 := cntN_le T.1 19
  have oS : ∀ j, ow ad i 190 j (ad (20 + i) at') := fun _ => Or.inr (Or.inr (Or.inr ⟨rfl, at', ha, rfl⟩))
  have loop : ∀ (n j : Nat) (h' : hp), j + n = 19 → at' ≤ j → FT ad i h h' → (∀ c k a, hI h' c k a = if c = 190 ∧ a = ad (20 + i) at' ∧ at' ≤ k ∧ k < j then iI (l k) else if c = 200 ∧ k = at' ∧ a = ad 12 i then iI 1 else hI h c k a) →
      G 9 [(0, .ref (ad 10 i)), (1, .int (iI (at' : Nat))), (2, .int (iI (j : Nat)))] [] h' (0, 0) := by
    intro n
    induction n with
    | zero =>
      intro j h' hj hja F z
      have e1 : (iI 19 ≤ iI (j : Nat)) = True := eq_true ((iI_le (by omega) (by omega)).mpr (by omega))
      have o' : isO h' (ad 10 i) 8 := ⟨_, (F.1 _).trans s1⟩
      have v4 : hI h' 8 4 (ad 10 i) = iI (cntN T.1 18 : Nat) := by rw [z, if_neg (by omega), if_neg (by omega)]; exact r2'
      have v5 : hI h' 8 5 (ad 10 i) = iI (cntN T.1 19 : Nat) := by rw [z, if_neg (by omega), if_neg (by omega)]; exact r3'
      have e4 : (iI 18 ≤ iI (at' : Nat)) = (18 ≤ at') := propext ((iI_le (by omega) (by omega)).trans (by omega))
      have fin : ∀ h2 : hp, (∀ c k a, c ≠ 8 → hI h2 c k a = hI h' c k a) → hI h2 8 4 (ad 10 i) = iI (cntN (flT T at' l).1 18 : Nat) → hI h2 8 5 (ad 10 i) = iI (cntN (flT T at' l).1 19 : Nat) → FT ad i h h2 → Q none h2 := by
        intro h2 f1 f2 f3 f4
        refine hQ h2 ⟨fun j hj' => ?_, f2, f3, fun j' k hj' hF hjk hk => ?_⟩ f4
        · rw [f1 _ _ _ (by decide), z, if_neg (by omega)]
          by_cases c : j = at'
          · have f : (flT T at' l).1 j = true := if_pos c
            rw [if_pos ⟨rfl, c, rfl⟩, f, if_pos rfl]
          · have f : (flT T at' l).1 j = T.1 j := if_neg c
            rw [if_neg (fun q => c q.2.1), f]; exact r1' j hj'
        · rw [f1 _ _ _ (by decide), z]
          unfold flT at hF ⊢
          dsimp only at hF ⊢
          by_cases c : j' = at'
          · subst c
            rw [if_pos ⟨rfl, rfl, hjk, by omega⟩, if_pos rfl]
          · rw [if_neg c] at hF ⊢
            rw [if_neg (fun q => c (s10 j' at' hj' ha q.2.1)), if_neg (by omega)]
            exact r4' j' k hj' hF hjk hk
      refine hG.1 9 _ _ _ _ ?_
      rw [bq_X8_fill_9]
      simp only [bk_X8_fill_9, wp_aconst_null, wp_iconst, wp_bipush, wp_sipush, wp_ldc, wp_ldc_w, wp_ldc2_w, wp_lconst, wp_iload, wp_iload_n, wp_lload, wp_lload_n, wp_aload, wp_aload_n, wp_istore, wp_istore_n, wp_lstore, wp_lstore_n, wp_astore, wp_astore_n, wp_iinc, wp_iadd, wp_isub, wp_imul, wp_iand, wp_ior, wp_ixor, wp_ishl, wp_ishr, wp_iushr, wp_idiv, wp_irem, wp_ineg, wp_ladd, wp_lsub, wp_lmul, wp_ldiv, wp_lrem, wp_lcmp, wp_i2l, wp_l2i, wp_pop, wp_dup, wp_dup2, wp_goto, wp_ifCond, wp_if_icmp, wp_ifnull, wp_ifnonnull, wp_tableswitch, wp_getfield, wp_putfield, wp_arraylength, wp_iaload, wp_baload, wp_laload, wp_aaload, wp_iastore, wp_bastore, wp_lastore, wp_aastore, wp_new, wp_newarray, wp_anewarray, wp_multianewarray, wp_invokevirtual, wp_invokespecial, wp_invokestatic, wp_ireturn, wp_lreturn, wp_areturn, wp_return_, wpL, ldI, ldJ, ldA, lk, sL, cL, i1, i2, l1, l2, r1, pA, p1, p2, ar, tyAt, rcv, rcr, oO, cmpI, Value.category, rf_some, rf_none, ak, kc, List.drop_succ_cons, List.drop_zero, List.drop_nil, List.take_succ_cons, List.take_zero, List.take_nil, List.head?_cons, List.reverse_cons, List.reverse_nil, List.nil_append, List.cons_append, List.length_cons, List.length_nil, Option.toList_some, Option.toList_none, hT_sI, hT_sJ, hT_sR, hI_sJ, hI_sR, hJ_sI, hJ_sR, hR_sI, hR_sJ, isO_sI, isO_sJ, isO_sR, iI_add, iI_sub, iI_mul, iI_neg, lv_args, Nat.reduceAdd, Nat.reduceEqDiff, Nat.reduceLeDiff, reduceIte, ite_true, ite_false, true_and, and_true, false_and, and_false, not_true, not_false_iff, or_true, true_or, false_or, or_false, imp_self, ne_eq, Classical.not_not, forall_const, true_implies, false_implies, if_pos, Nat.zero_add, Nat.add_zero, Nat.le_refl, Nat.reduceLT, iz00, iz01, iz10, iz11, ib0, ib1, ib01, reduceCtorEq, e1]
      refine hG.1 35 _ _ _ _ ?_
      rw [bq_X8_fill_35]
      simp only [bk_X8_fill_35, wp_aconst_null, wp_iconst, wp_bipush, wp_sipush, wp_ldc, wp_ldc_w, wp_ldc2_w, wp_lconst, wp_iload, wp_iload_n, wp_lload, wp_lload_n, wp_aload, wp_aload_n, wp_istore, wp_istore_n, wp_lstore, wp_lstore_n, wp_astore, wp_astore_n, wp_iinc, wp_iadd, wp_isub, wp_imul, wp_iand, wp_ior, wp_ixor, wp_ishl, wp_ishr, wp_iushr, wp_idiv, wp_irem, wp_ineg, wp_ladd, wp_lsub, wp_lmul, wp_ldiv, wp_lrem, wp_lcmp, wp_i2l, wp_l2i, wp_pop, wp_dup, wp_dup2, wp_goto, wp_ifCond, wp_if_icmp, wp_ifnull, wp_ifnonnull, wp_tableswitch, wp_getfield, wp_putfield, wp_arraylength, wp_iaload, wp_baload, wp_laload, wp_aaload, wp_iastore, wp_bastore, wp_lastore, wp_aastore, wp_new, wp_newarray, wp_anewarray, wp_multianewarray, wp_invokevirtual, wp_invokespecial, wp_invokestatic, wp_ireturn, wp_lreturn, wp_areturn, wp_return_, wpL, ldI, ldJ, ldA, lk, sL, cL, i1, i2, l1, l2, r1, pA, p1, p2, ar, tyAt, rcv, rcr, oO, cmpI, Value.category, rf_some, rf_none, ak, kc, List.drop_succ_cons, List.drop_zero, List.drop_nil, List.take_succ_cons, List.take_zero, List.take_nil, List.head?_cons, List.reverse_cons, List.reverse_nil, List.nil_append, List.cons_append, List.length_cons, List.length_nil, Option.toList_some, Option.toList_none, hT_sI, hT_sJ, hT_sR, hI_sJ, hI_sR, hJ_sI, hJ_sR, hR_sI, hR_sJ, isO_sI, isO_sJ, isO_sR, iI_add, iI_sub, iI_mul, iI_neg, lv_args, Nat.reduceAdd, Nat.reduceEqDiff, Nat.reduceLeDiff, reduceIte, ite_true, ite_false, true_and, and_true, false_and, and_false, not_true, not_false_iff, or_true, true_or, false_or, or_false, imp_self, ne_eq, Classical.not_not, forall_const, true_implies, false_implies, if_pos, Nat.zero_add, Nat.add_zero, Nat.le_refl, Nat.reduceLT, iz00, iz01, iz10, iz11, ib0, ib1, ib01, reduceCtorEq, o', v4, v5, e4]
      refine ⟨fun c => ?_, fun c => ?_⟩
      · refine hG.1 61 _ _ _ _ ?_
        rw [bq_X8_fill_61]
        simp only [bk_X8_fill_61, wp_aconst_null, wp_iconst, wp_bipush, wp_sipush, wp_ldc, wp_ldc_w, wp_ldc2_w, wp_lconst, wp_iload, wp_iload_n, wp_lload, wp_lload_n, wp_aload, wp_aload_n, wp_istore, wp_istore_n, wp_lstore, wp_lstore_n, wp_astore, wp_astore_n, wp_iinc, wp_iadd, wp_isub, wp_imul, wp_iand, wp_ior, wp_ixor, wp_ishl, wp_ishr, wp_iushr, wp_idiv, wp_irem, wp_ineg, wp_ladd, wp_lsub, wp_lmul, wp_ldiv, wp_lrem, wp_lcmp, wp_i2l, wp_l2i, wp_pop, wp_dup, wp_dup2, wp_goto, wp_ifCond, wp_if_icmp, wp_ifnull, wp_ifnonnull, wp_tableswitch, wp_getfield, wp_putfield, wp_arraylength, wp_iaload, wp_baload, wp_laload, wp_aaload, wp_iastore, wp_bastore, wp_lastore, wp_aastore, wp_new, wp_newarray, wp_anewarray, wp_multianewarray, wp_invokevirtual, wp_invokespecial, wp_invokestatic, wp_ireturn, wp_lreturn, wp_areturn, wp_return_, wpL, ldI, ldJ, ldA, lk, sL, cL, i1, i2, l1, l2, r1, pA, p1, p2, ar, tyAt, rcv, rcr, oO, cmpI, Value.category, rf_some, rf_none, ak, kc, List.drop_succ_cons, List.drop_zero, List.drop_nil, List.take_succ_cons, List.take_zero, List.take_nil, List.head?_cons, List.reverse_cons, List.reverse_nil, List.nil_append, List.cons_append, List.length_cons, List.length_nil, Option.toList_some, Option.toList_none, hT_sI, hT_sJ, hT_sR, hI_sJ, hI_sR, hJ_sI, hJ_sR, hR_sI, hR_sJ, isO_sI, isO_sJ, isO_sR, iI_add, iI_sub, iI_mul, iI_neg, lv_args, Nat.reduceAdd, Nat.reduceEqDiff, Nat.reduceLeDiff, reduceIte, ite_true, ite_false, true_and, and_true, false_and, and_false, not_true, not_false_iff, or_true, true_or, false_or, or_false, imp_self, ne_eq, Classical.not_not, forall_const, true_implies, false_implies, if_pos, Nat.zero_add, Nat.add_zero, Nat.le_refl, Nat.reduceLT, iz00, iz01, iz10, iz11, ib0, ib1, ib01, reduceCtorEq]
        refine fin _ (fun c k a hc => by rw [hI_sI, if_neg (fun q => hc q.1)]) ?_ ?_ (F.i (Or.inl ⟨rfl, Or.inr rfl, rfl⟩))
        · rw [hI_sI, if_neg (by omega), v4]
          show _ = iI (cntN (fun j => if j = at' then true else T.1 j) 18 : Nat)
          rw [cn1, if_neg (by omega)]; rfl
        · rw [hI_sI, if_pos ⟨rfl, rfl, rfl⟩]
          show _ = iI (cntN (fun j => if j = at' then true else T.1 j) 19 : Nat)
          rw [cn2, if_pos (by omega), nc1]
      · have v4' : hI (sI h' 8 5 (ad 10 i) (iI ((cntN T.1 19 : Nat) + 1))) 8 4 (ad 10 i) = iI (cntN T.1 18 : Nat) := by rw [hI_sI, if_neg (by omega)]; exact v4
        simp only [v4', iI_add]
        refine hG.1 61 _ _ _ _ ?_
        rw [bq_X8_fill_61]
        simp only [bk_X8_fill_61, wp_aconst_null, wp_iconst, wp_bipush, wp_sipush, wp_ldc, wp_ldc_w, wp_ldc2_w, wp_lconst, wp_iload, wp_iload_n, wp_lload, wp_lload_n, wp_aload, wp_aload_n, wp_istore, wp_istore_n, wp_lstore, wp_lstore_n, wp_astore, wp_astore_n, wp_iinc, wp_iadd, wp_isub, wp_imul, wp_iand, wp_ior, wp_ixor, wp_ishl, wp_ishr, wp_iushr, wp_idiv, wp_irem, wp_ineg, wp_ladd, wp_lsub, wp_lmul, wp_ldiv, wp_lrem, wp_lcmp, wp_i2l, wp_l2i, wp_pop, wp_dup, wp_dup2, wp_goto, wp_ifCond, wp_if_icmp, wp_ifnull, wp_ifnonnull, wp_tableswitch, wp_getfield, wp_putfield, wp_arraylength, wp_iaload, wp_baload, wp_laload, wp_aaload, wp_iastore, wp_bastore, wp_lastore, wp_aastore, wp_new, wp_newarray, wp_anewarray, wp_multianewarray, wp_invokevirtual, wp_invokespecial, wp_invokestatic, wp_ireturn, wp_lreturn, wp_areturn, wp_return_, wpL, ldI, ldJ, ldA, lk, sL, cL, i1, i2, l1, l2, r1, pA, p1, p2, ar, tyAt, rcv, rcr, oO, cmpI, Value.category, rf_some, rf_none, ak, kc, List.drop_succ_cons, List.drop_zero, List.drop_nil, List.take_succ_cons, List.take_zero, List.take_nil, List.head?_cons, List.reverse_cons, List.reverse_nil, List.nil_append, List.cons_append, List.length_cons, List.length_nil, Option.toList_some, Option.toList_none, hT_sI, hT_sJ, hT_sR, hI_sJ, hI_sR, hJ_sI, hJ_sR, hR_sI, hR_sJ, isO_sI, isO_sJ, isO_sR, iI_add, iI_sub, iI_mul, iI_neg, lv_args, Nat.reduceAdd, Nat.reduceEqDiff, Nat.reduceLeDiff, reduceIte, ite_true, ite_false, true_and, and_true, false_and, and_false, not_true, not_false_iff, or_true, true_or, false_or, or_false, imp_self, ne_eq, Classical.not_not, forall_const, true_implies, false_implies, if_pos, Nat.zero_add, Nat.add_zero, Nat.le_refl, Nat.reduceLT, iz00, iz01, iz10, iz11, ib0, ib1, ib01, reduceCtorEq]
        refine fin _ (fun c k a hc => by rw [hI_sI, if_neg (fun q => hc q.1), hI_sI, if_neg (fun q => hc q.1)]) ?_ ?_ ((F.i (Or.inl ⟨rfl, Or.inr rfl, rfl⟩)).i (Or.inl ⟨rfl, Or.inl rfl, rfl⟩))
        · rw [hI_sI, if_pos ⟨rfl, rfl, rfl⟩]
          show _ = iI (cntN (fun j => if j = at' then true else T.1 j) 18 : Nat)
          rw [cn1, if_pos (by omega), nc1]
        · rw [hI_sI, if_neg (by omega), hI_sI, if_pos ⟨rfl, rfl, rfl⟩]
          show _ = iI (cntN (fun j => if j = at' then true else T.1 j) 19 : Nat)
          rw [cn2, if_pos (by omega), nc1]
    | succ n ih =>
      intro j h' hj hja F z
      have e1 : (iI 19 ≤ iI (j : Nat)) = False := eq_false (by rw [iI_le (by omega) (by omega)]; omega)
      have o' : isO h' (ad 10 i) 8 := ⟨_, (F.1 _).trans s1⟩
      have t0 : hR h' 8 1 (ad 10 i) = some (ad 11 i) := (F.2.2.1 _ _ _).trans s3
      have t1 : hR h' 8 3 (ad 10 i) = some (ad 13 i) := (F.2.2.1 _ _ _).trans s5
      have t2 : hT h' (ad 13 i) = some (107, 19) := (F.1 _).trans s8
      have t3 : hT h' (ad 11 i) = some (28, 19) := (F.1 _).trans s6
      have t4 : hR h' 28 at' (ad 11 i) = some (ad (20 + i) at') := (F.2.2.1 _ _ _).trans (s9 at' ha).1
      have t5 : hT h' (ad (20 + i) at') = some (190, 19) := (F.1 _).trans (s9 at' ha).2
      have hin' : vp_in (iI (j : Nat)) 19 := iI_in (by omega) (by omega)
      have e3' : (iI (j : Nat)).toNatClampNeg = j := by rw [iI_cl (by omega)]; omega
      have v1 : hI h' 107 j (ad 13 i) = iI (l j) := by rw [z, if_neg (by omega), if_neg (by omega)]; exact hl j (by omega)
      refine hG.1 9 _ _ _ _ ?_
      rw [bq_X8_fill_9]
      simp only [bk_X8_fill_9, wp_aconst_null, wp_iconst, wp_bipush, wp_sipush, wp_ldc, wp_ldc_w, wp_ldc2_w, wp_lconst, wp_iload, wp_iload_n, wp_lload, wp_lload_n, wp_aload, wp_aload_n, wp_istore, wp_istore_n, wp_lstore, wp_lstore_n, wp_astore, wp_astore_n, wp_iinc, wp_iadd, wp_isub, wp_imul, wp_iand, wp_ior, wp_ixor, wp_ishl, wp_ishr, wp_iushr, wp_idiv, wp_irem, wp_ineg, wp_ladd, wp_lsub, wp_lmul, wp_ldiv, wp_lrem, wp_lcmp, wp_i2l, wp_l2i, wp_pop, wp_dup, wp_dup2, wp_goto, wp_ifCond, wp_if_icmp, wp_ifnull, wp_ifnonnull, wp_tableswitch, wp_getfield, wp_putfield, wp_arraylength, wp_iaload, wp_baload, wp_laload, wp_aaload, wp_iastore, wp_bastore, wp_lastore, wp_aastore, wp_new, wp_newarray, wp_anewarray, wp_multianewarray, wp_invokevirtual, wp_invokespecial, wp_invokestatic, wp_ireturn, wp_lreturn, wp_areturn, wp_return_, wpL, ldI, ldJ, ldA, lk, sL, cL, i1, i2, l1, l2, r1, pA, p1, p2, ar, tyAt, rcv, rcr, oO, cmpI, Value.category, rf_some, rf_none, ak, kc, List.drop_succ_cons, List.drop_zero, List.drop_nil, List.take_succ_cons, List.take_zero, List.take_nil, List.head?_cons, List.reverse_cons, List.reverse_nil, List.nil_append, List.cons_append, List.length_cons, List.length_nil, Option.toList_some, Option.toList_none, hT_sI, hT_sJ, hT_sR, hI_sJ, hI_sR, hJ_sI, hJ_sR, hR_sI, hR_sJ, isO_sI, isO_sJ, isO_sR, iI_add, iI_sub, iI_mul, iI_neg, lv_args, Nat.reduceAdd, Nat.reduceEqDiff, Nat.reduceLeDiff, reduceIte, ite_true, ite_false, true_and, and_true, false_and, and_false, not_true, not_false_iff, or_true, true_or, false_or, or_false, imp_self, ne_eq, Classical.not_not, forall_const, true_implies, false_implies, if_pos, Nat.zero_add, Nat.add_zero, Nat.le_refl, Nat.reduceLT, iz00, iz01, iz10, iz11, ib0, ib1, ib01, reduceCtorEq, e1, o', t0, t1, t2, t3, t4, t5, hin, hin', e3, e3', v1]
      have q := ih (j + 1) (sI h' 190 j (ad (20 + i) at') (iI (l j))) (by omega) (by omega) (F.i (oS j)) (fun c k a => ?_)
      · rw [nc1] at q
        exact q
      · rw [hI_sI]
        by_cases c0 : c = 190 ∧ k = j ∧ a = ad (20 + i) at'
        · obtain ⟨rfl, rfl, rfl⟩ := c0
          rw [if_pos ⟨rfl, rfl, rfl⟩, if_pos ⟨rfl, rfl, hja, by omega⟩]
        · rw [if_neg c0, z]
          by_cases d : c = 190 ∧ a = ad (20 + i) at' ∧ at' ≤ k ∧ k < j
          · rw [if_pos d, if_pos ⟨d.1, d.2.1, d.2.2.1, by omega⟩]
          · rw [if_neg d]
            by_cases d2 : c = 190 ∧ a = ad (20 + i) at' ∧ at' ≤ k ∧ k < j + 1
            · exfalso
              obtain ⟨d3, d4, d5, d6⟩ := d2
              by_cases kj : k = j
              · exact c0 ⟨d3, kj, d4⟩
              · exact d ⟨d3, d4, d5, by omega⟩
            · rw [if_neg d2]
  refine hG.1 0 _ _ _ _ ?_
  rw [bq_X8_fill_0]
  simp only [bk_X8_fill_0, wp_aconst_null, wp_iconst, wp_bipush, wp_sipush, wp_ldc, wp_ldc_w, wp_ldc2_w, wp_lconst, wp_iload, wp_iload_n, wp_lload, wp_lload_n, wp_aload, wp_aload_n, wp_istore, wp_istore_n, wp_lstore, wp_lstore_n, wp_astore, wp_astore_n, wp_iinc, wp_iadd, wp_isub, wp_imul, wp_iand, wp_ior, wp_ixor, wp_ishl, wp_ishr, wp_iushr, wp_idiv, wp_irem, wp_ineg, wp_ladd, wp_lsub, wp_lmul, wp_ldiv, wp_lrem, wp_lcmp, wp_i2l, wp_l2i, wp_pop, wp_dup, wp_dup2, wp_goto, wp_ifCond, wp_if_icmp, wp_ifnull, wp_ifnonnull, wp_tableswitch, wp_getfield, wp_putfield, wp_arraylength, wp_iaload, wp_baload, wp_laload, wp_aaload, wp_iastore, wp_bastore, wp_lastore, wp_aastore, wp_new, wp_newarray, wp_anewarray, wp_multianewarray, wp_invokevirtual, wp_invokespecial, wp_invokestatic, wp_ireturn, wp_lreturn, wp_areturn, wp_return_, wpL, ldI, ldJ, ldA, lk, sL, cL, i1, i2, l1, l2, r1, pA, p1, p2, ar, tyAt, rcv, rcr, oO, cmpI, Value.category, rf_some, rf_none, ak, kc, List.drop_succ_cons, List.drop_zero, List.drop_nil, List.take_succ_cons, List.take_zero, List.take_nil, List.head?_cons, List.reverse_cons, List.reverse_nil, List.nil_append, List.cons_append, List.length_cons, List.length_nil, Option.toList_some, Option.toList_none, hT_sI, hT_sJ, hT_sR, hI_sJ, hI_sR, hJ_sI, hJ_sR, hR_sI, hR_sJ, isO_sI, isO_sJ, isO_sR, iI_add, iI_sub, iI_mul, iI_neg, lv_args, Nat.reduceAdd, Nat.reduceEqDiff, Nat.reduceLeDiff, reduceIte, ite_true, ite_false, true_and, and_true, false_and, and_false, not_true, not_false_iff, or_true, true_or, false_or, or_false, imp_self, ne_eq, Classical.not_not, forall_const, true_implies, false_implies, if_pos, Nat.zero_add, Nat.add_zero, Nat.le_refl, Nat.reduceLT, iz00, iz01, iz10, iz11, ib0, ib1, ib01, reduceCtorEq, o, s4, s7, hin, e3]
  refine loop (19 - at') at' _ (by omega) (Nat.le_refl _) (FT.rf.i (Or.inr (Or.inr (Or.inl ⟨rfl, rfl⟩)))) (fun c k a => ?_)
  have z : ¬ (c = 190 ∧ a = ad (20 + i) at' ∧ at' ≤ k ∧ k < at') := by omega
  rw [hI_sI, if_neg z]
theorem val_X8_fill (g : GP) : Val g yX8_fill prog_10_method_4_code 3 none 1 60 0 0 sp_X8_fill := val_of (own := RX8) (ini := false) (on := 8) (rs := rs_X8_fill) (cl := cl_X8_fill) (rt := 0) (bl := bl_X8_fill) (plainFor_of_name (by decide +kernel)) rfl (rok_X8 _) ck_X8_fill (fun h => by cases h) rfl ((fun _ h => absurd h List.not_mem_nil)) pf_X8_fill

def cl_X8_add : Nat → Nat × Nat × Spec := fun q => if q = 37 then (0, 0, sp_X8_fill) else if q = 38 then (0, 0, sp_X8_takeOff) else (0, 0, fun _ _ _ => False)
theorem cq_X8_add_37 : cl_X8_add 37 = (0, 0, sp_X8_fill) := rfl
theorem cq_X8_add_38 : cl_X8_add 38 = (0, 0, sp_X8_takeOff) := rfl

def sp_X8_add : Spec := fun as h K => ∃ (ad : Ad) (i : Nat) (T : Tt) (row : Nat → Int), as = [.ref (ad 10 i), .ref (ad 9 1)] ∧ RW h ad ∧ i < 3 ∧ (∀ k, k < 19 → hI h 106 k (ad 9 1) = iI (row k)) ∧ lB (pr3 i) row ∧ RT h ad i T ∧ TB (pr3 i) T ∧
  ∀ h', RT h' ad i (addT (pr3 i) T row) → FT ad i h h' → K none h'
theorem pf_X8_add : PfM cl_X8_add (0, 0) 0 3 bl_X8_add sp_X8_add := by
  rintro as h Q ⟨ad, i, T, row, rfl, R, hi, hrow, hb, hRT, hTB, hQ⟩
  refine ⟨Nat.le_of_ble_eq_true rfl, fun G hG => ?_⟩
  obtain ⟨s1, s2, s3, s4, s5, s6, s7, s8, s9, s10⟩ := (R.2.1 i hi).2
  have o : isO h (ad 10 i) 8 := ⟨_, s1⟩
  have w1 := wt_6_1 R
  have hpr := pr3_rg i
  obtain ⟨p, hpp⟩ : ∃ p, p = pr3 i := ⟨_, rfl⟩
  have go : ∀ (n j : Nat) (l : Nat → Int) (h' : hp), j + n = 19 → LV h' ad i l → lB (pr3 i) l → RT h' ad i T → FT ad i h h' → addL (pr3 i) T n j l = addT (pr3 i) T row → G 25 [(0, .ref (ad 10 i)), (1, .ref (ad 9 1)), (2, .int (iI (j : Nat)))] [] h' (0, 0) := by
    intro n
    induction n with
    | zero =>
      intro j l h' hj hl hlb rt F ha
      have e1 : (iI 19 ≤ iI (j : Nat)) = True := eq_true ((iI_le (by omega) (by omega)).mpr (by omega))
      refine hG.1 25 _ _ _ _ ?_
      rw [bq_X8_add_25]
      simp only [bk_X8_add_25, wp_aconst_null, wp_iconst, wp_bipush, wp_sipush, wp_ldc, wp_ldc_w, wp_ldc2_w, wp_lconst, wp_iload, wp_iload_n, wp_lload, wp_lload_n, wp_aload, wp_aload_n, wp_istore, wp_istore_n, wp_lstore, wp_lstore_n, wp_astore, wp_astore_n, wp_iinc, wp_iadd, wp_isub, wp_imul, wp_iand, wp_ior, wp_ixor, wp_ishl, wp_ishr, wp_iushr, wp_idiv, wp_irem, wp_ineg, wp_ladd, wp_lsub, wp_lmul, wp_ldiv, wp_lrem, wp_lcmp, wp_i2l, wp_l2i, wp_pop, wp_dup, wp_dup2, wp_goto, wp_ifCond, wp_if_icmp, wp_ifnull, wp_ifnonnull, wp_tableswitch, wp_getfield, wp_putfield, wp_arraylength, wp_iaload, wp_baload, wp_laload, wp_aaload, wp_iastore, wp_bastore, wp_lastore, wp_aastore, wp_new, wp_newarray, wp_anewarray, wp_multianewarray, wp_invokevirtual, wp_invokespecial, wp_invokestatic, wp_ireturn, wp_lreturn, wp_areturn, wp_return_, wpL, ldI, ldJ, ldA, lk, sL, cL, i1, i2, l1, l2, r1, pA, p1, p2, ar, tyAt, rcv, rcr, oO, cmpI, Value.category, rf_some, rf_none, ak, kc, List.drop_succ_cons, List.drop_zero, List.drop_nil, List.take_succ_cons, List.take_zero, List.take_nil, List.head?_cons, List.reverse_cons, List.reverse_nil, List.nil_append, List.cons_append, List.length_cons, List.length_nil, Option.toList_some, Option.toList_none, hT_sI, hT_sJ, hT_sR, hI_sJ, hI_sR, hJ_sI, hJ_sR, hR_sI, hR_sJ, isO_sI, isO_sJ, isO_sR, iI_add, iI_sub, iI_mul, iI_neg, lv_args, Nat.reduceAdd, Nat.reduceEqDiff, Nat.reduceLeDiff, reduceIte, ite_true, ite_false, true_and, and_true, false_and, and_false, not_true, not_false_iff, or_true, true_or, false_or, or_false, imp_self, ne_eq, Classical.not_not, forall_const, true_implies, false_implies, if_pos, Nat.zero_add, Nat.add_zero, Nat.le_refl, Nat.reduceLT, iz00, iz01, iz10, iz11, ib0, ib1, ib01, reduceCtorEq, cq_X8_add_37, cq_X8_add_38, e1]
      refine hG.1 72 _ _ _ _ ?_
      rw [bq_X8_add_72]
      simp only [bk_X8_add_72, wp_aconst_null, wp_iconst, wp_bipush, wp_sipush, wp_ldc, wp_ldc_w, wp_ldc2_w, wp_lconst, wp_iload, wp_iload_n, wp_lload, wp_lload_n, wp_aload, wp_aload_n, wp_istore, wp_istore_n, wp_lstore, wp_lstore_n, wp_astore, wp_astore_n, wp_iinc, wp_iadd, wp_isub, wp_imul, wp_iand, wp_ior, wp_ixor, wp_ishl, wp_ishr, wp_iushr, wp_idiv, wp_irem, wp_ineg, wp_ladd, wp_lsub, wp_lmul, wp_ldiv, wp_lrem, wp_lcmp, wp_i2l, wp_l2i, wp_pop, wp_dup, wp_dup2, wp_goto, wp_ifCond, wp_if_icmp, wp_ifnull, wp_ifnonnull, wp_tableswitch, wp_getfield, wp_putfield, wp_arraylength, wp_iaload, wp_baload, wp_laload, wp_aaload, wp_iastore, wp_bastore, wp_lastore, wp_aastore, wp_new, wp_newarray, wp_anewarray, wp_multianewarray, wp_invokevirtual, wp_invokespecial, wp_invokestatic, wp_ireturn, wp_lreturn, wp_areturn, wp_return_, wpL, ldI, ldJ, ldA, lk, sL, cL, i1, i2, l1, l2, r1, pA, p1, p2, ar, tyAt, rcv, rcr, oO, cmpI, Value.category, rf_some, rf_none, ak, kc, List.drop_succ_cons, List.drop_zero, List.drop_nil, List.take_succ_cons, List.take_zero, List.take_nil, List.head?_cons, List.reverse_cons, List.reverse_nil, List.nil_append, List.cons_append, List.length_cons, List.length_nil, Option.toList_some, Option.toList_none, hT_sI, hT_sJ, hT_sR, hI_sJ, hI_sR, hJ_sI, hJ_sR, hR_sI, hR_sJ, isO_sI, isO_sJ, isO_sR, iI_add, iI_sub, iI_mul, iI_neg, lv_args, Nat.reduceAdd, Nat.reduceEqDiff, Nat.reduceLeDiff, reduceIte, ite_true, ite_false, true_and, and_true, false_and, and_false, not_true, not_false_iff, or_true, true_or, false_or, or_false, imp_self, ne_eq, Classical.not_not, forall_const, true_implies, false_implies, if_pos, Nat.zero_add, Nat.add_zero, Nat.le_refl, Nat.reduceLT, iz00, iz01, iz10, iz11, ib0, ib1, ib01, reduceCtorEq, cq_X8_add_37, cq_X8_add_38]
      rw [← ha] at hQ
      exact hQ h' rt F
    | succ n ih =>
      intro j l h' hj hl hlb rt F ha
      unfold addL at ha
      have e1 : (iI 19 ≤ iI (j : Nat)) = False := eq_false (by rw [iI_le (by omega) (by omega)]; omega)
      have R' := RW_fs F.s R
      have o' : isO h' (ad 10 i) 8 := ⟨_, (F.1 _).trans s1⟩
      have t0 : hR h' 8 1 (ad 10 i) = some (ad 11 i) := (F.2.2.1 _ _ _).trans s3
      have t1 : hR h' 8 3 (ad 10 i) = some (ad 13 i) := (F.2.2.1 _ _ _).trans s5
      have t2 : hT h' (ad 13 i) = some (107, 19) := (F.1 _).trans s8
      have t3 : hT h' (ad 11 i) = some (28, 19) := (F.1 _).trans s6
      have t4 : hR h' 28 j (ad 11 i) = some (ad (20 + i) j) := (F.2.2.1 _ _ _).trans (s9 j (by omega)).1
      have t5 : hR h' 8 2 (ad 10 i) = some (ad 12 i) := (F.2.2.1 _ _ _).trans s4
      have t6 : hT h' (ad 12 i) = some (200, 19) := (F.1 _).trans s7
      have hin' : vp_in (iI (j : Nat)) 19 := iI_in (by omega) (by omega)
      have e3' : (iI (j : Nat)).toNatClampNeg = j := by rw [iI_cl (by omega)]; omega
      have v1 := hl j (by omega)
      have e4 : (iI (l j) = 0) = (l j = 0) := propext (iI_eq0 (by have := hlb j; omega))
      have v2 := rt.1 j (by omega)
      have nxt : ∀ (l2 : Nat → Int) (h2 : hp), LV h2 ad i l2 → lB (pr3 i) l2 → RT h2 ad i T → FT ad i h h2 → addL (pr3 i) T n (j + 1) l2 = addT (pr3 i) T row → G 66 [(0, .ref (ad 10 i)), (1, .ref (ad 9 1)), (2, .int (iI (j : Nat)))] [] h2 (0, 0) := by
        intro lx h2 a1 a2 a3 a4 a5
        refine hG.1 66 _ _ _ _ ?_
        rw [bq_X8_add_66]
        simp only [bk_X8_add_66, wp_aconst_null, wp_iconst, wp_bipush, wp_sipush, wp_ldc, wp_ldc_w, wp_ldc2_w, wp_lconst, wp_iload, wp_iload_n, wp_lload, wp_lload_n, wp_aload, wp_aload_n, wp_istore, wp_istore_n, wp_lstore, wp_lstore_n, wp_astore, wp_astore_n, wp_iinc, wp_iadd, wp_isub, wp_imul, wp_iand, wp_ior, wp_ixor, wp_ishl, wp_ishr, wp_iushr, wp_idiv, wp_irem, wp_ineg, wp_ladd, wp_lsub, wp_lmul, wp_ldiv, wp_lrem, wp_lcmp, wp_i2l, wp_l2i, wp_pop, wp_dup, wp_dup2, wp_goto, wp_ifCond, wp_if_icmp, wp_ifnull, wp_ifnonnull, wp_tableswitch, wp_getfield, wp_putfield, wp_arraylength, wp_iaload, wp_baload, wp_laload, wp_aaload, wp_iastore, wp_bastore, wp_lastore, wp_aastore, wp_new, wp_newarray, wp_anewarray, wp_multianewarray, wp_invokevirtual, wp_invokespecial, wp_invokestatic, wp_ireturn, wp_lreturn, wp_areturn, wp_return_, wpL, ldI, ldJ, ldA, lk, sL, cL, i1, i2, l1, l2, r1, pA, p1, p2, ar, tyAt, rcv, rcr, oO, cmpI, Value.category, rf_some, rf_none, ak, kc, List.drop_succ_cons, List.drop_zero, List.drop_nil, List.take_succ_cons, List.take_zero, List.take_nil, List.head?_cons, List.reverse_cons, List.reverse_nil, List.nil_append, List.cons_append, List.length_cons, List.length_nil, Option.toList_some, Option.toList_none, hT_sI, hT_sJ, hT_sR, hI_sJ, hI_sR, hJ_sI, hJ_sR, hR_sI, hR_sJ, isO_sI, isO_sJ, isO_sR, iI_add, iI_sub, iI_mul, iI_neg, lv_args, Nat.reduceAdd, Nat.reduceEqDiff, Nat.reduceLeDiff, reduceIte, ite_true, ite_false, true_and, and_true, false_and, and_false, not_true, not_false_iff, or_true, true_or, false_or, or_false, imp_self, ne_eq, Classical.not_not, forall_const, true_implies, false_implies, if_pos, Nat.zero_add, Nat.add_zero, Nat.le_refl, Nat.reduceLT, iz00, iz01, iz10, iz11, ib0, ib1, ib01, reduceCtorEq, cq_X8_add_37, cq_X8_add_38]
        have q := ih (j + 1) lx h2 (by omega) a1 a2 a3 a4 a5
        rw [nc1] at q
        exact q
      refine hG.1 25 _ _ _ _ ?_
      rw [bq_X8_add_25]
      simp only [bk_X8_add_25, wp_aconst_null, wp_iconst, wp_bipush, wp_sipush, wp_ldc, wp_ldc_w, wp_ldc2_w, wp_lconst, wp_iload, wp_iload_n, wp_lload, wp_lload_n, wp_aload, wp_aload_n, wp_istore, wp_istore_n, wp_lstore, wp_lstore_n, wp_astore, wp_astore_n, wp_iinc, wp_iadd, wp_isub, wp_imul, wp_iand, wp_ior, wp_ixor, wp_ishl, wp_ishr, wp_iushr, wp_idiv, wp_irem, wp_ineg, wp_ladd, wp_lsub, wp_lmul, wp_ldiv, wp_lrem, wp_lcmp, wp_i2l, wp_l2i, wp_pop, wp_dup, wp_dup2, wp_goto, wp_ifCond, wp_if_icmp, wp_ifnull, wp_ifnonnull, wp_tableswitch, wp_getfield, wp_putfield, wp_arraylength, wp_iaload, wp_baload, wp_laload, wp_aaload, wp_iastore, wp_bastore, wp_lastore, wp_aastore, wp_new, wp_newarray, wp_anewarray, wp_multianewarray, wp_invokevirtual, wp_invokespecial, wp_invokestatic, wp_ireturn, wp_lreturn, wp_areturn, wp_return_, wpL, ldI, ldJ, ldA, lk, sL, cL, i1, i2, l1, l2, r1, pA, p1, p2, ar, tyAt, rcv, rcr, oO, cmpI, Value.category, rf_some, rf_none, ak, kc, List.drop_succ_cons, List.drop_zero, List.drop_nil, List.take_succ_cons, List.take_zero, List.take_nil, List.head?_cons, List.reverse_cons, List.reverse_nil, List.nil_append, List.cons_append, List.length_cons, List.length_nil, Option.toList_some, Option.toList_none, hT_sI, hT_sJ, hT_sR, hI_sJ, hI_sR, hJ_sI, hJ_sR, hR_sI, hR_sJ, isO_sI, isO_sJ, isO_sR, iI_add, iI_sub, iI_mul, iI_neg, lv_args, Nat.reduceAdd, Nat.reduceEqDiff, Nat.reduceLeDiff, reduceIte, ite_true, ite_false, true_and, and_true, false_and, and_false, not_true, not_false_iff, or_true, true_or, false_or, or_false, imp_self, ne_eq, Classical.not_not, forall_const, true_implies, false_implies, if_pos, Nat.zero_add, Nat.add_zero, Nat.le_refl, Nat.reduceLT, iz00, iz01, iz10, iz11, ib0, ib1, ib01, reduceCtorEq, cq_X8_add_37, cq_X8_add_38, e1, o', t1, t2, hin', e3', v1, e4, t5, t6, v2]
      refine ⟨fun c => ?_, fun c => ⟨fun d => ?_, fun d => ?_⟩⟩
      · rw [if_pos c] at ha
        exact nxt l h' hl hlb rt F ha
      · rw [if_neg c, if_pos d] at ha
        refine hG.1 55 _ _ _ _ ?_
        rw [bq_X8_add_55]
        simp only [bk_X8_add_55, wp_aconst_null, wp_iconst, wp_bipush, wp_sipush, wp_ldc, wp_ldc_w, wp_ldc2_w, wp_lconst, wp_iload, wp_iload_n, wp_lload, wp_lload_n, wp_aload, wp_aload_n, wp_istore, wp_istore_n, wp_lstore, wp_lstore_n, wp_astore, wp_astore_n, wp_iinc, wp_iadd, wp_isub, wp_imul, wp_iand, wp_ior, wp_ixor, wp_ishl, wp_ishr, wp_iushr, wp_idiv, wp_irem, wp_ineg, wp_ladd, wp_lsub, wp_lmul, wp_ldiv, wp_lrem, wp_lcmp, wp_i2l, wp_l2i, wp_pop, wp_dup, wp_dup2, wp_goto, wp_ifCond, wp_if_icmp, wp_ifnull, wp_ifnonnull, wp_tableswitch, wp_getfield, wp_putfield, wp_arraylength, wp_iaload, wp_baload, wp_laload, wp_aaload, wp_iastore, wp_bastore, wp_lastore, wp_aastore, wp_new, wp_newarray, wp_anewarray, wp_multianewarray, wp_invokevirtual, wp_invokespecial, wp_invokestatic, wp_ireturn, wp_lreturn, wp_areturn, wp_return_, wpL, ldI, ldJ, ldA, lk, sL, cL, i1, i2, l1, l2, r1, pA, p1, p2, ar, tyAt, rcv, rcr, oO, cmpI, Value.category, rf_some, rf_none, ak, kc, List.drop_succ_cons, List.drop_zero, List.drop_nil, List.take_succ_cons, List.take_zero, List.take_nil, List.head?_cons, List.reverse_cons, List.reverse_nil, List.nil_append, List.cons_append, List.length_cons, List.length_nil, Option.toList_some, Option.toList_none, hT_sI, hT_sJ, hT_sR, hI_sJ, hI_sR, hJ_sI, hJ_sR, hR_sI, hR_sJ, isO_sI, isO_sJ, isO_sR, iI_add, iI_sub, iI_mul, iI_neg, lv_args, Nat.reduceAdd, Nat.reduceEqDiff, Nat.reduceLeDiff, reduceIte, ite_true, ite_false, true_and, and_true, false_and, and_false, not_true, not_false_iff, or_true, true_or, false_or, or_false, imp_self, ne_eq, Classical.not_not, forall_const, true_implies, false_implies, if_pos, Nat.zero_add, Nat.add_zero, Nat.le_refl, Nat.reduceLT, iz00, iz01, iz10, iz11, ib0, ib1, ib01, reduceCtorEq, cq_X8_add_37, cq_X8_add_38, o', t0, t3, hin', e3', t4]
        refine ⟨ad, i, j, T.2 j, l, rfl, R', hi, by omega, hl, hlb, hTB j d, fun k h1 h2 => rt.2.2.2 j k (by omega) d h1 h2, fun h2 lx F2 g => ?_⟩
        simp only [wp_aconst_null, wp_iconst, wp_bipush, wp_sipush, wp_ldc, wp_ldc_w, wp_ldc2_w, wp_lconst, wp_iload, wp_iload_n, wp_lload, wp_lload_n, wp_aload, wp_aload_n, wp_istore, wp_istore_n, wp_lstore, wp_lstore_n, wp_astore, wp_astore_n, wp_iinc, wp_iadd, wp_isub, wp_imul, wp_iand, wp_ior, wp_ixor, wp_ishl, wp_ishr, wp_iushr, wp_idiv, wp_irem, wp_ineg, wp_ladd, wp_lsub, wp_lmul, wp_ldiv, wp_lrem, wp_lcmp, wp_i2l, wp_l2i, wp_pop, wp_dup, wp_dup2, wp_goto, wp_ifCond, wp_if_icmp, wp_ifnull, wp_ifnonnull, wp_tableswitch, wp_getfield, wp_putfield, wp_arraylength, wp_iaload, wp_baload, wp_laload, wp_aaload, wp_iastore, wp_bastore, wp_lastore, wp_aastore, wp_new, wp_newarray, wp_anewarray, wp_multianewarray, wp_invokevirtual, wp_invokespecial, wp_invokestatic, wp_ireturn, wp_lreturn, wp_areturn, wp_return_, wpL, ldI, ldJ, ldA, lk, sL, cL, i1, i2, l1, l2, r1, pA, p1, p2, ar, tyAt, rcv, rcr, oO, cmpI, Value.category, rf_some, rf_none, ak, kc, List.drop_succ_cons, List.drop_zero, List.drop_nil, List.take_succ_cons, List.take_zero, List.take_nil, List.head?_cons, List.reverse_cons, List.reverse_nil, List.nil_append, List.cons_append, List.length_cons, List.length_nil, Option.toList_some, Option.toList_none, hT_sI, hT_sJ, hT_sR, hI_sJ, hI_sR, hJ_sI, hJ_sR, hR_sI, hR_sJ, isO_sI, isO_sJ, isO_sR, iI_add, iI_sub, iI_mul, iI_neg, lv_args, Nat.reduceAdd, Nat.reduceEqDiff, Nat.reduceLeDiff, reduceIte, ite_true, ite_false, true_and, and_true, false_and, and_false, not_true, not_false_iff, or_true, true_or, false_or, or_false, imp_self, ne_eq, Classical.not_not, forall_const, true_implies, false_implies, if_pos, Nat.zero_add, Nat.add_zero, Nat.le_refl, Nat.reduceLT, iz00, iz01, iz10, iz11, ib0, ib1, ib01, reduceCtorEq, cq_X8_add_37, cq_X8_add_38]
        refine nxt _ h2 lx (tkV_B (by omega) hlb _) ⟨fun m hm => ?_, ?_, ?_, fun m k a1 a2 a3 a4 => ?_⟩ (F.tr F2) ha
        · rw [g _ _ _ (by decide)]; exact rt.1 m hm
        · rw [g _ _ _ (by decide)]; exact rt.2.1
        · rw [g _ _ _ (by decide)]; exact rt.2.2.1
        · rw [g _ _ _ (by decide)]; exact rt.2.2.2 m k a1 a2 a3 a4
      · rw [if_neg c, if_neg d] at ha
        refine ⟨ad, i, j, T, l, rfl, R', hi, by omega, hl, rt, by simpa using d, fun h2 rt2 F2 => ?_⟩
        simp only [wp_aconst_null, wp_iconst, wp_bipush, wp_sipush, wp_ldc, wp_ldc_w, wp_ldc2_w, wp_lconst, wp_iload, wp_iload_n, wp_lload, wp_lload_n, wp_aload, wp_aload_n, wp_istore, wp_istore_n, wp_lstore, wp_lstore_n, wp_astore, wp_astore_n, wp_iinc, wp_iadd, wp_isub, wp_imul, wp_iand, wp_ior, wp_ixor, wp_ishl, wp_ishr, wp_iushr, wp_idiv, wp_irem, wp_ineg, wp_ladd, wp_lsub, wp_lmul, wp_ldiv, wp_lrem, wp_lcmp, wp_i2l, wp_l2i, wp_pop, wp_dup, wp_dup2, wp_goto, wp_ifCond, wp_if_icmp, wp_ifnull, wp_ifnonnull, wp_tableswitch, wp_getfield, wp_putfield, wp_arraylength, wp_iaload, wp_baload, wp_laload, wp_aaload, wp_iastore, wp_bastore, wp_lastore, wp_aastore, wp_new, wp_newarray, wp_anewarray, wp_multianewarray, wp_invokevirtual, wp_invokespecial, wp_invokestatic, wp_ireturn, wp_lreturn, wp_areturn, wp_return_, wpL, ldI, ldJ, ldA, lk, sL, cL, i1, i2, l1, l2, r1, pA, p1, p2, ar, tyAt, rcv, rcr, oO, cmpI, Value.category, rf_some, rf_none, ak, kc, List.drop_succ_cons, List.drop_zero, List.drop_nil, List.take_succ_cons, List.take_zero, List.take_nil, List.head?_cons, List.reverse_cons, List.reverse_nil, List.nil_append, List.cons_append, List.length_cons, List.length_nil, Option.toList_some, Option.toList_none, hT_sI, hT_sJ, hT_sR, hI_sJ, hI_sR, hJ_sI, hJ_sR, hR_sI, hR_sJ, isO_sI, isO_sJ, isO_sR, iI_add, iI_sub, iI_mul, iI_neg, lv_args, Nat.reduceAdd, Nat.reduceEqDiff, Nat.reduceLeDiff, reduceIte, ite_true, ite_false, true_and, and_true, false_and, and_false, not_true, not_false_iff, or_true, true_or, false_or, or_false, imp_self, ne_eq, Classical.not_not, forall_const, true_implies, false_implies, if_pos, Nat.zero_add, Nat.add_zero, Nat.le_refl, Nat.reduceLT, iz00, iz01, iz10, iz11, ib0, ib1, ib01, reduceCtorEq, cq_X8_add_37, cq_X8_add_38]
        refine hG.1 54 _ _ _ _ ?_
        rw [bq_X8_add_54]
        simp only [bk_X8_add_54, wp_aconst_null, wp_iconst, wp_bipush, wp_sipush, wp_ldc, wp_ldc_w, wp_ldc2_w, wp_lconst, wp_iload, wp_iload_n, wp_lload, wp_lload_n, wp_aload, wp_aload_n, wp_istore, wp_istore_n, wp_lstore, wp_lstore_n, wp_astore, wp_astore_n, wp_iinc, wp_iadd, wp_isub, wp_imul, wp_iand, wp_ior, wp_ixor, wp_ishl, wp_ishr, wp_iushr, wp_idiv, wp_irem, wp_ineg, wp_ladd, wp_lsub, wp_lmul, wp_ldiv, wp_lrem, wp_lcmp, wp_i2l, wp_l2i, wp_pop, wp_dup, wp_dup2, wp_goto, wp_ifCond, wp_if_icmp, wp_ifnull, wp_ifnonnull, wp_tableswitch, wp_getfield, wp_putfield, wp_arraylength, wp_iaload, wp_baload, wp_laload, wp_aaload, wp_iastore, wp_bastore, wp_lastore, wp_aastore, wp_new, wp_newarray, wp_anewarray, wp_multianewarray, wp_invokevirtual, wp_invokespecial, wp_invokestatic, wp_ireturn, wp_lreturn, wp_areturn, wp_return_, wpL, ldI, ldJ, ldA, lk, sL, cL, i1, i2, l1, l2, r1, pA, p1, p2, ar, tyAt, rcv, rcr, oO, cmpI, Value.category, rf_some, rf_none, ak, kc, List.drop_succ_cons, List.drop_zero, List.drop_nil, List.take_succ_cons, List.take_zero, List.take_nil, List.head?_cons, List.reverse_cons, List.reverse_nil, List.nil_append, List.cons_append, List.length_cons, List.length_nil, Option.toList_some, Option.toList_none, hT_sI, hT_sJ, hT_sR, hI_sJ, hI_sR, hJ_sI, hJ_sR, hR_sI, hR_sJ, isO_sI, isO_sJ, isO_sR, iI_add, iI_sub, iI_mul, iI_neg, lv_args, Nat.reduceAdd, Nat.reduceEqDiff, Nat.reduceLeDiff, reduceIte, ite_true, ite_false, true_and, and_true, false_and, and_false, not_true, not_false_iff, or_true, true_or, false_or, or_false, imp_self, ne_eq, Classical.not_not, forall_const, true_implies, false_implies, if_pos, Nat.zero_add, Nat.add_zero, Nat.le_refl, Nat.reduceLT, iz00, iz01, iz10, iz11, ib0, ib1, ib01, reduceCtorEq, cq_X8_add_37, cq_X8_add_38]
        rw [← ha] at hQ
        exact hQ h2 rt2 (F.tr F2)
  have loop : ∀ (n j : Nat) (h' : hp), j + n = 19 → FT ad i h h' → (∀ c k a, c ≠ 107 → hI h' c k a = hI h c k a) → (∀ k, k < j → hI h' 107 k (ad 13 i) = iI (row k)) → G 2 [(0, .ref (ad 10 i)), (1, .ref (ad 9 1)), (2, .int (iI (j : Nat)))] [] h' (0, 0) := by
    intro n
    induction n with
    | zero =>
      intro j h' hj F g z
      have e1 : (iI 19 ≤ iI (j : Nat)) = True := eq_true ((iI_le (by omega) (by omega)).mpr (by omega))
      refine hG.1 2 _ _ _ _ ?_
      rw [bq_X8_add_2]
      simp only [bk_X8_add_2, wp_aconst_null, wp_iconst, wp_bipush, wp_sipush, wp_ldc, wp_ldc_w, wp_ldc2_w, wp_lconst, wp_iload, wp_iload_n, wp_lload, wp_lload_n, wp_aload, wp_aload_n, wp_istore, wp_istore_n, wp_lstore, wp_lstore_n, wp_astore, wp_astore_n, wp_iinc, wp_iadd, wp_isub, wp_imul, wp_iand, wp_ior, wp_ixor, wp_ishl, wp_ishr, wp_iushr, wp_idiv, wp_irem, wp_ineg, wp_ladd, wp_lsub, wp_lmul, wp_ldiv, wp_lrem, wp_lcmp, wp_i2l, wp_l2i, wp_pop, wp_dup, wp_dup2, wp_goto, wp_ifCond, wp_if_icmp, wp_ifnull, wp_ifnonnull, wp_tableswitch, wp_getfield, wp_putfield, wp_arraylength, wp_iaload, wp_baload, wp_laload, wp_aaload, wp_iastore, wp_bastore, wp_lastore, wp_aastore, wp_new, wp_newarray, wp_anewarray, wp_multianewarray, wp_invokevirtual, wp_invokespecial, wp_invokestatic, wp_ireturn, wp_lreturn, wp_areturn, wp_return_, wpL, ldI, ldJ, ldA, lk, sL, cL, i1, i2, l1, l2, r1, pA, p1, p2, ar, tyAt, rcv, rcr, oO, cmpI, Value.category, rf_some, rf_none, ak, kc, List.drop_succ_cons, List.drop_zero, List.drop_nil, List.take_succ_cons, List.take_zero, List.take_nil, List.head?_cons, List.reverse_cons, List.reverse_nil, List.nil_append, List.cons_append, List.length_cons, List.length_nil, Option.toList_some, Option.toList_none, hT_sI, hT_sJ, hT_sR, hI_sJ, hI_sR, hJ_sI, hJ_sR, hR_sI, hR_sJ, isO_sI, isO_sJ, isO_sR, iI_add, iI_sub, iI_mul, iI_neg, lv_args, Nat.reduceAdd, Nat.reduceEqDiff, Nat.reduceLeDiff, reduceIte, ite_true, ite_false, true_and, and_true, false_and, and_false, not_true, not_false_iff, or_true, true_or, false_or, or_false, imp_self, ne_eq, Classical.not_not, forall_const, true_implies, false_implies, if_pos, Nat.zero_add, Nat.add_zero, Nat.le_refl, Nat.reduceLT, iz00, iz01, iz10, iz11, ib0, ib1, ib01, reduceCtorEq, cq_X8_add_37, cq_X8_add_38, e1]
      refine hG.1 23 _ _ _ _ ?_
      rw [bq_X8_add_23]
      simp only [bk_X8_add_23, wp_aconst_null, wp_iconst, wp_bipush, wp_sipush, wp_ldc, wp_ldc_w, wp_ldc2_w, wp_lconst, wp_iload, wp_iload_n, wp_lload, wp_lload_n, wp_aload, wp_aload_n, wp_istore, wp_istore_n, wp_lstore, wp_lstore_n, wp_astore, wp_astore_n, wp_iinc, wp_iadd, wp_isub, wp_imul, wp_iand, wp_ior, wp_ixor, wp_ishl, wp_ishr, wp_iushr, wp_idiv, wp_irem, wp_ineg, wp_ladd, wp_lsub, wp_lmul, wp_ldiv, wp_lrem, wp_lcmp, wp_i2l, wp_l2i, wp_pop, wp_dup, wp_dup2, wp_goto, wp_ifCond, wp_if_icmp, wp_ifnull, wp_ifnonnull, wp_tableswitch, wp_getfield, wp_putfield, wp_arraylength, wp_iaload, wp_baload, wp_laload, wp_aaload, wp_iastore, wp_bastore, wp_lastore, wp_aastore, wp_new, wp_newarray, wp_anewarray, wp_multianewarray, wp_invokevirtual, wp_invokespecial, wp_invokestatic, wp_ireturn, wp_lreturn, wp_areturn, wp_return_, wpL, ldI, ldJ, ldA, lk, sL, cL, i1, i2, l1, l2, r1, pA, p1, p2, ar, tyAt, rcv, rcr, oO, cmpI, Value.category, rf_some, rf_none, ak, kc, List.drop_succ_cons, List.drop_zero, List.drop_nil, List.take_succ_cons, List.take_zero, List.take_nil, List.head?_cons, List.reverse_cons, List.reverse_nil, List.nil_append, List.cons_append, List.length_cons, List.length_nil, Option.toList_some, Option.toList_none, hT_sI, hT_sJ, hT_sR, hI_sJ, hI_sR, hJ_sI, hJ_sR, hR_sI, hR_sJ, isO_sI, isO_sJ, isO_sR, iI_add, iI_sub, iI_mul, iI_neg, lv_args, Nat.reduceAdd, Nat.reduceEqDiff, Nat.reduceLeDiff, reduceIte, ite_true, ite_false, true_and, and_true, false_and, and_false, not_true, not_false_iff, or_true, true_or, false_or, or_false, imp_self, ne_eq, Classical.not_not, forall_const, true_implies, false_implies, if_pos, Nat.zero_add, Nat.add_zero, Nat.le_refl, Nat.reduceLT, iz00, iz01, iz10, iz11, ib0, ib1, ib01, reduceCtorEq, cq_X8_add_37, cq_X8_add_38]
      refine go 19 0 row h' (by omega) (fun k hk => z k (by omega)) hb ⟨fun m hm => ?_, ?_, ?_, fun m k a1 a2 a3 a4 => ?_⟩ F rfl
      · rw [g _ _ _ (by decide)]; exact hRT.1 m hm
      · rw [g _ _ _ (by decide)]; exact hRT.2.1
      · rw [g _ _ _ (by decide)]; exact hRT.2.2.1
      · rw [g _ _ _ (by decide)]; exact hRT.2.2.2 m k a1 a2 a3 a4
    | succ n ih =>
      intro j h' hj F g z
      have e1 : (iI 19 ≤ iI (j : Nat)) = False := eq_false (by rw [iI_le (by omega) (by omega)]; omega)
      have o' : isO h' (ad 10 i) 8 := ⟨_, (F.1 _).trans s1⟩
      have t1 : hR h' 8 3 (ad 10 i) = some (ad 13 i) := (F.2.2.1 _ _ _).trans s5
      have t2 : hT h' (ad 13 i) = some (107, 19) := (F.1 _).trans s8
      have t3 : hT h' (ad 9 1) = some (106, 19) := (F.1 _).trans w1
      have hin' : vp_in (iI (j : Nat)) 19 := iI_in (by omega) (by omega)
      have e3' : (iI (j : Nat)).toNatClampNeg = j := by rw [iI_cl (by omega)]; omega
      have v1 : hI h' 106 j (ad 9 1) = iI (row j) := by rw [g _ _ _ (by decide)]; exact hrow j (by omega)
      refine hG.1 2 _ _ _ _ ?_
      rw [bq_X8_add_2]
      simp only [bk_X8_add_2, wp_aconst_null, wp_iconst, wp_bipush, wp_sipush, wp_ldc, wp_ldc_w, wp_ldc2_w, wp_lconst, wp_iload, wp_iload_n, wp_lload, wp_lload_n, wp_aload, wp_aload_n, wp_istore, wp_istore_n, wp_lstore, wp_lstore_n, wp_astore, wp_astore_n, wp_iinc, wp_iadd, wp_isub, wp_imul, wp_iand, wp_ior, wp_ixor, wp_ishl, wp_ishr, wp_iushr, wp_idiv, wp_irem, wp_ineg, wp_ladd, wp_lsub, wp_lmul, wp_ldiv, wp_lrem, wp_lcmp, wp_i2l, wp_l2i, wp_pop, wp_dup, wp_dup2, wp_goto, wp_ifCond, wp_if_icmp, wp_ifnull, wp_ifnonnull, wp_tableswitch, wp_getfield, wp_putfield, wp_arraylength, wp_iaload, wp_baload, wp_laload, wp_aaload, wp_iastore, wp_bastore, wp_lastore, wp_aastore, wp_new, wp_newarray, wp_anewarray, wp_multianewarray, wp_invokevirtual, wp_invokespecial, wp_invokestatic, wp_ireturn, wp_lreturn, wp_areturn, wp_return_, wpL, ldI, ldJ, ldA, lk, sL, cL, i1, i2, l1, l2, r1, pA, p1, p2, ar, tyAt, rcv, rcr, oO, cmpI, Value.category, rf_some, rf_none, ak, kc, List.drop_succ_cons, List.drop_zero, List.drop_nil, List.take_succ_cons, List.take_zero, List.take_nil, List.head?_cons, List.reverse_cons, List.reverse_nil, List.nil_append, List.cons_append, List.length_cons, List.length_nil, Option.toList_some, Option.toList_none, hT_sI, hT_sJ, hT_sR, hI_sJ, hI_sR, hJ_sI, hJ_sR, hR_sI, hR_sJ, isO_sI, isO_sJ, isO_sR, iI_add, iI_sub, iI_mul, iI_neg, lv_args, Nat.reduceAdd, Nat.reduceEqDiff, Nat.reduceLeDiff, reduceIte, ite_true, ite_false, true_and, and_true, false_and, and_false, not_true, not_false_iff, or_true, true_or, false_or, or_false, imp_self, ne_eq, Classical.not_not, forall_const, true_implies, false_implies, if_pos, Nat.zero_add, Nat.add_zero, Nat.le_refl, Nat.reduceLT, iz00, iz01, iz10, iz11, ib0, ib1, ib01, reduceCtorEq, cq_X8_add_37, cq_X8_add_38, e1, o', t1, t2, t3, hin', e3', v1]
      have q := ih (j + 1) (sI h' 107 j (ad 13 i) (iI (row j))) (by omega) (F.i (Or.inr (Or.inl ⟨rfl, rfl⟩))) (fun c k a hc => by rw [hI_sI, if_neg (fun z => hc z.1)]; exact g c k a hc) (fun k hk => ?_)
      · rw [nc1] at q
        exact q
      · rw [hI_sI]
        by_cases c : k = j
        · rw [if_pos ⟨rfl, c, rfl⟩, c]
        · rw [if_neg (fun z => c z.2.1)]; exact z k (by omega)
  refine hG.1 0 _ _ _ _ ?_
  rw [bq_X8_add_0]
  simp only [bk_X8_add_0, wp_aconst_null, wp_iconst, wp_bipush, wp_sipush, wp_ldc, wp_ldc_w, wp_ldc2_w, wp_lconst, wp_iload, wp_iload_n, wp_lload, wp_lload_n, wp_aload, wp_aload_n, wp_istore, wp_istore_n, wp_lstore, wp_lstore_n, wp_astore, wp_astore_n, wp_iinc, wp_iadd, wp_isub, wp_imul, wp_iand, wp_ior, wp_ixor, wp_ishl, wp_ishr, wp_iushr, wp_idiv, wp_irem, wp_ineg, wp_ladd, wp_lsub, wp_lmul, wp_ldiv, wp_lrem, wp_lcmp, wp_i2l, wp_l2i, wp_pop, wp_dup, wp_dup2, wp_goto, wp_ifCond, wp_if_icmp, wp_ifnull, wp_ifnonnull, wp_tableswitch, wp_getfield, wp_putfield, wp_arraylength, wp_iaload, wp_baload, wp_laload, wp_aaload, wp_iastore, wp_bastore, wp_lastore, wp_aastore, wp_new, wp_newarray, wp_anewarray, wp_multianewarray, wp_invokevirtual, wp_invokespecial, wp_invokestatic, wp_ireturn, wp_lreturn, wp_areturn, wp_return_, wpL, ldI, ldJ, ldA, lk, sL, cL, i1, i2, l1, l2, r1, pA, p1, p2, ar, tyAt, rcv, rcr, oO, cmpI, Value.category, rf_some, rf_none, ak, kc, List.drop_succ_cons, List.drop_zero, List.drop_nil, List.take_succ_cons, List.take_zero, List.take_nil, List.head?_cons, List.reverse_cons, List.reverse_nil, List.nil_append, List.cons_append, List.length_cons, List.length_nil, Option.toList_some, Option.toList_none, hT_sI, hT_sJ, hT_sR, hI_sJ, hI_sR, hJ_sI, hJ_sR, hR_sI, hR_sJ, isO_sI, isO_sJ, isO_sR, iI_add, iI_sub, iI_mul, iI_neg, lv_args, Nat.reduceAdd, Nat.reduceEqDiff, Nat.reduceLeDiff, reduceIte, ite_true, ite_false, true_and, and_true, false_and, and_false, not_true, not_false_iff, or_true, true_or, false_or, or_false, imp_self, ne_eq, Classical.not_not, forall_const, true_implies, false_implies, if_pos, Nat.zero_add, Nat.add_zero, Nat.le_refl, Nat.reduceLT, iz00, iz01, iz10, iz11, ib0, ib1, ib01, reduceCtorEq, cq_X8_add_37, cq_X8_add_38]
  exact loop 19 0 h (by omega) FT.rf (fun _ _ _ _ => rfl) (fun m hm => by omega)
theorem val_X8_add (g : GP) : Val g yX8_add prog_10_method_3_code 3 none 2 120 0 0 sp_X8_add := val_of (own := RX8) (ini := false) (on := 8) (rs := rs_X8_add) (cl := cl_X8_add) (rt := 0) (bl := bl_X8_add) (plainFor_of_name (by decide +kernel)) rfl (rok_X8 _) ck_X8_add (fun h => by cases h) rfl (List.forall_mem_cons.mpr ⟨caV (val_X8_fill g) (tb_in 504 (by decide +kernel) (by decide +kernel)) (tb_in 506 (by decide +kernel) (by decide +kernel)) (tb_in 4 (by decide +kernel) (by decide +kernel)) (tb_in 507 (by decide +kernel) (by decide +kernel)) (tb_in 57 (by decide +kernel) (by decide +kernel)) ⟨by decide, by decide, by decide +kernel⟩ ⟨rfl, by decide⟩ ⟨by decide, by decide⟩, List.forall_mem_cons.mpr ⟨caV (val_X8_takeOff g) (tb_in 508 (by decide +kernel) (by decide +kernel)) (tb_in 510 (by decide +kernel) (by decide +kernel)) (tb_in 5 (by decide +kernel) (by decide +kernel)) (tb_in 511 (by decide +kernel) (by decide +kernel)) (tb_in 57 (by decide +kernel) (by decide +kernel)) ⟨by decide, by decide, by decide +kernel⟩ ⟨rfl, by decide⟩ ⟨by decide, by decide⟩, (fun _ h => absurd h List.not_mem_nil)⟩⟩) pf_X8_add

