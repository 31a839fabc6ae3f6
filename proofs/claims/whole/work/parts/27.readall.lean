def rdV (st : St) (i : Nat) : Int := if wkS st i then tlS st i else -900009
/-- the readings of the first j eyes are taken -/
def stR (st : St) (j : Nat) : St := fun f i => if f = 11 ∧ i < j then rdV st i else st f i
def n_readAll (st : St) : St := stR st (st 0 1).toNat
def r_readAll (st : St) : Int := wrkS st
theorem stR_f {st : St} {j f i : Nat} (h : f ≠ 11) : stR st j f i = st f i := if_neg (fun z => h z.1)
theorem stR_0 (st : St) : stR st 0 = st := by
  funext f i
  unfold stR
  rw [if_neg (by omega)]
theorem stR_s (st : St) (j : Nat) : stR st (j + 1) = up (stR st j) 11 j (rdV st j) := by
  funext f i
  unfold stR up
  dsimp only
  by_cases z : f = 11 ∧ i = j
  · rw [if_pos ⟨z.1, by omega⟩, if_pos z, z.2]
  · rw [if_neg z]
    by_cases y : f = 11 ∧ i < j
    · rw [if_pos y, if_pos ⟨y.1, by omega⟩]
    · rw [if_neg y, if_neg (fun q => by
        by_cases e : i = j
        · exact z ⟨q.1, e⟩
        · exact y ⟨q.1, by omega⟩)]
theorem wkS_R (st : St) (j e : Nat) : wkS (stR st j) e = wkS st e := by
  unfold wkS
  simp only [stR_f (show (9 : Nat) ≠ 11 by decide), stR_f (show (1 : Nat) ≠ 11 by decide), stR_f (show (4 : Nat) ≠ 11 by decide), stR_f (show (5 : Nat) ≠ 11 by decide)]
theorem tlS_R (st : St) (j e : Nat) : tlS (stR st j) e = tlS st e := by
  unfold tlS plH
  simp only [stR_f (show (2 : Nat) ≠ 11 by decide), stR_f (show (4 : Nat) ≠ 11 by decide), stR_f (show (5 : Nat) ≠ 11 by decide), stR_f (show (6 : Nat) ≠ 11 by decide), stR_f (show (7 : Nat) ≠ 11 by decide), stR_f (show (10 : Nat) ≠ 11 by decide)]
theorem rdV_rg {st : St} (w : WF st) (e : Nat) : rdV st e = -900009 ∨ (-9999 ≤ rdV st e ∧ rdV st e ≤ 9999) := by
  have := tlS_rg w e
  unfold rdV
  split
  · exact Or.inr this
  · exact Or.inl rfl
theorem WF_R {st : St} (w : WF st) (j : Nat) : WF (stR st j) := by
  have e : ∀ {g i}, g ≠ 11 → stR st j g i = st g i := fun h => stR_f h
  have k : ∀ i, stR st j 11 i = rdV st i ∨ stR st j 11 i = st 11 i := fun i => by
    unfold stR
    by_cases z : i < j
    · exact Or.inl (if_pos ⟨rfl, z⟩)
    · exact Or.inr (if_neg (fun q => z q.2))
  have rv := rdV_rg w
  obtain ⟨w1, w2, w3, w4, w5, w6, w7, w8, w9, w10, w11, w12⟩ := w
  have n11 : ∀ r ∈ rgt, r.1 ≠ 11 := by decide
  refine ⟨?_, fun r hr i => ?_, ?_, fun i hi => ?_, fun i => ?_, ?_, ?_, ?_, ?_, ?_, ?_, ?_⟩
  · simp only [e (show (0 : Nat) ≠ 11 by decide)]; exact w1
  · rw [e (n11 r hr)]; exact w2 r hr i
  · simp only [e (show (2 : Nat) ≠ 11 by decide), e (show (3 : Nat) ≠ 11 by decide)]; exact w3
  · simp only [e (show (0 : Nat) ≠ 11 by decide), e (show (4 : Nat) ≠ 11 by decide), e (show (5 : Nat) ≠ 11 by decide), e (show (8 : Nat) ≠ 11 by decide)] at hi ⊢
    obtain ⟨q1, q2, q3, q4, q5⟩ := w4 i hi
    refine ⟨q1, q2, q3, q4, ?_⟩
    rcases k i with z | z <;> rw [z]
    · exact rv i
    · exact q5
  · simp only [e (show (4 : Nat) ≠ 11 by decide), e (show (5 : Nat) ≠ 11 by decide)]
    obtain ⟨q1, q2, q5⟩ := w5 i
    refine ⟨q1, q2, ?_⟩
    rcases k i with z | z <;> rw [z]
    · exact rv i
    · exact q5
  · simp only [e (show (0 : Nat) ≠ 11 by decide), e (show (12 : Nat) ≠ 11 by decide), e (show (15 : Nat) ≠ 11 by decide), e (show (16 : Nat) ≠ 11 by decide), e (show (17 : Nat) ≠ 11 by decide)]; exact w6
  · simp only [e (show (17 : Nat) ≠ 11 by decide)]; exact w7
  · simp only [e (show (0 : Nat) ≠ 11 by decide), e (show (18 : Nat) ≠ 11 by decide), e (show (19 : Nat) ≠ 11 by decide), e (show (20 : Nat) ≠ 11 by decide), e (show (21 : Nat) ≠ 11 by decide)]; exact w8
  · simp only [e (show (18 : Nat) ≠ 11 by decide), e (show (19 : Nat) ≠ 11 by decide)]; exact w9
  · simp only [e (show (26 : Nat) ≠ 11 by decide)]; exact w10
  · simp only [e (show (0 : Nat) ≠ 11 by decide), e (show (1 : Nat) ≠ 11 by decide), e (show (24 : Nat) ≠ 11 by decide), e (show (25 : Nat) ≠ 11 by decide), e (show (2 : Nat) ≠ 11 by decide), e (show (3 : Nat) ≠ 11 by decide), e (show (22 : Nat) ≠ 11 by decide), e (show (23 : Nat) ≠ 11 by decide)]; exact w11
  · simp only [e (show (0 : Nat) ≠ 11 by decide), e (show (9 : Nat) ≠ 11 by decide), e (show (10 : Nat) ≠ 11 by decide)]; exact w12
theorem cntN_c {P P' : Nat → Bool} (n : Nat) (h : ∀ i, i < n → P i = P' i) : cntN P n = cntN P' n := by
  induction n with
  | zero => rfl
  | succ n ih =>
    unfold cntN
    rw [ih (fun i hi => h i (by omega)), h n (by omega)]
theorem rdg_all {st : St} (w : WF st) : rdgS (n_readAll st) = wrkS st := by
  unfold rdgS wrkS n_readAll
  rw [stR_f (show (0 : Nat) ≠ 11 by decide)]
  congr 1
  refine cntN_c _ (fun i hi => ?_)
  have e : stR st (st 0 1).toNat 11 i = rdV st i := if_pos ⟨rfl, hi⟩
  have := tlS_rg w i
  rw [decide_eq_decide, wkS_R, e]
  unfold rdV
  by_cases z : wkS st i
  · rw [if_pos z]
    exact ⟨fun q => q.1, fun q => ⟨q, by omega⟩⟩
  · exact ⟨fun q => q.1, fun q => absurd q z⟩
def cl_X11_readAll : Nat → Nat × Nat × Spec := fun q => if q = 1 then (0, 0, sp_X0_works) else if q = 4 then (0, 0, sp_X0_told) else if q = 106 then (0, 0, sp_X11_countReadings) else (0, 0, fun _ _ _ => False)
theorem cq_X11_readAll_1 : cl_X11_readAll 1 = (0, 0, sp_X0_works) := rfl
theorem cq_X11_readAll_4 : cl_X11_readAll 4 = (0, 0, sp_X0_told) := rfl
theorem cq_X11_readAll_106 : cl_X11_readAll 106 = (0, 0, sp_X11_countReadings) := rfl

def sp_X11_readAll : Spec := fun as h K => ∃ (ad : Ad) (st : St), as = [.ref (ad 30 0)] ∧ RX h ad st ∧ WF st ∧ ∀ h', RX h' ad (n_readAll st) → FX h h' → K (some (.int (iI (r_readAll st)))) h'
theorem pf_X11_readAll : PfM cl_X11_readAll (0, 0) 1 2 bl_X11_readAll sp_X11_readAll := by
  rintro as h Q ⟨ad, st, rfl, R, w, hQ⟩
  refine ⟨Nat.le_of_ble_eq_true rfl, fun G hG => ?_⟩
  have h0 := w.1.2.1
  have loop : ∀ (n i : Nat) (h' : hp), i + n = (st 0 1).toNat → RX h' ad (stR st i) → FX h h' → G 2 [(0, .ref (ad 30 0)), (1, .int (iI (i : Nat)))] [] h' (0, 0) := by
    intro n
    induction n with
    | zero =>
      intro i h' hi R' F
      have wi := WF_R w i
      have o := xo_x R'
      have c0 := xc_1 R'
      rw [stR_f (by decide)] at c0
      have e1 : (iI (st 0 1) ≤ iI (i : Nat)) = True := eq_true ((iI_le (by omega) (by omega)).mpr (by omega))
      refine hG.1 2 _ _ _ _ ?_
      rw [bq_X11_readAll_2]
      simp only [bk_X11_readAll_2, wp_aconst_null, wp_iconst, wp_bipush, wp_sipush, wp_ldc, wp_ldc_w, wp_ldc2_w, wp_lconst, wp_iload, wp_iload_n, wp_lload, wp_lload_n, wp_aload, wp_aload_n, wp_istore, wp_istore_n, wp_lstore, wp_lstore_n, wp_astore, wp_astore_n, wp_iinc, wp_iadd, wp_isub, wp_imul, wp_iand, wp_ior, wp_ixor, wp_ishl, wp_ishr, wp_iushr, wp_idiv, wp_irem, wp_ineg, wp_ladd, wp_lsub, wp_lmul, wp_ldiv, wp_lrem, wp_lcmp, wp_i2l, wp_l2i, wp_pop, wp_dup, wp_dup2, wp_goto, wp_ifCond, wp_if_icmp, wp_ifnull, wp_ifnonnull, wp_tableswitch, wp_getfield, wp_putfield, wp_arraylength, wp_iaload, wp_baload, wp_laload, wp_aaload, wp_iastore, wp_bastore, wp_lastore, wp_aastore, wp_new, wp_newarray, wp_anewarray, wp_multianewarray, wp_invokevirtual, wp_invokespecial, wp_invokestatic, wp_ireturn, wp_lreturn, wp_areturn, wp_return_, wpL, ldI, ldJ, ldA, lk, sL, cL, i1, i2, l1, l2, r1, pA, p1, p2, ar, tyAt, rcv, rcr, oO, cmpI, Value.category, rf_some, rf_none, ak, kc, List.drop_succ_cons, List.drop_zero, List.drop_nil, List.take_succ_cons, List.take_zero, List.take_nil, List.head?_cons, List.reverse_cons, List.reverse_nil, List.nil_append, List.cons_append, List.length_cons, List.length_nil, Option.toList_some, Option.toList_none, hT_sI, hT_sJ, hT_sR, hI_sJ, hI_sR, hJ_sI, hJ_sR, hR_sI, hR_sJ, isO_sI, isO_sJ, isO_sR, iI_add, iI_sub, iI_mul, iI_neg, lv_args, Nat.reduceAdd, Nat.reduceEqDiff, Nat.reduceLeDiff, reduceIte, ite_true, ite_false, true_and, and_true, false_and, and_false, not_true, not_false_iff, or_true, true_or, false_or, or_false, imp_self, ne_eq, Classical.not_not, forall_const, true_implies, false_implies, if_pos, Nat.zero_add, Nat.add_zero, Nat.le_refl, Nat.reduceLT, iz00, iz01, iz10, iz11, ib0, ib1, ib01, reduceCtorEq, cq_X11_readAll_1, cq_X11_readAll_4, cq_X11_readAll_106, o, c0, e1]
      refine hG.1 51 _ _ _ _ ?_
      rw [bq_X11_readAll_51]
      simp only [bk_X11_readAll_51, wp_aconst_null, wp_iconst, wp_bipush, wp_sipush, wp_ldc, wp_ldc_w, wp_ldc2_w, wp_lconst, wp_iload, wp_iload_n, wp_lload, wp_lload_n, wp_aload, wp_aload_n, wp_istore, wp_istore_n, wp_lstore, wp_lstore_n, wp_astore, wp_astore_n, wp_iinc, wp_iadd, wp_isub, wp_imul, wp_iand, wp_ior, wp_ixor, wp_ishl, wp_ishr, wp_iushr, wp_idiv, wp_irem, wp_ineg, wp_ladd, wp_lsub, wp_lmul, wp_ldiv, wp_lrem, wp_lcmp, wp_i2l, wp_l2i, wp_pop, wp_dup, wp_dup2, wp_goto, wp_ifCond, wp_if_icmp, wp_ifnull, wp_ifnonnull, wp_tableswitch, wp_getfield, wp_putfield, wp_arraylength, wp_iaload, wp_baload, wp_laload, wp_aaload, wp_iastore, wp_bastore, wp_lastore, wp_aastore, wp_new, wp_newarray, wp_anewarray, wp_multianewarray, wp_invokevirtual, wp_invokespecial, wp_invokestatic, wp_ireturn, wp_lreturn, wp_areturn, wp_return_, wpL, ldI, ldJ, ldA, lk, sL, cL, i1, i2, l1, l2, r1, pA, p1, p2, ar, tyAt, rcv, rcr, oO, cmpI, Value.category, rf_some, rf_none, ak, kc, List.drop_succ_cons, List.drop_zero, List.drop_nil, List.take_succ_cons, List.take_zero, List.take_nil, List.head?_cons, List.reverse_cons, List.reverse_nil, List.nil_append, List.cons_append, List.length_cons, List.length_nil, Option.toList_some, Option.toList_none, hT_sI, hT_sJ, hT_sR, hI_sJ, hI_sR, hJ_sI, hJ_sR, hR_sI, hR_sJ, isO_sI, isO_sJ, isO_sR, iI_add, iI_sub, iI_mul, iI_neg, lv_args, Nat.reduceAdd, Nat.reduceEqDiff, Nat.reduceLeDiff, reduceIte, ite_true, ite_false, true_and, and_true, false_and, and_false, not_true, not_false_iff, or_true, true_or, false_or, or_false, imp_self, ne_eq, Classical.not_not, forall_const, true_implies, false_implies, if_pos, Nat.zero_add, Nat.add_zero, Nat.le_refl, Nat.reduceLT, iz00, iz01, iz10, iz11, ib0, ib1, ib01, reduceCtorEq, cq_X11_readAll_1, cq_X11_readAll_4, cq_X11_readAll_106, o]
      have ei : i = (st 0 1).toNat := by omega
      subst ei
      refine ⟨ad, _, rfl, R', wi, ?_⟩
      simp only [wp_aconst_null, wp_iconst, wp_bipush, wp_sipush, wp_ldc, wp_ldc_w, wp_ldc2_w, wp_lconst, wp_iload, wp_iload_n, wp_lload, wp_lload_n, wp_aload, wp_aload_n, wp_istore, wp_istore_n, wp_lstore, wp_lstore_n, wp_astore, wp_astore_n, wp_iinc, wp_iadd, wp_isub, wp_imul, wp_iand, wp_ior, wp_ixor, wp_ishl, wp_ishr, wp_iushr, wp_idiv, wp_irem, wp_ineg, wp_ladd, wp_lsub, wp_lmul, wp_ldiv, wp_lrem, wp_lcmp, wp_i2l, wp_l2i, wp_pop, wp_dup, wp_dup2, wp_goto, wp_ifCond, wp_if_icmp, wp_ifnull, wp_ifnonnull, wp_tableswitch, wp_getfield, wp_putfield, wp_arraylength, wp_iaload, wp_baload, wp_laload, wp_aaload, wp_iastore, wp_bastore, wp_lastore, wp_aastore, wp_new, wp_newarray, wp_anewarray, wp_multianewarray, wp_invokevirtual, wp_invokespecial, wp_invokestatic, wp_ireturn, wp_lreturn, wp_areturn, wp_return_, wpL, ldI, ldJ, ldA, lk, sL, cL, i1, i2, l1, l2, r1, pA, p1, p2, ar, tyAt, rcv, rcr, oO, cmpI, Value.category, rf_some, rf_none, ak, kc, List.drop_succ_cons, List.drop_zero, List.drop_nil, List.take_succ_cons, List.take_zero, List.take_nil, List.head?_cons, List.reverse_cons, List.reverse_nil, List.nil_append, List.cons_append, List.length_cons, List.length_nil, Option.toList_some, Option.toList_none, hT_sI, hT_sJ, hT_sR, hI_sJ, hI_sR, hJ_sI, hJ_sR, hR_sI, hR_sJ, isO_sI, isO_sJ, isO_sR, iI_add, iI_sub, iI_mul, iI_neg, lv_args, Nat.reduceAdd, Nat.reduceEqDiff, Nat.reduceLeDiff, reduceIte, ite_true, ite_false, true_and, and_true, false_and, and_false, not_true, not_false_iff, or_true, true_or, false_or, or_false, imp_self, ne_eq, Classical.not_not, forall_const, true_implies, false_implies, if_pos, Nat.zero_add, Nat.add_zero, Nat.le_refl, Nat.reduceLT, iz00, iz01, iz10, iz11, ib0, ib1, ib01, reduceCtorEq, cq_X11_readAll_1, cq_X11_readAll_4, cq_X11_readAll_106]
      have q := rdg_all w
      unfold n_readAll at q
      rw [q]
      exact hQ h' R' F
    | succ n ih =>
      intro i h' hi R' F
      have wi := WF_R w i
      have o := xo_x R'
      have c0 := xc_1 R'
      have t1 := xa_24 R'
      have t2 := xat_24 R'
      have hc : ((i : Nat) : Int) < stR st i 0 1 := by rw [stR_f (by decide)]; omega
      rw [stR_f (by decide)] at c0
      have e1 : (iI (st 0 1) ≤ iI (i : Nat)) = False := eq_false (by rw [iI_le (by omega) (by omega)]; omega)
      have hin : vp_in (iI (i : Nat)) 24 := iI_in (by omega) (by omega)
      have e3 : (iI (i : Nat)).toNatClampNeg = i := by rw [iI_cl (by omega)]; omega
      have t3 := xae_24 R' hc
      have o1 := xo_5 R' hc
      have put : ∀ v : Int, v = rdV st i → G 42 [(0, .ref (ad 30 0)), (1, .int (iI (i : Nat)))] [.int (iI v), .ref (ad 5 i)] h' (0, 0) := by
        intro v hv
        refine hG.1 42 _ _ _ _ ?_
        rw [bq_X11_readAll_42]
        simp only [bk_X11_readAll_42, wp_aconst_null, wp_iconst, wp_bipush, wp_sipush, wp_ldc, wp_ldc_w, wp_ldc2_w, wp_lconst, wp_iload, wp_iload_n, wp_lload, wp_lload_n, wp_aload, wp_aload_n, wp_istore, wp_istore_n, wp_lstore, wp_lstore_n, wp_astore, wp_astore_n, wp_iinc, wp_iadd, wp_isub, wp_imul, wp_iand, wp_ior, wp_ixor, wp_ishl, wp_ishr, wp_iushr, wp_idiv, wp_irem, wp_ineg, wp_ladd, wp_lsub, wp_lmul, wp_ldiv, wp_lrem, wp_lcmp, wp_i2l, wp_l2i, wp_pop, wp_dup, wp_dup2, wp_goto, wp_ifCond, wp_if_icmp, wp_ifnull, wp_ifnonnull, wp_tableswitch, wp_getfield, wp_putfield, wp_arraylength, wp_iaload, wp_baload, wp_laload, wp_aaload, wp_iastore, wp_bastore, wp_lastore, wp_aastore, wp_new, wp_newarray, wp_anewarray, wp_multianewarray, wp_invokevirtual, wp_invokespecial, wp_invokestatic, wp_ireturn, wp_lreturn, wp_areturn, wp_return_, wpL, ldI, ldJ, ldA, lk, sL, cL, i1, i2, l1, l2, r1, pA, p1, p2, ar, tyAt, rcv, rcr, oO, cmpI, Value.category, rf_some, rf_none, ak, kc, List.drop_succ_cons, List.drop_zero, List.drop_nil, List.take_succ_cons, List.take_zero, List.take_nil, List.head?_cons, List.reverse_cons, List.reverse_nil, List.nil_append, List.cons_append, List.length_cons, List.length_nil, Option.toList_some, Option.toList_none, hT_sI, hT_sJ, hT_sR, hI_sJ, hI_sR, hJ_sI, hJ_sR, hR_sI, hR_sJ, isO_sI, isO_sJ, isO_sR, iI_add, iI_sub, iI_mul, iI_neg, lv_args, Nat.reduceAdd, Nat.reduceEqDiff, Nat.reduceLeDiff, reduceIte, ite_true, ite_false, true_and, and_true, false_and, and_false, not_true, not_false_iff, or_true, true_or, false_or, or_false, imp_self, ne_eq, Classical.not_not, forall_const, true_implies, false_implies, if_pos, Nat.zero_add, Nat.add_zero, Nat.le_refl, Nat.reduceLT, iz00, iz01, iz10, iz11, ib0, ib1, ib01, reduceCtorEq, cq_X11_readAll_1, cq_X11_readAll_4, cq_X11_readAll_106, o1]
        have q := RX_set R' 0 7 5 11 1 0 1 (by decide) hc v
        simp only [Nat.one_mul, Nat.add_zero] at q
        rw [hv, ← stR_s] at q
        have q2 := ih (i + 1) _ (by omega) q (F.i (by decide))
        rw [nc1, ← hv] at q2
        exact q2
      refine hG.1 2 _ _ _ _ ?_
      rw [bq_X11_readAll_2]
      simp only [bk_X11_readAll_2, wp_aconst_null, wp_iconst, wp_bipush, wp_sipush, wp_ldc, wp_ldc_w, wp_ldc2_w, wp_lconst, wp_iload, wp_iload_n, wp_lload, wp_lload_n, wp_aload, wp_aload_n, wp_istore, wp_istore_n, wp_lstore, wp_lstore_n, wp_astore, wp_astore_n, wp_iinc, wp_iadd, wp_isub, wp_imul, wp_iand, wp_ior, wp_ixor, wp_ishl, wp_ishr, wp_iushr, wp_idiv, wp_irem, wp_ineg, wp_ladd, wp_lsub, wp_lmul, wp_ldiv, wp_lrem, wp_lcmp, wp_i2l, wp_l2i, wp_pop, wp_dup, wp_dup2, wp_goto, wp_ifCond, wp_if_icmp, wp_ifnull, wp_ifnonnull, wp_tableswitch, wp_getfield, wp_putfield, wp_arraylength, wp_iaload, wp_baload, wp_laload, wp_aaload, wp_iastore, wp_bastore, wp_lastore, wp_aastore, wp_new, wp_newarray, wp_anewarray, wp_multianewarray, wp_invokevirtual, wp_invokespecial, wp_invokestatic, wp_ireturn, wp_lreturn, wp_areturn, wp_return_, wpL, ldI, ldJ, ldA, lk, sL, cL, i1, i2, l1, l2, r1, pA, p1, p2, ar, tyAt, rcv, rcr, oO, cmpI, Value.category, rf_some, rf_none, ak, kc, List.drop_succ_cons, List.drop_zero, List.drop_nil, List.take_succ_cons, List.take_zero, List.take_nil, List.head?_cons, List.reverse_cons, List.reverse_nil, List.nil_append, List.cons_append, List.length_cons, List.length_nil, Option.toList_some, Option.toList_none, hT_sI, hT_sJ, hT_sR, hI_sJ, hI_sR, hJ_sI, hJ_sR, hR_sI, hR_sJ, isO_sI, isO_sJ, isO_sR, iI_add, iI_sub, iI_mul, iI_neg, lv_args, Nat.reduceAdd, Nat.reduceEqDiff, Nat.reduceLeDiff, reduceIte, ite_true, ite_false, true_and, and_true, false_and, and_false, not_true, not_false_iff, or_true, true_or, false_or, or_false, imp_self, ne_eq, Classical.not_not, forall_const, true_implies, false_implies, if_pos, Nat.zero_add, Nat.add_zero, Nat.le_refl, Nat.reduceLT, iz00, iz01, iz10, iz11, ib0, ib1, ib01, reduceCtorEq, cq_X11_readAll_1, cq_X11_readAll_4, cq_X11_readAll_106, o, c0, e1, t1, t2, hin, e3, t3, o1]
      refine ⟨_, _, _, rfl, eyeAt_x R' wi hc, ?_⟩
      simp only [wp_aconst_null, wp_iconst, wp_bipush, wp_sipush, wp_ldc, wp_ldc_w, wp_ldc2_w, wp_lconst, wp_iload, wp_iload_n, wp_lload, wp_lload_n, wp_aload, wp_aload_n, wp_istore, wp_istore_n, wp_lstore, wp_lstore_n, wp_astore, wp_astore_n, wp_iinc, wp_iadd, wp_isub, wp_imul, wp_iand, wp_ior, wp_ixor, wp_ishl, wp_ishr, wp_iushr, wp_idiv, wp_irem, wp_ineg, wp_ladd, wp_lsub, wp_lmul, wp_ldiv, wp_lrem, wp_lcmp, wp_i2l, wp_l2i, wp_pop, wp_dup, wp_dup2, wp_goto, wp_ifCond, wp_if_icmp, wp_ifnull, wp_ifnonnull, wp_tableswitch, wp_getfield, wp_putfield, wp_arraylength, wp_iaload, wp_baload, wp_laload, wp_aaload, wp_iastore, wp_bastore, wp_lastore, wp_aastore, wp_new, wp_newarray, wp_anewarray, wp_multianewarray, wp_invokevirtual, wp_invokespecial, wp_invokestatic, wp_ireturn, wp_lreturn, wp_areturn, wp_return_, wpL, ldI, ldJ, ldA, lk, sL, cL, i1, i2, l1, l2, r1, pA, p1, p2, ar, tyAt, rcv, rcr, oO, cmpI, Value.category, rf_some, rf_none, ak, kc, List.drop_succ_cons, List.drop_zero, List.drop_nil, List.take_succ_cons, List.take_zero, List.take_nil, List.head?_cons, List.reverse_cons, List.reverse_nil, List.nil_append, List.cons_append, List.length_cons, List.length_nil, Option.toList_some, Option.toList_none, hT_sI, hT_sJ, hT_sR, hI_sJ, hI_sR, hJ_sI, hJ_sR, hR_sI, hR_sJ, isO_sI, isO_sJ, isO_sR, iI_add, iI_sub, iI_mul, iI_neg, lv_args, Nat.reduceAdd, Nat.reduceEqDiff, Nat.reduceLeDiff, reduceIte, ite_true, ite_false, true_and, and_true, false_and, and_false, not_true, not_false_iff, or_true, true_or, false_or, or_false, imp_self, ne_eq, Classical.not_not, forall_const, true_implies, false_implies, if_pos, Nat.zero_add, Nat.add_zero, Nat.le_refl, Nat.reduceLT, iz00, iz01, iz10, iz11, ib0, ib1, ib01, reduceCtorEq, cq_X11_readAll_1, cq_X11_readAll_4, cq_X11_readAll_106, o, t1, t2, hin, e3, t3, o1, wkE_x R' wi hc, wkS_R]
      refine ⟨fun c => ?_, fun c => ?_⟩
      · refine hG.1 40 _ _ _ _ ?_
        rw [bq_X11_readAll_40]
        simp only [bk_X11_readAll_40, wp_aconst_null, wp_iconst, wp_bipush, wp_sipush, wp_ldc, wp_ldc_w, wp_ldc2_w, wp_lconst, wp_iload, wp_iload_n, wp_lload, wp_lload_n, wp_aload, wp_aload_n, wp_istore, wp_istore_n, wp_lstore, wp_lstore_n, wp_astore, wp_astore_n, wp_iinc, wp_iadd, wp_isub, wp_imul, wp_iand, wp_ior, wp_ixor, wp_ishl, wp_ishr, wp_iushr, wp_idiv, wp_irem, wp_ineg, wp_ladd, wp_lsub, wp_lmul, wp_ldiv, wp_lrem, wp_lcmp, wp_i2l, wp_l2i, wp_pop, wp_dup, wp_dup2, wp_goto, wp_ifCond, wp_if_icmp, wp_ifnull, wp_ifnonnull, wp_tableswitch, wp_getfield, wp_putfield, wp_arraylength, wp_iaload, wp_baload, wp_laload, wp_aaload, wp_iastore, wp_bastore, wp_lastore, wp_aastore, wp_new, wp_newarray, wp_anewarray, wp_multianewarray, wp_invokevirtual, wp_invokespecial, wp_invokestatic, wp_ireturn, wp_lreturn, wp_areturn, wp_return_, wpL, ldI, ldJ, ldA, lk, sL, cL, i1, i2, l1, l2, r1, pA, p1, p2, ar, tyAt, rcv, rcr, oO, cmpI, Value.category, rf_some, rf_none, ak, kc, List.drop_succ_cons, List.drop_zero, List.drop_nil, List.take_succ_cons, List.take_zero, List.take_nil, List.head?_cons, List.reverse_cons, List.reverse_nil, List.nil_append, List.cons_append, List.length_cons, List.length_nil, Option.toList_some, Option.toList_none, hT_sI, hT_sJ, hT_sR, hI_sJ, hI_sR, hJ_sI, hJ_sR, hR_sI, hR_sJ, isO_sI, isO_sJ, isO_sR, iI_add, iI_sub, iI_mul, iI_neg, lv_args, Nat.reduceAdd, Nat.reduceEqDiff, Nat.reduceLeDiff, reduceIte, ite_true, ite_false, true_and, and_true, false_and, and_false, not_true, not_false_iff, or_true, true_or, false_or, or_false, imp_self, ne_eq, Classical.not_not, forall_const, true_implies, false_implies, if_pos, Nat.zero_add, Nat.add_zero, Nat.le_refl, Nat.reduceLT, iz00, iz01, iz10, iz11, ib0, ib1, ib01, reduceCtorEq, cq_X11_readAll_1, cq_X11_readAll_4, cq_X11_readAll_106]
        exact put _ (by unfold rdV; rw [if_neg c])
      · refine told_x R' wi hc ?_
        rw [tlS_R]
        simp only [wp_aconst_null, wp_iconst, wp_bipush, wp_sipush, wp_ldc, wp_ldc_w, wp_ldc2_w, wp_lconst, wp_iload, wp_iload_n, wp_lload, wp_lload_n, wp_aload, wp_aload_n, wp_istore, wp_istore_n, wp_lstore, wp_lstore_n, wp_astore, wp_astore_n, wp_iinc, wp_iadd, wp_isub, wp_imul, wp_iand, wp_ior, wp_ixor, wp_ishl, wp_ishr, wp_iushr, wp_idiv, wp_irem, wp_ineg, wp_ladd, wp_lsub, wp_lmul, wp_ldiv, wp_lrem, wp_lcmp, wp_i2l, wp_l2i, wp_pop, wp_dup, wp_dup2, wp_goto, wp_ifCond, wp_if_icmp, wp_ifnull, wp_ifnonnull, wp_tableswitch, wp_getfield, wp_putfield, wp_arraylength, wp_iaload, wp_baload, wp_laload, wp_aaload, wp_iastore, wp_bastore, wp_lastore, wp_aastore, wp_new, wp_newarray, wp_anewarray, wp_multianewarray, wp_invokevirtual, wp_invokespecial, wp_invokestatic, wp_ireturn, wp_lreturn, wp_areturn, wp_return_, wpL, ldI, ldJ, ldA, lk, sL, cL, i1, i2, l1, l2, r1, pA, p1, p2, ar, tyAt, rcv, rcr, oO, cmpI, Value.category, rf_some, rf_none, ak, kc, List.drop_succ_cons, List.drop_zero, List.drop_nil, List.take_succ_cons, List.take_zero, List.take_nil, List.head?_cons, List.reverse_cons, List.reverse_nil, List.nil_append, List.cons_append, List.length_cons, List.length_nil, Option.toList_some, Option.toList_none, hT_sI, hT_sJ, hT_sR, hI_sJ, hI_sR, hJ_sI, hJ_sR, hR_sI, hR_sJ, isO_sI, isO_sJ, isO_sR, iI_add, iI_sub, iI_mul, iI_neg, lv_args, Nat.reduceAdd, Nat.reduceEqDiff, Nat.reduceLeDiff, reduceIte, ite_true, ite_false, true_and, and_true, false_and, and_false, not_true, not_false_iff, or_true, true_or, false_or, or_false, imp_self, ne_eq, Classical.not_not, forall_const, true_implies, false_implies, if_pos, Nat.zero_add, Nat.add_zero, Nat.le_refl, Nat.reduceLT, iz00, iz01, iz10, iz11, ib0, ib1, ib01, reduceCtorEq, cq_X11_readAll_1, cq_X11_readAll_4, cq_X11_readAll_106]
        exact put _ (by unfold rdV; rw [if_pos c])
  refine hG.1 0 _ _ _ _ ?_
  rw [bq_X11_readAll_0]
  simp only [bk_X11_readAll_0, wp_aconst_null, wp_iconst, wp_bipush, wp_sipush, wp_ldc, wp_ldc_w, wp_ldc2_w, wp_lconst, wp_iload, wp_iload_n, wp_lload, wp_lload_n, wp_aload, wp_aload_n, wp_istore, wp_istore_n, wp_lstore, wp_lstore_n, wp_astore, wp_astore_n, wp_iinc, wp_iadd, wp_isub, wp_imul, wp_iand, wp_ior, wp_ixor, wp_ishl, wp_ishr, wp_iushr, wp_idiv, wp_irem, wp_ineg, wp_ladd, wp_lsub, wp_lmul, wp_ldiv, wp_lrem, wp_lcmp, wp_i2l, wp_l2i, wp_pop, wp_dup, wp_dup2, wp_goto, wp_ifCond, wp_if_icmp, wp_ifnull, wp_ifnonnull, wp_tableswitch, wp_getfield, wp_putfield, wp_arraylength, wp_iaload, wp_baload, wp_laload, wp_aaload, wp_iastore, wp_bastore, wp_lastore, wp_aastore, wp_new, wp_newarray, wp_anewarray, wp_multianewarray, wp_invokevirtual, wp_invokespecial, wp_invokestatic, wp_ireturn, wp_lreturn, wp_areturn, wp_return_, wpL, ldI, ldJ, ldA, lk, sL, cL, i1, i2, l1, l2, r1, pA, p1, p2, ar, tyAt, rcv, rcr, oO, cmpI, Value.category, rf_some, rf_none, ak, kc, List.drop_succ_cons, List.drop_zero, List.drop_nil, List.take_succ_cons, List.take_zero, List.take_nil, List.head?_cons, List.reverse_cons, List.reverse_nil, List.nil_append, List.cons_append, List.length_cons, List.length_nil, Option.toList_some, Option.toList_none, hT_sI, hT_sJ, hT_sR, hI_sJ, hI_sR, hJ_sI, hJ_sR, hR_sI, hR_sJ, isO_sI, isO_sJ, isO_sR, iI_add, iI_sub, iI_mul, iI_neg, lv_args, Nat.reduceAdd, Nat.reduceEqDiff, Nat.reduceLeDiff, reduceIte, ite_true, ite_false, true_and, and_true, false_and, and_false, not_true, not_false_iff, or_true, true_or, false_or, or_false, imp_self, ne_eq, Classical.not_not, forall_const, true_implies, false_implies, if_pos, Nat.zero_add, Nat.add_zero, Nat.le_refl, Nat.reduceLT, iz00, iz01, iz10, iz11, ib0, ib1, ib01, reduceCtorEq, cq_X11_readAll_1, cq_X11_readAll_4, cq_X11_readAll_106]
  exact loop (st 0 1).toNat 0 h (by omega) (by rw [stR_0]; exact R) FX.rf
theorem val_X11_readAll (g : GP) : Val g yX11_readAll prog_1_method_18_code 2 (some .int) 4 240 0 0 sp_X11_readAll := val_of (own := RX11) (ini := false) (on := 11) (rs := rs_X11_readAll) (cl := cl_X11_readAll) (rt := 1) (bl := bl_X11_readAll) (plainFor_of_name (by decide +kernel)) rfl (rok_X11 _) ck_X11_readAll (fun h => by cases h) rfl (List.forall_mem_cons.mpr ⟨caV (val_X0_works g) (tb_in 455 (by decide +kernel) (by decide +kernel)) (tb_in 456 (by decide +kernel) (by decide +kernel)) (tb_in 457 (by decide +kernel) (by decide +kernel)) (tb_in 458 (by decide +kernel) (by decide +kernel)) (tb_in 66 (by decide +kernel) (by decide +kernel)) ⟨by decide, by decide, by decide +kernel⟩ ⟨rfl, by decide⟩ ⟨by decide, by decide⟩, List.forall_mem_cons.mpr ⟨caV (val_X0_told g) (tb_in 459 (by decide +kernel) (by decide +kernel)) (tb_in 460 (by decide +kernel) (by decide +kernel)) (tb_in 461 (by decide +kernel) (by decide +kernel)) (tb_in 462 (by decide +kernel) (by decide +kernel)) (tb_in 66 (by decide +kernel) (by decide +kernel)) ⟨by decide, by decide, by decide +kernel⟩ ⟨rfl, by decide⟩ ⟨by decide, by decide⟩, List.forall_mem_cons.mpr ⟨caV (val_X11_countReadings g) (tb_in 570 (by decide +kernel) (by decide +kernel)) (tb_in 572 (by decide +kernel) (by decide +kernel)) (tb_in 10 (by decide +kernel) (by decide +kernel)) (tb_in 573 (by decide +kernel) (by decide +kernel)) (tb_in 55 (by decide +kernel) (by decide +kernel)) ⟨by decide, by decide, by decide +kernel⟩ ⟨rfl, by decide⟩ ⟨by decide, by decide⟩, (fun _ h => absurd h List.not_mem_nil)⟩⟩⟩) pf_X11_readAll

