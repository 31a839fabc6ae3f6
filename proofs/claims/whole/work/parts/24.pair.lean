def hPair (h : hp) (ad : Ad) (st : St) (q : Nat) (a b x y : Int) : hp := sI (sR (sI (sI (sR (sR (nw h q 2 4) 2 0 q (some (ad 0 a.toNat))) 2 1 q (some (ad 0 b.toNat))) 2 2 q (iI x)) 2 3 q (iI y)) 26 (st 0 3).toNat (ad 8 3) (some q)) 11 7 (ad 30 0) (iI (st 0 3 + 1))
def stPair (st : St) (a b x y : Int) : St := up (up (up (up (up st 18 (st 0 3).toNat a) 19 (st 0 3).toNat b) 20 (st 0 3).toNat x) 21 (st 0 3).toNat y) 0 3 (st 0 3 + 1)
theorem pair_RX {h : hp} {ad : Ad} {st : St} {q : Nat} {a b x y : Int} (R : RX h ad st) (w : WF st) (hq : hT h q = none) (ca : isP st a) (cb : isP st b) : RX (hPair h ad st q a b x y) (adN ad 7 (st 0 3).toNat q) (stPair st a b x y) := by
  have h0 := w.1.2.2.2.1
  unfold hPair stPair
  have hcast : (((st 0 3).toNat : Nat) : Int) = st 0 3 := by omega
  refine RX_grow R w 3 (by omega) (fun j => ?_) (fun r hr i hi => ?_) (fun e _ => ?_) (fun e he => ?_) (fun r hr i hi => ?_) (fun r hr => adN_8 (by omega) r hr) (fun z hz => ?_) (fun z c' k hz hne => ?_) (fun z c' k hz hne => ?_) ?_ ?_ (fun r hr hc => ?_) (fun r hr hc => ?_) (fun z => by cases z) (fun z => by cases z) (fun _ => ?_) (fun z => by cases z)
  · unfold up
    by_cases z : j = 3
    · rw [if_pos ⟨rfl, z⟩, if_pos z]
    · rw [if_neg (fun y => z y.2), if_neg z]
      simp
  · rw [up_f (xt_0 r hr).1]
    by_cases hz : r.2.2.2.1 = 20 ∨ r.2.2.2.1 = 21
    · obtain ⟨y1, y2, y3⟩ := (xt_fld r hr).2.1 hz
      rw [y3] at hi
      rw [y1, y2]
      rw [up_ne (by omega), up_ne (by omega), up_ne (by omega), up_ne (by omega)]
    · rw [up_f (by omega), up_f (by omega), up_f (xt_0 r hr).2.2.2.2.1, up_f (xt_0 r hr).2.2.2.1]
  · exact ⟨by simp [up], by simp [up]⟩
  · have hz : e ≠ (st 0 3).toNat := by omega
    exact ⟨by simp [up, hz], by simp [up, hz]⟩
  · unfold adN
    rw [if_neg]
    rintro ⟨z1, z2⟩
    rw [(xy_row r hr).2.2.1 z2] at hi
    omega
  · simp only [hT_sI, hT_sR, hT_nw, if_neg (ne_of_none hz hq)]
  · have hzq := ne_of_none hz hq
    have hne' : ¬ (c' = 11 ∧ k = 7 ∧ z = ad 30 0) := hne
    simp only [hI_sI, hI_sR, hI_nw, if_neg hne', hzq, and_false, if_false]
  · have hzq := ne_of_none hz hq
    simp only [hR_sI, hR_sR, hR_nw, if_neg hne, hzq, and_false, if_false]
  · rw [hI_sI]; exact if_pos ⟨rfl, rfl, rfl⟩
  · rw [hR_sI, hR_sR, if_pos ⟨rfl, rfl, rfl⟩]; exact congrArg some adN_at.symm
  · obtain rfl := (xy_row r hr).2.2.2.2.2 hc
    rw [adN_at]
    simp [hT_sI, hT_sR, hT_nw, hq]
  · simp only [xtab, List.mem_cons, List.not_mem_nil, or_false] at hr
    rcases hr with rfl | rfl | rfl | rfl | rfl | rfl | rfl | rfl | rfl | rfl | rfl | rfl | rfl | rfl | rfl | rfl | rfl | rfl | rfl | rfl | rfl | rfl | rfl | rfl | rfl | rfl | rfl | rfl | rfl | rfl <;> first | (exact absurd hc (by decide)) | (dsimp only; rw [adN_at]; simp only [hI_sI, hI_sR, hI_nw, up, Nat.reduceEqDiff, false_and, and_false, and_self, true_and, if_true, if_false, Nat.one_mul, Nat.add_zero, reduceIte])
  · rw [adN_at]
    refine ⟨?_, ?_, ?_, ?_⟩
    · simp [hR_sI, hR_sR, up]
    · simp [hR_sI, hR_sR, up]
    · simp [up]; omega
    · simp [up]; omega
theorem pair_FX {h : hp} {ad : Ad} {st : St} {q : Nat} {a b x y : Int} (hq : hT h q = none) : FX h (hPair h ad st q a b x y) :=
  (((((((FX.rf.n hq).r (by decide)).r (by decide)).i (by decide)).i (by decide)).r (by decide)).i (by decide))
def cl_X11_pair : Nat → Nat × Nat × Spec := fun q => if q = 101 then (0, 0, sp_X11_pieceOf) else if q = 8 then (0, 0, sp_X2_init) else (0, 0, fun _ _ _ => False)
theorem cq_X11_pair_101 : cl_X11_pair 101 = (0, 0, sp_X11_pieceOf) := rfl
theorem cq_X11_pair_8 : cl_X11_pair 8 = (0, 0, sp_X2_init) := rfl

def sp_X11_pair : Spec := fun as h K => ∃ (ad : Ad) (st : St) (a b x y : Int), as = [.ref (ad 30 0), .int (iI a), .int (iI b), .int (iI x), .int (iI y)] ∧ RX h ad st ∧ WF st ∧ ir a ∧ ir b ∧ ir x ∧ ir y ∧ ∀ h' ad', RX h' ad' (n_pair st a b x y) → FX h h' → ad' 30 0 = ad 30 0 → K (some (.int (iI (r_pair st a b x y)))) h'
set_option maxHeartbeats 4000000 in
theorem pf_X11_pair : PfM cl_X11_pair (1, 4) 1 7 bl_X11_pair sp_X11_pair := by
  rintro as h Q ⟨ad, st, a, b, x, y, rfl, R, w, ha, hb, hx, hy, hQ⟩
  refine ⟨Nat.le_of_ble_eq_true rfl, fun G hG => ?_⟩
  have h0 := w.1.2.2.2.1
  have o := xo_x R
  have c0 := xc_3 R
  refine hG.1 0 _ _ _ _ ?_
  rw [bq_X11_pair_0]
  simp only [bk_X11_pair_0, wp_aconst_null, wp_iconst, wp_bipush, wp_sipush, wp_ldc, wp_ldc_w, wp_ldc2_w, wp_lconst, wp_iload, wp_iload_n, wp_lload, wp_lload_n, wp_aload, wp_aload_n, wp_istore, wp_istore_n, wp_lstore, wp_lstore_n, wp_astore, wp_astore_n, wp_iinc, wp_iadd, wp_isub, wp_imul, wp_iand, wp_ior, wp_ixor, wp_ishl, wp_ishr, wp_iushr, wp_idiv, wp_irem, wp_ineg, wp_ladd, wp_lsub, wp_lmul, wp_ldiv, wp_lrem, wp_lcmp, wp_i2l, wp_l2i, wp_pop, wp_dup, wp_dup2, wp_goto, wp_ifCond, wp_if_icmp, wp_ifnull, wp_ifnonnull, wp_tableswitch, wp_getfield, wp_putfield, wp_arraylength, wp_iaload, wp_baload, wp_laload, wp_aaload, wp_iastore, wp_bastore, wp_lastore, wp_aastore, wp_new, wp_newarray, wp_anewarray, wp_multianewarray, wp_invokevirtual, wp_invokespecial, wp_invokestatic, wp_ireturn, wp_lreturn, wp_areturn, wp_return_, wpL, ldI, ldJ, ldA, lk, sL, cL, i1, i2, l1, l2, r1, pA, p1, p2, ar, tyAt, rcv, rcr, oO, cmpI, Value.category, rf_some, rf_none, ak, kc, List.drop_succ_cons, List.drop_zero, List.drop_nil, List.take_succ_cons, List.take_zero, List.take_nil, List.head?_cons, List.reverse_cons, List.reverse_nil, List.nil_append, List.cons_append, List.length_cons, List.length_nil, Option.toList_some, Option.toList_none, hT_sI, hT_sJ, hT_sR, hI_sJ, hI_sR, hJ_sI, hJ_sR, hR_sI, hR_sJ, isO_sI, isO_sJ, isO_sR, iI_add, iI_sub, iI_mul, iI_neg, lv_args, Nat.reduceAdd, Nat.reduceEqDiff, Nat.reduceLeDiff, reduceIte, ite_true, ite_false, true_and, and_true, false_and, and_false, not_true, not_false_iff, or_true, true_or, false_or, or_false, imp_self, ne_eq, Classical.not_not, forall_const, true_implies, false_implies, if_pos, Nat.zero_add, Nat.add_zero, Nat.le_refl, Nat.reduceLT, iz00, iz01, iz10, iz11, ib0, ib1, ib01, reduceCtorEq, cq_X11_pair_8, cq_X11_pair_101, o]
  refine ⟨ad, st, a, rfl, R, w, ha, ?_⟩
  have unk : ¬ (isP st a ∧ isP st b) → Q (some (.int (iI (-900001)))) h := by
    intro z
    have nv : n_pair st a b x y = st := if_neg (fun q => z ⟨q.1, q.2.1⟩)
    have rv : r_pair st a b x y = -900001 := if_neg z
    rw [nv, rv] at hQ
    exact hQ h ad R FX.rf rfl
  by_cases ca : isP st a
  rotate_left
  · have e : pcO ad st a = none := if_neg ca
    simp only [wp_aconst_null, wp_iconst, wp_bipush, wp_sipush, wp_ldc, wp_ldc_w, wp_ldc2_w, wp_lconst, wp_iload, wp_iload_n, wp_lload, wp_lload_n, wp_aload, wp_aload_n, wp_istore, wp_istore_n, wp_lstore, wp_lstore_n, wp_astore, wp_astore_n, wp_iinc, wp_iadd, wp_isub, wp_imul, wp_iand, wp_ior, wp_ixor, wp_ishl, wp_ishr, wp_iushr, wp_idiv, wp_irem, wp_ineg, wp_ladd, wp_lsub, wp_lmul, wp_ldiv, wp_lrem, wp_lcmp, wp_i2l, wp_l2i, wp_pop, wp_dup, wp_dup2, wp_goto, wp_ifCond, wp_if_icmp, wp_ifnull, wp_ifnonnull, wp_tableswitch, wp_getfield, wp_putfield, wp_arraylength, wp_iaload, wp_baload, wp_laload, wp_aaload, wp_iastore, wp_bastore, wp_lastore, wp_aastore, wp_new, wp_newarray, wp_anewarray, wp_multianewarray, wp_invokevirtual, wp_invokespecial, wp_invokestatic, wp_ireturn, wp_lreturn, wp_areturn, wp_return_, wpL, ldI, ldJ, ldA, lk, sL, cL, i1, i2, l1, l2, r1, pA, p1, p2, ar, tyAt, rcv, rcr, oO, cmpI, Value.category, rf_some, rf_none, ak, kc, List.drop_succ_cons, List.drop_zero, List.drop_nil, List.take_succ_cons, List.take_zero, List.take_nil, List.head?_cons, List.reverse_cons, List.reverse_nil, List.nil_append, List.cons_append, List.length_cons, List.length_nil, Option.toList_some, Option.toList_none, hT_sI, hT_sJ, hT_sR, hI_sJ, hI_sR, hJ_sI, hJ_sR, hR_sI, hR_sJ, isO_sI, isO_sJ, isO_sR, iI_add, iI_sub, iI_mul, iI_neg, lv_args, Nat.reduceAdd, Nat.reduceEqDiff, Nat.reduceLeDiff, reduceIte, ite_true, ite_false, true_and, and_true, false_and, and_false, not_true, not_false_iff, or_true, true_or, false_or, or_false, imp_self, ne_eq, Classical.not_not, forall_const, true_implies, false_implies, if_pos, Nat.zero_add, Nat.add_zero, Nat.le_refl, Nat.reduceLT, iz00, iz01, iz10, iz11, ib0, ib1, ib01, reduceCtorEq, cq_X11_pair_8, cq_X11_pair_101, e, o]
    refine ⟨ad, st, b, rfl, R, w, hb, ?_⟩
    by_cases cb : isP st b
    · have e' : pcO ad st b = some (ad 0 b.toNat) := if_pos cb
      simp only [wp_aconst_null, wp_iconst, wp_bipush, wp_sipush, wp_ldc, wp_ldc_w, wp_ldc2_w, wp_lconst, wp_iload, wp_iload_n, wp_lload, wp_lload_n, wp_aload, wp_aload_n, wp_istore, wp_istore_n, wp_lstore, wp_lstore_n, wp_astore, wp_astore_n, wp_iinc, wp_iadd, wp_isub, wp_imul, wp_iand, wp_ior, wp_ixor, wp_ishl, wp_ishr, wp_iushr, wp_idiv, wp_irem, wp_ineg, wp_ladd, wp_lsub, wp_lmul, wp_ldiv, wp_lrem, wp_lcmp, wp_i2l, wp_l2i, wp_pop, wp_dup, wp_dup2, wp_goto, wp_ifCond, wp_if_icmp, wp_ifnull, wp_ifnonnull, wp_tableswitch, wp_getfield, wp_putfield, wp_arraylength, wp_iaload, wp_baload, wp_laload, wp_aaload, wp_iastore, wp_bastore, wp_lastore, wp_aastore, wp_new, wp_newarray, wp_anewarray, wp_multianewarray, wp_invokevirtual, wp_invokespecial, wp_invokestatic, wp_ireturn, wp_lreturn, wp_areturn, wp_return_, wpL, ldI, ldJ, ldA, lk, sL, cL, i1, i2, l1, l2, r1, pA, p1, p2, ar, tyAt, rcv, rcr, oO, cmpI, Value.category, rf_some, rf_none, ak, kc, List.drop_succ_cons, List.drop_zero, List.drop_nil, List.take_succ_cons, List.take_zero, List.take_nil, List.head?_cons, List.reverse_cons, List.reverse_nil, List.nil_append, List.cons_append, List.length_cons, List.length_nil, Option.toList_some, Option.toList_none, hT_sI, hT_sJ, hT_sR, hI_sJ, hI_sR, hJ_sI, hJ_sR, hR_sI, hR_sJ, isO_sI, isO_sJ, isO_sR, iI_add, iI_sub, iI_mul, iI_neg, lv_args, Nat.reduceAdd, Nat.reduceEqDiff, Nat.reduceLeDiff, reduceIte, ite_true, ite_false, true_and, and_true, false_and, and_false, not_true, not_false_iff, or_true, true_or, false_or, or_false, imp_self, ne_eq, Classical.not_not, forall_const, true_implies, false_implies, if_pos, Nat.zero_add, Nat.add_zero, Nat.le_refl, Nat.reduceLT, iz00, iz01, iz10, iz11, ib0, ib1, ib01, reduceCtorEq, cq_X11_pair_8, cq_X11_pair_101, e']
      refine hG.1 24 _ _ _ _ ?_
      rw [bq_X11_pair_24]
      simp only [bk_X11_pair_24, wp_aconst_null, wp_iconst, wp_bipush, wp_sipush, wp_ldc, wp_ldc_w, wp_ldc2_w, wp_lconst, wp_iload, wp_iload_n, wp_lload, wp_lload_n, wp_aload, wp_aload_n, wp_istore, wp_istore_n, wp_lstore, wp_lstore_n, wp_astore, wp_astore_n, wp_iinc, wp_iadd, wp_isub, wp_imul, wp_iand, wp_ior, wp_ixor, wp_ishl, wp_ishr, wp_iushr, wp_idiv, wp_irem, wp_ineg, wp_ladd, wp_lsub, wp_lmul, wp_ldiv, wp_lrem, wp_lcmp, wp_i2l, wp_l2i, wp_pop, wp_dup, wp_dup2, wp_goto, wp_ifCond, wp_if_icmp, wp_ifnull, wp_ifnonnull, wp_tableswitch, wp_getfield, wp_putfield, wp_arraylength, wp_iaload, wp_baload, wp_laload, wp_aaload, wp_iastore, wp_bastore, wp_lastore, wp_aastore, wp_new, wp_newarray, wp_anewarray, wp_multianewarray, wp_invokevirtual, wp_invokespecial, wp_invokestatic, wp_ireturn, wp_lreturn, wp_areturn, wp_return_, wpL, ldI, ldJ, ldA, lk, sL, cL, i1, i2, l1, l2, r1, pA, p1, p2, ar, tyAt, rcv, rcr, oO, cmpI, Value.category, rf_some, rf_none, ak, kc, List.drop_succ_cons, List.drop_zero, List.drop_nil, List.take_succ_cons, List.take_zero, List.take_nil, List.head?_cons, List.reverse_cons, List.reverse_nil, List.nil_append, List.cons_append, List.length_cons, List.length_nil, Option.toList_some, Option.toList_none, hT_sI, hT_sJ, hT_sR, hI_sJ, hI_sR, hJ_sI, hJ_sR, hR_sI, hR_sJ, isO_sI, isO_sJ, isO_sR, iI_add, iI_sub, iI_mul, iI_neg, lv_args, Nat.reduceAdd, Nat.reduceEqDiff, Nat.reduceLeDiff, reduceIte, ite_true, ite_false, true_and, and_true, false_and, and_false, not_true, not_false_iff, or_true, true_or, false_or, or_false, imp_self, ne_eq, Classical.not_not, forall_const, true_implies, false_implies, if_pos, Nat.zero_add, Nat.add_zero, Nat.le_refl, Nat.reduceLT, iz00, iz01, iz10, iz11, ib0, ib1, ib01, reduceCtorEq, cq_X11_pair_8, cq_X11_pair_101]
      exact unk (fun z => ca z.1)
    · have e' : pcO ad st b = none := if_neg cb
      simp only [wp_aconst_null, wp_iconst, wp_bipush, wp_sipush, wp_ldc, wp_ldc_w, wp_ldc2_w, wp_lconst, wp_iload, wp_iload_n, wp_lload, wp_lload_n, wp_aload, wp_aload_n, wp_istore, wp_istore_n, wp_lstore, wp_lstore_n, wp_astore, wp_astore_n, wp_iinc, wp_iadd, wp_isub, wp_imul, wp_iand, wp_ior, wp_ixor, wp_ishl, wp_ishr, wp_iushr, wp_idiv, wp_irem, wp_ineg, wp_ladd, wp_lsub, wp_lmul, wp_ldiv, wp_lrem, wp_lcmp, wp_i2l, wp_l2i, wp_pop, wp_dup, wp_dup2, wp_goto, wp_ifCond, wp_if_icmp, wp_ifnull, wp_ifnonnull, wp_tableswitch, wp_getfield, wp_putfield, wp_arraylength, wp_iaload, wp_baload, wp_laload, wp_aaload, wp_iastore, wp_bastore, wp_lastore, wp_aastore, wp_new, wp_newarray, wp_anewarray, wp_multianewarray, wp_invokevirtual, wp_invokespecial, wp_invokestatic, wp_ireturn, wp_lreturn, wp_areturn, wp_return_, wpL, ldI, ldJ, ldA, lk, sL, cL, i1, i2, l1, l2, r1, pA, p1, p2, ar, tyAt, rcv, rcr, oO, cmpI, Value.category, rf_some, rf_none, ak, kc, List.drop_succ_cons, List.drop_zero, List.drop_nil, List.take_succ_cons, List.take_zero, List.take_nil, List.head?_cons, List.reverse_cons, List.reverse_nil, List.nil_append, List.cons_append, List.length_cons, List.length_nil, Option.toList_some, Option.toList_none, hT_sI, hT_sJ, hT_sR, hI_sJ, hI_sR, hJ_sI, hJ_sR, hR_sI, hR_sJ, isO_sI, isO_sJ, isO_sR, iI_add, iI_sub, iI_mul, iI_neg, lv_args, Nat.reduceAdd, Nat.reduceEqDiff, Nat.reduceLeDiff, reduceIte, ite_true, ite_false, true_and, and_true, false_and, and_false, not_true, not_false_iff, or_true, true_or, false_or, or_false, imp_self, ne_eq, Classical.not_not, forall_const, true_implies, false_implies, if_pos, Nat.zero_add, Nat.add_zero, Nat.le_refl, Nat.reduceLT, iz00, iz01, iz10, iz11, ib0, ib1, ib01, reduceCtorEq, cq_X11_pair_8, cq_X11_pair_101, e']
      refine hG.1 24 _ _ _ _ ?_
      rw [bq_X11_pair_24]
      simp only [bk_X11_pair_24, wp_aconst_null, wp_iconst, wp_bipush, wp_sipush, wp_ldc, wp_ldc_w, wp_ldc2_w, wp_lconst, wp_iload, wp_iload_n, wp_lload, wp_lload_n, wp_aload, wp_aload_n, wp_istore, wp_istore_n, wp_lstore, wp_lstore_n, wp_astore, wp_astore_n, wp_iinc, wp_iadd, wp_isub, wp_imul, wp_iand, wp_ior, wp_ixor, wp_ishl, wp_ishr, wp_iushr, wp_idiv, wp_irem, wp_ineg, wp_ladd, wp_lsub, wp_lmul, wp_ldiv, wp_lrem, wp_lcmp, wp_i2l, wp_l2i, wp_pop, wp_dup, wp_dup2, wp_goto, wp_ifCond, wp_if_icmp, wp_ifnull, wp_ifnonnull, wp_tableswitch, wp_getfield, wp_putfield, wp_arraylength, wp_iaload, wp_baload, wp_laload, wp_aaload, wp_iastore, wp_bastore, wp_lastore, wp_aastore, wp_new, wp_newarray, wp_anewarray, wp_multianewarray, wp_invokevirtual, wp_invokespecial, wp_invokestatic, wp_ireturn, wp_lreturn, wp_areturn, wp_return_, wpL, ldI, ldJ, ldA, lk, sL, cL, i1, i2, l1, l2, r1, pA, p1, p2, ar, tyAt, rcv, rcr, oO, cmpI, Value.category, rf_some, rf_none, ak, kc, List.drop_succ_cons, List.drop_zero, List.drop_nil, List.take_succ_cons, List.take_zero, List.take_nil, List.head?_cons, List.reverse_cons, List.reverse_nil, List.nil_append, List.cons_append, List.length_cons, List.length_nil, Option.toList_some, Option.toList_none, hT_sI, hT_sJ, hT_sR, hI_sJ, hI_sR, hJ_sI, hJ_sR, hR_sI, hR_sJ, isO_sI, isO_sJ, isO_sR, iI_add, iI_sub, iI_mul, iI_neg, lv_args, Nat.reduceAdd, Nat.reduceEqDiff, Nat.reduceLeDiff, reduceIte, ite_true, ite_false, true_and, and_true, false_and, and_false, not_true, not_false_iff, or_true, true_or, false_or, or_false, imp_self, ne_eq, Classical.not_not, forall_const, true_implies, false_implies, if_pos, Nat.zero_add, Nat.add_zero, Nat.le_refl, Nat.reduceLT, iz00, iz01, iz10, iz11, ib0, ib1, ib01, reduceCtorEq, cq_X11_pair_8, cq_X11_pair_101]
      exact unk (fun z => ca z.1)
  have e : pcO ad st a = some (ad 0 a.toNat) := if_pos ca
  simp only [wp_aconst_null, wp_iconst, wp_bipush, wp_sipush, wp_ldc, wp_ldc_w, wp_ldc2_w, wp_lconst, wp_iload, wp_iload_n, wp_lload, wp_lload_n, wp_aload, wp_aload_n, wp_istore, wp_istore_n, wp_lstore, wp_lstore_n, wp_astore, wp_astore_n, wp_iinc, wp_iadd, wp_isub, wp_imul, wp_iand, wp_ior, wp_ixor, wp_ishl, wp_ishr, wp_iushr, wp_idiv, wp_irem, wp_ineg, wp_ladd, wp_lsub, wp_lmul, wp_ldiv, wp_lrem, wp_lcmp, wp_i2l, wp_l2i, wp_pop, wp_dup, wp_dup2, wp_goto, wp_ifCond, wp_if_icmp, wp_ifnull, wp_ifnonnull, wp_tableswitch, wp_getfield, wp_putfield, wp_arraylength, wp_iaload, wp_baload, wp_laload, wp_aaload, wp_iastore, wp_bastore, wp_lastore, wp_aastore, wp_new, wp_newarray, wp_anewarray, wp_multianewarray, wp_invokevirtual, wp_invokespecial, wp_invokestatic, wp_ireturn, wp_lreturn, wp_areturn, wp_return_, wpL, ldI, ldJ, ldA, lk, sL, cL, i1, i2, l1, l2, r1, pA, p1, p2, ar, tyAt, rcv, rcr, oO, cmpI, Value.category, rf_some, rf_none, ak, kc, List.drop_succ_cons, List.drop_zero, List.drop_nil, List.take_succ_cons, List.take_zero, List.take_nil, List.head?_cons, List.reverse_cons, List.reverse_nil, List.nil_append, List.cons_append, List.length_cons, List.length_nil, Option.toList_some, Option.toList_none, hT_sI, hT_sJ, hT_sR, hI_sJ, hI_sR, hJ_sI, hJ_sR, hR_sI, hR_sJ, isO_sI, isO_sJ, isO_sR, iI_add, iI_sub, iI_mul, iI_neg, lv_args, Nat.reduceAdd, Nat.reduceEqDiff, Nat.reduceLeDiff, reduceIte, ite_true, ite_false, true_and, and_true, false_and, and_false, not_true, not_false_iff, or_true, true_or, false_or, or_false, imp_self, ne_eq, Classical.not_not, forall_const, true_implies, false_implies, if_pos, Nat.zero_add, Nat.add_zero, Nat.le_refl, Nat.reduceLT, iz00, iz01, iz10, iz11, ib0, ib1, ib01, reduceCtorEq, cq_X11_pair_8, cq_X11_pair_101, e, o]
  refine ⟨ad, st, b, rfl, R, w, hb, ?_⟩
  by_cases cb : isP st b
  rotate_left
  · have e' : pcO ad st b = none := if_neg cb
    simp only [wp_aconst_null, wp_iconst, wp_bipush, wp_sipush, wp_ldc, wp_ldc_w, wp_ldc2_w, wp_lconst, wp_iload, wp_iload_n, wp_lload, wp_lload_n, wp_aload, wp_aload_n, wp_istore, wp_istore_n, wp_lstore, wp_lstore_n, wp_astore, wp_astore_n, wp_iinc, wp_iadd, wp_isub, wp_imul, wp_iand, wp_ior, wp_ixor, wp_ishl, wp_ishr, wp_iushr, wp_idiv, wp_irem, wp_ineg, wp_ladd, wp_lsub, wp_lmul, wp_ldiv, wp_lrem, wp_lcmp, wp_i2l, wp_l2i, wp_pop, wp_dup, wp_dup2, wp_goto, wp_ifCond, wp_if_icmp, wp_ifnull, wp_ifnonnull, wp_tableswitch, wp_getfield, wp_putfield, wp_arraylength, wp_iaload, wp_baload, wp_laload, wp_aaload, wp_iastore, wp_bastore, wp_lastore, wp_aastore, wp_new, wp_newarray, wp_anewarray, wp_multianewarray, wp_invokevirtual, wp_invokespecial, wp_invokestatic, wp_ireturn, wp_lreturn, wp_areturn, wp_return_, wpL, ldI, ldJ, ldA, lk, sL, cL, i1, i2, l1, l2, r1, pA, p1, p2, ar, tyAt, rcv, rcr, oO, cmpI, Value.category, rf_some, rf_none, ak, kc, List.drop_succ_cons, List.drop_zero, List.drop_nil, List.take_succ_cons, List.take_zero, List.take_nil, List.head?_cons, List.reverse_cons, List.reverse_nil, List.nil_append, List.cons_append, List.length_cons, List.length_nil, Option.toList_some, Option.toList_none, hT_sI, hT_sJ, hT_sR, hI_sJ, hI_sR, hJ_sI, hJ_sR, hR_sI, hR_sJ, isO_sI, isO_sJ, isO_sR, iI_add, iI_sub, iI_mul, iI_neg, lv_args, Nat.reduceAdd, Nat.reduceEqDiff, Nat.reduceLeDiff, reduceIte, ite_true, ite_false, true_and, and_true, false_and, and_false, not_true, not_false_iff, or_true, true_or, false_or, or_false, imp_self, ne_eq, Classical.not_not, forall_const, true_implies, false_implies, if_pos, Nat.zero_add, Nat.add_zero, Nat.le_refl, Nat.reduceLT, iz00, iz01, iz10, iz11, ib0, ib1, ib01, reduceCtorEq, cq_X11_pair_8, cq_X11_pair_101, e']
    refine hG.1 24 _ _ _ _ ?_
    rw [bq_X11_pair_24]
    simp only [bk_X11_pair_24, wp_aconst_null, wp_iconst, wp_bipush, wp_sipush, wp_ldc, wp_ldc_w, wp_ldc2_w, wp_lconst, wp_iload, wp_iload_n, wp_lload, wp_lload_n, wp_aload, wp_aload_n, wp_istore, wp_istore_n, wp_lstore, wp_lstore_n, wp_astore, wp_astore_n, wp_iinc, wp_iadd, wp_isub, wp_imul, wp_iand, wp_ior, wp_ixor, wp_ishl, wp_ishr, wp_iushr, wp_idiv, wp_irem, wp_ineg, wp_ladd, wp_lsub, wp_lmul, wp_ldiv, wp_lrem, wp_lcmp, wp_i2l, wp_l2i, wp_pop, wp_dup, wp_dup2, wp_goto, wp_ifCond, wp_if_icmp, wp_ifnull, wp_ifnonnull, wp_tableswitch, wp_getfield, wp_putfield, wp_arraylength, wp_iaload, wp_baload, wp_laload, wp_aaload, wp_iastore, wp_bastore, wp_lastore, wp_aastore, wp_new, wp_newarray, wp_anewarray, wp_multianewarray, wp_invokevirtual, wp_invokespecial, wp_invokestatic, wp_ireturn, wp_lreturn, wp_areturn, wp_return_, wpL, ldI, ldJ, ldA, lk, sL, cL, i1, i2, l1, l2, r1, pA, p1, p2, ar, tyAt, rcv, rcr, oO, cmpI, Value.category, rf_some, rf_none, ak, kc, List.drop_succ_cons, List.drop_zero, List.drop_nil, List.take_succ_cons, List.take_zero, List.take_nil, List.head?_cons, List.reverse_cons, List.reverse_nil, List.nil_append, List.cons_append, List.length_cons, List.length_nil, Option.toList_some, Option.toList_none, hT_sI, hT_sJ, hT_sR, hI_sJ, hI_sR, hJ_sI, hJ_sR, hR_sI, hR_sJ, isO_sI, isO_sJ, isO_sR, iI_add, iI_sub, iI_mul, iI_neg, lv_args, Nat.reduceAdd, Nat.reduceEqDiff, Nat.reduceLeDiff, reduceIte, ite_true, ite_false, true_and, and_true, false_and, and_false, not_true, not_false_iff, or_true, true_or, false_or, or_false, imp_self, ne_eq, Classical.not_not, forall_const, true_implies, false_implies, if_pos, Nat.zero_add, Nat.add_zero, Nat.le_refl, Nat.reduceLT, iz00, iz01, iz10, iz11, ib0, ib1, ib01, reduceCtorEq, cq_X11_pair_8, cq_X11_pair_101]
    exact unk (fun z => cb z.2)
  have e' : pcO ad st b = some (ad 0 b.toNat) := if_pos cb
  have out : ¬ (bt x 2 60 ∧ bt y 0 (x - 1)) → G 49 [(0, .ref (ad 30 0)), (1, .int (iI a)), (2, .int (iI b)), (3, .int (iI x)), (4, .int (iI y)), (5, .ref (ad 0 a.toNat)), (6, .ref (ad 0 b.toNat))] [] h (0, 0) := by
    intro z
    have nv : n_pair st a b x y = st := if_neg (fun q => z ⟨q.2.2.1, q.2.2.2.1⟩)
    have rv : r_pair st a b x y = -900002 := (if_pos ⟨ca, cb⟩).trans (if_neg z)
    rw [nv, rv] at hQ
    refine hG.1 49 _ _ _ _ ?_
    rw [bq_X11_pair_49]
    simp only [bk_X11_pair_49, wp_aconst_null, wp_iconst, wp_bipush, wp_sipush, wp_ldc, wp_ldc_w, wp_ldc2_w, wp_lconst, wp_iload, wp_iload_n, wp_lload, wp_lload_n, wp_aload, wp_aload_n, wp_istore, wp_istore_n, wp_lstore, wp_lstore_n, wp_astore, wp_astore_n, wp_iinc, wp_iadd, wp_isub, wp_imul, wp_iand, wp_ior, wp_ixor, wp_ishl, wp_ishr, wp_iushr, wp_idiv, wp_irem, wp_ineg, wp_ladd, wp_lsub, wp_lmul, wp_ldiv, wp_lrem, wp_lcmp, wp_i2l, wp_l2i, wp_pop, wp_dup, wp_dup2, wp_goto, wp_ifCond, wp_if_icmp, wp_ifnull, wp_ifnonnull, wp_tableswitch, wp_getfield, wp_putfield, wp_arraylength, wp_iaload, wp_baload, wp_laload, wp_aaload, wp_iastore, wp_bastore, wp_lastore, wp_aastore, wp_new, wp_newarray, wp_anewarray, wp_multianewarray, wp_invokevirtual, wp_invokespecial, wp_invokestatic, wp_ireturn, wp_lreturn, wp_areturn, wp_return_, wpL, ldI, ldJ, ldA, lk, sL, cL, i1, i2, l1, l2, r1, pA, p1, p2, ar, tyAt, rcv, rcr, oO, cmpI, Value.category, rf_some, rf_none, ak, kc, List.drop_succ_cons, List.drop_zero, List.drop_nil, List.take_succ_cons, List.take_zero, List.take_nil, List.head?_cons, List.reverse_cons, List.reverse_nil, List.nil_append, List.cons_append, List.length_cons, List.length_nil, Option.toList_some, Option.toList_none, hT_sI, hT_sJ, hT_sR, hI_sJ, hI_sR, hJ_sI, hJ_sR, hR_sI, hR_sJ, isO_sI, isO_sJ, isO_sR, iI_add, iI_sub, iI_mul, iI_neg, lv_args, Nat.reduceAdd, Nat.reduceEqDiff, Nat.reduceLeDiff, reduceIte, ite_true, ite_false, true_and, and_true, false_and, and_false, not_true, not_false_iff, or_true, true_or, false_or, or_false, imp_self, ne_eq, Classical.not_not, forall_const, true_implies, false_implies, if_pos, Nat.zero_add, Nat.add_zero, Nat.le_refl, Nat.reduceLT, iz00, iz01, iz10, iz11, ib0, ib1, ib01, reduceCtorEq, cq_X11_pair_8, cq_X11_pair_101]
    exact hQ h ad R FX.rf rfl
  have e1 : (iI x < iI 2) = (x < 2) := propext (iI_lt hx (by omega))
  have e2 : (iI 60 < iI x) = (60 < x) := propext (iI_lt (by omega) hx)
  have e6 : (iI y < 0) = (y < 0) := propext (iI_lt0 hy)
  have e7 : (iI y < iI x) = (y < x) := propext (iI_lt hy hx)
  have e3 : (iI a = iI b) = (a = b) := propext (iI_eq ha hb)
  have e4 : (iI (st 0 3) < iI 20) = (st 0 3 < 20) := propext (iI_lt (by omega) (by omega))
  simp only [wp_aconst_null, wp_iconst, wp_bipush, wp_sipush, wp_ldc, wp_ldc_w, wp_ldc2_w, wp_lconst, wp_iload, wp_iload_n, wp_lload, wp_lload_n, wp_aload, wp_aload_n, wp_istore, wp_istore_n, wp_lstore, wp_lstore_n, wp_astore, wp_astore_n, wp_iinc, wp_iadd, wp_isub, wp_imul, wp_iand, wp_ior, wp_ixor, wp_ishl, wp_ishr, wp_iushr, wp_idiv, wp_irem, wp_ineg, wp_ladd, wp_lsub, wp_lmul, wp_ldiv, wp_lrem, wp_lcmp, wp_i2l, wp_l2i, wp_pop, wp_dup, wp_dup2, wp_goto, wp_ifCond, wp_if_icmp, wp_ifnull, wp_ifnonnull, wp_tableswitch, wp_getfield, wp_putfield, wp_arraylength, wp_iaload, wp_baload, wp_laload, wp_aaload, wp_iastore, wp_bastore, wp_lastore, wp_aastore, wp_new, wp_newarray, wp_anewarray, wp_multianewarray, wp_invokevirtual, wp_invokespecial, wp_invokestatic, wp_ireturn, wp_lreturn, wp_areturn, wp_return_, wpL, ldI, ldJ, ldA, lk, sL, cL, i1, i2, l1, l2, r1, pA, p1, p2, ar, tyAt, rcv, rcr, oO, cmpI, Value.category, rf_some, rf_none, ak, kc, List.drop_succ_cons, List.drop_zero, List.drop_nil, List.take_succ_cons, List.take_zero, List.take_nil, List.head?_cons, List.reverse_cons, List.reverse_nil, List.nil_append, List.cons_append, List.length_cons, List.length_nil, Option.toList_some, Option.toList_none, hT_sI, hT_sJ, hT_sR, hI_sJ, hI_sR, hJ_sI, hJ_sR, hR_sI, hR_sJ, isO_sI, isO_sJ, isO_sR, iI_add, iI_sub, iI_mul, iI_neg, lv_args, Nat.reduceAdd, Nat.reduceEqDiff, Nat.reduceLeDiff, reduceIte, ite_true, ite_false, true_and, and_true, false_and, and_false, not_true, not_false_iff, or_true, true_or, false_or, or_false, imp_self, ne_eq, Classical.not_not, forall_const, true_implies, false_implies, if_pos, Nat.zero_add, Nat.add_zero, Nat.le_refl, Nat.reduceLT, iz00, iz01, iz10, iz11, ib0, ib1, ib01, reduceCtorEq, cq_X11_pair_8, cq_X11_pair_101, e']
  refine hG.1 27 _ _ _ _ ?_
  rw [bq_X11_pair_27]
  simp only [bk_X11_pair_27, wp_aconst_null, wp_iconst, wp_bipush, wp_sipush, wp_ldc, wp_ldc_w, wp_ldc2_w, wp_lconst, wp_iload, wp_iload_n, wp_lload, wp_lload_n, wp_aload, wp_aload_n, wp_istore, wp_istore_n, wp_lstore, wp_lstore_n, wp_astore, wp_astore_n, wp_iinc, wp_iadd, wp_isub, wp_imul, wp_iand, wp_ior, wp_ixor, wp_ishl, wp_ishr, wp_iushr, wp_idiv, wp_irem, wp_ineg, wp_ladd, wp_lsub, wp_lmul, wp_ldiv, wp_lrem, wp_lcmp, wp_i2l, wp_l2i, wp_pop, wp_dup, wp_dup2, wp_goto, wp_ifCond, wp_if_icmp, wp_ifnull, wp_ifnonnull, wp_tableswitch, wp_getfield, wp_putfield, wp_arraylength, wp_iaload, wp_baload, wp_laload, wp_aaload, wp_iastore, wp_bastore, wp_lastore, wp_aastore, wp_new, wp_newarray, wp_anewarray, wp_multianewarray, wp_invokevirtual, wp_invokespecial, wp_invokestatic, wp_ireturn, wp_lreturn, wp_areturn, wp_return_, wpL, ldI, ldJ, ldA, lk, sL, cL, i1, i2, l1, l2, r1, pA, p1, p2, ar, tyAt, rcv, rcr, oO, cmpI, Value.category, rf_some, rf_none, ak, kc, List.drop_succ_cons, List.drop_zero, List.drop_nil, List.take_succ_cons, List.take_zero, List.take_nil, List.head?_cons, List.reverse_cons, List.reverse_nil, List.nil_append, List.cons_append, List.length_cons, List.length_nil, Option.toList_some, Option.toList_none, hT_sI, hT_sJ, hT_sR, hI_sJ, hI_sR, hJ_sI, hJ_sR, hR_sI, hR_sJ, isO_sI, isO_sJ, isO_sR, iI_add, iI_sub, iI_mul, iI_neg, lv_args, Nat.reduceAdd, Nat.reduceEqDiff, Nat.reduceLeDiff, reduceIte, ite_true, ite_false, true_and, and_true, false_and, and_false, not_true, not_false_iff, or_true, true_or, false_or, or_false, imp_self, ne_eq, Classical.not_not, forall_const, true_implies, false_implies, if_pos, Nat.zero_add, Nat.add_zero, Nat.le_refl, Nat.reduceLT, iz00, iz01, iz10, iz11, ib0, ib1, ib01, reduceCtorEq, cq_X11_pair_8, cq_X11_pair_101, e1, e2, e6, e7]
  refine ⟨fun z => out (by omega), fun z1 => ⟨fun z => out (by omega), fun z2 => ⟨fun z => out (by omega), fun z3 => ⟨fun z6 => ?_, fun z => out (by omega)⟩⟩⟩⟩
  have good : bt x 2 60 ∧ bt y 0 (x - 1) := by omega
  refine hG.1 52 _ _ _ _ ?_
  rw [bq_X11_pair_52]
  simp only [bk_X11_pair_52, wp_aconst_null, wp_iconst, wp_bipush, wp_sipush, wp_ldc, wp_ldc_w, wp_ldc2_w, wp_lconst, wp_iload, wp_iload_n, wp_lload, wp_lload_n, wp_aload, wp_aload_n, wp_istore, wp_istore_n, wp_lstore, wp_lstore_n, wp_astore, wp_astore_n, wp_iinc, wp_iadd, wp_isub, wp_imul, wp_iand, wp_ior, wp_ixor, wp_ishl, wp_ishr, wp_iushr, wp_idiv, wp_irem, wp_ineg, wp_ladd, wp_lsub, wp_lmul, wp_ldiv, wp_lrem, wp_lcmp, wp_i2l, wp_l2i, wp_pop, wp_dup, wp_dup2, wp_goto, wp_ifCond, wp_if_icmp, wp_ifnull, wp_ifnonnull, wp_tableswitch, wp_getfield, wp_putfield, wp_arraylength, wp_iaload, wp_baload, wp_laload, wp_aaload, wp_iastore, wp_bastore, wp_lastore, wp_aastore, wp_new, wp_newarray, wp_anewarray, wp_multianewarray, wp_invokevirtual, wp_invokespecial, wp_invokestatic, wp_ireturn, wp_lreturn, wp_areturn, wp_return_, wpL, ldI, ldJ, ldA, lk, sL, cL, i1, i2, l1, l2, r1, pA, p1, p2, ar, tyAt, rcv, rcr, oO, cmpI, Value.category, rf_some, rf_none, ak, kc, List.drop_succ_cons, List.drop_zero, List.drop_nil, List.take_succ_cons, List.take_zero, List.take_nil, List.head?_cons, List.reverse_cons, List.reverse_nil, List.nil_append, List.cons_append, List.length_cons, List.length_nil, Option.toList_some, Option.toList_none, hT_sI, hT_sJ, hT_sR, hI_sJ, hI_sR, hJ_sI, hJ_sR, hR_sI, hR_sJ, isO_sI, isO_sJ, isO_sR, iI_add, iI_sub, iI_mul, iI_neg, lv_args, Nat.reduceAdd, Nat.reduceEqDiff, Nat.reduceLeDiff, reduceIte, ite_true, ite_false, true_and, and_true, false_and, and_false, not_true, not_false_iff, or_true, true_or, false_or, or_false, imp_self, ne_eq, Classical.not_not, forall_const, true_implies, false_implies, if_pos, Nat.zero_add, Nat.add_zero, Nat.le_refl, Nat.reduceLT, iz00, iz01, iz10, iz11, ib0, ib1, ib01, reduceCtorEq, cq_X11_pair_8, cq_X11_pair_101, e3]
  refine ⟨fun z4 => ?_, fun z4 => ?_⟩
  rotate_left
  · have nv : n_pair st a b x y = st := if_neg (fun q => q.2.2.2.2.1 z4)
    have rv : r_pair st a b x y = -900003 := (if_pos ⟨ca, cb⟩).trans ((if_pos good).trans (if_pos z4))
    rw [nv, rv] at hQ
    exact hQ h ad R FX.rf rfl
  refine hG.1 60 _ _ _ _ ?_
  rw [bq_X11_pair_60]
  simp only [bk_X11_pair_60, wp_aconst_null, wp_iconst, wp_bipush, wp_sipush, wp_ldc, wp_ldc_w, wp_ldc2_w, wp_lconst, wp_iload, wp_iload_n, wp_lload, wp_lload_n, wp_aload, wp_aload_n, wp_istore, wp_istore_n, wp_lstore, wp_lstore_n, wp_astore, wp_astore_n, wp_iinc, wp_iadd, wp_isub, wp_imul, wp_iand, wp_ior, wp_ixor, wp_ishl, wp_ishr, wp_iushr, wp_idiv, wp_irem, wp_ineg, wp_ladd, wp_lsub, wp_lmul, wp_ldiv, wp_lrem, wp_lcmp, wp_i2l, wp_l2i, wp_pop, wp_dup, wp_dup2, wp_goto, wp_ifCond, wp_if_icmp, wp_ifnull, wp_ifnonnull, wp_tableswitch, wp_getfield, wp_putfield, wp_arraylength, wp_iaload, wp_baload, wp_laload, wp_aaload, wp_iastore, wp_bastore, wp_lastore, wp_aastore, wp_new, wp_newarray, wp_anewarray, wp_multianewarray, wp_invokevirtual, wp_invokespecial, wp_invokestatic, wp_ireturn, wp_lreturn, wp_areturn, wp_return_, wpL, ldI, ldJ, ldA, lk, sL, cL, i1, i2, l1, l2, r1, pA, p1, p2, ar, tyAt, rcv, rcr, oO, cmpI, Value.category, rf_some, rf_none, ak, kc, List.drop_succ_cons, List.drop_zero, List.drop_nil, List.take_succ_cons, List.take_zero, List.take_nil, List.head?_cons, List.reverse_cons, List.reverse_nil, List.nil_append, List.cons_append, List.length_cons, List.length_nil, Option.toList_some, Option.toList_none, hT_sI, hT_sJ, hT_sR, hI_sJ, hI_sR, hJ_sI, hJ_sR, hR_sI, hR_sJ, isO_sI, isO_sJ, isO_sR, iI_add, iI_sub, iI_mul, iI_neg, lv_args, Nat.reduceAdd, Nat.reduceEqDiff, Nat.reduceLeDiff, reduceIte, ite_true, ite_false, true_and, and_true, false_and, and_false, not_true, not_false_iff, or_true, true_or, false_or, or_false, imp_self, ne_eq, Classical.not_not, forall_const, true_implies, false_implies, if_pos, Nat.zero_add, Nat.add_zero, Nat.le_refl, Nat.reduceLT, iz00, iz01, iz10, iz11, ib0, ib1, ib01, reduceCtorEq, cq_X11_pair_8, cq_X11_pair_101, o, c0, e4]
  refine ⟨fun z5 => ?_, fun z5 => ?_⟩
  rotate_left
  · have nv : n_pair st a b x y = st := if_neg (fun q => z5 q.2.2.2.2.2)
    have rv : r_pair st a b x y = -900004 := (if_pos ⟨ca, cb⟩).trans ((if_pos good).trans ((if_neg z4).trans (if_neg z5)))
    rw [nv, rv] at hQ
    exact hQ h ad R FX.rf rfl
  have rv : r_pair st a b x y = st 0 3 := (if_pos ⟨ca, cb⟩).trans ((if_pos good).trans ((if_neg z4).trans (if_pos z5)))
  unfold n_pair at hQ
  rw [if_pos ⟨ca, cb, good.1, good.2, z4, z5⟩, rv] at hQ
  have t1 := xa_26 R
  have t2 := xat_26 R
  have nx : hT h (ad 30 0) ≠ none := by rw [R.1.1]; exact fun z => by cases z
  have na : hT h (ad 8 3) ≠ none := by rw [t2]; exact fun z => by cases z
  refine hG.1 72 _ _ _ _ ?_
  rw [bq_X11_pair_72]
  simp only [bk_X11_pair_72, wp_aconst_null, wp_iconst, wp_bipush, wp_sipush, wp_ldc, wp_ldc_w, wp_ldc2_w, wp_lconst, wp_iload, wp_iload_n, wp_lload, wp_lload_n, wp_aload, wp_aload_n, wp_istore, wp_istore_n, wp_lstore, wp_lstore_n, wp_astore, wp_astore_n, wp_iinc, wp_iadd, wp_isub, wp_imul, wp_iand, wp_ior, wp_ixor, wp_ishl, wp_ishr, wp_iushr, wp_idiv, wp_irem, wp_ineg, wp_ladd, wp_lsub, wp_lmul, wp_ldiv, wp_lrem, wp_lcmp, wp_i2l, wp_l2i, wp_pop, wp_dup, wp_dup2, wp_goto, wp_ifCond, wp_if_icmp, wp_ifnull, wp_ifnonnull, wp_tableswitch, wp_getfield, wp_putfield, wp_arraylength, wp_iaload, wp_baload, wp_laload, wp_aaload, wp_iastore, wp_bastore, wp_lastore, wp_aastore, wp_new, wp_newarray, wp_anewarray, wp_multianewarray, wp_invokevirtual, wp_invokespecial, wp_invokestatic, wp_ireturn, wp_lreturn, wp_areturn, wp_return_, wpL, ldI, ldJ, ldA, lk, sL, cL, i1, i2, l1, l2, r1, pA, p1, p2, ar, tyAt, rcv, rcr, oO, cmpI, Value.category, rf_some, rf_none, ak, kc, List.drop_succ_cons, List.drop_zero, List.drop_nil, List.take_succ_cons, List.take_zero, List.take_nil, List.head?_cons, List.reverse_cons, List.reverse_nil, List.nil_append, List.cons_append, List.length_cons, List.length_nil, Option.toList_some, Option.toList_none, hT_sI, hT_sJ, hT_sR, hI_sJ, hI_sR, hJ_sI, hJ_sR, hR_sI, hR_sJ, isO_sI, isO_sJ, isO_sR, iI_add, iI_sub, iI_mul, iI_neg, lv_args, Nat.reduceAdd, Nat.reduceEqDiff, Nat.reduceLeDiff, reduceIte, ite_true, ite_false, true_and, and_true, false_and, and_false, not_true, not_false_iff, or_true, true_or, false_or, or_false, imp_self, ne_eq, Classical.not_not, forall_const, true_implies, false_implies, if_pos, Nat.zero_add, Nat.add_zero, Nat.le_refl, Nat.reduceLT, iz00, iz01, iz10, iz11, ib0, ib1, ib01, reduceCtorEq, cq_X11_pair_8, cq_X11_pair_101, o, c0, t1]
  intro q hq
  have xq := ne_of_none nx hq
  have aq := ne_of_none na hq
  refine ⟨q, _, _, _, _, rfl, ⟨4, by rw [hT_nw, if_pos rfl]⟩, ?_⟩
  have hin : vp_in (iI (st 0 3)) 20 := iI_in (by omega) (by omega)
  have e5 : (iI (st 0 3)).toNatClampNeg = (st 0 3).toNat := iI_cl (by omega)
  simp only [wp_aconst_null, wp_iconst, wp_bipush, wp_sipush, wp_ldc, wp_ldc_w, wp_ldc2_w, wp_lconst, wp_iload, wp_iload_n, wp_lload, wp_lload_n, wp_aload, wp_aload_n, wp_istore, wp_istore_n, wp_lstore, wp_lstore_n, wp_astore, wp_astore_n, wp_iinc, wp_iadd, wp_isub, wp_imul, wp_iand, wp_ior, wp_ixor, wp_ishl, wp_ishr, wp_iushr, wp_idiv, wp_irem, wp_ineg, wp_ladd, wp_lsub, wp_lmul, wp_ldiv, wp_lrem, wp_lcmp, wp_i2l, wp_l2i, wp_pop, wp_dup, wp_dup2, wp_goto, wp_ifCond, wp_if_icmp, wp_ifnull, wp_ifnonnull, wp_tableswitch, wp_getfield, wp_putfield, wp_arraylength, wp_iaload, wp_baload, wp_laload, wp_aaload, wp_iastore, wp_bastore, wp_lastore, wp_aastore, wp_new, wp_newarray, wp_anewarray, wp_multianewarray, wp_invokevirtual, wp_invokespecial, wp_invokestatic, wp_ireturn, wp_lreturn, wp_areturn, wp_return_, wpL, ldI, ldJ, ldA, lk, sL, cL, i1, i2, l1, l2, r1, pA, p1, p2, ar, tyAt, rcv, rcr, oO, cmpI, Value.category, rf_some, rf_none, ak, kc, List.drop_succ_cons, List.drop_zero, List.drop_nil, List.take_succ_cons, List.take_zero, List.take_nil, List.head?_cons, List.reverse_cons, List.reverse_nil, List.nil_append, List.cons_append, List.length_cons, List.length_nil, Option.toList_some, Option.toList_none, hT_sI, hT_sJ, hT_sR, hI_sJ, hI_sR, hJ_sI, hJ_sR, hR_sI, hR_sJ, isO_sI, isO_sJ, isO_sR, iI_add, iI_sub, iI_mul, iI_neg, lv_args, Nat.reduceAdd, Nat.reduceEqDiff, Nat.reduceLeDiff, reduceIte, ite_true, ite_false, true_and, and_true, false_and, and_false, not_true, not_false_iff, or_true, true_or, false_or, or_false, imp_self, ne_eq, Classical.not_not, forall_const, true_implies, false_implies, if_pos, Nat.zero_add, Nat.add_zero, Nat.le_refl, Nat.reduceLT, iz00, iz01, iz10, iz11, ib0, ib1, ib01, reduceCtorEq, cq_X11_pair_8, cq_X11_pair_101, hT_nw, isO_nw, hI_nw, aq, xq, o, c0, t2, hin, e5, hI_sI, and_false, hR_sR]
  have fin := hQ (hPair h ad st q a b x y) (adN ad 7 (st 0 3).toNat q) ?_ ?_ (by rw [adN_8 (by omega) 30 (by omega)])
  · rw [show st 0 3 + 1 - 1 = st 0 3 by omega]
    exact fin
  · exact pair_RX R w hq ca cb
  · exact pair_FX hq
theorem val_X11_pair (g : GP) : Val g yX11_pair prog_1_method_26_code 7 (some .int) 2 120 1 4 sp_X11_pair := val_of (own := RX11) (ini := false) (on := 11) (rs := rs_X11_pair) (cl := cl_X11_pair) (rt := 1) (bl := bl_X11_pair) (plainFor_of_name (by decide +kernel)) rfl (rok_X11 _) ck_X11_pair (fun h => by cases h) rfl (List.forall_mem_cons.mpr ⟨caV (val_X11_pieceOf g) (tb_in 368 (by decide +kernel) (by decide +kernel)) (tb_in 370 (by decide +kernel) (by decide +kernel)) (tb_in 0 (by decide +kernel) (by decide +kernel)) (tb_in 371 (by decide +kernel) (by decide +kernel)) (tb_in 55 (by decide +kernel) (by decide +kernel)) ⟨by decide, by decide, by decide +kernel⟩ ⟨rfl, by decide⟩ ⟨by decide, by decide⟩, List.forall_mem_cons.mpr ⟨caI (val_X2_init g) (tb_in 663 (by decide +kernel) (by decide +kernel)) (tb_in 664 (by decide +kernel) (by decide +kernel)) (tb_in 665 (by decide +kernel) (by decide +kernel)) (tb_in 68 (by decide +kernel) (by decide +kernel)) ⟨by decide, by decide, by decide +kernel⟩ rfl ⟨by decide, by decide⟩, (fun _ h => absurd h List.not_mem_nil)⟩⟩) pf_X11_pair

/-! a leg -/
def hLeg (h : hp) (ad : Ad) (st : St) (q : Nat) (p x y l u : Int) (nn : Int32) : hp := sI (sI (sR (sI (sI (sI (sI (sI (sI (nw h q 1 6) 1 5 q nn) 1 0 q (iI p)) 1 1 q (iI x)) 1 2 q (iI y)) 1 3 q (iI l)) 1 4 q (iI u)) 25 (st 0 2).toNat (ad 8 2) (some q)) 3 4 (ad 0 p.toNat) (iI (st 25 p.toNat + 1))) 11 5 (ad 30 0) (iI (st 0 2 + 1))
def stLeg (st : St) (p x y l u n : Int) : St := up (up (up (up (up (up (up (up st 12 (st 0 2).toNat p) 13 (st 0 2).toNat x) 14 (st 0 2).toNat y) 15 (st 0 2).toNat l) 16 (st 0 2).toNat u) 17 (st 0 2).toNat n) 25 p.toNat (st 25 p.toNat + 1)) 0 2 (st 0 2 + 1)
theorem leg_RX {h : hp} {ad : Ad} {st : St} {q : Nat} {p x y l u n : Int} {nn : Int32} (hnn : nn = iI n) (R : RX h ad st) (w : WF st) (w1 : WF (up st 25 p.toNat (st 25 p.toNat + 1))) (hq : hT h q = none) (ca : isP st p) : RX (hLeg h ad st q p x y l u nn) (adN ad 6 (st 0 2).toNat q) (stLeg st p x y l u n) := by
  have h0 := w.1.2.2.1
  have hp : ((p.toNat : Nat) : Int) < st 0 0 := by omega
  have R1 := RX_set R 3 4 0 25 1 0 0 (by decide) hp (st 25 p.toNat + 1)
  simp only [Nat.one_mul, Nat.add_zero] at R1
  have np : hT h (ad 0 p.toNat) ≠ none := by rw [xT_0 R hp]; exact fun z => by cases z
  have pq := ne_of_none np hq
  unfold hLeg stLeg
  subst hnn
  have hcast : (((st 0 2).toNat : Nat) : Int) = st 0 2 := by omega
  have e02 : up st 25 p.toNat (st 25 p.toNat + 1) 0 2 = st 0 2 := up_f (by decide)
  refine RX_grow R1 w1 2 (by omega) (fun j => ?_) (fun r hr i hi => ?_) (fun e _ => ?_) (fun e _ => ?_) (fun r hr i hi => ?_) (fun r hr => adN_8 (by omega) r hr) (fun z hz => ?_) (fun z c' k hz hne => ?_) (fun z c' k hz hne => ?_) ?_ ?_ (fun r hr hc => ?_) (fun r hr hc => ?_) (fun z => by cases z) (fun z => by cases z) (fun z => by cases z) (fun z => by cases z)
  · simp only [e02]
    unfold up
    by_cases z : j = 2
    · rw [if_pos ⟨rfl, z⟩, if_pos z]
    · rw [if_neg (fun y => z y.2), if_neg z]
      simp
  · rw [up_f (xt_0 r hr).1]
    by_cases h25 : r.2.2.2.1 = 25
    · rw [h25]
      by_cases hz : r.2.2.2.2.1 * i + r.2.2.2.2.2.1 = p.toNat
      · rw [hz, up_eq, up_eq]
      · rw [up_ne (fun z => hz z.2), up_ne (fun z => hz z.2), up_f (by omega), up_f (by omega), up_f (by omega), up_f (by omega), up_f (by omega), up_f (by omega)]
    · rw [up_f h25, up_f h25]
      rw [up_f (by decide)] at hi
      by_cases hz : r.2.2.2.1 = 12 ∨ r.2.2.2.1 = 13 ∨ r.2.2.2.1 = 14 ∨ r.2.2.2.1 = 15 ∨ r.2.2.2.1 = 16 ∨ r.2.2.2.1 = 17
      · obtain ⟨y1, y2, y3⟩ := (xt_fld r hr).2.2 hz
        rw [y3] at hi
        rw [y1, y2]
        rw [up_ne (by omega), up_ne (by omega), up_ne (by omega), up_ne (by omega), up_ne (by omega), up_ne (by omega)]
      · rw [up_f (by omega), up_f (by omega), up_f (by omega), up_f (by omega), up_f (by omega), up_f (by omega)]
  · exact ⟨by simp [up], by simp [up]⟩
  · exact ⟨by simp [up], by simp [up]⟩
  · rw [up_f (by decide)] at hi
    unfold adN
    rw [if_neg]
    rintro ⟨z1, z2⟩
    rw [(xy_row r hr).2.1 z2] at hi
    omega
  · simp only [hT_sI, hT_sR, hT_nw, if_neg (ne_of_none hz hq)]
  · have hzq := ne_of_none hz hq
    have hne' : ¬ (c' = 11 ∧ k = 5 ∧ z = ad 30 0) := hne
    simp only [hI_sI, hI_sR, hI_nw, if_neg hne', hzq, and_false, if_false]
  · have hzq := ne_of_none hz hq
    rw [e02] at hne
    simp only [hR_sI, hR_sR, hR_nw, if_neg hne, hzq, and_false, if_false]
  · rw [hI_sI, e02]; exact if_pos ⟨rfl, rfl, rfl⟩
  · rw [hR_sI, hR_sI, hR_sR, e02, if_pos ⟨rfl, rfl, rfl⟩]; exact congrArg some adN_at.symm
  · obtain rfl := (xy_row r hr).2.2.2.2.1 hc
    rw [e02, adN_at]
    simp [hT_sI, hT_sR, hT_nw, hq]
  · rw [e02]
    simp only [xtab, List.mem_cons, List.not_mem_nil, or_false] at hr
    rcases hr with rfl | rfl | rfl | rfl | rfl | rfl | rfl | rfl | rfl | rfl | rfl | rfl | rfl | rfl | rfl | rfl | rfl | rfl | rfl | rfl | rfl | rfl | rfl | rfl | rfl | rfl | rfl | rfl | rfl | rfl <;> first | (exact absurd hc (by decide)) | (dsimp only; rw [adN_at]; simp only [hI_sI, hI_sR, hI_nw, up, Nat.reduceEqDiff, false_and, and_false, and_self, true_and, if_true, if_false, Nat.one_mul, Nat.add_zero, reduceIte])
theorem leg_FX {h : hp} {ad : Ad} {st : St} {q : Nat} {p x y l u : Int} {nn : Int32} (hq : hT h q = none) : FX h (hLeg h ad st q p x y l u nn) :=
  (((((((((((FX.rf.n hq).i (by decide)).i (by decide)).i (by decide)).i (by decide)).i (by decide)).i (by decide)).r (by decide)).i (by decide)).i (by decide)))
