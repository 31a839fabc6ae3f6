/-! the reference: rows, powers, exchanges -/
abbrev lr (a : Int) : Prop := -9223372036854775808 ≤ a ∧ a ≤ 9223372036854775807
theorem lgq_eq {a b : Int} (ha : lr a) (hb : lr b) : (lgc (lI a) (lI b) = 0) = (a = b) := by
  refine propext ?_
  rw [lgc_eq ha hb, iI_eq0 (by split; omega; split <;> omega)]
  split
  · omega
  · split <;> omega
theorem lgq_le {a b : Int} (ha : lr a) (hb : lr b) : (lgc (lI a) (lI b) ≤ 0) = (a ≤ b) := by
  refine propext ?_
  rw [lgc_eq ha hb, iI_le0 (by split; omega; split <;> omega)]
  split
  · omega
  · split <;> omega
theorem hJ_same (h : hp) (c k a : Nat) (v : Int64) : hJ (sJ h c k a v) c k a = v := by rw [hJ_sJ, if_pos ⟨rfl, rfl, rfl⟩]
theorem pmod (a p : Int) (n : Nat) : (a % p) ^ n % p = a ^ n % p := by
  induction n with
  | zero => rw [Int.pow_zero, Int.pow_zero]
  | succ n ih => rw [Int.pow_succ, Int.pow_succ, Int.mul_emod, ih, Int.emod_emod_of_dvd _ (Int.dvd_refl p), ← Int.mul_emod]
def cl_X12_power : Nat → Nat × Nat × Spec := fun q => (0, 0, fun _ _ _ => False)

def sp_X12_power : Spec := fun as h K => ∃ (v p : Int) (n : Nat), as = [.long (lI v), .long (lI (n : Nat)), .long (lI p)] ∧ (0 ≤ v ∧ v < p) ∧ (2 ≤ p ∧ p ≤ 2147483647) ∧ n ≤ 2147483647 ∧ K (some (.long (lI (v ^ n % p)))) h
theorem pf_X12_power : PfM cl_X12_power (0, 0) 3 12 bl_X12_power sp_X12_power := by
  rintro as h Q ⟨v, p, n, rfl, hv, hpr, hn, hQ⟩
  refine ⟨Nat.le_of_ble_eq_true rfl, fun G hG => ?_⟩
  have x5 : (lI p = 0) = False := eq_false (by rw [show (0 : Int64) = lI 0 from rfl, lI_eq (by omega) (by omega)]; omega)
  have x6 : (lI 2 = 0) = False := eq_false (by decide)
  have loop : ∀ (N left : Nat) (res base : Int), left ≤ N → left ≤ 2147483647 → (0 ≤ res ∧ res < p) → (0 ≤ base ∧ base < p) → res * base ^ left % p = v ^ n % p → G 9 [(0, .long (lI v)), (2, .long (lI (n : Nat))), (4, .long (lI p)), (6, .long (lI res)), (8, .long (lI base)), (10, .long (lI (left : Nat)))] [] h (0, 0) := by
    intro N
    induction N with
    | zero =>
      intro left res base hl _ hr hb he
      have : left = 0 := by omega
      subst this
      have e1 := lgq_le (a := ((0 : Nat) : Int)) (b := 0) (by omega) (by omega)
      have e2 : (((0 : Nat) : Int) ≤ 0) = True := eq_true (Int.le_refl _)
      refine hG.1 9 _ _ _ _ ?_
      rw [bq_X12_power_9]
      simp only [bk_X12_power_9, wp_aconst_null, wp_iconst, wp_bipush, wp_sipush, wp_ldc, wp_ldc_w, wp_ldc2_w, wp_lconst, wp_iload, wp_iload_n, wp_lload, wp_lload_n, wp_aload, wp_aload_n, wp_istore, wp_istore_n, wp_lstore, wp_lstore_n, wp_astore, wp_astore_n, wp_iinc, wp_iadd, wp_isub, wp_imul, wp_iand, wp_ior, wp_ixor, wp_ishl, wp_ishr, wp_iushr, wp_idiv, wp_irem, wp_ineg, wp_ladd, wp_lsub, wp_lmul, wp_ldiv, wp_lrem, wp_lcmp, wp_i2l, wp_l2i, wp_pop, wp_dup, wp_dup2, wp_goto, wp_ifCond, wp_if_icmp, wp_ifnull, wp_ifnonnull, wp_tableswitch, wp_getfield, wp_putfield, wp_arraylength, wp_iaload, wp_baload, wp_laload, wp_aaload, wp_iastore, wp_bastore, wp_lastore, wp_aastore, wp_new, wp_newarray, wp_anewarray, wp_multianewarray, wp_invokevirtual, wp_invokespecial, wp_invokestatic, wp_ireturn, wp_lreturn, wp_areturn, wp_return_, wpL, ldI, ldJ, ldA, lk, sL, cL, i1, i2, l1, l2, r1, pA, p1, p2, ar, tyAt, rcv, rcr, oO, cmpI, Value.category, rf_some, rf_none, ak, kc, List.drop_succ_cons, List.drop_zero, List.drop_nil, List.take_succ_cons, List.take_zero, List.take_nil, List.head?_cons, List.reverse_cons, List.reverse_nil, List.nil_append, List.cons_append, List.length_cons, List.length_nil, Option.toList_some, Option.toList_none, hT_sI, hT_sJ, hT_sR, hI_sJ, hI_sR, hJ_sI, hJ_sR, hR_sI, hR_sJ, isO_sI, isO_sJ, isO_sR, iI_add, iI_sub, iI_mul, iI_neg, lv_args, Nat.reduceAdd, Nat.reduceEqDiff, Nat.reduceLeDiff, reduceIte, ite_true, ite_false, true_and, and_true, false_and, and_false, not_true, not_false_iff, or_true, true_or, false_or, or_false, imp_self, ne_eq, Classical.not_not, forall_const, true_implies, false_implies, if_pos, Nat.zero_add, Nat.add_zero, Nat.le_refl, Nat.reduceLT, iz00, iz01, iz10, iz11, ib0, ib1, ib01, reduceCtorEq, e1, e2]
      refine hG.1 63 _ _ _ _ ?_
      rw [bq_X12_power_63]
      simp only [bk_X12_power_63, wp_aconst_null, wp_iconst, wp_bipush, wp_sipush, wp_ldc, wp_ldc_w, wp_ldc2_w, wp_lconst, wp_iload, wp_iload_n, wp_lload, wp_lload_n, wp_aload, wp_aload_n, wp_istore, wp_istore_n, wp_lstore, wp_lstore_n, wp_astore, wp_astore_n, wp_iinc, wp_iadd, wp_isub, wp_imul, wp_iand, wp_ior, wp_ixor, wp_ishl, wp_ishr, wp_iushr, wp_idiv, wp_irem, wp_ineg, wp_ladd, wp_lsub, wp_lmul, wp_ldiv, wp_lrem, wp_lcmp, wp_i2l, wp_l2i, wp_pop, wp_dup, wp_dup2, wp_goto, wp_ifCond, wp_if_icmp, wp_ifnull, wp_ifnonnull, wp_tableswitch, wp_getfield, wp_putfield, wp_arraylength, wp_iaload, wp_baload, wp_laload, wp_aaload, wp_iastore, wp_bastore, wp_lastore, wp_aastore, wp_new, wp_newarray, wp_anewarray, wp_multianewarray, wp_invokevirtual, wp_invokespecial, wp_invokestatic, wp_ireturn, wp_lreturn, wp_areturn, wp_return_, wpL, ldI, ldJ, ldA, lk, sL, cL, i1, i2, l1, l2, r1, pA, p1, p2, ar, tyAt, rcv, rcr, oO, cmpI, Value.category, rf_some, rf_none, ak, kc, List.drop_succ_cons, List.drop_zero, List.drop_nil, List.take_succ_cons, List.take_zero, List.take_nil, List.head?_cons, List.reverse_cons, List.reverse_nil, List.nil_append, List.cons_append, List.length_cons, List.length_nil, Option.toList_some, Option.toList_none, hT_sI, hT_sJ, hT_sR, hI_sJ, hI_sR, hJ_sI, hJ_sR, hR_sI, hR_sJ, isO_sI, isO_sJ, isO_sR, iI_add, iI_sub, iI_mul, iI_neg, lv_args, Nat.reduceAdd, Nat.reduceEqDiff, Nat.reduceLeDiff, reduceIte, ite_true, ite_false, true_and, and_true, false_and, and_false, not_true, not_false_iff, or_true, true_or, false_or, or_false, imp_self, ne_eq, Classical.not_not, forall_const, true_implies, false_implies, if_pos, Nat.zero_add, Nat.add_zero, Nat.le_refl, Nat.reduceLT, iz00, iz01, iz10, iz11, ib0, ib1, ib01, reduceCtorEq]
      rw [Int.pow_zero, Int.mul_one, Int.emod_eq_of_lt hr.1 hr.2] at he
      rw [he]
      exact hQ
    | succ N ih =>
      intro left res base hl hl2 hr hb he
      have e1 := lgq_le (a := ((left : Nat) : Int)) (b := 0) (by omega) (by omega)
      by_cases c : left = 0
      · subst c
        have e2 : (((0 : Nat) : Int) ≤ 0) = True := eq_true (Int.le_refl _)
        refine hG.1 9 _ _ _ _ ?_
        rw [bq_X12_power_9]
        simp only [bk_X12_power_9, wp_aconst_null, wp_iconst, wp_bipush, wp_sipush, wp_ldc, wp_ldc_w, wp_ldc2_w, wp_lconst, wp_iload, wp_iload_n, wp_lload, wp_lload_n, wp_aload, wp_aload_n, wp_istore, wp_istore_n, wp_lstore, wp_lstore_n, wp_astore, wp_astore_n, wp_iinc, wp_iadd, wp_isub, wp_imul, wp_iand, wp_ior, wp_ixor, wp_ishl, wp_ishr, wp_iushr, wp_idiv, wp_irem, wp_ineg, wp_ladd, wp_lsub, wp_lmul, wp_ldiv, wp_lrem, wp_lcmp, wp_i2l, wp_l2i, wp_pop, wp_dup, wp_dup2, wp_goto, wp_ifCond, wp_if_icmp, wp_ifnull, wp_ifnonnull, wp_tableswitch, wp_getfield, wp_putfield, wp_arraylength, wp_iaload, wp_baload, wp_laload, wp_aaload, wp_iastore, wp_bastore, wp_lastore, wp_aastore, wp_new, wp_newarray, wp_anewarray, wp_multianewarray, wp_invokevirtual, wp_invokespecial, wp_invokestatic, wp_ireturn, wp_lreturn, wp_areturn, wp_return_, wpL, ldI, ldJ, ldA, lk, sL, cL, i1, i2, l1, l2, r1, pA, p1, p2, ar, tyAt, rcv, rcr, oO, cmpI, Value.category, rf_some, rf_none, ak, kc, List.drop_succ_cons, List.drop_zero, List.drop_nil, List.take_succ_cons, List.take_zero, List.take_nil, List.head?_cons, List.reverse_cons, List.reverse_nil, List.nil_append, List.cons_append, List.length_cons, List.length_nil, Option.toList_some, Option.toList_none, hT_sI, hT_sJ, hT_sR, hI_sJ, hI_sR, hJ_sI, hJ_sR, hR_sI, hR_sJ, isO_sI, isO_sJ, isO_sR, iI_add, iI_sub, iI_mul, iI_neg, lv_args, Nat.reduceAdd, Nat.reduceEqDiff, Nat.reduceLeDiff, reduceIte, ite_true, ite_false, true_and, and_true, false_and, and_false, not_true, not_false_iff, or_true, true_or, false_or, or_false, imp_self, ne_eq, Classical.not_not, forall_const, true_implies, false_implies, if_pos, Nat.zero_add, Nat.add_zero, Nat.le_refl, Nat.reduceLT, iz00, iz01, iz10, iz11, ib0, ib1, ib01, reduceCtorEq, e1, e2]
        refine hG.1 63 _ _ _ _ ?_
        rw [bq_X12_power_63]
        simp only [bk_X12_power_63, wp_aconst_null, wp_iconst, wp_bipush, wp_sipush, wp_ldc, wp_ldc_w, wp_ldc2_w, wp_lconst, wp_iload, wp_iload_n, wp_lload, wp_lload_n, wp_aload, wp_aload_n, wp_istore, wp_istore_n, wp_lstore, wp_lstore_n, wp_astore, wp_astore_n, wp_iinc, wp_iadd, wp_isub, wp_imul, wp_iand, wp_ior, wp_ixor, wp_ishl, wp_ishr, wp_iushr, wp_idiv, wp_irem, wp_ineg, wp_ladd, wp_lsub, wp_lmul, wp_ldiv, wp_lrem, wp_lcmp, wp_i2l, wp_l2i, wp_pop, wp_dup, wp_dup2, wp_goto, wp_ifCond, wp_if_icmp, wp_ifnull, wp_ifnonnull, wp_tableswitch, wp_getfield, wp_putfield, wp_arraylength, wp_iaload, wp_baload, wp_laload, wp_aaload, wp_iastore, wp_bastore, wp_lastore, wp_aastore, wp_new, wp_newarray, wp_anewarray, wp_multianewarray, wp_invokevirtual, wp_invokespecial, wp_invokestatic, wp_ireturn, wp_lreturn, wp_areturn, wp_return_, wpL, ldI, ldJ, ldA, lk, sL, cL, i1, i2, l1, l2, r1, pA, p1, p2, ar, tyAt, rcv, rcr, oO, cmpI, Value.category, rf_some, rf_none, ak, kc, List.drop_succ_cons, List.drop_zero, List.drop_nil, List.take_succ_cons, List.take_zero, List.take_nil, List.head?_cons, List.reverse_cons, List.reverse_nil, List.nil_append, List.cons_append, List.length_cons, List.length_nil, Option.toList_some, Option.toList_none, hT_sI, hT_sJ, hT_sR, hI_sJ, hI_sR, hJ_sI, hJ_sR, hR_sI, hR_sJ, isO_sI, isO_sJ, isO_sR, iI_add, iI_sub, iI_mul, iI_neg, lv_args, Nat.reduceAdd, Nat.reduceEqDiff, Nat.reduceLeDiff, reduceIte, ite_true, ite_false, true_and, and_true, false_and, and_false, not_true, not_false_iff, or_true, true_or, false_or, or_false, imp_self, ne_eq, Classical.not_not, forall_const, true_implies, false_implies, if_pos, Nat.zero_add, Nat.add_zero, Nat.le_refl, Nat.reduceLT, iz00, iz01, iz10, iz11, ib0, ib1, ib01, reduceCtorEq]
        rw [Int.pow_zero, Int.mul_one, Int.emod_eq_of_lt hr.1 hr.2] at he
        rw [he]
        exact hQ
      · have e2 : (((left : Nat) : Int) ≤ 0) = False := eq_false (by omega)
        have r2 := lI_rem (a := (left : Int)) (p := 2) (by omega) (by omega)
        have t2 : (left : Int).tmod 2 = ((left % 2 : Nat) : Int) := rfl
        have d2 : lI (left : Nat) / lI 2 = lI ((left / 2 : Nat) : Nat) := by rw [lI_div (by omega) (by omega)]; rfl
        rw [t2] at r2
        rw [d2] at r2
        have e3 := lgq_eq (a := ((left % 2 : Nat) : Int)) (b := 1) (by omega) (by omega)
        have b1 := mul_rg (A := 2147483646) (B := 2147483646) (a := res) (b := base) (by omega) (by omega) (by omega) (by omega)
        have b2 := mul_rg (A := 2147483646) (B := 2147483646) (a := base) (b := base) (by omega) (by omega) (by omega) (by omega)
        have p1' : 0 ≤ res * base := Int.mul_nonneg hr.1 hb.1
        have p2' : 0 ≤ base * base := Int.mul_nonneg hb.1 hb.1
        have r3 : lI (res * base) - lI (res * base) / lI p * lI p = lI (res * base % p) := by rw [lI_rem (by omega) (by omega), Int.tmod_eq_emod_of_nonneg p1']
        have r4 : lI (base * base) - lI (base * base) / lI p * lI p = lI (base * base % p) := by rw [lI_rem (by omega) (by omega), Int.tmod_eq_emod_of_nonneg p2']
        have m1' : lI res * lI base = lI (res * base) := lI_mul _ _
        have m2' : lI base * lI base = lI (base * base) := lI_mul _ _
        have g1 := Int.emod_nonneg (res * base) (show p ≠ 0 by omega)
        have g2 := Int.emod_lt_of_pos (res * base) (show 0 < p by omega)
        have g3 := Int.emod_nonneg (base * base) (show p ≠ 0 by omega)
        have g4 := Int.emod_lt_of_pos (base * base) (show 0 < p by omega)
        have key : ∀ r2 : Int, r2 * (base * base) ^ (left / 2) % p = v ^ n % p → r2 * (base * base % p) ^ (left / 2) % p = v ^ n % p := by
          intro rr hh
          rw [← hh, Int.mul_emod, pmod, ← Int.mul_emod]
        have sq : ∀ k : Nat, (base * base) ^ k = base ^ (2 * k) := by
          intro k
          rw [show base * base = base ^ 2 by rw [Int.pow_succ, Int.pow_succ, Int.pow_zero, Int.one_mul], ← Int.pow_mul]
        by_cases d : left % 2 = 1
        · have e4 : (((left % 2 : Nat) : Int) = 1) = True := eq_true (by omega)
          refine hG.1 9 _ _ _ _ ?_
          rw [bq_X12_power_9]
          simp only [bk_X12_power_9, wp_aconst_null, wp_iconst, wp_bipush, wp_sipush, wp_ldc, wp_ldc_w, wp_ldc2_w, wp_lconst, wp_iload, wp_iload_n, wp_lload, wp_lload_n, wp_aload, wp_aload_n, wp_istore, wp_istore_n, wp_lstore, wp_lstore_n, wp_astore, wp_astore_n, wp_iinc, wp_iadd, wp_isub, wp_imul, wp_iand, wp_ior, wp_ixor, wp_ishl, wp_ishr, wp_iushr, wp_idiv, wp_irem, wp_ineg, wp_ladd, wp_lsub, wp_lmul, wp_ldiv, wp_lrem, wp_lcmp, wp_i2l, wp_l2i, wp_pop, wp_dup, wp_dup2, wp_goto, wp_ifCond, wp_if_icmp, wp_ifnull, wp_ifnonnull, wp_tableswitch, wp_getfield, wp_putfield, wp_arraylength, wp_iaload, wp_baload, wp_laload, wp_aaload, wp_iastore, wp_bastore, wp_lastore, wp_aastore, wp_new, wp_newarray, wp_anewarray, wp_multianewarray, wp_invokevirtual, wp_invokespecial, wp_invokestatic, wp_ireturn, wp_lreturn, wp_areturn, wp_return_, wpL, ldI, ldJ, ldA, lk, sL, cL, i1, i2, l1, l2, r1, pA, p1, p2, ar, tyAt, rcv, rcr, oO, cmpI, Value.category, rf_some, rf_none, ak, kc, List.drop_succ_cons, List.drop_zero, List.drop_nil, List.take_succ_cons, List.take_zero, List.take_nil, List.head?_cons, List.reverse_cons, List.reverse_nil, List.nil_append, List.cons_append, List.length_cons, List.length_nil, Option.toList_some, Option.toList_none, hT_sI, hT_sJ, hT_sR, hI_sJ, hI_sR, hJ_sI, hJ_sR, hR_sI, hR_sJ, isO_sI, isO_sJ, isO_sR, iI_add, iI_sub, iI_mul, iI_neg, lv_args, Nat.reduceAdd, Nat.reduceEqDiff, Nat.reduceLeDiff, reduceIte, ite_true, ite_false, true_and, and_true, false_and, and_false, not_true, not_false_iff, or_true, true_or, false_or, or_false, imp_self, ne_eq, Classical.not_not, forall_const, true_implies, false_implies, if_pos, Nat.zero_add, Nat.add_zero, Nat.le_refl, Nat.reduceLT, iz00, iz01, iz10, iz11, ib0, ib1, ib01, reduceCtorEq, e1, e2, r2, d2, e3, e4, x5, x6, m1', r3]
          refine hG.1 40 _ _ _ _ ?_
          rw [bq_X12_power_40]
          simp only [bk_X12_power_40, wp_aconst_null, wp_iconst, wp_bipush, wp_sipush, wp_ldc, wp_ldc_w, wp_ldc2_w, wp_lconst, wp_iload, wp_iload_n, wp_lload, wp_lload_n, wp_aload, wp_aload_n, wp_istore, wp_istore_n, wp_lstore, wp_lstore_n, wp_astore, wp_astore_n, wp_iinc, wp_iadd, wp_isub, wp_imul, wp_iand, wp_ior, wp_ixor, wp_ishl, wp_ishr, wp_iushr, wp_idiv, wp_irem, wp_ineg, wp_ladd, wp_lsub, wp_lmul, wp_ldiv, wp_lrem, wp_lcmp, wp_i2l, wp_l2i, wp_pop, wp_dup, wp_dup2, wp_goto, wp_ifCond, wp_if_icmp, wp_ifnull, wp_ifnonnull, wp_tableswitch, wp_getfield, wp_putfield, wp_arraylength, wp_iaload, wp_baload, wp_laload, wp_aaload, wp_iastore, wp_bastore, wp_lastore, wp_aastore, wp_new, wp_newarray, wp_anewarray, wp_multianewarray, wp_invokevirtual, wp_invokespecial, wp_invokestatic, wp_ireturn, wp_lreturn, wp_areturn, wp_return_, wpL, ldI, ldJ, ldA, lk, sL, cL, i1, i2, l1, l2, r1, pA, p1, p2, ar, tyAt, rcv, rcr, oO, cmpI, Value.category, rf_some, rf_none, ak, kc, List.drop_succ_cons, List.drop_zero, List.drop_nil, List.take_succ_cons, List.take_zero, List.take_nil, List.head?_cons, List.reverse_cons, List.reverse_nil, List.nil_append, List.cons_append, List.length_cons, List.length_nil, Option.toList_some, Option.toList_none, hT_sI, hT_sJ, hT_sR, hI_sJ, hI_sR, hJ_sI, hJ_sR, hR_sI, hR_sJ, isO_sI, isO_sJ, isO_sR, iI_add, iI_sub, iI_mul, iI_neg, lv_args, Nat.reduceAdd, Nat.reduceEqDiff, Nat.reduceLeDiff, reduceIte, ite_true, ite_false, true_and, and_true, false_and, and_false, not_true, not_false_iff, or_true, true_or, false_or, or_false, imp_self, ne_eq, Classical.not_not, forall_const, true_implies, false_implies, if_pos, Nat.zero_add, Nat.add_zero, Nat.le_refl, Nat.reduceLT, iz00, iz01, iz10, iz11, ib0, ib1, ib01, reduceCtorEq, m2', r4, x5, x6, d2]
          refine ih (left / 2) _ _ (by omega) (by omega) ⟨g1, g2⟩ ⟨g3, g4⟩ (key _ ?_)
          rw [← he, Int.mul_emod, Int.emod_emod_of_dvd _ (Int.dvd_refl p), ← Int.mul_emod, sq, Int.mul_assoc, ← Int.pow_succ', show 2 * (left / 2) + 1 = left by omega]
        · have e4 : (((left % 2 : Nat) : Int) = 1) = False := eq_false (by omega)
          refine hG.1 9 _ _ _ _ ?_
          rw [bq_X12_power_9]
          simp only [bk_X12_power_9, wp_aconst_null, wp_iconst, wp_bipush, wp_sipush, wp_ldc, wp_ldc_w, wp_ldc2_w, wp_lconst, wp_iload, wp_iload_n, wp_lload, wp_lload_n, wp_aload, wp_aload_n, wp_istore, wp_istore_n, wp_lstore, wp_lstore_n, wp_astore, wp_astore_n, wp_iinc, wp_iadd, wp_isub, wp_imul, wp_iand, wp_ior, wp_ixor, wp_ishl, wp_ishr, wp_iushr, wp_idiv, wp_irem, wp_ineg, wp_ladd, wp_lsub, wp_lmul, wp_ldiv, wp_lrem, wp_lcmp, wp_i2l, wp_l2i, wp_pop, wp_dup, wp_dup2, wp_goto, wp_ifCond, wp_if_icmp, wp_ifnull, wp_ifnonnull, wp_tableswitch, wp_getfield, wp_putfield, wp_arraylength, wp_iaload, wp_baload, wp_laload, wp_aaload, wp_iastore, wp_bastore, wp_lastore, wp_aastore, wp_new, wp_newarray, wp_anewarray, wp_multianewarray, wp_invokevirtual, wp_invokespecial, wp_invokestatic, wp_ireturn, wp_lreturn, wp_areturn, wp_return_, wpL, ldI, ldJ, ldA, lk, sL, cL, i1, i2, l1, l2, r1, pA, p1, p2, ar, tyAt, rcv, rcr, oO, cmpI, Value.category, rf_some, rf_none, ak, kc, List.drop_succ_cons, List.drop_zero, List.drop_nil, List.take_succ_cons, List.take_zero, List.take_nil, List.head?_cons, List.reverse_cons, List.reverse_nil, List.nil_append, List.cons_append, List.length_cons, List.length_nil, Option.toList_some, Option.toList_none, hT_sI, hT_sJ, hT_sR, hI_sJ, hI_sR, hJ_sI, hJ_sR, hR_sI, hR_sJ, isO_sI, isO_sJ, isO_sR, iI_add, iI_sub, iI_mul, iI_neg, lv_args, Nat.reduceAdd, Nat.reduceEqDiff, Nat.reduceLeDiff, reduceIte, ite_true, ite_false, true_and, and_true, false_and, and_false, not_true, not_false_iff, or_true, true_or, false_or, or_false, imp_self, ne_eq, Classical.not_not, forall_const, true_implies, false_implies, if_pos, Nat.zero_add, Nat.add_zero, Nat.le_refl, Nat.reduceLT, iz00, iz01, iz10, iz11, ib0, ib1, ib01, reduceCtorEq, e1, e2, r2, d2, e3, e4, x6]
          refine hG.1 38 _ _ _ _ ?_
          rw [bq_X12_power_38]
          simp only [bk_X12_power_38, wp_aconst_null, wp_iconst, wp_bipush, wp_sipush, wp_ldc, wp_ldc_w, wp_ldc2_w, wp_lconst, wp_iload, wp_iload_n, wp_lload, wp_lload_n, wp_aload, wp_aload_n, wp_istore, wp_istore_n, wp_lstore, wp_lstore_n, wp_astore, wp_astore_n, wp_iinc, wp_iadd, wp_isub, wp_imul, wp_iand, wp_ior, wp_ixor, wp_ishl, wp_ishr, wp_iushr, wp_idiv, wp_irem, wp_ineg, wp_ladd, wp_lsub, wp_lmul, wp_ldiv, wp_lrem, wp_lcmp, wp_i2l, wp_l2i, wp_pop, wp_dup, wp_dup2, wp_goto, wp_ifCond, wp_if_icmp, wp_ifnull, wp_ifnonnull, wp_tableswitch, wp_getfield, wp_putfield, wp_arraylength, wp_iaload, wp_baload, wp_laload, wp_aaload, wp_iastore, wp_bastore, wp_lastore, wp_aastore, wp_new, wp_newarray, wp_anewarray, wp_multianewarray, wp_invokevirtual, wp_invokespecial, wp_invokestatic, wp_ireturn, wp_lreturn, wp_areturn, wp_return_, wpL, ldI, ldJ, ldA, lk, sL, cL, i1, i2, l1, l2, r1, pA, p1, p2, ar, tyAt, rcv, rcr, oO, cmpI, Value.category, rf_some, rf_none, ak, kc, List.drop_succ_cons, List.drop_zero, List.drop_nil, List.take_succ_cons, List.take_zero, List.take_nil, List.head?_cons, List.reverse_cons, List.reverse_nil, List.nil_append, List.cons_append, List.length_cons, List.length_nil, Option.toList_some, Option.toList_none, hT_sI, hT_sJ, hT_sR, hI_sJ, hI_sR, hJ_sI, hJ_sR, hR_sI, hR_sJ, isO_sI, isO_sJ, isO_sR, iI_add, iI_sub, iI_mul, iI_neg, lv_args, Nat.reduceAdd, Nat.reduceEqDiff, Nat.reduceLeDiff, reduceIte, ite_true, ite_false, true_and, and_true, false_and, and_false, not_true, not_false_iff, or_true, true_or, false_or, or_false, imp_self, ne_eq, Classical.not_not, forall_const, true_implies, false_implies, if_pos, Nat.zero_add, Nat.add_zero, Nat.le_refl, Nat.reduceLT, iz00, iz01, iz10, iz11, ib0, ib1, ib01, reduceCtorEq]
          refine hG.1 40 _ _ _ _ ?_
          rw [bq_X12_power_40]
          simp only [bk_X12_power_40, wp_aconst_null, wp_iconst, wp_bipush, wp_sipush, wp_ldc, wp_ldc_w, wp_ldc2_w, wp_lconst, wp_iload, wp_iload_n, wp_lload, wp_lload_n, wp_aload, wp_aload_n, wp_istore, wp_istore_n, wp_lstore, wp_lstore_n, wp_astore, wp_astore_n, wp_iinc, wp_iadd, wp_isub, wp_imul, wp_iand, wp_ior, wp_ixor, wp_ishl, wp_ishr, wp_iushr, wp_idiv, wp_irem, wp_ineg, wp_ladd, wp_lsub, wp_lmul, wp_ldiv, wp_lrem, wp_lcmp, wp_i2l, wp_l2i, wp_pop, wp_dup, wp_dup2, wp_goto, wp_ifCond, wp_if_icmp, wp_ifnull, wp_ifnonnull, wp_tableswitch, wp_getfield, wp_putfield, wp_arraylength, wp_iaload, wp_baload, wp_laload, wp_aaload, wp_iastore, wp_bastore, wp_lastore, wp_aastore, wp_new, wp_newarray, wp_anewarray, wp_multianewarray, wp_invokevirtual, wp_invokespecial, wp_invokestatic, wp_ireturn, wp_lreturn, wp_areturn, wp_return_, wpL, ldI, ldJ, ldA, lk, sL, cL, i1, i2, l1, l2, r1, pA, p1, p2, ar, tyAt, rcv, rcr, oO, cmpI, Value.category, rf_some, rf_none, ak, kc, List.drop_succ_cons, List.drop_zero, List.drop_nil, List.take_succ_cons, List.take_zero, List.take_nil, List.head?_cons, List.reverse_cons, List.reverse_nil, List.nil_append, List.cons_append, List.length_cons, List.length_nil, Option.toList_some, Option.toList_none, hT_sI, hT_sJ, hT_sR, hI_sJ, hI_sR, hJ_sI, hJ_sR, hR_sI, hR_sJ, isO_sI, isO_sJ, isO_sR, iI_add, iI_sub, iI_mul, iI_neg, lv_args, Nat.reduceAdd, Nat.reduceEqDiff, Nat.reduceLeDiff, reduceIte, ite_true, ite_false, true_and, and_true, false_and, and_false, not_true, not_false_iff, or_true, true_or, false_or, or_false, imp_self, ne_eq, Classical.not_not, forall_const, true_implies, false_implies, if_pos, Nat.zero_add, Nat.add_zero, Nat.le_refl, Nat.reduceLT, iz00, iz01, iz10, iz11, ib0, ib1, ib01, reduceCtorEq, m2', r4, x5, x6, d2]
          refine ih (left / 2) _ _ (by omega) (by omega) hr ⟨g3, g4⟩ (key _ ?_)
          rw [← he, sq, show 2 * (left / 2) = left by omega]
  refine hG.1 0 _ _ _ _ ?_
  rw [bq_X12_power_0]
  simp only [bk_X12_power_0, wp_aconst_null, wp_iconst, wp_bipush, wp_sipush, wp_ldc, wp_ldc_w, wp_ldc2_w, wp_lconst, wp_iload, wp_iload_n, wp_lload, wp_lload_n, wp_aload, wp_aload_n, wp_istore, wp_istore_n, wp_lstore, wp_lstore_n, wp_astore, wp_astore_n, wp_iinc, wp_iadd, wp_isub, wp_imul, wp_iand, wp_ior, wp_ixor, wp_ishl, wp_ishr, wp_iushr, wp_idiv, wp_irem, wp_ineg, wp_ladd, wp_lsub, wp_lmul, wp_ldiv, wp_lrem, wp_lcmp, wp_i2l, wp_l2i, wp_pop, wp_dup, wp_dup2, wp_goto, wp_ifCond, wp_if_icmp, wp_ifnull, wp_ifnonnull, wp_tableswitch, wp_getfield, wp_putfield, wp_arraylength, wp_iaload, wp_baload, wp_laload, wp_aaload, wp_iastore, wp_bastore, wp_lastore, wp_aastore, wp_new, wp_newarray, wp_anewarray, wp_multianewarray, wp_invokevirtual, wp_invokespecial, wp_invokestatic, wp_ireturn, wp_lreturn, wp_areturn, wp_return_, wpL, ldI, ldJ, ldA, lk, sL, cL, i1, i2, l1, l2, r1, pA, p1, p2, ar, tyAt, rcv, rcr, oO, cmpI, Value.category, rf_some, rf_none, ak, kc, List.drop_succ_cons, List.drop_zero, List.drop_nil, List.take_succ_cons, List.take_zero, List.take_nil, List.head?_cons, List.reverse_cons, List.reverse_nil, List.nil_append, List.cons_append, List.length_cons, List.length_nil, Option.toList_some, Option.toList_none, hT_sI, hT_sJ, hT_sR, hI_sJ, hI_sR, hJ_sI, hJ_sR, hR_sI, hR_sJ, isO_sI, isO_sJ, isO_sR, iI_add, iI_sub, iI_mul, iI_neg, lv_args, Nat.reduceAdd, Nat.reduceEqDiff, Nat.reduceLeDiff, reduceIte, ite_true, ite_false, true_and, and_true, false_and, and_false, not_true, not_false_iff, or_true, true_or, false_or, or_false, imp_self, ne_eq, Classical.not_not, forall_const, true_implies, false_implies, if_pos, Nat.zero_add, Nat.add_zero, Nat.le_refl, Nat.reduceLT, iz00, iz01, iz10, iz11, ib0, ib1, ib01, reduceCtorEq]
  refine loop n n 1 v (Nat.le_refl _) hn ⟨by omega, by omega⟩ hv ?_
  rw [Int.one_mul]
theorem val_X12_power (g : GP) : Val g yX12_power prog_14_method_21_code 12 (some .long) 1 60 0 0 sp_X12_power := val_of (own := RX12) (ini := false) (on := 12) (rs := rs_X12_power) (cl := cl_X12_power) (rt := 3) (bl := bl_X12_power) (plainFor_of_name (by decide +kernel)) rfl (rok_X12 _) ck_X12_power (fun h => by cases h) rfl ((fun _ h => absurd h List.not_mem_nil)) pf_X12_power

/-- a row of the reference -/
def rowM (a b : Nat) (x y t : Int) : Nat → Int := fun k => if k = 21 then t else if k < 21 then (if k / 3 = a then cf k x y else 0) - (if k / 3 = b then cf k x y else 0) else 0
abbrev Rt : Type := Nat → Nat → Int
def TR (h : hp) (m : Nat) (A : Nat → Nat) (n : Nat) (R : Rt) : Prop := hI h 12 13 m = iI (n : Nat) ∧ ∀ r k, r < n → k < 22 → hJ h 300 (22 * r + k) (A 14) = lI (R r k)
def cl_X12_addRow : Nat → Nat × Nat × Spec := fun q => (0, 0, fun _ _ _ => False)

def adR (R : Rt) (n : Nat) (f : Nat → Int) : Rt := fun r => if r = n then f else R r
def sp_X12_addRow : Spec := fun as h K => ∃ (m : Nat) (A : Nat → Nat) (st : St) (n : Nat) (R : Rt) (a b : Nat) (x y t : Int), as = [.ref m, .int (iI (a : Nat)), .int (iI (b : Nat)), .int (iI x), .int (iI y), .long (lI t)] ∧ RM h m A st ∧ TR h m A n R ∧ n ≤ 25 ∧ a ≤ 6 ∧ b ≤ 6 ∧ (-9 ≤ x ∧ x ≤ 9) ∧ (-9 ≤ y ∧ y ≤ 9) ∧ ∀ h', TR h' m A (n + 1) (adR R n (rowM a b x y t)) → Fm h h' → K none h'
theorem pf_X12_addRow : PfM cl_X12_addRow (0, 0) 0 8 bl_X12_addRow sp_X12_addRow := by
  rintro as h Q ⟨m, A, st, n, R, a, b, x, y, t, rfl, M, ⟨T1, T2⟩, hn, ha, hb, hx, hy, hQ⟩
  refine ⟨Nat.le_of_ble_eq_true rfl, fun G hG => ?_⟩
  have o := mo M
  have t1 := mr_14 M
  have t2 := mt_14 M
  have x1 : (iI x).toInt64 = lI x := iI_64 (by omega)
  have x2 : (iI y).toInt64 = lI y := iI_64 (by omega)
  have x3 : (iI (-x)).toInt64 = lI (-x) := iI_64 (by omega)
  have x4 : (iI (-y)).toInt64 = lI (-y) := iI_64 (by omega)
  have vv : ∀ k : Nat, k < 22 → vp_in (iI (22 * (n : Int) + (k : Int))) 572 ∧ (iI (22 * (n : Int) + (k : Int))).toNatClampNeg = 22 * n + k := fun k hk => ⟨iI_in (by omega) (by omega), by rw [iI_cl (by omega)]; omega⟩
  have v21 := vv 21 (by omega)
  have w21 : vp_in (iI (22 * (n : Int) + 21)) 572 := v21.1
  have u21 : (iI (22 * (n : Int) + 21)).toNatClampNeg = 22 * n + 21 := v21.2
  have a0 := vv (3 * a) (by omega)
  have a1 := vv (3 * a + 1) (by omega)
  have a2 := vv (3 * a + 2) (by omega)
  have b0 := vv (3 * b) (by omega)
  have b1 := vv (3 * b + 1) (by omega)
  have b2 := vv (3 * b + 2) (by omega)
  have c0 : 22 * (n : Int) + ((3 * a : Nat) : Int) = 22 * (n : Int) + 3 * (a : Int) := by omega
  have c1 : 22 * (n : Int) + ((3 * a + 1 : Nat) : Int) = 22 * (n : Int) + 3 * (a : Int) + 1 := by omega
  have c2 : 22 * (n : Int) + ((3 * a + 2 : Nat) : Int) = 22 * (n : Int) + 3 * (a : Int) + 2 := by omega
  have d0 : 22 * (n : Int) + ((3 * b : Nat) : Int) = 22 * (n : Int) + 3 * (b : Int) := by omega
  have d1 : 22 * (n : Int) + ((3 * b + 1 : Nat) : Int) = 22 * (n : Int) + 3 * (b : Int) + 1 := by omega
  have d2 : 22 * (n : Int) + ((3 * b + 2 : Nat) : Int) = 22 * (n : Int) + 3 * (b : Int) + 2 := by omega
  rw [c0] at a0
  rw [c1] at a1
  rw [c2] at a2
  rw [d0] at b0
  rw [d1] at b1
  rw [d2] at b2
  have e1 : (iI (a : Nat) = iI (b : Nat)) = (a = b) := propext ((iI_eq (by omega) (by omega)).trans (by omega))
  have fin : ∀ h' : hp, Fm h h' → hI h' 12 13 m = iI (n : Nat) → (∀ r k, r < n → k < 22 → hJ h' 300 (22 * r + k) (A 14) = lI (R r k)) → (∀ k, k < 21 → hJ h' 300 (22 * n + k) (A 14) = lI (rowM a b x y t k)) → G 157 [(0, .ref m), (1, .int (iI (a : Nat))), (2, .int (iI (b : Nat))), (3, .int (iI x)), (4, .int (iI y)), (5, .long (lI t)), (7, .int (iI 22))] [] h' (0, 0) := by
    intro h' F f1 f2 f3
    have M' := RM_fm F M
    have o' := mo M'
    have t1' := mr_14 M'
    have t2' := mt_14 M'
    refine hG.1 157 _ _ _ _ ?_
    rw [bq_X12_addRow_157]
    simp only [bk_X12_addRow_157, wp_aconst_null, wp_iconst, wp_bipush, wp_sipush, wp_ldc, wp_ldc_w, wp_ldc2_w, wp_lconst, wp_iload, wp_iload_n, wp_lload, wp_lload_n, wp_aload, wp_aload_n, wp_istore, wp_istore_n, wp_lstore, wp_lstore_n, wp_astore, wp_astore_n, wp_iinc, wp_iadd, wp_isub, wp_imul, wp_iand, wp_ior, wp_ixor, wp_ishl, wp_ishr, wp_iushr, wp_idiv, wp_irem, wp_ineg, wp_ladd, wp_lsub, wp_lmul, wp_ldiv, wp_lrem, wp_lcmp, wp_i2l, wp_l2i, wp_pop, wp_dup, wp_dup2, wp_goto, wp_ifCond, wp_if_icmp, wp_ifnull, wp_ifnonnull, wp_tableswitch, wp_getfield, wp_putfield, wp_arraylength, wp_iaload, wp_baload, wp_laload, wp_aaload, wp_iastore, wp_bastore, wp_lastore, wp_aastore, wp_new, wp_newarray, wp_anewarray, wp_multianewarray, wp_invokevirtual, wp_invokespecial, wp_invokestatic, wp_ireturn, wp_lreturn, wp_areturn, wp_return_, wpL, ldI, ldJ, ldA, lk, sL, cL, i1, i2, l1, l2, r1, pA, p1, p2, ar, tyAt, rcv, rcr, oO, cmpI, Value.category, rf_some, rf_none, ak, kc, List.drop_succ_cons, List.drop_zero, List.drop_nil, List.take_succ_cons, List.take_zero, List.take_nil, List.head?_cons, List.reverse_cons, List.reverse_nil, List.nil_append, List.cons_append, List.length_cons, List.length_nil, Option.toList_some, Option.toList_none, hT_sI, hT_sJ, hT_sR, hI_sJ, hI_sR, hJ_sI, hJ_sR, hR_sI, hR_sJ, isO_sI, isO_sJ, isO_sR, iI_add, iI_sub, iI_mul, iI_neg, lv_args, Nat.reduceAdd, Nat.reduceEqDiff, Nat.reduceLeDiff, reduceIte, ite_true, ite_false, true_and, and_true, false_and, and_false, not_true, not_false_iff, or_true, true_or, false_or, or_false, imp_self, ne_eq, Classical.not_not, forall_const, true_implies, false_implies, if_pos, Nat.zero_add, Nat.add_zero, Nat.le_refl, Nat.reduceLT, iz00, iz01, iz10, iz11, ib0, ib1, ib01, reduceCtorEq, o', t1', t2', f1, w21, u21]
    refine hQ _ ⟨?_, fun r k hr hk => ?_⟩ ((F.j (Or.inl rfl)).i rfl)
    · rw [hI_sI, if_pos ⟨rfl, rfl, rfl⟩]; congr 1
    · rw [hJ_sI, hJ_sJ]
      unfold adR
      by_cases c : r = n
      · subst c
        rw [if_pos rfl]
        by_cases d : k = 21
        · rw [if_pos ⟨rfl, by omega, rfl⟩, d]
          unfold rowM
          rw [if_pos rfl]
        · rw [if_neg (by omega)]
          exact f3 k (by omega)
      · rw [if_neg c, if_neg (by omega)]
        exact f2 r k (by omega) hk
  have loop : ∀ (N k : Nat) (h' : hp), k + N = 22 → Fm h h' → hI h' 12 13 m = iI (n : Nat) → (∀ r k, r < n → k < 22 → hJ h' 300 (22 * r + k) (A 14) = lI (R r k)) → (∀ j, j < k → hJ h' 300 (22 * n + j) (A 14) = lI 0) → G 3 [(0, .ref m), (1, .int (iI (a : Nat))), (2, .int (iI (b : Nat))), (3, .int (iI x)), (4, .int (iI y)), (5, .long (lI t)), (7, .int (iI (k : Nat)))] [] h' (0, 0) := by
    intro N
    induction N with
    | zero =>
      intro k h' hk F f1 f2 f3
      have ek : k = 22 := by omega
      subst ek
      have e2 : (iI 22 ≤ iI ((22 : Nat) : Int)) = True := eq_true (Int32.le_refl _)
      have M' := RM_fm F M
      have o' := mo M'
      have t1' := mr_14 M'
      have t2' := mt_14 M'
      refine hG.1 3 _ _ _ _ ?_
      rw [bq_X12_addRow_3]
      simp only [bk_X12_addRow_3, wp_aconst_null, wp_iconst, wp_bipush, wp_sipush, wp_ldc, wp_ldc_w, wp_ldc2_w, wp_lconst, wp_iload, wp_iload_n, wp_lload, wp_lload_n, wp_aload, wp_aload_n, wp_istore, wp_istore_n, wp_lstore, wp_lstore_n, wp_astore, wp_astore_n, wp_iinc, wp_iadd, wp_isub, wp_imul, wp_iand, wp_ior, wp_ixor, wp_ishl, wp_ishr, wp_iushr, wp_idiv, wp_irem, wp_ineg, wp_ladd, wp_lsub, wp_lmul, wp_ldiv, wp_lrem, wp_lcmp, wp_i2l, wp_l2i, wp_pop, wp_dup, wp_dup2, wp_goto, wp_ifCond, wp_if_icmp, wp_ifnull, wp_ifnonnull, wp_tableswitch, wp_getfield, wp_putfield, wp_arraylength, wp_iaload, wp_baload, wp_laload, wp_aaload, wp_iastore, wp_bastore, wp_lastore, wp_aastore, wp_new, wp_newarray, wp_anewarray, wp_multianewarray, wp_invokevirtual, wp_invokespecial, wp_invokestatic, wp_ireturn, wp_lreturn, wp_areturn, wp_return_, wpL, ldI, ldJ, ldA, lk, sL, cL, i1, i2, l1, l2, r1, pA, p1, p2, ar, tyAt, rcv, rcr, oO, cmpI, Value.category, rf_some, rf_none, ak, kc, List.drop_succ_cons, List.drop_zero, List.drop_nil, List.take_succ_cons, List.take_zero, List.take_nil, List.head?_cons, List.reverse_cons, List.reverse_nil, List.nil_append, List.cons_append, List.length_cons, List.length_nil, Option.toList_some, Option.toList_none, hT_sI, hT_sJ, hT_sR, hI_sJ, hI_sR, hJ_sI, hJ_sR, hR_sI, hR_sJ, isO_sI, isO_sJ, isO_sR, iI_add, iI_sub, iI_mul, iI_neg, lv_args, Nat.reduceAdd, Nat.reduceEqDiff, Nat.reduceLeDiff, reduceIte, ite_true, ite_false, true_and, and_true, false_and, and_false, not_true, not_false_iff, or_true, true_or, false_or, or_false, imp_self, ne_eq, Classical.not_not, forall_const, true_implies, false_implies, if_pos, Nat.zero_add, Nat.add_zero, Nat.le_refl, Nat.reduceLT, iz00, iz01, iz10, iz11, ib0, ib1, ib01, reduceCtorEq, e2]
      refine hG.1 32 _ _ _ _ ?_
      rw [bq_X12_addRow_32]
      simp (maxSteps := 4000000) only [bk_X12_addRow_32, wp_aconst_null, wp_iconst, wp_bipush, wp_sipush, wp_ldc, wp_ldc_w, wp_ldc2_w, wp_lconst, wp_iload, wp_iload_n, wp_lload, wp_lload_n, wp_aload, wp_aload_n, wp_istore, wp_istore_n, wp_lstore, wp_lstore_n, wp_astore, wp_astore_n, wp_iinc, wp_iadd, wp_isub, wp_imul, wp_iand, wp_ior, wp_ixor, wp_ishl, wp_ishr, wp_iushr, wp_idiv, wp_irem, wp_ineg, wp_ladd, wp_lsub, wp_lmul, wp_ldiv, wp_lrem, wp_lcmp, wp_i2l, wp_l2i, wp_pop, wp_dup, wp_dup2, wp_goto, wp_ifCond, wp_if_icmp, wp_ifnull, wp_ifnonnull, wp_tableswitch, wp_getfield, wp_putfield, wp_arraylength, wp_iaload, wp_baload, wp_laload, wp_aaload, wp_iastore, wp_bastore, wp_lastore, wp_aastore, wp_new, wp_newarray, wp_anewarray, wp_multianewarray, wp_invokevirtual, wp_invokespecial, wp_invokestatic, wp_ireturn, wp_lreturn, wp_areturn, wp_return_, wpL, ldI, ldJ, ldA, lk, sL, cL, i1, i2, l1, l2, r1, pA, p1, p2, ar, tyAt, rcv, rcr, oO, cmpI, Value.category, rf_some, rf_none, ak, kc, List.drop_succ_cons, List.drop_zero, List.drop_nil, List.take_succ_cons, List.take_zero, List.take_nil, List.head?_cons, List.reverse_cons, List.reverse_nil, List.nil_append, List.cons_append, List.length_cons, List.length_nil, Option.toList_some, Option.toList_none, hT_sI, hT_sJ, hT_sR, hI_sJ, hI_sR, hJ_sI, hJ_sR, hR_sI, hR_sJ, isO_sI, isO_sJ, isO_sR, iI_add, iI_sub, iI_mul, iI_neg, lv_args, Nat.reduceAdd, Nat.reduceEqDiff, Nat.reduceLeDiff, reduceIte, ite_true, ite_false, true_and, and_true, false_and, and_false, not_true, not_false_iff, or_true, true_or, false_or, or_false, imp_self, ne_eq, Classical.not_not, forall_const, true_implies, false_implies, if_pos, Nat.zero_add, Nat.add_zero, Nat.le_refl, Nat.reduceLT, iz00, iz01, iz10, iz11, ib0, ib1, ib01, reduceCtorEq, e1, o', t1', t2', f1, a0.1, a0.2, a1.1, a1.2, a2.1, a2.2, b0.1, b0.2, b1.1, b1.2, b2.1, b2.2, x1, x2, x3, x4]
      refine ⟨fun c => ?_, fun c => ?_⟩
      · refine fin h' F f1 f2 (fun k hk => ?_)
        rw [f3 k (by omega)]
        unfold rowM
        rw [if_neg (by omega), if_pos hk, c]
        congr 1
        omega
      · refine fin _ ((((((F.j (Or.inl rfl)).j (Or.inl rfl)).j (Or.inl rfl)).j (Or.inl rfl)).j (Or.inl rfl)).j (Or.inl rfl)) ?_ (fun r k hr hk => ?_) (fun k hk => ?_)
        · simp only [hI_sJ]; exact f1
        · rw [hJ_sJ, if_neg (by omega), hJ_sJ, if_neg (by omega), hJ_sJ, if_neg (by omega), hJ_sJ, if_neg (by omega), hJ_sJ, if_neg (by omega), hJ_sJ, if_neg (by omega)]
          exact f2 r k hr hk
        · unfold rowM cf
          rw [if_neg (show ¬ k = 21 by omega), if_pos hk]
          rcases (show k % 3 = 0 ∨ k % 3 = 1 ∨ k % 3 = 2 by omega) with e | e | e
          · by_cases ca : k / 3 = a
            · rw [hJ_sJ, if_neg (by omega), hJ_sJ, if_neg (by omega), hJ_sJ, if_neg (by omega), hJ_sJ, if_neg (by omega), hJ_sJ, if_neg (by omega), hJ_sJ, if_pos (by omega), if_pos ca, if_neg (show ¬ k / 3 = b by omega), if_pos e]; rfl
            · by_cases cb : k / 3 = b
              · rw [hJ_sJ, if_neg (by omega), hJ_sJ, if_neg (by omega), hJ_sJ, if_pos (by omega), if_neg ca, if_pos cb, if_pos e]; rfl
              · rw [hJ_sJ, if_neg (by omega), hJ_sJ, if_neg (by omega), hJ_sJ, if_neg (by omega), hJ_sJ, if_neg (by omega), hJ_sJ, if_neg (by omega), hJ_sJ, if_neg (by omega), if_neg ca, if_neg cb, f3 k (by omega)]; rfl
          · by_cases ca : k / 3 = a
            · rw [hJ_sJ, if_neg (by omega), hJ_sJ, if_neg (by omega), hJ_sJ, if_neg (by omega), hJ_sJ, if_neg (by omega), hJ_sJ, if_pos (by omega), if_pos ca, if_neg (show ¬ k / 3 = b by omega), if_neg (show ¬ k % 3 = 0 by omega), if_pos e]; congr 1; omega
            · by_cases cb : k / 3 = b
              · rw [hJ_sJ, if_neg (by omega), hJ_sJ, if_pos (by omega), if_neg ca, if_pos cb, if_neg (show ¬ k % 3 = 0 by omega), if_pos e]; congr 1; omega
              · rw [hJ_sJ, if_neg (by omega), hJ_sJ, if_neg (by omega), hJ_sJ, if_neg (by omega), hJ_sJ, if_neg (by omega), hJ_sJ, if_neg (by omega), hJ_sJ, if_neg (by omega), if_neg ca, if_neg cb, f3 k (by omega)]; rfl
          · by_cases ca : k / 3 = a
            · rw [hJ_sJ, if_neg (by omega), hJ_sJ, if_neg (by omega), hJ_sJ, if_neg (by omega), hJ_sJ, if_pos (by omega), if_pos ca, if_neg (show ¬ k / 3 = b by omega), if_neg (show ¬ k % 3 = 0 by omega), if_neg (show ¬ k % 3 = 1 by omega)]; congr 1; omega
            · by_cases cb : k / 3 = b
              · rw [hJ_sJ, if_pos (by omega), if_neg ca, if_pos cb, if_neg (show ¬ k % 3 = 0 by omega), if_neg (show ¬ k % 3 = 1 by omega)]; congr 1; omega
              · rw [hJ_sJ, if_neg (by omega), hJ_sJ, if_neg (by omega), hJ_sJ, if_neg (by omega), hJ_sJ, if_neg (by omega), hJ_sJ, if_neg (by omega), hJ_sJ, if_neg (by omega), if_neg ca, if_neg cb, f3 k (by omega)]; rfl
    | succ N ih =>
      intro k h' hk F f1 f2 f3
      have e2 : (iI 22 ≤ iI (k : Nat)) = False := eq_false (by rw [iI_le (by omega) (by omega)]; omega)
      have M' := RM_fm F M
      have o' := mo M'
      have t1' := mr_14 M'
      have t2' := mt_14 M'
      obtain ⟨q1, q2⟩ := vv k (by omega)
      refine hG.1 3 _ _ _ _ ?_
      rw [bq_X12_addRow_3]
      simp only [bk_X12_addRow_3, wp_aconst_null, wp_iconst, wp_bipush, wp_sipush, wp_ldc, wp_ldc_w, wp_ldc2_w, wp_lconst, wp_iload, wp_iload_n, wp_lload, wp_lload_n, wp_aload, wp_aload_n, wp_istore, wp_istore_n, wp_lstore, wp_lstore_n, wp_astore, wp_astore_n, wp_iinc, wp_iadd, wp_isub, wp_imul, wp_iand, wp_ior, wp_ixor, wp_ishl, wp_ishr, wp_iushr, wp_idiv, wp_irem, wp_ineg, wp_ladd, wp_lsub, wp_lmul, wp_ldiv, wp_lrem, wp_lcmp, wp_i2l, wp_l2i, wp_pop, wp_dup, wp_dup2, wp_goto, wp_ifCond, wp_if_icmp, wp_ifnull, wp_ifnonnull, wp_tableswitch, wp_getfield, wp_putfield, wp_arraylength, wp_iaload, wp_baload, wp_laload, wp_aaload, wp_iastore, wp_bastore, wp_lastore, wp_aastore, wp_new, wp_newarray, wp_anewarray, wp_multianewarray, wp_invokevirtual, wp_invokespecial, wp_invokestatic, wp_ireturn, wp_lreturn, wp_areturn, wp_return_, wpL, ldI, ldJ, ldA, lk, sL, cL, i1, i2, l1, l2, r1, pA, p1, p2, ar, tyAt, rcv, rcr, oO, cmpI, Value.category, rf_some, rf_none, ak, kc, List.drop_succ_cons, List.drop_zero, List.drop_nil, List.take_succ_cons, List.take_zero, List.take_nil, List.head?_cons, List.reverse_cons, List.reverse_nil, List.nil_append, List.cons_append, List.length_cons, List.length_nil, Option.toList_some, Option.toList_none, hT_sI, hT_sJ, hT_sR, hI_sJ, hI_sR, hJ_sI, hJ_sR, hR_sI, hR_sJ, isO_sI, isO_sJ, isO_sR, iI_add, iI_sub, iI_mul, iI_neg, lv_args, Nat.reduceAdd, Nat.reduceEqDiff, Nat.reduceLeDiff, reduceIte, ite_true, ite_false, true_and, and_true, false_and, and_false, not_true, not_false_iff, or_true, true_or, false_or, or_false, imp_self, ne_eq, Classical.not_not, forall_const, true_implies, false_implies, if_pos, Nat.zero_add, Nat.add_zero, Nat.le_refl, Nat.reduceLT, iz00, iz01, iz10, iz11, ib0, ib1, ib01, reduceCtorEq, e2, o', t1', t2', f1, q1, q2]
      have q := ih (k + 1) (sJ h' 300 (22 * n + k) (A 14) (lI 0)) (by omega) (F.j (Or.inl rfl)) f1 (fun r k' hr hk' => ?_) (fun j hj => ?_)
      · rw [nc1] at q
        exact q
      · rw [hJ_sJ, if_neg (by omega)]; exact f2 r k' hr hk'
      · rw [hJ_sJ]
        by_cases c : j = k
        · rw [if_pos ⟨rfl, by omega, rfl⟩]
        · rw [if_neg (by omega)]; exact f3 j (by omega)
  refine hG.1 0 _ _ _ _ ?_
  rw [bq_X12_addRow_0]
  simp only [bk_X12_addRow_0, wp_aconst_null, wp_iconst, wp_bipush, wp_sipush, wp_ldc, wp_ldc_w, wp_ldc2_w, wp_lconst, wp_iload, wp_iload_n, wp_lload, wp_lload_n, wp_aload, wp_aload_n, wp_istore, wp_istore_n, wp_lstore, wp_lstore_n, wp_astore, wp_astore_n, wp_iinc, wp_iadd, wp_isub, wp_imul, wp_iand, wp_ior, wp_ixor, wp_ishl, wp_ishr, wp_iushr, wp_idiv, wp_irem, wp_ineg, wp_ladd, wp_lsub, wp_lmul, wp_ldiv, wp_lrem, wp_lcmp, wp_i2l, wp_l2i, wp_pop, wp_dup, wp_dup2, wp_goto, wp_ifCond, wp_if_icmp, wp_ifnull, wp_ifnonnull, wp_tableswitch, wp_getfield, wp_putfield, wp_arraylength, wp_iaload, wp_baload, wp_laload, wp_aaload, wp_iastore, wp_bastore, wp_lastore, wp_aastore, wp_new, wp_newarray, wp_anewarray, wp_multianewarray, wp_invokevirtual, wp_invokespecial, wp_invokestatic, wp_ireturn, wp_lreturn, wp_areturn, wp_return_, wpL, ldI, ldJ, ldA, lk, sL, cL, i1, i2, l1, l2, r1, pA, p1, p2, ar, tyAt, rcv, rcr, oO, cmpI, Value.category, rf_some, rf_none, ak, kc, List.drop_succ_cons, List.drop_zero, List.drop_nil, List.take_succ_cons, List.take_zero, List.take_nil, List.head?_cons, List.reverse_cons, List.reverse_nil, List.nil_append, List.cons_append, List.length_cons, List.length_nil, Option.toList_some, Option.toList_none, hT_sI, hT_sJ, hT_sR, hI_sJ, hI_sR, hJ_sI, hJ_sR, hR_sI, hR_sJ, isO_sI, isO_sJ, isO_sR, iI_add, iI_sub, iI_mul, iI_neg, lv_args, Nat.reduceAdd, Nat.reduceEqDiff, Nat.reduceLeDiff, reduceIte, ite_true, ite_false, true_and, and_true, false_and, and_false, not_true, not_false_iff, or_true, true_or, false_or, or_false, imp_self, ne_eq, Classical.not_not, forall_const, true_implies, false_implies, if_pos, Nat.zero_add, Nat.add_zero, Nat.le_refl, Nat.reduceLT, iz00, iz01, iz10, iz11, ib0, ib1, ib01, reduceCtorEq]
  exact loop 22 0 h (by omega) Fm.rf T1 T2 (fun j hj => by omega)
theorem val_X12_addRow (g : GP) : Val g yX12_addRow prog_14_method_20_code 8 none 1 60 0 0 sp_X12_addRow := val_of (own := RX12) (ini := false) (on := 12) (rs := rs_X12_addRow) (cl := cl_X12_addRow) (rt := 0) (bl := bl_X12_addRow) (plainFor_of_name (by decide +kernel)) rfl (rok_X12 _) ck_X12_addRow (fun h => by cases h) rfl ((fun _ h => absurd h List.not_mem_nil)) pf_X12_addRow

/-- the table, n rows -/
def TT (h : hp) (A : Nat → Nat) (n : Nat) (T : Rt) : Prop := ∀ r k, r < n → k < 22 → hJ h 301 (22 * r + k) (A 15) = lI (T r k)
def exT (T : Rt) (a b : Nat) : Rt := fun r k => if r = a then T b k else if r = b then T a k else T r k
/-- only the table -/
def F1 (h h' : hp) : Prop := (∀ a, hT h' a = hT h a) ∧ (∀ c k a, hR h' c k a = hR h c k a) ∧ (∀ c k a, hI h' c k a = hI h c k a) ∧ ∀ c k a, c ≠ 301 → hJ h' c k a = hJ h c k a
theorem F1.rf {h : hp} : F1 h h := ⟨fun _ => rfl, fun _ _ _ => rfl, fun _ _ _ => rfl, fun _ _ _ _ => rfl⟩
theorem F1.tr {h h1 h2 : hp} (a : F1 h h1) (b : F1 h1 h2) : F1 h h2 := ⟨fun x => (b.1 x).trans (a.1 x), fun c k x => (b.2.1 c k x).trans (a.2.1 c k x), fun c k x => (b.2.2.1 c k x).trans (a.2.2.1 c k x), fun c k x z => (b.2.2.2 c k x z).trans (a.2.2.2 c k x z)⟩
theorem F1.j {h h' : hp} (a : F1 h h') {k x : Nat} {v : Int64} : F1 h (sJ h' 301 k x v) := a.tr ⟨fun _ => rfl, fun _ _ _ => rfl, fun _ _ _ => rfl, fun c' k' x' hz => by rw [hJ_sJ, if_neg (fun z => hz z.1)]⟩
theorem F1.m {h h' : hp} (f : F1 h h') : Fm h h' := ⟨f.1, f.2.1, fun c k a _ => f.2.2.1 c k a, fun c k a _ z => f.2.2.2 c k a z⟩
theorem vt {r k : Nat} (hr : r < 26) (hk : k < 22) : vp_in (iI (22 * (r : Int) + (k : Int))) 572 ∧ (iI (22 * (r : Int) + (k : Int))).toNatClampNeg = 22 * r + k := ⟨iI_in (by omega) (by omega), by rw [iI_cl (by omega)]; omega⟩
def cl_X12_exchange : Nat → Nat × Nat × Spec := fun q => (0, 0, fun _ _ _ => False)

def sp_X12_exchange : Spec := fun as h K => ∃ (m : Nat) (A : Nat → Nat) (st : St) (n : Nat) (T : Rt) (a b : Nat), as = [.ref m, .int (iI (a : Nat)), .int (iI (b : Nat))] ∧ RM h m A st ∧ TT h A n T ∧ n ≤ 26 ∧ a < n ∧ b < n ∧ ∀ h', TT h' A n (exT T a b) → F1 h h' → K none h'
theorem pf_X12_exchange : PfM cl_X12_exchange (0, 0) 0 6 bl_X12_exchange sp_X12_exchange := by
  rintro as h Q ⟨m, A, st, n, T, a, b, rfl, M, hT', hn, ha, hb, hQ⟩
  refine ⟨Nat.le_of_ble_eq_true rfl, fun G hG => ?_⟩
  have loop : ∀ (N k : Nat) (h' : hp) (X : Lc), k + N = 22 → F1 h h' → (∀ r j, r < n → j < 22 → hJ h' 301 (22 * r + j) (A 15) = lI (if j < k then exT T a b r j else T r j)) → G 2 ([(0, .ref m), (1, .int (iI (a : Nat))), (2, .int (iI (b : Nat))), (3, .int (iI (k : Nat)))] ++ X) [] h' (0, 0) := by
    intro N
    induction N with
    | zero =>
      intro k h' X hk F f
      refine hG.2 2 _ [(0, .ref m), (1, .int (iI (a : Nat))), (2, .int (iI (b : Nat))), (3, .int (iI (k : Nat)))] _ _ _ (fun q hq => List.mem_append_left X hq) ?_
      have e2 : (iI 22 ≤ iI (k : Nat)) = True := eq_true ((iI_le (by omega) (by omega)).mpr (by omega))
      refine hG.1 2 _ _ _ _ ?_
      rw [bq_X12_exchange_2]
      simp only [bk_X12_exchange_2, wp_aconst_null, wp_iconst, wp_bipush, wp_sipush, wp_ldc, wp_ldc_w, wp_ldc2_w, wp_lconst, wp_iload, wp_iload_n, wp_lload, wp_lload_n, wp_aload, wp_aload_n, wp_istore, wp_istore_n, wp_lstore, wp_lstore_n, wp_astore, wp_astore_n, wp_iinc, wp_iadd, wp_isub, wp_imul, wp_iand, wp_ior, wp_ixor, wp_ishl, wp_ishr, wp_iushr, wp_idiv, wp_irem, wp_ineg, wp_ladd, wp_lsub, wp_lmul, wp_ldiv, wp_lrem, wp_lcmp, wp_i2l, wp_l2i, wp_pop, wp_dup, wp_dup2, wp_goto, wp_ifCond, wp_if_icmp, wp_ifnull, wp_ifnonnull, wp_tableswitch, wp_getfield, wp_putfield, wp_arraylength, wp_iaload, wp_baload, wp_laload, wp_aaload, wp_iastore, wp_bastore, wp_lastore, wp_aastore, wp_new, wp_newarray, wp_anewarray, wp_multianewarray, wp_invokevirtual, wp_invokespecial, wp_invokestatic, wp_ireturn, wp_lreturn, wp_areturn, wp_return_, wpL, ldI, ldJ, ldA, lk, sL, cL, i1, i2, l1, l2, r1, pA, p1, p2, ar, tyAt, rcv, rcr, oO, cmpI, Value.category, rf_some, rf_none, ak, kc, List.drop_succ_cons, List.drop_zero, List.drop_nil, List.take_succ_cons, List.take_zero, List.take_nil, List.head?_cons, List.reverse_cons, List.reverse_nil, List.nil_append, List.cons_append, List.length_cons, List.length_nil, Option.toList_some, Option.toList_none, hT_sI, hT_sJ, hT_sR, hI_sJ, hI_sR, hJ_sI, hJ_sR, hR_sI, hR_sJ, isO_sI, isO_sJ, isO_sR, iI_add, iI_sub, iI_mul, iI_neg, lv_args, Nat.reduceAdd, Nat.reduceEqDiff, Nat.reduceLeDiff, reduceIte, ite_true, ite_false, true_and, and_true, false_and, and_false, not_true, not_false_iff, or_true, true_or, false_or, or_false, imp_self, ne_eq, Classical.not_not, forall_const, true_implies, false_implies, if_pos, Nat.zero_add, Nat.add_zero, Nat.le_refl, Nat.reduceLT, iz00, iz01, iz10, iz11, ib0, ib1, ib01, reduceCtorEq, e2]
      refine hG.1 62 _ _ _ _ ?_
      rw [bq_X12_exchange_62]
      simp only [bk_X12_exchange_62, wp_aconst_null, wp_iconst, wp_bipush, wp_sipush, wp_ldc, wp_ldc_w, wp_ldc2_w, wp_lconst, wp_iload, wp_iload_n, wp_lload, wp_lload_n, wp_aload, wp_aload_n, wp_istore, wp_istore_n, wp_lstore, wp_lstore_n, wp_astore, wp_astore_n, wp_iinc, wp_iadd, wp_isub, wp_imul, wp_iand, wp_ior, wp_ixor, wp_ishl, wp_ishr, wp_iushr, wp_idiv, wp_irem, wp_ineg, wp_ladd, wp_lsub, wp_lmul, wp_ldiv, wp_lrem, wp_lcmp, wp_i2l, wp_l2i, wp_pop, wp_dup, wp_dup2, wp_goto, wp_ifCond, wp_if_icmp, wp_ifnull, wp_ifnonnull, wp_tableswitch, wp_getfield, wp_putfield, wp_arraylength, wp_iaload, wp_baload, wp_laload, wp_aaload, wp_iastore, wp_bastore, wp_lastore, wp_aastore, wp_new, wp_newarray, wp_anewarray, wp_multianewarray, wp_invokevirtual, wp_invokespecial, wp_invokestatic, wp_ireturn, wp_lreturn, wp_areturn, wp_return_, wpL, ldI, ldJ, ldA, lk, sL, cL, i1, i2, l1, l2, r1, pA, p1, p2, ar, tyAt, rcv, rcr, oO, cmpI, Value.category, rf_some, rf_none, ak, kc, List.drop_succ_cons, List.drop_zero, List.drop_nil, List.take_succ_cons, List.take_zero, List.take_nil, List.head?_cons, List.reverse_cons, List.reverse_nil, List.nil_append, List.cons_append, List.length_cons, List.length_nil, Option.toList_some, Option.toList_none, hT_sI, hT_sJ, hT_sR, hI_sJ, hI_sR, hJ_sI, hJ_sR, hR_sI, hR_sJ, isO_sI, isO_sJ, isO_sR, iI_add, iI_sub, iI_mul, iI_neg, lv_args, Nat.reduceAdd, Nat.reduceEqDiff, Nat.reduceLeDiff, reduceIte, ite_true, ite_false, true_and, and_true, false_and, and_false, not_true, not_false_iff, or_true, true_or, false_or, or_false, imp_self, ne_eq, Classical.not_not, forall_const, true_implies, false_implies, if_pos, Nat.zero_add, Nat.add_zero, Nat.le_refl, Nat.reduceLT, iz00, iz01, iz10, iz11, ib0, ib1, ib01, reduceCtorEq]
      exact hQ h' (fun r j hr hj => by rw [f r j hr hj, if_pos (by omega)]) F
    | succ N ih =>
      intro k h' X hk F f
      refine hG.2 2 _ [(0, .ref m), (1, .int (iI (a : Nat))), (2, .int (iI (b : Nat))), (3, .int (iI (k : Nat)))] _ _ _ (fun q hq => List.mem_append_left X hq) ?_
      have e2 : (iI 22 ≤ iI (k : Nat)) = False := eq_false (by rw [iI_le (by omega) (by omega)]; omega)
      have M' := RM_fm F.m M
      have o := mo M'
      have t1 := mr_15 M'
      have t2 := mt_15 M'
      obtain ⟨q1, q2⟩ := vt (r := a) (k := k) (by omega) (by omega)
      obtain ⟨q3, q4⟩ := vt (r := b) (k := k) (by omega) (by omega)
      have v1 := f a k ha (by omega)
      have v2 := f b k hb (by omega)
      rw [if_neg (by omega)] at v1 v2
      refine hG.1 2 _ _ _ _ ?_
      rw [bq_X12_exchange_2]
      simp only [bk_X12_exchange_2, wp_aconst_null, wp_iconst, wp_bipush, wp_sipush, wp_ldc, wp_ldc_w, wp_ldc2_w, wp_lconst, wp_iload, wp_iload_n, wp_lload, wp_lload_n, wp_aload, wp_aload_n, wp_istore, wp_istore_n, wp_lstore, wp_lstore_n, wp_astore, wp_astore_n, wp_iinc, wp_iadd, wp_isub, wp_imul, wp_iand, wp_ior, wp_ixor, wp_ishl, wp_ishr, wp_iushr, wp_idiv, wp_irem, wp_ineg, wp_ladd, wp_lsub, wp_lmul, wp_ldiv, wp_lrem, wp_lcmp, wp_i2l, wp_l2i, wp_pop, wp_dup, wp_dup2, wp_goto, wp_ifCond, wp_if_icmp, wp_ifnull, wp_ifnonnull, wp_tableswitch, wp_getfield, wp_putfield, wp_arraylength, wp_iaload, wp_baload, wp_laload, wp_aaload, wp_iastore, wp_bastore, wp_lastore, wp_aastore, wp_new, wp_newarray, wp_anewarray, wp_multianewarray, wp_invokevirtual, wp_invokespecial, wp_invokestatic, wp_ireturn, wp_lreturn, wp_areturn, wp_return_, wpL, ldI, ldJ, ldA, lk, sL, cL, i1, i2, l1, l2, r1, pA, p1, p2, ar, tyAt, rcv, rcr, oO, cmpI, Value.category, rf_some, rf_none, ak, kc, List.drop_succ_cons, List.drop_zero, List.drop_nil, List.take_succ_cons, List.take_zero, List.take_nil, List.head?_cons, List.reverse_cons, List.reverse_nil, List.nil_append, List.cons_append, List.length_cons, List.length_nil, Option.toList_some, Option.toList_none, hT_sI, hT_sJ, hT_sR, hI_sJ, hI_sR, hJ_sI, hJ_sR, hR_sI, hR_sJ, isO_sI, isO_sJ, isO_sR, iI_add, iI_sub, iI_mul, iI_neg, lv_args, Nat.reduceAdd, Nat.reduceEqDiff, Nat.reduceLeDiff, reduceIte, ite_true, ite_false, true_and, and_true, false_and, and_false, not_true, not_false_iff, or_true, true_or, false_or, or_false, imp_self, ne_eq, Classical.not_not, forall_const, true_implies, false_implies, if_pos, Nat.zero_add, Nat.add_zero, Nat.le_refl, Nat.reduceLT, iz00, iz01, iz10, iz11, ib0, ib1, ib01, reduceCtorEq, e2, o, t1, t2, q1, q2, q3, q4, v1, v2]
      have q := ih (k + 1) (sJ (sJ h' 301 (22 * a + k) (A 15) (lI (T b k))) 301 (22 * b + k) (A 15) (lI (T a k))) [(4, .long (lI (T a k)))] (by omega) F.j.j (fun r j hr hj => ?_)
      · rw [nc1] at q
        exact q
      · rw [hJ_sJ]
        by_cases c : j = k
        · subst c
          rw [if_pos (show j < j + 1 by omega)]
          unfold exT
          by_cases d : r = b
          · rw [if_pos ⟨rfl, by omega, rfl⟩]
            by_cases e : r = a
            · rw [if_pos e, show a = b by omega]
            · rw [if_neg e, if_pos d]
          · rw [if_neg (by omega), hJ_sJ]
            by_cases e : r = a
            · rw [if_pos ⟨rfl, by omega, rfl⟩, if_pos e]
            · rw [if_neg (by omega), if_neg e, if_neg d, f r j hr hj, if_neg (by omega)]
        · rw [if_neg (by omega), hJ_sJ, if_neg (by omega), f r j hr hj]
          by_cases e : j < k
          · rw [if_pos e, if_pos (by omega)]
          · rw [if_neg e, if_neg (by omega)]
  refine hG.1 0 _ _ _ _ ?_
  rw [bq_X12_exchange_0]
  simp only [bk_X12_exchange_0, wp_aconst_null, wp_iconst, wp_bipush, wp_sipush, wp_ldc, wp_ldc_w, wp_ldc2_w, wp_lconst, wp_iload, wp_iload_n, wp_lload, wp_lload_n, wp_aload, wp_aload_n, wp_istore, wp_istore_n, wp_lstore, wp_lstore_n, wp_astore, wp_astore_n, wp_iinc, wp_iadd, wp_isub, wp_imul, wp_iand, wp_ior, wp_ixor, wp_ishl, wp_ishr, wp_iushr, wp_idiv, wp_irem, wp_ineg, wp_ladd, wp_lsub, wp_lmul, wp_ldiv, wp_lrem, wp_lcmp, wp_i2l, wp_l2i, wp_pop, wp_dup, wp_dup2, wp_goto, wp_ifCond, wp_if_icmp, wp_ifnull, wp_ifnonnull, wp_tableswitch, wp_getfield, wp_putfield, wp_arraylength, wp_iaload, wp_baload, wp_laload, wp_aaload, wp_iastore, wp_bastore, wp_lastore, wp_aastore, wp_new, wp_newarray, wp_anewarray, wp_multianewarray, wp_invokevirtual, wp_invokespecial, wp_invokestatic, wp_ireturn, wp_lreturn, wp_areturn, wp_return_, wpL, ldI, ldJ, ldA, lk, sL, cL, i1, i2, l1, l2, r1, pA, p1, p2, ar, tyAt, rcv, rcr, oO, cmpI, Value.category, rf_some, rf_none, ak, kc, List.drop_succ_cons, List.drop_zero, List.drop_nil, List.take_succ_cons, List.take_zero, List.take_nil, List.head?_cons, List.reverse_cons, List.reverse_nil, List.nil_append, List.cons_append, List.length_cons, List.length_nil, Option.toList_some, Option.toList_none, hT_sI, hT_sJ, hT_sR, hI_sJ, hI_sR, hJ_sI, hJ_sR, hR_sI, hR_sJ, isO_sI, isO_sJ, isO_sR, iI_add, iI_sub, iI_mul, iI_neg, lv_args, Nat.reduceAdd, Nat.reduceEqDiff, Nat.reduceLeDiff, reduceIte, ite_true, ite_false, true_and, and_true, false_and, and_false, not_true, not_false_iff, or_true, true_or, false_or, or_false, imp_self, ne_eq, Classical.not_not, forall_const, true_implies, false_implies, if_pos, Nat.zero_add, Nat.add_zero, Nat.le_refl, Nat.reduceLT, iz00, iz01, iz10, iz11, ib0, ib1, ib01, reduceCtorEq]
  exact loop 22 0 h [] (by omega) F1.rf (fun r j hr hj => by rw [if_neg (by omega)]; exact hT' r j hr hj)
theorem val_X12_exchange (g : GP) : Val g yX12_exchange prog_14_method_23_code 6 none 1 60 0 0 sp_X12_exchange := val_of (own := RX12) (ini := false) (on := 12) (rs := rs_X12_exchange) (cl := cl_X12_exchange) (rt := 0) (bl := bl_X12_exchange) (plainFor_of_name (by decide +kernel)) rfl (rok_X12 _) ck_X12_exchange (fun h => by cases h) rfl ((fun _ h => absurd h List.not_mem_nil)) pf_X12_exchange

