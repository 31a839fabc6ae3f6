/-! stars: bits of differences -/
theorem us_sl : ∀ n : Nat, n < 32 → (((iI (n : Nat)).toUInt32 &&& Int32.toUInt32 31).toBitVec % 32).toNat = n := by decide +kernel
theorem b32_us {n : Nat} (hn : n < 32) (x : Int32) (i : Nat) : b32 (us x (n : Nat)) i = b32 x (n + i) := by
  unfold b32 us
  show (x.toUInt32 >>> ((iI (n : Nat)).toUInt32 &&& Int32.toUInt32 31)).toBitVec.getLsbD i = _
  rw [UInt32.toBitVec_shiftRight]
  show (x.toBitVec >>> ((((iI (n : Nat)).toUInt32 &&& Int32.toUInt32 31).toBitVec % 32).toNat)).getLsbD i = _
  rw [us_sl n hn, BitVec.getLsbD_ushiftRight]
theorem b32_hi (x : Int32) {i : Nat} (h : 32 ≤ i) : b32 x i = false := BitVec.getLsbD_of_ge _ _ h
def rv1 (x : Int32) : Int32 := ((x &&& iI 1431655765) <<< (iI 1 &&& 31)) ||| (us x 1 &&& iI 1431655765)
def rv2 (x : Int32) : Int32 := ((x &&& iI 858993459) <<< (iI 2 &&& 31)) ||| (us x 2 &&& iI 858993459)
def rv3 (x : Int32) : Int32 := ((x &&& iI 252645135) <<< (iI 4 &&& 31)) ||| (us x 4 &&& iI 252645135)
def rv4 (x : Int32) : Int32 := (x <<< (iI 24 &&& 31)) ||| ((x &&& iI 65280) <<< (iI 8 &&& 31)) ||| (us x 8 &&& iI 65280) ||| us x 24
def rvI (x : Int32) : Int32 := rv4 (rv3 (rv2 (rv1 x)))
def rq1 (i : Nat) : Nat := if i % 2 = 0 then i + 1 else i - 1
def rq2 (i : Nat) : Nat := if i % 4 < 2 then i + 2 else i - 2
def rq3 (i : Nat) : Nat := if i % 8 < 4 then i + 4 else i - 4
def rq4 (i : Nat) : Nat := (3 - i / 8) * 8 + i % 8
theorem rm1 : ∀ i, i < 32 → b32 (iI 1431655765) i = decide (i % 2 = 0) := by decide +kernel
theorem rm2 : ∀ i, i < 32 → b32 (iI 858993459) i = decide (i % 4 < 2) := by decide +kernel
theorem rm3 : ∀ i, i < 32 → b32 (iI 252645135) i = decide (i % 8 < 4) := by decide +kernel
theorem rm4 : ∀ i, i < 32 → b32 (iI 65280) i = decide (8 ≤ i ∧ i < 16) := by decide +kernel
theorem rm5 : ∀ i, i < 32 → b32 (iI 33554431) i = decide (i < 25) := by decide +kernel
theorem rv1_b (x : Int32) {i : Nat} (hi : i < 32) : b32 (rv1 x) i = b32 x (rq1 i) := by
  unfold rv1 rq1
  have h1 := b32_shl (n := 1) (by omega) (x &&& iI 1431655765) hi
  have h2 := b32_us (n := 1) (by omega) x i
  rw [b32_or, b32_and, rm1 i hi, show (iI 1) = iI ((1 : Nat) : Int) from rfl, h1, b32_and, rm1 (i - 1) (by omega), show us x 1 = us x ((1 : Nat) : Int) from rfl, h2]
  by_cases c : i % 2 = 0
  · rw [if_pos c, Nat.add_comm 1 i]
    by_cases d : 1 ≤ i
    · simp [c, show ¬ (i - 1) % 2 = 0 by omega]
    · simp [c, d]
  · rw [if_neg c]
    simp [c, show 1 ≤ i by omega, show (i - 1) % 2 = 0 by omega]
theorem rv2_b (x : Int32) {i : Nat} (hi : i < 32) : b32 (rv2 x) i = b32 x (rq2 i) := by
  unfold rv2 rq2
  have h1 := b32_shl (n := 2) (by omega) (x &&& iI 858993459) hi
  have h2 := b32_us (n := 2) (by omega) x i
  rw [b32_or, b32_and, rm2 i hi, show (iI 2) = iI ((2 : Nat) : Int) from rfl, h1, b32_and, rm2 (i - 2) (by omega), show us x 2 = us x ((2 : Nat) : Int) from rfl, h2]
  by_cases c : i % 4 < 2
  · rw [if_pos c, Nat.add_comm 2 i]
    by_cases d : 2 ≤ i
    · simp [c, show ¬ (i - 2) % 4 < 2 by omega]
    · simp [c, d]
  · rw [if_neg c]
    simp [c, show 2 ≤ i by omega, show (i - 2) % 4 < 2 by omega]
theorem rv3_b (x : Int32) {i : Nat} (hi : i < 32) : b32 (rv3 x) i = b32 x (rq3 i) := by
  unfold rv3 rq3
  have h1 := b32_shl (n := 4) (by omega) (x &&& iI 252645135) hi
  have h2 := b32_us (n := 4) (by omega) x i
  rw [b32_or, b32_and, rm3 i hi, show (iI 4) = iI ((4 : Nat) : Int) from rfl, h1, b32_and, rm3 (i - 4) (by omega), show us x 4 = us x ((4 : Nat) : Int) from rfl, h2]
  by_cases c : i % 8 < 4
  · rw [if_pos c, Nat.add_comm 4 i]
    by_cases d : 4 ≤ i
    · simp [c, show ¬ (i - 4) % 8 < 4 by omega]
    · simp [c, d]
  · rw [if_neg c]
    simp [c, show 4 ≤ i by omega, show (i - 4) % 8 < 4 by omega]
theorem rv4_b (x : Int32) {i : Nat} (hi : i < 32) : b32 (rv4 x) i = b32 x (rq4 i) := by
  unfold rv4 rq4
  have h1 := b32_shl (n := 24) (by omega) x hi
  have h2 := b32_shl (n := 8) (by omega) (x &&& iI 65280) hi
  have h3 := b32_us (n := 8) (by omega) x i
  have h4 := b32_us (n := 24) (by omega) x i
  rw [b32_or, b32_or, b32_or, b32_and, rm4 i hi, show (iI 24) = iI ((24 : Nat) : Int) from rfl, h1, show (iI 8) = iI ((8 : Nat) : Int) from rfl, h2, b32_and, rm4 (i - 8) (by omega), show us x 8 = us x ((8 : Nat) : Int) from rfl, h3, show us x 24 = us x ((24 : Nat) : Int) from rfl, h4]
  rcases (show i < 8 ∨ (8 ≤ i ∧ i < 16) ∨ (16 ≤ i ∧ i < 24) ∨ 24 ≤ i by omega) with c | c | c | c
  · rw [show (3 - i / 8) * 8 + i % 8 = 24 + i by omega]
    simp [show ¬ 24 ≤ i by omega, show ¬ 8 ≤ i by omega]
  · rw [show (3 - i / 8) * 8 + i % 8 = 8 + i by omega, b32_hi x (i := 24 + i) (by omega)]
    simp [show ¬ 24 ≤ i by omega, show ¬ 8 ≤ i - 8 by omega, c]
  · rw [show (3 - i / 8) * 8 + i % 8 = i - 8 by omega, b32_hi x (i := 24 + i) (by omega)]
    simp [show ¬ 24 ≤ i by omega, show 8 ≤ i - 8 by omega, show i - 8 < 16 by omega, show 8 ≤ i by omega, show ¬ i < 16 by omega]
  · rw [show (3 - i / 8) * 8 + i % 8 = i - 24 by omega, b32_hi x (i := 24 + i) (by omega)]
    simp [c, show ¬ i - 8 < 16 by omega, show ¬ i < 16 by omega]
theorem rq_all : ∀ i, i < 32 → rq4 i < 32 ∧ rq3 (rq4 i) < 32 ∧ rq2 (rq3 (rq4 i)) < 32 ∧ rq1 (rq2 (rq3 (rq4 i))) = 31 - i := by decide +kernel
theorem rvI_b (x : Int32) {i : Nat} (hi : i < 32) : b32 (rvI x) i = b32 x (31 - i) := by
  obtain ⟨h1, h2, h3, h4⟩ := rq_all i hi
  unfold rvI
  rw [rv4_b _ hi, rv3_b _ h1, rv2_b _ h2, rv1_b _ h3, h4]
theorem rv7_b (x : Int32) (i : Nat) : b32 (us (rvI x) 7) i = if i < 25 then b32 x (24 - i) else false := by
  rw [show us (rvI x) 7 = us (rvI x) ((7 : Nat) : Int) from rfl, b32_us (by omega)]
  by_cases c : i < 25
  · rw [if_pos c, rvI_b _ (by omega), show 31 - (7 + i) = 24 - i by omega]
  · rw [if_neg c, b32_hi _ (by omega)]
def cl_X9_turned : Nat → Nat × Nat × Spec := fun q => (0, 0, fun _ _ _ => False)

def sp_X9_turned : Spec := fun as h K => ∃ x, as = [.int x] ∧ K (some (.int (us (rvI x) 7))) h
theorem pf_X9_turned : PfM cl_X9_turned (0, 0) 1 3 bl_X9_turned sp_X9_turned := by
  rintro as h Q ⟨x, rfl, hQ⟩
  refine ⟨Nat.le_of_ble_eq_true rfl, fun G hG => ?_⟩
  have loop : ∀ (n m : Nat) (b : Int32), m + n = 25 → (∀ i, i < 32 → b32 b i = (decide (i < 25 ∧ 24 - i < m) && b32 x (24 - i))) → G 5 [(0, .int x), (1, .int b), (2, .int (iI ((m : Int) - 12)))] [] h (0, 0) := by
    intro n
    induction n with
    | zero =>
      intro m b hm hb
      have e1 : (iI 12 < iI ((m : Int) - 12)) = True := eq_true ((iI_lt (by omega) (by omega)).mpr (by omega))
      refine hG.1 5 _ _ _ _ ?_
      rw [bq_X9_turned_5]
      simp only [bk_X9_turned_5, wp_aconst_null, wp_iconst, wp_bipush, wp_sipush, wp_ldc, wp_ldc_w, wp_ldc2_w, wp_lconst, wp_iload, wp_iload_n, wp_lload, wp_lload_n, wp_aload, wp_aload_n, wp_istore, wp_istore_n, wp_lstore, wp_lstore_n, wp_astore, wp_astore_n, wp_iinc, wp_iadd, wp_isub, wp_imul, wp_iand, wp_ior, wp_ixor, wp_ishl, wp_ishr, wp_iushr, wp_idiv, wp_irem, wp_ineg, wp_ladd, wp_lsub, wp_lmul, wp_ldiv, wp_lrem, wp_lcmp, wp_i2l, wp_l2i, wp_pop, wp_dup, wp_dup2, wp_goto, wp_ifCond, wp_if_icmp, wp_ifnull, wp_ifnonnull, wp_tableswitch, wp_getfield, wp_putfield, wp_arraylength, wp_iaload, wp_baload, wp_laload, wp_aaload, wp_iastore, wp_bastore, wp_lastore, wp_aastore, wp_new, wp_newarray, wp_anewarray, wp_multianewarray, wp_invokevirtual, wp_invokespecial, wp_invokestatic, wp_ireturn, wp_lreturn, wp_areturn, wp_return_, wpL, ldI, ldJ, ldA, lk, sL, cL, i1, i2, l1, l2, r1, pA, p1, p2, ar, tyAt, rcv, rcr, oO, cmpI, Value.category, rf_some, rf_none, ak, kc, List.drop_succ_cons, List.drop_zero, List.drop_nil, List.take_succ_cons, List.take_zero, List.take_nil, List.head?_cons, List.reverse_cons, List.reverse_nil, List.nil_append, List.cons_append, List.length_cons, List.length_nil, Option.toList_some, Option.toList_none, hT_sI, hT_sJ, hT_sR, hI_sJ, hI_sR, hJ_sI, hJ_sR, hR_sI, hR_sJ, isO_sI, isO_sJ, isO_sR, iI_add, iI_sub, iI_mul, iI_neg, lv_args, Nat.reduceAdd, Nat.reduceEqDiff, Nat.reduceLeDiff, reduceIte, ite_true, ite_false, true_and, and_true, false_and, and_false, not_true, not_false_iff, or_true, true_or, false_or, or_false, imp_self, ne_eq, Classical.not_not, forall_const, true_implies, false_implies, if_pos, Nat.zero_add, Nat.add_zero, Nat.le_refl, Nat.reduceLT, iz00, iz01, iz10, iz11, ib0, ib1, ib01, reduceCtorEq, e1]
      refine hG.1 38 _ _ _ _ ?_
      rw [bq_X9_turned_38]
      simp only [bk_X9_turned_38, wp_aconst_null, wp_iconst, wp_bipush, wp_sipush, wp_ldc, wp_ldc_w, wp_ldc2_w, wp_lconst, wp_iload, wp_iload_n, wp_lload, wp_lload_n, wp_aload, wp_aload_n, wp_istore, wp_istore_n, wp_lstore, wp_lstore_n, wp_astore, wp_astore_n, wp_iinc, wp_iadd, wp_isub, wp_imul, wp_iand, wp_ior, wp_ixor, wp_ishl, wp_ishr, wp_iushr, wp_idiv, wp_irem, wp_ineg, wp_ladd, wp_lsub, wp_lmul, wp_ldiv, wp_lrem, wp_lcmp, wp_i2l, wp_l2i, wp_pop, wp_dup, wp_dup2, wp_goto, wp_ifCond, wp_if_icmp, wp_ifnull, wp_ifnonnull, wp_tableswitch, wp_getfield, wp_putfield, wp_arraylength, wp_iaload, wp_baload, wp_laload, wp_aaload, wp_iastore, wp_bastore, wp_lastore, wp_aastore, wp_new, wp_newarray, wp_anewarray, wp_multianewarray, wp_invokevirtual, wp_invokespecial, wp_invokestatic, wp_ireturn, wp_lreturn, wp_areturn, wp_return_, wpL, ldI, ldJ, ldA, lk, sL, cL, i1, i2, l1, l2, r1, pA, p1, p2, ar, tyAt, rcv, rcr, oO, cmpI, Value.category, rf_some, rf_none, ak, kc, List.drop_succ_cons, List.drop_zero, List.drop_nil, List.take_succ_cons, List.take_zero, List.take_nil, List.head?_cons, List.reverse_cons, List.reverse_nil, List.nil_append, List.cons_append, List.length_cons, List.length_nil, Option.toList_some, Option.toList_none, hT_sI, hT_sJ, hT_sR, hI_sJ, hI_sR, hJ_sI, hJ_sR, hR_sI, hR_sJ, isO_sI, isO_sJ, isO_sR, iI_add, iI_sub, iI_mul, iI_neg, lv_args, Nat.reduceAdd, Nat.reduceEqDiff, Nat.reduceLeDiff, reduceIte, ite_true, ite_false, true_and, and_true, false_and, and_false, not_true, not_false_iff, or_true, true_or, false_or, or_false, imp_self, ne_eq, Classical.not_not, forall_const, true_implies, false_implies, if_pos, Nat.zero_add, Nat.add_zero, Nat.le_refl, Nat.reduceLT, iz00, iz01, iz10, iz11, ib0, ib1, ib01, reduceCtorEq]
      have e : b = us (rvI x) 7 := b32_ext (fun i hi => by
        rw [hb i hi, rv7_b]
        by_cases c : i < 25
        · rw [if_pos c, decide_eq_true ⟨c, by omega⟩, Bool.true_and]
        · rw [if_neg c, decide_eq_false (fun z => c z.1), Bool.false_and])
      rw [e]
      exact hQ
    | succ n ih =>
      intro m b hm hb
      have e1 : (iI 12 < iI ((m : Int) - 12)) = False := eq_false (by rw [iI_lt (by omega) (by omega)]; omega)
      have e2 : (m : Int) - 12 + 12 = (m : Int) := by omega
      have e3 := b32_t (n := m) (by omega) x
      have e4 : (12 : Int) - ((m : Int) - 12) = ((24 - m : Nat) : Int) := by omega
      have nxt : ∀ b2 : Int32, (∀ i, i < 32 → b32 b2 i = (decide (i < 25 ∧ 24 - i < m + 1) && b32 x (24 - i))) → G 32 [(0, .int x), (1, .int b2), (2, .int (iI ((m : Int) - 12)))] [] h (0, 0) := by
        intro bb hbb
        refine hG.1 32 _ _ _ _ ?_
        rw [bq_X9_turned_32]
        simp only [bk_X9_turned_32, wp_aconst_null, wp_iconst, wp_bipush, wp_sipush, wp_ldc, wp_ldc_w, wp_ldc2_w, wp_lconst, wp_iload, wp_iload_n, wp_lload, wp_lload_n, wp_aload, wp_aload_n, wp_istore, wp_istore_n, wp_lstore, wp_lstore_n, wp_astore, wp_astore_n, wp_iinc, wp_iadd, wp_isub, wp_imul, wp_iand, wp_ior, wp_ixor, wp_ishl, wp_ishr, wp_iushr, wp_idiv, wp_irem, wp_ineg, wp_ladd, wp_lsub, wp_lmul, wp_ldiv, wp_lrem, wp_lcmp, wp_i2l, wp_l2i, wp_pop, wp_dup, wp_dup2, wp_goto, wp_ifCond, wp_if_icmp, wp_ifnull, wp_ifnonnull, wp_tableswitch, wp_getfield, wp_putfield, wp_arraylength, wp_iaload, wp_baload, wp_laload, wp_aaload, wp_iastore, wp_bastore, wp_lastore, wp_aastore, wp_new, wp_newarray, wp_anewarray, wp_multianewarray, wp_invokevirtual, wp_invokespecial, wp_invokestatic, wp_ireturn, wp_lreturn, wp_areturn, wp_return_, wpL, ldI, ldJ, ldA, lk, sL, cL, i1, i2, l1, l2, r1, pA, p1, p2, ar, tyAt, rcv, rcr, oO, cmpI, Value.category, rf_some, rf_none, ak, kc, List.drop_succ_cons, List.drop_zero, List.drop_nil, List.take_succ_cons, List.take_zero, List.take_nil, List.head?_cons, List.reverse_cons, List.reverse_nil, List.nil_append, List.cons_append, List.length_cons, List.length_nil, Option.toList_some, Option.toList_none, hT_sI, hT_sJ, hT_sR, hI_sJ, hI_sR, hJ_sI, hJ_sR, hR_sI, hR_sJ, isO_sI, isO_sJ, isO_sR, iI_add, iI_sub, iI_mul, iI_neg, lv_args, Nat.reduceAdd, Nat.reduceEqDiff, Nat.reduceLeDiff, reduceIte, ite_true, ite_false, true_and, and_true, false_and, and_false, not_true, not_false_iff, or_true, true_or, false_or, or_false, imp_self, ne_eq, Classical.not_not, forall_const, true_implies, false_implies, if_pos, Nat.zero_add, Nat.add_zero, Nat.le_refl, Nat.reduceLT, iz00, iz01, iz10, iz11, ib0, ib1, ib01, reduceCtorEq]
        have q := ih (m + 1) bb (by omega) hbb
        rw [show ((m + 1 : Nat) : Int) - 12 = (m : Int) - 12 + 1 by omega] at q
        exact q
      refine hG.1 5 _ _ _ _ ?_
      rw [bq_X9_turned_5]
      simp only [bk_X9_turned_5, wp_aconst_null, wp_iconst, wp_bipush, wp_sipush, wp_ldc, wp_ldc_w, wp_ldc2_w, wp_lconst, wp_iload, wp_iload_n, wp_lload, wp_lload_n, wp_aload, wp_aload_n, wp_istore, wp_istore_n, wp_lstore, wp_lstore_n, wp_astore, wp_astore_n, wp_iinc, wp_iadd, wp_isub, wp_imul, wp_iand, wp_ior, wp_ixor, wp_ishl, wp_ishr, wp_iushr, wp_idiv, wp_irem, wp_ineg, wp_ladd, wp_lsub, wp_lmul, wp_ldiv, wp_lrem, wp_lcmp, wp_i2l, wp_l2i, wp_pop, wp_dup, wp_dup2, wp_goto, wp_ifCond, wp_if_icmp, wp_ifnull, wp_ifnonnull, wp_tableswitch, wp_getfield, wp_putfield, wp_arraylength, wp_iaload, wp_baload, wp_laload, wp_aaload, wp_iastore, wp_bastore, wp_lastore, wp_aastore, wp_new, wp_newarray, wp_anewarray, wp_multianewarray, wp_invokevirtual, wp_invokespecial, wp_invokestatic, wp_ireturn, wp_lreturn, wp_areturn, wp_return_, wpL, ldI, ldJ, ldA, lk, sL, cL, i1, i2, l1, l2, r1, pA, p1, p2, ar, tyAt, rcv, rcr, oO, cmpI, Value.category, rf_some, rf_none, ak, kc, List.drop_succ_cons, List.drop_zero, List.drop_nil, List.take_succ_cons, List.take_zero, List.take_nil, List.head?_cons, List.reverse_cons, List.reverse_nil, List.nil_append, List.cons_append, List.length_cons, List.length_nil, Option.toList_some, Option.toList_none, hT_sI, hT_sJ, hT_sR, hI_sJ, hI_sR, hJ_sI, hJ_sR, hR_sI, hR_sJ, isO_sI, isO_sJ, isO_sR, iI_add, iI_sub, iI_mul, iI_neg, lv_args, Nat.reduceAdd, Nat.reduceEqDiff, Nat.reduceLeDiff, reduceIte, ite_true, ite_false, true_and, and_true, false_and, and_false, not_true, not_false_iff, or_true, true_or, false_or, or_false, imp_self, ne_eq, Classical.not_not, forall_const, true_implies, false_implies, if_pos, Nat.zero_add, Nat.add_zero, Nat.le_refl, Nat.reduceLT, iz00, iz01, iz10, iz11, ib0, ib1, ib01, reduceCtorEq, e1, e2, e3, e4]
      refine ⟨fun c => ?_, fun c => ?_⟩
      · refine nxt b (fun i hi => ?_)
        rw [hb i hi]
        by_cases z : i < 25 ∧ 24 - i = m
        · rw [z.2, Bool.eq_false_iff.mpr c, Bool.and_false, Bool.and_false]
        · rw [decide_eq_decide.mpr (show (i < 25 ∧ 24 - i < m) ↔ (i < 25 ∧ 24 - i < m + 1) by omega)]
      · refine nxt _ (fun i hi => ?_)
        rw [b32_or, hb i hi, b32_2 (by omega) hi]
        by_cases z : i < 25 ∧ 24 - i = m
        · rw [decide_eq_false (by omega), decide_eq_true (show i = 24 - m by omega), decide_eq_true (show i < 25 ∧ 24 - i < m + 1 by omega), z.2, c]; rfl
        · rw [decide_eq_decide.mpr (show (i < 25 ∧ 24 - i < m) ↔ (i < 25 ∧ 24 - i < m + 1) by omega), decide_eq_false (show ¬ i = 24 - m by omega), Bool.or_false]
  refine hG.1 0 _ _ _ _ ?_
  rw [bq_X9_turned_0]
  simp only [bk_X9_turned_0, wp_aconst_null, wp_iconst, wp_bipush, wp_sipush, wp_ldc, wp_ldc_w, wp_ldc2_w, wp_lconst, wp_iload, wp_iload_n, wp_lload, wp_lload_n, wp_aload, wp_aload_n, wp_istore, wp_istore_n, wp_lstore, wp_lstore_n, wp_astore, wp_astore_n, wp_iinc, wp_iadd, wp_isub, wp_imul, wp_iand, wp_ior, wp_ixor, wp_ishl, wp_ishr, wp_iushr, wp_idiv, wp_irem, wp_ineg, wp_ladd, wp_lsub, wp_lmul, wp_ldiv, wp_lrem, wp_lcmp, wp_i2l, wp_l2i, wp_pop, wp_dup, wp_dup2, wp_goto, wp_ifCond, wp_if_icmp, wp_ifnull, wp_ifnonnull, wp_tableswitch, wp_getfield, wp_putfield, wp_arraylength, wp_iaload, wp_baload, wp_laload, wp_aaload, wp_iastore, wp_bastore, wp_lastore, wp_aastore, wp_new, wp_newarray, wp_anewarray, wp_multianewarray, wp_invokevirtual, wp_invokespecial, wp_invokestatic, wp_ireturn, wp_lreturn, wp_areturn, wp_return_, wpL, ldI, ldJ, ldA, lk, sL, cL, i1, i2, l1, l2, r1, pA, p1, p2, ar, tyAt, rcv, rcr, oO, cmpI, Value.category, rf_some, rf_none, ak, kc, List.drop_succ_cons, List.drop_zero, List.drop_nil, List.take_succ_cons, List.take_zero, List.take_nil, List.head?_cons, List.reverse_cons, List.reverse_nil, List.nil_append, List.cons_append, List.length_cons, List.length_nil, Option.toList_some, Option.toList_none, hT_sI, hT_sJ, hT_sR, hI_sJ, hI_sR, hJ_sI, hJ_sR, hR_sI, hR_sJ, isO_sI, isO_sJ, isO_sR, iI_add, iI_sub, iI_mul, iI_neg, lv_args, Nat.reduceAdd, Nat.reduceEqDiff, Nat.reduceLeDiff, reduceIte, ite_true, ite_false, true_and, and_true, false_and, and_false, not_true, not_false_iff, or_true, true_or, false_or, or_false, imp_self, ne_eq, Classical.not_not, forall_const, true_implies, false_implies, if_pos, Nat.zero_add, Nat.add_zero, Nat.le_refl, Nat.reduceLT, iz00, iz01, iz10, iz11, ib0, ib1, ib01, reduceCtorEq]
  exact loop 25 0 _ (by omega) (fun i hi => by rw [b32_0, decide_eq_false (by omega), Bool.false_and])
theorem val_X9_turned (g : GP) : Val g yX9_turned prog_11_method_7_code 3 (some .int) 1 60 0 0 sp_X9_turned := val_of (own := RX9) (ini := false) (on := 9) (rs := rs_X9_turned) (cl := cl_X9_turned) (rt := 1) (bl := bl_X9_turned) (plainFor_of_name (by decide +kernel)) rfl (rok_X9 _) ck_X9_turned (fun h => by cases h) rfl ((fun _ h => absurd h List.not_mem_nil)) pf_X9_turned

abbrev Ft : Type := Nat → Nat → Int32
def rsF (f : Ft) (i j : Nat) (b : Int32) : Ft := fun a c => if a = i ∧ c = j then f i j &&& b else if a = j ∧ c = i then us (rvI (f i j &&& b)) 7 else f a c
def fOK (f : Ft) : Prop := (∀ i j k, i < 7 → j < 7 → 25 ≤ k → b32 (f i j) k = false) ∧ (∀ i j k, i < 7 → j < 7 → k < 25 → b32 (f j i) k = b32 (f i j) (24 - k)) ∧ ∀ i, i < 7 → f i i = iI 33554431
def bx (v : Nat → Int) : Prop := ∀ i, -6 ≤ v i ∧ v i ≤ 6
/-- all differences of v are allowed -/
def Vs (f : Ft) (v : Nat → Int) : Prop := ∀ i j, i < j → j < 7 → b32 (f i j) (v j - v i + 12).toNat = true
theorem rsF_ok {f : Ft} (h : fOK f) {i j : Nat} (hi : i < 7) (hj : j < 7) (ne : i ≠ j) (b : Int32) : fOK (rsF f i j b) := by
  obtain ⟨h1, h2, h3⟩ := h
  refine ⟨fun a c k ha hc hk => ?_, fun a c k ha hc hk => ?_, fun a ha => ?_⟩
  · unfold rsF
    split
    · rw [b32_and, h1 i j k hi hj hk]; rfl
    · split
      · rw [rv7_b, if_neg (by omega)]
      · exact h1 a c k ha hc hk
  · unfold rsF
    by_cases e1 : a = i ∧ c = j
    · obtain ⟨rfl, rfl⟩ := e1
      rw [if_neg (by omega), if_pos ⟨rfl, rfl⟩, if_pos ⟨rfl, rfl⟩, rv7_b, if_pos hk]
    · by_cases e2 : a = j ∧ c = i
      · obtain ⟨rfl, rfl⟩ := e2
        rw [if_pos ⟨rfl, rfl⟩, if_neg (by omega), if_pos ⟨rfl, rfl⟩, rv7_b, if_pos (by omega), show 24 - (24 - k) = k by omega]
      · rw [if_neg e1, if_neg e2, if_neg (fun z => e2 ⟨z.2, z.1⟩), if_neg (fun z => e1 ⟨z.2, z.1⟩)]
        exact h2 a c k ha hc hk
  · unfold rsF
    rw [if_neg (by omega), if_neg (by omega)]
    exact h3 a ha
/-- the difference of two, by the one table or the other -/
theorem Vs_any {f : Ft} (h : fOK f) {v : Nat → Int} (hv : bx v) (hV : Vs f v) {i j : Nat} (hi : i < 7) (hj : j < 7) (ne : i ≠ j) : b32 (f i j) (v j - v i + 12).toNat = true := by
  have a1 := hv i
  have a2 := hv j
  rcases Nat.lt_or_gt_of_ne ne with c | c
  · exact hV i j c hj
  · have q := hV j i c hi
    rw [h.2.1 j i _ hj hi (by omega)]
    rw [show 24 - (v j - v i + 12).toNat = (v i - v j + 12).toNat by omega]
    exact q
/-- a table restricted at one place -/
theorem rsF_Vs {f : Ft} (h : fOK f) {v : Nat → Int} (hv : bx v) {i j : Nat} (hi : i < 7) (hj : j < 7) (ne : i ≠ j) (b : Int32) : Vs (rsF f i j b) v ↔ Vs f v ∧ b32 b (v j - v i + 12).toNat = true := by
  have a1 := hv i
  have a2 := hv j
  constructor
  · intro q
    refine ⟨fun a c hac hc => ?_, ?_⟩
    · have z := q a c hac hc
      unfold rsF at z
      by_cases e1 : a = i ∧ c = j
      · obtain ⟨rfl, rfl⟩ := e1
        rw [if_pos ⟨rfl, rfl⟩, b32_and, Bool.and_eq_true] at z
        exact z.1
      · by_cases e2 : a = j ∧ c = i
        · obtain ⟨rfl, rfl⟩ := e2
          rw [if_neg (by omega), if_pos ⟨rfl, rfl⟩, rv7_b, if_pos (by omega), b32_and, Bool.and_eq_true] at z
          rw [h.2.1 c a _ hi hj (by omega)]
          exact z.1
        · rw [if_neg e1, if_neg e2] at z
          exact z
    · have z := Vs_any (rsF_ok h hi hj ne b) hv q hi hj ne
      unfold rsF at z
      rw [if_pos ⟨rfl, rfl⟩, b32_and, Bool.and_eq_true] at z
      exact z.2
  · rintro ⟨q, hb⟩ a c hac hc
    unfold rsF
    by_cases e1 : a = i ∧ c = j
    · obtain ⟨rfl, rfl⟩ := e1
      rw [if_pos ⟨rfl, rfl⟩, b32_and, hb, q a c hac hc]; rfl
    · by_cases e2 : a = j ∧ c = i
      · obtain ⟨rfl, rfl⟩ := e2
        rw [if_neg (by omega), if_pos ⟨rfl, rfl⟩, rv7_b, if_pos (by omega), b32_and, Bool.and_eq_true]
        rw [show 24 - (v c - v a + 12).toNat = (v a - v c + 12).toNat by omega]
        exact ⟨Vs_any h hv q hi hj ne, hb⟩
      · rw [if_neg e1, if_neg e2]
        exact q a c hac hc
theorem RW.fr {h : hp} {ad : Ad} (R : RW h ad) {i : Nat} (hi : i < 7) : hR h 30 i (ad 9 2) = some (ad 14 i) ∧ hT h (ad 14 i) = some (191, 7) ∧ hR h 31 i (ad 9 3) = some (ad 15 i) ∧ hT h (ad 15 i) = some (192, 7) := R.2.2.2.2.2.2.1 i hi
theorem RW.j14 {h : hp} {ad : Ad} (R : RW h ad) {i j : Nat} (hi : i < 7) (hj : j < 7) (e : ad 14 i = ad 14 j) : i = j := R.2.2.2.2.2.2.2.1 i j hi hj e
theorem RW.j15 {h : hp} {ad : Ad} (R : RW h ad) {i j : Nat} (hi : i < 7) (hj : j < 7) (e : ad 15 i = ad 15 j) : i = j := R.2.2.2.2.2.2.2.2 i j hi hj e
def RF (h : hp) (ad : Ad) (f : Ft) : Prop := ∀ i j, i < 7 → j < 7 → hI h 191 j (ad 14 i) = f i j
abbrev k9 (c k : Nat) : Prop := c = 191 ∨ c = 192 ∨ c = 108 ∨ c = 109 ∨ (c = 9 ∧ (k = 4 ∨ k = 5))
def F9 (h h' : hp) : Prop := (∀ a, hT h' a = hT h a) ∧ (∀ c k a, hJ h' c k a = hJ h c k a) ∧ (∀ c k a, hR h' c k a = hR h c k a) ∧ ∀ c k a, ¬ k9 c k → hI h' c k a = hI h c k a
theorem F9.rf {h : hp} : F9 h h := ⟨fun _ => rfl, fun _ _ _ => rfl, fun _ _ _ => rfl, fun _ _ _ _ => rfl⟩
theorem F9.tr {h h1 h2 : hp} (a : F9 h h1) (b : F9 h1 h2) : F9 h h2 := ⟨fun x => (b.1 x).trans (a.1 x), fun c k x => (b.2.1 c k x).trans (a.2.1 c k x), fun c k x => (b.2.2.1 c k x).trans (a.2.2.1 c k x), fun c k x z => (b.2.2.2 c k x z).trans (a.2.2.2 c k x z)⟩
theorem F9.i {h h' : hp} (a : F9 h h') {c k x : Nat} {v : Int32} (hs : k9 c k) : F9 h (sI h' c k x v) := by
  refine a.tr ⟨fun _ => rfl, fun _ _ _ => rfl, fun _ _ _ => rfl, fun c' k' x' hz => ?_⟩
  rw [hI_sI, if_neg]
  rintro ⟨rfl, rfl, -⟩
  exact hz hs
theorem F9.s {h h' : hp} (f : F9 h h') : Fs h h' := ⟨f.1, f.2.1, fun c k a _ => f.2.2.1 c k a, fun c k a hz => f.2.2.2 c k a (by rintro (rfl | rfl | rfl | rfl | ⟨rfl, rfl | rfl⟩) <;> cases hz)⟩
/-- only tables of differences -/
def Fdf (h h' : hp) : Prop := (∀ a, hT h' a = hT h a) ∧ (∀ c k a, hJ h' c k a = hJ h c k a) ∧ (∀ c k a, hR h' c k a = hR h c k a) ∧ ∀ c k a, c ≠ 191 → hI h' c k a = hI h c k a
theorem Fdf.rf {h : hp} : Fdf h h := ⟨fun _ => rfl, fun _ _ _ => rfl, fun _ _ _ => rfl, fun _ _ _ _ => rfl⟩
theorem Fdf.tr {h h1 h2 : hp} (a : Fdf h h1) (b : Fdf h1 h2) : Fdf h h2 := ⟨fun x => (b.1 x).trans (a.1 x), fun c k x => (b.2.1 c k x).trans (a.2.1 c k x), fun c k x => (b.2.2.1 c k x).trans (a.2.2.1 c k x), fun c k x z => (b.2.2.2 c k x z).trans (a.2.2.2 c k x z)⟩
theorem Fdf.i {h h' : hp} (a : Fdf h h') {k x : Nat} {v : Int32} : Fdf h (sI h' 191 k x v) := a.tr ⟨fun _ => rfl, fun _ _ _ => rfl, fun _ _ _ => rfl, fun c' k' x' hz => by rw [hI_sI, if_neg (fun z => hz z.1)]⟩
theorem Fdf.to {h h' : hp} (f : Fdf h h') : F9 h h' := ⟨f.1, f.2.1, f.2.2.1, fun c k a hz => f.2.2.2 c k a (fun z => hz (Or.inl z))⟩
/-- nothing new: the table stays as it is -/
theorem rsF_same {f : Ft} (h : fOK f) {i j : Nat} (hi : i < 7) (hj : j < 7) {b : Int32} (e : f i j &&& b = f i j) (a c : Nat) : rsF f i j b a c = f a c := by
  unfold rsF
  by_cases e1 : a = i ∧ c = j
  · rw [if_pos e1, e, e1.1, e1.2]
  · rw [if_neg e1]
    by_cases e2 : a = j ∧ c = i
    · rw [if_pos e2, e, e2.1, e2.2]
      refine b32_ext (fun k _ => ?_)
      rw [rv7_b]
      by_cases d : k < 25
      · rw [if_pos d, h.2.1 i j k hi hj d]
      · rw [if_neg d, h.1 j i k hj hi (by omega)]
    · rw [if_neg e2]
def cl_X9_restrict : Nat → Nat × Nat × Spec := fun q => if q = 45 then (0, 0, sp_X9_turned) else (0, 0, fun _ _ _ => False)
theorem cq_X9_restrict_45 : cl_X9_restrict 45 = (0, 0, sp_X9_turned) := rfl

def sp_X9_restrict : Spec := fun as h K => ∃ (ad : Ad) (f : Ft) (i j : Nat) (b : Int32), as = [.ref (ad 8 5), .int (iI (i : Nat)), .int (iI (j : Nat)), .int b] ∧ RW h ad ∧ RF h ad f ∧ fOK f ∧ i < 7 ∧ j < 7 ∧ i ≠ j ∧ ∀ h' x, (x = 0 ∨ x = 1) → RF h' ad (rsF f i j b) → Fdf h h' → K (some (.int x)) h'
theorem pf_X9_restrict : PfM cl_X9_restrict (0, 0) 2 5 bl_X9_restrict sp_X9_restrict := by
  rintro as h Q ⟨ad, f, i, j, b, rfl, R, hf, fo, hi, hj, ne, hQ⟩
  refine ⟨Nat.le_of_ble_eq_true rfl, fun G hG => ?_⟩
  have o := wo_11_11 R
  have t1 := wr_9_0 R
  have t2 := wt_9_0 R
  obtain ⟨u1, u2, -, -⟩ := R.fr hi
  obtain ⟨u3, u4, -, -⟩ := R.fr hj
  have in1 : vp_in (iI (i : Nat)) 7 := iI_in (by omega) (by omega)
  have n1 : (iI (i : Nat)).toNatClampNeg = i := by rw [iI_cl (by omega)]; omega
  have in2 : vp_in (iI (j : Nat)) 7 := iI_in (by omega) (by omega)
  have n2 : (iI (j : Nat)).toNatClampNeg = j := by rw [iI_cl (by omega)]; omega
  have v1 := hf i j hi hj
  refine hG.1 0 _ _ _ _ ?_
  rw [bq_X9_restrict_0]
  simp only [bk_X9_restrict_0, wp_aconst_null, wp_iconst, wp_bipush, wp_sipush, wp_ldc, wp_ldc_w, wp_ldc2_w, wp_lconst, wp_iload, wp_iload_n, wp_lload, wp_lload_n, wp_aload, wp_aload_n, wp_istore, wp_istore_n, wp_lstore, wp_lstore_n, wp_astore, wp_astore_n, wp_iinc, wp_iadd, wp_isub, wp_imul, wp_iand, wp_ior, wp_ixor, wp_ishl, wp_ishr, wp_iushr, wp_idiv, wp_irem, wp_ineg, wp_ladd, wp_lsub, wp_lmul, wp_ldiv, wp_lrem, wp_lcmp, wp_i2l, wp_l2i, wp_pop, wp_dup, wp_dup2, wp_goto, wp_ifCond, wp_if_icmp, wp_ifnull, wp_ifnonnull, wp_tableswitch, wp_getfield, wp_putfield, wp_arraylength, wp_iaload, wp_baload, wp_laload, wp_aaload, wp_iastore, wp_bastore, wp_lastore, wp_aastore, wp_new, wp_newarray, wp_anewarray, wp_multianewarray, wp_invokevirtual, wp_invokespecial, wp_invokestatic, wp_ireturn, wp_lreturn, wp_areturn, wp_return_, wpL, ldI, ldJ, ldA, lk, sL, cL, i1, i2, l1, l2, r1, pA, p1, p2, ar, tyAt, rcv, rcr, oO, cmpI, Value.category, rf_some, rf_none, ak, kc, List.drop_succ_cons, List.drop_zero, List.drop_nil, List.take_succ_cons, List.take_zero, List.take_nil, List.head?_cons, List.reverse_cons, List.reverse_nil, List.nil_append, List.cons_append, List.length_cons, List.length_nil, Option.toList_some, Option.toList_none, hT_sI, hT_sJ, hT_sR, hI_sJ, hI_sR, hJ_sI, hJ_sR, hR_sI, hR_sJ, isO_sI, isO_sJ, isO_sR, iI_add, iI_sub, iI_mul, iI_neg, lv_args, Nat.reduceAdd, Nat.reduceEqDiff, Nat.reduceLeDiff, reduceIte, ite_true, ite_false, true_and, and_true, false_and, and_false, not_true, not_false_iff, or_true, true_or, false_or, or_false, imp_self, ne_eq, Classical.not_not, forall_const, true_implies, false_implies, if_pos, Nat.zero_add, Nat.add_zero, Nat.le_refl, Nat.reduceLT, iz00, iz01, iz10, iz11, ib0, ib1, ib01, reduceCtorEq, cq_X9_restrict_45, o, t1, t2, u1, u2, in1, n1, in2, n2, v1]
  refine ⟨fun _ => ?_, fun c => ?_⟩
  · refine hG.1 27 _ _ _ _ ?_
    rw [bq_X9_restrict_27]
    simp only [bk_X9_restrict_27, wp_aconst_null, wp_iconst, wp_bipush, wp_sipush, wp_ldc, wp_ldc_w, wp_ldc2_w, wp_lconst, wp_iload, wp_iload_n, wp_lload, wp_lload_n, wp_aload, wp_aload_n, wp_istore, wp_istore_n, wp_lstore, wp_lstore_n, wp_astore, wp_astore_n, wp_iinc, wp_iadd, wp_isub, wp_imul, wp_iand, wp_ior, wp_ixor, wp_ishl, wp_ishr, wp_iushr, wp_idiv, wp_irem, wp_ineg, wp_ladd, wp_lsub, wp_lmul, wp_ldiv, wp_lrem, wp_lcmp, wp_i2l, wp_l2i, wp_pop, wp_dup, wp_dup2, wp_goto, wp_ifCond, wp_if_icmp, wp_ifnull, wp_ifnonnull, wp_tableswitch, wp_getfield, wp_putfield, wp_arraylength, wp_iaload, wp_baload, wp_laload, wp_aaload, wp_iastore, wp_bastore, wp_lastore, wp_aastore, wp_new, wp_newarray, wp_anewarray, wp_multianewarray, wp_invokevirtual, wp_invokespecial, wp_invokestatic, wp_ireturn, wp_lreturn, wp_areturn, wp_return_, wpL, ldI, ldJ, ldA, lk, sL, cL, i1, i2, l1, l2, r1, pA, p1, p2, ar, tyAt, rcv, rcr, oO, cmpI, Value.category, rf_some, rf_none, ak, kc, List.drop_succ_cons, List.drop_zero, List.drop_nil, List.take_succ_cons, List.take_zero, List.take_nil, List.head?_cons, List.reverse_cons, List.reverse_nil, List.nil_append, List.cons_append, List.length_cons, List.length_nil, Option.toList_some, Option.toList_none, hT_sI, hT_sJ, hT_sR, hI_sJ, hI_sR, hJ_sI, hJ_sR, hR_sI, hR_sJ, isO_sI, isO_sJ, isO_sR, iI_add, iI_sub, iI_mul, iI_neg, lv_args, Nat.reduceAdd, Nat.reduceEqDiff, Nat.reduceLeDiff, reduceIte, ite_true, ite_false, true_and, and_true, false_and, and_false, not_true, not_false_iff, or_true, true_or, false_or, or_false, imp_self, ne_eq, Classical.not_not, forall_const, true_implies, false_implies, if_pos, Nat.zero_add, Nat.add_zero, Nat.le_refl, Nat.reduceLT, iz00, iz01, iz10, iz11, ib0, ib1, ib01, reduceCtorEq, cq_X9_restrict_45, o, t1, t2, u1, u2, u3, u4, in1, n1, in2, n2]
    refine ⟨_, rfl, ?_⟩
    simp only [wp_aconst_null, wp_iconst, wp_bipush, wp_sipush, wp_ldc, wp_ldc_w, wp_ldc2_w, wp_lconst, wp_iload, wp_iload_n, wp_lload, wp_lload_n, wp_aload, wp_aload_n, wp_istore, wp_istore_n, wp_lstore, wp_lstore_n, wp_astore, wp_astore_n, wp_iinc, wp_iadd, wp_isub, wp_imul, wp_iand, wp_ior, wp_ixor, wp_ishl, wp_ishr, wp_iushr, wp_idiv, wp_irem, wp_ineg, wp_ladd, wp_lsub, wp_lmul, wp_ldiv, wp_lrem, wp_lcmp, wp_i2l, wp_l2i, wp_pop, wp_dup, wp_dup2, wp_goto, wp_ifCond, wp_if_icmp, wp_ifnull, wp_ifnonnull, wp_tableswitch, wp_getfield, wp_putfield, wp_arraylength, wp_iaload, wp_baload, wp_laload, wp_aaload, wp_iastore, wp_bastore, wp_lastore, wp_aastore, wp_new, wp_newarray, wp_anewarray, wp_multianewarray, wp_invokevirtual, wp_invokespecial, wp_invokestatic, wp_ireturn, wp_lreturn, wp_areturn, wp_return_, wpL, ldI, ldJ, ldA, lk, sL, cL, i1, i2, l1, l2, r1, pA, p1, p2, ar, tyAt, rcv, rcr, oO, cmpI, Value.category, rf_some, rf_none, ak, kc, List.drop_succ_cons, List.drop_zero, List.drop_nil, List.take_succ_cons, List.take_zero, List.take_nil, List.head?_cons, List.reverse_cons, List.reverse_nil, List.nil_append, List.cons_append, List.length_cons, List.length_nil, Option.toList_some, Option.toList_none, hT_sI, hT_sJ, hT_sR, hI_sJ, hI_sR, hJ_sI, hJ_sR, hR_sI, hR_sJ, isO_sI, isO_sJ, isO_sR, iI_add, iI_sub, iI_mul, iI_neg, lv_args, Nat.reduceAdd, Nat.reduceEqDiff, Nat.reduceLeDiff, reduceIte, ite_true, ite_false, true_and, and_true, false_and, and_false, not_true, not_false_iff, or_true, true_or, false_or, or_false, imp_self, ne_eq, Classical.not_not, forall_const, true_implies, false_implies, if_pos, Nat.zero_add, Nat.add_zero, Nat.le_refl, Nat.reduceLT, iz00, iz01, iz10, iz11, ib0, ib1, ib01, reduceCtorEq, cq_X9_restrict_45]
    refine hG.1 49 _ _ _ _ ?_
    rw [bq_X9_restrict_49]
    simp only [bk_X9_restrict_49, wp_aconst_null, wp_iconst, wp_bipush, wp_sipush, wp_ldc, wp_ldc_w, wp_ldc2_w, wp_lconst, wp_iload, wp_iload_n, wp_lload, wp_lload_n, wp_aload, wp_aload_n, wp_istore, wp_istore_n, wp_lstore, wp_lstore_n, wp_astore, wp_astore_n, wp_iinc, wp_iadd, wp_isub, wp_imul, wp_iand, wp_ior, wp_ixor, wp_ishl, wp_ishr, wp_iushr, wp_idiv, wp_irem, wp_ineg, wp_ladd, wp_lsub, wp_lmul, wp_ldiv, wp_lrem, wp_lcmp, wp_i2l, wp_l2i, wp_pop, wp_dup, wp_dup2, wp_goto, wp_ifCond, wp_if_icmp, wp_ifnull, wp_ifnonnull, wp_tableswitch, wp_getfield, wp_putfield, wp_arraylength, wp_iaload, wp_baload, wp_laload, wp_aaload, wp_iastore, wp_bastore, wp_lastore, wp_aastore, wp_new, wp_newarray, wp_anewarray, wp_multianewarray, wp_invokevirtual, wp_invokespecial, wp_invokestatic, wp_ireturn, wp_lreturn, wp_areturn, wp_return_, wpL, ldI, ldJ, ldA, lk, sL, cL, i1, i2, l1, l2, r1, pA, p1, p2, ar, tyAt, rcv, rcr, oO, cmpI, Value.category, rf_some, rf_none, ak, kc, List.drop_succ_cons, List.drop_zero, List.drop_nil, List.take_succ_cons, List.take_zero, List.take_nil, List.head?_cons, List.reverse_cons, List.reverse_nil, List.nil_append, List.cons_append, List.length_cons, List.length_nil, Option.toList_some, Option.toList_none, hT_sI, hT_sJ, hT_sR, hI_sJ, hI_sR, hJ_sI, hJ_sR, hR_sI, hR_sJ, isO_sI, isO_sJ, isO_sR, iI_add, iI_sub, iI_mul, iI_neg, lv_args, Nat.reduceAdd, Nat.reduceEqDiff, Nat.reduceLeDiff, reduceIte, ite_true, ite_false, true_and, and_true, false_and, and_false, not_true, not_false_iff, or_true, true_or, false_or, or_false, imp_self, ne_eq, Classical.not_not, forall_const, true_implies, false_implies, if_pos, Nat.zero_add, Nat.add_zero, Nat.le_refl, Nat.reduceLT, iz00, iz01, iz10, iz11, ib0, ib1, ib01, reduceCtorEq, cq_X9_restrict_45, u4, in1, n1]
    refine hQ _ _ (Or.inr rfl) (fun a c ha hc => ?_) (Fdf.rf.i.i)
    rw [hI_sI]
    unfold rsF
    by_cases e1 : a = i ∧ c = j
    · obtain ⟨rfl, rfl⟩ := e1
      rw [if_neg (by omega), hI_sI, if_pos ⟨rfl, rfl, rfl⟩, if_pos ⟨rfl, rfl⟩]
    · rw [if_neg e1]
      by_cases e2 : a = j ∧ c = i
      · obtain ⟨rfl, rfl⟩ := e2
        rw [if_pos ⟨rfl, rfl, rfl⟩, if_pos ⟨rfl, rfl⟩]
      · rw [if_neg e2, if_neg (fun z => e2 ⟨R.j14 ha hj z.2.2, z.2.1⟩), hI_sI, if_neg (fun z => e1 ⟨R.j14 ha hi z.2.2, z.2.1⟩)]
        exact hf a c ha hc
  · refine hQ _ _ (Or.inl rfl) (fun a d ha hd => ?_) Fdf.rf
    rw [rsF_same fo hi hj c]
    exact hf a d ha hd
theorem val_X9_restrict (g : GP) : Val g yX9_restrict prog_11_method_6_code 5 (some .boolean) 2 120 0 0 sp_X9_restrict := val_of (own := RX9) (ini := false) (on := 9) (rs := rs_X9_restrict) (cl := cl_X9_restrict) (rt := 2) (bl := bl_X9_restrict) (plainFor_of_name (by decide +kernel)) rfl (rok_X9 _) ck_X9_restrict (fun h => by cases h) rfl (List.forall_mem_cons.mpr ⟨caS (val_X9_turned g) (tb_in 723 (by decide +kernel) (by decide +kernel)) (tb_in 724 (by decide +kernel) (by decide +kernel)) (tb_in 725 (by decide +kernel) (by decide +kernel)) (tb_in 59 (by decide +kernel) (by decide +kernel)) ⟨by decide, by decide, by decide +kernel⟩ ⟨by decide, by decide⟩, (fun _ h => absurd h List.not_mem_nil)⟩) pf_X9_restrict

/-- sums of differences -/
def SmP (x y s : Int32) : Prop := (∀ k, 25 ≤ k → b32 s k = false) ∧ ∀ m k, m < 25 → k < 25 → 12 ≤ m + k → m + k ≤ 36 → b32 x m = true → b32 y k = true → b32 s (m + k - 12) = true
def cl_X9_sums : Nat → Nat × Nat × Spec := fun q => (0, 0, fun _ _ _ => False)

def sp_X9_sums : Spec := fun as h K => ∃ x y, as = [.int x, .int y] ∧ ∀ s, SmP x y s → K (some (.int s)) h
theorem pf_X9_sums : PfM cl_X9_sums (0, 0) 1 4 bl_X9_sums sp_X9_sums := by
  rintro as h Q ⟨x, y, rfl, hQ⟩
  refine ⟨Nat.le_of_ble_eq_true rfl, fun G hG => ?_⟩
  have loop : ∀ (n m : Nat) (b : Int32), m + n = 25 → (∀ m' k, m' < m → k < 25 → 12 ≤ m' + k → m' + k ≤ 36 → b32 x m' = true → b32 y k = true → b32 b (m' + k - 12) = true) → G 5 [(0, .int x), (1, .int y), (2, .int b), (3, .int (iI ((m : Int) - 12)))] [] h (0, 0) := by
    intro n
    induction n with
    | zero =>
      intro m b hm hb
      have e1 : (iI 12 < iI ((m : Int) - 12)) = True := eq_true ((iI_lt (by omega) (by omega)).mpr (by omega))
      refine hG.1 5 _ _ _ _ ?_
      rw [bq_X9_sums_5]
      simp only [bk_X9_sums_5, wp_aconst_null, wp_iconst, wp_bipush, wp_sipush, wp_ldc, wp_ldc_w, wp_ldc2_w, wp_lconst, wp_iload, wp_iload_n, wp_lload, wp_lload_n, wp_aload, wp_aload_n, wp_istore, wp_istore_n, wp_lstore, wp_lstore_n, wp_astore, wp_astore_n, wp_iinc, wp_iadd, wp_isub, wp_imul, wp_iand, wp_ior, wp_ixor, wp_ishl, wp_ishr, wp_iushr, wp_idiv, wp_irem, wp_ineg, wp_ladd, wp_lsub, wp_lmul, wp_ldiv, wp_lrem, wp_lcmp, wp_i2l, wp_l2i, wp_pop, wp_dup, wp_dup2, wp_goto, wp_ifCond, wp_if_icmp, wp_ifnull, wp_ifnonnull, wp_tableswitch, wp_getfield, wp_putfield, wp_arraylength, wp_iaload, wp_baload, wp_laload, wp_aaload, wp_iastore, wp_bastore, wp_lastore, wp_aastore, wp_new, wp_newarray, wp_anewarray, wp_multianewarray, wp_invokevirtual, wp_invokespecial, wp_invokestatic, wp_ireturn, wp_lreturn, wp_areturn, wp_return_, wpL, ldI, ldJ, ldA, lk, sL, cL, i1, i2, l1, l2, r1, pA, p1, p2, ar, tyAt, rcv, rcr, oO, cmpI, Value.category, rf_some, rf_none, ak, kc, List.drop_succ_cons, List.drop_zero, List.drop_nil, List.take_succ_cons, List.take_zero, List.take_nil, List.head?_cons, List.reverse_cons, List.reverse_nil, List.nil_append, List.cons_append, List.length_cons, List.length_nil, Option.toList_some, Option.toList_none, hT_sI, hT_sJ, hT_sR, hI_sJ, hI_sR, hJ_sI, hJ_sR, hR_sI, hR_sJ, isO_sI, isO_sJ, isO_sR, iI_add, iI_sub, iI_mul, iI_neg, lv_args, Nat.reduceAdd, Nat.reduceEqDiff, Nat.reduceLeDiff, reduceIte, ite_true, ite_false, true_and, and_true, false_and, and_false, not_true, not_false_iff, or_true, true_or, false_or, or_false, imp_self, ne_eq, Classical.not_not, forall_const, true_implies, false_implies, if_pos, Nat.zero_add, Nat.add_zero, Nat.le_refl, Nat.reduceLT, iz00, iz01, iz10, iz11, ib0, ib1, ib01, reduceCtorEq, e1]
      refine hG.1 46 _ _ _ _ ?_
      rw [bq_X9_sums_46]
      simp only [bk_X9_sums_46, wp_aconst_null, wp_iconst, wp_bipush, wp_sipush, wp_ldc, wp_ldc_w, wp_ldc2_w, wp_lconst, wp_iload, wp_iload_n, wp_lload, wp_lload_n, wp_aload, wp_aload_n, wp_istore, wp_istore_n, wp_lstore, wp_lstore_n, wp_astore, wp_astore_n, wp_iinc, wp_iadd, wp_isub, wp_imul, wp_iand, wp_ior, wp_ixor, wp_ishl, wp_ishr, wp_iushr, wp_idiv, wp_irem, wp_ineg, wp_ladd, wp_lsub, wp_lmul, wp_ldiv, wp_lrem, wp_lcmp, wp_i2l, wp_l2i, wp_pop, wp_dup, wp_dup2, wp_goto, wp_ifCond, wp_if_icmp, wp_ifnull, wp_ifnonnull, wp_tableswitch, wp_getfield, wp_putfield, wp_arraylength, wp_iaload, wp_baload, wp_laload, wp_aaload, wp_iastore, wp_bastore, wp_lastore, wp_aastore, wp_new, wp_newarray, wp_anewarray, wp_multianewarray, wp_invokevirtual, wp_invokespecial, wp_invokestatic, wp_ireturn, wp_lreturn, wp_areturn, wp_return_, wpL, ldI, ldJ, ldA, lk, sL, cL, i1, i2, l1, l2, r1, pA, p1, p2, ar, tyAt, rcv, rcr, oO, cmpI, Value.category, rf_some, rf_none, ak, kc, List.drop_succ_cons, List.drop_zero, List.drop_nil, List.take_succ_cons, List.take_zero, List.take_nil, List.head?_cons, List.reverse_cons, List.reverse_nil, List.nil_append, List.cons_append, List.length_cons, List.length_nil, Option.toList_some, Option.toList_none, hT_sI, hT_sJ, hT_sR, hI_sJ, hI_sR, hJ_sI, hJ_sR, hR_sI, hR_sJ, isO_sI, isO_sJ, isO_sR, iI_add, iI_sub, iI_mul, iI_neg, lv_args, Nat.reduceAdd, Nat.reduceEqDiff, Nat.reduceLeDiff, reduceIte, ite_true, ite_false, true_and, and_true, false_and, and_false, not_true, not_false_iff, or_true, true_or, false_or, or_false, imp_self, ne_eq, Classical.not_not, forall_const, true_implies, false_implies, if_pos, Nat.zero_add, Nat.add_zero, Nat.le_refl, Nat.reduceLT, iz00, iz01, iz10, iz11, ib0, ib1, ib01, reduceCtorEq]
      refine hQ _ ⟨fun k hk => ?_, fun m' k h1 h2 h3 h4 h5 h6 => ?_⟩
      · rw [b32_and]
        by_cases c : k < 32
        · rw [rm5 k c, decide_eq_false (by omega), Bool.and_false]
        · rw [b32_hi b (by omega)]; rfl
      · rw [b32_and, rm5 _ (by omega), decide_eq_true (by omega), Bool.and_true]
        exact hb m' k (by omega) h2 h3 h4 h5 h6
    | succ n ih =>
      intro m b hm hb
      have e1 : (iI 12 < iI ((m : Int) - 12)) = False := eq_false (by rw [iI_lt (by omega) (by omega)]; omega)
      have e2 : (m : Int) - 12 + 12 = (m : Int) := by omega
      have e3 := b32_t (n := m) (by omega) x
      have e4 : (0 ≤ iI ((m : Int) - 12)) = (12 ≤ m) := propext ((iI_0le (by omega)).trans (by omega))
      have nxt : ∀ b2 : Int32, (∀ m' k, m' < m + 1 → k < 25 → 12 ≤ m' + k → m' + k ≤ 36 → b32 x m' = true → b32 y k = true → b32 b2 (m' + k - 12) = true) → G 40 [(0, .int x), (1, .int y), (2, .int b2), (3, .int (iI ((m : Int) - 12)))] [] h (0, 0) := by
        intro bb hbb
        refine hG.1 40 _ _ _ _ ?_
        rw [bq_X9_sums_40]
        simp only [bk_X9_sums_40, wp_aconst_null, wp_iconst, wp_bipush, wp_sipush, wp_ldc, wp_ldc_w, wp_ldc2_w, wp_lconst, wp_iload, wp_iload_n, wp_lload, wp_lload_n, wp_aload, wp_aload_n, wp_istore, wp_istore_n, wp_lstore, wp_lstore_n, wp_astore, wp_astore_n, wp_iinc, wp_iadd, wp_isub, wp_imul, wp_iand, wp_ior, wp_ixor, wp_ishl, wp_ishr, wp_iushr, wp_idiv, wp_irem, wp_ineg, wp_ladd, wp_lsub, wp_lmul, wp_ldiv, wp_lrem, wp_lcmp, wp_i2l, wp_l2i, wp_pop, wp_dup, wp_dup2, wp_goto, wp_ifCond, wp_if_icmp, wp_ifnull, wp_ifnonnull, wp_tableswitch, wp_getfield, wp_putfield, wp_arraylength, wp_iaload, wp_baload, wp_laload, wp_aaload, wp_iastore, wp_bastore, wp_lastore, wp_aastore, wp_new, wp_newarray, wp_anewarray, wp_multianewarray, wp_invokevirtual, wp_invokespecial, wp_invokestatic, wp_ireturn, wp_lreturn, wp_areturn, wp_return_, wpL, ldI, ldJ, ldA, lk, sL, cL, i1, i2, l1, l2, r1, pA, p1, p2, ar, tyAt, rcv, rcr, oO, cmpI, Value.category, rf_some, rf_none, ak, kc, List.drop_succ_cons, List.drop_zero, List.drop_nil, List.take_succ_cons, List.take_zero, List.take_nil, List.head?_cons, List.reverse_cons, List.reverse_nil, List.nil_append, List.cons_append, List.length_cons, List.length_nil, Option.toList_some, Option.toList_none, hT_sI, hT_sJ, hT_sR, hI_sJ, hI_sR, hJ_sI, hJ_sR, hR_sI, hR_sJ, isO_sI, isO_sJ, isO_sR, iI_add, iI_sub, iI_mul, iI_neg, lv_args, Nat.reduceAdd, Nat.reduceEqDiff, Nat.reduceLeDiff, reduceIte, ite_true, ite_false, true_and, and_true, false_and, and_false, not_true, not_false_iff, or_true, true_or, false_or, or_false, imp_self, ne_eq, Classical.not_not, forall_const, true_implies, false_implies, if_pos, Nat.zero_add, Nat.add_zero, Nat.le_refl, Nat.reduceLT, iz00, iz01, iz10, iz11, ib0, ib1, ib01, reduceCtorEq]
        have q := ih (m + 1) bb (by omega) hbb
        rw [show ((m + 1 : Nat) : Int) - 12 = (m : Int) - 12 + 1 by omega] at q
        exact q
      refine hG.1 5 _ _ _ _ ?_
      rw [bq_X9_sums_5]
      simp only [bk_X9_sums_5, wp_aconst_null, wp_iconst, wp_bipush, wp_sipush, wp_ldc, wp_ldc_w, wp_ldc2_w, wp_lconst, wp_iload, wp_iload_n, wp_lload, wp_lload_n, wp_aload, wp_aload_n, wp_istore, wp_istore_n, wp_lstore, wp_lstore_n, wp_astore, wp_astore_n, wp_iinc, wp_iadd, wp_isub, wp_imul, wp_iand, wp_ior, wp_ixor, wp_ishl, wp_ishr, wp_iushr, wp_idiv, wp_irem, wp_ineg, wp_ladd, wp_lsub, wp_lmul, wp_ldiv, wp_lrem, wp_lcmp, wp_i2l, wp_l2i, wp_pop, wp_dup, wp_dup2, wp_goto, wp_ifCond, wp_if_icmp, wp_ifnull, wp_ifnonnull, wp_tableswitch, wp_getfield, wp_putfield, wp_arraylength, wp_iaload, wp_baload, wp_laload, wp_aaload, wp_iastore, wp_bastore, wp_lastore, wp_aastore, wp_new, wp_newarray, wp_anewarray, wp_multianewarray, wp_invokevirtual, wp_invokespecial, wp_invokestatic, wp_ireturn, wp_lreturn, wp_areturn, wp_return_, wpL, ldI, ldJ, ldA, lk, sL, cL, i1, i2, l1, l2, r1, pA, p1, p2, ar, tyAt, rcv, rcr, oO, cmpI, Value.category, rf_some, rf_none, ak, kc, List.drop_succ_cons, List.drop_zero, List.drop_nil, List.take_succ_cons, List.take_zero, List.take_nil, List.head?_cons, List.reverse_cons, List.reverse_nil, List.nil_append, List.cons_append, List.length_cons, List.length_nil, Option.toList_some, Option.toList_none, hT_sI, hT_sJ, hT_sR, hI_sJ, hI_sR, hJ_sI, hJ_sR, hR_sI, hR_sJ, isO_sI, isO_sJ, isO_sR, iI_add, iI_sub, iI_mul, iI_neg, lv_args, Nat.reduceAdd, Nat.reduceEqDiff, Nat.reduceLeDiff, reduceIte, ite_true, ite_false, true_and, and_true, false_and, and_false, not_true, not_false_iff, or_true, true_or, false_or, or_false, imp_self, ne_eq, Classical.not_not, forall_const, true_implies, false_implies, if_pos, Nat.zero_add, Nat.add_zero, Nat.le_refl, Nat.reduceLT, iz00, iz01, iz10, iz11, ib0, ib1, ib01, reduceCtorEq, e1, e2, e3, e4]
      refine ⟨fun c => ?_, fun c => ⟨fun d => ?_, fun d => ?_⟩⟩
      · refine nxt b (fun m' k h1 h2 h3 h4 h5 h6 => ?_)
        by_cases z : m' = m
        · rw [z] at h5; exact absurd h5 c
        · exact hb m' k (by omega) h2 h3 h4 h5 h6
      · refine hG.1 35 _ _ _ _ ?_
        rw [bq_X9_sums_35]
        simp only [bk_X9_sums_35, wp_aconst_null, wp_iconst, wp_bipush, wp_sipush, wp_ldc, wp_ldc_w, wp_ldc2_w, wp_lconst, wp_iload, wp_iload_n, wp_lload, wp_lload_n, wp_aload, wp_aload_n, wp_istore, wp_istore_n, wp_lstore, wp_lstore_n, wp_astore, wp_astore_n, wp_iinc, wp_iadd, wp_isub, wp_imul, wp_iand, wp_ior, wp_ixor, wp_ishl, wp_ishr, wp_iushr, wp_idiv, wp_irem, wp_ineg, wp_ladd, wp_lsub, wp_lmul, wp_ldiv, wp_lrem, wp_lcmp, wp_i2l, wp_l2i, wp_pop, wp_dup, wp_dup2, wp_goto, wp_ifCond, wp_if_icmp, wp_ifnull, wp_ifnonnull, wp_tableswitch, wp_getfield, wp_putfield, wp_arraylength, wp_iaload, wp_baload, wp_laload, wp_aaload, wp_iastore, wp_bastore, wp_lastore, wp_aastore, wp_new, wp_newarray, wp_anewarray, wp_multianewarray, wp_invokevirtual, wp_invokespecial, wp_invokestatic, wp_ireturn, wp_lreturn, wp_areturn, wp_return_, wpL, ldI, ldJ, ldA, lk, sL, cL, i1, i2, l1, l2, r1, pA, p1, p2, ar, tyAt, rcv, rcr, oO, cmpI, Value.category, rf_some, rf_none, ak, kc, List.drop_succ_cons, List.drop_zero, List.drop_nil, List.take_succ_cons, List.take_zero, List.take_nil, List.head?_cons, List.reverse_cons, List.reverse_nil, List.nil_append, List.cons_append, List.length_cons, List.length_nil, Option.toList_some, Option.toList_none, hT_sI, hT_sJ, hT_sR, hI_sJ, hI_sR, hJ_sI, hJ_sR, hR_sI, hR_sJ, isO_sI, isO_sJ, isO_sR, iI_add, iI_sub, iI_mul, iI_neg, lv_args, Nat.reduceAdd, Nat.reduceEqDiff, Nat.reduceLeDiff, reduceIte, ite_true, ite_false, true_and, and_true, false_and, and_false, not_true, not_false_iff, or_true, true_or, false_or, or_false, imp_self, ne_eq, Classical.not_not, forall_const, true_implies, false_implies, if_pos, Nat.zero_add, Nat.add_zero, Nat.le_refl, Nat.reduceLT, iz00, iz01, iz10, iz11, ib0, ib1, ib01, reduceCtorEq]
        refine hG.1 38 _ _ _ _ ?_
        rw [bq_X9_sums_38]
        simp only [bk_X9_sums_38, wp_aconst_null, wp_iconst, wp_bipush, wp_sipush, wp_ldc, wp_ldc_w, wp_ldc2_w, wp_lconst, wp_iload, wp_iload_n, wp_lload, wp_lload_n, wp_aload, wp_aload_n, wp_istore, wp_istore_n, wp_lstore, wp_lstore_n, wp_astore, wp_astore_n, wp_iinc, wp_iadd, wp_isub, wp_imul, wp_iand, wp_ior, wp_ixor, wp_ishl, wp_ishr, wp_iushr, wp_idiv, wp_irem, wp_ineg, wp_ladd, wp_lsub, wp_lmul, wp_ldiv, wp_lrem, wp_lcmp, wp_i2l, wp_l2i, wp_pop, wp_dup, wp_dup2, wp_goto, wp_ifCond, wp_if_icmp, wp_ifnull, wp_ifnonnull, wp_tableswitch, wp_getfield, wp_putfield, wp_arraylength, wp_iaload, wp_baload, wp_laload, wp_aaload, wp_iastore, wp_bastore, wp_lastore, wp_aastore, wp_new, wp_newarray, wp_anewarray, wp_multianewarray, wp_invokevirtual, wp_invokespecial, wp_invokestatic, wp_ireturn, wp_lreturn, wp_areturn, wp_return_, wpL, ldI, ldJ, ldA, lk, sL, cL, i1, i2, l1, l2, r1, pA, p1, p2, ar, tyAt, rcv, rcr, oO, cmpI, Value.category, rf_some, rf_none, ak, kc, List.drop_succ_cons, List.drop_zero, List.drop_nil, List.take_succ_cons, List.take_zero, List.take_nil, List.head?_cons, List.reverse_cons, List.reverse_nil, List.nil_append, List.cons_append, List.length_cons, List.length_nil, Option.toList_some, Option.toList_none, hT_sI, hT_sJ, hT_sR, hI_sJ, hI_sR, hJ_sI, hJ_sR, hR_sI, hR_sJ, isO_sI, isO_sJ, isO_sR, iI_add, iI_sub, iI_mul, iI_neg, lv_args, Nat.reduceAdd, Nat.reduceEqDiff, Nat.reduceLeDiff, reduceIte, ite_true, ite_false, true_and, and_true, false_and, and_false, not_true, not_false_iff, or_true, true_or, false_or, or_false, imp_self, ne_eq, Classical.not_not, forall_const, true_implies, false_implies, if_pos, Nat.zero_add, Nat.add_zero, Nat.le_refl, Nat.reduceLT, iz00, iz01, iz10, iz11, ib0, ib1, ib01, reduceCtorEq]
        refine nxt _ (fun m' k h1 h2 h3 h4 h5 h6 => ?_)
        rw [b32_or]
        by_cases z : m' = m
        · subst z
          rw [show ((m' : Nat) : Int) - 12 = ((m' - 12 : Nat) : Int) by omega, b32_shl (by omega) y (by omega), decide_eq_true (by omega), show m' + k - 12 - (m' - 12) = k by omega, h6]
          simp
        · rw [hb m' k (by omega) h2 h3 h4 h5 h6]; rfl
      · refine hG.1 38 _ _ _ _ ?_
        rw [bq_X9_sums_38]
        simp only [bk_X9_sums_38, wp_aconst_null, wp_iconst, wp_bipush, wp_sipush, wp_ldc, wp_ldc_w, wp_ldc2_w, wp_lconst, wp_iload, wp_iload_n, wp_lload, wp_lload_n, wp_aload, wp_aload_n, wp_istore, wp_istore_n, wp_lstore, wp_lstore_n, wp_astore, wp_astore_n, wp_iinc, wp_iadd, wp_isub, wp_imul, wp_iand, wp_ior, wp_ixor, wp_ishl, wp_ishr, wp_iushr, wp_idiv, wp_irem, wp_ineg, wp_ladd, wp_lsub, wp_lmul, wp_ldiv, wp_lrem, wp_lcmp, wp_i2l, wp_l2i, wp_pop, wp_dup, wp_dup2, wp_goto, wp_ifCond, wp_if_icmp, wp_ifnull, wp_ifnonnull, wp_tableswitch, wp_getfield, wp_putfield, wp_arraylength, wp_iaload, wp_baload, wp_laload, wp_aaload, wp_iastore, wp_bastore, wp_lastore, wp_aastore, wp_new, wp_newarray, wp_anewarray, wp_multianewarray, wp_invokevirtual, wp_invokespecial, wp_invokestatic, wp_ireturn, wp_lreturn, wp_areturn, wp_return_, wpL, ldI, ldJ, ldA, lk, sL, cL, i1, i2, l1, l2, r1, pA, p1, p2, ar, tyAt, rcv, rcr, oO, cmpI, Value.category, rf_some, rf_none, ak, kc, List.drop_succ_cons, List.drop_zero, List.drop_nil, List.take_succ_cons, List.take_zero, List.take_nil, List.head?_cons, List.reverse_cons, List.reverse_nil, List.nil_append, List.cons_append, List.length_cons, List.length_nil, Option.toList_some, Option.toList_none, hT_sI, hT_sJ, hT_sR, hI_sJ, hI_sR, hJ_sI, hJ_sR, hR_sI, hR_sJ, isO_sI, isO_sJ, isO_sR, iI_add, iI_sub, iI_mul, iI_neg, lv_args, Nat.reduceAdd, Nat.reduceEqDiff, Nat.reduceLeDiff, reduceIte, ite_true, ite_false, true_and, and_true, false_and, and_false, not_true, not_false_iff, or_true, true_or, false_or, or_false, imp_self, ne_eq, Classical.not_not, forall_const, true_implies, false_implies, if_pos, Nat.zero_add, Nat.add_zero, Nat.le_refl, Nat.reduceLT, iz00, iz01, iz10, iz11, ib0, ib1, ib01, reduceCtorEq]
        refine nxt _ (fun m' k h1 h2 h3 h4 h5 h6 => ?_)
        rw [b32_or]
        by_cases z : m' = m
        · subst z
          rw [show -(((m' : Nat) : Int) - 12) = ((12 - m' : Nat) : Int) by omega, b32_shr (by omega) y (by omega), if_pos (by omega), show 12 - m' + (m' + k - 12) = k by omega, h6]
          simp
        · rw [hb m' k (by omega) h2 h3 h4 h5 h6]; rfl
  refine hG.1 0 _ _ _ _ ?_
  rw [bq_X9_sums_0]
  simp only [bk_X9_sums_0, wp_aconst_null, wp_iconst, wp_bipush, wp_sipush, wp_ldc, wp_ldc_w, wp_ldc2_w, wp_lconst, wp_iload, wp_iload_n, wp_lload, wp_lload_n, wp_aload, wp_aload_n, wp_istore, wp_istore_n, wp_lstore, wp_lstore_n, wp_astore, wp_astore_n, wp_iinc, wp_iadd, wp_isub, wp_imul, wp_iand, wp_ior, wp_ixor, wp_ishl, wp_ishr, wp_iushr, wp_idiv, wp_irem, wp_ineg, wp_ladd, wp_lsub, wp_lmul, wp_ldiv, wp_lrem, wp_lcmp, wp_i2l, wp_l2i, wp_pop, wp_dup, wp_dup2, wp_goto, wp_ifCond, wp_if_icmp, wp_ifnull, wp_ifnonnull, wp_tableswitch, wp_getfield, wp_putfield, wp_arraylength, wp_iaload, wp_baload, wp_laload, wp_aaload, wp_iastore, wp_bastore, wp_lastore, wp_aastore, wp_new, wp_newarray, wp_anewarray, wp_multianewarray, wp_invokevirtual, wp_invokespecial, wp_invokestatic, wp_ireturn, wp_lreturn, wp_areturn, wp_return_, wpL, ldI, ldJ, ldA, lk, sL, cL, i1, i2, l1, l2, r1, pA, p1, p2, ar, tyAt, rcv, rcr, oO, cmpI, Value.category, rf_some, rf_none, ak, kc, List.drop_succ_cons, List.drop_zero, List.drop_nil, List.take_succ_cons, List.take_zero, List.take_nil, List.head?_cons, List.reverse_cons, List.reverse_nil, List.nil_append, List.cons_append, List.length_cons, List.length_nil, Option.toList_some, Option.toList_none, hT_sI, hT_sJ, hT_sR, hI_sJ, hI_sR, hJ_sI, hJ_sR, hR_sI, hR_sJ, isO_sI, isO_sJ, isO_sR, iI_add, iI_sub, iI_mul, iI_neg, lv_args, Nat.reduceAdd, Nat.reduceEqDiff, Nat.reduceLeDiff, reduceIte, ite_true, ite_false, true_and, and_true, false_and, and_false, not_true, not_false_iff, or_true, true_or, false_or, or_false, imp_self, ne_eq, Classical.not_not, forall_const, true_implies, false_implies, if_pos, Nat.zero_add, Nat.add_zero, Nat.le_refl, Nat.reduceLT, iz00, iz01, iz10, iz11, ib0, ib1, ib01, reduceCtorEq]
  exact loop 25 0 _ (by omega) (fun m' k h1 => by omega)
theorem val_X9_sums (g : GP) : Val g yX9_sums prog_11_method_9_code 4 (some .int) 1 60 0 0 sp_X9_sums := val_of (own := RX9) (ini := false) (on := 9) (rs := rs_X9_sums) (cl := cl_X9_sums) (rt := 1) (bl := bl_X9_sums) (plainFor_of_name (by decide +kernel)) rfl (rok_X9 _) ck_X9_sums (fun h => by cases h) rfl ((fun _ h => absurd h List.not_mem_nil)) pf_X9_sums

