/-! leaves -/
def cl_X4_heightAt : Nat → Nat × Nat × Spec := fun q => (0, 0, fun _ _ _ => False)

def sp_X4_heightAt : Spec := fun as h K => ∃ a x y, as = [.ref a, .int x, .int y] ∧ isO h a 4 ∧ K (some (.int (hI h 4 0 a + hI h 4 1 a * x + hI h 4 2 a * y))) h
theorem pf_X4_heightAt : PfM cl_X4_heightAt (0, 0) 1 3 bl_X4_heightAt sp_X4_heightAt := by
  rintro as h Q ⟨a, x, y, rfl, h1, hQ⟩
  refine ⟨Nat.le_of_ble_eq_true rfl, fun G hG => ?_⟩
  refine hG.1 0 _ _ _ _ ?_
  rw [bq_X4_heightAt_0]
  simp only [bk_X4_heightAt_0, wp_aconst_null, wp_iconst, wp_bipush, wp_sipush, wp_ldc, wp_ldc_w, wp_ldc2_w, wp_lconst, wp_iload, wp_iload_n, wp_lload, wp_lload_n, wp_aload, wp_aload_n, wp_istore, wp_istore_n, wp_lstore, wp_lstore_n, wp_astore, wp_astore_n, wp_iinc, wp_iadd, wp_isub, wp_imul, wp_iand, wp_ior, wp_ixor, wp_ishl, wp_ishr, wp_iushr, wp_idiv, wp_irem, wp_ineg, wp_ladd, wp_lsub, wp_lmul, wp_ldiv, wp_lrem, wp_lcmp, wp_i2l, wp_l2i, wp_pop, wp_dup, wp_dup2, wp_goto, wp_ifCond, wp_if_icmp, wp_ifnull, wp_ifnonnull, wp_tableswitch, wp_getfield, wp_putfield, wp_arraylength, wp_iaload, wp_baload, wp_laload, wp_aaload, wp_iastore, wp_bastore, wp_lastore, wp_aastore, wp_new, wp_newarray, wp_anewarray, wp_multianewarray, wp_invokevirtual, wp_invokespecial, wp_invokestatic, wp_ireturn, wp_lreturn, wp_areturn, wp_return_, wpL, ldI, ldJ, ldA, lk, sL, cL, i1, i2, l1, l2, r1, pA, p1, p2, ar, tyAt, rcv, rcr, oO, cmpI, Value.category, rf_some, rf_none, ak, kc, List.drop_succ_cons, List.drop_zero, List.drop_nil, List.take_succ_cons, List.take_zero, List.take_nil, List.head?_cons, List.reverse_cons, List.reverse_nil, List.nil_append, List.cons_append, List.length_cons, List.length_nil, Option.toList_some, Option.toList_none, hT_sI, hT_sJ, hT_sR, hI_sJ, hI_sR, hJ_sI, hJ_sR, hR_sI, hR_sJ, isO_sI, isO_sJ, isO_sR, iI_add, iI_sub, iI_mul, iI_neg, lv_args, Nat.reduceAdd, Nat.reduceEqDiff, Nat.reduceLeDiff, reduceIte, ite_true, ite_false, true_and, and_true, false_and, and_false, not_true, not_false_iff, or_true, true_or, false_or, or_false, imp_self, ne_eq, Classical.not_not, forall_const, true_implies, false_implies, if_pos, Nat.zero_add, Nat.add_zero, Nat.le_refl, Nat.reduceLT, h1]
  exact hQ
theorem val_X4_heightAt (g : GP) : Val g yX4_heightAt prog_6_method_3_code 3 (some .int) 1 60 0 0 sp_X4_heightAt := val_of (own := RX4) (ini := false) (on := 4) (rs := rs_X4_heightAt) (cl := cl_X4_heightAt) (rt := 1) (bl := bl_X4_heightAt) (by decide +kernel) rfl (rok_X4 _) ck_X4_heightAt (fun h => by cases h) rfl ((fun _ h => absurd h List.not_mem_nil)) pf_X4_heightAt

