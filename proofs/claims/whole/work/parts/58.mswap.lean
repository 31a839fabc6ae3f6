/-! the reference: swaps -/
theorem ms_clr : ∀ m : Nat, m < 128 → ∀ a : Nat, a < 7 → m.testBit a = false → iI ((m ||| 2 ^ a : Nat) : Nat) &&& ((iI 1 <<< (iI (a : Nat) &&& 31)) ^^^ iI (-1)) = iI (m : Nat) := by decide +kernel
theorem ms_t1 : ∀ m : Nat, m < 128 → ∀ a : Nat, a < 7 → (iI (m : Nat) >>> (iI (a : Nat) &&& 31) &&& iI 1 = iI 1 ↔ m.testBit a = true) := by decide +kernel
abbrev SB : Type := Int × (Nat → Nat)
def lpU (f : Nat → SB → SB) : Nat → Nat → SB → SB
  | 0, _, b => b
  | k + 1, h, b => lpU f k (h + 1) (f h b)
def upN (f : Nat → Nat) (i v : Nat) : Nat → Nat := fun j => if j = i then v else f j
/-- all ways to give holes to the pieces from a on (r of them), in order: the first of the cheapest stays -/
def SU (st : St) (n : Nat) : Nat → Nat → Nat → Int → (Nat → Nat) → SB → SB
  | 0, _, _, sum, hs, b => if b.1 < 0 ∨ sum < b.1 then (sum, hs) else b
  | r + 1, a, m, sum, hs, b => lpU (fun h b => if m.testBit h = true then b else SU st n r (a + 1) (m ||| 2 ^ h) (sum + csS st (selS st a) (selS st h)) (upN hs a h) b) n 0 b
def swF (st : St) (n r a m : Nat) (sum : Int) (hs : Nat → Nat) : Nat → SB → SB := fun h b => if m.testBit h = true then b else SU st n r (a + 1) (m ||| 2 ^ h) (sum + csS st (selS st a) (selS st h)) (upN hs a h) b
def swM (st : St) : SB := SU st (nIn st) (nIn st) 0 0 0 (fun _ => 0) (-1, fun _ => 0)
theorem SU_rg {st : St} (w : WF st) (n : Nat) : ∀ (r a m : Nat) (sum : Int) (hs : Nat → Nat) (b : SB), (0 ≤ sum ∧ sum ≤ 243 * (a : Int)) → (-1 ≤ b.1 ∧ b.1 ≤ 5000) → a + r ≤ 7 → -1 ≤ (SU st n r a m sum hs b).1 ∧ (SU st n r a m sum hs b).1 ≤ 5000 := by
  intro r
  induction r with
  | zero =>
    intro a m sum hs b h1 h2 h3
    unfold SU
    split
    · dsimp only; omega
    · exact h2
  | succ r ih =>
    intro a m sum hs b h1 h2 h3
    unfold SU
    have key : ∀ (k h : Nat) (b : SB), (-1 ≤ b.1 ∧ b.1 ≤ 5000) → (-1 ≤ (lpU (swF st n r a m sum hs) k h b).1 ∧ (lpU (swF st n r a m sum hs) k h b).1 ≤ 5000) := by
      intro k
      induction k with
      | zero => exact fun _ _ h => h
      | succ k ik =>
        intro h b hb
        unfold lpU
        refine ik _ _ ?_
        unfold swF
        have c := csS_rg w (selS st a) (selS st h)
        split
        · exact hb
        · exact ih (a + 1) _ _ _ b (by omega) hb (by omega)
    exact key n 0 b h2
def cl_X12_laySwap : Nat → Nat × Nat × Spec := fun q => if q = 174 then (0, 0, sp_X12_costOf) else (0, 0, fun _ _ _ => False)
theorem cq_X12_laySwap_174 : cl_X12_laySwap 174 = (0, 0, sp_X12_costOf) := rfl

def SM (h : hp) (A : Nat → Nat) (st : St) (b : SB) : Prop := 0 ≤ b.1 → ∀ k, k < nIn st → hI h 139 (selS st k) (A 36) = iI (selS st (b.2 k) : Nat)
def sp_X12_laySwap : Spec := fun as h K => ∃ (m : Nat) (A : Nat → Nat) (st : St), as = [.ref m] ∧ RM h m A st ∧ WF st ∧ ∀ h', (nIn st ≠ 0 → SM h' A st (swM st)) → Fm h h' → K (some (.int (iI (if nIn st = 0 then 0 else (swM st).1)))) h'
theorem pf_X12_laySwap : PfM cl_X12_laySwap (0, 0) 1 8 bl_X12_laySwap sp_X12_laySwap := by
  rintro as h Q ⟨m, A, st, rfl, M, w, hQ⟩
  refine ⟨Nat.le_of_ble_eq_true rfl, fun G hG => ?_⟩
  have h0 := w.1.1
  have hN := nIn_le w
  obtain ⟨n, hn⟩ : ∃ n, n = nIn st := ⟨_, rfl⟩
  rw [← hn] at hQ hN
  -- rows, holes, the best
  obtain ⟨J, hJ⟩ : ∃ J : hp → Prop, J = fun h' => Fm h h' ∧ ∀ k, k < n → hI h' 135 k (A 32) = iI (selS st k : Nat) := ⟨_, rfl⟩
  have sel7 : ∀ k, k < n → selS st k < 7 := fun k hk => by
    have := (sel_ex w (k := k) (by omega)).1
    omega
  have selj : ∀ i j, i < n → j < n → selS st i = selS st j → i = j := fun i j hi hj e => by
    have a1 := (sel_ex w (k := i) (by omega)).2.2
    have a2 := (sel_ex w (k := j) (by omega)).2.2
    rw [e] at a1
    omega
  have mv : ∀ {hx hy : hp} {c k x : Nat} {v : Int32}, J hx → msc c k = true → c ≠ 135 → hy = sI hx c k x v → J hy := by
    intro hx hy c k x v jx hc hc2 e
    rw [hJ] at jx ⊢
    rw [e]
    exact ⟨jx.1.i hc, fun k' hk' => by rw [hI_sI, if_neg (fun z => hc2 z.1.symm)]; exact jx.2 k' hk'⟩
  have lvl : ∀ (r a mm : Nat) (sum : Int) (hs : Nat → Nat) (b0 : SB), a + r + 1 = n → mm < 128 → (0 ≤ sum ∧ sum ≤ 243 * (a : Int)) →
      (∀ (h2 : hp) (X : Lc), J h2 → SM h2 A st b0 → (∀ k, k < a → hI h2 138 k (A 35) = iI (hs k : Nat)) → G 60 ([(0, .ref m), (1, .int (iI (n : Nat))), (2, .int (iI b0.1)), (3, .int (iI ((a : Int) - 1))), (4, .int (iI (mm : Nat))), (5, .int (iI sum))] ++ X) [] h2 (0, 0)) →
      (∀ (hh : Nat) (b : SB) (h2 : hp), hh < n → mm.testBit hh = false → (-1 ≤ b.1 ∧ b.1 ≤ 5000) → J h2 → SM h2 A st b → (∀ k, k < a + 1 → hI h2 138 k (A 35) = iI (upN hs a hh k : Nat)) →
        (∀ (h3 : hp) (X : Lc), J h3 → SM h3 A st (swF st n r a mm sum hs hh b) → (∀ k, k < a + 1 → hI h3 138 k (A 35) = iI (upN hs a hh k : Nat)) → G 60 ([(0, .ref m), (1, .int (iI (n : Nat))), (2, .int (iI (swF st n r a mm sum hs hh b).1)), (3, .int (iI (a : Nat))), (4, .int (iI (mm ||| 2 ^ hh : Nat))), (5, .int (iI (sum + csS st (selS st a) (selS st hh))))] ++ X) [] h3 (0, 0)) → G 195 [(0, .ref m), (1, .int (iI (n : Nat))), (2, .int (iI b.1)), (3, .int (iI (a : Nat))), (4, .int (iI (mm ||| 2 ^ hh : Nat))), (5, .int (iI sum)), (6, .int (iI (hh : Nat)))] [.int (iI (csS st (selS st a) (selS st hh))), .int (iI sum)] h2 (0, 0)) →
      ∀ (K hh : Nat) (b : SB) (h' : hp) (X : Lc), hh + K = n → lpU (swF st n r a mm sum hs) K hh b = b0 → (-1 ≤ b.1 ∧ b.1 ≤ 5000) → J h' → SM h' A st b → (∀ k, k < a → hI h' 138 k (A 35) = iI (hs k : Nat)) → G 124 ([(0, .ref m), (1, .int (iI (n : Nat))), (2, .int (iI b.1)), (3, .int (iI (a : Nat))), (4, .int (iI (mm : Nat))), (5, .int (iI sum)), (6, .int (iI (hh : Nat)))] ++ X) [] h' (0, 0) := by
    intro r a mm sum hs b0 har hmm hsum kk ch K
    have ha7 : a < 7 := by omega
    induction K with
    | zero =>
      intro hh b h' X hk hb hbr jh sm pre
      refine hG.2 124 _ [(0, .ref m), (1, .int (iI (n : Nat))), (2, .int (iI b.1)), (3, .int (iI (a : Nat))), (4, .int (iI (mm : Nat))), (5, .int (iI sum)), (6, .int (iI (hh : Nat)))] _ _ _ (fun q hq => List.mem_append_left X hq) ?_
      have e1 : (iI (n : Nat) ≤ iI (hh : Nat)) = True := eq_true ((iI_le (by omega) (by omega)).mpr (by omega))
      have e2 : (iI (hh : Nat) = iI (n : Nat)) = True := eq_true (by rw [show hh = n by omega])
      refine hG.1 124 _ _ _ _ ?_
      rw [bq_X12_laySwap_124]
      simp only [bk_X12_laySwap_124, wp_aconst_null, wp_iconst, wp_bipush, wp_sipush, wp_ldc, wp_ldc_w, wp_ldc2_w, wp_lconst, wp_iload, wp_iload_n, wp_lload, wp_lload_n, wp_aload, wp_aload_n, wp_istore, wp_istore_n, wp_lstore, wp_lstore_n, wp_astore, wp_astore_n, wp_iinc, wp_iadd, wp_isub, wp_imul, wp_iand, wp_ior, wp_ixor, wp_ishl, wp_ishr, wp_iushr, wp_idiv, wp_irem, wp_ineg, wp_ladd, wp_lsub, wp_lmul, wp_ldiv, wp_lrem, wp_lcmp, wp_i2l, wp_l2i, wp_pop, wp_dup, wp_dup2, wp_goto, wp_ifCond, wp_if_icmp, wp_ifnull, wp_ifnonnull, wp_tableswitch, wp_getfield, wp_putfield, wp_arraylength, wp_iaload, wp_baload, wp_laload, wp_aaload, wp_iastore, wp_bastore, wp_lastore, wp_aastore, wp_new, wp_newarray, wp_anewarray, wp_multianewarray, wp_invokevirtual, wp_invokespecial, wp_invokestatic, wp_ireturn, wp_lreturn, wp_areturn, wp_return_, wpL, ldI, ldJ, ldA, lk, sL, cL, i1, i2, l1, l2, r1, pA, p1, p2, ar, tyAt, rcv, rcr, oO, cmpI, Value.category, rf_some, rf_none, ak, kc, List.drop_succ_cons, List.drop_zero, List.drop_nil, List.take_succ_cons, List.take_zero, List.take_nil, List.head?_cons, List.reverse_cons, List.reverse_nil, List.nil_append, List.cons_append, List.length_cons, List.length_nil, Option.toList_some, Option.toList_none, hT_sI, hT_sJ, hT_sR, hI_sJ, hI_sR, hJ_sI, hJ_sR, hR_sI, hR_sJ, isO_sI, isO_sJ, isO_sR, iI_add, iI_sub, iI_mul, iI_neg, lv_args, Nat.reduceAdd, Nat.reduceEqDiff, Nat.reduceLeDiff, reduceIte, ite_true, ite_false, true_and, and_true, false_and, and_false, not_true, not_false_iff, or_true, true_or, false_or, or_false, imp_self, ne_eq, Classical.not_not, forall_const, true_implies, false_implies, if_pos, Nat.zero_add, Nat.add_zero, Nat.le_refl, Nat.reduceLT, iz00, iz01, iz10, iz11, ib0, ib1, ib01, reduceCtorEq, cq_X12_laySwap_174, e1]
      refine hG.1 147 _ _ _ _ ?_
      rw [bq_X12_laySwap_147]
      simp only [bk_X12_laySwap_147, wp_aconst_null, wp_iconst, wp_bipush, wp_sipush, wp_ldc, wp_ldc_w, wp_ldc2_w, wp_lconst, wp_iload, wp_iload_n, wp_lload, wp_lload_n, wp_aload, wp_aload_n, wp_istore, wp_istore_n, wp_lstore, wp_lstore_n, wp_astore, wp_astore_n, wp_iinc, wp_iadd, wp_isub, wp_imul, wp_iand, wp_ior, wp_ixor, wp_ishl, wp_ishr, wp_iushr, wp_idiv, wp_irem, wp_ineg, wp_ladd, wp_lsub, wp_lmul, wp_ldiv, wp_lrem, wp_lcmp, wp_i2l, wp_l2i, wp_pop, wp_dup, wp_dup2, wp_goto, wp_ifCond, wp_if_icmp, wp_ifnull, wp_ifnonnull, wp_tableswitch, wp_getfield, wp_putfield, wp_arraylength, wp_iaload, wp_baload, wp_laload, wp_aaload, wp_iastore, wp_bastore, wp_lastore, wp_aastore, wp_new, wp_newarray, wp_anewarray, wp_multianewarray, wp_invokevirtual, wp_invokespecial, wp_invokestatic, wp_ireturn, wp_lreturn, wp_areturn, wp_return_, wpL, ldI, ldJ, ldA, lk, sL, cL, i1, i2, l1, l2, r1, pA, p1, p2, ar, tyAt, rcv, rcr, oO, cmpI, Value.category, rf_some, rf_none, ak, kc, List.drop_succ_cons, List.drop_zero, List.drop_nil, List.take_succ_cons, List.take_zero, List.take_nil, List.head?_cons, List.reverse_cons, List.reverse_nil, List.nil_append, List.cons_append, List.length_cons, List.length_nil, Option.toList_some, Option.toList_none, hT_sI, hT_sJ, hT_sR, hI_sJ, hI_sR, hJ_sI, hJ_sR, hR_sI, hR_sJ, isO_sI, isO_sJ, isO_sR, iI_add, iI_sub, iI_mul, iI_neg, lv_args, Nat.reduceAdd, Nat.reduceEqDiff, Nat.reduceLeDiff, reduceIte, ite_true, ite_false, true_and, and_true, false_and, and_false, not_true, not_false_iff, or_true, true_or, false_or, or_false, imp_self, ne_eq, Classical.not_not, forall_const, true_implies, false_implies, if_pos, Nat.zero_add, Nat.add_zero, Nat.le_refl, Nat.reduceLT, iz00, iz01, iz10, iz11, ib0, ib1, ib01, reduceCtorEq, cq_X12_laySwap_174, e2]
      refine hG.1 270 _ _ _ _ ?_
      rw [bq_X12_laySwap_270]
      simp only [bk_X12_laySwap_270, wp_aconst_null, wp_iconst, wp_bipush, wp_sipush, wp_ldc, wp_ldc_w, wp_ldc2_w, wp_lconst, wp_iload, wp_iload_n, wp_lload, wp_lload_n, wp_aload, wp_aload_n, wp_istore, wp_istore_n, wp_lstore, wp_lstore_n, wp_astore, wp_astore_n, wp_iinc, wp_iadd, wp_isub, wp_imul, wp_iand, wp_ior, wp_ixor, wp_ishl, wp_ishr, wp_iushr, wp_idiv, wp_irem, wp_ineg, wp_ladd, wp_lsub, wp_lmul, wp_ldiv, wp_lrem, wp_lcmp, wp_i2l, wp_l2i, wp_pop, wp_dup, wp_dup2, wp_goto, wp_ifCond, wp_if_icmp, wp_ifnull, wp_ifnonnull, wp_tableswitch, wp_getfield, wp_putfield, wp_arraylength, wp_iaload, wp_baload, wp_laload, wp_aaload, wp_iastore, wp_bastore, wp_lastore, wp_aastore, wp_new, wp_newarray, wp_anewarray, wp_multianewarray, wp_invokevirtual, wp_invokespecial, wp_invokestatic, wp_ireturn, wp_lreturn, wp_areturn, wp_return_, wpL, ldI, ldJ, ldA, lk, sL, cL, i1, i2, l1, l2, r1, pA, p1, p2, ar, tyAt, rcv, rcr, oO, cmpI, Value.category, rf_some, rf_none, ak, kc, List.drop_succ_cons, List.drop_zero, List.drop_nil, List.take_succ_cons, List.take_zero, List.take_nil, List.head?_cons, List.reverse_cons, List.reverse_nil, List.nil_append, List.cons_append, List.length_cons, List.length_nil, Option.toList_some, Option.toList_none, hT_sI, hT_sJ, hT_sR, hI_sJ, hI_sR, hJ_sI, hJ_sR, hR_sI, hR_sJ, isO_sI, isO_sJ, isO_sR, iI_add, iI_sub, iI_mul, iI_neg, lv_args, Nat.reduceAdd, Nat.reduceEqDiff, Nat.reduceLeDiff, reduceIte, ite_true, ite_false, true_and, and_true, false_and, and_false, not_true, not_false_iff, or_true, true_or, false_or, or_false, imp_self, ne_eq, Classical.not_not, forall_const, true_implies, false_implies, if_pos, Nat.zero_add, Nat.add_zero, Nat.le_refl, Nat.reduceLT, iz00, iz01, iz10, iz11, ib0, ib1, ib01, reduceCtorEq, cq_X12_laySwap_174]
      have hb' : b = b0 := hb
      subst hb'
      exact kk h' [(6, .int (iI (hh : Nat)))] jh sm pre
    | succ K ih =>
      intro hh b h' X hk hb hbr jh sm pre
      refine hG.2 124 _ [(0, .ref m), (1, .int (iI (n : Nat))), (2, .int (iI b.1)), (3, .int (iI (a : Nat))), (4, .int (iI (mm : Nat))), (5, .int (iI sum)), (6, .int (iI (hh : Nat)))] _ _ _ (fun q hq => List.mem_append_left X hq) ?_
      have hhn : hh < n := by omega
      have e1 : (iI (n : Nat) ≤ iI (hh : Nat)) = False := eq_false (by rw [iI_le (by omega) (by omega)]; omega)
      have e2 : (iI (hh : Nat) = iI (n : Nat)) = False := eq_false (by rw [iI_eq (by omega) (by omega)]; omega)
      have et : (iI (mm : Nat) >>> (iI (hh : Nat) &&& 31) &&& iI 1 = iI 1) = (mm.testBit hh = true) := propext (ms_t1 mm hmm hh (by omega))
      have hb2 : lpU (swF st n r a mm sum hs) K (hh + 1) (swF st n r a mm sum hs hh b) = b0 := hb
      by_cases c : mm.testBit hh = true
      · have c' : (mm.testBit hh = true) = True := eq_true c
        have ef : swF st n r a mm sum hs hh b = b := if_pos c
        rw [ef] at hb2
        refine hG.1 124 _ _ _ _ ?_
        rw [bq_X12_laySwap_124]
        simp only [bk_X12_laySwap_124, wp_aconst_null, wp_iconst, wp_bipush, wp_sipush, wp_ldc, wp_ldc_w, wp_ldc2_w, wp_lconst, wp_iload, wp_iload_n, wp_lload, wp_lload_n, wp_aload, wp_aload_n, wp_istore, wp_istore_n, wp_lstore, wp_lstore_n, wp_astore, wp_astore_n, wp_iinc, wp_iadd, wp_isub, wp_imul, wp_iand, wp_ior, wp_ixor, wp_ishl, wp_ishr, wp_iushr, wp_idiv, wp_irem, wp_ineg, wp_ladd, wp_lsub, wp_lmul, wp_ldiv, wp_lrem, wp_lcmp, wp_i2l, wp_l2i, wp_pop, wp_dup, wp_dup2, wp_goto, wp_ifCond, wp_if_icmp, wp_ifnull, wp_ifnonnull, wp_tableswitch, wp_getfield, wp_putfield, wp_arraylength, wp_iaload, wp_baload, wp_laload, wp_aaload, wp_iastore, wp_bastore, wp_lastore, wp_aastore, wp_new, wp_newarray, wp_anewarray, wp_multianewarray, wp_invokevirtual, wp_invokespecial, wp_invokestatic, wp_ireturn, wp_lreturn, wp_areturn, wp_return_, wpL, ldI, ldJ, ldA, lk, sL, cL, i1, i2, l1, l2, r1, pA, p1, p2, ar, tyAt, rcv, rcr, oO, cmpI, Value.category, rf_some, rf_none, ak, kc, List.drop_succ_cons, List.drop_zero, List.drop_nil, List.take_succ_cons, List.take_zero, List.take_nil, List.head?_cons, List.reverse_cons, List.reverse_nil, List.nil_append, List.cons_append, List.length_cons, List.length_nil, Option.toList_some, Option.toList_none, hT_sI, hT_sJ, hT_sR, hI_sJ, hI_sR, hJ_sI, hJ_sR, hR_sI, hR_sJ, isO_sI, isO_sJ, isO_sR, iI_add, iI_sub, iI_mul, iI_neg, lv_args, Nat.reduceAdd, Nat.reduceEqDiff, Nat.reduceLeDiff, reduceIte, ite_true, ite_false, true_and, and_true, false_and, and_false, not_true, not_false_iff, or_true, true_or, false_or, or_false, imp_self, ne_eq, Classical.not_not, forall_const, true_implies, false_implies, if_pos, Nat.zero_add, Nat.add_zero, Nat.le_refl, Nat.reduceLT, iz00, iz01, iz10, iz11, ib0, ib1, ib01, reduceCtorEq, cq_X12_laySwap_174, e1, et, c']
        have q := ih (hh + 1) b h' [] (by omega) hb2 hbr jh sm pre
        rw [nc1] at q
        exact q
      · have c' : (mm.testBit hh = true) = False := eq_false c
        have cf' : mm.testBit hh = false := Bool.eq_false_iff.mpr c
        have jh' := jh
        rw [hJ] at jh'
        obtain ⟨F, rw1⟩ := jh'
        have M' := RM_fm F M
        have o := mo M'
        have t1 := mr_35 M'
        have t2 := mt_35 M'
        have t3 := mr_32 M'
        have t4 := mt_32 M'
        obtain ⟨in1, n1⟩ := vinN (i := a) (n := 7) ha7 (by omega)
        obtain ⟨in2, n2⟩ := vinN (i := hh) (n := 7) (by omega) (by omega)
        have v1 : hI (sI h' 138 a (A 35) (iI (hh : Nat))) 135 a (A 32) = iI (selS st a : Nat) := by rw [hI_sI, if_neg (by omega)]; exact rw1 a (by omega)
        have v2 : hI (sI h' 138 a (A 35) (iI (hh : Nat))) 135 hh (A 32) = iI (selS st hh : Nat) := by rw [hI_sI, if_neg (by omega)]; exact rw1 hh hhn
        have eo := ms_or mm hmm hh (by omega)
        have ml := ms_l 7 (by omega) mm hmm hh (by omega) hmm
        have s1 := sel7 a (by omega)
        have s2 := sel7 hh hhn
        have cr := csS_rg w (selS st a) (selS st hh)
        refine hG.1 124 _ _ _ _ ?_
        rw [bq_X12_laySwap_124]
        simp only [bk_X12_laySwap_124, wp_aconst_null, wp_iconst, wp_bipush, wp_sipush, wp_ldc, wp_ldc_w, wp_ldc2_w, wp_lconst, wp_iload, wp_iload_n, wp_lload, wp_lload_n, wp_aload, wp_aload_n, wp_istore, wp_istore_n, wp_lstore, wp_lstore_n, wp_astore, wp_astore_n, wp_iinc, wp_iadd, wp_isub, wp_imul, wp_iand, wp_ior, wp_ixor, wp_ishl, wp_ishr, wp_iushr, wp_idiv, wp_irem, wp_ineg, wp_ladd, wp_lsub, wp_lmul, wp_ldiv, wp_lrem, wp_lcmp, wp_i2l, wp_l2i, wp_pop, wp_dup, wp_dup2, wp_goto, wp_ifCond, wp_if_icmp, wp_ifnull, wp_ifnonnull, wp_tableswitch, wp_getfield, wp_putfield, wp_arraylength, wp_iaload, wp_baload, wp_laload, wp_aaload, wp_iastore, wp_bastore, wp_lastore, wp_aastore, wp_new, wp_newarray, wp_anewarray, wp_multianewarray, wp_invokevirtual, wp_invokespecial, wp_invokestatic, wp_ireturn, wp_lreturn, wp_areturn, wp_return_, wpL, ldI, ldJ, ldA, lk, sL, cL, i1, i2, l1, l2, r1, pA, p1, p2, ar, tyAt, rcv, rcr, oO, cmpI, Value.category, rf_some, rf_none, ak, kc, List.drop_succ_cons, List.drop_zero, List.drop_nil, List.take_succ_cons, List.take_zero, List.take_nil, List.head?_cons, List.reverse_cons, List.reverse_nil, List.nil_append, List.cons_append, List.length_cons, List.length_nil, Option.toList_some, Option.toList_none, hT_sI, hT_sJ, hT_sR, hI_sJ, hI_sR, hJ_sI, hJ_sR, hR_sI, hR_sJ, isO_sI, isO_sJ, isO_sR, iI_add, iI_sub, iI_mul, iI_neg, lv_args, Nat.reduceAdd, Nat.reduceEqDiff, Nat.reduceLeDiff, reduceIte, ite_true, ite_false, true_and, and_true, false_and, and_false, not_true, not_false_iff, or_true, true_or, false_or, or_false, imp_self, ne_eq, Classical.not_not, forall_const, true_implies, false_implies, if_pos, Nat.zero_add, Nat.add_zero, Nat.le_refl, Nat.reduceLT, iz00, iz01, iz10, iz11, ib0, ib1, ib01, reduceCtorEq, cq_X12_laySwap_174, e1, et, c']
        refine hG.1 147 _ _ _ _ ?_
        rw [bq_X12_laySwap_147]
        simp only [bk_X12_laySwap_147, wp_aconst_null, wp_iconst, wp_bipush, wp_sipush, wp_ldc, wp_ldc_w, wp_ldc2_w, wp_lconst, wp_iload, wp_iload_n, wp_lload, wp_lload_n, wp_aload, wp_aload_n, wp_istore, wp_istore_n, wp_lstore, wp_lstore_n, wp_astore, wp_astore_n, wp_iinc, wp_iadd, wp_isub, wp_imul, wp_iand, wp_ior, wp_ixor, wp_ishl, wp_ishr, wp_iushr, wp_idiv, wp_irem, wp_ineg, wp_ladd, wp_lsub, wp_lmul, wp_ldiv, wp_lrem, wp_lcmp, wp_i2l, wp_l2i, wp_pop, wp_dup, wp_dup2, wp_goto, wp_ifCond, wp_if_icmp, wp_ifnull, wp_ifnonnull, wp_tableswitch, wp_getfield, wp_putfield, wp_arraylength, wp_iaload, wp_baload, wp_laload, wp_aaload, wp_iastore, wp_bastore, wp_lastore, wp_aastore, wp_new, wp_newarray, wp_anewarray, wp_multianewarray, wp_invokevirtual, wp_invokespecial, wp_invokestatic, wp_ireturn, wp_lreturn, wp_areturn, wp_return_, wpL, ldI, ldJ, ldA, lk, sL, cL, i1, i2, l1, l2, r1, pA, p1, p2, ar, tyAt, rcv, rcr, oO, cmpI, Value.category, rf_some, rf_none, ak, kc, List.drop_succ_cons, List.drop_zero, List.drop_nil, List.take_succ_cons, List.take_zero, List.take_nil, List.head?_cons, List.reverse_cons, List.reverse_nil, List.nil_append, List.cons_append, List.length_cons, List.length_nil, Option.toList_some, Option.toList_none, hT_sI, hT_sJ, hT_sR, hI_sJ, hI_sR, hJ_sI, hJ_sR, hR_sI, hR_sJ, isO_sI, isO_sJ, isO_sR, iI_add, iI_sub, iI_mul, iI_neg, lv_args, Nat.reduceAdd, Nat.reduceEqDiff, Nat.reduceLeDiff, reduceIte, ite_true, ite_false, true_and, and_true, false_and, and_false, not_true, not_false_iff, or_true, true_or, false_or, or_false, imp_self, ne_eq, Classical.not_not, forall_const, true_implies, false_implies, if_pos, Nat.zero_add, Nat.add_zero, Nat.le_refl, Nat.reduceLT, iz00, iz01, iz10, iz11, ib0, ib1, ib01, reduceCtorEq, cq_X12_laySwap_174, e2]
        refine hG.1 159 _ _ _ _ ?_
        rw [bq_X12_laySwap_159]
        simp only [bk_X12_laySwap_159, wp_aconst_null, wp_iconst, wp_bipush, wp_sipush, wp_ldc, wp_ldc_w, wp_ldc2_w, wp_lconst, wp_iload, wp_iload_n, wp_lload, wp_lload_n, wp_aload, wp_aload_n, wp_istore, wp_istore_n, wp_lstore, wp_lstore_n, wp_astore, wp_astore_n, wp_iinc, wp_iadd, wp_isub, wp_imul, wp_iand, wp_ior, wp_ixor, wp_ishl, wp_ishr, wp_iushr, wp_idiv, wp_irem, wp_ineg, wp_ladd, wp_lsub, wp_lmul, wp_ldiv, wp_lrem, wp_lcmp, wp_i2l, wp_l2i, wp_pop, wp_dup, wp_dup2, wp_goto, wp_ifCond, wp_if_icmp, wp_ifnull, wp_ifnonnull, wp_tableswitch, wp_getfield, wp_putfield, wp_arraylength, wp_iaload, wp_baload, wp_laload, wp_aaload, wp_iastore, wp_bastore, wp_lastore, wp_aastore, wp_new, wp_newarray, wp_anewarray, wp_multianewarray, wp_invokevirtual, wp_invokespecial, wp_invokestatic, wp_ireturn, wp_lreturn, wp_areturn, wp_return_, wpL, ldI, ldJ, ldA, lk, sL, cL, i1, i2, l1, l2, r1, pA, p1, p2, ar, tyAt, rcv, rcr, oO, cmpI, Value.category, rf_some, rf_none, ak, kc, List.drop_succ_cons, List.drop_zero, List.drop_nil, List.take_succ_cons, List.take_zero, List.take_nil, List.head?_cons, List.reverse_cons, List.reverse_nil, List.nil_append, List.cons_append, List.length_cons, List.length_nil, Option.toList_some, Option.toList_none, hT_sI, hT_sJ, hT_sR, hI_sJ, hI_sR, hJ_sI, hJ_sR, hR_sI, hR_sJ, isO_sI, isO_sJ, isO_sR, iI_add, iI_sub, iI_mul, iI_neg, lv_args, Nat.reduceAdd, Nat.reduceEqDiff, Nat.reduceLeDiff, reduceIte, ite_true, ite_false, true_and, and_true, false_and, and_false, not_true, not_false_iff, or_true, true_or, false_or, or_false, imp_self, ne_eq, Classical.not_not, forall_const, true_implies, false_implies, if_pos, Nat.zero_add, Nat.add_zero, Nat.le_refl, Nat.reduceLT, iz00, iz01, iz10, iz11, ib0, ib1, ib01, reduceCtorEq, cq_X12_laySwap_174, o, t1, t2, t3, t4, in1, n1, in2, n2, v1, v2, eo]
        refine ⟨m, A, st, selS st a, selS st hh, rfl, RM_fm (Fm.rf.i rfl) M', w, s1, s2, ?_⟩
        simp only [wp_aconst_null, wp_iconst, wp_bipush, wp_sipush, wp_ldc, wp_ldc_w, wp_ldc2_w, wp_lconst, wp_iload, wp_iload_n, wp_lload, wp_lload_n, wp_aload, wp_aload_n, wp_istore, wp_istore_n, wp_lstore, wp_lstore_n, wp_astore, wp_astore_n, wp_iinc, wp_iadd, wp_isub, wp_imul, wp_iand, wp_ior, wp_ixor, wp_ishl, wp_ishr, wp_iushr, wp_idiv, wp_irem, wp_ineg, wp_ladd, wp_lsub, wp_lmul, wp_ldiv, wp_lrem, wp_lcmp, wp_i2l, wp_l2i, wp_pop, wp_dup, wp_dup2, wp_goto, wp_ifCond, wp_if_icmp, wp_ifnull, wp_ifnonnull, wp_tableswitch, wp_getfield, wp_putfield, wp_arraylength, wp_iaload, wp_baload, wp_laload, wp_aaload, wp_iastore, wp_bastore, wp_lastore, wp_aastore, wp_new, wp_newarray, wp_anewarray, wp_multianewarray, wp_invokevirtual, wp_invokespecial, wp_invokestatic, wp_ireturn, wp_lreturn, wp_areturn, wp_return_, wpL, ldI, ldJ, ldA, lk, sL, cL, i1, i2, l1, l2, r1, pA, p1, p2, ar, tyAt, rcv, rcr, oO, cmpI, Value.category, rf_some, rf_none, ak, kc, List.drop_succ_cons, List.drop_zero, List.drop_nil, List.take_succ_cons, List.take_zero, List.take_nil, List.head?_cons, List.reverse_cons, List.reverse_nil, List.nil_append, List.cons_append, List.length_cons, List.length_nil, Option.toList_some, Option.toList_none, hT_sI, hT_sJ, hT_sR, hI_sJ, hI_sR, hJ_sI, hJ_sR, hR_sI, hR_sJ, isO_sI, isO_sJ, isO_sR, iI_add, iI_sub, iI_mul, iI_neg, lv_args, Nat.reduceAdd, Nat.reduceEqDiff, Nat.reduceLeDiff, reduceIte, ite_true, ite_false, true_and, and_true, false_and, and_false, not_true, not_false_iff, or_true, true_or, false_or, or_false, imp_self, ne_eq, Classical.not_not, forall_const, true_implies, false_implies, if_pos, Nat.zero_add, Nat.add_zero, Nat.le_refl, Nat.reduceLT, iz00, iz01, iz10, iz11, ib0, ib1, ib01, reduceCtorEq, cq_X12_laySwap_174]
        have j2 : J (sI h' 138 a (A 35) (iI (hh : Nat))) := mv jh rfl (by decide) rfl
        have sm2 : SM (sI h' 138 a (A 35) (iI (hh : Nat))) A st b := fun z k hk' => by rw [hI_sI, if_neg (by omega)]; exact sm z k hk'
        refine ch hh b _ hhn cf' hbr j2 sm2 (fun k hk' => ?_) (fun h3 X3 j3 sm3 pre3 => ?_)
        · rw [hI_sI]
          unfold upN
          by_cases d : k = a
          · rw [if_pos ⟨rfl, d, rfl⟩, if_pos d]
          · rw [if_neg (fun z => d z.2.1), if_neg d]; exact pre k (by omega)
        · -- the hole is given back
          refine hG.2 60 _ [(0, .ref m), (1, .int (iI (n : Nat))), (2, .int (iI (swF st n r a mm sum hs hh b).1)), (3, .int (iI (a : Nat))), (4, .int (iI (mm ||| 2 ^ hh : Nat))), (5, .int (iI (sum + csS st (selS st a) (selS st hh))))] _ _ _ (fun q hq => List.mem_append_left X3 hq) ?_
          have j3' := j3
          rw [hJ] at j3'
          obtain ⟨F3, rw3⟩ := j3'
          have M3 := RM_fm F3 M
          have o3 := mo M3
          have u1 := mr_35 M3
          have u2 := mt_35 M3
          have u3 := mr_32 M3
          have u4 := mt_32 M3
          have x1 : hI h3 138 a (A 35) = iI (hh : Nat) := by rw [pre3 a (by omega)]; unfold upN; rw [if_pos rfl]
          have x2 := rw3 a (by omega)
          have x3 := rw3 hh hhn
          have ea : (iI (a : Nat) < 0) = False := eq_false (by rw [iI_lt0 (by omega)]; omega)
          have eh : (iI (hh : Nat) < 0) = False := eq_false (by rw [iI_lt0 (by omega)]; omega)
          have ec := ms_clr mm hmm hh (by omega) cf'
          refine hG.1 60 _ _ _ _ ?_
          rw [bq_X12_laySwap_60]
          simp only [bk_X12_laySwap_60, wp_aconst_null, wp_iconst, wp_bipush, wp_sipush, wp_ldc, wp_ldc_w, wp_ldc2_w, wp_lconst, wp_iload, wp_iload_n, wp_lload, wp_lload_n, wp_aload, wp_aload_n, wp_istore, wp_istore_n, wp_lstore, wp_lstore_n, wp_astore, wp_astore_n, wp_iinc, wp_iadd, wp_isub, wp_imul, wp_iand, wp_ior, wp_ixor, wp_ishl, wp_ishr, wp_iushr, wp_idiv, wp_irem, wp_ineg, wp_ladd, wp_lsub, wp_lmul, wp_ldiv, wp_lrem, wp_lcmp, wp_i2l, wp_l2i, wp_pop, wp_dup, wp_dup2, wp_goto, wp_ifCond, wp_if_icmp, wp_ifnull, wp_ifnonnull, wp_tableswitch, wp_getfield, wp_putfield, wp_arraylength, wp_iaload, wp_baload, wp_laload, wp_aaload, wp_iastore, wp_bastore, wp_lastore, wp_aastore, wp_new, wp_newarray, wp_anewarray, wp_multianewarray, wp_invokevirtual, wp_invokespecial, wp_invokestatic, wp_ireturn, wp_lreturn, wp_areturn, wp_return_, wpL, ldI, ldJ, ldA, lk, sL, cL, i1, i2, l1, l2, r1, pA, p1, p2, ar, tyAt, rcv, rcr, oO, cmpI, Value.category, rf_some, rf_none, ak, kc, List.drop_succ_cons, List.drop_zero, List.drop_nil, List.take_succ_cons, List.take_zero, List.take_nil, List.head?_cons, List.reverse_cons, List.reverse_nil, List.nil_append, List.cons_append, List.length_cons, List.length_nil, Option.toList_some, Option.toList_none, hT_sI, hT_sJ, hT_sR, hI_sJ, hI_sR, hJ_sI, hJ_sR, hR_sI, hR_sJ, isO_sI, isO_sJ, isO_sR, iI_add, iI_sub, iI_mul, iI_neg, lv_args, Nat.reduceAdd, Nat.reduceEqDiff, Nat.reduceLeDiff, reduceIte, ite_true, ite_false, true_and, and_true, false_and, and_false, not_true, not_false_iff, or_true, true_or, false_or, or_false, imp_self, ne_eq, Classical.not_not, forall_const, true_implies, false_implies, if_pos, Nat.zero_add, Nat.add_zero, Nat.le_refl, Nat.reduceLT, iz00, iz01, iz10, iz11, ib0, ib1, ib01, reduceCtorEq, cq_X12_laySwap_174, ea, o3, u1, u2, in1, n1, x1, eh, ec, u3, u4, in2, n2, x2, x3]
          refine ⟨m, A, st, selS st a, selS st hh, rfl, M3, w, s1, s2, ?_⟩
          have es : sum + csS st (selS st a) (selS st hh) - csS st (selS st a) (selS st hh) = sum := by omega
          simp only [wp_aconst_null, wp_iconst, wp_bipush, wp_sipush, wp_ldc, wp_ldc_w, wp_ldc2_w, wp_lconst, wp_iload, wp_iload_n, wp_lload, wp_lload_n, wp_aload, wp_aload_n, wp_istore, wp_istore_n, wp_lstore, wp_lstore_n, wp_astore, wp_astore_n, wp_iinc, wp_iadd, wp_isub, wp_imul, wp_iand, wp_ior, wp_ixor, wp_ishl, wp_ishr, wp_iushr, wp_idiv, wp_irem, wp_ineg, wp_ladd, wp_lsub, wp_lmul, wp_ldiv, wp_lrem, wp_lcmp, wp_i2l, wp_l2i, wp_pop, wp_dup, wp_dup2, wp_goto, wp_ifCond, wp_if_icmp, wp_ifnull, wp_ifnonnull, wp_tableswitch, wp_getfield, wp_putfield, wp_arraylength, wp_iaload, wp_baload, wp_laload, wp_aaload, wp_iastore, wp_bastore, wp_lastore, wp_aastore, wp_new, wp_newarray, wp_anewarray, wp_multianewarray, wp_invokevirtual, wp_invokespecial, wp_invokestatic, wp_ireturn, wp_lreturn, wp_areturn, wp_return_, wpL, ldI, ldJ, ldA, lk, sL, cL, i1, i2, l1, l2, r1, pA, p1, p2, ar, tyAt, rcv, rcr, oO, cmpI, Value.category, rf_some, rf_none, ak, kc, List.drop_succ_cons, List.drop_zero, List.drop_nil, List.take_succ_cons, List.take_zero, List.take_nil, List.head?_cons, List.reverse_cons, List.reverse_nil, List.nil_append, List.cons_append, List.length_cons, List.length_nil, Option.toList_some, Option.toList_none, hT_sI, hT_sJ, hT_sR, hI_sJ, hI_sR, hJ_sI, hJ_sR, hR_sI, hR_sJ, isO_sI, isO_sJ, isO_sR, iI_add, iI_sub, iI_mul, iI_neg, lv_args, Nat.reduceAdd, Nat.reduceEqDiff, Nat.reduceLeDiff, reduceIte, ite_true, ite_false, true_and, and_true, false_and, and_false, not_true, not_false_iff, or_true, true_or, false_or, or_false, imp_self, ne_eq, Classical.not_not, forall_const, true_implies, false_implies, if_pos, Nat.zero_add, Nat.add_zero, Nat.le_refl, Nat.reduceLT, iz00, iz01, iz10, iz11, ib0, ib1, ib01, reduceCtorEq, cq_X12_laySwap_174]
          refine hG.1 111 _ _ _ _ ?_
          rw [bq_X12_laySwap_111]
          simp only [bk_X12_laySwap_111, wp_aconst_null, wp_iconst, wp_bipush, wp_sipush, wp_ldc, wp_ldc_w, wp_ldc2_w, wp_lconst, wp_iload, wp_iload_n, wp_lload, wp_lload_n, wp_aload, wp_aload_n, wp_istore, wp_istore_n, wp_lstore, wp_lstore_n, wp_astore, wp_astore_n, wp_iinc, wp_iadd, wp_isub, wp_imul, wp_iand, wp_ior, wp_ixor, wp_ishl, wp_ishr, wp_iushr, wp_idiv, wp_irem, wp_ineg, wp_ladd, wp_lsub, wp_lmul, wp_ldiv, wp_lrem, wp_lcmp, wp_i2l, wp_l2i, wp_pop, wp_dup, wp_dup2, wp_goto, wp_ifCond, wp_if_icmp, wp_ifnull, wp_ifnonnull, wp_tableswitch, wp_getfield, wp_putfield, wp_arraylength, wp_iaload, wp_baload, wp_laload, wp_aaload, wp_iastore, wp_bastore, wp_lastore, wp_aastore, wp_new, wp_newarray, wp_anewarray, wp_multianewarray, wp_invokevirtual, wp_invokespecial, wp_invokestatic, wp_ireturn, wp_lreturn, wp_areturn, wp_return_, wpL, ldI, ldJ, ldA, lk, sL, cL, i1, i2, l1, l2, r1, pA, p1, p2, ar, tyAt, rcv, rcr, oO, cmpI, Value.category, rf_some, rf_none, ak, kc, List.drop_succ_cons, List.drop_zero, List.drop_nil, List.take_succ_cons, List.take_zero, List.take_nil, List.head?_cons, List.reverse_cons, List.reverse_nil, List.nil_append, List.cons_append, List.length_cons, List.length_nil, Option.toList_some, Option.toList_none, hT_sI, hT_sJ, hT_sR, hI_sJ, hI_sR, hJ_sI, hJ_sR, hR_sI, hR_sJ, isO_sI, isO_sJ, isO_sR, iI_add, iI_sub, iI_mul, iI_neg, lv_args, Nat.reduceAdd, Nat.reduceEqDiff, Nat.reduceLeDiff, reduceIte, ite_true, ite_false, true_and, and_true, false_and, and_false, not_true, not_false_iff, or_true, true_or, false_or, or_false, imp_self, ne_eq, Classical.not_not, forall_const, true_implies, false_implies, if_pos, Nat.zero_add, Nat.add_zero, Nat.le_refl, Nat.reduceLT, iz00, iz01, iz10, iz11, ib0, ib1, ib01, reduceCtorEq, cq_X12_laySwap_174, es]
          refine hG.1 114 _ _ _ _ ?_
          rw [bq_X12_laySwap_114]
          simp only [bk_X12_laySwap_114, wp_aconst_null, wp_iconst, wp_bipush, wp_sipush, wp_ldc, wp_ldc_w, wp_ldc2_w, wp_lconst, wp_iload, wp_iload_n, wp_lload, wp_lload_n, wp_aload, wp_aload_n, wp_istore, wp_istore_n, wp_lstore, wp_lstore_n, wp_astore, wp_astore_n, wp_iinc, wp_iadd, wp_isub, wp_imul, wp_iand, wp_ior, wp_ixor, wp_ishl, wp_ishr, wp_iushr, wp_idiv, wp_irem, wp_ineg, wp_ladd, wp_lsub, wp_lmul, wp_ldiv, wp_lrem, wp_lcmp, wp_i2l, wp_l2i, wp_pop, wp_dup, wp_dup2, wp_goto, wp_ifCond, wp_if_icmp, wp_ifnull, wp_ifnonnull, wp_tableswitch, wp_getfield, wp_putfield, wp_arraylength, wp_iaload, wp_baload, wp_laload, wp_aaload, wp_iastore, wp_bastore, wp_lastore, wp_aastore, wp_new, wp_newarray, wp_anewarray, wp_multianewarray, wp_invokevirtual, wp_invokespecial, wp_invokestatic, wp_ireturn, wp_lreturn, wp_areturn, wp_return_, wpL, ldI, ldJ, ldA, lk, sL, cL, i1, i2, l1, l2, r1, pA, p1, p2, ar, tyAt, rcv, rcr, oO, cmpI, Value.category, rf_some, rf_none, ak, kc, List.drop_succ_cons, List.drop_zero, List.drop_nil, List.take_succ_cons, List.take_zero, List.take_nil, List.head?_cons, List.reverse_cons, List.reverse_nil, List.nil_append, List.cons_append, List.length_cons, List.length_nil, Option.toList_some, Option.toList_none, hT_sI, hT_sJ, hT_sR, hI_sJ, hI_sR, hJ_sI, hJ_sR, hR_sI, hR_sJ, isO_sI, isO_sJ, isO_sR, iI_add, iI_sub, iI_mul, iI_neg, lv_args, Nat.reduceAdd, Nat.reduceEqDiff, Nat.reduceLeDiff, reduceIte, ite_true, ite_false, true_and, and_true, false_and, and_false, not_true, not_false_iff, or_true, true_or, false_or, or_false, imp_self, ne_eq, Classical.not_not, forall_const, true_implies, false_implies, if_pos, Nat.zero_add, Nat.add_zero, Nat.le_refl, Nat.reduceLT, iz00, iz01, iz10, iz11, ib0, ib1, ib01, reduceCtorEq, cq_X12_laySwap_174, o3, u1, u2, in1, n1, x1]
          have br : -1 ≤ (swF st n r a mm sum hs hh b).1 ∧ (swF st n r a mm sum hs hh b).1 ≤ 5000 := by
            unfold swF
            rw [if_neg c]
            exact SU_rg w n r (a + 1) _ _ _ b (by omega) hbr (by omega)
          have q := ih (hh + 1) _ h3 [] (by omega) hb2 br j3 sm3 (fun k hk' => by rw [pre3 k (by omega)]; unfold upN; rw [if_neg (by omega)])
          rw [nc1] at q
          exact q
  sorry
theorem val_X12_laySwap (g : GP) : Val g yX12_laySwap prog_14_method_65_code 8 (some .int) 2 120 0 0 sp_X12_laySwap := val_of (own := RX12) (ini := false) (on := 12) (rs := rs_X12_laySwap) (cl := cl_X12_laySwap) (rt := 1) (bl := bl_X12_laySwap) (plainFor_of_name (by decide +kernel)) rfl (rok_X12 _) ck_X12_laySwap (fun h => by cases h) rfl (List.forall_mem_cons.mpr ⟨caV (val_X12_costOf g) (tb_in 1286 (by decide +kernel) (by decide +kernel)) (tb_in 1288 (by decide +kernel) (by decide +kernel)) (tb_in 49 (by decide +kernel) (by decide +kernel)) (tb_in 1289 (by decide +kernel) (by decide +kernel)) (tb_in 63 (by decide +kernel) (by decide +kernel)) ⟨by decide, by decide, by decide +kernel⟩ ⟨rfl, by decide⟩ ⟨by decide, by decide⟩, (fun _ h => absurd h List.not_mem_nil)⟩) pf_X12_laySwap

