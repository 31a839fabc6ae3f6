/-! the reference: swaps -/
theorem ms_clr : ∀ m : Nat, m < 128 → ∀ a : Nat, a < 7 → m.testBit a = false → iI ((m ||| 2 ^ a : Nat) : Nat) &&& ((iI 1 <<< (iI (a : Nat) &&& 31)) ^^^ iI (-1)) = iI (m : Nat) := by decide +kernel
theorem ms_t1 : ∀ m : Nat, m < 128 → ∀ a : Nat, a < 7 → (iI (m : Nat) >>> (iI (a : Nat) &&& 31) &&& iI 1 = iI 1 ↔ m.testBit a = true) := by decide +kernel
abbrev SB : Type := Int × (Nat → Nat)
def lpU (f : Nat → SB → SB) : Nat → Nat → SB → SB
  | 0, _, b => b
  | k + 1, h, b => lpU f k (h + 1) (f h b)
def upN (f : Nat → Nat) (i v : Nat) : Nat → Nat := fun j => if j = i then v else f j
/-- all ways to give holes to the pieces from a on (r of them), in order: the first of the cheapest stays -/
def SU (st : St) (n : Nat) : Nat → Nat → Nat → Int → (Nat → Nat) → SB → SB
  | 0, _, _, sum, hs, b => if b.1 < 0 ∨ sum < b.1 then (sum, hs) else b
  | r + 1, a, m, sum, hs, b => lpU (fun h b => if m.testBit h = true then b else SU st n r (a + 1) (m ||| 2 ^ h) (sum + csS st (selS st a) (selS st h)) (upN hs a h) b) n 0 b
def swF (st : St) (n r a m : Nat) (sum : Int) (hs : Nat → Nat) : Nat → SB → SB := fun h b => if m.testBit h = true then b else SU st n r (a + 1) (m ||| 2 ^ h) (sum + csS st (selS st a) (selS st h)) (upN hs a h) b
def swM (st : St) : SB := SU st (nIn st) (nIn st) 0 0 0 (fun _ => 0) (-1, fun _ => 0)
theorem SU_rg {st : St} (w : WF st) (n : Nat) : ∀ (r a m : Nat) (sum : Int) (hs : Nat → Nat) (b : SB), (0 ≤ sum ∧ sum ≤ 243 * (a : Int)) → (-1 ≤ b.1 ∧ b.1 ≤ 5000) → a + r ≤ 7 → -1 ≤ (SU st n r a m sum hs b).1 ∧ (SU st n r a m sum hs b).1 ≤ 5000 := by
  intro r
  induction r with
  | zero =>
    intro a m sum hs b h1 h2 h3
    unfold SU
    split
    · dsimp only; omega
    · exact h2
  | succ r ih =>
    intro a m sum hs b h1 h2 h3
    unfold SU
    have key : ∀ (k h : Nat) (b : SB), (-1 ≤ b.1 ∧ b.1 ≤ 5000) → (-1 ≤ (lpU (swF st n r a m sum hs) k h b).1 ∧ (lpU (swF st n r a m sum hs) k h b).1 ≤ 5000) := by
      intro k
      induction k with
      | zero => exact fun _ _ h => h
      | succ k ik =>
        intro h b hb
        unfold lpU
        refine ik _ _ ?_
        unfold swF
        have c := csS_rg w (selS st a) (selS st h)
        split
        · exact hb
        · exact ih (a + 1) _ _ _ b (by omega) hb (by omega)
    exact key n 0 b h2
def cl_X12_laySwap : Nat → Nat × Nat × Spec := fun q => if q = 175 then (0, 0, sp_X12_costOf) else (0, 0, fun _ _ _ => False)
theorem cq_X12_laySwap_175 : cl_X12_laySwap 175 = (0, 0, sp_X12_costOf) := rfl

def SM (h : hp) (A : Nat → Nat) (st : St) (b : SB) : Prop := 0 ≤ b.1 → ∀ k, k < nIn st → hI h 139 (selS st k) (A 36) = iI (selS st (b.2 k) : Nat)
def sp_X12_laySwap : Spec := fun as h K => ∃ (m : Nat) (A : Nat → Nat) (st : St), as = [.ref m] ∧ RM h m A st ∧ WF st ∧ ∀ h', (nIn st ≠ 0 → SM h' A st (swM st)) → Fm h h' → K (some (.int (iI (if nIn st = 0 then 0 else (swM st).1)))) h'
theorem pf_X12_laySwap : PfM cl_X12_laySwap (0, 0) 1 8 bl_X12_laySwap sp_X12_laySwap := by
  rintro as h Q ⟨m, A, st, rfl, M, w, hQ⟩
  refine ⟨Nat.le_of_ble_eq_true rfl, fun G hG => ?_⟩
  have h0 := w.1.1
  have hN := nIn_le w
  obtain ⟨n, hn⟩ : ∃ n, n = nIn st := ⟨_, rfl⟩
  rw [← hn] at hQ hN
  -- rows, holes, the best
  obtain ⟨J, hJ⟩ : ∃ J : hp → Prop, J = fun h' => Fm h h' ∧ ∀ k, k < n → hI h' 135 k (A 32) = iI (selS st k : Nat) := ⟨_, rfl⟩
  have sel7 : ∀ k, k < n → selS st k < 7 := fun k hk => by
    have := (sel_ex w (k := k) (by omega)).1
    omega
  have selj : ∀ i j, i < n → j < n → selS st i = selS st j → i = j := fun i j hi hj e => by
    have a1 := (sel_ex w (k := i) (by omega)).2.2
    have a2 := (sel_ex w (k := j) (by omega)).2.2
    rw [e] at a1
    omega
  have mv : ∀ {hx hy : hp} {c k x : Nat} {v : Int32}, J hx → msc c k = true → c ≠ 135 → hy = sI hx c k x v → J hy := by
    intro hx hy c k x v jx hc hc2 e
    rw [hJ] at jx ⊢
    rw [e]
    exact ⟨jx.1.i hc, fun k' hk' => by rw [hI_sI, if_neg (fun z => hc2 z.1.symm)]; exact jx.2 k' hk'⟩
  have lvl : ∀ (r a mm : Nat) (sum : Int) (hs : Nat → Nat) (b0 : SB), a + r + 1 = n → mm < 128 → (0 ≤ sum ∧ sum ≤ 243 * (a : Int)) →
      (∀ (h2 : hp) (X : Lc), J h2 → SM h2 A st b0 → (∀ k, k < a → hI h2 138 k (A 35) = iI (hs k : Nat)) → G 60 ([(0, .ref m), (1, .int (iI (n : Nat))), (2, .int (iI b0.1)), (3, .int (iI ((a : Int) - 1))), (4, .int (iI (mm : Nat))), (5, .int (iI sum))] ++ X) [] h2 (0, 0)) →
      (∀ (hh : Nat) (b : SB) (h2 : hp), hh < n → mm.testBit hh = false → (-1 ≤ b.1 ∧ b.1 ≤ 5000) → J h2 → SM h2 A st b → (∀ k, k < a + 1 → hI h2 138 k (A 35) = iI (upN hs a hh k : Nat)) →
        (∀ (h3 : hp) (X : Lc), J h3 → SM h3 A st (swF st n r a mm sum hs hh b) → (∀ k, k < a + 1 → hI h3 138 k (A 35) = iI (upN hs a hh k : Nat)) → G 60 ([(0, .ref m), (1, .int (iI (n : Nat))), (2, .int (iI (swF st n r a mm sum hs hh b).1)), (3, .int (iI (a : Nat))), (4, .int (iI (mm ||| 2 ^ hh : Nat))), (5, .int (iI (sum + csS st (selS st a) (selS st hh))))] ++ X) [] h3 (0, 0)) → G 195 [(0, .ref m), (1, .int (iI (n : Nat))), (2, .int (iI b.1)), (3, .int (iI (a : Nat))), (4, .int (iI (mm ||| 2 ^ hh : Nat))), (5, .int (iI sum)), (6, .int (iI (hh : Nat)))] [.int (iI (csS st (selS st a) (selS st hh))), .int (iI sum)] h2 (0, 0)) →
      ∀ (K hh : Nat) (b : SB) (h' : hp) (X : Lc), hh + K = n → lpU (swF st n r a mm sum hs) K hh b = b0 → (-1 ≤ b.1 ∧ b.1 ≤ 5000) → J h' → SM h' A st b → (∀ k, k < a → hI h' 138 k (A 35) = iI (hs k : Nat)) → G 124 ([(0, .ref m), (1, .int (iI (n : Nat))), (2, .int (iI b.1)), (3, .int (iI (a : Nat))), (4, .int (iI (mm : Nat))), (5, .int (iI sum)), (6, .int (iI (hh : Nat)))] ++ X) [] h' (0, 0) := by
    intro r a mm sum hs b0 har hmm hsum kk ch K
    have ha7 : a < 7 := by omega
    induction K with
    | zero =>
      intro hh b h' X hk hb hbr jh sm pre
      refine hG.2 124 _ [(0, .ref m), (1, .int (iI (n : Nat))), (2, .int (iI b.1)), (3, .int (iI (a : Nat))), (4, .int (iI (mm : Nat))), (5, .int (iI sum)), (6, .int (iI (hh : Nat)))] _ _ _ (fun q hq => List.mem_append_left X hq) ?_
      have e1 : (iI (n : Nat) ≤ iI (hh : Nat)) = True := eq_true ((iI_le (by omega) (by omega)).mpr (by omega))
      have e2 : (iI (hh : Nat) = iI (n : Nat)) = True := eq_true (by rw [show hh = n by omega])
      refine hG.1 124 _ _ _ _ ?_
      rw [bq_X12_laySwap_124]
      simp only [bk_X12_laySwap_124, wp_aconst_null, wp_iconst, wp_bipush, wp_sipush, wp_ldc, wp_ldc_w, wp_ldc2_w, wp_lconst, wp_iload, wp_iload_n, wp_lload, wp_lload_n, wp_aload, wp_aload_n, wp_istore, wp_istore_n, wp_lstore, wp_lstore_n, wp_astore, wp_astore_n, wp_iinc, wp_iadd, wp_isub, wp_imul, wp_iand, wp_ior, wp_ixor, wp_ishl, wp_ishr, wp_iushr, wp_idiv, wp_irem, wp_ineg, wp_ladd, wp_lsub, wp_lmul, wp_ldiv, wp_lrem, wp_lcmp, wp_i2l, wp_l2i, wp_pop, wp_dup, wp_dup2, wp_goto, wp_ifCond, wp_if_icmp, wp_ifnull, wp_ifnonnull, wp_tableswitch, wp_getfield, wp_putfield, wp_arraylength, wp_iaload, wp_baload, wp_laload, wp_aaload, wp_iastore, wp_bastore, wp_lastore, wp_aastore, wp_new, wp_newarray, wp_anewarray, wp_multianewarray, wp_invokevirtual, wp_invokespecial, wp_invokestatic, wp_ireturn, wp_lreturn, wp_areturn, wp_return_, wpL, ldI, ldJ, ldA, lk, sL, cL, i1, i2, l1, l2, r1, pA, p1, p2, ar, tyAt, rcv, rcr, oO, cmpI, Value.category, rf_some, rf_none, ak, kc, List.drop_succ_cons, List.drop_zero, List.drop_nil, List.take_succ_cons, List.take_zero, List.take_nil, List.head?_cons, List.reverse_cons, List.reverse_nil, List.nil_append, List.cons_append, List.length_cons, List.length_nil, Option.toList_some, Option.toList_none, hT_sI, hT_sJ, hT_sR, hI_sJ, hI_sR, hJ_sI, hJ_sR, hR_sI, hR_sJ, isO_sI, isO_sJ, isO_sR, iI_add, iI_sub, iI_mul, iI_neg, lv_args, Nat.reduceAdd, Nat.reduceEqDiff, Nat.reduceLeDiff, reduceIte, ite_true, ite_false, true_and, and_true, false_and, and_false, not_true, not_false_iff, or_true, true_or, false_or, or_false, imp_self, ne_eq, Classical.not_not, forall_const, true_implies, false_implies, if_pos, Nat.zero_add, Nat.add_zero, Nat.le_refl, Nat.reduceLT, iz00, iz01, iz10, iz11, ib0, ib1, ib01, reduceCtorEq, cq_X12_laySwap_175, e1]
      refine hG.1 147 _ _ _ _ ?_
      rw [bq_X12_laySwap_147]
      simp only [bk_X12_laySwap_147, wp_aconst_null, wp_iconst, wp_bipush, wp_sipush, wp_ldc, wp_ldc_w, wp_ldc2_w, wp_lconst, wp_iload, wp_iload_n, wp_lload, wp_lload_n, wp_aload, wp_aload_n, wp_istore, wp_istore_n, wp_lstore, wp_lstore_n, wp_astore, wp_astore_n, wp_iinc, wp_iadd, wp_isub, wp_imul, wp_iand, wp_ior, wp_ixor, wp_ishl, wp_ishr, wp_iushr, wp_idiv, wp_irem, wp_ineg, wp_ladd, wp_lsub, wp_lmul, wp_ldiv, wp_lrem, wp_lcmp, wp_i2l, wp_l2i, wp_pop, wp_dup, wp_dup2, wp_goto, wp_ifCond, wp_if_icmp, wp_ifnull, wp_ifnonnull, wp_tableswitch, wp_getfield, wp_putfield, wp_arraylength, wp_iaload, wp_baload, wp_laload, wp_aaload, wp_iastore, wp_bastore, wp_lastore, wp_aastore, wp_new, wp_newarray, wp_anewarray, wp_multianewarray, wp_invokevirtual, wp_invokespecial, wp_invokestatic, wp_ireturn, wp_lreturn, wp_areturn, wp_return_, wpL, ldI, ldJ, ldA, lk, sL, cL, i1, i2, l1, l2, r1, pA, p1, p2, ar, tyAt, rcv, rcr, oO, cmpI, Value.category, rf_some, rf_none, ak, kc, List.drop_succ_cons, List.drop_zero, List.drop_nil, List.take_succ_cons, List.take_zero, List.take_nil, List.head?_cons, List.reverse_cons, List.reverse_nil, List.nil_append, List.cons_append, List.length_cons, List.length_nil, Option.toList_some, Option.toList_none, hT_sI, hT_sJ, hT_sR, hI_sJ, hI_sR, hJ_sI, hJ_sR, hR_sI, hR_sJ, isO_sI, isO_sJ, isO_sR, iI_add, iI_sub, iI_mul, iI_neg, lv_args, Nat.reduceAdd, Nat.reduceEqDiff, Nat.reduceLeDiff, reduceIte, ite_true, ite_false, true_and, and_true, false_and, and_false, not_true, not_false_iff, or_true, true_or, false_or, or_false, imp_self, ne_eq, Classical.not_not, forall_const, true_implies, false_implies, if_pos, Nat.zero_add, Nat.add_zero, Nat.le_refl, Nat.reduceLT, iz00, iz01, iz10, iz11, ib0, ib1, ib01, reduceCtorEq, cq_X12_laySwap_175, e2]
      refine hG.1 270 _ _ _ _ ?_
      rw [bq_X12_laySwap_270]
      simp only [bk_X12_laySwap_270, wp_aconst_null, wp_iconst, wp_bipush, wp_sipush, wp_ldc, wp_ldc_w, wp_ldc2_w, wp_lconst, wp_iload, wp_iload_n, wp_lload, wp_lload_n, wp_aload, wp_aload_n, wp_istore, wp_istore_n, wp_lstore, wp_lstore_n, wp_astore, wp_astore_n, wp_iinc, wp_iadd, wp_isub, wp_imul, wp_iand, wp_ior, wp_ixor, wp_ishl, wp_ishr, wp_iushr, wp_idiv, wp_irem, wp_ineg, wp_ladd, wp_lsub, wp_lmul, wp_ldiv, wp_lrem, wp_lcmp, wp_i2l, wp_l2i, wp_pop, wp_dup, wp_dup2, wp_goto, wp_ifCond, wp_if_icmp, wp_ifnull, wp_ifnonnull, wp_tableswitch, wp_getfield, wp_putfield, wp_arraylength, wp_iaload, wp_baload, wp_laload, wp_aaload, wp_iastore, wp_bastore, wp_lastore, wp_aastore, wp_new, wp_newarray, wp_anewarray, wp_multianewarray, wp_invokevirtual, wp_invokespecial, wp_invokestatic, wp_ireturn, wp_lreturn, wp_areturn, wp_return_, wpL, ldI, ldJ, ldA, lk, sL, cL, i1, i2, l1, l2, r1, pA, p1, p2, ar, tyAt, rcv, rcr, oO, cmpI, Value.category, rf_some, rf_none, ak, kc, List.drop_succ_cons, List.drop_zero, List.drop_nil, List.take_succ_cons, List.take_zero, List.take_nil, List.head?_cons, List.reverse_cons, List.reverse_nil, List.nil_append, List.cons_append, List.length_cons, List.length_nil, Option.toList_some, Option.toList_none, hT_sI, hT_sJ, hT_sR, hI_sJ, hI_sR, hJ_sI, hJ_sR, hR_sI, hR_sJ, isO_sI, isO_sJ, isO_sR, iI_add, iI_sub, iI_mul, iI_neg, lv_args, Nat.reduceAdd, Nat.reduceEqDiff, Nat.reduceLeDiff, reduceIte, ite_true, ite_false, true_and, and_true, false_and, and_false, not_true, not_false_iff, or_true, true_or, false_or, or_false, imp_self, ne_eq, Classical.not_not, forall_const, true_implies, false_implies, if_pos, Nat.zero_add, Nat.add_zero, Nat.le_refl, Nat.reduceLT, iz00, iz01, iz10, iz11, ib0, ib1, ib01, reduceCtorEq, cq_X12_laySwap_175]
      have hb' : b = b0 := hb
      subst hb'
      exact kk h' [(6, .int (iI (hh : Nat)))] jh sm pre
    | succ K ih =>
      intro hh b h' X hk hb hbr jh sm pre
      refine hG.2 124 _ [(0, .ref m), (1, .int (iI (n : Nat))), (2, .int (iI b.1)), (3, .int (iI (a : Nat))), (4, .int (iI (mm : Nat))), (5, .int (iI sum)), (6, .int (iI (hh : Nat)))] _ _ _ (fun q hq => List.mem_append_left X hq) ?_
      have hhn : hh < n := by omega
      have e1 : (iI (n : Nat) ≤ iI (hh : Nat)) = False := eq_false (by rw [iI_le (by omega) (by omega)]; omega)
      have e2 : (iI (hh : Nat) = iI (n : Nat)) = False := eq_false (by rw [iI_eq (by omega) (by omega)]; omega)
      have et : (iI (mm : Nat) >>> (iI (hh : Nat) &&& 31) &&& iI 1 = iI 1) = (mm.testBit hh = true) := propext (ms_t1 mm hmm hh (by omega))
      have hb2 : lpU (swF st n r a mm sum hs) K (hh + 1) (swF st n r a mm sum hs hh b) = b0 := hb
      by_cases c : mm.testBit hh = true
      · have c' : (mm.testBit hh = true) = True := eq_true c
        have ef : swF st n r a mm sum hs hh b = b := if_pos c
        rw [ef] at hb2
        refine hG.1 124 _ _ _ _ ?_
        rw [bq_X12_laySwap_124]
        simp only [bk_X12_laySwap_124, wp_aconst_null, wp_iconst, wp_bipush, wp_sipush, wp_ldc, wp_ldc_w, wp_ldc2_w, wp_lconst, wp_iload, wp_iload_n, wp_lload, wp_lload_n, wp_aload, wp_aload_n, wp_istore, wp_istore_n, wp_lstore, wp_lstore_n, wp_astore, wp_astore_n, wp_iinc, wp_iadd, wp_isub, wp_imul, wp_iand, wp_ior, wp_ixor, wp_ishl, wp_ishr, wp_iushr, wp_idiv, wp_irem, wp_ineg, wp_ladd, wp_lsub, wp_lmul, wp_ldiv, wp_lrem, wp_lcmp, wp_i2l, wp_l2i, wp_pop, wp_dup, wp_dup2, wp_goto, wp_ifCond, wp_if_icmp, wp_ifnull, wp_ifnonnull, wp_tableswitch, wp_getfield, wp_putfield, wp_arraylength, wp_iaload, wp_baload, wp_laload, wp_aaload, wp_iastore, wp_bastore, wp_lastore, wp_aastore, wp_new, wp_newarray, wp_anewarray, wp_multianewarray, wp_invokevirtual, wp_invokespecial, wp_invokestatic, wp_ireturn, wp_lreturn, wp_areturn, wp_return_, wpL, ldI, ldJ, ldA, lk, sL, cL, i1, i2, l1, l2, r1, pA, p1, p2, ar, tyAt, rcv, rcr, oO, cmpI, Value.category, rf_some, rf_none, ak, kc, List.drop_succ_cons, List.drop_zero, List.drop_nil, List.take_succ_cons, List.take_zero, List.take_nil, List.head?_cons, List.reverse_cons, List.reverse_nil, List.nil_append, List.cons_append, List.length_cons, List.length_nil, Option.toList_some, Option.toList_none, hT_sI, hT_sJ, hT_sR, hI_sJ, hI_sR, hJ_sI, hJ_sR, hR_sI, hR_sJ, isO_sI, isO_sJ, isO_sR, iI_add, iI_sub, iI_mul, iI_neg, lv_args, Nat.reduceAdd, Nat.reduceEqDiff, Nat.reduceLeDiff, reduceIte, ite_true, ite_false, true_and, and_true, false_and, and_false, not_true, not_false_iff, or_true, true_or, false_or, or_false, imp_self, ne_eq, Classical.not_not, forall_const, true_implies, false_implies, if_pos, Nat.zero_add, Nat.add_zero, Nat.le_refl, Nat.reduceLT, iz00, iz01, iz10, iz11, ib0, ib1, ib01, reduceCtorEq, cq_X12_laySwap_175, e1, et, c']
        have q := ih (hh + 1) b h' [] (by omega) hb2 hbr jh sm pre
        rw [nc1] at q
        exact q
      · have c' : (mm.testBit hh = true) = False := eq_false c
        have cf' : mm.testBit hh = false := Bool.eq_false_iff.mpr c
        have jh' := jh
        rw [hJ] at jh'
        obtain ⟨F, rw1⟩ := jh'
        have M' := RM_fm F M
        have o := mo M'
        have t1 := mr_35 M'
        have t2 := mt_35 M'
        have t3 := mr_32 M'
        have t4 := mt_32 M'
        obtain ⟨in1, n1⟩ := vinN (i := a) (n := 7) ha7 (by omega)
        obtain ⟨in2, n2⟩ := vinN (i := hh) (n := 7) (by omega) (by omega)
        have v1 : hI (sI h' 138 a (A 35) (iI (hh : Nat))) 135 a (A 32) = iI (selS st a : Nat) := by rw [hI_sI, if_neg (by omega)]; exact rw1 a (by omega)
        have v2 : hI (sI h' 138 a (A 35) (iI (hh : Nat))) 135 hh (A 32) = iI (selS st hh : Nat) := by rw [hI_sI, if_neg (by omega)]; exact rw1 hh hhn
        have eo := ms_or mm hmm hh (by omega)
        have ml := ms_l 7 (by omega) mm hmm hh (by omega) hmm
        have s1 := sel7 a (by omega)
        have s2 := sel7 hh hhn
        have cr := csS_rg w (selS st a) (selS st hh)
        refine hG.1 124 _ _ _ _ ?_
        rw [bq_X12_laySwap_124]
        simp only [bk_X12_laySwap_124, wp_aconst_null, wp_iconst, wp_bipush, wp_sipush, wp_ldc, wp_ldc_w, wp_ldc2_w, wp_lconst, wp_iload, wp_iload_n, wp_lload, wp_lload_n, wp_aload, wp_aload_n, wp_istore, wp_istore_n, wp_lstore, wp_lstore_n, wp_astore, wp_astore_n, wp_iinc, wp_iadd, wp_isub, wp_imul, wp_iand, wp_ior, wp_ixor, wp_ishl, wp_ishr, wp_iushr, wp_idiv, wp_irem, wp_ineg, wp_ladd, wp_lsub, wp_lmul, wp_ldiv, wp_lrem, wp_lcmp, wp_i2l, wp_l2i, wp_pop, wp_dup, wp_dup2, wp_goto, wp_ifCond, wp_if_icmp, wp_ifnull, wp_ifnonnull, wp_tableswitch, wp_getfield, wp_putfield, wp_arraylength, wp_iaload, wp_baload, wp_laload, wp_aaload, wp_iastore, wp_bastore, wp_lastore, wp_aastore, wp_new, wp_newarray, wp_anewarray, wp_multianewarray, wp_invokevirtual, wp_invokespecial, wp_invokestatic, wp_ireturn, wp_lreturn, wp_areturn, wp_return_, wpL, ldI, ldJ, ldA, lk, sL, cL, i1, i2, l1, l2, r1, pA, p1, p2, ar, tyAt, rcv, rcr, oO, cmpI, Value.category, rf_some, rf_none, ak, kc, List.drop_succ_cons, List.drop_zero, List.drop_nil, List.take_succ_cons, List.take_zero, List.take_nil, List.head?_cons, List.reverse_cons, List.reverse_nil, List.nil_append, List.cons_append, List.length_cons, List.length_nil, Option.toList_some, Option.toList_none, hT_sI, hT_sJ, hT_sR, hI_sJ, hI_sR, hJ_sI, hJ_sR, hR_sI, hR_sJ, isO_sI, isO_sJ, isO_sR, iI_add, iI_sub, iI_mul, iI_neg, lv_args, Nat.reduceAdd, Nat.reduceEqDiff, Nat.reduceLeDiff, reduceIte, ite_true, ite_false, true_and, and_true, false_and, and_false, not_true, not_false_iff, or_true, true_or, false_or, or_false, imp_self, ne_eq, Classical.not_not, forall_const, true_implies, false_implies, if_pos, Nat.zero_add, Nat.add_zero, Nat.le_refl, Nat.reduceLT, iz00, iz01, iz10, iz11, ib0, ib1, ib01, reduceCtorEq, cq_X12_laySwap_175, e1, et, c']
        refine hG.1 147 _ _ _ _ ?_
        rw [bq_X12_laySwap_147]
        simp only [bk_X12_laySwap_147, wp_aconst_null, wp_iconst, wp_bipush, wp_sipush, wp_ldc, wp_ldc_w, wp_ldc2_w, wp_lconst, wp_iload, wp_iload_n, wp_lload, wp_lload_n, wp_aload, wp_aload_n, wp_istore, wp_istore_n, wp_lstore, wp_lstore_n, wp_astore, wp_astore_n, wp_iinc, wp_iadd, wp_isub, wp_imul, wp_iand, wp_ior, wp_ixor, wp_ishl, wp_ishr, wp_iushr, wp_idiv, wp_irem, wp_ineg, wp_ladd, wp_lsub, wp_lmul, wp_ldiv, wp_lrem, wp_lcmp, wp_i2l, wp_l2i, wp_pop, wp_dup, wp_dup2, wp_goto, wp_ifCond, wp_if_icmp, wp_ifnull, wp_ifnonnull, wp_tableswitch, wp_getfield, wp_putfield, wp_arraylength, wp_iaload, wp_baload, wp_laload, wp_aaload, wp_iastore, wp_bastore, wp_lastore, wp_aastore, wp_new, wp_newarray, wp_anewarray, wp_multianewarray, wp_invokevirtual, wp_invokespecial, wp_invokestatic, wp_ireturn, wp_lreturn, wp_areturn, wp_return_, wpL, ldI, ldJ, ldA, lk, sL, cL, i1, i2, l1, l2, r1, pA, p1, p2, ar, tyAt, rcv, rcr, oO, cmpI, Value.category, rf_some, rf_none, ak, kc, List.drop_succ_cons, List.drop_zero, List.drop_nil, List.take_succ_cons, List.take_zero, List.take_nil, List.head?_cons, List.reverse_cons, List.reverse_nil, List.nil_append, List.cons_append, List.length_cons, List.length_nil, Option.toList_some, Option.toList_none, hT_sI, hT_sJ, hT_sR, hI_sJ, hI_sR, hJ_sI, hJ_sR, hR_sI, hR_sJ, isO_sI, isO_sJ, isO_sR, iI_add, iI_sub, iI_mul, iI_neg, lv_args, Nat.reduceAdd, Nat.reduceEqDiff, Nat.reduceLeDiff, reduceIte, ite_true, ite_false, true_and, and_true, false_and, and_false, not_true, not_false_iff, or_true, true_or, false_or, or_false, imp_self, ne_eq, Classical.not_not, forall_const, true_implies, false_implies, if_pos, Nat.zero_add, Nat.add_zero, Nat.le_refl, Nat.reduceLT, iz00, iz01, iz10, iz11, ib0, ib1, ib01, reduceCtorEq, cq_X12_laySwap_175, e2]
        refine hG.1 159 _ _ _ _ ?_
        rw [bq_X12_laySwap_159]
        simp only [bk_X12_laySwap_159, wp_aconst_null, wp_iconst, wp_bipush, wp_sipush, wp_ldc, wp_ldc_w, wp_ldc2_w, wp_lconst, wp_iload, wp_iload_n, wp_lload, wp_lload_n, wp_aload, wp_aload_n, wp_istore, wp_istore_n, wp_lstore, wp_lstore_n, wp_astore, wp_astore_n, wp_iinc, wp_iadd, wp_isub, wp_imul, wp_iand, wp_ior, wp_ixor, wp_ishl, wp_ishr, wp_iushr, wp_idiv, wp_irem, wp_ineg, wp_ladd, wp_lsub, wp_lmul, wp_ldiv, wp_lrem, wp_lcmp, wp_i2l, wp_l2i, wp_pop, wp_dup, wp_dup2, wp_goto, wp_ifCond, wp_if_icmp, wp_ifnull, wp_ifnonnull, wp_tableswitch, wp_getfield, wp_putfield, wp_arraylength, wp_iaload, wp_baload, wp_laload, wp_aaload, wp_iastore, wp_bastore, wp_lastore, wp_aastore, wp_new, wp_newarray, wp_anewarray, wp_multianewarray, wp_invokevirtual, wp_invokespecial, wp_invokestatic, wp_ireturn, wp_lreturn, wp_areturn, wp_return_, wpL, ldI, ldJ, ldA, lk, sL, cL, i1, i2, l1, l2, r1, pA, p1, p2, ar, tyAt, rcv, rcr, oO, cmpI, Value.category, rf_some, rf_none, ak, kc, List.drop_succ_cons, List.drop_zero, List.drop_nil, List.take_succ_cons, List.take_zero, List.take_nil, List.head?_cons, List.reverse_cons, List.reverse_nil, List.nil_append, List.cons_append, List.length_cons, List.length_nil, Option.toList_some, Option.toList_none, hT_sI, hT_sJ, hT_sR, hI_sJ, hI_sR, hJ_sI, hJ_sR, hR_sI, hR_sJ, isO_sI, isO_sJ, isO_sR, iI_add, iI_sub, iI_mul, iI_neg, lv_args, Nat.reduceAdd, Nat.reduceEqDiff, Nat.reduceLeDiff, reduceIte, ite_true, ite_false, true_and, and_true, false_and, and_false, not_true, not_false_iff, or_true, true_or, false_or, or_false, imp_self, ne_eq, Classical.not_not, forall_const, true_implies, false_implies, if_pos, Nat.zero_add, Nat.add_zero, Nat.le_refl, Nat.reduceLT, iz00, iz01, iz10, iz11, ib0, ib1, ib01, reduceCtorEq, cq_X12_laySwap_175, o, t1, t2, t3, t4, in1, n1, in2, n2, v1, v2, eo]
        refine ⟨m, A, st, selS st a, selS st hh, rfl, RM_fm (Fm.rf.i rfl) M', w, s1, s2, ?_⟩
        simp only [wp_aconst_null, wp_iconst, wp_bipush, wp_sipush, wp_ldc, wp_ldc_w, wp_ldc2_w, wp_lconst, wp_iload, wp_iload_n, wp_lload, wp_lload_n, wp_aload, wp_aload_n, wp_istore, wp_istore_n, wp_lstore, wp_lstore_n, wp_astore, wp_astore_n, wp_iinc, wp_iadd, wp_isub, wp_imul, wp_iand, wp_ior, wp_ixor, wp_ishl, wp_ishr, wp_iushr, wp_idiv, wp_irem, wp_ineg, wp_ladd, wp_lsub, wp_lmul, wp_ldiv, wp_lrem, wp_lcmp, wp_i2l, wp_l2i, wp_pop, wp_dup, wp_dup2, wp_goto, wp_ifCond, wp_if_icmp, wp_ifnull, wp_ifnonnull, wp_tableswitch, wp_getfield, wp_putfield, wp_arraylength, wp_iaload, wp_baload, wp_laload, wp_aaload, wp_iastore, wp_bastore, wp_lastore, wp_aastore, wp_new, wp_newarray, wp_anewarray, wp_multianewarray, wp_invokevirtual, wp_invokespecial, wp_invokestatic, wp_ireturn, wp_lreturn, wp_areturn, wp_return_, wpL, ldI, ldJ, ldA, lk, sL, cL, i1, i2, l1, l2, r1, pA, p1, p2, ar, tyAt, rcv, rcr, oO, cmpI, Value.category, rf_some, rf_none, ak, kc, List.drop_succ_cons, List.drop_zero, List.drop_nil, List.take_succ_cons, List.take_zero, List.take_nil, List.head?_cons, List.reverse_cons, List.reverse_nil, List.nil_append, List.cons_append, List.length_cons, List.length_nil, Option.toList_some, Option.toList_none, hT_sI, hT_sJ, hT_sR, hI_sJ, hI_sR, hJ_sI, hJ_sR, hR_sI, hR_sJ, isO_sI, isO_sJ, isO_sR, iI_add, iI_sub, iI_mul, iI_neg, lv_args, Nat.reduceAdd, Nat.reduceEqDiff, Nat.reduceLeDiff, reduceIte, ite_true, ite_false, true_and, and_true, false_and, and_false, not_true, not_false_iff, or_true, true_or, false_or, or_false, imp_self, ne_eq, Classical.not_not, forall_const, true_implies, false_implies, if_pos, Nat.zero_add, Nat.add_zero, Nat.le_refl, Nat.reduceLT, iz00, iz01, iz10, iz11, ib0, ib1, ib01, reduceCtorEq, cq_X12_laySwap_175]
        have j2 : J (sI h' 138 a (A 35) (iI (hh : Nat))) := mv jh rfl (by decide) rfl
        have sm2 : SM (sI h' 138 a (A 35) (iI (hh : Nat))) A st b := fun z k hk' => by rw [hI_sI, if_neg (by omega)]; exact sm z k hk'
        refine ch hh b _ hhn cf' hbr j2 sm2 (fun k hk' => ?_) (fun h3 X3 j3 sm3 pre3 => ?_)
        · rw [hI_sI]
          unfold upN
          by_cases d : k = a
          · rw [if_pos ⟨rfl, d, rfl⟩, if_pos d]
          · rw [if_neg (fun z => d z.2.1), if_neg d]; exact pre k (by omega)
        · -- the hole is given back
          refine hG.2 60 _ [(0, .ref m), (1, .int (iI (n : Nat))), (2, .int (iI (swF st n r a mm sum hs hh b).1)), (3, .int (iI (a : Nat))), (4, .int (iI (mm ||| 2 ^ hh : Nat))), (5, .int (iI (sum + csS st (selS st a) (selS st hh))))] _ _ _ (fun q hq => List.mem_append_left X3 hq) ?_
          have j3' := j3
          rw [hJ] at j3'
          obtain ⟨F3, rw3⟩ := j3'
          have M3 := RM_fm F3 M
          have o3 := mo M3
          have u1 := mr_35 M3
          have u2 := mt_35 M3
          have u3 := mr_32 M3
          have u4 := mt_32 M3
          have x1 : hI h3 138 a (A 35) = iI (hh : Nat) := by rw [pre3 a (by omega)]; unfold upN; rw [if_pos rfl]
          have x2 := rw3 a (by omega)
          have x3 := rw3 hh hhn
          have ea : (iI (a : Nat) < 0) = False := eq_false (by rw [iI_lt0 (by omega)]; omega)
          have eh : (iI (hh : Nat) < 0) = False := eq_false (by rw [iI_lt0 (by omega)]; omega)
          have ec := ms_clr mm hmm hh (by omega) cf'
          refine hG.1 60 _ _ _ _ ?_
          rw [bq_X12_laySwap_60]
          simp only [bk_X12_laySwap_60, wp_aconst_null, wp_iconst, wp_bipush, wp_sipush, wp_ldc, wp_ldc_w, wp_ldc2_w, wp_lconst, wp_iload, wp_iload_n, wp_lload, wp_lload_n, wp_aload, wp_aload_n, wp_istore, wp_istore_n, wp_lstore, wp_lstore_n, wp_astore, wp_astore_n, wp_iinc, wp_iadd, wp_isub, wp_imul, wp_iand, wp_ior, wp_ixor, wp_ishl, wp_ishr, wp_iushr, wp_idiv, wp_irem, wp_ineg, wp_ladd, wp_lsub, wp_lmul, wp_ldiv, wp_lrem, wp_lcmp, wp_i2l, wp_l2i, wp_pop, wp_dup, wp_dup2, wp_goto, wp_ifCond, wp_if_icmp, wp_ifnull, wp_ifnonnull, wp_tableswitch, wp_getfield, wp_putfield, wp_arraylength, wp_iaload, wp_baload, wp_laload, wp_aaload, wp_iastore, wp_bastore, wp_lastore, wp_aastore, wp_new, wp_newarray, wp_anewarray, wp_multianewarray, wp_invokevirtual, wp_invokespecial, wp_invokestatic, wp_ireturn, wp_lreturn, wp_areturn, wp_return_, wpL, ldI, ldJ, ldA, lk, sL, cL, i1, i2, l1, l2, r1, pA, p1, p2, ar, tyAt, rcv, rcr, oO, cmpI, Value.category, rf_some, rf_none, ak, kc, List.drop_succ_cons, List.drop_zero, List.drop_nil, List.take_succ_cons, List.take_zero, List.take_nil, List.head?_cons, List.reverse_cons, List.reverse_nil, List.nil_append, List.cons_append, List.length_cons, List.length_nil, Option.toList_some, Option.toList_none, hT_sI, hT_sJ, hT_sR, hI_sJ, hI_sR, hJ_sI, hJ_sR, hR_sI, hR_sJ, isO_sI, isO_sJ, isO_sR, iI_add, iI_sub, iI_mul, iI_neg, lv_args, Nat.reduceAdd, Nat.reduceEqDiff, Nat.reduceLeDiff, reduceIte, ite_true, ite_false, true_and, and_true, false_and, and_false, not_true, not_false_iff, or_true, true_or, false_or, or_false, imp_self, ne_eq, Classical.not_not, forall_const, true_implies, false_implies, if_pos, Nat.zero_add, Nat.add_zero, Nat.le_refl, Nat.reduceLT, iz00, iz01, iz10, iz11, ib0, ib1, ib01, reduceCtorEq, cq_X12_laySwap_175, ea, o3, u1, u2, in1, n1, x1, eh, ec, u3, u4, in2, n2, x2, x3]
          refine ⟨m, A, st, selS st a, selS st hh, rfl, M3, w, s1, s2, ?_⟩
          have es : sum + csS st (selS st a) (selS st hh) - csS st (selS st a) (selS st hh) = sum := by omega
          simp only [wp_aconst_null, wp_iconst, wp_bipush, wp_sipush, wp_ldc, wp_ldc_w, wp_ldc2_w, wp_lconst, wp_iload, wp_iload_n, wp_lload, wp_lload_n, wp_aload, wp_aload_n, wp_istore, wp_istore_n, wp_lstore, wp_lstore_n, wp_astore, wp_astore_n, wp_iinc, wp_iadd, wp_isub, wp_imul, wp_iand, wp_ior, wp_ixor, wp_ishl, wp_ishr, wp_iushr, wp_idiv, wp_irem, wp_ineg, wp_ladd, wp_lsub, wp_lmul, wp_ldiv, wp_lrem, wp_lcmp, wp_i2l, wp_l2i, wp_pop, wp_dup, wp_dup2, wp_goto, wp_ifCond, wp_if_icmp, wp_ifnull, wp_ifnonnull, wp_tableswitch, wp_getfield, wp_putfield, wp_arraylength, wp_iaload, wp_baload, wp_laload, wp_aaload, wp_iastore, wp_bastore, wp_lastore, wp_aastore, wp_new, wp_newarray, wp_anewarray, wp_multianewarray, wp_invokevirtual, wp_invokespecial, wp_invokestatic, wp_ireturn, wp_lreturn, wp_areturn, wp_return_, wpL, ldI, ldJ, ldA, lk, sL, cL, i1, i2, l1, l2, r1, pA, p1, p2, ar, tyAt, rcv, rcr, oO, cmpI, Value.category, rf_some, rf_none, ak, kc, List.drop_succ_cons, List.drop_zero, List.drop_nil, List.take_succ_cons, List.take_zero, List.take_nil, List.head?_cons, List.reverse_cons, List.reverse_nil, List.nil_append, List.cons_append, List.length_cons, List.length_nil, Option.toList_some, Option.toList_none, hT_sI, hT_sJ, hT_sR, hI_sJ, hI_sR, hJ_sI, hJ_sR, hR_sI, hR_sJ, isO_sI, isO_sJ, isO_sR, iI_add, iI_sub, iI_mul, iI_neg, lv_args, Nat.reduceAdd, Nat.reduceEqDiff, Nat.reduceLeDiff, reduceIte, ite_true, ite_false, true_and, and_true, false_and, and_false, not_true, not_false_iff, or_true, true_or, false_or, or_false, imp_self, ne_eq, Classical.not_not, forall_const, true_implies, false_implies, if_pos, Nat.zero_add, Nat.add_zero, Nat.le_refl, Nat.reduceLT, iz00, iz01, iz10, iz11, ib0, ib1, ib01, reduceCtorEq, cq_X12_laySwap_175]
          refine hG.1 111 _ _ _ _ ?_
          rw [bq_X12_laySwap_111]
          simp only [bk_X12_laySwap_111, wp_aconst_null, wp_iconst, wp_bipush, wp_sipush, wp_ldc, wp_ldc_w, wp_ldc2_w, wp_lconst, wp_iload, wp_iload_n, wp_lload, wp_lload_n, wp_aload, wp_aload_n, wp_istore, wp_istore_n, wp_lstore, wp_lstore_n, wp_astore, wp_astore_n, wp_iinc, wp_iadd, wp_isub, wp_imul, wp_iand, wp_ior, wp_ixor, wp_ishl, wp_ishr, wp_iushr, wp_idiv, wp_irem, wp_ineg, wp_ladd, wp_lsub, wp_lmul, wp_ldiv, wp_lrem, wp_lcmp, wp_i2l, wp_l2i, wp_pop, wp_dup, wp_dup2, wp_goto, wp_ifCond, wp_if_icmp, wp_ifnull, wp_ifnonnull, wp_tableswitch, wp_getfield, wp_putfield, wp_arraylength, wp_iaload, wp_baload, wp_laload, wp_aaload, wp_iastore, wp_bastore, wp_lastore, wp_aastore, wp_new, wp_newarray, wp_anewarray, wp_multianewarray, wp_invokevirtual, wp_invokespecial, wp_invokestatic, wp_ireturn, wp_lreturn, wp_areturn, wp_return_, wpL, ldI, ldJ, ldA, lk, sL, cL, i1, i2, l1, l2, r1, pA, p1, p2, ar, tyAt, rcv, rcr, oO, cmpI, Value.category, rf_some, rf_none, ak, kc, List.drop_succ_cons, List.drop_zero, List.drop_nil, List.take_succ_cons, List.take_zero, List.take_nil, List.head?_cons, List.reverse_cons, List.reverse_nil, List.nil_append, List.cons_append, List.length_cons, List.length_nil, Option.toList_some, Option.toList_none, hT_sI, hT_sJ, hT_sR, hI_sJ, hI_sR, hJ_sI, hJ_sR, hR_sI, hR_sJ, isO_sI, isO_sJ, isO_sR, iI_add, iI_sub, iI_mul, iI_neg, lv_args, Nat.reduceAdd, Nat.reduceEqDiff, Nat.reduceLeDiff, reduceIte, ite_true, ite_false, true_and, and_true, false_and, and_false, not_true, not_false_iff, or_true, true_or, false_or, or_false, imp_self, ne_eq, Classical.not_not, forall_const, true_implies, false_implies, if_pos, Nat.zero_add, Nat.add_zero, Nat.le_refl, Nat.reduceLT, iz00, iz01, iz10, iz11, ib0, ib1, ib01, reduceCtorEq, cq_X12_laySwap_175, es]
          refine hG.1 114 _ _ _ _ ?_
          rw [bq_X12_laySwap_114]
          simp only [bk_X12_laySwap_114, wp_aconst_null, wp_iconst, wp_bipush, wp_sipush, wp_ldc, wp_ldc_w, wp_ldc2_w, wp_lconst, wp_iload, wp_iload_n, wp_lload, wp_lload_n, wp_aload, wp_aload_n, wp_istore, wp_istore_n, wp_lstore, wp_lstore_n, wp_astore, wp_astore_n, wp_iinc, wp_iadd, wp_isub, wp_imul, wp_iand, wp_ior, wp_ixor, wp_ishl, wp_ishr, wp_iushr, wp_idiv, wp_irem, wp_ineg, wp_ladd, wp_lsub, wp_lmul, wp_ldiv, wp_lrem, wp_lcmp, wp_i2l, wp_l2i, wp_pop, wp_dup, wp_dup2, wp_goto, wp_ifCond, wp_if_icmp, wp_ifnull, wp_ifnonnull, wp_tableswitch, wp_getfield, wp_putfield, wp_arraylength, wp_iaload, wp_baload, wp_laload, wp_aaload, wp_iastore, wp_bastore, wp_lastore, wp_aastore, wp_new, wp_newarray, wp_anewarray, wp_multianewarray, wp_invokevirtual, wp_invokespecial, wp_invokestatic, wp_ireturn, wp_lreturn, wp_areturn, wp_return_, wpL, ldI, ldJ, ldA, lk, sL, cL, i1, i2, l1, l2, r1, pA, p1, p2, ar, tyAt, rcv, rcr, oO, cmpI, Value.category, rf_some, rf_none, ak, kc, List.drop_succ_cons, List.drop_zero, List.drop_nil, List.take_succ_cons, List.take_zero, List.take_nil, List.head?_cons, List.reverse_cons, List.reverse_nil, List.nil_append, List.cons_append, List.length_cons, List.length_nil, Option.toList_some, Option.toList_none, hT_sI, hT_sJ, hT_sR, hI_sJ, hI_sR, hJ_sI, hJ_sR, hR_sI, hR_sJ, isO_sI, isO_sJ, isO_sR, iI_add, iI_sub, iI_mul, iI_neg, lv_args, Nat.reduceAdd, Nat.reduceEqDiff, Nat.reduceLeDiff, reduceIte, ite_true, ite_false, true_and, and_true, false_and, and_false, not_true, not_false_iff, or_true, true_or, false_or, or_false, imp_self, ne_eq, Classical.not_not, forall_const, true_implies, false_implies, if_pos, Nat.zero_add, Nat.add_zero, Nat.le_refl, Nat.reduceLT, iz00, iz01, iz10, iz11, ib0, ib1, ib01, reduceCtorEq, cq_X12_laySwap_175, o3, u1, u2, in1, n1, x1]
          have br : -1 ≤ (swF st n r a mm sum hs hh b).1 ∧ (swF st n r a mm sum hs hh b).1 ≤ 5000 := by
            unfold swF
            rw [if_neg c]
            exact SU_rg w n r (a + 1) _ _ _ b (by omega) hbr (by omega)
          have q := ih (hh + 1) _ h3 [] (by omega) hb2 br j3 sm3 (fun k hk' => by rw [pre3 k (by omega)]; unfold upN; rw [if_neg (by omega)])
          rw [nc1] at q
          exact q
  have main : ∀ (r a mm : Nat) (sum : Int) (hs : Nat → Nat) (b0 : SB), a + r + 1 = n → mm < 128 → (0 ≤ sum ∧ sum ≤ 243 * (a : Int)) → (∀ k, k < a → hs k < n) →
      (∀ (h2 : hp) (X : Lc), J h2 → SM h2 A st b0 → (∀ k, k < a → hI h2 138 k (A 35) = iI (hs k : Nat)) → G 60 ([(0, .ref m), (1, .int (iI (n : Nat))), (2, .int (iI b0.1)), (3, .int (iI ((a : Int) - 1))), (4, .int (iI (mm : Nat))), (5, .int (iI sum))] ++ X) [] h2 (0, 0)) →
      ∀ (K hh : Nat) (b : SB) (h' : hp) (X : Lc), hh + K = n → lpU (swF st n r a mm sum hs) K hh b = b0 → (-1 ≤ b.1 ∧ b.1 ≤ 5000) → J h' → SM h' A st b → (∀ k, k < a → hI h' 138 k (A 35) = iI (hs k : Nat)) → G 124 ([(0, .ref m), (1, .int (iI (n : Nat))), (2, .int (iI b.1)), (3, .int (iI (a : Nat))), (4, .int (iI (mm : Nat))), (5, .int (iI sum)), (6, .int (iI (hh : Nat)))] ++ X) [] h' (0, 0) := by
    intro r
    induction r with
    | zero =>
      intro a mm sum hs b0 har hmm hsum hsb kk
      refine lvl 0 a mm sum hs b0 har hmm hsum kk (fun hh b h2 hhn hf hbr j2 sm2 pre2 ret => ?_)
      have cr := csS_rg w (selS st a) (selS st hh)
      have e1 : (iI ((n : Int) - 1) ≤ iI (a : Nat)) = True := eq_true ((iI_le (by omega) (by omega)).mpr (by omega))
      obtain ⟨S, hS⟩ : ∃ S, sum + csS st (selS st a) (selS st hh) = S := ⟨_, rfl⟩
      have eb : (iI b.1 < 0) = (b.1 < 0) := propext (iI_lt0 (by omega))
      have es : (iI b.1 ≤ iI S) = (b.1 ≤ S) := propext (iI_le (by omega) (by omega))
      have ef : swF st n 0 a mm sum hs hh b = if b.1 < 0 ∨ S < b.1 then (S, upN hs a hh) else b := by
        unfold swF
        rw [if_neg (by rw [hf]; exact Bool.false_ne_true), hS]
        rfl
      rw [hS] at ret
      have hsb' : ∀ k, k < n → upN hs a hh k < n := by
        intro k hk
        unfold upN
        split
        · exact hhn
        · exact hsb k (by omega)
      have no : ¬ (b.1 < 0 ∨ S < b.1) → G 270 [(0, .ref m), (1, .int (iI (n : Nat))), (2, .int (iI b.1)), (3, .int (iI (a : Nat))), (4, .int (iI (mm ||| 2 ^ hh : Nat))), (5, .int (iI S)), (6, .int (iI (hh : Nat)))] [] h2 (0, 0) := by
        intro c
        rw [if_neg c] at ef
        rw [ef] at ret
        refine hG.1 270 _ _ _ _ ?_
        rw [bq_X12_laySwap_270]
        simp only [bk_X12_laySwap_270, wp_aconst_null, wp_iconst, wp_bipush, wp_sipush, wp_ldc, wp_ldc_w, wp_ldc2_w, wp_lconst, wp_iload, wp_iload_n, wp_lload, wp_lload_n, wp_aload, wp_aload_n, wp_istore, wp_istore_n, wp_lstore, wp_lstore_n, wp_astore, wp_astore_n, wp_iinc, wp_iadd, wp_isub, wp_imul, wp_iand, wp_ior, wp_ixor, wp_ishl, wp_ishr, wp_iushr, wp_idiv, wp_irem, wp_ineg, wp_ladd, wp_lsub, wp_lmul, wp_ldiv, wp_lrem, wp_lcmp, wp_i2l, wp_l2i, wp_pop, wp_dup, wp_dup2, wp_goto, wp_ifCond, wp_if_icmp, wp_ifnull, wp_ifnonnull, wp_tableswitch, wp_getfield, wp_putfield, wp_arraylength, wp_iaload, wp_baload, wp_laload, wp_aaload, wp_iastore, wp_bastore, wp_lastore, wp_aastore, wp_new, wp_newarray, wp_anewarray, wp_multianewarray, wp_invokevirtual, wp_invokespecial, wp_invokestatic, wp_ireturn, wp_lreturn, wp_areturn, wp_return_, wpL, ldI, ldJ, ldA, lk, sL, cL, i1, i2, l1, l2, r1, pA, p1, p2, ar, tyAt, rcv, rcr, oO, cmpI, Value.category, rf_some, rf_none, ak, kc, List.drop_succ_cons, List.drop_zero, List.drop_nil, List.take_succ_cons, List.take_zero, List.take_nil, List.head?_cons, List.reverse_cons, List.reverse_nil, List.nil_append, List.cons_append, List.length_cons, List.length_nil, Option.toList_some, Option.toList_none, hT_sI, hT_sJ, hT_sR, hI_sJ, hI_sR, hJ_sI, hJ_sR, hR_sI, hR_sJ, isO_sI, isO_sJ, isO_sR, iI_add, iI_sub, iI_mul, iI_neg, lv_args, Nat.reduceAdd, Nat.reduceEqDiff, Nat.reduceLeDiff, reduceIte, ite_true, ite_false, true_and, and_true, false_and, and_false, not_true, not_false_iff, or_true, true_or, false_or, or_false, imp_self, ne_eq, Classical.not_not, forall_const, true_implies, false_implies, if_pos, Nat.zero_add, Nat.add_zero, Nat.le_refl, Nat.reduceLT, iz00, iz01, iz10, iz11, ib0, ib1, ib01, reduceCtorEq, cq_X12_laySwap_175]
        exact ret h2 [(6, .int (iI (hh : Nat)))] j2 sm2 pre2
      have yes : (b.1 < 0 ∨ S < b.1) → G 228 [(0, .ref m), (1, .int (iI (n : Nat))), (2, .int (iI b.1)), (3, .int (iI (a : Nat))), (4, .int (iI (mm ||| 2 ^ hh : Nat))), (5, .int (iI S)), (6, .int (iI (hh : Nat)))] [] h2 (0, 0) := by
        intro c
        rw [if_pos c] at ef
        rw [ef] at ret
        have loop : ∀ (N k : Nat) (h' : hp), k + N = n → J h' → (∀ i, i < a + 1 → hI h' 138 i (A 35) = iI (upN hs a hh i : Nat)) → (∀ i, i < k → hI h' 139 (selS st i) (A 36) = iI (selS st (upN hs a hh i) : Nat)) → G 234 [(0, .ref m), (1, .int (iI (n : Nat))), (2, .int (iI S)), (3, .int (iI (a : Nat))), (4, .int (iI (mm ||| 2 ^ hh : Nat))), (5, .int (iI S)), (6, .int (iI (hh : Nat))), (7, .int (iI (k : Nat)))] [] h' (0, 0) := by
          intro N
          induction N with
          | zero =>
            intro k h' hk jh pre bh
            have e2 : (iI (n : Nat) ≤ iI (k : Nat)) = True := eq_true ((iI_le (by omega) (by omega)).mpr (by omega))
            refine hG.1 234 _ _ _ _ ?_
            rw [bq_X12_laySwap_234]
            simp only [bk_X12_laySwap_234, wp_aconst_null, wp_iconst, wp_bipush, wp_sipush, wp_ldc, wp_ldc_w, wp_ldc2_w, wp_lconst, wp_iload, wp_iload_n, wp_lload, wp_lload_n, wp_aload, wp_aload_n, wp_istore, wp_istore_n, wp_lstore, wp_lstore_n, wp_astore, wp_astore_n, wp_iinc, wp_iadd, wp_isub, wp_imul, wp_iand, wp_ior, wp_ixor, wp_ishl, wp_ishr, wp_iushr, wp_idiv, wp_irem, wp_ineg, wp_ladd, wp_lsub, wp_lmul, wp_ldiv, wp_lrem, wp_lcmp, wp_i2l, wp_l2i, wp_pop, wp_dup, wp_dup2, wp_goto, wp_ifCond, wp_if_icmp, wp_ifnull, wp_ifnonnull, wp_tableswitch, wp_getfield, wp_putfield, wp_arraylength, wp_iaload, wp_baload, wp_laload, wp_aaload, wp_iastore, wp_bastore, wp_lastore, wp_aastore, wp_new, wp_newarray, wp_anewarray, wp_multianewarray, wp_invokevirtual, wp_invokespecial, wp_invokestatic, wp_ireturn, wp_lreturn, wp_areturn, wp_return_, wpL, ldI, ldJ, ldA, lk, sL, cL, i1, i2, l1, l2, r1, pA, p1, p2, ar, tyAt, rcv, rcr, oO, cmpI, Value.category, rf_some, rf_none, ak, kc, List.drop_succ_cons, List.drop_zero, List.drop_nil, List.take_succ_cons, List.take_zero, List.take_nil, List.head?_cons, List.reverse_cons, List.reverse_nil, List.nil_append, List.cons_append, List.length_cons, List.length_nil, Option.toList_some, Option.toList_none, hT_sI, hT_sJ, hT_sR, hI_sJ, hI_sR, hJ_sI, hJ_sR, hR_sI, hR_sJ, isO_sI, isO_sJ, isO_sR, iI_add, iI_sub, iI_mul, iI_neg, lv_args, Nat.reduceAdd, Nat.reduceEqDiff, Nat.reduceLeDiff, reduceIte, ite_true, ite_false, true_and, and_true, false_and, and_false, not_true, not_false_iff, or_true, true_or, false_or, or_false, imp_self, ne_eq, Classical.not_not, forall_const, true_implies, false_implies, if_pos, Nat.zero_add, Nat.add_zero, Nat.le_refl, Nat.reduceLT, iz00, iz01, iz10, iz11, ib0, ib1, ib01, reduceCtorEq, cq_X12_laySwap_175, e2]
            refine hG.1 270 _ _ _ _ ?_
            rw [bq_X12_laySwap_270]
            simp only [bk_X12_laySwap_270, wp_aconst_null, wp_iconst, wp_bipush, wp_sipush, wp_ldc, wp_ldc_w, wp_ldc2_w, wp_lconst, wp_iload, wp_iload_n, wp_lload, wp_lload_n, wp_aload, wp_aload_n, wp_istore, wp_istore_n, wp_lstore, wp_lstore_n, wp_astore, wp_astore_n, wp_iinc, wp_iadd, wp_isub, wp_imul, wp_iand, wp_ior, wp_ixor, wp_ishl, wp_ishr, wp_iushr, wp_idiv, wp_irem, wp_ineg, wp_ladd, wp_lsub, wp_lmul, wp_ldiv, wp_lrem, wp_lcmp, wp_i2l, wp_l2i, wp_pop, wp_dup, wp_dup2, wp_goto, wp_ifCond, wp_if_icmp, wp_ifnull, wp_ifnonnull, wp_tableswitch, wp_getfield, wp_putfield, wp_arraylength, wp_iaload, wp_baload, wp_laload, wp_aaload, wp_iastore, wp_bastore, wp_lastore, wp_aastore, wp_new, wp_newarray, wp_anewarray, wp_multianewarray, wp_invokevirtual, wp_invokespecial, wp_invokestatic, wp_ireturn, wp_lreturn, wp_areturn, wp_return_, wpL, ldI, ldJ, ldA, lk, sL, cL, i1, i2, l1, l2, r1, pA, p1, p2, ar, tyAt, rcv, rcr, oO, cmpI, Value.category, rf_some, rf_none, ak, kc, List.drop_succ_cons, List.drop_zero, List.drop_nil, List.take_succ_cons, List.take_zero, List.take_nil, List.head?_cons, List.reverse_cons, List.reverse_nil, List.nil_append, List.cons_append, List.length_cons, List.length_nil, Option.toList_some, Option.toList_none, hT_sI, hT_sJ, hT_sR, hI_sJ, hI_sR, hJ_sI, hJ_sR, hR_sI, hR_sJ, isO_sI, isO_sJ, isO_sR, iI_add, iI_sub, iI_mul, iI_neg, lv_args, Nat.reduceAdd, Nat.reduceEqDiff, Nat.reduceLeDiff, reduceIte, ite_true, ite_false, true_and, and_true, false_and, and_false, not_true, not_false_iff, or_true, true_or, false_or, or_false, imp_self, ne_eq, Classical.not_not, forall_const, true_implies, false_implies, if_pos, Nat.zero_add, Nat.add_zero, Nat.le_refl, Nat.reduceLT, iz00, iz01, iz10, iz11, ib0, ib1, ib01, reduceCtorEq, cq_X12_laySwap_175]
            exact ret h' [(6, .int (iI (hh : Nat))), (7, .int (iI (k : Nat)))] jh (fun _ i hi => bh i (by omega)) pre
          | succ N ih =>
            intro k h' hk jh pre bh
            have e2 : (iI (n : Nat) ≤ iI (k : Nat)) = False := eq_false (by rw [iI_le (by omega) (by omega)]; omega)
            have jh' := jh
            rw [hJ] at jh'
            obtain ⟨F, rw1⟩ := jh'
            have M' := RM_fm F M
            have o := mo M'
            have t1 := mr_35 M'
            have t2 := mt_35 M'
            have t3 := mr_32 M'
            have t4 := mt_32 M'
            have t5 := mr_36 M'
            have t6 := mt_36 M'
            have hk7 : k < n := by omega
            have hu := hsb' k hk7
            obtain ⟨in1, n1⟩ := vinN (i := k) (n := 7) (by omega) (by omega)
            obtain ⟨in2, n2⟩ := vinN (i := upN hs a hh k) (n := 7) (by omega) (by omega)
            obtain ⟨in3, n3⟩ := vinN (i := selS st k) (n := 7) (sel7 k hk7) (by omega)
            have v1 := rw1 k hk7
            have v2 := rw1 _ hu
            have v3 := pre k (by omega)
            refine hG.1 234 _ _ _ _ ?_
            rw [bq_X12_laySwap_234]
            simp only [bk_X12_laySwap_234, wp_aconst_null, wp_iconst, wp_bipush, wp_sipush, wp_ldc, wp_ldc_w, wp_ldc2_w, wp_lconst, wp_iload, wp_iload_n, wp_lload, wp_lload_n, wp_aload, wp_aload_n, wp_istore, wp_istore_n, wp_lstore, wp_lstore_n, wp_astore, wp_astore_n, wp_iinc, wp_iadd, wp_isub, wp_imul, wp_iand, wp_ior, wp_ixor, wp_ishl, wp_ishr, wp_iushr, wp_idiv, wp_irem, wp_ineg, wp_ladd, wp_lsub, wp_lmul, wp_ldiv, wp_lrem, wp_lcmp, wp_i2l, wp_l2i, wp_pop, wp_dup, wp_dup2, wp_goto, wp_ifCond, wp_if_icmp, wp_ifnull, wp_ifnonnull, wp_tableswitch, wp_getfield, wp_putfield, wp_arraylength, wp_iaload, wp_baload, wp_laload, wp_aaload, wp_iastore, wp_bastore, wp_lastore, wp_aastore, wp_new, wp_newarray, wp_anewarray, wp_multianewarray, wp_invokevirtual, wp_invokespecial, wp_invokestatic, wp_ireturn, wp_lreturn, wp_areturn, wp_return_, wpL, ldI, ldJ, ldA, lk, sL, cL, i1, i2, l1, l2, r1, pA, p1, p2, ar, tyAt, rcv, rcr, oO, cmpI, Value.category, rf_some, rf_none, ak, kc, List.drop_succ_cons, List.drop_zero, List.drop_nil, List.take_succ_cons, List.take_zero, List.take_nil, List.head?_cons, List.reverse_cons, List.reverse_nil, List.nil_append, List.cons_append, List.length_cons, List.length_nil, Option.toList_some, Option.toList_none, hT_sI, hT_sJ, hT_sR, hI_sJ, hI_sR, hJ_sI, hJ_sR, hR_sI, hR_sJ, isO_sI, isO_sJ, isO_sR, iI_add, iI_sub, iI_mul, iI_neg, lv_args, Nat.reduceAdd, Nat.reduceEqDiff, Nat.reduceLeDiff, reduceIte, ite_true, ite_false, true_and, and_true, false_and, and_false, not_true, not_false_iff, or_true, true_or, false_or, or_false, imp_self, ne_eq, Classical.not_not, forall_const, true_implies, false_implies, if_pos, Nat.zero_add, Nat.add_zero, Nat.le_refl, Nat.reduceLT, iz00, iz01, iz10, iz11, ib0, ib1, ib01, reduceCtorEq, cq_X12_laySwap_175, e2, o, t1, t2, t3, t4, t5, t6, in1, n1, in2, n2, in3, n3, v1, v2, v3]
            have q := ih (k + 1) (sI h' 139 (selS st k) (A 36) (iI (selS st (upN hs a hh k) : Nat))) (by omega) (mv jh rfl (by decide) rfl) (fun i hi => by rw [hI_sI, if_neg (by omega)]; exact pre i hi) (fun i hi => ?_)
            · rw [nc1] at q
              exact q
            · rw [hI_sI]
              by_cases d : i = k
              · rw [if_pos ⟨rfl, by rw [d], rfl⟩, d]
              · rw [if_neg (fun z => d (selj i k (by omega) hk7 z.2.1))]
                exact bh i (by omega)
        refine hG.1 228 _ _ _ _ ?_
        rw [bq_X12_laySwap_228]
        simp only [bk_X12_laySwap_228, wp_aconst_null, wp_iconst, wp_bipush, wp_sipush, wp_ldc, wp_ldc_w, wp_ldc2_w, wp_lconst, wp_iload, wp_iload_n, wp_lload, wp_lload_n, wp_aload, wp_aload_n, wp_istore, wp_istore_n, wp_lstore, wp_lstore_n, wp_astore, wp_astore_n, wp_iinc, wp_iadd, wp_isub, wp_imul, wp_iand, wp_ior, wp_ixor, wp_ishl, wp_ishr, wp_iushr, wp_idiv, wp_irem, wp_ineg, wp_ladd, wp_lsub, wp_lmul, wp_ldiv, wp_lrem, wp_lcmp, wp_i2l, wp_l2i, wp_pop, wp_dup, wp_dup2, wp_goto, wp_ifCond, wp_if_icmp, wp_ifnull, wp_ifnonnull, wp_tableswitch, wp_getfield, wp_putfield, wp_arraylength, wp_iaload, wp_baload, wp_laload, wp_aaload, wp_iastore, wp_bastore, wp_lastore, wp_aastore, wp_new, wp_newarray, wp_anewarray, wp_multianewarray, wp_invokevirtual, wp_invokespecial, wp_invokestatic, wp_ireturn, wp_lreturn, wp_areturn, wp_return_, wpL, ldI, ldJ, ldA, lk, sL, cL, i1, i2, l1, l2, r1, pA, p1, p2, ar, tyAt, rcv, rcr, oO, cmpI, Value.category, rf_some, rf_none, ak, kc, List.drop_succ_cons, List.drop_zero, List.drop_nil, List.take_succ_cons, List.take_zero, List.take_nil, List.head?_cons, List.reverse_cons, List.reverse_nil, List.nil_append, List.cons_append, List.length_cons, List.length_nil, Option.toList_some, Option.toList_none, hT_sI, hT_sJ, hT_sR, hI_sJ, hI_sR, hJ_sI, hJ_sR, hR_sI, hR_sJ, isO_sI, isO_sJ, isO_sR, iI_add, iI_sub, iI_mul, iI_neg, lv_args, Nat.reduceAdd, Nat.reduceEqDiff, Nat.reduceLeDiff, reduceIte, ite_true, ite_false, true_and, and_true, false_and, and_false, not_true, not_false_iff, or_true, true_or, false_or, or_false, imp_self, ne_eq, Classical.not_not, forall_const, true_implies, false_implies, if_pos, Nat.zero_add, Nat.add_zero, Nat.le_refl, Nat.reduceLT, iz00, iz01, iz10, iz11, ib0, ib1, ib01, reduceCtorEq, cq_X12_laySwap_175]
        exact loop n 0 h2 (by omega) j2 pre2 (fun i hi => by omega)
      refine hG.1 195 _ _ _ _ ?_
      rw [bq_X12_laySwap_195]
      simp only [bk_X12_laySwap_195, wp_aconst_null, wp_iconst, wp_bipush, wp_sipush, wp_ldc, wp_ldc_w, wp_ldc2_w, wp_lconst, wp_iload, wp_iload_n, wp_lload, wp_lload_n, wp_aload, wp_aload_n, wp_istore, wp_istore_n, wp_lstore, wp_lstore_n, wp_astore, wp_astore_n, wp_iinc, wp_iadd, wp_isub, wp_imul, wp_iand, wp_ior, wp_ixor, wp_ishl, wp_ishr, wp_iushr, wp_idiv, wp_irem, wp_ineg, wp_ladd, wp_lsub, wp_lmul, wp_ldiv, wp_lrem, wp_lcmp, wp_i2l, wp_l2i, wp_pop, wp_dup, wp_dup2, wp_goto, wp_ifCond, wp_if_icmp, wp_ifnull, wp_ifnonnull, wp_tableswitch, wp_getfield, wp_putfield, wp_arraylength, wp_iaload, wp_baload, wp_laload, wp_aaload, wp_iastore, wp_bastore, wp_lastore, wp_aastore, wp_new, wp_newarray, wp_anewarray, wp_multianewarray, wp_invokevirtual, wp_invokespecial, wp_invokestatic, wp_ireturn, wp_lreturn, wp_areturn, wp_return_, wpL, ldI, ldJ, ldA, lk, sL, cL, i1, i2, l1, l2, r1, pA, p1, p2, ar, tyAt, rcv, rcr, oO, cmpI, Value.category, rf_some, rf_none, ak, kc, List.drop_succ_cons, List.drop_zero, List.drop_nil, List.take_succ_cons, List.take_zero, List.take_nil, List.head?_cons, List.reverse_cons, List.reverse_nil, List.nil_append, List.cons_append, List.length_cons, List.length_nil, Option.toList_some, Option.toList_none, hT_sI, hT_sJ, hT_sR, hI_sJ, hI_sR, hJ_sI, hJ_sR, hR_sI, hR_sJ, isO_sI, isO_sJ, isO_sR, iI_add, iI_sub, iI_mul, iI_neg, lv_args, Nat.reduceAdd, Nat.reduceEqDiff, Nat.reduceLeDiff, reduceIte, ite_true, ite_false, true_and, and_true, false_and, and_false, not_true, not_false_iff, or_true, true_or, false_or, or_false, imp_self, ne_eq, Classical.not_not, forall_const, true_implies, false_implies, if_pos, Nat.zero_add, Nat.add_zero, Nat.le_refl, Nat.reduceLT, iz00, iz01, iz10, iz11, ib0, ib1, ib01, reduceCtorEq, cq_X12_laySwap_175, hS, e1]
      refine hG.1 218 _ _ _ _ ?_
      rw [bq_X12_laySwap_218]
      simp only [bk_X12_laySwap_218, wp_aconst_null, wp_iconst, wp_bipush, wp_sipush, wp_ldc, wp_ldc_w, wp_ldc2_w, wp_lconst, wp_iload, wp_iload_n, wp_lload, wp_lload_n, wp_aload, wp_aload_n, wp_istore, wp_istore_n, wp_lstore, wp_lstore_n, wp_astore, wp_astore_n, wp_iinc, wp_iadd, wp_isub, wp_imul, wp_iand, wp_ior, wp_ixor, wp_ishl, wp_ishr, wp_iushr, wp_idiv, wp_irem, wp_ineg, wp_ladd, wp_lsub, wp_lmul, wp_ldiv, wp_lrem, wp_lcmp, wp_i2l, wp_l2i, wp_pop, wp_dup, wp_dup2, wp_goto, wp_ifCond, wp_if_icmp, wp_ifnull, wp_ifnonnull, wp_tableswitch, wp_getfield, wp_putfield, wp_arraylength, wp_iaload, wp_baload, wp_laload, wp_aaload, wp_iastore, wp_bastore, wp_lastore, wp_aastore, wp_new, wp_newarray, wp_anewarray, wp_multianewarray, wp_invokevirtual, wp_invokespecial, wp_invokestatic, wp_ireturn, wp_lreturn, wp_areturn, wp_return_, wpL, ldI, ldJ, ldA, lk, sL, cL, i1, i2, l1, l2, r1, pA, p1, p2, ar, tyAt, rcv, rcr, oO, cmpI, Value.category, rf_some, rf_none, ak, kc, List.drop_succ_cons, List.drop_zero, List.drop_nil, List.take_succ_cons, List.take_zero, List.take_nil, List.head?_cons, List.reverse_cons, List.reverse_nil, List.nil_append, List.cons_append, List.length_cons, List.length_nil, Option.toList_some, Option.toList_none, hT_sI, hT_sJ, hT_sR, hI_sJ, hI_sR, hJ_sI, hJ_sR, hR_sI, hR_sJ, isO_sI, isO_sJ, isO_sR, iI_add, iI_sub, iI_mul, iI_neg, lv_args, Nat.reduceAdd, Nat.reduceEqDiff, Nat.reduceLeDiff, reduceIte, ite_true, ite_false, true_and, and_true, false_and, and_false, not_true, not_false_iff, or_true, true_or, false_or, or_false, imp_self, ne_eq, Classical.not_not, forall_const, true_implies, false_implies, if_pos, Nat.zero_add, Nat.add_zero, Nat.le_refl, Nat.reduceLT, iz00, iz01, iz10, iz11, ib0, ib1, ib01, reduceCtorEq, cq_X12_laySwap_175, eb, es]
      exact ⟨fun c => yes (Or.inl c), fun c => ⟨fun d => no (by omega), fun d => yes (Or.inr (by omega))⟩⟩
    | succ r ihr =>
      intro a mm sum hs b0 har hmm hsum hsb kk
      refine lvl (r + 1) a mm sum hs b0 har hmm hsum kk (fun hh b h2 hhn hf hbr j2 sm2 pre2 ret => ?_)
      have cr := csS_rg w (selS st a) (selS st hh)
      have ml := ms_l 7 (by omega) mm hmm hh (by omega) hmm
      have e1 : (iI ((n : Int) - 1) ≤ iI (a : Nat)) = False := eq_false (by rw [iI_le (by omega) (by omega)]; omega)
      obtain ⟨S, hS⟩ : ∃ S, sum + csS st (selS st a) (selS st hh) = S := ⟨_, rfl⟩
      have ef : swF st n (r + 1) a mm sum hs hh b = lpU (swF st n r (a + 1) (mm ||| 2 ^ hh) S (upN hs a hh)) n 0 b := by
        unfold swF
        rw [if_neg (by rw [hf]; exact Bool.false_ne_true), hS]
        rfl
      rw [hS] at ret
      have j2' := j2
      rw [hJ] at j2'
      have M2 := RM_fm j2'.1 M
      have o := mo M2
      have t1 := mr_35 M2
      have t2 := mt_35 M2
      obtain ⟨in1, n1⟩ := vin (a := (a : Int) + 1) (n := 7) (by omega) (by omega)
      rw [show ((a : Int) + 1).toNat = a + 1 by omega] at n1
      have j3 : J (sI h2 138 (a + 1) (A 35) (iI (-1))) := mv j2 rfl (by decide) rfl
      have j3' := j3
      rw [hJ] at j3'
      have M3 := RM_fm j3'.1 M
      have o3 := mo M3
      have u1 := mr_35 M3
      have u2 := mt_35 M3
      have x1 : hI (sI h2 138 (a + 1) (A 35) (iI (-1))) 138 (a + 1) (A 35) = iI (-1) := hI_same _ _ _ _ _
      have ea : (iI ((a : Int) + 1) < 0) = False := eq_false (by rw [iI_lt0 (by omega)]; omega)
      have em : (iI (-1) < 0) = True := eq_true (by decide)
      have ez : (-1 : Int) + 1 = 0 := by decide
      refine hG.1 195 _ _ _ _ ?_
      rw [bq_X12_laySwap_195]
      simp only [bk_X12_laySwap_195, wp_aconst_null, wp_iconst, wp_bipush, wp_sipush, wp_ldc, wp_ldc_w, wp_ldc2_w, wp_lconst, wp_iload, wp_iload_n, wp_lload, wp_lload_n, wp_aload, wp_aload_n, wp_istore, wp_istore_n, wp_lstore, wp_lstore_n, wp_astore, wp_astore_n, wp_iinc, wp_iadd, wp_isub, wp_imul, wp_iand, wp_ior, wp_ixor, wp_ishl, wp_ishr, wp_iushr, wp_idiv, wp_irem, wp_ineg, wp_ladd, wp_lsub, wp_lmul, wp_ldiv, wp_lrem, wp_lcmp, wp_i2l, wp_l2i, wp_pop, wp_dup, wp_dup2, wp_goto, wp_ifCond, wp_if_icmp, wp_ifnull, wp_ifnonnull, wp_tableswitch, wp_getfield, wp_putfield, wp_arraylength, wp_iaload, wp_baload, wp_laload, wp_aaload, wp_iastore, wp_bastore, wp_lastore, wp_aastore, wp_new, wp_newarray, wp_anewarray, wp_multianewarray, wp_invokevirtual, wp_invokespecial, wp_invokestatic, wp_ireturn, wp_lreturn, wp_areturn, wp_return_, wpL, ldI, ldJ, ldA, lk, sL, cL, i1, i2, l1, l2, r1, pA, p1, p2, ar, tyAt, rcv, rcr, oO, cmpI, Value.category, rf_some, rf_none, ak, kc, List.drop_succ_cons, List.drop_zero, List.drop_nil, List.take_succ_cons, List.take_zero, List.take_nil, List.head?_cons, List.reverse_cons, List.reverse_nil, List.nil_append, List.cons_append, List.length_cons, List.length_nil, Option.toList_some, Option.toList_none, hT_sI, hT_sJ, hT_sR, hI_sJ, hI_sR, hJ_sI, hJ_sR, hR_sI, hR_sJ, isO_sI, isO_sJ, isO_sR, iI_add, iI_sub, iI_mul, iI_neg, lv_args, Nat.reduceAdd, Nat.reduceEqDiff, Nat.reduceLeDiff, reduceIte, ite_true, ite_false, true_and, and_true, false_and, and_false, not_true, not_false_iff, or_true, true_or, false_or, or_false, imp_self, ne_eq, Classical.not_not, forall_const, true_implies, false_implies, if_pos, Nat.zero_add, Nat.add_zero, Nat.le_refl, Nat.reduceLT, iz00, iz01, iz10, iz11, ib0, ib1, ib01, reduceCtorEq, cq_X12_laySwap_175, hS, e1, o, t1, t2, in1, n1]
      refine hG.1 270 _ _ _ _ ?_
      rw [bq_X12_laySwap_270]
      simp only [bk_X12_laySwap_270, wp_aconst_null, wp_iconst, wp_bipush, wp_sipush, wp_ldc, wp_ldc_w, wp_ldc2_w, wp_lconst, wp_iload, wp_iload_n, wp_lload, wp_lload_n, wp_aload, wp_aload_n, wp_istore, wp_istore_n, wp_lstore, wp_lstore_n, wp_astore, wp_astore_n, wp_iinc, wp_iadd, wp_isub, wp_imul, wp_iand, wp_ior, wp_ixor, wp_ishl, wp_ishr, wp_iushr, wp_idiv, wp_irem, wp_ineg, wp_ladd, wp_lsub, wp_lmul, wp_ldiv, wp_lrem, wp_lcmp, wp_i2l, wp_l2i, wp_pop, wp_dup, wp_dup2, wp_goto, wp_ifCond, wp_if_icmp, wp_ifnull, wp_ifnonnull, wp_tableswitch, wp_getfield, wp_putfield, wp_arraylength, wp_iaload, wp_baload, wp_laload, wp_aaload, wp_iastore, wp_bastore, wp_lastore, wp_aastore, wp_new, wp_newarray, wp_anewarray, wp_multianewarray, wp_invokevirtual, wp_invokespecial, wp_invokestatic, wp_ireturn, wp_lreturn, wp_areturn, wp_return_, wpL, ldI, ldJ, ldA, lk, sL, cL, i1, i2, l1, l2, r1, pA, p1, p2, ar, tyAt, rcv, rcr, oO, cmpI, Value.category, rf_some, rf_none, ak, kc, List.drop_succ_cons, List.drop_zero, List.drop_nil, List.take_succ_cons, List.take_zero, List.take_nil, List.head?_cons, List.reverse_cons, List.reverse_nil, List.nil_append, List.cons_append, List.length_cons, List.length_nil, Option.toList_some, Option.toList_none, hT_sI, hT_sJ, hT_sR, hI_sJ, hI_sR, hJ_sI, hJ_sR, hR_sI, hR_sJ, isO_sI, isO_sJ, isO_sR, iI_add, iI_sub, iI_mul, iI_neg, lv_args, Nat.reduceAdd, Nat.reduceEqDiff, Nat.reduceLeDiff, reduceIte, ite_true, ite_false, true_and, and_true, false_and, and_false, not_true, not_false_iff, or_true, true_or, false_or, or_false, imp_self, ne_eq, Classical.not_not, forall_const, true_implies, false_implies, if_pos, Nat.zero_add, Nat.add_zero, Nat.le_refl, Nat.reduceLT, iz00, iz01, iz10, iz11, ib0, ib1, ib01, reduceCtorEq, cq_X12_laySwap_175]
      refine hG.1 60 _ _ _ _ ?_
      rw [bq_X12_laySwap_60]
      simp only [bk_X12_laySwap_60, wp_aconst_null, wp_iconst, wp_bipush, wp_sipush, wp_ldc, wp_ldc_w, wp_ldc2_w, wp_lconst, wp_iload, wp_iload_n, wp_lload, wp_lload_n, wp_aload, wp_aload_n, wp_istore, wp_istore_n, wp_lstore, wp_lstore_n, wp_astore, wp_astore_n, wp_iinc, wp_iadd, wp_isub, wp_imul, wp_iand, wp_ior, wp_ixor, wp_ishl, wp_ishr, wp_iushr, wp_idiv, wp_irem, wp_ineg, wp_ladd, wp_lsub, wp_lmul, wp_ldiv, wp_lrem, wp_lcmp, wp_i2l, wp_l2i, wp_pop, wp_dup, wp_dup2, wp_goto, wp_ifCond, wp_if_icmp, wp_ifnull, wp_ifnonnull, wp_tableswitch, wp_getfield, wp_putfield, wp_arraylength, wp_iaload, wp_baload, wp_laload, wp_aaload, wp_iastore, wp_bastore, wp_lastore, wp_aastore, wp_new, wp_newarray, wp_anewarray, wp_multianewarray, wp_invokevirtual, wp_invokespecial, wp_invokestatic, wp_ireturn, wp_lreturn, wp_areturn, wp_return_, wpL, ldI, ldJ, ldA, lk, sL, cL, i1, i2, l1, l2, r1, pA, p1, p2, ar, tyAt, rcv, rcr, oO, cmpI, Value.category, rf_some, rf_none, ak, kc, List.drop_succ_cons, List.drop_zero, List.drop_nil, List.take_succ_cons, List.take_zero, List.take_nil, List.head?_cons, List.reverse_cons, List.reverse_nil, List.nil_append, List.cons_append, List.length_cons, List.length_nil, Option.toList_some, Option.toList_none, hT_sI, hT_sJ, hT_sR, hI_sJ, hI_sR, hJ_sI, hJ_sR, hR_sI, hR_sJ, isO_sI, isO_sJ, isO_sR, iI_add, iI_sub, iI_mul, iI_neg, lv_args, Nat.reduceAdd, Nat.reduceEqDiff, Nat.reduceLeDiff, reduceIte, ite_true, ite_false, true_and, and_true, false_and, and_false, not_true, not_false_iff, or_true, true_or, false_or, or_false, imp_self, ne_eq, Classical.not_not, forall_const, true_implies, false_implies, if_pos, Nat.zero_add, Nat.add_zero, Nat.le_refl, Nat.reduceLT, iz00, iz01, iz10, iz11, ib0, ib1, ib01, reduceCtorEq, cq_X12_laySwap_175, ea, o3, u1, u2, in1, n1, x1, em]
      refine hG.1 114 _ _ _ _ ?_
      rw [bq_X12_laySwap_114]
      simp only [bk_X12_laySwap_114, wp_aconst_null, wp_iconst, wp_bipush, wp_sipush, wp_ldc, wp_ldc_w, wp_ldc2_w, wp_lconst, wp_iload, wp_iload_n, wp_lload, wp_lload_n, wp_aload, wp_aload_n, wp_istore, wp_istore_n, wp_lstore, wp_lstore_n, wp_astore, wp_astore_n, wp_iinc, wp_iadd, wp_isub, wp_imul, wp_iand, wp_ior, wp_ixor, wp_ishl, wp_ishr, wp_iushr, wp_idiv, wp_irem, wp_ineg, wp_ladd, wp_lsub, wp_lmul, wp_ldiv, wp_lrem, wp_lcmp, wp_i2l, wp_l2i, wp_pop, wp_dup, wp_dup2, wp_goto, wp_ifCond, wp_if_icmp, wp_ifnull, wp_ifnonnull, wp_tableswitch, wp_getfield, wp_putfield, wp_arraylength, wp_iaload, wp_baload, wp_laload, wp_aaload, wp_iastore, wp_bastore, wp_lastore, wp_aastore, wp_new, wp_newarray, wp_anewarray, wp_multianewarray, wp_invokevirtual, wp_invokespecial, wp_invokestatic, wp_ireturn, wp_lreturn, wp_areturn, wp_return_, wpL, ldI, ldJ, ldA, lk, sL, cL, i1, i2, l1, l2, r1, pA, p1, p2, ar, tyAt, rcv, rcr, oO, cmpI, Value.category, rf_some, rf_none, ak, kc, List.drop_succ_cons, List.drop_zero, List.drop_nil, List.take_succ_cons, List.take_zero, List.take_nil, List.head?_cons, List.reverse_cons, List.reverse_nil, List.nil_append, List.cons_append, List.length_cons, List.length_nil, Option.toList_some, Option.toList_none, hT_sI, hT_sJ, hT_sR, hI_sJ, hI_sR, hJ_sI, hJ_sR, hR_sI, hR_sJ, isO_sI, isO_sJ, isO_sR, iI_add, iI_sub, iI_mul, iI_neg, lv_args, Nat.reduceAdd, Nat.reduceEqDiff, Nat.reduceLeDiff, reduceIte, ite_true, ite_false, true_and, and_true, false_and, and_false, not_true, not_false_iff, or_true, true_or, false_or, or_false, imp_self, ne_eq, Classical.not_not, forall_const, true_implies, false_implies, if_pos, Nat.zero_add, Nat.add_zero, Nat.le_refl, Nat.reduceLT, iz00, iz01, iz10, iz11, ib0, ib1, ib01, reduceCtorEq, cq_X12_laySwap_175, o3, u1, u2, in1, n1, x1, ez]
      have q := ihr (a + 1) (mm ||| 2 ^ hh) S (upN hs a hh) (swF st n (r + 1) a mm sum hs hh b) (by omega) ml (by omega) (fun k hk => by
        unfold upN
        split
        · exact hhn
        · exact hsb k (by omega)) (fun h4 X4 j4 sm4 pre4 => by
          rw [show ((a + 1 : Nat) : Int) - 1 = (a : Int) by omega]
          exact ret h4 X4 j4 sm4 pre4) n 0 b _ [] (by omega) ef.symm hbr j3 (fun z k hk => by rw [hI_sI, if_neg (by omega)]; exact sm2 z k hk) (fun k hk => by rw [hI_sI, if_neg (by omega)]; exact pre2 k hk)
      rw [nc1] at q
      exact q
  have first : ∀ (N p : Nat) (h' : hp), p + N = (st 0 0).toNat → Fm h h' → (∀ k, k < cntN (inP st) p → hI h' 135 k (A 32) = iI (selS st k : Nat)) → G 4 [(0, .ref m), (1, .int (iI (cntN (inP st) p : Nat))), (2, .int (iI (p : Nat)))] [] h' (0, 0) := by
    intro N
    induction N with
    | zero =>
      intro p h' hp' F rw1
      have M' := RM_fm F M
      have o := mo M'
      have c0 := mc_0 M'
      have e1 : (iI (st 0 0) ≤ iI (p : Nat)) = True := eq_true ((iI_le (by omega) (by omega)).mpr (by omega))
      have en : cntN (inP st) p = n := by rw [hn, show p = (st 0 0).toNat by omega]; rfl
      rw [en] at rw1 ⊢
      have e0 : (iI (n : Nat) = 0) = (n = 0) := propext ((iI_eq0 (by omega)).trans (by omega))
      refine hG.1 4 _ _ _ _ ?_
      rw [bq_X12_laySwap_4]
      simp only [bk_X12_laySwap_4, wp_aconst_null, wp_iconst, wp_bipush, wp_sipush, wp_ldc, wp_ldc_w, wp_ldc2_w, wp_lconst, wp_iload, wp_iload_n, wp_lload, wp_lload_n, wp_aload, wp_aload_n, wp_istore, wp_istore_n, wp_lstore, wp_lstore_n, wp_astore, wp_astore_n, wp_iinc, wp_iadd, wp_isub, wp_imul, wp_iand, wp_ior, wp_ixor, wp_ishl, wp_ishr, wp_iushr, wp_idiv, wp_irem, wp_ineg, wp_ladd, wp_lsub, wp_lmul, wp_ldiv, wp_lrem, wp_lcmp, wp_i2l, wp_l2i, wp_pop, wp_dup, wp_dup2, wp_goto, wp_ifCond, wp_if_icmp, wp_ifnull, wp_ifnonnull, wp_tableswitch, wp_getfield, wp_putfield, wp_arraylength, wp_iaload, wp_baload, wp_laload, wp_aaload, wp_iastore, wp_bastore, wp_lastore, wp_aastore, wp_new, wp_newarray, wp_anewarray, wp_multianewarray, wp_invokevirtual, wp_invokespecial, wp_invokestatic, wp_ireturn, wp_lreturn, wp_areturn, wp_return_, wpL, ldI, ldJ, ldA, lk, sL, cL, i1, i2, l1, l2, r1, pA, p1, p2, ar, tyAt, rcv, rcr, oO, cmpI, Value.category, rf_some, rf_none, ak, kc, List.drop_succ_cons, List.drop_zero, List.drop_nil, List.take_succ_cons, List.take_zero, List.take_nil, List.head?_cons, List.reverse_cons, List.reverse_nil, List.nil_append, List.cons_append, List.length_cons, List.length_nil, Option.toList_some, Option.toList_none, hT_sI, hT_sJ, hT_sR, hI_sJ, hI_sR, hJ_sI, hJ_sR, hR_sI, hR_sJ, isO_sI, isO_sJ, isO_sR, iI_add, iI_sub, iI_mul, iI_neg, lv_args, Nat.reduceAdd, Nat.reduceEqDiff, Nat.reduceLeDiff, reduceIte, ite_true, ite_false, true_and, and_true, false_and, and_false, not_true, not_false_iff, or_true, true_or, false_or, or_false, imp_self, ne_eq, Classical.not_not, forall_const, true_implies, false_implies, if_pos, Nat.zero_add, Nat.add_zero, Nat.le_refl, Nat.reduceLT, iz00, iz01, iz10, iz11, ib0, ib1, ib01, reduceCtorEq, cq_X12_laySwap_175, o, c0, e1]
      refine hG.1 37 _ _ _ _ ?_
      rw [bq_X12_laySwap_37]
      simp only [bk_X12_laySwap_37, wp_aconst_null, wp_iconst, wp_bipush, wp_sipush, wp_ldc, wp_ldc_w, wp_ldc2_w, wp_lconst, wp_iload, wp_iload_n, wp_lload, wp_lload_n, wp_aload, wp_aload_n, wp_istore, wp_istore_n, wp_lstore, wp_lstore_n, wp_astore, wp_astore_n, wp_iinc, wp_iadd, wp_isub, wp_imul, wp_iand, wp_ior, wp_ixor, wp_ishl, wp_ishr, wp_iushr, wp_idiv, wp_irem, wp_ineg, wp_ladd, wp_lsub, wp_lmul, wp_ldiv, wp_lrem, wp_lcmp, wp_i2l, wp_l2i, wp_pop, wp_dup, wp_dup2, wp_goto, wp_ifCond, wp_if_icmp, wp_ifnull, wp_ifnonnull, wp_tableswitch, wp_getfield, wp_putfield, wp_arraylength, wp_iaload, wp_baload, wp_laload, wp_aaload, wp_iastore, wp_bastore, wp_lastore, wp_aastore, wp_new, wp_newarray, wp_anewarray, wp_multianewarray, wp_invokevirtual, wp_invokespecial, wp_invokestatic, wp_ireturn, wp_lreturn, wp_areturn, wp_return_, wpL, ldI, ldJ, ldA, lk, sL, cL, i1, i2, l1, l2, r1, pA, p1, p2, ar, tyAt, rcv, rcr, oO, cmpI, Value.category, rf_some, rf_none, ak, kc, List.drop_succ_cons, List.drop_zero, List.drop_nil, List.take_succ_cons, List.take_zero, List.take_nil, List.head?_cons, List.reverse_cons, List.reverse_nil, List.nil_append, List.cons_append, List.length_cons, List.length_nil, Option.toList_some, Option.toList_none, hT_sI, hT_sJ, hT_sR, hI_sJ, hI_sR, hJ_sI, hJ_sR, hR_sI, hR_sJ, isO_sI, isO_sJ, isO_sR, iI_add, iI_sub, iI_mul, iI_neg, lv_args, Nat.reduceAdd, Nat.reduceEqDiff, Nat.reduceLeDiff, reduceIte, ite_true, ite_false, true_and, and_true, false_and, and_false, not_true, not_false_iff, or_true, true_or, false_or, or_false, imp_self, ne_eq, Classical.not_not, forall_const, true_implies, false_implies, if_pos, Nat.zero_add, Nat.add_zero, Nat.le_refl, Nat.reduceLT, iz00, iz01, iz10, iz11, ib0, ib1, ib01, reduceCtorEq, cq_X12_laySwap_175, e0]
      refine ⟨fun c => ?_, fun c => ?_⟩
      · have jh : J (sI h' 138 0 (A 35) (iI (-1))) := by
          rw [hJ]
          exact ⟨F.i rfl, fun k hk => by rw [hI_sI, if_neg (by omega)]; exact rw1 k hk⟩
        have jh' := jh
        rw [hJ] at jh'
        have M3 := RM_fm jh'.1 M
        have o3 := mo M3
        have u1 := mr_35 M3
        have u2 := mt_35 M3
        have t1 := mr_35 M'
        have t2 := mt_35 M'
        have in0 : vp_in (iI 0) 7 := iI_in (by omega) (by omega)
        have n0 : (iI 0).toNatClampNeg = 0 := rfl
        have x1 : hI (sI h' 138 0 (A 35) (iI (-1))) 138 0 (A 35) = iI (-1) := hI_same _ _ _ _ _
        have ea : (iI 0 < 0) = False := eq_false (by decide)
        have em : (iI (-1) < 0) = True := eq_true (by decide)
        have ez : (-1 : Int) + 1 = 0 := by decide
        refine hG.1 43 _ _ _ _ ?_
        rw [bq_X12_laySwap_43]
        simp only [bk_X12_laySwap_43, wp_aconst_null, wp_iconst, wp_bipush, wp_sipush, wp_ldc, wp_ldc_w, wp_ldc2_w, wp_lconst, wp_iload, wp_iload_n, wp_lload, wp_lload_n, wp_aload, wp_aload_n, wp_istore, wp_istore_n, wp_lstore, wp_lstore_n, wp_astore, wp_astore_n, wp_iinc, wp_iadd, wp_isub, wp_imul, wp_iand, wp_ior, wp_ixor, wp_ishl, wp_ishr, wp_iushr, wp_idiv, wp_irem, wp_ineg, wp_ladd, wp_lsub, wp_lmul, wp_ldiv, wp_lrem, wp_lcmp, wp_i2l, wp_l2i, wp_pop, wp_dup, wp_dup2, wp_goto, wp_ifCond, wp_if_icmp, wp_ifnull, wp_ifnonnull, wp_tableswitch, wp_getfield, wp_putfield, wp_arraylength, wp_iaload, wp_baload, wp_laload, wp_aaload, wp_iastore, wp_bastore, wp_lastore, wp_aastore, wp_new, wp_newarray, wp_anewarray, wp_multianewarray, wp_invokevirtual, wp_invokespecial, wp_invokestatic, wp_ireturn, wp_lreturn, wp_areturn, wp_return_, wpL, ldI, ldJ, ldA, lk, sL, cL, i1, i2, l1, l2, r1, pA, p1, p2, ar, tyAt, rcv, rcr, oO, cmpI, Value.category, rf_some, rf_none, ak, kc, List.drop_succ_cons, List.drop_zero, List.drop_nil, List.take_succ_cons, List.take_zero, List.take_nil, List.head?_cons, List.reverse_cons, List.reverse_nil, List.nil_append, List.cons_append, List.length_cons, List.length_nil, Option.toList_some, Option.toList_none, hT_sI, hT_sJ, hT_sR, hI_sJ, hI_sR, hJ_sI, hJ_sR, hR_sI, hR_sJ, isO_sI, isO_sJ, isO_sR, iI_add, iI_sub, iI_mul, iI_neg, lv_args, Nat.reduceAdd, Nat.reduceEqDiff, Nat.reduceLeDiff, reduceIte, ite_true, ite_false, true_and, and_true, false_and, and_false, not_true, not_false_iff, or_true, true_or, false_or, or_false, imp_self, ne_eq, Classical.not_not, forall_const, true_implies, false_implies, if_pos, Nat.zero_add, Nat.add_zero, Nat.le_refl, Nat.reduceLT, iz00, iz01, iz10, iz11, ib0, ib1, ib01, reduceCtorEq, cq_X12_laySwap_175, o, t1, t2, in0, n0]
        refine hG.1 60 _ _ _ _ ?_
        rw [bq_X12_laySwap_60]
        simp only [bk_X12_laySwap_60, wp_aconst_null, wp_iconst, wp_bipush, wp_sipush, wp_ldc, wp_ldc_w, wp_ldc2_w, wp_lconst, wp_iload, wp_iload_n, wp_lload, wp_lload_n, wp_aload, wp_aload_n, wp_istore, wp_istore_n, wp_lstore, wp_lstore_n, wp_astore, wp_astore_n, wp_iinc, wp_iadd, wp_isub, wp_imul, wp_iand, wp_ior, wp_ixor, wp_ishl, wp_ishr, wp_iushr, wp_idiv, wp_irem, wp_ineg, wp_ladd, wp_lsub, wp_lmul, wp_ldiv, wp_lrem, wp_lcmp, wp_i2l, wp_l2i, wp_pop, wp_dup, wp_dup2, wp_goto, wp_ifCond, wp_if_icmp, wp_ifnull, wp_ifnonnull, wp_tableswitch, wp_getfield, wp_putfield, wp_arraylength, wp_iaload, wp_baload, wp_laload, wp_aaload, wp_iastore, wp_bastore, wp_lastore, wp_aastore, wp_new, wp_newarray, wp_anewarray, wp_multianewarray, wp_invokevirtual, wp_invokespecial, wp_invokestatic, wp_ireturn, wp_lreturn, wp_areturn, wp_return_, wpL, ldI, ldJ, ldA, lk, sL, cL, i1, i2, l1, l2, r1, pA, p1, p2, ar, tyAt, rcv, rcr, oO, cmpI, Value.category, rf_some, rf_none, ak, kc, List.drop_succ_cons, List.drop_zero, List.drop_nil, List.take_succ_cons, List.take_zero, List.take_nil, List.head?_cons, List.reverse_cons, List.reverse_nil, List.nil_append, List.cons_append, List.length_cons, List.length_nil, Option.toList_some, Option.toList_none, hT_sI, hT_sJ, hT_sR, hI_sJ, hI_sR, hJ_sI, hJ_sR, hR_sI, hR_sJ, isO_sI, isO_sJ, isO_sR, iI_add, iI_sub, iI_mul, iI_neg, lv_args, Nat.reduceAdd, Nat.reduceEqDiff, Nat.reduceLeDiff, reduceIte, ite_true, ite_false, true_and, and_true, false_and, and_false, not_true, not_false_iff, or_true, true_or, false_or, or_false, imp_self, ne_eq, Classical.not_not, forall_const, true_implies, false_implies, if_pos, Nat.zero_add, Nat.add_zero, Nat.le_refl, Nat.reduceLT, iz00, iz01, iz10, iz11, ib0, ib1, ib01, reduceCtorEq, cq_X12_laySwap_175, ea, o3, u1, u2, in0, n0, x1, em]
        refine hG.1 114 _ _ _ _ ?_
        rw [bq_X12_laySwap_114]
        simp only [bk_X12_laySwap_114, wp_aconst_null, wp_iconst, wp_bipush, wp_sipush, wp_ldc, wp_ldc_w, wp_ldc2_w, wp_lconst, wp_iload, wp_iload_n, wp_lload, wp_lload_n, wp_aload, wp_aload_n, wp_istore, wp_istore_n, wp_lstore, wp_lstore_n, wp_astore, wp_astore_n, wp_iinc, wp_iadd, wp_isub, wp_imul, wp_iand, wp_ior, wp_ixor, wp_ishl, wp_ishr, wp_iushr, wp_idiv, wp_irem, wp_ineg, wp_ladd, wp_lsub, wp_lmul, wp_ldiv, wp_lrem, wp_lcmp, wp_i2l, wp_l2i, wp_pop, wp_dup, wp_dup2, wp_goto, wp_ifCond, wp_if_icmp, wp_ifnull, wp_ifnonnull, wp_tableswitch, wp_getfield, wp_putfield, wp_arraylength, wp_iaload, wp_baload, wp_laload, wp_aaload, wp_iastore, wp_bastore, wp_lastore, wp_aastore, wp_new, wp_newarray, wp_anewarray, wp_multianewarray, wp_invokevirtual, wp_invokespecial, wp_invokestatic, wp_ireturn, wp_lreturn, wp_areturn, wp_return_, wpL, ldI, ldJ, ldA, lk, sL, cL, i1, i2, l1, l2, r1, pA, p1, p2, ar, tyAt, rcv, rcr, oO, cmpI, Value.category, rf_some, rf_none, ak, kc, List.drop_succ_cons, List.drop_zero, List.drop_nil, List.take_succ_cons, List.take_zero, List.take_nil, List.head?_cons, List.reverse_cons, List.reverse_nil, List.nil_append, List.cons_append, List.length_cons, List.length_nil, Option.toList_some, Option.toList_none, hT_sI, hT_sJ, hT_sR, hI_sJ, hI_sR, hJ_sI, hJ_sR, hR_sI, hR_sJ, isO_sI, isO_sJ, isO_sR, iI_add, iI_sub, iI_mul, iI_neg, lv_args, Nat.reduceAdd, Nat.reduceEqDiff, Nat.reduceLeDiff, reduceIte, ite_true, ite_false, true_and, and_true, false_and, and_false, not_true, not_false_iff, or_true, true_or, false_or, or_false, imp_self, ne_eq, Classical.not_not, forall_const, true_implies, false_implies, if_pos, Nat.zero_add, Nat.add_zero, Nat.le_refl, Nat.reduceLT, iz00, iz01, iz10, iz11, ib0, ib1, ib01, reduceCtorEq, cq_X12_laySwap_175, o3, u1, u2, in0, n0, x1, ez]
        have eM : lpU (swF st n (n - 1) 0 0 0 (fun _ => 0)) n 0 (-1, fun _ => 0) = swM st := by
          unfold swM
          rw [← hn]
          obtain ⟨n', hn'⟩ : ∃ n', n = n' + 1 := ⟨n - 1, by omega⟩
          rw [hn']
          rfl
        refine main (n - 1) 0 0 0 (fun _ => 0) (swM st) (by omega) (by omega) (by omega) (fun k hk => by omega) (fun h2 X j2 sm2 _ => ?_) n 0 (-1, fun _ => 0) _ [] (by omega) eM (by decide) jh (fun z => absurd z (by decide)) (fun k hk => by omega)
        refine hG.2 60 _ [(0, .ref m), (1, .int (iI (n : Nat))), (2, .int (iI (swM st).1)), (3, .int (iI (((0 : Nat) : Int) - 1))), (4, .int (iI (0 : Nat))), (5, .int (iI 0))] _ _ _ (fun q hq => List.mem_append_left X hq) ?_
        have el : (iI (((0 : Nat) : Int) - 1) < 0) = True := eq_true (by decide)
        rw [hJ] at j2
        have q := hQ h2 (fun _ => sm2) j2.1
        rw [if_neg c] at q
        refine hG.1 60 _ _ _ _ ?_
        rw [bq_X12_laySwap_60]
        simp only [bk_X12_laySwap_60, wp_aconst_null, wp_iconst, wp_bipush, wp_sipush, wp_ldc, wp_ldc_w, wp_ldc2_w, wp_lconst, wp_iload, wp_iload_n, wp_lload, wp_lload_n, wp_aload, wp_aload_n, wp_istore, wp_istore_n, wp_lstore, wp_lstore_n, wp_astore, wp_astore_n, wp_iinc, wp_iadd, wp_isub, wp_imul, wp_iand, wp_ior, wp_ixor, wp_ishl, wp_ishr, wp_iushr, wp_idiv, wp_irem, wp_ineg, wp_ladd, wp_lsub, wp_lmul, wp_ldiv, wp_lrem, wp_lcmp, wp_i2l, wp_l2i, wp_pop, wp_dup, wp_dup2, wp_goto, wp_ifCond, wp_if_icmp, wp_ifnull, wp_ifnonnull, wp_tableswitch, wp_getfield, wp_putfield, wp_arraylength, wp_iaload, wp_baload, wp_laload, wp_aaload, wp_iastore, wp_bastore, wp_lastore, wp_aastore, wp_new, wp_newarray, wp_anewarray, wp_multianewarray, wp_invokevirtual, wp_invokespecial, wp_invokestatic, wp_ireturn, wp_lreturn, wp_areturn, wp_return_, wpL, ldI, ldJ, ldA, lk, sL, cL, i1, i2, l1, l2, r1, pA, p1, p2, ar, tyAt, rcv, rcr, oO, cmpI, Value.category, rf_some, rf_none, ak, kc, List.drop_succ_cons, List.drop_zero, List.drop_nil, List.take_succ_cons, List.take_zero, List.take_nil, List.head?_cons, List.reverse_cons, List.reverse_nil, List.nil_append, List.cons_append, List.length_cons, List.length_nil, Option.toList_some, Option.toList_none, hT_sI, hT_sJ, hT_sR, hI_sJ, hI_sR, hJ_sI, hJ_sR, hR_sI, hR_sJ, isO_sI, isO_sJ, isO_sR, iI_add, iI_sub, iI_mul, iI_neg, lv_args, Nat.reduceAdd, Nat.reduceEqDiff, Nat.reduceLeDiff, reduceIte, ite_true, ite_false, true_and, and_true, false_and, and_false, not_true, not_false_iff, or_true, true_or, false_or, or_false, imp_self, ne_eq, Classical.not_not, forall_const, true_implies, false_implies, if_pos, Nat.zero_add, Nat.add_zero, Nat.le_refl, Nat.reduceLT, iz00, iz01, iz10, iz11, ib0, ib1, ib01, reduceCtorEq, cq_X12_laySwap_175, el]
        refine hG.1 273 _ _ _ _ ?_
        rw [bq_X12_laySwap_273]
        simp only [bk_X12_laySwap_273, wp_aconst_null, wp_iconst, wp_bipush, wp_sipush, wp_ldc, wp_ldc_w, wp_ldc2_w, wp_lconst, wp_iload, wp_iload_n, wp_lload, wp_lload_n, wp_aload, wp_aload_n, wp_istore, wp_istore_n, wp_lstore, wp_lstore_n, wp_astore, wp_astore_n, wp_iinc, wp_iadd, wp_isub, wp_imul, wp_iand, wp_ior, wp_ixor, wp_ishl, wp_ishr, wp_iushr, wp_idiv, wp_irem, wp_ineg, wp_ladd, wp_lsub, wp_lmul, wp_ldiv, wp_lrem, wp_lcmp, wp_i2l, wp_l2i, wp_pop, wp_dup, wp_dup2, wp_goto, wp_ifCond, wp_if_icmp, wp_ifnull, wp_ifnonnull, wp_tableswitch, wp_getfield, wp_putfield, wp_arraylength, wp_iaload, wp_baload, wp_laload, wp_aaload, wp_iastore, wp_bastore, wp_lastore, wp_aastore, wp_new, wp_newarray, wp_anewarray, wp_multianewarray, wp_invokevirtual, wp_invokespecial, wp_invokestatic, wp_ireturn, wp_lreturn, wp_areturn, wp_return_, wpL, ldI, ldJ, ldA, lk, sL, cL, i1, i2, l1, l2, r1, pA, p1, p2, ar, tyAt, rcv, rcr, oO, cmpI, Value.category, rf_some, rf_none, ak, kc, List.drop_succ_cons, List.drop_zero, List.drop_nil, List.take_succ_cons, List.take_zero, List.take_nil, List.head?_cons, List.reverse_cons, List.reverse_nil, List.nil_append, List.cons_append, List.length_cons, List.length_nil, Option.toList_some, Option.toList_none, hT_sI, hT_sJ, hT_sR, hI_sJ, hI_sR, hJ_sI, hJ_sR, hR_sI, hR_sJ, isO_sI, isO_sJ, isO_sR, iI_add, iI_sub, iI_mul, iI_neg, lv_args, Nat.reduceAdd, Nat.reduceEqDiff, Nat.reduceLeDiff, reduceIte, ite_true, ite_false, true_and, and_true, false_and, and_false, not_true, not_false_iff, or_true, true_or, false_or, or_false, imp_self, ne_eq, Classical.not_not, forall_const, true_implies, false_implies, if_pos, Nat.zero_add, Nat.add_zero, Nat.le_refl, Nat.reduceLT, iz00, iz01, iz10, iz11, ib0, ib1, ib01, reduceCtorEq, cq_X12_laySwap_175]
        exact q
      · have c' : n = 0 := by simpa using c
        have q := hQ h' (fun z => absurd c' z) F
        rw [if_pos c'] at q
        exact q
    | succ N ih =>
      intro p h' hp' F rw1
      have M' := RM_fm F M
      have o := mo M'
      have c0 := mc_0 M'
      have e1 : (iI (st 0 0) ≤ iI (p : Nat)) = False := eq_false (by rw [iI_le (by omega) (by omega)]; omega)
      have hp7 : p < 7 := by omega
      obtain ⟨in1, n1⟩ := vinN (i := p) (n := 7) hp7 (by omega)
      have hcl := cntN_le (inP st) p
      obtain ⟨in2, n2⟩ := vinN (i := cntN (inP st) p) (n := 7) (by omega) (by omega)
      have t1 := mr_1 M'
      have t2 := mt_1 M'
      have t3 := mr_32 M'
      have t4 := mt_32 M'
      have v1 := mi_1 M' hp7
      have r1' := w.rg 1 (lo := 0) (hi := 1) (by decide) p
      have e2 : (iI (st 1 p) = 0) = (st 1 p = 0) := propext (iI_eq0 (by omega))
      have ec := cntN_s (inP st) p
      refine hG.1 4 _ _ _ _ ?_
      rw [bq_X12_laySwap_4]
      simp only [bk_X12_laySwap_4, wp_aconst_null, wp_iconst, wp_bipush, wp_sipush, wp_ldc, wp_ldc_w, wp_ldc2_w, wp_lconst, wp_iload, wp_iload_n, wp_lload, wp_lload_n, wp_aload, wp_aload_n, wp_istore, wp_istore_n, wp_lstore, wp_lstore_n, wp_astore, wp_astore_n, wp_iinc, wp_iadd, wp_isub, wp_imul, wp_iand, wp_ior, wp_ixor, wp_ishl, wp_ishr, wp_iushr, wp_idiv, wp_irem, wp_ineg, wp_ladd, wp_lsub, wp_lmul, wp_ldiv, wp_lrem, wp_lcmp, wp_i2l, wp_l2i, wp_pop, wp_dup, wp_dup2, wp_goto, wp_ifCond, wp_if_icmp, wp_ifnull, wp_ifnonnull, wp_tableswitch, wp_getfield, wp_putfield, wp_arraylength, wp_iaload, wp_baload, wp_laload, wp_aaload, wp_iastore, wp_bastore, wp_lastore, wp_aastore, wp_new, wp_newarray, wp_anewarray, wp_multianewarray, wp_invokevirtual, wp_invokespecial, wp_invokestatic, wp_ireturn, wp_lreturn, wp_areturn, wp_return_, wpL, ldI, ldJ, ldA, lk, sL, cL, i1, i2, l1, l2, r1, pA, p1, p2, ar, tyAt, rcv, rcr, oO, cmpI, Value.category, rf_some, rf_none, ak, kc, List.drop_succ_cons, List.drop_zero, List.drop_nil, List.take_succ_cons, List.take_zero, List.take_nil, List.head?_cons, List.reverse_cons, List.reverse_nil, List.nil_append, List.cons_append, List.length_cons, List.length_nil, Option.toList_some, Option.toList_none, hT_sI, hT_sJ, hT_sR, hI_sJ, hI_sR, hJ_sI, hJ_sR, hR_sI, hR_sJ, isO_sI, isO_sJ, isO_sR, iI_add, iI_sub, iI_mul, iI_neg, lv_args, Nat.reduceAdd, Nat.reduceEqDiff, Nat.reduceLeDiff, reduceIte, ite_true, ite_false, true_and, and_true, false_and, and_false, not_true, not_false_iff, or_true, true_or, false_or, or_false, imp_self, ne_eq, Classical.not_not, forall_const, true_implies, false_implies, if_pos, Nat.zero_add, Nat.add_zero, Nat.le_refl, Nat.reduceLT, iz00, iz01, iz10, iz11, ib0, ib1, ib01, reduceCtorEq, cq_X12_laySwap_175, o, c0, e1, t1, t2, t3, t4, in1, n1, in2, n2, v1, e2]
      refine ⟨fun c => ?_, fun c => ?_⟩
      · have e : inP st p = false := decide_eq_false (fun z => z c)
        rw [e] at ec
        simp only [Bool.false_eq_true, if_false, Nat.add_zero] at ec
        refine hG.1 31 _ _ _ _ ?_
        rw [bq_X12_laySwap_31]
        simp only [bk_X12_laySwap_31, wp_aconst_null, wp_iconst, wp_bipush, wp_sipush, wp_ldc, wp_ldc_w, wp_ldc2_w, wp_lconst, wp_iload, wp_iload_n, wp_lload, wp_lload_n, wp_aload, wp_aload_n, wp_istore, wp_istore_n, wp_lstore, wp_lstore_n, wp_astore, wp_astore_n, wp_iinc, wp_iadd, wp_isub, wp_imul, wp_iand, wp_ior, wp_ixor, wp_ishl, wp_ishr, wp_iushr, wp_idiv, wp_irem, wp_ineg, wp_ladd, wp_lsub, wp_lmul, wp_ldiv, wp_lrem, wp_lcmp, wp_i2l, wp_l2i, wp_pop, wp_dup, wp_dup2, wp_goto, wp_ifCond, wp_if_icmp, wp_ifnull, wp_ifnonnull, wp_tableswitch, wp_getfield, wp_putfield, wp_arraylength, wp_iaload, wp_baload, wp_laload, wp_aaload, wp_iastore, wp_bastore, wp_lastore, wp_aastore, wp_new, wp_newarray, wp_anewarray, wp_multianewarray, wp_invokevirtual, wp_invokespecial, wp_invokestatic, wp_ireturn, wp_lreturn, wp_areturn, wp_return_, wpL, ldI, ldJ, ldA, lk, sL, cL, i1, i2, l1, l2, r1, pA, p1, p2, ar, tyAt, rcv, rcr, oO, cmpI, Value.category, rf_some, rf_none, ak, kc, List.drop_succ_cons, List.drop_zero, List.drop_nil, List.take_succ_cons, List.take_zero, List.take_nil, List.head?_cons, List.reverse_cons, List.reverse_nil, List.nil_append, List.cons_append, List.length_cons, List.length_nil, Option.toList_some, Option.toList_none, hT_sI, hT_sJ, hT_sR, hI_sJ, hI_sR, hJ_sI, hJ_sR, hR_sI, hR_sJ, isO_sI, isO_sJ, isO_sR, iI_add, iI_sub, iI_mul, iI_neg, lv_args, Nat.reduceAdd, Nat.reduceEqDiff, Nat.reduceLeDiff, reduceIte, ite_true, ite_false, true_and, and_true, false_and, and_false, not_true, not_false_iff, or_true, true_or, false_or, or_false, imp_self, ne_eq, Classical.not_not, forall_const, true_implies, false_implies, if_pos, Nat.zero_add, Nat.add_zero, Nat.le_refl, Nat.reduceLT, iz00, iz01, iz10, iz11, ib0, ib1, ib01, reduceCtorEq, cq_X12_laySwap_175]
        have q := ih (p + 1) h' (by omega) F (by rw [ec]; exact rw1)
        rw [ec, nc1] at q
        exact q
      · have e : inP st p = true := decide_eq_true c
        rw [e] at ec
        simp only [if_true] at ec
        have sl := sel_hit w (j := p) (by omega) e
        refine hG.1 31 _ _ _ _ ?_
        rw [bq_X12_laySwap_31]
        simp only [bk_X12_laySwap_31, wp_aconst_null, wp_iconst, wp_bipush, wp_sipush, wp_ldc, wp_ldc_w, wp_ldc2_w, wp_lconst, wp_iload, wp_iload_n, wp_lload, wp_lload_n, wp_aload, wp_aload_n, wp_istore, wp_istore_n, wp_lstore, wp_lstore_n, wp_astore, wp_astore_n, wp_iinc, wp_iadd, wp_isub, wp_imul, wp_iand, wp_ior, wp_ixor, wp_ishl, wp_ishr, wp_iushr, wp_idiv, wp_irem, wp_ineg, wp_ladd, wp_lsub, wp_lmul, wp_ldiv, wp_lrem, wp_lcmp, wp_i2l, wp_l2i, wp_pop, wp_dup, wp_dup2, wp_goto, wp_ifCond, wp_if_icmp, wp_ifnull, wp_ifnonnull, wp_tableswitch, wp_getfield, wp_putfield, wp_arraylength, wp_iaload, wp_baload, wp_laload, wp_aaload, wp_iastore, wp_bastore, wp_lastore, wp_aastore, wp_new, wp_newarray, wp_anewarray, wp_multianewarray, wp_invokevirtual, wp_invokespecial, wp_invokestatic, wp_ireturn, wp_lreturn, wp_areturn, wp_return_, wpL, ldI, ldJ, ldA, lk, sL, cL, i1, i2, l1, l2, r1, pA, p1, p2, ar, tyAt, rcv, rcr, oO, cmpI, Value.category, rf_some, rf_none, ak, kc, List.drop_succ_cons, List.drop_zero, List.drop_nil, List.take_succ_cons, List.take_zero, List.take_nil, List.head?_cons, List.reverse_cons, List.reverse_nil, List.nil_append, List.cons_append, List.length_cons, List.length_nil, Option.toList_some, Option.toList_none, hT_sI, hT_sJ, hT_sR, hI_sJ, hI_sR, hJ_sI, hJ_sR, hR_sI, hR_sJ, isO_sI, isO_sJ, isO_sR, iI_add, iI_sub, iI_mul, iI_neg, lv_args, Nat.reduceAdd, Nat.reduceEqDiff, Nat.reduceLeDiff, reduceIte, ite_true, ite_false, true_and, and_true, false_and, and_false, not_true, not_false_iff, or_true, true_or, false_or, or_false, imp_self, ne_eq, Classical.not_not, forall_const, true_implies, false_implies, if_pos, Nat.zero_add, Nat.add_zero, Nat.le_refl, Nat.reduceLT, iz00, iz01, iz10, iz11, ib0, ib1, ib01, reduceCtorEq, cq_X12_laySwap_175]
        have q := ih (p + 1) (sI h' 135 (cntN (inP st) p) (A 32) (iI (p : Nat))) (by omega) (F.i rfl) (fun k hk => ?_)
        · rw [ec, nc1, nc1] at q
          exact q
        · rw [ec] at hk
          rw [hI_sI]
          by_cases d : k = cntN (inP st) p
          · rw [if_pos ⟨rfl, d, rfl⟩, d, sl]
          · rw [if_neg (fun z => d z.2.1)]; exact rw1 k (by omega)
  refine hG.1 0 _ _ _ _ ?_
  rw [bq_X12_laySwap_0]
  simp only [bk_X12_laySwap_0, wp_aconst_null, wp_iconst, wp_bipush, wp_sipush, wp_ldc, wp_ldc_w, wp_ldc2_w, wp_lconst, wp_iload, wp_iload_n, wp_lload, wp_lload_n, wp_aload, wp_aload_n, wp_istore, wp_istore_n, wp_lstore, wp_lstore_n, wp_astore, wp_astore_n, wp_iinc, wp_iadd, wp_isub, wp_imul, wp_iand, wp_ior, wp_ixor, wp_ishl, wp_ishr, wp_iushr, wp_idiv, wp_irem, wp_ineg, wp_ladd, wp_lsub, wp_lmul, wp_ldiv, wp_lrem, wp_lcmp, wp_i2l, wp_l2i, wp_pop, wp_dup, wp_dup2, wp_goto, wp_ifCond, wp_if_icmp, wp_ifnull, wp_ifnonnull, wp_tableswitch, wp_getfield, wp_putfield, wp_arraylength, wp_iaload, wp_baload, wp_laload, wp_aaload, wp_iastore, wp_bastore, wp_lastore, wp_aastore, wp_new, wp_newarray, wp_anewarray, wp_multianewarray, wp_invokevirtual, wp_invokespecial, wp_invokestatic, wp_ireturn, wp_lreturn, wp_areturn, wp_return_, wpL, ldI, ldJ, ldA, lk, sL, cL, i1, i2, l1, l2, r1, pA, p1, p2, ar, tyAt, rcv, rcr, oO, cmpI, Value.category, rf_some, rf_none, ak, kc, List.drop_succ_cons, List.drop_zero, List.drop_nil, List.take_succ_cons, List.take_zero, List.take_nil, List.head?_cons, List.reverse_cons, List.reverse_nil, List.nil_append, List.cons_append, List.length_cons, List.length_nil, Option.toList_some, Option.toList_none, hT_sI, hT_sJ, hT_sR, hI_sJ, hI_sR, hJ_sI, hJ_sR, hR_sI, hR_sJ, isO_sI, isO_sJ, isO_sR, iI_add, iI_sub, iI_mul, iI_neg, lv_args, Nat.reduceAdd, Nat.reduceEqDiff, Nat.reduceLeDiff, reduceIte, ite_true, ite_false, true_and, and_true, false_and, and_false, not_true, not_false_iff, or_true, true_or, false_or, or_false, imp_self, ne_eq, Classical.not_not, forall_const, true_implies, false_implies, if_pos, Nat.zero_add, Nat.add_zero, Nat.le_refl, Nat.reduceLT, iz00, iz01, iz10, iz11, ib0, ib1, ib01, reduceCtorEq, cq_X12_laySwap_175]
  exact first (st 0 0).toNat 0 h (by omega) Fm.rf (fun k hk => by cases hk)
theorem val_X12_laySwap (g : GP) : Val g yX12_laySwap prog_14_method_65_code 8 (some .int) 2 120 0 0 sp_X12_laySwap := val_of (own := RX12) (ini := false) (on := 12) (rs := rs_X12_laySwap) (cl := cl_X12_laySwap) (rt := 1) (bl := bl_X12_laySwap) (plainFor_of_name (by decide +kernel)) rfl (rok_X12 _) ck_X12_laySwap (fun h => by cases h) rfl (List.forall_mem_cons.mpr ⟨caV (val_X12_costOf g) (tb_in 1282 (by decide +kernel) (by decide +kernel)) (tb_in 1284 (by decide +kernel) (by decide +kernel)) (tb_in 49 (by decide +kernel) (by decide +kernel)) (tb_in 1285 (by decide +kernel) (by decide +kernel)) (tb_in 63 (by decide +kernel) (by decide +kernel)) ⟨by decide, by decide, by decide +kernel⟩ ⟨rfl, by decide⟩ ⟨by decide, by decide⟩, (fun _ h => absurd h List.not_mem_nil)⟩) pf_X12_laySwap

def cl_X12_swap : Nat → Nat × Nat × Spec := fun q => if q = 177 then (0, 0, sp_X12_laySwap) else (0, 0, fun _ _ _ => False)
theorem cq_X12_swap_177 : cl_X12_swap 177 = (0, 0, sp_X12_laySwap) := rfl

def rm_swap (st : St) : Int := if nIn st = 0 then 0 else (swM st).1
def sp_X12_swap : Spec := fun as h K => ∃ (m : Nat) (A : Nat → Nat) (st : St), as = [.ref m] ∧ RM h m A st ∧ WF st ∧ ∀ h', Fm h h' → K (some (.int (iI (rm_swap st)))) h'
theorem pf_X12_swap : PfM cl_X12_swap (0, 0) 1 1 bl_X12_swap sp_X12_swap := by
  rintro as h Q ⟨m, A, st, rfl, M, w, hQ⟩
  refine ⟨Nat.le_of_ble_eq_true rfl, fun G hG => ?_⟩
  have o := mo M
  refine hG.1 0 _ _ _ _ ?_
  rw [bq_X12_swap_0]
  simp only [bk_X12_swap_0, wp_aconst_null, wp_iconst, wp_bipush, wp_sipush, wp_ldc, wp_ldc_w, wp_ldc2_w, wp_lconst, wp_iload, wp_iload_n, wp_lload, wp_lload_n, wp_aload, wp_aload_n, wp_istore, wp_istore_n, wp_lstore, wp_lstore_n, wp_astore, wp_astore_n, wp_iinc, wp_iadd, wp_isub, wp_imul, wp_iand, wp_ior, wp_ixor, wp_ishl, wp_ishr, wp_iushr, wp_idiv, wp_irem, wp_ineg, wp_ladd, wp_lsub, wp_lmul, wp_ldiv, wp_lrem, wp_lcmp, wp_i2l, wp_l2i, wp_pop, wp_dup, wp_dup2, wp_goto, wp_ifCond, wp_if_icmp, wp_ifnull, wp_ifnonnull, wp_tableswitch, wp_getfield, wp_putfield, wp_arraylength, wp_iaload, wp_baload, wp_laload, wp_aaload, wp_iastore, wp_bastore, wp_lastore, wp_aastore, wp_new, wp_newarray, wp_anewarray, wp_multianewarray, wp_invokevirtual, wp_invokespecial, wp_invokestatic, wp_ireturn, wp_lreturn, wp_areturn, wp_return_, wpL, ldI, ldJ, ldA, lk, sL, cL, i1, i2, l1, l2, r1, pA, p1, p2, ar, tyAt, rcv, rcr, oO, cmpI, Value.category, rf_some, rf_none, ak, kc, List.drop_succ_cons, List.drop_zero, List.drop_nil, List.take_succ_cons, List.take_zero, List.take_nil, List.head?_cons, List.reverse_cons, List.reverse_nil, List.nil_append, List.cons_append, List.length_cons, List.length_nil, Option.toList_some, Option.toList_none, hT_sI, hT_sJ, hT_sR, hI_sJ, hI_sR, hJ_sI, hJ_sR, hR_sI, hR_sJ, isO_sI, isO_sJ, isO_sR, iI_add, iI_sub, iI_mul, iI_neg, lv_args, Nat.reduceAdd, Nat.reduceEqDiff, Nat.reduceLeDiff, reduceIte, ite_true, ite_false, true_and, and_true, false_and, and_false, not_true, not_false_iff, or_true, true_or, false_or, or_false, imp_self, ne_eq, Classical.not_not, forall_const, true_implies, false_implies, if_pos, Nat.zero_add, Nat.add_zero, Nat.le_refl, Nat.reduceLT, iz00, iz01, iz10, iz11, ib0, ib1, ib01, reduceCtorEq, cq_X12_swap_177, o]
  refine ⟨m, A, st, rfl, M, w, fun h2 _ F => ?_⟩
  simp only [wp_aconst_null, wp_iconst, wp_bipush, wp_sipush, wp_ldc, wp_ldc_w, wp_ldc2_w, wp_lconst, wp_iload, wp_iload_n, wp_lload, wp_lload_n, wp_aload, wp_aload_n, wp_istore, wp_istore_n, wp_lstore, wp_lstore_n, wp_astore, wp_astore_n, wp_iinc, wp_iadd, wp_isub, wp_imul, wp_iand, wp_ior, wp_ixor, wp_ishl, wp_ishr, wp_iushr, wp_idiv, wp_irem, wp_ineg, wp_ladd, wp_lsub, wp_lmul, wp_ldiv, wp_lrem, wp_lcmp, wp_i2l, wp_l2i, wp_pop, wp_dup, wp_dup2, wp_goto, wp_ifCond, wp_if_icmp, wp_ifnull, wp_ifnonnull, wp_tableswitch, wp_getfield, wp_putfield, wp_arraylength, wp_iaload, wp_baload, wp_laload, wp_aaload, wp_iastore, wp_bastore, wp_lastore, wp_aastore, wp_new, wp_newarray, wp_anewarray, wp_multianewarray, wp_invokevirtual, wp_invokespecial, wp_invokestatic, wp_ireturn, wp_lreturn, wp_areturn, wp_return_, wpL, ldI, ldJ, ldA, lk, sL, cL, i1, i2, l1, l2, r1, pA, p1, p2, ar, tyAt, rcv, rcr, oO, cmpI, Value.category, rf_some, rf_none, ak, kc, List.drop_succ_cons, List.drop_zero, List.drop_nil, List.take_succ_cons, List.take_zero, List.take_nil, List.head?_cons, List.reverse_cons, List.reverse_nil, List.nil_append, List.cons_append, List.length_cons, List.length_nil, Option.toList_some, Option.toList_none, hT_sI, hT_sJ, hT_sR, hI_sJ, hI_sR, hJ_sI, hJ_sR, hR_sI, hR_sJ, isO_sI, isO_sJ, isO_sR, iI_add, iI_sub, iI_mul, iI_neg, lv_args, Nat.reduceAdd, Nat.reduceEqDiff, Nat.reduceLeDiff, reduceIte, ite_true, ite_false, true_and, and_true, false_and, and_false, not_true, not_false_iff, or_true, true_or, false_or, or_false, imp_self, ne_eq, Classical.not_not, forall_const, true_implies, false_implies, if_pos, Nat.zero_add, Nat.add_zero, Nat.le_refl, Nat.reduceLT, iz00, iz01, iz10, iz11, ib0, ib1, ib01, reduceCtorEq, cq_X12_swap_177]
  refine hG.1 4 _ _ _ _ ?_
  rw [bq_X12_swap_4]
  simp only [bk_X12_swap_4, wp_aconst_null, wp_iconst, wp_bipush, wp_sipush, wp_ldc, wp_ldc_w, wp_ldc2_w, wp_lconst, wp_iload, wp_iload_n, wp_lload, wp_lload_n, wp_aload, wp_aload_n, wp_istore, wp_istore_n, wp_lstore, wp_lstore_n, wp_astore, wp_astore_n, wp_iinc, wp_iadd, wp_isub, wp_imul, wp_iand, wp_ior, wp_ixor, wp_ishl, wp_ishr, wp_iushr, wp_idiv, wp_irem, wp_ineg, wp_ladd, wp_lsub, wp_lmul, wp_ldiv, wp_lrem, wp_lcmp, wp_i2l, wp_l2i, wp_pop, wp_dup, wp_dup2, wp_goto, wp_ifCond, wp_if_icmp, wp_ifnull, wp_ifnonnull, wp_tableswitch, wp_getfield, wp_putfield, wp_arraylength, wp_iaload, wp_baload, wp_laload, wp_aaload, wp_iastore, wp_bastore, wp_lastore, wp_aastore, wp_new, wp_newarray, wp_anewarray, wp_multianewarray, wp_invokevirtual, wp_invokespecial, wp_invokestatic, wp_ireturn, wp_lreturn, wp_areturn, wp_return_, wpL, ldI, ldJ, ldA, lk, sL, cL, i1, i2, l1, l2, r1, pA, p1, p2, ar, tyAt, rcv, rcr, oO, cmpI, Value.category, rf_some, rf_none, ak, kc, List.drop_succ_cons, List.drop_zero, List.drop_nil, List.take_succ_cons, List.take_zero, List.take_nil, List.head?_cons, List.reverse_cons, List.reverse_nil, List.nil_append, List.cons_append, List.length_cons, List.length_nil, Option.toList_some, Option.toList_none, hT_sI, hT_sJ, hT_sR, hI_sJ, hI_sR, hJ_sI, hJ_sR, hR_sI, hR_sJ, isO_sI, isO_sJ, isO_sR, iI_add, iI_sub, iI_mul, iI_neg, lv_args, Nat.reduceAdd, Nat.reduceEqDiff, Nat.reduceLeDiff, reduceIte, ite_true, ite_false, true_and, and_true, false_and, and_false, not_true, not_false_iff, or_true, true_or, false_or, or_false, imp_self, ne_eq, Classical.not_not, forall_const, true_implies, false_implies, if_pos, Nat.zero_add, Nat.add_zero, Nat.le_refl, Nat.reduceLT, iz00, iz01, iz10, iz11, ib0, ib1, ib01, reduceCtorEq, cq_X12_swap_177]
  exact hQ h2 F
theorem val_X12_swap (g : GP) : Val g yX12_swap prog_14_method_66_code 1 (some .int) 3 180 0 0 sp_X12_swap := val_of (own := RX12) (ini := false) (on := 12) (rs := rs_X12_swap) (cl := cl_X12_swap) (rt := 1) (bl := bl_X12_swap) (plainFor_of_name (by decide +kernel)) rfl (rok_X12 _) ck_X12_swap (fun h => by cases h) rfl (List.forall_mem_cons.mpr ⟨caV (val_X12_laySwap g) (tb_in 1290 (by decide +kernel) (by decide +kernel)) (tb_in 1292 (by decide +kernel) (by decide +kernel)) (tb_in 50 (by decide +kernel) (by decide +kernel)) (tb_in 1293 (by decide +kernel) (by decide +kernel)) (tb_in 63 (by decide +kernel) (by decide +kernel)) ⟨by decide, by decide, by decide +kernel⟩ ⟨rfl, by decide⟩ ⟨by decide, by decide⟩, (fun _ h => absurd h List.not_mem_nil)⟩) pf_X12_swap

