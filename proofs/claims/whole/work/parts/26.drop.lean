/-! a pair is dropped -/
def stDrop (st : St) (k : Nat) : St := fun f i => if f = 0 ∧ i = 3 then st 0 3 - 1 else if (18 ≤ f ∧ f ≤ 21) ∧ k ≤ i ∧ (i : Int) < st 0 3 - 1 then st f (i + 1) else st f i
def r_drop (st : St) (k : Int) : Int := if isQ st k then st 20 k.toNat else -900001
def n_drop (st : St) (k : Int) : St := if isQ st k then stDrop st k.toNat else st
def adD (ad : Ad) (st : St) (k : Nat) : Ad := fun r i => if r = 7 ∧ k ≤ i ∧ (i : Int) < st 0 3 - 1 then ad 7 (i + 1) else ad r i
/-- the pairs from k up to j have moved up -/
def FD (h h' : hp) (ad : Ad) (st : St) (k j : Nat) : Prop := (∀ a, hT h' a = hT h a) ∧ (∀ c i a, hI h' c i a = hI (sI h 11 7 (ad 30 0) (iI (st 0 3 - 1))) c i a) ∧ (∀ c i a, hJ h' c i a = hJ h c i a) ∧ ∀ c i a, hR h' c i a = if c = 26 ∧ a = ad 8 3 ∧ k ≤ i ∧ i < j then some (ad 7 (i + 1)) else hR h c i a
theorem stDrop_f {st : St} {k f i : Nat} (h : ¬ (18 ≤ f ∧ f ≤ 21)) (h0 : ¬ (f = 0 ∧ i = 3)) : stDrop st k f i = st f i := by
  unfold stDrop
  rw [if_neg h0, if_neg (fun z => h z.1)]
theorem drop_RX {h h' : hp} {ad : Ad} {st : St} {k : Nat} (R : RX h ad st) (w : WF st) (hk : (k : Int) < st 0 3) (F : FD h h' ad st k (st 0 3 - 1).toNat) : RX (sR h' 26 (st 0 3 - 1).toNat (ad 8 3) none) (adD ad st k) (stDrop st k) := by
  obtain ⟨⟨t1, t2, t3⟩, ⟨c1, c2, c3, c4, c5, c6⟩, ⟨u1, u2, u3, u4⟩, hi, hj, hw⟩ := R
  obtain ⟨f1, f2, f3, f4⟩ := F
  have h03 := w.1.2.2.2.1
  have a30 : adD ad st k 30 0 = ad 30 0 := by unfold adD; rw [if_neg (by omega)]
  have aO : ∀ r i, r ≠ 7 → adD ad st k r i = ad r i := fun r i z => by unfold adD; rw [if_neg (fun y => z y.1)]
  have aF : ∀ r, r ≠ 7 → adD ad st k r = ad r := fun r z => funext fun i => aO r i z
  have a7 : ∀ i : Nat, (i : Int) < st 0 3 - 1 → ∃ j : Nat, (j : Int) < st 0 3 ∧ adD ad st k 7 i = ad 7 j ∧ (∀ f, 18 ≤ f ∧ f ≤ 21 → stDrop st k f i = st f j) ∧ j = (if k ≤ i then i + 1 else i) := by
    intro i z
    by_cases y : k ≤ i
    · refine ⟨i + 1, by omega, by unfold adD; rw [if_pos ⟨rfl, y, z⟩], fun f hf => ?_, by rw [if_pos y]⟩
      unfold stDrop
      rw [if_neg (by omega), if_pos ⟨hf, y, z⟩]
    · refine ⟨i, by omega, by unfold adD; rw [if_neg (fun q => y q.2.1)], fun f hf => ?_, by rw [if_neg y]⟩
      unfold stDrop
      rw [if_neg (by omega), if_neg (fun q => y q.2.1)]
  have s0 : ∀ n, n ≠ 3 → stDrop st k 0 n = st 0 n := fun n z => stDrop_f (by omega) (fun q => z q.2)
  have s03 : stDrop st k 0 3 = st 0 3 - 1 := by unfold stDrop; rw [if_pos ⟨rfl, rfl⟩]
  have hI0 : ∀ c i a, ¬ (c = 11 ∧ i = 7) → hI (sR h' 26 (st 0 3 - 1).toNat (ad 8 3) none) c i a = hI h c i a := fun c i a z => by rw [hI_sR, f2, hI_sI, if_neg (fun q => z ⟨q.1, q.2.1⟩)]
  have hR0 : ∀ c i a, c ≠ 26 → hR (sR h' 26 (st 0 3 - 1).toNat (ad 8 3) none) c i a = hR h c i a := fun c i a z => by rw [hR_sR, if_neg (fun q => z q.1), f4, if_neg (fun q => z q.1)]
  have hT0 : ∀ a, hT (sR h' 26 (st 0 3 - 1).toNat (ad 8 3) none) a = hT h a := fun a => f1 a
  have cy3 : ∀ r ∈ xty, r.2.2.2 = 3 → r = (7, 2, 4, 3) := fun r hr => (xy_row r hr).2.2.2.2.2
  have cyn : ∀ r ∈ xty, r.2.2.2 ≠ 3 → r.1 ≠ 7 := by decide
  have ct3 : ∀ r ∈ xtab, (r.2.2.2.2.2.2 = 3 → (18 ≤ r.2.2.2.1 ∧ r.2.2.2.1 ≤ 21) ∧ r.2.2.1 = 7 ∧ r.2.2.2.2.1 = 1 ∧ r.2.2.2.2.2.1 = 0) ∧ (r.2.2.2.2.2.2 ≠ 3 → ¬ (18 ≤ r.2.2.2.1 ∧ r.2.2.2.1 ≤ 21) ∧ r.2.2.1 ≠ 7) := by decide
  refine ⟨⟨?_, fun r hr => ?_, fun r hr i hh => ?_⟩, ⟨?_, ?_, ?_, ?_, ?_, ?_⟩, ⟨fun r hr i hh => ?_, fun r hr i hh => ?_, fun e he => ?_, fun e he => ?_⟩, fun r hr i hh => ?_, ⟨fun r hr i j h1 h2 h3 => ?_, fun i j h1 h2 => ?_⟩, ?_⟩
  · rw [a30, hT0]; exact t1
  · rw [a30, aF 8 (by omega), hT0, hR0 _ _ _ (by omega)]; exact t2 r hr
  · rw [hT0]
    by_cases z : r.2.2.2 = 3
    · obtain rfl := cy3 r hr z
      rw [s03] at hh
      obtain ⟨j, q1, q2, -⟩ := a7 i hh
      rw [q2]
      exact t3 (7, 2, 4, 3) (by decide) j q1
    · rw [s0 _ z] at hh
      rw [aO _ _ (cyn r hr z)]
      exact t3 r hr i hh
  · rw [a30, hI0 _ _ _ (by omega), s0 0 (by omega)]; exact c1
  · rw [a30, hI0 _ _ _ (by omega), s0 1 (by omega)]; exact c2
  · rw [a30, hI0 _ _ _ (by omega), s0 2 (by omega)]; exact c3
  · rw [a30, s03, hI_sR, f2, hI_sI, if_pos ⟨rfl, rfl, rfl⟩]
  · rw [a30, hI0 _ _ _ (by omega), s0 4 (by omega)]; exact c5
  · rw [a30, hI0 _ _ _ (by omega), s0 5 (by omega)]; exact c6
  · obtain ⟨k1, k2, k3, k4⟩ := xa_c4 r hr
    rw [aF 8 (by omega)]
    by_cases z : r.2.2.2.2.2 = 3
    · rw [z, s03] at hh
      obtain ⟨j, q1, q2, -, q4⟩ := a7 i hh
      rw [k2, k3, k4, z]
      show hR _ 26 i (ad 8 3) = some (adD ad st k 7 i)
      rw [hR_sR, if_neg (by omega), f4, q2]
      by_cases y : k ≤ i
      · rw [if_pos ⟨rfl, rfl, y, by omega⟩, q4, if_pos y]
      · rw [if_neg (fun q => y q.2.2.1), q4, if_neg y]
        exact u1 (6, 26, 20, 3, 7, 3) (by decide) i (by show (i : Int) < st 0 3; omega)
    · rw [s0 _ z] at hh
      have hrow : ∀ r ∈ xar, r.2.2.2.2.2 ≠ 3 → r.2.2.2.2.1 ≠ 7 := by decide
      rw [aO _ _ (hrow r hr z), hR0 _ _ _ (by omega)]
      exact u1 r hr i hh
  · rw [s0 0 (by omega)] at hh
    have hrow : ∀ r ∈ xrf, r.2 ≠ 7 := by decide
    rw [aO 0 _ (by omega), aO _ _ (hrow r hr), hR0 _ _ _ (by omega)]
    exact u2 r hr i hh
  · rw [s0 1 (by omega)] at he
    rw [aO 5 _ (by omega), aO 0 _ (by omega), aO 0 _ (by omega), hR0 _ _ _ (by omega), hR0 _ _ _ (by omega), stDrop_f (by omega) (by omega), stDrop_f (by omega) (by omega)]
    exact u3 e he
  · rw [s03] at he
    obtain ⟨j, q1, q2, q3, -⟩ := a7 e he
    rw [q2, aO 0 _ (by omega), aO 0 _ (by omega), hR0 _ _ _ (by omega), hR0 _ _ _ (by omega), q3 18 (by omega), q3 19 (by omega)]
    exact u4 j q1
  · have n11 := (xt_c4 r hr).2
    rw [hI0 _ _ _ (fun q => n11 q.1)]
    by_cases z : r.2.2.2.2.2.2 = 3
    · obtain ⟨y1, y2, y3, y4⟩ := (ct3 r hr).1 z
      rw [z, s03] at hh
      obtain ⟨j, q1, q2, q3, -⟩ := a7 i hh
      have := hi r hr j (by rw [z]; exact q1)
      rw [y2, y3, y4] at this ⊢
      rw [q2, Nat.one_mul, Nat.add_zero, q3 _ y1, this, Nat.one_mul, Nat.add_zero]
    · obtain ⟨y1, y2⟩ := (ct3 r hr).2 z
      rw [s0 _ z] at hh
      rw [aO _ _ y2, stDrop_f y1 (fun q => (xt_0 r hr).1 q.1)]
      exact hi r hr i hh
  · by_cases z : r.2.2.2 = 3
    · obtain rfl := cy3 r hr z
      dsimp only at h1 h2 h3
      rw [s03] at h1 h2
      obtain ⟨i', q1, q2, -, q4⟩ := a7 i h1
      obtain ⟨j', p1', p2', -, p4'⟩ := a7 j h2
      rw [q2, p2'] at h3
      have := hj.1 (7, 2, 4, 3) (by decide) i' j' q1 p1' h3
      rw [q4, p4'] at this
      split at this <;> split at this <;> omega
    · rw [s0 _ z] at h1 h2
      rw [aO _ _ (cyn r hr z), aO _ _ (cyn r hr z)] at h3
      exact hj.1 r hr i j h1 h2 h3
  · rw [s0 0 (by omega)] at h1 h2
    rw [aO 1 _ (by omega), aO 2 _ (by omega)]
    exact hj.2 i j h1 h2
  · obtain ⟨w1, w2, w3, w4, w5, w6, w7, w8⟩ := hw
    refine ⟨fun r hr => ?_, fun i hi' => ?_, ?_, ?_, ?_, ?_, fun i hi' => ?_, ?_⟩
    · obtain ⟨k1, k2, k3⟩ := xw_8 r hr
      rw [aF _ (by omega), aF _ (by omega), hR0 _ _ _ (by omega), hT0]
      exact w1 r hr
    · obtain ⟨z1, z2, z3, z4, z5, z6, z7, z8, z9, z10, z11⟩ := w2 i hi'
      refine ⟨?_, ?_, ?_, ?_, ?_, ?_, ?_, ?_, ?_, fun j hj' => ?_, ?_⟩
      · rw [aF 9 (by omega), aF 10 (by omega), hR0 _ _ _ (by omega)]; exact z1
      · rw [aF 10 (by omega), hT0]; exact z2
      · rw [aF 10 (by omega), hI0 _ _ _ (by omega)]; exact z3
      · rw [aF 10 (by omega), aF 11 (by omega), hR0 _ _ _ (by omega)]; exact z4
      · rw [aF 10 (by omega), aF 12 (by omega), hR0 _ _ _ (by omega)]; exact z5
      · rw [aF 10 (by omega), aF 13 (by omega), hR0 _ _ _ (by omega)]; exact z6
      · rw [aF 11 (by omega), hT0]; exact z7
      · rw [aF 12 (by omega), hT0]; exact z8
      · rw [aF 13 (by omega), hT0]; exact z9
      · rw [aF 11 (by omega), aF (20 + i) (by omega), hR0 _ _ _ (by omega), hT0]; exact z10 j hj'
      · rw [aF (20 + i) (by omega)]; exact z11
    · rw [aF 10 (by omega)]; exact w3
    · rw [aF 12 (by omega)]; exact w4
    · rw [aF 13 (by omega)]; exact w5
    · intro i j k' l h1 h2 h3 h4
      rw [aF (20 + i) (by omega), aF (20 + j) (by omega)]
      exact w6 i j k' l h1 h2 h3 h4
    · rw [aF 9 (by omega), aF 14 (by omega), aF 15 (by omega), hR0 _ _ _ (by omega), hR0 _ _ _ (by omega), hT0, hT0]
      exact w7 i hi'
    · rw [aF 14 (by omega), aF 15 (by omega)]; exact w8
def cl_X11_drop : Nat → Nat × Nat × Spec := fun q => (0, 0, fun _ _ _ => False)

def sp_X11_drop : Spec := fun as h K => ∃ (ad : Ad) (st : St) (k : Int), as = [.ref (ad 30 0), .int (iI k)] ∧ RX h ad st ∧ WF st ∧ ir k ∧ ∀ h' ad', RX h' ad' (n_drop st k) → FX h h' → ad' 30 0 = ad 30 0 → K (some (.int (iI (r_drop st k)))) h'
theorem pf_X11_drop : PfM cl_X11_drop (0, 0) 1 4 bl_X11_drop sp_X11_drop := by
  rintro as h Q ⟨ad, st, k, rfl, R, w, hk, hQ⟩
  refine ⟨Nat.le_of_ble_eq_true rfl, fun G hG => ?_⟩
  have h0 := w.1.2.2.2.1
  have o := xo_x R
  have c0 := xc_3 R
  have e1 : (iI k < 0) = (k < 0) := propext (iI_lt0 hk)
  have e2 : (iI k < iI (st 0 3)) = (k < st 0 3) := propext (iI_lt hk (by omega))
  have e3 : (iI k).toNatClampNeg = k.toNat := iI_cl hk
  have t1 := xa_26 R
  have t2 := xat_26 R
  have unk : ¬ isQ st k → Q (some (.int (iI (-900001)))) h := by
    intro z
    have nv : n_drop st k = st := if_neg z
    have rv : r_drop st k = -900001 := if_neg z
    rw [nv, rv] at hQ
    exact hQ h ad R FX.rf rfl
  repeat' (first | refine ⟨fun c => ?_, fun c => ?_⟩ | (refine hG.1 0 _ _ _ _ ?_; rw [bq_X11_drop_0]; simp only [bk_X11_drop_0, wp_aconst_null, wp_iconst, wp_bipush, wp_sipush, wp_ldc, wp_ldc_w, wp_ldc2_w, wp_lconst, wp_iload, wp_iload_n, wp_lload, wp_lload_n, wp_aload, wp_aload_n, wp_istore, wp_istore_n, wp_lstore, wp_lstore_n, wp_astore, wp_astore_n, wp_iinc, wp_iadd, wp_isub, wp_imul, wp_iand, wp_ior, wp_ixor, wp_ishl, wp_ishr, wp_iushr, wp_idiv, wp_irem, wp_ineg, wp_ladd, wp_lsub, wp_lmul, wp_ldiv, wp_lrem, wp_lcmp, wp_i2l, wp_l2i, wp_pop, wp_dup, wp_dup2, wp_goto, wp_ifCond, wp_if_icmp, wp_ifnull, wp_ifnonnull, wp_tableswitch, wp_getfield, wp_putfield, wp_arraylength, wp_iaload, wp_baload, wp_laload, wp_aaload, wp_iastore, wp_bastore, wp_lastore, wp_aastore, wp_new, wp_newarray, wp_anewarray, wp_multianewarray, wp_invokevirtual, wp_invokespecial, wp_invokestatic, wp_ireturn, wp_lreturn, wp_areturn, wp_return_, wpL, ldI, ldJ, ldA, lk, sL, cL, i1, i2, l1, l2, r1, pA, p1, p2, ar, tyAt, rcv, rcr, oO, cmpI, Value.category, rf_some, rf_none, ak, kc, List.drop_succ_cons, List.drop_zero, List.drop_nil, List.take_succ_cons, List.take_zero, List.take_nil, List.head?_cons, List.reverse_cons, List.reverse_nil, List.nil_append, List.cons_append, List.length_cons, List.length_nil, Option.toList_some, Option.toList_none, hT_sI, hT_sJ, hT_sR, hI_sJ, hI_sR, hJ_sI, hJ_sR, hR_sI, hR_sJ, isO_sI, isO_sJ, isO_sR, iI_add, iI_sub, iI_mul, iI_neg, lv_args, Nat.reduceAdd, Nat.reduceEqDiff, Nat.reduceLeDiff, reduceIte, ite_true, ite_false, true_and, and_true, false_and, and_false, not_true, not_false_iff, or_true, true_or, false_or, or_false, imp_self, ne_eq, Classical.not_not, forall_const, true_implies, false_implies, if_pos, Nat.zero_add, Nat.add_zero, Nat.le_refl, Nat.reduceLT, iz00, iz01, iz10, iz11, ib0, ib1, ib01, reduceCtorEq, o, c0, e1, e2]) | (refine hG.1 12 _ _ _ _ ?_; rw [bq_X11_drop_12]; simp only [bk_X11_drop_12, wp_aconst_null, wp_iconst, wp_bipush, wp_sipush, wp_ldc, wp_ldc_w, wp_ldc2_w, wp_lconst, wp_iload, wp_iload_n, wp_lload, wp_lload_n, wp_aload, wp_aload_n, wp_istore, wp_istore_n, wp_lstore, wp_lstore_n, wp_astore, wp_astore_n, wp_iinc, wp_iadd, wp_isub, wp_imul, wp_iand, wp_ior, wp_ixor, wp_ishl, wp_ishr, wp_iushr, wp_idiv, wp_irem, wp_ineg, wp_ladd, wp_lsub, wp_lmul, wp_ldiv, wp_lrem, wp_lcmp, wp_i2l, wp_l2i, wp_pop, wp_dup, wp_dup2, wp_goto, wp_ifCond, wp_if_icmp, wp_ifnull, wp_ifnonnull, wp_tableswitch, wp_getfield, wp_putfield, wp_arraylength, wp_iaload, wp_baload, wp_laload, wp_aaload, wp_iastore, wp_bastore, wp_lastore, wp_aastore, wp_new, wp_newarray, wp_anewarray, wp_multianewarray, wp_invokevirtual, wp_invokespecial, wp_invokestatic, wp_ireturn, wp_lreturn, wp_areturn, wp_return_, wpL, ldI, ldJ, ldA, lk, sL, cL, i1, i2, l1, l2, r1, pA, p1, p2, ar, tyAt, rcv, rcr, oO, cmpI, Value.category, rf_some, rf_none, ak, kc, List.drop_succ_cons, List.drop_zero, List.drop_nil, List.take_succ_cons, List.take_zero, List.take_nil, List.head?_cons, List.reverse_cons, List.reverse_nil, List.nil_append, List.cons_append, List.length_cons, List.length_nil, Option.toList_some, Option.toList_none, hT_sI, hT_sJ, hT_sR, hI_sJ, hI_sR, hJ_sI, hJ_sR, hR_sI, hR_sJ, isO_sI, isO_sJ, isO_sR, iI_add, iI_sub, iI_mul, iI_neg, lv_args, Nat.reduceAdd, Nat.reduceEqDiff, Nat.reduceLeDiff, reduceIte, ite_true, ite_false, true_and, and_true, false_and, and_false, not_true, not_false_iff, or_true, true_or, false_or, or_false, imp_self, ne_eq, Classical.not_not, forall_const, true_implies, false_implies, if_pos, Nat.zero_add, Nat.add_zero, Nat.le_refl, Nat.reduceLT, iz00, iz01, iz10, iz11, ib0, ib1, ib01, reduceCtorEq, o, c0, e1, e2]) | (refine hG.1 37 _ _ _ _ ?_; rw [bq_X11_drop_37]; simp only [bk_X11_drop_37, wp_aconst_null, wp_iconst, wp_bipush, wp_sipush, wp_ldc, wp_ldc_w, wp_ldc2_w, wp_lconst, wp_iload, wp_iload_n, wp_lload, wp_lload_n, wp_aload, wp_aload_n, wp_istore, wp_istore_n, wp_lstore, wp_lstore_n, wp_astore, wp_astore_n, wp_iinc, wp_iadd, wp_isub, wp_imul, wp_iand, wp_ior, wp_ixor, wp_ishl, wp_ishr, wp_iushr, wp_idiv, wp_irem, wp_ineg, wp_ladd, wp_lsub, wp_lmul, wp_ldiv, wp_lrem, wp_lcmp, wp_i2l, wp_l2i, wp_pop, wp_dup, wp_dup2, wp_goto, wp_ifCond, wp_if_icmp, wp_ifnull, wp_ifnonnull, wp_tableswitch, wp_getfield, wp_putfield, wp_arraylength, wp_iaload, wp_baload, wp_laload, wp_aaload, wp_iastore, wp_bastore, wp_lastore, wp_aastore, wp_new, wp_newarray, wp_anewarray, wp_multianewarray, wp_invokevirtual, wp_invokespecial, wp_invokestatic, wp_ireturn, wp_lreturn, wp_areturn, wp_return_, wpL, ldI, ldJ, ldA, lk, sL, cL, i1, i2, l1, l2, r1, pA, p1, p2, ar, tyAt, rcv, rcr, oO, cmpI, Value.category, rf_some, rf_none, ak, kc, List.drop_succ_cons, List.drop_zero, List.drop_nil, List.take_succ_cons, List.take_zero, List.take_nil, List.head?_cons, List.reverse_cons, List.reverse_nil, List.nil_append, List.cons_append, List.length_cons, List.length_nil, Option.toList_some, Option.toList_none, hT_sI, hT_sJ, hT_sR, hI_sJ, hI_sR, hJ_sI, hJ_sR, hR_sI, hR_sJ, isO_sI, isO_sJ, isO_sR, iI_add, iI_sub, iI_mul, iI_neg, lv_args, Nat.reduceAdd, Nat.reduceEqDiff, Nat.reduceLeDiff, reduceIte, ite_true, ite_false, true_and, and_true, false_and, and_false, not_true, not_false_iff, or_true, true_or, false_or, or_false, imp_self, ne_eq, Classical.not_not, forall_const, true_implies, false_implies, if_pos, Nat.zero_add, Nat.add_zero, Nat.le_refl, Nat.reduceLT, iz00, iz01, iz10, iz11, ib0, ib1, ib01, reduceCtorEq, o, c0, e1, e2]) | (refine hG.1 65 _ _ _ _ ?_; rw [bq_X11_drop_65]; simp only [bk_X11_drop_65, wp_aconst_null, wp_iconst, wp_bipush, wp_sipush, wp_ldc, wp_ldc_w, wp_ldc2_w, wp_lconst, wp_iload, wp_iload_n, wp_lload, wp_lload_n, wp_aload, wp_aload_n, wp_istore, wp_istore_n, wp_lstore, wp_lstore_n, wp_astore, wp_astore_n, wp_iinc, wp_iadd, wp_isub, wp_imul, wp_iand, wp_ior, wp_ixor, wp_ishl, wp_ishr, wp_iushr, wp_idiv, wp_irem, wp_ineg, wp_ladd, wp_lsub, wp_lmul, wp_ldiv, wp_lrem, wp_lcmp, wp_i2l, wp_l2i, wp_pop, wp_dup, wp_dup2, wp_goto, wp_ifCond, wp_if_icmp, wp_ifnull, wp_ifnonnull, wp_tableswitch, wp_getfield, wp_putfield, wp_arraylength, wp_iaload, wp_baload, wp_laload, wp_aaload, wp_iastore, wp_bastore, wp_lastore, wp_aastore, wp_new, wp_newarray, wp_anewarray, wp_multianewarray, wp_invokevirtual, wp_invokespecial, wp_invokestatic, wp_ireturn, wp_lreturn, wp_areturn, wp_return_, wpL, ldI, ldJ, ldA, lk, sL, cL, i1, i2, l1, l2, r1, pA, p1, p2, ar, tyAt, rcv, rcr, oO, cmpI, Value.category, rf_some, rf_none, ak, kc, List.drop_succ_cons, List.drop_zero, List.drop_nil, List.take_succ_cons, List.take_zero, List.take_nil, List.head?_cons, List.reverse_cons, List.reverse_nil, List.nil_append, List.cons_append, List.length_cons, List.length_nil, Option.toList_some, Option.toList_none, hT_sI, hT_sJ, hT_sR, hI_sJ, hI_sR, hJ_sI, hJ_sR, hR_sI, hR_sJ, isO_sI, isO_sJ, isO_sR, iI_add, iI_sub, iI_mul, iI_neg, lv_args, Nat.reduceAdd, Nat.reduceEqDiff, Nat.reduceLeDiff, reduceIte, ite_true, ite_false, true_and, and_true, false_and, and_false, not_true, not_false_iff, or_true, true_or, false_or, or_false, imp_self, ne_eq, Classical.not_not, forall_const, true_implies, false_implies, if_pos, Nat.zero_add, Nat.add_zero, Nat.le_refl, Nat.reduceLT, iz00, iz01, iz10, iz11, ib0, ib1, ib01, reduceCtorEq, o, c0, e1, e2]))
  · exact unk (by omega)
  rotate_left
  · exact unk (by omega)
  have hc : isQ st k := by omega
  have hi : ((k.toNat : Nat) : Int) < st 0 3 := by omega
  have nv : n_drop st k = stDrop st k.toNat := if_pos hc
  have rv : r_drop st k = st 20 k.toNat := if_pos hc
  rw [nv, rv] at hQ
  have hin : vp_in (iI k) 20 := iI_in (by omega) (by omega)
  have t3 := xae_26 R hi
  have o1 := xo_7 R hi
  have v2 := xi_2_2_7 R hi
  have loop : ∀ (n j : Nat) (h' : hp), j + n = (st 0 3 - 1).toNat → k.toNat ≤ j → FD h h' ad st k.toNat j → G 37 [(0, .ref (ad 30 0)), (1, .int (iI k)), (2, .int (iI (st 20 k.toNat))), (3, .int (iI (j : Nat)))] [] h' (0, 0) := by
    intro n
    induction n with
    | zero =>
      intro j h' hj hkj F
      have hj' : j = (st 0 3 - 1).toNat := by omega
      have o' : isO h' (ad 30 0) 11 := ⟨17, (F.1 _).trans R.1.1⟩
      have c0' : hI h' 11 7 (ad 30 0) = iI (st 0 3 - 1) := by rw [F.2.1, hI_sI, if_pos ⟨rfl, rfl, rfl⟩]
      have q1 : (iI (st 0 3 - 1) ≤ iI (j : Nat)) = True := eq_true ((iI_le (by omega) (by omega)).mpr (by omega))
      have t1' : hR h' 11 6 (ad 30 0) = some (ad 8 3) := by rw [F.2.2.2, if_neg (by omega)]; exact t1
      have t2' : hT h' (ad 8 3) = some (26, 20) := (F.1 _).trans t2
      have hin' : vp_in (iI (st 0 3 - 1)) 20 := iI_in (by omega) (by omega)
      have e3' : (iI (st 0 3 - 1)).toNatClampNeg = (st 0 3 - 1).toNat := iI_cl (by omega)
      refine hG.1 37 _ _ _ _ ?_
      rw [bq_X11_drop_37]
      simp only [bk_X11_drop_37, wp_aconst_null, wp_iconst, wp_bipush, wp_sipush, wp_ldc, wp_ldc_w, wp_ldc2_w, wp_lconst, wp_iload, wp_iload_n, wp_lload, wp_lload_n, wp_aload, wp_aload_n, wp_istore, wp_istore_n, wp_lstore, wp_lstore_n, wp_astore, wp_astore_n, wp_iinc, wp_iadd, wp_isub, wp_imul, wp_iand, wp_ior, wp_ixor, wp_ishl, wp_ishr, wp_iushr, wp_idiv, wp_irem, wp_ineg, wp_ladd, wp_lsub, wp_lmul, wp_ldiv, wp_lrem, wp_lcmp, wp_i2l, wp_l2i, wp_pop, wp_dup, wp_dup2, wp_goto, wp_ifCond, wp_if_icmp, wp_ifnull, wp_ifnonnull, wp_tableswitch, wp_getfield, wp_putfield, wp_arraylength, wp_iaload, wp_baload, wp_laload, wp_aaload, wp_iastore, wp_bastore, wp_lastore, wp_aastore, wp_new, wp_newarray, wp_anewarray, wp_multianewarray, wp_invokevirtual, wp_invokespecial, wp_invokestatic, wp_ireturn, wp_lreturn, wp_areturn, wp_return_, wpL, ldI, ldJ, ldA, lk, sL, cL, i1, i2, l1, l2, r1, pA, p1, p2, ar, tyAt, rcv, rcr, oO, cmpI, Value.category, rf_some, rf_none, ak, kc, List.drop_succ_cons, List.drop_zero, List.drop_nil, List.take_succ_cons, List.take_zero, List.take_nil, List.head?_cons, List.reverse_cons, List.reverse_nil, List.nil_append, List.cons_append, List.length_cons, List.length_nil, Option.toList_some, Option.toList_none, hT_sI, hT_sJ, hT_sR, hI_sJ, hI_sR, hJ_sI, hJ_sR, hR_sI, hR_sJ, isO_sI, isO_sJ, isO_sR, iI_add, iI_sub, iI_mul, iI_neg, lv_args, Nat.reduceAdd, Nat.reduceEqDiff, Nat.reduceLeDiff, reduceIte, ite_true, ite_false, true_and, and_true, false_and, and_false, not_true, not_false_iff, or_true, true_or, false_or, or_false, imp_self, ne_eq, Classical.not_not, forall_const, true_implies, false_implies, if_pos, Nat.zero_add, Nat.add_zero, Nat.le_refl, Nat.reduceLT, iz00, iz01, iz10, iz11, ib0, ib1, ib01, reduceCtorEq, o', c0', q1]
      refine hG.1 65 _ _ _ _ ?_
      rw [bq_X11_drop_65]
      simp only [bk_X11_drop_65, wp_aconst_null, wp_iconst, wp_bipush, wp_sipush, wp_ldc, wp_ldc_w, wp_ldc2_w, wp_lconst, wp_iload, wp_iload_n, wp_lload, wp_lload_n, wp_aload, wp_aload_n, wp_istore, wp_istore_n, wp_lstore, wp_lstore_n, wp_astore, wp_astore_n, wp_iinc, wp_iadd, wp_isub, wp_imul, wp_iand, wp_ior, wp_ixor, wp_ishl, wp_ishr, wp_iushr, wp_idiv, wp_irem, wp_ineg, wp_ladd, wp_lsub, wp_lmul, wp_ldiv, wp_lrem, wp_lcmp, wp_i2l, wp_l2i, wp_pop, wp_dup, wp_dup2, wp_goto, wp_ifCond, wp_if_icmp, wp_ifnull, wp_ifnonnull, wp_tableswitch, wp_getfield, wp_putfield, wp_arraylength, wp_iaload, wp_baload, wp_laload, wp_aaload, wp_iastore, wp_bastore, wp_lastore, wp_aastore, wp_new, wp_newarray, wp_anewarray, wp_multianewarray, wp_invokevirtual, wp_invokespecial, wp_invokestatic, wp_ireturn, wp_lreturn, wp_areturn, wp_return_, wpL, ldI, ldJ, ldA, lk, sL, cL, i1, i2, l1, l2, r1, pA, p1, p2, ar, tyAt, rcv, rcr, oO, cmpI, Value.category, rf_some, rf_none, ak, kc, List.drop_succ_cons, List.drop_zero, List.drop_nil, List.take_succ_cons, List.take_zero, List.take_nil, List.head?_cons, List.reverse_cons, List.reverse_nil, List.nil_append, List.cons_append, List.length_cons, List.length_nil, Option.toList_some, Option.toList_none, hT_sI, hT_sJ, hT_sR, hI_sJ, hI_sR, hJ_sI, hJ_sR, hR_sI, hR_sJ, isO_sI, isO_sJ, isO_sR, iI_add, iI_sub, iI_mul, iI_neg, lv_args, Nat.reduceAdd, Nat.reduceEqDiff, Nat.reduceLeDiff, reduceIte, ite_true, ite_false, true_and, and_true, false_and, and_false, not_true, not_false_iff, or_true, true_or, false_or, or_false, imp_self, ne_eq, Classical.not_not, forall_const, true_implies, false_implies, if_pos, Nat.zero_add, Nat.add_zero, Nat.le_refl, Nat.reduceLT, iz00, iz01, iz10, iz11, ib0, ib1, ib01, reduceCtorEq, o', c0', t1', t2', hin', e3']
      rw [hj'] at F
      refine hQ _ (adD ad st k.toNat) (drop_RX R w hi F) ?_ (by unfold adD; rw [if_neg (by omega)])
      refine ⟨fun a t z => ?_, fun c i a hz _ => ⟨?_, ?_, ?_⟩⟩
      · rw [hT_sR, F.1]; exact z
      · rw [hI_sR, F.2.1, hI_sI, if_neg]
        rintro ⟨rfl, -⟩
        rcases hz with hz | hz <;> cases hz
      · rw [hJ_sR, F.2.2.1]
      · have hc26 : c ≠ 26 := by rintro rfl; rcases hz with hz | hz <;> cases hz
        rw [hR_sR, if_neg (fun q => hc26 q.1), F.2.2.2, if_neg (fun q => hc26 q.1)]
    | succ n ih =>
      intro j h' hj hkj F
      have o' : isO h' (ad 30 0) 11 := ⟨17, (F.1 _).trans R.1.1⟩
      have c0' : hI h' 11 7 (ad 30 0) = iI (st 0 3 - 1) := by rw [F.2.1, hI_sI, if_pos ⟨rfl, rfl, rfl⟩]
      have q1 : (iI (st 0 3 - 1) ≤ iI (j : Nat)) = False := eq_false (by rw [iI_le (by omega) (by omega)]; omega)
      have t1' : hR h' 11 6 (ad 30 0) = some (ad 8 3) := by rw [F.2.2.2, if_neg (by omega)]; exact t1
      have t2' : hT h' (ad 8 3) = some (26, 20) := (F.1 _).trans t2
      have i1' : vp_in (iI (j : Nat)) 20 := iI_in (by omega) (by omega)
      have i2' : vp_in (iI ((j : Nat) + 1)) 20 := iI_in (by omega) (by omega)
      have n1 : (iI (j : Nat)).toNatClampNeg = j := by rw [iI_cl (by omega)]; omega
      have n2 : (iI ((j : Nat) + 1)).toNatClampNeg = j + 1 := by rw [iI_cl (by omega)]; omega
      have v1 : hR h' 26 (j + 1) (ad 8 3) = some (ad 7 (j + 1)) := by rw [F.2.2.2, if_neg (by omega)]; exact xae_26 R (by omega)
      have o2 : isO h' (ad 7 (j + 1)) 2 := ⟨4, (F.1 _).trans (xT_7 R (by omega))⟩
      refine hG.1 37 _ _ _ _ ?_
      rw [bq_X11_drop_37]
      simp only [bk_X11_drop_37, wp_aconst_null, wp_iconst, wp_bipush, wp_sipush, wp_ldc, wp_ldc_w, wp_ldc2_w, wp_lconst, wp_iload, wp_iload_n, wp_lload, wp_lload_n, wp_aload, wp_aload_n, wp_istore, wp_istore_n, wp_lstore, wp_lstore_n, wp_astore, wp_astore_n, wp_iinc, wp_iadd, wp_isub, wp_imul, wp_iand, wp_ior, wp_ixor, wp_ishl, wp_ishr, wp_iushr, wp_idiv, wp_irem, wp_ineg, wp_ladd, wp_lsub, wp_lmul, wp_ldiv, wp_lrem, wp_lcmp, wp_i2l, wp_l2i, wp_pop, wp_dup, wp_dup2, wp_goto, wp_ifCond, wp_if_icmp, wp_ifnull, wp_ifnonnull, wp_tableswitch, wp_getfield, wp_putfield, wp_arraylength, wp_iaload, wp_baload, wp_laload, wp_aaload, wp_iastore, wp_bastore, wp_lastore, wp_aastore, wp_new, wp_newarray, wp_anewarray, wp_multianewarray, wp_invokevirtual, wp_invokespecial, wp_invokestatic, wp_ireturn, wp_lreturn, wp_areturn, wp_return_, wpL, ldI, ldJ, ldA, lk, sL, cL, i1, i2, l1, l2, r1, pA, p1, p2, ar, tyAt, rcv, rcr, oO, cmpI, Value.category, rf_some, rf_none, ak, kc, List.drop_succ_cons, List.drop_zero, List.drop_nil, List.take_succ_cons, List.take_zero, List.take_nil, List.head?_cons, List.reverse_cons, List.reverse_nil, List.nil_append, List.cons_append, List.length_cons, List.length_nil, Option.toList_some, Option.toList_none, hT_sI, hT_sJ, hT_sR, hI_sJ, hI_sR, hJ_sI, hJ_sR, hR_sI, hR_sJ, isO_sI, isO_sJ, isO_sR, iI_add, iI_sub, iI_mul, iI_neg, lv_args, Nat.reduceAdd, Nat.reduceEqDiff, Nat.reduceLeDiff, reduceIte, ite_true, ite_false, true_and, and_true, false_and, and_false, not_true, not_false_iff, or_true, true_or, false_or, or_false, imp_self, ne_eq, Classical.not_not, forall_const, true_implies, false_implies, if_pos, Nat.zero_add, Nat.add_zero, Nat.le_refl, Nat.reduceLT, iz00, iz01, iz10, iz11, ib0, ib1, ib01, reduceCtorEq, o', c0', q1, t1', t2', i1', i2', n1, n2, v1, o2]
      have q := ih (j + 1) (sR h' 26 j (ad 8 3) (some (ad 7 (j + 1)))) (by omega) (by omega) ⟨F.1, F.2.1, F.2.2.1, fun c i a => ?_⟩
      · rw [nc1] at q
        exact q
      · rw [hR_sR, F.2.2.2]
        by_cases z : c = 26 ∧ i = j ∧ a = ad 8 3
        · obtain ⟨rfl, rfl, rfl⟩ := z
          rw [if_pos ⟨rfl, rfl, rfl⟩, if_pos ⟨rfl, rfl, hkj, by omega⟩]
        · rw [if_neg z]
          by_cases y : c = 26 ∧ a = ad 8 3 ∧ k.toNat ≤ i ∧ i < j
          · rw [if_pos y, if_pos ⟨y.1, y.2.1, y.2.2.1, by omega⟩]
          · rw [if_neg y, if_neg]
            rintro ⟨y1, y2, y3, y4⟩
            by_cases ij : i = j
            · exact z ⟨y1, ij, y2⟩
            · exact y ⟨y1, y2, y3, by omega⟩
  refine hG.1 15 _ _ _ _ ?_
  rw [bq_X11_drop_15]
  simp only [bk_X11_drop_15, wp_aconst_null, wp_iconst, wp_bipush, wp_sipush, wp_ldc, wp_ldc_w, wp_ldc2_w, wp_lconst, wp_iload, wp_iload_n, wp_lload, wp_lload_n, wp_aload, wp_aload_n, wp_istore, wp_istore_n, wp_lstore, wp_lstore_n, wp_astore, wp_astore_n, wp_iinc, wp_iadd, wp_isub, wp_imul, wp_iand, wp_ior, wp_ixor, wp_ishl, wp_ishr, wp_iushr, wp_idiv, wp_irem, wp_ineg, wp_ladd, wp_lsub, wp_lmul, wp_ldiv, wp_lrem, wp_lcmp, wp_i2l, wp_l2i, wp_pop, wp_dup, wp_dup2, wp_goto, wp_ifCond, wp_if_icmp, wp_ifnull, wp_ifnonnull, wp_tableswitch, wp_getfield, wp_putfield, wp_arraylength, wp_iaload, wp_baload, wp_laload, wp_aaload, wp_iastore, wp_bastore, wp_lastore, wp_aastore, wp_new, wp_newarray, wp_anewarray, wp_multianewarray, wp_invokevirtual, wp_invokespecial, wp_invokestatic, wp_ireturn, wp_lreturn, wp_areturn, wp_return_, wpL, ldI, ldJ, ldA, lk, sL, cL, i1, i2, l1, l2, r1, pA, p1, p2, ar, tyAt, rcv, rcr, oO, cmpI, Value.category, rf_some, rf_none, ak, kc, List.drop_succ_cons, List.drop_zero, List.drop_nil, List.take_succ_cons, List.take_zero, List.take_nil, List.head?_cons, List.reverse_cons, List.reverse_nil, List.nil_append, List.cons_append, List.length_cons, List.length_nil, Option.toList_some, Option.toList_none, hT_sI, hT_sJ, hT_sR, hI_sJ, hI_sR, hJ_sI, hJ_sR, hR_sI, hR_sJ, isO_sI, isO_sJ, isO_sR, iI_add, iI_sub, iI_mul, iI_neg, lv_args, Nat.reduceAdd, Nat.reduceEqDiff, Nat.reduceLeDiff, reduceIte, ite_true, ite_false, true_and, and_true, false_and, and_false, not_true, not_false_iff, or_true, true_or, false_or, or_false, imp_self, ne_eq, Classical.not_not, forall_const, true_implies, false_implies, if_pos, Nat.zero_add, Nat.add_zero, Nat.le_refl, Nat.reduceLT, iz00, iz01, iz10, iz11, ib0, ib1, ib01, reduceCtorEq, o, c0, t1, t2, hin, e3, t3, o1, v2]
  have q := loop ((st 0 3 - 1).toNat - k.toNat) k.toNat (sI h 11 7 (ad 30 0) (iI (st 0 3 - 1))) (by omega) (Nat.le_refl _) ⟨fun _ => rfl, fun _ _ _ => rfl, fun _ _ _ => rfl, fun c i a => by rw [hR_sI, if_neg (by omega)]⟩
  rw [show ((k.toNat : Nat) : Int) = k by omega] at q
  exact q
theorem val_X11_drop (g : GP) : Val g yX11_drop prog_1_method_27_code 4 (some .int) 1 60 0 0 sp_X11_drop := val_of (own := RX11) (ini := false) (on := 11) (rs := rs_X11_drop) (cl := cl_X11_drop) (rt := 1) (bl := bl_X11_drop) (plainFor_of_name (by decide +kernel)) rfl (rok_X11 _) ck_X11_drop (fun h => by cases h) rfl ((fun _ h => absurd h List.not_mem_nil)) pf_X11_drop

