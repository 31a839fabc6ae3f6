/-! the reference: plans -/
theorem dg_ok : ∀ a : Nat, a < 64 → ∀ b : Nat, b < 64 → ∀ j : Nat, j < 4 → iI ((64 * a + b : Nat) : Nat) >>> (iI (3 * (j : Int)) &&& 31) &&& iI 7 = iI (((64 * a + b) / 8 ^ j % 8 : Nat) : Nat) := by decide +kernel
def dgM (code years i : Nat) : Nat := code / 8 ^ (years - 1 - i) % 8
theorem dgM_lt (code years i : Nat) : dgM code years i < 8 := Nat.mod_lt _ (by decide)
def cl_X12_digit : Nat → Nat × Nat × Spec := fun q => (0, 0, fun _ _ _ => False)

def sp_X12_digit : Spec := fun as h K => ∃ code years i : Nat, as = [.int (iI (code : Nat)), .int (iI (years : Nat)), .int (iI (i : Nat))] ∧ code < 4096 ∧ i < years ∧ years ≤ 4 ∧ K (some (.int (iI (dgM code years i : Nat)))) h
theorem pf_X12_digit : PfM cl_X12_digit (0, 0) 1 3 bl_X12_digit sp_X12_digit := by
  rintro as h Q ⟨code, years, i, rfl, hc, hi, hy, hQ⟩
  refine ⟨Nat.le_of_ble_eq_true rfl, fun G hG => ?_⟩
  have e := dg_ok (code / 64) (by omega) (code % 64) (by omega) (years - 1 - i) (by omega)
  rw [show 64 * (code / 64) + code % 64 = code by omega] at e
  have e2 : 3 * ((years : Int) - 1 - (i : Int)) = 3 * ((years - 1 - i : Nat) : Int) := by omega
  refine hG.1 0 _ _ _ _ ?_
  rw [bq_X12_digit_0]
  simp only [bk_X12_digit_0, wp_aconst_null, wp_iconst, wp_bipush, wp_sipush, wp_ldc, wp_ldc_w, wp_ldc2_w, wp_lconst, wp_iload, wp_iload_n, wp_lload, wp_lload_n, wp_aload, wp_aload_n, wp_istore, wp_istore_n, wp_lstore, wp_lstore_n, wp_astore, wp_astore_n, wp_iinc, wp_iadd, wp_isub, wp_imul, wp_iand, wp_ior, wp_ixor, wp_ishl, wp_ishr, wp_iushr, wp_idiv, wp_irem, wp_ineg, wp_ladd, wp_lsub, wp_lmul, wp_ldiv, wp_lrem, wp_lcmp, wp_i2l, wp_l2i, wp_pop, wp_dup, wp_dup2, wp_goto, wp_ifCond, wp_if_icmp, wp_ifnull, wp_ifnonnull, wp_tableswitch, wp_getfield, wp_putfield, wp_arraylength, wp_iaload, wp_baload, wp_laload, wp_aaload, wp_iastore, wp_bastore, wp_lastore, wp_aastore, wp_new, wp_newarray, wp_anewarray, wp_multianewarray, wp_invokevirtual, wp_invokespecial, wp_invokestatic, wp_ireturn, wp_lreturn, wp_areturn, wp_return_, wpL, ldI, ldJ, ldA, lk, sL, cL, i1, i2, l1, l2, r1, pA, p1, p2, ar, tyAt, rcv, rcr, oO, cmpI, Value.category, rf_some, rf_none, ak, kc, List.drop_succ_cons, List.drop_zero, List.drop_nil, List.take_succ_cons, List.take_zero, List.take_nil, List.head?_cons, List.reverse_cons, List.reverse_nil, List.nil_append, List.cons_append, List.length_cons, List.length_nil, Option.toList_some, Option.toList_none, hT_sI, hT_sJ, hT_sR, hI_sJ, hI_sR, hJ_sI, hJ_sR, hR_sI, hR_sJ, isO_sI, isO_sJ, isO_sR, iI_add, iI_sub, iI_mul, iI_neg, lv_args, Nat.reduceAdd, Nat.reduceEqDiff, Nat.reduceLeDiff, reduceIte, ite_true, ite_false, true_and, and_true, false_and, and_false, not_true, not_false_iff, or_true, true_or, false_or, or_false, imp_self, ne_eq, Classical.not_not, forall_const, true_implies, false_implies, if_pos, Nat.zero_add, Nat.add_zero, Nat.le_refl, Nat.reduceLT, iz00, iz01, iz10, iz11, ib0, ib1, ib01, reduceCtorEq, e2, e]
  exact hQ
theorem val_X12_digit (g : GP) : Val g yX12_digit prog_14_method_70_code 3 (some .int) 1 60 0 0 sp_X12_digit := val_of (own := RX12) (ini := false) (on := 12) (rs := rs_X12_digit) (cl := cl_X12_digit) (rt := 1) (bl := bl_X12_digit) (plainFor_of_name (by decide +kernel)) rfl (rok_X12 _) ck_X12_digit (fun h => by cases h) rfl ((fun _ h => absurd h List.not_mem_nil)) pf_X12_digit

/-- one year's light of the first n pieces -/
def lsP (st : St) (co : Nat) (tr : Nat → Int) : Nat → Int
  | 0 => 0
  | p + 1 => lsP st co tr p + if p = co ∨ st 1 p = 0 ∨ 100 - st 0 5 * tr p < 0 then 0 else 100 - st 0 5 * tr p
def trN (co : Nat) (tr : Nat → Int) : Nat → Int := fun p => if p = co then 0 else tr p + 1
def lbO (st : St) (code years : Nat) : Nat → Nat → (Nat → Int) → Int → Int
  | 0, _, _, sum => sum
  | n + 1, i, tr, sum => if dgM code years i < 7 ∧ (st 0 0 ≤ (dgM code years i : Int) ∨ st 1 (dgM code years i) = 0) then -1 else lbO st code years n (i + 1) (trN (dgM code years i) tr) (sum + lsP st (dgM code years i) tr (st 0 0).toNat)
def lbM (st : St) (code years : Nat) : Int := lbO st code years years 0 (fun p => st 24 p) 0
def trOK (tr : Nat → Int) (B : Int) : Prop := ∀ p, 0 ≤ tr p ∧ tr p ≤ B
theorem trN_ok {tr : Nat → Int} {B : Int} (h : trOK tr B) (hB : 0 ≤ B) (co : Nat) : trOK (trN co tr) (B + 1) := by
  intro p
  have := h p
  unfold trN
  split <;> omega
theorem lsP_rg {st : St} (w : WF st) {tr : Nat → Int} {B : Int} (h : trOK tr B) (co : Nat) : ∀ n : Nat, 0 ≤ lsP st co tr n ∧ lsP st co tr n ≤ 100 * (n : Int) := by
  intro n
  induction n with
  | zero => exact ⟨Int.le_refl _, Int.le_refl _⟩
  | succ n ih =>
    have h1 := h n
    have h2 := w.1.2.2.2.2.2
    have h3 : 0 ≤ st 0 5 * tr n := Int.mul_nonneg h2.1 h1.1
    unfold lsP
    split
    · omega
    · omega
theorem lbO_rg {st : St} (w : WF st) (code years : Nat) : ∀ (n i : Nat) (tr : Nat → Int) (sum B : Int), trOK tr B → 0 ≤ B → (0 ≤ sum ∧ sum ≤ 700 * (i : Int)) → -1 ≤ lbO st code years n i tr sum ∧ lbO st code years n i tr sum ≤ 700 * ((i : Int) + n) := by
  intro n
  induction n with
  | zero => intro i tr sum B _ _ hs; unfold lbO; omega
  | succ n ih =>
    intro i tr sum B ht hB hs
    have h0 := w.1.1
    have l := lsP_rg w ht (dgM code years i) (st 0 0).toNat
    unfold lbO
    split
    · omega
    · have q := ih (i + 1) (trN (dgM code years i) tr) (sum + lsP st (dgM code years i) tr (st 0 0).toNat) (B + 1) (trN_ok ht hB (dgM code years i)) (by omega) (by omega)
      omega
theorem ag_ok {st : St} (w : WF st) : trOK (fun p => st 24 p) 99 := fun p => w.rg 24 (lo := 0) (hi := 99) (by decide) p
theorem lbM_rg {st : St} (w : WF st) (code : Nat) {years : Nat} (hy : years ≤ 4) : -1 ≤ lbM st code years ∧ lbM st code years ≤ 2800 := by
  have := lbO_rg w code years years 0 _ 0 99 (ag_ok w) (by omega) (by omega)
  unfold lbM
  omega
def cl_X12_lightBy : Nat → Nat × Nat × Spec := fun q => if q = 182 then (0, 0, sp_X12_digit) else (0, 0, fun _ _ _ => False)
theorem cq_X12_lightBy_182 : cl_X12_lightBy 182 = (0, 0, sp_X12_digit) := rfl

def sp_X12_lightBy : Spec := fun as h K => ∃ (m : Nat) (A : Nat → Nat) (st : St) (code years : Nat), as = [.ref m, .int (iI (code : Nat)), .int (iI (years : Nat))] ∧ RM h m A st ∧ WF st ∧ code < 4096 ∧ years ≤ 4 ∧ ∀ h', (∀ k, hI h' 12 k m = hI h 12 k m) → Fm h h' → K (some (.int (iI (lbM st code years)))) h'
theorem pf_X12_lightBy : PfM cl_X12_lightBy (0, 0) 1 8 bl_X12_lightBy sp_X12_lightBy := by
  rintro as h Q ⟨m, A, st, code, years, rfl, M, w, hcode, hy, hQ⟩
  refine ⟨Nat.le_of_ble_eq_true rfl, fun G hG => ?_⟩
  have h0 := w.1.1
  have h5 := w.1.2.2.2.2.2
  obtain ⟨J, hJ⟩ : ∃ J : hp → (Nat → Int) → Prop, J = fun h' tr => Fm h h' ∧ (∀ k, hI h' 12 k m = hI h 12 k m) ∧ ∀ p : Nat, (p : Int) < st 0 0 → hI h' 141 p (A 39) = iI (tr p) := ⟨_, rfl⟩
  have inner : ∀ (i co : Nat) (sum0 B : Int) (tr : Nat → Int), co < 8 → trOK tr B → (0 ≤ B ∧ B ≤ 200) → (0 ≤ sum0 ∧ sum0 ≤ 5000) → (∀ h2, J h2 (trN co tr) → G 173 [(0, .ref m), (1, .int (iI (code : Nat))), (2, .int (iI (years : Nat))), (3, .int (iI (sum0 + lsP st co tr (st 0 0).toNat))), (4, .int (iI (i : Nat)))] [] h2 (0, 0)) →
      ∀ (N p : Nat) (h' : hp) (X : Lc), p + N = (st 0 0).toNat → J h' (fun q => if q < p then trN co tr q else tr q) → G 83 ([(0, .ref m), (1, .int (iI (code : Nat))), (2, .int (iI (years : Nat))), (3, .int (iI (sum0 + lsP st co tr p))), (4, .int (iI (i : Nat))), (5, .int (iI (co : Nat))), (6, .int (iI (p : Nat)))] ++ X) [] h' (0, 0) := by
    intro i co sum0 B tr hco htr hB hs0 kk N
    induction N with
    | zero =>
      intro p h' X hp' jh
      refine hG.2 83 _ [(0, .ref m), (1, .int (iI (code : Nat))), (2, .int (iI (years : Nat))), (3, .int (iI (sum0 + lsP st co tr p))), (4, .int (iI (i : Nat))), (5, .int (iI (co : Nat))), (6, .int (iI (p : Nat)))] _ _ _ (fun q hq => List.mem_append_left X hq) ?_
      rw [hJ] at jh
      obtain ⟨F, g12, tv⟩ := jh
      dsimp only at tv
      have M' := RM_fm F M
      have o := mo M'
      have c0 := mc_0 M'
      have e1 : (iI (st 0 0) ≤ iI (p : Nat)) = True := eq_true ((iI_le (by omega) (by omega)).mpr (by omega))
      refine hG.1 83 _ _ _ _ ?_
      rw [bq_X12_lightBy_83]
      simp only [bk_X12_lightBy_83, wp_aconst_null, wp_iconst, wp_bipush, wp_sipush, wp_ldc, wp_ldc_w, wp_ldc2_w, wp_lconst, wp_iload, wp_iload_n, wp_lload, wp_lload_n, wp_aload, wp_aload_n, wp_istore, wp_istore_n, wp_lstore, wp_lstore_n, wp_astore, wp_astore_n, wp_iinc, wp_iadd, wp_isub, wp_imul, wp_iand, wp_ior, wp_ixor, wp_ishl, wp_ishr, wp_iushr, wp_idiv, wp_irem, wp_ineg, wp_ladd, wp_lsub, wp_lmul, wp_ldiv, wp_lrem, wp_lcmp, wp_i2l, wp_l2i, wp_pop, wp_dup, wp_dup2, wp_goto, wp_ifCond, wp_if_icmp, wp_ifnull, wp_ifnonnull, wp_tableswitch, wp_getfield, wp_putfield, wp_arraylength, wp_iaload, wp_baload, wp_laload, wp_aaload, wp_iastore, wp_bastore, wp_lastore, wp_aastore, wp_new, wp_newarray, wp_anewarray, wp_multianewarray, wp_invokevirtual, wp_invokespecial, wp_invokestatic, wp_ireturn, wp_lreturn, wp_areturn, wp_return_, wpL, ldI, ldJ, ldA, lk, sL, cL, i1, i2, l1, l2, r1, pA, p1, p2, ar, tyAt, rcv, rcr, oO, cmpI, Value.category, rf_some, rf_none, ak, kc, List.drop_succ_cons, List.drop_zero, List.drop_nil, List.take_succ_cons, List.take_zero, List.take_nil, List.head?_cons, List.reverse_cons, List.reverse_nil, List.nil_append, List.cons_append, List.length_cons, List.length_nil, Option.toList_some, Option.toList_none, hT_sI, hT_sJ, hT_sR, hI_sJ, hI_sR, hJ_sI, hJ_sR, hR_sI, hR_sJ, isO_sI, isO_sJ, isO_sR, iI_add, iI_sub, iI_mul, iI_neg, lv_args, Nat.reduceAdd, Nat.reduceEqDiff, Nat.reduceLeDiff, reduceIte, ite_true, ite_false, true_and, and_true, false_and, and_false, not_true, not_false_iff, or_true, true_or, false_or, or_false, imp_self, ne_eq, Classical.not_not, forall_const, true_implies, false_implies, if_pos, Nat.zero_add, Nat.add_zero, Nat.le_refl, Nat.reduceLT, iz00, iz01, iz10, iz11, ib0, ib1, ib01, reduceCtorEq, cq_X12_lightBy_182, o, c0, e1]
      have q := kk h' (by
        rw [hJ]
        refine ⟨F, g12, fun q hq => ?_⟩
        rw [tv q hq, if_pos (by omega)])
      rw [show (st 0 0).toNat = p by omega] at q
      exact hG.2 173 _ _ _ _ _ (fun q hq => List.mem_append_left [(5, _), (6, _)] hq) q
    | succ N ih =>
      intro p h' X hp' jh
      refine hG.2 83 _ [(0, .ref m), (1, .int (iI (code : Nat))), (2, .int (iI (years : Nat))), (3, .int (iI (sum0 + lsP st co tr p))), (4, .int (iI (i : Nat))), (5, .int (iI (co : Nat))), (6, .int (iI (p : Nat)))] _ _ _ (fun q hq => List.mem_append_left X hq) ?_
      have jh' := jh
      rw [hJ] at jh'
      obtain ⟨F, g12, tv⟩ := jh'
      dsimp only at tv
      have M' := RM_fm F M
      have o := mo M'
      have c0 := mc_0 M'
      have c5 := mc_5 M'
      have e1 : (iI (st 0 0) ≤ iI (p : Nat)) = False := eq_false (by rw [iI_le (by omega) (by omega)]; omega)
      have hp7 : p < 7 := by omega
      obtain ⟨in1, n1⟩ := vinN (i := p) (n := 7) hp7 (by omega)
      have t1 := mr_39 M'
      have t2 := mt_39 M'
      have t3 := mr_1 M'
      have t4 := mt_1 M'
      have v1 := mi_1 M' hp7
      have v2 := tv p (by omega)
      rw [if_neg (by omega)] at v2
      have r1' := w.rg 1 (lo := 0) (hi := 1) (by decide) p
      have e2 : (iI (st 1 p) = 0) = (st 1 p = 0) := propext (iI_eq0 (by omega))
      have e3 : (iI (p : Nat) = iI (co : Nat)) = (p = co) := propext ((iI_eq (by omega) (by omega)).trans (by omega))
      have bt1 := htr p
      have b2 := mul_rg (A := 50) (B := 200) (a := st 0 5) (b := tr p) (by omega) (by omega) (by omega) (by omega)
      have b3 : 0 ≤ st 0 5 * tr p := Int.mul_nonneg h5.1 bt1.1
      obtain ⟨lt, hlt⟩ : ∃ lt, 100 - st 0 5 * tr p = lt := ⟨_, rfl⟩
      have e4 : (0 ≤ iI lt) = ¬ (lt < 0) := propext ((iI_0le (by omega)).trans (by omega))
      have eS : lsP st co tr (p + 1) = lsP st co tr p + if p = co ∨ st 1 p = 0 ∨ lt < 0 then 0 else lt := by rw [← hlt]; rfl
      -- the year's light is added; then the piece's coat grows older
      have at166 : ∀ v : Int, v = trN co tr p → G 166 [(0, .ref m), (1, .int (iI (code : Nat))), (2, .int (iI (years : Nat))), (3, .int (iI (sum0 + lsP st co tr (p + 1)))), (4, .int (iI (i : Nat))), (5, .int (iI (co : Nat))), (6, .int (iI (p : Nat))), (7, .int (iI lt))] [.int (iI v), .int (iI (p : Nat)), .ref (A 39)] h' (0, 0) := by
        intro v hv
        refine hG.1 166 _ _ _ _ ?_
        rw [bq_X12_lightBy_166]
        simp only [bk_X12_lightBy_166, wp_aconst_null, wp_iconst, wp_bipush, wp_sipush, wp_ldc, wp_ldc_w, wp_ldc2_w, wp_lconst, wp_iload, wp_iload_n, wp_lload, wp_lload_n, wp_aload, wp_aload_n, wp_istore, wp_istore_n, wp_lstore, wp_lstore_n, wp_astore, wp_astore_n, wp_iinc, wp_iadd, wp_isub, wp_imul, wp_iand, wp_ior, wp_ixor, wp_ishl, wp_ishr, wp_iushr, wp_idiv, wp_irem, wp_ineg, wp_ladd, wp_lsub, wp_lmul, wp_ldiv, wp_lrem, wp_lcmp, wp_i2l, wp_l2i, wp_pop, wp_dup, wp_dup2, wp_goto, wp_ifCond, wp_if_icmp, wp_ifnull, wp_ifnonnull, wp_tableswitch, wp_getfield, wp_putfield, wp_arraylength, wp_iaload, wp_baload, wp_laload, wp_aaload, wp_iastore, wp_bastore, wp_lastore, wp_aastore, wp_new, wp_newarray, wp_anewarray, wp_multianewarray, wp_invokevirtual, wp_invokespecial, wp_invokestatic, wp_ireturn, wp_lreturn, wp_areturn, wp_return_, wpL, ldI, ldJ, ldA, lk, sL, cL, i1, i2, l1, l2, r1, pA, p1, p2, ar, tyAt, rcv, rcr, oO, cmpI, Value.category, rf_some, rf_none, ak, kc, List.drop_succ_cons, List.drop_zero, List.drop_nil, List.take_succ_cons, List.take_zero, List.take_nil, List.head?_cons, List.reverse_cons, List.reverse_nil, List.nil_append, List.cons_append, List.length_cons, List.length_nil, Option.toList_some, Option.toList_none, hT_sI, hT_sJ, hT_sR, hI_sJ, hI_sR, hJ_sI, hJ_sR, hR_sI, hR_sJ, isO_sI, isO_sJ, isO_sR, iI_add, iI_sub, iI_mul, iI_neg, lv_args, Nat.reduceAdd, Nat.reduceEqDiff, Nat.reduceLeDiff, reduceIte, ite_true, ite_false, true_and, and_true, false_and, and_false, not_true, not_false_iff, or_true, true_or, false_or, or_false, imp_self, ne_eq, Classical.not_not, forall_const, true_implies, false_implies, if_pos, Nat.zero_add, Nat.add_zero, Nat.le_refl, Nat.reduceLT, iz00, iz01, iz10, iz11, ib0, ib1, ib01, reduceCtorEq, cq_X12_lightBy_182, t2, in1, n1]
        have q := ih (p + 1) (sI h' 141 p (A 39) (iI v)) [(7, .int (iI lt))] (by omega) (by
          rw [hJ]
          refine ⟨F.i rfl, fun k => by rw [hI_sI, if_neg (by omega)]; exact g12 k, fun q hq => ?_⟩
          dsimp only
          rw [hI_sI]
          by_cases c : q = p
          · rw [if_pos ⟨rfl, c, rfl⟩, if_pos (by omega), hv, c]
          · rw [if_neg (fun z => c z.2.1), tv q hq]
            by_cases d : q < p
            · rw [if_pos d, if_pos (by omega)]
            · rw [if_neg d, if_neg (by omega)])
        rw [nc1] at q
        exact q
      have at138 : ∀ v : Int, v = (if p = co ∨ st 1 p = 0 ∨ lt < 0 then 0 else lt) → G 138 [(0, .ref m), (1, .int (iI (code : Nat))), (2, .int (iI (years : Nat))), (3, .int (iI (sum0 + lsP st co tr p))), (4, .int (iI (i : Nat))), (5, .int (iI (co : Nat))), (6, .int (iI (p : Nat))), (7, .int (iI lt))] [.int (iI v), .int (iI (sum0 + lsP st co tr p))] h' (0, 0) := by
        intro v hv
        rw [← hv] at eS
        rw [eS, ← Int.add_assoc] at at166
        refine hG.1 138 _ _ _ _ ?_
        rw [bq_X12_lightBy_138]
        simp only [bk_X12_lightBy_138, wp_aconst_null, wp_iconst, wp_bipush, wp_sipush, wp_ldc, wp_ldc_w, wp_ldc2_w, wp_lconst, wp_iload, wp_iload_n, wp_lload, wp_lload_n, wp_aload, wp_aload_n, wp_istore, wp_istore_n, wp_lstore, wp_lstore_n, wp_astore, wp_astore_n, wp_iinc, wp_iadd, wp_isub, wp_imul, wp_iand, wp_ior, wp_ixor, wp_ishl, wp_ishr, wp_iushr, wp_idiv, wp_irem, wp_ineg, wp_ladd, wp_lsub, wp_lmul, wp_ldiv, wp_lrem, wp_lcmp, wp_i2l, wp_l2i, wp_pop, wp_dup, wp_dup2, wp_goto, wp_ifCond, wp_if_icmp, wp_ifnull, wp_ifnonnull, wp_tableswitch, wp_getfield, wp_putfield, wp_arraylength, wp_iaload, wp_baload, wp_laload, wp_aaload, wp_iastore, wp_bastore, wp_lastore, wp_aastore, wp_new, wp_newarray, wp_anewarray, wp_multianewarray, wp_invokevirtual, wp_invokespecial, wp_invokestatic, wp_ireturn, wp_lreturn, wp_areturn, wp_return_, wpL, ldI, ldJ, ldA, lk, sL, cL, i1, i2, l1, l2, r1, pA, p1, p2, ar, tyAt, rcv, rcr, oO, cmpI, Value.category, rf_some, rf_none, ak, kc, List.drop_succ_cons, List.drop_zero, List.drop_nil, List.take_succ_cons, List.take_zero, List.take_nil, List.head?_cons, List.reverse_cons, List.reverse_nil, List.nil_append, List.cons_append, List.length_cons, List.length_nil, Option.toList_some, Option.toList_none, hT_sI, hT_sJ, hT_sR, hI_sJ, hI_sR, hJ_sI, hJ_sR, hR_sI, hR_sJ, isO_sI, isO_sJ, isO_sR, iI_add, iI_sub, iI_mul, iI_neg, lv_args, Nat.reduceAdd, Nat.reduceEqDiff, Nat.reduceLeDiff, reduceIte, ite_true, ite_false, true_and, and_true, false_and, and_false, not_true, not_false_iff, or_true, true_or, false_or, or_false, imp_self, ne_eq, Classical.not_not, forall_const, true_implies, false_implies, if_pos, Nat.zero_add, Nat.add_zero, Nat.le_refl, Nat.reduceLT, iz00, iz01, iz10, iz11, ib0, ib1, ib01, reduceCtorEq, cq_X12_lightBy_182, o, t1, t2, in1, n1, e3]
        refine ⟨fun c => ?_, fun c => ?_⟩
        · refine hG.1 157 _ _ _ _ ?_
          rw [bq_X12_lightBy_157]
          simp only [bk_X12_lightBy_157, wp_aconst_null, wp_iconst, wp_bipush, wp_sipush, wp_ldc, wp_ldc_w, wp_ldc2_w, wp_lconst, wp_iload, wp_iload_n, wp_lload, wp_lload_n, wp_aload, wp_aload_n, wp_istore, wp_istore_n, wp_lstore, wp_lstore_n, wp_astore, wp_astore_n, wp_iinc, wp_iadd, wp_isub, wp_imul, wp_iand, wp_ior, wp_ixor, wp_ishl, wp_ishr, wp_iushr, wp_idiv, wp_irem, wp_ineg, wp_ladd, wp_lsub, wp_lmul, wp_ldiv, wp_lrem, wp_lcmp, wp_i2l, wp_l2i, wp_pop, wp_dup, wp_dup2, wp_goto, wp_ifCond, wp_if_icmp, wp_ifnull, wp_ifnonnull, wp_tableswitch, wp_getfield, wp_putfield, wp_arraylength, wp_iaload, wp_baload, wp_laload, wp_aaload, wp_iastore, wp_bastore, wp_lastore, wp_aastore, wp_new, wp_newarray, wp_anewarray, wp_multianewarray, wp_invokevirtual, wp_invokespecial, wp_invokestatic, wp_ireturn, wp_lreturn, wp_areturn, wp_return_, wpL, ldI, ldJ, ldA, lk, sL, cL, i1, i2, l1, l2, r1, pA, p1, p2, ar, tyAt, rcv, rcr, oO, cmpI, Value.category, rf_some, rf_none, ak, kc, List.drop_succ_cons, List.drop_zero, List.drop_nil, List.take_succ_cons, List.take_zero, List.take_nil, List.head?_cons, List.reverse_cons, List.reverse_nil, List.nil_append, List.cons_append, List.length_cons, List.length_nil, Option.toList_some, Option.toList_none, hT_sI, hT_sJ, hT_sR, hI_sJ, hI_sR, hJ_sI, hJ_sR, hR_sI, hR_sJ, isO_sI, isO_sJ, isO_sR, iI_add, iI_sub, iI_mul, iI_neg, lv_args, Nat.reduceAdd, Nat.reduceEqDiff, Nat.reduceLeDiff, reduceIte, ite_true, ite_false, true_and, and_true, false_and, and_false, not_true, not_false_iff, or_true, true_or, false_or, or_false, imp_self, ne_eq, Classical.not_not, forall_const, true_implies, false_implies, if_pos, Nat.zero_add, Nat.add_zero, Nat.le_refl, Nat.reduceLT, iz00, iz01, iz10, iz11, ib0, ib1, ib01, reduceCtorEq, cq_X12_lightBy_182, o, t1, t2, in1, n1, v2]
          exact at166 (tr p + 1) (by unfold trN; rw [if_neg c])
        · have c' : p = co := by simpa using c
          exact at166 0 (by unfold trN; rw [if_pos c'])
      have z132 : (p = co ∨ st 1 p = 0 ∨ lt < 0) → G 132 [(0, .ref m), (1, .int (iI (code : Nat))), (2, .int (iI (years : Nat))), (3, .int (iI (sum0 + lsP st co tr p))), (4, .int (iI (i : Nat))), (5, .int (iI (co : Nat))), (6, .int (iI (p : Nat))), (7, .int (iI lt))] [.int (iI (sum0 + lsP st co tr p))] h' (0, 0) := by
        intro c
        refine hG.1 132 _ _ _ _ ?_
        rw [bq_X12_lightBy_132]
        simp only [bk_X12_lightBy_132, wp_aconst_null, wp_iconst, wp_bipush, wp_sipush, wp_ldc, wp_ldc_w, wp_ldc2_w, wp_lconst, wp_iload, wp_iload_n, wp_lload, wp_lload_n, wp_aload, wp_aload_n, wp_istore, wp_istore_n, wp_lstore, wp_lstore_n, wp_astore, wp_astore_n, wp_iinc, wp_iadd, wp_isub, wp_imul, wp_iand, wp_ior, wp_ixor, wp_ishl, wp_ishr, wp_iushr, wp_idiv, wp_irem, wp_ineg, wp_ladd, wp_lsub, wp_lmul, wp_ldiv, wp_lrem, wp_lcmp, wp_i2l, wp_l2i, wp_pop, wp_dup, wp_dup2, wp_goto, wp_ifCond, wp_if_icmp, wp_ifnull, wp_ifnonnull, wp_tableswitch, wp_getfield, wp_putfield, wp_arraylength, wp_iaload, wp_baload, wp_laload, wp_aaload, wp_iastore, wp_bastore, wp_lastore, wp_aastore, wp_new, wp_newarray, wp_anewarray, wp_multianewarray, wp_invokevirtual, wp_invokespecial, wp_invokestatic, wp_ireturn, wp_lreturn, wp_areturn, wp_return_, wpL, ldI, ldJ, ldA, lk, sL, cL, i1, i2, l1, l2, r1, pA, p1, p2, ar, tyAt, rcv, rcr, oO, cmpI, Value.category, rf_some, rf_none, ak, kc, List.drop_succ_cons, List.drop_zero, List.drop_nil, List.take_succ_cons, List.take_zero, List.take_nil, List.head?_cons, List.reverse_cons, List.reverse_nil, List.nil_append, List.cons_append, List.length_cons, List.length_nil, Option.toList_some, Option.toList_none, hT_sI, hT_sJ, hT_sR, hI_sJ, hI_sR, hJ_sI, hJ_sR, hR_sI, hR_sJ, isO_sI, isO_sJ, isO_sR, iI_add, iI_sub, iI_mul, iI_neg, lv_args, Nat.reduceAdd, Nat.reduceEqDiff, Nat.reduceLeDiff, reduceIte, ite_true, ite_false, true_and, and_true, false_and, and_false, not_true, not_false_iff, or_true, true_or, false_or, or_false, imp_self, ne_eq, Classical.not_not, forall_const, true_implies, false_implies, if_pos, Nat.zero_add, Nat.add_zero, Nat.le_refl, Nat.reduceLT, iz00, iz01, iz10, iz11, ib0, ib1, ib01, reduceCtorEq, cq_X12_lightBy_182]
        exact at138 0 (by rw [if_pos c])
      refine hG.1 83 _ _ _ _ ?_
      rw [bq_X12_lightBy_83]
      simp only [bk_X12_lightBy_83, wp_aconst_null, wp_iconst, wp_bipush, wp_sipush, wp_ldc, wp_ldc_w, wp_ldc2_w, wp_lconst, wp_iload, wp_iload_n, wp_lload, wp_lload_n, wp_aload, wp_aload_n, wp_istore, wp_istore_n, wp_lstore, wp_lstore_n, wp_astore, wp_astore_n, wp_iinc, wp_iadd, wp_isub, wp_imul, wp_iand, wp_ior, wp_ixor, wp_ishl, wp_ishr, wp_iushr, wp_idiv, wp_irem, wp_ineg, wp_ladd, wp_lsub, wp_lmul, wp_ldiv, wp_lrem, wp_lcmp, wp_i2l, wp_l2i, wp_pop, wp_dup, wp_dup2, wp_goto, wp_ifCond, wp_if_icmp, wp_ifnull, wp_ifnonnull, wp_tableswitch, wp_getfield, wp_putfield, wp_arraylength, wp_iaload, wp_baload, wp_laload, wp_aaload, wp_iastore, wp_bastore, wp_lastore, wp_aastore, wp_new, wp_newarray, wp_anewarray, wp_multianewarray, wp_invokevirtual, wp_invokespecial, wp_invokestatic, wp_ireturn, wp_lreturn, wp_areturn, wp_return_, wpL, ldI, ldJ, ldA, lk, sL, cL, i1, i2, l1, l2, r1, pA, p1, p2, ar, tyAt, rcv, rcr, oO, cmpI, Value.category, rf_some, rf_none, ak, kc, List.drop_succ_cons, List.drop_zero, List.drop_nil, List.take_succ_cons, List.take_zero, List.take_nil, List.head?_cons, List.reverse_cons, List.reverse_nil, List.nil_append, List.cons_append, List.length_cons, List.length_nil, Option.toList_some, Option.toList_none, hT_sI, hT_sJ, hT_sR, hI_sJ, hI_sR, hJ_sI, hJ_sR, hR_sI, hR_sJ, isO_sI, isO_sJ, isO_sR, iI_add, iI_sub, iI_mul, iI_neg, lv_args, Nat.reduceAdd, Nat.reduceEqDiff, Nat.reduceLeDiff, reduceIte, ite_true, ite_false, true_and, and_true, false_and, and_false, not_true, not_false_iff, or_true, true_or, false_or, or_false, imp_self, ne_eq, Classical.not_not, forall_const, true_implies, false_implies, if_pos, Nat.zero_add, Nat.add_zero, Nat.le_refl, Nat.reduceLT, iz00, iz01, iz10, iz11, ib0, ib1, ib01, reduceCtorEq, cq_X12_lightBy_182, o, c0, c5, e1, t1, t2, t3, t4, in1, n1, v1, v2, hlt, e2, e3, e4]
      refine ⟨fun c => z132 (Or.inl c), fun c => ⟨fun d => z132 (Or.inr (Or.inl d)), fun d => ⟨fun f => ?_, fun f => ?_⟩⟩⟩
      · refine hG.1 136 _ _ _ _ ?_
        rw [bq_X12_lightBy_136]
        simp only [bk_X12_lightBy_136, wp_aconst_null, wp_iconst, wp_bipush, wp_sipush, wp_ldc, wp_ldc_w, wp_ldc2_w, wp_lconst, wp_iload, wp_iload_n, wp_lload, wp_lload_n, wp_aload, wp_aload_n, wp_istore, wp_istore_n, wp_lstore, wp_lstore_n, wp_astore, wp_astore_n, wp_iinc, wp_iadd, wp_isub, wp_imul, wp_iand, wp_ior, wp_ixor, wp_ishl, wp_ishr, wp_iushr, wp_idiv, wp_irem, wp_ineg, wp_ladd, wp_lsub, wp_lmul, wp_ldiv, wp_lrem, wp_lcmp, wp_i2l, wp_l2i, wp_pop, wp_dup, wp_dup2, wp_goto, wp_ifCond, wp_if_icmp, wp_ifnull, wp_ifnonnull, wp_tableswitch, wp_getfield, wp_putfield, wp_arraylength, wp_iaload, wp_baload, wp_laload, wp_aaload, wp_iastore, wp_bastore, wp_lastore, wp_aastore, wp_new, wp_newarray, wp_anewarray, wp_multianewarray, wp_invokevirtual, wp_invokespecial, wp_invokestatic, wp_ireturn, wp_lreturn, wp_areturn, wp_return_, wpL, ldI, ldJ, ldA, lk, sL, cL, i1, i2, l1, l2, r1, pA, p1, p2, ar, tyAt, rcv, rcr, oO, cmpI, Value.category, rf_some, rf_none, ak, kc, List.drop_succ_cons, List.drop_zero, List.drop_nil, List.take_succ_cons, List.take_zero, List.take_nil, List.head?_cons, List.reverse_cons, List.reverse_nil, List.nil_append, List.cons_append, List.length_cons, List.length_nil, Option.toList_some, Option.toList_none, hT_sI, hT_sJ, hT_sR, hI_sJ, hI_sR, hJ_sI, hJ_sR, hR_sI, hR_sJ, isO_sI, isO_sJ, isO_sR, iI_add, iI_sub, iI_mul, iI_neg, lv_args, Nat.reduceAdd, Nat.reduceEqDiff, Nat.reduceLeDiff, reduceIte, ite_true, ite_false, true_and, and_true, false_and, and_false, not_true, not_false_iff, or_true, true_or, false_or, or_false, imp_self, ne_eq, Classical.not_not, forall_const, true_implies, false_implies, if_pos, Nat.zero_add, Nat.add_zero, Nat.le_refl, Nat.reduceLT, iz00, iz01, iz10, iz11, ib0, ib1, ib01, reduceCtorEq, cq_X12_lightBy_182]
        exact at138 lt (by rw [if_neg (fun z => z.elim c (fun y => y.elim d f))])
      · have f' : lt < 0 := by simpa using f
        exact z132 (Or.inr (Or.inr f'))
  have outer : ∀ (N i : Nat) (tr : Nat → Int) (sum B : Int) (h' : hp) (X : Lc), i + N = years → trOK tr B → (0 ≤ B ∧ B ≤ 100 + i) → (0 ≤ sum ∧ sum ≤ 700 * (i : Int)) → J h' tr → lbO st code years N i tr sum = lbM st code years → G 37 ([(0, .ref m), (1, .int (iI (code : Nat))), (2, .int (iI (years : Nat))), (3, .int (iI sum)), (4, .int (iI (i : Nat)))] ++ X) [] h' (0, 0) := by
    intro N
    induction N with
    | zero =>
      intro i tr sum B h' X hi ht hB hs jh hl
      refine hG.2 37 _ [(0, .ref m), (1, .int (iI (code : Nat))), (2, .int (iI (years : Nat))), (3, .int (iI sum)), (4, .int (iI (i : Nat)))] _ _ _ (fun q hq => List.mem_append_left X hq) ?_
      rw [hJ] at jh
      have e1 : (iI (years : Nat) ≤ iI (i : Nat)) = True := eq_true ((iI_le (by omega) (by omega)).mpr (by omega))
      refine hG.1 37 _ _ _ _ ?_
      rw [bq_X12_lightBy_37]
      simp only [bk_X12_lightBy_37, wp_aconst_null, wp_iconst, wp_bipush, wp_sipush, wp_ldc, wp_ldc_w, wp_ldc2_w, wp_lconst, wp_iload, wp_iload_n, wp_lload, wp_lload_n, wp_aload, wp_aload_n, wp_istore, wp_istore_n, wp_lstore, wp_lstore_n, wp_astore, wp_astore_n, wp_iinc, wp_iadd, wp_isub, wp_imul, wp_iand, wp_ior, wp_ixor, wp_ishl, wp_ishr, wp_iushr, wp_idiv, wp_irem, wp_ineg, wp_ladd, wp_lsub, wp_lmul, wp_ldiv, wp_lrem, wp_lcmp, wp_i2l, wp_l2i, wp_pop, wp_dup, wp_dup2, wp_goto, wp_ifCond, wp_if_icmp, wp_ifnull, wp_ifnonnull, wp_tableswitch, wp_getfield, wp_putfield, wp_arraylength, wp_iaload, wp_baload, wp_laload, wp_aaload, wp_iastore, wp_bastore, wp_lastore, wp_aastore, wp_new, wp_newarray, wp_anewarray, wp_multianewarray, wp_invokevirtual, wp_invokespecial, wp_invokestatic, wp_ireturn, wp_lreturn, wp_areturn, wp_return_, wpL, ldI, ldJ, ldA, lk, sL, cL, i1, i2, l1, l2, r1, pA, p1, p2, ar, tyAt, rcv, rcr, oO, cmpI, Value.category, rf_some, rf_none, ak, kc, List.drop_succ_cons, List.drop_zero, List.drop_nil, List.take_succ_cons, List.take_zero, List.take_nil, List.head?_cons, List.reverse_cons, List.reverse_nil, List.nil_append, List.cons_append, List.length_cons, List.length_nil, Option.toList_some, Option.toList_none, hT_sI, hT_sJ, hT_sR, hI_sJ, hI_sR, hJ_sI, hJ_sR, hR_sI, hR_sJ, isO_sI, isO_sJ, isO_sR, iI_add, iI_sub, iI_mul, iI_neg, lv_args, Nat.reduceAdd, Nat.reduceEqDiff, Nat.reduceLeDiff, reduceIte, ite_true, ite_false, true_and, and_true, false_and, and_false, not_true, not_false_iff, or_true, true_or, false_or, or_false, imp_self, ne_eq, Classical.not_not, forall_const, true_implies, false_implies, if_pos, Nat.zero_add, Nat.add_zero, Nat.le_refl, Nat.reduceLT, iz00, iz01, iz10, iz11, ib0, ib1, ib01, reduceCtorEq, cq_X12_lightBy_182, e1]
      refine hG.1 179 _ _ _ _ ?_
      rw [bq_X12_lightBy_179]
      simp only [bk_X12_lightBy_179, wp_aconst_null, wp_iconst, wp_bipush, wp_sipush, wp_ldc, wp_ldc_w, wp_ldc2_w, wp_lconst, wp_iload, wp_iload_n, wp_lload, wp_lload_n, wp_aload, wp_aload_n, wp_istore, wp_istore_n, wp_lstore, wp_lstore_n, wp_astore, wp_astore_n, wp_iinc, wp_iadd, wp_isub, wp_imul, wp_iand, wp_ior, wp_ixor, wp_ishl, wp_ishr, wp_iushr, wp_idiv, wp_irem, wp_ineg, wp_ladd, wp_lsub, wp_lmul, wp_ldiv, wp_lrem, wp_lcmp, wp_i2l, wp_l2i, wp_pop, wp_dup, wp_dup2, wp_goto, wp_ifCond, wp_if_icmp, wp_ifnull, wp_ifnonnull, wp_tableswitch, wp_getfield, wp_putfield, wp_arraylength, wp_iaload, wp_baload, wp_laload, wp_aaload, wp_iastore, wp_bastore, wp_lastore, wp_aastore, wp_new, wp_newarray, wp_anewarray, wp_multianewarray, wp_invokevirtual, wp_invokespecial, wp_invokestatic, wp_ireturn, wp_lreturn, wp_areturn, wp_return_, wpL, ldI, ldJ, ldA, lk, sL, cL, i1, i2, l1, l2, r1, pA, p1, p2, ar, tyAt, rcv, rcr, oO, cmpI, Value.category, rf_some, rf_none, ak, kc, List.drop_succ_cons, List.drop_zero, List.drop_nil, List.take_succ_cons, List.take_zero, List.take_nil, List.head?_cons, List.reverse_cons, List.reverse_nil, List.nil_append, List.cons_append, List.length_cons, List.length_nil, Option.toList_some, Option.toList_none, hT_sI, hT_sJ, hT_sR, hI_sJ, hI_sR, hJ_sI, hJ_sR, hR_sI, hR_sJ, isO_sI, isO_sJ, isO_sR, iI_add, iI_sub, iI_mul, iI_neg, lv_args, Nat.reduceAdd, Nat.reduceEqDiff, Nat.reduceLeDiff, reduceIte, ite_true, ite_false, true_and, and_true, false_and, and_false, not_true, not_false_iff, or_true, true_or, false_or, or_false, imp_self, ne_eq, Classical.not_not, forall_const, true_implies, false_implies, if_pos, Nat.zero_add, Nat.add_zero, Nat.le_refl, Nat.reduceLT, iz00, iz01, iz10, iz11, ib0, ib1, ib01, reduceCtorEq, cq_X12_lightBy_182]
      have hl' : sum = lbM st code years := hl
      rw [hl']
      exact hQ h' jh.2.1 jh.1
    | succ N ih =>
      intro i tr sum B h' X hi ht hB hs jh hl
      refine hG.2 37 _ [(0, .ref m), (1, .int (iI (code : Nat))), (2, .int (iI (years : Nat))), (3, .int (iI sum)), (4, .int (iI (i : Nat)))] _ _ _ (fun q hq => List.mem_append_left X hq) ?_
      have jh' := jh
      rw [hJ] at jh'
      obtain ⟨F, g12, tv⟩ := jh'
      have M' := RM_fm F M
      have o := mo M'
      have c0 := mc_0 M'
      have t3 := mr_1 M'
      have t4 := mt_1 M'
      have e1 : (iI (years : Nat) ≤ iI (i : Nat)) = False := eq_false (by rw [iI_le (by omega) (by omega)]; omega)
      have hd := dgM_lt code years i
      unfold lbO at hl
      refine hG.1 37 _ _ _ _ ?_
      rw [bq_X12_lightBy_37]
      simp only [bk_X12_lightBy_37, wp_aconst_null, wp_iconst, wp_bipush, wp_sipush, wp_ldc, wp_ldc_w, wp_ldc2_w, wp_lconst, wp_iload, wp_iload_n, wp_lload, wp_lload_n, wp_aload, wp_aload_n, wp_istore, wp_istore_n, wp_lstore, wp_lstore_n, wp_astore, wp_astore_n, wp_iinc, wp_iadd, wp_isub, wp_imul, wp_iand, wp_ior, wp_ixor, wp_ishl, wp_ishr, wp_iushr, wp_idiv, wp_irem, wp_ineg, wp_ladd, wp_lsub, wp_lmul, wp_ldiv, wp_lrem, wp_lcmp, wp_i2l, wp_l2i, wp_pop, wp_dup, wp_dup2, wp_goto, wp_ifCond, wp_if_icmp, wp_ifnull, wp_ifnonnull, wp_tableswitch, wp_getfield, wp_putfield, wp_arraylength, wp_iaload, wp_baload, wp_laload, wp_aaload, wp_iastore, wp_bastore, wp_lastore, wp_aastore, wp_new, wp_newarray, wp_anewarray, wp_multianewarray, wp_invokevirtual, wp_invokespecial, wp_invokestatic, wp_ireturn, wp_lreturn, wp_areturn, wp_return_, wpL, ldI, ldJ, ldA, lk, sL, cL, i1, i2, l1, l2, r1, pA, p1, p2, ar, tyAt, rcv, rcr, oO, cmpI, Value.category, rf_some, rf_none, ak, kc, List.drop_succ_cons, List.drop_zero, List.drop_nil, List.take_succ_cons, List.take_zero, List.take_nil, List.head?_cons, List.reverse_cons, List.reverse_nil, List.nil_append, List.cons_append, List.length_cons, List.length_nil, Option.toList_some, Option.toList_none, hT_sI, hT_sJ, hT_sR, hI_sJ, hI_sR, hJ_sI, hJ_sR, hR_sI, hR_sJ, isO_sI, isO_sJ, isO_sR, iI_add, iI_sub, iI_mul, iI_neg, lv_args, Nat.reduceAdd, Nat.reduceEqDiff, Nat.reduceLeDiff, reduceIte, ite_true, ite_false, true_and, and_true, false_and, and_false, not_true, not_false_iff, or_true, true_or, false_or, or_false, imp_self, ne_eq, Classical.not_not, forall_const, true_implies, false_implies, if_pos, Nat.zero_add, Nat.add_zero, Nat.le_refl, Nat.reduceLT, iz00, iz01, iz10, iz11, ib0, ib1, ib01, reduceCtorEq, cq_X12_lightBy_182, e1]
      refine ⟨code, years, i, rfl, hcode, by omega, hy, ?_⟩
      obtain ⟨d, hdd⟩ : ∃ d, d = dgM code years i := ⟨_, rfl⟩
      rw [← hdd] at hl hd ⊢
      have e2 : (iI 7 ≤ iI (d : Nat)) = (7 ≤ d) := propext ((iI_le (by omega) (by omega)).trans (by omega))
      have e3 : (iI (st 0 0) ≤ iI (d : Nat)) = (st 0 0 ≤ (d : Int)) := propext (iI_le (by omega) (by omega))
      have go : ¬ (d < 7 ∧ (st 0 0 ≤ (d : Int) ∨ st 1 d = 0)) → G 80 [(0, .ref m), (1, .int (iI (code : Nat))), (2, .int (iI (years : Nat))), (3, .int (iI sum)), (4, .int (iI (i : Nat))), (5, .int (iI (d : Nat)))] [] h' (0, 0) := by
        intro c
        rw [if_neg c] at hl
        have l := lsP_rg w ht d (st 0 0).toNat
        refine hG.1 80 _ _ _ _ ?_
        rw [bq_X12_lightBy_80]
        simp only [bk_X12_lightBy_80, wp_aconst_null, wp_iconst, wp_bipush, wp_sipush, wp_ldc, wp_ldc_w, wp_ldc2_w, wp_lconst, wp_iload, wp_iload_n, wp_lload, wp_lload_n, wp_aload, wp_aload_n, wp_istore, wp_istore_n, wp_lstore, wp_lstore_n, wp_astore, wp_astore_n, wp_iinc, wp_iadd, wp_isub, wp_imul, wp_iand, wp_ior, wp_ixor, wp_ishl, wp_ishr, wp_iushr, wp_idiv, wp_irem, wp_ineg, wp_ladd, wp_lsub, wp_lmul, wp_ldiv, wp_lrem, wp_lcmp, wp_i2l, wp_l2i, wp_pop, wp_dup, wp_dup2, wp_goto, wp_ifCond, wp_if_icmp, wp_ifnull, wp_ifnonnull, wp_tableswitch, wp_getfield, wp_putfield, wp_arraylength, wp_iaload, wp_baload, wp_laload, wp_aaload, wp_iastore, wp_bastore, wp_lastore, wp_aastore, wp_new, wp_newarray, wp_anewarray, wp_multianewarray, wp_invokevirtual, wp_invokespecial, wp_invokestatic, wp_ireturn, wp_lreturn, wp_areturn, wp_return_, wpL, ldI, ldJ, ldA, lk, sL, cL, i1, i2, l1, l2, r1, pA, p1, p2, ar, tyAt, rcv, rcr, oO, cmpI, Value.category, rf_some, rf_none, ak, kc, List.drop_succ_cons, List.drop_zero, List.drop_nil, List.take_succ_cons, List.take_zero, List.take_nil, List.head?_cons, List.reverse_cons, List.reverse_nil, List.nil_append, List.cons_append, List.length_cons, List.length_nil, Option.toList_some, Option.toList_none, hT_sI, hT_sJ, hT_sR, hI_sJ, hI_sR, hJ_sI, hJ_sR, hR_sI, hR_sJ, isO_sI, isO_sJ, isO_sR, iI_add, iI_sub, iI_mul, iI_neg, lv_args, Nat.reduceAdd, Nat.reduceEqDiff, Nat.reduceLeDiff, reduceIte, ite_true, ite_false, true_and, and_true, false_and, and_false, not_true, not_false_iff, or_true, true_or, false_or, or_false, imp_self, ne_eq, Classical.not_not, forall_const, true_implies, false_implies, if_pos, Nat.zero_add, Nat.add_zero, Nat.le_refl, Nat.reduceLT, iz00, iz01, iz10, iz11, ib0, ib1, ib01, reduceCtorEq, cq_X12_lightBy_182]
        have q := inner i d sum B tr hd ht (by omega) (by omega) (fun h2 j2 => ?_) (st 0 0).toNat 0 h' [] (by omega) (by
          have e : (fun q => if q < 0 then trN d tr q else tr q) = tr := by funext q; rw [if_neg (by omega)]
          rw [e]; exact jh)
        · rw [show lsP st d tr 0 = 0 from rfl, Int.add_zero] at q
          exact q
        · refine hG.1 173 _ _ _ _ ?_
          rw [bq_X12_lightBy_173]
          simp only [bk_X12_lightBy_173, wp_aconst_null, wp_iconst, wp_bipush, wp_sipush, wp_ldc, wp_ldc_w, wp_ldc2_w, wp_lconst, wp_iload, wp_iload_n, wp_lload, wp_lload_n, wp_aload, wp_aload_n, wp_istore, wp_istore_n, wp_lstore, wp_lstore_n, wp_astore, wp_astore_n, wp_iinc, wp_iadd, wp_isub, wp_imul, wp_iand, wp_ior, wp_ixor, wp_ishl, wp_ishr, wp_iushr, wp_idiv, wp_irem, wp_ineg, wp_ladd, wp_lsub, wp_lmul, wp_ldiv, wp_lrem, wp_lcmp, wp_i2l, wp_l2i, wp_pop, wp_dup, wp_dup2, wp_goto, wp_ifCond, wp_if_icmp, wp_ifnull, wp_ifnonnull, wp_tableswitch, wp_getfield, wp_putfield, wp_arraylength, wp_iaload, wp_baload, wp_laload, wp_aaload, wp_iastore, wp_bastore, wp_lastore, wp_aastore, wp_new, wp_newarray, wp_anewarray, wp_multianewarray, wp_invokevirtual, wp_invokespecial, wp_invokestatic, wp_ireturn, wp_lreturn, wp_areturn, wp_return_, wpL, ldI, ldJ, ldA, lk, sL, cL, i1, i2, l1, l2, r1, pA, p1, p2, ar, tyAt, rcv, rcr, oO, cmpI, Value.category, rf_some, rf_none, ak, kc, List.drop_succ_cons, List.drop_zero, List.drop_nil, List.take_succ_cons, List.take_zero, List.take_nil, List.head?_cons, List.reverse_cons, List.reverse_nil, List.nil_append, List.cons_append, List.length_cons, List.length_nil, Option.toList_some, Option.toList_none, hT_sI, hT_sJ, hT_sR, hI_sJ, hI_sR, hJ_sI, hJ_sR, hR_sI, hR_sJ, isO_sI, isO_sJ, isO_sR, iI_add, iI_sub, iI_mul, iI_neg, lv_args, Nat.reduceAdd, Nat.reduceEqDiff, Nat.reduceLeDiff, reduceIte, ite_true, ite_false, true_and, and_true, false_and, and_false, not_true, not_false_iff, or_true, true_or, false_or, or_false, imp_self, ne_eq, Classical.not_not, forall_const, true_implies, false_implies, if_pos, Nat.zero_add, Nat.add_zero, Nat.le_refl, Nat.reduceLT, iz00, iz01, iz10, iz11, ib0, ib1, ib01, reduceCtorEq, cq_X12_lightBy_182]
          have q := ih (i + 1) (trN d tr) (sum + lsP st d tr (st 0 0).toNat) (B + 1) h2 [] (by omega) (trN_ok ht hB.1 d) (by omega) (by omega) j2 hl
          rw [nc1] at q
          exact q
      have bad : (d < 7 ∧ (st 0 0 ≤ (d : Int) ∨ st 1 d = 0)) → G 78 [(0, .ref m), (1, .int (iI (code : Nat))), (2, .int (iI (years : Nat))), (3, .int (iI sum)), (4, .int (iI (i : Nat))), (5, .int (iI (d : Nat)))] [] h' (0, 0) := by
        intro c
        rw [if_pos c] at hl
        refine hG.1 78 _ _ _ _ ?_
        rw [bq_X12_lightBy_78]
        simp only [bk_X12_lightBy_78, wp_aconst_null, wp_iconst, wp_bipush, wp_sipush, wp_ldc, wp_ldc_w, wp_ldc2_w, wp_lconst, wp_iload, wp_iload_n, wp_lload, wp_lload_n, wp_aload, wp_aload_n, wp_istore, wp_istore_n, wp_lstore, wp_lstore_n, wp_astore, wp_astore_n, wp_iinc, wp_iadd, wp_isub, wp_imul, wp_iand, wp_ior, wp_ixor, wp_ishl, wp_ishr, wp_iushr, wp_idiv, wp_irem, wp_ineg, wp_ladd, wp_lsub, wp_lmul, wp_ldiv, wp_lrem, wp_lcmp, wp_i2l, wp_l2i, wp_pop, wp_dup, wp_dup2, wp_goto, wp_ifCond, wp_if_icmp, wp_ifnull, wp_ifnonnull, wp_tableswitch, wp_getfield, wp_putfield, wp_arraylength, wp_iaload, wp_baload, wp_laload, wp_aaload, wp_iastore, wp_bastore, wp_lastore, wp_aastore, wp_new, wp_newarray, wp_anewarray, wp_multianewarray, wp_invokevirtual, wp_invokespecial, wp_invokestatic, wp_ireturn, wp_lreturn, wp_areturn, wp_return_, wpL, ldI, ldJ, ldA, lk, sL, cL, i1, i2, l1, l2, r1, pA, p1, p2, ar, tyAt, rcv, rcr, oO, cmpI, Value.category, rf_some, rf_none, ak, kc, List.drop_succ_cons, List.drop_zero, List.drop_nil, List.take_succ_cons, List.take_zero, List.take_nil, List.head?_cons, List.reverse_cons, List.reverse_nil, List.nil_append, List.cons_append, List.length_cons, List.length_nil, Option.toList_some, Option.toList_none, hT_sI, hT_sJ, hT_sR, hI_sJ, hI_sR, hJ_sI, hJ_sR, hR_sI, hR_sJ, isO_sI, isO_sJ, isO_sR, iI_add, iI_sub, iI_mul, iI_neg, lv_args, Nat.reduceAdd, Nat.reduceEqDiff, Nat.reduceLeDiff, reduceIte, ite_true, ite_false, true_and, and_true, false_and, and_false, not_true, not_false_iff, or_true, true_or, false_or, or_false, imp_self, ne_eq, Classical.not_not, forall_const, true_implies, false_implies, if_pos, Nat.zero_add, Nat.add_zero, Nat.le_refl, Nat.reduceLT, iz00, iz01, iz10, iz11, ib0, ib1, ib01, reduceCtorEq, cq_X12_lightBy_182]
        rw [hl]
        exact hQ h' g12 F
      simp only [wp_aconst_null, wp_iconst, wp_bipush, wp_sipush, wp_ldc, wp_ldc_w, wp_ldc2_w, wp_lconst, wp_iload, wp_iload_n, wp_lload, wp_lload_n, wp_aload, wp_aload_n, wp_istore, wp_istore_n, wp_lstore, wp_lstore_n, wp_astore, wp_astore_n, wp_iinc, wp_iadd, wp_isub, wp_imul, wp_iand, wp_ior, wp_ixor, wp_ishl, wp_ishr, wp_iushr, wp_idiv, wp_irem, wp_ineg, wp_ladd, wp_lsub, wp_lmul, wp_ldiv, wp_lrem, wp_lcmp, wp_i2l, wp_l2i, wp_pop, wp_dup, wp_dup2, wp_goto, wp_ifCond, wp_if_icmp, wp_ifnull, wp_ifnonnull, wp_tableswitch, wp_getfield, wp_putfield, wp_arraylength, wp_iaload, wp_baload, wp_laload, wp_aaload, wp_iastore, wp_bastore, wp_lastore, wp_aastore, wp_new, wp_newarray, wp_anewarray, wp_multianewarray, wp_invokevirtual, wp_invokespecial, wp_invokestatic, wp_ireturn, wp_lreturn, wp_areturn, wp_return_, wpL, ldI, ldJ, ldA, lk, sL, cL, i1, i2, l1, l2, r1, pA, p1, p2, ar, tyAt, rcv, rcr, oO, cmpI, Value.category, rf_some, rf_none, ak, kc, List.drop_succ_cons, List.drop_zero, List.drop_nil, List.take_succ_cons, List.take_zero, List.take_nil, List.head?_cons, List.reverse_cons, List.reverse_nil, List.nil_append, List.cons_append, List.length_cons, List.length_nil, Option.toList_some, Option.toList_none, hT_sI, hT_sJ, hT_sR, hI_sJ, hI_sR, hJ_sI, hJ_sR, hR_sI, hR_sJ, isO_sI, isO_sJ, isO_sR, iI_add, iI_sub, iI_mul, iI_neg, lv_args, Nat.reduceAdd, Nat.reduceEqDiff, Nat.reduceLeDiff, reduceIte, ite_true, ite_false, true_and, and_true, false_and, and_false, not_true, not_false_iff, or_true, true_or, false_or, or_false, imp_self, ne_eq, Classical.not_not, forall_const, true_implies, false_implies, if_pos, Nat.zero_add, Nat.add_zero, Nat.le_refl, Nat.reduceLT, iz00, iz01, iz10, iz11, ib0, ib1, ib01, reduceCtorEq, cq_X12_lightBy_182]
      by_cases c : 7 ≤ d
      · have c' : (7 ≤ d) = True := eq_true c
        refine hG.1 50 _ _ _ _ ?_
        rw [bq_X12_lightBy_50]
        simp only [bk_X12_lightBy_50, wp_aconst_null, wp_iconst, wp_bipush, wp_sipush, wp_ldc, wp_ldc_w, wp_ldc2_w, wp_lconst, wp_iload, wp_iload_n, wp_lload, wp_lload_n, wp_aload, wp_aload_n, wp_istore, wp_istore_n, wp_lstore, wp_lstore_n, wp_astore, wp_astore_n, wp_iinc, wp_iadd, wp_isub, wp_imul, wp_iand, wp_ior, wp_ixor, wp_ishl, wp_ishr, wp_iushr, wp_idiv, wp_irem, wp_ineg, wp_ladd, wp_lsub, wp_lmul, wp_ldiv, wp_lrem, wp_lcmp, wp_i2l, wp_l2i, wp_pop, wp_dup, wp_dup2, wp_goto, wp_ifCond, wp_if_icmp, wp_ifnull, wp_ifnonnull, wp_tableswitch, wp_getfield, wp_putfield, wp_arraylength, wp_iaload, wp_baload, wp_laload, wp_aaload, wp_iastore, wp_bastore, wp_lastore, wp_aastore, wp_new, wp_newarray, wp_anewarray, wp_multianewarray, wp_invokevirtual, wp_invokespecial, wp_invokestatic, wp_ireturn, wp_lreturn, wp_areturn, wp_return_, wpL, ldI, ldJ, ldA, lk, sL, cL, i1, i2, l1, l2, r1, pA, p1, p2, ar, tyAt, rcv, rcr, oO, cmpI, Value.category, rf_some, rf_none, ak, kc, List.drop_succ_cons, List.drop_zero, List.drop_nil, List.take_succ_cons, List.take_zero, List.take_nil, List.head?_cons, List.reverse_cons, List.reverse_nil, List.nil_append, List.cons_append, List.length_cons, List.length_nil, Option.toList_some, Option.toList_none, hT_sI, hT_sJ, hT_sR, hI_sJ, hI_sR, hJ_sI, hJ_sR, hR_sI, hR_sJ, isO_sI, isO_sJ, isO_sR, iI_add, iI_sub, iI_mul, iI_neg, lv_args, Nat.reduceAdd, Nat.reduceEqDiff, Nat.reduceLeDiff, reduceIte, ite_true, ite_false, true_and, and_true, false_and, and_false, not_true, not_false_iff, or_true, true_or, false_or, or_false, imp_self, ne_eq, Classical.not_not, forall_const, true_implies, false_implies, if_pos, Nat.zero_add, Nat.add_zero, Nat.le_refl, Nat.reduceLT, iz00, iz01, iz10, iz11, ib0, ib1, ib01, reduceCtorEq, cq_X12_lightBy_182, e2, c']
        exact go (by omega)
      · have c' : (7 ≤ d) = False := eq_false c
        by_cases c2 : st 0 0 ≤ (d : Int)
        · have c2' : (st 0 0 ≤ (d : Int)) = True := eq_true c2
          refine hG.1 50 _ _ _ _ ?_
          rw [bq_X12_lightBy_50]
          simp only [bk_X12_lightBy_50, wp_aconst_null, wp_iconst, wp_bipush, wp_sipush, wp_ldc, wp_ldc_w, wp_ldc2_w, wp_lconst, wp_iload, wp_iload_n, wp_lload, wp_lload_n, wp_aload, wp_aload_n, wp_istore, wp_istore_n, wp_lstore, wp_lstore_n, wp_astore, wp_astore_n, wp_iinc, wp_iadd, wp_isub, wp_imul, wp_iand, wp_ior, wp_ixor, wp_ishl, wp_ishr, wp_iushr, wp_idiv, wp_irem, wp_ineg, wp_ladd, wp_lsub, wp_lmul, wp_ldiv, wp_lrem, wp_lcmp, wp_i2l, wp_l2i, wp_pop, wp_dup, wp_dup2, wp_goto, wp_ifCond, wp_if_icmp, wp_ifnull, wp_ifnonnull, wp_tableswitch, wp_getfield, wp_putfield, wp_arraylength, wp_iaload, wp_baload, wp_laload, wp_aaload, wp_iastore, wp_bastore, wp_lastore, wp_aastore, wp_new, wp_newarray, wp_anewarray, wp_multianewarray, wp_invokevirtual, wp_invokespecial, wp_invokestatic, wp_ireturn, wp_lreturn, wp_areturn, wp_return_, wpL, ldI, ldJ, ldA, lk, sL, cL, i1, i2, l1, l2, r1, pA, p1, p2, ar, tyAt, rcv, rcr, oO, cmpI, Value.category, rf_some, rf_none, ak, kc, List.drop_succ_cons, List.drop_zero, List.drop_nil, List.take_succ_cons, List.take_zero, List.take_nil, List.head?_cons, List.reverse_cons, List.reverse_nil, List.nil_append, List.cons_append, List.length_cons, List.length_nil, Option.toList_some, Option.toList_none, hT_sI, hT_sJ, hT_sR, hI_sJ, hI_sR, hJ_sI, hJ_sR, hR_sI, hR_sJ, isO_sI, isO_sJ, isO_sR, iI_add, iI_sub, iI_mul, iI_neg, lv_args, Nat.reduceAdd, Nat.reduceEqDiff, Nat.reduceLeDiff, reduceIte, ite_true, ite_false, true_and, and_true, false_and, and_false, not_true, not_false_iff, or_true, true_or, false_or, or_false, imp_self, ne_eq, Classical.not_not, forall_const, true_implies, false_implies, if_pos, Nat.zero_add, Nat.add_zero, Nat.le_refl, Nat.reduceLT, iz00, iz01, iz10, iz11, ib0, ib1, ib01, reduceCtorEq, cq_X12_lightBy_182, e2, c', o, c0, e3, c2']
          exact bad ⟨by omega, Or.inl c2⟩
        · have c2' : (st 0 0 ≤ (d : Int)) = False := eq_false c2
          have hd7 : d < 7 := by omega
          obtain ⟨in1, n1⟩ := vinN (i := d) (n := 7) hd7 (by omega)
          have v1 := mi_1 M' hd7
          have r1' := w.rg 1 (lo := 0) (hi := 1) (by decide) d
          have e4 : (iI (st 1 d) = 0) = (st 1 d = 0) := propext (iI_eq0 (by omega))
          refine hG.1 50 _ _ _ _ ?_
          rw [bq_X12_lightBy_50]
          simp only [bk_X12_lightBy_50, wp_aconst_null, wp_iconst, wp_bipush, wp_sipush, wp_ldc, wp_ldc_w, wp_ldc2_w, wp_lconst, wp_iload, wp_iload_n, wp_lload, wp_lload_n, wp_aload, wp_aload_n, wp_istore, wp_istore_n, wp_lstore, wp_lstore_n, wp_astore, wp_astore_n, wp_iinc, wp_iadd, wp_isub, wp_imul, wp_iand, wp_ior, wp_ixor, wp_ishl, wp_ishr, wp_iushr, wp_idiv, wp_irem, wp_ineg, wp_ladd, wp_lsub, wp_lmul, wp_ldiv, wp_lrem, wp_lcmp, wp_i2l, wp_l2i, wp_pop, wp_dup, wp_dup2, wp_goto, wp_ifCond, wp_if_icmp, wp_ifnull, wp_ifnonnull, wp_tableswitch, wp_getfield, wp_putfield, wp_arraylength, wp_iaload, wp_baload, wp_laload, wp_aaload, wp_iastore, wp_bastore, wp_lastore, wp_aastore, wp_new, wp_newarray, wp_anewarray, wp_multianewarray, wp_invokevirtual, wp_invokespecial, wp_invokestatic, wp_ireturn, wp_lreturn, wp_areturn, wp_return_, wpL, ldI, ldJ, ldA, lk, sL, cL, i1, i2, l1, l2, r1, pA, p1, p2, ar, tyAt, rcv, rcr, oO, cmpI, Value.category, rf_some, rf_none, ak, kc, List.drop_succ_cons, List.drop_zero, List.drop_nil, List.take_succ_cons, List.take_zero, List.take_nil, List.head?_cons, List.reverse_cons, List.reverse_nil, List.nil_append, List.cons_append, List.length_cons, List.length_nil, Option.toList_some, Option.toList_none, hT_sI, hT_sJ, hT_sR, hI_sJ, hI_sR, hJ_sI, hJ_sR, hR_sI, hR_sJ, isO_sI, isO_sJ, isO_sR, iI_add, iI_sub, iI_mul, iI_neg, lv_args, Nat.reduceAdd, Nat.reduceEqDiff, Nat.reduceLeDiff, reduceIte, ite_true, ite_false, true_and, and_true, false_and, and_false, not_true, not_false_iff, or_true, true_or, false_or, or_false, imp_self, ne_eq, Classical.not_not, forall_const, true_implies, false_implies, if_pos, Nat.zero_add, Nat.add_zero, Nat.le_refl, Nat.reduceLT, iz00, iz01, iz10, iz11, ib0, ib1, ib01, reduceCtorEq, cq_X12_lightBy_182, e2, c', o, c0, e3, c2', t3, t4, in1, n1, v1, e4]
          refine ⟨fun f => go (fun z => z.2.elim c2 f), fun f => ?_⟩
          have f' : st 1 d = 0 := by simpa using f
          exact bad ⟨hd7, Or.inr f'⟩
  have first : ∀ (N p : Nat) (h' : hp), p + N = (st 0 0).toNat → Fm h h' → (∀ k, hI h' 12 k m = hI h 12 k m) → (∀ q, q < p → hI h' 141 q (A 39) = iI (st 24 q)) → G 5 [(0, .ref m), (1, .int (iI (code : Nat))), (2, .int (iI (years : Nat))), (3, .int (iI 0)), (4, .int (iI (p : Nat)))] [] h' (0, 0) := by
    intro N
    induction N with
    | zero =>
      intro p h' hp' F g12 tv
      have M' := RM_fm F M
      have o := mo M'
      have c0 := mc_0 M'
      have e1 : (iI (st 0 0) ≤ iI (p : Nat)) = True := eq_true ((iI_le (by omega) (by omega)).mpr (by omega))
      refine hG.1 5 _ _ _ _ ?_
      rw [bq_X12_lightBy_5]
      simp only [bk_X12_lightBy_5, wp_aconst_null, wp_iconst, wp_bipush, wp_sipush, wp_ldc, wp_ldc_w, wp_ldc2_w, wp_lconst, wp_iload, wp_iload_n, wp_lload, wp_lload_n, wp_aload, wp_aload_n, wp_istore, wp_istore_n, wp_lstore, wp_lstore_n, wp_astore, wp_astore_n, wp_iinc, wp_iadd, wp_isub, wp_imul, wp_iand, wp_ior, wp_ixor, wp_ishl, wp_ishr, wp_iushr, wp_idiv, wp_irem, wp_ineg, wp_ladd, wp_lsub, wp_lmul, wp_ldiv, wp_lrem, wp_lcmp, wp_i2l, wp_l2i, wp_pop, wp_dup, wp_dup2, wp_goto, wp_ifCond, wp_if_icmp, wp_ifnull, wp_ifnonnull, wp_tableswitch, wp_getfield, wp_putfield, wp_arraylength, wp_iaload, wp_baload, wp_laload, wp_aaload, wp_iastore, wp_bastore, wp_lastore, wp_aastore, wp_new, wp_newarray, wp_anewarray, wp_multianewarray, wp_invokevirtual, wp_invokespecial, wp_invokestatic, wp_ireturn, wp_lreturn, wp_areturn, wp_return_, wpL, ldI, ldJ, ldA, lk, sL, cL, i1, i2, l1, l2, r1, pA, p1, p2, ar, tyAt, rcv, rcr, oO, cmpI, Value.category, rf_some, rf_none, ak, kc, List.drop_succ_cons, List.drop_zero, List.drop_nil, List.take_succ_cons, List.take_zero, List.take_nil, List.head?_cons, List.reverse_cons, List.reverse_nil, List.nil_append, List.cons_append, List.length_cons, List.length_nil, Option.toList_some, Option.toList_none, hT_sI, hT_sJ, hT_sR, hI_sJ, hI_sR, hJ_sI, hJ_sR, hR_sI, hR_sJ, isO_sI, isO_sJ, isO_sR, iI_add, iI_sub, iI_mul, iI_neg, lv_args, Nat.reduceAdd, Nat.reduceEqDiff, Nat.reduceLeDiff, reduceIte, ite_true, ite_false, true_and, and_true, false_and, and_false, not_true, not_false_iff, or_true, true_or, false_or, or_false, imp_self, ne_eq, Classical.not_not, forall_const, true_implies, false_implies, if_pos, Nat.zero_add, Nat.add_zero, Nat.le_refl, Nat.reduceLT, iz00, iz01, iz10, iz11, ib0, ib1, ib01, reduceCtorEq, cq_X12_lightBy_182, o, c0, e1]
      refine hG.1 34 _ _ _ _ ?_
      rw [bq_X12_lightBy_34]
      simp only [bk_X12_lightBy_34, wp_aconst_null, wp_iconst, wp_bipush, wp_sipush, wp_ldc, wp_ldc_w, wp_ldc2_w, wp_lconst, wp_iload, wp_iload_n, wp_lload, wp_lload_n, wp_aload, wp_aload_n, wp_istore, wp_istore_n, wp_lstore, wp_lstore_n, wp_astore, wp_astore_n, wp_iinc, wp_iadd, wp_isub, wp_imul, wp_iand, wp_ior, wp_ixor, wp_ishl, wp_ishr, wp_iushr, wp_idiv, wp_irem, wp_ineg, wp_ladd, wp_lsub, wp_lmul, wp_ldiv, wp_lrem, wp_lcmp, wp_i2l, wp_l2i, wp_pop, wp_dup, wp_dup2, wp_goto, wp_ifCond, wp_if_icmp, wp_ifnull, wp_ifnonnull, wp_tableswitch, wp_getfield, wp_putfield, wp_arraylength, wp_iaload, wp_baload, wp_laload, wp_aaload, wp_iastore, wp_bastore, wp_lastore, wp_aastore, wp_new, wp_newarray, wp_anewarray, wp_multianewarray, wp_invokevirtual, wp_invokespecial, wp_invokestatic, wp_ireturn, wp_lreturn, wp_areturn, wp_return_, wpL, ldI, ldJ, ldA, lk, sL, cL, i1, i2, l1, l2, r1, pA, p1, p2, ar, tyAt, rcv, rcr, oO, cmpI, Value.category, rf_some, rf_none, ak, kc, List.drop_succ_cons, List.drop_zero, List.drop_nil, List.take_succ_cons, List.take_zero, List.take_nil, List.head?_cons, List.reverse_cons, List.reverse_nil, List.nil_append, List.cons_append, List.length_cons, List.length_nil, Option.toList_some, Option.toList_none, hT_sI, hT_sJ, hT_sR, hI_sJ, hI_sR, hJ_sI, hJ_sR, hR_sI, hR_sJ, isO_sI, isO_sJ, isO_sR, iI_add, iI_sub, iI_mul, iI_neg, lv_args, Nat.reduceAdd, Nat.reduceEqDiff, Nat.reduceLeDiff, reduceIte, ite_true, ite_false, true_and, and_true, false_and, and_false, not_true, not_false_iff, or_true, true_or, false_or, or_false, imp_self, ne_eq, Classical.not_not, forall_const, true_implies, false_implies, if_pos, Nat.zero_add, Nat.add_zero, Nat.le_refl, Nat.reduceLT, iz00, iz01, iz10, iz11, ib0, ib1, ib01, reduceCtorEq, cq_X12_lightBy_182]
      exact outer years 0 _ 0 99 h' [] (by omega) (ag_ok w) (by omega) (by omega) (by rw [hJ]; exact ⟨F, g12, fun q hq => tv q (by omega)⟩) rfl
    | succ N ih =>
      intro p h' hp' F g12 tv
      have M' := RM_fm F M
      have o := mo M'
      have c0 := mc_0 M'
      have e1 : (iI (st 0 0) ≤ iI (p : Nat)) = False := eq_false (by rw [iI_le (by omega) (by omega)]; omega)
      have hp7 : p < 7 := by omega
      obtain ⟨in1, n1⟩ := vinN (i := p) (n := 7) hp7 (by omega)
      have t1 := mr_39 M'
      have t2 := mt_39 M'
      have t3 := mr_37 M'
      have t4 := mt_37 M'
      have v1 := mi_37 M' hp7
      refine hG.1 5 _ _ _ _ ?_
      rw [bq_X12_lightBy_5]
      simp only [bk_X12_lightBy_5, wp_aconst_null, wp_iconst, wp_bipush, wp_sipush, wp_ldc, wp_ldc_w, wp_ldc2_w, wp_lconst, wp_iload, wp_iload_n, wp_lload, wp_lload_n, wp_aload, wp_aload_n, wp_istore, wp_istore_n, wp_lstore, wp_lstore_n, wp_astore, wp_astore_n, wp_iinc, wp_iadd, wp_isub, wp_imul, wp_iand, wp_ior, wp_ixor, wp_ishl, wp_ishr, wp_iushr, wp_idiv, wp_irem, wp_ineg, wp_ladd, wp_lsub, wp_lmul, wp_ldiv, wp_lrem, wp_lcmp, wp_i2l, wp_l2i, wp_pop, wp_dup, wp_dup2, wp_goto, wp_ifCond, wp_if_icmp, wp_ifnull, wp_ifnonnull, wp_tableswitch, wp_getfield, wp_putfield, wp_arraylength, wp_iaload, wp_baload, wp_laload, wp_aaload, wp_iastore, wp_bastore, wp_lastore, wp_aastore, wp_new, wp_newarray, wp_anewarray, wp_multianewarray, wp_invokevirtual, wp_invokespecial, wp_invokestatic, wp_ireturn, wp_lreturn, wp_areturn, wp_return_, wpL, ldI, ldJ, ldA, lk, sL, cL, i1, i2, l1, l2, r1, pA, p1, p2, ar, tyAt, rcv, rcr, oO, cmpI, Value.category, rf_some, rf_none, ak, kc, List.drop_succ_cons, List.drop_zero, List.drop_nil, List.take_succ_cons, List.take_zero, List.take_nil, List.head?_cons, List.reverse_cons, List.reverse_nil, List.nil_append, List.cons_append, List.length_cons, List.length_nil, Option.toList_some, Option.toList_none, hT_sI, hT_sJ, hT_sR, hI_sJ, hI_sR, hJ_sI, hJ_sR, hR_sI, hR_sJ, isO_sI, isO_sJ, isO_sR, iI_add, iI_sub, iI_mul, iI_neg, lv_args, Nat.reduceAdd, Nat.reduceEqDiff, Nat.reduceLeDiff, reduceIte, ite_true, ite_false, true_and, and_true, false_and, and_false, not_true, not_false_iff, or_true, true_or, false_or, or_false, imp_self, ne_eq, Classical.not_not, forall_const, true_implies, false_implies, if_pos, Nat.zero_add, Nat.add_zero, Nat.le_refl, Nat.reduceLT, iz00, iz01, iz10, iz11, ib0, ib1, ib01, reduceCtorEq, cq_X12_lightBy_182, o, c0, e1, t1, t2, t3, t4, in1, n1, v1]
      have q := ih (p + 1) (sI h' 141 p (A 39) (iI (st 24 p))) (by omega) (F.i rfl) (fun k => by rw [hI_sI, if_neg (by omega)]; exact g12 k) (fun q hq => ?_)
      · rw [nc1] at q
        exact q
      · rw [hI_sI]
        by_cases c : q = p
        · rw [if_pos ⟨rfl, c, rfl⟩, c]
        · rw [if_neg (fun z => c z.2.1)]; exact tv q (by omega)
  refine hG.1 0 _ _ _ _ ?_
  rw [bq_X12_lightBy_0]
  simp only [bk_X12_lightBy_0, wp_aconst_null, wp_iconst, wp_bipush, wp_sipush, wp_ldc, wp_ldc_w, wp_ldc2_w, wp_lconst, wp_iload, wp_iload_n, wp_lload, wp_lload_n, wp_aload, wp_aload_n, wp_istore, wp_istore_n, wp_lstore, wp_lstore_n, wp_astore, wp_astore_n, wp_iinc, wp_iadd, wp_isub, wp_imul, wp_iand, wp_ior, wp_ixor, wp_ishl, wp_ishr, wp_iushr, wp_idiv, wp_irem, wp_ineg, wp_ladd, wp_lsub, wp_lmul, wp_ldiv, wp_lrem, wp_lcmp, wp_i2l, wp_l2i, wp_pop, wp_dup, wp_dup2, wp_goto, wp_ifCond, wp_if_icmp, wp_ifnull, wp_ifnonnull, wp_tableswitch, wp_getfield, wp_putfield, wp_arraylength, wp_iaload, wp_baload, wp_laload, wp_aaload, wp_iastore, wp_bastore, wp_lastore, wp_aastore, wp_new, wp_newarray, wp_anewarray, wp_multianewarray, wp_invokevirtual, wp_invokespecial, wp_invokestatic, wp_ireturn, wp_lreturn, wp_areturn, wp_return_, wpL, ldI, ldJ, ldA, lk, sL, cL, i1, i2, l1, l2, r1, pA, p1, p2, ar, tyAt, rcv, rcr, oO, cmpI, Value.category, rf_some, rf_none, ak, kc, List.drop_succ_cons, List.drop_zero, List.drop_nil, List.take_succ_cons, List.take_zero, List.take_nil, List.head?_cons, List.reverse_cons, List.reverse_nil, List.nil_append, List.cons_append, List.length_cons, List.length_nil, Option.toList_some, Option.toList_none, hT_sI, hT_sJ, hT_sR, hI_sJ, hI_sR, hJ_sI, hJ_sR, hR_sI, hR_sJ, isO_sI, isO_sJ, isO_sR, iI_add, iI_sub, iI_mul, iI_neg, lv_args, Nat.reduceAdd, Nat.reduceEqDiff, Nat.reduceLeDiff, reduceIte, ite_true, ite_false, true_and, and_true, false_and, and_false, not_true, not_false_iff, or_true, true_or, false_or, or_false, imp_self, ne_eq, Classical.not_not, forall_const, true_implies, false_implies, if_pos, Nat.zero_add, Nat.add_zero, Nat.le_refl, Nat.reduceLT, iz00, iz01, iz10, iz11, ib0, ib1, ib01, reduceCtorEq, cq_X12_lightBy_182]
  exact first (st 0 0).toNat 0 h (by omega) Fm.rf (fun _ => rfl) (fun q hq => by omega)
theorem val_X12_lightBy (g : GP) : Val g yX12_lightBy prog_14_method_71_code 8 (some .int) 2 120 0 0 sp_X12_lightBy := val_of (own := RX12) (ini := false) (on := 12) (rs := rs_X12_lightBy) (cl := cl_X12_lightBy) (rt := 1) (bl := bl_X12_lightBy) (plainFor_of_name (by decide +kernel)) rfl (rok_X12 _) ck_X12_lightBy (fun h => by cases h) rfl (List.forall_mem_cons.mpr ⟨caS (val_X12_digit g) (tb_in 1320 (by decide +kernel) (by decide +kernel)) (tb_in 1321 (by decide +kernel) (by decide +kernel)) (tb_in 1322 (by decide +kernel) (by decide +kernel)) (tb_in 63 (by decide +kernel) (by decide +kernel)) ⟨by decide, by decide, by decide +kernel⟩ ⟨by decide, by decide⟩, (fun _ h => absurd h List.not_mem_nil)⟩) pf_X12_lightBy

