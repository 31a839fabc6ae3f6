/-! stars: the search -/
def lx {β : Type} (g : Int → List β) : Nat → Int → List β
  | 0, _ => []
  | n + 1, x => g x ++ lx g n (x + 1)
/-- all lifts from piece k on (r pieces), in order, that keep P -/
def solL (P : (Nat → Int) → Bool) : Nat → Nat → (Nat → Int) → List (Nat → Int)
  | 0, _, v => if P v then [v] else []
  | r + 1, k, v => lx (fun x => solL P r (k + 1) (upF v k x)) 13 (-6)
theorem lx_s {β : Type} (g : Int → List β) (n : Nat) (x : Int) : lx g (n + 1) x = g x ++ lx g n (x + 1) := rfl
theorem lx_nil {β : Type} {g : Int → List β} : ∀ (n : Nat) (x : Int), (∀ y, x ≤ y → y < x + n → g y = []) → lx g n x = [] := by
  intro n
  induction n with
  | zero => exact fun _ _ => rfl
  | succ n ih =>
    intro x h
    unfold lx
    rw [h x (by omega) (by omega), ih (x + 1) (fun y h1 h2 => h y (by omega) (by omega))]
    rfl
theorem lx_c {β : Type} {g g' : Int → List β} : ∀ (n : Nat) (x : Int), (∀ y, x ≤ y → y < x + n → g y = g' y) → lx g n x = lx g' n x := by
  intro n
  induction n with
  | zero => exact fun _ _ => rfl
  | succ n ih =>
    intro x h
    unfold lx
    rw [h x (by omega) (by omega), ih (x + 1) (fun y h1 h2 => h y (by omega) (by omega))]
theorem bx_u {v : Nat → Int} (hv : bx v) (k : Nat) {x : Int} (hx : -6 ≤ x ∧ x ≤ 6) : bx (upF v k x) := by
  intro i
  unfold upF
  split
  · exact hx
  · exact hv i
theorem solL_nil {P : (Nat → Int) → Bool} : ∀ (r k : Nat) (v : Nat → Int), bx v → (∀ v', bx v' → (∀ i, i < k → v' i = v i) → P v' = false) → solL P r k v = [] := by
  intro r
  induction r with
  | zero => intro k v hv h; unfold solL; rw [h v hv (fun _ _ => rfl)]; rfl
  | succ r ih =>
    intro k v hv h
    unfold solL
    refine lx_nil _ _ (fun y h1 h2 => ih (k + 1) _ (bx_u hv k (by omega)) (fun v' hv' he => h v' hv' (fun i hi => ?_)))
    rw [he i (by omega)]
    unfold upF
    rw [if_neg (by omega)]
theorem solL_c {P P' : (Nat → Int) → Bool} (h : ∀ v, bx v → P v = P' v) : ∀ (r k : Nat) (v : Nat → Int), bx v → solL P r k v = solL P' r k v := by
  intro r
  induction r with
  | zero => intro k v hv; unfold solL; rw [h v hv]
  | succ r ih =>
    intro k v hv
    unfold solL
    exact lx_c _ _ (fun y h1 h2 => ih (k + 1) _ (bx_u hv k (by omega)))
def PB7 (f : Ft) (o : Nat → Int32) (v : Nat → Int) : Bool := (List.range 7).all (fun j => b32 (o j) (v j + 6).toNat && (List.range j).all (fun i => b32 (f i j) (v j - v i + 12).toNat))
theorem PB7_iff {f : Ft} {o : Nat → Int32} {v : Nat → Int} : PB7 f o v = true ↔ (∀ j, j < 7 → b32 (o j) (v j + 6).toNat = true) ∧ Vs f v := by
  unfold PB7 Vs
  simp only [List.all_eq_true, List.mem_range, Bool.and_eq_true]
  exact ⟨fun h => ⟨fun j hj => (h j hj).1, fun i j hij hj => (h j hj).2 i hij⟩, fun h j hj => ⟨h.1 j hj, fun i hi => h.2 i j hi hj⟩⟩
def rnL (lim : Nat) (s : Nat × (Nat → Int)) (L : List (Nat → Int)) : Nat × (Nat → Int) := (min lim (s.1 + L.length), if s.1 = 0 then L.headD s.2 else s.2)
theorem rnL_nil {lim : Nat} {s : Nat × (Nat → Int)} (h : s.1 ≤ lim) : rnL lim s [] = s := by
  unfold rnL
  refine Prod.ext ?_ ?_
  · show min lim (s.1 + 0) = s.1; omega
  · show (if s.1 = 0 then s.2 else s.2) = s.2; split <;> rfl
theorem rnL_full {lim : Nat} {s : Nat × (Nat → Int)} (h : s.1 = lim) (hl : 1 ≤ lim) (L : List (Nat → Int)) : rnL lim s L = s := by
  unfold rnL
  refine Prod.ext ?_ ?_
  · show min lim (s.1 + L.length) = s.1; omega
  · show (if s.1 = 0 then L.headD s.2 else s.2) = s.2; rw [if_neg (by omega)]
theorem rnL_app {lim : Nat} (hl : 1 ≤ lim) {s : Nat × (Nat → Int)} (h : s.1 ≤ lim) (A B : List (Nat → Int)) : rnL lim s (A ++ B) = rnL lim (rnL lim s A) B := by
  unfold rnL
  refine Prod.ext ?_ ?_
  · show min lim (s.1 + (A ++ B).length) = min lim (min lim (s.1 + A.length) + B.length)
    rw [List.length_append]; omega
  · show (if s.1 = 0 then (A ++ B).headD s.2 else s.2) = if min lim (s.1 + A.length) = 0 then B.headD (if s.1 = 0 then A.headD s.2 else s.2) else (if s.1 = 0 then A.headD s.2 else s.2)
    cases A with
    | nil =>
      by_cases c : s.1 = 0
      · rw [if_pos c, if_pos (by simp; omega), if_pos c]; rfl
      · rw [if_neg c, if_neg (by simp; omega), if_neg c]
    | cons a A =>
      rw [if_neg (c := min lim (s.1 + (a :: A).length) = 0) (by simp only [List.length_cons]; omega)]
      rfl
theorem rnL_le {lim : Nat} (s : Nat × (Nat → Int)) (L : List (Nat → Int)) : (rnL lim s L).1 ≤ lim := Nat.min_le_left _ _
def cl_X9_narrow : Nat → Nat × Nat × Spec := fun q => (0, 0, fun _ _ _ => False)

def nrL (f : Ft) (op : Nat → Int32) (k : Nat) (x : Int) (j : Nat) : Int32 := op j &&& (f k j >>> (iI (6 - x) &&& 31))
def FN (ad : Ad) (k : Nat) (h h' : hp) : Prop := (∀ a, hT h' a = hT h a) ∧ (∀ c k a, hJ h' c k a = hJ h c k a) ∧ (∀ c k a, hR h' c k a = hR h c k a) ∧ ∀ c j a, ¬ (c = 192 ∧ k + 1 < 7 ∧ a = ad 15 (k + 1)) → hI h' c j a = hI h c j a
def sp_X9_narrow : Spec := fun as h K => ∃ (ad : Ad) (f : Ft) (op : Nat → Int32) (k : Nat) (x : Int), as = [.ref (ad 8 5), .int (iI (k : Nat)), .int (iI x)] ∧ RW h ad ∧ RF h ad f ∧ k < 7 ∧ (-6 ≤ x ∧ x ≤ 6) ∧ (∀ j, k ≤ j → j < 7 → hI h 192 j (ad 15 k) = op j) ∧
  ∀ h' y, (y = 0 ∨ y = 1) → (y = 0 → ∃ j, k < j ∧ j < 7 ∧ nrL f op k x j = 0) → (y = 1 → ∀ j, k < j → j < 7 → hI h' 192 j (ad 15 (k + 1)) = nrL f op k x j) → FN ad k h h' → K (some (.int y)) h'
theorem pf_X9_narrow : PfM cl_X9_narrow (0, 0) 2 5 bl_X9_narrow sp_X9_narrow := by
  rintro as h Q ⟨ad, f, op, k, x, rfl, R, hf, hk, hx, ho, hQ⟩
  refine ⟨Nat.le_of_ble_eq_true rfl, fun G hG => ?_⟩
  have loop : ∀ (n j : Nat) (h' : hp) (X : Lc), j + n = 7 → k < j → FN ad k h h' → (∀ i, k < i → i < j → hI h' 192 i (ad 15 (k + 1)) = nrL f op k x i) → G 4 ([(0, .ref (ad 8 5)), (1, .int (iI (k : Nat))), (2, .int (iI x)), (3, .int (iI (j : Nat)))] ++ X) [] h' (0, 0) := by
    intro n
    induction n with
    | zero =>
      intro j h' X hj hkj F hh
      refine hG.2 4 _ [(0, .ref (ad 8 5)), (1, .int (iI (k : Nat))), (2, .int (iI x)), (3, .int (iI (j : Nat)))] _ _ _ (fun q hq => List.mem_append_left X hq) ?_
      have e1 : (iI 7 ≤ iI (j : Nat)) = True := eq_true ((iI_le (by omega) (by omega)).mpr (by omega))
      refine hG.1 4 _ _ _ _ ?_
      rw [bq_X9_narrow_4]
      simp only [bk_X9_narrow_4, wp_aconst_null, wp_iconst, wp_bipush, wp_sipush, wp_ldc, wp_ldc_w, wp_ldc2_w, wp_lconst, wp_iload, wp_iload_n, wp_lload, wp_lload_n, wp_aload, wp_aload_n, wp_istore, wp_istore_n, wp_lstore, wp_lstore_n, wp_astore, wp_astore_n, wp_iinc, wp_iadd, wp_isub, wp_imul, wp_iand, wp_ior, wp_ixor, wp_ishl, wp_ishr, wp_iushr, wp_idiv, wp_irem, wp_ineg, wp_ladd, wp_lsub, wp_lmul, wp_ldiv, wp_lrem, wp_lcmp, wp_i2l, wp_l2i, wp_pop, wp_dup, wp_dup2, wp_goto, wp_ifCond, wp_if_icmp, wp_ifnull, wp_ifnonnull, wp_tableswitch, wp_getfield, wp_putfield, wp_arraylength, wp_iaload, wp_baload, wp_laload, wp_aaload, wp_iastore, wp_bastore, wp_lastore, wp_aastore, wp_new, wp_newarray, wp_anewarray, wp_multianewarray, wp_invokevirtual, wp_invokespecial, wp_invokestatic, wp_ireturn, wp_lreturn, wp_areturn, wp_return_, wpL, ldI, ldJ, ldA, lk, sL, cL, i1, i2, l1, l2, r1, pA, p1, p2, ar, tyAt, rcv, rcr, oO, cmpI, Value.category, rf_some, rf_none, ak, kc, List.drop_succ_cons, List.drop_zero, List.drop_nil, List.take_succ_cons, List.take_zero, List.take_nil, List.head?_cons, List.reverse_cons, List.reverse_nil, List.nil_append, List.cons_append, List.length_cons, List.length_nil, Option.toList_some, Option.toList_none, hT_sI, hT_sJ, hT_sR, hI_sJ, hI_sR, hJ_sI, hJ_sR, hR_sI, hR_sJ, isO_sI, isO_sJ, isO_sR, iI_add, iI_sub, iI_mul, iI_neg, lv_args, Nat.reduceAdd, Nat.reduceEqDiff, Nat.reduceLeDiff, reduceIte, ite_true, ite_false, true_and, and_true, false_and, and_false, not_true, not_false_iff, or_true, true_or, false_or, or_false, imp_self, ne_eq, Classical.not_not, forall_const, true_implies, false_implies, if_pos, Nat.zero_add, Nat.add_zero, Nat.le_refl, Nat.reduceLT, iz00, iz01, iz10, iz11, ib0, ib1, ib01, reduceCtorEq, e1]
      refine hG.1 59 _ _ _ _ ?_
      rw [bq_X9_narrow_59]
      simp only [bk_X9_narrow_59, wp_aconst_null, wp_iconst, wp_bipush, wp_sipush, wp_ldc, wp_ldc_w, wp_ldc2_w, wp_lconst, wp_iload, wp_iload_n, wp_lload, wp_lload_n, wp_aload, wp_aload_n, wp_istore, wp_istore_n, wp_lstore, wp_lstore_n, wp_astore, wp_astore_n, wp_iinc, wp_iadd, wp_isub, wp_imul, wp_iand, wp_ior, wp_ixor, wp_ishl, wp_ishr, wp_iushr, wp_idiv, wp_irem, wp_ineg, wp_ladd, wp_lsub, wp_lmul, wp_ldiv, wp_lrem, wp_lcmp, wp_i2l, wp_l2i, wp_pop, wp_dup, wp_dup2, wp_goto, wp_ifCond, wp_if_icmp, wp_ifnull, wp_ifnonnull, wp_tableswitch, wp_getfield, wp_putfield, wp_arraylength, wp_iaload, wp_baload, wp_laload, wp_aaload, wp_iastore, wp_bastore, wp_lastore, wp_aastore, wp_new, wp_newarray, wp_anewarray, wp_multianewarray, wp_invokevirtual, wp_invokespecial, wp_invokestatic, wp_ireturn, wp_lreturn, wp_areturn, wp_return_, wpL, ldI, ldJ, ldA, lk, sL, cL, i1, i2, l1, l2, r1, pA, p1, p2, ar, tyAt, rcv, rcr, oO, cmpI, Value.category, rf_some, rf_none, ak, kc, List.drop_succ_cons, List.drop_zero, List.drop_nil, List.take_succ_cons, List.take_zero, List.take_nil, List.head?_cons, List.reverse_cons, List.reverse_nil, List.nil_append, List.cons_append, List.length_cons, List.length_nil, Option.toList_some, Option.toList_none, hT_sI, hT_sJ, hT_sR, hI_sJ, hI_sR, hJ_sI, hJ_sR, hR_sI, hR_sJ, isO_sI, isO_sJ, isO_sR, iI_add, iI_sub, iI_mul, iI_neg, lv_args, Nat.reduceAdd, Nat.reduceEqDiff, Nat.reduceLeDiff, reduceIte, ite_true, ite_false, true_and, and_true, false_and, and_false, not_true, not_false_iff, or_true, true_or, false_or, or_false, imp_self, ne_eq, Classical.not_not, forall_const, true_implies, false_implies, if_pos, Nat.zero_add, Nat.add_zero, Nat.le_refl, Nat.reduceLT, iz00, iz01, iz10, iz11, ib0, ib1, ib01, reduceCtorEq]
      exact hQ h' (iI 1) (Or.inr rfl) (fun z => absurd z (by decide)) (fun _ i h1 h2 => hh i h1 (by omega)) F
    | succ n ih =>
      intro j h' X hj hkj F hh
      refine hG.2 4 _ [(0, .ref (ad 8 5)), (1, .int (iI (k : Nat))), (2, .int (iI x)), (3, .int (iI (j : Nat)))] _ _ _ (fun q hq => List.mem_append_left X hq) ?_
      have hT1 : ∀ a t, hT h a = t → hT h' a = t := fun a t z => (F.1 a).trans z
      have hR1 : ∀ c k a t, hR h c k a = t → hR h' c k a = t := fun c k a t z => (F.2.2.1 c k a).trans z
      have o : isO h' (ad 8 5) 9 := ⟨_, hT1 _ _ (wt_11_11 R)⟩
      have t1 := hR1 _ _ _ _ (wr_9_0 R)
      have t2 := hT1 _ _ (wt_9_0 R)
      have t3 := hR1 _ _ _ _ (wr_9_1 R)
      have t4 := hT1 _ _ (wt_9_1 R)
      have u1 := hR1 _ _ _ _ (R.fr hk).1
      have u2 := hT1 _ _ (R.fr hk).2.1
      have u3 := hR1 _ _ _ _ (R.fr hk).2.2.1
      have u4 := hT1 _ _ (R.fr hk).2.2.2
      have u5 := hR1 _ _ _ _ (R.fr (i := k + 1) (by omega)).2.2.1
      have u6 := hT1 _ _ (R.fr (i := k + 1) (by omega)).2.2.2
      have e1 : (iI 7 ≤ iI (j : Nat)) = False := eq_false (by rw [iI_le (by omega) (by omega)]; omega)
      have in1 : vp_in (iI (k : Nat)) 7 := iI_in (by omega) (by omega)
      have n1 : (iI (k : Nat)).toNatClampNeg = k := by rw [iI_cl (by omega)]; omega
      have in2 : vp_in (iI (j : Nat)) 7 := iI_in (by omega) (by omega)
      have n2 : (iI (j : Nat)).toNatClampNeg = j := by rw [iI_cl (by omega)]; omega
      have in3 : vp_in (iI ((k : Int) + 1)) 7 := iI_in (by omega) (by omega)
      have n3 : (iI ((k : Int) + 1)).toNatClampNeg = k + 1 := by rw [iI_cl (by omega)]; omega
      have v1 : hI h' 192 j (ad 15 k) = op j := by
        rw [F.2.2.2 _ _ _ (fun z => by have := R.j15 hk z.2.1 z.2.2; omega)]
        exact ho j (by omega) (by omega)
      have v2 : hI h' 191 j (ad 14 k) = f k j := by
        rw [F.2.2.2 _ _ _ (fun z => by omega)]
        exact hf k j hk (by omega)
      have ed : op j &&& (f k j >>> (iI (6 - x) &&& 31)) = nrL f op k x j := rfl
      refine hG.1 4 _ _ _ _ ?_
      rw [bq_X9_narrow_4]
      simp only [bk_X9_narrow_4, wp_aconst_null, wp_iconst, wp_bipush, wp_sipush, wp_ldc, wp_ldc_w, wp_ldc2_w, wp_lconst, wp_iload, wp_iload_n, wp_lload, wp_lload_n, wp_aload, wp_aload_n, wp_istore, wp_istore_n, wp_lstore, wp_lstore_n, wp_astore, wp_astore_n, wp_iinc, wp_iadd, wp_isub, wp_imul, wp_iand, wp_ior, wp_ixor, wp_ishl, wp_ishr, wp_iushr, wp_idiv, wp_irem, wp_ineg, wp_ladd, wp_lsub, wp_lmul, wp_ldiv, wp_lrem, wp_lcmp, wp_i2l, wp_l2i, wp_pop, wp_dup, wp_dup2, wp_goto, wp_ifCond, wp_if_icmp, wp_ifnull, wp_ifnonnull, wp_tableswitch, wp_getfield, wp_putfield, wp_arraylength, wp_iaload, wp_baload, wp_laload, wp_aaload, wp_iastore, wp_bastore, wp_lastore, wp_aastore, wp_new, wp_newarray, wp_anewarray, wp_multianewarray, wp_invokevirtual, wp_invokespecial, wp_invokestatic, wp_ireturn, wp_lreturn, wp_areturn, wp_return_, wpL, ldI, ldJ, ldA, lk, sL, cL, i1, i2, l1, l2, r1, pA, p1, p2, ar, tyAt, rcv, rcr, oO, cmpI, Value.category, rf_some, rf_none, ak, kc, List.drop_succ_cons, List.drop_zero, List.drop_nil, List.take_succ_cons, List.take_zero, List.take_nil, List.head?_cons, List.reverse_cons, List.reverse_nil, List.nil_append, List.cons_append, List.length_cons, List.length_nil, Option.toList_some, Option.toList_none, hT_sI, hT_sJ, hT_sR, hI_sJ, hI_sR, hJ_sI, hJ_sR, hR_sI, hR_sJ, isO_sI, isO_sJ, isO_sR, iI_add, iI_sub, iI_mul, iI_neg, lv_args, Nat.reduceAdd, Nat.reduceEqDiff, Nat.reduceLeDiff, reduceIte, ite_true, ite_false, true_and, and_true, false_and, and_false, not_true, not_false_iff, or_true, true_or, false_or, or_false, imp_self, ne_eq, Classical.not_not, forall_const, true_implies, false_implies, if_pos, Nat.zero_add, Nat.add_zero, Nat.le_refl, Nat.reduceLT, iz00, iz01, iz10, iz11, ib0, ib1, ib01, reduceCtorEq, e1, o, t1, t2, t3, t4, u1, u2, u3, u4, in1, n1, in2, n2, v1, v2, ed]
      refine ⟨fun c => ?_, fun c => ?_⟩
      · refine hG.1 41 _ _ _ _ ?_
        rw [bq_X9_narrow_41]
        simp only [bk_X9_narrow_41, wp_aconst_null, wp_iconst, wp_bipush, wp_sipush, wp_ldc, wp_ldc_w, wp_ldc2_w, wp_lconst, wp_iload, wp_iload_n, wp_lload, wp_lload_n, wp_aload, wp_aload_n, wp_istore, wp_istore_n, wp_lstore, wp_lstore_n, wp_astore, wp_astore_n, wp_iinc, wp_iadd, wp_isub, wp_imul, wp_iand, wp_ior, wp_ixor, wp_ishl, wp_ishr, wp_iushr, wp_idiv, wp_irem, wp_ineg, wp_ladd, wp_lsub, wp_lmul, wp_ldiv, wp_lrem, wp_lcmp, wp_i2l, wp_l2i, wp_pop, wp_dup, wp_dup2, wp_goto, wp_ifCond, wp_if_icmp, wp_ifnull, wp_ifnonnull, wp_tableswitch, wp_getfield, wp_putfield, wp_arraylength, wp_iaload, wp_baload, wp_laload, wp_aaload, wp_iastore, wp_bastore, wp_lastore, wp_aastore, wp_new, wp_newarray, wp_anewarray, wp_multianewarray, wp_invokevirtual, wp_invokespecial, wp_invokestatic, wp_ireturn, wp_lreturn, wp_areturn, wp_return_, wpL, ldI, ldJ, ldA, lk, sL, cL, i1, i2, l1, l2, r1, pA, p1, p2, ar, tyAt, rcv, rcr, oO, cmpI, Value.category, rf_some, rf_none, ak, kc, List.drop_succ_cons, List.drop_zero, List.drop_nil, List.take_succ_cons, List.take_zero, List.take_nil, List.head?_cons, List.reverse_cons, List.reverse_nil, List.nil_append, List.cons_append, List.length_cons, List.length_nil, Option.toList_some, Option.toList_none, hT_sI, hT_sJ, hT_sR, hI_sJ, hI_sR, hJ_sI, hJ_sR, hR_sI, hR_sJ, isO_sI, isO_sJ, isO_sR, iI_add, iI_sub, iI_mul, iI_neg, lv_args, Nat.reduceAdd, Nat.reduceEqDiff, Nat.reduceLeDiff, reduceIte, ite_true, ite_false, true_and, and_true, false_and, and_false, not_true, not_false_iff, or_true, true_or, false_or, or_false, imp_self, ne_eq, Classical.not_not, forall_const, true_implies, false_implies, if_pos, Nat.zero_add, Nat.add_zero, Nat.le_refl, Nat.reduceLT, iz00, iz01, iz10, iz11, ib0, ib1, ib01, reduceCtorEq, o, t3, t4, in3, n3, u5, u6, in2, n2]
        have q := ih (j + 1) (sI h' 192 j (ad 15 (k + 1)) (nrL f op k x j)) [(4, .int (nrL f op k x j))] (by omega) (by omega) ⟨F.1, F.2.1, F.2.2.1, fun c' j' a hz => ?_⟩ (fun i h1 h2 => ?_)
        · rw [nc1] at q
          exact q
        · rw [hI_sI, if_neg (fun z => hz ⟨z.1, by omega, z.2.2⟩)]
          exact F.2.2.2 c' j' a hz
        · rw [hI_sI]
          by_cases d : i = j
          · rw [if_pos ⟨rfl, d, rfl⟩, d]
          · rw [if_neg (fun z => d z.2.1)]; exact hh i h1 (by omega)
      · have c' : nrL f op k x j = 0 := by simpa using c
        exact hQ h' (iI 0) (Or.inl rfl) (fun _ => ⟨j, hkj, by omega, c'⟩) (fun z => absurd z (by decide)) F
  refine hG.1 0 _ _ _ _ ?_
  rw [bq_X9_narrow_0]
  simp only [bk_X9_narrow_0, wp_aconst_null, wp_iconst, wp_bipush, wp_sipush, wp_ldc, wp_ldc_w, wp_ldc2_w, wp_lconst, wp_iload, wp_iload_n, wp_lload, wp_lload_n, wp_aload, wp_aload_n, wp_istore, wp_istore_n, wp_lstore, wp_lstore_n, wp_astore, wp_astore_n, wp_iinc, wp_iadd, wp_isub, wp_imul, wp_iand, wp_ior, wp_ixor, wp_ishl, wp_ishr, wp_iushr, wp_idiv, wp_irem, wp_ineg, wp_ladd, wp_lsub, wp_lmul, wp_ldiv, wp_lrem, wp_lcmp, wp_i2l, wp_l2i, wp_pop, wp_dup, wp_dup2, wp_goto, wp_ifCond, wp_if_icmp, wp_ifnull, wp_ifnonnull, wp_tableswitch, wp_getfield, wp_putfield, wp_arraylength, wp_iaload, wp_baload, wp_laload, wp_aaload, wp_iastore, wp_bastore, wp_lastore, wp_aastore, wp_new, wp_newarray, wp_anewarray, wp_multianewarray, wp_invokevirtual, wp_invokespecial, wp_invokestatic, wp_ireturn, wp_lreturn, wp_areturn, wp_return_, wpL, ldI, ldJ, ldA, lk, sL, cL, i1, i2, l1, l2, r1, pA, p1, p2, ar, tyAt, rcv, rcr, oO, cmpI, Value.category, rf_some, rf_none, ak, kc, List.drop_succ_cons, List.drop_zero, List.drop_nil, List.take_succ_cons, List.take_zero, List.take_nil, List.head?_cons, List.reverse_cons, List.reverse_nil, List.nil_append, List.cons_append, List.length_cons, List.length_nil, Option.toList_some, Option.toList_none, hT_sI, hT_sJ, hT_sR, hI_sJ, hI_sR, hJ_sI, hJ_sR, hR_sI, hR_sJ, isO_sI, isO_sJ, isO_sR, iI_add, iI_sub, iI_mul, iI_neg, lv_args, Nat.reduceAdd, Nat.reduceEqDiff, Nat.reduceLeDiff, reduceIte, ite_true, ite_false, true_and, and_true, false_and, and_false, not_true, not_false_iff, or_true, true_or, false_or, or_false, imp_self, ne_eq, Classical.not_not, forall_const, true_implies, false_implies, if_pos, Nat.zero_add, Nat.add_zero, Nat.le_refl, Nat.reduceLT, iz00, iz01, iz10, iz11, ib0, ib1, ib01, reduceCtorEq]
  have q := loop (6 - k) (k + 1) h [] (by omega) (by omega) ⟨fun _ => rfl, fun _ _ _ => rfl, fun _ _ _ => rfl, fun _ _ _ _ => rfl⟩ (fun i h1 h2 => by omega)
  rw [nc1] at q
  exact q
theorem val_X9_narrow (g : GP) : Val g yX9_narrow prog_11_method_11_code 5 (some .boolean) 1 60 0 0 sp_X9_narrow := val_of (own := RX9) (ini := false) (on := 9) (rs := rs_X9_narrow) (cl := cl_X9_narrow) (rt := 2) (bl := bl_X9_narrow) (plainFor_of_name (by decide +kernel)) rfl (rok_X9 _) ck_X9_narrow (fun h => by cases h) rfl ((fun _ h => absurd h List.not_mem_nil)) pf_X9_narrow

/-- what is still open at piece k -/
def NWI (f : Ft) (o : Nat → Int32) (k : Nat) (v : Nat → Int) (op : Nat → Int32) : Prop := ∀ j, k ≤ j → j < 7 → ∀ x, -6 ≤ x ∧ x ≤ 6 → (b32 (op j) (x + 6).toNat = true ↔ b32 (o j) (x + 6).toNat = true ∧ ∀ i, i < k → b32 (f i j) (x - v i + 12).toNat = true)
def okp (f : Ft) (o : Nat → Int32) (k : Nat) (v : Nat → Int) : Prop := ∀ j, j < k → b32 (o j) (v j + 6).toNat = true ∧ ∀ i, i < j → b32 (f i j) (v j - v i + 12).toNat = true
theorem nrL_b {f : Ft} {op : Nat → Int32} {k j : Nat} {x y : Int} (hx : -6 ≤ x ∧ x ≤ 6) (hy : -6 ≤ y ∧ y ≤ 6) : b32 (nrL f op k x j) (y + 6).toNat = (b32 (op j) (y + 6).toNat && b32 (f k j) (y - x + 12).toNat) := by
  unfold nrL
  rw [b32_and, show 6 - x = (((6 - x).toNat : Nat) : Int) by omega, b32_shr (by omega) _ (by omega), if_pos (by omega), show (6 - x).toNat + (y + 6).toNat = (y - x + 12).toNat by omega]
theorem upF_eq (v : Nat → Int) (k : Nat) (x : Int) : upF v k x k = x := if_pos rfl
theorem upF_ne (v : Nat → Int) {k i : Nat} (x : Int) (h : i ≠ k) : upF v k x i = v i := if_neg h
theorem NWI_s {f : Ft} {o : Nat → Int32} {k : Nat} {v : Nat → Int} {op : Nat → Int32} (h : NWI f o k v op) {x : Int} (hx : -6 ≤ x ∧ x ≤ 6) : NWI f o (k + 1) (upF v k x) (nrL f op k x) := by
  intro j h1 h2 y hy
  rw [nrL_b hx hy, Bool.and_eq_true, h j (by omega) h2 y hy]
  constructor
  · rintro ⟨⟨a, b⟩, c⟩
    refine ⟨a, fun i hi => ?_⟩
    by_cases d : i = k
    · rw [d, upF_eq]; exact c
    · rw [upF_ne v x d]; exact b i (by omega)
  · rintro ⟨a, b⟩
    refine ⟨⟨a, fun i hi => ?_⟩, ?_⟩
    · have := b i (by omega)
      rw [upF_ne v x (by omega)] at this
      exact this
    · have := b k (by omega)
      rw [upF_eq] at this
      exact this
theorem okp_s {f : Ft} {o : Nat → Int32} {k : Nat} (hk : k < 7) {v : Nat → Int} {op : Nat → Int32} (h : NWI f o k v op) (g : okp f o k v) {x : Int} (hx : -6 ≤ x ∧ x ≤ 6) (hb : b32 (op k) (x + 6).toNat = true) : okp f o (k + 1) (upF v k x) := by
  intro j hj
  by_cases d : j = k
  · subst d
    have q := (h j (Nat.le_refl _) hk x hx).mp hb
    rw [upF_eq]
    refine ⟨q.1, fun i hi => ?_⟩
    rw [upF_ne v x (by omega)]
    exact q.2 i hi
  · have q := g j (by omega)
    rw [upF_ne v x d]
    refine ⟨q.1, fun i hi => ?_⟩
    rw [upF_ne v x (by omega)]
    exact q.2 i hi
def FJ (ad : Ad) (k : Nat) (h h' : hp) : Prop := (∀ a, hT h' a = hT h a) ∧ (∀ c k a, hJ h' c k a = hJ h c k a) ∧ (∀ c k a, hR h' c k a = hR h c k a) ∧ ∀ c j a, ¬ ((c = 9 ∧ j = 4) ∨ c = 109 ∨ (c = 108 ∧ k ≤ j) ∨ (c = 192 ∧ ∃ m, k < m ∧ m < 7 ∧ a = ad 15 m)) → hI h' c j a = hI h c j a
theorem FJ.rf {ad : Ad} {k : Nat} {h : hp} : FJ ad k h h := ⟨fun _ => rfl, fun _ _ _ => rfl, fun _ _ _ => rfl, fun _ _ _ _ => rfl⟩
theorem FJ.tr {ad : Ad} {k : Nat} {h h1 h2 : hp} (a : FJ ad k h h1) (b : FJ ad k h1 h2) : FJ ad k h h2 := ⟨fun x => (b.1 x).trans (a.1 x), fun c k x => (b.2.1 c k x).trans (a.2.1 c k x), fun c k x => (b.2.2.1 c k x).trans (a.2.2.1 c k x), fun c j x z => (b.2.2.2 c j x z).trans (a.2.2.2 c j x z)⟩
theorem FJ.i {ad : Ad} {k : Nat} {h h' : hp} (a : FJ ad k h h') {c j x : Nat} {v : Int32} (hs : (c = 9 ∧ j = 4) ∨ c = 109 ∨ (c = 108 ∧ k ≤ j) ∨ (c = 192 ∧ ∃ m, k < m ∧ m < 7 ∧ x = ad 15 m)) : FJ ad k h (sI h' c j x v) := by
  refine a.tr ⟨fun _ => rfl, fun _ _ _ => rfl, fun _ _ _ => rfl, fun c' k' x' hz => ?_⟩
  rw [hI_sI, if_neg]
  rintro ⟨rfl, rfl, rfl⟩
  exact hz hs
theorem FJ.up {ad : Ad} {k : Nat} {h h' : hp} (a : FJ ad (k + 1) h h') : FJ ad k h h' := by
  refine ⟨a.1, a.2.1, a.2.2.1, fun c j x hz => a.2.2.2 c j x (fun z => hz ?_)⟩
  rcases z with z | z | z | ⟨z, m, h1, h2⟩
  · exact Or.inl z
  · exact Or.inr (Or.inl z)
  · exact Or.inr (Or.inr (Or.inl ⟨z.1, by omega⟩))
  · exact Or.inr (Or.inr (Or.inr ⟨z, m, by omega, h2⟩))
theorem FJ.n {ad : Ad} {k : Nat} {h h' : hp} (a : FN ad k h h') : FJ ad k h h' := ⟨a.1, a.2.1, a.2.2.1, fun c j x hz => a.2.2.2 c j x (fun z => hz (Or.inr (Or.inr (Or.inr ⟨z.1, k + 1, by omega, z.2.1, z.2.2⟩))))⟩
theorem FJ.s {ad : Ad} {k : Nat} {h h' : hp} (f : FJ ad k h h') : F9 h h' := by
  refine ⟨f.1, f.2.1, f.2.2.1, fun c j a hz => f.2.2.2 c j a (fun z => hz ?_)⟩
  rcases z with z | z | z | z
  · exact Or.inr (Or.inr (Or.inr (Or.inr ⟨z.1, Or.inl z.2⟩)))
  · exact Or.inr (Or.inr (Or.inr (Or.inl z)))
  · exact Or.inr (Or.inr (Or.inl z.1))
  · exact Or.inr (Or.inl z.1)
def JS (h : hp) (ad : Ad) (s : Nat × (Nat → Int)) : Prop := hI h 9 4 (ad 8 5) = iI (s.1 : Nat) ∧ (0 < s.1 → ∀ p, p < 7 → hI h 109 p (ad 9 5) = iI (s.2 p))
def sr_X9_join : Nat → Spec
  | 0 => fun _ _ _ => False
  | n + 1 => fun as h K => ∃ (ad : Ad) (f : Ft) (o op : Nat → Int32) (k r : Nat) (v : Nat → Int) (lim : Nat) (s : Nat × (Nat → Int)), as = [.ref (ad 8 5), .int (iI (k : Nat))] ∧ RW h ad ∧ RF h ad f ∧ k + r = 7 ∧ r ≤ n ∧ (∀ j, k ≤ j → j < 7 → hI h 192 j (ad 15 k) = op j) ∧ JS h ad s ∧ hI h 9 5 (ad 8 5) = iI (lim : Nat) ∧ s.1 < lim ∧ lim ≤ 1001 ∧ (∀ i, i < k → hI h 108 i (ad 9 4) = iI (v i)) ∧ bx v ∧ NWI f o k v op ∧ okp f o k v ∧
    ∀ h', JS h' ad (rnL lim s (solL (PB7 f o) r k v)) → FJ ad k h h' → K none h'
def cl_X9_join (n : Nat) : Nat → Nat × Nat × Spec := fun q => if q = 901 then (0, 0, sp_copy) else if q = 49 then (0, 0, sp_X9_narrow) else if q = 48 then (0, 0, sr_X9_join n) else (0, 0, fun _ _ _ => False)
theorem cq_X9_join_901 (n : Nat) : cl_X9_join n 901 = (0, 0, sp_copy) := rfl
theorem cq_X9_join_49 (n : Nat) : cl_X9_join n 49 = (0, 0, sp_X9_narrow) := rfl
theorem cq_X9_join_48 (n : Nat) : cl_X9_join n 48 = (0, 0, sr_X9_join n) := rfl

theorem pf_X9_join (n : Nat) : PfM (cl_X9_join n) (0, 0) 0 3 bl_X9_join (sr_X9_join (n + 1)) := by
  rintro as h Q ⟨ad, f, o, op, k, r, v, lim, s, rfl, R, hf, hkr, hrn, hop, ⟨j1, j2⟩, hlim, hsl, hl1, hnow, hv, nw, okk, hQ⟩
  refine ⟨Nat.le_of_ble_eq_true rfl, fun G hG => ?_⟩
  have oS := wo_11_11 R
  cases r with
  | zero =>
    have hk7 : k = 7 := by omega
    subst hk7
    have hP : PB7 f o v = true := PB7_iff.mpr ⟨fun j hj => (okk j hj).1, fun i j hij hj => (okk j hj).2 i hij⟩
    have hL : solL (PB7 f o) 0 7 v = [v] := by unfold solL; rw [hP]; rfl
    rw [hL] at hQ
    have hr1 : rnL lim s [v] = (s.1 + 1, if s.1 = 0 then v else s.2) := by
      unfold rnL
      refine Prod.ext ?_ ?_
      · show min lim (s.1 + 1) = s.1 + 1; omega
      · rfl
    rw [hr1] at hQ
    have e1 : (iI ((7 : Nat) : Int) < iI 7) = False := eq_false (by rw [iI_lt (by omega) (by omega)]; omega)
    have e1' : (iI 7 < iI 7) = False := e1
    have e2 : (iI (s.1 : Nat) = 0) = (s.1 = 0) := propext ((iI_eq0 (by omega)).trans (by omega))
    have t1 := wr_9_2 R
    have t2 := wt_9_2 R
    have t3 := wr_9_3 R
    have t4 := wt_9_3 R
    refine hG.1 0 _ _ _ _ ?_
    rw [bq_X9_join_0]
    simp only [bk_X9_join_0, wp_aconst_null, wp_iconst, wp_bipush, wp_sipush, wp_ldc, wp_ldc_w, wp_ldc2_w, wp_lconst, wp_iload, wp_iload_n, wp_lload, wp_lload_n, wp_aload, wp_aload_n, wp_istore, wp_istore_n, wp_lstore, wp_lstore_n, wp_astore, wp_astore_n, wp_iinc, wp_iadd, wp_isub, wp_imul, wp_iand, wp_ior, wp_ixor, wp_ishl, wp_ishr, wp_iushr, wp_idiv, wp_irem, wp_ineg, wp_ladd, wp_lsub, wp_lmul, wp_ldiv, wp_lrem, wp_lcmp, wp_i2l, wp_l2i, wp_pop, wp_dup, wp_dup2, wp_goto, wp_ifCond, wp_if_icmp, wp_ifnull, wp_ifnonnull, wp_tableswitch, wp_getfield, wp_putfield, wp_arraylength, wp_iaload, wp_baload, wp_laload, wp_aaload, wp_iastore, wp_bastore, wp_lastore, wp_aastore, wp_new, wp_newarray, wp_anewarray, wp_multianewarray, wp_invokevirtual, wp_invokespecial, wp_invokestatic, wp_ireturn, wp_lreturn, wp_areturn, wp_return_, wpL, ldI, ldJ, ldA, lk, sL, cL, i1, i2, l1, l2, r1, pA, p1, p2, ar, tyAt, rcv, rcr, oO, cmpI, Value.category, rf_some, rf_none, ak, kc, List.drop_succ_cons, List.drop_zero, List.drop_nil, List.take_succ_cons, List.take_zero, List.take_nil, List.head?_cons, List.reverse_cons, List.reverse_nil, List.nil_append, List.cons_append, List.length_cons, List.length_nil, Option.toList_some, Option.toList_none, hT_sI, hT_sJ, hT_sR, hI_sJ, hI_sR, hJ_sI, hJ_sR, hR_sI, hR_sJ, isO_sI, isO_sJ, isO_sR, iI_add, iI_sub, iI_mul, iI_neg, lv_args, Nat.reduceAdd, Nat.reduceEqDiff, Nat.reduceLeDiff, reduceIte, ite_true, ite_false, true_and, and_true, false_and, and_false, not_true, not_false_iff, or_true, true_or, false_or, or_false, imp_self, ne_eq, Classical.not_not, forall_const, true_implies, false_implies, if_pos, Nat.zero_add, Nat.add_zero, Nat.le_refl, Nat.reduceLT, iz00, iz01, iz10, iz11, ib0, ib1, ib01, reduceCtorEq, cq_X9_join_48, cq_X9_join_49, cq_X9_join_901, e1, e1', oS, j1, e2, t1, t3]
    refine ⟨fun c => ?_, fun c => ?_⟩
    · refine hG.1 28 _ _ _ _ ?_
      rw [bq_X9_join_28]
      simp only [bk_X9_join_28, wp_aconst_null, wp_iconst, wp_bipush, wp_sipush, wp_ldc, wp_ldc_w, wp_ldc2_w, wp_lconst, wp_iload, wp_iload_n, wp_lload, wp_lload_n, wp_aload, wp_aload_n, wp_istore, wp_istore_n, wp_lstore, wp_lstore_n, wp_astore, wp_astore_n, wp_iinc, wp_iadd, wp_isub, wp_imul, wp_iand, wp_ior, wp_ixor, wp_ishl, wp_ishr, wp_iushr, wp_idiv, wp_irem, wp_ineg, wp_ladd, wp_lsub, wp_lmul, wp_ldiv, wp_lrem, wp_lcmp, wp_i2l, wp_l2i, wp_pop, wp_dup, wp_dup2, wp_goto, wp_ifCond, wp_if_icmp, wp_ifnull, wp_ifnonnull, wp_tableswitch, wp_getfield, wp_putfield, wp_arraylength, wp_iaload, wp_baload, wp_laload, wp_aaload, wp_iastore, wp_bastore, wp_lastore, wp_aastore, wp_new, wp_newarray, wp_anewarray, wp_multianewarray, wp_invokevirtual, wp_invokespecial, wp_invokestatic, wp_ireturn, wp_lreturn, wp_areturn, wp_return_, wpL, ldI, ldJ, ldA, lk, sL, cL, i1, i2, l1, l2, r1, pA, p1, p2, ar, tyAt, rcv, rcr, oO, cmpI, Value.category, rf_some, rf_none, ak, kc, List.drop_succ_cons, List.drop_zero, List.drop_nil, List.take_succ_cons, List.take_zero, List.take_nil, List.head?_cons, List.reverse_cons, List.reverse_nil, List.nil_append, List.cons_append, List.length_cons, List.length_nil, Option.toList_some, Option.toList_none, hT_sI, hT_sJ, hT_sR, hI_sJ, hI_sR, hJ_sI, hJ_sR, hR_sI, hR_sJ, isO_sI, isO_sJ, isO_sR, iI_add, iI_sub, iI_mul, iI_neg, lv_args, Nat.reduceAdd, Nat.reduceEqDiff, Nat.reduceLeDiff, reduceIte, ite_true, ite_false, true_and, and_true, false_and, and_false, not_true, not_false_iff, or_true, true_or, false_or, or_false, imp_self, ne_eq, Classical.not_not, forall_const, true_implies, false_implies, if_pos, Nat.zero_add, Nat.add_zero, Nat.le_refl, Nat.reduceLT, iz00, iz01, iz10, iz11, ib0, ib1, ib01, reduceCtorEq, cq_X9_join_48, cq_X9_join_49, cq_X9_join_901, oS, j1]
      rw [if_neg c] at hQ
      refine hQ _ ⟨?_, fun _ p hp => ?_⟩ (FJ.rf.i (Or.inl ⟨rfl, rfl⟩))
      · rw [hI_sI, if_pos ⟨rfl, rfl, rfl⟩]; congr 1
      · rw [hI_sI, if_neg (by omega)]; exact j2 (by omega) p hp
    · have c' : s.1 = 0 := by simpa using c
      rw [if_pos c'] at hQ
      refine ⟨108, ad 9 4, 109, ad 9 5, 7, 7, 7, rfl, t2, t4, by decide, by decide, by omega, by omega, by omega, ?_⟩
      have oS' : isO (cpI h 108 (ad 9 4) 109 (ad 9 5) 7) (ad 8 5) 9 := oS
      have j1' : hI (cpI h 108 (ad 9 4) 109 (ad 9 5) 7) 9 4 (ad 8 5) = iI (s.1 : Nat) := by rw [hI_cpI, if_neg (by omega)]; exact j1
      simp only [wp_aconst_null, wp_iconst, wp_bipush, wp_sipush, wp_ldc, wp_ldc_w, wp_ldc2_w, wp_lconst, wp_iload, wp_iload_n, wp_lload, wp_lload_n, wp_aload, wp_aload_n, wp_istore, wp_istore_n, wp_lstore, wp_lstore_n, wp_astore, wp_astore_n, wp_iinc, wp_iadd, wp_isub, wp_imul, wp_iand, wp_ior, wp_ixor, wp_ishl, wp_ishr, wp_iushr, wp_idiv, wp_irem, wp_ineg, wp_ladd, wp_lsub, wp_lmul, wp_ldiv, wp_lrem, wp_lcmp, wp_i2l, wp_l2i, wp_pop, wp_dup, wp_dup2, wp_goto, wp_ifCond, wp_if_icmp, wp_ifnull, wp_ifnonnull, wp_tableswitch, wp_getfield, wp_putfield, wp_arraylength, wp_iaload, wp_baload, wp_laload, wp_aaload, wp_iastore, wp_bastore, wp_lastore, wp_aastore, wp_new, wp_newarray, wp_anewarray, wp_multianewarray, wp_invokevirtual, wp_invokespecial, wp_invokestatic, wp_ireturn, wp_lreturn, wp_areturn, wp_return_, wpL, ldI, ldJ, ldA, lk, sL, cL, i1, i2, l1, l2, r1, pA, p1, p2, ar, tyAt, rcv, rcr, oO, cmpI, Value.category, rf_some, rf_none, ak, kc, List.drop_succ_cons, List.drop_zero, List.drop_nil, List.take_succ_cons, List.take_zero, List.take_nil, List.head?_cons, List.reverse_cons, List.reverse_nil, List.nil_append, List.cons_append, List.length_cons, List.length_nil, Option.toList_some, Option.toList_none, hT_sI, hT_sJ, hT_sR, hI_sJ, hI_sR, hJ_sI, hJ_sR, hR_sI, hR_sJ, isO_sI, isO_sJ, isO_sR, iI_add, iI_sub, iI_mul, iI_neg, lv_args, Nat.reduceAdd, Nat.reduceEqDiff, Nat.reduceLeDiff, reduceIte, ite_true, ite_false, true_and, and_true, false_and, and_false, not_true, not_false_iff, or_true, true_or, false_or, or_false, imp_self, ne_eq, Classical.not_not, forall_const, true_implies, false_implies, if_pos, Nat.zero_add, Nat.add_zero, Nat.le_refl, Nat.reduceLT, iz00, iz01, iz10, iz11, ib0, ib1, ib01, reduceCtorEq, cq_X9_join_48, cq_X9_join_49, cq_X9_join_901]
      refine hG.1 28 _ _ _ _ ?_
      rw [bq_X9_join_28]
      simp only [bk_X9_join_28, wp_aconst_null, wp_iconst, wp_bipush, wp_sipush, wp_ldc, wp_ldc_w, wp_ldc2_w, wp_lconst, wp_iload, wp_iload_n, wp_lload, wp_lload_n, wp_aload, wp_aload_n, wp_istore, wp_istore_n, wp_lstore, wp_lstore_n, wp_astore, wp_astore_n, wp_iinc, wp_iadd, wp_isub, wp_imul, wp_iand, wp_ior, wp_ixor, wp_ishl, wp_ishr, wp_iushr, wp_idiv, wp_irem, wp_ineg, wp_ladd, wp_lsub, wp_lmul, wp_ldiv, wp_lrem, wp_lcmp, wp_i2l, wp_l2i, wp_pop, wp_dup, wp_dup2, wp_goto, wp_ifCond, wp_if_icmp, wp_ifnull, wp_ifnonnull, wp_tableswitch, wp_getfield, wp_putfield, wp_arraylength, wp_iaload, wp_baload, wp_laload, wp_aaload, wp_iastore, wp_bastore, wp_lastore, wp_aastore, wp_new, wp_newarray, wp_anewarray, wp_multianewarray, wp_invokevirtual, wp_invokespecial, wp_invokestatic, wp_ireturn, wp_lreturn, wp_areturn, wp_return_, wpL, ldI, ldJ, ldA, lk, sL, cL, i1, i2, l1, l2, r1, pA, p1, p2, ar, tyAt, rcv, rcr, oO, cmpI, Value.category, rf_some, rf_none, ak, kc, List.drop_succ_cons, List.drop_zero, List.drop_nil, List.take_succ_cons, List.take_zero, List.take_nil, List.head?_cons, List.reverse_cons, List.reverse_nil, List.nil_append, List.cons_append, List.length_cons, List.length_nil, Option.toList_some, Option.toList_none, hT_sI, hT_sJ, hT_sR, hI_sJ, hI_sR, hJ_sI, hJ_sR, hR_sI, hR_sJ, isO_sI, isO_sJ, isO_sR, iI_add, iI_sub, iI_mul, iI_neg, lv_args, Nat.reduceAdd, Nat.reduceEqDiff, Nat.reduceLeDiff, reduceIte, ite_true, ite_false, true_and, and_true, false_and, and_false, not_true, not_false_iff, or_true, true_or, false_or, or_false, imp_self, ne_eq, Classical.not_not, forall_const, true_implies, false_implies, if_pos, Nat.zero_add, Nat.add_zero, Nat.le_refl, Nat.reduceLT, iz00, iz01, iz10, iz11, ib0, ib1, ib01, reduceCtorEq, cq_X9_join_48, cq_X9_join_49, cq_X9_join_901, oS', j1']
      have FC : FJ ad 7 h (cpI h 108 (ad 9 4) 109 (ad 9 5) 7) := ⟨fun _ => rfl, fun _ _ _ => rfl, fun _ _ _ => rfl, fun c j a hz => by rw [hI_cpI, if_neg (fun z => hz (Or.inr (Or.inl z.1)))]⟩
      refine hQ _ ⟨?_, fun _ p hp => ?_⟩ (FC.i (Or.inl ⟨rfl, rfl⟩))
      · rw [hI_sI, if_pos ⟨rfl, rfl, rfl⟩]; congr 1
      · rw [hI_sI, if_neg (by omega), hI_cpI, if_pos ⟨rfl, rfl, hp⟩]; exact hnow p hp
  | succ r =>
    obtain ⟨n', rfl⟩ : ∃ n', n = n' + 1 := ⟨n - 1, by omega⟩
    have hk : k < 7 := by omega
    have e1 : (iI (k : Nat) < iI 7) = True := eq_true (by rw [iI_lt (by omega) (by omega)]; omega)
    have hlim1 : 1 ≤ lim := by omega
    have in1 : vp_in (iI (k : Nat)) 7 := iI_in (by omega) (by omega)
    have n1 : (iI (k : Nat)).toNatClampNeg = k := by rw [iI_cl (by omega)]; omega
    have out : ∀ (h' : hp) (L : Lc), JS h' ad (rnL lim s (solL (PB7 f o) (r + 1) k v)) → FJ ad k h h' → G 107 L [] h' (0, 0) := by
      intro h' L a1 a2
      refine hG.1 107 _ _ _ _ ?_
      rw [bq_X9_join_107]
      simp only [bk_X9_join_107, wp_aconst_null, wp_iconst, wp_bipush, wp_sipush, wp_ldc, wp_ldc_w, wp_ldc2_w, wp_lconst, wp_iload, wp_iload_n, wp_lload, wp_lload_n, wp_aload, wp_aload_n, wp_istore, wp_istore_n, wp_lstore, wp_lstore_n, wp_astore, wp_astore_n, wp_iinc, wp_iadd, wp_isub, wp_imul, wp_iand, wp_ior, wp_ixor, wp_ishl, wp_ishr, wp_iushr, wp_idiv, wp_irem, wp_ineg, wp_ladd, wp_lsub, wp_lmul, wp_ldiv, wp_lrem, wp_lcmp, wp_i2l, wp_l2i, wp_pop, wp_dup, wp_dup2, wp_goto, wp_ifCond, wp_if_icmp, wp_ifnull, wp_ifnonnull, wp_tableswitch, wp_getfield, wp_putfield, wp_arraylength, wp_iaload, wp_baload, wp_laload, wp_aaload, wp_iastore, wp_bastore, wp_lastore, wp_aastore, wp_new, wp_newarray, wp_anewarray, wp_multianewarray, wp_invokevirtual, wp_invokespecial, wp_invokestatic, wp_ireturn, wp_lreturn, wp_areturn, wp_return_, wpL, ldI, ldJ, ldA, lk, sL, cL, i1, i2, l1, l2, r1, pA, p1, p2, ar, tyAt, rcv, rcr, oO, cmpI, Value.category, rf_some, rf_none, ak, kc, List.drop_succ_cons, List.drop_zero, List.drop_nil, List.take_succ_cons, List.take_zero, List.take_nil, List.head?_cons, List.reverse_cons, List.reverse_nil, List.nil_append, List.cons_append, List.length_cons, List.length_nil, Option.toList_some, Option.toList_none, hT_sI, hT_sJ, hT_sR, hI_sJ, hI_sR, hJ_sI, hJ_sR, hR_sI, hR_sJ, isO_sI, isO_sJ, isO_sR, iI_add, iI_sub, iI_mul, iI_neg, lv_args, Nat.reduceAdd, Nat.reduceEqDiff, Nat.reduceLeDiff, reduceIte, ite_true, ite_false, true_and, and_true, false_and, and_false, not_true, not_false_iff, or_true, true_or, false_or, or_false, imp_self, ne_eq, Classical.not_not, forall_const, true_implies, false_implies, if_pos, Nat.zero_add, Nat.add_zero, Nat.le_refl, Nat.reduceLT, iz00, iz01, iz10, iz11, ib0, ib1, ib01, reduceCtorEq, cq_X9_join_48, cq_X9_join_49, cq_X9_join_901]
      exact hQ h' a1 a2
    have loop : ∀ (n m : Nat) (s2 : Nat × (Nat → Int)) (h' : hp), m + n = 13 → s2.1 ≤ lim → JS h' ad s2 → FJ ad k h h' → rnL lim s2 (lx (fun x => solL (PB7 f o) r (k + 1) (upF v k x)) n ((m : Int) - 6)) = rnL lim s (solL (PB7 f o) (r + 1) k v) → G 42 [(0, .ref (ad 8 5)), (1, .int (iI (k : Nat))), (2, .int (iI ((m : Int) - 6)))] [] h' (0, 0) := by
      intro n
      induction n with
      | zero =>
        intro m s2 h' hm hs js F he
        have e2 : (iI 6 < iI ((m : Int) - 6)) = True := eq_true ((iI_lt (by omega) (by omega)).mpr (by omega))
        refine hG.1 42 _ _ _ _ ?_
        rw [bq_X9_join_42]
        simp only [bk_X9_join_42, wp_aconst_null, wp_iconst, wp_bipush, wp_sipush, wp_ldc, wp_ldc_w, wp_ldc2_w, wp_lconst, wp_iload, wp_iload_n, wp_lload, wp_lload_n, wp_aload, wp_aload_n, wp_istore, wp_istore_n, wp_lstore, wp_lstore_n, wp_astore, wp_astore_n, wp_iinc, wp_iadd, wp_isub, wp_imul, wp_iand, wp_ior, wp_ixor, wp_ishl, wp_ishr, wp_iushr, wp_idiv, wp_irem, wp_ineg, wp_ladd, wp_lsub, wp_lmul, wp_ldiv, wp_lrem, wp_lcmp, wp_i2l, wp_l2i, wp_pop, wp_dup, wp_dup2, wp_goto, wp_ifCond, wp_if_icmp, wp_ifnull, wp_ifnonnull, wp_tableswitch, wp_getfield, wp_putfield, wp_arraylength, wp_iaload, wp_baload, wp_laload, wp_aaload, wp_iastore, wp_bastore, wp_lastore, wp_aastore, wp_new, wp_newarray, wp_anewarray, wp_multianewarray, wp_invokevirtual, wp_invokespecial, wp_invokestatic, wp_ireturn, wp_lreturn, wp_areturn, wp_return_, wpL, ldI, ldJ, ldA, lk, sL, cL, i1, i2, l1, l2, r1, pA, p1, p2, ar, tyAt, rcv, rcr, oO, cmpI, Value.category, rf_some, rf_none, ak, kc, List.drop_succ_cons, List.drop_zero, List.drop_nil, List.take_succ_cons, List.take_zero, List.take_nil, List.head?_cons, List.reverse_cons, List.reverse_nil, List.nil_append, List.cons_append, List.length_cons, List.length_nil, Option.toList_some, Option.toList_none, hT_sI, hT_sJ, hT_sR, hI_sJ, hI_sR, hJ_sI, hJ_sR, hR_sI, hR_sJ, isO_sI, isO_sJ, isO_sR, iI_add, iI_sub, iI_mul, iI_neg, lv_args, Nat.reduceAdd, Nat.reduceEqDiff, Nat.reduceLeDiff, reduceIte, ite_true, ite_false, true_and, and_true, false_and, and_false, not_true, not_false_iff, or_true, true_or, false_or, or_false, imp_self, ne_eq, Classical.not_not, forall_const, true_implies, false_implies, if_pos, Nat.zero_add, Nat.add_zero, Nat.le_refl, Nat.reduceLT, iz00, iz01, iz10, iz11, ib0, ib1, ib01, reduceCtorEq, cq_X9_join_48, cq_X9_join_49, cq_X9_join_901, e2]
        refine out h' _ ?_ F
        rw [← he]
        show JS h' ad (rnL lim s2 [])
        rw [rnL_nil hs]
        exact js
      | succ n ih =>
        intro m s2 h' hm hs js F he
        have e2 : (iI 6 < iI ((m : Int) - 6)) = False := eq_false (by rw [iI_lt (by omega) (by omega)]; omega)
        have R' := RW_fs F.s.s R
        have oS' := wo_11_11 R'
        have j1' := js.1
        have l5' : hI h' 9 5 (ad 8 5) = iI (lim : Nat) := by rw [F.2.2.2 _ _ _ (by omega)]; exact hlim
        have e3 : (iI (lim : Nat) ≤ iI (s2.1 : Nat)) = (lim ≤ s2.1) := propext ((iI_le (by omega) (by omega)).trans (by omega))
        have t3 := wr_9_1 R'
        have t4 := wt_9_1 R'
        obtain ⟨-, -, u3, u4⟩ := R'.fr hk
        have hrow : ∀ j, k ≤ j → j < 7 → hI h' 192 j (ad 15 k) = op j := by
          intro j h1 h2
          rw [F.2.2.2]
          · exact hop j h1 h2
          · rintro (z | z | z | ⟨-, mm, z1, z2, z3⟩)
            · omega
            · omega
            · omega
            · have := R.j15 hk z2 z3; omega
        have v1 := hrow k (Nat.le_refl _) hk
        have e4 : (m : Int) - 6 + 6 = (m : Int) := by omega
        have e5 := b32_t (n := m) (by omega) (op k)
        have hx : -6 ≤ (m : Int) - 6 ∧ (m : Int) - 6 ≤ 6 := by omega
        have hf' : RF h' ad f := by
          intro a b ha hb
          rw [F.2.2.2 _ _ _ (by omega)]
          exact hf a b ha hb
        have nxt : ∀ (s3 : Nat × (Nat → Int)) (h2 : hp), s3 = rnL lim s2 (solL (PB7 f o) r (k + 1) (upF v k ((m : Int) - 6))) → JS h2 ad s3 → FJ ad k h h2 → G 101 [(0, .ref (ad 8 5)), (1, .int (iI (k : Nat))), (2, .int (iI ((m : Int) - 6)))] [] h2 (0, 0) := by
          intro s3 h2 a1 a2 a3
          refine hG.1 101 _ _ _ _ ?_
          rw [bq_X9_join_101]
          simp only [bk_X9_join_101, wp_aconst_null, wp_iconst, wp_bipush, wp_sipush, wp_ldc, wp_ldc_w, wp_ldc2_w, wp_lconst, wp_iload, wp_iload_n, wp_lload, wp_lload_n, wp_aload, wp_aload_n, wp_istore, wp_istore_n, wp_lstore, wp_lstore_n, wp_astore, wp_astore_n, wp_iinc, wp_iadd, wp_isub, wp_imul, wp_iand, wp_ior, wp_ixor, wp_ishl, wp_ishr, wp_iushr, wp_idiv, wp_irem, wp_ineg, wp_ladd, wp_lsub, wp_lmul, wp_ldiv, wp_lrem, wp_lcmp, wp_i2l, wp_l2i, wp_pop, wp_dup, wp_dup2, wp_goto, wp_ifCond, wp_if_icmp, wp_ifnull, wp_ifnonnull, wp_tableswitch, wp_getfield, wp_putfield, wp_arraylength, wp_iaload, wp_baload, wp_laload, wp_aaload, wp_iastore, wp_bastore, wp_lastore, wp_aastore, wp_new, wp_newarray, wp_anewarray, wp_multianewarray, wp_invokevirtual, wp_invokespecial, wp_invokestatic, wp_ireturn, wp_lreturn, wp_areturn, wp_return_, wpL, ldI, ldJ, ldA, lk, sL, cL, i1, i2, l1, l2, r1, pA, p1, p2, ar, tyAt, rcv, rcr, oO, cmpI, Value.category, rf_some, rf_none, ak, kc, List.drop_succ_cons, List.drop_zero, List.drop_nil, List.take_succ_cons, List.take_zero, List.take_nil, List.head?_cons, List.reverse_cons, List.reverse_nil, List.nil_append, List.cons_append, List.length_cons, List.length_nil, Option.toList_some, Option.toList_none, hT_sI, hT_sJ, hT_sR, hI_sJ, hI_sR, hJ_sI, hJ_sR, hR_sI, hR_sJ, isO_sI, isO_sJ, isO_sR, iI_add, iI_sub, iI_mul, iI_neg, lv_args, Nat.reduceAdd, Nat.reduceEqDiff, Nat.reduceLeDiff, reduceIte, ite_true, ite_false, true_and, and_true, false_and, and_false, not_true, not_false_iff, or_true, true_or, false_or, or_false, imp_self, ne_eq, Classical.not_not, forall_const, true_implies, false_implies, if_pos, Nat.zero_add, Nat.add_zero, Nat.le_refl, Nat.reduceLT, iz00, iz01, iz10, iz11, ib0, ib1, ib01, reduceCtorEq, cq_X9_join_48, cq_X9_join_49, cq_X9_join_901]
          have q := ih (m + 1) s3 h2 (by omega) (by rw [a1]; exact rnL_le _ _) a2 a3 ?_
          · rw [show ((m + 1 : Nat) : Int) - 6 = (m : Int) - 6 + 1 by omega] at q
            exact q
          · rw [← he, a1, lx_s, rnL_app hlim1 hs, show ((m + 1 : Nat) : Int) - 6 = (m : Int) - 6 + 1 by omega]
        have dead : solL (PB7 f o) r (k + 1) (upF v k ((m : Int) - 6)) = [] → G 101 [(0, .ref (ad 8 5)), (1, .int (iI (k : Nat))), (2, .int (iI ((m : Int) - 6)))] [] h' (0, 0) := fun z => nxt s2 h' (by rw [z, rnL_nil hs]) js F
        refine hG.1 42 _ _ _ _ ?_
        rw [bq_X9_join_42]
        simp only [bk_X9_join_42, wp_aconst_null, wp_iconst, wp_bipush, wp_sipush, wp_ldc, wp_ldc_w, wp_ldc2_w, wp_lconst, wp_iload, wp_iload_n, wp_lload, wp_lload_n, wp_aload, wp_aload_n, wp_istore, wp_istore_n, wp_lstore, wp_lstore_n, wp_astore, wp_astore_n, wp_iinc, wp_iadd, wp_isub, wp_imul, wp_iand, wp_ior, wp_ixor, wp_ishl, wp_ishr, wp_iushr, wp_idiv, wp_irem, wp_ineg, wp_ladd, wp_lsub, wp_lmul, wp_ldiv, wp_lrem, wp_lcmp, wp_i2l, wp_l2i, wp_pop, wp_dup, wp_dup2, wp_goto, wp_ifCond, wp_if_icmp, wp_ifnull, wp_ifnonnull, wp_tableswitch, wp_getfield, wp_putfield, wp_arraylength, wp_iaload, wp_baload, wp_laload, wp_aaload, wp_iastore, wp_bastore, wp_lastore, wp_aastore, wp_new, wp_newarray, wp_anewarray, wp_multianewarray, wp_invokevirtual, wp_invokespecial, wp_invokestatic, wp_ireturn, wp_lreturn, wp_areturn, wp_return_, wpL, ldI, ldJ, ldA, lk, sL, cL, i1, i2, l1, l2, r1, pA, p1, p2, ar, tyAt, rcv, rcr, oO, cmpI, Value.category, rf_some, rf_none, ak, kc, List.drop_succ_cons, List.drop_zero, List.drop_nil, List.take_succ_cons, List.take_zero, List.take_nil, List.head?_cons, List.reverse_cons, List.reverse_nil, List.nil_append, List.cons_append, List.length_cons, List.length_nil, Option.toList_some, Option.toList_none, hT_sI, hT_sJ, hT_sR, hI_sJ, hI_sR, hJ_sI, hJ_sR, hR_sI, hR_sJ, isO_sI, isO_sJ, isO_sR, iI_add, iI_sub, iI_mul, iI_neg, lv_args, Nat.reduceAdd, Nat.reduceEqDiff, Nat.reduceLeDiff, reduceIte, ite_true, ite_false, true_and, and_true, false_and, and_false, not_true, not_false_iff, or_true, true_or, false_or, or_false, imp_self, ne_eq, Classical.not_not, forall_const, true_implies, false_implies, if_pos, Nat.zero_add, Nat.add_zero, Nat.le_refl, Nat.reduceLT, iz00, iz01, iz10, iz11, ib0, ib1, ib01, reduceCtorEq, cq_X9_join_48, cq_X9_join_49, cq_X9_join_901, e2, oS', j1', l5', e3, t3, t4, u3, u4, in1, n1, v1, e4, e5]
        refine ⟨fun c => ?_, fun c => ⟨fun d => ?_, fun d => ?_⟩⟩
        · refine out h' _ ?_ F
          rw [← he, rnL_full (by omega) hlim1]
          exact js
        · refine dead (solL_nil _ _ _ (bx_u hv k hx) (fun v' hv' ha => ?_))
          refine Bool.eq_false_iff.mpr (fun z => d ?_)
          obtain ⟨z1, z2⟩ := PB7_iff.mp z
          have ek : v' k = (m : Int) - 6 := by rw [ha k (by omega), upF_eq]
          have q := (nw k (Nat.le_refl _) hk ((m : Int) - 6) hx).mpr ⟨by rw [← ek]; exact z1 k hk, fun i hi => ?_⟩
          · rw [e4] at q
            exact q
          · have y := z2 i k hi hk
            rw [ek, ha i (by omega), upF_ne v _ (by omega)] at y
            exact y
        · refine ⟨ad, f, op, k, (m : Int) - 6, rfl, R', hf', hk, hx, hrow, fun h2 y hy hy0 hy1 FN' => ?_⟩
          have F2 : FJ ad k h h2 := F.tr (FJ.n FN')
          have hb : b32 (op k) ((m : Int) - 6 + 6).toNat = true := by rw [e4]; exact d
          simp only [wp_aconst_null, wp_iconst, wp_bipush, wp_sipush, wp_ldc, wp_ldc_w, wp_ldc2_w, wp_lconst, wp_iload, wp_iload_n, wp_lload, wp_lload_n, wp_aload, wp_aload_n, wp_istore, wp_istore_n, wp_lstore, wp_lstore_n, wp_astore, wp_astore_n, wp_iinc, wp_iadd, wp_isub, wp_imul, wp_iand, wp_ior, wp_ixor, wp_ishl, wp_ishr, wp_iushr, wp_idiv, wp_irem, wp_ineg, wp_ladd, wp_lsub, wp_lmul, wp_ldiv, wp_lrem, wp_lcmp, wp_i2l, wp_l2i, wp_pop, wp_dup, wp_dup2, wp_goto, wp_ifCond, wp_if_icmp, wp_ifnull, wp_ifnonnull, wp_tableswitch, wp_getfield, wp_putfield, wp_arraylength, wp_iaload, wp_baload, wp_laload, wp_aaload, wp_iastore, wp_bastore, wp_lastore, wp_aastore, wp_new, wp_newarray, wp_anewarray, wp_multianewarray, wp_invokevirtual, wp_invokespecial, wp_invokestatic, wp_ireturn, wp_lreturn, wp_areturn, wp_return_, wpL, ldI, ldJ, ldA, lk, sL, cL, i1, i2, l1, l2, r1, pA, p1, p2, ar, tyAt, rcv, rcr, oO, cmpI, Value.category, rf_some, rf_none, ak, kc, List.drop_succ_cons, List.drop_zero, List.drop_nil, List.take_succ_cons, List.take_zero, List.take_nil, List.head?_cons, List.reverse_cons, List.reverse_nil, List.nil_append, List.cons_append, List.length_cons, List.length_nil, Option.toList_some, Option.toList_none, hT_sI, hT_sJ, hT_sR, hI_sJ, hI_sR, hJ_sI, hJ_sR, hR_sI, hR_sJ, isO_sI, isO_sJ, isO_sR, iI_add, iI_sub, iI_mul, iI_neg, lv_args, Nat.reduceAdd, Nat.reduceEqDiff, Nat.reduceLeDiff, reduceIte, ite_true, ite_false, true_and, and_true, false_and, and_false, not_true, not_false_iff, or_true, true_or, false_or, or_false, imp_self, ne_eq, Classical.not_not, forall_const, true_implies, false_implies, if_pos, Nat.zero_add, Nat.add_zero, Nat.le_refl, Nat.reduceLT, iz00, iz01, iz10, iz11, ib0, ib1, ib01, reduceCtorEq, cq_X9_join_48, cq_X9_join_49, cq_X9_join_901]
          rcases hy with rfl | rfl
          · obtain ⟨j, g1, g2, g3⟩ := hy0 rfl
            refine hG.1 84 _ _ _ _ ?_
            rw [bq_X9_join_84]
            simp only [bk_X9_join_84, wp_aconst_null, wp_iconst, wp_bipush, wp_sipush, wp_ldc, wp_ldc_w, wp_ldc2_w, wp_lconst, wp_iload, wp_iload_n, wp_lload, wp_lload_n, wp_aload, wp_aload_n, wp_istore, wp_istore_n, wp_lstore, wp_lstore_n, wp_astore, wp_astore_n, wp_iinc, wp_iadd, wp_isub, wp_imul, wp_iand, wp_ior, wp_ixor, wp_ishl, wp_ishr, wp_iushr, wp_idiv, wp_irem, wp_ineg, wp_ladd, wp_lsub, wp_lmul, wp_ldiv, wp_lrem, wp_lcmp, wp_i2l, wp_l2i, wp_pop, wp_dup, wp_dup2, wp_goto, wp_ifCond, wp_if_icmp, wp_ifnull, wp_ifnonnull, wp_tableswitch, wp_getfield, wp_putfield, wp_arraylength, wp_iaload, wp_baload, wp_laload, wp_aaload, wp_iastore, wp_bastore, wp_lastore, wp_aastore, wp_new, wp_newarray, wp_anewarray, wp_multianewarray, wp_invokevirtual, wp_invokespecial, wp_invokestatic, wp_ireturn, wp_lreturn, wp_areturn, wp_return_, wpL, ldI, ldJ, ldA, lk, sL, cL, i1, i2, l1, l2, r1, pA, p1, p2, ar, tyAt, rcv, rcr, oO, cmpI, Value.category, rf_some, rf_none, ak, kc, List.drop_succ_cons, List.drop_zero, List.drop_nil, List.take_succ_cons, List.take_zero, List.take_nil, List.head?_cons, List.reverse_cons, List.reverse_nil, List.nil_append, List.cons_append, List.length_cons, List.length_nil, Option.toList_some, Option.toList_none, hT_sI, hT_sJ, hT_sR, hI_sJ, hI_sR, hJ_sI, hJ_sR, hR_sI, hR_sJ, isO_sI, isO_sJ, isO_sR, iI_add, iI_sub, iI_mul, iI_neg, lv_args, Nat.reduceAdd, Nat.reduceEqDiff, Nat.reduceLeDiff, reduceIte, ite_true, ite_false, true_and, and_true, false_and, and_false, not_true, not_false_iff, or_true, true_or, false_or, or_false, imp_self, ne_eq, Classical.not_not, forall_const, true_implies, false_implies, if_pos, Nat.zero_add, Nat.add_zero, Nat.le_refl, Nat.reduceLT, iz00, iz01, iz10, iz11, ib0, ib1, ib01, reduceCtorEq, cq_X9_join_48, cq_X9_join_49, cq_X9_join_901]
            refine nxt s2 h2 ?_ ⟨?_, fun z p hp => ?_⟩ F2
            · rw [solL_nil _ _ _ (bx_u hv k hx) (fun v' hv' ha => ?_), rnL_nil hs]
              refine Bool.eq_false_iff.mpr (fun z => ?_)
              obtain ⟨z1, z2⟩ := PB7_iff.mp z
              have q := ((NWI_s nw hx) j (by omega) g2 (v' j) (hv' j)).mpr ⟨z1 j g2, fun i hi => ?_⟩
              · rw [g3] at q
                have q2 : b32 (0 : Int32) (v' j + 6).toNat = false := b32_0 _
                rw [q2] at q
                cases q
              · rw [← ha i hi]
                exact z2 i j (by omega) g2
            · rw [FN'.2.2.2 _ _ _ (by omega)]; exact js.1
            · rw [FN'.2.2.2 _ _ _ (by omega)]; exact js.2 z p hp
          · have op2 := hy1 rfl
            have R2 := RW_fs F2.s.s R
            have oS2 := wo_11_11 R2
            have t5 := wr_9_2 R2
            have t6 := wt_9_2 R2
            have i1' : ((1 : Int32) = 0) = False := eq_false (by decide)
            refine hG.1 84 _ _ _ _ ?_
            rw [bq_X9_join_84]
            simp only [bk_X9_join_84, wp_aconst_null, wp_iconst, wp_bipush, wp_sipush, wp_ldc, wp_ldc_w, wp_ldc2_w, wp_lconst, wp_iload, wp_iload_n, wp_lload, wp_lload_n, wp_aload, wp_aload_n, wp_istore, wp_istore_n, wp_lstore, wp_lstore_n, wp_astore, wp_astore_n, wp_iinc, wp_iadd, wp_isub, wp_imul, wp_iand, wp_ior, wp_ixor, wp_ishl, wp_ishr, wp_iushr, wp_idiv, wp_irem, wp_ineg, wp_ladd, wp_lsub, wp_lmul, wp_ldiv, wp_lrem, wp_lcmp, wp_i2l, wp_l2i, wp_pop, wp_dup, wp_dup2, wp_goto, wp_ifCond, wp_if_icmp, wp_ifnull, wp_ifnonnull, wp_tableswitch, wp_getfield, wp_putfield, wp_arraylength, wp_iaload, wp_baload, wp_laload, wp_aaload, wp_iastore, wp_bastore, wp_lastore, wp_aastore, wp_new, wp_newarray, wp_anewarray, wp_multianewarray, wp_invokevirtual, wp_invokespecial, wp_invokestatic, wp_ireturn, wp_lreturn, wp_areturn, wp_return_, wpL, ldI, ldJ, ldA, lk, sL, cL, i1, i2, l1, l2, r1, pA, p1, p2, ar, tyAt, rcv, rcr, oO, cmpI, Value.category, rf_some, rf_none, ak, kc, List.drop_succ_cons, List.drop_zero, List.drop_nil, List.take_succ_cons, List.take_zero, List.take_nil, List.head?_cons, List.reverse_cons, List.reverse_nil, List.nil_append, List.cons_append, List.length_cons, List.length_nil, Option.toList_some, Option.toList_none, hT_sI, hT_sJ, hT_sR, hI_sJ, hI_sR, hJ_sI, hJ_sR, hR_sI, hR_sJ, isO_sI, isO_sJ, isO_sR, iI_add, iI_sub, iI_mul, iI_neg, lv_args, Nat.reduceAdd, Nat.reduceEqDiff, Nat.reduceLeDiff, reduceIte, ite_true, ite_false, true_and, and_true, false_and, and_false, not_true, not_false_iff, or_true, true_or, false_or, or_false, imp_self, ne_eq, Classical.not_not, forall_const, true_implies, false_implies, if_pos, Nat.zero_add, Nat.add_zero, Nat.le_refl, Nat.reduceLT, iz00, iz01, iz10, iz11, ib0, ib1, ib01, reduceCtorEq, cq_X9_join_48, cq_X9_join_49, cq_X9_join_901, oS2, t5, t6, in1, n1, i1']
            refine ⟨ad, f, o, nrL f op k ((m : Int) - 6), k + 1, r, upF v k ((m : Int) - 6), lim, s2, rfl, RW_fs (Fs.rf.i rfl) R2, ?_, by omega, by omega, fun j h1 h2' => ?_, ⟨?_, fun z p hp => ?_⟩, ?_, by omega, hl1, fun i hi => ?_, bx_u hv k hx, NWI_s nw hx, okp_s hk nw okk hx hb, fun h3 js3 F3 => ?_⟩
            · intro a b ha hb'
              rw [hI_sI, if_neg (by omega), FN'.2.2.2 _ _ _ (by omega)]
              exact hf' a b ha hb'
            · rw [hI_sI, if_neg (by omega)]
              exact op2 j (by omega) h2'
            · rw [hI_sI, if_neg (by omega), FN'.2.2.2 _ _ _ (by omega)]; exact js.1
            · rw [hI_sI, if_neg (by omega), FN'.2.2.2 _ _ _ (by omega)]; exact js.2 z p hp
            · rw [hI_sI, if_neg (by omega), FN'.2.2.2 _ _ _ (by omega)]; exact l5'
            · rw [hI_sI]
              by_cases z : i = k
              · rw [if_pos ⟨rfl, z, rfl⟩, z, upF_eq]
              · rw [if_neg (fun y => z y.2.1), upF_ne v _ z, FN'.2.2.2 _ _ _ (by omega), F.2.2.2 _ _ _ (by omega)]
                exact hnow i (by omega)
            · simp only [wp_aconst_null, wp_iconst, wp_bipush, wp_sipush, wp_ldc, wp_ldc_w, wp_ldc2_w, wp_lconst, wp_iload, wp_iload_n, wp_lload, wp_lload_n, wp_aload, wp_aload_n, wp_istore, wp_istore_n, wp_lstore, wp_lstore_n, wp_astore, wp_astore_n, wp_iinc, wp_iadd, wp_isub, wp_imul, wp_iand, wp_ior, wp_ixor, wp_ishl, wp_ishr, wp_iushr, wp_idiv, wp_irem, wp_ineg, wp_ladd, wp_lsub, wp_lmul, wp_ldiv, wp_lrem, wp_lcmp, wp_i2l, wp_l2i, wp_pop, wp_dup, wp_dup2, wp_goto, wp_ifCond, wp_if_icmp, wp_ifnull, wp_ifnonnull, wp_tableswitch, wp_getfield, wp_putfield, wp_arraylength, wp_iaload, wp_baload, wp_laload, wp_aaload, wp_iastore, wp_bastore, wp_lastore, wp_aastore, wp_new, wp_newarray, wp_anewarray, wp_multianewarray, wp_invokevirtual, wp_invokespecial, wp_invokestatic, wp_ireturn, wp_lreturn, wp_areturn, wp_return_, wpL, ldI, ldJ, ldA, lk, sL, cL, i1, i2, l1, l2, r1, pA, p1, p2, ar, tyAt, rcv, rcr, oO, cmpI, Value.category, rf_some, rf_none, ak, kc, List.drop_succ_cons, List.drop_zero, List.drop_nil, List.take_succ_cons, List.take_zero, List.take_nil, List.head?_cons, List.reverse_cons, List.reverse_nil, List.nil_append, List.cons_append, List.length_cons, List.length_nil, Option.toList_some, Option.toList_none, hT_sI, hT_sJ, hT_sR, hI_sJ, hI_sR, hJ_sI, hJ_sR, hR_sI, hR_sJ, isO_sI, isO_sJ, isO_sR, iI_add, iI_sub, iI_mul, iI_neg, lv_args, Nat.reduceAdd, Nat.reduceEqDiff, Nat.reduceLeDiff, reduceIte, ite_true, ite_false, true_and, and_true, false_and, and_false, not_true, not_false_iff, or_true, true_or, false_or, or_false, imp_self, ne_eq, Classical.not_not, forall_const, true_implies, false_implies, if_pos, Nat.zero_add, Nat.add_zero, Nat.le_refl, Nat.reduceLT, iz00, iz01, iz10, iz11, ib0, ib1, ib01, reduceCtorEq, cq_X9_join_48, cq_X9_join_49, cq_X9_join_901]
              exact nxt _ h3 rfl js3 ((F2.i (Or.inr (Or.inr (Or.inl ⟨rfl, Nat.le_refl _⟩)))).tr F3.up)
    refine hG.1 0 _ _ _ _ ?_
    rw [bq_X9_join_0]
    simp only [bk_X9_join_0, wp_aconst_null, wp_iconst, wp_bipush, wp_sipush, wp_ldc, wp_ldc_w, wp_ldc2_w, wp_lconst, wp_iload, wp_iload_n, wp_lload, wp_lload_n, wp_aload, wp_aload_n, wp_istore, wp_istore_n, wp_lstore, wp_lstore_n, wp_astore, wp_astore_n, wp_iinc, wp_iadd, wp_isub, wp_imul, wp_iand, wp_ior, wp_ixor, wp_ishl, wp_ishr, wp_iushr, wp_idiv, wp_irem, wp_ineg, wp_ladd, wp_lsub, wp_lmul, wp_ldiv, wp_lrem, wp_lcmp, wp_i2l, wp_l2i, wp_pop, wp_dup, wp_dup2, wp_goto, wp_ifCond, wp_if_icmp, wp_ifnull, wp_ifnonnull, wp_tableswitch, wp_getfield, wp_putfield, wp_arraylength, wp_iaload, wp_baload, wp_laload, wp_aaload, wp_iastore, wp_bastore, wp_lastore, wp_aastore, wp_new, wp_newarray, wp_anewarray, wp_multianewarray, wp_invokevirtual, wp_invokespecial, wp_invokestatic, wp_ireturn, wp_lreturn, wp_areturn, wp_return_, wpL, ldI, ldJ, ldA, lk, sL, cL, i1, i2, l1, l2, r1, pA, p1, p2, ar, tyAt, rcv, rcr, oO, cmpI, Value.category, rf_some, rf_none, ak, kc, List.drop_succ_cons, List.drop_zero, List.drop_nil, List.take_succ_cons, List.take_zero, List.take_nil, List.head?_cons, List.reverse_cons, List.reverse_nil, List.nil_append, List.cons_append, List.length_cons, List.length_nil, Option.toList_some, Option.toList_none, hT_sI, hT_sJ, hT_sR, hI_sJ, hI_sR, hJ_sI, hJ_sR, hR_sI, hR_sJ, isO_sI, isO_sJ, isO_sR, iI_add, iI_sub, iI_mul, iI_neg, lv_args, Nat.reduceAdd, Nat.reduceEqDiff, Nat.reduceLeDiff, reduceIte, ite_true, ite_false, true_and, and_true, false_and, and_false, not_true, not_false_iff, or_true, true_or, false_or, or_false, imp_self, ne_eq, Classical.not_not, forall_const, true_implies, false_implies, if_pos, Nat.zero_add, Nat.add_zero, Nat.le_refl, Nat.reduceLT, iz00, iz01, iz10, iz11, ib0, ib1, ib01, reduceCtorEq, cq_X9_join_48, cq_X9_join_49, cq_X9_join_901, e1]
    refine hG.1 39 _ _ _ _ ?_
    rw [bq_X9_join_39]
    simp only [bk_X9_join_39, wp_aconst_null, wp_iconst, wp_bipush, wp_sipush, wp_ldc, wp_ldc_w, wp_ldc2_w, wp_lconst, wp_iload, wp_iload_n, wp_lload, wp_lload_n, wp_aload, wp_aload_n, wp_istore, wp_istore_n, wp_lstore, wp_lstore_n, wp_astore, wp_astore_n, wp_iinc, wp_iadd, wp_isub, wp_imul, wp_iand, wp_ior, wp_ixor, wp_ishl, wp_ishr, wp_iushr, wp_idiv, wp_irem, wp_ineg, wp_ladd, wp_lsub, wp_lmul, wp_ldiv, wp_lrem, wp_lcmp, wp_i2l, wp_l2i, wp_pop, wp_dup, wp_dup2, wp_goto, wp_ifCond, wp_if_icmp, wp_ifnull, wp_ifnonnull, wp_tableswitch, wp_getfield, wp_putfield, wp_arraylength, wp_iaload, wp_baload, wp_laload, wp_aaload, wp_iastore, wp_bastore, wp_lastore, wp_aastore, wp_new, wp_newarray, wp_anewarray, wp_multianewarray, wp_invokevirtual, wp_invokespecial, wp_invokestatic, wp_ireturn, wp_lreturn, wp_areturn, wp_return_, wpL, ldI, ldJ, ldA, lk, sL, cL, i1, i2, l1, l2, r1, pA, p1, p2, ar, tyAt, rcv, rcr, oO, cmpI, Value.category, rf_some, rf_none, ak, kc, List.drop_succ_cons, List.drop_zero, List.drop_nil, List.take_succ_cons, List.take_zero, List.take_nil, List.head?_cons, List.reverse_cons, List.reverse_nil, List.nil_append, List.cons_append, List.length_cons, List.length_nil, Option.toList_some, Option.toList_none, hT_sI, hT_sJ, hT_sR, hI_sJ, hI_sR, hJ_sI, hJ_sR, hR_sI, hR_sJ, isO_sI, isO_sJ, isO_sR, iI_add, iI_sub, iI_mul, iI_neg, lv_args, Nat.reduceAdd, Nat.reduceEqDiff, Nat.reduceLeDiff, reduceIte, ite_true, ite_false, true_and, and_true, false_and, and_false, not_true, not_false_iff, or_true, true_or, false_or, or_false, imp_self, ne_eq, Classical.not_not, forall_const, true_implies, false_implies, if_pos, Nat.zero_add, Nat.add_zero, Nat.le_refl, Nat.reduceLT, iz00, iz01, iz10, iz11, ib0, ib1, ib01, reduceCtorEq, cq_X9_join_48, cq_X9_join_49, cq_X9_join_901]
    have q := loop 13 0 s h (by omega) (by omega) ⟨j1, j2⟩ FJ.rf rfl
    exact q
theorem vr_X9_join (g : GP) : ∀ n : Nat, Val g yX9_join prog_11_method_10_code 3 none (2 + n) (120 + 60 * n) 0 0 (sr_X9_join n)
  | 0 => fun _ _ _ h => absurd h (fun z => z)
  | n + 1 => val_of (own := RX9) (ini := false) (on := 9) (rs := rs_X9_join) (cl := cl_X9_join n) (rt := 0) (bl := bl_X9_join) (plainFor_of_name (by decide +kernel)) rfl (rok_X9 _) ck_X9_join (fun h => by cases h) rfl (List.forall_mem_cons.mpr ⟨caC (tb_in 741 (by decide +kernel) (by decide +kernel)) ⟨by omega, by omega⟩, List.forall_mem_cons.mpr ⟨caV (val_X9_narrow g) (tb_in 744 (by decide +kernel) (by decide +kernel)) (tb_in 746 (by decide +kernel) (by decide +kernel)) (tb_in 18 (by decide +kernel) (by decide +kernel)) (tb_in 747 (by decide +kernel) (by decide +kernel)) (tb_in 59 (by decide +kernel) (by decide +kernel)) ⟨by decide, by decide, by decide +kernel⟩ ⟨rfl, by decide⟩ ⟨by omega, by omega⟩, List.forall_mem_cons.mpr ⟨caV (vr_X9_join g n) (tb_in 737 (by decide +kernel) (by decide +kernel)) (tb_in 739 (by decide +kernel) (by decide +kernel)) (tb_in 17 (by decide +kernel) (by decide +kernel)) (tb_in 740 (by decide +kernel) (by decide +kernel)) (tb_in 59 (by decide +kernel) (by decide +kernel)) ⟨by decide, by decide, by decide +kernel⟩ ⟨rfl, by decide⟩ ⟨by omega, by omega⟩, (fun _ h => absurd h List.not_mem_nil)⟩⟩⟩) (pf_X9_join n)
def sp_X9_join : Spec := sr_X9_join 12
theorem val_X9_join (g : GP) : Val g yX9_join prog_11_method_10_code 3 none 14 840 0 0 sp_X9_join := vr_X9_join g 12

def cl_X9_waysUpTo : Nat → Nat × Nat × Spec := fun q => if q = 46 then (0, 0, sp_X9_settleByThirds) else if q = 48 then (0, 0, sp_X9_join) else (0, 0, fun _ _ _ => False)
theorem cq_X9_waysUpTo_46 : cl_X9_waysUpTo 46 = (0, 0, sp_X9_settleByThirds) := rfl
theorem cq_X9_waysUpTo_48 : cl_X9_waysUpTo 48 = (0, 0, sp_X9_join) := rfl

def sp_X9_waysUpTo : Spec := fun as h K => ∃ (ad : Ad) (f : Ft) (o : Nat → Int32) (most : Nat), as = [.ref (ad 8 5), .int (iI (most : Nat))] ∧ RW h ad ∧ RF h ad f ∧ fOK f ∧ (∀ j, j < 7 → hI h 192 j (ad 15 0) = o j) ∧ 1 ≤ most ∧ most ≤ 1001 ∧
  ∀ h' f', RF h' ad f' → fOK f' → (∀ v, bx v → (Vs f v ↔ Vs f' v)) → (∀ j, j < 7 → hI h' 192 j (ad 15 0) = o j) → (solL (PB7 f o) 7 0 (fun _ => 0) ≠ [] → ∀ p, p < 7 → hI h' 109 p (ad 9 5) = iI ((solL (PB7 f o) 7 0 (fun _ => 0)).headD (fun _ => 0) p)) → F9 h h' → K (some (.int (iI (min most (solL (PB7 f o) 7 0 (fun _ => 0)).length : Nat)))) h'
theorem bx_0 : bx (fun _ => 0) := fun _ => ⟨by show (-6 : Int) ≤ 0; decide, by show (0 : Int) ≤ 6; decide⟩
theorem pf_X9_waysUpTo : PfM cl_X9_waysUpTo (0, 0) 1 2 bl_X9_waysUpTo sp_X9_waysUpTo := by
  rintro as h Q ⟨ad, f, o, most, rfl, R, hf, fo, ho, hm1, hm2, hQ⟩
  refine ⟨Nat.le_of_ble_eq_true rfl, fun G hG => ?_⟩
  have oS := wo_11_11 R
  have F0' : F9 h (sI (sI h 9 4 (ad 8 5) (iI 0)) 9 5 (ad 8 5) (iI (most : Nat))) := (F9.rf.i (Or.inr (Or.inr (Or.inr (Or.inr ⟨rfl, Or.inl rfl⟩))))).i (Or.inr (Or.inr (Or.inr (Or.inr ⟨rfl, Or.inr rfl⟩))))
  refine hG.1 0 _ _ _ _ ?_
  rw [bq_X9_waysUpTo_0]
  simp only [bk_X9_waysUpTo_0, wp_aconst_null, wp_iconst, wp_bipush, wp_sipush, wp_ldc, wp_ldc_w, wp_ldc2_w, wp_lconst, wp_iload, wp_iload_n, wp_lload, wp_lload_n, wp_aload, wp_aload_n, wp_istore, wp_istore_n, wp_lstore, wp_lstore_n, wp_astore, wp_astore_n, wp_iinc, wp_iadd, wp_isub, wp_imul, wp_iand, wp_ior, wp_ixor, wp_ishl, wp_ishr, wp_iushr, wp_idiv, wp_irem, wp_ineg, wp_ladd, wp_lsub, wp_lmul, wp_ldiv, wp_lrem, wp_lcmp, wp_i2l, wp_l2i, wp_pop, wp_dup, wp_dup2, wp_goto, wp_ifCond, wp_if_icmp, wp_ifnull, wp_ifnonnull, wp_tableswitch, wp_getfield, wp_putfield, wp_arraylength, wp_iaload, wp_baload, wp_laload, wp_aaload, wp_iastore, wp_bastore, wp_lastore, wp_aastore, wp_new, wp_newarray, wp_anewarray, wp_multianewarray, wp_invokevirtual, wp_invokespecial, wp_invokestatic, wp_ireturn, wp_lreturn, wp_areturn, wp_return_, wpL, ldI, ldJ, ldA, lk, sL, cL, i1, i2, l1, l2, r1, pA, p1, p2, ar, tyAt, rcv, rcr, oO, cmpI, Value.category, rf_some, rf_none, ak, kc, List.drop_succ_cons, List.drop_zero, List.drop_nil, List.take_succ_cons, List.take_zero, List.take_nil, List.head?_cons, List.reverse_cons, List.reverse_nil, List.nil_append, List.cons_append, List.length_cons, List.length_nil, Option.toList_some, Option.toList_none, hT_sI, hT_sJ, hT_sR, hI_sJ, hI_sR, hJ_sI, hJ_sR, hR_sI, hR_sJ, isO_sI, isO_sJ, isO_sR, iI_add, iI_sub, iI_mul, iI_neg, lv_args, Nat.reduceAdd, Nat.reduceEqDiff, Nat.reduceLeDiff, reduceIte, ite_true, ite_false, true_and, and_true, false_and, and_false, not_true, not_false_iff, or_true, true_or, false_or, or_false, imp_self, ne_eq, Classical.not_not, forall_const, true_implies, false_implies, if_pos, Nat.zero_add, Nat.add_zero, Nat.le_refl, Nat.reduceLT, iz00, iz01, iz10, iz11, ib0, ib1, ib01, reduceCtorEq, cq_X9_waysUpTo_46, cq_X9_waysUpTo_48, oS]
  refine ⟨ad, f, rfl, RW_fs F0'.s R, fun i j hi hj => ?_, fo, fun h' f' x rf fo' eq hx hx0 FD' => ?_⟩
  · rw [hI_sI, if_neg (by omega), hI_sI, if_neg (by omega)]; exact hf i j hi hj
  · have F1 : F9 h h' := F0'.tr FD'.to
    have R1 := RW_fs F1.s R
    have oS1 := wo_11_11 R1
    have g4 : hI h' 9 4 (ad 8 5) = iI 0 := by rw [FD'.2.2.2 _ _ _ (by decide), hI_sI, if_neg (by omega), hI_sI, if_pos ⟨rfl, rfl, rfl⟩]
    have g5 : hI h' 9 5 (ad 8 5) = iI (most : Nat) := by rw [FD'.2.2.2 _ _ _ (by decide), hI_sI, if_pos ⟨rfl, rfl, rfl⟩]
    have ho1 : ∀ j, j < 7 → hI h' 192 j (ad 15 0) = o j := fun j hj => by rw [FD'.2.2.2 _ _ _ (by decide), hI_sI, if_neg (by omega), hI_sI, if_neg (by omega)]; exact ho j hj
    have eL : solL (PB7 f' o) 7 0 (fun _ => 0) = solL (PB7 f o) 7 0 (fun _ => 0) := by
      refine solL_c (fun v hv => ?_) 7 0 _ bx_0
      rw [Bool.eq_iff_iff, PB7_iff, PB7_iff, eq v hv]
    simp only [wp_aconst_null, wp_iconst, wp_bipush, wp_sipush, wp_ldc, wp_ldc_w, wp_ldc2_w, wp_lconst, wp_iload, wp_iload_n, wp_lload, wp_lload_n, wp_aload, wp_aload_n, wp_istore, wp_istore_n, wp_lstore, wp_lstore_n, wp_astore, wp_astore_n, wp_iinc, wp_iadd, wp_isub, wp_imul, wp_iand, wp_ior, wp_ixor, wp_ishl, wp_ishr, wp_iushr, wp_idiv, wp_irem, wp_ineg, wp_ladd, wp_lsub, wp_lmul, wp_ldiv, wp_lrem, wp_lcmp, wp_i2l, wp_l2i, wp_pop, wp_dup, wp_dup2, wp_goto, wp_ifCond, wp_if_icmp, wp_ifnull, wp_ifnonnull, wp_tableswitch, wp_getfield, wp_putfield, wp_arraylength, wp_iaload, wp_baload, wp_laload, wp_aaload, wp_iastore, wp_bastore, wp_lastore, wp_aastore, wp_new, wp_newarray, wp_anewarray, wp_multianewarray, wp_invokevirtual, wp_invokespecial, wp_invokestatic, wp_ireturn, wp_lreturn, wp_areturn, wp_return_, wpL, ldI, ldJ, ldA, lk, sL, cL, i1, i2, l1, l2, r1, pA, p1, p2, ar, tyAt, rcv, rcr, oO, cmpI, Value.category, rf_some, rf_none, ak, kc, List.drop_succ_cons, List.drop_zero, List.drop_nil, List.take_succ_cons, List.take_zero, List.take_nil, List.head?_cons, List.reverse_cons, List.reverse_nil, List.nil_append, List.cons_append, List.length_cons, List.length_nil, Option.toList_some, Option.toList_none, hT_sI, hT_sJ, hT_sR, hI_sJ, hI_sR, hJ_sI, hJ_sR, hR_sI, hR_sJ, isO_sI, isO_sJ, isO_sR, iI_add, iI_sub, iI_mul, iI_neg, lv_args, Nat.reduceAdd, Nat.reduceEqDiff, Nat.reduceLeDiff, reduceIte, ite_true, ite_false, true_and, and_true, false_and, and_false, not_true, not_false_iff, or_true, true_or, false_or, or_false, imp_self, ne_eq, Classical.not_not, forall_const, true_implies, false_implies, if_pos, Nat.zero_add, Nat.add_zero, Nat.le_refl, Nat.reduceLT, iz00, iz01, iz10, iz11, ib0, ib1, ib01, reduceCtorEq, cq_X9_waysUpTo_46, cq_X9_waysUpTo_48]
    rcases hx with rfl | rfl
    · have eN : solL (PB7 f o) 7 0 (fun _ => 0) = [] := solL_nil 7 0 _ bx_0 (fun v' hv' _ => Bool.eq_false_iff.mpr (fun z => hx0 rfl v' hv' (PB7_iff.mp z).2))
      refine hG.1 14 _ _ _ _ ?_
      rw [bq_X9_waysUpTo_14]
      simp only [bk_X9_waysUpTo_14, wp_aconst_null, wp_iconst, wp_bipush, wp_sipush, wp_ldc, wp_ldc_w, wp_ldc2_w, wp_lconst, wp_iload, wp_iload_n, wp_lload, wp_lload_n, wp_aload, wp_aload_n, wp_istore, wp_istore_n, wp_lstore, wp_lstore_n, wp_astore, wp_astore_n, wp_iinc, wp_iadd, wp_isub, wp_imul, wp_iand, wp_ior, wp_ixor, wp_ishl, wp_ishr, wp_iushr, wp_idiv, wp_irem, wp_ineg, wp_ladd, wp_lsub, wp_lmul, wp_ldiv, wp_lrem, wp_lcmp, wp_i2l, wp_l2i, wp_pop, wp_dup, wp_dup2, wp_goto, wp_ifCond, wp_if_icmp, wp_ifnull, wp_ifnonnull, wp_tableswitch, wp_getfield, wp_putfield, wp_arraylength, wp_iaload, wp_baload, wp_laload, wp_aaload, wp_iastore, wp_bastore, wp_lastore, wp_aastore, wp_new, wp_newarray, wp_anewarray, wp_multianewarray, wp_invokevirtual, wp_invokespecial, wp_invokestatic, wp_ireturn, wp_lreturn, wp_areturn, wp_return_, wpL, ldI, ldJ, ldA, lk, sL, cL, i1, i2, l1, l2, r1, pA, p1, p2, ar, tyAt, rcv, rcr, oO, cmpI, Value.category, rf_some, rf_none, ak, kc, List.drop_succ_cons, List.drop_zero, List.drop_nil, List.take_succ_cons, List.take_zero, List.take_nil, List.head?_cons, List.reverse_cons, List.reverse_nil, List.nil_append, List.cons_append, List.length_cons, List.length_nil, Option.toList_some, Option.toList_none, hT_sI, hT_sJ, hT_sR, hI_sJ, hI_sR, hJ_sI, hJ_sR, hR_sI, hR_sJ, isO_sI, isO_sJ, isO_sR, iI_add, iI_sub, iI_mul, iI_neg, lv_args, Nat.reduceAdd, Nat.reduceEqDiff, Nat.reduceLeDiff, reduceIte, ite_true, ite_false, true_and, and_true, false_and, and_false, not_true, not_false_iff, or_true, true_or, false_or, or_false, imp_self, ne_eq, Classical.not_not, forall_const, true_implies, false_implies, if_pos, Nat.zero_add, Nat.add_zero, Nat.le_refl, Nat.reduceLT, iz00, iz01, iz10, iz11, ib0, ib1, ib01, reduceCtorEq, cq_X9_waysUpTo_46, cq_X9_waysUpTo_48]
      refine hG.1 22 _ _ _ _ ?_
      rw [bq_X9_waysUpTo_22]
      simp only [bk_X9_waysUpTo_22, wp_aconst_null, wp_iconst, wp_bipush, wp_sipush, wp_ldc, wp_ldc_w, wp_ldc2_w, wp_lconst, wp_iload, wp_iload_n, wp_lload, wp_lload_n, wp_aload, wp_aload_n, wp_istore, wp_istore_n, wp_lstore, wp_lstore_n, wp_astore, wp_astore_n, wp_iinc, wp_iadd, wp_isub, wp_imul, wp_iand, wp_ior, wp_ixor, wp_ishl, wp_ishr, wp_iushr, wp_idiv, wp_irem, wp_ineg, wp_ladd, wp_lsub, wp_lmul, wp_ldiv, wp_lrem, wp_lcmp, wp_i2l, wp_l2i, wp_pop, wp_dup, wp_dup2, wp_goto, wp_ifCond, wp_if_icmp, wp_ifnull, wp_ifnonnull, wp_tableswitch, wp_getfield, wp_putfield, wp_arraylength, wp_iaload, wp_baload, wp_laload, wp_aaload, wp_iastore, wp_bastore, wp_lastore, wp_aastore, wp_new, wp_newarray, wp_anewarray, wp_multianewarray, wp_invokevirtual, wp_invokespecial, wp_invokestatic, wp_ireturn, wp_lreturn, wp_areturn, wp_return_, wpL, ldI, ldJ, ldA, lk, sL, cL, i1, i2, l1, l2, r1, pA, p1, p2, ar, tyAt, rcv, rcr, oO, cmpI, Value.category, rf_some, rf_none, ak, kc, List.drop_succ_cons, List.drop_zero, List.drop_nil, List.take_succ_cons, List.take_zero, List.take_nil, List.head?_cons, List.reverse_cons, List.reverse_nil, List.nil_append, List.cons_append, List.length_cons, List.length_nil, Option.toList_some, Option.toList_none, hT_sI, hT_sJ, hT_sR, hI_sJ, hI_sR, hJ_sI, hJ_sR, hR_sI, hR_sJ, isO_sI, isO_sJ, isO_sR, iI_add, iI_sub, iI_mul, iI_neg, lv_args, Nat.reduceAdd, Nat.reduceEqDiff, Nat.reduceLeDiff, reduceIte, ite_true, ite_false, true_and, and_true, false_and, and_false, not_true, not_false_iff, or_true, true_or, false_or, or_false, imp_self, ne_eq, Classical.not_not, forall_const, true_implies, false_implies, if_pos, Nat.zero_add, Nat.add_zero, Nat.le_refl, Nat.reduceLT, iz00, iz01, iz10, iz11, ib0, ib1, ib01, reduceCtorEq, cq_X9_waysUpTo_46, cq_X9_waysUpTo_48, oS1, g4]
      have q := hQ h' f' rf fo' eq ho1 (fun z => absurd eN z) F1
      rw [eN] at q
      rw [show min most ([] : List (Nat → Int)).length = 0 by simp] at q
      exact q
    · have i1' : ((1 : Int32) = 0) = False := eq_false (by decide)
      refine hG.1 14 _ _ _ _ ?_
      rw [bq_X9_waysUpTo_14]
      simp only [bk_X9_waysUpTo_14, wp_aconst_null, wp_iconst, wp_bipush, wp_sipush, wp_ldc, wp_ldc_w, wp_ldc2_w, wp_lconst, wp_iload, wp_iload_n, wp_lload, wp_lload_n, wp_aload, wp_aload_n, wp_istore, wp_istore_n, wp_lstore, wp_lstore_n, wp_astore, wp_astore_n, wp_iinc, wp_iadd, wp_isub, wp_imul, wp_iand, wp_ior, wp_ixor, wp_ishl, wp_ishr, wp_iushr, wp_idiv, wp_irem, wp_ineg, wp_ladd, wp_lsub, wp_lmul, wp_ldiv, wp_lrem, wp_lcmp, wp_i2l, wp_l2i, wp_pop, wp_dup, wp_dup2, wp_goto, wp_ifCond, wp_if_icmp, wp_ifnull, wp_ifnonnull, wp_tableswitch, wp_getfield, wp_putfield, wp_arraylength, wp_iaload, wp_baload, wp_laload, wp_aaload, wp_iastore, wp_bastore, wp_lastore, wp_aastore, wp_new, wp_newarray, wp_anewarray, wp_multianewarray, wp_invokevirtual, wp_invokespecial, wp_invokestatic, wp_ireturn, wp_lreturn, wp_areturn, wp_return_, wpL, ldI, ldJ, ldA, lk, sL, cL, i1, i2, l1, l2, r1, pA, p1, p2, ar, tyAt, rcv, rcr, oO, cmpI, Value.category, rf_some, rf_none, ak, kc, List.drop_succ_cons, List.drop_zero, List.drop_nil, List.take_succ_cons, List.take_zero, List.take_nil, List.head?_cons, List.reverse_cons, List.reverse_nil, List.nil_append, List.cons_append, List.length_cons, List.length_nil, Option.toList_some, Option.toList_none, hT_sI, hT_sJ, hT_sR, hI_sJ, hI_sR, hJ_sI, hJ_sR, hR_sI, hR_sJ, isO_sI, isO_sJ, isO_sR, iI_add, iI_sub, iI_mul, iI_neg, lv_args, Nat.reduceAdd, Nat.reduceEqDiff, Nat.reduceLeDiff, reduceIte, ite_true, ite_false, true_and, and_true, false_and, and_false, not_true, not_false_iff, or_true, true_or, false_or, or_false, imp_self, ne_eq, Classical.not_not, forall_const, true_implies, false_implies, if_pos, Nat.zero_add, Nat.add_zero, Nat.le_refl, Nat.reduceLT, iz00, iz01, iz10, iz11, ib0, ib1, ib01, reduceCtorEq, cq_X9_waysUpTo_46, cq_X9_waysUpTo_48, i1', oS1]
      refine ⟨ad, f', o, o, 0, 7, fun _ => 0, most, (0, fun _ => 0), rfl, R1, rf, by omega, by decide, fun j _ hj => ho1 j hj, ⟨g4, fun z => absurd z (by decide)⟩, g5, hm1, hm2, fun i hi => by omega, bx_0, fun j _ _ x _ => ⟨fun z => ⟨z, fun i hi => by omega⟩, fun z => z.1⟩, fun j hj => by omega, fun h2 js2 F2 => ?_⟩
      have F3 := F1.tr F2.s
      have oS2 := wo_11_11 (RW_fs F3.s R)
      rw [eL] at js2
      have er : rnL most (0, fun _ => 0) (solL (PB7 f o) 7 0 (fun _ => 0)) = (min most (solL (PB7 f o) 7 0 (fun _ => 0)).length, (solL (PB7 f o) 7 0 (fun _ => 0)).headD (fun _ => 0)) := by
        unfold rnL
        refine Prod.ext ?_ ?_
        · show min most (0 + _) = min most _; rw [Nat.zero_add]
        · rfl
      rw [er] at js2
      have k4 := js2.1
      dsimp only at k4
      simp only [wp_aconst_null, wp_iconst, wp_bipush, wp_sipush, wp_ldc, wp_ldc_w, wp_ldc2_w, wp_lconst, wp_iload, wp_iload_n, wp_lload, wp_lload_n, wp_aload, wp_aload_n, wp_istore, wp_istore_n, wp_lstore, wp_lstore_n, wp_astore, wp_astore_n, wp_iinc, wp_iadd, wp_isub, wp_imul, wp_iand, wp_ior, wp_ixor, wp_ishl, wp_ishr, wp_iushr, wp_idiv, wp_irem, wp_ineg, wp_ladd, wp_lsub, wp_lmul, wp_ldiv, wp_lrem, wp_lcmp, wp_i2l, wp_l2i, wp_pop, wp_dup, wp_dup2, wp_goto, wp_ifCond, wp_if_icmp, wp_ifnull, wp_ifnonnull, wp_tableswitch, wp_getfield, wp_putfield, wp_arraylength, wp_iaload, wp_baload, wp_laload, wp_aaload, wp_iastore, wp_bastore, wp_lastore, wp_aastore, wp_new, wp_newarray, wp_anewarray, wp_multianewarray, wp_invokevirtual, wp_invokespecial, wp_invokestatic, wp_ireturn, wp_lreturn, wp_areturn, wp_return_, wpL, ldI, ldJ, ldA, lk, sL, cL, i1, i2, l1, l2, r1, pA, p1, p2, ar, tyAt, rcv, rcr, oO, cmpI, Value.category, rf_some, rf_none, ak, kc, List.drop_succ_cons, List.drop_zero, List.drop_nil, List.take_succ_cons, List.take_zero, List.take_nil, List.head?_cons, List.reverse_cons, List.reverse_nil, List.nil_append, List.cons_append, List.length_cons, List.length_nil, Option.toList_some, Option.toList_none, hT_sI, hT_sJ, hT_sR, hI_sJ, hI_sR, hJ_sI, hJ_sR, hR_sI, hR_sJ, isO_sI, isO_sJ, isO_sR, iI_add, iI_sub, iI_mul, iI_neg, lv_args, Nat.reduceAdd, Nat.reduceEqDiff, Nat.reduceLeDiff, reduceIte, ite_true, ite_false, true_and, and_true, false_and, and_false, not_true, not_false_iff, or_true, true_or, false_or, or_false, imp_self, ne_eq, Classical.not_not, forall_const, true_implies, false_implies, if_pos, Nat.zero_add, Nat.add_zero, Nat.le_refl, Nat.reduceLT, iz00, iz01, iz10, iz11, ib0, ib1, ib01, reduceCtorEq, cq_X9_waysUpTo_46, cq_X9_waysUpTo_48]
      refine hG.1 22 _ _ _ _ ?_
      rw [bq_X9_waysUpTo_22]
      simp only [bk_X9_waysUpTo_22, wp_aconst_null, wp_iconst, wp_bipush, wp_sipush, wp_ldc, wp_ldc_w, wp_ldc2_w, wp_lconst, wp_iload, wp_iload_n, wp_lload, wp_lload_n, wp_aload, wp_aload_n, wp_istore, wp_istore_n, wp_lstore, wp_lstore_n, wp_astore, wp_astore_n, wp_iinc, wp_iadd, wp_isub, wp_imul, wp_iand, wp_ior, wp_ixor, wp_ishl, wp_ishr, wp_iushr, wp_idiv, wp_irem, wp_ineg, wp_ladd, wp_lsub, wp_lmul, wp_ldiv, wp_lrem, wp_lcmp, wp_i2l, wp_l2i, wp_pop, wp_dup, wp_dup2, wp_goto, wp_ifCond, wp_if_icmp, wp_ifnull, wp_ifnonnull, wp_tableswitch, wp_getfield, wp_putfield, wp_arraylength, wp_iaload, wp_baload, wp_laload, wp_aaload, wp_iastore, wp_bastore, wp_lastore, wp_aastore, wp_new, wp_newarray, wp_anewarray, wp_multianewarray, wp_invokevirtual, wp_invokespecial, wp_invokestatic, wp_ireturn, wp_lreturn, wp_areturn, wp_return_, wpL, ldI, ldJ, ldA, lk, sL, cL, i1, i2, l1, l2, r1, pA, p1, p2, ar, tyAt, rcv, rcr, oO, cmpI, Value.category, rf_some, rf_none, ak, kc, List.drop_succ_cons, List.drop_zero, List.drop_nil, List.take_succ_cons, List.take_zero, List.take_nil, List.head?_cons, List.reverse_cons, List.reverse_nil, List.nil_append, List.cons_append, List.length_cons, List.length_nil, Option.toList_some, Option.toList_none, hT_sI, hT_sJ, hT_sR, hI_sJ, hI_sR, hJ_sI, hJ_sR, hR_sI, hR_sJ, isO_sI, isO_sJ, isO_sR, iI_add, iI_sub, iI_mul, iI_neg, lv_args, Nat.reduceAdd, Nat.reduceEqDiff, Nat.reduceLeDiff, reduceIte, ite_true, ite_false, true_and, and_true, false_and, and_false, not_true, not_false_iff, or_true, true_or, false_or, or_false, imp_self, ne_eq, Classical.not_not, forall_const, true_implies, false_implies, if_pos, Nat.zero_add, Nat.add_zero, Nat.le_refl, Nat.reduceLT, iz00, iz01, iz10, iz11, ib0, ib1, ib01, reduceCtorEq, cq_X9_waysUpTo_46, cq_X9_waysUpTo_48, oS2, k4]
      refine hQ h2 f' (fun i j hi hj => ?_) fo' eq (fun j hj => ?_) (fun z => js2.2 ?_) F3
      · rw [F2.2.2.2 _ _ _ (by omega)]; exact rf i j hi hj
      · rw [F2.2.2.2]
        · exact ho1 j hj
        · rintro (z | z | z | ⟨-, mm, z1, z2, z3⟩)
          · omega
          · omega
          · omega
          · have := R.j15 (by omega) z2 z3; omega
      · have : 0 < (solL (PB7 f o) 7 0 (fun _ => 0)).length := List.length_pos_iff.mpr z
        show 0 < min most _
        omega
theorem val_X9_waysUpTo (g : GP) : Val g yX9_waysUpTo prog_11_method_4_code 2 (some .int) 15 900 0 0 sp_X9_waysUpTo := val_of (own := RX9) (ini := false) (on := 9) (rs := rs_X9_waysUpTo) (cl := cl_X9_waysUpTo) (rt := 1) (bl := bl_X9_waysUpTo) (plainFor_of_name (by decide +kernel)) rfl (rok_X9 _) ck_X9_waysUpTo (fun h => by cases h) rfl (List.forall_mem_cons.mpr ⟨caV (val_X9_settleByThirds g) (tb_in 730 (by decide +kernel) (by decide +kernel)) (tb_in 732 (by decide +kernel) (by decide +kernel)) (tb_in 16 (by decide +kernel) (by decide +kernel)) (tb_in 733 (by decide +kernel) (by decide +kernel)) (tb_in 59 (by decide +kernel) (by decide +kernel)) ⟨by decide, by decide, by decide +kernel⟩ ⟨rfl, by decide⟩ ⟨by decide, by decide⟩, List.forall_mem_cons.mpr ⟨caV (val_X9_join g) (tb_in 737 (by decide +kernel) (by decide +kernel)) (tb_in 739 (by decide +kernel) (by decide +kernel)) (tb_in 17 (by decide +kernel) (by decide +kernel)) (tb_in 740 (by decide +kernel) (by decide +kernel)) (tb_in 59 (by decide +kernel) (by decide +kernel)) ⟨by decide, by decide, by decide +kernel⟩ ⟨rfl, by decide⟩ ⟨by decide, by decide⟩, (fun _ h => absurd h List.not_mem_nil)⟩⟩) pf_X9_waysUpTo

def cl_X9_firstOf : Nat → Nat × Nat × Spec := fun q => (0, 0, fun _ _ _ => False)

def sp_X9_firstOf : Spec := fun as h K => ∃ (ad : Ad) (p : Nat), as = [.ref (ad 8 5), .int (iI (p : Nat))] ∧ RW h ad ∧ p < 7 ∧ K (some (.int (hI h 109 p (ad 9 5)))) h
theorem pf_X9_firstOf : PfM cl_X9_firstOf (0, 0) 1 2 bl_X9_firstOf sp_X9_firstOf := by
  rintro as h Q ⟨ad, p, rfl, R, hp, hQ⟩
  refine ⟨Nat.le_of_ble_eq_true rfl, fun G hG => ?_⟩
  have o := wo_11_11 R
  have t1 := wr_9_3 R
  have t2 := wt_9_3 R
  have in1 : vp_in (iI (p : Nat)) 7 := iI_in (by omega) (by omega)
  have n1 : (iI (p : Nat)).toNatClampNeg = p := by rw [iI_cl (by omega)]; omega
  refine hG.1 0 _ _ _ _ ?_
  rw [bq_X9_firstOf_0]
  simp only [bk_X9_firstOf_0, wp_aconst_null, wp_iconst, wp_bipush, wp_sipush, wp_ldc, wp_ldc_w, wp_ldc2_w, wp_lconst, wp_iload, wp_iload_n, wp_lload, wp_lload_n, wp_aload, wp_aload_n, wp_istore, wp_istore_n, wp_lstore, wp_lstore_n, wp_astore, wp_astore_n, wp_iinc, wp_iadd, wp_isub, wp_imul, wp_iand, wp_ior, wp_ixor, wp_ishl, wp_ishr, wp_iushr, wp_idiv, wp_irem, wp_ineg, wp_ladd, wp_lsub, wp_lmul, wp_ldiv, wp_lrem, wp_lcmp, wp_i2l, wp_l2i, wp_pop, wp_dup, wp_dup2, wp_goto, wp_ifCond, wp_if_icmp, wp_ifnull, wp_ifnonnull, wp_tableswitch, wp_getfield, wp_putfield, wp_arraylength, wp_iaload, wp_baload, wp_laload, wp_aaload, wp_iastore, wp_bastore, wp_lastore, wp_aastore, wp_new, wp_newarray, wp_anewarray, wp_multianewarray, wp_invokevirtual, wp_invokespecial, wp_invokestatic, wp_ireturn, wp_lreturn, wp_areturn, wp_return_, wpL, ldI, ldJ, ldA, lk, sL, cL, i1, i2, l1, l2, r1, pA, p1, p2, ar, tyAt, rcv, rcr, oO, cmpI, Value.category, rf_some, rf_none, ak, kc, List.drop_succ_cons, List.drop_zero, List.drop_nil, List.take_succ_cons, List.take_zero, List.take_nil, List.head?_cons, List.reverse_cons, List.reverse_nil, List.nil_append, List.cons_append, List.length_cons, List.length_nil, Option.toList_some, Option.toList_none, hT_sI, hT_sJ, hT_sR, hI_sJ, hI_sR, hJ_sI, hJ_sR, hR_sI, hR_sJ, isO_sI, isO_sJ, isO_sR, iI_add, iI_sub, iI_mul, iI_neg, lv_args, Nat.reduceAdd, Nat.reduceEqDiff, Nat.reduceLeDiff, reduceIte, ite_true, ite_false, true_and, and_true, false_and, and_false, not_true, not_false_iff, or_true, true_or, false_or, or_false, imp_self, ne_eq, Classical.not_not, forall_const, true_implies, false_implies, if_pos, Nat.zero_add, Nat.add_zero, Nat.le_refl, Nat.reduceLT, iz00, iz01, iz10, iz11, ib0, ib1, ib01, reduceCtorEq, o, t1, t2, in1, n1]
  exact hQ
theorem val_X9_firstOf (g : GP) : Val g yX9_firstOf prog_11_method_5_code 2 (some .int) 1 60 0 0 sp_X9_firstOf := val_of (own := RX9) (ini := false) (on := 9) (rs := rs_X9_firstOf) (cl := cl_X9_firstOf) (rt := 1) (bl := bl_X9_firstOf) (plainFor_of_name (by decide +kernel)) rfl (rok_X9 _) ck_X9_firstOf (fun h => by cases h) rfl ((fun _ h => absurd h List.not_mem_nil)) pf_X9_firstOf

