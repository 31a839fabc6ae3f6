/-! swaps -/
def us (x : Int32) (n : Int) : Int32 := (x.toUInt32 >>> ((iI n).toUInt32 &&& Int32.toUInt32 31)).toInt32
def bc1 (x : Int32) : Int32 := x - (us x 1 &&& iI 1431655765)
def bc2 (x : Int32) : Int32 := (x &&& iI 858993459) + (us x 2 &&& iI 858993459)
def bc3 (x : Int32) : Int32 := (x + us x 4) &&& iI 252645135
def bc4 (x : Int32) : Int32 := x + us x 8
def bc5 (x : Int32) : Int32 := x + us x 16
def bcI (x : Int32) : Int32 := bc5 (bc4 (bc3 (bc2 (bc1 x)))) &&& iI 63
def popc (m : Nat) : Nat := cntN (fun i => m.testBit i) 7
theorem bc_ok : ∀ m : Nat, m < 128 → bcI (iI (m : Nat)) = iI (popc m : Nat) := by decide +kernel
def cl_J6_bitCount_0f7a4 : Nat → Nat × Nat × Spec := fun q => (0, 0, fun _ _ _ => False)

def sp_J6_bitCount_0f7a4 : Spec := fun as h K => ∃ x, as = [.int x] ∧ K (some (.int (bcI x))) h
theorem pf_J6_bitCount_0f7a4 : PfM cl_J6_bitCount_0f7a4 (0, 0) 1 1 bl_J6_bitCount_0f7a4 sp_J6_bitCount_0f7a4 := by
  rintro as h Q ⟨x, rfl, hQ⟩
  refine ⟨Nat.le_of_ble_eq_true rfl, fun G hG => ?_⟩
  refine hG.1 0 _ _ _ _ ?_
  rw [bq_J6_bitCount_0f7a4_0]
  simp (maxSteps := 4000000) only [bk_J6_bitCount_0f7a4_0, wp_aconst_null, wp_iconst, wp_bipush, wp_sipush, wp_ldc, wp_ldc_w, wp_ldc2_w, wp_lconst, wp_iload, wp_iload_n, wp_lload, wp_lload_n, wp_aload, wp_aload_n, wp_istore, wp_istore_n, wp_lstore, wp_lstore_n, wp_astore, wp_astore_n, wp_iinc, wp_iadd, wp_isub, wp_imul, wp_iand, wp_ior, wp_ixor, wp_ishl, wp_ishr, wp_iushr, wp_idiv, wp_irem, wp_ineg, wp_ladd, wp_lsub, wp_lmul, wp_ldiv, wp_lrem, wp_lcmp, wp_i2l, wp_l2i, wp_pop, wp_dup, wp_dup2, wp_goto, wp_ifCond, wp_if_icmp, wp_ifnull, wp_ifnonnull, wp_tableswitch, wp_getfield, wp_putfield, wp_arraylength, wp_iaload, wp_baload, wp_laload, wp_aaload, wp_iastore, wp_bastore, wp_lastore, wp_aastore, wp_new, wp_newarray, wp_anewarray, wp_multianewarray, wp_invokevirtual, wp_invokespecial, wp_invokestatic, wp_ireturn, wp_lreturn, wp_areturn, wp_return_, wpL, ldI, ldJ, ldA, lk, sL, cL, i1, i2, l1, l2, r1, pA, p1, p2, ar, tyAt, rcv, rcr, oO, cmpI, Value.category, rf_some, rf_none, ak, kc, List.drop_succ_cons, List.drop_zero, List.drop_nil, List.take_succ_cons, List.take_zero, List.take_nil, List.head?_cons, List.reverse_cons, List.reverse_nil, List.nil_append, List.cons_append, List.length_cons, List.length_nil, Option.toList_some, Option.toList_none, hT_sI, hT_sJ, hT_sR, hI_sJ, hI_sR, hJ_sI, hJ_sR, hR_sI, hR_sJ, isO_sI, isO_sJ, isO_sR, iI_add, iI_sub, iI_mul, iI_neg, lv_args, Nat.reduceAdd, Nat.reduceEqDiff, Nat.reduceLeDiff, reduceIte, ite_true, ite_false, true_and, and_true, false_and, and_false, not_true, not_false_iff, or_true, true_or, false_or, or_false, imp_self, ne_eq, Classical.not_not, forall_const, true_implies, false_implies, if_pos, Nat.zero_add, Nat.add_zero, Nat.le_refl, Nat.reduceLT, iz00, iz01, iz10, iz11, ib0, ib1, ib01, reduceCtorEq]
  exact hQ
theorem val_J6_bitCount_0f7a4 (g : GP) : Val g yJ6_bitCount_0f7a4 prog_15_method_49_code 1 (some .int) 1 60 0 0 sp_J6_bitCount_0f7a4 := val_of (own := RJ6) (ini := false) (on := 99) (rs := rs_J6_bitCount_0f7a4) (cl := cl_J6_bitCount_0f7a4) (rt := 1) (bl := bl_J6_bitCount_0f7a4) (by decide +kernel) rfl (rok_J6 _) ck_J6_bitCount_0f7a4 (fun h => by cases h) rfl ((fun _ h => absurd h List.not_mem_nil)) pf_J6_bitCount_0f7a4

theorem ms_or : ∀ m : Nat, m < 128 → ∀ a : Nat, a < 7 → iI (m : Nat) ||| (iI 1 <<< (iI (a : Nat) &&& 31)) = iI ((m ||| 2 ^ a : Nat) : Nat) := by decide +kernel
theorem ms_t : ∀ m : Nat, m < 128 → ∀ a : Nat, a < 7 → (iI (m : Nat) >>> (iI (a : Nat) &&& 31) &&& iI 1 = 0 ↔ m.testBit a = false) := by decide +kernel
theorem ms_p : ∀ N : Nat, N < 8 → ∀ m : Nat, m < 128 → m + 1 < 2 ^ N → popc m < N := by decide +kernel
theorem ms_f : ∀ N : Nat, N < 8 → ∀ m : Nat, m < 128 → m < 2 ^ N → popc m < N → ∃ a, a < N ∧ m.testBit a = false := by decide +kernel
theorem ms_s : ∀ m : Nat, m < 128 → ∀ a : Nat, a < 7 → m.testBit a = false → popc (m ||| 2 ^ a) = popc m + 1 := by decide +kernel
theorem ms_l : ∀ N : Nat, N < 8 → ∀ m : Nat, m < 128 → ∀ a : Nat, a < N → m < 2 ^ N → m ||| 2 ^ a < 2 ^ N := by decide +kernel
theorem ms_g : ∀ m : Nat, m < 128 → ∀ a : Nat, a < 7 → m.testBit a = false → m < m ||| 2 ^ a := by decide +kernel
theorem ms_a : ∀ N : Nat, N < 8 → (iI 1 <<< (iI (N : Nat) &&& 31)) - iI 1 = iI ((2 ^ N : Nat) - 1 : Int) := by decide +kernel
theorem ms_2 : ∀ N : Nat, N < 8 → 1 ≤ 2 ^ N ∧ 2 ^ N ≤ 128 := by decide
def inP (st : St) : Nat → Bool := fun i => decide (st 1 i ≠ 0)
def nIn (st : St) : Nat := cntN (inP st) (st 0 0).toNat
def selS (st : St) (k : Nat) : Nat := (nthF (inP st) 7 0 k).toNat
theorem sel_hit {st : St} (w : WF st) {j : Nat} (h1 : (j : Int) < st 0 0) (h2 : inP st j = true) : selS st (cntN (inP st) j) = j := by
  have b0 := w.1.1
  have q := nthF_hit (inP st) h2 7 0 (by omega) (by omega)
  have z : cntN (inP st) 0 = 0 := rfl
  rw [z] at q
  unfold selS
  rw [show ((cntN (inP st) j : Nat) : Int) = ((cntN (inP st) j : Nat) : Int) - ((0 : Nat) : Int) by omega, q]
  rfl
theorem sel_ex {st : St} (w : WF st) {k : Nat} (hk : k < nIn st) : ((selS st k : Nat) : Int) < st 0 0 ∧ inP st (selS st k) = true ∧ cntN (inP st) (selS st k) = k := by
  have b0 := w.1.1
  obtain ⟨j, a1, a2, a3⟩ := cntN_ex (inP st) (st 0 0).toNat k hk
  have q := sel_hit w (j := j) (by omega) a2
  rw [a3] at q
  rw [q]
  exact ⟨by omega, a2, a3⟩
theorem nIn_le {st : St} (w : WF st) : nIn st < 8 := by
  have b0 := w.1.1
  have := cntN_le (inP st) (st 0 0).toNat
  unfold nIn
  omega
def SW (h : hp) (ad : Ad) (st : St) : Prop := hI h 10 1 (ad 8 6) = iI (nIn st : Nat) ∧ ∀ k, k < nIn st → hR h 29 k (ad 9 6) = some (ad 0 (selS st k))
def cosW (st : St) (L : Nat → Int) (m a : Nat) : Int := csS st (selS st (popc m)) (selS st a) + L (m ||| 2 ^ a)
def fbS (st : St) (L : Nat → Int) (m : Nat) : Nat → Nat × Int
  | 0 => (0, 1048576)
  | a + 1 => if m.testBit a = false ∧ cosW st L m a < (fbS st L m a).2 then (a, cosW st L m a) else fbS st L m a
def LB (L : Nat → Int) (B : Int) : Prop := ∀ x, 0 ≤ L x ∧ L x ≤ B
theorem cosW_rg {st : St} (w : WF st) {L : Nat → Int} {B : Int} (hL : LB L B) (m a : Nat) : 0 ≤ cosW st L m a ∧ cosW st L m a ≤ B + 243 := by
  have h1 := csS_rg w (selS st (popc m)) (selS st a)
  have h2 := hL (m ||| 2 ^ a)
  unfold cosW
  omega
theorem fbS_rg {st : St} (w : WF st) {L : Nat → Int} {B : Int} (hL : LB L B) (m : Nat) : ∀ n, 0 ≤ (fbS st L m n).2 ∧ (fbS st L m n).2 ≤ 1048576 := by
  intro n
  induction n with
  | zero => exact ⟨(by decide : (0 : Int) ≤ 1048576), Int.le_refl _⟩
  | succ n ih =>
    have := cosW_rg w hL m n
    unfold fbS
    split
    · dsimp only; omega
    · exact ih
theorem fbS_lt {st : St} {L : Nat → Int} (m : Nat) : ∀ n, (fbS st L m n).1 < n ∨ (fbS st L m n) = (0, 1048576) := by
  intro n
  induction n with
  | zero => exact Or.inr rfl
  | succ n ih =>
    unfold fbS
    split
    · exact Or.inl (Nat.lt_succ_self n)
    · rcases ih with q | q
      · exact Or.inl (by omega)
      · exact Or.inr q
theorem fbS_free {st : St} (w : WF st) {L : Nat → Int} {B : Int} (hL : LB L B) (hB : B ≤ 1000000) {m : Nat} : ∀ n, (∃ a, a < n ∧ m.testBit a = false) → (fbS st L m n).1 < n ∧ m.testBit (fbS st L m n).1 = false ∧ (fbS st L m n).2 = cosW st L m (fbS st L m n).1 := by
  intro n
  induction n with
  | zero => rintro ⟨a, ha, -⟩; omega
  | succ n ih =>
    rintro ⟨a, ha, hf⟩
    unfold fbS
    by_cases c : m.testBit n = false ∧ cosW st L m n < (fbS st L m n).2
    · rw [if_pos c]
      exact ⟨Nat.lt_succ_self n, c.1, rfl⟩
    · rw [if_neg c]
      by_cases d : ∃ a, a < n ∧ m.testBit a = false
      · obtain ⟨q1, q2, q3⟩ := ih d
        exact ⟨by omega, q2, q3⟩
      · exfalso
        have ea : a = n := Classical.byContradiction (fun z => d ⟨a, by omega, hf⟩)
        subst ea
        have b1 := cosW_rg w hL m a
        have nn : ∀ k, k ≤ a → fbS st L m k = (0, 1048576) := by
          intro k
          induction k with
          | zero => exact fun _ => rfl
          | succ k ik =>
            intro hk
            unfold fbS
            rw [if_neg (fun z => d ⟨k, by omega, z.1⟩)]
            exact ik (by omega)
        rw [nn a (Nat.le_refl _)] at c
        exact c ⟨hf, by dsimp only; omega⟩
/-- what the others cost at least, k sets below the full one -/
def lsA (st : St) (N : Nat) : Nat → Nat → Int
  | 0 => fun _ => 0
  | k + 1 => fun x => if x + (k + 2) = 2 ^ N then cosW st (lsA st N k) x (fbS st (lsA st N k) x N).1 else lsA st N k x
theorem lsA_B {st : St} (w : WF st) (N : Nat) : ∀ k : Nat, LB (lsA st N k) (243 * k) := by
  intro k
  induction k with
  | zero => exact fun x => ⟨Int.le_refl _, Int.le_refl _⟩
  | succ k ih =>
    intro x
    have h1 := cosW_rg w ih x (fbS st (lsA st N k) x N).1
    have h2 := ih x
    unfold lsA
    split <;> omega
def lsF (st : St) : Nat → Int := lsA st (nIn st) (2 ^ nIn st - 1)
/-- the holes that the first k have taken -/
def swT (st : St) : Nat → Nat
  | 0 => 0
  | k + 1 => swT st k ||| 2 ^ (fbS st (lsF st) (swT st k) (nIn st)).1
def swH (st : St) (k : Nat) : Nat := (fbS st (lsF st) (swT st k) (nIn st)).1
theorem lsF_B {st : St} (w : WF st) : LB (lsF st) 1000000 := by
  intro x
  have h1 := ms_2 _ (nIn_le w)
  have h2 := lsA_B w (nIn st) (2 ^ nIn st - 1) x
  unfold lsF
  omega
theorem swT_ok {st : St} (w : WF st) : ∀ k, k ≤ nIn st → swT st k < 2 ^ nIn st ∧ popc (swT st k) = k := by
  intro k
  induction k with
  | zero => intro _; exact ⟨by have := (ms_2 _ (nIn_le w)).1; exact this, by show popc 0 = 0; decide +kernel⟩
  | succ k ih =>
    intro hk
    obtain ⟨q1, q2⟩ := ih (by omega)
    have hN := nIn_le w
    have h2 := ms_2 _ hN
    obtain ⟨f1, f2, -⟩ := fbS_free w (lsF_B w) (by omega) (m := swT st k) (nIn st) (ms_f _ hN _ (by omega) q1 (by omega))
    unfold swT
    exact ⟨ms_l _ hN _ (by omega) _ f1 q1, by rw [ms_s _ (by omega) _ (by omega) f2, q2]⟩
theorem swH_ok {st : St} (w : WF st) {k : Nat} (hk : k < nIn st) : swH st k < nIn st ∧ (swT st k).testBit (swH st k) = false := by
  have hN := nIn_le w
  have h2 := ms_2 _ hN
  obtain ⟨q1, q2⟩ := swT_ok w k (by omega)
  obtain ⟨f1, f2, -⟩ := fbS_free w (lsF_B w) (by omega) (m := swT st k) (nIn st) (ms_f _ hN _ (by omega) q1 (by omega))
  exact ⟨f1, f2⟩
def cl_X10_costWith : Nat → Nat × Nat × Spec := fun q => if q = 191 then (0, 0, sp_J6_bitCount_0f7a4) else if q = 12 then (0, 0, sp_X3_costIn) else (0, 0, fun _ _ _ => False)
theorem cq_X10_costWith_191 : cl_X10_costWith 191 = (0, 0, sp_J6_bitCount_0f7a4) := rfl
theorem cq_X10_costWith_12 : cl_X10_costWith 12 = (0, 0, sp_X3_costIn) := rfl

def sp_X10_costWith : Spec := fun as h K => ∃ (ad : Ad) (st : St) (L : Nat → Int) (m a : Nat), as = [.ref (ad 8 6), .int (iI (m : Nat)), .int (iI (a : Nat))] ∧ RX h ad st ∧ WF st ∧ SW h ad st ∧ m < 128 ∧ popc m < nIn st ∧ a < nIn st ∧ hI h 110 (m ||| 2 ^ a) (ad 9 7) = iI (L (m ||| 2 ^ a)) ∧ K (some (.int (iI (cosW st L m a)))) h
theorem pf_X10_costWith : PfM cl_X10_costWith (0, 0) 1 3 bl_X10_costWith sp_X10_costWith := by
  rintro as h Q ⟨ad, st, L, m, a, rfl, R, w, sw, hm, hpm, ha, hl, hQ⟩
  refine ⟨Nat.le_of_ble_eq_true rfl, fun G hG => ?_⟩
  have hN := nIn_le w
  have o := wo_11_12 R.w
  have t1 := wr_10_0 R.w
  have t2 := wt_10_0 R.w
  have t3 := wr_10_2 R.w
  have t4 := wt_10_2 R.w
  have in1 : vp_in (iI (popc m : Nat)) 7 := iI_in (by omega) (by omega)
  have in2 : vp_in (iI (a : Nat)) 7 := iI_in (by omega) (by omega)
  have n1 : (iI (popc m : Nat)).toNatClampNeg = popc m := by rw [iI_cl (by omega)]; omega
  have n2 : (iI (a : Nat)).toNatClampNeg = a := by rw [iI_cl (by omega)]; omega
  have t5 := sw.2 _ hpm
  have t6 := sw.2 _ ha
  obtain ⟨s1, -, -⟩ := sel_ex w hpm
  obtain ⟨s2, -, -⟩ := sel_ex w ha
  have o1 := xo_0 R s1
  have ml := ms_l 7 (by omega) m hm a (by omega) hm
  have in3 : vp_in (iI ((m ||| 2 ^ a : Nat) : Nat)) 128 := iI_in (by omega) (by omega)
  have n3 : (iI ((m ||| 2 ^ a : Nat) : Nat)).toNatClampNeg = m ||| 2 ^ a := by rw [iI_cl (by omega)]; omega
  have eo := ms_or m hm a (by omega)
  refine hG.1 0 _ _ _ _ ?_
  rw [bq_X10_costWith_0]
  simp only [bk_X10_costWith_0, wp_aconst_null, wp_iconst, wp_bipush, wp_sipush, wp_ldc, wp_ldc_w, wp_ldc2_w, wp_lconst, wp_iload, wp_iload_n, wp_lload, wp_lload_n, wp_aload, wp_aload_n, wp_istore, wp_istore_n, wp_lstore, wp_lstore_n, wp_astore, wp_astore_n, wp_iinc, wp_iadd, wp_isub, wp_imul, wp_iand, wp_ior, wp_ixor, wp_ishl, wp_ishr, wp_iushr, wp_idiv, wp_irem, wp_ineg, wp_ladd, wp_lsub, wp_lmul, wp_ldiv, wp_lrem, wp_lcmp, wp_i2l, wp_l2i, wp_pop, wp_dup, wp_dup2, wp_goto, wp_ifCond, wp_if_icmp, wp_ifnull, wp_ifnonnull, wp_tableswitch, wp_getfield, wp_putfield, wp_arraylength, wp_iaload, wp_baload, wp_laload, wp_aaload, wp_iastore, wp_bastore, wp_lastore, wp_aastore, wp_new, wp_newarray, wp_anewarray, wp_multianewarray, wp_invokevirtual, wp_invokespecial, wp_invokestatic, wp_ireturn, wp_lreturn, wp_areturn, wp_return_, wpL, ldI, ldJ, ldA, lk, sL, cL, i1, i2, l1, l2, r1, pA, p1, p2, ar, tyAt, rcv, rcr, oO, cmpI, Value.category, rf_some, rf_none, ak, kc, List.drop_succ_cons, List.drop_zero, List.drop_nil, List.take_succ_cons, List.take_zero, List.take_nil, List.head?_cons, List.reverse_cons, List.reverse_nil, List.nil_append, List.cons_append, List.length_cons, List.length_nil, Option.toList_some, Option.toList_none, hT_sI, hT_sJ, hT_sR, hI_sJ, hI_sR, hJ_sI, hJ_sR, hR_sI, hR_sJ, isO_sI, isO_sJ, isO_sR, iI_add, iI_sub, iI_mul, iI_neg, lv_args, Nat.reduceAdd, Nat.reduceEqDiff, Nat.reduceLeDiff, reduceIte, ite_true, ite_false, true_and, and_true, false_and, and_false, not_true, not_false_iff, or_true, true_or, false_or, or_false, imp_self, ne_eq, Classical.not_not, forall_const, true_implies, false_implies, if_pos, Nat.zero_add, Nat.add_zero, Nat.le_refl, Nat.reduceLT, iz00, iz01, iz10, iz11, ib0, ib1, ib01, reduceCtorEq, cq_X10_costWith_12, cq_X10_costWith_191, o, t1]
  refine ⟨_, rfl, ?_⟩
  rw [bc_ok m hm]
  simp only [wp_aconst_null, wp_iconst, wp_bipush, wp_sipush, wp_ldc, wp_ldc_w, wp_ldc2_w, wp_lconst, wp_iload, wp_iload_n, wp_lload, wp_lload_n, wp_aload, wp_aload_n, wp_istore, wp_istore_n, wp_lstore, wp_lstore_n, wp_astore, wp_astore_n, wp_iinc, wp_iadd, wp_isub, wp_imul, wp_iand, wp_ior, wp_ixor, wp_ishl, wp_ishr, wp_iushr, wp_idiv, wp_irem, wp_ineg, wp_ladd, wp_lsub, wp_lmul, wp_ldiv, wp_lrem, wp_lcmp, wp_i2l, wp_l2i, wp_pop, wp_dup, wp_dup2, wp_goto, wp_ifCond, wp_if_icmp, wp_ifnull, wp_ifnonnull, wp_tableswitch, wp_getfield, wp_putfield, wp_arraylength, wp_iaload, wp_baload, wp_laload, wp_aaload, wp_iastore, wp_bastore, wp_lastore, wp_aastore, wp_new, wp_newarray, wp_anewarray, wp_multianewarray, wp_invokevirtual, wp_invokespecial, wp_invokestatic, wp_ireturn, wp_lreturn, wp_areturn, wp_return_, wpL, ldI, ldJ, ldA, lk, sL, cL, i1, i2, l1, l2, r1, pA, p1, p2, ar, tyAt, rcv, rcr, oO, cmpI, Value.category, rf_some, rf_none, ak, kc, List.drop_succ_cons, List.drop_zero, List.drop_nil, List.take_succ_cons, List.take_zero, List.take_nil, List.head?_cons, List.reverse_cons, List.reverse_nil, List.nil_append, List.cons_append, List.length_cons, List.length_nil, Option.toList_some, Option.toList_none, hT_sI, hT_sJ, hT_sR, hI_sJ, hI_sR, hJ_sI, hJ_sR, hR_sI, hR_sJ, isO_sI, isO_sJ, isO_sR, iI_add, iI_sub, iI_mul, iI_neg, lv_args, Nat.reduceAdd, Nat.reduceEqDiff, Nat.reduceLeDiff, reduceIte, ite_true, ite_false, true_and, and_true, false_and, and_false, not_true, not_false_iff, or_true, true_or, false_or, or_false, imp_self, ne_eq, Classical.not_not, forall_const, true_implies, false_implies, if_pos, Nat.zero_add, Nat.add_zero, Nat.le_refl, Nat.reduceLT, iz00, iz01, iz10, iz11, ib0, ib1, ib01, reduceCtorEq, cq_X10_costWith_12, cq_X10_costWith_191]
  refine hG.1 8 _ _ _ _ ?_
  rw [bq_X10_costWith_8]
  simp only [bk_X10_costWith_8, wp_aconst_null, wp_iconst, wp_bipush, wp_sipush, wp_ldc, wp_ldc_w, wp_ldc2_w, wp_lconst, wp_iload, wp_iload_n, wp_lload, wp_lload_n, wp_aload, wp_aload_n, wp_istore, wp_istore_n, wp_lstore, wp_lstore_n, wp_astore, wp_astore_n, wp_iinc, wp_iadd, wp_isub, wp_imul, wp_iand, wp_ior, wp_ixor, wp_ishl, wp_ishr, wp_iushr, wp_idiv, wp_irem, wp_ineg, wp_ladd, wp_lsub, wp_lmul, wp_ldiv, wp_lrem, wp_lcmp, wp_i2l, wp_l2i, wp_pop, wp_dup, wp_dup2, wp_goto, wp_ifCond, wp_if_icmp, wp_ifnull, wp_ifnonnull, wp_tableswitch, wp_getfield, wp_putfield, wp_arraylength, wp_iaload, wp_baload, wp_laload, wp_aaload, wp_iastore, wp_bastore, wp_lastore, wp_aastore, wp_new, wp_newarray, wp_anewarray, wp_multianewarray, wp_invokevirtual, wp_invokespecial, wp_invokestatic, wp_ireturn, wp_lreturn, wp_areturn, wp_return_, wpL, ldI, ldJ, ldA, lk, sL, cL, i1, i2, l1, l2, r1, pA, p1, p2, ar, tyAt, rcv, rcr, oO, cmpI, Value.category, rf_some, rf_none, ak, kc, List.drop_succ_cons, List.drop_zero, List.drop_nil, List.take_succ_cons, List.take_zero, List.take_nil, List.head?_cons, List.reverse_cons, List.reverse_nil, List.nil_append, List.cons_append, List.length_cons, List.length_nil, Option.toList_some, Option.toList_none, hT_sI, hT_sJ, hT_sR, hI_sJ, hI_sR, hJ_sI, hJ_sR, hR_sI, hR_sJ, isO_sI, isO_sJ, isO_sR, iI_add, iI_sub, iI_mul, iI_neg, lv_args, Nat.reduceAdd, Nat.reduceEqDiff, Nat.reduceLeDiff, reduceIte, ite_true, ite_false, true_and, and_true, false_and, and_false, not_true, not_false_iff, or_true, true_or, false_or, or_false, imp_self, ne_eq, Classical.not_not, forall_const, true_implies, false_implies, if_pos, Nat.zero_add, Nat.add_zero, Nat.le_refl, Nat.reduceLT, iz00, iz01, iz10, iz11, ib0, ib1, ib01, reduceCtorEq, cq_X10_costWith_12, cq_X10_costWith_191, o, t1, t2, in1, n1, t5, in2, n2, t6, o1]
  refine cost_x R w s1 s2 ?_
  simp only [wp_aconst_null, wp_iconst, wp_bipush, wp_sipush, wp_ldc, wp_ldc_w, wp_ldc2_w, wp_lconst, wp_iload, wp_iload_n, wp_lload, wp_lload_n, wp_aload, wp_aload_n, wp_istore, wp_istore_n, wp_lstore, wp_lstore_n, wp_astore, wp_astore_n, wp_iinc, wp_iadd, wp_isub, wp_imul, wp_iand, wp_ior, wp_ixor, wp_ishl, wp_ishr, wp_iushr, wp_idiv, wp_irem, wp_ineg, wp_ladd, wp_lsub, wp_lmul, wp_ldiv, wp_lrem, wp_lcmp, wp_i2l, wp_l2i, wp_pop, wp_dup, wp_dup2, wp_goto, wp_ifCond, wp_if_icmp, wp_ifnull, wp_ifnonnull, wp_tableswitch, wp_getfield, wp_putfield, wp_arraylength, wp_iaload, wp_baload, wp_laload, wp_aaload, wp_iastore, wp_bastore, wp_lastore, wp_aastore, wp_new, wp_newarray, wp_anewarray, wp_multianewarray, wp_invokevirtual, wp_invokespecial, wp_invokestatic, wp_ireturn, wp_lreturn, wp_areturn, wp_return_, wpL, ldI, ldJ, ldA, lk, sL, cL, i1, i2, l1, l2, r1, pA, p1, p2, ar, tyAt, rcv, rcr, oO, cmpI, Value.category, rf_some, rf_none, ak, kc, List.drop_succ_cons, List.drop_zero, List.drop_nil, List.take_succ_cons, List.take_zero, List.take_nil, List.head?_cons, List.reverse_cons, List.reverse_nil, List.nil_append, List.cons_append, List.length_cons, List.length_nil, Option.toList_some, Option.toList_none, hT_sI, hT_sJ, hT_sR, hI_sJ, hI_sR, hJ_sI, hJ_sR, hR_sI, hR_sJ, isO_sI, isO_sJ, isO_sR, iI_add, iI_sub, iI_mul, iI_neg, lv_args, Nat.reduceAdd, Nat.reduceEqDiff, Nat.reduceLeDiff, reduceIte, ite_true, ite_false, true_and, and_true, false_and, and_false, not_true, not_false_iff, or_true, true_or, false_or, or_false, imp_self, ne_eq, Classical.not_not, forall_const, true_implies, false_implies, if_pos, Nat.zero_add, Nat.add_zero, Nat.le_refl, Nat.reduceLT, iz00, iz01, iz10, iz11, ib0, ib1, ib01, reduceCtorEq, cq_X10_costWith_12, cq_X10_costWith_191]
  refine hG.1 18 _ _ _ _ ?_
  rw [bq_X10_costWith_18]
  simp only [bk_X10_costWith_18, wp_aconst_null, wp_iconst, wp_bipush, wp_sipush, wp_ldc, wp_ldc_w, wp_ldc2_w, wp_lconst, wp_iload, wp_iload_n, wp_lload, wp_lload_n, wp_aload, wp_aload_n, wp_istore, wp_istore_n, wp_lstore, wp_lstore_n, wp_astore, wp_astore_n, wp_iinc, wp_iadd, wp_isub, wp_imul, wp_iand, wp_ior, wp_ixor, wp_ishl, wp_ishr, wp_iushr, wp_idiv, wp_irem, wp_ineg, wp_ladd, wp_lsub, wp_lmul, wp_ldiv, wp_lrem, wp_lcmp, wp_i2l, wp_l2i, wp_pop, wp_dup, wp_dup2, wp_goto, wp_ifCond, wp_if_icmp, wp_ifnull, wp_ifnonnull, wp_tableswitch, wp_getfield, wp_putfield, wp_arraylength, wp_iaload, wp_baload, wp_laload, wp_aaload, wp_iastore, wp_bastore, wp_lastore, wp_aastore, wp_new, wp_newarray, wp_anewarray, wp_multianewarray, wp_invokevirtual, wp_invokespecial, wp_invokestatic, wp_ireturn, wp_lreturn, wp_areturn, wp_return_, wpL, ldI, ldJ, ldA, lk, sL, cL, i1, i2, l1, l2, r1, pA, p1, p2, ar, tyAt, rcv, rcr, oO, cmpI, Value.category, rf_some, rf_none, ak, kc, List.drop_succ_cons, List.drop_zero, List.drop_nil, List.take_succ_cons, List.take_zero, List.take_nil, List.head?_cons, List.reverse_cons, List.reverse_nil, List.nil_append, List.cons_append, List.length_cons, List.length_nil, Option.toList_some, Option.toList_none, hT_sI, hT_sJ, hT_sR, hI_sJ, hI_sR, hJ_sI, hJ_sR, hR_sI, hR_sJ, isO_sI, isO_sJ, isO_sR, iI_add, iI_sub, iI_mul, iI_neg, lv_args, Nat.reduceAdd, Nat.reduceEqDiff, Nat.reduceLeDiff, reduceIte, ite_true, ite_false, true_and, and_true, false_and, and_false, not_true, not_false_iff, or_true, true_or, false_or, or_false, imp_self, ne_eq, Classical.not_not, forall_const, true_implies, false_implies, if_pos, Nat.zero_add, Nat.add_zero, Nat.le_refl, Nat.reduceLT, iz00, iz01, iz10, iz11, ib0, ib1, ib01, reduceCtorEq, cq_X10_costWith_12, cq_X10_costWith_191, o, t3, t4, eo, in3, n3, hl]
  exact hQ
theorem val_X10_costWith (g : GP) : Val g yX10_costWith prog_12_method_5_code 3 (some .int) 3 180 0 0 sp_X10_costWith := val_of (own := RX10) (ini := false) (on := 10) (rs := rs_X10_costWith) (cl := cl_X10_costWith) (rt := 1) (bl := bl_X10_costWith) (plainFor_of_name (by decide +kernel)) rfl (rok_X10 _) ck_X10_costWith (fun h => by cases h) rfl (List.forall_mem_cons.mpr ⟨caS (val_J6_bitCount_0f7a4 g) (tb_in 796 (by decide +kernel) (by decide +kernel)) (tb_in 797 (by decide +kernel) (by decide +kernel)) (tb_in 798 (by decide +kernel) (by decide +kernel)) (tb_in 70 (by decide +kernel) (by decide +kernel)) ⟨by decide, by decide, by decide +kernel⟩ ⟨by decide, by decide⟩, List.forall_mem_cons.mpr ⟨caV (val_X3_costIn g) (tb_in 802 (by decide +kernel) (by decide +kernel)) (tb_in 773 (by decide +kernel) (by decide +kernel)) (tb_in 774 (by decide +kernel) (by decide +kernel)) (tb_in 775 (by decide +kernel) (by decide +kernel)) (tb_in 64 (by decide +kernel) (by decide +kernel)) ⟨by decide, by decide, by decide +kernel⟩ ⟨rfl, by decide⟩ ⟨by decide, by decide⟩, (fun _ h => absurd h List.not_mem_nil)⟩⟩) pf_X10_costWith

def cl_X10_firstBest : Nat → Nat × Nat × Spec := fun q => if q = 54 then (0, 0, sp_X10_costWith) else (0, 0, fun _ _ _ => False)
theorem cq_X10_firstBest_54 : cl_X10_firstBest 54 = (0, 0, sp_X10_costWith) := rfl

def sp_X10_firstBest : Spec := fun as h K => ∃ (ad : Ad) (st : St) (L : Nat → Int) (m : Nat), as = [.ref (ad 8 6), .int (iI (m : Nat))] ∧ RX h ad st ∧ WF st ∧ SW h ad st ∧ m < 128 ∧ popc m < nIn st ∧ LB L 1000000 ∧ (∀ a, a < nIn st → m.testBit a = false → hI h 110 (m ||| 2 ^ a) (ad 9 7) = iI (L (m ||| 2 ^ a))) ∧ K (some (.int (iI ((fbS st L m (nIn st)).1 : Nat)))) h
theorem pf_X10_firstBest : PfM cl_X10_firstBest (0, 0) 1 5 bl_X10_firstBest sp_X10_firstBest := by
  rintro as h Q ⟨ad, st, L, m, rfl, R, w, sw, hm, hpm, hL, hl, hQ⟩
  refine ⟨Nat.le_of_ble_eq_true rfl, fun G hG => ?_⟩
  have hN := nIn_le w
  have o := wo_11_12 R.w
  have c0 := sw.1
  have loop : ∀ (n a : Nat), a + n = nIn st → G 8 [(0, .ref (ad 8 6)), (1, .int (iI (m : Nat))), (2, .int (iI ((fbS st L m a).1 : Nat))), (3, .int (iI (fbS st L m a).2)), (4, .int (iI (a : Nat)))] [] h (0, 0) := by
    intro n
    induction n with
    | zero =>
      intro a ha
      have e1 : (iI (nIn st : Nat) ≤ iI (a : Nat)) = True := eq_true ((iI_le (by omega) (by omega)).mpr (by omega))
      refine hG.1 8 _ _ _ _ ?_
      rw [bq_X10_firstBest_8]
      simp only [bk_X10_firstBest_8, wp_aconst_null, wp_iconst, wp_bipush, wp_sipush, wp_ldc, wp_ldc_w, wp_ldc2_w, wp_lconst, wp_iload, wp_iload_n, wp_lload, wp_lload_n, wp_aload, wp_aload_n, wp_istore, wp_istore_n, wp_lstore, wp_lstore_n, wp_astore, wp_astore_n, wp_iinc, wp_iadd, wp_isub, wp_imul, wp_iand, wp_ior, wp_ixor, wp_ishl, wp_ishr, wp_iushr, wp_idiv, wp_irem, wp_ineg, wp_ladd, wp_lsub, wp_lmul, wp_ldiv, wp_lrem, wp_lcmp, wp_i2l, wp_l2i, wp_pop, wp_dup, wp_dup2, wp_goto, wp_ifCond, wp_if_icmp, wp_ifnull, wp_ifnonnull, wp_tableswitch, wp_getfield, wp_putfield, wp_arraylength, wp_iaload, wp_baload, wp_laload, wp_aaload, wp_iastore, wp_bastore, wp_lastore, wp_aastore, wp_new, wp_newarray, wp_anewarray, wp_multianewarray, wp_invokevirtual, wp_invokespecial, wp_invokestatic, wp_ireturn, wp_lreturn, wp_areturn, wp_return_, wpL, ldI, ldJ, ldA, lk, sL, cL, i1, i2, l1, l2, r1, pA, p1, p2, ar, tyAt, rcv, rcr, oO, cmpI, Value.category, rf_some, rf_none, ak, kc, List.drop_succ_cons, List.drop_zero, List.drop_nil, List.take_succ_cons, List.take_zero, List.take_nil, List.head?_cons, List.reverse_cons, List.reverse_nil, List.nil_append, List.cons_append, List.length_cons, List.length_nil, Option.toList_some, Option.toList_none, hT_sI, hT_sJ, hT_sR, hI_sJ, hI_sR, hJ_sI, hJ_sR, hR_sI, hR_sJ, isO_sI, isO_sJ, isO_sR, iI_add, iI_sub, iI_mul, iI_neg, lv_args, Nat.reduceAdd, Nat.reduceEqDiff, Nat.reduceLeDiff, reduceIte, ite_true, ite_false, true_and, and_true, false_and, and_false, not_true, not_false_iff, or_true, true_or, false_or, or_false, imp_self, ne_eq, Classical.not_not, forall_const, true_implies, false_implies, if_pos, Nat.zero_add, Nat.add_zero, Nat.le_refl, Nat.reduceLT, iz00, iz01, iz10, iz11, ib0, ib1, ib01, reduceCtorEq, cq_X10_firstBest_54, o, c0, e1]
      refine hG.1 54 _ _ _ _ ?_
      rw [bq_X10_firstBest_54]
      simp only [bk_X10_firstBest_54, wp_aconst_null, wp_iconst, wp_bipush, wp_sipush, wp_ldc, wp_ldc_w, wp_ldc2_w, wp_lconst, wp_iload, wp_iload_n, wp_lload, wp_lload_n, wp_aload, wp_aload_n, wp_istore, wp_istore_n, wp_lstore, wp_lstore_n, wp_astore, wp_astore_n, wp_iinc, wp_iadd, wp_isub, wp_imul, wp_iand, wp_ior, wp_ixor, wp_ishl, wp_ishr, wp_iushr, wp_idiv, wp_irem, wp_ineg, wp_ladd, wp_lsub, wp_lmul, wp_ldiv, wp_lrem, wp_lcmp, wp_i2l, wp_l2i, wp_pop, wp_dup, wp_dup2, wp_goto, wp_ifCond, wp_if_icmp, wp_ifnull, wp_ifnonnull, wp_tableswitch, wp_getfield, wp_putfield, wp_arraylength, wp_iaload, wp_baload, wp_laload, wp_aaload, wp_iastore, wp_bastore, wp_lastore, wp_aastore, wp_new, wp_newarray, wp_anewarray, wp_multianewarray, wp_invokevirtual, wp_invokespecial, wp_invokestatic, wp_ireturn, wp_lreturn, wp_areturn, wp_return_, wpL, ldI, ldJ, ldA, lk, sL, cL, i1, i2, l1, l2, r1, pA, p1, p2, ar, tyAt, rcv, rcr, oO, cmpI, Value.category, rf_some, rf_none, ak, kc, List.drop_succ_cons, List.drop_zero, List.drop_nil, List.take_succ_cons, List.take_zero, List.take_nil, List.head?_cons, List.reverse_cons, List.reverse_nil, List.nil_append, List.cons_append, List.length_cons, List.length_nil, Option.toList_some, Option.toList_none, hT_sI, hT_sJ, hT_sR, hI_sJ, hI_sR, hJ_sI, hJ_sR, hR_sI, hR_sJ, isO_sI, isO_sJ, isO_sR, iI_add, iI_sub, iI_mul, iI_neg, lv_args, Nat.reduceAdd, Nat.reduceEqDiff, Nat.reduceLeDiff, reduceIte, ite_true, ite_false, true_and, and_true, false_and, and_false, not_true, not_false_iff, or_true, true_or, false_or, or_false, imp_self, ne_eq, Classical.not_not, forall_const, true_implies, false_implies, if_pos, Nat.zero_add, Nat.add_zero, Nat.le_refl, Nat.reduceLT, iz00, iz01, iz10, iz11, ib0, ib1, ib01, reduceCtorEq, cq_X10_firstBest_54]
      rw [show a = nIn st by omega]
      exact hQ
    | succ n ih =>
      intro a ha
      have e1 : (iI (nIn st : Nat) ≤ iI (a : Nat)) = False := eq_false (by rw [iI_le (by omega) (by omega)]; omega)
      have e2 : (iI (m : Nat) >>> (iI (a : Nat) &&& 31) &&& iI 1 = 0) = (m.testBit a = false) := propext (ms_t m hm a (by omega))
      have g1 := fbS_rg w hL m a
      have g2 := cosW_rg w hL m a
      have e3 : (iI (fbS st L m a).2 ≤ iI (cosW st L m a)) = ¬ (cosW st L m a < (fbS st L m a).2) := propext ((iI_le (by omega) (by omega)).trans (by omega))
      have nxt : G 48 [(0, .ref (ad 8 6)), (1, .int (iI (m : Nat))), (2, .int (iI ((fbS st L m (a + 1)).1 : Nat))), (3, .int (iI (fbS st L m (a + 1)).2)), (4, .int (iI (a : Nat)))] [] h (0, 0) := by
        refine hG.1 48 _ _ _ _ ?_
        rw [bq_X10_firstBest_48]
        simp only [bk_X10_firstBest_48, wp_aconst_null, wp_iconst, wp_bipush, wp_sipush, wp_ldc, wp_ldc_w, wp_ldc2_w, wp_lconst, wp_iload, wp_iload_n, wp_lload, wp_lload_n, wp_aload, wp_aload_n, wp_istore, wp_istore_n, wp_lstore, wp_lstore_n, wp_astore, wp_astore_n, wp_iinc, wp_iadd, wp_isub, wp_imul, wp_iand, wp_ior, wp_ixor, wp_ishl, wp_ishr, wp_iushr, wp_idiv, wp_irem, wp_ineg, wp_ladd, wp_lsub, wp_lmul, wp_ldiv, wp_lrem, wp_lcmp, wp_i2l, wp_l2i, wp_pop, wp_dup, wp_dup2, wp_goto, wp_ifCond, wp_if_icmp, wp_ifnull, wp_ifnonnull, wp_tableswitch, wp_getfield, wp_putfield, wp_arraylength, wp_iaload, wp_baload, wp_laload, wp_aaload, wp_iastore, wp_bastore, wp_lastore, wp_aastore, wp_new, wp_newarray, wp_anewarray, wp_multianewarray, wp_invokevirtual, wp_invokespecial, wp_invokestatic, wp_ireturn, wp_lreturn, wp_areturn, wp_return_, wpL, ldI, ldJ, ldA, lk, sL, cL, i1, i2, l1, l2, r1, pA, p1, p2, ar, tyAt, rcv, rcr, oO, cmpI, Value.category, rf_some, rf_none, ak, kc, List.drop_succ_cons, List.drop_zero, List.drop_nil, List.take_succ_cons, List.take_zero, List.take_nil, List.head?_cons, List.reverse_cons, List.reverse_nil, List.nil_append, List.cons_append, List.length_cons, List.length_nil, Option.toList_some, Option.toList_none, hT_sI, hT_sJ, hT_sR, hI_sJ, hI_sR, hJ_sI, hJ_sR, hR_sI, hR_sJ, isO_sI, isO_sJ, isO_sR, iI_add, iI_sub, iI_mul, iI_neg, lv_args, Nat.reduceAdd, Nat.reduceEqDiff, Nat.reduceLeDiff, reduceIte, ite_true, ite_false, true_and, and_true, false_and, and_false, not_true, not_false_iff, or_true, true_or, false_or, or_false, imp_self, ne_eq, Classical.not_not, forall_const, true_implies, false_implies, if_pos, Nat.zero_add, Nat.add_zero, Nat.le_refl, Nat.reduceLT, iz00, iz01, iz10, iz11, ib0, ib1, ib01, reduceCtorEq, cq_X10_firstBest_54]
        have q := ih (a + 1) (by omega)
        rw [nc1] at q
        exact q
      have skip : ¬ (m.testBit a = false ∧ cosW st L m a < (fbS st L m a).2) → G 48 [(0, .ref (ad 8 6)), (1, .int (iI (m : Nat))), (2, .int (iI ((fbS st L m a).1 : Nat))), (3, .int (iI (fbS st L m a).2)), (4, .int (iI (a : Nat)))] [] h (0, 0) := by
        intro z
        have e : fbS st L m (a + 1) = fbS st L m a := if_neg z
        rw [e] at nxt
        exact nxt
      refine hG.1 8 _ _ _ _ ?_
      rw [bq_X10_firstBest_8]
      simp only [bk_X10_firstBest_8, wp_aconst_null, wp_iconst, wp_bipush, wp_sipush, wp_ldc, wp_ldc_w, wp_ldc2_w, wp_lconst, wp_iload, wp_iload_n, wp_lload, wp_lload_n, wp_aload, wp_aload_n, wp_istore, wp_istore_n, wp_lstore, wp_lstore_n, wp_astore, wp_astore_n, wp_iinc, wp_iadd, wp_isub, wp_imul, wp_iand, wp_ior, wp_ixor, wp_ishl, wp_ishr, wp_iushr, wp_idiv, wp_irem, wp_ineg, wp_ladd, wp_lsub, wp_lmul, wp_ldiv, wp_lrem, wp_lcmp, wp_i2l, wp_l2i, wp_pop, wp_dup, wp_dup2, wp_goto, wp_ifCond, wp_if_icmp, wp_ifnull, wp_ifnonnull, wp_tableswitch, wp_getfield, wp_putfield, wp_arraylength, wp_iaload, wp_baload, wp_laload, wp_aaload, wp_iastore, wp_bastore, wp_lastore, wp_aastore, wp_new, wp_newarray, wp_anewarray, wp_multianewarray, wp_invokevirtual, wp_invokespecial, wp_invokestatic, wp_ireturn, wp_lreturn, wp_areturn, wp_return_, wpL, ldI, ldJ, ldA, lk, sL, cL, i1, i2, l1, l2, r1, pA, p1, p2, ar, tyAt, rcv, rcr, oO, cmpI, Value.category, rf_some, rf_none, ak, kc, List.drop_succ_cons, List.drop_zero, List.drop_nil, List.take_succ_cons, List.take_zero, List.take_nil, List.head?_cons, List.reverse_cons, List.reverse_nil, List.nil_append, List.cons_append, List.length_cons, List.length_nil, Option.toList_some, Option.toList_none, hT_sI, hT_sJ, hT_sR, hI_sJ, hI_sR, hJ_sI, hJ_sR, hR_sI, hR_sJ, isO_sI, isO_sJ, isO_sR, iI_add, iI_sub, iI_mul, iI_neg, lv_args, Nat.reduceAdd, Nat.reduceEqDiff, Nat.reduceLeDiff, reduceIte, ite_true, ite_false, true_and, and_true, false_and, and_false, not_true, not_false_iff, or_true, true_or, false_or, or_false, imp_self, ne_eq, Classical.not_not, forall_const, true_implies, false_implies, if_pos, Nat.zero_add, Nat.add_zero, Nat.le_refl, Nat.reduceLT, iz00, iz01, iz10, iz11, ib0, ib1, ib01, reduceCtorEq, cq_X10_firstBest_54, o, c0, e1, e2]
      refine ⟨fun z => skip (fun y => z y.1), fun z1 => ⟨ad, st, L, m, a, rfl, R, w, sw, hm, hpm, by omega, hl a (by omega) z1, ?_⟩⟩
      simp only [wp_aconst_null, wp_iconst, wp_bipush, wp_sipush, wp_ldc, wp_ldc_w, wp_ldc2_w, wp_lconst, wp_iload, wp_iload_n, wp_lload, wp_lload_n, wp_aload, wp_aload_n, wp_istore, wp_istore_n, wp_lstore, wp_lstore_n, wp_astore, wp_astore_n, wp_iinc, wp_iadd, wp_isub, wp_imul, wp_iand, wp_ior, wp_ixor, wp_ishl, wp_ishr, wp_iushr, wp_idiv, wp_irem, wp_ineg, wp_ladd, wp_lsub, wp_lmul, wp_ldiv, wp_lrem, wp_lcmp, wp_i2l, wp_l2i, wp_pop, wp_dup, wp_dup2, wp_goto, wp_ifCond, wp_if_icmp, wp_ifnull, wp_ifnonnull, wp_tableswitch, wp_getfield, wp_putfield, wp_arraylength, wp_iaload, wp_baload, wp_laload, wp_aaload, wp_iastore, wp_bastore, wp_lastore, wp_aastore, wp_new, wp_newarray, wp_anewarray, wp_multianewarray, wp_invokevirtual, wp_invokespecial, wp_invokestatic, wp_ireturn, wp_lreturn, wp_areturn, wp_return_, wpL, ldI, ldJ, ldA, lk, sL, cL, i1, i2, l1, l2, r1, pA, p1, p2, ar, tyAt, rcv, rcr, oO, cmpI, Value.category, rf_some, rf_none, ak, kc, List.drop_succ_cons, List.drop_zero, List.drop_nil, List.take_succ_cons, List.take_zero, List.take_nil, List.head?_cons, List.reverse_cons, List.reverse_nil, List.nil_append, List.cons_append, List.length_cons, List.length_nil, Option.toList_some, Option.toList_none, hT_sI, hT_sJ, hT_sR, hI_sJ, hI_sR, hJ_sI, hJ_sR, hR_sI, hR_sJ, isO_sI, isO_sJ, isO_sR, iI_add, iI_sub, iI_mul, iI_neg, lv_args, Nat.reduceAdd, Nat.reduceEqDiff, Nat.reduceLeDiff, reduceIte, ite_true, ite_false, true_and, and_true, false_and, and_false, not_true, not_false_iff, or_true, true_or, false_or, or_false, imp_self, ne_eq, Classical.not_not, forall_const, true_implies, false_implies, if_pos, Nat.zero_add, Nat.add_zero, Nat.le_refl, Nat.reduceLT, iz00, iz01, iz10, iz11, ib0, ib1, ib01, reduceCtorEq, cq_X10_firstBest_54]
      refine hG.1 33 _ _ _ _ ?_
      rw [bq_X10_firstBest_33]
      simp only [bk_X10_firstBest_33, wp_aconst_null, wp_iconst, wp_bipush, wp_sipush, wp_ldc, wp_ldc_w, wp_ldc2_w, wp_lconst, wp_iload, wp_iload_n, wp_lload, wp_lload_n, wp_aload, wp_aload_n, wp_istore, wp_istore_n, wp_lstore, wp_lstore_n, wp_astore, wp_astore_n, wp_iinc, wp_iadd, wp_isub, wp_imul, wp_iand, wp_ior, wp_ixor, wp_ishl, wp_ishr, wp_iushr, wp_idiv, wp_irem, wp_ineg, wp_ladd, wp_lsub, wp_lmul, wp_ldiv, wp_lrem, wp_lcmp, wp_i2l, wp_l2i, wp_pop, wp_dup, wp_dup2, wp_goto, wp_ifCond, wp_if_icmp, wp_ifnull, wp_ifnonnull, wp_tableswitch, wp_getfield, wp_putfield, wp_arraylength, wp_iaload, wp_baload, wp_laload, wp_aaload, wp_iastore, wp_bastore, wp_lastore, wp_aastore, wp_new, wp_newarray, wp_anewarray, wp_multianewarray, wp_invokevirtual, wp_invokespecial, wp_invokestatic, wp_ireturn, wp_lreturn, wp_areturn, wp_return_, wpL, ldI, ldJ, ldA, lk, sL, cL, i1, i2, l1, l2, r1, pA, p1, p2, ar, tyAt, rcv, rcr, oO, cmpI, Value.category, rf_some, rf_none, ak, kc, List.drop_succ_cons, List.drop_zero, List.drop_nil, List.take_succ_cons, List.take_zero, List.take_nil, List.head?_cons, List.reverse_cons, List.reverse_nil, List.nil_append, List.cons_append, List.length_cons, List.length_nil, Option.toList_some, Option.toList_none, hT_sI, hT_sJ, hT_sR, hI_sJ, hI_sR, hJ_sI, hJ_sR, hR_sI, hR_sJ, isO_sI, isO_sJ, isO_sR, iI_add, iI_sub, iI_mul, iI_neg, lv_args, Nat.reduceAdd, Nat.reduceEqDiff, Nat.reduceLeDiff, reduceIte, ite_true, ite_false, true_and, and_true, false_and, and_false, not_true, not_false_iff, or_true, true_or, false_or, or_false, imp_self, ne_eq, Classical.not_not, forall_const, true_implies, false_implies, if_pos, Nat.zero_add, Nat.add_zero, Nat.le_refl, Nat.reduceLT, iz00, iz01, iz10, iz11, ib0, ib1, ib01, reduceCtorEq, cq_X10_firstBest_54, e3, o]
      refine ⟨fun z => skip (fun y => z y.2), fun z2 => ⟨ad, st, L, m, a, rfl, R, w, sw, hm, hpm, by omega, hl a (by omega) z1, ?_⟩⟩
      simp only [wp_aconst_null, wp_iconst, wp_bipush, wp_sipush, wp_ldc, wp_ldc_w, wp_ldc2_w, wp_lconst, wp_iload, wp_iload_n, wp_lload, wp_lload_n, wp_aload, wp_aload_n, wp_istore, wp_istore_n, wp_lstore, wp_lstore_n, wp_astore, wp_astore_n, wp_iinc, wp_iadd, wp_isub, wp_imul, wp_iand, wp_ior, wp_ixor, wp_ishl, wp_ishr, wp_iushr, wp_idiv, wp_irem, wp_ineg, wp_ladd, wp_lsub, wp_lmul, wp_ldiv, wp_lrem, wp_lcmp, wp_i2l, wp_l2i, wp_pop, wp_dup, wp_dup2, wp_goto, wp_ifCond, wp_if_icmp, wp_ifnull, wp_ifnonnull, wp_tableswitch, wp_getfield, wp_putfield, wp_arraylength, wp_iaload, wp_baload, wp_laload, wp_aaload, wp_iastore, wp_bastore, wp_lastore, wp_aastore, wp_new, wp_newarray, wp_anewarray, wp_multianewarray, wp_invokevirtual, wp_invokespecial, wp_invokestatic, wp_ireturn, wp_lreturn, wp_areturn, wp_return_, wpL, ldI, ldJ, ldA, lk, sL, cL, i1, i2, l1, l2, r1, pA, p1, p2, ar, tyAt, rcv, rcr, oO, cmpI, Value.category, rf_some, rf_none, ak, kc, List.drop_succ_cons, List.drop_zero, List.drop_nil, List.take_succ_cons, List.take_zero, List.take_nil, List.head?_cons, List.reverse_cons, List.reverse_nil, List.nil_append, List.cons_append, List.length_cons, List.length_nil, Option.toList_some, Option.toList_none, hT_sI, hT_sJ, hT_sR, hI_sJ, hI_sR, hJ_sI, hJ_sR, hR_sI, hR_sJ, isO_sI, isO_sJ, isO_sR, iI_add, iI_sub, iI_mul, iI_neg, lv_args, Nat.reduceAdd, Nat.reduceEqDiff, Nat.reduceLeDiff, reduceIte, ite_true, ite_false, true_and, and_true, false_and, and_false, not_true, not_false_iff, or_true, true_or, false_or, or_false, imp_self, ne_eq, Classical.not_not, forall_const, true_implies, false_implies, if_pos, Nat.zero_add, Nat.add_zero, Nat.le_refl, Nat.reduceLT, iz00, iz01, iz10, iz11, ib0, ib1, ib01, reduceCtorEq, cq_X10_firstBest_54]
      refine hG.1 47 _ _ _ _ ?_
      rw [bq_X10_firstBest_47]
      simp only [bk_X10_firstBest_47, wp_aconst_null, wp_iconst, wp_bipush, wp_sipush, wp_ldc, wp_ldc_w, wp_ldc2_w, wp_lconst, wp_iload, wp_iload_n, wp_lload, wp_lload_n, wp_aload, wp_aload_n, wp_istore, wp_istore_n, wp_lstore, wp_lstore_n, wp_astore, wp_astore_n, wp_iinc, wp_iadd, wp_isub, wp_imul, wp_iand, wp_ior, wp_ixor, wp_ishl, wp_ishr, wp_iushr, wp_idiv, wp_irem, wp_ineg, wp_ladd, wp_lsub, wp_lmul, wp_ldiv, wp_lrem, wp_lcmp, wp_i2l, wp_l2i, wp_pop, wp_dup, wp_dup2, wp_goto, wp_ifCond, wp_if_icmp, wp_ifnull, wp_ifnonnull, wp_tableswitch, wp_getfield, wp_putfield, wp_arraylength, wp_iaload, wp_baload, wp_laload, wp_aaload, wp_iastore, wp_bastore, wp_lastore, wp_aastore, wp_new, wp_newarray, wp_anewarray, wp_multianewarray, wp_invokevirtual, wp_invokespecial, wp_invokestatic, wp_ireturn, wp_lreturn, wp_areturn, wp_return_, wpL, ldI, ldJ, ldA, lk, sL, cL, i1, i2, l1, l2, r1, pA, p1, p2, ar, tyAt, rcv, rcr, oO, cmpI, Value.category, rf_some, rf_none, ak, kc, List.drop_succ_cons, List.drop_zero, List.drop_nil, List.take_succ_cons, List.take_zero, List.take_nil, List.head?_cons, List.reverse_cons, List.reverse_nil, List.nil_append, List.cons_append, List.length_cons, List.length_nil, Option.toList_some, Option.toList_none, hT_sI, hT_sJ, hT_sR, hI_sJ, hI_sR, hJ_sI, hJ_sR, hR_sI, hR_sJ, isO_sI, isO_sJ, isO_sR, iI_add, iI_sub, iI_mul, iI_neg, lv_args, Nat.reduceAdd, Nat.reduceEqDiff, Nat.reduceLeDiff, reduceIte, ite_true, ite_false, true_and, and_true, false_and, and_false, not_true, not_false_iff, or_true, true_or, false_or, or_false, imp_self, ne_eq, Classical.not_not, forall_const, true_implies, false_implies, if_pos, Nat.zero_add, Nat.add_zero, Nat.le_refl, Nat.reduceLT, iz00, iz01, iz10, iz11, ib0, ib1, ib01, reduceCtorEq, cq_X10_firstBest_54]
      have e : fbS st L m (a + 1) = (a, cosW st L m a) := if_pos ⟨z1, z2⟩
      rw [e] at nxt
      exact nxt
  refine hG.1 0 _ _ _ _ ?_
  rw [bq_X10_firstBest_0]
  simp only [bk_X10_firstBest_0, wp_aconst_null, wp_iconst, wp_bipush, wp_sipush, wp_ldc, wp_ldc_w, wp_ldc2_w, wp_lconst, wp_iload, wp_iload_n, wp_lload, wp_lload_n, wp_aload, wp_aload_n, wp_istore, wp_istore_n, wp_lstore, wp_lstore_n, wp_astore, wp_astore_n, wp_iinc, wp_iadd, wp_isub, wp_imul, wp_iand, wp_ior, wp_ixor, wp_ishl, wp_ishr, wp_iushr, wp_idiv, wp_irem, wp_ineg, wp_ladd, wp_lsub, wp_lmul, wp_ldiv, wp_lrem, wp_lcmp, wp_i2l, wp_l2i, wp_pop, wp_dup, wp_dup2, wp_goto, wp_ifCond, wp_if_icmp, wp_ifnull, wp_ifnonnull, wp_tableswitch, wp_getfield, wp_putfield, wp_arraylength, wp_iaload, wp_baload, wp_laload, wp_aaload, wp_iastore, wp_bastore, wp_lastore, wp_aastore, wp_new, wp_newarray, wp_anewarray, wp_multianewarray, wp_invokevirtual, wp_invokespecial, wp_invokestatic, wp_ireturn, wp_lreturn, wp_areturn, wp_return_, wpL, ldI, ldJ, ldA, lk, sL, cL, i1, i2, l1, l2, r1, pA, p1, p2, ar, tyAt, rcv, rcr, oO, cmpI, Value.category, rf_some, rf_none, ak, kc, List.drop_succ_cons, List.drop_zero, List.drop_nil, List.take_succ_cons, List.take_zero, List.take_nil, List.head?_cons, List.reverse_cons, List.reverse_nil, List.nil_append, List.cons_append, List.length_cons, List.length_nil, Option.toList_some, Option.toList_none, hT_sI, hT_sJ, hT_sR, hI_sJ, hI_sR, hJ_sI, hJ_sR, hR_sI, hR_sJ, isO_sI, isO_sJ, isO_sR, iI_add, iI_sub, iI_mul, iI_neg, lv_args, Nat.reduceAdd, Nat.reduceEqDiff, Nat.reduceLeDiff, reduceIte, ite_true, ite_false, true_and, and_true, false_and, and_false, not_true, not_false_iff, or_true, true_or, false_or, or_false, imp_self, ne_eq, Classical.not_not, forall_const, true_implies, false_implies, if_pos, Nat.zero_add, Nat.add_zero, Nat.le_refl, Nat.reduceLT, iz00, iz01, iz10, iz11, ib0, ib1, ib01, reduceCtorEq, cq_X10_firstBest_54]
  exact loop (nIn st) 0 (by omega)
theorem val_X10_firstBest (g : GP) : Val g yX10_firstBest prog_12_method_4_code 5 (some .int) 4 240 0 0 sp_X10_firstBest := val_of (own := RX10) (ini := false) (on := 10) (rs := rs_X10_firstBest) (cl := cl_X10_firstBest) (rt := 1) (bl := bl_X10_firstBest) (plainFor_of_name (by decide +kernel)) rfl (rok_X10 _) ck_X10_firstBest (fun h => by cases h) rfl (List.forall_mem_cons.mpr ⟨caV (val_X10_costWith g) (tb_in 792 (by decide +kernel) (by decide +kernel)) (tb_in 794 (by decide +kernel) (by decide +kernel)) (tb_in 20 (by decide +kernel) (by decide +kernel)) (tb_in 795 (by decide +kernel) (by decide +kernel)) (tb_in 60 (by decide +kernel) (by decide +kernel)) ⟨by decide, by decide, by decide +kernel⟩ ⟨rfl, by decide⟩ ⟨by decide, by decide⟩, (fun _ h => absurd h List.not_mem_nil)⟩) pf_X10_firstBest

