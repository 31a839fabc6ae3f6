/-! System.arraycopy of ints, from 0 to 0 -/
def cpI (h : hp) (k0 a0 k1 a1 n : Nat) : hp := (h.1, (fun c' k' a' => if c' = k1 ∧ a' = a1 ∧ k' < n then h.2.1 k0 k' a0 else h.2.1 c' k' a'), h.2.2.1, h.2.2.2)
theorem hT_cpI (h : hp) (k0 a0 k1 a1 n b : Nat) : hT (cpI h k0 a0 k1 a1 n) b = hT h b := rfl
theorem hJ_cpI (h : hp) (k0 a0 k1 a1 n c k b : Nat) : hJ (cpI h k0 a0 k1 a1 n) c k b = hJ h c k b := rfl
theorem hR_cpI (h : hp) (k0 a0 k1 a1 n c k b : Nat) : hR (cpI h k0 a0 k1 a1 n) c k b = hR h c k b := rfl
theorem hI_cpI (h : hp) (k0 a0 k1 a1 n c k b : Nat) : hI (cpI h k0 a0 k1 a1 n) c k b = if c = k1 ∧ b = a1 ∧ k < n then hI h k0 k a0 else hI h c k b := rfl
def sp_copy : Spec := fun as h K => ∃ k0 a0 k1 a1 n0 n1 n : Nat, as = [.ref a0, .int (iI 0), .ref a1, .int (iI 0), .int (iI (n : Nat))] ∧ hT h a0 = some (k0, n0) ∧ hT h a1 = some (k1, n1) ∧ ak k0 = 20 ∧ ak k1 = 20 ∧ n ≤ n0 ∧ n ≤ n1 ∧ n < 2 ^ 31 ∧ K none (cpI h k0 a0 k1 a1 n)
theorem caC {g : GP} {own : String} {fr lo : Nat} {i q rc : Nat} (h1 : Jvm.Cond.methodLink own i arraycopyName ∈ tbG) (hR' : 1 ≤ fr ∧ 26 ≤ lo) : CaOK g own fr lo (1, i, 5, q, rc) (0, 0, sp_copy) := by
  intro p e R s m args below meth c nL Q' code hx hb hml hown hts hK hfr hlo' pc L as rest h u K hdc hlen hr4 b1 b2 _ _ hsp kk
  obtain ⟨k0, a0, k1, a1, n0, n1, n, rfl, t0, t1, q0, q1, lz0, lz1, hn, hk⟩ := hsp
  intro H ls locs hh hlo hl
  obtain ⟨ba0, c0, d0, -⟩ := st_arr hK hh t0 (by omega)
  obtain ⟨ba1, c1, d1, -⟩ := st_arr hK hh t1 (by omega)
  have f0 : (fun j => avl h k0 j a0) = fun j => Value.int (hI h k0 j a0) := by funext j; simp [avl, q0]
  have f1 : (fun j => avl h k1 j a1) = fun j => Value.int (hI h k1 j a1) := by funext j; simp [avl, q1]
  rw [f0, q0] at c0
  rw [f1, q1] at c1
  rw [q0] at d0
  rw [q1] at d1
  obtain ⟨-, K0, hk0, cm0, hkk0⟩ := d0 n0 (fun j => .int (hI h k0 j a0))
  obtain ⟨-, K1, hk1, cm1, hkk1⟩ := d1 n1 (fun j => .int (hI h k1 j a1))
  obtain ⟨z1, z2⟩ := iI_nat0 (n := n) hn
  have z3 : (iI (n : Int)).toInt = (n : Int) := iI_toInt (by omega)
  have z4 : (iI 0).toInt = 0 := rfl
  have z5 : (iI 0).toNatClampNeg = 0 := rfl
  have cl8 := cat_le hr4
  intro T hT' X
  obtain ⟨vm', X', step⟩ := X.arraycopy hx hown (hts _ h1) (hts _ (tb_in 743 (by decide +kernel) (by decide +kernel))) (hts _ (tb_in 742 (by decide +kernel) (by decide +kernel))) (hts _ (tb_in 69 (by decide +kernel) (by decide +kernel))) (src := a0) (dst := a1) (cs := arrV (gA g 20) n0 (fun j => .int (hI h k0 j a0))) (cd := arrV (gA g 20) n1 (fun j => .int (hI h k1 j a1))) (srcPos := iI 0) (destPos := iI 0) (n := iI (n : Nat)) (by rw [hT']; exact c0) (by rw [hT']; exact c1)
    (fun _ h => by cases h) (fun _ h => by cases h) (fun h => by cases h) (fun h => by cases h) hk0 hk1 hkk0 hkk1 (by decide) (by decide) (by decide) z1
    (by rw [z3, z4, arrV_size]; omega) (by rw [z3, z4, arrV_size]; omega)
    (fun vm₁ _ i hi => by
      rw [z2] at hi
      have e : (arrV (gA g 20) n0 (fun j => Value.int (hI h k0 j a0))).slots.getD ((iI 0).toNatClampNeg + i) .null = .int (hI h k0 ((iI 0).toNatClampNeg + i) a0) := by
        rw [Array.getD_eq_getD_getElem?, arrV_read _ _ (by rw [z5]; omega)]
        rfl
      refine ⟨?_, ?_⟩
      · rw [e]; rfl
      · rw [e]; exact trivial)
    (g := F0 m pc ls (.int (iI (n : Nat)) :: .int (iI 0) :: .ref a1 :: .int (iI 0) :: .ref a0 :: rest)) rfl (by show ls.size = _; rw [hml]; exact hl.1) (rest := rest) rfl (by rw [hb]; exact hdc) (Nat.le_trans hR'.1 hfr) (by show 2 * 0 + _ + (7 + 11) ≤ _; omega)
  have e1 : copied (arrV (gA g 20) n0 (fun j => Value.int (hI h k0 j a0))) (arrV (gA g 20) n1 (fun j => Value.int (hI h k1 j a1))) (iI 0) (iI 0) (iI (n : Nat)) = arrV (gA g 20) n1 (fun j => Value.int (va_cpy (fun j => hI h k0 j a0) (fun j => hI h k1 j a1) 0 0 n j)) := by
    have := va_copied (fun z => Value.int z) (gA g 20) (gA g 20) (n0 := n0) (n1 := n1) (sp := 0) (dp := 0) (n := n) (fun j => hI h k0 j a0) (fun j => hI h k1 j a1) (by omega)
    rw [← this]
    show (arrV (gA g 20) n1 (fun j => Value.int (hI h k1 j a1))).storeRun (iI 0).toNatClampNeg ((arrV (gA g 20) n0 (fun j => Value.int (hI h k0 j a0))).stretch (iI 0).toNatClampNeg (iI (n : Nat)).toNatClampNeg) = _
    rw [z2, z5]
  rw [e1] at X' step
  have hl1 : a1 < H.size := (Array.getElem?_eq_some_iff.mp c1).1
  have hheap : ((T.setVm vm').setCell a1 (arrV (gA g 20) n1 (fun j => Value.int (va_cpy (fun j => hI h k0 j a0) (fun j => hI h k1 j a1) 0 0 n j)))).heap = H.setIfInBounds a1 (arrV (gA g 20) n1 (fun j => Value.int (va_cpy (fun j => hI h k0 j a0) (fun j => hI h k1 j a1) 0 0 n j))) := by rw [← hT']; rfl
  have hS' : hS g (cpI h k0 a0 k1 a1 n) (H.setIfInBounds a1 (arrV (gA g 20) n1 (fun j => Value.int (va_cpy (fun j => hI h k0 j a0) (fun j => hI h k1 j a1) 0 0 n j)))) := by
    refine hh.set t1 (fun _ => rfl) ba1 (by simp) (fun q hq => by simp [Array.getElem?_setIfInBounds, Ne.symm hq]) (fun c' k b hb' => by rw [hI_cpI, if_neg (fun z => hb' z.2.1)]) (fun _ _ _ _ => rfl) (fun _ _ _ _ => rfl) (Or.inr (Or.inr ⟨by omega, ba1, ?_⟩))
    have ef : (fun j => avl (cpI h k0 a0 k1 a1 n) k1 j a1) = fun j => Value.int (va_cpy (fun j => hI h k0 j a0) (fun j => hI h k1 j a1) 0 0 n j) := by
      funext j
      simp only [avl, q1, hI_cpI, va_cpy]
      simp
    rw [ef, q1]
    simp [Array.getElem?_setIfInBounds, hl1]
  obtain ⟨t2, a2, b2'⟩ := kk none _ hk _ ls _ hS' (fun q hq => by
    rcases List.mem_append.mp hq with z | z
    · exact hlo q z
    · obtain ⟨y, -, hy⟩ := List.mem_map.mp z
      rw [← hy]
      exact ba1) hl _ hheap X'
  exact ⟨t2, step t2 a2, b2'⟩
/-! plans -/
def upF (f : Nat → Int) (i : Nat) (v : Int) : Nat → Int := fun j => if j = i then v else f j
def ltV (x : Int) : Int := if 0 < x then x else 0
def ltF (loss : Int) (nw : Nat → Int) (year : Nat) (i : Nat) : Int := ltV (100 - loss * ((year : Int) - nw i))
def sumN (f : Nat → Int) : Nat → Int
  | 0 => 0
  | n + 1 => sumN f n + f n
abbrev PB : Type := Int × (Nat → Int)
def lpF (f : Nat → PB → PB) : Nat → PB → PB
  | 0, B => B
  | n + 1, B => f n (lpF f n B)
def FL (N : Nat) (nums : Nat → Int) (loss : Int) : Nat → Nat → (Nat → Int) → (Nat → Int) → Int → PB → PB
  | 0, _, _, now, sum, B => if B.1 < sum then (sum, now) else B
  | r + 1, year, nw, now, sum, B => FL N nums loss r (year + 1) nw (upF now year (-900009)) (sum + sumN (ltF loss nw year) N) (lpF (fun i B => FL N nums loss r (year + 1) (upF nw i ((year : Int) + 1)) (upF now year (nums i)) (sum + sumN (ltF loss nw year) N - ltF loss nw year i) B) N B)
def nwOK (nw : Nat → Int) (year : Nat) : Prop := ∀ i, -99 ≤ nw i ∧ nw i ≤ (year : Int)
theorem nwOK_s {nw : Nat → Int} {year : Nat} (h : nwOK nw year) : nwOK nw (year + 1) := fun i => by have := h i; omega
theorem nwOK_u {nw : Nat → Int} {year : Nat} (h : nwOK nw year) (j : Nat) : nwOK (upF nw j ((year : Int) + 1)) (year + 1) := by
  intro i
  have := h i
  unfold upF
  split <;> omega
theorem ltF_rg {loss : Int} (hl : 0 ≤ loss ∧ loss ≤ 50) {nw : Nat → Int} {year : Nat} (h : nwOK nw year) (i : Nat) : 0 ≤ ltF loss nw year i ∧ ltF loss nw year i ≤ 100 := by
  have h1 := h i
  have h2 : 0 ≤ loss * ((year : Int) - nw i) := Int.mul_nonneg hl.1 (by omega)
  unfold ltF ltV
  split <;> omega
theorem sumN_rg {f : Nat → Int} (h : ∀ i, 0 ≤ f i ∧ f i ≤ 100) : ∀ n : Nat, 0 ≤ sumN f n ∧ sumN f n ≤ 100 * (n : Int) := by
  intro n
  induction n with
  | zero => exact ⟨Int.le_refl _, Int.le_refl _⟩
  | succ n ih => have := h n; unfold sumN; omega
theorem sumN_ge {f : Nat → Int} (h : ∀ i, 0 ≤ f i ∧ f i ≤ 100) {i : Nat} : ∀ n : Nat, i < n → f i ≤ sumN f n := by
  intro n
  induction n with
  | zero => intro z; omega
  | succ n ih =>
    intro hi
    have h1 := h n
    have h2 := sumN_rg h n
    unfold sumN
    by_cases c : i = n
    · subst c; omega
    · have := ih (by omega); omega
theorem lpF_inv {f : Nat → PB → PB} (P : PB → Prop) {N : Nat} (hf : ∀ i B, i < N → P B → P (f i B)) : ∀ n, n ≤ N → ∀ B, P B → P (lpF f n B) := by
  intro n
  induction n with
  | zero => exact fun _ _ h => h
  | succ n ih => exact fun hn B h => hf n _ (by omega) (ih (by omega) B h)
theorem FL_rg {N : Nat} (hN : N ≤ 7) (nums : Nat → Int) {loss : Int} (hl : 0 ≤ loss ∧ loss ≤ 50) : ∀ (r year : Nat) (nw now : Nat → Int) (sum : Int) (B : PB), nwOK nw year → year + r ≤ 4 → (0 ≤ sum ∧ sum ≤ 700 * (year : Int)) → (-1 ≤ B.1 ∧ B.1 ≤ 2800) → 0 ≤ (FL N nums loss r year nw now sum B).1 ∧ (FL N nums loss r year nw now sum B).1 ≤ 2800 := by
  intro r
  induction r with
  | zero =>
    intro year nw now sum B h1 h2 h3 h4
    unfold FL
    split
    · dsimp only; omega
    · omega
  | succ r ih =>
    intro year nw now sum B h1 h2 h3 h4
    unfold FL
    have hs := sumN_rg (ltF_rg hl h1) N
    refine ih (year + 1) nw _ _ _ (nwOK_s h1) (by omega) (by omega) ?_
    refine lpF_inv (fun B => -1 ≤ B.1 ∧ B.1 ≤ 2800) (N := N) (fun i B hi hB => ?_) N (Nat.le_refl _) B h4
    have hg := sumN_ge (ltF_rg hl h1) N hi
    have hl1 := ltF_rg hl h1 i
    have q := ih (year + 1) (upF nw i ((year : Int) + 1)) (upF now year (nums i)) (sum + sumN (ltF loss nw year) N - ltF loss nw year i) B (nwOK_u h1 i) (by omega) (by omega) hB
    omega
def PlR (N r year : Nat) (loss : Int) (nw : Nat → Int) (sum : Int) (B : PB) : Prop := N ≤ 7 ∧ year + r ≤ 4 ∧ (0 ≤ loss ∧ loss ≤ 50) ∧ nwOK nw year ∧ (0 ≤ sum ∧ sum ≤ 700 * (year : Int)) ∧ (-1 ≤ B.1 ∧ B.1 ≤ 2800)
def PlP (h : hp) (ad : Ad) (N years year : Nat) (nums : Nat → Int) (loss : Int) (nw now : Nat → Int) (B : PB) : Prop :=
  hI h 5 1 (ad 8 7) = iI (N : Nat) ∧ hI h 5 5 (ad 8 7) = iI loss ∧ hI h 5 6 (ad 8 7) = iI (years : Nat) ∧ hI h 5 7 (ad 8 7) = iI B.1 ∧ (∀ i, i < N → hI h 102 i (ad 9 9) = iI (nums i)) ∧ (∀ i, i < N → hI h 103 i (ad 9 10) = iI (nw i)) ∧ (∀ j, j < year → hI h 104 j (ad 9 11) = iI (now j)) ∧ (0 ≤ B.1 → ∀ j, j < years → hI h 105 j (ad 9 12) = iI (B.2 j))
def F5 (h h' : hp) : Prop := (∀ a, hT h' a = hT h a) ∧ (∀ c k a, hJ h' c k a = hJ h c k a) ∧ (∀ c k a, hR h' c k a = hR h c k a) ∧ ∀ c k a, ¬ ((c = 5 ∧ k = 7) ∨ c = 103 ∨ c = 104 ∨ c = 105) → hI h' c k a = hI h c k a
theorem F5.rf {h : hp} : F5 h h := ⟨fun _ => rfl, fun _ _ _ => rfl, fun _ _ _ => rfl, fun _ _ _ _ => rfl⟩
theorem F5.tr {h h1 h2 : hp} (a : F5 h h1) (b : F5 h1 h2) : F5 h h2 := ⟨fun x => (b.1 x).trans (a.1 x), fun c k x => (b.2.1 c k x).trans (a.2.1 c k x), fun c k x => (b.2.2.1 c k x).trans (a.2.2.1 c k x), fun c k x z => (b.2.2.2 c k x z).trans (a.2.2.2 c k x z)⟩
theorem F5.i {h h' : hp} (a : F5 h h') {c k x : Nat} {v : Int32} (hs : (c = 5 ∧ k = 7) ∨ c = 103 ∨ c = 104 ∨ c = 105) : F5 h (sI h' c k x v) := by
  refine a.tr ⟨fun _ => rfl, fun _ _ _ => rfl, fun _ _ _ => rfl, fun c' k' x' hz => ?_⟩
  rw [hI_sI, if_neg]
  rintro ⟨rfl, rfl, -⟩
  exact hz hs
theorem F5.s {h h' : hp} (f : F5 h h') : Fs h h' := ⟨f.1, f.2.1, fun c k a _ => f.2.2.1 c k a, fun c k a hz => f.2.2.2 c k a (by rintro (⟨rfl, rfl⟩ | rfl | rfl | rfl) <;> cases hz)⟩
def cl_X5_lightOf : Nat → Nat × Nat × Spec := fun q => if q = 194 then (0, 0, sp_J9_max_7cf53) else (0, 0, fun _ _ _ => False)
theorem cq_X5_lightOf_194 : cl_X5_lightOf 194 = (0, 0, sp_J9_max_7cf53) := rfl

def sp_X5_lightOf : Spec := fun as h K => ∃ (ad : Ad) (i year : Nat) (loss : Int) (nw : Nat → Int), as = [.ref (ad 8 7), .int (iI (i : Nat)), .int (iI (year : Nat))] ∧ RW h ad ∧ i < 7 ∧ year ≤ 4 ∧ (0 ≤ loss ∧ loss ≤ 50) ∧ nwOK nw year ∧ hI h 5 5 (ad 8 7) = iI loss ∧ hI h 103 i (ad 9 10) = iI (nw i) ∧ K (some (.int (iI (ltF loss nw year i)))) h
theorem pf_X5_lightOf : PfM cl_X5_lightOf (0, 0) 1 3 bl_X5_lightOf sp_X5_lightOf := by
  rintro as h Q ⟨ad, i, year, loss, nw, rfl, R, hi, hy, hl, hn, v1, v2, hQ⟩
  refine ⟨Nat.le_of_ble_eq_true rfl, fun G hG => ?_⟩
  have o := wo_11_13 R
  have t1 := wr_5_2 R
  have t2 := wt_5_2 R
  have in1 : vp_in (iI (i : Nat)) 7 := iI_in (by omega) (by omega)
  have n1 : (iI (i : Nat)).toNatClampNeg = i := by rw [iI_cl (by omega)]; omega
  refine hG.1 0 _ _ _ _ ?_
  rw [bq_X5_lightOf_0]
  simp only [bk_X5_lightOf_0, wp_aconst_null, wp_iconst, wp_bipush, wp_sipush, wp_ldc, wp_ldc_w, wp_ldc2_w, wp_lconst, wp_iload, wp_iload_n, wp_lload, wp_lload_n, wp_aload, wp_aload_n, wp_istore, wp_istore_n, wp_lstore, wp_lstore_n, wp_astore, wp_astore_n, wp_iinc, wp_iadd, wp_isub, wp_imul, wp_iand, wp_ior, wp_ixor, wp_ishl, wp_ishr, wp_iushr, wp_idiv, wp_irem, wp_ineg, wp_ladd, wp_lsub, wp_lmul, wp_ldiv, wp_lrem, wp_lcmp, wp_i2l, wp_l2i, wp_pop, wp_dup, wp_dup2, wp_goto, wp_ifCond, wp_if_icmp, wp_ifnull, wp_ifnonnull, wp_tableswitch, wp_getfield, wp_putfield, wp_arraylength, wp_iaload, wp_baload, wp_laload, wp_aaload, wp_iastore, wp_bastore, wp_lastore, wp_aastore, wp_new, wp_newarray, wp_anewarray, wp_multianewarray, wp_invokevirtual, wp_invokespecial, wp_invokestatic, wp_ireturn, wp_lreturn, wp_areturn, wp_return_, wpL, ldI, ldJ, ldA, lk, sL, cL, i1, i2, l1, l2, r1, pA, p1, p2, ar, tyAt, rcv, rcr, oO, cmpI, Value.category, rf_some, rf_none, ak, kc, List.drop_succ_cons, List.drop_zero, List.drop_nil, List.take_succ_cons, List.take_zero, List.take_nil, List.head?_cons, List.reverse_cons, List.reverse_nil, List.nil_append, List.cons_append, List.length_cons, List.length_nil, Option.toList_some, Option.toList_none, hT_sI, hT_sJ, hT_sR, hI_sJ, hI_sR, hJ_sI, hJ_sR, hR_sI, hR_sJ, isO_sI, isO_sJ, isO_sR, iI_add, iI_sub, iI_mul, iI_neg, lv_args, Nat.reduceAdd, Nat.reduceEqDiff, Nat.reduceLeDiff, reduceIte, ite_true, ite_false, true_and, and_true, false_and, and_false, not_true, not_false_iff, or_true, true_or, false_or, or_false, imp_self, ne_eq, Classical.not_not, forall_const, true_implies, false_implies, if_pos, Nat.zero_add, Nat.add_zero, Nat.le_refl, Nat.reduceLT, iz00, iz01, iz10, iz11, ib0, ib1, ib01, reduceCtorEq, cq_X5_lightOf_194, o, t1, t2, in1, n1, v1, v2]
  refine ⟨_, _, rfl, ?_⟩
  simp only [wp_aconst_null, wp_iconst, wp_bipush, wp_sipush, wp_ldc, wp_ldc_w, wp_ldc2_w, wp_lconst, wp_iload, wp_iload_n, wp_lload, wp_lload_n, wp_aload, wp_aload_n, wp_istore, wp_istore_n, wp_lstore, wp_lstore_n, wp_astore, wp_astore_n, wp_iinc, wp_iadd, wp_isub, wp_imul, wp_iand, wp_ior, wp_ixor, wp_ishl, wp_ishr, wp_iushr, wp_idiv, wp_irem, wp_ineg, wp_ladd, wp_lsub, wp_lmul, wp_ldiv, wp_lrem, wp_lcmp, wp_i2l, wp_l2i, wp_pop, wp_dup, wp_dup2, wp_goto, wp_ifCond, wp_if_icmp, wp_ifnull, wp_ifnonnull, wp_tableswitch, wp_getfield, wp_putfield, wp_arraylength, wp_iaload, wp_baload, wp_laload, wp_aaload, wp_iastore, wp_bastore, wp_lastore, wp_aastore, wp_new, wp_newarray, wp_anewarray, wp_multianewarray, wp_invokevirtual, wp_invokespecial, wp_invokestatic, wp_ireturn, wp_lreturn, wp_areturn, wp_return_, wpL, ldI, ldJ, ldA, lk, sL, cL, i1, i2, l1, l2, r1, pA, p1, p2, ar, tyAt, rcv, rcr, oO, cmpI, Value.category, rf_some, rf_none, ak, kc, List.drop_succ_cons, List.drop_zero, List.drop_nil, List.take_succ_cons, List.take_zero, List.take_nil, List.head?_cons, List.reverse_cons, List.reverse_nil, List.nil_append, List.cons_append, List.length_cons, List.length_nil, Option.toList_some, Option.toList_none, hT_sI, hT_sJ, hT_sR, hI_sJ, hI_sR, hJ_sI, hJ_sR, hR_sI, hR_sJ, isO_sI, isO_sJ, isO_sR, iI_add, iI_sub, iI_mul, iI_neg, lv_args, Nat.reduceAdd, Nat.reduceEqDiff, Nat.reduceLeDiff, reduceIte, ite_true, ite_false, true_and, and_true, false_and, and_false, not_true, not_false_iff, or_true, true_or, false_or, or_false, imp_self, ne_eq, Classical.not_not, forall_const, true_implies, false_implies, if_pos, Nat.zero_add, Nat.add_zero, Nat.le_refl, Nat.reduceLT, iz00, iz01, iz10, iz11, ib0, ib1, ib01, reduceCtorEq, cq_X5_lightOf_194]
  refine hG.1 20 _ _ _ _ ?_
  rw [bq_X5_lightOf_20]
  simp only [bk_X5_lightOf_20, wp_aconst_null, wp_iconst, wp_bipush, wp_sipush, wp_ldc, wp_ldc_w, wp_ldc2_w, wp_lconst, wp_iload, wp_iload_n, wp_lload, wp_lload_n, wp_aload, wp_aload_n, wp_istore, wp_istore_n, wp_lstore, wp_lstore_n, wp_astore, wp_astore_n, wp_iinc, wp_iadd, wp_isub, wp_imul, wp_iand, wp_ior, wp_ixor, wp_ishl, wp_ishr, wp_iushr, wp_idiv, wp_irem, wp_ineg, wp_ladd, wp_lsub, wp_lmul, wp_ldiv, wp_lrem, wp_lcmp, wp_i2l, wp_l2i, wp_pop, wp_dup, wp_dup2, wp_goto, wp_ifCond, wp_if_icmp, wp_ifnull, wp_ifnonnull, wp_tableswitch, wp_getfield, wp_putfield, wp_arraylength, wp_iaload, wp_baload, wp_laload, wp_aaload, wp_iastore, wp_bastore, wp_lastore, wp_aastore, wp_new, wp_newarray, wp_anewarray, wp_multianewarray, wp_invokevirtual, wp_invokespecial, wp_invokestatic, wp_ireturn, wp_lreturn, wp_areturn, wp_return_, wpL, ldI, ldJ, ldA, lk, sL, cL, i1, i2, l1, l2, r1, pA, p1, p2, ar, tyAt, rcv, rcr, oO, cmpI, Value.category, rf_some, rf_none, ak, kc, List.drop_succ_cons, List.drop_zero, List.drop_nil, List.take_succ_cons, List.take_zero, List.take_nil, List.head?_cons, List.reverse_cons, List.reverse_nil, List.nil_append, List.cons_append, List.length_cons, List.length_nil, Option.toList_some, Option.toList_none, hT_sI, hT_sJ, hT_sR, hI_sJ, hI_sR, hJ_sI, hJ_sR, hR_sI, hR_sJ, isO_sI, isO_sJ, isO_sR, iI_add, iI_sub, iI_mul, iI_neg, lv_args, Nat.reduceAdd, Nat.reduceEqDiff, Nat.reduceLeDiff, reduceIte, ite_true, ite_false, true_and, and_true, false_and, and_false, not_true, not_false_iff, or_true, true_or, false_or, or_false, imp_self, ne_eq, Classical.not_not, forall_const, true_implies, false_implies, if_pos, Nat.zero_add, Nat.add_zero, Nat.le_refl, Nat.reduceLT, iz00, iz01, iz10, iz11, ib0, ib1, ib01, reduceCtorEq, cq_X5_lightOf_194]
  have h1 := hn i
  have b1 := mul_rg (A := 50) (B := 103) (a := loss) (b := (year : Int) - nw i) (by omega) (by omega) (by omega) (by omega)
  have e1 : (iI 0 < iI (100 - loss * ((year : Int) - nw i))) = (0 < 100 - loss * ((year : Int) - nw i)) := propext (iI_lt (by omega) (by omega))
  simp only [e1]
  unfold ltF ltV at hQ
  by_cases c : 0 < 100 - loss * ((year : Int) - nw i)
  · rw [if_pos c] at hQ ⊢; exact hQ
  · rw [if_neg c] at hQ ⊢; exact hQ
theorem val_X5_lightOf (g : GP) : Val g yX5_lightOf prog_7_method_5_code 3 (some .int) 2 120 0 0 sp_X5_lightOf := val_of (own := RX5) (ini := false) (on := 5) (rs := rs_X5_lightOf) (cl := cl_X5_lightOf) (rt := 1) (bl := bl_X5_lightOf) (plainFor_of_name (by decide +kernel)) rfl (rok_X5 _) ck_X5_lightOf (fun h => by cases h) rfl (List.forall_mem_cons.mpr ⟨caS (val_J9_max_7cf53 g) (tb_in 839 (by decide +kernel) (by decide +kernel)) (tb_in 104 (by decide +kernel) (by decide +kernel)) (tb_in 105 (by decide +kernel) (by decide +kernel)) (tb_in 58 (by decide +kernel) (by decide +kernel)) ⟨by decide, by decide, by decide +kernel⟩ ⟨by decide, by decide⟩, (fun _ h => absurd h List.not_mem_nil)⟩) pf_X5_lightOf

def sr_X5_follow : Nat → Spec
  | 0 => fun _ _ _ => False
  | n + 1 => fun as h K => ∃ (ad : Ad) (N r year : Nat) (nums : Nat → Int) (loss : Int) (nw now : Nat → Int) (sum : Int) (B : PB), as = [.ref (ad 8 7), .int (iI (year : Nat)), .int (iI sum)] ∧ RW h ad ∧ r ≤ n ∧ PlR N r year loss nw sum B ∧ PlP h ad N (year + r) year nums loss nw now B ∧ (∀ i, -2147483648 ≤ nums i ∧ nums i ≤ 2147483647) ∧
    ∀ h', PlP h' ad N (year + r) year nums loss nw now (FL N nums loss r year nw now sum B) → F5 h h' → K none h'
def cl_X5_follow (n : Nat) : Nat → Nat × Nat × Spec := fun q => if q = 901 then (0, 0, sp_copy) else if q = 21 then (0, 0, sp_X5_lightOf) else if q = 20 then (0, 0, sr_X5_follow n) else (0, 0, fun _ _ _ => False)
theorem cq_X5_follow_901 (n : Nat) : cl_X5_follow n 901 = (0, 0, sp_copy) := rfl
theorem cq_X5_follow_21 (n : Nat) : cl_X5_follow n 21 = (0, 0, sp_X5_lightOf) := rfl
theorem cq_X5_follow_20 (n : Nat) : cl_X5_follow n 20 = (0, 0, sr_X5_follow n) := rfl

theorem pf_X5_follow (n : Nat) : PfM (cl_X5_follow n) (0, 0) 0 7 bl_X5_follow (sr_X5_follow (n + 1)) := by
  rintro as h Q ⟨ad, N, r, year, nums, loss, nw, now, sum, B, rfl, R, hr, ⟨hN, hy, hl, hnw, hsum, hB⟩, P, hnu, hQ⟩
  refine ⟨Nat.le_of_ble_eq_true rfl, fun G hG => ?_⟩
  obtain ⟨g1, g2, g3, g4, g5, g6, g7, g8⟩ := P
  have o := wo_11_13 R
  cases r with
  | zero =>
    have e1 : (iI (year : Nat) < iI (year : Nat)) = False := eq_false (by rw [iI_lt (by omega) (by omega)]; omega)
    have e2 : (iI sum ≤ iI B.1) = (sum ≤ B.1) := propext (iI_le (by omega) (by omega))
    have t1 := wr_5_3 R
    have t2 := wt_5_3 R
    have t3 := wr_5_4 R
    have t4 := wt_5_4 R
    refine hG.1 0 _ _ _ _ ?_
    rw [bq_X5_follow_0]
    simp only [bk_X5_follow_0, wp_aconst_null, wp_iconst, wp_bipush, wp_sipush, wp_ldc, wp_ldc_w, wp_ldc2_w, wp_lconst, wp_iload, wp_iload_n, wp_lload, wp_lload_n, wp_aload, wp_aload_n, wp_istore, wp_istore_n, wp_lstore, wp_lstore_n, wp_astore, wp_astore_n, wp_iinc, wp_iadd, wp_isub, wp_imul, wp_iand, wp_ior, wp_ixor, wp_ishl, wp_ishr, wp_iushr, wp_idiv, wp_irem, wp_ineg, wp_ladd, wp_lsub, wp_lmul, wp_ldiv, wp_lrem, wp_lcmp, wp_i2l, wp_l2i, wp_pop, wp_dup, wp_dup2, wp_goto, wp_ifCond, wp_if_icmp, wp_ifnull, wp_ifnonnull, wp_tableswitch, wp_getfield, wp_putfield, wp_arraylength, wp_iaload, wp_baload, wp_laload, wp_aaload, wp_iastore, wp_bastore, wp_lastore, wp_aastore, wp_new, wp_newarray, wp_anewarray, wp_multianewarray, wp_invokevirtual, wp_invokespecial, wp_invokestatic, wp_ireturn, wp_lreturn, wp_areturn, wp_return_, wpL, ldI, ldJ, ldA, lk, sL, cL, i1, i2, l1, l2, r1, pA, p1, p2, ar, tyAt, rcv, rcr, oO, cmpI, Value.category, rf_some, rf_none, ak, kc, List.drop_succ_cons, List.drop_zero, List.drop_nil, List.take_succ_cons, List.take_zero, List.take_nil, List.head?_cons, List.reverse_cons, List.reverse_nil, List.nil_append, List.cons_append, List.length_cons, List.length_nil, Option.toList_some, Option.toList_none, hT_sI, hT_sJ, hT_sR, hI_sJ, hI_sR, hJ_sI, hJ_sR, hR_sI, hR_sJ, isO_sI, isO_sJ, isO_sR, iI_add, iI_sub, iI_mul, iI_neg, lv_args, Nat.reduceAdd, Nat.reduceEqDiff, Nat.reduceLeDiff, reduceIte, ite_true, ite_false, true_and, and_true, false_and, and_false, not_true, not_false_iff, or_true, true_or, false_or, or_false, imp_self, ne_eq, Classical.not_not, forall_const, true_implies, false_implies, if_pos, Nat.zero_add, Nat.add_zero, Nat.le_refl, Nat.reduceLT, iz00, iz01, iz10, iz11, ib0, ib1, ib01, reduceCtorEq, cq_X5_follow_20, cq_X5_follow_21, cq_X5_follow_901, o, g3, g4, e1, e2, t1, t3]
    unfold FL at hQ
    refine ⟨fun c => ?_, fun c => ?_⟩
    · rw [if_neg (by omega)] at hQ
      refine hG.1 35 _ _ _ _ ?_
      rw [bq_X5_follow_35]
      simp only [bk_X5_follow_35, wp_aconst_null, wp_iconst, wp_bipush, wp_sipush, wp_ldc, wp_ldc_w, wp_ldc2_w, wp_lconst, wp_iload, wp_iload_n, wp_lload, wp_lload_n, wp_aload, wp_aload_n, wp_istore, wp_istore_n, wp_lstore, wp_lstore_n, wp_astore, wp_astore_n, wp_iinc, wp_iadd, wp_isub, wp_imul, wp_iand, wp_ior, wp_ixor, wp_ishl, wp_ishr, wp_iushr, wp_idiv, wp_irem, wp_ineg, wp_ladd, wp_lsub, wp_lmul, wp_ldiv, wp_lrem, wp_lcmp, wp_i2l, wp_l2i, wp_pop, wp_dup, wp_dup2, wp_goto, wp_ifCond, wp_if_icmp, wp_ifnull, wp_ifnonnull, wp_tableswitch, wp_getfield, wp_putfield, wp_arraylength, wp_iaload, wp_baload, wp_laload, wp_aaload, wp_iastore, wp_bastore, wp_lastore, wp_aastore, wp_new, wp_newarray, wp_anewarray, wp_multianewarray, wp_invokevirtual, wp_invokespecial, wp_invokestatic, wp_ireturn, wp_lreturn, wp_areturn, wp_return_, wpL, ldI, ldJ, ldA, lk, sL, cL, i1, i2, l1, l2, r1, pA, p1, p2, ar, tyAt, rcv, rcr, oO, cmpI, Value.category, rf_some, rf_none, ak, kc, List.drop_succ_cons, List.drop_zero, List.drop_nil, List.take_succ_cons, List.take_zero, List.take_nil, List.head?_cons, List.reverse_cons, List.reverse_nil, List.nil_append, List.cons_append, List.length_cons, List.length_nil, Option.toList_some, Option.toList_none, hT_sI, hT_sJ, hT_sR, hI_sJ, hI_sR, hJ_sI, hJ_sR, hR_sI, hR_sJ, isO_sI, isO_sJ, isO_sR, iI_add, iI_sub, iI_mul, iI_neg, lv_args, Nat.reduceAdd, Nat.reduceEqDiff, Nat.reduceLeDiff, reduceIte, ite_true, ite_false, true_and, and_true, false_and, and_false, not_true, not_false_iff, or_true, true_or, false_or, or_false, imp_self, ne_eq, Classical.not_not, forall_const, true_implies, false_implies, if_pos, Nat.zero_add, Nat.add_zero, Nat.le_refl, Nat.reduceLT, iz00, iz01, iz10, iz11, ib0, ib1, ib01, reduceCtorEq, cq_X5_follow_20, cq_X5_follow_21, cq_X5_follow_901]
      exact hQ h ⟨g1, g2, g3, g4, g5, g6, g7, g8⟩ F5.rf
    · rw [if_pos (by omega)] at hQ
      refine ⟨104, ad 9 11, 105, ad 9 12, 4, 4, 4, rfl, t2, t4, by decide, by decide, by omega, by omega, by omega, ?_⟩
      simp only [wp_aconst_null, wp_iconst, wp_bipush, wp_sipush, wp_ldc, wp_ldc_w, wp_ldc2_w, wp_lconst, wp_iload, wp_iload_n, wp_lload, wp_lload_n, wp_aload, wp_aload_n, wp_istore, wp_istore_n, wp_lstore, wp_lstore_n, wp_astore, wp_astore_n, wp_iinc, wp_iadd, wp_isub, wp_imul, wp_iand, wp_ior, wp_ixor, wp_ishl, wp_ishr, wp_iushr, wp_idiv, wp_irem, wp_ineg, wp_ladd, wp_lsub, wp_lmul, wp_ldiv, wp_lrem, wp_lcmp, wp_i2l, wp_l2i, wp_pop, wp_dup, wp_dup2, wp_goto, wp_ifCond, wp_if_icmp, wp_ifnull, wp_ifnonnull, wp_tableswitch, wp_getfield, wp_putfield, wp_arraylength, wp_iaload, wp_baload, wp_laload, wp_aaload, wp_iastore, wp_bastore, wp_lastore, wp_aastore, wp_new, wp_newarray, wp_anewarray, wp_multianewarray, wp_invokevirtual, wp_invokespecial, wp_invokestatic, wp_ireturn, wp_lreturn, wp_areturn, wp_return_, wpL, ldI, ldJ, ldA, lk, sL, cL, i1, i2, l1, l2, r1, pA, p1, p2, ar, tyAt, rcv, rcr, oO, cmpI, Value.category, rf_some, rf_none, ak, kc, List.drop_succ_cons, List.drop_zero, List.drop_nil, List.take_succ_cons, List.take_zero, List.take_nil, List.head?_cons, List.reverse_cons, List.reverse_nil, List.nil_append, List.cons_append, List.length_cons, List.length_nil, Option.toList_some, Option.toList_none, hT_sI, hT_sJ, hT_sR, hI_sJ, hI_sR, hJ_sI, hJ_sR, hR_sI, hR_sJ, isO_sI, isO_sJ, isO_sR, iI_add, iI_sub, iI_mul, iI_neg, lv_args, Nat.reduceAdd, Nat.reduceEqDiff, Nat.reduceLeDiff, reduceIte, ite_true, ite_false, true_and, and_true, false_and, and_false, not_true, not_false_iff, or_true, true_or, false_or, or_false, imp_self, ne_eq, Classical.not_not, forall_const, true_implies, false_implies, if_pos, Nat.zero_add, Nat.add_zero, Nat.le_refl, Nat.reduceLT, iz00, iz01, iz10, iz11, ib0, ib1, ib01, reduceCtorEq, cq_X5_follow_20, cq_X5_follow_21, cq_X5_follow_901]
      refine hG.1 35 _ _ _ _ ?_
      rw [bq_X5_follow_35]
      simp only [bk_X5_follow_35, wp_aconst_null, wp_iconst, wp_bipush, wp_sipush, wp_ldc, wp_ldc_w, wp_ldc2_w, wp_lconst, wp_iload, wp_iload_n, wp_lload, wp_lload_n, wp_aload, wp_aload_n, wp_istore, wp_istore_n, wp_lstore, wp_lstore_n, wp_astore, wp_astore_n, wp_iinc, wp_iadd, wp_isub, wp_imul, wp_iand, wp_ior, wp_ixor, wp_ishl, wp_ishr, wp_iushr, wp_idiv, wp_irem, wp_ineg, wp_ladd, wp_lsub, wp_lmul, wp_ldiv, wp_lrem, wp_lcmp, wp_i2l, wp_l2i, wp_pop, wp_dup, wp_dup2, wp_goto, wp_ifCond, wp_if_icmp, wp_ifnull, wp_ifnonnull, wp_tableswitch, wp_getfield, wp_putfield, wp_arraylength, wp_iaload, wp_baload, wp_laload, wp_aaload, wp_iastore, wp_bastore, wp_lastore, wp_aastore, wp_new, wp_newarray, wp_anewarray, wp_multianewarray, wp_invokevirtual, wp_invokespecial, wp_invokestatic, wp_ireturn, wp_lreturn, wp_areturn, wp_return_, wpL, ldI, ldJ, ldA, lk, sL, cL, i1, i2, l1, l2, r1, pA, p1, p2, ar, tyAt, rcv, rcr, oO, cmpI, Value.category, rf_some, rf_none, ak, kc, List.drop_succ_cons, List.drop_zero, List.drop_nil, List.take_succ_cons, List.take_zero, List.take_nil, List.head?_cons, List.reverse_cons, List.reverse_nil, List.nil_append, List.cons_append, List.length_cons, List.length_nil, Option.toList_some, Option.toList_none, hT_sI, hT_sJ, hT_sR, hI_sJ, hI_sR, hJ_sI, hJ_sR, hR_sI, hR_sJ, isO_sI, isO_sJ, isO_sR, iI_add, iI_sub, iI_mul, iI_neg, lv_args, Nat.reduceAdd, Nat.reduceEqDiff, Nat.reduceLeDiff, reduceIte, ite_true, ite_false, true_and, and_true, false_and, and_false, not_true, not_false_iff, or_true, true_or, false_or, or_false, imp_self, ne_eq, Classical.not_not, forall_const, true_implies, false_implies, if_pos, Nat.zero_add, Nat.add_zero, Nat.le_refl, Nat.reduceLT, iz00, iz01, iz10, iz11, ib0, ib1, ib01, reduceCtorEq, cq_X5_follow_20, cq_X5_follow_21, cq_X5_follow_901]
      refine hQ _ ⟨?_, ?_, ?_, ?_, fun i hi => ?_, fun i hi => ?_, fun j hj => ?_, fun _ j hj => ?_⟩ ⟨fun _ => rfl, fun _ _ _ => rfl, fun _ _ _ => rfl, fun c k a hz => ?_⟩
      · rw [hI_cpI, if_neg (by omega), hI_sI, if_neg (by omega)]; exact g1
      · rw [hI_cpI, if_neg (by omega), hI_sI, if_neg (by omega)]; exact g2
      · rw [hI_cpI, if_neg (by omega), hI_sI, if_neg (by omega)]; exact g3
      · rw [hI_cpI, if_neg (by omega), hI_sI, if_pos ⟨rfl, rfl, rfl⟩]
      · rw [hI_cpI, if_neg (by omega), hI_sI, if_neg (by omega)]; exact g5 i hi
      · rw [hI_cpI, if_neg (by omega), hI_sI, if_neg (by omega)]; exact g6 i hi
      · rw [hI_cpI, if_neg (by omega), hI_sI, if_neg (by omega)]; exact g7 j hj
      · rw [hI_cpI, if_pos ⟨rfl, rfl, by omega⟩, hI_sI, if_neg (by omega)]; exact g7 j (by omega)
      · rw [hI_cpI, if_neg (by omega), hI_sI, if_neg (by omega)]
  | succ r =>
    obtain ⟨n', rfl⟩ : ∃ n', n = n' + 1 := ⟨n - 1, by omega⟩
    have e1 : (iI (year : Nat) < iI ((year + (r + 1) : Nat) : Nat)) = True := eq_true (by rw [iI_lt (by omega) (by omega)]; omega)
    have hs := sumN_rg (ltF_rg hl hnw) N
    obtain ⟨oa, hoa⟩ : ∃ oa, sum + sumN (ltF loss nw year) N = oa := ⟨_, rfl⟩
    unfold FL at hQ
    rw [hoa] at hQ
    have yr : year + (r + 1) = year + 1 + r := by omega
    have inB : ∀ i B', i < N → (-1 ≤ B'.1 ∧ B'.1 ≤ 2800) → (-1 ≤ (FL N nums loss r (year + 1) (upF nw i ((year : Int) + 1)) (upF now year (nums i)) (oa - ltF loss nw year i) B').1 ∧ (FL N nums loss r (year + 1) (upF nw i ((year : Int) + 1)) (upF now year (nums i)) (oa - ltF loss nw year i) B').1 ≤ 2800) := by
      intro i B' hi hB'
      have a1 := sumN_ge (ltF_rg hl hnw) N hi
      have a2 := ltF_rg hl hnw i
      have q := FL_rg hN nums hl r (year + 1) (upF nw i ((year : Int) + 1)) (upF now year (nums i)) (oa - ltF loss nw year i) B' (nwOK_u hnw i) (by omega) (by omega) hB'
      omega
    have t1 := wr_5_3 R
    have t2 := wt_5_3 R
    have t5 := wr_5_2 R
    have t6 := wt_5_2 R
    have t7 := wr_5_0 R
    have t8 := wt_5_0 R
    have ny : (iI (year : Nat)).toNatClampNeg = year := by rw [iI_cl (by omega)]; omega
    have iny : vp_in (iI (year : Nat)) 4 := iI_in (by omega) (by omega)
    have main : ∀ (m i : Nat) (h' : hp) (X : Lc), i + m = N → F5 h h' → PlP h' ad N (year + (r + 1)) year nums loss nw now (lpF (fun i B => FL N nums loss r (year + 1) (upF nw i ((year : Int) + 1)) (upF now year (nums i)) (oa - ltF loss nw year i) B) i B) → G 69 ([(0, .ref (ad 8 7)), (1, .int (iI (year : Nat))), (2, .int (iI sum)), (3, .int (iI oa)), (4, .int (iI (i : Nat)))] ++ X) [] h' (0, 0) := by
      intro m
      induction m with
      | zero =>
        intro i h' X hi F P
        refine hG.2 69 _ [(0, .ref (ad 8 7)), (1, .int (iI (year : Nat))), (2, .int (iI sum)), (3, .int (iI oa)), (4, .int (iI (i : Nat)))] _ _ _ (fun q hq => List.mem_append_left X hq) ?_
        have ei : i = N := by omega
        subst ei
        have R' := RW_fs F.s R
        have o' := wo_11_13 R'
        have t1' := wr_5_3 R'
        have t2' := wt_5_3 R'
        obtain ⟨p1', p2', p3', p4', p5', p6', p7', p8'⟩ := P
        have e2 : (iI (i : Nat) ≤ iI (i : Nat)) = True := eq_true (Int32.le_refl _)
        have bB := lpF_inv (fun B => -1 ≤ B.1 ∧ B.1 ≤ 2800) (N := i) (fun j B' hj hB' => inB j B' hj hB') i (Nat.le_refl _) B hB
        refine hG.1 69 _ _ _ _ ?_
        rw [bq_X5_follow_69]
        simp only [bk_X5_follow_69, wp_aconst_null, wp_iconst, wp_bipush, wp_sipush, wp_ldc, wp_ldc_w, wp_ldc2_w, wp_lconst, wp_iload, wp_iload_n, wp_lload, wp_lload_n, wp_aload, wp_aload_n, wp_istore, wp_istore_n, wp_lstore, wp_lstore_n, wp_astore, wp_astore_n, wp_iinc, wp_iadd, wp_isub, wp_imul, wp_iand, wp_ior, wp_ixor, wp_ishl, wp_ishr, wp_iushr, wp_idiv, wp_irem, wp_ineg, wp_ladd, wp_lsub, wp_lmul, wp_ldiv, wp_lrem, wp_lcmp, wp_i2l, wp_l2i, wp_pop, wp_dup, wp_dup2, wp_goto, wp_ifCond, wp_if_icmp, wp_ifnull, wp_ifnonnull, wp_tableswitch, wp_getfield, wp_putfield, wp_arraylength, wp_iaload, wp_baload, wp_laload, wp_aaload, wp_iastore, wp_bastore, wp_lastore, wp_aastore, wp_new, wp_newarray, wp_anewarray, wp_multianewarray, wp_invokevirtual, wp_invokespecial, wp_invokestatic, wp_ireturn, wp_lreturn, wp_areturn, wp_return_, wpL, ldI, ldJ, ldA, lk, sL, cL, i1, i2, l1, l2, r1, pA, p1, p2, ar, tyAt, rcv, rcr, oO, cmpI, Value.category, rf_some, rf_none, ak, kc, List.drop_succ_cons, List.drop_zero, List.drop_nil, List.take_succ_cons, List.take_zero, List.take_nil, List.head?_cons, List.reverse_cons, List.reverse_nil, List.nil_append, List.cons_append, List.length_cons, List.length_nil, Option.toList_some, Option.toList_none, hT_sI, hT_sJ, hT_sR, hI_sJ, hI_sR, hJ_sI, hJ_sR, hR_sI, hR_sJ, isO_sI, isO_sJ, isO_sR, iI_add, iI_sub, iI_mul, iI_neg, lv_args, Nat.reduceAdd, Nat.reduceEqDiff, Nat.reduceLeDiff, reduceIte, ite_true, ite_false, true_and, and_true, false_and, and_false, not_true, not_false_iff, or_true, true_or, false_or, or_false, imp_self, ne_eq, Classical.not_not, forall_const, true_implies, false_implies, if_pos, Nat.zero_add, Nat.add_zero, Nat.le_refl, Nat.reduceLT, iz00, iz01, iz10, iz11, ib0, ib1, ib01, reduceCtorEq, cq_X5_follow_20, cq_X5_follow_21, cq_X5_follow_901, o', p1', e2]
        refine hG.1 145 _ _ _ _ ?_
        rw [bq_X5_follow_145]
        simp only [bk_X5_follow_145, wp_aconst_null, wp_iconst, wp_bipush, wp_sipush, wp_ldc, wp_ldc_w, wp_ldc2_w, wp_lconst, wp_iload, wp_iload_n, wp_lload, wp_lload_n, wp_aload, wp_aload_n, wp_istore, wp_istore_n, wp_lstore, wp_lstore_n, wp_astore, wp_astore_n, wp_iinc, wp_iadd, wp_isub, wp_imul, wp_iand, wp_ior, wp_ixor, wp_ishl, wp_ishr, wp_iushr, wp_idiv, wp_irem, wp_ineg, wp_ladd, wp_lsub, wp_lmul, wp_ldiv, wp_lrem, wp_lcmp, wp_i2l, wp_l2i, wp_pop, wp_dup, wp_dup2, wp_goto, wp_ifCond, wp_if_icmp, wp_ifnull, wp_ifnonnull, wp_tableswitch, wp_getfield, wp_putfield, wp_arraylength, wp_iaload, wp_baload, wp_laload, wp_aaload, wp_iastore, wp_bastore, wp_lastore, wp_aastore, wp_new, wp_newarray, wp_anewarray, wp_multianewarray, wp_invokevirtual, wp_invokespecial, wp_invokestatic, wp_ireturn, wp_lreturn, wp_areturn, wp_return_, wpL, ldI, ldJ, ldA, lk, sL, cL, i1, i2, l1, l2, r1, pA, p1, p2, ar, tyAt, rcv, rcr, oO, cmpI, Value.category, rf_some, rf_none, ak, kc, List.drop_succ_cons, List.drop_zero, List.drop_nil, List.take_succ_cons, List.take_zero, List.take_nil, List.head?_cons, List.reverse_cons, List.reverse_nil, List.nil_append, List.cons_append, List.length_cons, List.length_nil, Option.toList_some, Option.toList_none, hT_sI, hT_sJ, hT_sR, hI_sJ, hI_sR, hJ_sI, hJ_sR, hR_sI, hR_sJ, isO_sI, isO_sJ, isO_sR, iI_add, iI_sub, iI_mul, iI_neg, lv_args, Nat.reduceAdd, Nat.reduceEqDiff, Nat.reduceLeDiff, reduceIte, ite_true, ite_false, true_and, and_true, false_and, and_false, not_true, not_false_iff, or_true, true_or, false_or, or_false, imp_self, ne_eq, Classical.not_not, forall_const, true_implies, false_implies, if_pos, Nat.zero_add, Nat.add_zero, Nat.le_refl, Nat.reduceLT, iz00, iz01, iz10, iz11, ib0, ib1, ib01, reduceCtorEq, cq_X5_follow_20, cq_X5_follow_21, cq_X5_follow_901, o', t1', t2', ny, iny]
        refine ⟨ad, i, r, year + 1, nums, loss, nw, upF now year (-900009), oa, _, rfl, RW_fs (Fs.rf.i rfl) R', by omega, ⟨hN, by omega, hl, nwOK_s hnw, by omega, bB⟩, ⟨?_, ?_, ?_, ?_, fun j hj => ?_, fun j hj => ?_, fun j hj => ?_, fun z j hj => ?_⟩, hnu, fun h2 P2 F2 => ?_⟩
        · rw [hI_sI, if_neg (by omega)]; exact p1'
        · rw [hI_sI, if_neg (by omega)]; exact p2'
        · rw [hI_sI, if_neg (by omega), ← yr]; exact p3'
        · rw [hI_sI, if_neg (by omega)]; exact p4'
        · rw [hI_sI, if_neg (by omega)]; exact p5' j hj
        · rw [hI_sI, if_neg (by omega)]; exact p6' j hj
        · rw [hI_sI]
          unfold upF
          by_cases c : j = year
          · rw [if_pos ⟨rfl, c, rfl⟩, if_pos c]
          · rw [if_neg (fun z => c z.2.1), if_neg c]; exact p7' j (by omega)
        · rw [hI_sI, if_neg (by omega)]; exact p8' z j (by omega)
        · simp only [wp_aconst_null, wp_iconst, wp_bipush, wp_sipush, wp_ldc, wp_ldc_w, wp_ldc2_w, wp_lconst, wp_iload, wp_iload_n, wp_lload, wp_lload_n, wp_aload, wp_aload_n, wp_istore, wp_istore_n, wp_lstore, wp_lstore_n, wp_astore, wp_astore_n, wp_iinc, wp_iadd, wp_isub, wp_imul, wp_iand, wp_ior, wp_ixor, wp_ishl, wp_ishr, wp_iushr, wp_idiv, wp_irem, wp_ineg, wp_ladd, wp_lsub, wp_lmul, wp_ldiv, wp_lrem, wp_lcmp, wp_i2l, wp_l2i, wp_pop, wp_dup, wp_dup2, wp_goto, wp_ifCond, wp_if_icmp, wp_ifnull, wp_ifnonnull, wp_tableswitch, wp_getfield, wp_putfield, wp_arraylength, wp_iaload, wp_baload, wp_laload, wp_aaload, wp_iastore, wp_bastore, wp_lastore, wp_aastore, wp_new, wp_newarray, wp_anewarray, wp_multianewarray, wp_invokevirtual, wp_invokespecial, wp_invokestatic, wp_ireturn, wp_lreturn, wp_areturn, wp_return_, wpL, ldI, ldJ, ldA, lk, sL, cL, i1, i2, l1, l2, r1, pA, p1, p2, ar, tyAt, rcv, rcr, oO, cmpI, Value.category, rf_some, rf_none, ak, kc, List.drop_succ_cons, List.drop_zero, List.drop_nil, List.take_succ_cons, List.take_zero, List.take_nil, List.head?_cons, List.reverse_cons, List.reverse_nil, List.nil_append, List.cons_append, List.length_cons, List.length_nil, Option.toList_some, Option.toList_none, hT_sI, hT_sJ, hT_sR, hI_sJ, hI_sR, hJ_sI, hJ_sR, hR_sI, hR_sJ, isO_sI, isO_sJ, isO_sR, iI_add, iI_sub, iI_mul, iI_neg, lv_args, Nat.reduceAdd, Nat.reduceEqDiff, Nat.reduceLeDiff, reduceIte, ite_true, ite_false, true_and, and_true, false_and, and_false, not_true, not_false_iff, or_true, true_or, false_or, or_false, imp_self, ne_eq, Classical.not_not, forall_const, true_implies, false_implies, if_pos, Nat.zero_add, Nat.add_zero, Nat.le_refl, Nat.reduceLT, iz00, iz01, iz10, iz11, ib0, ib1, ib01, reduceCtorEq, cq_X5_follow_20, cq_X5_follow_21, cq_X5_follow_901]
          refine hG.1 161 _ _ _ _ ?_
          rw [bq_X5_follow_161]
          simp only [bk_X5_follow_161, wp_aconst_null, wp_iconst, wp_bipush, wp_sipush, wp_ldc, wp_ldc_w, wp_ldc2_w, wp_lconst, wp_iload, wp_iload_n, wp_lload, wp_lload_n, wp_aload, wp_aload_n, wp_istore, wp_istore_n, wp_lstore, wp_lstore_n, wp_astore, wp_astore_n, wp_iinc, wp_iadd, wp_isub, wp_imul, wp_iand, wp_ior, wp_ixor, wp_ishl, wp_ishr, wp_iushr, wp_idiv, wp_irem, wp_ineg, wp_ladd, wp_lsub, wp_lmul, wp_ldiv, wp_lrem, wp_lcmp, wp_i2l, wp_l2i, wp_pop, wp_dup, wp_dup2, wp_goto, wp_ifCond, wp_if_icmp, wp_ifnull, wp_ifnonnull, wp_tableswitch, wp_getfield, wp_putfield, wp_arraylength, wp_iaload, wp_baload, wp_laload, wp_aaload, wp_iastore, wp_bastore, wp_lastore, wp_aastore, wp_new, wp_newarray, wp_anewarray, wp_multianewarray, wp_invokevirtual, wp_invokespecial, wp_invokestatic, wp_ireturn, wp_lreturn, wp_areturn, wp_return_, wpL, ldI, ldJ, ldA, lk, sL, cL, i1, i2, l1, l2, r1, pA, p1, p2, ar, tyAt, rcv, rcr, oO, cmpI, Value.category, rf_some, rf_none, ak, kc, List.drop_succ_cons, List.drop_zero, List.drop_nil, List.take_succ_cons, List.take_zero, List.take_nil, List.head?_cons, List.reverse_cons, List.reverse_nil, List.nil_append, List.cons_append, List.length_cons, List.length_nil, Option.toList_some, Option.toList_none, hT_sI, hT_sJ, hT_sR, hI_sJ, hI_sR, hJ_sI, hJ_sR, hR_sI, hR_sJ, isO_sI, isO_sJ, isO_sR, iI_add, iI_sub, iI_mul, iI_neg, lv_args, Nat.reduceAdd, Nat.reduceEqDiff, Nat.reduceLeDiff, reduceIte, ite_true, ite_false, true_and, and_true, false_and, and_false, not_true, not_false_iff, or_true, true_or, false_or, or_false, imp_self, ne_eq, Classical.not_not, forall_const, true_implies, false_implies, if_pos, Nat.zero_add, Nat.add_zero, Nat.le_refl, Nat.reduceLT, iz00, iz01, iz10, iz11, ib0, ib1, ib01, reduceCtorEq, cq_X5_follow_20, cq_X5_follow_21, cq_X5_follow_901]
          obtain ⟨q1', q2', q3', q4', q5', q6', q7', q8'⟩ := P2
          refine hQ h2 ⟨q1', q2', by rw [yr]; exact q3', q4', q5', q6', fun j hj => ?_, by rw [yr]; exact q8'⟩ ((F.i (Or.inr (Or.inr (Or.inl rfl)))).tr F2)
          rw [q7' j (by omega)]
          unfold upF
          rw [if_neg (by omega)]
      | succ m ih =>
        intro i h' X hi F P
        refine hG.2 69 _ [(0, .ref (ad 8 7)), (1, .int (iI (year : Nat))), (2, .int (iI sum)), (3, .int (iI oa)), (4, .int (iI (i : Nat)))] _ _ _ (fun q hq => List.mem_append_left X hq) ?_
        have R' := RW_fs F.s R
        have o' := wo_11_13 R'
        have t1' := wr_5_3 R'
        have t2' := wt_5_3 R'
        have t5' := wr_5_2 R'
        have t6' := wt_5_2 R'
        have t7' := wr_5_0 R'
        have t8' := wt_5_0 R'
        obtain ⟨p1', p2', p3', p4', p5', p6', p7', p8'⟩ := P
        have hiN : i < N := by omega
        have e2 : (iI (N : Nat) ≤ iI (i : Nat)) = False := eq_false (by rw [iI_le (by omega) (by omega)]; omega)
        have in1 : vp_in (iI (i : Nat)) 7 := iI_in (by omega) (by omega)
        have n1 : (iI (i : Nat)).toNatClampNeg = i := by rw [iI_cl (by omega)]; omega
        have v1 := p6' i hiN
        have v2 := p5' i hiN
        have bB := lpF_inv (fun B => -1 ≤ B.1 ∧ B.1 ≤ 2800) (N := N) (fun j B' hj hB' => inB j B' hj hB') i (by omega) B hB
        have a1 := sumN_ge (ltF_rg hl hnw) N hiN
        have a2 := ltF_rg hl hnw i
        refine hG.1 69 _ _ _ _ ?_
        rw [bq_X5_follow_69]
        simp only [bk_X5_follow_69, wp_aconst_null, wp_iconst, wp_bipush, wp_sipush, wp_ldc, wp_ldc_w, wp_ldc2_w, wp_lconst, wp_iload, wp_iload_n, wp_lload, wp_lload_n, wp_aload, wp_aload_n, wp_istore, wp_istore_n, wp_lstore, wp_lstore_n, wp_astore, wp_astore_n, wp_iinc, wp_iadd, wp_isub, wp_imul, wp_iand, wp_ior, wp_ixor, wp_ishl, wp_ishr, wp_iushr, wp_idiv, wp_irem, wp_ineg, wp_ladd, wp_lsub, wp_lmul, wp_ldiv, wp_lrem, wp_lcmp, wp_i2l, wp_l2i, wp_pop, wp_dup, wp_dup2, wp_goto, wp_ifCond, wp_if_icmp, wp_ifnull, wp_ifnonnull, wp_tableswitch, wp_getfield, wp_putfield, wp_arraylength, wp_iaload, wp_baload, wp_laload, wp_aaload, wp_iastore, wp_bastore, wp_lastore, wp_aastore, wp_new, wp_newarray, wp_anewarray, wp_multianewarray, wp_invokevirtual, wp_invokespecial, wp_invokestatic, wp_ireturn, wp_lreturn, wp_areturn, wp_return_, wpL, ldI, ldJ, ldA, lk, sL, cL, i1, i2, l1, l2, r1, pA, p1, p2, ar, tyAt, rcv, rcr, oO, cmpI, Value.category, rf_some, rf_none, ak, kc, List.drop_succ_cons, List.drop_zero, List.drop_nil, List.take_succ_cons, List.take_zero, List.take_nil, List.head?_cons, List.reverse_cons, List.reverse_nil, List.nil_append, List.cons_append, List.length_cons, List.length_nil, Option.toList_some, Option.toList_none, hT_sI, hT_sJ, hT_sR, hI_sJ, hI_sR, hJ_sI, hJ_sR, hR_sI, hR_sJ, isO_sI, isO_sJ, isO_sR, iI_add, iI_sub, iI_mul, iI_neg, lv_args, Nat.reduceAdd, Nat.reduceEqDiff, Nat.reduceLeDiff, reduceIte, ite_true, ite_false, true_and, and_true, false_and, and_false, not_true, not_false_iff, or_true, true_or, false_or, or_false, imp_self, ne_eq, Classical.not_not, forall_const, true_implies, false_implies, if_pos, Nat.zero_add, Nat.add_zero, Nat.le_refl, Nat.reduceLT, iz00, iz01, iz10, iz11, ib0, ib1, ib01, reduceCtorEq, cq_X5_follow_20, cq_X5_follow_21, cq_X5_follow_901, o', p1', e2, t5', t6', in1, n1, v1]
        refine ⟨ad, i, year, loss, nw, rfl, R', by omega, by omega, hl, hnw, p2', v1, ?_⟩
        simp only [wp_aconst_null, wp_iconst, wp_bipush, wp_sipush, wp_ldc, wp_ldc_w, wp_ldc2_w, wp_lconst, wp_iload, wp_iload_n, wp_lload, wp_lload_n, wp_aload, wp_aload_n, wp_istore, wp_istore_n, wp_lstore, wp_lstore_n, wp_astore, wp_astore_n, wp_iinc, wp_iadd, wp_isub, wp_imul, wp_iand, wp_ior, wp_ixor, wp_ishl, wp_ishr, wp_iushr, wp_idiv, wp_irem, wp_ineg, wp_ladd, wp_lsub, wp_lmul, wp_ldiv, wp_lrem, wp_lcmp, wp_i2l, wp_l2i, wp_pop, wp_dup, wp_dup2, wp_goto, wp_ifCond, wp_if_icmp, wp_ifnull, wp_ifnonnull, wp_tableswitch, wp_getfield, wp_putfield, wp_arraylength, wp_iaload, wp_baload, wp_laload, wp_aaload, wp_iastore, wp_bastore, wp_lastore, wp_aastore, wp_new, wp_newarray, wp_anewarray, wp_multianewarray, wp_invokevirtual, wp_invokespecial, wp_invokestatic, wp_ireturn, wp_lreturn, wp_areturn, wp_return_, wpL, ldI, ldJ, ldA, lk, sL, cL, i1, i2, l1, l2, r1, pA, p1, p2, ar, tyAt, rcv, rcr, oO, cmpI, Value.category, rf_some, rf_none, ak, kc, List.drop_succ_cons, List.drop_zero, List.drop_nil, List.take_succ_cons, List.take_zero, List.take_nil, List.head?_cons, List.reverse_cons, List.reverse_nil, List.nil_append, List.cons_append, List.length_cons, List.length_nil, Option.toList_some, Option.toList_none, hT_sI, hT_sJ, hT_sR, hI_sJ, hI_sR, hJ_sI, hJ_sR, hR_sI, hR_sJ, isO_sI, isO_sJ, isO_sR, iI_add, iI_sub, iI_mul, iI_neg, lv_args, Nat.reduceAdd, Nat.reduceEqDiff, Nat.reduceLeDiff, reduceIte, ite_true, ite_false, true_and, and_true, false_and, and_false, not_true, not_false_iff, or_true, true_or, false_or, or_false, imp_self, ne_eq, Classical.not_not, forall_const, true_implies, false_implies, if_pos, Nat.zero_add, Nat.add_zero, Nat.le_refl, Nat.reduceLT, iz00, iz01, iz10, iz11, ib0, ib1, ib01, reduceCtorEq, cq_X5_follow_20, cq_X5_follow_21, cq_X5_follow_901]
        refine hG.1 94 _ _ _ _ ?_
        rw [bq_X5_follow_94]
        simp only [bk_X5_follow_94, wp_aconst_null, wp_iconst, wp_bipush, wp_sipush, wp_ldc, wp_ldc_w, wp_ldc2_w, wp_lconst, wp_iload, wp_iload_n, wp_lload, wp_lload_n, wp_aload, wp_aload_n, wp_istore, wp_istore_n, wp_lstore, wp_lstore_n, wp_astore, wp_astore_n, wp_iinc, wp_iadd, wp_isub, wp_imul, wp_iand, wp_ior, wp_ixor, wp_ishl, wp_ishr, wp_iushr, wp_idiv, wp_irem, wp_ineg, wp_ladd, wp_lsub, wp_lmul, wp_ldiv, wp_lrem, wp_lcmp, wp_i2l, wp_l2i, wp_pop, wp_dup, wp_dup2, wp_goto, wp_ifCond, wp_if_icmp, wp_ifnull, wp_ifnonnull, wp_tableswitch, wp_getfield, wp_putfield, wp_arraylength, wp_iaload, wp_baload, wp_laload, wp_aaload, wp_iastore, wp_bastore, wp_lastore, wp_aastore, wp_new, wp_newarray, wp_anewarray, wp_multianewarray, wp_invokevirtual, wp_invokespecial, wp_invokestatic, wp_ireturn, wp_lreturn, wp_areturn, wp_return_, wpL, ldI, ldJ, ldA, lk, sL, cL, i1, i2, l1, l2, r1, pA, p1, p2, ar, tyAt, rcv, rcr, oO, cmpI, Value.category, rf_some, rf_none, ak, kc, List.drop_succ_cons, List.drop_zero, List.drop_nil, List.take_succ_cons, List.take_zero, List.take_nil, List.head?_cons, List.reverse_cons, List.reverse_nil, List.nil_append, List.cons_append, List.length_cons, List.length_nil, Option.toList_some, Option.toList_none, hT_sI, hT_sJ, hT_sR, hI_sJ, hI_sR, hJ_sI, hJ_sR, hR_sI, hR_sJ, isO_sI, isO_sJ, isO_sR, iI_add, iI_sub, iI_mul, iI_neg, lv_args, Nat.reduceAdd, Nat.reduceEqDiff, Nat.reduceLeDiff, reduceIte, ite_true, ite_false, true_and, and_true, false_and, and_false, not_true, not_false_iff, or_true, true_or, false_or, or_false, imp_self, ne_eq, Classical.not_not, forall_const, true_implies, false_implies, if_pos, Nat.zero_add, Nat.add_zero, Nat.le_refl, Nat.reduceLT, iz00, iz01, iz10, iz11, ib0, ib1, ib01, reduceCtorEq, cq_X5_follow_20, cq_X5_follow_21, cq_X5_follow_901, o', t1', t2', ny, iny, t7', t8', in1, n1, v2, t5', t6', p5']
        have v2' : hI (sI (sI h' 104 year (ad 9 11) (iI (nums i))) 103 i (ad 9 10) (iI ((year : Int) + 1))) 102 i (ad 9 9) = iI (nums i) := by rw [hI_sI, if_neg (by omega), hI_sI, if_neg (by omega)]; exact v2
        refine ⟨ad, N, r, year + 1, nums, loss, upF nw i ((year : Int) + 1), upF now year (nums i), oa - ltF loss nw year i, _, rfl, RW_fs ((Fs.rf.i rfl).i rfl) R', by omega, ⟨hN, by omega, hl, nwOK_u hnw i, by omega, bB⟩, ⟨?_, ?_, ?_, ?_, fun j hj => ?_, fun j hj => ?_, fun j hj => ?_, fun z j hj => ?_⟩, hnu, fun h2 P2 F2 => ?_⟩
        · rw [hI_sI, if_neg (by omega), hI_sI, if_neg (by omega)]; exact p1'
        · rw [hI_sI, if_neg (by omega), hI_sI, if_neg (by omega)]; exact p2'
        · rw [hI_sI, if_neg (by omega), hI_sI, if_neg (by omega), ← yr]; exact p3'
        · rw [hI_sI, if_neg (by omega), hI_sI, if_neg (by omega)]; exact p4'
        · rw [hI_sI, if_neg (by omega), hI_sI, if_neg (by omega)]; exact p5' j hj
        · rw [hI_sI]
          unfold upF
          by_cases c : j = i
          · rw [if_pos ⟨rfl, c, rfl⟩, if_pos c]
          · rw [if_neg (fun z => c z.2.1), if_neg c, hI_sI, if_neg (by omega)]; exact p6' j hj
        · rw [hI_sI, if_neg (by omega), hI_sI]
          unfold upF
          by_cases c : j = year
          · rw [if_pos ⟨rfl, c, rfl⟩, if_pos c]
          · rw [if_neg (fun z => c z.2.1), if_neg c]; exact p7' j (by omega)
        · rw [hI_sI, if_neg (by omega), hI_sI, if_neg (by omega)]; exact p8' z j (by omega)
        · have F2' : F5 h h2 := ((F.i (Or.inr (Or.inr (Or.inl rfl)))).i (Or.inr (Or.inl rfl))).tr F2
          have R2 := RW_fs F2'.s R
          have o2 := wo_11_13 R2
          have t5b := wr_5_2 R2
          have t6b := wt_5_2 R2
          simp only [wp_aconst_null, wp_iconst, wp_bipush, wp_sipush, wp_ldc, wp_ldc_w, wp_ldc2_w, wp_lconst, wp_iload, wp_iload_n, wp_lload, wp_lload_n, wp_aload, wp_aload_n, wp_istore, wp_istore_n, wp_lstore, wp_lstore_n, wp_astore, wp_astore_n, wp_iinc, wp_iadd, wp_isub, wp_imul, wp_iand, wp_ior, wp_ixor, wp_ishl, wp_ishr, wp_iushr, wp_idiv, wp_irem, wp_ineg, wp_ladd, wp_lsub, wp_lmul, wp_ldiv, wp_lrem, wp_lcmp, wp_i2l, wp_l2i, wp_pop, wp_dup, wp_dup2, wp_goto, wp_ifCond, wp_if_icmp, wp_ifnull, wp_ifnonnull, wp_tableswitch, wp_getfield, wp_putfield, wp_arraylength, wp_iaload, wp_baload, wp_laload, wp_aaload, wp_iastore, wp_bastore, wp_lastore, wp_aastore, wp_new, wp_newarray, wp_anewarray, wp_multianewarray, wp_invokevirtual, wp_invokespecial, wp_invokestatic, wp_ireturn, wp_lreturn, wp_areturn, wp_return_, wpL, ldI, ldJ, ldA, lk, sL, cL, i1, i2, l1, l2, r1, pA, p1, p2, ar, tyAt, rcv, rcr, oO, cmpI, Value.category, rf_some, rf_none, ak, kc, List.drop_succ_cons, List.drop_zero, List.drop_nil, List.take_succ_cons, List.take_zero, List.take_nil, List.head?_cons, List.reverse_cons, List.reverse_nil, List.nil_append, List.cons_append, List.length_cons, List.length_nil, Option.toList_some, Option.toList_none, hT_sI, hT_sJ, hT_sR, hI_sJ, hI_sR, hJ_sI, hJ_sR, hR_sI, hR_sJ, isO_sI, isO_sJ, isO_sR, iI_add, iI_sub, iI_mul, iI_neg, lv_args, Nat.reduceAdd, Nat.reduceEqDiff, Nat.reduceLeDiff, reduceIte, ite_true, ite_false, true_and, and_true, false_and, and_false, not_true, not_false_iff, or_true, true_or, false_or, or_false, imp_self, ne_eq, Classical.not_not, forall_const, true_implies, false_implies, if_pos, Nat.zero_add, Nat.add_zero, Nat.le_refl, Nat.reduceLT, iz00, iz01, iz10, iz11, ib0, ib1, ib01, reduceCtorEq, cq_X5_follow_20, cq_X5_follow_21, cq_X5_follow_901]
          refine hG.1 130 _ _ _ _ ?_
          rw [bq_X5_follow_130]
          simp only [bk_X5_follow_130, wp_aconst_null, wp_iconst, wp_bipush, wp_sipush, wp_ldc, wp_ldc_w, wp_ldc2_w, wp_lconst, wp_iload, wp_iload_n, wp_lload, wp_lload_n, wp_aload, wp_aload_n, wp_istore, wp_istore_n, wp_lstore, wp_lstore_n, wp_astore, wp_astore_n, wp_iinc, wp_iadd, wp_isub, wp_imul, wp_iand, wp_ior, wp_ixor, wp_ishl, wp_ishr, wp_iushr, wp_idiv, wp_irem, wp_ineg, wp_ladd, wp_lsub, wp_lmul, wp_ldiv, wp_lrem, wp_lcmp, wp_i2l, wp_l2i, wp_pop, wp_dup, wp_dup2, wp_goto, wp_ifCond, wp_if_icmp, wp_ifnull, wp_ifnonnull, wp_tableswitch, wp_getfield, wp_putfield, wp_arraylength, wp_iaload, wp_baload, wp_laload, wp_aaload, wp_iastore, wp_bastore, wp_lastore, wp_aastore, wp_new, wp_newarray, wp_anewarray, wp_multianewarray, wp_invokevirtual, wp_invokespecial, wp_invokestatic, wp_ireturn, wp_lreturn, wp_areturn, wp_return_, wpL, ldI, ldJ, ldA, lk, sL, cL, i1, i2, l1, l2, r1, pA, p1, p2, ar, tyAt, rcv, rcr, oO, cmpI, Value.category, rf_some, rf_none, ak, kc, List.drop_succ_cons, List.drop_zero, List.drop_nil, List.take_succ_cons, List.take_zero, List.take_nil, List.head?_cons, List.reverse_cons, List.reverse_nil, List.nil_append, List.cons_append, List.length_cons, List.length_nil, Option.toList_some, Option.toList_none, hT_sI, hT_sJ, hT_sR, hI_sJ, hI_sR, hJ_sI, hJ_sR, hR_sI, hR_sJ, isO_sI, isO_sJ, isO_sR, iI_add, iI_sub, iI_mul, iI_neg, lv_args, Nat.reduceAdd, Nat.reduceEqDiff, Nat.reduceLeDiff, reduceIte, ite_true, ite_false, true_and, and_true, false_and, and_false, not_true, not_false_iff, or_true, true_or, false_or, or_false, imp_self, ne_eq, Classical.not_not, forall_const, true_implies, false_implies, if_pos, Nat.zero_add, Nat.add_zero, Nat.le_refl, Nat.reduceLT, iz00, iz01, iz10, iz11, ib0, ib1, ib01, reduceCtorEq, cq_X5_follow_20, cq_X5_follow_21, cq_X5_follow_901, o2, t5b, t6b, in1, n1]
          obtain ⟨q1', q2', q3', q4', q5', q6', q7', q8'⟩ := P2
          have q := ih (i + 1) (sI h2 103 i (ad 9 10) (iI (nw i))) [(5, .int (iI (nw i))), (6, .int (iI (ltF loss nw year i)))] (by omega) (F2'.i (Or.inr (Or.inl rfl))) ⟨?_, ?_, ?_, ?_, fun j hj => ?_, fun j hj => ?_, fun j hj => ?_, fun z j hj => ?_⟩
          · rw [nc1] at q
            exact q
          · rw [hI_sI, if_neg (by omega)]; exact q1'
          · rw [hI_sI, if_neg (by omega)]; exact q2'
          · rw [hI_sI, if_neg (by omega), yr]; exact q3'
          · rw [hI_sI, if_neg (by omega)]; exact q4'
          · rw [hI_sI, if_neg (by omega)]; exact q5' j hj
          · rw [hI_sI]
            by_cases c : j = i
            · rw [if_pos ⟨rfl, c, rfl⟩, c]
            · rw [if_neg (fun z => c z.2.1), q6' j hj]; unfold upF; rw [if_neg c]
          · rw [hI_sI, if_neg (by omega), q7' j (by omega)]; unfold upF; rw [if_neg (by omega)]
          · rw [hI_sI, if_neg (by omega)]; exact q8' z j (by omega)
    have sums : ∀ (m i : Nat), i + m = N → G 41 [(0, .ref (ad 8 7)), (1, .int (iI (year : Nat))), (2, .int (iI sum)), (3, .int (iI (sum + sumN (ltF loss nw year) i))), (4, .int (iI (i : Nat)))] [] h (0, 0) := by
      intro m
      induction m with
      | zero =>
        intro i hi
        have ei : i = N := by omega
        subst ei
        have e2 : (iI (i : Nat) ≤ iI (i : Nat)) = True := eq_true (Int32.le_refl _)
        refine hG.1 41 _ _ _ _ ?_
        rw [bq_X5_follow_41]
        simp only [bk_X5_follow_41, wp_aconst_null, wp_iconst, wp_bipush, wp_sipush, wp_ldc, wp_ldc_w, wp_ldc2_w, wp_lconst, wp_iload, wp_iload_n, wp_lload, wp_lload_n, wp_aload, wp_aload_n, wp_istore, wp_istore_n, wp_lstore, wp_lstore_n, wp_astore, wp_astore_n, wp_iinc, wp_iadd, wp_isub, wp_imul, wp_iand, wp_ior, wp_ixor, wp_ishl, wp_ishr, wp_iushr, wp_idiv, wp_irem, wp_ineg, wp_ladd, wp_lsub, wp_lmul, wp_ldiv, wp_lrem, wp_lcmp, wp_i2l, wp_l2i, wp_pop, wp_dup, wp_dup2, wp_goto, wp_ifCond, wp_if_icmp, wp_ifnull, wp_ifnonnull, wp_tableswitch, wp_getfield, wp_putfield, wp_arraylength, wp_iaload, wp_baload, wp_laload, wp_aaload, wp_iastore, wp_bastore, wp_lastore, wp_aastore, wp_new, wp_newarray, wp_anewarray, wp_multianewarray, wp_invokevirtual, wp_invokespecial, wp_invokestatic, wp_ireturn, wp_lreturn, wp_areturn, wp_return_, wpL, ldI, ldJ, ldA, lk, sL, cL, i1, i2, l1, l2, r1, pA, p1, p2, ar, tyAt, rcv, rcr, oO, cmpI, Value.category, rf_some, rf_none, ak, kc, List.drop_succ_cons, List.drop_zero, List.drop_nil, List.take_succ_cons, List.take_zero, List.take_nil, List.head?_cons, List.reverse_cons, List.reverse_nil, List.nil_append, List.cons_append, List.length_cons, List.length_nil, Option.toList_some, Option.toList_none, hT_sI, hT_sJ, hT_sR, hI_sJ, hI_sR, hJ_sI, hJ_sR, hR_sI, hR_sJ, isO_sI, isO_sJ, isO_sR, iI_add, iI_sub, iI_mul, iI_neg, lv_args, Nat.reduceAdd, Nat.reduceEqDiff, Nat.reduceLeDiff, reduceIte, ite_true, ite_false, true_and, and_true, false_and, and_false, not_true, not_false_iff, or_true, true_or, false_or, or_false, imp_self, ne_eq, Classical.not_not, forall_const, true_implies, false_implies, if_pos, Nat.zero_add, Nat.add_zero, Nat.le_refl, Nat.reduceLT, iz00, iz01, iz10, iz11, ib0, ib1, ib01, reduceCtorEq, cq_X5_follow_20, cq_X5_follow_21, cq_X5_follow_901, o, g1, e2]
        refine hG.1 66 _ _ _ _ ?_
        rw [bq_X5_follow_66]
        simp only [bk_X5_follow_66, wp_aconst_null, wp_iconst, wp_bipush, wp_sipush, wp_ldc, wp_ldc_w, wp_ldc2_w, wp_lconst, wp_iload, wp_iload_n, wp_lload, wp_lload_n, wp_aload, wp_aload_n, wp_istore, wp_istore_n, wp_lstore, wp_lstore_n, wp_astore, wp_astore_n, wp_iinc, wp_iadd, wp_isub, wp_imul, wp_iand, wp_ior, wp_ixor, wp_ishl, wp_ishr, wp_iushr, wp_idiv, wp_irem, wp_ineg, wp_ladd, wp_lsub, wp_lmul, wp_ldiv, wp_lrem, wp_lcmp, wp_i2l, wp_l2i, wp_pop, wp_dup, wp_dup2, wp_goto, wp_ifCond, wp_if_icmp, wp_ifnull, wp_ifnonnull, wp_tableswitch, wp_getfield, wp_putfield, wp_arraylength, wp_iaload, wp_baload, wp_laload, wp_aaload, wp_iastore, wp_bastore, wp_lastore, wp_aastore, wp_new, wp_newarray, wp_anewarray, wp_multianewarray, wp_invokevirtual, wp_invokespecial, wp_invokestatic, wp_ireturn, wp_lreturn, wp_areturn, wp_return_, wpL, ldI, ldJ, ldA, lk, sL, cL, i1, i2, l1, l2, r1, pA, p1, p2, ar, tyAt, rcv, rcr, oO, cmpI, Value.category, rf_some, rf_none, ak, kc, List.drop_succ_cons, List.drop_zero, List.drop_nil, List.take_succ_cons, List.take_zero, List.take_nil, List.head?_cons, List.reverse_cons, List.reverse_nil, List.nil_append, List.cons_append, List.length_cons, List.length_nil, Option.toList_some, Option.toList_none, hT_sI, hT_sJ, hT_sR, hI_sJ, hI_sR, hJ_sI, hJ_sR, hR_sI, hR_sJ, isO_sI, isO_sJ, isO_sR, iI_add, iI_sub, iI_mul, iI_neg, lv_args, Nat.reduceAdd, Nat.reduceEqDiff, Nat.reduceLeDiff, reduceIte, ite_true, ite_false, true_and, and_true, false_and, and_false, not_true, not_false_iff, or_true, true_or, false_or, or_false, imp_self, ne_eq, Classical.not_not, forall_const, true_implies, false_implies, if_pos, Nat.zero_add, Nat.add_zero, Nat.le_refl, Nat.reduceLT, iz00, iz01, iz10, iz11, ib0, ib1, ib01, reduceCtorEq, cq_X5_follow_20, cq_X5_follow_21, cq_X5_follow_901]
        rw [hoa]
        exact main i 0 h [] (by omega) F5.rf ⟨g1, g2, g3, g4, g5, g6, g7, g8⟩
      | succ m ih =>
        intro i hi
        have e2 : (iI (N : Nat) ≤ iI (i : Nat)) = False := eq_false (by rw [iI_le (by omega) (by omega)]; omega)
        refine hG.1 41 _ _ _ _ ?_
        rw [bq_X5_follow_41]
        simp only [bk_X5_follow_41, wp_aconst_null, wp_iconst, wp_bipush, wp_sipush, wp_ldc, wp_ldc_w, wp_ldc2_w, wp_lconst, wp_iload, wp_iload_n, wp_lload, wp_lload_n, wp_aload, wp_aload_n, wp_istore, wp_istore_n, wp_lstore, wp_lstore_n, wp_astore, wp_astore_n, wp_iinc, wp_iadd, wp_isub, wp_imul, wp_iand, wp_ior, wp_ixor, wp_ishl, wp_ishr, wp_iushr, wp_idiv, wp_irem, wp_ineg, wp_ladd, wp_lsub, wp_lmul, wp_ldiv, wp_lrem, wp_lcmp, wp_i2l, wp_l2i, wp_pop, wp_dup, wp_dup2, wp_goto, wp_ifCond, wp_if_icmp, wp_ifnull, wp_ifnonnull, wp_tableswitch, wp_getfield, wp_putfield, wp_arraylength, wp_iaload, wp_baload, wp_laload, wp_aaload, wp_iastore, wp_bastore, wp_lastore, wp_aastore, wp_new, wp_newarray, wp_anewarray, wp_multianewarray, wp_invokevirtual, wp_invokespecial, wp_invokestatic, wp_ireturn, wp_lreturn, wp_areturn, wp_return_, wpL, ldI, ldJ, ldA, lk, sL, cL, i1, i2, l1, l2, r1, pA, p1, p2, ar, tyAt, rcv, rcr, oO, cmpI, Value.category, rf_some, rf_none, ak, kc, List.drop_succ_cons, List.drop_zero, List.drop_nil, List.take_succ_cons, List.take_zero, List.take_nil, List.head?_cons, List.reverse_cons, List.reverse_nil, List.nil_append, List.cons_append, List.length_cons, List.length_nil, Option.toList_some, Option.toList_none, hT_sI, hT_sJ, hT_sR, hI_sJ, hI_sR, hJ_sI, hJ_sR, hR_sI, hR_sJ, isO_sI, isO_sJ, isO_sR, iI_add, iI_sub, iI_mul, iI_neg, lv_args, Nat.reduceAdd, Nat.reduceEqDiff, Nat.reduceLeDiff, reduceIte, ite_true, ite_false, true_and, and_true, false_and, and_false, not_true, not_false_iff, or_true, true_or, false_or, or_false, imp_self, ne_eq, Classical.not_not, forall_const, true_implies, false_implies, if_pos, Nat.zero_add, Nat.add_zero, Nat.le_refl, Nat.reduceLT, iz00, iz01, iz10, iz11, ib0, ib1, ib01, reduceCtorEq, cq_X5_follow_20, cq_X5_follow_21, cq_X5_follow_901, o, g1, e2]
        refine ⟨ad, i, year, loss, nw, rfl, R, by omega, by omega, hl, hnw, g2, g6 i (by omega), ?_⟩
        simp only [wp_aconst_null, wp_iconst, wp_bipush, wp_sipush, wp_ldc, wp_ldc_w, wp_ldc2_w, wp_lconst, wp_iload, wp_iload_n, wp_lload, wp_lload_n, wp_aload, wp_aload_n, wp_istore, wp_istore_n, wp_lstore, wp_lstore_n, wp_astore, wp_astore_n, wp_iinc, wp_iadd, wp_isub, wp_imul, wp_iand, wp_ior, wp_ixor, wp_ishl, wp_ishr, wp_iushr, wp_idiv, wp_irem, wp_ineg, wp_ladd, wp_lsub, wp_lmul, wp_ldiv, wp_lrem, wp_lcmp, wp_i2l, wp_l2i, wp_pop, wp_dup, wp_dup2, wp_goto, wp_ifCond, wp_if_icmp, wp_ifnull, wp_ifnonnull, wp_tableswitch, wp_getfield, wp_putfield, wp_arraylength, wp_iaload, wp_baload, wp_laload, wp_aaload, wp_iastore, wp_bastore, wp_lastore, wp_aastore, wp_new, wp_newarray, wp_anewarray, wp_multianewarray, wp_invokevirtual, wp_invokespecial, wp_invokestatic, wp_ireturn, wp_lreturn, wp_areturn, wp_return_, wpL, ldI, ldJ, ldA, lk, sL, cL, i1, i2, l1, l2, r1, pA, p1, p2, ar, tyAt, rcv, rcr, oO, cmpI, Value.category, rf_some, rf_none, ak, kc, List.drop_succ_cons, List.drop_zero, List.drop_nil, List.take_succ_cons, List.take_zero, List.take_nil, List.head?_cons, List.reverse_cons, List.reverse_nil, List.nil_append, List.cons_append, List.length_cons, List.length_nil, Option.toList_some, Option.toList_none, hT_sI, hT_sJ, hT_sR, hI_sJ, hI_sR, hJ_sI, hJ_sR, hR_sI, hR_sJ, isO_sI, isO_sJ, isO_sR, iI_add, iI_sub, iI_mul, iI_neg, lv_args, Nat.reduceAdd, Nat.reduceEqDiff, Nat.reduceLeDiff, reduceIte, ite_true, ite_false, true_and, and_true, false_and, and_false, not_true, not_false_iff, or_true, true_or, false_or, or_false, imp_self, ne_eq, Classical.not_not, forall_const, true_implies, false_implies, if_pos, Nat.zero_add, Nat.add_zero, Nat.le_refl, Nat.reduceLT, iz00, iz01, iz10, iz11, ib0, ib1, ib01, reduceCtorEq, cq_X5_follow_20, cq_X5_follow_21, cq_X5_follow_901]
        refine hG.1 58 _ _ _ _ ?_
        rw [bq_X5_follow_58]
        simp only [bk_X5_follow_58, wp_aconst_null, wp_iconst, wp_bipush, wp_sipush, wp_ldc, wp_ldc_w, wp_ldc2_w, wp_lconst, wp_iload, wp_iload_n, wp_lload, wp_lload_n, wp_aload, wp_aload_n, wp_istore, wp_istore_n, wp_lstore, wp_lstore_n, wp_astore, wp_astore_n, wp_iinc, wp_iadd, wp_isub, wp_imul, wp_iand, wp_ior, wp_ixor, wp_ishl, wp_ishr, wp_iushr, wp_idiv, wp_irem, wp_ineg, wp_ladd, wp_lsub, wp_lmul, wp_ldiv, wp_lrem, wp_lcmp, wp_i2l, wp_l2i, wp_pop, wp_dup, wp_dup2, wp_goto, wp_ifCond, wp_if_icmp, wp_ifnull, wp_ifnonnull, wp_tableswitch, wp_getfield, wp_putfield, wp_arraylength, wp_iaload, wp_baload, wp_laload, wp_aaload, wp_iastore, wp_bastore, wp_lastore, wp_aastore, wp_new, wp_newarray, wp_anewarray, wp_multianewarray, wp_invokevirtual, wp_invokespecial, wp_invokestatic, wp_ireturn, wp_lreturn, wp_areturn, wp_return_, wpL, ldI, ldJ, ldA, lk, sL, cL, i1, i2, l1, l2, r1, pA, p1, p2, ar, tyAt, rcv, rcr, oO, cmpI, Value.category, rf_some, rf_none, ak, kc, List.drop_succ_cons, List.drop_zero, List.drop_nil, List.take_succ_cons, List.take_zero, List.take_nil, List.head?_cons, List.reverse_cons, List.reverse_nil, List.nil_append, List.cons_append, List.length_cons, List.length_nil, Option.toList_some, Option.toList_none, hT_sI, hT_sJ, hT_sR, hI_sJ, hI_sR, hJ_sI, hJ_sR, hR_sI, hR_sJ, isO_sI, isO_sJ, isO_sR, iI_add, iI_sub, iI_mul, iI_neg, lv_args, Nat.reduceAdd, Nat.reduceEqDiff, Nat.reduceLeDiff, reduceIte, ite_true, ite_false, true_and, and_true, false_and, and_false, not_true, not_false_iff, or_true, true_or, false_or, or_false, imp_self, ne_eq, Classical.not_not, forall_const, true_implies, false_implies, if_pos, Nat.zero_add, Nat.add_zero, Nat.le_refl, Nat.reduceLT, iz00, iz01, iz10, iz11, ib0, ib1, ib01, reduceCtorEq, cq_X5_follow_20, cq_X5_follow_21, cq_X5_follow_901]
        have q := ih (i + 1) (by omega)
        rw [nc1, show sumN (ltF loss nw year) (i + 1) = sumN (ltF loss nw year) i + ltF loss nw year i from rfl, ← Int.add_assoc] at q
        exact q
    refine hG.1 0 _ _ _ _ ?_
    rw [bq_X5_follow_0]
    simp only [bk_X5_follow_0, wp_aconst_null, wp_iconst, wp_bipush, wp_sipush, wp_ldc, wp_ldc_w, wp_ldc2_w, wp_lconst, wp_iload, wp_iload_n, wp_lload, wp_lload_n, wp_aload, wp_aload_n, wp_istore, wp_istore_n, wp_lstore, wp_lstore_n, wp_astore, wp_astore_n, wp_iinc, wp_iadd, wp_isub, wp_imul, wp_iand, wp_ior, wp_ixor, wp_ishl, wp_ishr, wp_iushr, wp_idiv, wp_irem, wp_ineg, wp_ladd, wp_lsub, wp_lmul, wp_ldiv, wp_lrem, wp_lcmp, wp_i2l, wp_l2i, wp_pop, wp_dup, wp_dup2, wp_goto, wp_ifCond, wp_if_icmp, wp_ifnull, wp_ifnonnull, wp_tableswitch, wp_getfield, wp_putfield, wp_arraylength, wp_iaload, wp_baload, wp_laload, wp_aaload, wp_iastore, wp_bastore, wp_lastore, wp_aastore, wp_new, wp_newarray, wp_anewarray, wp_multianewarray, wp_invokevirtual, wp_invokespecial, wp_invokestatic, wp_ireturn, wp_lreturn, wp_areturn, wp_return_, wpL, ldI, ldJ, ldA, lk, sL, cL, i1, i2, l1, l2, r1, pA, p1, p2, ar, tyAt, rcv, rcr, oO, cmpI, Value.category, rf_some, rf_none, ak, kc, List.drop_succ_cons, List.drop_zero, List.drop_nil, List.take_succ_cons, List.take_zero, List.take_nil, List.head?_cons, List.reverse_cons, List.reverse_nil, List.nil_append, List.cons_append, List.length_cons, List.length_nil, Option.toList_some, Option.toList_none, hT_sI, hT_sJ, hT_sR, hI_sJ, hI_sR, hJ_sI, hJ_sR, hR_sI, hR_sJ, isO_sI, isO_sJ, isO_sR, iI_add, iI_sub, iI_mul, iI_neg, lv_args, Nat.reduceAdd, Nat.reduceEqDiff, Nat.reduceLeDiff, reduceIte, ite_true, ite_false, true_and, and_true, false_and, and_false, not_true, not_false_iff, or_true, true_or, false_or, or_false, imp_self, ne_eq, Classical.not_not, forall_const, true_implies, false_implies, if_pos, Nat.zero_add, Nat.add_zero, Nat.le_refl, Nat.reduceLT, iz00, iz01, iz10, iz11, ib0, ib1, ib01, reduceCtorEq, cq_X5_follow_20, cq_X5_follow_21, cq_X5_follow_901, o, g3, e1]
    refine hG.1 36 _ _ _ _ ?_
    rw [bq_X5_follow_36]
    simp only [bk_X5_follow_36, wp_aconst_null, wp_iconst, wp_bipush, wp_sipush, wp_ldc, wp_ldc_w, wp_ldc2_w, wp_lconst, wp_iload, wp_iload_n, wp_lload, wp_lload_n, wp_aload, wp_aload_n, wp_istore, wp_istore_n, wp_lstore, wp_lstore_n, wp_astore, wp_astore_n, wp_iinc, wp_iadd, wp_isub, wp_imul, wp_iand, wp_ior, wp_ixor, wp_ishl, wp_ishr, wp_iushr, wp_idiv, wp_irem, wp_ineg, wp_ladd, wp_lsub, wp_lmul, wp_ldiv, wp_lrem, wp_lcmp, wp_i2l, wp_l2i, wp_pop, wp_dup, wp_dup2, wp_goto, wp_ifCond, wp_if_icmp, wp_ifnull, wp_ifnonnull, wp_tableswitch, wp_getfield, wp_putfield, wp_arraylength, wp_iaload, wp_baload, wp_laload, wp_aaload, wp_iastore, wp_bastore, wp_lastore, wp_aastore, wp_new, wp_newarray, wp_anewarray, wp_multianewarray, wp_invokevirtual, wp_invokespecial, wp_invokestatic, wp_ireturn, wp_lreturn, wp_areturn, wp_return_, wpL, ldI, ldJ, ldA, lk, sL, cL, i1, i2, l1, l2, r1, pA, p1, p2, ar, tyAt, rcv, rcr, oO, cmpI, Value.category, rf_some, rf_none, ak, kc, List.drop_succ_cons, List.drop_zero, List.drop_nil, List.take_succ_cons, List.take_zero, List.take_nil, List.head?_cons, List.reverse_cons, List.reverse_nil, List.nil_append, List.cons_append, List.length_cons, List.length_nil, Option.toList_some, Option.toList_none, hT_sI, hT_sJ, hT_sR, hI_sJ, hI_sR, hJ_sI, hJ_sR, hR_sI, hR_sJ, isO_sI, isO_sJ, isO_sR, iI_add, iI_sub, iI_mul, iI_neg, lv_args, Nat.reduceAdd, Nat.reduceEqDiff, Nat.reduceLeDiff, reduceIte, ite_true, ite_false, true_and, and_true, false_and, and_false, not_true, not_false_iff, or_true, true_or, false_or, or_false, imp_self, ne_eq, Classical.not_not, forall_const, true_implies, false_implies, if_pos, Nat.zero_add, Nat.add_zero, Nat.le_refl, Nat.reduceLT, iz00, iz01, iz10, iz11, ib0, ib1, ib01, reduceCtorEq, cq_X5_follow_20, cq_X5_follow_21, cq_X5_follow_901]
    have q := sums N 0 (by omega)
    rw [show sumN (ltF loss nw year) 0 = 0 from rfl, Int.add_zero] at q
    exact q
theorem vr_X5_follow (g : GP) : ∀ n : Nat, Val g yX5_follow prog_7_method_4_code 7 none (3 + n) (180 + 60 * n) 0 0 (sr_X5_follow n)
  | 0 => fun _ _ _ h => absurd h (fun z => z)
  | n + 1 => val_of (own := RX5) (ini := false) (on := 5) (rs := rs_X5_follow) (cl := cl_X5_follow n) (rt := 0) (bl := bl_X5_follow) (plainFor_of_name (by decide +kernel)) rfl (rok_X5 _) ck_X5_follow (fun h => by cases h) rfl (List.forall_mem_cons.mpr ⟨caC (tb_in 834 (by decide +kernel) (by decide +kernel)) ⟨by omega, by omega⟩, List.forall_mem_cons.mpr ⟨caV (val_X5_lightOf g) (tb_in 835 (by decide +kernel) (by decide +kernel)) (tb_in 837 (by decide +kernel) (by decide +kernel)) (tb_in 22 (by decide +kernel) (by decide +kernel)) (tb_in 838 (by decide +kernel) (by decide +kernel)) (tb_in 61 (by decide +kernel) (by decide +kernel)) ⟨by decide, by decide, by decide +kernel⟩ ⟨rfl, by decide⟩ ⟨by omega, by omega⟩, List.forall_mem_cons.mpr ⟨caV (vr_X5_follow g n) (tb_in 830 (by decide +kernel) (by decide +kernel)) (tb_in 832 (by decide +kernel) (by decide +kernel)) (tb_in 21 (by decide +kernel) (by decide +kernel)) (tb_in 833 (by decide +kernel) (by decide +kernel)) (tb_in 61 (by decide +kernel) (by decide +kernel)) ⟨by decide, by decide, by decide +kernel⟩ ⟨rfl, by decide⟩ ⟨by omega, by omega⟩, (fun _ h => absurd h List.not_mem_nil)⟩⟩⟩) (pf_X5_follow n)
def sp_X5_follow : Spec := sr_X5_follow 12
theorem val_X5_follow (g : GP) : Val g yX5_follow prog_7_method_4_code 7 none 15 900 0 0 sp_X5_follow := vr_X5_follow g 12

