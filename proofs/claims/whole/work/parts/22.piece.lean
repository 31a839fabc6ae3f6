def adP (ad : Ad) (N a b d f g : Nat) : Ad := fun r i => if i = N ∧ r < 5 then (if r = 0 then a else if r = 1 then b else if r = 2 then d else if r = 3 then f else g) else ad r i
theorem xt_f1 : ∀ r ∈ xtab, r.2.2.2.1 = 1 → r.2.2.2.2.1 = 1 ∧ r.2.2.2.2.2.1 = 0 ∧ r.2.2.2.2.2.2 = 0 := by decide
theorem ne_of_none {h : hp} {x y : Nat} (hx : hT h x ≠ none) (hy : hT h y = none) : ¬ x = y := fun e => hx (by rw [e]; exact hy)
def cl_X11_piece : Nat → Nat × Nat × Spec := fun q => if q = 11 then (4, 12, sp_X3_init) else (0, 0, fun _ _ _ => False)
theorem cq_X11_piece_11 : cl_X11_piece 11 = (4, 12, sp_X3_init) := rfl

def sp_X11_piece : Spec := fun as h K => ∃ (ad : Ad) (st : St), as = [.ref (ad 30 0)] ∧ RX h ad st ∧ WF st ∧ ∀ h' ad', RX h' ad' (n_piece st) → FX h h' → ad' 30 0 = ad 30 0 → K (some (.int (iI (r_piece st)))) h'
set_option maxHeartbeats 4000000 in
theorem pf_X11_piece : PfM cl_X11_piece (5, 20) 1 1 bl_X11_piece sp_X11_piece := by
  rintro as h Q ⟨ad, st, rfl, R, w, hQ⟩
  refine ⟨Nat.le_of_ble_eq_true rfl, fun G hG => ?_⟩
  have h0 := w.1.1
  have o := xo_x R
  have c0 := xc_0 R
  have e1 : (iI (st 0 0) < iI 7) = (st 0 0 < 7) := propext (iI_lt (by omega) (by omega))
  unfold n_piece r_piece at hQ
  refine hG.1 0 _ _ _ _ ?_
  rw [bq_X11_piece_0]
  simp only [bk_X11_piece_0, wp_aconst_null, wp_iconst, wp_bipush, wp_sipush, wp_ldc, wp_ldc_w, wp_ldc2_w, wp_lconst, wp_iload, wp_iload_n, wp_lload, wp_lload_n, wp_aload, wp_aload_n, wp_istore, wp_istore_n, wp_lstore, wp_lstore_n, wp_astore, wp_astore_n, wp_iinc, wp_iadd, wp_isub, wp_imul, wp_iand, wp_ior, wp_ixor, wp_ishl, wp_ishr, wp_iushr, wp_idiv, wp_irem, wp_ineg, wp_ladd, wp_lsub, wp_lmul, wp_ldiv, wp_lrem, wp_lcmp, wp_i2l, wp_l2i, wp_pop, wp_dup, wp_dup2, wp_goto, wp_ifCond, wp_if_icmp, wp_ifnull, wp_ifnonnull, wp_tableswitch, wp_getfield, wp_putfield, wp_arraylength, wp_iaload, wp_baload, wp_laload, wp_aaload, wp_iastore, wp_bastore, wp_lastore, wp_aastore, wp_new, wp_newarray, wp_anewarray, wp_multianewarray, wp_invokevirtual, wp_invokespecial, wp_invokestatic, wp_ireturn, wp_lreturn, wp_areturn, wp_return_, wpL, ldI, ldJ, ldA, lk, sL, cL, i1, i2, l1, l2, r1, pA, p1, p2, ar, tyAt, rcv, rcr, oO, cmpI, Value.category, rf_some, rf_none, ak, kc, List.drop_succ_cons, List.drop_zero, List.drop_nil, List.take_succ_cons, List.take_zero, List.take_nil, List.head?_cons, List.reverse_cons, List.reverse_nil, List.nil_append, List.cons_append, List.length_cons, List.length_nil, Option.toList_some, Option.toList_none, hT_sI, hT_sJ, hT_sR, hI_sJ, hI_sR, hJ_sI, hJ_sR, hR_sI, hR_sJ, isO_sI, isO_sJ, isO_sR, iI_add, iI_sub, iI_mul, iI_neg, lv_args, Nat.reduceAdd, Nat.reduceEqDiff, Nat.reduceLeDiff, reduceIte, ite_true, ite_false, true_and, and_true, false_and, and_false, not_true, not_false_iff, or_true, true_or, false_or, or_false, imp_self, ne_eq, Classical.not_not, forall_const, true_implies, false_implies, if_pos, Nat.zero_add, Nat.add_zero, Nat.le_refl, Nat.reduceLT, iz00, iz01, iz10, iz11, ib0, ib1, ib01, reduceCtorEq, cq_X11_piece_11, o, c0, e1]
  refine ⟨fun c => ?_, fun c => ?_⟩
  rotate_left
  · rw [if_neg (by omega), if_neg (by omega)] at hQ
    exact hQ h ad R FX.rf rfl
  rw [if_pos (by omega), if_pos (by omega)] at hQ
  have t1 := xa_23 R
  have t2 := xat_23 R
  have nx : hT h (ad 30 0) ≠ none := by rw [R.1.1]; exact fun z => by cases z
  have na : hT h (ad 8 0) ≠ none := by rw [t2]; exact fun z => by cases z
  refine hG.1 12 _ _ _ _ ?_
  rw [bq_X11_piece_12]
  simp only [bk_X11_piece_12, wp_aconst_null, wp_iconst, wp_bipush, wp_sipush, wp_ldc, wp_ldc_w, wp_ldc2_w, wp_lconst, wp_iload, wp_iload_n, wp_lload, wp_lload_n, wp_aload, wp_aload_n, wp_istore, wp_istore_n, wp_lstore, wp_lstore_n, wp_astore, wp_astore_n, wp_iinc, wp_iadd, wp_isub, wp_imul, wp_iand, wp_ior, wp_ixor, wp_ishl, wp_ishr, wp_iushr, wp_idiv, wp_irem, wp_ineg, wp_ladd, wp_lsub, wp_lmul, wp_ldiv, wp_lrem, wp_lcmp, wp_i2l, wp_l2i, wp_pop, wp_dup, wp_dup2, wp_goto, wp_ifCond, wp_if_icmp, wp_ifnull, wp_ifnonnull, wp_tableswitch, wp_getfield, wp_putfield, wp_arraylength, wp_iaload, wp_baload, wp_laload, wp_aaload, wp_iastore, wp_bastore, wp_lastore, wp_aastore, wp_new, wp_newarray, wp_anewarray, wp_multianewarray, wp_invokevirtual, wp_invokespecial, wp_invokestatic, wp_ireturn, wp_lreturn, wp_areturn, wp_return_, wpL, ldI, ldJ, ldA, lk, sL, cL, i1, i2, l1, l2, r1, pA, p1, p2, ar, tyAt, rcv, rcr, oO, cmpI, Value.category, rf_some, rf_none, ak, kc, List.drop_succ_cons, List.drop_zero, List.drop_nil, List.take_succ_cons, List.take_zero, List.take_nil, List.head?_cons, List.reverse_cons, List.reverse_nil, List.nil_append, List.cons_append, List.length_cons, List.length_nil, Option.toList_some, Option.toList_none, hT_sI, hT_sJ, hT_sR, hI_sJ, hI_sR, hJ_sI, hJ_sR, hR_sI, hR_sJ, isO_sI, isO_sJ, isO_sR, iI_add, iI_sub, iI_mul, iI_neg, lv_args, Nat.reduceAdd, Nat.reduceEqDiff, Nat.reduceLeDiff, reduceIte, ite_true, ite_false, true_and, and_true, false_and, and_false, not_true, not_false_iff, or_true, true_or, false_or, or_false, imp_self, ne_eq, Classical.not_not, forall_const, true_implies, false_implies, if_pos, Nat.zero_add, Nat.add_zero, Nat.le_refl, Nat.reduceLT, iz00, iz01, iz10, iz11, ib0, ib1, ib01, reduceCtorEq, cq_X11_piece_11, o, c0, t1]
  intro a hna
  have xa := ne_of_none nx hna
  have aa := ne_of_none na hna
  simp only [wp_aconst_null, wp_iconst, wp_bipush, wp_sipush, wp_ldc, wp_ldc_w, wp_ldc2_w, wp_lconst, wp_iload, wp_iload_n, wp_lload, wp_lload_n, wp_aload, wp_aload_n, wp_istore, wp_istore_n, wp_lstore, wp_lstore_n, wp_astore, wp_astore_n, wp_iinc, wp_iadd, wp_isub, wp_imul, wp_iand, wp_ior, wp_ixor, wp_ishl, wp_ishr, wp_iushr, wp_idiv, wp_irem, wp_ineg, wp_ladd, wp_lsub, wp_lmul, wp_ldiv, wp_lrem, wp_lcmp, wp_i2l, wp_l2i, wp_pop, wp_dup, wp_dup2, wp_goto, wp_ifCond, wp_if_icmp, wp_ifnull, wp_ifnonnull, wp_tableswitch, wp_getfield, wp_putfield, wp_arraylength, wp_iaload, wp_baload, wp_laload, wp_aaload, wp_iastore, wp_bastore, wp_lastore, wp_aastore, wp_new, wp_newarray, wp_anewarray, wp_multianewarray, wp_invokevirtual, wp_invokespecial, wp_invokestatic, wp_ireturn, wp_lreturn, wp_areturn, wp_return_, wpL, ldI, ldJ, ldA, lk, sL, cL, i1, i2, l1, l2, r1, pA, p1, p2, ar, tyAt, rcv, rcr, oO, cmpI, Value.category, rf_some, rf_none, ak, kc, List.drop_succ_cons, List.drop_zero, List.drop_nil, List.take_succ_cons, List.take_zero, List.take_nil, List.head?_cons, List.reverse_cons, List.reverse_nil, List.nil_append, List.cons_append, List.length_cons, List.length_nil, Option.toList_some, Option.toList_none, hT_sI, hT_sJ, hT_sR, hI_sJ, hI_sR, hJ_sI, hJ_sR, hR_sI, hR_sJ, isO_sI, isO_sJ, isO_sR, iI_add, iI_sub, iI_mul, iI_neg, lv_args, Nat.reduceAdd, Nat.reduceEqDiff, Nat.reduceLeDiff, reduceIte, ite_true, ite_false, true_and, and_true, false_and, and_false, not_true, not_false_iff, or_true, true_or, false_or, or_false, imp_self, ne_eq, Classical.not_not, forall_const, true_implies, false_implies, if_pos, Nat.zero_add, Nat.add_zero, Nat.le_refl, Nat.reduceLT, iz00, iz01, iz10, iz11, ib0, ib1, ib01, reduceCtorEq, cq_X11_piece_11, isO_nw, hI_nw, xa, o, c0]
  refine ⟨a, _, rfl, ⟨8, by rw [hT_nw, if_pos rfl]⟩, fun b d f g h' hN => ?_⟩
  obtain ⟨n1, n2, ⟨n3, n4, n5, n6⟩, n7, ⟨n8, n9, n10, n11⟩, n12, ⟨n13, n14, n15⟩, ⟨n16, n17, n18, n19⟩, ⟨n20, n21, n22, n23⟩, nF⟩ := hN
  have old : ∀ {x}, hT h x ≠ none → hT (nw h a 3 8) x ≠ none ∧ x ≠ a := fun {x} z => ⟨by rw [hT_nw, if_neg (ne_of_none z hna)]; exact z, ne_of_none z hna⟩
  have T' : ∀ {x}, hT h x ≠ none → hT h' x = hT h x := fun {x} z => by rw [n1 x (old z).1, hT_nw, if_neg (old z).2]
  have I' : ∀ {x} c k, hT h x ≠ none → hI h' c k x = hI h c k x := fun {x} c k z => by rw [(n2 x c k (old z).1 (old z).2).1, hI_nw, if_neg (old z).2]
  have R' : ∀ {x} c k, hT h x ≠ none → hR h' c k x = hR h c k x := fun {x} c k z => by rw [(n2 x c k (old z).1 (old z).2).2, hR_nw, if_neg (old z).2]
  have Ta : hT h' a = some (3, 8) := by rw [n1 a (by rw [hT_nw, if_pos rfl]; exact fun z => by cases z), hT_nw, if_pos rfl]
  have t2' : hT h' (ad 8 0) = some (23, 7) := (T' na).trans t2
  have o' : isO h' (ad 30 0) 11 := ⟨17, (T' nx).trans R.1.1⟩
  have oa : isO h' a 3 := ⟨8, Ta⟩
  have c0' : hI h' 11 1 (ad 30 0) = iI (st 0 0) := (I' _ _ nx).trans c0
  have hin : vp_in (iI (st 0 0)) 7 := iI_in (by omega) (by omega)
  have e3 : (iI (st 0 0)).toNatClampNeg = (st 0 0).toNat := iI_cl (by omega)
  simp only [wp_aconst_null, wp_iconst, wp_bipush, wp_sipush, wp_ldc, wp_ldc_w, wp_ldc2_w, wp_lconst, wp_iload, wp_iload_n, wp_lload, wp_lload_n, wp_aload, wp_aload_n, wp_istore, wp_istore_n, wp_lstore, wp_lstore_n, wp_astore, wp_astore_n, wp_iinc, wp_iadd, wp_isub, wp_imul, wp_iand, wp_ior, wp_ixor, wp_ishl, wp_ishr, wp_iushr, wp_idiv, wp_irem, wp_ineg, wp_ladd, wp_lsub, wp_lmul, wp_ldiv, wp_lrem, wp_lcmp, wp_i2l, wp_l2i, wp_pop, wp_dup, wp_dup2, wp_goto, wp_ifCond, wp_if_icmp, wp_ifnull, wp_ifnonnull, wp_tableswitch, wp_getfield, wp_putfield, wp_arraylength, wp_iaload, wp_baload, wp_laload, wp_aaload, wp_iastore, wp_bastore, wp_lastore, wp_aastore, wp_new, wp_newarray, wp_anewarray, wp_multianewarray, wp_invokevirtual, wp_invokespecial, wp_invokestatic, wp_ireturn, wp_lreturn, wp_areturn, wp_return_, wpL, ldI, ldJ, ldA, lk, sL, cL, i1, i2, l1, l2, r1, pA, p1, p2, ar, tyAt, rcv, rcr, oO, cmpI, Value.category, rf_some, rf_none, ak, kc, List.drop_succ_cons, List.drop_zero, List.drop_nil, List.take_succ_cons, List.take_zero, List.take_nil, List.head?_cons, List.reverse_cons, List.reverse_nil, List.nil_append, List.cons_append, List.length_cons, List.length_nil, Option.toList_some, Option.toList_none, hT_sI, hT_sJ, hT_sR, hI_sJ, hI_sR, hJ_sI, hJ_sR, hR_sI, hR_sJ, isO_sI, isO_sJ, isO_sR, iI_add, iI_sub, iI_mul, iI_neg, lv_args, Nat.reduceAdd, Nat.reduceEqDiff, Nat.reduceLeDiff, reduceIte, ite_true, ite_false, true_and, and_true, false_and, and_false, not_true, not_false_iff, or_true, true_or, false_or, or_false, imp_self, ne_eq, Classical.not_not, forall_const, true_implies, false_implies, if_pos, Nat.zero_add, Nat.add_zero, Nat.le_refl, Nat.reduceLT, iz00, iz01, iz10, iz11, ib0, ib1, ib01, reduceCtorEq, cq_X11_piece_11, t2', o', oa, c0', hin, e3, hI_sI]
  have fin := hQ (sI (sR h' 23 (st 0 0).toNat (ad 8 0) (some a)) 11 1 (ad 30 0) (iI (st 0 0 + 1))) (adP ad (st 0 0).toNat a b d f g) ?_ ?_ (by unfold adP; rw [if_neg (by omega)])
  · rw [show st 0 0 + 1 - 1 = st 0 0 by omega]
    exact fin
  · have na0 : ∀ {y}, hT (nw h a 3 8) y = none → hT h y = none ∧ y ≠ a := fun {y} z => by
      rw [hT_nw] at z
      by_cases e : y = a
      · rw [if_pos e] at z; cases z
      · rw [if_neg e] at z; exact ⟨z, e⟩
    have P0 : ∀ r, adP ad (st 0 0).toNat a b d f g r (st 0 0).toNat = if r < 5 then (if r = 0 then a else if r = 1 then b else if r = 2 then d else if r = 3 then f else g) else ad r (st 0 0).toNat := by
      intro r
      unfold adP
      by_cases z : r < 5
      · rw [if_pos ⟨rfl, z⟩, if_pos z]
      · rw [if_neg (fun y => z y.2), if_neg z]
    have wd := w.2.2.2.2.2.2.2.2.2.2.1 (st 0 0).toNat (by omega)
    have w26 := w.2.2.2.2.2.2.2.2.2.1 (st 0 0).toNat
    have hcast : (((st 0 0).toNat : Nat) : Int) = st 0 0 := by omega
    refine RX_grow R w 0 (by omega) (fun j => ?_) (fun r hr i hi => ?_) (fun e _ => ?_) (fun e _ => ?_) (fun r hr i hi => ?_) (fun r hr => ?_) (fun x hx => ?_) (fun x c' k hx hne => ?_) (fun x c' k hx hne => ?_) ?_ ?_ (fun r hr hc => ?_) (fun r hr hc => ?_) (fun _ r hr => ?_) (fun z => by cases z) (fun z => by cases z) (fun _ => ?_)
    · unfold up
      by_cases z : j = 0
      · rw [if_pos ⟨rfl, z⟩, if_pos z]
      · rw [if_neg (fun y => z y.2), if_neg (by omega), if_neg z]
    · rw [up_f (xt_0 r hr).1, up_ne]
      rintro ⟨z1, z2⟩
      obtain ⟨y1, y2, y3⟩ := xt_f1 r hr z1
      rw [y1, y2] at z2
      rw [y3] at hi
      omega
    · exact ⟨by rw [up_f (by decide), up_f (by decide)], by rw [up_f (by decide), up_f (by decide)]⟩
    · exact ⟨by rw [up_f (by decide), up_f (by decide)], by rw [up_f (by decide), up_f (by decide)]⟩
    · unfold adP
      rw [if_neg]
      rintro ⟨z1, z2⟩
      have hh : ∀ r ∈ xty, r.1 < 5 → r.2.2.2 = 0 := by decide
      rw [hh r hr z2] at hi
      omega
    · funext i
      unfold adP
      rw [if_neg (by omega)]
    · exact T' hx
    · rw [hI_sI, if_neg (show ¬ (c' = 11 ∧ k = 1 ∧ x = ad 30 0) from hne), hI_sR]; exact I' _ _ hx
    · rw [hR_sI, hR_sR, if_neg hne]; exact R' _ _ hx
    · rw [hI_sI]; exact if_pos ⟨rfl, rfl, rfl⟩
    · rw [hR_sI, hR_sR, if_pos ⟨rfl, rfl, rfl⟩, P0]; rfl
    · rw [P0]
      simp only [hT_sI, hT_sR]
      simp only [xty, List.mem_cons, List.not_mem_nil, or_false] at hr
      rcases hr with rfl | rfl | rfl | rfl | rfl | rfl | rfl | rfl <;> first | (exact absurd hc (by decide)) | skip
      · exact ⟨Ta, hna⟩
      · exact ⟨n8, (na0 n3).1⟩
      · exact ⟨n9, (na0 n4).1⟩
      · exact ⟨n10, (na0 n5).1⟩
      · exact ⟨n11, (na0 n6).1⟩
    · rw [P0]
      simp only [xtab, List.mem_cons, List.not_mem_nil, or_false] at hr
      have hz : ∀ k : Nat, hI (nw h a 3 8) 3 k a = iI 0 := fun k => by rw [hI_nw, if_pos rfl]; rfl
      have z18 : hI h' 3 4 a = iI 0 := n18.trans (hz 4)
      have z19 : hI h' 3 7 a = iI 0 := n19.trans (hz 7)
      have d0 := wd.2.2.2 0 (by omega)
      have d1 := wd.2.2.2 1 (by omega)
      have d2 := wd.2.2.2 2 (by omega)
      simp only [Nat.add_zero] at d0
      rcases hr with rfl | rfl | rfl | rfl | rfl | rfl | rfl | rfl | rfl | rfl | rfl | rfl | rfl | rfl | rfl | rfl | rfl | rfl | rfl | rfl | rfl | rfl | rfl | rfl | rfl | rfl | rfl | rfl | rfl | rfl <;> first | (exact absurd hc (by decide)) | (simp [hI_sI, hI_sR, up, wd, w26, hcast, n12, n13, n14, n15, n16, n17, z18, z19, d0, d1, d2])
    · have q5 : ∀ r, r < 5 → adP ad (st 0 0).toNat a b d f g r (st 0 0).toNat = if r = 0 then a else if r = 1 then b else if r = 2 then d else if r = 3 then f else g := fun r z => by rw [P0, if_pos z]
      simp only [xrf, List.mem_cons, List.not_mem_nil, or_false] at hr
      rcases hr with rfl | rfl | rfl | rfl <;> simp [hR_sI, hR_sR, q5, n20, n21, n22, n23]
    · rw [P0, P0]; exact n7
  · have f1 := (FX.rf (h := h)).n (x := a) (c := 3) (n := 8) hna
    exact ((f1.tr nF).r (by decide)).i (by decide)
theorem val_X11_piece (g : GP) : Val g yX11_piece prog_1_method_2_code 1 (some .int) 3 180 5 20 sp_X11_piece := val_of (own := RX11) (ini := false) (on := 11) (rs := rs_X11_piece) (cl := cl_X11_piece) (rt := 1) (bl := bl_X11_piece) (plainFor_of_name (by decide +kernel)) rfl (rok_X11 _) ck_X11_piece (fun h => by cases h) rfl (List.forall_mem_cons.mpr ⟨caI (val_X3_init g) (tb_in 292 (by decide +kernel) (by decide +kernel)) (tb_in 293 (by decide +kernel) (by decide +kernel)) (tb_in 294 (by decide +kernel) (by decide +kernel)) (tb_in 64 (by decide +kernel) (by decide +kernel)) ⟨by decide, by decide, by decide +kernel⟩ rfl ⟨by decide, by decide⟩, (fun _ h => absurd h List.not_mem_nil)⟩) pf_X11_piece

