/-! the reference: the ways of one part -/
def ptP (L : Nat → Int) (c : Nat) : Nat → Bool := fun p => decide (L p = (c : Nat))
def rwN (st : St) (L : Nat → Int) (c : Nat) : Nat := cntN (ptP L c) (st 0 0).toNat
def rwS (L : Nat → Int) (c k : Nat) : Nat := (nthF (ptP L c) 7 0 k).toNat
theorem rw_hit {L : Nat → Int} {c j : Nat} (h1 : j < 7) (h2 : L j = (c : Nat)) : rwS L c (cntN (ptP L c) j) = j := by
  have q := nthF_hit (ptP L c) (j := j) (by unfold ptP; exact decide_eq_true h2) 7 0 (by omega) (by omega)
  have z : cntN (ptP L c) 0 = 0 := rfl
  rw [z] at q
  unfold rwS
  rw [show ((cntN (ptP L c) j : Nat) : Int) = (cntN (ptP L c) j : Nat) - ((0 : Nat) : Int) by omega, q]
  omega
theorem rw_ex {st : St} (w : WF st) {L : Nat → Int} {c k : Nat} (hk : k < rwN st L c) : ((rwS L c k : Nat) : Int) < st 0 0 ∧ L (rwS L c k) = (c : Nat) ∧ cntN (ptP L c) (rwS L c k) = k := by
  have b0 := w.1.1
  obtain ⟨j, a1, a2, a3⟩ := cntN_ex (ptP L c) (st 0 0).toNat k hk
  have a2' : L j = (c : Nat) := of_decide_eq_true a2
  have q := rw_hit (L := L) (c := c) (j := j) (by omega) a2'
  rw [a3] at q
  rw [q]
  exact ⟨by omega, a2', a3⟩
theorem rw_lt {st : St} (w : WF st) {L : Nat → Int} {c j k : Nat} (hj : j < k) (hk : k < rwN st L c) : rwS L c j < rwS L c k := by
  obtain ⟨-, -, a3⟩ := rw_ex w (L := L) (c := c) (k := j) (by omega)
  obtain ⟨-, -, b3⟩ := rw_ex w hk
  by_cases e : rwS L c j < rwS L c k
  · exact e
  · have := cntN_mono (ptP L c) (m := rwS L c k) (n := rwS L c j) (by omega)
    omega
/-- pieces with a label are in -/
def lbI (st : St) (L : Nat → Int) : Prop := ∀ p, 0 ≤ L p → st 1 p ≠ 0
theorem lbP_no {st : St} {L : Nat → Int} {p : Nat} (hp : st 1 p = 0) (k : Nat) : lbP st L k p = L p := by
  unfold lbP
  split
  · rename_i c
    unfold upF
    have e1 : p ≠ (st 18 k).toNat := fun z => c.1 (by rw [← z]; exact hp)
    have e2 : p ≠ (st 19 k).toNat := fun z => c.2 (by rw [← z]; exact hp)
    rw [if_neg e2, if_neg e1]
  · rfl
theorem lbR_no {st : St} {L : Nat → Int} {p : Nat} (hp : st 1 p = 0) : ∀ k : Nat, lbR st k L p = L p := by
  intro k
  induction k with
  | zero => rfl
  | succ k ih => exact (lbP_no hp k).trans ih
theorem lbN_no {st : St} {many p : Nat} (hp : st 1 p = 0) : ∀ t : Nat, lbN st many t p = -900009 := by
  intro t
  induction t with
  | zero => exact if_pos hp
  | succ t ih => exact (lbR_no hp many).trans ih
theorem lbS_I (st : St) (many : Nat) : lbI st (lbS st many) := by
  intro p hp c
  have := lbN_no (many := many) c (st 0 0).toNat
  unfold lbS at hp
  omega
theorem fiF_le {st : St} {p : Nat} (hp : st 1 p ≠ 0) : ∀ n q : Nat, q ≤ p → fiF st n q ≤ p ∨ q + n ≤ p := by
  intro n
  induction n with
  | zero => intro q hq; exact Or.inr hq
  | succ n ih =>
    intro q hq
    rw [fiF_s]
    by_cases c : st 1 q = 0
    · rw [if_pos c]
      have hne : q ≠ p := fun z => hp (by rw [← z]; exact c)
      rcases ih (q + 1) (by omega) with z | z
      · exact Or.inl z
      · exact Or.inr (by omega)
    · rw [if_neg c]; exact Or.inl hq
theorem fiS_le {st : St} {p : Nat} (hp : st 1 p ≠ 0) (hl : (p : Int) < st 0 0) : fiS st ≤ p := by
  rcases fiF_le hp (st 0 0).toNat 0 (Nat.zero_le _) with z | z
  · exact z
  · omega
def hiS (st : St) (p : Nat) : Int := if p = fiS st then 0 else st 0 4
def loS (st : St) (p : Nat) : Int := if p = fiS st then 0 else -(st 0 4)
noncomputable def soP (st : St) (many : Nat) (L : Nat → Int) (c : Nat) : Nat → Nat → (Nat → Int) → List (Nat → Int)
  | 0, _, v => [v]
  | r + 1, a, v => lx (fun x => if ftS st many L (rwS L c a) (upF v (rwS L c a) x) = true then soP st many L c r (a + 1) (upF v (rwS L c a) x) else []) (hiS st (rwS L c a) - loS st (rwS L c a) + 1).toNat (loS st (rwS L c a))
noncomputable def trS (st : St) (many : Nat) (L : Nat → Int) (c r a : Nat) (v : Nat → Int) (x : Int) : List (Nat → Int) := if ftS st many L (rwS L c a) (upF v (rwS L c a) x) = true then soP st many L c r (a + 1) (upF v (rwS L c a) x) else []
theorem soP_s (st : St) (many : Nat) (L : Nat → Int) (c r a : Nat) (v : Nat → Int) : soP st many L c (r + 1) a v = lx (trS st many L c r a v) (hiS st (rwS L c a) - loS st (rwS L c a) + 1).toNat (loS st (rwS L c a)) := rfl
/-- how many ways the part has (1001 at most), and the first -/
noncomputable def woS (st : St) (many : Nat) (L : Nat → Int) (c : Nat) : Nat × (Nat → Int) := rnL 1001 (0, fun _ => 0) (soP st many L c (rwN st L c) 0 (fun _ => 0))
def cl_X12_waysOf : Nat → Nat × Nat × Spec := fun q => if q = 165 then (0, 0, sp_X12_firstIn) else if q = 167 then (0, 0, sp_X12_fits) else (0, 0, fun _ _ _ => False)
theorem cq_X12_waysOf_165 : cl_X12_waysOf 165 = (0, 0, sp_X12_firstIn) := rfl
theorem cq_X12_waysOf_167 : cl_X12_waysOf 167 = (0, 0, sp_X12_fits) := rfl

def sp_X12_waysOf : Spec := fun as h K => ∃ (m : Nat) (A : Nat → Nat) (st : St) (L : Nat → Int) (many c : Nat), as = [.ref m, .int (iI (c : Nat)), .int (iI (many : Nat))] ∧ RM h m A st ∧ WF st ∧ (many : Int) ≤ st 0 3 ∧ PO h A st L ∧ lbOK L ∧ lbI st L ∧ (c : Int) < st 0 0 ∧ L c = (c : Nat) ∧
  ∀ h', PO h' A st L → (0 < (woS st many L c).1 → ∀ p : Nat, (p : Int) < st 0 0 → L p = (c : Nat) → hI h' 134 p (A 31) = iI ((woS st many L c).2 p)) → (∀ p, L p ≠ (c : Nat) → hI h' 134 p (A 31) = hI h 134 p (A 31)) → Fm h h' → K (some (.int (iI ((woS st many L c).1 : Nat)))) h'
theorem pf_X12_waysOf : PfM cl_X12_waysOf (0, 0) 1 9 bl_X12_waysOf sp_X12_waysOf := by
  rintro as h Q ⟨m, A, st, L, many, c, rfl, M, w, hmany, po, lo, li, hc, hLc, hQ⟩
  refine ⟨Nat.le_of_ble_eq_true rfl, fun G hG => ?_⟩
  have h0 := w.1.1
  have h3 := w.1.2.2.2.1
  have h4 := w.1.2.2.2.2.1
  obtain ⟨n, hn⟩ : ∃ n, n = rwN st L c := ⟨_, rfl⟩
  obtain ⟨sF, hsF⟩ : ∃ sF, sF = woS st many L c := ⟨_, rfl⟩
  rw [← hsF] at hQ
  have hn7 : n ≤ 7 := by
    have := cntN_le (ptP L c) (st 0 0).toNat
    rw [hn]; unfold rwN; omega
  have hn1 : 1 ≤ n := by
    have q := cntN_mono (ptP L c) (m := c + 1) (n := (st 0 0).toNat) (by omega)
    have e := cntN_s (ptP L c) c
    rw [show ptP L c c = true from decide_eq_true hLc] at e
    rw [hn]; unfold rwN
    rw [if_pos rfl] at e
    omega
  have rs7 : ∀ k, k < n → ((rwS L c k : Nat) : Int) < st 0 0 := fun k hk => (rw_ex w (by omega)).1
  have rsL : ∀ k, k < n → L (rwS L c k) = (c : Nat) := fun k hk => (rw_ex w (by omega)).2.1
  have rsj : ∀ i j, i < n → j < n → rwS L c i = rwS L c j → i = j := fun i j hi hj e => by
    have a1 := (rw_ex w (L := L) (c := c) (k := i) (by omega)).2.2
    have a2 := (rw_ex w (L := L) (c := c) (k := j) (by omega)).2.2
    rw [e] at a1
    omega
  have fi8 : fiS st ≤ 7 := by have := fiF_rg st (st 0 0).toNat 0; unfold fiS; omega
  obtain ⟨J, hJ⟩ : ∃ J : hp → Prop, J = fun h' => Fm h h' ∧ PO h' A st L ∧ (∀ k, k < n → hI h' 135 k (A 32) = iI (rwS L c k : Nat)) ∧ (∀ p, L p ≠ (c : Nat) → hI h' 134 p (A 31) = hI h 134 p (A 31)) := ⟨_, rfl⟩
  obtain ⟨FL, hFL⟩ : ∃ FL : hp → Nat × (Nat → Int) → Prop, FL = fun h' s => 0 < s.1 → ∀ k, k < n → hI h' 134 (rwS L c k) (A 31) = iI (s.2 (rwS L c k)) := ⟨_, rfl⟩
  obtain ⟨PR, hPR⟩ : ∃ PR : hp → Nat → (Nat → Int) → Prop, PR = fun h' a v => ∀ k, k < a → hI h' 133 (rwS L c k) (A 30) = iI (v (rwS L c k)) := ⟨_, rfl⟩
  have mv : ∀ {hx : hp} {k : Nat} {v : Int32}, J hx → J (sI hx 133 k (A 30) v) := by
    intro hx k v jx
    rw [hJ] at jx ⊢
    refine ⟨jx.1.i rfl, fun p hp' => ?_, fun k' hk' => ?_, fun p hp' => ?_⟩
    · rw [hI_sI, if_neg (by omega)]; exact jx.2.1 p hp'
    · rw [hI_sI, if_neg (by omega)]; exact jx.2.2.1 k' hk'
    · rw [hI_sI, if_neg (by omega)]; exact jx.2.2.2 p hp'
  have mvF : ∀ {hx : hp} {k : Nat} {v : Int32} {s : Nat × (Nat → Int)}, FL hx s → FL (sI hx 133 k (A 30) v) s := by
    intro hx k v s fx
    rw [hFL] at fx ⊢
    intro z k' hk'
    rw [hI_sI, if_neg (by omega)]
    exact fx z k' hk'
  have mvP : ∀ {hx : hp} {a b : Nat} {v : Nat → Int} {x : Int32}, a ≤ b → b < n → PR hx a v → PR (sI hx 133 (rwS L c b) (A 30) x) a v := by
    intro hx a b v x hab hb px
    rw [hPR] at px ⊢
    intro k hk
    rw [hI_sI, if_neg (fun z => by have := rsj k b (by omega) hb z.2.1; omega)]
    exact px k hk
  have ret : ∀ (h' : hp) (s : Nat × (Nat → Int)) (a : Int) (X : Lc), s = sF → J h' → FL h' s → G 254 ([(0, .ref m), (1, .int (iI (c : Nat))), (2, .int (iI (many : Nat))), (3, .int (iI (n : Nat))), (4, .int (iI (s.1 : Nat))), (5, .int (iI a)), (6, .int (iI (fiS st : Nat)))] ++ X) [] h' (0, 0) := by
    intro h' s a X hs jh fh
    refine hG.2 254 _ [(0, .ref m), (1, .int (iI (c : Nat))), (2, .int (iI (many : Nat))), (3, .int (iI (n : Nat))), (4, .int (iI (s.1 : Nat))), (5, .int (iI a)), (6, .int (iI (fiS st : Nat)))] _ _ _ (fun q hq => List.mem_append_left X hq) ?_
    rw [hJ] at jh
    rw [hFL] at fh
    rw [← hs] at hQ
    refine hG.1 254 _ _ _ _ ?_
    rw [bq_X12_waysOf_254]
    simp only [bk_X12_waysOf_254, wp_aconst_null, wp_iconst, wp_bipush, wp_sipush, wp_ldc, wp_ldc_w, wp_ldc2_w, wp_lconst, wp_iload, wp_iload_n, wp_lload, wp_lload_n, wp_aload, wp_aload_n, wp_istore, wp_istore_n, wp_lstore, wp_lstore_n, wp_astore, wp_astore_n, wp_iinc, wp_iadd, wp_isub, wp_imul, wp_iand, wp_ior, wp_ixor, wp_ishl, wp_ishr, wp_iushr, wp_idiv, wp_irem, wp_ineg, wp_ladd, wp_lsub, wp_lmul, wp_ldiv, wp_lrem, wp_lcmp, wp_i2l, wp_l2i, wp_pop, wp_dup, wp_dup2, wp_goto, wp_ifCond, wp_if_icmp, wp_ifnull, wp_ifnonnull, wp_tableswitch, wp_getfield, wp_putfield, wp_arraylength, wp_iaload, wp_baload, wp_laload, wp_aaload, wp_iastore, wp_bastore, wp_lastore, wp_aastore, wp_new, wp_newarray, wp_anewarray, wp_multianewarray, wp_invokevirtual, wp_invokespecial, wp_invokestatic, wp_ireturn, wp_lreturn, wp_areturn, wp_return_, wpL, ldI, ldJ, ldA, lk, sL, cL, i1, i2, l1, l2, r1, pA, p1, p2, ar, tyAt, rcv, rcr, oO, cmpI, Value.category, rf_some, rf_none, ak, kc, List.drop_succ_cons, List.drop_zero, List.drop_nil, List.take_succ_cons, List.take_zero, List.take_nil, List.head?_cons, List.reverse_cons, List.reverse_nil, List.nil_append, List.cons_append, List.length_cons, List.length_nil, Option.toList_some, Option.toList_none, hT_sI, hT_sJ, hT_sR, hI_sJ, hI_sR, hJ_sI, hJ_sR, hR_sI, hR_sJ, isO_sI, isO_sJ, isO_sR, iI_add, iI_sub, iI_mul, iI_neg, lv_args, Nat.reduceAdd, Nat.reduceEqDiff, Nat.reduceLeDiff, reduceIte, ite_true, ite_false, true_and, and_true, false_and, and_false, not_true, not_false_iff, or_true, true_or, false_or, or_false, imp_self, ne_eq, Classical.not_not, forall_const, true_implies, false_implies, if_pos, Nat.zero_add, Nat.add_zero, Nat.le_refl, Nat.reduceLT, iz00, iz01, iz10, iz11, ib0, ib1, ib01, reduceCtorEq, cq_X12_waysOf_165, cq_X12_waysOf_167]
    refine hQ h' jh.2.1 (fun z p hp1 hp2 => ?_) jh.2.2.2 jh.1
    have e := rw_hit (L := L) (c := c) (j := p) (by omega) hp2
    have lt : cntN (ptP L c) p < n := by
      have q := cntN_mono (ptP L c) (m := p + 1) (n := (st 0 0).toNat) (by omega)
      have e2 := cntN_s (ptP L c) p
      rw [show ptP L c p = true from decide_eq_true hp2, if_pos rfl] at e2
      rw [hn]; unfold rwN
      omega
    have q := fh z _ lt
    rw [e] at q
    exact q
  have vr : ∀ {v : Nat → Int} {a : Nat} {x : Int}, (∀ j, -7 ≤ v j ∧ v j ≤ 7) → -6 ≤ x → x ≤ 7 → ∀ j, -7 ≤ upF v a x j ∧ upF v a x j ≤ 7 := by
    intro v a x hv h1 h2 j
    unfold upF
    split
    · omega
    · exact hv j
  have fit : ∀ {a : Nat} {v : Nat → Int} {h2 : hp} {K : Kt}, a < n → J h2 → PR h2 (a + 1) v → (∀ j, -7 ≤ v j ∧ v j ≤ 7) → K (some (.int (iI (if ftS st many L (rwS L c a) v = true then 1 else 0)))) h2 → sp_X12_fits [.ref m, .int (iI (a : Nat)), .int (iI (many : Nat))] h2 K := by
    intro a v h2 K ha jh ph hv hk
    rw [hJ] at jh
    rw [hPR] at ph
    have ra := rs7 a ha
    refine ⟨m, A, st, L, many, a, rwS L c a, v, rfl, RM_fm jh.1 M, w, hmany, jh.2.1, lo, by omega, ra, jh.2.2.1 a ha, fun j hj1 hj2 => ?_, hk⟩
    rw [rsL a ha] at hj2
    have e := rw_hit (L := L) (c := c) (j := j) (by omega) hj2
    have q := cntN_mono (ptP L c) hj1
    rw [(rw_ex w (L := L) (c := c) (k := a) (by omega)).2.2] at q
    have q2 := ph (cntN (ptP L c) j) (by omega)
    rw [e] at q2
    exact ⟨q2, hv j⟩
  have lvl : ∀ (r a : Nat) (v : Nat → Int) (s0 : Nat × (Nat → Int)), a + r + 1 = n → (∀ j, -7 ≤ v j ∧ v j ≤ 7) → (s0.1 = 1001 → s0 = sF) →
      (∀ (h2 : hp) (X : Lc), s0.1 ≤ 1001 → J h2 → FL h2 s0 → PR h2 a v → G 87 ([(0, .ref m), (1, .int (iI (c : Nat))), (2, .int (iI (many : Nat))), (3, .int (iI (n : Nat))), (4, .int (iI (s0.1 : Nat))), (5, .int (iI ((a : Int) - 1))), (6, .int (iI (fiS st : Nat)))] ++ X) [] h2 (0, 0)) →
      (∀ (x : Int) (s s2 : Nat × (Nat → Int)) (h2 : hp), -6 ≤ x → x ≤ hiS st (rwS L c a) → s.1 < 1001 → ftS st many L (rwS L c a) (upF v (rwS L c a) x) = true → J h2 → FL h2 s → PR h2 (a + 1) (upF v (rwS L c a) x) → s2 = rnL 1001 s (soP st many L c r (a + 1) (upF v (rwS L c a) x)) → (s2.1 = 1001 → s2 = sF) →
        (∀ (h3 : hp) (X : Lc), s2.1 ≤ 1001 → J h3 → FL h3 s2 → PR h3 (a + 1) (upF v (rwS L c a) x) → G 87 ([(0, .ref m), (1, .int (iI (c : Nat))), (2, .int (iI (many : Nat))), (3, .int (iI (n : Nat))), (4, .int (iI (s2.1 : Nat))), (5, .int (iI (a : Nat))), (6, .int (iI (fiS st : Nat)))] ++ X) [] h3 (0, 0)) → G 158 [(0, .ref m), (1, .int (iI (c : Nat))), (2, .int (iI (many : Nat))), (3, .int (iI (n : Nat))), (4, .int (iI (s.1 : Nat))), (5, .int (iI (a : Nat))), (6, .int (iI (fiS st : Nat))), (7, .int (iI (rwS L c a : Nat)))] [.int (iI 1)] h2 (0, 0)) →
      ∀ (K : Nat) (x : Int) (s : Nat × (Nat → Int)) (h' : hp) (X : Lc), x + K = hiS st (rwS L c a) + 1 → -6 ≤ x → s.1 ≤ 1001 → rnL 1001 s (lx (trS st many L c r a v) K x) = s0 → J h' → FL h' s → PR h' a v → hI h' 133 (rwS L c a) (A 30) = iI (x - 1) →
        G 87 ([(0, .ref m), (1, .int (iI (c : Nat))), (2, .int (iI (many : Nat))), (3, .int (iI (n : Nat))), (4, .int (iI (s.1 : Nat))), (5, .int (iI (a : Nat))), (6, .int (iI (fiS st : Nat)))] ++ X) [] h' (0, 0) := by
    intro r a v s0 har hv fin kk ch K
    have ha7 : a < 7 := by omega
    have han : a < n := by omega
    have hra := rs7 a han
    obtain ⟨ia, na⟩ := vinN (i := a) (n := 7) ha7 (by omega)
    obtain ⟨ip, np⟩ := vinN (i := rwS L c a) (n := 7) (by omega) (by omega)
    have ea : (iI (a : Nat) < 0) = False := eq_false (by rw [iI_lt0 (by omega)]; omega)
    have hhi : 0 ≤ hiS st (rwS L c a) ∧ hiS st (rwS L c a) ≤ 6 := by unfold hiS; split <;> omega
    have efi : (iI (rwS L c a : Nat) = iI (fiS st : Nat)) = (rwS L c a = fiS st) := propext ((iI_eq (by omega) (by omega)).trans (by omega))
    have head : ∀ (x : Int) (s : Nat × (Nat → Int)) (h' : hp) (X : Lc), s.1 ≤ 1001 → J h' → FL h' s → hI h' 133 (rwS L c a) (A 30) = iI (x - 1) → (s.1 = 1001 → s = sF) → (s.1 < 1001 → G 142 [(0, .ref m), (1, .int (iI (c : Nat))), (2, .int (iI (many : Nat))), (3, .int (iI (n : Nat))), (4, .int (iI (s.1 : Nat))), (5, .int (iI (a : Nat))), (6, .int (iI (fiS st : Nat))), (7, .int (iI (rwS L c a : Nat)))] [.int (iI (hiS st (rwS L c a))), .int (iI x)] (sI h' 133 (rwS L c a) (A 30) (iI x)) (0, 0)) → G 87 ([(0, .ref m), (1, .int (iI (c : Nat))), (2, .int (iI (many : Nat))), (3, .int (iI (n : Nat))), (4, .int (iI (s.1 : Nat))), (5, .int (iI (a : Nat))), (6, .int (iI (fiS st : Nat)))] ++ X) [] h' (0, 0) := by
      intro x s h' X hs jh fh lv full go
      refine hG.2 87 _ [(0, .ref m), (1, .int (iI (c : Nat))), (2, .int (iI (many : Nat))), (3, .int (iI (n : Nat))), (4, .int (iI (s.1 : Nat))), (5, .int (iI (a : Nat))), (6, .int (iI (fiS st : Nat)))] _ _ _ (fun q hq => List.mem_append_left X hq) ?_
      by_cases cs : s.1 = 1001
      · have ef : (iI 1001 ≤ iI (s.1 : Nat)) = True := eq_true ((iI_le (by omega) (by omega)).mpr (by omega))
        refine hG.1 87 _ _ _ _ ?_
        rw [bq_X12_waysOf_87]
        simp only [bk_X12_waysOf_87, wp_aconst_null, wp_iconst, wp_bipush, wp_sipush, wp_ldc, wp_ldc_w, wp_ldc2_w, wp_lconst, wp_iload, wp_iload_n, wp_lload, wp_lload_n, wp_aload, wp_aload_n, wp_istore, wp_istore_n, wp_lstore, wp_lstore_n, wp_astore, wp_astore_n, wp_iinc, wp_iadd, wp_isub, wp_imul, wp_iand, wp_ior, wp_ixor, wp_ishl, wp_ishr, wp_iushr, wp_idiv, wp_irem, wp_ineg, wp_ladd, wp_lsub, wp_lmul, wp_ldiv, wp_lrem, wp_lcmp, wp_i2l, wp_l2i, wp_pop, wp_dup, wp_dup2, wp_goto, wp_ifCond, wp_if_icmp, wp_ifnull, wp_ifnonnull, wp_tableswitch, wp_getfield, wp_putfield, wp_arraylength, wp_iaload, wp_baload, wp_laload, wp_aaload, wp_iastore, wp_bastore, wp_lastore, wp_aastore, wp_new, wp_newarray, wp_anewarray, wp_multianewarray, wp_invokevirtual, wp_invokespecial, wp_invokestatic, wp_ireturn, wp_lreturn, wp_areturn, wp_return_, wpL, ldI, ldJ, ldA, lk, sL, cL, i1, i2, l1, l2, r1, pA, p1, p2, ar, tyAt, rcv, rcr, oO, cmpI, Value.category, rf_some, rf_none, ak, kc, List.drop_succ_cons, List.drop_zero, List.drop_nil, List.take_succ_cons, List.take_zero, List.take_nil, List.head?_cons, List.reverse_cons, List.reverse_nil, List.nil_append, List.cons_append, List.length_cons, List.length_nil, Option.toList_some, Option.toList_none, hT_sI, hT_sJ, hT_sR, hI_sJ, hI_sR, hJ_sI, hJ_sR, hR_sI, hR_sJ, isO_sI, isO_sJ, isO_sR, iI_add, iI_sub, iI_mul, iI_neg, lv_args, Nat.reduceAdd, Nat.reduceEqDiff, Nat.reduceLeDiff, reduceIte, ite_true, ite_false, true_and, and_true, false_and, and_false, not_true, not_false_iff, or_true, true_or, false_or, or_false, imp_self, ne_eq, Classical.not_not, forall_const, true_implies, false_implies, if_pos, Nat.zero_add, Nat.add_zero, Nat.le_refl, Nat.reduceLT, iz00, iz01, iz10, iz11, ib0, ib1, ib01, reduceCtorEq, cq_X12_waysOf_165, cq_X12_waysOf_167, ea, ef]
        exact ret h' s a [] (full cs) jh fh
      · have ef : (iI 1001 ≤ iI (s.1 : Nat)) = False := eq_false (by rw [iI_le (by omega) (by omega)]; omega)
        have go' := go (by omega)
        have jh' := jh
        rw [hJ] at jh'
        have M' := RM_fm jh'.1 M
        have o := mo M'
        have t1 := mr_32 M'
        have t2 := mt_32 M'
        have t3 := mr_30 M'
        have t4 := mt_30 M'
        have v1 := jh'.2.2.1 a han
        have ex : x - 1 + 1 = x := by omega
        have v2 : hI (sI h' 133 (rwS L c a) (A 30) (iI x)) 133 (rwS L c a) (A 30) = iI x := by rw [hI_sI, if_pos ⟨rfl, rfl, rfl⟩]
        have M2 := RM_fm (jh'.1.i (c := 133) (k := rwS L c a) (x := A 30) (v := iI x) rfl) M
        have o2 := mo M2
        have c4 := mc_4 M2
        refine hG.1 87 _ _ _ _ ?_
        rw [bq_X12_waysOf_87]
        simp only [bk_X12_waysOf_87, wp_aconst_null, wp_iconst, wp_bipush, wp_sipush, wp_ldc, wp_ldc_w, wp_ldc2_w, wp_lconst, wp_iload, wp_iload_n, wp_lload, wp_lload_n, wp_aload, wp_aload_n, wp_istore, wp_istore_n, wp_lstore, wp_lstore_n, wp_astore, wp_astore_n, wp_iinc, wp_iadd, wp_isub, wp_imul, wp_iand, wp_ior, wp_ixor, wp_ishl, wp_ishr, wp_iushr, wp_idiv, wp_irem, wp_ineg, wp_ladd, wp_lsub, wp_lmul, wp_ldiv, wp_lrem, wp_lcmp, wp_i2l, wp_l2i, wp_pop, wp_dup, wp_dup2, wp_goto, wp_ifCond, wp_if_icmp, wp_ifnull, wp_ifnonnull, wp_tableswitch, wp_getfield, wp_putfield, wp_arraylength, wp_iaload, wp_baload, wp_laload, wp_aaload, wp_iastore, wp_bastore, wp_lastore, wp_aastore, wp_new, wp_newarray, wp_anewarray, wp_multianewarray, wp_invokevirtual, wp_invokespecial, wp_invokestatic, wp_ireturn, wp_lreturn, wp_areturn, wp_return_, wpL, ldI, ldJ, ldA, lk, sL, cL, i1, i2, l1, l2, r1, pA, p1, p2, ar, tyAt, rcv, rcr, oO, cmpI, Value.category, rf_some, rf_none, ak, kc, List.drop_succ_cons, List.drop_zero, List.drop_nil, List.take_succ_cons, List.take_zero, List.take_nil, List.head?_cons, List.reverse_cons, List.reverse_nil, List.nil_append, List.cons_append, List.length_cons, List.length_nil, Option.toList_some, Option.toList_none, hT_sI, hT_sJ, hT_sR, hI_sJ, hI_sR, hJ_sI, hJ_sR, hR_sI, hR_sJ, isO_sI, isO_sJ, isO_sR, iI_add, iI_sub, iI_mul, iI_neg, lv_args, Nat.reduceAdd, Nat.reduceEqDiff, Nat.reduceLeDiff, reduceIte, ite_true, ite_false, true_and, and_true, false_and, and_false, not_true, not_false_iff, or_true, true_or, false_or, or_false, imp_self, ne_eq, Classical.not_not, forall_const, true_implies, false_implies, if_pos, Nat.zero_add, Nat.add_zero, Nat.le_refl, Nat.reduceLT, iz00, iz01, iz10, iz11, ib0, ib1, ib01, reduceCtorEq, cq_X12_waysOf_165, cq_X12_waysOf_167, ea, ef, o, t1, t2, t3, t4, ia, na, v1, ip, np, lv, ex, v2, efi]
        refine ⟨fun d => ?_, fun d => ?_⟩
        · unfold hiS at go'
          rw [if_neg d] at go'
          refine hG.1 138 _ _ _ _ ?_
          rw [bq_X12_waysOf_138]
          simp only [bk_X12_waysOf_138, wp_aconst_null, wp_iconst, wp_bipush, wp_sipush, wp_ldc, wp_ldc_w, wp_ldc2_w, wp_lconst, wp_iload, wp_iload_n, wp_lload, wp_lload_n, wp_aload, wp_aload_n, wp_istore, wp_istore_n, wp_lstore, wp_lstore_n, wp_astore, wp_astore_n, wp_iinc, wp_iadd, wp_isub, wp_imul, wp_iand, wp_ior, wp_ixor, wp_ishl, wp_ishr, wp_iushr, wp_idiv, wp_irem, wp_ineg, wp_ladd, wp_lsub, wp_lmul, wp_ldiv, wp_lrem, wp_lcmp, wp_i2l, wp_l2i, wp_pop, wp_dup, wp_dup2, wp_goto, wp_ifCond, wp_if_icmp, wp_ifnull, wp_ifnonnull, wp_tableswitch, wp_getfield, wp_putfield, wp_arraylength, wp_iaload, wp_baload, wp_laload, wp_aaload, wp_iastore, wp_bastore, wp_lastore, wp_aastore, wp_new, wp_newarray, wp_anewarray, wp_multianewarray, wp_invokevirtual, wp_invokespecial, wp_invokestatic, wp_ireturn, wp_lreturn, wp_areturn, wp_return_, wpL, ldI, ldJ, ldA, lk, sL, cL, i1, i2, l1, l2, r1, pA, p1, p2, ar, tyAt, rcv, rcr, oO, cmpI, Value.category, rf_some, rf_none, ak, kc, List.drop_succ_cons, List.drop_zero, List.drop_nil, List.take_succ_cons, List.take_zero, List.take_nil, List.head?_cons, List.reverse_cons, List.reverse_nil, List.nil_append, List.cons_append, List.length_cons, List.length_nil, Option.toList_some, Option.toList_none, hT_sI, hT_sJ, hT_sR, hI_sJ, hI_sR, hJ_sI, hJ_sR, hR_sI, hR_sJ, isO_sI, isO_sJ, isO_sR, iI_add, iI_sub, iI_mul, iI_neg, lv_args, Nat.reduceAdd, Nat.reduceEqDiff, Nat.reduceLeDiff, reduceIte, ite_true, ite_false, true_and, and_true, false_and, and_false, not_true, not_false_iff, or_true, true_or, false_or, or_false, imp_self, ne_eq, Classical.not_not, forall_const, true_implies, false_implies, if_pos, Nat.zero_add, Nat.add_zero, Nat.le_refl, Nat.reduceLT, iz00, iz01, iz10, iz11, ib0, ib1, ib01, reduceCtorEq, cq_X12_waysOf_165, cq_X12_waysOf_167, o2, c4]
          exact go'
        · have d' : rwS L c a = fiS st := by simpa using d
          unfold hiS at go'
          rw [if_pos d'] at go'
          exact go'
    induction K with
    | zero =>
      intro x s h' X hx hx6 hs hr jh fh ph lv
      have hr' : s = s0 := by
        have : rnL 1001 s [] = s0 := hr
        rw [rnL_nil hs] at this
        exact this
      refine head x s h' X hs jh fh lv (fun z => by rw [hr'] at z ⊢; exact fin z) (fun hs2 => ?_)
      have e : (iI x ≤ iI (hiS st (rwS L c a))) = False := eq_false (by rw [iI_le (by omega) (by omega)]; omega)
      refine hG.1 142 _ _ _ _ ?_
      rw [bq_X12_waysOf_142]
      simp only [bk_X12_waysOf_142, wp_aconst_null, wp_iconst, wp_bipush, wp_sipush, wp_ldc, wp_ldc_w, wp_ldc2_w, wp_lconst, wp_iload, wp_iload_n, wp_lload, wp_lload_n, wp_aload, wp_aload_n, wp_istore, wp_istore_n, wp_lstore, wp_lstore_n, wp_astore, wp_astore_n, wp_iinc, wp_iadd, wp_isub, wp_imul, wp_iand, wp_ior, wp_ixor, wp_ishl, wp_ishr, wp_iushr, wp_idiv, wp_irem, wp_ineg, wp_ladd, wp_lsub, wp_lmul, wp_ldiv, wp_lrem, wp_lcmp, wp_i2l, wp_l2i, wp_pop, wp_dup, wp_dup2, wp_goto, wp_ifCond, wp_if_icmp, wp_ifnull, wp_ifnonnull, wp_tableswitch, wp_getfield, wp_putfield, wp_arraylength, wp_iaload, wp_baload, wp_laload, wp_aaload, wp_iastore, wp_bastore, wp_lastore, wp_aastore, wp_new, wp_newarray, wp_anewarray, wp_multianewarray, wp_invokevirtual, wp_invokespecial, wp_invokestatic, wp_ireturn, wp_lreturn, wp_areturn, wp_return_, wpL, ldI, ldJ, ldA, lk, sL, cL, i1, i2, l1, l2, r1, pA, p1, p2, ar, tyAt, rcv, rcr, oO, cmpI, Value.category, rf_some, rf_none, ak, kc, List.drop_succ_cons, List.drop_zero, List.drop_nil, List.take_succ_cons, List.take_zero, List.take_nil, List.head?_cons, List.reverse_cons, List.reverse_nil, List.nil_append, List.cons_append, List.length_cons, List.length_nil, Option.toList_some, Option.toList_none, hT_sI, hT_sJ, hT_sR, hI_sJ, hI_sR, hJ_sI, hJ_sR, hR_sI, hR_sJ, isO_sI, isO_sJ, isO_sR, iI_add, iI_sub, iI_mul, iI_neg, lv_args, Nat.reduceAdd, Nat.reduceEqDiff, Nat.reduceLeDiff, reduceIte, ite_true, ite_false, true_and, and_true, false_and, and_false, not_true, not_false_iff, or_true, true_or, false_or, or_false, imp_self, ne_eq, Classical.not_not, forall_const, true_implies, false_implies, if_pos, Nat.zero_add, Nat.add_zero, Nat.le_refl, Nat.reduceLT, iz00, iz01, iz10, iz11, ib0, ib1, ib01, reduceCtorEq, cq_X12_waysOf_165, cq_X12_waysOf_167, e]
      refine hG.1 251 _ _ _ _ ?_
      rw [bq_X12_waysOf_251]
      simp only [bk_X12_waysOf_251, wp_aconst_null, wp_iconst, wp_bipush, wp_sipush, wp_ldc, wp_ldc_w, wp_ldc2_w, wp_lconst, wp_iload, wp_iload_n, wp_lload, wp_lload_n, wp_aload, wp_aload_n, wp_istore, wp_istore_n, wp_lstore, wp_lstore_n, wp_astore, wp_astore_n, wp_iinc, wp_iadd, wp_isub, wp_imul, wp_iand, wp_ior, wp_ixor, wp_ishl, wp_ishr, wp_iushr, wp_idiv, wp_irem, wp_ineg, wp_ladd, wp_lsub, wp_lmul, wp_ldiv, wp_lrem, wp_lcmp, wp_i2l, wp_l2i, wp_pop, wp_dup, wp_dup2, wp_goto, wp_ifCond, wp_if_icmp, wp_ifnull, wp_ifnonnull, wp_tableswitch, wp_getfield, wp_putfield, wp_arraylength, wp_iaload, wp_baload, wp_laload, wp_aaload, wp_iastore, wp_bastore, wp_lastore, wp_aastore, wp_new, wp_newarray, wp_anewarray, wp_multianewarray, wp_invokevirtual, wp_invokespecial, wp_invokestatic, wp_ireturn, wp_lreturn, wp_areturn, wp_return_, wpL, ldI, ldJ, ldA, lk, sL, cL, i1, i2, l1, l2, r1, pA, p1, p2, ar, tyAt, rcv, rcr, oO, cmpI, Value.category, rf_some, rf_none, ak, kc, List.drop_succ_cons, List.drop_zero, List.drop_nil, List.take_succ_cons, List.take_zero, List.take_nil, List.head?_cons, List.reverse_cons, List.reverse_nil, List.nil_append, List.cons_append, List.length_cons, List.length_nil, Option.toList_some, Option.toList_none, hT_sI, hT_sJ, hT_sR, hI_sJ, hI_sR, hJ_sI, hJ_sR, hR_sI, hR_sJ, isO_sI, isO_sJ, isO_sR, iI_add, iI_sub, iI_mul, iI_neg, lv_args, Nat.reduceAdd, Nat.reduceEqDiff, Nat.reduceLeDiff, reduceIte, ite_true, ite_false, true_and, and_true, false_and, and_false, not_true, not_false_iff, or_true, true_or, false_or, or_false, imp_self, ne_eq, Classical.not_not, forall_const, true_implies, false_implies, if_pos, Nat.zero_add, Nat.add_zero, Nat.le_refl, Nat.reduceLT, iz00, iz01, iz10, iz11, ib0, ib1, ib01, reduceCtorEq, cq_X12_waysOf_165, cq_X12_waysOf_167]
      have q := kk (sI h' 133 (rwS L c a) (A 30) (iI x)) [(7, .int (iI (rwS L c a : Nat)))] (by rw [← hr']; exact hs) (mv jh) (mvF (by rw [← hr']; exact fh)) (mvP (Nat.le_refl _) han ph)
      rw [← hr'] at q
      exact q
    | succ K ih =>
      intro x s h' X hx hx6 hs hr jh fh ph lv
      rw [lx_s, rnL_app (by decide) hs] at hr
      refine head x s h' X hs jh fh lv (fun z => ?_) (fun hs2 => ?_)
      · rw [rnL_full z (by decide), rnL_full z (by decide)] at hr
        rw [hr] at z ⊢
        exact fin z
      have e : (iI x ≤ iI (hiS st (rwS L c a))) = True := eq_true ((iI_le (by omega) (by omega)).mpr (by omega))
      refine hG.1 142 _ _ _ _ ?_
      rw [bq_X12_waysOf_142]
      simp only [bk_X12_waysOf_142, wp_aconst_null, wp_iconst, wp_bipush, wp_sipush, wp_ldc, wp_ldc_w, wp_ldc2_w, wp_lconst, wp_iload, wp_iload_n, wp_lload, wp_lload_n, wp_aload, wp_aload_n, wp_istore, wp_istore_n, wp_lstore, wp_lstore_n, wp_astore, wp_astore_n, wp_iinc, wp_iadd, wp_isub, wp_imul, wp_iand, wp_ior, wp_ixor, wp_ishl, wp_ishr, wp_iushr, wp_idiv, wp_irem, wp_ineg, wp_ladd, wp_lsub, wp_lmul, wp_ldiv, wp_lrem, wp_lcmp, wp_i2l, wp_l2i, wp_pop, wp_dup, wp_dup2, wp_goto, wp_ifCond, wp_if_icmp, wp_ifnull, wp_ifnonnull, wp_tableswitch, wp_getfield, wp_putfield, wp_arraylength, wp_iaload, wp_baload, wp_laload, wp_aaload, wp_iastore, wp_bastore, wp_lastore, wp_aastore, wp_new, wp_newarray, wp_anewarray, wp_multianewarray, wp_invokevirtual, wp_invokespecial, wp_invokestatic, wp_ireturn, wp_lreturn, wp_areturn, wp_return_, wpL, ldI, ldJ, ldA, lk, sL, cL, i1, i2, l1, l2, r1, pA, p1, p2, ar, tyAt, rcv, rcr, oO, cmpI, Value.category, rf_some, rf_none, ak, kc, List.drop_succ_cons, List.drop_zero, List.drop_nil, List.take_succ_cons, List.take_zero, List.take_nil, List.head?_cons, List.reverse_cons, List.reverse_nil, List.nil_append, List.cons_append, List.length_cons, List.length_nil, Option.toList_some, Option.toList_none, hT_sI, hT_sJ, hT_sR, hI_sJ, hI_sR, hJ_sI, hJ_sR, hR_sI, hR_sJ, isO_sI, isO_sJ, isO_sR, iI_add, iI_sub, iI_mul, iI_neg, lv_args, Nat.reduceAdd, Nat.reduceEqDiff, Nat.reduceLeDiff, reduceIte, ite_true, ite_false, true_and, and_true, false_and, and_false, not_true, not_false_iff, or_true, true_or, false_or, or_false, imp_self, ne_eq, Classical.not_not, forall_const, true_implies, false_implies, if_pos, Nat.zero_add, Nat.add_zero, Nat.le_refl, Nat.reduceLT, iz00, iz01, iz10, iz11, ib0, ib1, ib01, reduceCtorEq, cq_X12_waysOf_165, cq_X12_waysOf_167, e]
      have j2 : J (sI h' 133 (rwS L c a) (A 30) (iI x)) := mv jh
      have f2 : FL (sI h' 133 (rwS L c a) (A 30) (iI x)) s := mvF fh
      have l2 : hI (sI h' 133 (rwS L c a) (A 30) (iI x)) 133 (rwS L c a) (A 30) = iI x := by rw [hI_sI, if_pos ⟨rfl, rfl, rfl⟩]
      have q0 : PR (sI h' 133 (rwS L c a) (A 30) (iI x)) a v := mvP (Nat.le_refl _) han ph
      have q2 : PR (sI h' 133 (rwS L c a) (A 30) (iI x)) (a + 1) (upF v (rwS L c a) x) := by
        rw [hPR] at q0 ⊢
        intro k hk
        by_cases d : k = a
        · rw [d, l2, upF_eq]
        · rw [upF_ne v _ (fun z => d (rsj k a (by omega) han z))]
          exact q0 k (by omega)
      have vr2 := vr (a := rwS L c a) hv hx6 (by omega)
      obtain ⟨g, hg⟩ : ∃ g, g = sI h' 133 (rwS L c a) (A 30) (iI x) := ⟨_, rfl⟩
      rw [← hg] at j2 f2 l2 q0 q2 ⊢
      have jg := j2
      rw [hJ] at jg
      have og := mo (RM_fm jg.1 M)
      refine hG.1 151 _ _ _ _ ?_
      rw [bq_X12_waysOf_151]
      simp only [bk_X12_waysOf_151, wp_aconst_null, wp_iconst, wp_bipush, wp_sipush, wp_ldc, wp_ldc_w, wp_ldc2_w, wp_lconst, wp_iload, wp_iload_n, wp_lload, wp_lload_n, wp_aload, wp_aload_n, wp_istore, wp_istore_n, wp_lstore, wp_lstore_n, wp_astore, wp_astore_n, wp_iinc, wp_iadd, wp_isub, wp_imul, wp_iand, wp_ior, wp_ixor, wp_ishl, wp_ishr, wp_iushr, wp_idiv, wp_irem, wp_ineg, wp_ladd, wp_lsub, wp_lmul, wp_ldiv, wp_lrem, wp_lcmp, wp_i2l, wp_l2i, wp_pop, wp_dup, wp_dup2, wp_goto, wp_ifCond, wp_if_icmp, wp_ifnull, wp_ifnonnull, wp_tableswitch, wp_getfield, wp_putfield, wp_arraylength, wp_iaload, wp_baload, wp_laload, wp_aaload, wp_iastore, wp_bastore, wp_lastore, wp_aastore, wp_new, wp_newarray, wp_anewarray, wp_multianewarray, wp_invokevirtual, wp_invokespecial, wp_invokestatic, wp_ireturn, wp_lreturn, wp_areturn, wp_return_, wpL, ldI, ldJ, ldA, lk, sL, cL, i1, i2, l1, l2, r1, pA, p1, p2, ar, tyAt, rcv, rcr, oO, cmpI, Value.category, rf_some, rf_none, ak, kc, List.drop_succ_cons, List.drop_zero, List.drop_nil, List.take_succ_cons, List.take_zero, List.take_nil, List.head?_cons, List.reverse_cons, List.reverse_nil, List.nil_append, List.cons_append, List.length_cons, List.length_nil, Option.toList_some, Option.toList_none, hT_sI, hT_sJ, hT_sR, hI_sJ, hI_sR, hJ_sI, hJ_sR, hR_sI, hR_sJ, isO_sI, isO_sJ, isO_sR, iI_add, iI_sub, iI_mul, iI_neg, lv_args, Nat.reduceAdd, Nat.reduceEqDiff, Nat.reduceLeDiff, reduceIte, ite_true, ite_false, true_and, and_true, false_and, and_false, not_true, not_false_iff, or_true, true_or, false_or, or_false, imp_self, ne_eq, Classical.not_not, forall_const, true_implies, false_implies, if_pos, Nat.zero_add, Nat.add_zero, Nat.le_refl, Nat.reduceLT, iz00, iz01, iz10, iz11, ib0, ib1, ib01, reduceCtorEq, cq_X12_waysOf_165, cq_X12_waysOf_167, og]
      refine fit han j2 q2 vr2 ?_
      simp only [wp_aconst_null, wp_iconst, wp_bipush, wp_sipush, wp_ldc, wp_ldc_w, wp_ldc2_w, wp_lconst, wp_iload, wp_iload_n, wp_lload, wp_lload_n, wp_aload, wp_aload_n, wp_istore, wp_istore_n, wp_lstore, wp_lstore_n, wp_astore, wp_astore_n, wp_iinc, wp_iadd, wp_isub, wp_imul, wp_iand, wp_ior, wp_ixor, wp_ishl, wp_ishr, wp_iushr, wp_idiv, wp_irem, wp_ineg, wp_ladd, wp_lsub, wp_lmul, wp_ldiv, wp_lrem, wp_lcmp, wp_i2l, wp_l2i, wp_pop, wp_dup, wp_dup2, wp_goto, wp_ifCond, wp_if_icmp, wp_ifnull, wp_ifnonnull, wp_tableswitch, wp_getfield, wp_putfield, wp_arraylength, wp_iaload, wp_baload, wp_laload, wp_aaload, wp_iastore, wp_bastore, wp_lastore, wp_aastore, wp_new, wp_newarray, wp_anewarray, wp_multianewarray, wp_invokevirtual, wp_invokespecial, wp_invokestatic, wp_ireturn, wp_lreturn, wp_areturn, wp_return_, wpL, ldI, ldJ, ldA, lk, sL, cL, i1, i2, l1, l2, r1, pA, p1, p2, ar, tyAt, rcv, rcr, oO, cmpI, Value.category, rf_some, rf_none, ak, kc, List.drop_succ_cons, List.drop_zero, List.drop_nil, List.take_succ_cons, List.take_zero, List.take_nil, List.head?_cons, List.reverse_cons, List.reverse_nil, List.nil_append, List.cons_append, List.length_cons, List.length_nil, Option.toList_some, Option.toList_none, hT_sI, hT_sJ, hT_sR, hI_sJ, hI_sR, hJ_sI, hJ_sR, hR_sI, hR_sJ, isO_sI, isO_sJ, isO_sR, iI_add, iI_sub, iI_mul, iI_neg, lv_args, Nat.reduceAdd, Nat.reduceEqDiff, Nat.reduceLeDiff, reduceIte, ite_true, ite_false, true_and, and_true, false_and, and_false, not_true, not_false_iff, or_true, true_or, false_or, or_false, imp_self, ne_eq, Classical.not_not, forall_const, true_implies, false_implies, if_pos, Nat.zero_add, Nat.add_zero, Nat.le_refl, Nat.reduceLT, iz00, iz01, iz10, iz11, ib0, ib1, ib01, reduceCtorEq, cq_X12_waysOf_165, cq_X12_waysOf_167]
      by_cases cf : ftS st many L (rwS L c a) (upF v (rwS L c a) x) = true
      · have et : trS st many L c r a v x = soP st many L c r (a + 1) (upF v (rwS L c a) x) := if_pos cf
        rw [et] at hr
        rw [if_pos cf]
        refine ch x s _ g hx6 (by omega) hs2 cf j2 f2 q2 rfl (fun z => ?_) (fun h3 X3 g1 g2 g3 g4 => ?_)
        · rw [rnL_full z (by decide)] at hr
          rw [hr] at z ⊢
          exact fin z
        · have l3 : hI h3 133 (rwS L c a) (A 30) = iI (x + 1 - 1) := by
            have g5 := g4
            rw [hPR] at g5
            rw [g5 a (by omega), upF_eq, show x + 1 - 1 = x by omega]
          refine ih (x + 1) _ h3 X3 (by omega) (by omega) g1 hr g2 g3 ?_ l3
          rw [hPR] at g4 ⊢
          intro k hk
          rw [g4 k (by omega), upF_ne v _ (fun z => by have := rsj k a (by omega) han z; omega)]
      · have et : trS st many L c r a v x = [] := if_neg cf
        rw [et, rnL_nil hs] at hr
        rw [if_neg cf]
        refine hG.1 158 _ _ _ _ ?_
        rw [bq_X12_waysOf_158]
        simp only [bk_X12_waysOf_158, wp_aconst_null, wp_iconst, wp_bipush, wp_sipush, wp_ldc, wp_ldc_w, wp_ldc2_w, wp_lconst, wp_iload, wp_iload_n, wp_lload, wp_lload_n, wp_aload, wp_aload_n, wp_istore, wp_istore_n, wp_lstore, wp_lstore_n, wp_astore, wp_astore_n, wp_iinc, wp_iadd, wp_isub, wp_imul, wp_iand, wp_ior, wp_ixor, wp_ishl, wp_ishr, wp_iushr, wp_idiv, wp_irem, wp_ineg, wp_ladd, wp_lsub, wp_lmul, wp_ldiv, wp_lrem, wp_lcmp, wp_i2l, wp_l2i, wp_pop, wp_dup, wp_dup2, wp_goto, wp_ifCond, wp_if_icmp, wp_ifnull, wp_ifnonnull, wp_tableswitch, wp_getfield, wp_putfield, wp_arraylength, wp_iaload, wp_baload, wp_laload, wp_aaload, wp_iastore, wp_bastore, wp_lastore, wp_aastore, wp_new, wp_newarray, wp_anewarray, wp_multianewarray, wp_invokevirtual, wp_invokespecial, wp_invokestatic, wp_ireturn, wp_lreturn, wp_areturn, wp_return_, wpL, ldI, ldJ, ldA, lk, sL, cL, i1, i2, l1, l2, r1, pA, p1, p2, ar, tyAt, rcv, rcr, oO, cmpI, Value.category, rf_some, rf_none, ak, kc, List.drop_succ_cons, List.drop_zero, List.drop_nil, List.take_succ_cons, List.take_zero, List.take_nil, List.head?_cons, List.reverse_cons, List.reverse_nil, List.nil_append, List.cons_append, List.length_cons, List.length_nil, Option.toList_some, Option.toList_none, hT_sI, hT_sJ, hT_sR, hI_sJ, hI_sR, hJ_sI, hJ_sR, hR_sI, hR_sJ, isO_sI, isO_sJ, isO_sR, iI_add, iI_sub, iI_mul, iI_neg, lv_args, Nat.reduceAdd, Nat.reduceEqDiff, Nat.reduceLeDiff, reduceIte, ite_true, ite_false, true_and, and_true, false_and, and_false, not_true, not_false_iff, or_true, true_or, false_or, or_false, imp_self, ne_eq, Classical.not_not, forall_const, true_implies, false_implies, if_pos, Nat.zero_add, Nat.add_zero, Nat.le_refl, Nat.reduceLT, iz00, iz01, iz10, iz11, ib0, ib1, ib01, reduceCtorEq, cq_X12_waysOf_165, cq_X12_waysOf_167]
        refine hG.1 219 _ _ _ _ ?_
        rw [bq_X12_waysOf_219]
        simp only [bk_X12_waysOf_219, wp_aconst_null, wp_iconst, wp_bipush, wp_sipush, wp_ldc, wp_ldc_w, wp_ldc2_w, wp_lconst, wp_iload, wp_iload_n, wp_lload, wp_lload_n, wp_aload, wp_aload_n, wp_istore, wp_istore_n, wp_lstore, wp_lstore_n, wp_astore, wp_astore_n, wp_iinc, wp_iadd, wp_isub, wp_imul, wp_iand, wp_ior, wp_ixor, wp_ishl, wp_ishr, wp_iushr, wp_idiv, wp_irem, wp_ineg, wp_ladd, wp_lsub, wp_lmul, wp_ldiv, wp_lrem, wp_lcmp, wp_i2l, wp_l2i, wp_pop, wp_dup, wp_dup2, wp_goto, wp_ifCond, wp_if_icmp, wp_ifnull, wp_ifnonnull, wp_tableswitch, wp_getfield, wp_putfield, wp_arraylength, wp_iaload, wp_baload, wp_laload, wp_aaload, wp_iastore, wp_bastore, wp_lastore, wp_aastore, wp_new, wp_newarray, wp_anewarray, wp_multianewarray, wp_invokevirtual, wp_invokespecial, wp_invokestatic, wp_ireturn, wp_lreturn, wp_areturn, wp_return_, wpL, ldI, ldJ, ldA, lk, sL, cL, i1, i2, l1, l2, r1, pA, p1, p2, ar, tyAt, rcv, rcr, oO, cmpI, Value.category, rf_some, rf_none, ak, kc, List.drop_succ_cons, List.drop_zero, List.drop_nil, List.take_succ_cons, List.take_zero, List.take_nil, List.head?_cons, List.reverse_cons, List.reverse_nil, List.nil_append, List.cons_append, List.length_cons, List.length_nil, Option.toList_some, Option.toList_none, hT_sI, hT_sJ, hT_sR, hI_sJ, hI_sR, hJ_sI, hJ_sR, hR_sI, hR_sJ, isO_sI, isO_sJ, isO_sR, iI_add, iI_sub, iI_mul, iI_neg, lv_args, Nat.reduceAdd, Nat.reduceEqDiff, Nat.reduceLeDiff, reduceIte, ite_true, ite_false, true_and, and_true, false_and, and_false, not_true, not_false_iff, or_true, true_or, false_or, or_false, imp_self, ne_eq, Classical.not_not, forall_const, true_implies, false_implies, if_pos, Nat.zero_add, Nat.add_zero, Nat.le_refl, Nat.reduceLT, iz00, iz01, iz10, iz11, ib0, ib1, ib01, reduceCtorEq, cq_X12_waysOf_165, cq_X12_waysOf_167, og]
        refine fit han j2 q2 vr2 ?_
        simp only [wp_aconst_null, wp_iconst, wp_bipush, wp_sipush, wp_ldc, wp_ldc_w, wp_ldc2_w, wp_lconst, wp_iload, wp_iload_n, wp_lload, wp_lload_n, wp_aload, wp_aload_n, wp_istore, wp_istore_n, wp_lstore, wp_lstore_n, wp_astore, wp_astore_n, wp_iinc, wp_iadd, wp_isub, wp_imul, wp_iand, wp_ior, wp_ixor, wp_ishl, wp_ishr, wp_iushr, wp_idiv, wp_irem, wp_ineg, wp_ladd, wp_lsub, wp_lmul, wp_ldiv, wp_lrem, wp_lcmp, wp_i2l, wp_l2i, wp_pop, wp_dup, wp_dup2, wp_goto, wp_ifCond, wp_if_icmp, wp_ifnull, wp_ifnonnull, wp_tableswitch, wp_getfield, wp_putfield, wp_arraylength, wp_iaload, wp_baload, wp_laload, wp_aaload, wp_iastore, wp_bastore, wp_lastore, wp_aastore, wp_new, wp_newarray, wp_anewarray, wp_multianewarray, wp_invokevirtual, wp_invokespecial, wp_invokestatic, wp_ireturn, wp_lreturn, wp_areturn, wp_return_, wpL, ldI, ldJ, ldA, lk, sL, cL, i1, i2, l1, l2, r1, pA, p1, p2, ar, tyAt, rcv, rcr, oO, cmpI, Value.category, rf_some, rf_none, ak, kc, List.drop_succ_cons, List.drop_zero, List.drop_nil, List.take_succ_cons, List.take_zero, List.take_nil, List.head?_cons, List.reverse_cons, List.reverse_nil, List.nil_append, List.cons_append, List.length_cons, List.length_nil, Option.toList_some, Option.toList_none, hT_sI, hT_sJ, hT_sR, hI_sJ, hI_sR, hJ_sI, hJ_sR, hR_sI, hR_sJ, isO_sI, isO_sJ, isO_sR, iI_add, iI_sub, iI_mul, iI_neg, lv_args, Nat.reduceAdd, Nat.reduceEqDiff, Nat.reduceLeDiff, reduceIte, ite_true, ite_false, true_and, and_true, false_and, and_false, not_true, not_false_iff, or_true, true_or, false_or, or_false, imp_self, ne_eq, Classical.not_not, forall_const, true_implies, false_implies, if_pos, Nat.zero_add, Nat.add_zero, Nat.le_refl, Nat.reduceLT, iz00, iz01, iz10, iz11, ib0, ib1, ib01, reduceCtorEq, cq_X12_waysOf_165, cq_X12_waysOf_167]
        rw [if_neg cf]
        refine hG.1 226 _ _ _ _ ?_
        rw [bq_X12_waysOf_226]
        simp only [bk_X12_waysOf_226, wp_aconst_null, wp_iconst, wp_bipush, wp_sipush, wp_ldc, wp_ldc_w, wp_ldc2_w, wp_lconst, wp_iload, wp_iload_n, wp_lload, wp_lload_n, wp_aload, wp_aload_n, wp_istore, wp_istore_n, wp_lstore, wp_lstore_n, wp_astore, wp_astore_n, wp_iinc, wp_iadd, wp_isub, wp_imul, wp_iand, wp_ior, wp_ixor, wp_ishl, wp_ishr, wp_iushr, wp_idiv, wp_irem, wp_ineg, wp_ladd, wp_lsub, wp_lmul, wp_ldiv, wp_lrem, wp_lcmp, wp_i2l, wp_l2i, wp_pop, wp_dup, wp_dup2, wp_goto, wp_ifCond, wp_if_icmp, wp_ifnull, wp_ifnonnull, wp_tableswitch, wp_getfield, wp_putfield, wp_arraylength, wp_iaload, wp_baload, wp_laload, wp_aaload, wp_iastore, wp_bastore, wp_lastore, wp_aastore, wp_new, wp_newarray, wp_anewarray, wp_multianewarray, wp_invokevirtual, wp_invokespecial, wp_invokestatic, wp_ireturn, wp_lreturn, wp_areturn, wp_return_, wpL, ldI, ldJ, ldA, lk, sL, cL, i1, i2, l1, l2, r1, pA, p1, p2, ar, tyAt, rcv, rcr, oO, cmpI, Value.category, rf_some, rf_none, ak, kc, List.drop_succ_cons, List.drop_zero, List.drop_nil, List.take_succ_cons, List.take_zero, List.take_nil, List.head?_cons, List.reverse_cons, List.reverse_nil, List.nil_append, List.cons_append, List.length_cons, List.length_nil, Option.toList_some, Option.toList_none, hT_sI, hT_sJ, hT_sR, hI_sJ, hI_sR, hJ_sI, hJ_sR, hR_sI, hR_sJ, isO_sI, isO_sJ, isO_sR, iI_add, iI_sub, iI_mul, iI_neg, lv_args, Nat.reduceAdd, Nat.reduceEqDiff, Nat.reduceLeDiff, reduceIte, ite_true, ite_false, true_and, and_true, false_and, and_false, not_true, not_false_iff, or_true, true_or, false_or, or_false, imp_self, ne_eq, Classical.not_not, forall_const, true_implies, false_implies, if_pos, Nat.zero_add, Nat.add_zero, Nat.le_refl, Nat.reduceLT, iz00, iz01, iz10, iz11, ib0, ib1, ib01, reduceCtorEq, cq_X12_waysOf_165, cq_X12_waysOf_167]
        refine hG.1 251 _ _ _ _ ?_
        rw [bq_X12_waysOf_251]
        simp only [bk_X12_waysOf_251, wp_aconst_null, wp_iconst, wp_bipush, wp_sipush, wp_ldc, wp_ldc_w, wp_ldc2_w, wp_lconst, wp_iload, wp_iload_n, wp_lload, wp_lload_n, wp_aload, wp_aload_n, wp_istore, wp_istore_n, wp_lstore, wp_lstore_n, wp_astore, wp_astore_n, wp_iinc, wp_iadd, wp_isub, wp_imul, wp_iand, wp_ior, wp_ixor, wp_ishl, wp_ishr, wp_iushr, wp_idiv, wp_irem, wp_ineg, wp_ladd, wp_lsub, wp_lmul, wp_ldiv, wp_lrem, wp_lcmp, wp_i2l, wp_l2i, wp_pop, wp_dup, wp_dup2, wp_goto, wp_ifCond, wp_if_icmp, wp_ifnull, wp_ifnonnull, wp_tableswitch, wp_getfield, wp_putfield, wp_arraylength, wp_iaload, wp_baload, wp_laload, wp_aaload, wp_iastore, wp_bastore, wp_lastore, wp_aastore, wp_new, wp_newarray, wp_anewarray, wp_multianewarray, wp_invokevirtual, wp_invokespecial, wp_invokestatic, wp_ireturn, wp_lreturn, wp_areturn, wp_return_, wpL, ldI, ldJ, ldA, lk, sL, cL, i1, i2, l1, l2, r1, pA, p1, p2, ar, tyAt, rcv, rcr, oO, cmpI, Value.category, rf_some, rf_none, ak, kc, List.drop_succ_cons, List.drop_zero, List.drop_nil, List.take_succ_cons, List.take_zero, List.take_nil, List.head?_cons, List.reverse_cons, List.reverse_nil, List.nil_append, List.cons_append, List.length_cons, List.length_nil, Option.toList_some, Option.toList_none, hT_sI, hT_sJ, hT_sR, hI_sJ, hI_sR, hJ_sI, hJ_sR, hR_sI, hR_sJ, isO_sI, isO_sJ, isO_sR, iI_add, iI_sub, iI_mul, iI_neg, lv_args, Nat.reduceAdd, Nat.reduceEqDiff, Nat.reduceLeDiff, reduceIte, ite_true, ite_false, true_and, and_true, false_and, and_false, not_true, not_false_iff, or_true, true_or, false_or, or_false, imp_self, ne_eq, Classical.not_not, forall_const, true_implies, false_implies, if_pos, Nat.zero_add, Nat.add_zero, Nat.le_refl, Nat.reduceLT, iz00, iz01, iz10, iz11, ib0, ib1, ib01, reduceCtorEq, cq_X12_waysOf_165, cq_X12_waysOf_167]
        exact ih (x + 1) s g [(7, .int (iI (rwS L c a : Nat)))] (by omega) (by omega) hs hr j2 f2 q0 (by rw [l2, show x + 1 - 1 = x by omega])
  have main : ∀ (r a : Nat) (v : Nat → Int) (s0 : Nat × (Nat → Int)), a + r + 1 = n → (∀ j, -7 ≤ v j ∧ v j ≤ 7) → (s0.1 = 1001 → s0 = sF) →
      (∀ (h2 : hp) (X : Lc), s0.1 ≤ 1001 → J h2 → FL h2 s0 → PR h2 a v → G 87 ([(0, .ref m), (1, .int (iI (c : Nat))), (2, .int (iI (many : Nat))), (3, .int (iI (n : Nat))), (4, .int (iI (s0.1 : Nat))), (5, .int (iI ((a : Int) - 1))), (6, .int (iI (fiS st : Nat)))] ++ X) [] h2 (0, 0)) →
      ∀ (K : Nat) (x : Int) (s : Nat × (Nat → Int)) (h' : hp) (X : Lc), x + K = hiS st (rwS L c a) + 1 → -6 ≤ x → s.1 ≤ 1001 → rnL 1001 s (lx (trS st many L c r a v) K x) = s0 → J h' → FL h' s → PR h' a v → hI h' 133 (rwS L c a) (A 30) = iI (x - 1) →
        G 87 ([(0, .ref m), (1, .int (iI (c : Nat))), (2, .int (iI (many : Nat))), (3, .int (iI (n : Nat))), (4, .int (iI (s.1 : Nat))), (5, .int (iI (a : Nat))), (6, .int (iI (fiS st : Nat)))] ++ X) [] h' (0, 0) := by
    intro r
    induction r with
    | zero =>
      intro a v s0 har hv fin kk
      refine lvl 0 a v s0 har hv fin kk (fun x s s2 h2 hx1 hx2 hs hft j2 f2 p2' hs2 fin2 back => ?_)
      have han : a < n := by omega
      have e1 : (iI (a : Nat) = iI ((n : Int) - 1)) = True := eq_true (by rw [show (a : Int) = (n : Int) - 1 by omega])
      have es2 : s2 = (s.1 + 1, if s.1 = 0 then upF v (rwS L c a) x else s.2) := by
        rw [hs2]
        show rnL 1001 s [upF v (rwS L c a) x] = _
        unfold rnL
        refine Prod.ext ?_ ?_
        · show min 1001 (s.1 + 1) = s.1 + 1; omega
        · rfl
      have e10 : (iI 1 = 0) = False := eq_false (by decide)
      have out : ∀ (h3 : hp) (k : Nat), J h3 → FL h3 s2 → PR h3 (a + 1) (upF v (rwS L c a) x) → G 213 [(0, .ref m), (1, .int (iI (c : Nat))), (2, .int (iI (many : Nat))), (3, .int (iI (n : Nat))), (4, .int (iI (s.1 : Nat))), (5, .int (iI (a : Nat))), (6, .int (iI (fiS st : Nat))), (7, .int (iI (rwS L c a : Nat))), (8, .int (iI (k : Nat)))] [] h3 (0, 0) := by
        intro h3 k a1 a2 a3
        refine hG.1 213 _ _ _ _ ?_
        rw [bq_X12_waysOf_213]
        simp only [bk_X12_waysOf_213, wp_aconst_null, wp_iconst, wp_bipush, wp_sipush, wp_ldc, wp_ldc_w, wp_ldc2_w, wp_lconst, wp_iload, wp_iload_n, wp_lload, wp_lload_n, wp_aload, wp_aload_n, wp_istore, wp_istore_n, wp_lstore, wp_lstore_n, wp_astore, wp_astore_n, wp_iinc, wp_iadd, wp_isub, wp_imul, wp_iand, wp_ior, wp_ixor, wp_ishl, wp_ishr, wp_iushr, wp_idiv, wp_irem, wp_ineg, wp_ladd, wp_lsub, wp_lmul, wp_ldiv, wp_lrem, wp_lcmp, wp_i2l, wp_l2i, wp_pop, wp_dup, wp_dup2, wp_goto, wp_ifCond, wp_if_icmp, wp_ifnull, wp_ifnonnull, wp_tableswitch, wp_getfield, wp_putfield, wp_arraylength, wp_iaload, wp_baload, wp_laload, wp_aaload, wp_iastore, wp_bastore, wp_lastore, wp_aastore, wp_new, wp_newarray, wp_anewarray, wp_multianewarray, wp_invokevirtual, wp_invokespecial, wp_invokestatic, wp_ireturn, wp_lreturn, wp_areturn, wp_return_, wpL, ldI, ldJ, ldA, lk, sL, cL, i1, i2, l1, l2, r1, pA, p1, p2, ar, tyAt, rcv, rcr, oO, cmpI, Value.category, rf_some, rf_none, ak, kc, List.drop_succ_cons, List.drop_zero, List.drop_nil, List.take_succ_cons, List.take_zero, List.take_nil, List.head?_cons, List.reverse_cons, List.reverse_nil, List.nil_append, List.cons_append, List.length_cons, List.length_nil, Option.toList_some, Option.toList_none, hT_sI, hT_sJ, hT_sR, hI_sJ, hI_sR, hJ_sI, hJ_sR, hR_sI, hR_sJ, isO_sI, isO_sJ, isO_sR, iI_add, iI_sub, iI_mul, iI_neg, lv_args, Nat.reduceAdd, Nat.reduceEqDiff, Nat.reduceLeDiff, reduceIte, ite_true, ite_false, true_and, and_true, false_and, and_false, not_true, not_false_iff, or_true, true_or, false_or, or_false, imp_self, ne_eq, Classical.not_not, forall_const, true_implies, false_implies, if_pos, Nat.zero_add, Nat.add_zero, Nat.le_refl, Nat.reduceLT, iz00, iz01, iz10, iz11, ib0, ib1, ib01, reduceCtorEq, cq_X12_waysOf_165, cq_X12_waysOf_167]
        refine hG.1 251 _ _ _ _ ?_
        rw [bq_X12_waysOf_251]
        simp only [bk_X12_waysOf_251, wp_aconst_null, wp_iconst, wp_bipush, wp_sipush, wp_ldc, wp_ldc_w, wp_ldc2_w, wp_lconst, wp_iload, wp_iload_n, wp_lload, wp_lload_n, wp_aload, wp_aload_n, wp_istore, wp_istore_n, wp_lstore, wp_lstore_n, wp_astore, wp_astore_n, wp_iinc, wp_iadd, wp_isub, wp_imul, wp_iand, wp_ior, wp_ixor, wp_ishl, wp_ishr, wp_iushr, wp_idiv, wp_irem, wp_ineg, wp_ladd, wp_lsub, wp_lmul, wp_ldiv, wp_lrem, wp_lcmp, wp_i2l, wp_l2i, wp_pop, wp_dup, wp_dup2, wp_goto, wp_ifCond, wp_if_icmp, wp_ifnull, wp_ifnonnull, wp_tableswitch, wp_getfield, wp_putfield, wp_arraylength, wp_iaload, wp_baload, wp_laload, wp_aaload, wp_iastore, wp_bastore, wp_lastore, wp_aastore, wp_new, wp_newarray, wp_anewarray, wp_multianewarray, wp_invokevirtual, wp_invokespecial, wp_invokestatic, wp_ireturn, wp_lreturn, wp_areturn, wp_return_, wpL, ldI, ldJ, ldA, lk, sL, cL, i1, i2, l1, l2, r1, pA, p1, p2, ar, tyAt, rcv, rcr, oO, cmpI, Value.category, rf_some, rf_none, ak, kc, List.drop_succ_cons, List.drop_zero, List.drop_nil, List.take_succ_cons, List.take_zero, List.take_nil, List.head?_cons, List.reverse_cons, List.reverse_nil, List.nil_append, List.cons_append, List.length_cons, List.length_nil, Option.toList_some, Option.toList_none, hT_sI, hT_sJ, hT_sR, hI_sJ, hI_sR, hJ_sI, hJ_sR, hR_sI, hR_sJ, isO_sI, isO_sJ, isO_sR, iI_add, iI_sub, iI_mul, iI_neg, lv_args, Nat.reduceAdd, Nat.reduceEqDiff, Nat.reduceLeDiff, reduceIte, ite_true, ite_false, true_and, and_true, false_and, and_false, not_true, not_false_iff, or_true, true_or, false_or, or_false, imp_self, ne_eq, Classical.not_not, forall_const, true_implies, false_implies, if_pos, Nat.zero_add, Nat.add_zero, Nat.le_refl, Nat.reduceLT, iz00, iz01, iz10, iz11, ib0, ib1, ib01, reduceCtorEq, cq_X12_waysOf_165, cq_X12_waysOf_167]
        have q := back h3 [(7, .int (iI (rwS L c a : Nat))), (8, .int (iI (k : Nat)))] (by rw [es2]; exact hs) a1 a2 a3
        rw [show s2.1 = s.1 + 1 by rw [es2], nc1] at q
        exact q
      have copy : s.1 = 0 → ∀ (N k : Nat) (h3 : hp), k + N = n → J h3 → PR h3 (a + 1) (upF v (rwS L c a) x) → (∀ i, i < k → hI h3 134 (rwS L c i) (A 31) = iI (upF v (rwS L c a) x (rwS L c i))) → G 172 [(0, .ref m), (1, .int (iI (c : Nat))), (2, .int (iI (many : Nat))), (3, .int (iI (n : Nat))), (4, .int (iI (s.1 : Nat))), (5, .int (iI (a : Nat))), (6, .int (iI (fiS st : Nat))), (7, .int (iI (rwS L c a : Nat))), (8, .int (iI (k : Nat)))] [] h3 (0, 0) := by
        intro cs N
        have ec : (iI (s.1 : Nat) = 0) = True := eq_true (by rw [cs]; rfl)
        induction N with
        | zero =>
          intro k h3 hk a1 a2 a3
          have e2 : (iI (n : Nat) ≤ iI (k : Nat)) = True := eq_true ((iI_le (by omega) (by omega)).mpr (by omega))
          refine hG.1 172 _ _ _ _ ?_
          rw [bq_X12_waysOf_172]
          simp only [bk_X12_waysOf_172, wp_aconst_null, wp_iconst, wp_bipush, wp_sipush, wp_ldc, wp_ldc_w, wp_ldc2_w, wp_lconst, wp_iload, wp_iload_n, wp_lload, wp_lload_n, wp_aload, wp_aload_n, wp_istore, wp_istore_n, wp_lstore, wp_lstore_n, wp_astore, wp_astore_n, wp_iinc, wp_iadd, wp_isub, wp_imul, wp_iand, wp_ior, wp_ixor, wp_ishl, wp_ishr, wp_iushr, wp_idiv, wp_irem, wp_ineg, wp_ladd, wp_lsub, wp_lmul, wp_ldiv, wp_lrem, wp_lcmp, wp_i2l, wp_l2i, wp_pop, wp_dup, wp_dup2, wp_goto, wp_ifCond, wp_if_icmp, wp_ifnull, wp_ifnonnull, wp_tableswitch, wp_getfield, wp_putfield, wp_arraylength, wp_iaload, wp_baload, wp_laload, wp_aaload, wp_iastore, wp_bastore, wp_lastore, wp_aastore, wp_new, wp_newarray, wp_anewarray, wp_multianewarray, wp_invokevirtual, wp_invokespecial, wp_invokestatic, wp_ireturn, wp_lreturn, wp_areturn, wp_return_, wpL, ldI, ldJ, ldA, lk, sL, cL, i1, i2, l1, l2, r1, pA, p1, p2, ar, tyAt, rcv, rcr, oO, cmpI, Value.category, rf_some, rf_none, ak, kc, List.drop_succ_cons, List.drop_zero, List.drop_nil, List.take_succ_cons, List.take_zero, List.take_nil, List.head?_cons, List.reverse_cons, List.reverse_nil, List.nil_append, List.cons_append, List.length_cons, List.length_nil, Option.toList_some, Option.toList_none, hT_sI, hT_sJ, hT_sR, hI_sJ, hI_sR, hJ_sI, hJ_sR, hR_sI, hR_sJ, isO_sI, isO_sJ, isO_sR, iI_add, iI_sub, iI_mul, iI_neg, lv_args, Nat.reduceAdd, Nat.reduceEqDiff, Nat.reduceLeDiff, reduceIte, ite_true, ite_false, true_and, and_true, false_and, and_false, not_true, not_false_iff, or_true, true_or, false_or, or_false, imp_self, ne_eq, Classical.not_not, forall_const, true_implies, false_implies, if_pos, Nat.zero_add, Nat.add_zero, Nat.le_refl, Nat.reduceLT, iz00, iz01, iz10, iz11, ib0, ib1, ib01, reduceCtorEq, cq_X12_waysOf_165, cq_X12_waysOf_167, e2]
          refine out h3 k a1 ?_ a2
          rw [hFL, es2]
          intro _ i hi
          show _ = iI ((if s.1 = 0 then upF v (rwS L c a) x else s.2) (rwS L c i))
          rw [if_pos cs]
          exact a3 i (by omega)
        | succ N ih =>
          intro k h3 hk a1 a2 a3
          have hkn : k < n := by omega
          have e2 : (iI (n : Nat) ≤ iI (k : Nat)) = False := eq_false (by rw [iI_le (by omega) (by omega)]; omega)
          have a1' := a1
          rw [hJ] at a1'
          have M' := RM_fm a1'.1 M
          have o := mo M'
          have t1 := mr_32 M'
          have t2 := mt_32 M'
          have t3 := mr_30 M'
          have t4 := mt_30 M'
          have t5 := mr_31 M'
          have t6 := mt_31 M'
          have hrk := rs7 k hkn
          obtain ⟨ik, nk⟩ := vinN (i := k) (n := 7) (by omega) (by omega)
          obtain ⟨ip, np⟩ := vinN (i := rwS L c k) (n := 7) (by omega) (by omega)
          have v1 := a1'.2.2.1 k hkn
          have v2 : hI h3 133 (rwS L c k) (A 30) = iI (upF v (rwS L c a) x (rwS L c k)) := by
            rw [hPR] at a2
            exact a2 k (by omega)
          refine hG.1 172 _ _ _ _ ?_
          rw [bq_X12_waysOf_172]
          simp only [bk_X12_waysOf_172, wp_aconst_null, wp_iconst, wp_bipush, wp_sipush, wp_ldc, wp_ldc_w, wp_ldc2_w, wp_lconst, wp_iload, wp_iload_n, wp_lload, wp_lload_n, wp_aload, wp_aload_n, wp_istore, wp_istore_n, wp_lstore, wp_lstore_n, wp_astore, wp_astore_n, wp_iinc, wp_iadd, wp_isub, wp_imul, wp_iand, wp_ior, wp_ixor, wp_ishl, wp_ishr, wp_iushr, wp_idiv, wp_irem, wp_ineg, wp_ladd, wp_lsub, wp_lmul, wp_ldiv, wp_lrem, wp_lcmp, wp_i2l, wp_l2i, wp_pop, wp_dup, wp_dup2, wp_goto, wp_ifCond, wp_if_icmp, wp_ifnull, wp_ifnonnull, wp_tableswitch, wp_getfield, wp_putfield, wp_arraylength, wp_iaload, wp_baload, wp_laload, wp_aaload, wp_iastore, wp_bastore, wp_lastore, wp_aastore, wp_new, wp_newarray, wp_anewarray, wp_multianewarray, wp_invokevirtual, wp_invokespecial, wp_invokestatic, wp_ireturn, wp_lreturn, wp_areturn, wp_return_, wpL, ldI, ldJ, ldA, lk, sL, cL, i1, i2, l1, l2, r1, pA, p1, p2, ar, tyAt, rcv, rcr, oO, cmpI, Value.category, rf_some, rf_none, ak, kc, List.drop_succ_cons, List.drop_zero, List.drop_nil, List.take_succ_cons, List.take_zero, List.take_nil, List.head?_cons, List.reverse_cons, List.reverse_nil, List.nil_append, List.cons_append, List.length_cons, List.length_nil, Option.toList_some, Option.toList_none, hT_sI, hT_sJ, hT_sR, hI_sJ, hI_sR, hJ_sI, hJ_sR, hR_sI, hR_sJ, isO_sI, isO_sJ, isO_sR, iI_add, iI_sub, iI_mul, iI_neg, lv_args, Nat.reduceAdd, Nat.reduceEqDiff, Nat.reduceLeDiff, reduceIte, ite_true, ite_false, true_and, and_true, false_and, and_false, not_true, not_false_iff, or_true, true_or, false_or, or_false, imp_self, ne_eq, Classical.not_not, forall_const, true_implies, false_implies, if_pos, Nat.zero_add, Nat.add_zero, Nat.le_refl, Nat.reduceLT, iz00, iz01, iz10, iz11, ib0, ib1, ib01, reduceCtorEq, cq_X12_waysOf_165, cq_X12_waysOf_167, e2, ec, o, t1, t2, t3, t4, t5, t6, ik, nk, ip, np, v1, v2]
          have q := ih (k + 1) (sI h3 134 (rwS L c k) (A 31) (iI (upF v (rwS L c a) x (rwS L c k)))) (by omega) ?_ ?_ ?_
          · rw [nc1] at q
            exact q
          · rw [hJ]
            refine ⟨a1'.1.i rfl, fun p hp' => ?_, fun k' hk' => ?_, fun p hp' => ?_⟩
            · rw [hI_sI, if_neg (by omega)]; exact a1'.2.1 p hp'
            · rw [hI_sI, if_neg (by omega)]; exact a1'.2.2.1 k' hk'
            · rw [hI_sI, if_neg (fun z => hp' (by rw [z.2.1]; exact rsL k hkn))]; exact a1'.2.2.2 p hp'
          · rw [hPR] at a2 ⊢
            intro k' hk'
            rw [hI_sI, if_neg (by omega)]
            exact a2 k' hk'
          · intro i hi
            rw [hI_sI]
            by_cases d : i = k
            · rw [if_pos ⟨rfl, by rw [d], rfl⟩, d]
            · rw [if_neg (fun z => d (rsj i k (by omega) hkn z.2.1))]
              exact a3 i (by omega)
      have hs0 : (iI (n : Nat) ≤ iI 0) = False := eq_false (by rw [iI_le (by omega) (by omega)]; omega)
      refine hG.1 158 _ _ _ _ ?_
      rw [bq_X12_waysOf_158]
      simp only [bk_X12_waysOf_158, wp_aconst_null, wp_iconst, wp_bipush, wp_sipush, wp_ldc, wp_ldc_w, wp_ldc2_w, wp_lconst, wp_iload, wp_iload_n, wp_lload, wp_lload_n, wp_aload, wp_aload_n, wp_istore, wp_istore_n, wp_lstore, wp_lstore_n, wp_astore, wp_astore_n, wp_iinc, wp_iadd, wp_isub, wp_imul, wp_iand, wp_ior, wp_ixor, wp_ishl, wp_ishr, wp_iushr, wp_idiv, wp_irem, wp_ineg, wp_ladd, wp_lsub, wp_lmul, wp_ldiv, wp_lrem, wp_lcmp, wp_i2l, wp_l2i, wp_pop, wp_dup, wp_dup2, wp_goto, wp_ifCond, wp_if_icmp, wp_ifnull, wp_ifnonnull, wp_tableswitch, wp_getfield, wp_putfield, wp_arraylength, wp_iaload, wp_baload, wp_laload, wp_aaload, wp_iastore, wp_bastore, wp_lastore, wp_aastore, wp_new, wp_newarray, wp_anewarray, wp_multianewarray, wp_invokevirtual, wp_invokespecial, wp_invokestatic, wp_ireturn, wp_lreturn, wp_areturn, wp_return_, wpL, ldI, ldJ, ldA, lk, sL, cL, i1, i2, l1, l2, r1, pA, p1, p2, ar, tyAt, rcv, rcr, oO, cmpI, Value.category, rf_some, rf_none, ak, kc, List.drop_succ_cons, List.drop_zero, List.drop_nil, List.take_succ_cons, List.take_zero, List.take_nil, List.head?_cons, List.reverse_cons, List.reverse_nil, List.nil_append, List.cons_append, List.length_cons, List.length_nil, Option.toList_some, Option.toList_none, hT_sI, hT_sJ, hT_sR, hI_sJ, hI_sR, hJ_sI, hJ_sR, hR_sI, hR_sJ, isO_sI, isO_sJ, isO_sR, iI_add, iI_sub, iI_mul, iI_neg, lv_args, Nat.reduceAdd, Nat.reduceEqDiff, Nat.reduceLeDiff, reduceIte, ite_true, ite_false, true_and, and_true, false_and, and_false, not_true, not_false_iff, or_true, true_or, false_or, or_false, imp_self, ne_eq, Classical.not_not, forall_const, true_implies, false_implies, if_pos, Nat.zero_add, Nat.add_zero, Nat.le_refl, Nat.reduceLT, iz00, iz01, iz10, iz11, ib0, ib1, ib01, reduceCtorEq, cq_X12_waysOf_165, cq_X12_waysOf_167, e10, e1]
      by_cases cs : s.1 = 0
      · exact copy cs n 0 h2 (by omega) j2 p2' (fun i hi => by omega)
      · have ec : (iI (s.1 : Nat) = 0) = False := eq_false (by rw [iI_eq0 (by omega)]; omega)
        refine hG.1 172 _ _ _ _ ?_
        rw [bq_X12_waysOf_172]
        simp only [bk_X12_waysOf_172, wp_aconst_null, wp_iconst, wp_bipush, wp_sipush, wp_ldc, wp_ldc_w, wp_ldc2_w, wp_lconst, wp_iload, wp_iload_n, wp_lload, wp_lload_n, wp_aload, wp_aload_n, wp_istore, wp_istore_n, wp_lstore, wp_lstore_n, wp_astore, wp_astore_n, wp_iinc, wp_iadd, wp_isub, wp_imul, wp_iand, wp_ior, wp_ixor, wp_ishl, wp_ishr, wp_iushr, wp_idiv, wp_irem, wp_ineg, wp_ladd, wp_lsub, wp_lmul, wp_ldiv, wp_lrem, wp_lcmp, wp_i2l, wp_l2i, wp_pop, wp_dup, wp_dup2, wp_goto, wp_ifCond, wp_if_icmp, wp_ifnull, wp_ifnonnull, wp_tableswitch, wp_getfield, wp_putfield, wp_arraylength, wp_iaload, wp_baload, wp_laload, wp_aaload, wp_iastore, wp_bastore, wp_lastore, wp_aastore, wp_new, wp_newarray, wp_anewarray, wp_multianewarray, wp_invokevirtual, wp_invokespecial, wp_invokestatic, wp_ireturn, wp_lreturn, wp_areturn, wp_return_, wpL, ldI, ldJ, ldA, lk, sL, cL, i1, i2, l1, l2, r1, pA, p1, p2, ar, tyAt, rcv, rcr, oO, cmpI, Value.category, rf_some, rf_none, ak, kc, List.drop_succ_cons, List.drop_zero, List.drop_nil, List.take_succ_cons, List.take_zero, List.take_nil, List.head?_cons, List.reverse_cons, List.reverse_nil, List.nil_append, List.cons_append, List.length_cons, List.length_nil, Option.toList_some, Option.toList_none, hT_sI, hT_sJ, hT_sR, hI_sJ, hI_sR, hJ_sI, hJ_sR, hR_sI, hR_sJ, isO_sI, isO_sJ, isO_sR, iI_add, iI_sub, iI_mul, iI_neg, lv_args, Nat.reduceAdd, Nat.reduceEqDiff, Nat.reduceLeDiff, reduceIte, ite_true, ite_false, true_and, and_true, false_and, and_false, not_true, not_false_iff, or_true, true_or, false_or, or_false, imp_self, ne_eq, Classical.not_not, forall_const, true_implies, false_implies, if_pos, Nat.zero_add, Nat.add_zero, Nat.le_refl, Nat.reduceLT, iz00, iz01, iz10, iz11, ib0, ib1, ib01, reduceCtorEq, cq_X12_waysOf_165, cq_X12_waysOf_167, hs0, ec]
        refine out h2 0 j2 ?_ p2'
        rw [hFL, es2] at *
        intro _ i hi
        show _ = iI ((if s.1 = 0 then upF v (rwS L c a) x else s.2) (rwS L c i))
        rw [if_neg cs]
        exact f2 (by omega) i hi
    | succ r ihr =>
      intro a v s0 har hv fin kk
      refine lvl (r + 1) a v s0 har hv fin kk (fun x s s2 h2 hx1 hx2 hs hft j2 f2 p2' hs2 fin2 back => ?_)
      have han : a < n := by omega
      have han1 : a + 1 < n := by omega
      have hhi : hiS st (rwS L c a) ≤ 6 := by unfold hiS; split <;> omega
      have vr2 := vr (a := rwS L c a) hv hx1 (by omega)
      have e1 : (iI (a : Nat) = iI ((n : Int) - 1)) = False := eq_false (by rw [iI_eq (by omega) (by omega)]; omega)
      have e10 : (iI 1 = 0) = False := eq_false (by decide)
      have jg := j2
      rw [hJ] at jg
      have og := mo (RM_fm jg.1 M)
      refine hG.1 158 _ _ _ _ ?_
      rw [bq_X12_waysOf_158]
      simp only [bk_X12_waysOf_158, wp_aconst_null, wp_iconst, wp_bipush, wp_sipush, wp_ldc, wp_ldc_w, wp_ldc2_w, wp_lconst, wp_iload, wp_iload_n, wp_lload, wp_lload_n, wp_aload, wp_aload_n, wp_istore, wp_istore_n, wp_lstore, wp_lstore_n, wp_astore, wp_astore_n, wp_iinc, wp_iadd, wp_isub, wp_imul, wp_iand, wp_ior, wp_ixor, wp_ishl, wp_ishr, wp_iushr, wp_idiv, wp_irem, wp_ineg, wp_ladd, wp_lsub, wp_lmul, wp_ldiv, wp_lrem, wp_lcmp, wp_i2l, wp_l2i, wp_pop, wp_dup, wp_dup2, wp_goto, wp_ifCond, wp_if_icmp, wp_ifnull, wp_ifnonnull, wp_tableswitch, wp_getfield, wp_putfield, wp_arraylength, wp_iaload, wp_baload, wp_laload, wp_aaload, wp_iastore, wp_bastore, wp_lastore, wp_aastore, wp_new, wp_newarray, wp_anewarray, wp_multianewarray, wp_invokevirtual, wp_invokespecial, wp_invokestatic, wp_ireturn, wp_lreturn, wp_areturn, wp_return_, wpL, ldI, ldJ, ldA, lk, sL, cL, i1, i2, l1, l2, r1, pA, p1, p2, ar, tyAt, rcv, rcr, oO, cmpI, Value.category, rf_some, rf_none, ak, kc, List.drop_succ_cons, List.drop_zero, List.drop_nil, List.take_succ_cons, List.take_zero, List.take_nil, List.head?_cons, List.reverse_cons, List.reverse_nil, List.nil_append, List.cons_append, List.length_cons, List.length_nil, Option.toList_some, Option.toList_none, hT_sI, hT_sJ, hT_sR, hI_sJ, hI_sR, hJ_sI, hJ_sR, hR_sI, hR_sJ, isO_sI, isO_sJ, isO_sR, iI_add, iI_sub, iI_mul, iI_neg, lv_args, Nat.reduceAdd, Nat.reduceEqDiff, Nat.reduceLeDiff, reduceIte, ite_true, ite_false, true_and, and_true, false_and, and_false, not_true, not_false_iff, or_true, true_or, false_or, or_false, imp_self, ne_eq, Classical.not_not, forall_const, true_implies, false_implies, if_pos, Nat.zero_add, Nat.add_zero, Nat.le_refl, Nat.reduceLT, iz00, iz01, iz10, iz11, ib0, ib1, ib01, reduceCtorEq, cq_X12_waysOf_165, cq_X12_waysOf_167, e10, e1]
      refine hG.1 219 _ _ _ _ ?_
      rw [bq_X12_waysOf_219]
      simp only [bk_X12_waysOf_219, wp_aconst_null, wp_iconst, wp_bipush, wp_sipush, wp_ldc, wp_ldc_w, wp_ldc2_w, wp_lconst, wp_iload, wp_iload_n, wp_lload, wp_lload_n, wp_aload, wp_aload_n, wp_istore, wp_istore_n, wp_lstore, wp_lstore_n, wp_astore, wp_astore_n, wp_iinc, wp_iadd, wp_isub, wp_imul, wp_iand, wp_ior, wp_ixor, wp_ishl, wp_ishr, wp_iushr, wp_idiv, wp_irem, wp_ineg, wp_ladd, wp_lsub, wp_lmul, wp_ldiv, wp_lrem, wp_lcmp, wp_i2l, wp_l2i, wp_pop, wp_dup, wp_dup2, wp_goto, wp_ifCond, wp_if_icmp, wp_ifnull, wp_ifnonnull, wp_tableswitch, wp_getfield, wp_putfield, wp_arraylength, wp_iaload, wp_baload, wp_laload, wp_aaload, wp_iastore, wp_bastore, wp_lastore, wp_aastore, wp_new, wp_newarray, wp_anewarray, wp_multianewarray, wp_invokevirtual, wp_invokespecial, wp_invokestatic, wp_ireturn, wp_lreturn, wp_areturn, wp_return_, wpL, ldI, ldJ, ldA, lk, sL, cL, i1, i2, l1, l2, r1, pA, p1, p2, ar, tyAt, rcv, rcr, oO, cmpI, Value.category, rf_some, rf_none, ak, kc, List.drop_succ_cons, List.drop_zero, List.drop_nil, List.take_succ_cons, List.take_zero, List.take_nil, List.head?_cons, List.reverse_cons, List.reverse_nil, List.nil_append, List.cons_append, List.length_cons, List.length_nil, Option.toList_some, Option.toList_none, hT_sI, hT_sJ, hT_sR, hI_sJ, hI_sR, hJ_sI, hJ_sR, hR_sI, hR_sJ, isO_sI, isO_sJ, isO_sR, iI_add, iI_sub, iI_mul, iI_neg, lv_args, Nat.reduceAdd, Nat.reduceEqDiff, Nat.reduceLeDiff, reduceIte, ite_true, ite_false, true_and, and_true, false_and, and_false, not_true, not_false_iff, or_true, true_or, false_or, or_false, imp_self, ne_eq, Classical.not_not, forall_const, true_implies, false_implies, if_pos, Nat.zero_add, Nat.add_zero, Nat.le_refl, Nat.reduceLT, iz00, iz01, iz10, iz11, ib0, ib1, ib01, reduceCtorEq, cq_X12_waysOf_165, cq_X12_waysOf_167, og]
      refine fit han j2 p2' vr2 ?_
      simp only [wp_aconst_null, wp_iconst, wp_bipush, wp_sipush, wp_ldc, wp_ldc_w, wp_ldc2_w, wp_lconst, wp_iload, wp_iload_n, wp_lload, wp_lload_n, wp_aload, wp_aload_n, wp_istore, wp_istore_n, wp_lstore, wp_lstore_n, wp_astore, wp_astore_n, wp_iinc, wp_iadd, wp_isub, wp_imul, wp_iand, wp_ior, wp_ixor, wp_ishl, wp_ishr, wp_iushr, wp_idiv, wp_irem, wp_ineg, wp_ladd, wp_lsub, wp_lmul, wp_ldiv, wp_lrem, wp_lcmp, wp_i2l, wp_l2i, wp_pop, wp_dup, wp_dup2, wp_goto, wp_ifCond, wp_if_icmp, wp_ifnull, wp_ifnonnull, wp_tableswitch, wp_getfield, wp_putfield, wp_arraylength, wp_iaload, wp_baload, wp_laload, wp_aaload, wp_iastore, wp_bastore, wp_lastore, wp_aastore, wp_new, wp_newarray, wp_anewarray, wp_multianewarray, wp_invokevirtual, wp_invokespecial, wp_invokestatic, wp_ireturn, wp_lreturn, wp_areturn, wp_return_, wpL, ldI, ldJ, ldA, lk, sL, cL, i1, i2, l1, l2, r1, pA, p1, p2, ar, tyAt, rcv, rcr, oO, cmpI, Value.category, rf_some, rf_none, ak, kc, List.drop_succ_cons, List.drop_zero, List.drop_nil, List.take_succ_cons, List.take_zero, List.take_nil, List.head?_cons, List.reverse_cons, List.reverse_nil, List.nil_append, List.cons_append, List.length_cons, List.length_nil, Option.toList_some, Option.toList_none, hT_sI, hT_sJ, hT_sR, hI_sJ, hI_sR, hJ_sI, hJ_sR, hR_sI, hR_sJ, isO_sI, isO_sJ, isO_sR, iI_add, iI_sub, iI_mul, iI_neg, lv_args, Nat.reduceAdd, Nat.reduceEqDiff, Nat.reduceLeDiff, reduceIte, ite_true, ite_false, true_and, and_true, false_and, and_false, not_true, not_false_iff, or_true, true_or, false_or, or_false, imp_self, ne_eq, Classical.not_not, forall_const, true_implies, false_implies, if_pos, Nat.zero_add, Nat.add_zero, Nat.le_refl, Nat.reduceLT, iz00, iz01, iz10, iz11, ib0, ib1, ib01, reduceCtorEq, cq_X12_waysOf_165, cq_X12_waysOf_167]
      rw [if_pos hft]
      have j2' := j2
      rw [hJ] at j2'
      have M' := RM_fm j2'.1 M
      have o := mo M'
      have t1 := mr_32 M'
      have t2 := mt_32 M'
      have t3 := mr_30 M'
      have t4 := mt_30 M'
      have c4 := mc_4 M'
      have hr1 := rs7 (a + 1) han1
      obtain ⟨ia, na⟩ := vinN (i := a + 1) (n := 7) (by omega) (by omega)
      obtain ⟨ip, np⟩ := vinN (i := rwS L c (a + 1)) (n := 7) (by omega) (by omega)
      have v1 := j2'.2.2.1 (a + 1) han1
      rw [nc1] at ia na
      refine hG.1 226 _ _ _ _ ?_
      rw [bq_X12_waysOf_226]
      simp only [bk_X12_waysOf_226, wp_aconst_null, wp_iconst, wp_bipush, wp_sipush, wp_ldc, wp_ldc_w, wp_ldc2_w, wp_lconst, wp_iload, wp_iload_n, wp_lload, wp_lload_n, wp_aload, wp_aload_n, wp_istore, wp_istore_n, wp_lstore, wp_lstore_n, wp_astore, wp_astore_n, wp_iinc, wp_iadd, wp_isub, wp_imul, wp_iand, wp_ior, wp_ixor, wp_ishl, wp_ishr, wp_iushr, wp_idiv, wp_irem, wp_ineg, wp_ladd, wp_lsub, wp_lmul, wp_ldiv, wp_lrem, wp_lcmp, wp_i2l, wp_l2i, wp_pop, wp_dup, wp_dup2, wp_goto, wp_ifCond, wp_if_icmp, wp_ifnull, wp_ifnonnull, wp_tableswitch, wp_getfield, wp_putfield, wp_arraylength, wp_iaload, wp_baload, wp_laload, wp_aaload, wp_iastore, wp_bastore, wp_lastore, wp_aastore, wp_new, wp_newarray, wp_anewarray, wp_multianewarray, wp_invokevirtual, wp_invokespecial, wp_invokestatic, wp_ireturn, wp_lreturn, wp_areturn, wp_return_, wpL, ldI, ldJ, ldA, lk, sL, cL, i1, i2, l1, l2, r1, pA, p1, p2, ar, tyAt, rcv, rcr, oO, cmpI, Value.category, rf_some, rf_none, ak, kc, List.drop_succ_cons, List.drop_zero, List.drop_nil, List.take_succ_cons, List.take_zero, List.take_nil, List.head?_cons, List.reverse_cons, List.reverse_nil, List.nil_append, List.cons_append, List.length_cons, List.length_nil, Option.toList_some, Option.toList_none, hT_sI, hT_sJ, hT_sR, hI_sJ, hI_sR, hJ_sI, hJ_sR, hR_sI, hR_sJ, isO_sI, isO_sJ, isO_sR, iI_add, iI_sub, iI_mul, iI_neg, lv_args, Nat.reduceAdd, Nat.reduceEqDiff, Nat.reduceLeDiff, reduceIte, ite_true, ite_false, true_and, and_true, false_and, and_false, not_true, not_false_iff, or_true, true_or, false_or, or_false, imp_self, ne_eq, Classical.not_not, forall_const, true_implies, false_implies, if_pos, Nat.zero_add, Nat.add_zero, Nat.le_refl, Nat.reduceLT, iz00, iz01, iz10, iz11, ib0, ib1, ib01, reduceCtorEq, cq_X12_waysOf_165, cq_X12_waysOf_167, e10, o, t1, t2, t3, t4, c4, ia, na, ip, np, v1]
      refine hG.1 251 _ _ _ _ ?_
      rw [bq_X12_waysOf_251]
      simp only [bk_X12_waysOf_251, wp_aconst_null, wp_iconst, wp_bipush, wp_sipush, wp_ldc, wp_ldc_w, wp_ldc2_w, wp_lconst, wp_iload, wp_iload_n, wp_lload, wp_lload_n, wp_aload, wp_aload_n, wp_istore, wp_istore_n, wp_lstore, wp_lstore_n, wp_astore, wp_astore_n, wp_iinc, wp_iadd, wp_isub, wp_imul, wp_iand, wp_ior, wp_ixor, wp_ishl, wp_ishr, wp_iushr, wp_idiv, wp_irem, wp_ineg, wp_ladd, wp_lsub, wp_lmul, wp_ldiv, wp_lrem, wp_lcmp, wp_i2l, wp_l2i, wp_pop, wp_dup, wp_dup2, wp_goto, wp_ifCond, wp_if_icmp, wp_ifnull, wp_ifnonnull, wp_tableswitch, wp_getfield, wp_putfield, wp_arraylength, wp_iaload, wp_baload, wp_laload, wp_aaload, wp_iastore, wp_bastore, wp_lastore, wp_aastore, wp_new, wp_newarray, wp_anewarray, wp_multianewarray, wp_invokevirtual, wp_invokespecial, wp_invokestatic, wp_ireturn, wp_lreturn, wp_areturn, wp_return_, wpL, ldI, ldJ, ldA, lk, sL, cL, i1, i2, l1, l2, r1, pA, p1, p2, ar, tyAt, rcv, rcr, oO, cmpI, Value.category, rf_some, rf_none, ak, kc, List.drop_succ_cons, List.drop_zero, List.drop_nil, List.take_succ_cons, List.take_zero, List.take_nil, List.head?_cons, List.reverse_cons, List.reverse_nil, List.nil_append, List.cons_append, List.length_cons, List.length_nil, Option.toList_some, Option.toList_none, hT_sI, hT_sJ, hT_sR, hI_sJ, hI_sR, hJ_sI, hJ_sR, hR_sI, hR_sJ, isO_sI, isO_sJ, isO_sR, iI_add, iI_sub, iI_mul, iI_neg, lv_args, Nat.reduceAdd, Nat.reduceEqDiff, Nat.reduceLeDiff, reduceIte, ite_true, ite_false, true_and, and_true, false_and, and_false, not_true, not_false_iff, or_true, true_or, false_or, or_false, imp_self, ne_eq, Classical.not_not, forall_const, true_implies, false_implies, if_pos, Nat.zero_add, Nat.add_zero, Nat.le_refl, Nat.reduceLT, iz00, iz01, iz10, iz11, ib0, ib1, ib01, reduceCtorEq, cq_X12_waysOf_165, cq_X12_waysOf_167]
      have nf : rwS L c (a + 1) ≠ fiS st := by
        have g1 := rw_lt w (L := L) (c := c) (j := a) (k := a + 1) (by omega) (by omega)
        have g2 := fiS_le (li (rwS L c a) (by rw [rsL a han]; omega)) (rs7 a han)
        omega
      have el : loS st (rwS L c (a + 1)) = -(st 0 4) := if_neg nf
      have eh : hiS st (rwS L c (a + 1)) = st 0 4 := if_neg nf
      have q := ihr (a + 1) (upF v (rwS L c a) x) s2 (by omega) vr2 fin2 (fun h3 X g1 g2 g3 g4 => by
        rw [show ((a + 1 : Nat) : Int) - 1 = (a : Nat) by omega]
        exact back h3 X g1 g2 g3 g4) (st 0 4 - -(st 0 4) + 1).toNat (-(st 0 4)) s (sI h2 133 (rwS L c (a + 1)) (A 30) (iI (-(st 0 4) - 1))) [(7, .int (iI (rwS L c a : Nat)))] (by rw [eh]; omega) (by omega) (by omega) (by rw [hs2, soP_s, el, eh]) (mv j2) (mvF f2) (mvP (Nat.le_refl _) han1 p2') (by rw [hI_sI, if_pos ⟨rfl, rfl, rfl⟩])
      rw [nc1] at q
      exact q
  have rows : ∀ (N p : Nat) (h' : hp), p + N = (st 0 0).toNat → Fm h h' → PO h' A st L → (∀ k, k < cntN (ptP L c) p → hI h' 135 k (A 32) = iI (rwS L c k : Nat)) → (∀ p, hI h' 134 p (A 31) = hI h 134 p (A 31)) → G 5 [(0, .ref m), (1, .int (iI (c : Nat))), (2, .int (iI (many : Nat))), (3, .int (iI (cntN (ptP L c) p : Nat))), (4, .int (iI (p : Nat)))] [] h' (0, 0) := by
    intro N
    induction N with
    | zero =>
      intro p h' hp' F po' hr hl
      have M' := RM_fm F M
      have o := mo M'
      have c0 := mc_0 M'
      have c4 := mc_4 M'
      have e1 : (iI (st 0 0) ≤ iI (p : Nat)) = True := eq_true ((iI_le (by omega) (by omega)).mpr (by omega))
      have ep : cntN (ptP L c) p = n := by rw [hn]; unfold rwN; rw [show (st 0 0).toNat = p by omega]
      have jh : J h' := by
        rw [hJ]
        exact ⟨F, po', fun k hk => hr k (by omega), fun p _ => hl p⟩
      rw [ep]
      refine hG.1 5 _ _ _ _ ?_
      rw [bq_X12_waysOf_5]
      simp only [bk_X12_waysOf_5, wp_aconst_null, wp_iconst, wp_bipush, wp_sipush, wp_ldc, wp_ldc_w, wp_ldc2_w, wp_lconst, wp_iload, wp_iload_n, wp_lload, wp_lload_n, wp_aload, wp_aload_n, wp_istore, wp_istore_n, wp_lstore, wp_lstore_n, wp_astore, wp_astore_n, wp_iinc, wp_iadd, wp_isub, wp_imul, wp_iand, wp_ior, wp_ixor, wp_ishl, wp_ishr, wp_iushr, wp_idiv, wp_irem, wp_ineg, wp_ladd, wp_lsub, wp_lmul, wp_ldiv, wp_lrem, wp_lcmp, wp_i2l, wp_l2i, wp_pop, wp_dup, wp_dup2, wp_goto, wp_ifCond, wp_if_icmp, wp_ifnull, wp_ifnonnull, wp_tableswitch, wp_getfield, wp_putfield, wp_arraylength, wp_iaload, wp_baload, wp_laload, wp_aaload, wp_iastore, wp_bastore, wp_lastore, wp_aastore, wp_new, wp_newarray, wp_anewarray, wp_multianewarray, wp_invokevirtual, wp_invokespecial, wp_invokestatic, wp_ireturn, wp_lreturn, wp_areturn, wp_return_, wpL, ldI, ldJ, ldA, lk, sL, cL, i1, i2, l1, l2, r1, pA, p1, p2, ar, tyAt, rcv, rcr, oO, cmpI, Value.category, rf_some, rf_none, ak, kc, List.drop_succ_cons, List.drop_zero, List.drop_nil, List.take_succ_cons, List.take_zero, List.take_nil, List.head?_cons, List.reverse_cons, List.reverse_nil, List.nil_append, List.cons_append, List.length_cons, List.length_nil, Option.toList_some, Option.toList_none, hT_sI, hT_sJ, hT_sR, hI_sJ, hI_sR, hJ_sI, hJ_sR, hR_sI, hR_sJ, isO_sI, isO_sJ, isO_sR, iI_add, iI_sub, iI_mul, iI_neg, lv_args, Nat.reduceAdd, Nat.reduceEqDiff, Nat.reduceLeDiff, reduceIte, ite_true, ite_false, true_and, and_true, false_and, and_false, not_true, not_false_iff, or_true, true_or, false_or, or_false, imp_self, ne_eq, Classical.not_not, forall_const, true_implies, false_implies, if_pos, Nat.zero_add, Nat.add_zero, Nat.le_refl, Nat.reduceLT, iz00, iz01, iz10, iz11, ib0, ib1, ib01, reduceCtorEq, cq_X12_waysOf_165, cq_X12_waysOf_167, o, c0, e1]
      refine hG.1 42 _ _ _ _ ?_
      rw [bq_X12_waysOf_42]
      simp only [bk_X12_waysOf_42, wp_aconst_null, wp_iconst, wp_bipush, wp_sipush, wp_ldc, wp_ldc_w, wp_ldc2_w, wp_lconst, wp_iload, wp_iload_n, wp_lload, wp_lload_n, wp_aload, wp_aload_n, wp_istore, wp_istore_n, wp_lstore, wp_lstore_n, wp_astore, wp_astore_n, wp_iinc, wp_iadd, wp_isub, wp_imul, wp_iand, wp_ior, wp_ixor, wp_ishl, wp_ishr, wp_iushr, wp_idiv, wp_irem, wp_ineg, wp_ladd, wp_lsub, wp_lmul, wp_ldiv, wp_lrem, wp_lcmp, wp_i2l, wp_l2i, wp_pop, wp_dup, wp_dup2, wp_goto, wp_ifCond, wp_if_icmp, wp_ifnull, wp_ifnonnull, wp_tableswitch, wp_getfield, wp_putfield, wp_arraylength, wp_iaload, wp_baload, wp_laload, wp_aaload, wp_iastore, wp_bastore, wp_lastore, wp_aastore, wp_new, wp_newarray, wp_anewarray, wp_multianewarray, wp_invokevirtual, wp_invokespecial, wp_invokestatic, wp_ireturn, wp_lreturn, wp_areturn, wp_return_, wpL, ldI, ldJ, ldA, lk, sL, cL, i1, i2, l1, l2, r1, pA, p1, p2, ar, tyAt, rcv, rcr, oO, cmpI, Value.category, rf_some, rf_none, ak, kc, List.drop_succ_cons, List.drop_zero, List.drop_nil, List.take_succ_cons, List.take_zero, List.take_nil, List.head?_cons, List.reverse_cons, List.reverse_nil, List.nil_append, List.cons_append, List.length_cons, List.length_nil, Option.toList_some, Option.toList_none, hT_sI, hT_sJ, hT_sR, hI_sJ, hI_sR, hJ_sI, hJ_sR, hR_sI, hR_sJ, isO_sI, isO_sJ, isO_sR, iI_add, iI_sub, iI_mul, iI_neg, lv_args, Nat.reduceAdd, Nat.reduceEqDiff, Nat.reduceLeDiff, reduceIte, ite_true, ite_false, true_and, and_true, false_and, and_false, not_true, not_false_iff, or_true, true_or, false_or, or_false, imp_self, ne_eq, Classical.not_not, forall_const, true_implies, false_implies, if_pos, Nat.zero_add, Nat.add_zero, Nat.le_refl, Nat.reduceLT, iz00, iz01, iz10, iz11, ib0, ib1, ib01, reduceCtorEq, cq_X12_waysOf_165, cq_X12_waysOf_167, o]
      refine ⟨m, A, st, rfl, M', w, ?_⟩
      simp only [wp_aconst_null, wp_iconst, wp_bipush, wp_sipush, wp_ldc, wp_ldc_w, wp_ldc2_w, wp_lconst, wp_iload, wp_iload_n, wp_lload, wp_lload_n, wp_aload, wp_aload_n, wp_istore, wp_istore_n, wp_lstore, wp_lstore_n, wp_astore, wp_astore_n, wp_iinc, wp_iadd, wp_isub, wp_imul, wp_iand, wp_ior, wp_ixor, wp_ishl, wp_ishr, wp_iushr, wp_idiv, wp_irem, wp_ineg, wp_ladd, wp_lsub, wp_lmul, wp_ldiv, wp_lrem, wp_lcmp, wp_i2l, wp_l2i, wp_pop, wp_dup, wp_dup2, wp_goto, wp_ifCond, wp_if_icmp, wp_ifnull, wp_ifnonnull, wp_tableswitch, wp_getfield, wp_putfield, wp_arraylength, wp_iaload, wp_baload, wp_laload, wp_aaload, wp_iastore, wp_bastore, wp_lastore, wp_aastore, wp_new, wp_newarray, wp_anewarray, wp_multianewarray, wp_invokevirtual, wp_invokespecial, wp_invokestatic, wp_ireturn, wp_lreturn, wp_areturn, wp_return_, wpL, ldI, ldJ, ldA, lk, sL, cL, i1, i2, l1, l2, r1, pA, p1, p2, ar, tyAt, rcv, rcr, oO, cmpI, Value.category, rf_some, rf_none, ak, kc, List.drop_succ_cons, List.drop_zero, List.drop_nil, List.take_succ_cons, List.take_zero, List.take_nil, List.head?_cons, List.reverse_cons, List.reverse_nil, List.nil_append, List.cons_append, List.length_cons, List.length_nil, Option.toList_some, Option.toList_none, hT_sI, hT_sJ, hT_sR, hI_sJ, hI_sR, hJ_sI, hJ_sR, hR_sI, hR_sJ, isO_sI, isO_sJ, isO_sR, iI_add, iI_sub, iI_mul, iI_neg, lv_args, Nat.reduceAdd, Nat.reduceEqDiff, Nat.reduceLeDiff, reduceIte, ite_true, ite_false, true_and, and_true, false_and, and_false, not_true, not_false_iff, or_true, true_or, false_or, or_false, imp_self, ne_eq, Classical.not_not, forall_const, true_implies, false_implies, if_pos, Nat.zero_add, Nat.add_zero, Nat.le_refl, Nat.reduceLT, iz00, iz01, iz10, iz11, ib0, ib1, ib01, reduceCtorEq, cq_X12_waysOf_165, cq_X12_waysOf_167]
      have t1 := mr_32 M'
      have t2 := mt_32 M'
      have t3 := mr_30 M'
      have t4 := mt_30 M'
      have i0 : vp_in (iI 0) 7 := iI_in (by omega) (by omega)
      have n0 : (iI 0).toNatClampNeg = 0 := rfl
      have hr0 := rs7 0 (by omega)
      obtain ⟨ip, np⟩ := vinN (i := rwS L c 0) (n := 7) (by omega) (by omega)
      have v1 := hr 0 (by omega)
      have efi : (iI (rwS L c 0 : Nat) = iI (fiS st : Nat)) = (rwS L c 0 = fiS st) := propext ((iI_eq (by omega) (by omega)).trans (by omega))
      have lr : -6 ≤ loS st (rwS L c 0) ∧ loS st (rwS L c 0) ≤ hiS st (rwS L c 0) := by unfold loS hiS; split <;> omega
      have go : ∀ x : Int, x = loS st (rwS L c 0) → G 84 [(0, .ref m), (1, .int (iI (c : Nat))), (2, .int (iI (many : Nat))), (3, .int (iI (n : Nat))), (4, .int (iI 0)), (5, .int (iI 0)), (6, .int (iI (fiS st : Nat)))] [.int (iI x), .int (iI (rwS L c 0 : Nat)), .ref (A 30)] h' (0, 0) := by
        intro x hx
        refine hG.1 84 _ _ _ _ ?_
        rw [bq_X12_waysOf_84]
        simp only [bk_X12_waysOf_84, wp_aconst_null, wp_iconst, wp_bipush, wp_sipush, wp_ldc, wp_ldc_w, wp_ldc2_w, wp_lconst, wp_iload, wp_iload_n, wp_lload, wp_lload_n, wp_aload, wp_aload_n, wp_istore, wp_istore_n, wp_lstore, wp_lstore_n, wp_astore, wp_astore_n, wp_iinc, wp_iadd, wp_isub, wp_imul, wp_iand, wp_ior, wp_ixor, wp_ishl, wp_ishr, wp_iushr, wp_idiv, wp_irem, wp_ineg, wp_ladd, wp_lsub, wp_lmul, wp_ldiv, wp_lrem, wp_lcmp, wp_i2l, wp_l2i, wp_pop, wp_dup, wp_dup2, wp_goto, wp_ifCond, wp_if_icmp, wp_ifnull, wp_ifnonnull, wp_tableswitch, wp_getfield, wp_putfield, wp_arraylength, wp_iaload, wp_baload, wp_laload, wp_aaload, wp_iastore, wp_bastore, wp_lastore, wp_aastore, wp_new, wp_newarray, wp_anewarray, wp_multianewarray, wp_invokevirtual, wp_invokespecial, wp_invokestatic, wp_ireturn, wp_lreturn, wp_areturn, wp_return_, wpL, ldI, ldJ, ldA, lk, sL, cL, i1, i2, l1, l2, r1, pA, p1, p2, ar, tyAt, rcv, rcr, oO, cmpI, Value.category, rf_some, rf_none, ak, kc, List.drop_succ_cons, List.drop_zero, List.drop_nil, List.take_succ_cons, List.take_zero, List.take_nil, List.head?_cons, List.reverse_cons, List.reverse_nil, List.nil_append, List.cons_append, List.length_cons, List.length_nil, Option.toList_some, Option.toList_none, hT_sI, hT_sJ, hT_sR, hI_sJ, hI_sR, hJ_sI, hJ_sR, hR_sI, hR_sJ, isO_sI, isO_sJ, isO_sR, iI_add, iI_sub, iI_mul, iI_neg, lv_args, Nat.reduceAdd, Nat.reduceEqDiff, Nat.reduceLeDiff, reduceIte, ite_true, ite_false, true_and, and_true, false_and, and_false, not_true, not_false_iff, or_true, true_or, false_or, or_false, imp_self, ne_eq, Classical.not_not, forall_const, true_implies, false_implies, if_pos, Nat.zero_add, Nat.add_zero, Nat.le_refl, Nat.reduceLT, iz00, iz01, iz10, iz11, ib0, ib1, ib01, reduceCtorEq, cq_X12_waysOf_165, cq_X12_waysOf_167, t4, ip, np]
        obtain ⟨n', hn'⟩ : ∃ n', n = n' + 1 := ⟨n - 1, by omega⟩
        have q := main n' 0 (fun _ => 0) sF (by omega) (fun _ => by omega) (fun _ => rfl) (fun h2 X g1 g2 g3 _ => ?_) (hiS st (rwS L c 0) - loS st (rwS L c 0) + 1).toNat (loS st (rwS L c 0)) (0, fun _ => 0) (sI h' 133 (rwS L c 0) (A 30) (iI (x - 1))) [] (by omega) (by omega) (by decide) (by rw [hsF]; unfold woS; rw [← hn, hn', soP_s]) (mv jh) (by rw [hFL]; intro z; exact absurd z (by decide)) (by rw [hPR]; intro k hk; omega) (by rw [hI_sI, if_pos ⟨rfl, rfl, rfl⟩, hx])
        · exact q
        · refine hG.2 87 _ [(0, .ref m), (1, .int (iI (c : Nat))), (2, .int (iI (many : Nat))), (3, .int (iI (n : Nat))), (4, .int (iI (sF.1 : Nat))), (5, .int (iI (((0 : Nat) : Int) - 1))), (6, .int (iI (fiS st : Nat)))] _ _ _ (fun q hq => List.mem_append_left X hq) ?_
          have em : (iI (((0 : Nat) : Int) - 1) < 0) = True := eq_true (by decide)
          have em' : (iI (-1) < 0) = True := eq_true (by decide)
          refine hG.1 87 _ _ _ _ ?_
          rw [bq_X12_waysOf_87]
          simp only [bk_X12_waysOf_87, wp_aconst_null, wp_iconst, wp_bipush, wp_sipush, wp_ldc, wp_ldc_w, wp_ldc2_w, wp_lconst, wp_iload, wp_iload_n, wp_lload, wp_lload_n, wp_aload, wp_aload_n, wp_istore, wp_istore_n, wp_lstore, wp_lstore_n, wp_astore, wp_astore_n, wp_iinc, wp_iadd, wp_isub, wp_imul, wp_iand, wp_ior, wp_ixor, wp_ishl, wp_ishr, wp_iushr, wp_idiv, wp_irem, wp_ineg, wp_ladd, wp_lsub, wp_lmul, wp_ldiv, wp_lrem, wp_lcmp, wp_i2l, wp_l2i, wp_pop, wp_dup, wp_dup2, wp_goto, wp_ifCond, wp_if_icmp, wp_ifnull, wp_ifnonnull, wp_tableswitch, wp_getfield, wp_putfield, wp_arraylength, wp_iaload, wp_baload, wp_laload, wp_aaload, wp_iastore, wp_bastore, wp_lastore, wp_aastore, wp_new, wp_newarray, wp_anewarray, wp_multianewarray, wp_invokevirtual, wp_invokespecial, wp_invokestatic, wp_ireturn, wp_lreturn, wp_areturn, wp_return_, wpL, ldI, ldJ, ldA, lk, sL, cL, i1, i2, l1, l2, r1, pA, p1, p2, ar, tyAt, rcv, rcr, oO, cmpI, Value.category, rf_some, rf_none, ak, kc, List.drop_succ_cons, List.drop_zero, List.drop_nil, List.take_succ_cons, List.take_zero, List.take_nil, List.head?_cons, List.reverse_cons, List.reverse_nil, List.nil_append, List.cons_append, List.length_cons, List.length_nil, Option.toList_some, Option.toList_none, hT_sI, hT_sJ, hT_sR, hI_sJ, hI_sR, hJ_sI, hJ_sR, hR_sI, hR_sJ, isO_sI, isO_sJ, isO_sR, iI_add, iI_sub, iI_mul, iI_neg, lv_args, Nat.reduceAdd, Nat.reduceEqDiff, Nat.reduceLeDiff, reduceIte, ite_true, ite_false, true_and, and_true, false_and, and_false, not_true, not_false_iff, or_true, true_or, false_or, or_false, imp_self, ne_eq, Classical.not_not, forall_const, true_implies, false_implies, if_pos, Nat.zero_add, Nat.add_zero, Nat.le_refl, Nat.reduceLT, iz00, iz01, iz10, iz11, ib0, ib1, ib01, reduceCtorEq, cq_X12_waysOf_165, cq_X12_waysOf_167, em, em']
          exact ret h2 sF _ [] rfl g2 g3
      refine hG.1 52 _ _ _ _ ?_
      rw [bq_X12_waysOf_52]
      simp only [bk_X12_waysOf_52, wp_aconst_null, wp_iconst, wp_bipush, wp_sipush, wp_ldc, wp_ldc_w, wp_ldc2_w, wp_lconst, wp_iload, wp_iload_n, wp_lload, wp_lload_n, wp_aload, wp_aload_n, wp_istore, wp_istore_n, wp_lstore, wp_lstore_n, wp_astore, wp_astore_n, wp_iinc, wp_iadd, wp_isub, wp_imul, wp_iand, wp_ior, wp_ixor, wp_ishl, wp_ishr, wp_iushr, wp_idiv, wp_irem, wp_ineg, wp_ladd, wp_lsub, wp_lmul, wp_ldiv, wp_lrem, wp_lcmp, wp_i2l, wp_l2i, wp_pop, wp_dup, wp_dup2, wp_goto, wp_ifCond, wp_if_icmp, wp_ifnull, wp_ifnonnull, wp_tableswitch, wp_getfield, wp_putfield, wp_arraylength, wp_iaload, wp_baload, wp_laload, wp_aaload, wp_iastore, wp_bastore, wp_lastore, wp_aastore, wp_new, wp_newarray, wp_anewarray, wp_multianewarray, wp_invokevirtual, wp_invokespecial, wp_invokestatic, wp_ireturn, wp_lreturn, wp_areturn, wp_return_, wpL, ldI, ldJ, ldA, lk, sL, cL, i1, i2, l1, l2, r1, pA, p1, p2, ar, tyAt, rcv, rcr, oO, cmpI, Value.category, rf_some, rf_none, ak, kc, List.drop_succ_cons, List.drop_zero, List.drop_nil, List.take_succ_cons, List.take_zero, List.take_nil, List.head?_cons, List.reverse_cons, List.reverse_nil, List.nil_append, List.cons_append, List.length_cons, List.length_nil, Option.toList_some, Option.toList_none, hT_sI, hT_sJ, hT_sR, hI_sJ, hI_sR, hJ_sI, hJ_sR, hR_sI, hR_sJ, isO_sI, isO_sJ, isO_sR, iI_add, iI_sub, iI_mul, iI_neg, lv_args, Nat.reduceAdd, Nat.reduceEqDiff, Nat.reduceLeDiff, reduceIte, ite_true, ite_false, true_and, and_true, false_and, and_false, not_true, not_false_iff, or_true, true_or, false_or, or_false, imp_self, ne_eq, Classical.not_not, forall_const, true_implies, false_implies, if_pos, Nat.zero_add, Nat.add_zero, Nat.le_refl, Nat.reduceLT, iz00, iz01, iz10, iz11, ib0, ib1, ib01, reduceCtorEq, cq_X12_waysOf_165, cq_X12_waysOf_167, o, t1, t2, t3, t4, i0, n0, v1, efi]
      refine ⟨fun d => ?_, fun d => ?_⟩
      · refine hG.1 79 _ _ _ _ ?_
        rw [bq_X12_waysOf_79]
        simp only [bk_X12_waysOf_79, wp_aconst_null, wp_iconst, wp_bipush, wp_sipush, wp_ldc, wp_ldc_w, wp_ldc2_w, wp_lconst, wp_iload, wp_iload_n, wp_lload, wp_lload_n, wp_aload, wp_aload_n, wp_istore, wp_istore_n, wp_lstore, wp_lstore_n, wp_astore, wp_astore_n, wp_iinc, wp_iadd, wp_isub, wp_imul, wp_iand, wp_ior, wp_ixor, wp_ishl, wp_ishr, wp_iushr, wp_idiv, wp_irem, wp_ineg, wp_ladd, wp_lsub, wp_lmul, wp_ldiv, wp_lrem, wp_lcmp, wp_i2l, wp_l2i, wp_pop, wp_dup, wp_dup2, wp_goto, wp_ifCond, wp_if_icmp, wp_ifnull, wp_ifnonnull, wp_tableswitch, wp_getfield, wp_putfield, wp_arraylength, wp_iaload, wp_baload, wp_laload, wp_aaload, wp_iastore, wp_bastore, wp_lastore, wp_aastore, wp_new, wp_newarray, wp_anewarray, wp_multianewarray, wp_invokevirtual, wp_invokespecial, wp_invokestatic, wp_ireturn, wp_lreturn, wp_areturn, wp_return_, wpL, ldI, ldJ, ldA, lk, sL, cL, i1, i2, l1, l2, r1, pA, p1, p2, ar, tyAt, rcv, rcr, oO, cmpI, Value.category, rf_some, rf_none, ak, kc, List.drop_succ_cons, List.drop_zero, List.drop_nil, List.take_succ_cons, List.take_zero, List.take_nil, List.head?_cons, List.reverse_cons, List.reverse_nil, List.nil_append, List.cons_append, List.length_cons, List.length_nil, Option.toList_some, Option.toList_none, hT_sI, hT_sJ, hT_sR, hI_sJ, hI_sR, hJ_sI, hJ_sR, hR_sI, hR_sJ, isO_sI, isO_sJ, isO_sR, iI_add, iI_sub, iI_mul, iI_neg, lv_args, Nat.reduceAdd, Nat.reduceEqDiff, Nat.reduceLeDiff, reduceIte, ite_true, ite_false, true_and, and_true, false_and, and_false, not_true, not_false_iff, or_true, true_or, false_or, or_false, imp_self, ne_eq, Classical.not_not, forall_const, true_implies, false_implies, if_pos, Nat.zero_add, Nat.add_zero, Nat.le_refl, Nat.reduceLT, iz00, iz01, iz10, iz11, ib0, ib1, ib01, reduceCtorEq, cq_X12_waysOf_165, cq_X12_waysOf_167, o, c4]
        exact go _ (by unfold loS; rw [if_neg d])
      · exact go _ (by unfold loS; rw [if_pos (by simpa using d)])
    | succ N ih =>
      intro p h' hp' F po' hr hl
      have M' := RM_fm F M
      have o := mo M'
      have c0 := mc_0 M'
      have t1 := mr_32 M'
      have t2 := mt_32 M'
      have t3 := mr_29 M'
      have t4 := mt_29 M'
      have hp7 : p < 7 := by omega
      have e1 : (iI (st 0 0) ≤ iI (p : Nat)) = False := eq_false (by rw [iI_le (by omega) (by omega)]; omega)
      obtain ⟨ip, np⟩ := vinN (i := p) (n := 7) hp7 (by omega)
      have v1 := po' p (by omega)
      have lr := lo p hp7
      have e2 : (iI (L p) = iI (c : Nat)) = (L p = (c : Nat)) := propext (iI_eq (by omega) (by omega))
      have hcn := cntN_le (ptP L c) p
      obtain ⟨ik, nk⟩ := vinN (i := cntN (ptP L c) p) (n := 7) (by omega) (by omega)
      have es := cntN_s (ptP L c) p
      refine hG.1 5 _ _ _ _ ?_
      rw [bq_X12_waysOf_5]
      simp only [bk_X12_waysOf_5, wp_aconst_null, wp_iconst, wp_bipush, wp_sipush, wp_ldc, wp_ldc_w, wp_ldc2_w, wp_lconst, wp_iload, wp_iload_n, wp_lload, wp_lload_n, wp_aload, wp_aload_n, wp_istore, wp_istore_n, wp_lstore, wp_lstore_n, wp_astore, wp_astore_n, wp_iinc, wp_iadd, wp_isub, wp_imul, wp_iand, wp_ior, wp_ixor, wp_ishl, wp_ishr, wp_iushr, wp_idiv, wp_irem, wp_ineg, wp_ladd, wp_lsub, wp_lmul, wp_ldiv, wp_lrem, wp_lcmp, wp_i2l, wp_l2i, wp_pop, wp_dup, wp_dup2, wp_goto, wp_ifCond, wp_if_icmp, wp_ifnull, wp_ifnonnull, wp_tableswitch, wp_getfield, wp_putfield, wp_arraylength, wp_iaload, wp_baload, wp_laload, wp_aaload, wp_iastore, wp_bastore, wp_lastore, wp_aastore, wp_new, wp_newarray, wp_anewarray, wp_multianewarray, wp_invokevirtual, wp_invokespecial, wp_invokestatic, wp_ireturn, wp_lreturn, wp_areturn, wp_return_, wpL, ldI, ldJ, ldA, lk, sL, cL, i1, i2, l1, l2, r1, pA, p1, p2, ar, tyAt, rcv, rcr, oO, cmpI, Value.category, rf_some, rf_none, ak, kc, List.drop_succ_cons, List.drop_zero, List.drop_nil, List.take_succ_cons, List.take_zero, List.take_nil, List.head?_cons, List.reverse_cons, List.reverse_nil, List.nil_append, List.cons_append, List.length_cons, List.length_nil, Option.toList_some, Option.toList_none, hT_sI, hT_sJ, hT_sR, hI_sJ, hI_sR, hJ_sI, hJ_sR, hR_sI, hR_sJ, isO_sI, isO_sJ, isO_sR, iI_add, iI_sub, iI_mul, iI_neg, lv_args, Nat.reduceAdd, Nat.reduceEqDiff, Nat.reduceLeDiff, reduceIte, ite_true, ite_false, true_and, and_true, false_and, and_false, not_true, not_false_iff, or_true, true_or, false_or, or_false, imp_self, ne_eq, Classical.not_not, forall_const, true_implies, false_implies, if_pos, Nat.zero_add, Nat.add_zero, Nat.le_refl, Nat.reduceLT, iz00, iz01, iz10, iz11, ib0, ib1, ib01, reduceCtorEq, cq_X12_waysOf_165, cq_X12_waysOf_167, o, c0, e1, t1, t2, t3, t4, ip, np, v1, e2, ik, nk]
      refine ⟨fun d => ?_, fun d => ?_⟩
      · refine hG.1 36 _ _ _ _ ?_
        rw [bq_X12_waysOf_36]
        simp only [bk_X12_waysOf_36, wp_aconst_null, wp_iconst, wp_bipush, wp_sipush, wp_ldc, wp_ldc_w, wp_ldc2_w, wp_lconst, wp_iload, wp_iload_n, wp_lload, wp_lload_n, wp_aload, wp_aload_n, wp_istore, wp_istore_n, wp_lstore, wp_lstore_n, wp_astore, wp_astore_n, wp_iinc, wp_iadd, wp_isub, wp_imul, wp_iand, wp_ior, wp_ixor, wp_ishl, wp_ishr, wp_iushr, wp_idiv, wp_irem, wp_ineg, wp_ladd, wp_lsub, wp_lmul, wp_ldiv, wp_lrem, wp_lcmp, wp_i2l, wp_l2i, wp_pop, wp_dup, wp_dup2, wp_goto, wp_ifCond, wp_if_icmp, wp_ifnull, wp_ifnonnull, wp_tableswitch, wp_getfield, wp_putfield, wp_arraylength, wp_iaload, wp_baload, wp_laload, wp_aaload, wp_iastore, wp_bastore, wp_lastore, wp_aastore, wp_new, wp_newarray, wp_anewarray, wp_multianewarray, wp_invokevirtual, wp_invokespecial, wp_invokestatic, wp_ireturn, wp_lreturn, wp_areturn, wp_return_, wpL, ldI, ldJ, ldA, lk, sL, cL, i1, i2, l1, l2, r1, pA, p1, p2, ar, tyAt, rcv, rcr, oO, cmpI, Value.category, rf_some, rf_none, ak, kc, List.drop_succ_cons, List.drop_zero, List.drop_nil, List.take_succ_cons, List.take_zero, List.take_nil, List.head?_cons, List.reverse_cons, List.reverse_nil, List.nil_append, List.cons_append, List.length_cons, List.length_nil, Option.toList_some, Option.toList_none, hT_sI, hT_sJ, hT_sR, hI_sJ, hI_sR, hJ_sI, hJ_sR, hR_sI, hR_sJ, isO_sI, isO_sJ, isO_sR, iI_add, iI_sub, iI_mul, iI_neg, lv_args, Nat.reduceAdd, Nat.reduceEqDiff, Nat.reduceLeDiff, reduceIte, ite_true, ite_false, true_and, and_true, false_and, and_false, not_true, not_false_iff, or_true, true_or, false_or, or_false, imp_self, ne_eq, Classical.not_not, forall_const, true_implies, false_implies, if_pos, Nat.zero_add, Nat.add_zero, Nat.le_refl, Nat.reduceLT, iz00, iz01, iz10, iz11, ib0, ib1, ib01, reduceCtorEq, cq_X12_waysOf_165, cq_X12_waysOf_167]
        rw [show ptP L c p = false from decide_eq_false d] at es
        have q := ih (p + 1) h' (by omega) F po' (fun k hk => hr k (by rw [es] at hk; exact hk)) hl
        rw [show cntN (ptP L c) (p + 1) = cntN (ptP L c) p by rw [es]; rfl, nc1] at q
        exact q
      · have d' : L p = (c : Nat) := by simpa using d
        rw [show ptP L c p = true from decide_eq_true d', if_pos rfl] at es
        refine hG.1 36 _ _ _ _ ?_
        rw [bq_X12_waysOf_36]
        simp only [bk_X12_waysOf_36, wp_aconst_null, wp_iconst, wp_bipush, wp_sipush, wp_ldc, wp_ldc_w, wp_ldc2_w, wp_lconst, wp_iload, wp_iload_n, wp_lload, wp_lload_n, wp_aload, wp_aload_n, wp_istore, wp_istore_n, wp_lstore, wp_lstore_n, wp_astore, wp_astore_n, wp_iinc, wp_iadd, wp_isub, wp_imul, wp_iand, wp_ior, wp_ixor, wp_ishl, wp_ishr, wp_iushr, wp_idiv, wp_irem, wp_ineg, wp_ladd, wp_lsub, wp_lmul, wp_ldiv, wp_lrem, wp_lcmp, wp_i2l, wp_l2i, wp_pop, wp_dup, wp_dup2, wp_goto, wp_ifCond, wp_if_icmp, wp_ifnull, wp_ifnonnull, wp_tableswitch, wp_getfield, wp_putfield, wp_arraylength, wp_iaload, wp_baload, wp_laload, wp_aaload, wp_iastore, wp_bastore, wp_lastore, wp_aastore, wp_new, wp_newarray, wp_anewarray, wp_multianewarray, wp_invokevirtual, wp_invokespecial, wp_invokestatic, wp_ireturn, wp_lreturn, wp_areturn, wp_return_, wpL, ldI, ldJ, ldA, lk, sL, cL, i1, i2, l1, l2, r1, pA, p1, p2, ar, tyAt, rcv, rcr, oO, cmpI, Value.category, rf_some, rf_none, ak, kc, List.drop_succ_cons, List.drop_zero, List.drop_nil, List.take_succ_cons, List.take_zero, List.take_nil, List.head?_cons, List.reverse_cons, List.reverse_nil, List.nil_append, List.cons_append, List.length_cons, List.length_nil, Option.toList_some, Option.toList_none, hT_sI, hT_sJ, hT_sR, hI_sJ, hI_sR, hJ_sI, hJ_sR, hR_sI, hR_sJ, isO_sI, isO_sJ, isO_sR, iI_add, iI_sub, iI_mul, iI_neg, lv_args, Nat.reduceAdd, Nat.reduceEqDiff, Nat.reduceLeDiff, reduceIte, ite_true, ite_false, true_and, and_true, false_and, and_false, not_true, not_false_iff, or_true, true_or, false_or, or_false, imp_self, ne_eq, Classical.not_not, forall_const, true_implies, false_implies, if_pos, Nat.zero_add, Nat.add_zero, Nat.le_refl, Nat.reduceLT, iz00, iz01, iz10, iz11, ib0, ib1, ib01, reduceCtorEq, cq_X12_waysOf_165, cq_X12_waysOf_167]
        have q := ih (p + 1) (sI h' 135 (cntN (ptP L c) p) (A 32) (iI (p : Nat))) (by omega) (F.i rfl) (fun p' hp'' => by rw [hI_sI, if_neg (by omega)]; exact po' p' hp'') (fun k hk => ?_) (fun p' => by rw [hI_sI, if_neg (by omega)]; exact hl p')
        · rw [es, nc1, nc1] at q
          exact q
        · rw [hI_sI]
          by_cases z : k = cntN (ptP L c) p
          · rw [if_pos ⟨rfl, z, rfl⟩, z, rw_hit hp7 d']
          · rw [if_neg (fun y => z y.2.1)]; exact hr k (by omega)
  refine hG.1 0 _ _ _ _ ?_
  rw [bq_X12_waysOf_0]
  simp only [bk_X12_waysOf_0, wp_aconst_null, wp_iconst, wp_bipush, wp_sipush, wp_ldc, wp_ldc_w, wp_ldc2_w, wp_lconst, wp_iload, wp_iload_n, wp_lload, wp_lload_n, wp_aload, wp_aload_n, wp_istore, wp_istore_n, wp_lstore, wp_lstore_n, wp_astore, wp_astore_n, wp_iinc, wp_iadd, wp_isub, wp_imul, wp_iand, wp_ior, wp_ixor, wp_ishl, wp_ishr, wp_iushr, wp_idiv, wp_irem, wp_ineg, wp_ladd, wp_lsub, wp_lmul, wp_ldiv, wp_lrem, wp_lcmp, wp_i2l, wp_l2i, wp_pop, wp_dup, wp_dup2, wp_goto, wp_ifCond, wp_if_icmp, wp_ifnull, wp_ifnonnull, wp_tableswitch, wp_getfield, wp_putfield, wp_arraylength, wp_iaload, wp_baload, wp_laload, wp_aaload, wp_iastore, wp_bastore, wp_lastore, wp_aastore, wp_new, wp_newarray, wp_anewarray, wp_multianewarray, wp_invokevirtual, wp_invokespecial, wp_invokestatic, wp_ireturn, wp_lreturn, wp_areturn, wp_return_, wpL, ldI, ldJ, ldA, lk, sL, cL, i1, i2, l1, l2, r1, pA, p1, p2, ar, tyAt, rcv, rcr, oO, cmpI, Value.category, rf_some, rf_none, ak, kc, List.drop_succ_cons, List.drop_zero, List.drop_nil, List.take_succ_cons, List.take_zero, List.take_nil, List.head?_cons, List.reverse_cons, List.reverse_nil, List.nil_append, List.cons_append, List.length_cons, List.length_nil, Option.toList_some, Option.toList_none, hT_sI, hT_sJ, hT_sR, hI_sJ, hI_sR, hJ_sI, hJ_sR, hR_sI, hR_sJ, isO_sI, isO_sJ, isO_sR, iI_add, iI_sub, iI_mul, iI_neg, lv_args, Nat.reduceAdd, Nat.reduceEqDiff, Nat.reduceLeDiff, reduceIte, ite_true, ite_false, true_and, and_true, false_and, and_false, not_true, not_false_iff, or_true, true_or, false_or, or_false, imp_self, ne_eq, Classical.not_not, forall_const, true_implies, false_implies, if_pos, Nat.zero_add, Nat.add_zero, Nat.le_refl, Nat.reduceLT, iz00, iz01, iz10, iz11, ib0, ib1, ib01, reduceCtorEq, cq_X12_waysOf_165, cq_X12_waysOf_167]
  exact rows (st 0 0).toNat 0 h (by omega) Fm.rf po (fun k hk => absurd hk (Nat.not_lt_zero _)) (fun _ => rfl)
theorem val_X12_waysOf (g : GP) : Val g yX12_waysOf prog_14_method_56_code 9 (some .int) 3 180 0 0 sp_X12_waysOf := val_of (own := RX12) (ini := false) (on := 12) (rs := rs_X12_waysOf) (cl := cl_X12_waysOf) (rt := 1) (bl := bl_X12_waysOf) (plainFor_of_name (by decide +kernel)) rfl (rok_X12 _) ck_X12_waysOf (fun h => by cases h) rfl (List.forall_mem_cons.mpr ⟨caV (val_X12_firstIn g) (tb_in 1254 (by decide +kernel) (by decide +kernel)) (tb_in 1256 (by decide +kernel) (by decide +kernel)) (tb_in 47 (by decide +kernel) (by decide +kernel)) (tb_in 1257 (by decide +kernel) (by decide +kernel)) (tb_in 63 (by decide +kernel) (by decide +kernel)) ⟨by decide, by decide, by decide +kernel⟩ ⟨rfl, by decide⟩ ⟨by decide, by decide⟩, List.forall_mem_cons.mpr ⟨caV (val_X12_fits g) (tb_in 1258 (by decide +kernel) (by decide +kernel)) (tb_in 1260 (by decide +kernel) (by decide +kernel)) (tb_in 48 (by decide +kernel) (by decide +kernel)) (tb_in 1261 (by decide +kernel) (by decide +kernel)) (tb_in 63 (by decide +kernel) (by decide +kernel)) ⟨by decide, by decide, by decide +kernel⟩ ⟨rfl, by decide⟩ ⟨by decide, by decide⟩, (fun _ h => absurd h List.not_mem_nil)⟩⟩) pf_X12_waysOf

