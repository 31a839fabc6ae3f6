section STEP2
variable {g : GP} {p : Program} {e : Env} {R : Room} {s : State} {m : MethodId} {args : Array Value} {below : List Frame} {meth : Method} {c : Code} {nL : Nat} {Q' : State → Prop} {code : ByteArray} {own : String}
theorem st_free {H : Heap} {h : hp} (hs : hS g h H) (hK : KK g s) {a : Nat} (ha : H.size ≤ a) : hT h a = none := by
  cases e : hT h a with
  | none => rfl
  | some kn =>
    have := hs.lt hK.2.2.2.2.2.1 (c := kn.1) (n := kn.2) e
    omega
/-- a new cell, of any kind -/
theorem st_new {H H' : Heap} {h : hp} (hs : hS g h H) (hK : KK g s) {k n : Nat} (z : H'.size = H.size + 1) (o : ∀ q, q < H.size → H'[q]? = H[q]?) (hc : cellAt g (nw h H.size k n) H.size k n H') : hS g (nw h H.size k n) H' := by
  refine ⟨fun b c' n' hb => ?_, fun q hq => ?_, by rw [z]; have := hs.2.2; omega⟩
  · rw [hT_nw] at hb
    by_cases e : b = H.size
    · rw [if_pos e] at hb
      cases hb
      rw [e]
      exact hc
    · rw [if_neg e] at hb
      have hl := hs.lt hK.2.2.2.2.2.1 hb
      refine (hs.1 b c' n' hb).kept (o b hl) ?_ ?_ ?_ <;> intro k'
      · rw [hI_nw, if_neg e]
      · rw [hJ_nw, if_neg e]
      · rw [hR_nw, if_neg e]
  · rw [o q (by have := hs.2.2; omega)]
    exact hs.2.1 q hq
theorem outer_eq (c : ClassId) (N h0 : Nat) : Jvm.Free.Multi.outerC c N h0 N = arrV c N (fun j => va_rf (if j < N then some (h0 + 1 + j) else none)) := by
  have key : ∀ i : Nat, Jvm.Free.Multi.outerC c N h0 i = arrV c N (fun j => va_rf (if j < i then some (h0 + 1 + j) else none)) := by
    intro i
    induction i with
    | zero =>
      show ({ cls := c, slots := Array.replicate N .null, vm := .none } : Cell) = _
      rw [arrV_new]
      refine congrArg (arrV c N) (funext fun j => ?_)
      simp [va_rf]
    | succ i ih =>
      show (Jvm.Free.Multi.outerC c N h0 i).setSlot i (.ref (h0 + 1 + i)) = _
      rw [ih, arrV_store]
      refine congrArg (arrV c N) (funext fun j => ?_)
      by_cases ej : j = i
      · subst ej
        simp [updV, va_rf]
      · by_cases hj : j < i
        · simp [updV, ej, hj, Nat.lt_succ_of_lt hj]
        · simp [updV, ej, hj, show ¬ j < i + 1 by omega]
  exact key N
theorem dfl_cls {h : hp} {cc k a n : Nat} (hc : cc < 13) (hk : k < NC cc) : defaultValue (tyC cc k) = fvl (nw h a cc n) cc k a := by
  have ho := okty_all cc hc k hk
  unfold fvl fty
  rw [hI_nw, hR_nw, if_pos rfl, if_pos rfl]
  generalize tyC cc k = t at ho
  cases t <;> first | rfl | cases ho
theorem step_ok {ini : Bool} {on : Nat} {bd : Nat × Nat} {rs : Rs} {cl : Nat → Nat × Nat × Spec} {rt : Nat} {Q : Kt} (X : Cx g p R s m args meth c nL code own ini on bd) (hrs : RsOK own rs)
    (hcall : ∀ x ∈ rs.2.2.2.2.2, CaW g p e R s m args below meth c nL Q' code x.1 x.2.1 x.2.2.1 x.2.2.2.2 (cl x.2.2.2.1)) (hret : RetW g p e R s m args below meth c Q' code rt bd Q)
    {it : It} {pc : Nat} {L : Lc} {S : List Value} {h : hp} {u : Nat × Nat} (hd : decode code pc = .ok (it.1, it.2.1)) (hk : ckI rs ini on nL pc it = true)
    {K : Kn} (hG : ∀ L' S' h' u', K L' S' h' u' → GG g p e R s m args below meth c nL Q' (pc + it.2.1) L' S' h' u') (hw : wpI cl bd rt Q it pc L S h u K (GG g p e R s m args below meth c nL Q')) : GG g p e R s m args below meth c nL Q' pc L S h u := by
  obtain ⟨hx, hb, hml, hown, hts, hK, hini, hlocks, hRc, hRs⟩ := X
  obtain ⟨i, n, P, q, r, v⟩ := it
  cases i with
  | aconst_null =>
    rw [wp_aconst_null] at hw
    try dsimp only at hw
    have hn : n = 1 := by simpa [ckI] using hk
    subst hn
    exact fun H ls locs hh hlo hl => lv_null hx hb hd (hG _ _ _ _ hw H ls locs hh hlo hl)
  | iconst i =>
    rw [wp_iconst] at hw
    try dsimp only at hw
    have hn : n = 1 ∧ v = i := by simpa [ckI] using hk
    obtain ⟨rfl, rfl⟩ := hn
    exact fun H ls locs hh hlo hl => lv_iconst hx hb hd rfl (hG _ _ _ _ hw H ls locs hh hlo hl)
  | bipush i =>
    rw [wp_bipush] at hw
    try dsimp only at hw
    have hn : n = 2 ∧ (Int8.ofInt i).toInt32 = Int32.ofInt v := by simpa [ckI] using hk
    obtain ⟨rfl, hv⟩ := hn
    exact fun H ls locs hh hlo hl => lv_bipush hx hb hd hv (hG _ _ _ _ hw H ls locs hh hlo hl)
  | sipush i =>
    rw [wp_sipush] at hw
    try dsimp only at hw
    have hn : n = 3 ∧ (Int16.ofInt i).toInt32 = Int32.ofInt v := by simpa [ckI] using hk
    obtain ⟨rfl, hv⟩ := hn
    exact fun H ls locs hh hlo hl => lv_sipush hx hb hd hv (hG _ _ _ _ hw H ls locs hh hlo hl)
  | ldc i =>
    rw [wp_ldc] at hw
    try dsimp only at hw
    have hn : n = 2 ∧ (i, v) ∈ rs.2.1 := by simpa [ckI] using hk
    obtain ⟨rfl, hv⟩ := hn
    exact fun H ls locs hh hlo hl => lv_ldc hx hb hown (hts _ (hrs.2.1 _ hv)) hd (hG _ _ _ _ hw H ls locs hh hlo hl)
  | ldc_w i =>
    rw [wp_ldc_w] at hw
    try dsimp only at hw
    have hn : n = 3 ∧ (i, v) ∈ rs.2.1 := by simpa [ckI] using hk
    obtain ⟨rfl, hv⟩ := hn
    exact fun H ls locs hh hlo hl => lv_ldcw hx hb hown (hts _ (hrs.2.1 _ hv)) hd (hG _ _ _ _ hw H ls locs hh hlo hl)
  | ldc2_w i =>
    rw [wp_ldc2_w] at hw
    try dsimp only at hw
    have hn : n = 3 ∧ (i, v) ∈ rs.2.2.1 := by simpa [ckI] using hk
    obtain ⟨rfl, hv⟩ := hn
    exact fun H ls locs hh hlo hl => lv_ldc2 hx hb hown (hts _ (hrs.2.2.1 _ hv)) hd (hG _ _ _ _ hw H ls locs hh hlo hl)
  | lconst i =>
    rw [wp_lconst] at hw
    try dsimp only at hw
    have hn : n = 1 ∧ Int64.ofNat (i : Nat) = Int64.ofInt v := by simpa [ckI] using hk
    obtain ⟨rfl, hv⟩ := hn
    exact fun H ls locs hh hlo hl => lv_lconst hx hb hd hv (hG _ _ _ _ hw H ls locs hh hlo hl)
  | iload i =>
    rw [wp_iload] at hw
    try dsimp only at hw
    have hn : n = 2 ∧ P = i := by simpa [ckI] using hk
    obtain ⟨rfl, rfl⟩ := hn
    obtain ⟨x, hl0, hw⟩ := ldI_ex hw
    exact fun H ls locs hh hlo hl => lv_iload hx hb hd (hl.2.2 _ hl0) (hG _ _ _ _ hw H ls locs hh hlo hl)
  | iload_n i =>
    rw [wp_iload_n] at hw
    try dsimp only at hw
    have hn : n = 1 ∧ P = i.val := by simpa [ckI] using hk
    obtain ⟨rfl, hP⟩ := hn
    obtain ⟨x, hl0, hw⟩ := ldI_ex hw
    exact fun H ls locs hh hlo hl => lv_iload_n hx hb hd hP.symm (hl.2.2 _ hl0) (hG _ _ _ _ hw H ls locs hh hlo hl)
  | lload i =>
    rw [wp_lload] at hw
    try dsimp only at hw
    have hn : n = 2 ∧ P = i := by simpa [ckI] using hk
    obtain ⟨rfl, rfl⟩ := hn
    obtain ⟨x, hl0, hw⟩ := ldJ_ex hw
    exact fun H ls locs hh hlo hl => lv_lload hx hb hd (hl.2.2 _ hl0) (hG _ _ _ _ hw H ls locs hh hlo hl)
  | lload_n i =>
    rw [wp_lload_n] at hw
    try dsimp only at hw
    have hn : n = 1 ∧ P = i.val := by simpa [ckI] using hk
    obtain ⟨rfl, hP⟩ := hn
    obtain ⟨x, hl0, hw⟩ := ldJ_ex hw
    exact fun H ls locs hh hlo hl => lv_lload_n hx hb hd hP.symm (hl.2.2 _ hl0) (hG _ _ _ _ hw H ls locs hh hlo hl)
  | aload i =>
    rw [wp_aload] at hw
    try dsimp only at hw
    have hn : n = 2 ∧ P = i := by simpa [ckI] using hk
    obtain ⟨rfl, rfl⟩ := hn
    rcases ldA_ex hw with ⟨x, hl0, hw⟩ | ⟨hl0, hw⟩
    · exact fun H ls locs hh hlo hl => lv_aload hx hb hd (hl.2.2 _ hl0) (hG _ _ _ _ hw H ls locs hh hlo hl)
    · exact fun H ls locs hh hlo hl => lv_aloadN hx hb hd (hl.2.2 _ hl0) (hG _ _ _ _ hw H ls locs hh hlo hl)
  | aload_n i =>
    rw [wp_aload_n] at hw
    try dsimp only at hw
    have hn : n = 1 ∧ P = i.val := by simpa [ckI] using hk
    obtain ⟨rfl, hP⟩ := hn
    rcases ldA_ex hw with ⟨x, hl0, hw⟩ | ⟨hl0, hw⟩
    · exact fun H ls locs hh hlo hl => lv_aload_n hx hb hd hP.symm (hl.2.2 _ hl0) (hG _ _ _ _ hw H ls locs hh hlo hl)
    · exact fun H ls locs hh hlo hl => lv_aload_nN hx hb hd hP.symm (hl.2.2 _ hl0) (hG _ _ _ _ hw H ls locs hh hlo hl)
  | istore i =>
    rw [wp_istore] at hw
    try dsimp only at hw
    have hn : (n = 2 ∧ P = i) ∧ i < nL := by simpa [ckI] using hk
    obtain ⟨⟨rfl, rfl⟩, hi⟩ := hn
    obtain ⟨x, s', rfl, hw⟩ := i1_ex hw
    exact fun H ls locs hh hlo hl => lv_istore hx hb hd hl hi rfl (fun ls' hl' => hG _ _ _ _ hw H ls' locs hh hlo (sL_has1 hl'))
  | istore_n i =>
    rw [wp_istore_n] at hw
    try dsimp only at hw
    have hn : (n = 1 ∧ P = i.val) ∧ i.val < nL := by simpa [ckI] using hk
    obtain ⟨⟨rfl, hP⟩, hi⟩ := hn
    obtain ⟨x, s', rfl, hw⟩ := i1_ex hw
    exact fun H ls locs hh hlo hl => lv_istore_n hx hb hd hP.symm hl (by rw [hP]; exact hi) rfl (fun ls' hl' => hG _ _ _ _ hw H ls' locs hh hlo (sL_has1 hl'))
  | lstore i =>
    rw [wp_lstore] at hw
    try dsimp only at hw
    have hn : (n = 2 ∧ P = i) ∧ i + 1 < nL := by simpa [ckI] using hk
    obtain ⟨⟨rfl, rfl⟩, hi⟩ := hn
    obtain ⟨x, s', rfl, hw⟩ := l1_ex hw
    exact fun H ls locs hh hlo hl => lv_lstore hx hb hd hl hi rfl (fun ls' hl' => hG _ _ _ _ hw H ls' locs hh hlo (sL_has2 hl'))
  | lstore_n i =>
    rw [wp_lstore_n] at hw
    try dsimp only at hw
    have hn : (n = 1 ∧ P = i.val) ∧ i.val + 1 < nL := by simpa [ckI] using hk
    obtain ⟨⟨rfl, hP⟩, hi⟩ := hn
    obtain ⟨x, s', rfl, hw⟩ := l1_ex hw
    exact fun H ls locs hh hlo hl => lv_lstore_n hx hb hd hP.symm hl (by rw [hP]; exact hi) rfl (fun ls' hl' => hG _ _ _ _ hw H ls' locs hh hlo (sL_has2 hl'))
  | astore i =>
    rw [wp_astore] at hw
    try dsimp only at hw
    have hn : (n = 2 ∧ P = i) ∧ i < nL := by simpa [ckI] using hk
    obtain ⟨⟨rfl, rfl⟩, hi⟩ := hn
    rcases pA_ex hw with ⟨a, s', rfl, hw⟩ | ⟨s', rfl, hw⟩
    · exact fun H ls locs hh hlo hl => lv_astore hx hb hd hl hi rfl (fun ls' hl' => hG _ _ _ _ hw H ls' locs hh hlo (sL_has1 hl'))
    · exact fun H ls locs hh hlo hl => lv_astoreN hx hb hd hl hi rfl (fun ls' hl' => hG _ _ _ _ hw H ls' locs hh hlo (sL_has1 hl'))
  | astore_n i =>
    rw [wp_astore_n] at hw
    try dsimp only at hw
    have hn : (n = 1 ∧ P = i.val) ∧ i.val < nL := by simpa [ckI] using hk
    obtain ⟨⟨rfl, hP⟩, hi⟩ := hn
    rcases pA_ex hw with ⟨a, s', rfl, hw⟩ | ⟨s', rfl, hw⟩
    · exact fun H ls locs hh hlo hl => lv_astore_n hx hb hd hP.symm hl (by rw [hP]; exact hi) rfl (fun ls' hl' => hG _ _ _ _ hw H ls' locs hh hlo (sL_has1 hl'))
    · exact fun H ls locs hh hlo hl => lv_astore_nN hx hb hd hP.symm hl (by rw [hP]; exact hi) rfl (fun ls' hl' => hG _ _ _ _ hw H ls' locs hh hlo (sL_has1 hl'))
  | iinc i j =>
    rw [wp_iinc] at hw
    try dsimp only at hw
    have hn : ((n = 3 ∧ P = i) ∧ v = j) ∧ i < nL := by simpa [ckI] using hk
    obtain ⟨⟨⟨rfl, rfl⟩, rfl⟩, hi⟩ := hn
    obtain ⟨x, hl0, hw⟩ := ldI_ex hw
    intro H ls locs hh hlo hl
    obtain ⟨k0, hk0⟩ := List.getElem?_of_mem hl0
    exact lv_iinc hx hb hd hl hk0 rfl hi rfl (fun ls' hl' => hG _ _ _ _ hw H ls' locs hh hlo (sL_has1 hl'))
  | iadd =>
    rw [wp_iadd] at hw
    try dsimp only at hw
    have hn : n = 1 := by simpa [ckI] using hk
    subst hn
    obtain ⟨x, y, s', rfl, hw⟩ := i2_ex hw
    exact fun H ls locs hh hlo hl => lv_iadd hx hb hd (hG _ _ _ _ hw H ls locs hh hlo hl)
  | isub =>
    rw [wp_isub] at hw
    try dsimp only at hw
    have hn : n = 1 := by simpa [ckI] using hk
    subst hn
    obtain ⟨x, y, s', rfl, hw⟩ := i2_ex hw
    exact fun H ls locs hh hlo hl => lv_isub hx hb hd (hG _ _ _ _ hw H ls locs hh hlo hl)
  | imul =>
    rw [wp_imul] at hw
    try dsimp only at hw
    have hn : n = 1 := by simpa [ckI] using hk
    subst hn
    obtain ⟨x, y, s', rfl, hw⟩ := i2_ex hw
    exact fun H ls locs hh hlo hl => lv_imul hx hb hd (hG _ _ _ _ hw H ls locs hh hlo hl)
  | iand =>
    rw [wp_iand] at hw
    try dsimp only at hw
    have hn : n = 1 := by simpa [ckI] using hk
    subst hn
    obtain ⟨x, y, s', rfl, hw⟩ := i2_ex hw
    exact fun H ls locs hh hlo hl => lv_iand hx hb hd (hG _ _ _ _ hw H ls locs hh hlo hl)
  | ior =>
    rw [wp_ior] at hw
    try dsimp only at hw
    have hn : n = 1 := by simpa [ckI] using hk
    subst hn
    obtain ⟨x, y, s', rfl, hw⟩ := i2_ex hw
    exact fun H ls locs hh hlo hl => lv_ior hx hb hd (hG _ _ _ _ hw H ls locs hh hlo hl)
  | ixor =>
    rw [wp_ixor] at hw
    try dsimp only at hw
    have hn : n = 1 := by simpa [ckI] using hk
    subst hn
    obtain ⟨x, y, s', rfl, hw⟩ := i2_ex hw
    exact fun H ls locs hh hlo hl => lv_ixor hx hb hd (hG _ _ _ _ hw H ls locs hh hlo hl)
  | ishl =>
    rw [wp_ishl] at hw
    try dsimp only at hw
    have hn : n = 1 := by simpa [ckI] using hk
    subst hn
    obtain ⟨x, y, s', rfl, hw⟩ := i2_ex hw
    exact fun H ls locs hh hlo hl => lv_ishl hx hb hd (hG _ _ _ _ hw H ls locs hh hlo hl)
  | ishr =>
    rw [wp_ishr] at hw
    try dsimp only at hw
    have hn : n = 1 := by simpa [ckI] using hk
    subst hn
    obtain ⟨x, y, s', rfl, hw⟩ := i2_ex hw
    exact fun H ls locs hh hlo hl => lv_ishr hx hb hd (hG _ _ _ _ hw H ls locs hh hlo hl)
  | iushr =>
    rw [wp_iushr] at hw
    try dsimp only at hw
    have hn : n = 1 := by simpa [ckI] using hk
    subst hn
    obtain ⟨x, y, s', rfl, hw⟩ := i2_ex hw
    exact fun H ls locs hh hlo hl => lv_iushr hx hb hd rfl (hG _ _ _ _ hw H ls locs hh hlo hl)
  | idiv =>
    rw [wp_idiv] at hw
    try dsimp only at hw
    have hn : n = 1 := by simpa [ckI] using hk
    subst hn
    obtain ⟨x, y, s', rfl, h0, hw⟩ := i2_ex hw
    exact fun H ls locs hh hlo hl => lv_idiv hx hb hd h0 (hG _ _ _ _ hw H ls locs hh hlo hl)
  | irem =>
    rw [wp_irem] at hw
    try dsimp only at hw
    have hn : n = 1 := by simpa [ckI] using hk
    subst hn
    obtain ⟨x, y, s', rfl, h0, hw⟩ := i2_ex hw
    exact fun H ls locs hh hlo hl => lv_irem hx hb hd h0 (hG _ _ _ _ hw H ls locs hh hlo hl)
  | ineg =>
    rw [wp_ineg] at hw
    try dsimp only at hw
    have hn : n = 1 := by simpa [ckI] using hk
    subst hn
    obtain ⟨x, s', rfl, hw⟩ := i1_ex hw
    exact fun H ls locs hh hlo hl => lv_ineg hx hb hd (hG _ _ _ _ hw H ls locs hh hlo hl)
  | ladd =>
    rw [wp_ladd] at hw
    try dsimp only at hw
    have hn : n = 1 := by simpa [ckI] using hk
    subst hn
    obtain ⟨x, y, s', rfl, hw⟩ := l2_ex hw
    exact fun H ls locs hh hlo hl => lv_ladd hx hb hd (hG _ _ _ _ hw H ls locs hh hlo hl)
  | lsub =>
    rw [wp_lsub] at hw
    try dsimp only at hw
    have hn : n = 1 := by simpa [ckI] using hk
    subst hn
    obtain ⟨x, y, s', rfl, hw⟩ := l2_ex hw
    exact fun H ls locs hh hlo hl => lv_lsub hx hb hd (hG _ _ _ _ hw H ls locs hh hlo hl)
  | lmul =>
    rw [wp_lmul] at hw
    try dsimp only at hw
    have hn : n = 1 := by simpa [ckI] using hk
    subst hn
    obtain ⟨x, y, s', rfl, hw⟩ := l2_ex hw
    exact fun H ls locs hh hlo hl => lv_lmul hx hb hd (hG _ _ _ _ hw H ls locs hh hlo hl)
  | ldiv =>
    rw [wp_ldiv] at hw
    try dsimp only at hw
    have hn : n = 1 := by simpa [ckI] using hk
    subst hn
    obtain ⟨x, y, s', rfl, h0, hw⟩ := l2_ex hw
    exact fun H ls locs hh hlo hl => lv_ldiv hx hb hd h0 (hG _ _ _ _ hw H ls locs hh hlo hl)
  | lrem =>
    rw [wp_lrem] at hw
    try dsimp only at hw
    have hn : n = 1 := by simpa [ckI] using hk
    subst hn
    obtain ⟨x, y, s', rfl, h0, hw⟩ := l2_ex hw
    exact fun H ls locs hh hlo hl => lv_lrem hx hb hd h0 (hG _ _ _ _ hw H ls locs hh hlo hl)
  | lcmp =>
    rw [wp_lcmp] at hw
    try dsimp only at hw
    have hn : n = 1 := by simpa [ckI] using hk
    subst hn
    obtain ⟨x, y, s', rfl, hw⟩ := l2_ex hw
    exact fun H ls locs hh hlo hl => W.lcmp hx hb hd (hG _ _ _ _ hw H ls locs hh hlo hl)
  | i2l =>
    rw [wp_i2l] at hw
    try dsimp only at hw
    have hn : n = 1 := by simpa [ckI] using hk
    subst hn
    obtain ⟨x, s', rfl, hw⟩ := i1_ex hw
    exact fun H ls locs hh hlo hl => lv_i2l hx hb hd rfl (hG _ _ _ _ hw H ls locs hh hlo hl)
  | l2i =>
    rw [wp_l2i] at hw
    try dsimp only at hw
    have hn : n = 1 := by simpa [ckI] using hk
    subst hn
    obtain ⟨x, s', rfl, hw⟩ := l1_ex hw
    exact fun H ls locs hh hlo hl => lv_l2i hx hb hd rfl (hG _ _ _ _ hw H ls locs hh hlo hl)
  | pop =>
    rw [wp_pop] at hw
    try dsimp only at hw
    have hn : n = 1 := by simpa [ckI] using hk
    subst hn
    obtain ⟨w, s', rfl, h1, hw⟩ := p1_ex hw
    exact fun H ls locs hh hlo hl => lv_pop hx hb hd h1 (hG _ _ _ _ hw H ls locs hh hlo hl)
  | dup =>
    rw [wp_dup] at hw
    try dsimp only at hw
    have hn : n = 1 := by simpa [ckI] using hk
    subst hn
    obtain ⟨w, s', rfl, h1, hw⟩ := p1_ex hw
    exact fun H ls locs hh hlo hl => lv_dup hx hb hd h1 (hG _ _ _ _ hw H ls locs hh hlo hl)
  | dup2 =>
    rw [wp_dup2] at hw
    try dsimp only at hw
    have hn : n = 1 := by simpa [ckI] using hk
    subst hn
    obtain ⟨w, x, s', rfl, h1, h2, hw⟩ := p2_ex hw
    exact fun H ls locs hh hlo hl => lv_dup2_11 hx hb hd h1 h2 (hG _ _ _ _ hw H ls locs hh hlo hl)
  | goto o =>
    rw [wp_goto] at hw
    try dsimp only at hw
    have hn : n = 3 ∧ (pc : Int) + o = (P : Int) := by simpa [ckI] using hk
    obtain ⟨rfl, hP⟩ := hn
    exact fun H ls locs hh hlo hl => lv_goto hx hb hd hP (hw H ls locs hh hlo hl)
  | ifCond co o =>
    rw [wp_ifCond] at hw
    try dsimp only at hw
    have hn : n = 3 ∧ (pc : Int) + o = (P : Int) := by simpa [ckI] using hk
    obtain ⟨rfl, hP⟩ := hn
    obtain ⟨x, s', rfl, hw1, hw2⟩ := i1_ex hw
    intro H ls locs hh hlo hl
    cases co with
    | eq => exact lv_if_eq hx hb hd hP (fun q => hw1 q H ls locs hh hlo hl) (fun q => hG _ _ _ _ (hw2 q) H ls locs hh hlo hl)
    | ne => exact lv_if_ne hx hb hd hP (fun q => hw1 q H ls locs hh hlo hl) (fun q => hG _ _ _ _ (hw2 (fun z => z q)) H ls locs hh hlo hl)
    | lt => exact lv_if_lt hx hb hd hP (fun q => hw1 q H ls locs hh hlo hl) (fun q => hG _ _ _ _ (hw2 q) H ls locs hh hlo hl)
    | ge => exact lv_if_ge hx hb hd hP (fun q => hw1 q H ls locs hh hlo hl) (fun q => hG _ _ _ _ (hw2 q) H ls locs hh hlo hl)
    | gt => exact lv_if_gt hx hb hd hP (fun q => hw1 q H ls locs hh hlo hl) (fun q => hG _ _ _ _ (hw2 q) H ls locs hh hlo hl)
    | le => exact lv_if_le hx hb hd hP (fun q => hw1 q H ls locs hh hlo hl) (fun q => hG _ _ _ _ (hw2 q) H ls locs hh hlo hl)
  | if_icmp co o =>
    rw [wp_if_icmp] at hw
    try dsimp only at hw
    have hn : n = 3 ∧ (pc : Int) + o = (P : Int) := by simpa [ckI] using hk
    obtain ⟨rfl, hP⟩ := hn
    obtain ⟨x, y, s', rfl, hw1, hw2⟩ := i2_ex hw
    intro H ls locs hh hlo hl
    cases co with
    | eq => exact lv_icmp_eq hx hb hd hP (fun q => hw1 q H ls locs hh hlo hl) (fun q => hG _ _ _ _ (hw2 q) H ls locs hh hlo hl)
    | ne => exact lv_icmp_ne hx hb hd hP (fun q => hw1 q H ls locs hh hlo hl) (fun q => hG _ _ _ _ (hw2 (fun z => z q)) H ls locs hh hlo hl)
    | lt => exact lv_icmp_lt hx hb hd hP (fun q => hw1 q H ls locs hh hlo hl) (fun q => hG _ _ _ _ (hw2 q) H ls locs hh hlo hl)
    | ge => exact lv_icmp_ge hx hb hd hP (fun q => hw1 q H ls locs hh hlo hl) (fun q => hG _ _ _ _ (hw2 q) H ls locs hh hlo hl)
    | gt => exact lv_icmp_gt hx hb hd hP (fun q => hw1 q H ls locs hh hlo hl) (fun q => hG _ _ _ _ (hw2 q) H ls locs hh hlo hl)
    | le => exact lv_icmp_le hx hb hd hP (fun q => hw1 q H ls locs hh hlo hl) (fun q => hG _ _ _ _ (hw2 q) H ls locs hh hlo hl)
  | ifnull o =>
    rw [wp_ifnull] at hw
    try dsimp only at hw
    have hn : n = 3 ∧ (pc : Int) + o = (P : Int) := by simpa [ckI] using hk
    obtain ⟨rfl, hP⟩ := hn
    rcases pA_ex hw with ⟨a, s', rfl, -, hw⟩ | ⟨s', rfl, hw, -⟩
    · exact fun H ls locs hh hlo hl => lv_ifnull hx hb hd (hG _ _ _ _ (hw (fun z => by cases z)) H ls locs hh hlo hl)
    · exact fun H ls locs hh hlo hl => lv_ifnullN hx hb hd hP (hw rfl H ls locs hh hlo hl)
  | ifnonnull o =>
    rw [wp_ifnonnull] at hw
    try dsimp only at hw
    have hn : n = 3 ∧ (pc : Int) + o = (P : Int) := by simpa [ckI] using hk
    obtain ⟨rfl, hP⟩ := hn
    rcases pA_ex hw with ⟨a, s', rfl, hw, -⟩ | ⟨s', rfl, -, hw⟩
    · exact fun H ls locs hh hlo hl => lv_ifnonnull hx hb hd hP (hw (fun z => by cases z) H ls locs hh hlo hl)
    · exact fun H ls locs hh hlo hl => lv_ifnonnullN hx hb hd (hG _ _ _ _ (hw rfl) H ls locs hh hlo hl)
  | tableswitch d lo hi offs =>
    rw [wp_tableswitch] at hw
    try dsimp only at hw
    have hn : (0 ≤ (pc : Int) + d ∧ (∀ i (h : i < offs.size), 0 ≤ (pc : Int) + offs[i])) ∧ (offs.size : Int) = hi - lo + 1 := by simpa [ckI, Array.all_eq_true] using hk
    obtain ⟨⟨h0, h1⟩, h2⟩ := hn
    obtain ⟨x, s', rfl, hw1, hw2⟩ := i1_ex hw
    intro H ls locs hh hlo hl
    by_cases hr : x.toInt < lo ∨ hi < x.toInt
    · exact lv_tableOut (tgt := ((pc : Int) + d).toNat) hx hb hd hr (by omega) (hw1 hr H ls locs hh hlo hl)
    · have hlt : (x.toInt - lo).toNat < offs.size := by omega
      have hoff : offs[(x.toInt - lo).toNat]? = some offs[(x.toInt - lo).toNat] := Array.getElem?_eq_getElem hlt
      have h3 := h1 _ hlt
      exact lv_tableIn (tgt := ((pc : Int) + offs[(x.toInt - lo).toNat]).toNat) hx hb hd (by omega) (by omega) hoff (by omega) (hw2 _ _ hoff (by omega) H ls locs hh hlo hl)
  | getfield i =>
    rw [wp_getfield] at hw
    try dsimp only at hw
    have hn : (n = 3 ∧ (i, P, q) ∈ rs.1) ∧ r = fty P q := by simpa [ckI] using hk
    obtain ⟨⟨rfl, hf⟩, rfl⟩ := hn
    obtain ⟨f1, f2, f3⟩ := hrs.1 _ hf
    dsimp only at f1 f2 f3
    obtain ⟨a, s', rfl, ho, hw⟩ := r1_ex hw
    intro H ls locs hh hlo hl
    refine st_get hx hb hown hts hK hh f1 f2 f3 ho hd ?_
    unfold fvl
    by_cases h2 : fty P q = 2
    · rw [if_pos h2] at hw ⊢
      exact hG _ _ _ _ hw H ls locs hh hlo hl
    · rw [if_neg h2] at hw ⊢
      exact hG _ _ _ _ hw H ls locs hh hlo hl
  | putfield i =>
    rw [wp_putfield] at hw
    try dsimp only at hw
    have hn : ((n = 3 ∧ (i, P, q) ∈ rs.1) ∧ r = fty P q) ∧ ((TC P q).2.2.2 = false ∨ (ini = true ∧ P = on)) := by simpa [ckI] using hk
    obtain ⟨⟨⟨rfl, hf⟩, rfl⟩, hfin⟩ := hn
    obtain ⟨f1, f2, f3⟩ := hrs.1 _ hf
    dsimp only at f1 f2 f3
    have hfin : (TC P q).2.2.2 = false ∨ (meth.name = "<init>" ∧ own = RC P) := by
      rcases hfin with z | ⟨z1, z2⟩
      · exact Or.inl z
      · rw [z2]; exact Or.inr (hini z1)
    by_cases h2 : fty P q = 2
    · rw [if_pos h2] at hw
      have key : ∀ (w : Option Nat) (a : Nat) (s' : List Value), isO h a P → GG g p e R s m args below meth c nL Q' (pc + 3) L s' (sR h P q a w) u → (va_rf w = .null ∨ ∃ b, va_rf w = .ref b) → GG g p e R s m args below meth c nL Q' pc L (va_rf w :: .ref a :: s') h u := by
        intro w a s' ho hw hv H ls locs hh hlo hl
        refine st_put hx hb hown hts hK (h' := sR h P q a w) hh f1 f2 f3 ho hfin (ty_put f1 f2 (Or.inl ⟨h2, hv⟩)) (fun _ => rfl) (fun _ _ _ _ => rfl) (fun _ _ _ _ => rfl) (fun c' k' b hb' => by rw [hR_sR, if_neg (fun z => hb' z.2.2)]) (fun j => ?_) hlo hd (fun H' locs' h1 h3 => hw H' ls locs' h1 h3 hl)
        unfold fvl
        rw [hR_sR, hI_sR]
        by_cases ej : j = q
        · rw [if_pos ej, ej, if_pos h2, if_pos ⟨rfl, rfl, rfl⟩]
        · rw [if_neg ej, if_neg (show ¬ (P = P ∧ j = q ∧ a = a) from fun z => ej z.2.1)]
      rcases pA_ex hw with ⟨w, t, rfl, hw⟩ | ⟨t, rfl, hw⟩
      · obtain ⟨a, s', rfl, ho, hw⟩ := r1_ex hw
        exact key (some w) a s' ho (hG _ _ _ _ hw) (Or.inr ⟨w, rfl⟩)
      · obtain ⟨a, s', rfl, ho, hw⟩ := r1_ex hw
        exact key none a s' ho (hG _ _ _ _ hw) (Or.inl rfl)
    · rw [if_neg h2] at hw
      obtain ⟨x, t, rfl, hw⟩ := i1_ex hw
      obtain ⟨a, s', rfl, ho, h01, hw⟩ := r1_ex hw
      intro H ls locs hh hlo hl
      refine st_put hx hb hown hts hK (h' := sI h P q a x) hh f1 f2 f3 ho hfin (ty_put f1 f2 (Or.inr ⟨h2, x, rfl, h01⟩)) (fun _ => rfl) (fun c' k' b hb' => by rw [hI_sI, if_neg (fun z => hb' z.2.2)]) (fun _ _ _ _ => rfl) (fun _ _ _ _ => rfl) (fun j => ?_) hlo hd (fun H' locs' h1 h3 => hG _ _ _ _ hw H' ls locs' h1 h3 hl)
      unfold fvl
      rw [hR_sI, hI_sI]
      by_cases ej : j = q
      · rw [if_pos ej, ej, if_neg h2, if_pos ⟨rfl, rfl, rfl⟩]
      · rw [if_neg ej, if_neg (show ¬ (P = P ∧ j = q ∧ a = a) from fun z => ej z.2.1)]
  | arraylength =>
    rw [wp_arraylength] at hw
    try dsimp only at hw
    have hn : n = 1 := by simpa [ckI] using hk
    subst hn
    obtain ⟨a, s', rfl, hw⟩ := r1_ex hw
    obtain ⟨k, N, ht, h20, hN, hw⟩ := tyAt_ex hw
    intro H ls locs hh hlo hl
    rcases hh.1 a k N ht with ⟨z, -⟩ | ⟨rfl, rfl, rfl, -⟩ | ⟨h29, -, q⟩
    · rw [ak_13 z] at h20; omega
    · obtain ⟨scr, x1, x2, x3, x4, x5⟩ := hK.2.2.2.2.1
      exact W.alen (n := iI (gN g : Nat)) hx hb (by rw [hh.2.1 _ hK.2.2.2.2.2.1]; exact x1) x2 (by rw [x4, iI_nat]) rfl rfl hd (hG _ _ _ _ hw H ls locs hh hlo hl)
    · exact W.alen (n := iI (N : Nat)) hx hb q ((st_arr hK hh ht h29).2.2.1 N _) (by rw [arrV_size, iI_nat]) rfl rfl hd (hG _ _ _ _ hw H ls locs hh hlo hl)
  | iaload =>
    rw [wp_iaload] at hw
    try dsimp only at hw
    have hn : n = 1 := by simpa [ckI] using hk
    subst hn
    obtain ⟨k, N, a, j, s', rfl, ht, h20, hin, hw⟩ := ar_ex hw
    intro H ls locs hh hlo hl
    rcases h20 with h20 | rfl
    · obtain ⟨-, a1, a2, -⟩ := st_arr hK hh ht (by omega)
      rw [h20] at a2
      exact W.iald (v := .int (hI h k j.toNatClampNeg a)) hx hb a1 (by rw [h20]; exact a2 N _) (fun q => by cases q) (by rw [arrV_size]; exact hin) (by rw [arrV_read _ _ (st_lt hin)]; unfold avl; rw [if_neg (by omega), if_pos (by omega)]) rfl rfl hd (hG _ _ _ _ hw H ls locs hh hlo hl)
    · rcases hh.1 a 40 N ht with ⟨z, -⟩ | ⟨-, rfl, rfl, hxs⟩ | ⟨z, -⟩
      · omega
      · obtain ⟨scr, x1, x2, x3, x4, x5⟩ := hK.2.2.2.2.1
        exact W.iald (v := .int (hI h 40 j.toNatClampNeg (gb g))) hx hb (by rw [hh.2.1 _ hK.2.2.2.2.2.1]; exact x1) x2 x3 (by rw [x4]; exact hin) (by rw [x5 _ (st_lt hin), hxs _ (st_lt hin)]) rfl rfl hd (hG _ _ _ _ hw H ls locs hh hlo hl)
      · exact absurd z (by decide)
  | baload =>
    rw [wp_baload] at hw
    try dsimp only at hw
    have hn : n = 1 := by simpa [ckI] using hk
    subst hn
    obtain ⟨k, N, a, j, s', rfl, ht, h20, hin, hw⟩ := ar_ex hw
    intro H ls locs hh hlo hl
    obtain ⟨-, a1, a2, -⟩ := st_arr hK hh ht (by omega)
    rw [h20] at a2
    exact W.zald (v := .int (hI h k j.toNatClampNeg a)) hx hb a1 (by rw [h20]; exact a2 N _) (fun q => by cases q) (by rw [arrV_size]; exact hin) (by rw [arrV_read _ _ (st_lt hin)]; unfold avl; rw [if_neg (by omega), if_pos (by omega)]) rfl rfl hd (hG _ _ _ _ hw H ls locs hh hlo hl)
  | laload =>
    rw [wp_laload] at hw
    try dsimp only at hw
    have hn : n = 1 := by simpa [ckI] using hk
    subst hn
    obtain ⟨k, N, a, j, s', rfl, ht, h20, hin, hw⟩ := ar_ex hw
    intro H ls locs hh hlo hl
    obtain ⟨-, a1, a2, -⟩ := st_arr hK hh ht (by omega)
    rw [h20] at a2
    exact W.lald (v := .long (hJ h k j.toNatClampNeg a)) hx hb a1 (by rw [h20]; exact a2 N _) (fun q => by cases q) (by rw [arrV_size]; exact hin) (by rw [arrV_read _ _ (st_lt hin)]; unfold avl; rw [if_pos h20]) rfl rfl hd (hG _ _ _ _ hw H ls locs hh hlo hl)
  | aaload =>
    rw [wp_aaload] at hw
    try dsimp only at hw
    have hn : n = 1 := by simpa [ckI] using hk
    subst hn
    obtain ⟨k, N, a, j, s', rfl, ht, k1, hin, hw⟩ := ar_ex hw
    intro H ls locs hh hlo hl
    obtain ⟨-, a1, a2, -⟩ := st_arr hK hh ht (by omega)
    refine W.aald (v := va_rf (hR h k j.toNatClampNeg a)) (ty := aty (ak k)) hx hb a1 (a2 N _) ?_ (fun q => by cases q) (by rw [arrV_size]; exact hin) ?_ rfl rfl hd (hG _ _ _ _ hw H ls locs hh hlo hl)
    · have hk6 : ak k = 23 ∨ ak k = 24 ∨ ak k = 25 ∨ ak k = 26 ∨ ak k = 27 ∨ ak k = 28 := by have := ak_lt k; omega
      rcases hk6 with z | z | z | z | z | z <;> rw [z] <;> rfl
    · rw [arrV_read _ _ (st_lt hin)]
      unfold avl
      rw [if_neg (by omega), if_neg (by omega)]
  | iastore =>
    rw [wp_iastore] at hw
    try dsimp only at hw
    have hn : n = 1 := by simpa [ckI] using hk
    subst hn
    obtain ⟨x, t, rfl, hw⟩ := i1_ex hw
    obtain ⟨k, N, a, j, s', rfl, ht, h20, hin, hw⟩ := ar_ex hw
    intro H ls locs hh hlo hl
    obtain ⟨hba, a1, a2, -⟩ := st_arr hK hh ht (by omega)
    rw [h20] at a2
    refine W.iast hx hb a1 (by rw [h20]; exact a2 N _) (fun q => by cases q) (by rw [arrV_size]; exact hin) rfl rfl hd fun H' e1 e2 e3 => ?_
    obtain ⟨g1, g2⟩ := st_ast (h' := sI h k j.toNatClampNeg a x) hh ht (by omega) hba e1 e2 e3 (fun _ => rfl) (fun c' k' b hb' => by rw [hI_sI, if_neg (fun z => hb' z.2.2)]) (fun _ _ _ _ => rfl) (fun _ _ _ _ => rfl) (fun i => by
      unfold avl
      simp only [h20, hI_sI, hI_sJ, hJ_sI, hR_sI, hR_sJ]
      by_cases ei : i = j.toNatClampNeg
      · simp [ei]
      · simp [ei]) hlo
    exact hG _ _ _ _ hw H' ls _ g1 g2 hl
  | bastore =>
    rw [wp_bastore] at hw
    try dsimp only at hw
    have hn : n = 1 := by simpa [ckI] using hk
    subst hn
    obtain ⟨x, t, rfl, hw⟩ := i1_ex hw
    obtain ⟨k, N, a, j, s', rfl, ht, h20, hin, hx01, hw⟩ := ar_ex hw
    intro H ls locs hh hlo hl
    obtain ⟨hba, a1, a2, -⟩ := st_arr hK hh ht (by omega)
    rw [h20] at a2
    have hnx : narrow .boolean (.int x) = .int x := by rcases hx01 with rfl | rfl <;> decide
    refine W.zast hx hb a1 (by rw [h20]; exact a2 N _) (fun q => by cases q) (by rw [arrV_size]; exact hin) rfl rfl hd fun H' e1 e2 e3 => ?_
    rw [hnx] at e1
    obtain ⟨g1, g2⟩ := st_ast (h' := sI h k j.toNatClampNeg a x) hh ht (by omega) hba e1 e2 e3 (fun _ => rfl) (fun c' k' b hb' => by rw [hI_sI, if_neg (fun z => hb' z.2.2)]) (fun _ _ _ _ => rfl) (fun _ _ _ _ => rfl) (fun i => by
      unfold avl
      simp only [h20, hI_sI, hI_sJ, hJ_sI, hR_sI, hR_sJ]
      by_cases ei : i = j.toNatClampNeg
      · simp [ei]
      · simp [ei]) hlo
    exact hG _ _ _ _ hw H' ls _ g1 g2 hl
  | lastore =>
    rw [wp_lastore] at hw
    try dsimp only at hw
    have hn : n = 1 := by simpa [ckI] using hk
    subst hn
    obtain ⟨x, t, rfl, hw⟩ := l1_ex hw
    obtain ⟨k, N, a, j, s', rfl, ht, h20, hin, hw⟩ := ar_ex hw
    intro H ls locs hh hlo hl
    obtain ⟨hba, a1, a2, -⟩ := st_arr hK hh ht (by omega)
    rw [h20] at a2
    refine W.last hx hb a1 (by rw [h20]; exact a2 N _) (fun q => by cases q) (by rw [arrV_size]; exact hin) rfl rfl hd fun H' e1 e2 e3 => ?_
    obtain ⟨g1, g2⟩ := st_ast (h' := sJ h k j.toNatClampNeg a x) hh ht (by omega) hba e1 e2 e3 (fun _ => rfl) (fun _ _ _ _ => rfl) (fun c' k' b hb' => by rw [hJ_sJ, if_neg (fun z => hb' z.2.2)]) (fun _ _ _ _ => rfl) (fun i => by
      unfold avl
      simp only [h20, hJ_sJ, hI_sJ, hJ_sI, hR_sI, hR_sJ]
      by_cases ei : i = j.toNatClampNeg
      · simp [ei]
      · simp [ei]) hlo
    exact hG _ _ _ _ hw H' ls _ g1 g2 hl
  | aastore =>
    rw [wp_aastore] at hw
    try dsimp only at hw
    have hn : n = 1 := by simpa [ckI] using hk
    subst hn
    have fin : ∀ (w : Option Nat) (k N a : Nat) (j : Int32) (s' : List Value), hT h a = some (k, N) → 23 ≤ ak k → ak k < 28 → oO h w (kc (ak k)) → vp_in j N → GG g p e R s m args below meth c nL Q' (pc + 1) L s' (sR h k j.toNatClampNeg a w) u → GG g p e R s m args below meth c nL Q' pc L (va_rf w :: .int j :: .ref a :: s') h u := by
      intro w k N a j s' ht k1 k2 ho hin hw H ls locs hh hlo hl
      obtain ⟨hba, a1, a2, a3⟩ := st_arr hK hh ht (by omega)
      have kk : ∀ H' : Heap, H'[a]? = some ((arrV (gA g (ak k)) N (fun j => avl h k j a)).setSlot j.toNatClampNeg (va_rf w)) → H'.size = H.size → (∀ q, q ≠ a → H'[q]? = H[q]?) → W p (gL g) e R s m args below meth c H' (locs ++ [⟨a, j.toNatClampNeg⟩]) u.1 u.2 Q' (F0 m (pc + 1) ls s') := by
        intro H' e1 e2 e3
        obtain ⟨g1, g2⟩ := st_ast (h' := sR h k j.toNatClampNeg a w) hh ht (by omega) hba e1 e2 e3 (fun _ => rfl) (fun _ _ _ _ => rfl) (fun _ _ _ _ => rfl) (fun c' k' b hb' => by rw [hR_sR, if_neg (fun z => hb' z.2.2)]) (fun i => by
          unfold avl
          rw [if_neg (show ¬ ak k = 22 by omega), if_neg (show ¬ ak k < 23 by omega), if_neg (show ¬ ak k = 22 by omega), if_neg (show ¬ ak k < 23 by omega), hR_sR]
          by_cases ei : i = j.toNatClampNeg
          · rw [if_pos ei, if_pos ⟨rfl, ei, rfl⟩]
          · rw [if_neg ei, if_neg (fun z => ei z.2.1)]) hlo
        exact hw H' ls _ g1 g2 hl
      have hk6 : aty (ak k) = .object (RC (kc (ak k))) ∧ kc (ak k) < 13 := by
        have hk6 : ak k = 23 ∨ ak k = 24 ∨ ak k = 25 ∨ ak k = 26 ∨ ak k = 27 := by omega
        rcases hk6 with z | z | z | z | z <;> rw [z] <;> exact ⟨rfl, by decide⟩
      rw [hk6.1] at a2 a3
      cases w with
      | none => exact va_WaastN (C := RC (kc (ak k))) hx hb a1 (a2 N _) (fun h => by cases h) (by rw [arrV_size]; exact hin) rfl rfl hd kk
      | some w =>
        obtain ⟨nw', hnw⟩ := ho
        rcases hh.1 w (kc (ak k)) nw' hnw with ⟨-, -, -, cellV, g1, g2, g3, -⟩ | ⟨z, -⟩ | ⟨z, -⟩
        · have hcls := (hK.1.1 (kc (ak k)) _ (vwC_at hk6.2)).2
          obtain ⟨kA, comp, k1', k2', k3', -⟩ := a3
          have hcomp : comp = (gD g).1 (kc (ak k)) := Option.some.inj (k3'.symm.trans hcls.1)
          subst hcomp
          obtain ⟨kC, hkC, -⟩ := hcls.2
          exact W.aast hx hb a1 (fun q h => by cases h) (fun h => by cases h) k1' k2' rfl hkC ⟨fun q => hin (Or.inl q), by rw [arrV_size]; exact st_lt hin⟩ g1 (fun q h => by rw [g3] at h; cases h) (by rw [g2]; exact hkC) (by rw [g2]; exact va_assign hcls) rfl rfl hd kk
        · have := hk6.2; omega
        · rw [ak_13 hk6.2] at z; omega
    rcases pA_ex hw with ⟨w, t, rfl, hw⟩ | ⟨t, rfl, hw⟩
    · obtain ⟨k, N, a, j, s', rfl, ht, ⟨k1, k2⟩, ho, hin, hw⟩ := ar_ex hw
      exact fin (some w) k N a j s' ht k1 k2 ho hin (hG _ _ _ _ hw)
    · obtain ⟨k, N, a, j, s', rfl, ht, ⟨k1, k2⟩, ho, hin, hw⟩ := ar_ex hw
      exact fin none k N a j s' ht k1 k2 ho hin (hG _ _ _ _ hw)
  | new i =>
    rw [wp_new] at hw
    try dsimp only at hw
    have hn : (n = 3 ∧ (i, P) ∈ rs.2.2.2.1) ∧ q = NC P := by simpa [ckI] using hk
    obtain ⟨⟨rfl, hf⟩, rfl⟩ := hn
    obtain ⟨f1, f2⟩ := hrs.2.2.2.1 _ hf
    dsimp only at f1 f2
    obtain ⟨b1, b2, hw⟩ := hw
    intro H ls locs hh hlo hl
    have hKn := hK.1.1 P _ (vwC_at f1)
    refine W.newcK hx hb hown (hts _ f2) (hts _ (inC P f1).1) (hts _ (inC P f1).2) rfl hd (by rw [hRc]; exact b1) (by rw [hRs]; exact b2) hKn.2.1 rfl fun H1 kC hkC e1 z1 o1 => ?_
    exact hG _ _ _ _ (hw H.size (st_free hh hK (Nat.le_refl _))) H1 ls locs (st_new hh hK z1 o1 (Or.inl ⟨f1, rfl, hh.2.2, (u_born (tyC P) hts (uwC P f1) hKn hkC e1 (tyC_ok P f1)).to (fun k hk => dfl_cls f1 hk)⟩)) hlo hl
  | newarray t =>
    rw [wp_newarray] at hw
    try dsimp only at hw
    have hn : n = 2 ∧ ((t = .int ∧ ak P = 20) ∨ (t = .boolean ∧ ak P = 21) ∨ (t = .long ∧ ak P = 22)) := by
      cases t <;> simp [ckI] at hk <;> simp [hk]
    obtain ⟨rfl, hf⟩ := hn
    obtain ⟨x, s', rfl, N, rfl, hN, b1, b2, hw⟩ := i1_ex hw
    obtain ⟨n1, n2⟩ := iI_nat0 (n := N) (by omega)
    intro H ls locs hh hlo hl
    have key : ∀ (H1 : Heap) (cA : ClassId), H1[H.size]? = some (arrV cA N (fun _ => defaultValue (newarray.typeOf t))) → H1.size = H.size + 1 → (∀ q, q < H.size → H1[q]? = H[q]?) → s.vm.findClass ("[" ++ (newarray.typeOf t).toString) = some cA → W p (gL g) e R s m args below meth c H1 locs (u.1 + 1) (u.2 + N) Q' (F0 m (pc + 2) ls (.ref H.size :: s')) := by
      intro H1 cA e1 z1 o1 hNm
      have hP : 20 ≤ ak P ∧ ak P < 23 := by omega
      have hRA := (hK.1.2 (ak P - 20) _ (tysL_at (gA g) hP.1 (by omega))).2
      have hcA : cA = gA g (ak P) := by
        rcases hf with ⟨rfl, z⟩ | ⟨rfl, z⟩ | ⟨rfl, z⟩ <;> rw [z] at hRA ⊢ <;> exact Option.some.inj (hNm.symm.trans hRA)
      refine hG _ _ _ _ (hw H.size (st_free hh hK (Nat.le_refl _))) H1 ls locs (st_new hh hK z1 o1 (Or.inr (Or.inr ⟨hP.1, hh.2.2, ?_⟩))) hlo hl
      rw [e1, hcA]
      congr 2
      funext j
      unfold avl
      rw [hI_nw, hJ_nw, hR_nw, if_pos rfl, if_pos rfl, if_pos rfl]
      rcases hf with ⟨rfl, z⟩ | ⟨rfl, z⟩ | ⟨rfl, z⟩ <;> rw [z] <;> rfl
    refine va_newaK hx hb ?_ rfl hd rfl n1 n2 ?_ (by rw [hRc]; exact b1) (by rw [hRs]; exact b2) rfl fun H1 cA e1 z1 o1 hAr hNm => key H1 cA e1 z1 o1 hNm
    · rcases hf with ⟨rfl, -⟩ | ⟨rfl, -⟩ | ⟨rfl, -⟩
      · exact hts _ ac_int
      · exact hts _ ac_boolean
      · exact hts _ ac_long
    · have hcb : componentBytes (newarray.typeOf t) ≤ 8 := by
        rcases hf with ⟨rfl, -⟩ | ⟨rfl, -⟩ | ⟨rfl, -⟩ <;> decide
      have := Nat.mul_le_mul hN hcb
      omega
  | anewarray i =>
    rw [wp_anewarray] at hw
    try dsimp only at hw
    have hn : ((n = 3 ∧ (i, ak P) ∈ rs.2.2.2.2.1) ∧ 23 ≤ ak P) ∧ ak P < 28 := by simpa [ckI] using hk
    obtain ⟨⟨⟨rfl, hf⟩, p1⟩, p2⟩ := hn
    have f2 := hrs.2.2.2.2 _ hf
    dsimp only at f2
    obtain ⟨x, s', rfl, N, rfl, hN, b1, b2, hw⟩ := i1_ex hw
    obtain ⟨n1, n2⟩ := iI_nat0 (n := N) (by omega)
    have hk6 : aty (ak P) = .object (acn (ak P)) ∧ acn (ak P) ∈ aoL := by
      have hk6 : ak P = 23 ∨ ak P = 24 ∨ ak P = 25 ∨ ak P = 26 ∨ ak P = 27 := by omega
      rcases hk6 with z | z | z | z | z <;> rw [z] <;> exact ⟨rfl, by decide⟩
    intro H ls locs hh hlo hl
    refine W.anew (C := acn (ak P)) hx hb hown (hts _ f2) (va_AO.use (hK.2.1 _ hk6.2)) rfl hd rfl n1 (by rw [n2]; omega) (by rw [hRc]; exact b1) (by rw [n2, hRs]; exact b2) fun cA kA comp f1 f2 f3 f4 => ?_
    rw [n2]
    have hRA := (hK.1.2 (ak P - 20) _ (tysL_at (gA g) (by omega) (by omega))).2
    dsimp only at hRA
    rw [hk6.1] at hRA
    have hcA : cA = gA g (ak P) := by
      obtain ⟨_, _, -, -, -, x4⟩ := hRA
      exact Option.some.inj (f1.symm.trans x4)
    refine hG _ _ _ _ (hw H.size (st_free hh hK (Nat.le_refl _))) _ ls locs (st_new hh hK (by rw [Array.size_push]) (fun q hq => by rw [Array.getElem?_push, if_neg (Nat.ne_of_lt hq)]) (Or.inr (Or.inr ⟨by omega, hh.2.2, ?_⟩))) hlo hl
    rw [Array.getElem?_push_size, arrV_new, hcA]
    congr 2
    funext j
    unfold avl
    rw [if_neg (by omega), if_neg (by omega), hR_nw, if_pos rfl]
    rfl
  | multianewarray i d =>
    rw [wp_multianewarray] at hw
    try dsimp only at hw
    have hn : (((n = 4 ∧ d = 2) ∧ (i, 28) ∈ rs.2.2.2.2.1) ∧ ak P = 28) ∧ ak q = 20 := by simpa [ckI] using hk
    obtain ⟨⟨⟨⟨rfl, rfl⟩, hf⟩, kP⟩, kq⟩ := hn
    have f2 := hrs.2.2.2.2 _ hf
    obtain ⟨x, y, s', rfl, N, M, rfl, rfl, hN, hM, b1, b2, hw⟩ := i2_ex hw
    obtain ⟨n1, n2⟩ := iI_nat0 (n := N) (by omega)
    obtain ⟨m1, m2⟩ := iI_nat0 (n := M) (by omega)
    intro H ls locs hh hlo hl T hT' Xs
    have hcy : s.vm.findClass (FieldType.array .int).toString = some (gA g 20) := (hK.1.2 0 _ (tysL_at (gA g) (k := 20) (by omega) (by omega))).2
    have hcx : s.vm.findClass ("[" ++ (FieldType.array .int).toString) = some (gA g 28) := (hK.1.2 8 _ (tysL_at (gA g) (k := 28) (by omega) (by omega))).2
    obtain ⟨vm₁, cA, comp, -, fA, fC, hO, -, X', step⟩ := Xs.multianewarray2F hx hown (ty := .int) (hts _ f2) hK.2.2.1 (hts _ ac_int) (g := F0 m pc ls (.int (iI M) :: .int (iI N) :: s')) rfl (by rw [hb]; exact hd) rfl n1 m1 (by rw [n2]; omega) (by rw [m2]; show M * 4 ≤ _; omega) (by rw [m2]; omega) rfl rfl (by rw [n2, hRc]; exact b1) (by rw [n2, m2, hRs]; exact b2)
    have ec : some (gA g 20) = some comp := hcy.symm.trans fC
    cases ec
    have eA : some (gA g 28) = some cA := hcx.symm.trans fA
    cases eA
    rw [n2, m2] at X' step
    generalize hF : Jvm.Free.Multi.fill (T.setVm vm₁) (gA g 28) (gA g 20) N M (defaultValue .int) N = F at X' step
    have hTh : (T.setVm vm₁).heap = H := hT'
    obtain ⟨f1, f3, -, -⟩ := Jvm.Free.Multi.fill_facts (T.setVm vm₁) (gA g 28) (gA g 20) N M (defaultValue .int) N
    rw [hF, hTh] at f1 f3
    have hold : ∀ x : Nat, x < H.size → F.heap[x]? = H[x]? := fun x hx => by
      have := Jvm.Free.Multi.fill_old (T.setVm vm₁) (gA g 28) (gA g 20) N M (defaultValue .int) (a := x) (by rw [hTh]; exact hx) N
      rw [hF, hTh] at this
      exact this
    have hrow : ∀ j : Nat, j < N → F.heap[H.size + 1 + j]? = some (Jvm.Free.Multi.innerC (gA g 20) M (defaultValue .int)) := fun j hj => by
      have := Jvm.Free.Multi.fill_inner (T.setVm vm₁) (gA g 28) (gA g 20) N M (defaultValue .int) N j hj
      rw [hF, hTh] at this
      exact this
    have hs' : hS g (nw2 h H.size P q N M) F.heap := by
      refine ⟨fun b c' n' hb' => ?_, fun q hq => ?_, by rw [f1]; have := hh.2.2; omega⟩
      · rw [hT_nw2] at hb'
        by_cases e0 : b = H.size
        · rw [if_pos e0] at hb'
          cases hb'
          rw [e0]
          refine Or.inr (Or.inr ⟨by omega, hh.2.2, ?_⟩)
          rw [f3, outer_eq, kP]
          congr 2
          funext j
          unfold avl
          rw [if_neg (show ¬ ak P = 22 by omega), if_neg (show ¬ ak P < 23 by omega), hR_nw2, if_pos rfl]
        · rw [if_neg e0] at hb'
          by_cases e1 : H.size < b ∧ b ≤ H.size + N
          · rw [if_pos e1] at hb'
            cases hb'
            refine Or.inr (Or.inr ⟨by omega, by have := hh.2.2; omega, ?_⟩)
            have hr := hrow (b - (H.size + 1)) (by omega)
            rw [show H.size + 1 + (b - (H.size + 1)) = b by omega] at hr
            rw [hr]
            show some ({ cls := _, slots := Array.replicate M _, vm := .none } : Cell) = _
            rw [arrV_new, kq]
            congr 2
            funext j
            unfold avl
            rw [if_neg (by omega), if_pos (by omega), hI_nw2, if_pos ⟨by omega, e1.2⟩]
            rfl
          · rw [if_neg e1] at hb'
            have hlt := hh.lt hK.2.2.2.2.2.1 hb'
            refine (hh.1 b c' n' hb').kept (hold b hlt) ?_ ?_ ?_ <;> intro k'
            · rw [hI_nw2, if_neg (by omega)]
            · rw [hJ_nw2, if_neg (by omega)]
            · rw [hR_nw2, if_neg e0, if_neg e1]
      · rw [hold q (by have := hh.2.2; omega)]
        exact hh.2.1 q hq
    rw [Nat.add_assoc u.1 1 N, Nat.add_assoc u.2 N (N * M)] at X'
    obtain ⟨t, a1, b1'⟩ := hG _ _ _ _ (hw H.size (fun j _ => st_free hh hK (by omega))) F.heap ls locs hs' hlo hl F rfl X'
    refine ⟨t, step t ?_, b1'⟩
    have e9 : T.heap.size = H.size := by rw [hT']
    rw [e9]
    exact a1
  | invokevirtual i =>
    rw [wp_invokevirtual] at hw
    try dsimp only at hw
    have hn : n = 3 ∧ (0, i, P, q, r) ∈ rs.2.2.2.2.2 := by simpa [ckI] using hk
    obtain ⟨rfl, hf⟩ := hn
    obtain ⟨hr, h4, b1, b2, hw⟩ := hw
    obtain ⟨b, hb0, hob⟩ := rcv_ex hr
    obtain ⟨t1, t2, t3⟩ := take_rcv hb0
    rw [t3]
    exact hcall _ hf pc L _ _ h u _ hd t2 h4 (by rw [hRc]; exact b1) (by rw [hRs]; exact b2) (fun _ => ⟨b, _, t1, hob⟩) (fun z => by cases z) hw (fun _ _ z => hG _ _ _ _ z)
  | invokespecial i =>
    rw [wp_invokespecial] at hw
    try dsimp only at hw
    have hn : n = 3 ∧ (2, i, P, q, r) ∈ rs.2.2.2.2.2 := by simpa [ckI] using hk
    obtain ⟨rfl, hf⟩ := hn
    obtain ⟨hr, h4, b1, b2, hw⟩ := hw
    obtain ⟨b, hb0⟩ := rcr_ex hr
    obtain ⟨t1, t2, t3⟩ := take_rcv hb0
    rw [t3]
    exact hcall _ hf pc L _ _ h u _ hd t2 h4 (by rw [hRc]; exact b1) (by rw [hRs]; exact b2) (fun z => by cases z) (fun _ => ⟨b, _, t1⟩) hw (fun _ _ z => hG _ _ _ _ z)
  | invokestatic i =>
    rw [wp_invokestatic] at hw
    try dsimp only at hw
    have hn : n = 3 ∧ (1, i, P, q, r) ∈ rs.2.2.2.2.2 := by simpa [ckI] using hk
    obtain ⟨rfl, hf⟩ := hn
    obtain ⟨hr, h4, b1, b2, hw⟩ := hw
    have t3 : S = (S.take P).reverse.reverse ++ S.drop P := by rw [List.reverse_reverse, List.take_append_drop]
    rw [t3]
    exact hcall _ hf pc L _ _ h u _ hd (by rw [List.length_reverse, List.length_take]; show min P S.length = P; omega) h4 (by rw [hRc]; exact b1) (by rw [hRs]; exact b2) (fun z => by cases z) (fun z => by cases z) hw (fun _ _ z => hG _ _ _ _ z)
  | ireturn =>
    rw [wp_ireturn] at hw
    have hn : n = 1 := by simpa [ckI] using hk
    subst hn
    obtain ⟨x, s', rfl, rfl, b1, b2, h3, hw⟩ := i1_ex hw
    exact fun H ls locs hh hlo hl => hret pc ls H locs u (some (.int x)) _ h hd (Or.inl ⟨rfl, x, rfl, h3⟩) b1 b2 hw hh hlo
  | lreturn =>
    rw [wp_lreturn] at hw
    have hn : n = 1 := by simpa [ckI] using hk
    subst hn
    obtain ⟨x, s', rfl, rfl, h3, b1, b2, hw⟩ := l1_ex hw
    exact fun H ls locs hh hlo hl => hret pc ls H locs u (some (.long x)) _ h hd (Or.inr (Or.inl ⟨rfl, h3, x, rfl⟩)) b1 b2 hw hh hlo
  | areturn =>
    rw [wp_areturn] at hw
    have hn : n = 1 := by simpa [ckI] using hk
    subst hn
    rcases pA_ex hw with ⟨a, s', rfl, rfl, h3, b1, b2, hw⟩ | ⟨s', rfl, rfl, h3, b1, b2, hw⟩
    · exact fun H ls locs hh hlo hl => hret pc ls H locs u (some (.ref a)) _ h hd (Or.inr (Or.inr (Or.inl ⟨rfl, h3, Or.inl ⟨a, rfl⟩⟩))) b1 b2 hw hh hlo
    · exact fun H ls locs hh hlo hl => hret pc ls H locs u (some .null) _ h hd (Or.inr (Or.inr (Or.inl ⟨rfl, h3, Or.inr rfl⟩))) b1 b2 hw hh hlo
  | return_ =>
    rw [wp_return_] at hw
    have hn : n = 1 := by simpa [ckI] using hk
    subst hn
    obtain ⟨rfl, h3, b1, b2, hw⟩ := hw
    exact fun H ls locs hh hlo hl => hret pc ls H locs u none _ h hd (Or.inr (Or.inr (Or.inr ⟨rfl, h3, rfl⟩))) b1 b2 hw hh hlo
  | _ => exact hw.elim
theorem wpL_ok {ini : Bool} {on : Nat} {bd : Nat × Nat} {rs : Rs} {cl : Nat → Nat × Nat × Spec} {rt : Nat} {Q : Kt} (X : Cx g p R s m args meth c nL code own ini on bd) (hrs : RsOK own rs)
    (hcall : ∀ x ∈ rs.2.2.2.2.2, CaW g p e R s m args below meth c nL Q' code x.1 x.2.1 x.2.2.1 x.2.2.2.2 (cl x.2.2.2.1)) (hret : RetW g p e R s m args below meth c Q' code rt bd Q) :
    ∀ (l : List It) (pc : Nat) (L : Lc) (S : List Value) (h : hp) (u : Nat × Nat), ckL rs ini on nL code pc l = true → wpL cl bd rt Q l pc L S h u (GG g p e R s m args below meth c nL Q') → GG g p e R s m args below meth c nL Q' pc L S h u
  | [], pc, L, S, h, u, _, hw => hw
  | it :: r, pc, L, S, h, u, hk, hw => by
    unfold ckL at hk
    rw [Bool.and_eq_true, Bool.and_eq_true] at hk
    obtain ⟨⟨h1, h2⟩, h3⟩ := hk
    have hd : decode code pc = .ok (it.1, it.2.1) := by
      cases e1 : decode code pc with
      | error z => rw [e1] at h1; cases h1
      | ok y =>
        rw [e1] at h1
        obtain ⟨y1, y2⟩ := y
        simp only [Bool.and_eq_true, decide_eq_true_eq, beq_iff_eq] at h1
        rw [h1.1, h1.2]
    unfold wpL at hw
    exact step_ok X hrs hcall hret hd h2 (fun L' S' h' u' z => wpL_ok X hrs hcall hret r (pc + it.2.1) L' S' h' u' h3 z) hw
end STEP2
