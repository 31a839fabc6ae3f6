/-! labels: after as many rounds as there are pieces, the two of a pair have one label -/
theorem cntN_sub {P P' : Nat → Bool} (n : Nat) (h : ∀ i, i < n → P i = true → P' i = true) : cntN P n ≤ cntN P' n := by
  induction n with
  | zero => exact Nat.le_refl _
  | succ n ih =>
    rw [cntN_s, cntN_s]
    have a := ih (fun i hi => h i (by omega))
    have b := h n (by omega)
    by_cases c : P n = true
    · rw [if_pos c, if_pos (b c)]; omega
    · rw [if_neg c]; omega
theorem mnI_le (x y v : Int) : mnI x y ≤ v ↔ x ≤ v ∨ y ≤ v := by unfold mnI; split <;> omega
theorem lbP_at {st : St} {L : Nat → Int} {k : Nat} (h : pnS st k) (p : Nat) : lbP st L k p = if p = (st 19 k).toNat ∨ p = (st 18 k).toNat then mnI (L (st 18 k).toNat) (L (st 19 k).toNat) else L p := by
  unfold lbP
  rw [if_pos h]
  unfold upF
  by_cases c : p = (st 19 k).toNat
  · rw [if_pos c, if_pos (Or.inl c)]
  · rw [if_neg c]
    by_cases d : p = (st 18 k).toNat
    · rw [if_pos d, if_pos (Or.inr d)]
    · rw [if_neg d, if_neg (fun z => z.elim c d)]
theorem lbP_le (st : St) (L : Nat → Int) (k p : Nat) : lbP st L k p ≤ L p := by
  by_cases h : pnS st k
  · rw [lbP_at h]
    split
    · rename_i c
      rw [mnI_le]
      rcases c with c | c
      · rw [c]; exact Or.inr (Int.le_refl _)
      · rw [c]; exact Or.inl (Int.le_refl _)
    · exact Int.le_refl _
  · have : lbP st L k = L := if_neg h
    rw [this]; exact Int.le_refl _
theorem lbR_le (st : St) (L : Nat → Int) (p : Nat) : ∀ j k : Nat, lbR st (k + j) L p ≤ lbR st k L p := by
  intro j k
  induction j with
  | zero => exact Int.le_refl _
  | succ j ih => exact Int.le_trans (lbP_le st (lbR st (k + j) L) (k + j) p) ih
/-- the pieces labelled v or less are closed under pairs -/
def clD (st : St) (many : Nat) (L : Nat → Int) (v : Int) : Prop := ∀ k, k < many → pnS st k → (L (st 18 k).toNat ≤ v ↔ L (st 19 k).toNat ≤ v)
theorem lbP_U {st : St} {L : Nat → Int} {k : Nat} {v : Int} (h : pnS st k → (L (st 18 k).toNat ≤ v ↔ L (st 19 k).toNat ≤ v)) (p : Nat) : lbP st L k p ≤ v ↔ L p ≤ v := by
  by_cases c : pnS st k
  · have := h c
    rw [lbP_at c]
    split
    · rename_i d
      rw [mnI_le]
      rcases d with d | d
      · rw [d]; exact ⟨fun z => z.elim this.mp id, Or.inr⟩
      · rw [d]; exact ⟨fun z => z.elim id this.mpr, Or.inl⟩
    · exact Iff.rfl
  · have : lbP st L k = L := if_neg c
    rw [this]
theorem lbR_U {st : St} {L : Nat → Int} {many : Nat} {v : Int} (h : clD st many L v) : ∀ k, k ≤ many → ∀ p, lbR st k L p ≤ v ↔ L p ≤ v := by
  intro k
  induction k with
  | zero => exact fun _ _ => Iff.rfl
  | succ k ih =>
    intro hk p
    have e : lbR st (k + 1) L = lbP st (lbR st k L) k := rfl
    rw [e, lbP_U (fun c => by rw [ih (by omega), ih (by omega)]; exact h k (by omega) c)]
    exact ih (by omega) p
theorem cl_same {st : St} (w : WF st) {L : Nat → Int} {many : Nat} {v : Int} (hm : (many : Int) ≤ st 0 3) (h : ∀ p : Nat, (p : Int) < st 0 0 → lbR st many L p ≤ v → L p ≤ v) : clD st many L v := by
  intro k hk c
  obtain ⟨g1, g2, -, -, -⟩ := w.2.2.2.2.2.2.2.1 k (by omega)
  have s : ∀ j p : Nat, j ≤ many → (p : Int) < st 0 0 → (lbR st j L p ≤ v ↔ L p ≤ v) := by
    intro j p hj hp'
    have a1 := lbR_le st L p (many - j) j
    have a2 := lbR_le st L p j 0
    rw [show j + (many - j) = many by omega] at a1
    rw [Nat.zero_add] at a2
    have a3 := h p hp'
    have e0 : lbR st 0 L p = L p := rfl
    rw [e0] at a2
    exact ⟨fun z => a3 (by omega), fun z => by omega⟩
  have b1 := s (k + 1) (st 18 k).toNat (by omega) (by omega)
  have b2 := s (k + 1) (st 19 k).toNat (by omega) (by omega)
  have e : lbR st (k + 1) L = lbP st (lbR st k L) k := rfl
  rw [e, lbP_at c, if_pos (Or.inr rfl)] at b1
  rw [e, lbP_at c, if_pos (Or.inl rfl)] at b2
  rw [← b1, ← b2]
theorem cntN_eq {P P' : Nat → Bool} (n : Nat) (h : ∀ i, i < n → P i = true → P' i = true) (he : cntN P' n ≤ cntN P n) : ∀ i, i < n → P' i = true → P i = true := by
  induction n with
  | zero => intro i hi; exact absurd hi (Nat.not_lt_zero _)
  | succ n ih =>
    intro i hi hq
    have a := cntN_sub n (fun i hi => h i (by omega))
    rw [cntN_s, cntN_s] at he
    have b := h n (by omega)
    by_cases c : P n = true
    · rw [if_pos c, if_pos (b c)] at he
      by_cases z : i = n
      · rw [z]; exact c
      · exact ih (fun i hi => h i (by omega)) (by omega) i (by omega) hq
    · rw [if_neg c] at he
      by_cases d : P' n = true
      · rw [if_pos d] at he; omega
      · rw [if_neg d] at he
        by_cases z : i = n
        · rw [z] at hq; exact absurd hq d
        · exact ih (fun i hi => h i (by omega)) (by omega) i (by omega) hq
theorem lb_cl {st : St} (w : WF st) {many : Nat} (hm : (many : Int) ≤ st 0 3) {v : Nat} (hv : (v : Int) < st 0 0) : ∀ t : Nat, clD st many (lbN st many t) v ∨ t + 1 ≤ cntN (fun p => decide (lbN st many t p ≤ v)) (st 0 0).toNat := by
  intro t
  induction t with
  | zero =>
    right
    have a := cntN_mono (fun p => decide (lbN st many 0 p ≤ v)) (m := v + 1) (n := (st 0 0).toNat) (by omega)
    have e := cntN_s (fun p => decide (lbN st many 0 p ≤ v)) v
    have d : (decide (lbN st many 0 v ≤ v)) = true := by
      refine decide_eq_true ?_
      show lb0 st v ≤ v
      unfold lb0
      split <;> omega
    rw [if_pos d] at e
    omega
  | succ t ih =>
    have e : lbN st many (t + 1) = lbR st many (lbN st many t) := rfl
    rcases ih with ih | ih
    · left
      intro k hk c
      rw [e, lbR_U ih many (Nat.le_refl _), lbR_U ih many (Nat.le_refl _)]
      exact ih k hk c
    · have sub : ∀ i, i < (st 0 0).toNat → (fun p => decide (lbN st many t p ≤ v)) i = true → (fun p => decide (lbN st many (t + 1) p ≤ v)) i = true := by
        intro i _ h
        have h' : lbN st many t i ≤ v := of_decide_eq_true h
        refine decide_eq_true ?_
        have := lbR_le st (lbN st many t) i many 0
        rw [Nat.zero_add] at this
        rw [e]
        exact Int.le_trans this h'
      by_cases c : cntN (fun p => decide (lbN st many (t + 1) p ≤ v)) (st 0 0).toNat ≤ cntN (fun p => decide (lbN st many t p ≤ v)) (st 0 0).toNat
      · left
        have q := cntN_eq _ sub c
        have cl : clD st many (lbN st many t) v := cl_same w hm (fun p hp' h => of_decide_eq_true (q p (by omega) (decide_eq_true h)))
        intro k hk cc
        rw [e, lbR_U cl many (Nat.le_refl _), lbR_U cl many (Nat.le_refl _)]
        exact cl k hk cc
      · right; omega
theorem lbS_cl {st : St} (w : WF st) {many : Nat} (hm : (many : Int) ≤ st 0 3) {v : Nat} (hv : (v : Int) < st 0 0) : clD st many (lbS st many) v := by
  rcases lb_cl w hm hv (st 0 0).toNat with h | h
  · exact h
  · have := cntN_le (fun p => decide (lbN st many (st 0 0).toNat p ≤ v)) (st 0 0).toNat
    omega
/-- p and q are joined: what pairs cannot tell apart -/
def CNp (st : St) (many : Nat) (p q : Nat) : Prop := ∀ f : Nat → Prop, (∀ k, k < many → pnS st k → (f (st 18 k).toNat ↔ f (st 19 k).toNat)) → (f p ↔ f q)
def lbJ (st : St) (many : Nat) (L : Nat → Int) : Prop := ∀ p, st 1 p ≠ 0 → 0 ≤ L p ∧ L p ≤ p ∧ CNp st many p (L p).toNat
theorem lbP_J {st : St} {many k : Nat} (hk : k < many) {L : Nat → Int} (h : lbJ st many L) : lbJ st many (lbP st L k) := by
  by_cases c : pnS st k
  · intro p hp'
    have le := lbP_le st L k p
    obtain ⟨a1, a2, a3⟩ := h p hp'
    obtain ⟨b1, b2, b3⟩ := h _ c.1
    obtain ⟨d1, d2, d3⟩ := h _ c.2
    rw [lbP_at c] at le ⊢
    by_cases d : p = (st 19 k).toNat ∨ p = (st 18 k).toNat
    · rw [if_pos d] at le ⊢
      refine ⟨by unfold mnI; split <;> omega, by omega, fun f hf => ?_⟩
      have e := hf k hk c
      have b4 := b3 f hf
      have d4 := d3 f hf
      have e2 : f p ↔ f (st 18 k).toNat := by
        rcases d with d | d
        · rw [d]; exact e.symm
        · rw [d]
      unfold mnI
      split
      · exact e2.trans b4
      · exact e2.trans (e.trans d4)
    · rw [if_neg d]; exact ⟨a1, a2, a3⟩
  · have : lbP st L k = L := if_neg c
    rw [this]; exact h
theorem lbR_J {st : St} {many : Nat} {L : Nat → Int} (h : lbJ st many L) : ∀ k, k ≤ many → lbJ st many (lbR st k L) := by
  intro k
  induction k with
  | zero => exact fun _ => h
  | succ k ih => exact fun hk => lbP_J (by omega) (ih (by omega))
theorem lbN_J (st : St) (many : Nat) : ∀ t, lbJ st many (lbN st many t) := by
  intro t
  induction t with
  | zero =>
    intro p hp'
    have e : lbN st many 0 p = p := if_neg hp'
    rw [e]
    exact ⟨by omega, by omega, fun f _ => Iff.rfl⟩
  | succ t ih => exact lbR_J ih many (Nat.le_refl _)
/-- what is known of the labels in the end -/
theorem lbS_pair {st : St} (w : WF st) {many : Nat} (hm : (many : Int) ≤ st 0 3) {k : Nat} (hk : k < many) (c : pnS st k) : lbS st many (st 18 k).toNat = lbS st many (st 19 k).toNat := by
  obtain ⟨g1, g2, -, -, -⟩ := w.2.2.2.2.2.2.2.1 k (by omega)
  obtain ⟨a1, a2, -⟩ := lbN_J st many (st 0 0).toNat _ c.1
  obtain ⟨b1, b2, -⟩ := lbN_J st many (st 0 0).toNat _ c.2
  have q1 := lbS_cl w hm (v := (lbS st many (st 18 k).toNat).toNat) (by unfold lbS; omega) k hk c
  have q2 := lbS_cl w hm (v := (lbS st many (st 19 k).toNat).toNat) (by unfold lbS; omega) k hk c
  unfold lbS at *
  omega
theorem lbS_in {st : St} {many : Nat} {p : Nat} (hp' : st 1 p ≠ 0) : 0 ≤ lbS st many p ∧ lbS st many p ≤ p := by
  obtain ⟨a1, a2, -⟩ := lbN_J st many (st 0 0).toNat p hp'
  exact ⟨a1, a2⟩
theorem lbS_out {st : St} {many : Nat} {p : Nat} (hp' : st 1 p = 0) : lbS st many p = -900009 := lbN_no hp' _
theorem lbS_rep {st : St} (w : WF st) {many : Nat} (hm : (many : Int) ≤ st 0 3) {p : Nat} (hp' : st 1 p ≠ 0) : lbS st many (lbS st many p).toNat = lbS st many p ∧ st 1 (lbS st many p).toNat ≠ 0 := by
  obtain ⟨a1, a2, a3⟩ := lbN_J st many (st 0 0).toNat p hp'
  exact ⟨(a3 (fun q => lbS st many q = lbS st many p) (fun k hk c => by rw [lbS_pair w hm hk c])).mp rfl, (a3 (fun q => st 1 q ≠ 0) (fun k _ c => ⟨fun _ => c.2, fun _ => c.1⟩)).mp hp'⟩
