/-! swaps: the class's table of sets = the reference's trial of all orders -/
theorem lsA_st (st : St) (N : Nat) : ∀ (j k x : Nat), 2 ^ N ≤ x + k + 1 → lsA st N (k + j) x = lsA st N k x := by
  intro j
  induction j with
  | zero => exact fun _ _ _ => rfl
  | succ j ih =>
    intro k x h
    have e : lsA st N (k + (j + 1)) x = if x + (k + j + 2) = 2 ^ N then cosW st (lsA st N (k + j)) x (fbS st (lsA st N (k + j)) x N).1 else lsA st N (k + j) x := rfl
    rw [e, if_neg (by omega)]
    exact ih k x h
theorem fbS_c {st : St} {L L' : Nat → Int} {m : Nat} : ∀ n : Nat, (∀ a, a < n → m.testBit a = false → L (m ||| 2 ^ a) = L' (m ||| 2 ^ a)) → fbS st L m n = fbS st L' m n := by
  intro n
  induction n with
  | zero => exact fun _ => rfl
  | succ n ih =>
    intro h
    have e : ∀ K : Nat → Int, fbS st K m (n + 1) = if m.testBit n = false ∧ cosW st K m n < (fbS st K m n).2 then (n, cosW st K m n) else fbS st K m n := fun _ => rfl
    rw [e, e, ih (fun a ha => h a (by omega))]
    by_cases c : m.testBit n = false
    · have ec : cosW st L m n = cosW st L' m n := by unfold cosW; rw [h n (by omega) c]
      rw [ec]
    · rw [if_neg (fun z => c z.1), if_neg (fun z => c z.1)]
theorem ls_fix {st : St} (w : WF st) {m : Nat} (hm : m + 1 < 2 ^ nIn st) : lsF st m = (fbS st (lsF st) m (nIn st)).2 := by
  have hN := nIn_le w
  have h2 := ms_2 _ hN
  have hp' := ms_p _ hN m (by omega) hm
  obtain ⟨k, hk⟩ : ∃ k, m + (k + 2) = 2 ^ nIn st := ⟨2 ^ nIn st - m - 2, by omega⟩
  have hfr := ms_f _ hN m (by omega) (by omega) hp'
  have ea : ∀ x, m < x → lsA st (nIn st) k x = lsF st x := by
    intro x hx
    have q := lsA_st st (nIn st) (2 ^ nIn st - 1 - k) k x (by omega)
    rw [show k + (2 ^ nIn st - 1 - k) = 2 ^ nIn st - 1 by omega] at q
    exact q.symm
  have e1 : lsF st m = lsA st (nIn st) (k + 1) m := by
    have q := lsA_st st (nIn st) (2 ^ nIn st - 1 - (k + 1)) (k + 1) m (by omega)
    rw [show k + 1 + (2 ^ nIn st - 1 - (k + 1)) = 2 ^ nIn st - 1 by omega] at q
    exact q
  have e2 : lsA st (nIn st) (k + 1) m = cosW st (lsA st (nIn st) k) m (fbS st (lsA st (nIn st) k) m (nIn st)).1 := if_pos hk
  have ec : fbS st (lsA st (nIn st) k) m (nIn st) = fbS st (lsF st) m (nIn st) := fbS_c _ (fun a ha hf => ea _ (ms_g m (by omega) a (by omega) hf))
  obtain ⟨f1, f2, f3⟩ := fbS_free w (lsF_B w) (by omega) (m := m) (nIn st) hfr
  rw [e1, e2, ec, f3]
  unfold cosW
  rw [ea _ (ms_g m (by omega) _ (by omega) f2)]
theorem ms_full : ∀ N : Nat, N < 8 → ∀ m : Nat, m < 128 → m < 2 ^ N → popc m = N → m + 1 = 2 ^ N := by decide +kernel
theorem ms_full0 : ∀ N : Nat, N < 8 → popc (2 ^ N - 1) = N := by decide +kernel
theorem ls_full (st : St) {m : Nat} (hm : m + 1 = 2 ^ nIn st) : lsF st m = 0 := by
  have q := lsA_st st (nIn st) (2 ^ nIn st - 1) 0 m (by omega)
  rw [Nat.zero_add] at q
  exact q
/-- the holes that the class's table gives from the set m on -/
def ptH (st : St) : Nat → Nat → Nat → (Nat → Nat) → (Nat → Nat)
  | 0, _, _, hs => hs
  | r + 1, a, m, hs => ptH st r (a + 1) (m ||| 2 ^ (fbS st (lsF st) m (nIn st)).1) (upN hs a (fbS st (lsF st) m (nIn st)).1)
theorem SU_ls {st : St} (w : WF st) : ∀ (r a m : Nat) (sum : Int) (hs : Nat → Nat) (b : SB), a + r = nIn st → m < 2 ^ nIn st → popc m = a → 0 ≤ sum → SU st (nIn st) r a m sum hs b = if b.1 < 0 ∨ sum + lsF st m < b.1 then (sum + lsF st m, ptH st r a m hs) else b := by
  have hN := nIn_le w
  have h2 := ms_2 _ hN
  intro r
  induction r with
  | zero =>
    intro a m sum hs b ha hm hpc hs0
    rw [ls_full st (ms_full _ hN m (by omega) hm (by omega)), Int.add_zero]
    rfl
  | succ r ih =>
    intro a m sum hs b ha hm hpc hs0
    have e0 : SU st (nIn st) (r + 1) a m sum hs b = lpU (swF st (nIn st) r a m sum hs) (nIn st) 0 b := rfl
    have hm1 : m + 1 < 2 ^ nIn st := by
      by_cases c : m + 1 < 2 ^ nIn st
      · exact c
      · exfalso
        have z := ms_full0 _ hN
        rw [show 2 ^ nIn st - 1 = m by omega] at z
        omega
    have key : ∀ (N k : Nat) (b' : SB), k + N = nIn st → b' = (if (fbS st (lsF st) m k).2 < 1048576 ∧ (b.1 < 0 ∨ sum + (fbS st (lsF st) m k).2 < b.1) then (sum + (fbS st (lsF st) m k).2, ptH st r (a + 1) (m ||| 2 ^ (fbS st (lsF st) m k).1) (upN hs a (fbS st (lsF st) m k).1)) else b) →
        lpU (swF st (nIn st) r a m sum hs) N k b' = (if (fbS st (lsF st) m (nIn st)).2 < 1048576 ∧ (b.1 < 0 ∨ sum + (fbS st (lsF st) m (nIn st)).2 < b.1) then (sum + (fbS st (lsF st) m (nIn st)).2, ptH st r (a + 1) (m ||| 2 ^ (fbS st (lsF st) m (nIn st)).1) (upN hs a (fbS st (lsF st) m (nIn st)).1)) else b) := by
      intro N
      induction N with
      | zero =>
        intro k b' hk hb
        rw [show k = nIn st by omega] at hb
        exact hb
      | succ N ik =>
        intro k b' hk hb
        have e1 : lpU (swF st (nIn st) r a m sum hs) (N + 1) k b' = lpU (swF st (nIn st) r a m sum hs) N (k + 1) (swF st (nIn st) r a m sum hs k b') := rfl
        rw [e1]
        refine ik (k + 1) _ (by omega) ?_
        have e2 : fbS st (lsF st) m (k + 1) = if m.testBit k = false ∧ cosW st (lsF st) m k < (fbS st (lsF st) m k).2 then (k, cosW st (lsF st) m k) else fbS st (lsF st) m k := rfl
        rw [e2]
        have hf := fbS_rg w (lsF_B w) m k
        generalize fbS st (lsF st) m k = f at hb hf ⊢
        have cr := cosW_rg w (lsF_B w) m k
        by_cases c : m.testBit k = true
        · have ec : swF st (nIn st) r a m sum hs k b' = b' := if_pos c
          have eF : (if m.testBit k = false ∧ cosW st (lsF st) m k < f.2 then (k, cosW st (lsF st) m k) else f) = f := if_neg (fun z => by rw [c] at z; exact Bool.noConfusion z.1)
          rw [ec, eF]
          exact hb
        · have cf : m.testBit k = false := Bool.eq_false_iff.mpr c
          have ec : swF st (nIn st) r a m sum hs k b' = SU st (nIn st) r (a + 1) (m ||| 2 ^ k) (sum + csS st (selS st a) (selS st k)) (upN hs a k) b' := if_neg c
          have cs0 := csS_rg w (selS st a) (selS st k)
          rw [ec, ih (a + 1) (m ||| 2 ^ k) _ _ b' (by omega) (ms_l _ hN m (by omega) k (by omega) hm) (by rw [ms_s m (by omega) k (by omega) cf, hpc]) (by omega)]
          have ew : sum + csS st (selS st a) (selS st k) + lsF st (m ||| 2 ^ k) = sum + cosW st (lsF st) m k := by unfold cosW; rw [hpc]; omega
          rw [ew]
          generalize cosW st (lsF st) m k = C at cr ⊢
          by_cases d : f.2 < 1048576 ∧ (b.1 < 0 ∨ sum + f.2 < b.1)
          · rw [if_pos d] at hb
            have hb1 : b'.1 = sum + f.2 := by rw [hb]
            by_cases e : C < f.2
            · have eF : (if m.testBit k = false ∧ C < f.2 then (k, C) else f) = (k, C) := if_pos ⟨cf, e⟩
              rw [eF, if_pos (by omega)]
              dsimp only
              rw [if_pos (by omega)]
            · have eF : (if m.testBit k = false ∧ C < f.2 then (k, C) else f) = f := if_neg (fun z => e z.2)
              rw [eF, if_neg (by omega), if_pos d]
              exact hb
          · rw [if_neg d] at hb
            rw [hb]
            by_cases e : C < f.2
            · have eF : (if m.testBit k = false ∧ C < f.2 then (k, C) else f) = (k, C) := if_pos ⟨cf, e⟩
              rw [eF]
              dsimp only
              by_cases g : b.1 < 0 ∨ sum + C < b.1
              · rw [if_pos g, if_pos ⟨by omega, g⟩]
              · rw [if_neg g, if_neg (fun z => g z.2)]
            · have eF : (if m.testBit k = false ∧ C < f.2 then (k, C) else f) = f := if_neg (fun z => e z.2)
              rw [eF, if_neg (by omega), if_neg d]
    have hz : fbS st (lsF st) m 0 = (0, 1048576) := rfl
    rw [e0, key (nIn st) 0 b (by omega) (by rw [hz, if_neg (fun z => absurd z.1 (by decide))])]
    have hfr := ms_f _ hN m (by omega) hm (by omega)
    obtain ⟨f1, f2, f3⟩ := fbS_free w (lsF_B w) (by omega) (m := m) (nIn st) hfr
    have cr := cosW_rg w (lsF_B w) m (fbS st (lsF st) m (nIn st)).1
    rw [ls_fix w hm1]
    by_cases c : b.1 < 0 ∨ sum + (fbS st (lsF st) m (nIn st)).2 < b.1
    · rw [if_pos ⟨by omega, c⟩, if_pos c]
      rfl
    · rw [if_neg (fun z => c z.2), if_neg c]
theorem ptH_sw {st : St} : ∀ (r a : Nat) (hs : Nat → Nat) (k : Nat), k < a + r → ptH st r a (swT st a) hs k = if k < a then hs k else swH st k := by
  intro r
  induction r with
  | zero => intro a hs k hk; rw [if_pos (by omega)]; rfl
  | succ r ih =>
    intro a hs k hk
    have e : ptH st (r + 1) a (swT st a) hs = ptH st r (a + 1) (swT st (a + 1)) (upN hs a (swH st a)) := rfl
    rw [e, ih (a + 1) _ k (by omega)]
    unfold upN
    by_cases c : k < a
    · rw [if_pos (by omega), if_neg (by omega), if_pos c]
    · rw [if_neg c]
      by_cases d : k = a
      · rw [if_pos (by omega), if_pos d, d]
      · rw [if_neg (by omega)]
theorem swM_eq {st : St} (w : WF st) : swM st = (lsF st 0, ptH st (nIn st) 0 0 (fun _ => 0)) := by
  have h2 := ms_2 _ (nIn_le w)
  unfold swM
  rw [SU_ls w (nIn st) 0 0 0 _ _ (by omega) (by omega) (by decide +kernel) (by omega), if_pos (Or.inl (by decide)), Int.zero_add]
theorem eq_swap {st : St} (w : WF st) : lsF st 0 = rm_swap st := by
  unfold rm_swap
  by_cases c : nIn st = 0
  · rw [if_pos c]
    exact ls_full st (by rw [c])
  · rw [if_neg c, swM_eq w]
theorem eq_hole {st : St} (w : WF st) (p : Int) : rx_hole st p = rm_hole st p := by
  unfold rx_hole rm_hole
  by_cases c : isP st p
  · rw [if_pos c, if_pos c]
    by_cases d : st 1 p.toNat ≠ 0
    · rw [if_pos d, if_pos d, swM_eq w]
      have hk := cnt_in (p := p.toNat) (by have := c.1; have := c.2; omega) d
      have q := ptH_sw (st := st) (nIn st) 0 (fun _ => 0) (cntN (inP st) p.toNat) (by omega)
      rw [if_neg (by omega)] at q
      show _ = ((selS st (ptH st (nIn st) 0 0 (fun _ => 0) (cntN (inP st) p.toNat)) : Nat) : Int)
      rw [show ptH st (nIn st) 0 0 (fun _ => 0) (cntN (inP st) p.toNat) = swH st (cntN (inP st) p.toNat) from q]
    · rw [if_neg d, if_neg d]
  · rw [if_neg c, if_neg c]
