/-! stars: all lifts at once = the product over the parts -/
set_option linter.unusedSectionVars false
def solT (S : Nat → Bool) (P : (Nat → Int) → Bool) : Nat → Nat → (Nat → Int) → List (Nat → Int)
  | 0, _, v => if P v then [v] else []
  | r + 1, k, v => if S k = true then lx (fun x => solT S P r (k + 1) (upF v k x)) 13 (-6) else solT S P r (k + 1) v
theorem solT_y {S : Nat → Bool} {P : (Nat → Int) → Bool} {r k : Nat} {v : Nat → Int} (h : S k = true) : solT S P (r + 1) k v = lx (fun x => solT S P r (k + 1) (upF v k x)) 13 (-6) := if_pos h
theorem solT_n {S : Nat → Bool} {P : (Nat → Int) → Bool} {r k : Nat} {v : Nat → Int} (h : ¬ S k = true) : solT S P (r + 1) k v = solT S P r (k + 1) v := if_neg h
theorem lx_c' {β : Type} {g g' : Int → List β} (n : Nat) (x : Int) (h : ∀ y, g y = g' y) : lx g n x = lx g' n x := by rw [show g = g' from funext h]
theorem solL_T {P : (Nat → Int) → Bool} {S : Nat → Bool} : ∀ (r k : Nat) (v : Nat → Int), (∀ j, j < k + r → S j = true) → solL P r k v = solT S P r k v := by
  intro r
  induction r with
  | zero => exact fun _ _ _ => rfl
  | succ r ih =>
    intro k v h
    rw [solT_y (h k (by omega))]
    exact lx_c' _ _ (fun x => ih (k + 1) _ (fun j hj => h j (by omega)))
theorem lx_len {β : Type} {g g' : Int → List β} {c : Nat} : ∀ (n : Nat) (x : Int), (∀ y, (g y).length = (g' y).length * c) → (lx g n x).length = (lx g' n x).length * c := by
  intro n
  induction n with
  | zero => intro x _; show 0 = 0 * c; omega
  | succ n ih =>
    intro x h
    rw [lx_s, lx_s, List.length_append, List.length_append, h x, ih (x + 1) h, Nat.add_mul]
/-- same first, as far as S sees -/
def hr (S : Nat → Bool) (l l' : List (Nat → Int)) : Prop := (l = [] ↔ l' = []) ∧ ∀ u t u' t', l = u :: t → l' = u' :: t' → ∀ p, S p = true → u p = u' p
theorem hr_rf {S : Nat → Bool} (l : List (Nat → Int)) : hr S l l := ⟨Iff.rfl, fun u t u' t' h h' p _ => by rw [h] at h'; injection h' with h1 _; rw [h1]⟩
theorem hr_tr {S : Nat → Bool} {a b c : List (Nat → Int)} (h1 : hr S a b) (h2 : hr S b c) : hr S a c := by
  refine ⟨h1.1.trans h2.1, fun u t u' t' ha hc p hp' => ?_⟩
  cases b with
  | nil => exact absurd (h1.1.mpr rfl) (by rw [ha]; exact List.cons_ne_nil _ _)
  | cons y s => exact (h1.2 u t y s ha rfl p hp').trans (h2.2 y s u' t' rfl hc p hp')
theorem hr_app {S : Nat → Bool} {a a' b b' : List (Nat → Int)} (h1 : hr S a a') (h2 : hr S b b') : hr S (a ++ b) (a' ++ b') := by
  cases a with
  | nil => rw [h1.1.mp rfl]; exact h2
  | cons y s =>
    cases a' with
    | nil => exact absurd (h1.1.mpr rfl) (List.cons_ne_nil _ _)
    | cons y' s' =>
      refine ⟨⟨fun z => absurd z (List.cons_ne_nil _ _), fun z => absurd z (List.cons_ne_nil _ _)⟩, fun u t u' t' ha hc p hp' => ?_⟩
      injection ha with ha _
      injection hc with hc _
      rw [← ha, ← hc]
      exact h1.2 y s y' s' rfl rfl p hp'
theorem hr_lx {S : Nat → Bool} {g g' : Int → List (Nat → Int)} : ∀ (n : Nat) (x : Int), (∀ y, hr S (g y) (g' y)) → hr S (lx g n x) (lx g' n x) := by
  intro n
  induction n with
  | zero => exact fun _ _ => hr_rf _
  | succ n ih => intro x h; rw [lx_s, lx_s]; exact hr_app (h x) (ih (x + 1) h)
theorem hr_some {S : Nat → Bool} {g g2 : Int → List (Nat → Int)} {l1 : List (Nat → Int)} (h1 : ∀ y, g2 y = [] → g y = []) (h2 : ∀ y, g2 y ≠ [] → hr S (g y) l1) : ∀ (n : Nat) (x : Int), (lx g2 n x = [] → lx g n x = []) ∧ (lx g2 n x ≠ [] → hr S (lx g n x) l1) := by
  intro n
  induction n with
  | zero => exact fun x => ⟨fun _ => rfl, fun z => absurd rfl z⟩
  | succ n ih =>
    intro x
    obtain ⟨i1', i2'⟩ := ih (x + 1)
    rw [lx_s, lx_s]
    by_cases c : g2 x = []
    · rw [c, h1 x c]; exact ⟨i1', i2'⟩
    · refine ⟨fun z => absurd (List.append_eq_nil_iff.mp z).1 c, fun _ => ?_⟩
      have k := h2 x c
      by_cases d : g x = []
      · have e : l1 = [] := k.1.mp d
        have e2 : lx g n (x + 1) = [] := by
          by_cases f : lx g2 n (x + 1) = []
          · exact i1' f
          · exact (i2' f).1.mpr e
        rw [d, e2, e]; exact hr_rf _
      · obtain ⟨u, t, hu⟩ := List.exists_cons_of_ne_nil d
        rw [hu] at k ⊢
        cases l1 with
        | nil => exact absurd (k.1.mpr rfl) (List.cons_ne_nil _ _)
        | cons y' s' =>
          refine ⟨⟨fun z => absurd z (List.cons_ne_nil _ _), fun z => absurd z (List.cons_ne_nil _ _)⟩, fun a t1 b t2 ha hb p hp' => ?_⟩
          injection ha with ha _
          injection hb with hb _
          rw [← ha, ← hb]
          exact k.2 u t y' s' rfl rfl p hp'
abbrev depS (S : Nat → Bool) (P : (Nat → Int) → Bool) : Prop := ∀ v v', (∀ j, S j = true → v j = v' j) → P v = P v'
theorem upF_ag {S : Nat → Bool} {v v' : Nat → Int} (h : ∀ j, S j = true → v j = v' j) (k : Nat) (x : Int) : ∀ j, S j = true → upF v k x j = upF v' k x j := by
  intro j hj
  unfold upF
  split
  · rfl
  · exact h j hj
theorem solT_ind {S : Nat → Bool} {P : (Nat → Int) → Bool} (hd : depS S P) : ∀ (r k : Nat) (v v' : Nat → Int), (∀ j, S j = true → v j = v' j) → hr S (solT S P r k v) (solT S P r k v') ∧ (solT S P r k v).length = (solT S P r k v').length := by
  intro r
  induction r with
  | zero =>
    intro k v v' h
    have e : ∀ v, solT S P 0 k v = if P v then [v] else [] := fun _ => rfl
    rw [e, e, hd v v' h]
    by_cases c : P v' = true
    · rw [if_pos c, if_pos c]
      refine ⟨⟨⟨fun z => absurd z (List.cons_ne_nil _ _), fun z => absurd z (List.cons_ne_nil _ _)⟩, fun a t1 b t2 ha hb p hp' => ?_⟩, rfl⟩
      injection ha with ha _
      injection hb with hb _
      rw [← ha, ← hb]
      exact h p hp'
    · rw [if_neg c, if_neg c]; exact ⟨hr_rf _, rfl⟩
  | succ r ih =>
    intro k v v' h
    by_cases c : S k = true
    · rw [solT_y c, solT_y c]
      refine ⟨hr_lx _ _ (fun x => (ih (k + 1) _ _ (upF_ag h k x)).1), ?_⟩
      have q := lx_len (g := fun x => solT S P r (k + 1) (upF v k x)) (g' := fun x => solT S P r (k + 1) (upF v' k x)) (c := 1) 13 (-6) (fun x => by rw [Nat.mul_one]; exact (ih (k + 1) _ _ (upF_ag h k x)).2)
      rw [Nat.mul_one] at q
      exact q
    · rw [solT_n c, solT_n c]; exact ih (k + 1) v v' h
theorem upF_off {S : Nat → Bool} {k : Nat} (h : ¬ S k = true) (v : Nat → Int) (x : Int) : ∀ j, S j = true → upF v k x j = v j := by
  intro j hj
  unfold upF
  rw [if_neg (fun z => h (by rw [← z]; exact hj))]
theorem spl_len {T T1 T2 : Nat → Bool} {P P1 P2 : (Nat → Int) → Bool} (hT : ∀ j, T j = (T1 j || T2 j)) (hdis : ∀ j, T1 j = true → ¬ T2 j = true) (hP : ∀ v, P v = (P1 v && P2 v)) (hd1 : depS T1 P1) (hd2 : depS T2 P2) : ∀ (r k : Nat) (v : Nat → Int), (solT T P r k v).length = (solT T1 P1 r k v).length * (solT T2 P2 r k v).length := by
  intro r
  induction r with
  | zero =>
    intro k v
    have e : ∀ (S : Nat → Bool) (Q : (Nat → Int) → Bool) v, solT S Q 0 k v = if Q v then [v] else [] := fun _ _ _ => rfl
    rw [e, e, e, hP v]
    cases P1 v <;> cases P2 v <;> rfl
  | succ r ih =>
    intro k v
    by_cases c1 : T1 k = true
    · have c2 := hdis k c1
      rw [solT_y (by rw [hT k, c1]; rfl), solT_y c1, solT_n c2]
      refine lx_len _ _ (fun x => ?_)
      rw [ih (k + 1), (solT_ind hd2 r (k + 1) _ v (upF_off c2 v x)).2]
    · by_cases c2 : T2 k = true
      · rw [solT_y (by rw [hT k, c2, Bool.or_true]), solT_n c1, solT_y c2, Nat.mul_comm]
        refine lx_len _ _ (fun x => ?_)
        rw [ih (k + 1), (solT_ind hd1 r (k + 1) _ v (upF_off c1 v x)).2, Nat.mul_comm]
      · rw [solT_n (by rw [hT k, Bool.eq_false_iff.mpr c1, Bool.eq_false_iff.mpr c2]; decide), solT_n c1, solT_n c2]
        exact ih (k + 1) v
theorem spl_hd {T T1 T2 : Nat → Bool} {P P1 P2 : (Nat → Int) → Bool} (hT : ∀ j, T j = (T1 j || T2 j)) (hdis : ∀ j, T1 j = true → ¬ T2 j = true) (hP : ∀ v, P v = (P1 v && P2 v)) (hd1 : depS T1 P1) (hd2 : depS T2 P2) : ∀ (r k : Nat) (v : Nat → Int), solT T2 P2 r k v ≠ [] → hr T1 (solT T P r k v) (solT T1 P1 r k v) := by
  intro r
  induction r with
  | zero =>
    intro k v h
    have e : ∀ (S : Nat → Bool) (Q : (Nat → Int) → Bool) v, solT S Q 0 k v = if Q v then [v] else [] := fun _ _ _ => rfl
    rw [e] at h
    rw [e, e, hP v]
    by_cases c : P2 v = true
    · rw [c, Bool.and_true]; exact hr_rf _
    · rw [if_neg c] at h; exact absurd rfl h
  | succ r ih =>
    intro k v h
    have nl : ∀ {a b : List (Nat → Int)}, a.length = b.length → a ≠ [] → b ≠ [] := fun e ha hb => ha (List.eq_nil_of_length_eq_zero (by rw [e, hb]; rfl))
    by_cases c1 : T1 k = true
    · have c2 := hdis k c1
      rw [solT_n c2] at h
      rw [solT_y (by rw [hT k, c1]; rfl), solT_y c1]
      refine hr_lx _ _ (fun x => ih (k + 1) _ (nl ?_ h))
      exact (solT_ind hd2 r (k + 1) v _ (fun j hj => (upF_off c2 v x j hj).symm)).2
    · by_cases c2 : T2 k = true
      · rw [solT_y c2] at h
        rw [solT_y (by rw [hT k, c2, Bool.or_true]), solT_n c1]
        refine (hr_some (g2 := fun x => solT T2 P2 r (k + 1) (upF v k x)) (fun x hx => ?_) (fun x hx => ?_) 13 (-6)).2 h
        · have q := spl_len hT hdis hP hd1 hd2 r (k + 1) (upF v k x)
          rw [hx] at q
          exact List.eq_nil_of_length_eq_zero (by rw [q]; rfl)
        · exact hr_tr (ih (k + 1) _ hx) (solT_ind hd1 r (k + 1) _ v (upF_off c1 v x)).1
      · rw [solT_n c2] at h
        rw [solT_n (by rw [hT k, Bool.eq_false_iff.mpr c1, Bool.eq_false_iff.mpr c2]; decide), solT_n c1]
        exact ih (k + 1) v h
theorem solT_nil {S : Nat → Bool} {P : (Nat → Int) → Bool} : ∀ (r k : Nat) (v : Nat → Int), (∀ v', (∀ i, i < k → v' i = v i) → P v' = false) → solT S P r k v = [] := by
  intro r
  induction r with
  | zero => intro k v h; unfold solT; rw [h v (fun _ _ => rfl)]; rfl
  | succ r ih =>
    intro k v h
    by_cases c : S k = true
    · rw [solT_y c]
      refine lx_nil _ _ (fun y h1 h2 => ih (k + 1) _ (fun v' he => h v' (fun i hi => ?_)))
      rw [he i (by omega), upF_ne v _ (by omega)]
    · rw [solT_n c]
      exact ih (k + 1) v (fun v' he => h v' (fun i hi => he i (by omega)))
theorem lx_add {β : Type} (g : Int → List β) : ∀ (a b : Nat) (x : Int), lx g (a + b) x = lx g a x ++ lx g b (x + a) := by
  intro a
  induction a with
  | zero => intro b x; rw [Nat.zero_add, show x + ((0 : Nat) : Int) = x by omega]; rfl
  | succ a ih =>
    intro b x
    rw [show a + 1 + b = (a + b) + 1 by omega, lx_s, lx_s, ih b (x + 1), List.append_assoc, show x + 1 + (a : Int) = x + ((a + 1 : Nat) : Int) by omega]
theorem lx_cut {β : Type} {g : Int → List β} {lo hi : Int} (h1 : -6 ≤ lo) (h2 : lo ≤ hi) (h3 : hi ≤ 6) (h : ∀ x, ¬ (lo ≤ x ∧ x ≤ hi) → g x = []) : lx g 13 (-6) = lx g (hi - lo + 1).toNat lo := by
  have e1 : (13 : Nat) = (lo + 6).toNat + ((hi - lo + 1).toNat + (6 - hi).toNat) := by omega
  rw [e1, lx_add, lx_add, lx_nil _ _ (fun y a b => h y (by omega)), lx_nil (6 - hi).toNat _ (fun y a b => h y (by omega)), List.append_nil, List.nil_append]
  congr 1
  omega
/-- what the pieces of T must keep -/
def PSt (st : St) (n : Nat) (T : Nat → Bool) (v : Nat → Int) : Bool := (List.range 7).all (fun j => !T j || dmB st j (v j)) && (List.range n).all (fun k => !decide (pnS st k) || !T (st 18 k).toNat || decide (cnK st k v))
theorem PSt_iff {st : St} {n : Nat} {T : Nat → Bool} {v : Nat → Int} : PSt st n T v = true ↔ (∀ j, j < 7 → T j = true → dmB st j (v j) = true) ∧ ∀ k, k < n → pnS st k → T (st 18 k).toNat = true → cnK st k v := by
  unfold PSt
  simp only [List.all_eq_true, List.mem_range, Bool.and_eq_true, Bool.or_eq_true, Bool.not_eq_true', decide_eq_false_iff_not, decide_eq_true_eq]
  refine ⟨fun h => ⟨fun j hj ht => (h.1 j hj).resolve_left (by rw [ht]; decide), fun k hk hp' ht => (h.2 k hk).resolve_left (fun z => z.elim (fun z => z hp') (by rw [ht]; decide))⟩, fun h => ⟨fun j hj => ?_, fun k hk => ?_⟩⟩
  · by_cases c : T j = true
    · exact Or.inr (h.1 j hj c)
    · exact Or.inl (Bool.eq_false_iff.mpr c)
  · by_cases c : pnS st k
    · by_cases d : T (st 18 k).toNat = true
      · exact Or.inr (h.2 k hk c d)
      · exact Or.inl (Or.inr (Bool.eq_false_iff.mpr d))
    · exact Or.inl (Or.inl c)
abbrev clTf (st : St) (n : Nat) (T : Nat → Bool) : Prop := ∀ k, k < n → pnS st k → T (st 18 k).toNat = T (st 19 k).toNat
theorem PSt_dep {st : St} {n : Nat} {T : Nat → Bool} (hc : clTf st n T) : depS T (PSt st n T) := by
  have key : ∀ v v', (∀ j, T j = true → v j = v' j) → PSt st n T v = true → PSt st n T v' = true := by
    intro v v' h a
    rw [PSt_iff] at a ⊢
    refine ⟨fun j hj ht => by rw [← h j ht]; exact a.1 j hj ht, fun k hk hp' ht => ?_⟩
    have q := a.2 k hk hp' ht
    rw [cnK, h _ ht, h _ (by rw [← hc k hk hp']; exact ht)] at q
    exact q
  intro v v' h
  rw [Bool.eq_iff_iff]
  exact ⟨key v v' h, key v' v (fun j hj => (h j hj).symm)⟩
theorem PSt_spl {st : St} {n : Nat} {T T1 T2 : Nat → Bool} (hT : ∀ j, T j = (T1 j || T2 j)) (v : Nat → Int) : PSt st n T v = (PSt st n T1 v && PSt st n T2 v) := by
  rw [Bool.eq_iff_iff, Bool.and_eq_true, PSt_iff, PSt_iff, PSt_iff]
  constructor
  · rintro ⟨a, b⟩
    exact ⟨⟨fun j hj ht => a j hj (by rw [hT, ht]; rfl), fun k hk hp' ht => b k hk hp' (by rw [hT, ht]; rfl)⟩, ⟨fun j hj ht => a j hj (by rw [hT, ht, Bool.or_true]), fun k hk hp' ht => b k hk hp' (by rw [hT, ht, Bool.or_true])⟩⟩
  · rintro ⟨⟨a, b⟩, c, d⟩
    refine ⟨fun j hj ht => ?_, fun k hk hp' ht => ?_⟩
    · rw [hT, Bool.or_eq_true] at ht
      exact ht.elim (a j hj) (c j hj)
    · rw [hT, Bool.or_eq_true] at ht
      exact ht.elim (b k hk hp') (d k hk hp')
/-- the first piece in -/
theorem fi_in {st : St} (w : WF st) {p : Nat} (hp' : st 1 p ≠ 0) : st 1 (fiS st) ≠ 0 ∧ ∀ q, q < fiS st → st 1 q = 0 := by
  have key : ∀ n q : Nat, q ≤ p → p < q + n → st 1 (fiF st n q) ≠ 0 ∧ ∀ j, q ≤ j → j < fiF st n q → st 1 j = 0 := by
    intro n
    induction n with
    | zero => intro q h1 h2; omega
    | succ n ih =>
      intro q h1 h2
      rw [fiF_s]
      by_cases c : st 1 q = 0
      · rw [if_pos c]
        have hne : q ≠ p := fun z => hp' (by rw [← z]; exact c)
        obtain ⟨a, b⟩ := ih (q + 1) (by omega) (by omega)
        refine ⟨a, fun j h3 h4 => ?_⟩
        by_cases z : j = q
        · rw [z]; exact c
        · exact b j (by omega) h4
      · rw [if_neg c]; exact ⟨c, fun j h3 h4 => by omega⟩
  have hl := in_lt w hp'
  obtain ⟨a, b⟩ := key (st 0 0).toNat 0 (Nat.zero_le _) (by omega)
  exact ⟨a, fun q hq => b q (Nat.zero_le _) hq⟩
theorem dmB_rg {st : St} (w : WF st) {p : Nat} (hp' : st 1 p ≠ 0) (x : Int) : dmB st p x = true ↔ loS st p ≤ x ∧ x ≤ hiS st p := by
  obtain ⟨f1, f2⟩ := fi_in w hp'
  have fl := fiS_le hp' (in_lt w hp')
  unfold dmB loS hiS
  by_cases c : p = fiS st
  · have e : cntN (inP st) p = 0 := by
      have : ∀ n, n ≤ fiS st → cntN (inP st) n = 0 := by
        intro n
        induction n with
        | zero => exact fun _ => rfl
        | succ n ih =>
          intro hn
          rw [cntN_s, ih (by omega), show inP st n = false from decide_eq_false (fun z => z (f2 n (by omega)))]
          rfl
      exact this p (by omega)
    rw [if_neg (fun z => z.2 e), if_pos c, if_pos c, decide_eq_true_iff]
    omega
  · have e : cntN (inP st) p ≠ 0 := by
      have a := cntN_mono (inP st) (m := fiS st + 1) (n := p) (by omega)
      have b := cntN_s (inP st) (fiS st)
      rw [show inP st (fiS st) = true from decide_eq_true f1, if_pos rfl] at b
      omega
    rw [if_pos ⟨decide_eq_true hp', e⟩, if_neg c, if_neg c, decide_eq_true_iff]
/-- the pieces of part c -/
def tC (L : Nat → Int) (c : Nat) : Nat → Bool := fun j => decide (j < 7 ∧ L j = (c : Nat))
/-- the pieces of the parts before m, and those not in -/
def tBf (L : Nat → Int) (m : Nat) : Nat → Bool := fun j => decide (j < 7 ∧ L j < (m : Nat))
theorem tC_cl {st : St} {n : Nat} (w : WF st) (hm : (n : Int) ≤ st 0 3) (c : Nat) : clTf st n (tC (lbS st n) c) := by
  intro k hk hp'
  obtain ⟨g1, g2⟩ := w.2.2.2.2.2.2.2.2.1 k
  unfold tC
  rw [lbS_pair w hm hk hp']
  exact decide_eq_decide.mpr ⟨fun z => ⟨by omega, z.2⟩, fun z => ⟨by omega, z.2⟩⟩
theorem tB_cl {st : St} {n : Nat} (w : WF st) (hm : (n : Int) ≤ st 0 3) (m : Nat) : clTf st n (tBf (lbS st n) m) := by
  intro k hk hp'
  obtain ⟨g1, g2⟩ := w.2.2.2.2.2.2.2.2.1 k
  unfold tBf
  rw [lbS_pair w hm hk hp']
  exact decide_eq_decide.mpr ⟨fun z => ⟨by omega, z.2⟩, fun z => ⟨by omega, z.2⟩⟩
theorem cnt_c7 {st : St} {n : Nat} (w : WF st) (hm : (n : Int) ≤ st 0 3) (c : Nat) : cntN (ptP (lbS st n) c) 7 = rwN st (lbS st n) c := by
  have h0 := w.1.1
  have key : ∀ j, (st 0 0).toNat ≤ j → cntN (ptP (lbS st n) c) j = rwN st (lbS st n) c := by
    intro j
    induction j with
    | zero => intro h; unfold rwN; rw [show (st 0 0).toNat = 0 by omega]
    | succ j ih =>
      intro h
      by_cases d : (st 0 0).toNat = j + 1
      · unfold rwN; rw [d]
      · rw [cntN_s, ih (by omega), show ptP (lbS st n) c j = false from decide_eq_false (fun z => ?_)]
        · rfl
        · have := lbS_out (many := n) (w.2.2.2.2.2.2.2.2.2.2.1 j (by omega)).1
          omega
  exact key 7 (by omega)
/-- the reference's list of a part -/
theorem soP_T {st : St} {n : Nat} (w : WF st) (hm : (n : Int) ≤ st 0 3) (c : Nat) : ∀ (r k : Nat) (v : Nat → Int), k + r = 7 → (∀ p, p < k → lbS st n p = (c : Nat) → dmB st p (v p) = true ∧ ftS st n (lbS st n) p v = true) →
    soP st n (lbS st n) c (rwN st (lbS st n) c - cntN (ptP (lbS st n) c) k) (cntN (ptP (lbS st n) c) k) v = solT (tC (lbS st n) c) (PSt st n (tC (lbS st n) c)) r k v := by
  intro r
  induction r with
  | zero =>
    intro k v hk h
    rw [show k = 7 by omega, cnt_c7 w hm c, Nat.sub_self]
    have e : solT (tC (lbS st n) c) (PSt st n (tC (lbS st n) c)) 0 7 v = if PSt st n (tC (lbS st n) c) v then [v] else [] := rfl
    rw [e, if_pos]
    · rfl
    · rw [PSt_iff]
      refine ⟨fun j hj ht => (h j (by omega) (of_decide_eq_true ht).2).1, fun i hi hp' ht => ?_⟩
      have ha := of_decide_eq_true ht
      have hb := of_decide_eq_true ((tC_cl w hm c i hi hp') ▸ ht)
      obtain ⟨-, -, g3, -, -⟩ := w.2.2.2.2.2.2.2.1 i (by omega)
      obtain ⟨g1, g2⟩ := w.2.2.2.2.2.2.2.2.1 i
      by_cases d : (st 18 i).toNat < (st 19 i).toNat
      · have q := (ftS_iff.mp (h (st 19 i).toNat (by omega) hb.2).2) i hi hp' (Or.inr rfl)
        have eo : otS st (st 19 i).toNat i = (st 18 i).toNat := if_neg (by omega)
        rw [eo] at q
        exact q ⟨d, by rw [ha.2, hb.2]⟩
      · have q := (ftS_iff.mp (h (st 18 i).toNat (by omega) ha.2).2) i hi hp' (Or.inl rfl)
        have eo : otS st (st 18 i).toNat i = (st 19 i).toNat := if_pos rfl
        rw [eo] at q
        exact q ⟨by omega, by rw [ha.2, hb.2]⟩
  | succ r ih =>
    intro k v hk h
    by_cases d : lbS st n k = (c : Nat)
    · have ht : tC (lbS st n) c k = true := decide_eq_true ⟨by omega, d⟩
      have hin : st 1 k ≠ 0 := lbS_I st n k (by omega)
      have hkl := in_lt w hin
      have es := cntN_s (ptP (lbS st n) c) k
      rw [show ptP (lbS st n) c k = true from decide_eq_true d, if_pos rfl] at es
      have le : cntN (ptP (lbS st n) c) (k + 1) ≤ rwN st (lbS st n) c := cntN_mono _ (by omega)
      obtain ⟨N, hN⟩ : ∃ N, rwN st (lbS st n) c - cntN (ptP (lbS st n) c) k = N + 1 := ⟨rwN st (lbS st n) c - cntN (ptP (lbS st n) c) k - 1, by omega⟩
      have hN' : rwN st (lbS st n) c - cntN (ptP (lbS st n) c) (k + 1) = N := by omega
      rw [hN, soP_s, solT_y ht, rw_hit (L := lbS st n) (c := c) (by omega) d]
      have h4 := w.1.2.2.2.2.1
      have dm := dmB_rg w hin
      rw [lx_cut (lo := loS st k) (hi := hiS st k) (by unfold loS; split <;> omega) (by unfold loS hiS; split <;> omega) (by unfold hiS; split <;> omega) (fun x hx => ?_)]
      · refine lx_c _ _ (fun x h1 h2 => ?_)
        have hx : loS st k ≤ x ∧ x ≤ hiS st k := by omega
        unfold trS
        rw [rw_hit (L := lbS st n) (c := c) (by omega) d]
        have ftc : ∀ v', (∀ i, i < k + 1 → v' i = upF v k x i) → ∀ p, p < k + 1 → (ftS st n (lbS st n) p v' = true ↔ ftS st n (lbS st n) p (upF v k x) = true) := by
          intro v' he p hp'
          rw [ftS_iff, ftS_iff]
          have one : ∀ i, i < n → (ftK st (lbS st n) p v' i ↔ ftK st (lbS st n) p (upF v k x) i) := by
            intro i hi
            unfold ftK
            have bd : tcS st p i → otS st p i < p → (st 18 i).toNat ≤ p ∧ (st 19 i).toNat ≤ p := by
              intro t1 t2
              unfold otS at t2
              by_cases z : (st 18 i).toNat = p
              · rw [if_pos z] at t2; omega
              · rw [if_neg z] at t2
                have := t1.resolve_left z
                omega
            constructor
            · intro a b1' b2' b3'
              have q := a b1' b2' b3'
              obtain ⟨z1, z2⟩ := bd b2' b3'.1
              unfold cnK at q ⊢
              rw [he _ (by omega), he _ (by omega)] at q
              exact q
            · intro a b1' b2' b3'
              have q := a b1' b2' b3'
              obtain ⟨z1, z2⟩ := bd b2' b3'.1
              unfold cnK at q ⊢
              rw [he _ (by omega), he _ (by omega)]
              exact q
          exact ⟨fun a i hi => (one i hi).mp (a i hi), fun a i hi => (one i hi).mpr (a i hi)⟩
        by_cases cf : ftS st n (lbS st n) k (upF v k x) = true
        · rw [if_pos cf, ← ih (k + 1) (upF v k x) (by omega) (fun p hp' hl => ?_), hN', es]
          by_cases z : p = k
          · rw [z, upF_eq]; exact ⟨(dm x).mpr hx, cf⟩
          · obtain ⟨q1, q2⟩ := h p (by omega) hl
            rw [upF_ne v _ z]
            refine ⟨q1, ?_⟩
            rw [ftS_iff] at q2 ⊢
            intro i hi a1 a2 a3
            have q := q2 i hi a1 a2 a3
            have bd : (st 18 i).toNat ≤ p ∧ (st 19 i).toNat ≤ p := by
              have t2 := a3.1
              unfold otS at t2
              by_cases y : (st 18 i).toNat = p
              · rw [if_pos y] at t2; omega
              · rw [if_neg y] at t2
                have := a2.resolve_left y
                omega
            unfold cnK at q ⊢
            rw [upF_ne v _ (by omega), upF_ne v _ (by omega)]
            exact q
        · rw [if_neg cf]
          symm
          refine solT_nil _ _ _ (fun v' he => Bool.eq_false_iff.mpr (fun z => cf ?_))
          rw [← ftc v' he k (by omega), ftS_iff]
          intro i hi a1 a2 a3
          refine (PSt_iff.mp z).2 i hi a1 ?_
          have : lbS st n (st 18 i).toNat = (c : Nat) := by
            rcases a2 with y | y
            · rw [y]; exact d
            · rw [lbS_pair w hm hi a1, y]; exact d
          obtain ⟨g1, g2⟩ := w.2.2.2.2.2.2.2.2.1 i
          exact decide_eq_true ⟨by omega, this⟩
      · refine solT_nil _ _ _ (fun v' he => Bool.eq_false_iff.mpr (fun z => hx ?_))
        rw [← dm x]
        have q := (PSt_iff.mp z).1 k (by omega) ht
        rw [he k (by omega), upF_eq] at q
        exact q
    · have ht : ¬ tC (lbS st n) c k = true := fun z => d (of_decide_eq_true z).2
      have es : cntN (ptP (lbS st n) c) (k + 1) = cntN (ptP (lbS st n) c) k := by
        rw [cntN_s, show ptP (lbS st n) c k = false from decide_eq_false d]
        rfl
      rw [solT_n ht, ← es]
      refine ih (k + 1) v (by omega) (fun p hp' hl => ?_)
      by_cases z : p = k
      · rw [z] at hl; exact absurd hl d
      · exact h p (by omega) hl
/-- the list of a part, of the parts before m -/
abbrev lCt (st : St) (n c : Nat) : List (Nat → Int) := solT (tC (lbS st n) c) (PSt st n (tC (lbS st n) c)) 7 0 (fun _ => 0)
abbrev lBt (st : St) (n m : Nat) : List (Nat → Int) := solT (tBf (lbS st n) m) (PSt st n (tBf (lbS st n) m)) 7 0 (fun _ => 0)
theorem woS_T {st : St} {n : Nat} (w : WF st) (hm : (n : Int) ≤ st 0 3) (c : Nat) : woS st n (lbS st n) c = rnL 1001 (0, fun _ => 0) (lCt st n c) := by
  have q := soP_T w hm c 7 0 (fun _ => 0) (by omega) (fun p hp' => absurd hp' (Nat.not_lt_zero _))
  have z : cntN (ptP (lbS st n) c) 0 = 0 := rfl
  rw [z, Nat.sub_zero] at q
  unfold woS
  rw [q]
theorem tB_s {st : St} {n : Nat} (w : WF st) (hm : (n : Int) ≤ st 0 3) {m : Nat} (hc : lbS st n m = (m : Nat)) (j : Nat) : tBf (lbS st n) (m + 1) j = (tC (lbS st n) m j || tBf (lbS st n) m j) := by
  unfold tBf tC
  rw [← Bool.decide_or]
  exact decide_eq_decide.mpr (by omega)
theorem tB_n {st : St} {n : Nat} (w : WF st) (hm : (n : Int) ≤ st 0 3) {m : Nat} (hc : lbS st n m ≠ (m : Nat)) : tBf (lbS st n) (m + 1) = tBf (lbS st n) m := by
  funext j
  unfold tBf
  refine decide_eq_decide.mpr ⟨fun z => ⟨z.1, ?_⟩, fun z => ⟨z.1, by omega⟩⟩
  by_cases e : lbS st n j = (m : Nat)
  · exfalso
    have q := (lbS_rep w hm (p := j) (lbS_I st n j (by omega))).1
    rw [e] at q
    exact hc q
  · omega
theorem tCB_dis {st : St} {n : Nat} (w : WF st) (hm : (n : Int) ≤ st 0 3) (m j : Nat) : tC (lbS st n) m j = true → ¬ tBf (lbS st n) m j = true := by
  intro a b
  have a' := of_decide_eq_true a
  have b' := of_decide_eq_true b
  omega
theorem lB_len {st : St} {n : Nat} (w : WF st) (hm : (n : Int) ≤ st 0 3) {m : Nat} (hc : lbS st n m = (m : Nat)) : (lBt st n (m + 1)).length = (lCt st n m).length * (lBt st n m).length :=
  spl_len (tB_s w hm hc) (tCB_dis w hm m) (PSt_spl (tB_s w hm hc)) (PSt_dep (tC_cl w hm m)) (PSt_dep (tB_cl w hm m)) 7 0 _
theorem lB_0 {st : St} {n : Nat} (w : WF st) (hm : (n : Int) ≤ st 0 3) : (lBt st n 0).length = 1 := by
  have key : ∀ (r k : Nat) (v : Nat → Int), k + r = 7 → (∀ j, j < 7 → lbS st n j < 0 → v j = 0) → solT (tBf (lbS st n) 0) (PSt st n (tBf (lbS st n) 0)) r k v = [v] := by
    intro r
    induction r with
    | zero =>
      intro k v hk h
      have e : solT (tBf (lbS st n) 0) (PSt st n (tBf (lbS st n) 0)) 0 k v = if PSt st n (tBf (lbS st n) 0) v then [v] else [] := rfl
      rw [e, if_pos]
      rw [PSt_iff]
      refine ⟨fun j hj ht => ?_, fun i hi hp' ht => ?_⟩
      · have t := of_decide_eq_true ht
        have out : ¬ inP st j = true := fun z => by
          have := (lbS_in (many := n) (of_decide_eq_true z)).1
          omega
        unfold dmB
        rw [if_neg (fun z => out z.1), decide_eq_true_iff]
        exact h j hj (by omega)
      · exfalso
        have := (lbS_in (many := n) hp'.1).1
        have t := of_decide_eq_true ht
        omega
    | succ r ih =>
      intro k v hk h
      by_cases d : tBf (lbS st n) 0 k = true
      · rw [solT_y d]
        have t := of_decide_eq_true d
        have e0 : upF v k 0 = v := by
          funext j
          unfold upF
          split
          · rename_i z; rw [z]; exact (h k (by omega) (by omega)).symm
          · rfl
        rw [lx_cut (lo := 0) (hi := 0) (by decide) (by decide) (by decide) (fun x hx => ?_)]
        · show solT _ _ r (k + 1) (upF v k 0) ++ [] = [v]
          rw [e0, List.append_nil]
          exact ih (k + 1) v (by omega) h
        · refine solT_nil _ _ _ (fun v' he => Bool.eq_false_iff.mpr (fun z => hx ?_))
          have q := (PSt_iff.mp z).1 k (by omega) d
          have out : ¬ inP st k = true := fun z => by
            have := (lbS_in (many := n) (of_decide_eq_true z)).1
            omega
          unfold dmB at q
          rw [if_neg (fun z => out z.1), decide_eq_true_iff, he k (by omega), upF_eq] at q
          omega
      · rw [solT_n d]; exact ih (k + 1) v (by omega) h
  show (solT (tBf (lbS st n) 0) (PSt st n (tBf (lbS st n) 0)) 7 0 (fun _ => 0)).length = 1
  rw [key 7 0 _ (by omega) (fun _ _ _ => rfl)]
  rfl
theorem min_mul {st : St} {n : Nat} (w : WF st) (hm : (n : Int) ≤ st 0 3) (a b : Nat) : min 1001 (min 1001 a * min 1001 b) = min 1001 (a * b) := by
  by_cases ha : a = 0
  · rw [ha]; simp
  · by_cases hb : b = 0
    · rw [hb]; simp
    · by_cases c : a ≤ 1001
      · by_cases d : b ≤ 1001
        · rw [show min 1001 a = a by omega, show min 1001 b = b by omega]
        · have e1 : 1001 ≤ a * b := by
            have := Nat.le_mul_of_pos_left b (show 0 < a by omega)
            omega
          have e2 : 1001 ≤ min 1001 a * min 1001 b := by
            have := Nat.le_mul_of_pos_left (min 1001 b) (show 0 < min 1001 a by omega)
            omega
          omega
      · have e1 : 1001 ≤ a * b := by
          have := Nat.le_mul_of_pos_right a (show 0 < b by omega)
          omega
        have e2 : 1001 ≤ min 1001 a * min 1001 b := by
          have := Nat.le_mul_of_pos_right (min 1001 a) (show 0 < min 1001 b by omega)
          omega
        omega
theorem wbA_T {st : St} {n : Nat} (w : WF st) (hm : (n : Int) ≤ st 0 3) : ∀ m : Nat, wbA st n (lbS st n) m = min 1001 (lBt st n m).length := by
  intro m
  induction m with
  | zero => rw [lB_0 w hm]; rfl
  | succ m ih =>
    rw [wbA_s]
    by_cases c : lbS st n m = (m : Nat)
    · rw [if_pos c, ih, woS_T w hm m, lB_len w hm c]
      have e : (rnL 1001 (0, fun _ => 0) (lCt st n m)).1 = min 1001 (lCt st n m).length := by
        show min 1001 (0 + (lCt st n m).length) = _
        rw [Nat.zero_add]
      rw [e, min_mul w hm, Nat.mul_comm]
    · rw [if_neg c, ih]
      have e : lBt st n (m + 1) = lBt st n m := by
        show solT (tBf (lbS st n) (m + 1)) (PSt st n (tBf (lbS st n) (m + 1))) 7 0 (fun _ => 0) = _
        rw [tB_n w hm c]
      rw [e]
      omega
theorem lsS_T {st : St} {n : Nat} (w : WF st) (hm : (n : Int) ≤ st 0 3) : lsS st n = lBt st n (st 0 0).toNat := by
  have all : ∀ j, j < 7 → tBf (lbS st n) (st 0 0).toNat j = true := by
    intro j hj
    refine decide_eq_true ⟨hj, ?_⟩
    have h0 := w.1.1
    by_cases c : st 1 j = 0
    · rw [lbS_out c]; omega
    · have := (lbS_in (many := n) c).2
      have := in_lt w c
      omega
  have eP : PS st n = PSt st n (tBf (lbS st n) (st 0 0).toNat) := by
    funext v
    rw [Bool.eq_iff_iff, PS_iff, PSt_iff]
    refine ⟨fun z => ⟨fun j hj _ => z.1 j hj, fun k hk hp' _ => z.2 k hk hp'⟩, fun z => ⟨fun j hj => z.1 j hj (all j hj), fun k hk hp' => z.2 k hk hp' (all _ ?_)⟩⟩
    obtain ⟨g1, g2⟩ := w.2.2.2.2.2.2.2.2.1 k
    omega
  unfold lsS
  rw [eP]
  exact solL_T 7 0 _ (fun j hj => all j (by omega))
theorem wbS_T {st : St} {n : Nat} (w : WF st) (hm : (n : Int) ≤ st 0 3) : wbS st n = min 1001 (lsS st n).length := by
  unfold wbS
  rw [wbA_T w hm, lsS_T w hm]
theorem hd_T {st : St} {n : Nat} (w : WF st) (hm : (n : Int) ≤ st 0 3) {c : Nat} (hc : lbS st n c = (c : Nat)) : ∀ m : Nat, c < m → lBt st n m ≠ [] → hr (tC (lbS st n) c) (lBt st n m) (lCt st n c) := by
  intro m
  induction m with
  | zero => intro h; omega
  | succ m ih =>
    intro hcm hne
    by_cases e : lbS st n m = (m : Nat)
    · have q := lB_len w hm e
      have ne2 : (lCt st n m).length * (lBt st n m).length ≠ 0 := fun z => hne (List.eq_nil_of_length_eq_zero (by rw [q]; exact z))
      have n1 : lCt st n m ≠ [] := fun z => ne2 (by rw [z]; exact Nat.zero_mul _)
      have n2 : lBt st n m ≠ [] := fun z => ne2 (by rw [z]; exact Nat.mul_zero _)
      by_cases z : c = m
      · rw [z]
        exact spl_hd (tB_s w hm e) (tCB_dis w hm m) (PSt_spl (tB_s w hm e)) (PSt_dep (tC_cl w hm m)) (PSt_dep (tB_cl w hm m)) 7 0 _ n2
      · have hT : ∀ j, tBf (lbS st n) (m + 1) j = (tBf (lbS st n) m j || tC (lbS st n) m j) := fun j => by rw [tB_s w hm e j, Bool.or_comm]
        have hdis : ∀ j, tBf (lbS st n) m j = true → ¬ tC (lbS st n) m j = true := fun j a b => tCB_dis w hm m j b a
        have k := spl_hd hT hdis (PSt_spl hT) (PSt_dep (tB_cl w hm m)) (PSt_dep (tC_cl w hm m)) 7 0 (fun _ => 0) n1
        have k' : hr (tC (lbS st n) c) (lBt st n (m + 1)) (lBt st n m) := ⟨k.1, fun u t u' t' a b p hp' => k.2 u t u' t' a b p (decide_eq_true ⟨(of_decide_eq_true hp').1, by have := (of_decide_eq_true hp').2; omega⟩)⟩
        exact hr_tr k' (ih (by omega) n2)
    · have e2 : lBt st n (m + 1) = lBt st n m := by
        show solT (tBf (lbS st n) (m + 1)) (PSt st n (tBf (lbS st n) (m + 1))) 7 0 (fun _ => 0) = _
        rw [tB_n w hm e]
      rw [e2] at hne ⊢
      exact ih (by have : c ≠ m := fun z => e (by rw [← z]; exact hc)
                   omega) hne
theorem eq_ways {st : St} (w : WF st) : rx_ways st = rm_ways st := by
  have h3 := w.1.2.2.2.1
  unfold rx_ways rm_ways
  rw [wbS_T w (by omega)]
theorem eq_lift {st : St} (w : WF st) (p : Int) : rx_lift st p = rm_lift st p := by
  have h3 := w.1.2.2.2.1
  have h0 := w.1.1
  unfold rx_lift rm_lift
  by_cases c : isP st p
  · rw [if_pos c, if_pos c]
    by_cases d : st 1 p.toNat ≠ 0
    · rw [if_pos d]
      have hm : (((st 0 3).toNat : Nat) : Int) ≤ st 0 3 := by omega
      have e := wbS_T w hm
      by_cases f : lsS st (st 0 3).toNat = []
      · rw [f] at e ⊢
        rw [if_neg (c := (0 < wbS st (st 0 3).toNat ∧ st 1 p.toNat ≠ 0)) (fun z => by have := z.1; rw [e] at this; exact absurd this (by decide))]
        rfl
      · obtain ⟨u, t, hu⟩ := List.exists_cons_of_ne_nil f
        have hpos : 0 < wbS st (st 0 3).toNat := by
          rw [e, hu, List.length_cons]; omega
        rw [hu, if_neg (c := ((u :: t).isEmpty = true)) (fun z => Bool.noConfusion z), if_pos ⟨hpos, d⟩]
        have c1 := c.1
        have c2 := c.2
        have lin := lbS_in (many := (st 0 3).toNat) d
        obtain ⟨r1', r2'⟩ := lbS_rep w hm d
        obtain ⟨cc, hcc⟩ : ∃ cc : Nat, cc = (lbS st (st 0 3).toNat p.toNat).toNat := ⟨_, rfl⟩
        rw [← hcc] at r1' ⊢
        have hc : lbS st (st 0 3).toNat cc = (cc : Nat) := by rw [r1', hcc]; omega
        rw [woS_T w hm cc]
        have k := hd_T w hm hc (st 0 0).toNat (by omega) (by rw [← lsS_T w hm]; exact f)
        rw [← lsS_T w hm, hu] at k
        obtain ⟨u', t', hu'⟩ := List.exists_cons_of_ne_nil (fun z => absurd (k.1.mpr z) (List.cons_ne_nil _ _))
        have q := k.2 u t u' t' rfl hu' p.toNat (decide_eq_true ⟨by omega, by rw [hcc]; omega⟩)
        show u p.toNat = ((if (0 : Nat) = 0 then (lCt st (st 0 3).toNat cc).headD (fun _ => 0) else fun _ => 0) : Nat → Int) p.toNat
        rw [if_pos rfl, hu']
        exact q
    · rw [if_neg d, if_neg (fun z => d z.2)]
  · rw [if_neg c, if_neg c]
theorem eq_quarrel {st : St} (w : WF st) : qrS st (st 0 3).toNat 0 = qrM st (st 0 3).toNat 1 := by
  have h3 := w.1.2.2.2.1
  have ls0 : lsS st 0 ≠ [] := by
    have hz : PS st 0 (fun _ => 0) = true := by
      have h4 := w.1.2.2.2.2.1
      rw [PS_iff]
      refine ⟨fun j hj => ?_, fun k hk => absurd hk (Nat.not_lt_zero _)⟩
      unfold dmB
      split
      · exact decide_eq_true (by omega)
      · exact decide_eq_true rfl
    have key : ∀ (r k : Nat), solL (PS st 0) r k (fun _ => 0) ≠ [] := by
      intro r
      induction r with
      | zero =>
        intro k z
        have e : solL (PS st 0) 0 k (fun _ => 0) = if PS st 0 (fun _ => 0) then [fun _ => 0] else [] := rfl
        rw [e, if_pos hz] at z
        exact absurd z (List.cons_ne_nil _ _)
      | succ r ih =>
        intro k z
        have e : solL (PS st 0) (r + 1) k (fun _ => 0) = lx (fun x => solL (PS st 0) r (k + 1) (upF (fun _ => 0) k x)) 13 (-6) := rfl
        rw [e, show (13 : Nat) = 6 + (1 + 6) from rfl, lx_add, lx_add] at z
        have z1 := (List.append_eq_nil_iff.mp (List.append_eq_nil_iff.mp z).2).1
        have z2 : solL (PS st 0) r (k + 1) (upF (fun _ => 0) k 0) ++ [] = [] := z1
        rw [List.append_nil, show upF (fun _ => 0) k 0 = (fun _ => 0) from funext (fun j => by unfold upF; split <;> rfl)] at z2
        exact ih (k + 1) z2
    exact key 7 0
  have key : ∀ (N i : Nat), i + N = (st 0 3).toNat → lsS st i ≠ [] → qrS st N i = qrM st N (i + 1) := by
    intro N
    induction N with
    | zero => exact fun _ _ _ => rfl
    | succ N ih =>
      intro i hi hne
      have e := wbS_T w (n := i + 1) (by omega)
      have es : qrS st (N + 1) i = if pnS st i ∧ (lsS st (i + 1)).isEmpty = true then (i : Int) else qrS st N (i + 1) := rfl
      rw [es]
      by_cases f : lsS st (i + 1) = []
      · have hp' : pnS st i := by
          by_cases c : pnS st i
          · exact c
          · exfalso
            have : PS st (i + 1) = PS st i := by
              funext v
              rw [Bool.eq_iff_iff, PS_iff, PS_iff]
              refine ⟨fun z => ⟨z.1, fun k hk => z.2 k (by omega)⟩, fun z => ⟨z.1, fun k hk hpk => ?_⟩⟩
              by_cases y : k = i
              · rw [y] at hpk; exact absurd hpk c
              · exact z.2 k (by omega) hpk
            unfold lsS at f hne
            rw [this] at f
            exact hne f
        rw [if_pos ⟨hp', by rw [f]; rfl⟩, qrM_y (by rw [e, f]; rfl)]
        omega
      · rw [if_neg (fun z => f (List.isEmpty_iff.mp z.2)), qrM_n (fun z => f (List.eq_nil_of_length_eq_zero (by omega)))]
        exact ih (i + 1) (by omega) f
  exact key _ 0 (by omega) ls0
