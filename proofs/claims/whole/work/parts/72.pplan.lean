/-! coats by years: the class's recursion = the reference's codes in order -/
abbrev CB : Type := Int × Nat
def fdC (f : Nat → CB → CB) : Nat → CB → CB
  | 0, B => B
  | n + 1, B => f n (fdC f n B)
def MR (st : St) : Nat → Nat → (Nat → Int) → Int → CB → CB
  | 0, q, _, sum, B => if B.1 < sum then (sum, q) else B
  | r + 1, q, tr, sum, B => fdC (fun d B => if d < 7 ∧ (st 0 0 ≤ (d : Int) ∨ st 1 d = 0) then B else MR st r (8 * q + d) (trN d tr) (sum + lsP st d tr (st 0 0).toNat) B) 8 B
def MRg (st : St) (r q : Nat) (tr : Nat → Int) (sum : Int) (d : Nat) (B : CB) : CB := if d < 7 ∧ (st 0 0 ≤ (d : Int) ∨ st 1 d = 0) then B else MR st r (8 * q + d) (trN d tr) (sum + lsP st d tr (st 0 0).toNat) B
theorem MR_s (st : St) (r q : Nat) (tr : Nat → Int) (sum : Int) (B : CB) : MR st (r + 1) q tr sum B = fdC (MRg st r q tr sum) 8 B := rfl
def lpI (st : St) (y lo : Nat) : Nat → CB → CB
  | 0, B => B
  | n + 1, B => if (lpI st y lo n B).1 < lbM st (lo + n) y then (lbM st (lo + n) y, lo + n) else lpI st y lo n B
theorem lpI_0 (st : St) (y : Nat) : ∀ c, lpI st y 0 c (-1, 0) = lpM st y c := by
  intro c
  induction c with
  | zero => rfl
  | succ c ih =>
    have e1 : lpI st y 0 (c + 1) (-1, 0) = if (lpI st y 0 c (-1, 0)).1 < lbM st (0 + c) y then (lbM st (0 + c) y, 0 + c) else lpI st y 0 c (-1, 0) := rfl
    have e2 : lpM st y (c + 1) = if (lpM st y c).1 < lbM st c y then (lbM st c y, c) else lpM st y c := rfl
    rw [e1, e2, ih, Nat.zero_add]
theorem lpI_add (st : St) (y lo n : Nat) (B : CB) : ∀ m, lpI st y lo (n + m) B = lpI st y (lo + n) m (lpI st y lo n B) := by
  intro m
  induction m with
  | zero => rfl
  | succ m ih =>
    have e1 : lpI st y lo (n + (m + 1)) B = if (lpI st y lo (n + m) B).1 < lbM st (lo + (n + m)) y then (lbM st (lo + (n + m)) y, lo + (n + m)) else lpI st y lo (n + m) B := rfl
    have e2 : lpI st y (lo + n) (m + 1) (lpI st y lo n B) = if (lpI st y (lo + n) m (lpI st y lo n B)).1 < lbM st (lo + n + m) y then (lbM st (lo + n + m) y, lo + n + m) else lpI st y (lo + n) m (lpI st y lo n B) := rfl
    rw [e1, e2, ih, Nat.add_assoc]
theorem lpI_ge (st : St) (y lo : Nat) {B : CB} (hB : -1 ≤ B.1) : ∀ n, -1 ≤ (lpI st y lo n B).1 := by
  intro n
  induction n with
  | zero => exact hB
  | succ n ih =>
    unfold lpI
    split
    · dsimp only; omega
    · exact ih
theorem lpI_dead {st : St} {y lo : Nat} {B : CB} (hB : -1 ≤ B.1) : ∀ n, (∀ c, lo ≤ c → c < lo + n → lbM st c y ≤ -1) → lpI st y lo n B = B := by
  intro n
  induction n with
  | zero => exact fun _ => rfl
  | succ n ih =>
    intro h
    have e1 : lpI st y lo (n + 1) B = if (lpI st y lo n B).1 < lbM st (lo + n) y then (lbM st (lo + n) y, lo + n) else lpI st y lo n B := rfl
    have := h (lo + n) (by omega) (by omega)
    rw [e1, ih (fun c h1 h2 => h c h1 (by omega)), if_neg (by omega)]
theorem lpI_MR {st : St} {y : Nat} : ∀ (r i q : Nat) (tr : Nat → Int) (sum : Int) (B : CB), i + r = y → -1 ≤ B.1 → (∀ c, q * 8 ^ r ≤ c → c < q * 8 ^ r + 8 ^ r → lbM st c y = lbO st c y r i tr sum) → lpI st y (q * 8 ^ r) (8 ^ r) B = MR st r q tr sum B := by
  intro r
  induction r with
  | zero =>
    intro i q tr sum B hi hB h
    have e := h q (by rw [Nat.pow_zero]; omega) (by rw [Nat.pow_zero]; omega)
    have e1 : lpI st y (q * 8 ^ 0) (8 ^ 0) B = if B.1 < lbM st (q * 1 + 0) y then (lbM st (q * 1 + 0) y, q * 1 + 0) else B := rfl
    have e2 : lbO st q y 0 i tr sum = sum := rfl
    rw [e1, show q * 1 + 0 = q by omega, e, e2]
    rfl
  | succ r ih =>
    intro i q tr sum B hi hB h
    rw [MR_s]
    have hP : 0 < 8 ^ r := Nat.pow_pos (by decide)
    rw [Nat.pow_succ] at h ⊢
    have ex : q * (8 ^ r * 8) = 8 * q * 8 ^ r := by rw [Nat.mul_comm (8 ^ r) 8, ← Nat.mul_assoc, Nat.mul_comm q 8]
    rw [ex] at h ⊢
    have key : ∀ d, d ≤ 8 → lpI st y (8 * q * 8 ^ r) (d * 8 ^ r) B = fdC (MRg st r q tr sum) d B := by
      intro d
      induction d with
      | zero => intro _; rw [Nat.zero_mul]; rfl
      | succ d ik =>
        intro hd
        rw [show (d + 1) * 8 ^ r = d * 8 ^ r + 8 ^ r from Nat.succ_mul _ _, lpI_add, ik (by omega)]
        have hge : -1 ≤ (fdC (MRg st r q tr sum) d B).1 := by rw [← ik (by omega)]; exact lpI_ge st y _ hB _
        have e1 : fdC (MRg st r q tr sum) (d + 1) B = MRg st r q tr sum d (fdC (MRg st r q tr sum) d B) := rfl
        rw [e1]
        generalize fdC (MRg st r q tr sum) d B = B' at hge ⊢
        rw [← Nat.add_mul]
        have le1 : d * 8 ^ r + 8 ^ r ≤ 8 ^ r * 8 := by
          have : (d + 1) * 8 ^ r ≤ 8 * 8 ^ r := Nat.mul_le_mul_right _ hd
          rw [Nat.add_mul, Nat.one_mul, Nat.mul_comm 8] at this
          exact this
        have hv : ∀ c, (8 * q + d) * 8 ^ r ≤ c → c < (8 * q + d) * 8 ^ r + 8 ^ r → lbM st c y = if d < 7 ∧ (st 0 0 ≤ (d : Int) ∨ st 1 d = 0) then -1 else lbO st c y r (i + 1) (trN d tr) (sum + lsP st d tr (st 0 0).toNat) := by
          intro c h1 h2
          have hd2 : c / 8 ^ r = 8 * q + d := Nat.div_eq_of_lt_le h1 (by rw [Nat.succ_mul]; exact h2)
          have hdg : dgM c y i = d := by
            unfold dgM
            rw [show y - 1 - i = r by omega, hd2]
            omega
          rw [Nat.add_mul] at h1 h2
          rw [h c (by omega) (by omega)]
          have e2 : lbO st c y (r + 1) i tr sum = if dgM c y i < 7 ∧ (st 0 0 ≤ (dgM c y i : Int) ∨ st 1 (dgM c y i) = 0) then -1 else lbO st c y r (i + 1) (trN (dgM c y i) tr) (sum + lsP st (dgM c y i) tr (st 0 0).toNat) := rfl
          rw [e2, hdg]
        unfold MRg
        by_cases c : d < 7 ∧ (st 0 0 ≤ (d : Int) ∨ st 1 d = 0)
        · rw [if_pos c]
          exact lpI_dead hge _ (fun c' h1 h2 => by rw [hv c' h1 h2, if_pos c]; exact Int.le_refl _)
        · rw [if_neg c]
          exact ih (i + 1) (8 * q + d) _ _ B' (by omega) hge (fun c' h1 h2 => by rw [hv c' h1 h2, if_neg c])
    rw [Nat.mul_comm (8 ^ r) 8]
    exact key 8 (Nat.le_refl _)
theorem lpM_MR (st : St) (y : Nat) : lpM st y (8 ^ y) = MR st y 0 (fun p => st 24 p) 0 (-1, 0) := by
  have q := lpI_MR (st := st) (y := y) y 0 0 (fun p => st 24 p) 0 (-1, 0) (by omega) (by decide) (fun c _ _ => rfl)
  rw [Nat.zero_mul, lpI_0] at q
  exact q
def dcD (d : Nat) : Int := if d = 7 then -900009 else d
def RB (y : Nat) (B' : PB) (B : CB) : Prop := B'.1 = B.1 ∧ (0 ≤ B.1 → ∀ j, j < y → B'.2 j = dcD (dgM B.2 y j))
theorem in_lt {st : St} (w : WF st) {p : Nat} (h : st 1 p ≠ 0) : (p : Int) < st 0 0 := by
  by_cases c : (p : Int) < st 0 0
  · exact c
  · exact absurd (w.2.2.2.2.2.2.2.2.2.2.1 p (by omega)).1 h
theorem cnt7 {st : St} (w : WF st) : cntN (inP st) 7 = nIn st := by
  have h0 := w.1.1
  have key : ∀ n, (st 0 0).toNat ≤ n → cntN (inP st) n = nIn st := by
    intro n
    induction n with
    | zero => intro h; unfold nIn; rw [show (st 0 0).toNat = 0 by omega]
    | succ n ih =>
      intro h
      by_cases c : (st 0 0).toNat = n + 1
      · unfold nIn; rw [c]
      · rw [cntN_s, ih (by omega), if_neg]
        · rfl
        · intro z
          have := in_lt w (of_decide_eq_true z)
          omega
  exact key 7 (by omega)
theorem lsP_sum {st : St} (w : WF st) {tr nw : Nat → Int} {i : Nat} (co : Nat) (h : ∀ k, k < nIn st → tr (selS st k) = (i : Int) - nw k) : ∀ p : Nat, (p : Int) ≤ st 0 0 → lsP st co tr p = sumN (ltF (st 0 5) nw i) (cntN (inP st) p) - (if co < p ∧ st 1 co ≠ 0 then ltF (st 0 5) nw i (cntN (inP st) co) else 0) := by
  intro p
  induction p with
  | zero => intro _; rw [if_neg (fun z => absurd z.1 (Nat.not_lt_zero _))]; rfl
  | succ p ih =>
    intro hp'
    have e1 : lsP st co tr (p + 1) = lsP st co tr p + if p = co ∨ st 1 p = 0 ∨ 100 - st 0 5 * tr p < 0 then 0 else 100 - st 0 5 * tr p := rfl
    rw [e1, ih (by omega), cntN_s]
    by_cases c : st 1 p = 0
    · have ei : inP st p = false := decide_eq_false (fun z => z c)
      rw [ei, if_pos (Or.inr (Or.inl c))]
      have e2 : (co < p + 1 ∧ st 1 co ≠ 0) = (co < p ∧ st 1 co ≠ 0) := propext ⟨fun z => ⟨by
        have : co ≠ p := fun y => z.2 (by rw [y]; exact c)
        have := z.1
        omega, z.2⟩, fun z => ⟨by have := z.1; omega, z.2⟩⟩
      simp only [e2]
      rw [if_neg (c := (false = true)) (by decide), Nat.add_zero]
      omega
    · have ei : inP st p = true := decide_eq_true c
      have hk := cnt_in (st := st) (p := p) (by omega) c
      have hs := sel_hit w (j := p) (by omega) ei
      have ht := h _ hk
      rw [hs] at ht
      rw [ei, if_pos (c := (true = true)) rfl]
      have e3 : sumN (ltF (st 0 5) nw i) (cntN (inP st) p + 1) = sumN (ltF (st 0 5) nw i) (cntN (inP st) p) + ltF (st 0 5) nw i (cntN (inP st) p) := rfl
      rw [e3]
      have e4 : ltF (st 0 5) nw i (cntN (inP st) p) = if 0 < 100 - st 0 5 * tr p then 100 - st 0 5 * tr p else 0 := by
        unfold ltF ltV
        rw [ht]
      by_cases d : p = co
      · rw [if_pos (Or.inl d), if_neg (c := (co < p ∧ st 1 co ≠ 0)) (by omega), if_pos (c := (co < p + 1 ∧ st 1 co ≠ 0)) ⟨by omega, by rw [← d]; exact c⟩, ← d]
        omega
      · have e2 : (co < p + 1 ∧ st 1 co ≠ 0) = (co < p ∧ st 1 co ≠ 0) := propext ⟨fun z => ⟨by have := z.1; omega, z.2⟩, fun z => ⟨by have := z.1; omega, z.2⟩⟩
        simp only [e2]
        rw [e4]
        generalize (if co < p ∧ st 1 co ≠ 0 then ltF (st 0 5) nw i (cntN (inP st) co) else 0) = Z
        by_cases f : 100 - st 0 5 * tr p < 0
        · rw [if_pos (Or.inr (Or.inr f)), if_neg (by omega)]; omega
        · rw [if_neg (fun z => by rcases z with z | z | z; exact d z; exact c z; exact f z)]
          by_cases g : 0 < 100 - st 0 5 * tr p
          · rw [if_pos g]; omega
          · rw [if_neg g]; omega
theorem dig_s (q d i j : Nat) (hd : d < 8) (hj : j < i) : (8 * q + d) / 8 ^ (i - j) = q / 8 ^ (i - 1 - j) := by
  rw [show i - j = (i - 1 - j) + 1 by omega, Nat.pow_succ, Nat.mul_comm (8 ^ (i - 1 - j)) 8, ← Nat.div_div_eq_div_mul]
  congr 1
  omega
theorem FL_MR {st : St} (w : WF st) {y : Nat} : ∀ (r i q : Nat) (nw now tr : Nat → Int) (sum : Int) (B' : PB) (B : CB), i + r = y → (∀ k, k < nIn st → tr (selS st k) = (i : Int) - nw k) → (∀ j, j < i → now j = dcD (q / 8 ^ (i - 1 - j) % 8)) → RB y B' B → RB y (FL (nIn st) (nuS st) (st 0 5) r i nw now sum B') (MR st r q tr sum B) := by
  have h0 := w.1.1
  intro r
  induction r with
  | zero =>
    intro i q nw now tr sum B' B hi ht hn hB
    have e1 : FL (nIn st) (nuS st) (st 0 5) 0 i nw now sum B' = if B'.1 < sum then (sum, now) else B' := rfl
    have e2 : MR st 0 q tr sum B = if B.1 < sum then (sum, q) else B := rfl
    rw [e1, e2, hB.1]
    by_cases c : B.1 < sum
    · rw [if_pos c, if_pos c]
      refine ⟨rfl, fun _ j hj => ?_⟩
      show now j = dcD (dgM q y j)
      unfold dgM
      rw [hn j (by omega), show i - 1 - j = y - 1 - j by omega]
    · rw [if_neg c, if_neg c]; exact hB
  | succ r ih =>
    intro i q nw now tr sum B' B hi ht hn hB
    obtain ⟨S, hS⟩ : ∃ S, S = sumN (ltF (st 0 5) nw i) (nIn st) := ⟨_, rfl⟩
    obtain ⟨f, hf⟩ : ∃ f : Nat → PB → PB, f = fun k B => FL (nIn st) (nuS st) (st 0 5) r (i + 1) (upF nw k ((i : Int) + 1)) (upF now i (nuS st k)) (sum + S - ltF (st 0 5) nw i k) B := ⟨_, rfl⟩
    have e1 : FL (nIn st) (nuS st) (st 0 5) (r + 1) i nw now sum B' = FL (nIn st) (nuS st) (st 0 5) r (i + 1) nw (upF now i (-900009)) (sum + S) (lpF f (nIn st) B') := by rw [hf, hS]; rfl
    have key : ∀ d, d ≤ 7 → RB y (lpF f (cntN (inP st) d) B') (fdC (MRg st r q tr sum) d B) := by
      intro d
      induction d with
      | zero => exact fun _ => hB
      | succ d ik =>
        intro hd
        have e3 : fdC (MRg st r q tr sum) (d + 1) B = MRg st r q tr sum d (fdC (MRg st r q tr sum) d B) := rfl
        rw [e3, cntN_s]
        have kk := ik (by omega)
        generalize fdC (MRg st r q tr sum) d B = BB at kk ⊢
        unfold MRg
        by_cases c : st 1 d = 0
        · rw [show inP st d = false from decide_eq_false (fun z => z c), if_neg (c := (false = true)) (by decide), if_pos ⟨by omega, Or.inr c⟩]
          exact kk
        · have hdl := in_lt w c
          rw [show inP st d = true from decide_eq_true c, if_pos (c := (true = true)) rfl, if_neg (fun z => by rcases z.2 with z | z; omega; exact c z)]
          have e4 : lpF f (cntN (inP st) d + 1) B' = f (cntN (inP st) d) (lpF f (cntN (inP st) d) B') := rfl
          rw [e4]
          generalize lpF f (cntN (inP st) d) B' = BB' at kk ⊢
          have hk := cnt_in hdl c
          have hs := sel_hit w hdl (decide_eq_true c)
          have hl := lsP_sum w d ht (st 0 0).toNat (by omega)
          rw [if_pos ⟨by omega, c⟩] at hl
          have hl' : sum + lsP st d tr (st 0 0).toNat = sum + S - ltF (st 0 5) nw i (cntN (inP st) d) := by rw [hl, hS]; show sum + (sumN (ltF (st 0 5) nw i) (nIn st) - _) = _; omega
          rw [hl', hf]
          refine ih (i + 1) (8 * q + d) _ _ _ _ _ _ (by omega) (fun k' hk' => ?_) (fun j hj => ?_) kk
          · unfold trN upF
            by_cases z : k' = cntN (inP st) d
            · rw [if_pos z, if_pos (by rw [z]; exact hs)]; omega
            · have hne : selS st k' ≠ d := fun yy => by
                have := (sel_ex w hk').2.2
                rw [yy] at this
                exact z this.symm
              rw [if_neg z, if_neg hne, ht k' hk']; omega
          · unfold upF
            by_cases z : j = i
            · rw [if_pos z, z, show i + 1 - 1 - i = 0 by omega, Nat.pow_zero, Nat.div_one, show (8 * q + d) % 8 = d by omega]
              unfold dcD nuS
              rw [if_neg (by omega), hs]
            · rw [if_neg z, hn j (by omega), show i + 1 - 1 - j = i - j by omega, dig_s q d i j (by omega) (by omega)]
    rw [MR_s, e1]
    have e5 : fdC (MRg st r q tr sum) 8 B = MRg st r q tr sum 7 (fdC (MRg st r q tr sum) 7 B) := rfl
    rw [e5]
    have kk := key 7 (Nat.le_refl _)
    rw [cnt7 w] at kk
    generalize fdC (MRg st r q tr sum) 7 B = BB at kk ⊢
    unfold MRg
    rw [if_neg (fun z => absurd z.1 (by decide))]
    have hl := lsP_sum w 7 ht (st 0 0).toNat (by omega)
    rw [if_neg (fun z => by have := z.1; omega)] at hl
    have hl' : sum + lsP st 7 tr (st 0 0).toNat = sum + S := by rw [hl, hS]; show sum + (sumN (ltF (st 0 5) nw i) (nIn st) - 0) = _; omega
    rw [hl']
    refine ih (i + 1) (8 * q + 7) _ _ _ _ _ _ (by omega) (fun k' hk' => ?_) (fun j hj => ?_) kk
    · unfold trN
      have hne : selS st k' ≠ 7 := fun yy => by
        have := (sel_ex w hk').1
        rw [yy] at this
        omega
      rw [if_neg hne, ht k' hk']; omega
    · unfold upF
      by_cases z : j = i
      · rw [if_pos z, z, show i + 1 - 1 - i = 0 by omega, Nat.pow_zero, Nat.div_one, show (8 * q + 7) % 8 = 7 by omega]
        rfl
      · rw [if_neg z, hn j (by omega), show i + 1 - 1 - j = i - j by omega, dig_s q 7 i j (by omega) (by omega)]
theorem plan_RB {st : St} (w : WF st) (y : Nat) : RB y (plS st y) (lpM st y (8 ^ y)) := by
  rw [lpM_MR]
  unfold plS
  refine FL_MR w y 0 0 _ _ _ 0 _ _ (by omega) (fun k hk => ?_) (fun j hj => by omega) ⟨rfl, fun z => absurd z (by decide)⟩
  show st 24 (selS st k) = ((0 : Nat) : Int) - (- st 24 (selS st k))
  omega
theorem eq_plan {st : St} (w : WF st) (v : Int) : rx_plan st v = rm_plan st v := by
  unfold rx_plan rm_plan
  by_cases c : bt v 1 4
  · rw [if_pos c, if_pos c]; exact (plan_RB w v.toNat).1
  · rw [if_neg c, if_neg c]
theorem eq_coat {st : St} (w : WF st) (v i : Int) : rx_coat st v i = rm_coat st v i := by
  unfold rx_coat rm_coat
  by_cases c : bt v 1 4 ∧ bt i 0 (v - 1)
  · rw [if_pos c, if_pos c]
    have c1 : 1 ≤ v ∧ v ≤ 4 := c.1
    have c2 : 0 ≤ i ∧ i ≤ v - 1 := c.2
    exact (plan_RB w v.toNat).2 (lpM_pos w (by omega)) i.toNat (by omega)
  · rw [if_neg c, if_neg c]
