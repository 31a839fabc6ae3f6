/-! how large a minor can be -/
def sumL (g : Nat → Nat) : List Nat → Nat
  | [] => 0
  | c :: cs => g c + sumL g cs
theorem Wd_bnd (r : Nat → Int) (f : List Nat → Int) (g : Nat → Nat) : ∀ (cs pre : List Nat), (∀ s c t, cs = s ++ c :: t → (r c * f (pre ++ s ++ t)).natAbs ≤ g c) → (Wd r (fun t => f (pre ++ t)) cs).natAbs ≤ sumL g cs := by
  intro cs
  induction cs with
  | nil => intro pre _; exact Nat.le_refl _
  | cons c cs ih =>
    intro pre h
    rw [Wd_c]
    have k1 := h [] c cs rfl
    rw [List.append_nil] at k1
    have e : (fun t => f (pre ++ c :: t)) = fun t => f ((pre ++ [c]) ++ t) := by
      funext t
      rw [List.append_assoc]
      rfl
    have k2 := ih (pre ++ [c]) (fun s c' t hs => by
      have := h (c :: s) c' t (by rw [hs]; rfl)
      rw [List.append_assoc pre [c] s]
      exact this)
    rw [e]
    have k3 := Int.natAbs_sub_le (r c * f (pre ++ cs)) (Wd r (fun t => f ((pre ++ [c]) ++ t)) cs)
    show _ ≤ g c + sumL g cs
    omega
def fct : Nat → Nat
  | 0 => 1
  | n + 1 => (n + 1) * fct n
def prN (f : Nat → Nat) : Nat → Nat
  | 0 => 1
  | k + 1 => prN f k * f k
def nQ (q : Nat) (cs : List Nat) : Nat := cs.countP (fun c => decide (c < 18 ∧ c / 3 = q))
def nR (cs : List Nat) : Nat := cs.countP (fun c => decide (¬ c < 18))
def wgt (k : Nat) : Nat := if k < 18 then (if k % 3 = 0 then 1 else 9) else 10098
def PW : List Nat → Nat
  | [] => 1
  | c :: cs => wgt c * PW cs
def HF (n : Nat → Nat) : Nat := prN (fun q => fct (n q)) 6
def dec1 (n : Nat → Nat) (q : Nat) : Nat → Nat := fun i => if i = q then n i - 1 else n i
theorem prN_c {f g : Nat → Nat} : ∀ k, (∀ i, i < k → f i = g i) → prN f k = prN g k := by
  intro k
  induction k with
  | zero => exact fun _ => rfl
  | succ k ih => intro h; show prN f k * f k = prN g k * g k; rw [ih (fun i hi => h i (by omega)), h k (by omega)]
theorem HF_dec {n : Nat → Nat} {q : Nat} (hq : q < 6) : n q * HF (dec1 n q) ≤ HF n := by
  have key : ∀ k, q < k → 1 ≤ n q → n q * prN (fun i => fct (dec1 n q i)) k = prN (fun i => fct (n i)) k := by
    intro k
    induction k with
    | zero => intro h; omega
    | succ k ih =>
      intro h h1
      show n q * (prN (fun i => fct (dec1 n q i)) k * fct (dec1 n q k)) = prN (fun i => fct (n i)) k * fct (n k)
      by_cases c : q = k
      · rw [prN_c (f := fun i => fct (dec1 n q i)) (g := fun i => fct (n i)) k (fun i hi => by unfold dec1; rw [if_neg (by omega)])]
        have e1 : dec1 n q k = n q - 1 := by unfold dec1; rw [if_pos c.symm, c]
        have e2 : fct (n k) = n q * fct (n q - 1) := by
          rw [← c]
          obtain ⟨m, hm⟩ : ∃ m, n q = m + 1 := ⟨n q - 1, by omega⟩
          rw [hm]
          rfl
        rw [e1, e2, Nat.mul_left_comm]
      · have e1 : dec1 n q k = n k := by unfold dec1; rw [if_neg (fun z => c z.symm)]
        rw [e1, ← Nat.mul_assoc, ih (by omega) h1]
  by_cases c : 1 ≤ n q
  · exact Nat.le_of_eq (key 6 hq c)
  · rw [show n q = 0 by omega, Nat.zero_mul]; exact Nat.zero_le _
def CBd : Nat → Nat → Nat
  | 0, 0 => 1
  | 0, _ + 1 => 0
  | m + 1, 0 => 2 * CBd m 0
  | m + 1, j + 1 => 2 * CBd m (j + 1) + CBd m j
theorem PW_mid (s : List Nat) (c : Nat) (t : List Nat) : PW (s ++ c :: t) = wgt c * PW (s ++ t) := by
  induction s with
  | nil => rfl
  | cons x s ih => show wgt x * PW (s ++ c :: t) = wgt c * (wgt x * PW (s ++ t)); rw [ih, Nat.mul_left_comm]
theorem nQ_mid (q : Nat) (s : List Nat) (c : Nat) (t : List Nat) : nQ q (s ++ c :: t) = nQ q (s ++ t) + if c < 18 ∧ c / 3 = q then 1 else 0 := by
  unfold nQ
  rw [List.countP_append, List.countP_cons, List.countP_append]
  by_cases h : c < 18 ∧ c / 3 = q
  · rw [if_pos h, if_pos (decide_eq_true h)]; omega
  · rw [if_neg h, if_neg (by rw [decide_eq_false h]; decide)]; omega
theorem nR_mid (s : List Nat) (c : Nat) (t : List Nat) : nR (s ++ c :: t) = nR (s ++ t) + if c < 18 then 0 else 1 := by
  unfold nR
  rw [List.countP_append, List.countP_cons, List.countP_append]
  by_cases h : c < 18
  · rw [if_pos h, if_neg (by rw [decide_eq_false (fun z => z h)]; decide)]; omega
  · rw [if_neg h, if_pos (decide_eq_true h)]; omega
/-- a row on two pieces, and a reading -/
def rOK (r : Nat → Int) : Prop := ∃ a b : Nat, ∀ k, k < 19 → (r k).natAbs ≤ if k < 18 then ((if k / 3 = a then 1 else 0) + (if k / 3 = b then 1 else 0)) * wgt k else wgt k
theorem sum_two (a b X B : Nat) (A : Nat → Nat) : ∀ cs : List Nat, sumL (fun c => if c < 18 then ((if c / 3 = a then 1 else 0) + (if c / 3 = b then 1 else 0)) * A (c / 3) else B) cs = nQ a cs * A a + nQ b cs * A b + nR cs * B := by
  intro cs
  induction cs with
  | nil => show 0 = 0 * A a + 0 * A b + 0 * B; simp
  | cons c cs ih =>
    have e1 := nQ_mid a [] c cs
    have e2 := nQ_mid b [] c cs
    have e3 := nR_mid [] c cs
    rw [List.nil_append, List.nil_append] at e1 e2 e3
    show (if c < 18 then ((if c / 3 = a then 1 else 0) + (if c / 3 = b then 1 else 0)) * A (c / 3) else B) + sumL _ cs = _
    rw [ih, e1, e2, e3]
    by_cases h : c < 18
    · rw [if_pos h, if_pos h]
      by_cases ha : c / 3 = a
      · by_cases hb : c / 3 = b
        · rw [if_pos ha, if_pos hb, if_pos ⟨h, ha⟩, if_pos ⟨h, hb⟩, ← ha, ← hb]
          simp only [Nat.add_mul, Nat.one_mul, Nat.add_zero]
          omega
        · rw [if_pos ha, if_neg hb, if_pos ⟨h, ha⟩, if_neg (fun z => hb z.2), ← ha]
          simp only [Nat.add_mul, Nat.one_mul, Nat.add_zero]
          omega
      · by_cases hb : c / 3 = b
        · rw [if_neg ha, if_pos hb, if_neg (fun z => ha z.2), if_pos ⟨h, hb⟩, ← hb]
          simp only [Nat.add_mul, Nat.one_mul, Nat.zero_add, Nat.add_zero]
          omega
        · rw [if_neg ha, if_neg hb, if_neg (fun z => ha z.2), if_neg (fun z => hb z.2)]
          simp only [Nat.zero_mul, Nat.zero_add, Nat.add_zero]
    · rw [if_neg h, if_neg h, if_neg (fun z => h z.1), if_neg (fun z => h z.1)]
      simp only [Nat.add_mul, Nat.one_mul, Nat.add_zero]
      omega
theorem HF_c {n n' : Nat → Nat} (h : ∀ q, q < 6 → n q = n' q) : HF n = HF n' := prN_c 6 (fun q hq => by rw [h q hq])
theorem Dt_bnd : ∀ (rs : List (Nat → Int)), (∀ r ∈ rs, rOK r) → ∀ cs, lc 19 cs → nR cs ≤ 1 → (Dt rs cs).natAbs ≤ CBd rs.length (nR cs) * (PW cs * HF (fun q => nQ q cs)) := by
  intro rs
  induction rs with
  | nil =>
    intro _ cs _ _
    cases cs with
    | nil => show 1 ≤ _; decide
    | cons c cs => exact Nat.zero_le _
  | cons r rs ih =>
    intro h cs hc hn
    obtain ⟨a, b, hr⟩ := h r (List.mem_cons_self ..)
    have ih' := ih (fun y hy => h y (List.mem_cons_of_mem _ hy))
    obtain ⟨X, hX⟩ : ∃ X, X = PW cs * HF (fun q => nQ q cs) := ⟨_, rfl⟩
    have q := Wd_bnd r (Dt rs) (fun c => if c < 18 then ((if c / 3 = a then 1 else 0) + (if c / 3 = b then 1 else 0)) * (CBd rs.length (nR cs) * (PW cs * HF (dec1 (fun q => nQ q cs) (c / 3)))) else CBd rs.length (nR cs - 1) * X) cs [] (fun s c t hs => ?_)
    · have q' : (Dt (r :: rs) cs).natAbs ≤ _ := q
      rw [sum_two a b 0 (CBd rs.length (nR cs - 1) * X) (fun i => CBd rs.length (nR cs) * (PW cs * HF (dec1 (fun q => nQ q cs) i)))] at q'
      have one : ∀ i, nQ i cs * (CBd rs.length (nR cs) * (PW cs * HF (dec1 (fun q => nQ q cs) i))) ≤ CBd rs.length (nR cs) * X := by
        intro i
        by_cases hi : i < 6
        · have := HF_dec (n := fun q => nQ q cs) hi
          rw [Nat.mul_left_comm, Nat.mul_left_comm (nQ i cs), hX]
          exact Nat.mul_le_mul_left _ (Nat.mul_le_mul_left _ this)
        · have : nQ i cs = 0 := by
            unfold nQ
            rw [List.countP_eq_zero]
            intro c hc'
            rw [decide_eq_true_iff]
            omega
          rw [this, Nat.zero_mul]
          exact Nat.zero_le _
      have k1 := one a
      have k2 := one b
      rw [← hX, List.length_cons]
      by_cases z : nR cs = 0
      · rw [z] at q' k1 k2 ⊢
        have e : CBd (rs.length + 1) 0 = 2 * CBd rs.length 0 := rfl
        rw [e, Nat.mul_assoc]
        rw [Nat.zero_mul, Nat.add_zero] at q'
        omega
      · have z1 : nR cs = 1 := by omega
        rw [z1] at q' k1 k2 ⊢
        have e : CBd (rs.length + 1) 1 = 2 * CBd rs.length 1 + CBd rs.length 0 := rfl
        rw [e, Nat.add_mul, Nat.mul_assoc]
        rw [Nat.one_mul, show 1 - 1 = 0 from rfl] at q'
        omega
    · have hcl : lc 19 (s ++ t) := fun y hy => hc y (by
        rw [hs]
        rcases List.mem_append.mp hy with z | z
        · exact List.mem_append_left _ z
        · exact List.mem_append_right _ (List.mem_cons_of_mem _ z))
      have hcc : c < 19 := hc c (by rw [hs]; exact List.mem_append_right _ (List.mem_cons_self ..))
      have eR := nR_mid s c t
      rw [← hs] at eR
      have k := ih' (s ++ t) hcl (by omega)
      have eW := PW_mid s c t
      rw [← hs] at eW
      rw [List.nil_append, Int.natAbs_mul]
      have hrc := hr c hcc
      by_cases c18 : c < 18
      · rw [if_pos c18] at eR hrc ⊢
        have eN : HF (fun q => nQ q (s ++ t)) = HF (dec1 (fun q => nQ q cs) (c / 3)) := by
          refine HF_c (fun q hq => ?_)
          have e := nQ_mid q s c t
          rw [← hs] at e
          unfold dec1
          by_cases y : q = c / 3
          · rw [if_pos y]
            rw [if_pos ⟨c18, y.symm⟩] at e
            show nQ q (s ++ t) = nQ q cs - 1
            omega
          · rw [if_neg y]
            rw [if_neg (fun z => y z.2.symm)] at e
            show nQ q (s ++ t) = nQ q cs
            omega
        rw [eN, show nR (s ++ t) = nR cs by omega] at k
        refine Nat.le_trans (Nat.mul_le_mul hrc k) ?_
        rw [eW]
        generalize ((if c / 3 = a then 1 else 0) + (if c / 3 = b then 1 else 0) : Nat) = Y
        rw [Nat.mul_assoc Y]
        refine Nat.mul_le_mul_left Y (Nat.le_of_eq ?_)
        rw [Nat.mul_left_comm, Nat.mul_assoc]
      · rw [if_neg c18] at eR hrc ⊢
        have eN : HF (fun q => nQ q (s ++ t)) = HF (fun q => nQ q cs) := by
          refine HF_c (fun q hq => ?_)
          have e := nQ_mid q s c t
          rw [← hs, if_neg (fun z => c18 z.1)] at e
          exact e.symm
        rw [eN, show nR (s ++ t) = nR cs - 1 by omega] at k
        refine Nat.le_trans (Nat.mul_le_mul hrc k) ?_
        rw [hX, eW, Nat.mul_left_comm, Nat.mul_assoc]
        exact Nat.le_refl _
def BIG : Nat := 19 * 2 ^ 18 * ((9 ^ 12 * 10098) * 6 ^ 6)
theorem CBd_le : ∀ m : Nat, m < 20 → CBd m 0 ≤ 19 * 2 ^ 18 ∧ CBd m 1 ≤ 19 * 2 ^ 18 := by decide +kernel
theorem PW_app (a b : List Nat) : PW (a ++ b) = PW a * PW b := by
  induction a with
  | nil => rw [List.nil_append]; show PW b = 1 * PW b; rw [Nat.one_mul]
  | cons c a ih => show wgt c * PW (a ++ b) = wgt c * PW a * PW b; rw [ih, Nat.mul_assoc]
theorem wgt_pos (c : Nat) : 1 ≤ wgt c := by
  unfold wgt
  split
  · split <;> decide
  · decide
theorem PW_flt (P : Nat → Bool) : ∀ n, PW ((List.range n).filter P) ≤ PW (List.range n) := by
  intro n
  induction n with
  | zero => exact Nat.le_refl _
  | succ n ih =>
    rw [List.range_succ, List.filter_append, PW_app, PW_app]
    refine Nat.mul_le_mul ih ?_
    by_cases c : P n = true
    · rw [List.filter_cons_of_pos c]; exact Nat.le_refl _
    · rw [List.filter_cons_of_neg c]
      show 1 ≤ wgt n * 1
      have := wgt_pos n
      omega
theorem prN_le {f : Nat → Nat} {B : Nat} : ∀ k, (∀ i, i < k → f i ≤ B) → prN f k ≤ B ^ k := by
  intro k
  induction k with
  | zero => intro _; exact Nat.le_refl _
  | succ k ih => intro h; rw [Nat.pow_succ]; exact Nat.mul_le_mul (ih (fun i hi => h i (by omega))) (h k (by omega))
theorem fct_le : ∀ n : Nat, n < 4 → fct n ≤ 6 := by decide
theorem nQ_19 : ∀ C : Nat, C < 20 → (∀ q : Nat, q < 6 → nQ q (List.range C) < 4) ∧ nR (List.range C) ≤ 1 ∧ PW (List.range C) ≤ 9 ^ 12 * 10098 := by decide +kernel
theorem Dt_small {rs : List (Nat → Int)} (h : ∀ r ∈ rs, rOK r) (hl : rs.length < 20) {C : Nat} (hC : C < 20) (P : Nat → Bool) : (Dt rs ((List.range C).filter P)).natAbs ≤ BIG := by
  obtain ⟨g1, g2, g3⟩ := nQ_19 C hC
  have sl : List.Sublist ((List.range C).filter P) (List.range C) := List.filter_sublist
  have n2 : nR ((List.range C).filter P) ≤ 1 := Nat.le_trans (List.Sublist.countP_le sl) g2
  have n1 : ∀ q, q < 6 → nQ q ((List.range C).filter P) < 4 := fun q hq => Nat.lt_of_le_of_lt (List.Sublist.countP_le sl) (g1 q hq)
  have k := Dt_bnd rs h ((List.range C).filter P) (fun c hc => by
    have := List.mem_range.mp (List.mem_filter.mp hc).1
    omega) n2
  refine Nat.le_trans k ?_
  unfold BIG
  obtain ⟨m1, m2⟩ := CBd_le rs.length hl
  refine Nat.mul_le_mul ?_ (Nat.mul_le_mul (Nat.le_trans (PW_flt P C) g3) (prN_le 6 (fun q hq => fct_le _ (n1 q hq))))
  by_cases z : nR ((List.range C).filter P) = 0
  · rw [z]; exact m1
  · rw [show nR ((List.range C).filter P) = 1 by omega]; exact m2
