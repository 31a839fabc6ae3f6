/-! the ranks of the class and of the reference are one number: the rank over the integers -/
theorem ex_0 (r : Nat → Int) : exZ 0 r := fun _ h => Int.zero_dvd.mp h
theorem ex_B {p : Int} (h : 10099 ≤ p) {r : Nat → Int} (hr : rB r) : exZ p r := by
  intro k hk
  have b := hr k
  obtain ⟨q, hq⟩ := hk
  by_cases z : r k = 0
  · exact z
  · exfalso
    have h1 : p ∣ r k := ⟨q, hq⟩
    by_cases s : 0 < r k
    · have := Int.le_of_dvd s h1
      omega
    · have := Int.le_of_dvd (show 0 < -(r k) by omega) (Int.dvd_neg.mpr h1)
      omega
def gdR (r : Nat → Int) : Prop := rB r ∧ rOK r
theorem pz_i (i : Nat) : PZ (pr3 i) := by
  unfold pr3
  split
  · exact pz_1
  · split
    · exact pz_2
    · exact pz_3
theorem nd0 {p x : Int} (h : ¬ p ∣ x) : ¬ (0 : Int) ∣ x := fun z => h (by rw [Int.zero_dvd.mp z]; exact Int.dvd_zero p)
theorem sk_0 {p : Int} (hp : PZ p) {C : Nat} (hC : 18 ≤ C ∧ C ≤ 19) {rows : List (Nat → Int)} (he : ∀ r ∈ rows, exZ p r) : skP p C rows ≤ skP 0 C rows := by
  obtain ⟨rs, h1, h2, h3⟩ := sk_ge hp hC.2 he
  rw [← h2]
  exact sk_le' pz_0 hC (fun r _ => ex_0 r) h1 (fun c hc => List.mem_range.mp (List.mem_filter.mp hc).1) (nd0 h3)
theorem three {D : Int} (h : D.natAbs ≤ BIG) (h1 : (2147483647 : Int) ∣ D) (h2 : (2147483629 : Int) ∣ D) (h3 : (2147483587 : Int) ∣ D) : D = 0 := by
  obtain ⟨x, rfl⟩ := h1
  have k2 := (pz_2.2 _ _ h2).resolve_left (by decide)
  obtain ⟨y, rfl⟩ := k2
  have k3 := (pz_3.2 _ _ ((pz_3.2 _ _ h3).resolve_left (by decide))).resolve_left (by decide)
  obtain ⟨z, rfl⟩ := k3
  by_cases c : z = 0
  · rw [c]; rfl
  · exfalso
    have e : (2147483647 * (2147483629 * (2147483587 * z)) : Int).natAbs = 2147483647 * 2147483629 * 2147483587 * z.natAbs := by
      rw [Int.natAbs_mul, Int.natAbs_mul, Int.natAbs_mul]
      simp only [Nat.mul_assoc]
      rfl
    rw [e] at h
    have : 2147483647 * 2147483629 * 2147483587 * 1 ≤ 2147483647 * 2147483629 * 2147483587 * z.natAbs := Nat.mul_le_mul_left _ (by omega)
    have b : BIG < 2147483647 * 2147483629 * 2147483587 * 1 := by decide
    omega
/-- one of the three primes sees the whole rank -/
theorem sk_ex {C : Nat} (hC : 18 ≤ C ∧ C ≤ 19) {rows : List (Nat → Int)} (hg : ∀ r ∈ rows, gdR r) : ∃ i rs, i < 3 ∧ (∀ r ∈ rs, r ∈ rows) ∧ rs.length = skP 0 C rows ∧ ¬ pr3 i ∣ Dt rs ((List.range C).filter (sgP 0 rows).1) := by
  obtain ⟨rs, h1, h2, h3⟩ := sk_ge pz_0 hC.2 (rows := rows) (fun r _ => ex_0 r)
  have hl : rs.length < 20 := by
    have := cntN_le (sgP 0 rows).1 C
    rw [h2]; unfold skP; omega
  have sm := Dt_small (fun r hr => (hg r (h1 r hr)).2) hl (show C < 20 by omega) (sgP 0 rows).1
  by_cases c0 : pr3 0 ∣ Dt rs ((List.range C).filter (sgP 0 rows).1)
  · by_cases c1 : pr3 1 ∣ Dt rs ((List.range C).filter (sgP 0 rows).1)
    · by_cases c2 : pr3 2 ∣ Dt rs ((List.range C).filter (sgP 0 rows).1)
      · exfalso
        have z := three sm c0 c1 c2
        exact h3 (by rw [z]; exact Int.dvd_refl 0)
      · exact ⟨2, rs, by decide, h1, h2, c2⟩
    · exact ⟨1, rs, by decide, h1, h2, c1⟩
  · exact ⟨0, rs, by decide, h1, h2, c0⟩
theorem pr_big (i : Nat) : 10099 ≤ pr3 i := by have := pr3_rg i; omega
theorem mx3_eq (f : Nat → Nat) {m : Nat} (h1 : ∀ i, f i ≤ m) {j : Nat} (hj : j < 3) (h2 : m ≤ f j) : mx3 f 3 = m := by
  have e : ∀ n, mx3 f (n + 1) = if mx3 f n < f n then f n else mx3 f n := fun _ => rfl
  have le : ∀ n, mx3 f n ≤ m := by
    intro n
    induction n with
    | zero => exact Nat.zero_le _
    | succ n ih => rw [e]; split; exact h1 n; exact ih
  have ge : ∀ n, j < n → f j ≤ mx3 f n := by
    intro n
    induction n with
    | zero => intro h; omega
    | succ n ih =>
      intro h
      rw [e]
      by_cases c : j = n
      · rw [← c]; split <;> omega
      · have := ih (by omega)
        split <;> omega
  have a := le 3
  have b := ge 3 hj
  omega
theorem mx_sk {C : Nat} (hC : 18 ≤ C ∧ C ≤ 19) {rows : List (Nat → Int)} (hg : ∀ r ∈ rows, gdR r) : mx3 (fun i => cntN (sgt rows i).1 C) 3 = skP 0 C rows := by
  obtain ⟨j, rs, j1, h1, h2, h3⟩ := sk_ex hC hg
  refine mx3_eq _ (fun i => sk_0 (pz_i i) hC (fun r hr => ex_B (pr_big i) (hg r hr).1)) j1 ?_
  rw [← h2]
  exact sk_le' (pz_i j) hC (fun r hr => ex_B (pr_big j) (hg r hr).1) h1 (fun c hc => List.mem_range.mp (List.mem_filter.mp hc).1) h3
theorem rkC_0 {rows : List (Nat → Int)} (hg : ∀ r ∈ rows, gdR r) : rkC rows = skP 0 18 rows := mx_sk (by decide) hg
theorem allC_0 {rows : List (Nat → Int)} (hg : ∀ r ∈ rows, gdR r) : allC rows = skP 0 19 rows := mx_sk (by decide) hg
theorem mxN_4 {a b c d m : Nat} (ha : a ≤ m) (hb : b ≤ m) (hc : c ≤ m) (hd : d ≤ m) (h : m ≤ a ∨ m ≤ b ∨ m ≤ c) : mxN (mxN a b) (mxN c d) = m := by
  have e : ∀ x y, mxN x y = max x y := by
    intro x y
    unfold mxN
    split <;> omega
  rw [e, e, e]
  omega
theorem rkR_0 {C : Nat} (hC : 18 ≤ C ∧ C ≤ 19) {rows : List (Nat → Int)} (hg : ∀ r ∈ rows, gdR r) : rkR (rows.map exR).length (C + 3) (rwL (rows.map exR)) = skP 0 C rows := by
  have up' : ∀ p : Int, PZ p → 2 ≤ p → rkB p (rows.map exR).length (C + 3) (rwL (rows.map exR)) ≤ skP 0 C rows := by
    intro p hp h2
    obtain ⟨⟨rs, cs, h1, h3, h4, h5⟩, -⟩ := rkB_ok hp h2 (show C + 3 ≤ 22 by omega) (rows.map exR)
    rw [← h3]
    exact sk_le pz_0 hC (fun r _ => ex_0 r) h1 h4 (nd0 h5)
  obtain ⟨j, rs, j1, h1, h2, h3⟩ := sk_ex hC hg
  have lo : ∀ p : Int, PZ p → 2 ≤ p → ¬ p ∣ Dt rs ((List.range C).filter (sgP 0 rows).1) → skP 0 C rows ≤ rkB p (rows.map exR).length (C + 3) (rwL (rows.map exR)) := by
    intro p hp hp2 hd
    obtain ⟨-, k⟩ := rkB_ok hp hp2 (show C + 3 ≤ 22 by omega) (rows.map exR)
    have q := k (rs.map exR) (((List.range C).filter (sgP 0 rows).1).map (· + 3)) (fun r hr => by
      obtain ⟨v, hv, rfl⟩ := List.mem_map.mp hr
      exact List.mem_map_of_mem (h1 v hv)) (fun c hc => by
      obtain ⟨x, hx, rfl⟩ := List.mem_map.mp hc
      have := List.mem_range.mp (List.mem_filter.mp hx).1
      show x + 3 < C + 3
      omega) (by rw [Dt_map exR_3]; exact hd)
    rw [List.length_map, h2] at q
    exact q
  unfold rkR
  refine mxN_4 (up' _ pz_1 (by decide)) (up' _ pz_2 (by decide)) (up' _ pz_3 (by decide)) (up' _ pz_4 (by decide)) ?_
  by_cases z0 : j = 0
  · rw [z0] at h3; exact Or.inl (lo _ pz_1 (by decide) h3)
  · by_cases z1 : j = 1
    · rw [z1] at h3; exact Or.inr (Or.inl (lo _ pz_2 (by decide) h3))
    · rw [show j = 2 by omega] at h3; exact Or.inr (Or.inr (lo _ pz_3 (by decide) h3))
theorem cf_w {x y : Int} (hx : -9 ≤ x ∧ x ≤ 9) (hy : -9 ≤ y ∧ y ≤ 9) {k : Nat} (hk : k < 18) : (cf k x y).natAbs ≤ wgt k := by
  unfold cf wgt
  rw [if_pos hk]
  by_cases c : k % 3 = 0
  · rw [if_pos c, if_pos c]; decide
  · rw [if_neg c, if_neg c]
    split <;> omega
theorem rowC_ok {a b : Nat} {x y t : Int} (hx : -9 ≤ x ∧ x ≤ 9) (hy : -9 ≤ y ∧ y ≤ 9) (ht : -10098 ≤ t ∧ t ≤ 10098) : gdR (rowC a b x y t) := by
  refine ⟨rowC_B hx hy ht, (if a = 0 then 100 else a - 1), (if b = 0 then 100 else b - 1), fun k hk => ?_⟩
  unfold rowC
  by_cases c : k < 18
  · rw [if_pos c, if_neg (by omega), if_pos c]
    have w := cf_w hx hy c
    have ea : ∀ a : Nat, (k / 3 = if a = 0 then 100 else a - 1) = (k / 3 + 1 = a) := fun a => propext (by split <;> omega)
    simp only [ea]
    generalize cf k x y = z at w ⊢
    by_cases c1 : k / 3 + 1 = a
    · by_cases c2 : k / 3 + 1 = b
      · rw [if_pos c1, if_pos c2, if_pos c1, if_pos c2]; omega
      · rw [if_pos c1, if_neg c2, if_pos c1, if_neg c2, Int.sub_zero]; omega
    · by_cases c2 : k / 3 + 1 = b
      · rw [if_neg c1, if_pos c2, if_neg c1, if_pos c2]; omega
      · rw [if_neg c1, if_neg c2, if_neg c1, if_neg c2]; simp
  · rw [if_pos (show k = 18 by omega), if_neg c]
    unfold wgt
    rw [if_neg c]
    omega
theorem exR_row {a b : Nat} (ha : a < 7) (hb : b < 7) (x y t : Int) : exR (rowC a b x y t) = rowM a b x y t := by
  funext k
  unfold exR
  by_cases c : k < 3
  · rw [if_pos c]
    have e : ∀ q, q < 6 → rowC a b x y t (k + 3 * q) = (if q + 1 = a then cf k x y else 0) - (if q + 1 = b then cf k x y else 0) := by
      intro q hq
      unfold rowC
      rw [if_neg (by omega), if_pos (by omega), show (k + 3 * q) / 3 = q by omega]
      have : cf (k + 3 * q) x y = cf k x y := by unfold cf; rw [show (k + 3 * q) % 3 = k % 3 by omega]
      rw [this]
    have e0 := e 0 (by omega)
    have e1 := e 1 (by omega)
    have e2 := e 2 (by omega)
    have e3 := e 3 (by omega)
    have e4 := e 4 (by omega)
    have e5 := e 5 (by omega)
    rw [show k + 3 * 0 = k by omega] at e0
    rw [show k + 3 * 1 = k + 3 by omega] at e1
    rw [show k + 3 * 2 = k + 6 by omega] at e2
    rw [show k + 3 * 3 = k + 9 by omega] at e3
    rw [show k + 3 * 4 = k + 12 by omega] at e4
    rw [show k + 3 * 5 = k + 15 by omega] at e5
    have eM : rowM a b x y t k = (if 0 = a then cf k x y else 0) - (if 0 = b then cf k x y else 0) := by
      unfold rowM
      rw [if_neg (by omega), if_pos (by omega), show k / 3 = 0 by omega]
    rw [e0, e1, e2, e3, e4, e5, eM]
    generalize cf k x y = z
    have s : ∀ a : Nat, a < 7 → (if 0 + 1 = a then z else 0) + (if 1 + 1 = a then z else 0) + (if 2 + 1 = a then z else 0) + (if 3 + 1 = a then z else 0) + (if 4 + 1 = a then z else 0) + (if 5 + 1 = a then z else 0) = z - (if 0 = a then z else 0) := by
      intro a ha
      have h7 : a = 0 ∨ a = 1 ∨ a = 2 ∨ a = 3 ∨ a = 4 ∨ a = 5 ∨ a = 6 := by omega
      rcases h7 with rfl | rfl | rfl | rfl | rfl | rfl | rfl <;> simp
    have sa := s a ha
    have sb := s b hb
    omega
  · rw [if_neg c]
    unfold rowC rowM
    by_cases c1 : k = 21
    · rw [if_pos (by omega), if_pos c1]
    · rw [if_neg (by omega), if_neg c1]
      by_cases c2 : k < 21
      · rw [if_pos (by omega), if_pos c2, show (k - 3) / 3 + 1 = k / 3 by omega]
        have : cf (k - 3) x y = cf k x y := by unfold cf; rw [show (k - 3) % 3 = k % 3 by omega]
        rw [this]
      · rw [if_neg (by omega), if_neg c2]
theorem rwsF_c {st : St} {P P' : Nat → Bool} {t t' : Nat → Int} : ∀ n, (∀ e, e < n → P e = P' e ∧ (P e = true → t e = t' e)) → rwsF st P t n = rwsF st P' t' n := by
  intro n
  induction n with
  | zero => exact fun _ => rfl
  | succ n ih =>
    intro h
    have e : ∀ Q u, rwsF st Q u (n + 1) = rwsF st Q u n ++ (if Q n = true then [eyR st n (u n)] else []) := fun _ _ => rfl
    rw [e, e, ih (fun i hi => h i (by omega)), ← (h n (by omega)).1]
    by_cases c : P n = true
    · rw [if_pos c, if_pos c, (h n (by omega)).2 c]
    · rw [if_neg c, if_neg c]
theorem lyL_map {st : St} (w : WF st) {P : Nat → Bool} {t : Nat → Int} : ∀ n, lyL st P t n = (rwsF st P t n).map exR := by
  intro n
  induction n with
  | zero => rfl
  | succ n ih =>
    have e : rwsF st P t (n + 1) = rwsF st P t n ++ (if P n = true then [eyR st n (t n)] else []) := rfl
    have e2 : lyL st P t (n + 1) = if P n then lyL st P t n ++ [rowM (st 4 n).toNat (st 5 n).toNat (st 6 n) (st 7 n) (t n)] else lyL st P t n := rfl
    rw [e, e2, List.map_append, ih]
    obtain ⟨g1, g2, -⟩ := w.2.2.2.2.1 n
    by_cases c : P n = true
    · rw [if_pos c, if_pos c]
      show _ = _ ++ [exR (eyR st n (t n))]
      unfold eyR
      rw [exR_row (by omega) (by omega)]
    · rw [if_neg c, if_neg c]
      exact (List.append_nil _).symm
theorem rwsF_g {st : St} (w : WF st) {P : Nat → Bool} {t : Nat → Int} (ht : ∀ e, P e = true → -10098 ≤ t e ∧ t e ≤ 10098) : ∀ n, ∀ r ∈ rwsF st P t n, gdR r := by
  intro n
  induction n with
  | zero => intro r hr; exact absurd hr List.not_mem_nil
  | succ n ih =>
    intro r hr
    have e : rwsF st P t (n + 1) = rwsF st P t n ++ (if P n = true then [eyR st n (t n)] else []) := rfl
    rw [e] at hr
    rcases List.mem_append.mp hr with z | z
    · exact ih r z
    · by_cases c : P n = true
      · rw [if_pos c] at z
        rw [List.mem_singleton.mp z]
        exact rowC_ok (w.rg 6 (lo := -9) (hi := 9) (by decide) n) (w.rg 7 (lo := -9) (hi := 9) (by decide) n) (ht n c)
      · rw [if_neg c] at z
        exact absurd z List.not_mem_nil
