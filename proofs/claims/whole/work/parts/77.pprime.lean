/-! the primes, and powers modulo a prime -/
def bnm : Nat → Nat → Nat
  | _, 0 => 1
  | 0, _ + 1 => 0
  | n + 1, k + 1 => bnm n k + bnm n (k + 1)
theorem bnm_0 (n : Nat) : bnm n 0 = 1 := by cases n <;> rfl
theorem bnm_s (n k : Nat) : bnm (n + 1) (k + 1) = bnm n k + bnm n (k + 1) := rfl
theorem bnm_big : ∀ n k : Nat, n < k → bnm n k = 0 := by
  intro n
  induction n with
  | zero => intro k hk; obtain ⟨j, rfl⟩ : ∃ j, k = j + 1 := ⟨k - 1, by omega⟩; rfl
  | succ n ih =>
    intro k hk
    obtain ⟨j, rfl⟩ : ∃ j, k = j + 1 := ⟨k - 1, by omega⟩
    rw [bnm_s, ih j (by omega), ih (j + 1) (by omega)]
theorem bnm_n : ∀ n : Nat, bnm n n = 1 := by
  intro n
  induction n with
  | zero => rfl
  | succ n ih => rw [bnm_s, ih, bnm_big n (n + 1) (by omega)]
theorem bnm_mul : ∀ n k : Nat, (k + 1) * bnm (n + 1) (k + 1) = (n + 1) * bnm n k := by
  intro n
  induction n with
  | zero =>
    intro k
    cases k with
    | zero => rfl
    | succ k => rw [bnm_big 1 (k + 1 + 1) (by omega), bnm_big 0 (k + 1) (by omega), Nat.mul_zero, Nat.mul_zero]
  | succ n ih =>
    intro k
    cases k with
    | zero =>
      have a := ih 0
      rw [bnm_s (n + 1) 0, bnm_0, Nat.mul_one, Nat.zero_add, Nat.one_mul]
      rw [bnm_0, Nat.mul_one, Nat.zero_add, Nat.one_mul] at a
      omega
    | succ k =>
      have a := ih k
      have b := ih (k + 1)
      rw [bnm_s (n + 1) (k + 1), Nat.mul_add]
      have e : (k + 1 + 1) * bnm (n + 1) (k + 1) = (k + 1) * bnm (n + 1) (k + 1) + bnm (n + 1) (k + 1) := by rw [Nat.add_mul (k + 1) 1, Nat.one_mul]
      rw [e, a, b]
      have f : (n + 1 + 1) * bnm (n + 1) (k + 1) = (n + 1) * bnm (n + 1) (k + 1) + bnm (n + 1) (k + 1) := by rw [Nat.add_mul (n + 1) 1, Nat.one_mul]
      rw [f, bnm_s n k, Nat.mul_add]
      omega
def bsm (n : Nat) (x : Int) : Nat → Int
  | 0 => 0
  | m + 1 => bsm n x m + (bnm n m : Int) * x ^ m
theorem bsm_s (n : Nat) (x : Int) : ∀ m, bsm (n + 1) x (m + 1) = bsm n x (m + 1) + x * bsm n x m := by
  intro m
  induction m with
  | zero =>
    show 0 + ((bnm (n + 1) 0 : Nat) : Int) * x ^ 0 = 0 + ((bnm n 0 : Nat) : Int) * x ^ 0 + x * 0
    rw [bnm_0, bnm_0, Int.mul_zero, Int.add_zero]
  | succ m ih =>
    have e1 : bsm (n + 1) x (m + 1 + 1) = bsm (n + 1) x (m + 1) + ((bnm (n + 1) (m + 1) : Nat) : Int) * x ^ (m + 1) := rfl
    have e2 : bsm n x (m + 1 + 1) = bsm n x (m + 1) + ((bnm n (m + 1) : Nat) : Int) * x ^ (m + 1) := rfl
    have e3 : bsm n x (m + 1) = bsm n x m + ((bnm n m : Nat) : Int) * x ^ m := rfl
    rw [e1, ih, bnm_s, e2, Int.natCast_add, Int.add_mul]
    have e4 : x * bsm n x (m + 1) = x * bsm n x m + ((bnm n m : Nat) : Int) * x ^ (m + 1) := by
      rw [e3, Int.mul_add, Int.mul_left_comm, Int.pow_succ, Int.mul_comm x (x ^ m)]
    rw [e4]
    omega
theorem bsm_pow (x : Int) : ∀ n, (x + 1) ^ n = bsm n x (n + 1) := by
  intro n
  induction n with
  | zero => show (x + 1) ^ 0 = 0 + 1 * x ^ 0; rw [Int.pow_zero, Int.pow_zero]; rfl
  | succ n ih =>
    rw [Int.pow_succ, ih, Int.mul_add, Int.mul_one, bsm_s]
    have e : bsm n x (n + 1 + 1) = bsm n x (n + 1) + ((bnm n (n + 1) : Nat) : Int) * x ^ (n + 1) := rfl
    rw [e, bnm_big n (n + 1) (by omega), Int.mul_comm x]
    simp only [Int.natCast_zero, Int.zero_mul, Int.add_zero]
    omega
theorem fer_s {p : Nat} (hp : PZ (p : Int)) (h2 : 2 ≤ p) (x : Int) : (p : Int) ∣ (x + 1) ^ p - (x ^ p + 1) := by
  have key : ∀ m, m < p → (p : Int) ∣ bsm p x (m + 1) - 1 := by
    intro m
    induction m with
    | zero =>
      intro _
      show (p : Int) ∣ 0 + ((bnm p 0 : Nat) : Int) * x ^ 0 - 1
      rw [bnm_0, Int.pow_zero]
      exact Int.dvd_zero _
    | succ m ih =>
      intro hm
      have e : bsm p x (m + 1 + 1) = bsm p x (m + 1) + ((bnm p (m + 1) : Nat) : Int) * x ^ (m + 1) := rfl
      have d : (p : Int) ∣ ((bnm p (m + 1) : Nat) : Int) := by
        obtain ⟨q, rfl⟩ : ∃ q, p = q + 1 := ⟨p - 1, by omega⟩
        have b := bnm_mul q m
        have b2 : ((m + 1 : Nat) : Int) * ((bnm (q + 1) (m + 1) : Nat) : Int) = ((q + 1 : Nat) : Int) * ((bnm q m : Nat) : Int) := by
          rw [← Int.natCast_mul, ← Int.natCast_mul, b]
        have d2 : ((q + 1 : Nat) : Int) ∣ ((m + 1 : Nat) : Int) * ((bnm (q + 1) (m + 1) : Nat) : Int) := ⟨_, b2⟩
        rcases hp.2 _ _ d2 with z | z
        · exfalso
          have := Int.le_of_dvd (by omega) z
          omega
        · exact z
      have k := Int.dvd_add (ih (by omega)) (Int.dvd_mul_of_dvd_left (c := x ^ (m + 1)) d)
      have e3 : bsm p x (m + 1) + ((bnm p (m + 1) : Nat) : Int) * x ^ (m + 1) - 1 = bsm p x (m + 1) - 1 + ((bnm p (m + 1) : Nat) : Int) * x ^ (m + 1) := by omega
      rw [e, e3]
      exact k
  have k := key (p - 1) (by omega)
  rw [show p - 1 + 1 = p by omega] at k
  rw [bsm_pow]
  have e : bsm p x (p + 1) = bsm p x p + ((bnm p p : Nat) : Int) * x ^ p := rfl
  rw [e, bnm_n]
  have e2 : bsm p x p + ((1 : Nat) : Int) * x ^ p - (x ^ p + 1) = bsm p x p - 1 := by
    rw [show (((1 : Nat) : Int)) * x ^ p = x ^ p from Int.one_mul _]
    omega
  rw [e2]
  exact k
theorem fermat {p : Nat} (hp : PZ (p : Int)) (h2 : 2 ≤ p) : ∀ x : Nat, (p : Int) ∣ (x : Int) ^ p - x := by
  intro x
  induction x with
  | zero =>
    obtain ⟨q, rfl⟩ : ∃ q, p = q + 1 := ⟨p - 1, by omega⟩
    show ((q + 1 : Nat) : Int) ∣ (0 : Int) ^ (q + 1) - 0
    rw [Int.pow_succ, Int.mul_zero]
    exact Int.dvd_zero _
  | succ x ih =>
    have k := Int.dvd_add (fer_s hp h2 (x : Int)) ih
    have e : ((x + 1 : Nat) : Int) = (x : Int) + 1 := by omega
    rw [e]
    have e2 : ((x : Int) + 1) ^ p - ((x : Int) + 1) = ((x : Int) + 1) ^ p - ((x : Int) ^ p + 1) + ((x : Int) ^ p - (x : Int)) := by omega
    rw [e2]
    exact k
/-- the power that inverts -/
theorem inv_ok {p : Int} (hp : PZ p) (h2 : 2 ≤ p) {x : Int} (hx : 0 ≤ x) (hn : ¬ p ∣ x) : p ∣ x ^ (p - 2).toNat * x - 1 := by
  obtain ⟨P, rfl⟩ : ∃ P : Nat, p = P := ⟨p.toNat, by omega⟩
  obtain ⟨X, rfl⟩ : ∃ X : Nat, x = X := ⟨x.toNat, by omega⟩
  have k := fermat hp (by omega) X
  obtain ⟨q, hq⟩ : ∃ q, P = q + 2 := ⟨P - 2, by omega⟩
  have e : (X : Int) ^ P - X = ((X : Int) ^ q * X - 1) * X := by
    rw [hq, Int.pow_succ, Int.pow_succ, Int.sub_mul, Int.one_mul]
  rw [e] at k
  rw [show ((P : Int) - 2).toNat = q by omega]
  exact (hp.2 _ _ k).resolve_right hn
/-- no divisor from lo on, 2^n of them -/
def noD (p : Nat) : Nat → Nat → Bool
  | 0, lo => p % lo != 0
  | n + 1, lo => noD p n lo && noD p n (lo + 2 ^ n)
theorem noD_ok (p : Nat) : ∀ n lo d : Nat, noD p n lo = true → lo ≤ d → d < lo + 2 ^ n → p % d ≠ 0 := by
  intro n
  induction n with
  | zero =>
    intro lo d h h1 h2
    have : d = lo := by rw [Nat.pow_zero] at h2; omega
    rw [this]
    unfold noD at h
    simpa using h
  | succ n ih =>
    intro lo d h h1 h2
    have h' : (noD p n lo && noD p n (lo + 2 ^ n)) = true := h
    rw [Bool.and_eq_true] at h'
    by_cases c : d < lo + 2 ^ n
    · exact ih lo d h'.1 h1 c
    · exact ih (lo + 2 ^ n) d h'.2 (by omega) (by rw [Nat.pow_succ] at h2; omega)
theorem pz_of {p : Nat} (h1 : 65538 < p) (h2 : p < 4294967296) (h : noD p 16 2 = true) : PZ (p : Int) := by
  have small : ∀ d, 2 ≤ d → d < 65538 → p % d ≠ 0 := fun d h3 h4 => noD_ok p 16 2 d h h3 (by
    have : 2 ^ 16 = 65536 := rfl
    omega)
  have prm : ∀ d, d ∣ p → d = 1 ∨ d = p := by
    intro d hd
    obtain ⟨e, he⟩ := hd
    by_cases c1 : d = 1
    · exact Or.inl c1
    · by_cases c2 : d = p
      · exact Or.inr c2
      · exfalso
        have hd0 : d ≠ 0 := fun z => by rw [z, Nat.zero_mul] at he; omega
        have he0 : e ≠ 0 := fun z => by rw [z, Nat.mul_zero] at he; omega
        have he1 : e ≠ 1 := fun z => by rw [z, Nat.mul_one] at he; exact c2 he.symm
        by_cases c : d < 65538
        · exact small d (by omega) c (Nat.mod_eq_zero_of_dvd ⟨e, he⟩)
        · by_cases c' : e < 65538
          · exact small e (by omega) c' (Nat.mod_eq_zero_of_dvd ⟨d, by rw [Nat.mul_comm]; exact he⟩)
          · have : 65538 * 65538 ≤ d * e := Nat.mul_le_mul (by omega) (by omega)
            omega
  refine ⟨fun z => ?_, fun a b hab => ?_⟩
  · have := Int.le_of_dvd (by decide) z
    omega
  · rw [← Int.natAbs_dvd_natAbs, Int.natAbs_natCast, Int.natAbs_mul] at hab
    rcases prm _ (Nat.gcd_dvd_left p a.natAbs) with g | g
    · right
      have q := Nat.Coprime.dvd_of_dvd_mul_left (show Nat.Coprime p a.natAbs from g) hab
      exact Int.natAbs_dvd_natAbs.mp (by rw [Int.natAbs_natCast]; exact q)
    · left
      have q := Nat.gcd_dvd_right p a.natAbs
      rw [g] at q
      exact Int.natAbs_dvd_natAbs.mp (by rw [Int.natAbs_natCast]; exact q)
theorem pz_1 : PZ 2147483647 := pz_of (p := 2147483647) (by decide) (by decide) (by decide +kernel)
theorem pz_2 : PZ 2147483629 := pz_of (p := 2147483629) (by decide) (by decide) (by decide +kernel)
theorem pz_3 : PZ 2147483587 := pz_of (p := 2147483587) (by decide) (by decide) (by decide +kernel)
theorem pz_4 : PZ 2147483579 := pz_of (p := 2147483579) (by decide) (by decide) (by decide +kernel)
theorem pz_0 : PZ 0 := ⟨fun z => absurd (Int.zero_dvd.mp z) (by decide), fun a b h => by
  rcases Int.mul_eq_zero.mp (Int.zero_dvd.mp h) with z | z
  · left; rw [z]; exact Int.dvd_refl 0
  · right; rw [z]; exact Int.dvd_refl 0⟩
