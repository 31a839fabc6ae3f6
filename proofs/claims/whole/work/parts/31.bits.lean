/-! an int as a set of bits -/
def b32 (x : Int32) (i : Nat) : Bool := x.toBitVec.getLsbD i
theorem b32_or (x y : Int32) (i : Nat) : b32 (x ||| y) i = (b32 x i || b32 y i) := by unfold b32; rw [Int32.toBitVec_or, BitVec.getLsbD_or]
theorem b32_and (x y : Int32) (i : Nat) : b32 (x &&& y) i = (b32 x i && b32 y i) := by unfold b32; rw [Int32.toBitVec_and, BitVec.getLsbD_and]
theorem b32_ext {x y : Int32} (h : ∀ i, i < 32 → b32 x i = b32 y i) : x = y := Int32.toBitVec_inj.mp (BitVec.eq_of_getLsbD_eq (fun i hi => h i hi))
theorem b32_0 (i : Nat) : b32 (iI 0) i = false := BitVec.getLsbD_zero
theorem b32_1 : ∀ i, i < 32 → b32 (iI 1) i = decide (i = 0) := by decide +kernel
theorem b32_sl : ∀ n : Nat, n < 32 → ((iI (n : Nat) &&& 31).toBitVec.smod 32).toNat = n := by decide +kernel
theorem b32_shl {n : Nat} (hn : n < 32) (x : Int32) {i : Nat} (hi : i < 32) : b32 (x <<< (iI (n : Nat) &&& 31)) i = (decide (n ≤ i) && b32 x (i - n)) := by
  unfold b32
  rw [Int32.toBitVec_shiftLeft]
  show (x.toBitVec <<< ((iI (n : Nat) &&& 31).toBitVec.smod 32).toNat).getLsbD i = _
  rw [b32_sl n hn, BitVec.getLsbD_shiftLeft]
  rcases Nat.lt_or_ge i n with h | h
  · simp [h, Nat.not_le.mpr h]
  · simp [hi, h, Nat.not_lt.mpr h]
theorem b32_shr {n : Nat} (hn : n < 32) (x : Int32) {i : Nat} (hi : i < 32) : b32 (x >>> (iI (n : Nat) &&& 31)) i = if n + i < 32 then b32 x (n + i) else b32 x 31 := by
  unfold b32
  rw [Int32.toBitVec_shiftRight]
  show (x.toBitVec.sshiftRight ((iI (n : Nat) &&& 31).toBitVec.smod 32).toNat).getLsbD i = _
  rw [b32_sl n hn, BitVec.getLsbD_sshiftRight, BitVec.msb_eq_getLsbD_last]
  simp [hi]
theorem b32_2 {n i : Nat} (hn : n < 32) (hi : i < 32) : b32 (iI 1 <<< (iI (n : Nat) &&& 31)) i = decide (i = n) := by
  rw [b32_shl hn _ hi, b32_1 _ (by omega)]
  by_cases z : n ≤ i
  · rw [decide_eq_true z, Bool.true_and, decide_eq_decide]; omega
  · rw [decide_eq_false z, Bool.false_and]
    exact (decide_eq_false (by omega)).symm
theorem b32_t {n : Nat} (hn : n < 32) (x : Int32) : (x >>> (iI (n : Nat) &&& 31) &&& iI 1 = iI 1) = (b32 x n = true) := by
  have e : ∀ i, i < 32 → b32 (x >>> (iI (n : Nat) &&& 31) &&& iI 1) i = (decide (i = 0) && b32 x n) := by
    intro i hi
    rw [b32_and, b32_1 i hi, b32_shr hn x hi]
    by_cases z : i = 0
    · subst z
      rw [if_pos (by omega)]
      simp
    · simp [z]
  refine propext ⟨fun q => ?_, fun q => b32_ext (fun i hi => ?_)⟩
  · have h := e 0 (by omega)
    rw [q, b32_1 0 (by omega)] at h
    simpa using h.symm
  · rw [e i hi, q, Bool.and_true, b32_1 i hi]
theorem b32_t0 {n : Nat} (hn : n < 32) (x : Int32) : (x >>> (iI (n : Nat) &&& 31) &&& iI 1 = 0) = (b32 x n = false) := by
  have e : ∀ i, i < 32 → b32 (x >>> (iI (n : Nat) &&& 31) &&& iI 1) i = (decide (i = 0) && b32 x n) := by
    intro i hi
    rw [b32_and, b32_1 i hi, b32_shr hn x hi]
    by_cases z : i = 0
    · subst z
      rw [if_pos (by omega)]
      simp
    · simp [z]
  refine propext ⟨fun q => ?_, fun q => b32_ext (fun i hi => ?_)⟩
  · have h := e 0 (by omega)
    rw [q] at h
    have z : b32 (0 : Int32) 0 = false := b32_0 0
    rw [z] at h
    simpa using h.symm
  · rw [e i hi, q, Bool.and_false]
    exact (b32_0 i).symm
/-! the places of a set, in order -/
theorem cntN_s (P : Nat → Bool) (n : Nat) : cntN P (n + 1) = cntN P n + if P n then 1 else 0 := rfl
theorem cntN_mono (P : Nat → Bool) {m n : Nat} (h : m ≤ n) : cntN P m ≤ cntN P n := by
  induction n with
  | zero => rw [show m = 0 by omega]; exact Nat.le_refl _
  | succ n ih =>
    by_cases c : m = n + 1
    · rw [c]; exact Nat.le_refl _
    · have := ih (by omega)
      rw [cntN_s]
      omega
theorem cntN_ex (P : Nat → Bool) : ∀ (n k : Nat), k < cntN P n → ∃ j, j < n ∧ P j = true ∧ cntN P j = k := by
  intro n
  induction n with
  | zero => intro k hk; exact absurd hk (Nat.not_lt_zero _)
  | succ n ih =>
    intro k hk
    by_cases c : k < cntN P n
    · obtain ⟨j, a, b, d⟩ := ih k c
      exact ⟨j, by omega, b, d⟩
    · rw [cntN_s] at hk
      by_cases p : P n = true
      · rw [if_pos p] at hk
        exact ⟨n, by omega, p, by omega⟩
      · rw [if_neg p] at hk
        omega
def nthF (P : Nat → Bool) : Nat → Nat → Int → Int
  | 0, _, _ => -900009
  | n + 1, k, l => if P k = true then (if l = 0 then k else nthF P n (k + 1) (l - 1)) else nthF P n (k + 1) l
def nthS (P : Nat → Bool) (i : Int) : Int := if 0 ≤ i then nthF P 24 0 i else -900009
theorem nthF_hit (P : Nat → Bool) {j : Nat} (hj : P j = true) : ∀ (n k : Nat), k ≤ j → j < k + n → nthF P n k ((cntN P j : Int) - cntN P k) = j := by
  intro n
  induction n with
  | zero => intro k h1 h2; omega
  | succ n ih =>
    intro k h1 h2
    unfold nthF
    by_cases c : P k = true
    · have e1 : cntN P (k + 1) = cntN P k + 1 := by rw [cntN_s, if_pos c]
      rw [if_pos c]
      by_cases d : k = j
      · subst d; rw [if_pos (by omega)]
      · have m := cntN_mono P (m := k + 1) (n := j) (by omega)
        rw [if_neg (by omega)]
        have q := ih (k + 1) (by omega) (by omega)
        rw [e1] at q
        rw [show (cntN P j : Int) - cntN P k - 1 = (cntN P j : Int) - (cntN P k + 1 : Nat) by omega]
        exact q
    · have e1 : cntN P (k + 1) = cntN P k := by rw [cntN_s, if_neg c]; rfl
      rw [if_neg c]
      have d : k ≠ j := by intro e; rw [e] at c; exact c hj
      have q := ih (k + 1) (by omega) (by omega)
      rw [e1] at q
      exact q
theorem nthF_no (P : Nat → Bool) : ∀ (n k : Nat) (l : Int), (cntN P (k + n) : Int) - cntN P k ≤ l → nthF P n k l = -900009 := by
  intro n
  induction n with
  | zero => intro k l _; rfl
  | succ n ih =>
    intro k l h
    have e0 : k + (n + 1) = k + 1 + n := by omega
    have m := cntN_mono P (m := k + 1) (n := k + 1 + n) (by omega)
    rw [e0] at h
    unfold nthF
    by_cases c : P k = true
    · have e1 : cntN P (k + 1) = cntN P k + 1 := by rw [cntN_s, if_pos c]
      rw [if_pos c, if_neg (by omega)]
      exact ih _ _ (by omega)
    · have e1 : cntN P (k + 1) = cntN P k := by rw [cntN_s, if_neg c]; rfl
      rw [if_neg c]
      exact ih _ _ (by omega)
