/-! numbers: iI of an Int -/
theorem iI_add (a b : Int) : iI a + iI b = iI (a + b) := by unfold iI; rw [Int32.ofInt_add]
theorem iI_sub (a b : Int) : iI a - iI b = iI (a - b) := by unfold iI; rw [Int32.ofInt_sub]
theorem iI_mul (a b : Int) : iI a * iI b = iI (a * b) := by unfold iI; rw [Int32.ofInt_mul]
theorem iI_neg (a : Int) : - iI a = iI (-a) := by unfold iI; rw [Int32.ofInt_neg]
theorem iI_toInt {a : Int} (h : -2147483648 ≤ a ∧ a ≤ 2147483647) : (iI a).toInt = a := by
  unfold iI
  exact Int32.toInt_ofInt_of_le (by omega) (by omega)
theorem iI_of (x : Int32) : iI x.toInt = x := by unfold iI; exact Int32.ofInt_toInt x
theorem iI_rng (x : Int32) : -2147483648 ≤ x.toInt ∧ x.toInt ≤ 2147483647 := by
  have h1 := Int32.le_toInt x
  have h2 := Int32.toInt_lt x
  omega
theorem iI_lt {a b : Int} (ha : -2147483648 ≤ a ∧ a ≤ 2147483647) (hb : -2147483648 ≤ b ∧ b ≤ 2147483647) : iI a < iI b ↔ a < b := by
  rw [Int32.lt_iff_toInt_lt, iI_toInt ha, iI_toInt hb]
theorem iI_le {a b : Int} (ha : -2147483648 ≤ a ∧ a ≤ 2147483647) (hb : -2147483648 ≤ b ∧ b ≤ 2147483647) : iI a ≤ iI b ↔ a ≤ b := by
  rw [Int32.le_iff_toInt_le, iI_toInt ha, iI_toInt hb]
theorem iI_eq {a b : Int} (ha : -2147483648 ≤ a ∧ a ≤ 2147483647) (hb : -2147483648 ≤ b ∧ b ≤ 2147483647) : iI a = iI b ↔ a = b := by
  constructor
  · intro h
    rw [← iI_toInt ha, ← iI_toInt hb, h]
  · intro h; rw [h]
theorem iI_0 : (0 : Int32) = iI 0 := rfl
theorem iI_1 : (1 : Int32) = iI 1 := rfl
theorem iI_m1 : (-1 : Int32) = iI (-1) := rfl
theorem iI_eq0 {a : Int} (ha : -2147483648 ≤ a ∧ a ≤ 2147483647) : iI a = 0 ↔ a = 0 := by rw [iI_0]; exact iI_eq ha (by omega)
theorem iI_eq1 {a : Int} (ha : -2147483648 ≤ a ∧ a ≤ 2147483647) : iI a = 1 ↔ a = 1 := by rw [iI_1]; exact iI_eq ha (by omega)
theorem iI_lt0 {a : Int} (ha : -2147483648 ≤ a ∧ a ≤ 2147483647) : iI a < 0 ↔ a < 0 := by rw [iI_0]; exact iI_lt ha (by omega)
theorem iI_le0 {a : Int} (ha : -2147483648 ≤ a ∧ a ≤ 2147483647) : iI a ≤ 0 ↔ a ≤ 0 := by rw [iI_0]; exact iI_le ha (by omega)
theorem iI_0lt {a : Int} (ha : -2147483648 ≤ a ∧ a ≤ 2147483647) : 0 < iI a ↔ 0 < a := by rw [iI_0]; exact iI_lt (by omega) ha
theorem iI_0le {a : Int} (ha : -2147483648 ≤ a ∧ a ≤ 2147483647) : 0 ≤ iI a ↔ 0 ≤ a := by rw [iI_0]; exact iI_le (by omega) ha
theorem iI_cl {a : Int} (ha : -2147483648 ≤ a ∧ a ≤ 2147483647) : (iI a).toNatClampNeg = a.toNat := by
  show (iI a).toInt.toNat = a.toNat
  rw [iI_toInt ha]
theorem iI_in {a : Int} {n : Nat} (ha : 0 ≤ a ∧ a < n) (hn : n ≤ 2147483647) : vp_in (iI a) n := by
  rw [vp_in_iff, iI_toInt (by omega)]
  exact ha
theorem iI_div {a b : Int} (ha : -2147483647 ≤ a ∧ a ≤ 2147483647) (hb : 1 ≤ b ∧ b ≤ 2147483647) : iI a / iI b = iI (a.tdiv b) := by
  rw [← iI_of (iI a / iI b)]
  congr 1
  rw [Int32.toInt_div_of_ne_left, iI_toInt (by omega), iI_toInt (by omega)]
  intro h
  have h2 := congrArg Int32.toInt h
  rw [iI_toInt (by omega)] at h2
  have h3 : a = -2147483648 := h2
  omega
theorem iI_64 {a : Int} (ha : -2147483648 ≤ a ∧ a ≤ 2147483647) : (iI a).toInt64 = lI a := by
  unfold lI
  rw [← Int64.ofInt_toInt (iI a).toInt64, Int32.toInt_toInt64, iI_toInt ha]
theorem lI_add (a b : Int) : lI a + lI b = lI (a + b) := by unfold lI; rw [Int64.ofInt_add]
theorem lI_sub (a b : Int) : lI a - lI b = lI (a - b) := by unfold lI; rw [Int64.ofInt_sub]
theorem lI_mul (a b : Int) : lI a * lI b = lI (a * b) := by unfold lI; rw [Int64.ofInt_mul]
theorem lI_toInt {a : Int} (h : -9223372036854775808 ≤ a ∧ a ≤ 9223372036854775807) : (lI a).toInt = a := by
  unfold lI
  exact Int64.toInt_ofInt_of_le (by omega) (by omega)
theorem lI_of (x : Int64) : lI x.toInt = x := by unfold lI; exact Int64.ofInt_toInt x
theorem lI_lt {a b : Int} (ha : -9223372036854775808 ≤ a ∧ a ≤ 9223372036854775807) (hb : -9223372036854775808 ≤ b ∧ b ≤ 9223372036854775807) : lI a < lI b ↔ a < b := by
  rw [Int64.lt_iff_toInt_lt, lI_toInt ha, lI_toInt hb]
theorem lI_eq {a b : Int} (ha : -9223372036854775808 ≤ a ∧ a ≤ 9223372036854775807) (hb : -9223372036854775808 ≤ b ∧ b ≤ 9223372036854775807) : lI a = lI b ↔ a = b := by
  constructor
  · intro h
    rw [← lI_toInt ha, ← lI_toInt hb, h]
  · intro h; rw [h]
theorem lI_div {a b : Int} (ha : -9223372036854775807 ≤ a ∧ a ≤ 9223372036854775807) (hb : 1 ≤ b ∧ b ≤ 9223372036854775807) : lI a / lI b = lI (a.tdiv b) := by
  rw [← lI_of (lI a / lI b)]
  congr 1
  rw [Int64.toInt_div_of_ne_left, lI_toInt (by omega), lI_toInt (by omega)]
  intro h
  have h2 := congrArg Int64.toInt h
  rw [lI_toInt (by omega)] at h2
  have h3 : a = -9223372036854775808 := h2
  omega
theorem lgc_eq {a b : Int} (ha : -9223372036854775808 ≤ a ∧ a ≤ 9223372036854775807) (hb : -9223372036854775808 ≤ b ∧ b ≤ 9223372036854775807) : lgc (lI a) (lI b) = iI (if b < a then 1 else if a = b then 0 else -1) := by
  unfold lgc
  simp only [lI_lt hb ha, lI_eq ha hb]
  split
  · rfl
  · split <;> rfl
theorem isO_sI (h : hp) (c k a : Nat) (v : Int32) (b d : Nat) : isO (sI h c k a v) b d = isO h b d := rfl
theorem isO_sJ (h : hp) (c k a : Nat) (v : Int64) (b d : Nat) : isO (sJ h c k a v) b d = isO h b d := rfl
theorem isO_sR (h : hp) (c k a : Nat) (v : Option Nat) (b d : Nat) : isO (sR h c k a v) b d = isO h b d := rfl
theorem rf_some (a : Nat) : va_rf (some a) = .ref a := rfl
theorem rf_none : va_rf none = .null := rfl
theorem iz00 : (iI 0 = 0) = True := eq_true rfl
theorem iz11 : (iI 1 = 1) = True := eq_true rfl
theorem iz01 : (iI 0 = 1) = False := eq_false (by decide)
theorem iz10 : (iI 1 = 0) = False := eq_false (by decide)
theorem ib0 (p : Prop) [Decidable p] : (iI (if p then 1 else 0) = 0) = ¬ p := by
  by_cases h : p
  · rw [if_pos h]; simp [h, iz10]
  · rw [if_neg h]; simp [h, iz00]
theorem ib1 (p : Prop) [Decidable p] : (iI (if p then 1 else 0) = 1) = p := by
  by_cases h : p
  · rw [if_pos h]; simp [h, iz11]
  · rw [if_neg h]; simp [h, iz01]
theorem ib01 (p : Prop) [Decidable p] : (iI (if p then 1 else 0) = 0 ∨ iI (if p then 1 else 0) = 1) = True := by
  rw [ib0, ib1]
  by_cases h : p <;> simp [h]
