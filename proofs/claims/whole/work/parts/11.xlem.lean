section XL
variable {h : hp} {ad : Ad} {st : St}
theorem xi_3_0_0 (R : RX h ad st) {i : Nat} (hi : (i : Int) < st 0 0) : hI h 3 0 (ad 0 i) = iI (st 26 (i)) := by
  have := R.2.2.2.1 (3, 0, 0, 26, 1, 0, 0) (by decide) i hi
  simpa using this
theorem xi_3_1_0 (R : RX h ad st) {i : Nat} (hi : (i : Int) < st 0 0) : hI h 3 1 (ad 0 i) = iI (st 1 (i)) := by
  have := R.2.2.2.1 (3, 1, 0, 1, 1, 0, 0) (by decide) i hi
  simpa using this
theorem xi_3_4_0 (R : RX h ad st) {i : Nat} (hi : (i : Int) < st 0 0) : hI h 3 4 (ad 0 i) = iI (st 25 (i)) := by
  have := R.2.2.2.1 (3, 4, 0, 25, 1, 0, 0) (by decide) i hi
  simpa using this
theorem xi_3_7_0 (R : RX h ad st) {i : Nat} (hi : (i : Int) < st 0 0) : hI h 3 7 (ad 0 i) = iI (st 24 (i)) := by
  have := R.2.2.2.1 (3, 7, 0, 24, 1, 0, 0) (by decide) i hi
  simpa using this
theorem xi_4_0_1 (R : RX h ad st) {i : Nat} (hi : (i : Int) < st 0 0) : hI h 4 0 (ad 1 i) = iI (st 2 (3 * i)) := by
  have := R.2.2.2.1 (4, 0, 1, 2, 3, 0, 0) (by decide) i hi
  simpa using this
theorem xi_4_1_1 (R : RX h ad st) {i : Nat} (hi : (i : Int) < st 0 0) : hI h 4 1 (ad 1 i) = iI (st 2 (3 * i + 1)) := by
  have := R.2.2.2.1 (4, 1, 1, 2, 3, 1, 0) (by decide) i hi
  simpa using this
theorem xi_4_2_1 (R : RX h ad st) {i : Nat} (hi : (i : Int) < st 0 0) : hI h 4 2 (ad 1 i) = iI (st 2 (3 * i + 2)) := by
  have := R.2.2.2.1 (4, 2, 1, 2, 3, 2, 0) (by decide) i hi
  simpa using this
theorem xi_4_0_2 (R : RX h ad st) {i : Nat} (hi : (i : Int) < st 0 0) : hI h 4 0 (ad 2 i) = iI (st 3 (3 * i)) := by
  have := R.2.2.2.1 (4, 0, 2, 3, 3, 0, 0) (by decide) i hi
  simpa using this
theorem xi_4_1_2 (R : RX h ad st) {i : Nat} (hi : (i : Int) < st 0 0) : hI h 4 1 (ad 2 i) = iI (st 3 (3 * i + 1)) := by
  have := R.2.2.2.1 (4, 1, 2, 3, 3, 1, 0) (by decide) i hi
  simpa using this
theorem xi_4_2_2 (R : RX h ad st) {i : Nat} (hi : (i : Int) < st 0 0) : hI h 4 2 (ad 2 i) = iI (st 3 (3 * i + 2)) := by
  have := R.2.2.2.1 (4, 2, 2, 3, 3, 2, 0) (by decide) i hi
  simpa using this
theorem xi_100_0_3 (R : RX h ad st) {i : Nat} (hi : (i : Int) < st 0 0) : hI h 100 0 (ad 3 i) = iI (st 22 (3 * i)) := by
  have := R.2.2.2.1 (100, 0, 3, 22, 3, 0, 0) (by decide) i hi
  simpa using this
theorem xi_100_1_3 (R : RX h ad st) {i : Nat} (hi : (i : Int) < st 0 0) : hI h 100 1 (ad 3 i) = iI (st 22 (3 * i + 1)) := by
  have := R.2.2.2.1 (100, 1, 3, 22, 3, 1, 0) (by decide) i hi
  simpa using this
theorem xi_100_2_3 (R : RX h ad st) {i : Nat} (hi : (i : Int) < st 0 0) : hI h 100 2 (ad 3 i) = iI (st 22 (3 * i + 2)) := by
  have := R.2.2.2.1 (100, 2, 3, 22, 3, 2, 0) (by decide) i hi
  simpa using this
theorem xi_101_0_4 (R : RX h ad st) {i : Nat} (hi : (i : Int) < st 0 0) : hI h 101 0 (ad 4 i) = iI (st 23 (3 * i)) := by
  have := R.2.2.2.1 (101, 0, 4, 23, 3, 0, 0) (by decide) i hi
  simpa using this
theorem xi_101_1_4 (R : RX h ad st) {i : Nat} (hi : (i : Int) < st 0 0) : hI h 101 1 (ad 4 i) = iI (st 23 (3 * i + 1)) := by
  have := R.2.2.2.1 (101, 1, 4, 23, 3, 1, 0) (by decide) i hi
  simpa using this
theorem xi_101_2_4 (R : RX h ad st) {i : Nat} (hi : (i : Int) < st 0 0) : hI h 101 2 (ad 4 i) = iI (st 23 (3 * i + 2)) := by
  have := R.2.2.2.1 (101, 2, 4, 23, 3, 2, 0) (by decide) i hi
  simpa using this
theorem xi_0_2_5 (R : RX h ad st) {i : Nat} (hi : (i : Int) < st 0 1) : hI h 0 2 (ad 5 i) = iI (st 6 (i)) := by
  have := R.2.2.2.1 (0, 2, 5, 6, 1, 0, 1) (by decide) i hi
  simpa using this
theorem xi_0_3_5 (R : RX h ad st) {i : Nat} (hi : (i : Int) < st 0 1) : hI h 0 3 (ad 5 i) = iI (st 7 (i)) := by
  have := R.2.2.2.1 (0, 3, 5, 7, 1, 0, 1) (by decide) i hi
  simpa using this
theorem xi_0_4_5 (R : RX h ad st) {i : Nat} (hi : (i : Int) < st 0 1) : hI h 0 4 (ad 5 i) = iI (st 8 (i)) := by
  have := R.2.2.2.1 (0, 4, 5, 8, 1, 0, 1) (by decide) i hi
  simpa using this
theorem xi_0_5_5 (R : RX h ad st) {i : Nat} (hi : (i : Int) < st 0 1) : hI h 0 5 (ad 5 i) = iI (st 9 (i)) := by
  have := R.2.2.2.1 (0, 5, 5, 9, 1, 0, 1) (by decide) i hi
  simpa using this
theorem xi_0_6_5 (R : RX h ad st) {i : Nat} (hi : (i : Int) < st 0 1) : hI h 0 6 (ad 5 i) = iI (st 10 (i)) := by
  have := R.2.2.2.1 (0, 6, 5, 10, 1, 0, 1) (by decide) i hi
  simpa using this
theorem xi_0_7_5 (R : RX h ad st) {i : Nat} (hi : (i : Int) < st 0 1) : hI h 0 7 (ad 5 i) = iI (st 11 (i)) := by
  have := R.2.2.2.1 (0, 7, 5, 11, 1, 0, 1) (by decide) i hi
  simpa using this
theorem xi_1_0_6 (R : RX h ad st) {i : Nat} (hi : (i : Int) < st 0 2) : hI h 1 0 (ad 6 i) = iI (st 12 (i)) := by
  have := R.2.2.2.1 (1, 0, 6, 12, 1, 0, 2) (by decide) i hi
  simpa using this
theorem xi_1_1_6 (R : RX h ad st) {i : Nat} (hi : (i : Int) < st 0 2) : hI h 1 1 (ad 6 i) = iI (st 13 (i)) := by
  have := R.2.2.2.1 (1, 1, 6, 13, 1, 0, 2) (by decide) i hi
  simpa using this
theorem xi_1_2_6 (R : RX h ad st) {i : Nat} (hi : (i : Int) < st 0 2) : hI h 1 2 (ad 6 i) = iI (st 14 (i)) := by
  have := R.2.2.2.1 (1, 2, 6, 14, 1, 0, 2) (by decide) i hi
  simpa using this
theorem xi_1_3_6 (R : RX h ad st) {i : Nat} (hi : (i : Int) < st 0 2) : hI h 1 3 (ad 6 i) = iI (st 15 (i)) := by
  have := R.2.2.2.1 (1, 3, 6, 15, 1, 0, 2) (by decide) i hi
  simpa using this
theorem xi_1_4_6 (R : RX h ad st) {i : Nat} (hi : (i : Int) < st 0 2) : hI h 1 4 (ad 6 i) = iI (st 16 (i)) := by
  have := R.2.2.2.1 (1, 4, 6, 16, 1, 0, 2) (by decide) i hi
  simpa using this
theorem xi_1_5_6 (R : RX h ad st) {i : Nat} (hi : (i : Int) < st 0 2) : hI h 1 5 (ad 6 i) = iI (st 17 (i)) := by
  have := R.2.2.2.1 (1, 5, 6, 17, 1, 0, 2) (by decide) i hi
  simpa using this
theorem xi_2_2_7 (R : RX h ad st) {i : Nat} (hi : (i : Int) < st 0 3) : hI h 2 2 (ad 7 i) = iI (st 20 (i)) := by
  have := R.2.2.2.1 (2, 2, 7, 20, 1, 0, 3) (by decide) i hi
  simpa using this
theorem xi_2_3_7 (R : RX h ad st) {i : Nat} (hi : (i : Int) < st 0 3) : hI h 2 3 (ad 7 i) = iI (st 21 (i)) := by
  have := R.2.2.2.1 (2, 3, 7, 21, 1, 0, 3) (by decide) i hi
  simpa using this
theorem xT_0 (R : RX h ad st) {i : Nat} (hi : (i : Int) < st 0 0) : hT h (ad 0 i) = some (3, 8) := R.1.2.2 (0, 3, 8, 0) (by decide) i hi
theorem xo_0 (R : RX h ad st) {i : Nat} (hi : (i : Int) < st 0 0) : isO h (ad 0 i) 3 := ⟨_, xT_0 R hi⟩
theorem xj_0 (R : RX h ad st) {i j : Nat} (hi : (i : Int) < st 0 0) (hj : (j : Int) < st 0 0) : ad 0 i = ad 0 j ↔ i = j := ⟨R.2.2.2.2.1.1 (0, 3, 8, 0) (by decide) i j hi hj, fun e => by rw [e]⟩
theorem xT_1 (R : RX h ad st) {i : Nat} (hi : (i : Int) < st 0 0) : hT h (ad 1 i) = some (4, 3) := R.1.2.2 (1, 4, 3, 0) (by decide) i hi
theorem xo_1 (R : RX h ad st) {i : Nat} (hi : (i : Int) < st 0 0) : isO h (ad 1 i) 4 := ⟨_, xT_1 R hi⟩
theorem xj_1 (R : RX h ad st) {i j : Nat} (hi : (i : Int) < st 0 0) (hj : (j : Int) < st 0 0) : ad 1 i = ad 1 j ↔ i = j := ⟨R.2.2.2.2.1.1 (1, 4, 3, 0) (by decide) i j hi hj, fun e => by rw [e]⟩
theorem xT_2 (R : RX h ad st) {i : Nat} (hi : (i : Int) < st 0 0) : hT h (ad 2 i) = some (4, 3) := R.1.2.2 (2, 4, 3, 0) (by decide) i hi
theorem xo_2 (R : RX h ad st) {i : Nat} (hi : (i : Int) < st 0 0) : isO h (ad 2 i) 4 := ⟨_, xT_2 R hi⟩
theorem xj_2 (R : RX h ad st) {i j : Nat} (hi : (i : Int) < st 0 0) (hj : (j : Int) < st 0 0) : ad 2 i = ad 2 j ↔ i = j := ⟨R.2.2.2.2.1.1 (2, 4, 3, 0) (by decide) i j hi hj, fun e => by rw [e]⟩
theorem xT_3 (R : RX h ad st) {i : Nat} (hi : (i : Int) < st 0 0) : hT h (ad 3 i) = some (100, 3) := R.1.2.2 (3, 100, 3, 0) (by decide) i hi
theorem xo_3 (R : RX h ad st) {i : Nat} (hi : (i : Int) < st 0 0) : isO h (ad 3 i) 100 := ⟨_, xT_3 R hi⟩
theorem xj_3 (R : RX h ad st) {i j : Nat} (hi : (i : Int) < st 0 0) (hj : (j : Int) < st 0 0) : ad 3 i = ad 3 j ↔ i = j := ⟨R.2.2.2.2.1.1 (3, 100, 3, 0) (by decide) i j hi hj, fun e => by rw [e]⟩
theorem xT_4 (R : RX h ad st) {i : Nat} (hi : (i : Int) < st 0 0) : hT h (ad 4 i) = some (101, 3) := R.1.2.2 (4, 101, 3, 0) (by decide) i hi
theorem xo_4 (R : RX h ad st) {i : Nat} (hi : (i : Int) < st 0 0) : isO h (ad 4 i) 101 := ⟨_, xT_4 R hi⟩
theorem xj_4 (R : RX h ad st) {i j : Nat} (hi : (i : Int) < st 0 0) (hj : (j : Int) < st 0 0) : ad 4 i = ad 4 j ↔ i = j := ⟨R.2.2.2.2.1.1 (4, 101, 3, 0) (by decide) i j hi hj, fun e => by rw [e]⟩
theorem xT_5 (R : RX h ad st) {i : Nat} (hi : (i : Int) < st 0 1) : hT h (ad 5 i) = some (0, 8) := R.1.2.2 (5, 0, 8, 1) (by decide) i hi
theorem xo_5 (R : RX h ad st) {i : Nat} (hi : (i : Int) < st 0 1) : isO h (ad 5 i) 0 := ⟨_, xT_5 R hi⟩
theorem xj_5 (R : RX h ad st) {i j : Nat} (hi : (i : Int) < st 0 1) (hj : (j : Int) < st 0 1) : ad 5 i = ad 5 j ↔ i = j := ⟨R.2.2.2.2.1.1 (5, 0, 8, 1) (by decide) i j hi hj, fun e => by rw [e]⟩
theorem xT_6 (R : RX h ad st) {i : Nat} (hi : (i : Int) < st 0 2) : hT h (ad 6 i) = some (1, 6) := R.1.2.2 (6, 1, 6, 2) (by decide) i hi
theorem xo_6 (R : RX h ad st) {i : Nat} (hi : (i : Int) < st 0 2) : isO h (ad 6 i) 1 := ⟨_, xT_6 R hi⟩
theorem xj_6 (R : RX h ad st) {i j : Nat} (hi : (i : Int) < st 0 2) (hj : (j : Int) < st 0 2) : ad 6 i = ad 6 j ↔ i = j := ⟨R.2.2.2.2.1.1 (6, 1, 6, 2) (by decide) i j hi hj, fun e => by rw [e]⟩
theorem xT_7 (R : RX h ad st) {i : Nat} (hi : (i : Int) < st 0 3) : hT h (ad 7 i) = some (2, 4) := R.1.2.2 (7, 2, 4, 3) (by decide) i hi
theorem xo_7 (R : RX h ad st) {i : Nat} (hi : (i : Int) < st 0 3) : isO h (ad 7 i) 2 := ⟨_, xT_7 R hi⟩
theorem xj_7 (R : RX h ad st) {i j : Nat} (hi : (i : Int) < st 0 3) (hj : (j : Int) < st 0 3) : ad 7 i = ad 7 j ↔ i = j := ⟨R.2.2.2.2.1.1 (7, 2, 4, 3) (by decide) i j hi hj, fun e => by rw [e]⟩
theorem xo_x (R : RX h ad st) : isO h (ad 30 0) 11 := ⟨_, R.1.1⟩
theorem xa_23 (R : RX h ad st) : hR h 11 0 (ad 30 0) = some (ad 8 0) := (R.1.2.1 (0, 23, 7, 0, 0, 0) (by decide)).1
theorem xat_23 (R : RX h ad st) : hT h (ad 8 0) = some (23, 7) := (R.1.2.1 (0, 23, 7, 0, 0, 0) (by decide)).2
theorem xae_23 (R : RX h ad st) {i : Nat} (hi : (i : Int) < st 0 0) : hR h 23 i (ad 8 0) = some (ad 0 i) := R.2.2.1.1 (0, 23, 7, 0, 0, 0) (by decide) i hi
theorem xa_24 (R : RX h ad st) : hR h 11 2 (ad 30 0) = some (ad 8 1) := (R.1.2.1 (2, 24, 24, 1, 5, 1) (by decide)).1
theorem xat_24 (R : RX h ad st) : hT h (ad 8 1) = some (24, 24) := (R.1.2.1 (2, 24, 24, 1, 5, 1) (by decide)).2
theorem xae_24 (R : RX h ad st) {i : Nat} (hi : (i : Int) < st 0 1) : hR h 24 i (ad 8 1) = some (ad 5 i) := R.2.2.1.1 (2, 24, 24, 1, 5, 1) (by decide) i hi
theorem xa_25 (R : RX h ad st) : hR h 11 4 (ad 30 0) = some (ad 8 2) := (R.1.2.1 (4, 25, 21, 2, 6, 2) (by decide)).1
theorem xat_25 (R : RX h ad st) : hT h (ad 8 2) = some (25, 21) := (R.1.2.1 (4, 25, 21, 2, 6, 2) (by decide)).2
theorem xae_25 (R : RX h ad st) {i : Nat} (hi : (i : Int) < st 0 2) : hR h 25 i (ad 8 2) = some (ad 6 i) := R.2.2.1.1 (4, 25, 21, 2, 6, 2) (by decide) i hi
theorem xa_26 (R : RX h ad st) : hR h 11 6 (ad 30 0) = some (ad 8 3) := (R.1.2.1 (6, 26, 20, 3, 7, 3) (by decide)).1
theorem xat_26 (R : RX h ad st) : hT h (ad 8 3) = some (26, 20) := (R.1.2.1 (6, 26, 20, 3, 7, 3) (by decide)).2
theorem xae_26 (R : RX h ad st) {i : Nat} (hi : (i : Int) < st 0 3) : hR h 26 i (ad 8 3) = some (ad 7 i) := R.2.2.1.1 (6, 26, 20, 3, 7, 3) (by decide) i hi
theorem xr_3_2 (R : RX h ad st) {i : Nat} (hi : (i : Int) < st 0 0) : hR h 3 2 (ad 0 i) = some (ad 1 i) := R.2.2.1.2.1 (2, 1) (by decide) i hi
theorem xr_3_3 (R : RX h ad st) {i : Nat} (hi : (i : Int) < st 0 0) : hR h 3 3 (ad 0 i) = some (ad 2 i) := R.2.2.1.2.1 (3, 2) (by decide) i hi
theorem xr_3_5 (R : RX h ad st) {i : Nat} (hi : (i : Int) < st 0 0) : hR h 3 5 (ad 0 i) = some (ad 3 i) := R.2.2.1.2.1 (5, 3) (by decide) i hi
theorem xr_3_6 (R : RX h ad st) {i : Nat} (hi : (i : Int) < st 0 0) : hR h 3 6 (ad 0 i) = some (ad 4 i) := R.2.2.1.2.1 (6, 4) (by decide) i hi
theorem xr_0_0 (R : RX h ad st) {i : Nat} (hi : (i : Int) < st 0 1) : hR h 0 0 (ad 5 i) = some (ad 0 (st 4 i).toNat) := (R.2.2.1.2.2.1 i hi).1
theorem xr_0_1 (R : RX h ad st) {i : Nat} (hi : (i : Int) < st 0 1) : hR h 0 1 (ad 5 i) = some (ad 0 (st 5 i).toNat) := (R.2.2.1.2.2.1 i hi).2
theorem xr_2_0 (R : RX h ad st) {i : Nat} (hi : (i : Int) < st 0 3) : hR h 2 0 (ad 7 i) = some (ad 0 (st 18 i).toNat) := (R.2.2.1.2.2.2 i hi).1
theorem xr_2_1 (R : RX h ad st) {i : Nat} (hi : (i : Int) < st 0 3) : hR h 2 1 (ad 7 i) = some (ad 0 (st 19 i).toNat) := (R.2.2.1.2.2.2 i hi).2
theorem xc_0 (R : RX h ad st) : hI h 11 1 (ad 30 0) = iI (st 0 0) := R.2.1.1
theorem xc_1 (R : RX h ad st) : hI h 11 3 (ad 30 0) = iI (st 0 1) := R.2.1.2.1
theorem xc_2 (R : RX h ad st) : hI h 11 5 (ad 30 0) = iI (st 0 2) := R.2.1.2.2.1
theorem xc_3 (R : RX h ad st) : hI h 11 7 (ad 30 0) = iI (st 0 3) := R.2.1.2.2.2.1
theorem xc_4 (R : RX h ad st) : hI h 11 8 (ad 30 0) = iI (st 0 4) := R.2.1.2.2.2.2.1
theorem xc_5 (R : RX h ad st) : hI h 11 9 (ad 30 0) = iI (st 0 5) := R.2.1.2.2.2.2.2
theorem wr_11_10 (R : RW h ad) : hR h 11 10 (ad 30 0) = some (ad 8 4) := (R.1 (11, 10, (30, 0), 6, 2, (8, 4)) (by decide)).1
theorem wt_11_10 (R : RW h ad) : hT h (ad 8 4) = some (6, 2) := (R.1 (11, 10, (30, 0), 6, 2, (8, 4)) (by decide)).2
theorem wo_11_10 (R : RW h ad) : isO h (ad 8 4) 6 := ⟨_, wt_11_10 R⟩
theorem wr_11_11 (R : RW h ad) : hR h 11 11 (ad 30 0) = some (ad 8 5) := (R.1 (11, 11, (30, 0), 9, 6, (8, 5)) (by decide)).1
theorem wt_11_11 (R : RW h ad) : hT h (ad 8 5) = some (9, 6) := (R.1 (11, 11, (30, 0), 9, 6, (8, 5)) (by decide)).2
theorem wo_11_11 (R : RW h ad) : isO h (ad 8 5) 9 := ⟨_, wt_11_11 R⟩
theorem wr_11_12 (R : RW h ad) : hR h 11 12 (ad 30 0) = some (ad 8 6) := (R.1 (11, 12, (30, 0), 10, 4, (8, 6)) (by decide)).1
theorem wt_11_12 (R : RW h ad) : hT h (ad 8 6) = some (10, 4) := (R.1 (11, 12, (30, 0), 10, 4, (8, 6)) (by decide)).2
theorem wo_11_12 (R : RW h ad) : isO h (ad 8 6) 10 := ⟨_, wt_11_12 R⟩
theorem wr_11_13 (R : RW h ad) : hR h 11 13 (ad 30 0) = some (ad 8 7) := (R.1 (11, 13, (30, 0), 5, 8, (8, 7)) (by decide)).1
theorem wt_11_13 (R : RW h ad) : hT h (ad 8 7) = some (5, 8) := (R.1 (11, 13, (30, 0), 5, 8, (8, 7)) (by decide)).2
theorem wo_11_13 (R : RW h ad) : isO h (ad 8 7) 5 := ⟨_, wt_11_13 R⟩
theorem wr_11_14 (R : RW h ad) : hR h 11 14 (ad 30 0) = some (ad 8 8) := (R.1 (11, 14, (30, 0), 7, 3, (8, 8)) (by decide)).1
theorem wt_11_14 (R : RW h ad) : hT h (ad 8 8) = some (7, 3) := (R.1 (11, 14, (30, 0), 7, 3, (8, 8)) (by decide)).2
theorem wo_11_14 (R : RW h ad) : isO h (ad 8 8) 7 := ⟨_, wt_11_14 R⟩
theorem wr_11_15 (R : RW h ad) : hR h 11 15 (ad 30 0) = some (ad 8 9) := (R.1 (11, 15, (30, 0), 112, 24, (8, 9)) (by decide)).1
theorem wt_11_15 (R : RW h ad) : hT h (ad 8 9) = some (112, 24) := (R.1 (11, 15, (30, 0), 112, 24, (8, 9)) (by decide)).2
theorem wr_6_0 (R : RW h ad) : hR h 6 0 (ad 8 4) = some (ad 9 0) := (R.1 (6, 0, (8, 4), 27, 3, (9, 0)) (by decide)).1
theorem wt_6_0 (R : RW h ad) : hT h (ad 9 0) = some (27, 3) := (R.1 (6, 0, (8, 4), 27, 3, (9, 0)) (by decide)).2
theorem wr_6_1 (R : RW h ad) : hR h 6 1 (ad 8 4) = some (ad 9 1) := (R.1 (6, 1, (8, 4), 106, 19, (9, 1)) (by decide)).1
theorem wt_6_1 (R : RW h ad) : hT h (ad 9 1) = some (106, 19) := (R.1 (6, 1, (8, 4), 106, 19, (9, 1)) (by decide)).2
theorem wr_9_0 (R : RW h ad) : hR h 9 0 (ad 8 5) = some (ad 9 2) := (R.1 (9, 0, (8, 5), 30, 7, (9, 2)) (by decide)).1
theorem wt_9_0 (R : RW h ad) : hT h (ad 9 2) = some (30, 7) := (R.1 (9, 0, (8, 5), 30, 7, (9, 2)) (by decide)).2
theorem wr_9_1 (R : RW h ad) : hR h 9 1 (ad 8 5) = some (ad 9 3) := (R.1 (9, 1, (8, 5), 31, 7, (9, 3)) (by decide)).1
theorem wt_9_1 (R : RW h ad) : hT h (ad 9 3) = some (31, 7) := (R.1 (9, 1, (8, 5), 31, 7, (9, 3)) (by decide)).2
theorem wr_9_2 (R : RW h ad) : hR h 9 2 (ad 8 5) = some (ad 9 4) := (R.1 (9, 2, (8, 5), 108, 7, (9, 4)) (by decide)).1
theorem wt_9_2 (R : RW h ad) : hT h (ad 9 4) = some (108, 7) := (R.1 (9, 2, (8, 5), 108, 7, (9, 4)) (by decide)).2
theorem wr_9_3 (R : RW h ad) : hR h 9 3 (ad 8 5) = some (ad 9 5) := (R.1 (9, 3, (8, 5), 109, 7, (9, 5)) (by decide)).1
theorem wt_9_3 (R : RW h ad) : hT h (ad 9 5) = some (109, 7) := (R.1 (9, 3, (8, 5), 109, 7, (9, 5)) (by decide)).2
theorem wr_10_0 (R : RW h ad) : hR h 10 0 (ad 8 6) = some (ad 9 6) := (R.1 (10, 0, (8, 6), 29, 7, (9, 6)) (by decide)).1
theorem wt_10_0 (R : RW h ad) : hT h (ad 9 6) = some (29, 7) := (R.1 (10, 0, (8, 6), 29, 7, (9, 6)) (by decide)).2
theorem wr_10_2 (R : RW h ad) : hR h 10 2 (ad 8 6) = some (ad 9 7) := (R.1 (10, 2, (8, 6), 110, 128, (9, 7)) (by decide)).1
theorem wt_10_2 (R : RW h ad) : hT h (ad 9 7) = some (110, 128) := (R.1 (10, 2, (8, 6), 110, 128, (9, 7)) (by decide)).2
theorem wr_10_3 (R : RW h ad) : hR h 10 3 (ad 8 6) = some (ad 9 8) := (R.1 (10, 3, (8, 6), 111, 7, (9, 8)) (by decide)).1
theorem wt_10_3 (R : RW h ad) : hT h (ad 9 8) = some (111, 7) := (R.1 (10, 3, (8, 6), 111, 7, (9, 8)) (by decide)).2
theorem wr_5_0 (R : RW h ad) : hR h 5 0 (ad 8 7) = some (ad 9 9) := (R.1 (5, 0, (8, 7), 102, 7, (9, 9)) (by decide)).1
theorem wt_5_0 (R : RW h ad) : hT h (ad 9 9) = some (102, 7) := (R.1 (5, 0, (8, 7), 102, 7, (9, 9)) (by decide)).2
theorem wr_5_2 (R : RW h ad) : hR h 5 2 (ad 8 7) = some (ad 9 10) := (R.1 (5, 2, (8, 7), 103, 7, (9, 10)) (by decide)).1
theorem wt_5_2 (R : RW h ad) : hT h (ad 9 10) = some (103, 7) := (R.1 (5, 2, (8, 7), 103, 7, (9, 10)) (by decide)).2
theorem wr_5_3 (R : RW h ad) : hR h 5 3 (ad 8 7) = some (ad 9 11) := (R.1 (5, 3, (8, 7), 104, 4, (9, 11)) (by decide)).1
theorem wt_5_3 (R : RW h ad) : hT h (ad 9 11) = some (104, 4) := (R.1 (5, 3, (8, 7), 104, 4, (9, 11)) (by decide)).2
theorem wr_5_4 (R : RW h ad) : hR h 5 4 (ad 8 7) = some (ad 9 12) := (R.1 (5, 4, (8, 7), 105, 4, (9, 12)) (by decide)).1
theorem wt_5_4 (R : RW h ad) : hT h (ad 9 12) = some (105, 4) := (R.1 (5, 4, (8, 7), 105, 4, (9, 12)) (by decide)).2
theorem RX.w (R : RX h ad st) : RW h ad := R.2.2.2.2.2
end XL
