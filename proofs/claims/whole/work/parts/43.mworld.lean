/-! THE REFERENCE'S WORLD: its arrays hold the state. Rows: place in the object, kind, length, field of the state -/
def mtab : List (Nat × Nat × Nat × Nat) := [(1, 201, 7, 1), (2, 113, 21, 2), (3, 114, 21, 3), (5, 115, 24, 4), (6, 116, 24, 5), (7, 117, 24, 6), (8, 118, 24, 7), (9, 119, 24, 8), (10, 202, 24, 9), (11, 120, 24, 10), (12, 121, 24, 11), (17, 122, 21, 12), (18, 123, 21, 13), (19, 124, 21, 14), (20, 125, 21, 15), (21, 126, 21, 16), (22, 127, 21, 17), (24, 128, 20, 18), (25, 129, 20, 19), (26, 130, 20, 20), (27, 131, 20, 21), (33, 136, 21, 22), (34, 137, 21, 23), (37, 140, 7, 24)]
def mscr : List (Nat × Nat × Nat) := [(14, 300, 572), (15, 301, 572), (29, 132, 7), (30, 133, 7), (31, 134, 7), (32, 135, 7), (35, 138, 7), (36, 139, 7), (39, 141, 7)]
def mcnt : List (Nat × Nat) := [(0, 0), (4, 1), (16, 2), (23, 3), (28, 4), (38, 5)]
def RM (h : hp) (m : Nat) (A : Nat → Nat) (st : St) : Prop := hT h m = some (12, 42) ∧ (∀ r ∈ mcnt, hI h 12 r.1 m = iI (st 0 r.2)) ∧ (∀ r ∈ mtab, hR h 12 r.1 m = some (A r.1) ∧ hT h (A r.1) = some (r.2.1, r.2.2.1)) ∧ (∀ r ∈ mscr, hR h 12 r.1 m = some (A r.1) ∧ hT h (A r.1) = some (r.2.1, r.2.2)) ∧
  ∀ r ∈ mtab, ∀ i, i < r.2.2.1 → hI h r.2.1 i (A r.1) = iI (st r.2.2.2 i)
section ML
variable {h : hp} {m : Nat} {A : Nat → Nat} {st : St}
theorem mo (M : RM h m A st) : isO h m 12 := ⟨_, M.1⟩
theorem mc_0 (M : RM h m A st) : hI h 12 0 m = iI (st 0 0) := M.2.1 (0, 0) (by decide)
theorem mc_1 (M : RM h m A st) : hI h 12 4 m = iI (st 0 1) := M.2.1 (4, 1) (by decide)
theorem mc_2 (M : RM h m A st) : hI h 12 16 m = iI (st 0 2) := M.2.1 (16, 2) (by decide)
theorem mc_3 (M : RM h m A st) : hI h 12 23 m = iI (st 0 3) := M.2.1 (23, 3) (by decide)
theorem mc_4 (M : RM h m A st) : hI h 12 28 m = iI (st 0 4) := M.2.1 (28, 4) (by decide)
theorem mc_5 (M : RM h m A st) : hI h 12 38 m = iI (st 0 5) := M.2.1 (38, 5) (by decide)
theorem mr_1 (M : RM h m A st) : hR h 12 1 m = some (A 1) := (M.2.2.1 (1, 201, 7, 1) (by decide)).1
theorem mt_1 (M : RM h m A st) : hT h (A 1) = some (201, 7) := (M.2.2.1 (1, 201, 7, 1) (by decide)).2
theorem mi_1 (M : RM h m A st) {i : Nat} (hi : i < 7) : hI h 201 i (A 1) = iI (st 1 i) := M.2.2.2.2 (1, 201, 7, 1) (by decide) i hi
theorem mr_2 (M : RM h m A st) : hR h 12 2 m = some (A 2) := (M.2.2.1 (2, 113, 21, 2) (by decide)).1
theorem mt_2 (M : RM h m A st) : hT h (A 2) = some (113, 21) := (M.2.2.1 (2, 113, 21, 2) (by decide)).2
theorem mi_2 (M : RM h m A st) {i : Nat} (hi : i < 21) : hI h 113 i (A 2) = iI (st 2 i) := M.2.2.2.2 (2, 113, 21, 2) (by decide) i hi
theorem mr_3 (M : RM h m A st) : hR h 12 3 m = some (A 3) := (M.2.2.1 (3, 114, 21, 3) (by decide)).1
theorem mt_3 (M : RM h m A st) : hT h (A 3) = some (114, 21) := (M.2.2.1 (3, 114, 21, 3) (by decide)).2
theorem mi_3 (M : RM h m A st) {i : Nat} (hi : i < 21) : hI h 114 i (A 3) = iI (st 3 i) := M.2.2.2.2 (3, 114, 21, 3) (by decide) i hi
theorem mr_5 (M : RM h m A st) : hR h 12 5 m = some (A 5) := (M.2.2.1 (5, 115, 24, 4) (by decide)).1
theorem mt_5 (M : RM h m A st) : hT h (A 5) = some (115, 24) := (M.2.2.1 (5, 115, 24, 4) (by decide)).2
theorem mi_5 (M : RM h m A st) {i : Nat} (hi : i < 24) : hI h 115 i (A 5) = iI (st 4 i) := M.2.2.2.2 (5, 115, 24, 4) (by decide) i hi
theorem mr_6 (M : RM h m A st) : hR h 12 6 m = some (A 6) := (M.2.2.1 (6, 116, 24, 5) (by decide)).1
theorem mt_6 (M : RM h m A st) : hT h (A 6) = some (116, 24) := (M.2.2.1 (6, 116, 24, 5) (by decide)).2
theorem mi_6 (M : RM h m A st) {i : Nat} (hi : i < 24) : hI h 116 i (A 6) = iI (st 5 i) := M.2.2.2.2 (6, 116, 24, 5) (by decide) i hi
theorem mr_7 (M : RM h m A st) : hR h 12 7 m = some (A 7) := (M.2.2.1 (7, 117, 24, 6) (by decide)).1
theorem mt_7 (M : RM h m A st) : hT h (A 7) = some (117, 24) := (M.2.2.1 (7, 117, 24, 6) (by decide)).2
theorem mi_7 (M : RM h m A st) {i : Nat} (hi : i < 24) : hI h 117 i (A 7) = iI (st 6 i) := M.2.2.2.2 (7, 117, 24, 6) (by decide) i hi
theorem mr_8 (M : RM h m A st) : hR h 12 8 m = some (A 8) := (M.2.2.1 (8, 118, 24, 7) (by decide)).1
theorem mt_8 (M : RM h m A st) : hT h (A 8) = some (118, 24) := (M.2.2.1 (8, 118, 24, 7) (by decide)).2
theorem mi_8 (M : RM h m A st) {i : Nat} (hi : i < 24) : hI h 118 i (A 8) = iI (st 7 i) := M.2.2.2.2 (8, 118, 24, 7) (by decide) i hi
theorem mr_9 (M : RM h m A st) : hR h 12 9 m = some (A 9) := (M.2.2.1 (9, 119, 24, 8) (by decide)).1
theorem mt_9 (M : RM h m A st) : hT h (A 9) = some (119, 24) := (M.2.2.1 (9, 119, 24, 8) (by decide)).2
theorem mi_9 (M : RM h m A st) {i : Nat} (hi : i < 24) : hI h 119 i (A 9) = iI (st 8 i) := M.2.2.2.2 (9, 119, 24, 8) (by decide) i hi
theorem mr_10 (M : RM h m A st) : hR h 12 10 m = some (A 10) := (M.2.2.1 (10, 202, 24, 9) (by decide)).1
theorem mt_10 (M : RM h m A st) : hT h (A 10) = some (202, 24) := (M.2.2.1 (10, 202, 24, 9) (by decide)).2
theorem mi_10 (M : RM h m A st) {i : Nat} (hi : i < 24) : hI h 202 i (A 10) = iI (st 9 i) := M.2.2.2.2 (10, 202, 24, 9) (by decide) i hi
theorem mr_11 (M : RM h m A st) : hR h 12 11 m = some (A 11) := (M.2.2.1 (11, 120, 24, 10) (by decide)).1
theorem mt_11 (M : RM h m A st) : hT h (A 11) = some (120, 24) := (M.2.2.1 (11, 120, 24, 10) (by decide)).2
theorem mi_11 (M : RM h m A st) {i : Nat} (hi : i < 24) : hI h 120 i (A 11) = iI (st 10 i) := M.2.2.2.2 (11, 120, 24, 10) (by decide) i hi
theorem mr_12 (M : RM h m A st) : hR h 12 12 m = some (A 12) := (M.2.2.1 (12, 121, 24, 11) (by decide)).1
theorem mt_12 (M : RM h m A st) : hT h (A 12) = some (121, 24) := (M.2.2.1 (12, 121, 24, 11) (by decide)).2
theorem mi_12 (M : RM h m A st) {i : Nat} (hi : i < 24) : hI h 121 i (A 12) = iI (st 11 i) := M.2.2.2.2 (12, 121, 24, 11) (by decide) i hi
theorem mr_17 (M : RM h m A st) : hR h 12 17 m = some (A 17) := (M.2.2.1 (17, 122, 21, 12) (by decide)).1
theorem mt_17 (M : RM h m A st) : hT h (A 17) = some (122, 21) := (M.2.2.1 (17, 122, 21, 12) (by decide)).2
theorem mi_17 (M : RM h m A st) {i : Nat} (hi : i < 21) : hI h 122 i (A 17) = iI (st 12 i) := M.2.2.2.2 (17, 122, 21, 12) (by decide) i hi
theorem mr_18 (M : RM h m A st) : hR h 12 18 m = some (A 18) := (M.2.2.1 (18, 123, 21, 13) (by decide)).1
theorem mt_18 (M : RM h m A st) : hT h (A 18) = some (123, 21) := (M.2.2.1 (18, 123, 21, 13) (by decide)).2
theorem mi_18 (M : RM h m A st) {i : Nat} (hi : i < 21) : hI h 123 i (A 18) = iI (st 13 i) := M.2.2.2.2 (18, 123, 21, 13) (by decide) i hi
theorem mr_19 (M : RM h m A st) : hR h 12 19 m = some (A 19) := (M.2.2.1 (19, 124, 21, 14) (by decide)).1
theorem mt_19 (M : RM h m A st) : hT h (A 19) = some (124, 21) := (M.2.2.1 (19, 124, 21, 14) (by decide)).2
theorem mi_19 (M : RM h m A st) {i : Nat} (hi : i < 21) : hI h 124 i (A 19) = iI (st 14 i) := M.2.2.2.2 (19, 124, 21, 14) (by decide) i hi
theorem mr_20 (M : RM h m A st) : hR h 12 20 m = some (A 20) := (M.2.2.1 (20, 125, 21, 15) (by decide)).1
theorem mt_20 (M : RM h m A st) : hT h (A 20) = some (125, 21) := (M.2.2.1 (20, 125, 21, 15) (by decide)).2
theorem mi_20 (M : RM h m A st) {i : Nat} (hi : i < 21) : hI h 125 i (A 20) = iI (st 15 i) := M.2.2.2.2 (20, 125, 21, 15) (by decide) i hi
theorem mr_21 (M : RM h m A st) : hR h 12 21 m = some (A 21) := (M.2.2.1 (21, 126, 21, 16) (by decide)).1
theorem mt_21 (M : RM h m A st) : hT h (A 21) = some (126, 21) := (M.2.2.1 (21, 126, 21, 16) (by decide)).2
theorem mi_21 (M : RM h m A st) {i : Nat} (hi : i < 21) : hI h 126 i (A 21) = iI (st 16 i) := M.2.2.2.2 (21, 126, 21, 16) (by decide) i hi
theorem mr_22 (M : RM h m A st) : hR h 12 22 m = some (A 22) := (M.2.2.1 (22, 127, 21, 17) (by decide)).1
theorem mt_22 (M : RM h m A st) : hT h (A 22) = some (127, 21) := (M.2.2.1 (22, 127, 21, 17) (by decide)).2
theorem mi_22 (M : RM h m A st) {i : Nat} (hi : i < 21) : hI h 127 i (A 22) = iI (st 17 i) := M.2.2.2.2 (22, 127, 21, 17) (by decide) i hi
theorem mr_24 (M : RM h m A st) : hR h 12 24 m = some (A 24) := (M.2.2.1 (24, 128, 20, 18) (by decide)).1
theorem mt_24 (M : RM h m A st) : hT h (A 24) = some (128, 20) := (M.2.2.1 (24, 128, 20, 18) (by decide)).2
theorem mi_24 (M : RM h m A st) {i : Nat} (hi : i < 20) : hI h 128 i (A 24) = iI (st 18 i) := M.2.2.2.2 (24, 128, 20, 18) (by decide) i hi
theorem mr_25 (M : RM h m A st) : hR h 12 25 m = some (A 25) := (M.2.2.1 (25, 129, 20, 19) (by decide)).1
theorem mt_25 (M : RM h m A st) : hT h (A 25) = some (129, 20) := (M.2.2.1 (25, 129, 20, 19) (by decide)).2
theorem mi_25 (M : RM h m A st) {i : Nat} (hi : i < 20) : hI h 129 i (A 25) = iI (st 19 i) := M.2.2.2.2 (25, 129, 20, 19) (by decide) i hi
theorem mr_26 (M : RM h m A st) : hR h 12 26 m = some (A 26) := (M.2.2.1 (26, 130, 20, 20) (by decide)).1
theorem mt_26 (M : RM h m A st) : hT h (A 26) = some (130, 20) := (M.2.2.1 (26, 130, 20, 20) (by decide)).2
theorem mi_26 (M : RM h m A st) {i : Nat} (hi : i < 20) : hI h 130 i (A 26) = iI (st 20 i) := M.2.2.2.2 (26, 130, 20, 20) (by decide) i hi
theorem mr_27 (M : RM h m A st) : hR h 12 27 m = some (A 27) := (M.2.2.1 (27, 131, 20, 21) (by decide)).1
theorem mt_27 (M : RM h m A st) : hT h (A 27) = some (131, 20) := (M.2.2.1 (27, 131, 20, 21) (by decide)).2
theorem mi_27 (M : RM h m A st) {i : Nat} (hi : i < 20) : hI h 131 i (A 27) = iI (st 21 i) := M.2.2.2.2 (27, 131, 20, 21) (by decide) i hi
theorem mr_33 (M : RM h m A st) : hR h 12 33 m = some (A 33) := (M.2.2.1 (33, 136, 21, 22) (by decide)).1
theorem mt_33 (M : RM h m A st) : hT h (A 33) = some (136, 21) := (M.2.2.1 (33, 136, 21, 22) (by decide)).2
theorem mi_33 (M : RM h m A st) {i : Nat} (hi : i < 21) : hI h 136 i (A 33) = iI (st 22 i) := M.2.2.2.2 (33, 136, 21, 22) (by decide) i hi
theorem mr_34 (M : RM h m A st) : hR h 12 34 m = some (A 34) := (M.2.2.1 (34, 137, 21, 23) (by decide)).1
theorem mt_34 (M : RM h m A st) : hT h (A 34) = some (137, 21) := (M.2.2.1 (34, 137, 21, 23) (by decide)).2
theorem mi_34 (M : RM h m A st) {i : Nat} (hi : i < 21) : hI h 137 i (A 34) = iI (st 23 i) := M.2.2.2.2 (34, 137, 21, 23) (by decide) i hi
theorem mr_37 (M : RM h m A st) : hR h 12 37 m = some (A 37) := (M.2.2.1 (37, 140, 7, 24) (by decide)).1
theorem mt_37 (M : RM h m A st) : hT h (A 37) = some (140, 7) := (M.2.2.1 (37, 140, 7, 24) (by decide)).2
theorem mi_37 (M : RM h m A st) {i : Nat} (hi : i < 7) : hI h 140 i (A 37) = iI (st 24 i) := M.2.2.2.2 (37, 140, 7, 24) (by decide) i hi
theorem mr_14 (M : RM h m A st) : hR h 12 14 m = some (A 14) := (M.2.2.2.1 (14, 300, 572) (by decide)).1
theorem mt_14 (M : RM h m A st) : hT h (A 14) = some (300, 572) := (M.2.2.2.1 (14, 300, 572) (by decide)).2
theorem mr_15 (M : RM h m A st) : hR h 12 15 m = some (A 15) := (M.2.2.2.1 (15, 301, 572) (by decide)).1
theorem mt_15 (M : RM h m A st) : hT h (A 15) = some (301, 572) := (M.2.2.2.1 (15, 301, 572) (by decide)).2
theorem mr_29 (M : RM h m A st) : hR h 12 29 m = some (A 29) := (M.2.2.2.1 (29, 132, 7) (by decide)).1
theorem mt_29 (M : RM h m A st) : hT h (A 29) = some (132, 7) := (M.2.2.2.1 (29, 132, 7) (by decide)).2
theorem mr_30 (M : RM h m A st) : hR h 12 30 m = some (A 30) := (M.2.2.2.1 (30, 133, 7) (by decide)).1
theorem mt_30 (M : RM h m A st) : hT h (A 30) = some (133, 7) := (M.2.2.2.1 (30, 133, 7) (by decide)).2
theorem mr_31 (M : RM h m A st) : hR h 12 31 m = some (A 31) := (M.2.2.2.1 (31, 134, 7) (by decide)).1
theorem mt_31 (M : RM h m A st) : hT h (A 31) = some (134, 7) := (M.2.2.2.1 (31, 134, 7) (by decide)).2
theorem mr_32 (M : RM h m A st) : hR h 12 32 m = some (A 32) := (M.2.2.2.1 (32, 135, 7) (by decide)).1
theorem mt_32 (M : RM h m A st) : hT h (A 32) = some (135, 7) := (M.2.2.2.1 (32, 135, 7) (by decide)).2
theorem mr_35 (M : RM h m A st) : hR h 12 35 m = some (A 35) := (M.2.2.2.1 (35, 138, 7) (by decide)).1
theorem mt_35 (M : RM h m A st) : hT h (A 35) = some (138, 7) := (M.2.2.2.1 (35, 138, 7) (by decide)).2
theorem mr_36 (M : RM h m A st) : hR h 12 36 m = some (A 36) := (M.2.2.2.1 (36, 139, 7) (by decide)).1
theorem mt_36 (M : RM h m A st) : hT h (A 36) = some (139, 7) := (M.2.2.2.1 (36, 139, 7) (by decide)).2
theorem mr_39 (M : RM h m A st) : hR h 12 39 m = some (A 39) := (M.2.2.2.1 (39, 141, 7) (by decide)).1
theorem mt_39 (M : RM h m A st) : hT h (A 39) = some (141, 7) := (M.2.2.2.1 (39, 141, 7) (by decide)).2
end ML
theorem mt_ckB : (mtab.all fun r => mtab.all fun r' => (!(r'.2.1 == r.2.1) && !(r'.2.2.2 == r.2.2.2) && !(r'.1 == r.1)) || (r'.1 == r.1 && r'.2.1 == r.2.1 && r'.2.2.1 == r.2.2.1 && r'.2.2.2 == r.2.2.2)) = true := by decide +kernel
theorem mt_ck (r : Nat × Nat × Nat × Nat) (hr : r ∈ mtab) (r' : Nat × Nat × Nat × Nat) (hr' : r' ∈ mtab) : (r'.2.1 ≠ r.2.1 ∧ r'.2.2.2 ≠ r.2.2.2) ∨ r' = r := by
  have h := List.all_eq_true.mp (List.all_eq_true.mp mt_ckB r hr) r' hr'
  obtain ⟨a1, a2, a3, a4⟩ := r
  obtain ⟨b1, b2, b3, b4⟩ := r'
  simp only [Bool.or_eq_true, Bool.and_eq_true, beq_iff_eq, Bool.not_eq_true', beq_eq_false_iff_ne] at h
  rcases h with h | h
  · exact Or.inl ⟨h.1.1, h.1.2⟩
  · obtain ⟨⟨⟨rfl, rfl⟩, rfl⟩, rfl⟩ := h
    exact Or.inr rfl
theorem mt_0 : ∀ r ∈ mtab, r.2.1 ≠ 12 ∧ r.2.2.2 ≠ 0 ∧ r.2.2.2 ≠ 25 ∧ r.2.2.2 ≠ 26 ∧ mk r.2.1 = true := by decide +kernel
theorem mcnt_ck : ∀ r ∈ mcnt, ∀ r' ∈ mcnt, (r'.1 = r.1 ↔ r'.2 = r.2) := by decide +kernel
/-- one number of the reference's arrays is written -/
theorem RM_set {h : hp} {m : Nat} {A : Nat → Nat} {st : St} (M : RM h m A st) (k kd l f : Nat) (hr : (k, kd, l, f) ∈ mtab) (i : Nat) (v : Int) : RM (sI h kd i (A k) (iI v)) m A (up st f i v) := by
  obtain ⟨m1, m2, m3, m4, m5⟩ := M
  obtain ⟨z1, z2, -, -, -⟩ := mt_0 _ hr
  dsimp only at z1 z2
  refine ⟨m1, fun r hr' => ?_, m3, m4, fun r hr' j hj => ?_⟩
  · rw [hI_sI, if_neg (fun z => z1 z.1.symm), up_f (Ne.symm z2)]
    exact m2 r hr'
  · rcases mt_ck _ hr r hr' with ⟨y1, y2⟩ | rfl
    · dsimp only at y1 y2
      rw [hI_sI, if_neg (fun z => y1 z.1), up_f y2]
      exact m5 r hr' j hj
    · dsimp only at hj ⊢
      rw [hI_sI]
      by_cases e : j = i
      · rw [if_pos ⟨rfl, e, rfl⟩, e, up_eq]
      · rw [if_neg (fun z => e z.2.1), up_ne (fun z => e z.2)]
        exact m5 _ hr' j hj
theorem RM_cnt {h : hp} {m : Nat} {A : Nat → Nat} {st : St} (M : RM h m A st) (k c : Nat) (hr : (k, c) ∈ mcnt) (v : Int) : RM (sI h 12 k m (iI v)) m A (up st 0 c v) := by
  obtain ⟨m1, m2, m3, m4, m5⟩ := M
  refine ⟨m1, fun r hr' => ?_, m3, m4, fun r hr' j hj => ?_⟩
  · have y := mcnt_ck _ hr r hr'
    dsimp only at y
    rw [hI_sI]
    by_cases e : r.1 = k
    · rw [if_pos ⟨rfl, e, rfl⟩, y.mp e, up_eq]
    · rw [if_neg (fun z => e z.2.1), up_ne (fun z => e (y.mpr z.2))]
      exact m2 r hr'
  · obtain ⟨z1, z2, -, -, -⟩ := mt_0 _ hr'
    rw [hI_sI, if_neg (fun z => z1 z.1), up_f z2]
    exact m5 r hr' j hj
theorem RM_25 {h : hp} {m : Nat} {A : Nat → Nat} {st : St} (M : RM h m A st) (i : Nat) (v : Int) : RM h m A (up st 25 i v) := by
  obtain ⟨m1, m2, m3, m4, m5⟩ := M
  refine ⟨m1, fun r hr' => ?_, m3, m4, fun r hr' j hj => ?_⟩
  · rw [up_f (by decide)]; exact m2 r hr'
  · obtain ⟨-, -, z, -, -⟩ := mt_0 _ hr'
    rw [up_f z]
    exact m5 r hr' j hj
/-- what the reference only works with -/
def msc (c k : Nat) : Bool := (c == 12 && (k == 13 || k == 40 || k == 41)) || (132 ≤ c && c ≤ 135) || c == 138 || c == 139 || c == 141
def Fm (h h' : hp) : Prop := (∀ a, hT h' a = hT h a) ∧ (∀ c k a, hR h' c k a = hR h c k a) ∧ (∀ c k a, msc c k = false → hI h' c k a = hI h c k a) ∧ ∀ c k a, c ≠ 300 → c ≠ 301 → hJ h' c k a = hJ h c k a
theorem Fm.rf {h : hp} : Fm h h := ⟨fun _ => rfl, fun _ _ _ => rfl, fun _ _ _ _ => rfl, fun _ _ _ _ _ => rfl⟩
theorem Fm.tr {h h1 h2 : hp} (a : Fm h h1) (b : Fm h1 h2) : Fm h h2 := ⟨fun x => (b.1 x).trans (a.1 x), fun c k x => (b.2.1 c k x).trans (a.2.1 c k x), fun c k x z => (b.2.2.1 c k x z).trans (a.2.2.1 c k x z), fun c k x z y => (b.2.2.2 c k x z y).trans (a.2.2.2 c k x z y)⟩
theorem Fm.i {h h' : hp} (a : Fm h h') {c k x : Nat} {v : Int32} (hs : msc c k = true) : Fm h (sI h' c k x v) := by
  refine a.tr ⟨fun _ => rfl, fun _ _ _ => rfl, fun c' k' x' hz => ?_, fun _ _ _ _ _ => rfl⟩
  rw [hI_sI, if_neg]
  rintro ⟨rfl, rfl, -⟩
  rw [hs] at hz
  cases hz
theorem Fm.j {h h' : hp} (a : Fm h h') {c k x : Nat} {v : Int64} (hs : c = 300 ∨ c = 301) : Fm h (sJ h' c k x v) := by
  refine a.tr ⟨fun _ => rfl, fun _ _ _ => rfl, fun c' k' x' hz => rfl, fun c' k' x' z y => ?_⟩
  rw [hJ_sJ, if_neg]
  rintro ⟨rfl, -, -⟩
  rcases hs with hs | hs
  · exact z hs
  · exact y hs
def FM (h h' : hp) : Prop := (∀ a, hT h' a = hT h a) ∧ (∀ c k a, hR h' c k a = hR h c k a) ∧ ∀ c k a, mk c = false → hI h' c k a = hI h c k a
theorem FM.rf {h : hp} : FM h h := ⟨fun _ => rfl, fun _ _ _ => rfl, fun _ _ _ _ => rfl⟩
theorem FM.tr {h h1 h2 : hp} (a : FM h h1) (b : FM h1 h2) : FM h h2 := ⟨fun x => (b.1 x).trans (a.1 x), fun c k x => (b.2.1 c k x).trans (a.2.1 c k x), fun c k x z => (b.2.2 c k x z).trans (a.2.2 c k x z)⟩
theorem FM.i {h h' : hp} (a : FM h h') {c k x : Nat} {v : Int32} (hs : mk c = true) : FM h (sI h' c k x v) := by
  refine a.tr ⟨fun _ => rfl, fun _ _ _ => rfl, fun c' k' x' hz => ?_⟩
  rw [hI_sI, if_neg]
  rintro ⟨rfl, -, -⟩
  rw [hs] at hz
  cases hz
theorem msc_mk {c k : Nat} (h : mk c = false) : msc c k = false := by
  unfold mk at h
  unfold msc
  simp only [Bool.or_eq_false_iff, Bool.and_eq_false_iff, beq_eq_false_iff_ne, decide_eq_false_iff_not] at h ⊢
  omega
theorem Fm.x {h h' : hp} (f : Fm h h') : FM h h' := ⟨f.1, f.2.1, fun c k a hz => f.2.2.1 c k a (msc_mk hz)⟩
theorem mt_sc : ∀ r ∈ mtab, ∀ k, msc r.2.1 k = false := by
  have h : ∀ r ∈ mtab, r.2.1 ≠ 12 ∧ ¬ (132 ≤ r.2.1 ∧ r.2.1 ≤ 135) ∧ r.2.1 ≠ 138 ∧ r.2.1 ≠ 139 ∧ r.2.1 ≠ 141 := by decide +kernel
  intro r hr k
  have := h r hr
  unfold msc
  simp only [Bool.or_eq_false_iff, Bool.and_eq_false_iff, beq_eq_false_iff_ne, decide_eq_false_iff_not]
  omega
theorem mcnt_sc : ∀ r ∈ mcnt, msc 12 r.1 = false := by decide +kernel
theorem RM_fm {h h' : hp} (f : Fm h h') {m : Nat} {A : Nat → Nat} {st : St} (M : RM h m A st) : RM h' m A st := by
  obtain ⟨m1, m2, m3, m4, m5⟩ := M
  exact ⟨(f.1 _).trans m1, fun r hr => (f.2.2.1 _ _ _ (mcnt_sc r hr)).trans (m2 r hr), fun r hr => ⟨(f.2.1 _ _ _).trans (m3 r hr).1, (f.1 _).trans (m3 r hr).2⟩, fun r hr => ⟨(f.2.1 _ _ _).trans (m4 r hr).1, (f.1 _).trans (m4 r hr).2⟩, fun r hr i hi => (f.2.2.1 _ _ _ (mt_sc r hr i)).trans (m5 r hr i hi)⟩
/-- the class leaves the reference as it is -/
theorem RM_fx {h h' : hp} (f : FX h h') {m : Nat} {A : Nat → Nat} {st : St} (M : RM h m A st) : RM h' m A st := by
  obtain ⟨m1, m2, m3, m4, m5⟩ := M
  have sn : ∀ {x : Nat} {t : Nat × Nat}, hT h x = some t → hT h x ≠ none := fun z y => by rw [z] at y; cases y
  exact ⟨f.1 _ _ m1, fun r hr => (f.2 12 r.1 m (Or.inl rfl) (sn m1)).1.trans (m2 r hr), fun r hr => ⟨(f.2 12 r.1 m (Or.inl rfl) (sn m1)).2.2.trans (m3 r hr).1, f.1 _ _ (m3 r hr).2⟩, fun r hr => ⟨(f.2 12 r.1 m (Or.inl rfl) (sn m1)).2.2.trans (m4 r hr).1, f.1 _ _ (m4 r hr).2⟩, fun r hr i hi => (f.2 _ i _ (Or.inl (mt_0 r hr).2.2.2.2) (sn (m3 r hr).2)).1.trans (m5 r hr i hi)⟩
theorem xt_mk : ∀ r ∈ xtab, mk r.1 = false := by decide +kernel
/-- the reference leaves the class as it is -/
theorem RX_fm {h h' : hp} (f : FM h h') {ad : Ad} {st : St} (r : RX h ad st) : RX h' ad st := by
  obtain ⟨⟨t1, t2, t3⟩, ⟨c1, c2, c3, c4, c5, c6⟩, ⟨r1, r2, r3, r4⟩, hi, hj, hw⟩ := r
  refine ⟨⟨(f.1 _).trans t1, fun r hr => ⟨(f.2.1 _ _ _).trans (t2 r hr).1, (f.1 _).trans (t2 r hr).2⟩, fun r hr i hh => (f.1 _).trans (t3 r hr i hh)⟩, ⟨(f.2.2 _ _ _ rfl).trans c1, (f.2.2 _ _ _ rfl).trans c2, (f.2.2 _ _ _ rfl).trans c3, (f.2.2 _ _ _ rfl).trans c4, (f.2.2 _ _ _ rfl).trans c5, (f.2.2 _ _ _ rfl).trans c6⟩,
    ⟨fun r hr i hh => (f.2.1 _ _ _).trans (r1 r hr i hh), fun r hr i hh => (f.2.1 _ _ _).trans (r2 r hr i hh), fun e he => ⟨(f.2.1 _ _ _).trans (r3 e he).1, (f.2.1 _ _ _).trans (r3 e he).2⟩, fun e he => ⟨(f.2.1 _ _ _).trans (r4 e he).1, (f.2.1 _ _ _).trans (r4 e he).2⟩⟩,
    fun r hr i hh => (f.2.2 _ _ _ (xt_mk r hr)).trans (hi r hr i hh), hj, ?_⟩
  obtain ⟨h1, h2, h3⟩ := hw
  refine ⟨fun r hr => ⟨(f.2.1 _ _ _).trans (h1 r hr).1, (f.1 _).trans (h1 r hr).2⟩, fun i hi => ⟨(f.2.1 _ _ _).trans (h2 i hi).1, ?_⟩, h3.1, h3.2.1, h3.2.2.1, h3.2.2.2.1, fun i hi => ?_, h3.2.2.2.2.2⟩
  · obtain ⟨s1, s2, s3, s4, s5, s6, s7, s8, s9, s10⟩ := (h2 i hi).2
    exact ⟨(f.1 _).trans s1, (f.2.2 _ _ _ rfl).trans s2, (f.2.1 _ _ _).trans s3, (f.2.1 _ _ _).trans s4, (f.2.1 _ _ _).trans s5, (f.1 _).trans s6, (f.1 _).trans s7, (f.1 _).trans s8, fun j hj => ⟨(f.2.1 _ _ _).trans (s9 j hj).1, (f.1 _).trans (s9 j hj).2⟩, s10⟩
  · obtain ⟨a1, a2, a3, a4⟩ := h3.2.2.2.2.1 i hi
    exact ⟨(f.2.1 _ _ _).trans a1, (f.1 _).trans a2, (f.2.1 _ _ _).trans a3, (f.1 _).trans a4⟩
theorem hI_12 {c : Nat} (hc : c ≠ 12) (h : hp) (k a : Nat) (v : Int32) (j b : Nat) : hI (sI h c k a v) 12 j b = hI h 12 j b := by rw [hI_sI, if_neg (fun z => hc z.1.symm)]
theorem vin {a : Int} {n : Nat} (ha : 0 ≤ a ∧ a < n) (hn : n ≤ 1000) : vp_in (iI a) n ∧ (iI a).toNatClampNeg = a.toNat := ⟨iI_in ha (by omega), iI_cl (by omega)⟩
theorem vinN {i n : Nat} (ha : i < n) (hn : n ≤ 1000) : vp_in (iI (i : Nat)) n ∧ (iI (i : Nat)).toNatClampNeg = i := ⟨iI_in (by omega) (by omega), by rw [iI_cl (by omega)]; omega⟩

