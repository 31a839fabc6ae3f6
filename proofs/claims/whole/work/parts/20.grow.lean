/-! a new piece, eye, leg or pair -/
def ckF (c : Nat) : Nat := 2 * c + 1
def rwF (c : Nat) : Nat := if c = 0 then 0 else c + 4
theorem xt_c4 : ∀ r ∈ xtab, r.2.2.2.2.2.2 < 4 ∧ r.1 ≠ 11 := by decide
theorem xy_c4 : ∀ r ∈ xty, r.2.2.2 < 4 := by decide
theorem xa_c4 : ∀ r ∈ xar, r.2.2.2.2.2 < 4 ∧ r.2.1 = 23 + r.2.2.2.2.2 ∧ r.2.2.2.1 = r.2.2.2.2.2 ∧ r.2.2.2.2.1 = rwF r.2.2.2.2.2 := by decide
theorem xw_8 : ∀ r ∈ xwk, 8 ≤ r.2.2.1.1 ∧ 8 ≤ r.2.2.2.2.2.1 ∧ (r.1 < 23 ∨ 27 ≤ r.1) := by decide
theorem xy_ad : ∀ r ∈ xtab, ∃ q ∈ xty, q.1 = r.2.2.1 ∧ q.2.2.2 = r.2.2.2.2.2.2 := by decide
theorem RX_grow {h h' : hp} {ad ad' : Ad} {st st' : St} (R : RX h ad st) (w : WF st) (c : Nat) (hc : c < 4)
    (s0 : ∀ j, st' 0 j = if j = c then st 0 c + 1 else st 0 j) (sf : ∀ r ∈ xtab, ∀ i : Nat, (i : Int) < st 0 r.2.2.2.2.2.2 → st' r.2.2.2.1 (r.2.2.2.2.1 * i + r.2.2.2.2.2.1) = st r.2.2.2.1 (r.2.2.2.2.1 * i + r.2.2.2.2.2.1))
    (s4 : ∀ e : Nat, (e : Int) < st 0 1 → st' 4 e = st 4 e ∧ st' 5 e = st 5 e) (s18 : ∀ e : Nat, (e : Int) < st 0 3 → st' 18 e = st 18 e ∧ st' 19 e = st 19 e)
    (a1 : ∀ r ∈ xty, ∀ i : Nat, (i : Int) < st 0 r.2.2.2 → ad' r.1 i = ad r.1 i) (a8 : ∀ a, 8 ≤ a → ad' a = ad a)
    (hx : ∀ x, hT h x ≠ none → hT h' x = hT h x) (hi : ∀ x c' k, hT h x ≠ none → ¬ (c' = 11 ∧ k = ckF c ∧ x = ad 30 0) → hI h' c' k x = hI h c' k x) (hr : ∀ x c' k, hT h x ≠ none → ¬ (c' = 23 + c ∧ k = (st 0 c).toNat ∧ x = ad 8 c) → hR h' c' k x = hR h c' k x)
    (hcn : hI h' 11 (ckF c) (ad 30 0) = iI (st 0 c + 1)) (har : hR h' (23 + c) (st 0 c).toNat (ad 8 c) = some (ad' (rwF c) (st 0 c).toNat))
    (nT : ∀ r ∈ xty, r.2.2.2 = c → hT h' (ad' r.1 (st 0 c).toNat) = some (r.2.1, r.2.2.1) ∧ hT h (ad' r.1 (st 0 c).toNat) = none)
    (nI : ∀ r ∈ xtab, r.2.2.2.2.2.2 = c → hI h' r.1 r.2.1 (ad' r.2.2.1 (st 0 c).toNat) = iI (st' r.2.2.2.1 (r.2.2.2.2.1 * (st 0 c).toNat + r.2.2.2.2.2.1)))
    (nR : c = 0 → ∀ r ∈ xrf, hR h' 3 r.1 (ad' 0 (st 0 c).toNat) = some (ad' r.2 (st 0 c).toNat)) (nE : c = 1 → hR h' 0 0 (ad' 5 (st 0 c).toNat) = some (ad 0 (st' 4 (st 0 c).toNat).toNat) ∧ hR h' 0 1 (ad' 5 (st 0 c).toNat) = some (ad 0 (st' 5 (st 0 c).toNat).toNat) ∧ (st' 4 (st 0 c).toNat).toNat < (st 0 0).toNat ∧ (st' 5 (st 0 c).toNat).toNat < (st 0 0).toNat)
    (nQ : c = 3 → hR h' 2 0 (ad' 7 (st 0 c).toNat) = some (ad 0 (st' 18 (st 0 c).toNat).toNat) ∧ hR h' 2 1 (ad' 7 (st 0 c).toNat) = some (ad 0 (st' 19 (st 0 c).toNat).toNat) ∧ (st' 18 (st 0 c).toNat).toNat < (st 0 0).toNat ∧ (st' 19 (st 0 c).toNat).toNat < (st 0 0).toNat)
    (n12 : c = 0 → ad' 1 (st 0 c).toNat ≠ ad' 2 (st 0 c).toNat) : RX h' ad' st' := by
  have hN : 0 ≤ st 0 c := by
    obtain ⟨⟨w0, w1, w2, w3, -⟩, -⟩ := w
    rcases (by omega : c = 0 ∨ c = 1 ∨ c = 2 ∨ c = 3) with rfl | rfl | rfl | rfl <;> omega
  have R0 := R
  obtain ⟨⟨t1, t2, t3⟩, ⟨c1, c2, c3, c4, c5, c6⟩, ⟨u1, u2, u3, u4⟩, hin, hj, hw⟩ := R
  have nx : hT h (ad 30 0) ≠ none := by rw [t1]; exact fun z => by cases z
  have e30 : ad' 30 0 = ad 30 0 := by rw [a8 30 (by omega)]
  have old : ∀ (n i : Nat), (i : Int) < st' 0 n → (i : Int) < st 0 n ∨ (n = c ∧ i = (st 0 c).toNat) := by
    intro n i z
    rw [s0] at z
    by_cases e : n = c
    · rw [if_pos e] at z
      subst e
      by_cases y : (i : Int) < st 0 n
      · exact Or.inl y
      · exact Or.inr ⟨rfl, by omega⟩
    · rw [if_neg e] at z
      exact Or.inl z
  have a0 : ∀ i : Nat, (i : Int) < st 0 0 → ad' 0 i = ad 0 i := fun i z => a1 (0, 3, 8, 0) (by decide) i z
  have nA : ∀ r ∈ xty, ∀ i : Nat, (i : Int) < st 0 r.2.2.2 → hT h (ad r.1 i) ≠ none := fun r hr' i z => by rw [t3 r hr' i z]; exact fun y => by cases y
  refine ⟨⟨?_, fun r hr' => ?_, fun r hr' i hh => ?_⟩, ?_, ⟨fun r hr' i hh => ?_, fun r hr' i hh => ?_, fun e he => ?_, fun e he => ?_⟩, fun r hr' i hh => ?_, ⟨fun r hr' i j h1 h2 h3 => ?_, fun i j h1 h2 => ?_⟩, ?_⟩
  · rw [e30, hx _ nx]; exact t1
  · have y := (t2 r hr').2
    rw [e30, a8 8 (by omega), hr _ _ _ nx (by omega), hx _ (by rw [y]; exact fun z => by cases z)]
    exact t2 r hr'
  · rcases old _ _ hh with z | ⟨z1, z2⟩
    · rw [a1 r hr' i z, hx _ (nA r hr' i z)]; exact t3 r hr' i z
    · rw [z2]; exact (nT r hr' z1).1
  · have key : ∀ j, j < 6 → hI h 11 (if j < 4 then ckF j else j + 4) (ad 30 0) = iI (st 0 j) → hI h' 11 (if j < 4 then ckF j else j + 4) (ad' 30 0) = iI (st' 0 j) := by
      intro j hj' z
      rw [e30, s0]
      by_cases e : j = c
      · subst e
        rw [if_pos hc, if_pos rfl]
        exact hcn
      · rw [if_neg e, hi _ _ _ nx ?_]
        · exact z
        · rintro ⟨-, y, -⟩
          by_cases q : j < 4
          · rw [if_pos q] at y; unfold ckF at y; omega
          · rw [if_neg q] at y; unfold ckF at y
            rcases (by omega : j = 4 ∨ j = 5) with rfl | rfl
            · omega
            · rcases (by omega : c = 0 ∨ c = 1 ∨ c = 2 ∨ c = 3) with rfl | rfl | rfl | rfl <;> omega
    exact ⟨key 0 (by omega) c1, key 1 (by omega) c2, key 2 (by omega) c3, key 3 (by omega) c4, key 4 (by omega) c5, key 5 (by omega) c6⟩
  · obtain ⟨k1, k2, k3, k4⟩ := xa_c4 r hr'
    have y := (t2 r hr').2
    rcases old _ _ hh with z | ⟨z1, z2⟩
    · obtain ⟨q, hq, hq1, hq2⟩ : ∃ q ∈ xty, q.1 = r.2.2.2.2.1 ∧ q.2.2.2 = r.2.2.2.2.2 := by
        have all : ∀ r ∈ xar, ∃ q ∈ xty, q.1 = r.2.2.2.2.1 ∧ q.2.2.2 = r.2.2.2.2.2 := by decide
        exact all r hr'
      have y2 := a1 q hq i (by rw [hq2]; exact z)
      rw [hq1] at y2
      rw [y2, a8 8 (by omega), hr _ _ _ (by rw [y]; exact fun z => by cases z) ?_]
      · exact u1 r hr' i z
      · rintro ⟨x1, x2, -⟩
        have : r.2.2.2.2.2 = c := by omega
        rw [this] at z
        omega
    · rw [z2, a8 8 (by omega), k2, k3, k4, z1]
      exact har
  · rcases old _ _ hh with z | ⟨z1, z2⟩
    · obtain ⟨q, hq, hq1, hq2⟩ : ∃ q ∈ xty, q.1 = r.2 ∧ q.2.2.2 = 0 := by
        have all : ∀ r ∈ xrf, ∃ q ∈ xty, q.1 = r.2 ∧ q.2.2.2 = 0 := by decide
        exact all r hr'
      have y2 := a1 q hq i (by rw [hq2]; exact z)
      rw [hq1] at y2
      rw [a0 i z, y2, hr _ _ _ (nA (0, 3, 8, 0) (by decide) i z) (by omega)]
      exact u2 r hr' i z
    · rw [z2]; exact nR z1.symm r hr'
  · rcases old _ _ he with z | ⟨z1, z2⟩
    · obtain ⟨g4, g5, -⟩ := w.2.2.2.1 e z
      rw [(s4 e z).1, (s4 e z).2, a1 (5, 0, 8, 1) (by decide) e z, a0 _ (by omega), a0 _ (by omega), hr _ _ _ (nA (5, 0, 8, 1) (by decide) e z) (by omega), hr _ _ _ (nA (5, 0, 8, 1) (by decide) e z) (by omega)]
      exact u3 e z
    · obtain ⟨y1, y2, y3, y4⟩ := nE z1.symm
      rw [z2, a0 _ (by omega), a0 _ (by omega)]
      exact ⟨y1, y2⟩
  · rcases old _ _ he with z | ⟨z1, z2⟩
    · obtain ⟨g4, g5, -⟩ := w.2.2.2.2.2.2.2.1 e z
      rw [(s18 e z).1, (s18 e z).2, a1 (7, 2, 4, 3) (by decide) e z, a0 _ (by omega), a0 _ (by omega), hr _ _ _ (nA (7, 2, 4, 3) (by decide) e z) (by omega), hr _ _ _ (nA (7, 2, 4, 3) (by decide) e z) (by omega)]
      exact u4 e z
    · obtain ⟨y1, y2, y3, y4⟩ := nQ z1.symm
      rw [z2, a0 _ (by omega), a0 _ (by omega)]
      exact ⟨y1, y2⟩
  · rcases old _ _ hh with z | ⟨z1, z2⟩
    · obtain ⟨q, hq, hq1, hq2⟩ := xy_ad r hr'
      have y2 := a1 q hq i (by rw [hq2]; exact z)
      have y3 := nA q hq i (by rw [hq2]; exact z)
      rw [hq1] at y2 y3
      rw [y2, sf r hr' i z, hi _ _ _ y3 (fun y => (xt_c4 r hr').2 y.1)]
      exact hin r hr' i z
    · rw [z2]; exact nI r hr' z1
  · rcases old _ _ h1 with z | ⟨z1, z2⟩ <;> rcases old _ _ h2 with y | ⟨y1, y2⟩
    · rw [a1 r hr' i z, a1 r hr' j y] at h3
      exact hj.1 r hr' i j z y h3
    · exfalso
      have := (nT r hr' y1).2
      rw [← y2, ← h3, a1 r hr' i z] at this
      exact nA r hr' i z this
    · exfalso
      have := (nT r hr' z1).2
      rw [← z2, h3, a1 r hr' j y] at this
      exact nA r hr' j y this
    · omega
  · intro h3
    rcases old _ _ h1 with z | ⟨z1, z2⟩ <;> rcases old _ _ h2 with y | ⟨y1, y2⟩
    · rw [a1 (1, 4, 3, 0) (by decide) i z, a1 (2, 4, 3, 0) (by decide) j y] at h3
      exact hj.2 i j z y h3
    · have := (nT (2, 4, 3, 0) (by decide) y1).2
      dsimp only at this
      rw [← y2, ← h3, a1 (1, 4, 3, 0) (by decide) i z] at this
      exact nA (1, 4, 3, 0) (by decide) i z this
    · have := (nT (1, 4, 3, 0) (by decide) z1).2
      dsimp only at this
      rw [← z2, h3, a1 (2, 4, 3, 0) (by decide) j y] at this
      exact nA (2, 4, 3, 0) (by decide) j y this
    · rw [z2, y2] at h3
      exact n12 z1.symm h3
  · have hR' : ∀ x c' k, hT h x ≠ none → (c' < 23 ∨ 27 ≤ c') → hR h' c' k x = hR h c' k x := fun x c' k z y => hr x c' k z (by omega)
    obtain ⟨w1, w2, w3, w4, w5, w6, w7, w8⟩ := hw
    have nn : ∀ {x : Nat} {t : Nat × Nat}, hT h x = some t → hT h x ≠ none := fun z => by rw [z]; exact fun y => by cases y
    have st1 : ∀ r ∈ xwk, hT h (ad r.2.2.1.1 r.2.2.1.2) ≠ none := by
      intro r hr'
      have all : ∀ r ∈ xwk, r.2.2.1 = (30, 0) ∨ ∃ q ∈ xwk, q.2.2.2.2.2 = r.2.2.1 := by decide
      rcases all r hr' with z | ⟨q, hq, z⟩
      · rw [z]; exact nx
      · have y := (w1 q hq).2
        rw [z] at y
        exact nn y
    refine ⟨fun r hr' => ?_, fun i hi' => ?_, ?_, ?_, ?_, ?_, fun i hi' => ?_, ?_⟩
    · obtain ⟨k1, k2, k3⟩ := xw_8 r hr'
      rw [a8 _ k1, a8 _ k2, hR' _ _ _ (st1 r hr') k3, hx _ (nn (w1 r hr').2)]
      exact w1 r hr'
    · obtain ⟨z1, z2, z3, z4, z5, z6, z7, z8, z9, z10, z11⟩ := w2 i hi'
      have y9 : hT h (ad 9 0) ≠ none := nn (wt_6_0 R0.w)
      refine ⟨?_, ?_, ?_, ?_, ?_, ?_, ?_, ?_, ?_, fun j hj' => ?_, ?_⟩
      · rw [a8 9 (by omega), a8 10 (by omega), hR' _ _ _ y9 (by omega)]; exact z1
      · rw [a8 10 (by omega), hx _ (nn z2)]; exact z2
      · rw [a8 10 (by omega), hi _ _ _ (nn z2) (by omega)]; exact z3
      · rw [a8 10 (by omega), a8 11 (by omega), hR' _ _ _ (nn z2) (by omega)]; exact z4
      · rw [a8 10 (by omega), a8 12 (by omega), hR' _ _ _ (nn z2) (by omega)]; exact z5
      · rw [a8 10 (by omega), a8 13 (by omega), hR' _ _ _ (nn z2) (by omega)]; exact z6
      · rw [a8 11 (by omega), hx _ (nn z7)]; exact z7
      · rw [a8 12 (by omega), hx _ (nn z8)]; exact z8
      · rw [a8 13 (by omega), hx _ (nn z9)]; exact z9
      · rw [a8 11 (by omega), a8 (20 + i) (by omega), hR' _ _ _ (nn z7) (by omega), hx _ (nn (z10 j hj').2)]; exact z10 j hj'
      · rw [a8 (20 + i) (by omega)]; exact z11
    · rw [a8 10 (by omega)]; exact w3
    · rw [a8 12 (by omega)]; exact w4
    · rw [a8 13 (by omega)]; exact w5
    · intro i j k l h1 h2 h3 h4
      rw [a8 (20 + i) (by omega), a8 (20 + j) (by omega)]
      exact w6 i j k l h1 h2 h3 h4
    · obtain ⟨z1, z2, z3, z4⟩ := w7 i hi'
      rw [a8 9 (by omega), a8 14 (by omega), a8 15 (by omega), hR' _ _ _ (nn (wt_9_0 R0.w)) (by omega), hR' _ _ _ (nn (wt_9_1 R0.w)) (by omega), hx _ (nn z2), hx _ (nn z4)]
      exact ⟨z1, z2, z3, z4⟩
    · rw [a8 14 (by omega), a8 15 (by omega)]; exact w8
