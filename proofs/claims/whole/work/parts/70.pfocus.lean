/-! the focus: the class's search finds the reference's first best point -/
/-- left end of the piece i in the row y -/
def lfS (st : St) (sq y : Int) (i : Nat) : Int := 2 * st 2 (3 * i + 1) - rtS (sq - (2 * st 2 (3 * i + 2) - y) * (2 * st 2 (3 * i + 2) - y)) 20 0
abbrev inR (st : St) (sq y : Int) (i : Nat) : Prop := st 1 i ≠ 0 ∧ (2 * st 2 (3 * i + 2) - y) * (2 * st 2 (3 * i + 2) - y) ≤ sq
theorem srP_y {st : St} {sq y : Int} {b : Int × Int × Int} {i : Nat} (h : inR st sq y i) : srP st sq y b i = tkS b (lfS st sq y i) y (lgS st (lfS st sq y i) y sq) := if_pos h
theorem srP_n {st : St} {sq y : Int} {b : Int × Int × Int} {i : Nat} (h : ¬ inR st sq y i) : srP st sq y b i = b := if_neg h
theorem rtS_ok (q : Int) : ∀ n r : Nat, (r : Int) * r ≤ q → q < ((r + n + 1 : Nat) : Int) * ((r + n + 1 : Nat) : Int) → ((rtS q n r : Nat) : Int) * (rtS q n r : Nat) ≤ q ∧ q < ((rtS q n r : Nat) + 1 : Int) * ((rtS q n r : Nat) + 1) := by
  intro n
  induction n with
  | zero =>
    intro r h1 h2
    have e : ((r + 0 + 1 : Nat) : Int) = (r : Int) + 1 := by omega
    rw [e] at h2
    exact ⟨h1, h2⟩
  | succ n ih =>
    intro r h1 h2
    unfold rtS
    by_cases c : ((r : Int) + 1) * ((r : Int) + 1) ≤ q
    · rw [if_pos c]
      refine ih (r + 1) ?_ ?_
      · have : ((r + 1 : Nat) : Int) = (r : Int) + 1 := by omega
        rw [this]; exact c
      · rw [show r + 1 + n + 1 = r + (n + 1) + 1 by omega]; exact h2
    · rw [if_neg c]
      exact ⟨h1, by omega⟩
theorem sq_le {a r q : Int} (hr : 0 ≤ r) (h1 : r * r ≤ q) (h2 : q < (r + 1) * (r + 1)) : a * a ≤ q ↔ -r ≤ a ∧ a ≤ r := by
  constructor
  · intro h
    constructor
    · by_cases c : -r ≤ a
      · exact c
      · exfalso
        have : (r + 1) * (r + 1) ≤ (-a) * (-a) := Int.mul_le_mul (by omega) (by omega) (by omega) (by omega)
        rw [Int.neg_mul_neg] at this
        omega
    · by_cases c : a ≤ r
      · exact c
      · exfalso
        have : (r + 1) * (r + 1) ≤ a * a := Int.mul_le_mul (by omega) (by omega) (by omega) (by omega)
        omega
  · rintro ⟨ha, hb⟩
    by_cases c : 0 ≤ a
    · have : a * a ≤ r * r := Int.mul_le_mul hb hb c hr
      omega
    · have : (-a) * (-a) ≤ r * r := Int.mul_le_mul (by omega) (by omega) (by omega) hr
      rw [Int.neg_mul_neg] at this
      omega
theorem rt_ex {q : Int} (h0 : 0 ≤ q) (h1 : q ≤ 400) (a : Int) : a * a ≤ q ↔ -(rtS q 20 0 : Int) ≤ a ∧ a ≤ (rtS q 20 0 : Int) := by
  obtain ⟨g1, g2⟩ := rtS_ok q 20 0 (by simpa using h0) (by
    show q < ((0 + 20 + 1 : Nat) : Int) * ((0 + 20 + 1 : Nat) : Int)
    have : ((0 + 20 + 1 : Nat) : Int) * ((0 + 20 + 1 : Nat) : Int) = 441 := rfl
    omega)
  exact sq_le (by omega) g1 g2
theorem sq_nn (a : Int) : 0 ≤ a * a := by
  by_cases c : 0 ≤ a
  · exact Int.mul_nonneg c c
  · rw [← Int.neg_mul_neg]; exact Int.mul_nonneg (by omega) (by omega)
/-- which points of the row a piece lights -/
theorem lgP_iff {st : St} {sq : Int} (hs : 0 ≤ sq ∧ sq ≤ 400) (x y : Int) (i : Nat) : lgP st x y sq i = true ↔ inR st sq y i ∧ lfS st sq y i ≤ x ∧ x ≤ 2 * st 2 (3 * i + 1) + (2 * st 2 (3 * i + 1) - lfS st sq y i) := by
  unfold lgP lfS
  rw [decide_eq_true_iff]
  have n1 := sq_nn (2 * st 2 (3 * i + 1) - x)
  have n2 := sq_nn (2 * st 2 (3 * i + 2) - y)
  generalize hD : (2 * st 2 (3 * i + 2) - y) * (2 * st 2 (3 * i + 2) - y) = D at n2 ⊢
  constructor
  · rintro ⟨a, b⟩
    have q := (rt_ex (q := sq - D) (by omega) (by omega) (2 * st 2 (3 * i + 1) - x)).mp (by omega)
    exact ⟨⟨a, by omega⟩, by omega, by omega⟩
  · rintro ⟨⟨a, b⟩, c, d⟩
    rw [hD] at b
    have q := (rt_ex (q := sq - D) (by omega) (by omega) (2 * st 2 (3 * i + 1) - x)).mpr (by omega)
    exact ⟨a, by omega⟩
/-- the last left end not right of x, over the pieces below n that light (x, y) -/
theorem lf_max (st : St) (sq x y : Int) : ∀ n : Nat, 0 < cntN (lgP st x y sq) n → ∃ i, i < n ∧ lgP st x y sq i = true ∧ ∀ j, j < n → lgP st x y sq j = true → lfS st sq y j ≤ lfS st sq y i := by
  intro n
  induction n with
  | zero => intro h; exact absurd h (Nat.lt_irrefl _)
  | succ n ih =>
    intro h
    rw [cntN_s] at h
    by_cases c : lgP st x y sq n = true
    · by_cases d : 0 < cntN (lgP st x y sq) n
      · obtain ⟨i, h1, h2, h3⟩ := ih d
        by_cases e : lfS st sq y i ≤ lfS st sq y n
        · refine ⟨n, by omega, c, fun j hj hl => ?_⟩
          by_cases z : j = n
          · rw [z]; exact Int.le_refl _
          · have := h3 j (by omega) hl; omega
        · refine ⟨i, by omega, h2, fun j hj hl => ?_⟩
          by_cases z : j = n
          · rw [z]; omega
          · exact h3 j (by omega) hl
      · refine ⟨n, by omega, c, fun j hj hl => ?_⟩
        by_cases z : j = n
        · rw [z]; exact Int.le_refl _
        · exfalso
          have := cntN_mono (lgP st x y sq) (m := j + 1) (n := n) (by omega)
          have e := cntN_s (lgP st x y sq) j
          rw [if_pos hl] at e
          omega
    · rw [if_neg c] at h
      obtain ⟨i, h1, h2, h3⟩ := ih (by omega)
      refine ⟨i, by omega, h2, fun j hj hl => ?_⟩
      by_cases z : j = n
      · rw [z] at hl; exact absurd hl c
      · exact h3 j (by omega) hl
theorem cand {st : St} {sq : Int} (hs : 0 ≤ sq ∧ sq ≤ 400) {x y : Int} (h : 1 ≤ lgS st x y sq) : ∃ i : Nat, (i : Int) < st 0 0 ∧ inR st sq y i ∧ lfS st sq y i ≤ x ∧ lgS st x y sq ≤ lgS st (lfS st sq y i) y sq := by
  unfold lgS at h ⊢
  obtain ⟨i, h1, h2, h3⟩ := lf_max st sq x y (st 0 0).toNat (by omega)
  obtain ⟨a1, a2, a3⟩ := (lgP_iff hs x y i).mp h2
  refine ⟨i, by omega, a1, a2, ?_⟩
  have := cntN_sub (P := lgP st x y sq) (P' := lgP st (lfS st sq y i) y sq) (st 0 0).toNat (fun j hj hl => ?_)
  · omega
  · obtain ⟨b1, b2, b3⟩ := (lgP_iff hs x y j).mp hl
    exact (lgP_iff hs _ y j).mpr ⟨b1, h3 j hj hl, by omega⟩
/-- b lies before (x, y), or is it -/
abbrev bef (b : Int × Int × Int) (x y : Int) : Prop := b.2.1 < y ∨ (b.2.1 = y ∧ b.1 ≤ x)
def rowI (st : St) (sq y : Int) (b0 b : Int × Int × Int) (i : Nat) : Prop := (b = b0 ∨ (b.2.1 = y ∧ b0.2.2 < b.2.2)) ∧ (-40 ≤ b.1 ∧ b.1 ≤ 40) ∧ b.2.2 = lgS st b.1 b.2.1 sq ∧ ∀ j, j < i → inR st sq y j → lgS st (lfS st sq y j) y sq ≤ b.2.2 ∧ (lgS st (lfS st sq y j) y sq = b.2.2 → bef b (lfS st sq y j) y)
theorem lfS_rg {st : St} (w : WF st) (sq y : Int) (i : Nat) : -38 ≤ lfS st sq y i ∧ lfS st sq y i ≤ 18 := by
  have g := (w.2.2.1 i).1
  have r := rtS_rg (sq - (2 * st 2 (3 * i + 2) - y) * (2 * st 2 (3 * i + 2) - y)) 20 0
  unfold lfS
  omega
theorem srR_row {st : St} (w : WF st) {sq y : Int} {b0 : Int × Int × Int} (h0 : b0 = (-40, -40, 0) ∨ b0.2.1 < y) (hy : -40 ≤ y) : ∀ (n i : Nat) (b : Int × Int × Int), rowI st sq y b0 b i → rowI st sq y b0 (srR st sq y n i b) (i + n) := by
  intro n
  induction n with
  | zero => exact fun _ _ h => h
  | succ n ih =>
    intro i b h
    have e : srR st sq y (n + 1) i b = srR st sq y n (i + 1) (srP st sq y b i) := rfl
    rw [e, show i + (n + 1) = i + 1 + n by omega]
    refine ih (i + 1) _ ?_
    obtain ⟨k1, k2, k3, k4⟩ := h
    by_cases c : inR st sq y i
    · rw [srP_y c]
      have lr := lfS_rg w sq y i
      generalize hx : lfS st sq y i = x at lr ⊢
      by_cases d : b.2.2 < lgS st x y sq ∨ (lgS st x y sq = b.2.2 ∧ y = b.2.1 ∧ x < b.1)
      · have ed : tkS b x y (lgS st x y sq) = (x, y, lgS st x y sq) := if_pos d
        rw [ed]
        refine ⟨Or.inr ⟨rfl, ?_⟩, by dsimp only; omega, rfl, fun j hj hr => ?_⟩
        · show b0.2.2 < lgS st x y sq
          rcases k1 with k1 | k1
          · rw [k1] at d
            rcases d with d | ⟨d1, d2, d3⟩
            · exact d
            · exfalso
              rcases h0 with h0 | h0
              · rw [h0] at d3; dsimp only at d3; omega
              · omega
          · omega
        · show lgS st (lfS st sq y j) y sq ≤ lgS st x y sq ∧ (lgS st (lfS st sq y j) y sq = lgS st x y sq → y < y ∨ (y = y ∧ x ≤ lfS st sq y j))
          by_cases z : j = i
          · rw [z, hx]; exact ⟨Int.le_refl _, fun _ => Or.inr ⟨rfl, Int.le_refl _⟩⟩
          · obtain ⟨m1, m2⟩ := k4 j (by omega) hr
            unfold bef at m2
            refine ⟨by omega, fun zz => Or.inr ⟨rfl, ?_⟩⟩
            rcases d with d | ⟨d1, d2, d3⟩
            · omega
            · have := m2 (by omega); omega
      · have ed : tkS b x y (lgS st x y sq) = b := if_neg d
        rw [ed]
        refine ⟨k1, k2, k3, fun j hj hr => ?_⟩
        by_cases z : j = i
        · rw [z, hx]
          refine ⟨by omega, fun zz => ?_⟩
          unfold bef
          rcases k1 with k1 | k1
          · rcases h0 with h0 | h0
            · have z1 : b.2.1 = -40 := by rw [k1, h0]
              have z2 : b.1 = -40 := by rw [k1, h0]
              omega
            · rw [k1]; exact Or.inl h0
          · omega
        · exact k4 j (by omega) hr
    · rw [srP_n c]
      refine ⟨k1, k2, k3, fun j hj hr => ?_⟩
      by_cases z : j = i
      · rw [z] at hr; exact absurd hr c
      · exact k4 j (by omega) hr
def rowsI (st : St) (sq y : Int) (b : Int × Int × Int) : Prop := (b = (-40, -40, 0) ∨ b.2.1 < y) ∧ -40 ≤ b.2.1 ∧ (-40 ≤ b.1 ∧ b.1 ≤ 40) ∧ b.2.2 = lgS st b.1 b.2.1 sq ∧ (b.2.2 = 0 → b = (-40, -40, 0)) ∧ ∀ x' y', -40 ≤ x' → -40 ≤ y' → y' < y → lgS st x' y' sq ≤ b.2.2 ∧ (lgS st x' y' sq = b.2.2 → bef b x' y')
theorem srA_rows {st : St} (w : WF st) {sq : Int} (hs : 0 ≤ sq ∧ sq ≤ 400) : ∀ (n : Nat) (y : Int) (b : Int × Int × Int), -40 ≤ y → rowsI st sq y b → rowsI st sq (y + n) (srA st sq n y b) := by
  intro n
  induction n with
  | zero => intro y b hy h; rw [show y + ((0 : Nat) : Int) = y by omega]; exact h
  | succ n ih =>
    intro y b hy h
    have e : srA st sq (n + 1) y b = srA st sq n (y + 1) (srR st sq y (st 0 0).toNat 0 b) := rfl
    rw [e, show y + ((n + 1 : Nat) : Int) = y + 1 + n by omega]
    refine ih (y + 1) _ (by omega) ?_
    obtain ⟨k1, k0, k2, k3, k5, k4⟩ := h
    obtain ⟨m1, m2, m3, m4⟩ := srR_row w k1 hy (st 0 0).toNat 0 b ⟨Or.inl rfl, k2, k3, fun j hj => absurd hj (Nat.not_lt_zero _)⟩
    generalize hb : srR st sq y (st 0 0).toNat 0 b = b' at m1 m2 m3 m4
    have hle : b.2.2 ≤ b'.2.2 := by rcases m1 with z | z; (rw [z]; exact Int.le_refl _); omega
    have hnn : 0 ≤ b.2.2 := by rw [k3]; unfold lgS; omega
    have z0 : b'.2.2 = 0 → b' = (-40, -40, 0) := by
      intro z
      rcases m1 with y1 | y1
      · rw [y1]; exact k5 (by rw [← y1]; exact z)
      · omega
    refine ⟨?_, ?_, m2, m3, z0, fun x' y' hx' hy1 hy2 => ?_⟩
    · rcases m1 with z | z
      · rw [z]
        rcases k1 with y1 | y1
        · exact Or.inl y1
        · exact Or.inr (by omega)
      · exact Or.inr (by omega)
    · rcases m1 with z | z
      · rw [z]; exact k0
      · omega
    · have tot : ∀ v : Int, v = lgS st x' y' sq → v = 0 → v ≤ b'.2.2 ∧ (v = b'.2.2 → bef b' x' y') := by
        intro v hv hv0
        refine ⟨by omega, fun z => ?_⟩
        have := z0 (by omega)
        rw [this]
        unfold bef
        dsimp only
        omega
      by_cases c : y' = y
      · by_cases d : 1 ≤ lgS st x' y' sq
        · obtain ⟨i, a1, a2, a3, a4⟩ := cand hs d
          rw [c] at a2 a3 a4 ⊢
          obtain ⟨q1, q2⟩ := m4 i (by omega) a2
          refine ⟨by omega, fun z => ?_⟩
          have := q2 (by omega)
          unfold bef at this ⊢
          omega
        · have : 0 ≤ lgS st x' y' sq := by unfold lgS; omega
          exact tot _ rfl (by omega)
      · obtain ⟨q1, q2⟩ := k4 x' y' hx' hy1 (by omega)
        refine ⟨by omega, fun z => ?_⟩
        rcases m1 with y1 | y1
        · rw [y1]; exact q2 (by rw [← y1]; exact z)
        · exfalso; omega
theorem fcM_ok (st : St) (sq : Int) : ∀ n : Nat, 0 < n → (fcM st sq n).2 < n ∧ (fcM st sq n).1 = lgS st ((((fcM st sq n).2 % 81 : Nat) : Int) - 40) ((((fcM st sq n).2 / 81 : Nat) : Int) - 40) sq ∧ ∀ k, k < n → lgS st (((k % 81 : Nat) : Int) - 40) (((k / 81 : Nat) : Int) - 40) sq ≤ (fcM st sq n).1 ∧ (k < (fcM st sq n).2 → lgS st (((k % 81 : Nat) : Int) - 40) (((k / 81 : Nat) : Int) - 40) sq < (fcM st sq n).1) := by
  intro n
  induction n with
  | zero => intro h; exact absurd h (Nat.lt_irrefl _)
  | succ n ih =>
    intro _
    have e : fcM st sq (n + 1) = if (fcM st sq n).1 < lgS st (((n % 81 : Nat) : Int) - 40) (((n / 81 : Nat) : Int) - 40) sq then (lgS st (((n % 81 : Nat) : Int) - 40) (((n / 81 : Nat) : Int) - 40) sq, n) else fcM st sq n := rfl
    by_cases c : (fcM st sq n).1 < lgS st (((n % 81 : Nat) : Int) - 40) (((n / 81 : Nat) : Int) - 40) sq
    · rw [if_pos c] at e
      rw [e]
      refine ⟨Nat.lt_succ_self n, rfl, fun k hk => ?_⟩
      dsimp only
      by_cases z : k = n
      · rw [z]; exact ⟨Int.le_refl _, fun y => absurd y (Nat.lt_irrefl _)⟩
      · have := (ih (by omega)).2.2 k (by omega)
        exact ⟨by omega, fun _ => by omega⟩
    · rw [if_neg c] at e
      rw [e]
      by_cases z0 : n = 0
      · exfalso
        rw [z0] at c
        apply c
        show (-1 : Int) < _
        have : 0 ≤ lgS st (((0 % 81 : Nat) : Int) - 40) (((0 / 81 : Nat) : Int) - 40) sq := by unfold lgS; omega
        omega
      · obtain ⟨i1', i2', i3'⟩ := ih (by omega)
        refine ⟨by omega, i2', fun k hk => ?_⟩
        by_cases z : k = n
        · rw [z]; exact ⟨by omega, fun y => by omega⟩
        · exact i3' k (by omega)
theorem far0 {st : St} (w : WF st) {sq : Int} (hs : 0 ≤ sq ∧ sq ≤ 400) : lgS st (-40) (-40) sq = 0 := by
  by_cases c : 1 ≤ lgS st (-40) (-40) sq
  · obtain ⟨i, -, -, a3, -⟩ := cand hs c
    have := lfS_rg w sq (-40) i
    omega
  · have : 0 ≤ lgS st (-40) (-40) sq := by unfold lgS; omega
    omega
theorem eq_focus {st : St} (w : WF st) (sq v : Int) : rx_focus st sq v = rm_focus st sq v := by
  unfold rx_focus rm_focus
  by_cases c : bt sq 0 400 ∧ bt v 0 2
  · rw [if_pos c, if_pos c]
    have hs : 0 ≤ sq ∧ sq ≤ 400 := c.1
    have hv : 0 ≤ v ∧ v ≤ 2 := c.2
    have R := srA_rows w hs 81 (-40) (-40, -40, 0) (by decide) ⟨Or.inl rfl, by decide, by decide, (far0 w hs).symm, fun _ => rfl, fun x' y' _ h1 h2 => by omega⟩
    obtain ⟨f1, f2, f3⟩ := fcM_ok st sq 6561 (by decide)
    have eS : srS st sq = srA st sq 81 (-40) (-40, -40, 0) := rfl
    rw [← eS] at R
    generalize srS st sq = b at R ⊢
    generalize fcM st sq 6561 = F at f1 f2 f3 ⊢
    obtain ⟨k1, k0, k2, k3, -, k4⟩ := R
    have hb41 : b.2.1 < 41 := by rcases k1 with z | z; (rw [z]; decide); omega
    obtain ⟨g1, g2⟩ := k4 (((F.2 % 81 : Nat) : Int) - 40) (((F.2 / 81 : Nat) : Int) - 40) (by omega) (by omega) (by omega)
    obtain ⟨kb, hkb⟩ : ∃ kb : Nat, kb = (b.2.1 + 40).toNat * 81 + (b.1 + 40).toNat := ⟨_, rfl⟩
    have e1 : ((kb % 81 : Nat) : Int) - 40 = b.1 := by omega
    have e2 : ((kb / 81 : Nat) : Int) - 40 = b.2.1 := by omega
    obtain ⟨p1', p2'⟩ := f3 kb (by omega)
    rw [e1, e2, ← k3] at p1' p2'
    rw [← f2] at g1 g2
    have ev : b.2.2 = F.1 := by omega
    have g3 := g2 ev.symm
    unfold bef at g3
    have ek : kb = F.2 := by
      have : ¬ kb < F.2 := fun z => by have := p2' z; omega
      omega
    rw [← ek, e1, e2, ev]
    by_cases c0 : v = 0
    · rw [if_neg (by omega), if_pos c0, if_pos c0]
    · rw [if_neg c0, if_neg c0]
      by_cases c1 : v = 1
      · rw [if_neg (by omega), if_pos c1]
      · rw [if_pos (by omega), if_neg c1]
  · rw [if_neg c, if_neg c]
