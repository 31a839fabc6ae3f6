/-! every call keeps the state in its bounds -/
def GD (st : St) : Prop := WF st ∧ WL st
theorem rg_of {f : Nat} {lo hi v : Int} (h : ∀ r ∈ rgt, r.1 = f → r.2.1 = lo ∧ r.2.2 = hi) (hv : lo ≤ v ∧ v ≤ hi) : ∀ r ∈ rgt, r.1 = f → r.2.1 ≤ v ∧ v ≤ r.2.2 := fun r hr he => by
  obtain ⟨a, b⟩ := h r hr he
  rw [a, b]
  exact hv
theorem rg_no {f : Nat} {v : Int} (h : ∀ r ∈ rgt, r.1 ≠ f) : ∀ r ∈ rgt, r.1 = f → r.2.1 ≤ v ∧ v ≤ r.2.2 := fun r hr he => absurd he (h r hr)
theorem WF_up {st : St} (w : WF st) (f i : Nat) (v : Int) (h0 : f ≠ 0 ∧ f ≠ 26) (hr : ∀ r ∈ rgt, r.1 = f → r.2.1 ≤ v ∧ v ≤ r.2.2)
    (h3 : f = 2 ∨ f = 3 → ∀ q, (i = 3 * q + 1 ∨ i = 3 * q + 2) → -9 ≤ v ∧ v ≤ 9)
    (h4 : (i : Int) < st 0 1 → f ≠ 4 ∧ f ≠ 5 ∧ f ≠ 8) (h11 : f = 11 → v = -900009 ∨ (-9999 ≤ v ∧ v ≤ 9999)) (h45 : f = 4 ∨ f = 5 → 0 ≤ v ∧ v ≤ 6)
    (h6 : (i : Int) < st 0 2 → f ≠ 12 ∧ f ≠ 15 ∧ f ≠ 16 ∧ (f = 17 → v = -900009 ∨ (st 15 i ≤ v ∧ v ≤ st 16 i))) (h17 : f = 17 → -900009 ≤ v ∧ v ≤ 999)
    (h8 : (i : Int) < st 0 3 → f ≠ 18 ∧ f ≠ 19 ∧ f ≠ 20 ∧ f ≠ 21) (h89 : f = 18 ∨ f = 19 → 0 ≤ v ∧ v ≤ 6)
    (hx : f = 1 ∨ f = 24 ∨ f = 25 → (i : Int) < st 0 0) (hy : f = 2 ∨ f = 3 ∨ f = 22 ∨ f = 23 → ∀ q j, i = 3 * q + j → j < 3 → (q : Int) < st 0 0)
    (hz : f = 9 ∨ f = 10 → (i : Int) < st 0 1) : WF (up st f i v) := by
  obtain ⟨w1, w2, w3, w4, w5, w6, w7, w8, w9, w10, w11, w12⟩ := w
  have z0 : ∀ j, up st f i v 0 j = st 0 j := fun j => up_f (fun z => h0.1 z.symm)
  have cs : ∀ g j, (g = f ∧ j = i ∧ up st f i v g j = v) ∨ (¬ (g = f ∧ j = i) ∧ up st f i v g j = st g j) := by
    intro g j
    by_cases c : g = f ∧ j = i
    · left; exact ⟨c.1, c.2, by rw [c.1, c.2, up_eq]⟩
    · right; exact ⟨c, up_ne c⟩
  refine ⟨?_, fun r hr' j => ?_, fun j => ?_, fun e he => ?_, fun e => ?_, fun l hl => ?_, fun l => ?_, fun k hk => ?_, fun k => ?_, fun j => ?_, fun j hj => ?_, fun e he => ?_⟩
  · simp only [z0]; exact w1
  · rcases cs r.1 j with ⟨a, b, c⟩ | ⟨a, c⟩
    · rw [c]; exact hr r hr' a
    · rw [c]; exact w2 r hr' j
  · obtain ⟨b1, b2, b3, b4⟩ := w3 j
    have one : ∀ g, (g = 2 ∨ g = 3) → ∀ t, (t = 3 * j + 1 ∨ t = 3 * j + 2) → (-9 ≤ st g t ∧ st g t ≤ 9) → (-9 ≤ up st f i v g t ∧ up st f i v g t ≤ 9) := by
      intro g hg t ht hh
      rcases cs g t with ⟨a, b, c⟩ | ⟨a, c⟩
      · rw [c]; exact h3 (by rw [← a]; exact hg) j (by rw [← b]; exact ht)
      · rw [c]; exact hh
    exact ⟨one 2 (Or.inl rfl) _ (Or.inl rfl) b1, one 2 (Or.inl rfl) _ (Or.inr rfl) b2, one 3 (Or.inr rfl) _ (Or.inl rfl) b3, one 3 (Or.inr rfl) _ (Or.inr rfl) b4⟩
  · rw [z0] at he
    rw [z0]
    obtain ⟨b1, b2, b3, b4, b5⟩ := w4 e he
    have e4 : up st f i v 4 e = st 4 e := up_ne (fun z => by have := h4 (by rw [← z.2]; exact he); exact this.1 z.1.symm)
    have e5 : up st f i v 5 e = st 5 e := up_ne (fun z => by have := h4 (by rw [← z.2]; exact he); exact this.2.1 z.1.symm)
    have e8 : up st f i v 8 e = st 8 e := up_ne (fun z => by have := h4 (by rw [← z.2]; exact he); exact this.2.2 z.1.symm)
    rw [e4, e5, e8]
    refine ⟨b1, b2, b3, b4, ?_⟩
    rcases cs 11 e with ⟨a, b, c⟩ | ⟨a, c⟩
    · rw [c]; exact h11 a.symm
    · rw [c]; exact b5
  · obtain ⟨b1, b2, b3⟩ := w5 e
    refine ⟨?_, ?_, ?_⟩
    · rcases cs 4 e with ⟨a, b, c⟩ | ⟨a, c⟩
      · rw [c]; exact h45 (Or.inl a.symm)
      · rw [c]; exact b1
    · rcases cs 5 e with ⟨a, b, c⟩ | ⟨a, c⟩
      · rw [c]; exact h45 (Or.inr a.symm)
      · rw [c]; exact b2
    · rcases cs 11 e with ⟨a, b, c⟩ | ⟨a, c⟩
      · rw [c]; exact h11 a.symm
      · rw [c]; exact b3
  · rw [z0] at hl
    rw [z0]
    obtain ⟨b1, b2, b3⟩ := w6 l hl
    have e12 : up st f i v 12 l = st 12 l := up_ne (fun z => by have := h6 (by rw [← z.2]; exact hl); exact this.1 z.1.symm)
    have e15 : up st f i v 15 l = st 15 l := up_ne (fun z => by have := h6 (by rw [← z.2]; exact hl); exact this.2.1 z.1.symm)
    have e16 : up st f i v 16 l = st 16 l := up_ne (fun z => by have := h6 (by rw [← z.2]; exact hl); exact this.2.2.1 z.1.symm)
    rw [e12, e15, e16]
    refine ⟨b1, b2, ?_⟩
    rcases cs 17 l with ⟨a, b, c⟩ | ⟨a, c⟩
    · rw [c, b]; exact (h6 (by rw [← b]; exact hl)).2.2.2 a.symm
    · rw [c]; exact b3
  · rcases cs 17 l with ⟨a, b, c⟩ | ⟨a, c⟩
    · rw [c]; exact h17 a.symm
    · rw [c]; exact w7 l
  · rw [z0] at hk
    rw [z0]
    have q : ∀ g, (g = 18 ∨ g = 19 ∨ g = 20 ∨ g = 21) → up st f i v g k = st g k := fun g hg => up_ne (fun z => by
      have := h8 (by rw [← z.2]; exact hk)
      have := z.1
      omega)
    rw [q 18 (by decide), q 19 (by decide), q 20 (by decide), q 21 (by decide)]
    exact w8 k hk
  · obtain ⟨b1, b2⟩ := w9 k
    refine ⟨?_, ?_⟩
    · rcases cs 18 k with ⟨a, b, c⟩ | ⟨a, c⟩
      · rw [c]; exact h89 (Or.inl a.symm)
      · rw [c]; exact b1
    · rcases cs 19 k with ⟨a, b, c⟩ | ⟨a, c⟩
      · rw [c]; exact h89 (Or.inr a.symm)
      · rw [c]; exact b2
  · rw [up_f (fun z => h0.2 z.symm)]; exact w10 j
  · rw [z0] at hj
    obtain ⟨b1, b2, b3, b4⟩ := w11 j hj
    have q : ∀ g, (g = 1 ∨ g = 24 ∨ g = 25) → up st f i v g j = st g j := fun g hg => up_ne (fun z => by
      have := hx (by rw [← z.1]; exact hg)
      have := z.2
      omega)
    have q2 : ∀ g, (g = 2 ∨ g = 3 ∨ g = 22 ∨ g = 23) → ∀ t, t < 3 → up st f i v g (3 * j + t) = st g (3 * j + t) := fun g hg t ht => up_ne (fun z => by
      have := hy (by rw [← z.1]; exact hg) j t z.2.symm ht
      omega)
    rw [q 1 (by decide), q 24 (by decide), q 25 (by decide)]
    refine ⟨b1, b2, b3, fun t ht => ?_⟩
    rw [q2 2 (by decide) t ht, q2 3 (by decide) t ht, q2 22 (by decide) t ht, q2 23 (by decide) t ht]
    exact b4 t ht
  · rw [z0] at he
    obtain ⟨b1, b2⟩ := w12 e he
    have q : ∀ g, (g = 9 ∨ g = 10) → up st f i v g e = st g e := fun g hg => up_ne (fun z => by
      have := hz (by rw [← z.1]; exact hg)
      have := z.2
      omega)
    rw [q 9 (by decide), q 10 (by decide)]
    exact ⟨b1, b2⟩
/-- a count changes -/
theorem WF_ct {st : St} (w : WF st) (c : Nat) (v : Int)
    (h1 : (c = 0 → st 0 0 ≤ v ∧ v ≤ 7) ∧ (c = 1 → st 0 1 ≤ v ∧ v ≤ 24) ∧ (c = 2 → st 0 2 ≤ v ∧ v ≤ 21) ∧ (c = 3 → st 0 3 ≤ v ∧ v ≤ 20) ∧ (c = 4 → 0 ≤ v ∧ v ≤ 6) ∧ (c = 5 → 0 ≤ v ∧ v ≤ 50))
    (h4 : c = 1 → ∀ e : Nat, st 0 1 ≤ e → (e : Int) < v → (0 ≤ st 4 e ∧ st 4 e < st 0 0) ∧ (0 ≤ st 5 e ∧ st 5 e < st 0 0) ∧ st 4 e ≠ st 5 e ∧ 1 ≤ st 8 e ∧ (st 11 e = -900009 ∨ (-9999 ≤ st 11 e ∧ st 11 e ≤ 9999)))
    (h6 : c = 2 → ∀ l : Nat, st 0 2 ≤ l → (l : Int) < v → st 12 l < st 0 0 ∧ st 15 l ≤ st 16 l ∧ (st 17 l = -900009 ∨ (st 15 l ≤ st 17 l ∧ st 17 l ≤ st 16 l)))
    (h8 : c = 3 → ∀ k : Nat, st 0 3 ≤ k → (k : Int) < v → (0 ≤ st 18 k ∧ st 18 k < st 0 0) ∧ (0 ≤ st 19 k ∧ st 19 k < st 0 0) ∧ st 18 k ≠ st 19 k ∧ 2 ≤ st 20 k ∧ st 21 k < st 20 k) : WF (up st 0 c v) := by
  obtain ⟨w1, w2, w3, w4, w5, w6, w7, w8, w9, w10, w11, w12⟩ := w
  have z : ∀ g, g ≠ 0 → ∀ j, up st 0 c v g j = st g j := fun g hg j => up_f hg
  have cs : ∀ j, (j = c ∧ up st 0 c v 0 j = v) ∨ (j ≠ c ∧ up st 0 c v 0 j = st 0 j) := by
    intro j
    by_cases h : j = c
    · left; exact ⟨h, by rw [h, up_eq]⟩
    · right; exact ⟨h, up_ne (fun z => h z.2)⟩
  have c0 := cs 0
  have c1 := cs 1
  have c2 := cs 2
  have c3 := cs 3
  have c4 := cs 4
  have c5 := cs 5
  refine ⟨?_, fun r hr j => ?_, ?_, fun e he => ?_, ?_, fun l hl => ?_, ?_, fun k hk => ?_, ?_, ?_, fun j hj => ?_, fun e he => ?_⟩
  · omega
  · rw [z r.1 (by
      have : ∀ r ∈ rgt, r.1 ≠ 0 := by decide
      exact this r hr)]
    exact w2 r hr j
  · simp only [z 2 (by decide), z 3 (by decide)]; exact w3
  · simp only [z 4 (by decide), z 5 (by decide), z 8 (by decide), z 11 (by decide)]
    have k : (0 ≤ st 4 e ∧ st 4 e < st 0 0) ∧ (0 ≤ st 5 e ∧ st 5 e < st 0 0) ∧ st 4 e ≠ st 5 e ∧ 1 ≤ st 8 e ∧ (st 11 e = -900009 ∨ (-9999 ≤ st 11 e ∧ st 11 e ≤ 9999)) := by
      by_cases d : (e : Int) < st 0 1
      · exact w4 e d
      · exact h4 (by omega) e (by omega) (by omega)
    obtain ⟨b1, b2, b3, b4, b5⟩ := k
    exact ⟨by omega, by omega, b3, b4, b5⟩
  · simp only [z 4 (by decide), z 5 (by decide), z 11 (by decide)]; exact w5
  · simp only [z 12 (by decide), z 15 (by decide), z 16 (by decide), z 17 (by decide)]
    have k : st 12 l < st 0 0 ∧ st 15 l ≤ st 16 l ∧ (st 17 l = -900009 ∨ (st 15 l ≤ st 17 l ∧ st 17 l ≤ st 16 l)) := by
      by_cases d : (l : Int) < st 0 2
      · exact w6 l d
      · exact h6 (by omega) l (by omega) (by omega)
    obtain ⟨b1, b2, b3⟩ := k
    exact ⟨by omega, b2, b3⟩
  · simp only [z 17 (by decide)]; exact w7
  · simp only [z 18 (by decide), z 19 (by decide), z 20 (by decide), z 21 (by decide)]
    have q : (0 ≤ st 18 k ∧ st 18 k < st 0 0) ∧ (0 ≤ st 19 k ∧ st 19 k < st 0 0) ∧ st 18 k ≠ st 19 k ∧ 2 ≤ st 20 k ∧ st 21 k < st 20 k := by
      by_cases d : (k : Int) < st 0 3
      · exact w8 k d
      · exact h8 (by omega) k (by omega) (by omega)
    obtain ⟨b1, b2, b3, b4, b5⟩ := q
    exact ⟨by omega, by omega, b3, b4, b5⟩
  · simp only [z 18 (by decide), z 19 (by decide)]; exact w9
  · simp only [z 26 (by decide)]; exact w10
  · simp only [z 1 (by decide), z 24 (by decide), z 25 (by decide), z 2 (by decide), z 3 (by decide), z 22 (by decide), z 23 (by decide)]
    exact w11 j (by omega)
  · simp only [z 9 (by decide), z 10 (by decide)]
    exact w12 e (by omega)
theorem WL_c {st st' : St} (h1 : ∀ l, st' 12 l = st 12 l) (h2 : ∀ p, st' 25 p = st 25 p) (h3 : st' 0 2 = st 0 2) (w : WL st) : WL st' := by
  unfold WL at w ⊢
  simp only [h1, h2, h3]
  exact w
theorem WL_up {st : St} (w : WL st) {f i : Nat} {v : Int} (h : f ≠ 12 ∧ f ≠ 25 ∧ ¬ (f = 0 ∧ i = 2)) : WL (up st f i v) := WL_c (fun l => up_f (fun z => h.1 z.symm)) (fun p => up_f (fun z => h.2.1 z.symm)) (up_ne (fun z => h.2.2 ⟨z.1.symm, z.2.symm⟩)) w
theorem up_cm {st : St} {f i g j : Nat} {v u : Int} (h : ¬ (f = g ∧ i = j)) : up (up st f i v) g j u = up (up st g j u) f i v := by
  funext a b
  unfold up
  by_cases c : a = g ∧ b = j
  · rw [if_pos c, if_neg (fun z => h ⟨z.1.symm.trans c.1, z.2.symm.trans c.2⟩), if_pos c]
  · rw [if_neg c]
    by_cases d : a = f ∧ b = i
    · rw [if_pos d, if_pos d]
    · rw [if_neg d, if_neg d, if_neg c]
theorem g_piece {st : St} (g : GD st) : GD (n_piece st) := by
  obtain ⟨w, l⟩ := g
  unfold n_piece
  by_cases c : st 0 0 < 7
  · rw [if_pos c]
    have h0 := w.1.1
    refine ⟨?_, WL_up (WL_up l (by omega)) (by omega)⟩
    rw [up_cm (by omega)]
    have w1 := WF_ct w 0 (st 0 0 + 1) (by omega) (by intro h; omega) (by intro h; omega) (by intro h; omega)
    exact WF_u1 w1 (Or.inl rfl) (by rw [up_eq]; omega) (rg_of (lo := 0) (hi := 1) (by decide) (by decide))
  · rw [if_neg c]; exact ⟨w, l⟩
theorem g_put {st : St} (g : GD st) (p : Int) {b : Int} (hb : 0 ≤ b ∧ b ≤ 1) : GD (n_put st p b) := by
  obtain ⟨w, l⟩ := g
  unfold n_put
  by_cases c : isP st p
  · rw [if_pos c]
    exact ⟨WF_u1 w (Or.inl rfl) (by have := c.1; have := c.2; omega) (rg_of (lo := 0) (hi := 1) (by decide) hb), WL_up l (by omega)⟩
  · rw [if_neg c]; exact ⟨w, l⟩
theorem g_age {st : St} (g : GD st) (p v : Int) : GD (n_age st p v) := by
  obtain ⟨w, l⟩ := g
  unfold n_age
  by_cases c : isP st p ∧ bt v 0 99
  · rw [if_pos c]
    exact ⟨WF_u1 w (Or.inr rfl) (by have := c.1.1; have := c.1.2; omega) (rg_of (lo := 0) (hi := 99) (by decide) c.2), WL_up l (by omega)⟩
  · rw [if_neg c]; exact ⟨w, l⟩
/-- a number of a piece's three -/
theorem WF_3 {st : St} (w : WF st) {f p j : Nat} {v lo hi : Int} (hf : f = 2 ∨ f = 3 ∨ f = 22 ∨ f = 23) (hp : (p : Int) < st 0 0) (hj : j < 3) (hr : ∀ r ∈ rgt, r.1 = f → r.2.1 = lo ∧ r.2.2 = hi) (hv : lo ≤ v ∧ v ≤ hi) (h9 : f = 2 ∨ f = 3 → j ≠ 0 → -9 ≤ v ∧ v ≤ 9) : WF (up st f (3 * p + j) v) := by
  refine WF_up w f (3 * p + j) v (by omega) (rg_of hr hv) (fun h q hq => h9 h (by omega)) (by intro h; omega) (by intro h; omega) (by intro h; omega) (by intro h; omega) (by intro h; omega) (by intro h; omega) (by intro h; omega) (by intro h; omega) (fun _ q t h1 h2 => by omega) (by intro h; omega)
theorem g_wish {st : St} (g : GD st) (p x a b : Int) : GD (n_wish st p x a b) := by
  obtain ⟨w, l⟩ := g
  unfold n_wish
  by_cases c : isP st p ∧ bt x (-99) 99 ∧ bt a (-9) 9 ∧ bt b (-9) 9
  · rw [if_pos c]
    obtain ⟨⟨c1, c2⟩, c3, c4, c5⟩ := c
    refine ⟨?_, WL_up (WL_up (WL_up l (by omega)) (by omega)) (by omega)⟩
    have w1 := WF_3 w (f := 3) (p := p.toNat) (j := 0) (v := x) (lo := -99) (hi := 99) (by decide) (by omega) (by decide) (by decide) c3 (fun _ h => absurd rfl h)
    have w2 := WF_3 w1 (f := 3) (p := p.toNat) (j := 1) (v := a) (lo := -99) (hi := 99) (by decide) (by rw [up_f (by decide)]; omega) (by decide) (by decide) (by have := c4.1; have := c4.2; omega) (fun _ _ => c4)
    exact WF_3 w2 (f := 3) (p := p.toNat) (j := 2) (v := b) (lo := -99) (hi := 99) (by decide) (by rw [up_f (by decide), up_f (by decide)]; omega) (by decide) (by decide) (by have := c5.1; have := c5.2; omega) (fun _ _ => c5)
  · rw [if_neg c]; exact ⟨w, l⟩
theorem g_set {st : St} (g : GD st) (p : Int) : GD (n_set st p) := by
  obtain ⟨w, l⟩ := g
  unfold n_set
  by_cases c : isP st p ∧ brS st p.toNat (st 0 2).toNat 0 = -900009
  · rw [if_pos c]
    obtain ⟨⟨c1, c2⟩, -⟩ := c
    refine ⟨?_, WL_up (WL_up (WL_up l (by omega)) (by omega)) (by omega)⟩
    have r0 := w.rg 3 (lo := -99) (hi := 99) (by decide) (3 * p.toNat)
    obtain ⟨-, -, r1', r2'⟩ := w.2.2.1 p.toNat
    have w1 := WF_3 w (f := 2) (p := p.toNat) (j := 0) (v := st 3 (3 * p.toNat)) (lo := -99) (hi := 99) (by decide) (by omega) (by decide) (by decide) r0 (fun _ h => absurd rfl h)
    have w2 := WF_3 w1 (f := 2) (p := p.toNat) (j := 1) (v := st 3 (3 * p.toNat + 1)) (lo := -99) (hi := 99) (by decide) (by rw [up_f (by decide)]; omega) (by decide) (by decide) (by omega) (fun _ _ => r1')
    exact WF_3 w2 (f := 2) (p := p.toNat) (j := 2) (v := st 3 (3 * p.toNat + 2)) (lo := -99) (hi := 99) (by decide) (by rw [up_f (by decide), up_f (by decide)]; omega) (by decide) (by decide) (by omega) (fun _ _ => r2')
  · rw [if_neg c]; exact ⟨w, l⟩
theorem g_flaw {st : St} (g : GD st) (p f v : Int) : GD (n_flaw st p f v) := by
  obtain ⟨w, l⟩ := g
  unfold n_flaw
  by_cases c : isP st p ∧ bt f 0 2 ∧ bt v (-9) 9
  · rw [if_pos c]
    obtain ⟨⟨c1, c2⟩, ⟨c3, c4⟩, c5⟩ := c
    exact ⟨WF_3 w (f := 22) (lo := -9) (hi := 9) (by decide) (by omega) (by omega) (by decide) c5 (by intro h; omega), WL_up l (by omega)⟩
  · rw [if_neg c]; exact ⟨w, l⟩
theorem g_weigh {st : St} (g : GD st) (p f v : Int) : GD (n_weigh st p f v) := by
  obtain ⟨w, l⟩ := g
  unfold n_weigh
  by_cases c : isP st p ∧ bt f 0 2 ∧ bt v 0 9
  · rw [if_pos c]
    obtain ⟨⟨c1, c2⟩, ⟨c3, c4⟩, c5⟩ := c
    exact ⟨WF_3 w (f := 23) (lo := 0) (hi := 9) (by decide) (by omega) (by omega) (by decide) c5 (by intro h; omega), WL_up l (by omega)⟩
  · rw [if_neg c]; exact ⟨w, l⟩
/-- a number of an eye that is there -/
theorem WF_9 {st : St} (w : WF st) {f e : Nat} {v lo hi : Int} (hf : f = 9 ∨ f = 10) (he : (e : Int) < st 0 1) (hr : ∀ r ∈ rgt, r.1 = f → r.2.1 = lo ∧ r.2.2 = hi) (hv : lo ≤ v ∧ v ≤ hi) : WF (up st f e v) :=
  WF_up w f e v (by omega) (rg_of hr hv) (by intro h; omega) (by intro h; omega) (by intro h; omega) (by intro h; omega) (by intro h; omega) (by intro h; omega) (by intro h; omega) (by intro h; omega) (by intro h; omega) (by intro h; omega) (fun _ => he)
theorem g_blind {st : St} (g : GD st) (e : Int) {b : Int} (hb : 0 ≤ b ∧ b ≤ 1) : GD (n_blind st e b) := by
  obtain ⟨w, l⟩ := g
  unfold n_blind
  by_cases c : isE st e
  · rw [if_pos c]
    exact ⟨WF_9 w (Or.inl rfl) (lo := 0) (hi := 1) (by have := c.1; have := c.2; omega) (by decide) hb, WL_up l (by omega)⟩
  · rw [if_neg c]; exact ⟨w, l⟩
theorem g_drift {st : St} (g : GD st) (e v : Int) : GD (n_drift st e v) := by
  obtain ⟨w, l⟩ := g
  unfold n_drift
  by_cases c : isE st e ∧ bt v (-99) 99
  · rw [if_pos c]
    exact ⟨WF_9 w (Or.inr rfl) (lo := -99) (hi := 99) (by have := c.1.1; have := c.1.2; omega) (by decide) c.2, WL_up l (by omega)⟩
  · rw [if_neg c]; exact ⟨w, l⟩
theorem g_read {st : St} (g : GD st) (e v : Int) : GD (n_read st e v) := by
  obtain ⟨w, l⟩ := g
  unfold n_read
  by_cases c : isE st e ∧ (v = -900009 ∨ bt v (-9999) 9999)
  · rw [if_pos c]
    refine ⟨WF_up w 11 e.toNat v (by decide) (rg_no (by decide)) (by intro h; omega) (fun _ => by decide) (fun _ => c.2) (by intro h; omega) (by intro h; omega) (by intro h; omega) (by intro h; omega) (by intro h; omega) (by intro h; omega) (by intro h; omega) (by intro h; omega), WL_up l (by omega)⟩
  · rw [if_neg c]; exact ⟨w, l⟩
theorem g_stick {st : St} (g : GD st) (x v : Int) : GD (n_stick st x v) := by
  obtain ⟨w, l⟩ := g
  unfold n_stick
  by_cases c : isL st x ∧ (v = -900009 ∨ bt v (st 15 x.toNat) (st 16 x.toNat))
  · rw [if_pos c]
    have r1' := w.rg 15 (lo := -999) (hi := 999) (by decide) x.toNat
    have r2' := w.rg 16 (lo := -999) (hi := 999) (by decide) x.toNat
    have c2 := c.2
    refine ⟨WF_up w 17 x.toNat v (by decide) (rg_no (by decide)) (by intro h; omega) (fun _ => by decide) (by intro h; omega) (by intro h; omega) (fun _ => ⟨by decide, by decide, by decide, fun _ => c2⟩) (fun _ => by omega) (by intro h; omega) (by intro h; omega) (by intro h; omega) (by intro h; omega) (by intro h; omega), WL_up l (by omega)⟩
  · rw [if_neg c]; exact ⟨w, l⟩
theorem g_reach {st : St} (g : GD st) (v : Int) : GD (n_reach st v) := by
  obtain ⟨w, l⟩ := g
  unfold n_reach
  by_cases c : bt v 0 6
  · rw [if_pos c]
    obtain ⟨c1, c2⟩ := c
    exact ⟨WF_ct w 4 v (by omega) (by intro h; omega) (by intro h; omega) (by intro h; omega), WL_up l (by omega)⟩
  · rw [if_neg c]; exact ⟨w, l⟩
theorem g_loss {st : St} (g : GD st) (v : Int) : GD (n_loss st v) := by
  obtain ⟨w, l⟩ := g
  unfold n_loss
  by_cases c : bt v 0 50
  · rw [if_pos c]
    obtain ⟨c1, c2⟩ := c
    exact ⟨WF_ct w 5 v (by omega) (by intro h; omega) (by intro h; omega) (by intro h; omega), WL_up l (by omega)⟩
  · rw [if_neg c]; exact ⟨w, l⟩
/-- a number of an eye that is made -/
theorem WF_e {st : St} (w : WF st) {f e : Nat} {v : Int} (he : st 0 1 ≤ (e : Int)) (hf : f = 4 ∨ f = 5 ∨ f = 6 ∨ f = 7 ∨ f = 8 ∨ f = 11) (hr : ∀ r ∈ rgt, r.1 = f → r.2.1 ≤ v ∧ v ≤ r.2.2) (h4 : f = 4 ∨ f = 5 → 0 ≤ v ∧ v ≤ 6) (h11 : f = 11 → v = -900009) : WF (up st f e v) :=
  WF_up w f e v (by omega) hr (by intro h; omega) (by intro h; omega) (fun h => Or.inl (h11 h)) h4 (by intro h; omega) (by intro h; omega) (by intro h; omega) (by intro h; omega) (by intro h; omega) (by intro h; omega) (by intro h; omega)
theorem g_eye {st : St} (g : GD st) (a b x y c : Int) : GD (n_eye st a b x y c) := by
  obtain ⟨w, l⟩ := g
  unfold n_eye
  by_cases z : isP st a ∧ isP st b ∧ bt x (-9) 9 ∧ bt y (-9) 9 ∧ bt c 1 99 ∧ a ≠ b ∧ st 0 1 < 24
  · rw [if_pos z]
    obtain ⟨⟨a1, a2⟩, ⟨b1, b2⟩, zx, zy, ⟨c1, c2⟩, zab, z24⟩ := z
    have h0 := w.1.1
    have h1 := w.1.2.1
    obtain ⟨n, hn⟩ : ∃ n, n = (st 0 1).toNat := ⟨_, rfl⟩
    rw [← hn]
    have u0 : ∀ {s : St} {f i j : Nat} {v : Int}, f ≠ 0 → up s f i v 0 j = s 0 j := fun h => up_f (fun z => h z.symm)
    have w1 := WF_e w (f := 4) (e := n) (v := a) (by omega) (by decide) (rg_no (by decide)) (fun _ => by omega) (by intro h; omega)
    have w2 := WF_e w1 (f := 5) (e := n) (v := b) (by rw [u0 (by decide)]; omega) (by decide) (rg_no (by decide)) (fun _ => by omega) (by intro h; omega)
    have w3 := WF_e w2 (f := 6) (e := n) (v := x) (by rw [u0 (by decide), u0 (by decide)]; omega) (by decide) (rg_of (lo := -9) (hi := 9) (by decide) zx) (by intro h; omega) (by intro h; omega)
    have w4 := WF_e w3 (f := 7) (e := n) (v := y) (by rw [u0 (by decide), u0 (by decide), u0 (by decide)]; omega) (by decide) (rg_of (lo := -9) (hi := 9) (by decide) zy) (by intro h; omega) (by intro h; omega)
    have w5 := WF_e w4 (f := 8) (e := n) (v := c) (by rw [u0 (by decide), u0 (by decide), u0 (by decide), u0 (by decide)]; omega) (by decide) (rg_of (lo := 0) (hi := 99) (by decide) (by omega)) (by intro h; omega) (by intro h; omega)
    have w6 := WF_e w5 (f := 11) (e := n) (v := -900009) (by rw [u0 (by decide), u0 (by decide), u0 (by decide), u0 (by decide), u0 (by decide)]; omega) (by decide) (rg_no (by decide)) (by intro h; omega) (fun _ => rfl)
    have hu : ∀ j, up (up (up (up (up (up st 4 n a) 5 n b) 6 n x) 7 n y) 8 n c) 11 n (-900009) 0 j = st 0 j := fun j => by
      rw [u0 (by decide), u0 (by decide), u0 (by decide), u0 (by decide), u0 (by decide), u0 (by decide)]
    refine ⟨WF_ct w6 1 (st 0 1 + 1) ?_ (fun _ e he1 he2 => ?_) (by intro h; omega) (by intro h; omega), WL_up (WL_up (WL_up (WL_up (WL_up (WL_up (WL_up l (by omega)) (by omega)) (by omega)) (by omega)) (by omega)) (by omega)) (by omega)⟩
    · simp only [hu]
      omega
    · rw [hu] at he1
      have en : e = n := by omega
      rw [en]
      have e4 : up (up (up (up (up (up st 4 n a) 5 n b) 6 n x) 7 n y) 8 n c) 11 n (-900009) 4 n = a := by
        rw [up_f (by decide), up_f (by decide), up_f (by decide), up_f (by decide), up_f (by decide), up_eq]
      have e5 : up (up (up (up (up (up st 4 n a) 5 n b) 6 n x) 7 n y) 8 n c) 11 n (-900009) 5 n = b := by
        rw [up_f (by decide), up_f (by decide), up_f (by decide), up_f (by decide), up_eq]
      have e8 : up (up (up (up (up (up st 4 n a) 5 n b) 6 n x) 7 n y) 8 n c) 11 n (-900009) 8 n = c := by
        rw [up_f (by decide), up_eq]
      rw [e4, e5, e8, hu, up_eq]
      exact ⟨⟨a1, a2⟩, ⟨b1, b2⟩, zab, c1, Or.inl rfl⟩
  · rw [if_neg z]; exact ⟨w, l⟩

/-- a number of a leg that is made -/
theorem WF_l {st : St} (w : WF st) {f e : Nat} {v : Int} (he : st 0 2 ≤ (e : Int)) (hf : f = 12 ∨ f = 13 ∨ f = 14 ∨ f = 15 ∨ f = 16 ∨ f = 17) (hr : ∀ r ∈ rgt, r.1 = f → r.2.1 ≤ v ∧ v ≤ r.2.2) (h17 : f = 17 → v = -900009) : WF (up st f e v) :=
  WF_up w f e v (by omega) hr (by intro h; omega) (by intro h; omega) (by intro h; omega) (by intro h; omega) (by intro h; omega) (fun h => by have := h17 h; omega) (by intro h; omega) (by intro h; omega) (by intro h; omega) (by intro h; omega) (by intro h; omega)
theorem WL_leg {st : St} (l : WL st) (w : WF st) {p : Nat} (hp : (p : Int) < st 0 0) {s : St} (h12 : ∀ i, s 12 i = if i = (st 0 2).toNat then (p : Int) else st 12 i) (h25 : ∀ q, s 25 q = if q = p then st 25 p + 1 else st 25 q) (h02 : s 0 2 = st 0 2 + 1) : WL s := by
  have h2 := w.1.2.2.1
  have h0 := w.1.1
  obtain ⟨l1', l2'⟩ := l
  refine ⟨fun q => ?_, ?_⟩
  · rw [h25, h02, show (st 0 2 + 1).toNat = (st 0 2).toNat + 1 by omega, cntN_s]
    have e : cntN (fun i => decide (s 12 i = (q : Int))) (st 0 2).toNat = cntN (fun i => decide (st 12 i = (q : Int))) (st 0 2).toNat := cntN_c _ (fun i hi => by rw [h12, if_neg (by omega)])
    rw [e, h12, if_pos rfl]
    have k := l1' q
    by_cases c : q = p
    · rw [if_pos c, ← c, if_pos (decide_eq_true rfl)]; omega
    · rw [if_neg c, if_neg (by rw [decide_eq_false (by omega)]; decide)]; omega
  · rw [h02, l2', h25, h25, h25, h25, h25, h25, h25]
    have h7 : p = 0 ∨ p = 1 ∨ p = 2 ∨ p = 3 ∨ p = 4 ∨ p = 5 ∨ p = 6 := by omega
    rcases h7 with rfl | rfl | rfl | rfl | rfl | rfl | rfl <;> simp <;> omega
theorem g_leg {st : St} (g : GD st) (p x y a b : Int) : GD (n_leg st p x y a b) := by
  obtain ⟨w, l⟩ := g
  unfold n_leg
  by_cases z : isP st p ∧ bt x (-9) 9 ∧ bt y (-9) 9 ∧ bt a (-999) 999 ∧ bt b (-999) 999 ∧ a ≤ b ∧ st 25 p.toNat < 3
  · rw [if_pos z]
    obtain ⟨⟨p1', p2'⟩, zx, zy, za, zb, zab, z3⟩ := z
    have h0 := w.1.1
    have h2 := w.1.2.2.1
    have l0 := l
    obtain ⟨-, l2'⟩ := l0
    have h20 : st 0 2 < 21 := by
      have r := fun i => w.rg 25 (lo := 0) (hi := 3) (by decide) i
      have r0 := r 0
      have r1' := r 1
      have r2' := r 2
      have r3' := r 3
      have r4' := r 4
      have r5' := r 5
      have r6' := r 6
      have h7 : p.toNat = 0 ∨ p.toNat = 1 ∨ p.toNat = 2 ∨ p.toNat = 3 ∨ p.toNat = 4 ∨ p.toNat = 5 ∨ p.toNat = 6 := by omega
      rcases h7 with h | h | h | h | h | h | h <;> rw [h] at z3 <;> omega
    obtain ⟨n, hn⟩ : ∃ n, n = (st 0 2).toNat := ⟨_, rfl⟩
    rw [← hn]
    have u0 : ∀ {s : St} {f i j : Nat} {v : Int}, f ≠ 0 → up s f i v 0 j = s 0 j := fun h => up_f (fun z => h z.symm)
    have w1 := WF_l w (f := 12) (e := n) (v := p) (by omega) (by decide) (rg_of (lo := 0) (hi := 6) (by decide) (by omega)) (by intro h; omega)
    have w2 := WF_l w1 (f := 13) (e := n) (v := x) (by rw [u0 (by decide)]; omega) (by decide) (rg_of (lo := -9) (hi := 9) (by decide) zx) (by intro h; omega)
    have w3 := WF_l w2 (f := 14) (e := n) (v := y) (by rw [u0 (by decide), u0 (by decide)]; omega) (by decide) (rg_of (lo := -9) (hi := 9) (by decide) zy) (by intro h; omega)
    have w4 := WF_l w3 (f := 15) (e := n) (v := a) (by rw [u0 (by decide), u0 (by decide), u0 (by decide)]; omega) (by decide) (rg_of (lo := -999) (hi := 999) (by decide) za) (by intro h; omega)
    have w5 := WF_l w4 (f := 16) (e := n) (v := b) (by rw [u0 (by decide), u0 (by decide), u0 (by decide), u0 (by decide)]; omega) (by decide) (rg_of (lo := -999) (hi := 999) (by decide) zb) (by intro h; omega)
    have w6 := WF_l w5 (f := 17) (e := n) (v := -900009) (by rw [u0 (by decide), u0 (by decide), u0 (by decide), u0 (by decide), u0 (by decide)]; omega) (by decide) (rg_no (by decide)) (fun _ => rfl)
    have hu : ∀ j, up (up (up (up (up (up st 12 n p) 13 n x) 14 n y) 15 n a) 16 n b) 17 n (-900009) 0 j = st 0 j := fun j => by
      rw [u0 (by decide), u0 (by decide), u0 (by decide), u0 (by decide), u0 (by decide), u0 (by decide)]
    have h25 : ∀ j, up (up (up (up (up (up st 12 n p) 13 n x) 14 n y) 15 n a) 16 n b) 17 n (-900009) 25 j = st 25 j := fun j => by
      rw [up_f (by decide), up_f (by decide), up_f (by decide), up_f (by decide), up_f (by decide), up_f (by decide)]
    have w7 := WF_25 w6 (p := p.toNat) (by rw [hu]; omega) (by rw [h25]; exact z3)
    rw [h25] at w7
    refine ⟨WF_ct w7 2 (st 0 2 + 1) ?_ (by intro h; omega) (fun _ e he1 he2 => ?_) (by intro h; omega), WL_leg l w (p := p.toNat) (by omega) (fun i => ?_) (fun q => ?_) up_eq⟩
    · simp only [u0 (f := 25) (by decide), hu]
      omega
    · rw [u0 (by decide), hu] at he1
      have en : e = n := by omega
      rw [en]
      have e12 : up (up (up (up (up (up (up st 12 n p) 13 n x) 14 n y) 15 n a) 16 n b) 17 n (-900009)) 25 p.toNat (st 25 p.toNat + 1) 12 n = p := by
        rw [up_f (by decide), up_f (by decide), up_f (by decide), up_f (by decide), up_f (by decide), up_f (by decide), up_eq]
      have e15 : up (up (up (up (up (up (up st 12 n p) 13 n x) 14 n y) 15 n a) 16 n b) 17 n (-900009)) 25 p.toNat (st 25 p.toNat + 1) 15 n = a := by
        rw [up_f (by decide), up_f (by decide), up_f (by decide), up_eq]
      have e16 : up (up (up (up (up (up (up st 12 n p) 13 n x) 14 n y) 15 n a) 16 n b) 17 n (-900009)) 25 p.toNat (st 25 p.toNat + 1) 16 n = b := by
        rw [up_f (by decide), up_f (by decide), up_eq]
      have e17 : up (up (up (up (up (up (up st 12 n p) 13 n x) 14 n y) 15 n a) 16 n b) 17 n (-900009)) 25 p.toNat (st 25 p.toNat + 1) 17 n = -900009 := by
        rw [up_f (by decide), up_eq]
      rw [e12, e15, e16, e17, u0 (by decide), hu]
      exact ⟨p2', zab, Or.inl rfl⟩
    · rw [up_f (by decide), up_f (by decide), up_f (by decide), up_f (by decide), up_f (by decide), up_f (by decide), up_f (by decide)]
      by_cases c : i = n
      · rw [c, up_eq, if_pos hn]; omega
      · rw [up_ne (fun z => c z.2), if_neg (by omega)]
    · rw [up_f (by decide)]
      by_cases c : q = p.toNat
      · rw [c, up_eq, if_pos rfl]
      · rw [up_ne (fun z => c z.2), if_neg c, h25]
  · rw [if_neg z]; exact ⟨w, l⟩
/-- a number of a pair that is made -/
theorem WF_q {st : St} (w : WF st) {f e : Nat} {v : Int} (he : st 0 3 ≤ (e : Int)) (hf : f = 18 ∨ f = 19 ∨ f = 20 ∨ f = 21) (hr : ∀ r ∈ rgt, r.1 = f → r.2.1 ≤ v ∧ v ≤ r.2.2) (h4 : f = 18 ∨ f = 19 → 0 ≤ v ∧ v ≤ 6) : WF (up st f e v) :=
  WF_up w f e v (by omega) hr (by intro h; omega) (by intro h; omega) (by intro h; omega) (by intro h; omega) (by intro h; omega) (by intro h; omega) (by intro h; omega) h4 (by intro h; omega) (by intro h; omega) (by intro h; omega)
theorem g_pair {st : St} (g : GD st) (a b x y : Int) : GD (n_pair st a b x y) := by
  obtain ⟨w, l⟩ := g
  unfold n_pair
  by_cases z : isP st a ∧ isP st b ∧ bt x 2 60 ∧ bt y 0 (x - 1) ∧ a ≠ b ∧ st 0 3 < 20
  · rw [if_pos z]
    obtain ⟨⟨a1, a2⟩, ⟨b1, b2⟩, ⟨x1, x2⟩, ⟨y1, y2⟩, zab, z20⟩ := z
    have h0 := w.1.1
    have h3 := w.1.2.2.2.1
    obtain ⟨n, hn⟩ : ∃ n, n = (st 0 3).toNat := ⟨_, rfl⟩
    rw [← hn]
    have u0 : ∀ {s : St} {f i j : Nat} {v : Int}, f ≠ 0 → up s f i v 0 j = s 0 j := fun h => up_f (fun z => h z.symm)
    have w1 := WF_q w (f := 18) (e := n) (v := a) (by omega) (by decide) (rg_no (by decide)) (fun _ => by omega)
    have w2 := WF_q w1 (f := 19) (e := n) (v := b) (by rw [u0 (by decide)]; omega) (by decide) (rg_no (by decide)) (fun _ => by omega)
    have w3 := WF_q w2 (f := 20) (e := n) (v := x) (by rw [u0 (by decide), u0 (by decide)]; omega) (by decide) (rg_of (lo := 0) (hi := 60) (by decide) (by omega)) (by intro h; omega)
    have w4 := WF_q w3 (f := 21) (e := n) (v := y) (by rw [u0 (by decide), u0 (by decide), u0 (by decide)]; omega) (by decide) (rg_of (lo := 0) (hi := 59) (by decide) (by omega)) (by intro h; omega)
    have hu : ∀ j, up (up (up (up st 18 n a) 19 n b) 20 n x) 21 n y 0 j = st 0 j := fun j => by
      rw [u0 (by decide), u0 (by decide), u0 (by decide), u0 (by decide)]
    refine ⟨WF_ct w4 3 (st 0 3 + 1) ?_ (by intro h; omega) (by intro h; omega) (fun _ e he1 he2 => ?_), WL_up (WL_up (WL_up (WL_up (WL_up l (by omega)) (by omega)) (by omega)) (by omega)) (by omega)⟩
    · simp only [hu]
      omega
    · rw [hu] at he1
      have en : e = n := by omega
      rw [en]
      have e18 : up (up (up (up st 18 n a) 19 n b) 20 n x) 21 n y 18 n = a := by
        rw [up_f (by decide), up_f (by decide), up_f (by decide), up_eq]
      have e19 : up (up (up (up st 18 n a) 19 n b) 20 n x) 21 n y 19 n = b := by
        rw [up_f (by decide), up_f (by decide), up_eq]
      have e20 : up (up (up (up st 18 n a) 19 n b) 20 n x) 21 n y 20 n = x := by
        rw [up_f (by decide), up_eq]
      rw [e18, e19, e20, up_eq, hu]
      exact ⟨⟨a1, a2⟩, ⟨b1, b2⟩, zab, x1, by omega⟩
  · rw [if_neg z]; exact ⟨w, l⟩
theorem g_drop {st : St} (g : GD st) (k : Int) : GD (n_drop st k) := by
  obtain ⟨w, l⟩ := g
  unfold n_drop
  by_cases c : isQ st k
  · rw [if_pos c]
    obtain ⟨c1, c2⟩ := c
    obtain ⟨w1, w2, w3, w4, w5, w6, w7, w8, w9, w10, w11, w12⟩ := w
    have cs : ∀ f i, (f = 0 ∧ i = 3 ∧ stDrop st k.toNat f i = st 0 3 - 1) ∨ ((18 ≤ f ∧ f ≤ 21) ∧ (i : Int) < st 0 3 - 1 ∧ stDrop st k.toNat f i = st f (i + 1)) ∨ (¬ (f = 0 ∧ i = 3) ∧ stDrop st k.toNat f i = st f i) := by
      intro f i
      unfold stDrop
      by_cases d : f = 0 ∧ i = 3
      · rw [if_pos d]; exact Or.inl ⟨d.1, d.2, rfl⟩
      · rw [if_neg d]
        by_cases e : (18 ≤ f ∧ f ≤ 21) ∧ k.toNat ≤ i ∧ (i : Int) < st 0 3 - 1
        · rw [if_pos e]; exact Or.inr (Or.inl ⟨e.1, e.2.2, rfl⟩)
        · rw [if_neg e]; exact Or.inr (Or.inr ⟨d, rfl⟩)
    have z : ∀ g, g ≠ 0 → ¬ (18 ≤ g ∧ g ≤ 21) → ∀ j, stDrop st k.toNat g j = st g j := fun g h1 h2 j => stDrop_f h2 (fun z => h1 z.1)
    have z0 : ∀ j, j ≠ 3 → stDrop st k.toNat 0 j = st 0 j := fun j h => stDrop_f (by omega) (fun z => h z.2)
    have z3 : stDrop st k.toNat 0 3 = st 0 3 - 1 := if_pos ⟨rfl, rfl⟩
    -- the numbers of a pair come from one pair
    have pr : ∀ i : Nat, (∀ g, 18 ≤ g → g ≤ 21 → stDrop st k.toNat g i = st g i) ∨ ((i : Int) < st 0 3 - 1 ∧ ∀ g, 18 ≤ g → g ≤ 21 → stDrop st k.toNat g i = st g (i + 1)) := by
      intro i
      by_cases d : k.toNat ≤ i ∧ (i : Int) < st 0 3 - 1
      · refine Or.inr ⟨d.2, fun g h1 h2 => ?_⟩
        unfold stDrop
        rw [if_neg (by omega), if_pos ⟨⟨h1, h2⟩, d⟩]
      · refine Or.inl (fun g h1 h2 => ?_)
        unfold stDrop
        rw [if_neg (by omega), if_neg (fun z => d z.2)]
    refine ⟨⟨?_, fun r hr j => ?_, ?_, fun e he => ?_, ?_, fun e he => ?_, ?_, fun q hq => ?_, fun q => ?_, ?_, fun j hj => ?_, fun e he => ?_⟩, WL_c (z 12 (by decide) (by decide)) (z 25 (by decide) (by decide)) (z0 2 (by decide)) l⟩
    · rw [z0 0 (by decide), z0 1 (by decide), z0 2 (by decide), z3, z0 4 (by decide), z0 5 (by decide)]; omega
    · have r0 : r.1 ≠ 0 := by
        have : ∀ r ∈ rgt, r.1 ≠ 0 := by decide
        exact this r hr
      rcases cs r.1 j with ⟨a, -, -⟩ | ⟨-, -, e⟩ | ⟨-, e⟩
      · exact absurd a r0
      · rw [e]; exact w2 r hr (j + 1)
      · rw [e]; exact w2 r hr j
    · simp only [z 2 (by decide) (by decide), z 3 (by decide) (by decide)]; exact w3
    · rw [z0 1 (by decide)] at he
      simp only [z0 0 (by decide), z 4 (by decide) (by decide), z 5 (by decide) (by decide), z 8 (by decide) (by decide), z 11 (by decide) (by decide)]
      exact w4 e he
    · simp only [z 4 (by decide) (by decide), z 5 (by decide) (by decide), z 11 (by decide) (by decide)]; exact w5
    · rw [z0 2 (by decide)] at he
      simp only [z0 0 (by decide), z 12 (by decide) (by decide), z 15 (by decide) (by decide), z 16 (by decide) (by decide), z 17 (by decide) (by decide)]
      exact w6 e he
    · simp only [z 17 (by decide) (by decide)]; exact w7
    · rw [z3] at hq
      rw [z0 0 (by decide)]
      rcases pr q with h | ⟨h1, h⟩
      · rw [h 18 (by decide) (by decide), h 19 (by decide) (by decide), h 20 (by decide) (by decide), h 21 (by decide) (by decide)]
        exact w8 q (by omega)
      · rw [h 18 (by decide) (by decide), h 19 (by decide) (by decide), h 20 (by decide) (by decide), h 21 (by decide) (by decide)]
        exact w8 (q + 1) (by omega)
    · rcases pr q with h | ⟨h1, h⟩
      · rw [h 18 (by decide) (by decide), h 19 (by decide) (by decide)]; exact w9 q
      · rw [h 18 (by decide) (by decide), h 19 (by decide) (by decide)]; exact w9 (q + 1)
    · simp only [z 26 (by decide) (by decide)]; exact w10
    · rw [z0 0 (by decide)] at hj
      simp only [z 1 (by decide) (by decide), z 24 (by decide) (by decide), z 25 (by decide) (by decide), z 2 (by decide) (by decide), z 3 (by decide) (by decide), z 22 (by decide) (by decide), z 23 (by decide) (by decide)]
      exact w11 j hj
    · rw [z0 1 (by decide)] at he
      simp only [z 9 (by decide) (by decide), z 10 (by decide) (by decide)]
      exact w12 e he
  · rw [if_neg c]; exact ⟨w, l⟩
theorem g_readAll {st : St} (g : GD st) : GD (n_readAll st) := ⟨WF_R g.1 _, WL_c (fun l => stR_f (by decide)) (fun p => stR_f (by decide)) (stR_f (by decide)) g.2⟩
