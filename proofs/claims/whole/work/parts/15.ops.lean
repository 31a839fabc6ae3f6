/-! what each simple call answers (r_) and what it makes of the state (n_); both the class and the reference keep to these -/
abbrev ir (a : Int) : Prop := -2147483648 ≤ a ∧ a ≤ 2147483647
abbrev isP (st : St) (p : Int) : Prop := 0 ≤ p ∧ p < st 0 0
abbrev isE (st : St) (e : Int) : Prop := 0 ≤ e ∧ e < st 0 1
abbrev isL (st : St) (l : Int) : Prop := 0 ≤ l ∧ l < st 0 2
abbrev isQ (st : St) (k : Int) : Prop := 0 ≤ k ∧ k < st 0 3
abbrev bt (v lo hi : Int) : Prop := lo ≤ v ∧ v ≤ hi
abbrev wkS (st : St) (e : Nat) : Prop := st 9 e = 0 ∧ st 1 (st 4 e).toNat ≠ 0 ∧ st 1 (st 5 e).toNat ≠ 0
def plH (st : St) (p : Nat) (x y : Int) : Int := st 2 (3 * p) + st 2 (3 * p + 1) * x + st 2 (3 * p + 2) * y
def wsH (st : St) (p : Nat) (x y : Int) : Int := st 3 (3 * p) + st 3 (3 * p + 1) * x + st 3 (3 * p + 2) * y
def tlS (st : St) (e : Nat) : Int := plH st (st 4 e).toNat (st 6 e) (st 7 e) - plH st (st 5 e).toNat (st 6 e) (st 7 e) + st 10 e
def r_piece (st : St) : Int := if st 0 0 < 7 then st 0 0 else -900004
def n_piece (st : St) : St := if st 0 0 < 7 then up (up st 1 (st 0 0).toNat 1) 0 0 (st 0 0 + 1) else st
def r_put (st : St) (p : Int) : Int := if isP st p then st 1 p.toNat else -900001
def n_put (st : St) (p b : Int) : St := if isP st p then up st 1 p.toNat b else st
def r_wish (st : St) (p l a b : Int) : Int := if isP st p then (if bt l (-99) 99 ∧ bt a (-9) 9 ∧ bt b (-9) 9 then 1 else -900002) else -900001
def n_wish (st : St) (p l a b : Int) : St := if isP st p ∧ bt l (-99) 99 ∧ bt a (-9) 9 ∧ bt b (-9) 9 then up (up (up st 3 (3 * p.toNat) l) 3 (3 * p.toNat + 1) a) 3 (3 * p.toNat + 2) b else st
def r_about (st : St) (p w : Int) : Int := if isP st p then (if bt w 0 2 then st 2 (3 * p.toNat + w.toNat) else if bt w 3 5 then st 3 (3 * p.toNat + (w - 3).toNat) else -900002) else -900001
def r_eye (st : St) (a b x y c : Int) : Int := if isP st a ∧ isP st b then (if bt x (-9) 9 ∧ bt y (-9) 9 ∧ bt c 1 99 then (if a = b then -900003 else if st 0 1 < 24 then st 0 1 else -900004) else -900002) else -900001
def n_eye (st : St) (a b x y c : Int) : St := if isP st a ∧ isP st b ∧ bt x (-9) 9 ∧ bt y (-9) 9 ∧ bt c 1 99 ∧ a ≠ b ∧ st 0 1 < 24 then
  up (up (up (up (up (up (up st 4 (st 0 1).toNat a) 5 (st 0 1).toNat b) 6 (st 0 1).toNat x) 7 (st 0 1).toNat y) 8 (st 0 1).toNat c) 11 (st 0 1).toNat (-900009)) 0 1 (st 0 1 + 1) else st
def r_blind (st : St) (e : Int) : Int := if isE st e then st 9 e.toNat else -900001
def n_blind (st : St) (e b : Int) : St := if isE st e then up st 9 e.toNat b else st
def r_drift (st : St) (e v : Int) : Int := if isE st e then (if bt v (-99) 99 then st 10 e.toNat else -900002) else -900001
def n_drift (st : St) (e v : Int) : St := if isE st e ∧ bt v (-99) 99 then up st 10 e.toNat v else st
def r_tells (st : St) (e : Int) : Int := if isE st e then (if wkS st e.toNat then tlS st e.toNat else -900003) else -900001
def r_read (st : St) (e v : Int) : Int := if isE st e then (if v = -900009 ∨ bt v (-9999) 9999 then st 11 e.toNat else -900002) else -900001
def n_read (st : St) (e v : Int) : St := if isE st e ∧ (v = -900009 ∨ bt v (-9999) 9999) then up st 11 e.toNat v else st
def r_leg (st : St) (p x y l u : Int) : Int := if isP st p then (if bt x (-9) 9 ∧ bt y (-9) 9 ∧ bt l (-999) 999 ∧ bt u (-999) 999 ∧ l ≤ u then (if st 25 p.toNat < 3 then st 0 2 else -900003) else -900002) else -900001
def n_leg (st : St) (p x y l u : Int) : St := if isP st p ∧ bt x (-9) 9 ∧ bt y (-9) 9 ∧ bt l (-999) 999 ∧ bt u (-999) 999 ∧ l ≤ u ∧ st 25 p.toNat < 3 then
  up (up (up (up (up (up (up (up st 12 (st 0 2).toNat p) 13 (st 0 2).toNat x) 14 (st 0 2).toNat y) 15 (st 0 2).toNat l) 16 (st 0 2).toNat u) 17 (st 0 2).toNat (-900009)) 25 p.toNat (st 25 p.toNat + 1)) 0 2 (st 0 2 + 1) else st
def r_stick (st : St) (l v : Int) : Int := if isL st l then (if v = -900009 ∨ bt v (st 15 l.toNat) (st 16 l.toNat) then st 17 l.toNat else -900002) else -900001
def n_stick (st : St) (l v : Int) : St := if isL st l ∧ (v = -900009 ∨ bt v (st 15 l.toNat) (st 16 l.toNat)) then up st 17 l.toNat v else st
/-- does leg l hinder -/
abbrev hnS (st : St) (p l : Nat) : Prop := st 12 l = p ∧ (¬ bt (wsH st p (st 13 l) (st 14 l)) (st 15 l) (st 16 l) ∨ (st 17 l ≠ -900009 ∧ st 17 l ≠ wsH st p (st 13 l) (st 14 l)))
/-- the first leg from l on that hinders, n legs ahead -/
def brS (st : St) (p : Nat) : Nat → Nat → Int
  | 0, _ => -900009
  | n + 1, l => if hnS st p l then l else brS st p n (l + 1)
def r_bars (st : St) (p : Int) : Int := if isP st p then brS st p.toNat (st 0 2).toNat 0 else -900001
def r_set (st : St) (p : Int) : Int := if isP st p then (if brS st p.toNat (st 0 2).toNat 0 = -900009 then 1 else -900003) else -900001
def n_set (st : St) (p : Int) : St := if isP st p ∧ brS st p.toNat (st 0 2).toNat 0 = -900009 then up (up (up st 2 (3 * p.toNat) (st 3 (3 * p.toNat))) 2 (3 * p.toNat + 1) (st 3 (3 * p.toNat + 1))) 2 (3 * p.toNat + 2) (st 3 (3 * p.toNat + 2)) else st
def r_pair (st : St) (a b w r : Int) : Int := if isP st a ∧ isP st b then (if bt w 2 60 ∧ bt r 0 (w - 1) then (if a = b then -900003 else if st 0 3 < 20 then st 0 3 else -900004) else -900002) else -900001
def n_pair (st : St) (a b w r : Int) : St := if isP st a ∧ isP st b ∧ bt w 2 60 ∧ bt r 0 (w - 1) ∧ a ≠ b ∧ st 0 3 < 20 then up (up (up (up (up st 18 (st 0 3).toNat a) 19 (st 0 3).toNat b) 20 (st 0 3).toNat w) 21 (st 0 3).toNat r) 0 3 (st 0 3 + 1) else st
def r_reach (st : St) (v : Int) : Int := if bt v 0 6 then st 0 4 else -900002
def n_reach (st : St) (v : Int) : St := if bt v 0 6 then up st 0 4 v else st
def r_loss (st : St) (v : Int) : Int := if bt v 0 50 then st 0 5 else -900002
def n_loss (st : St) (v : Int) : St := if bt v 0 50 then up st 0 5 v else st
def r_flaw (st : St) (p f v : Int) : Int := if isP st p then (if bt f 0 2 ∧ bt v (-9) 9 then st 22 (3 * p.toNat + f.toNat) else -900002) else -900001
def n_flaw (st : St) (p f v : Int) : St := if isP st p ∧ bt f 0 2 ∧ bt v (-9) 9 then up st 22 (3 * p.toNat + f.toNat) v else st
def r_weigh (st : St) (p f v : Int) : Int := if isP st p then (if bt f 0 2 ∧ bt v 0 9 then st 23 (3 * p.toNat + f.toNat) else -900002) else -900001
def n_weigh (st : St) (p f v : Int) : St := if isP st p ∧ bt f 0 2 ∧ bt v 0 9 then up st 23 (3 * p.toNat + f.toNat) v else st
def abI (x : Int) : Int := if 0 ≤ x then x else -x
def csS (st : St) (p q : Nat) : Int := abI (st 22 (3 * p)) * st 23 (3 * q) + abI (st 22 (3 * p + 1)) * st 23 (3 * q + 1) + abI (st 22 (3 * p + 2)) * st 23 (3 * q + 2)
def r_costs (st : St) (p q : Int) : Int := if isP st p ∧ isP st q then csS st p.toNat q.toNat else -900001
def r_age (st : St) (p v : Int) : Int := if isP st p then (if bt v 0 99 then st 24 p.toNat else -900002) else -900001
def n_age (st : St) (p v : Int) : St := if isP st p ∧ bt v 0 99 then up st 24 p.toNat v else st
/-- how many of the first n are so -/
def cntN (P : Nat → Bool) : Nat → Nat
  | 0 => 0
  | n + 1 => cntN P n + if P n then 1 else 0
theorem cntN_le (P : Nat → Bool) (n : Nat) : cntN P n ≤ n := by
  induction n with
  | zero => exact Nat.le_refl _
  | succ n ih =>
    unfold cntN
    split <;> omega
def inS (st : St) : Int := cntN (fun i => decide (st 1 i ≠ 0)) (st 0 0).toNat
def wrkS (st : St) : Int := cntN (fun e => decide (wkS st e)) (st 0 1).toNat
def rdgS (st : St) : Int := cntN (fun e => decide (wkS st e ∧ st 11 e ≠ -900009)) (st 0 1).toNat
def r_count (st : St) (w : Int) : Int := if w = 0 then st 0 0 else if w = 1 then inS st else if w = 2 then st 0 1 else if w = 3 then wrkS st else if w = 4 then rdgS st else if w = 5 then st 0 2 else if w = 6 then st 0 3 else -900002
/-- the reference's kinds -/
def mk (c : Nat) : Bool := c == 12 || (113 ≤ c && c ≤ 141) || c == 201 || c == 202 || c == 300 || c == 301
def FX (h h' : hp) : Prop := (∀ a t, hT h a = some t → hT h' a = some t) ∧ ∀ c k a, (mk c = true ∨ c = 40) → hT h a ≠ none → hI h' c k a = hI h c k a ∧ hJ h' c k a = hJ h c k a ∧ hR h' c k a = hR h c k a
theorem FX.ne {h h' : hp} (f : FX h h') {a : Nat} (z : hT h a ≠ none) : hT h' a ≠ none := by
  cases e : hT h a with
  | none => exact absurd e z
  | some t => rw [f.1 a t e]; exact fun y => by cases y
theorem FX.rf {h : hp} : FX h h := ⟨fun _ _ z => z, fun _ _ _ _ _ => ⟨rfl, rfl, rfl⟩⟩
theorem FX.tr {h h1 h2 : hp} (a : FX h h1) (b : FX h1 h2) : FX h h2 := ⟨fun x t z => b.1 x t (a.1 x t z), fun c k x z y => ⟨(b.2 c k x z (a.ne y)).1.trans (a.2 c k x z y).1, (b.2 c k x z (a.ne y)).2.1.trans (a.2 c k x z y).2.1, (b.2 c k x z (a.ne y)).2.2.trans (a.2 c k x z y).2.2⟩⟩
theorem FX.i {h h' : hp} (a : FX h h') {c k x : Nat} {v : Int32} (hs : mk c = false ∧ c ≠ 40) : FX h (sI h' c k x v) := by
  refine a.tr ⟨fun _ _ z => z, fun c' k' x' hz _ => ⟨?_, rfl, rfl⟩⟩
  rw [hI_sI, if_neg]
  rintro ⟨rfl, -, -⟩
  rcases hz with hz | hz
  · rw [hs.1] at hz; cases hz
  · exact hs.2 hz
theorem FX.r {h h' : hp} (a : FX h h') {c k x : Nat} {v : Option Nat} (hs : mk c = false ∧ c ≠ 40) : FX h (sR h' c k x v) := by
  refine a.tr ⟨fun _ _ z => z, fun c' k' x' hz _ => ⟨rfl, rfl, ?_⟩⟩
  rw [hR_sR, if_neg]
  rintro ⟨rfl, -, -⟩
  rcases hz with hz | hz
  · rw [hs.1] at hz; cases hz
  · exact hs.2 hz
theorem FX.n {h h' : hp} (a : FX h h') {x c n : Nat} (hx : hT h' x = none) : FX h (nw h' x c n) := by
  have ne : ∀ y, hT h' y ≠ none → y ≠ x := fun y z e => z (by rw [e]; exact hx)
  refine a.tr ⟨fun y t z => ?_, fun c' k' y _ z => ⟨?_, ?_, ?_⟩⟩
  · rw [hT_nw, if_neg (ne y (by rw [z]; exact fun q => by cases q))]; exact z
  · rw [hI_nw, if_neg (ne y z)]
  · rw [hJ_nw, if_neg (ne y z)]
  · rw [hR_nw, if_neg (ne y z)]
theorem isO_nw (h : hp) (b k n a c : Nat) : isO (nw h b k n) a c = if a = b then k = c else isO h a c := by
  unfold isO
  simp only [hT_nw]
  by_cases e : a = b
  · simp only [if_pos e]
    refine propext ⟨fun ⟨m, z⟩ => by cases z; rfl, fun z => ⟨n, by rw [z]⟩⟩
  · simp only [if_neg e]
theorem scr_mk {c k : Nat} (h : mk c = true ∨ c = 40) : scr c k = false := by
  unfold mk at h
  unfold scr
  simp only [Bool.or_eq_true, Bool.and_eq_true, beq_iff_eq, decide_eq_true_eq, Bool.or_eq_false_iff, Bool.and_eq_false_iff, beq_eq_false_iff_ne, decide_eq_false_iff_not] at h ⊢
  omega
theorem Fs.x {h h' : hp} (f : Fs h h') : FX h h' := by
  refine ⟨fun a t z => (f.1 a).trans z, fun c k a hz _ => ⟨f.2.2.2 c k a (scr_mk hz), f.2.1 c k a, f.2.2.1 c k a ?_⟩⟩
  rintro rfl
  rcases hz with hz | hz
  · cases hz
  · cases hz
theorem bz {a : Int} (h : 0 ≤ a ∧ a ≤ 1) : (if iI a ≠ 0 then (1 : Int) else 0) = a := by
  by_cases z : a = 0
  · subst z; rfl
  · rw [if_pos (by simp [iI_eq0 (a := a) (by omega), z])]; omega
