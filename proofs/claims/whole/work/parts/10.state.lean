/-! THE STATE. st f i: 0 counts (0 pieces 1 eyes 2 legs 3 pairs 4 reach 5 loss), 1 in, 2 plane (3p+j), 3 wish (3p+j), 4 eye's first 5 second 6 x 7 y 8 price 9 blind 10 drift 11 reading,
12 leg's piece 13 x 14 y 15 low 16 high 17 stuck, 18 pair's first 19 second 20 wave 21 rest, 22 flaws (3p+f), 23 weighs (3p+f), 24 ages, 25 legs of a piece, 26 the number itself -/
abbrev St : Type := Nat → Nat → Int
def up (st : St) (f i : Nat) (v : Int) : St := fun g j => if g = f ∧ j = i then v else st g j
theorem up_ne {st : St} {f i g j : Nat} {v : Int} (h : ¬ (g = f ∧ j = i)) : up st f i v g j = st g j := if_neg h
theorem up_eq {st : St} {f i : Nat} {v : Int} : up st f i v f i = v := if_pos ⟨rfl, rfl⟩
theorem up_f {st : St} {f i g j : Nat} {v : Int} (h : g ≠ f) : up st f i v g j = st g j := if_neg (fun z => h z.1)
def rgt : List (Nat × Int × Int) := [(1, 0, 1), (2, -99, 99), (3, -99, 99), (6, -9, 9), (7, -9, 9), (8, 0, 99), (9, 0, 1), (10, -99, 99), (12, 0, 6), (13, -9, 9), (14, -9, 9), (15, -999, 999), (16, -999, 999), (20, 0, 60), (21, 0, 59), (22, -9, 9), (23, 0, 9), (24, 0, 99), (25, 0, 3)]
def WF (st : St) : Prop :=
  ((0 ≤ st 0 0 ∧ st 0 0 ≤ 7) ∧ (0 ≤ st 0 1 ∧ st 0 1 ≤ 24) ∧ (0 ≤ st 0 2 ∧ st 0 2 ≤ 21) ∧ (0 ≤ st 0 3 ∧ st 0 3 ≤ 20) ∧ (0 ≤ st 0 4 ∧ st 0 4 ≤ 6) ∧ (0 ≤ st 0 5 ∧ st 0 5 ≤ 50)) ∧
  (∀ r ∈ rgt, ∀ i, r.2.1 ≤ st r.1 i ∧ st r.1 i ≤ r.2.2) ∧
  (∀ i, (-9 ≤ st 2 (3 * i + 1) ∧ st 2 (3 * i + 1) ≤ 9) ∧ (-9 ≤ st 2 (3 * i + 2) ∧ st 2 (3 * i + 2) ≤ 9) ∧ (-9 ≤ st 3 (3 * i + 1) ∧ st 3 (3 * i + 1) ≤ 9) ∧ (-9 ≤ st 3 (3 * i + 2) ∧ st 3 (3 * i + 2) ≤ 9)) ∧
  (∀ e : Nat, (e : Int) < st 0 1 → (0 ≤ st 4 e ∧ st 4 e < st 0 0) ∧ (0 ≤ st 5 e ∧ st 5 e < st 0 0) ∧ st 4 e ≠ st 5 e ∧ 1 ≤ st 8 e ∧ (st 11 e = -900009 ∨ (-9999 ≤ st 11 e ∧ st 11 e ≤ 9999))) ∧
  (∀ e : Nat, (0 ≤ st 4 e ∧ st 4 e ≤ 6) ∧ (0 ≤ st 5 e ∧ st 5 e ≤ 6) ∧ (st 11 e = -900009 ∨ (-9999 ≤ st 11 e ∧ st 11 e ≤ 9999))) ∧
  (∀ l : Nat, (l : Int) < st 0 2 → st 12 l < st 0 0 ∧ st 15 l ≤ st 16 l ∧ (st 17 l = -900009 ∨ (st 15 l ≤ st 17 l ∧ st 17 l ≤ st 16 l))) ∧
  (∀ l : Nat, -900009 ≤ st 17 l ∧ st 17 l ≤ 999) ∧
  (∀ k : Nat, (k : Int) < st 0 3 → (0 ≤ st 18 k ∧ st 18 k < st 0 0) ∧ (0 ≤ st 19 k ∧ st 19 k < st 0 0) ∧ st 18 k ≠ st 19 k ∧ 2 ≤ st 20 k ∧ st 21 k < st 20 k) ∧
  (∀ k : Nat, (0 ≤ st 18 k ∧ st 18 k ≤ 6) ∧ (0 ≤ st 19 k ∧ st 19 k ≤ 6)) ∧
  (∀ i : Nat, st 26 i = i) ∧
  (∀ i : Nat, st 0 0 ≤ i → st 1 i = 0 ∧ st 24 i = 0 ∧ st 25 i = 0 ∧ ∀ j, j < 3 → st 2 (3 * i + j) = 0 ∧ st 3 (3 * i + j) = 0 ∧ st 22 (3 * i + j) = 0 ∧ st 23 (3 * i + j) = 1) ∧
  (∀ e : Nat, st 0 1 ≤ e → st 9 e = 0 ∧ st 10 e = 0)
theorem WF.rg {st : St} (w : WF st) (f : Nat) {lo hi : Int} (h : (f, lo, hi) ∈ rgt) (i : Nat) : lo ≤ st f i ∧ st f i ≤ hi := w.2.1 _ h i
/-- the class's numbers: class or kind, place, address row, field, step, offset, count -/
def xtab : List (Nat × Nat × Nat × Nat × Nat × Nat × Nat) := [(3, 0, 0, 26, 1, 0, 0), (3, 1, 0, 1, 1, 0, 0), (3, 4, 0, 25, 1, 0, 0), (3, 7, 0, 24, 1, 0, 0),
  (4, 0, 1, 2, 3, 0, 0), (4, 1, 1, 2, 3, 1, 0), (4, 2, 1, 2, 3, 2, 0), (4, 0, 2, 3, 3, 0, 0), (4, 1, 2, 3, 3, 1, 0), (4, 2, 2, 3, 3, 2, 0),
  (100, 0, 3, 22, 3, 0, 0), (100, 1, 3, 22, 3, 1, 0), (100, 2, 3, 22, 3, 2, 0), (101, 0, 4, 23, 3, 0, 0), (101, 1, 4, 23, 3, 1, 0), (101, 2, 4, 23, 3, 2, 0),
  (0, 2, 5, 6, 1, 0, 1), (0, 3, 5, 7, 1, 0, 1), (0, 4, 5, 8, 1, 0, 1), (0, 5, 5, 9, 1, 0, 1), (0, 6, 5, 10, 1, 0, 1), (0, 7, 5, 11, 1, 0, 1),
  (1, 0, 6, 12, 1, 0, 2), (1, 1, 6, 13, 1, 0, 2), (1, 2, 6, 14, 1, 0, 2), (1, 3, 6, 15, 1, 0, 2), (1, 4, 6, 16, 1, 0, 2), (1, 5, 6, 17, 1, 0, 2),
  (2, 2, 7, 20, 1, 0, 3), (2, 3, 7, 21, 1, 0, 3)]
/-- the class's cells: address row, kind, length, count -/
def xty : List (Nat × Nat × Nat × Nat) := [(0, 3, 8, 0), (1, 4, 3, 0), (2, 4, 3, 0), (3, 100, 3, 0), (4, 101, 3, 0), (5, 0, 8, 1), (6, 1, 6, 2), (7, 2, 4, 3)]
/-- the pieces' references: place, address row -/
def xrf : List (Nat × Nat) := [(2, 1), (3, 2), (5, 3), (6, 4)]
/-- the arrays of objects: place in the class, kind, which address, row, count -/
def xar : List (Nat × Nat × Nat × Nat × Nat × Nat) := [(0, 23, 7, 0, 0, 0), (2, 24, 24, 1, 5, 1), (4, 25, 21, 2, 6, 2), (6, 26, 20, 3, 7, 3)]
/-- what it works with: class, place, owner's address, kind, length, own address -/
def xwk : List (Nat × Nat × (Nat × Nat) × Nat × Nat × (Nat × Nat)) := [(11, 10, (30, 0), 6, 2, (8, 4)), (11, 11, (30, 0), 9, 6, (8, 5)), (11, 12, (30, 0), 10, 4, (8, 6)), (11, 13, (30, 0), 5, 8, (8, 7)), (11, 14, (30, 0), 7, 3, (8, 8)), (11, 15, (30, 0), 112, 24, (8, 9)),
  (6, 0, (8, 4), 27, 3, (9, 0)), (6, 1, (8, 4), 106, 19, (9, 1)), (9, 0, (8, 5), 30, 7, (9, 2)), (9, 1, (8, 5), 31, 7, (9, 3)), (9, 2, (8, 5), 108, 7, (9, 4)), (9, 3, (8, 5), 109, 7, (9, 5)),
  (10, 0, (8, 6), 29, 7, (9, 6)), (10, 2, (8, 6), 110, 128, (9, 7)), (10, 3, (8, 6), 111, 7, (9, 8)), (5, 0, (8, 7), 102, 7, (9, 9)), (5, 2, (8, 7), 103, 7, (9, 10)), (5, 3, (8, 7), 104, 4, (9, 11)), (5, 4, (8, 7), 105, 4, (9, 12))]
abbrev Ad : Type := Nat → Nat → Nat
def pr3 (i : Nat) : Int := if i = 0 then 2147483647 else if i = 1 then 2147483629 else 2147483587
/-- the stairs of one prime: the object, its rows; rows is where the rows of steps lie -/
def RStair (h : hp) (a : Nat) (pr : Int) (as af al : Nat) (rw' : Nat → Nat) : Prop :=
  hT h a = some (8, 6) ∧ hI h 8 0 a = iI pr ∧ hR h 8 1 a = some as ∧ hR h 8 2 a = some af ∧ hR h 8 3 a = some al ∧ hT h as = some (28, 19) ∧ hT h af = some (200, 19) ∧ hT h al = some (107, 19) ∧
  (∀ j, j < 19 → hR h 28 j as = some (rw' j) ∧ hT h (rw' j) = some (190, 19)) ∧ ∀ i j, i < 19 → j < 19 → rw' i = rw' j → i = j
def RW (h : hp) (ad : Ad) : Prop :=
  (∀ r ∈ xwk, hR h r.1 r.2.1 (ad r.2.2.1.1 r.2.2.1.2) = some (ad r.2.2.2.2.2.1 r.2.2.2.2.2.2) ∧ hT h (ad r.2.2.2.2.2.1 r.2.2.2.2.2.2) = some (r.2.2.2.1, r.2.2.2.2.1)) ∧
  (∀ i, i < 3 → hR h 27 i (ad 9 0) = some (ad 10 i) ∧ RStair h (ad 10 i) (pr3 i) (ad 11 i) (ad 12 i) (ad 13 i) (ad (20 + i))) ∧
  (∀ i j, i < 3 → j < 3 → ad 10 i = ad 10 j → i = j) ∧ (∀ i j, i < 3 → j < 3 → ad 12 i = ad 12 j → i = j) ∧ (∀ i j, i < 3 → j < 3 → ad 13 i = ad 13 j → i = j) ∧
  (∀ i j k l, i < 3 → j < 3 → k < 19 → l < 19 → ad (20 + i) k = ad (20 + j) l → i = j) ∧
  (∀ i, i < 7 → hR h 30 i (ad 9 2) = some (ad 14 i) ∧ hT h (ad 14 i) = some (191, 7) ∧ hR h 31 i (ad 9 3) = some (ad 15 i) ∧ hT h (ad 15 i) = some (192, 7)) ∧
  (∀ i j, i < 7 → j < 7 → ad 14 i = ad 14 j → i = j) ∧ (∀ i j, i < 7 → j < 7 → ad 15 i = ad 15 j → i = j)
def RIx (h : hp) (ad : Ad) (st : St) : Prop := ∀ r ∈ xtab, ∀ i : Nat, (i : Int) < st 0 r.2.2.2.2.2.2 → hI h r.1 r.2.1 (ad r.2.2.1 i) = iI (st r.2.2.2.1 (r.2.2.2.2.1 * i + r.2.2.2.2.2.1))
def RCx (h : hp) (ad : Ad) (st : St) : Prop := hI h 11 1 (ad 30 0) = iI (st 0 0) ∧ hI h 11 3 (ad 30 0) = iI (st 0 1) ∧ hI h 11 5 (ad 30 0) = iI (st 0 2) ∧ hI h 11 7 (ad 30 0) = iI (st 0 3) ∧ hI h 11 8 (ad 30 0) = iI (st 0 4) ∧ hI h 11 9 (ad 30 0) = iI (st 0 5)
def RTx (h : hp) (ad : Ad) (st : St) : Prop := hT h (ad 30 0) = some (11, 17) ∧ (∀ r ∈ xar, hR h 11 r.1 (ad 30 0) = some (ad 8 r.2.2.2.1) ∧ hT h (ad 8 r.2.2.2.1) = some (r.2.1, r.2.2.1)) ∧ ∀ r ∈ xty, ∀ i : Nat, (i : Int) < st 0 r.2.2.2 → hT h (ad r.1 i) = some (r.2.1, r.2.2.1)
def RRx (h : hp) (ad : Ad) (st : St) : Prop :=
  (∀ r ∈ xar, ∀ i : Nat, (i : Int) < st 0 r.2.2.2.2.2 → hR h r.2.1 i (ad 8 r.2.2.2.1) = some (ad r.2.2.2.2.1 i)) ∧ (∀ r ∈ xrf, ∀ i : Nat, (i : Int) < st 0 0 → hR h 3 r.1 (ad 0 i) = some (ad r.2 i)) ∧
  (∀ e : Nat, (e : Int) < st 0 1 → hR h 0 0 (ad 5 e) = some (ad 0 (st 4 e).toNat) ∧ hR h 0 1 (ad 5 e) = some (ad 0 (st 5 e).toNat)) ∧ (∀ k : Nat, (k : Int) < st 0 3 → hR h 2 0 (ad 7 k) = some (ad 0 (st 18 k).toNat) ∧ hR h 2 1 (ad 7 k) = some (ad 0 (st 19 k).toNat))
def IJx (ad : Ad) (st : St) : Prop := (∀ r ∈ xty, ∀ i j : Nat, (i : Int) < st 0 r.2.2.2 → (j : Int) < st 0 r.2.2.2 → ad r.1 i = ad r.1 j → i = j) ∧ ∀ i j : Nat, (i : Int) < st 0 0 → (j : Int) < st 0 0 → ad 1 i ≠ ad 2 j
/-- the class's world: its object is at ad 30 0 -/
def RX (h : hp) (ad : Ad) (st : St) : Prop := RTx h ad st ∧ RCx h ad st ∧ RRx h ad st ∧ RIx h ad st ∧ IJx ad st ∧ RW h ad
/-- what the class only works with -/
def scr (c k : Nat) : Bool := (c == 5 && (k == 1 || k == 5 || k == 6 || k == 7)) || c == 7 || (c == 8 && (k == 4 || k == 5)) || (c == 9 && (k == 4 || k == 5)) || (c == 10 && k == 1) || (c == 11 && k == 16) || (102 ≤ c && c ≤ 112) || (190 ≤ c && c ≤ 192) || c == 200
def Fs (h h' : hp) : Prop := (∀ a, hT h' a = hT h a) ∧ (∀ c k a, hJ h' c k a = hJ h c k a) ∧ (∀ c k a, c ≠ 29 → hR h' c k a = hR h c k a) ∧ ∀ c k a, scr c k = false → hI h' c k a = hI h c k a
theorem Fs.rf {h : hp} : Fs h h := ⟨fun _ => rfl, fun _ _ _ => rfl, fun _ _ _ _ => rfl, fun _ _ _ _ => rfl⟩
theorem Fs.tr {h h1 h2 : hp} (a : Fs h h1) (b : Fs h1 h2) : Fs h h2 := ⟨fun x => (b.1 x).trans (a.1 x), fun c k x => (b.2.1 c k x).trans (a.2.1 c k x), fun c k x z => (b.2.2.1 c k x z).trans (a.2.2.1 c k x z), fun c k x z => (b.2.2.2 c k x z).trans (a.2.2.2 c k x z)⟩
theorem Fs.i {h h' : hp} (a : Fs h h') {c k x : Nat} {v : Int32} (hs : scr c k = true) : Fs h (sI h' c k x v) := by
  refine a.tr ⟨fun _ => rfl, fun _ _ _ => rfl, fun _ _ _ _ => rfl, fun c' k' x' hz => ?_⟩
  rw [hI_sI, if_neg]
  rintro ⟨rfl, rfl, -⟩
  rw [hs] at hz
  cases hz
theorem Fs.r {h h' : hp} (a : Fs h h') {k x : Nat} {v : Option Nat} : Fs h (sR h' 29 k x v) :=
  a.tr ⟨fun _ => rfl, fun _ _ _ => rfl, fun c' k' x' hz => by rw [hR_sR, if_neg (fun z => hz z.1)], fun _ _ _ _ => rfl⟩
theorem Fs.o {h h' : hp} (a : Fs h h') (x c : Nat) : isO h' x c = isO h x c := by unfold isO; simp only [a.1]
theorem xtab_scr : ∀ r ∈ xtab, scr r.1 r.2.1 = false := by decide
theorem RStair_fs {h h' : hp} (f : Fs h h') {a as af al : Nat} {pr : Int} {rw' : Nat → Nat} (r : RStair h a pr as af al rw') : RStair h' a pr as af al rw' := by
  obtain ⟨h1, h2, h3, h4, h5, h6, h7, h8, h9, h10⟩ := r
  refine ⟨(f.1 _).trans h1, (f.2.2.2 _ _ _ rfl).trans h2, (f.2.2.1 _ _ _ (by decide)).trans h3, (f.2.2.1 _ _ _ (by decide)).trans h4, (f.2.2.1 _ _ _ (by decide)).trans h5, (f.1 _).trans h6, (f.1 _).trans h7, (f.1 _).trans h8, fun j hj => ⟨(f.2.2.1 _ _ _ (by decide)).trans (h9 j hj).1, (f.1 _).trans (h9 j hj).2⟩, h10⟩
theorem xwk_29 : ∀ r ∈ xwk, r.1 ≠ 29 := by decide
theorem xar_29 : ∀ r ∈ xar, r.2.1 ≠ 29 := by decide
theorem RW_fs {h h' : hp} (f : Fs h h') {ad : Ad} (r : RW h ad) : RW h' ad := by
  obtain ⟨h1, h2, h3⟩ := r
  refine ⟨fun r hr => ⟨(f.2.2.1 _ _ _ (xwk_29 r hr)).trans (h1 r hr).1, (f.1 _).trans (h1 r hr).2⟩, fun i hi => ⟨(f.2.2.1 _ _ _ (by decide)).trans (h2 i hi).1, RStair_fs f (h2 i hi).2⟩, h3.1, h3.2.1, h3.2.2.1, h3.2.2.2.1, fun i hi => ?_, h3.2.2.2.2.2⟩
  obtain ⟨a1, a2, a3, a4⟩ := h3.2.2.2.2.1 i hi
  exact ⟨(f.2.2.1 _ _ _ (by decide)).trans a1, (f.1 _).trans a2, (f.2.2.1 _ _ _ (by decide)).trans a3, (f.1 _).trans a4⟩
theorem RX_fs {h h' : hp} (f : Fs h h') {ad : Ad} {st : St} (r : RX h ad st) : RX h' ad st := by
  obtain ⟨⟨t1, t2, t3⟩, ⟨c1, c2, c3, c4, c5, c6⟩, ⟨r1, r2, r3, r4⟩, hi, hj, hw⟩ := r
  refine ⟨⟨(f.1 _).trans t1, fun r hr => ⟨(f.2.2.1 _ _ _ (by decide)).trans (t2 r hr).1, (f.1 _).trans (t2 r hr).2⟩, fun r hr i hh => (f.1 _).trans (t3 r hr i hh)⟩, ⟨(f.2.2.2 _ _ _ rfl).trans c1, (f.2.2.2 _ _ _ rfl).trans c2, (f.2.2.2 _ _ _ rfl).trans c3, (f.2.2.2 _ _ _ rfl).trans c4, (f.2.2.2 _ _ _ rfl).trans c5, (f.2.2.2 _ _ _ rfl).trans c6⟩,
    ⟨fun r hr i hh => (f.2.2.1 _ _ _ (xar_29 r hr)).trans (r1 r hr i hh), fun r hr i hh => (f.2.2.1 _ _ _ (by decide)).trans (r2 r hr i hh), fun e he => ⟨(f.2.2.1 _ _ _ (by decide)).trans (r3 e he).1, (f.2.2.1 _ _ _ (by decide)).trans (r3 e he).2⟩, fun e he => ⟨(f.2.2.1 _ _ _ (by decide)).trans (r4 e he).1, (f.2.2.1 _ _ _ (by decide)).trans (r4 e he).2⟩⟩,
    fun r hr i hh => (f.2.2.2 _ _ _ (xtab_scr r hr)).trans (hi r hr i hh), hj, RW_fs f hw⟩
def xtE (r r' : Nat × Nat × Nat × Nat × Nat × Nat × Nat) : Bool := r'.1 == r.1 && r'.2.1 == r.2.1 && r'.2.2.1 == r.2.2.1 && r'.2.2.2.1 == r.2.2.2.1 && r'.2.2.2.2.1 == r.2.2.2.2.1 && r'.2.2.2.2.2.1 == r.2.2.2.2.2.1 && r'.2.2.2.2.2.2 == r.2.2.2.2.2.2
theorem xtE_eq {r r' : Nat × Nat × Nat × Nat × Nat × Nat × Nat} (h : xtE r r' = true) : r' = r := by
  obtain ⟨a1, a2, a3, a4, a5, a6, a7⟩ := r
  obtain ⟨b1, b2, b3, b4, b5, b6, b7⟩ := r'
  simp only [xtE, Bool.and_eq_true, beq_iff_eq] at h
  obtain ⟨⟨⟨⟨⟨⟨rfl, rfl⟩, rfl⟩, rfl⟩, rfl⟩, rfl⟩, rfl⟩ := h
  rfl
theorem xt_ckB : (xtab.all fun r => xtab.all fun r' => !(r'.1 == r.1 && r'.2.1 == r.2.1) || xtE r r' || (r'.2.2.1 == 1 && r.2.2.1 == 2 && r.2.2.2.2.2.2 == 0 && r'.2.2.2.2.2.2 == 0) || (r'.2.2.1 == 2 && r.2.2.1 == 1 && r.2.2.2.2.2.2 == 0 && r'.2.2.2.2.2.2 == 0)) = true := by decide +kernel
theorem xt_foB : (xtab.all fun r => xtab.all fun r' => !(r'.2.2.2.1 == r.2.2.2.1) || (r'.2.2.2.2.1 == r.2.2.2.2.1 && decide (r.2.2.2.2.2.1 < r.2.2.2.2.1) && decide (r'.2.2.2.2.2.1 < r'.2.2.2.2.1) && (!(r'.2.2.2.2.2.1 == r.2.2.2.2.2.1) || xtE r r'))) = true := by decide +kernel
theorem xt_ck (r : Nat × Nat × Nat × Nat × Nat × Nat × Nat) (hr : r ∈ xtab) (r' : Nat × Nat × Nat × Nat × Nat × Nat × Nat) (hr' : r' ∈ xtab) (h1 : r'.1 = r.1) (h2 : r'.2.1 = r.2.1) : r' = r ∨ (r'.2.2.1 = 1 ∧ r.2.2.1 = 2 ∧ r.2.2.2.2.2.2 = 0 ∧ r'.2.2.2.2.2.2 = 0) ∨ (r'.2.2.1 = 2 ∧ r.2.2.1 = 1 ∧ r.2.2.2.2.2.2 = 0 ∧ r'.2.2.2.2.2.2 = 0) := by
  have h := List.all_eq_true.mp (List.all_eq_true.mp xt_ckB r hr) r' hr'
  simp only [h1, h2, beq_self_eq_true, Bool.and_self, Bool.not_true, Bool.false_or, Bool.or_eq_true, Bool.and_eq_true, beq_iff_eq] at h
  rcases h with (h | h) | h
  · exact Or.inl (xtE_eq h)
  · exact Or.inr (Or.inl ⟨h.1.1.1, h.1.1.2, h.1.2, h.2⟩)
  · exact Or.inr (Or.inr ⟨h.1.1.1, h.1.1.2, h.1.2, h.2⟩)
theorem xt_fo (r : Nat × Nat × Nat × Nat × Nat × Nat × Nat) (hr : r ∈ xtab) (r' : Nat × Nat × Nat × Nat × Nat × Nat × Nat) (hr' : r' ∈ xtab) (h1 : r'.2.2.2.1 = r.2.2.2.1) : r'.2.2.2.2.1 = r.2.2.2.2.1 ∧ r.2.2.2.2.2.1 < r.2.2.2.2.1 ∧ r'.2.2.2.2.2.1 < r'.2.2.2.2.1 ∧ (r'.2.2.2.2.2.1 = r.2.2.2.2.2.1 → r' = r) := by
  have h := List.all_eq_true.mp (List.all_eq_true.mp xt_foB r hr) r' hr'
  simp only [h1, beq_self_eq_true, Bool.not_true, Bool.false_or, Bool.or_eq_true, Bool.and_eq_true, beq_iff_eq, decide_eq_true_eq, Bool.not_eq_true', beq_eq_false_iff_ne] at h
  obtain ⟨⟨⟨g1, g2⟩, g3⟩, g4⟩ := h
  exact ⟨g1, g2, g3, fun z => g4.elim (fun y => absurd z y) xtE_eq⟩
theorem xt_0 : ∀ r ∈ xtab, r.2.2.2.1 ≠ 0 ∧ r.2.2.2.1 ≠ 4 ∧ r.2.2.2.1 ≠ 5 ∧ r.2.2.2.1 ≠ 18 ∧ r.2.2.2.1 ≠ 19 ∧ r.1 ≠ 11 ∧ r.1 ≠ 8 := by decide
theorem xt_ty : ∀ r ∈ xtab, ∃ q ∈ xty, q.1 = r.2.2.1 ∧ q.2.2.2 = r.2.2.2.2.2.2 := by decide +kernel
/-- one number of the state is written -/
theorem RX_set {h : hp} {ad : Ad} {st : St} (R : RX h ad st) (c k a f m o n : Nat) (hr : (c, k, a, f, m, o, n) ∈ xtab) {p : Nat} (hp : (p : Int) < st 0 n) (v : Int) : RX (sI h c k (ad a p) (iI v)) ad (up st f (m * p + o) v) := by
  obtain ⟨⟨t1, t2, t3⟩, ⟨c1, c2, c3, c4, c5, c6⟩, ⟨r1, r2, r3, r4⟩, hi, hj, hw⟩ := R
  obtain ⟨z0, z4, z5, z18, z19, z11, z8⟩ := xt_0 _ hr
  dsimp only at z0 z4 z5 z18 z19 z11 z8
  have e0 : ∀ j, up st f (m * p + o) v 0 j = st 0 j := fun j => up_f (Ne.symm z0)
  have hI' : ∀ k' b, hI (sI h c k (ad a p) (iI v)) 11 k' b = hI h 11 k' b := fun k' b => by rw [hI_sI, if_neg (fun z => z11 z.1.symm)]
  refine ⟨⟨t1, t2, fun r hr i hh => ?_⟩, ⟨?_, ?_, ?_, ?_, ?_, ?_⟩, ⟨fun r hr i hh => ?_, fun r hr i hh => ?_, fun e he => ?_, fun e he => ?_⟩, fun r' hr' i hh => ?_, ⟨fun r hr i j h1 h2 => ?_, fun i j h1 h2 => ?_⟩, ?_⟩
  · rw [e0] at hh; exact t3 r hr i hh
  · rw [hI', e0]; exact c1
  · rw [hI', e0]; exact c2
  · rw [hI', e0]; exact c3
  · rw [hI', e0]; exact c4
  · rw [hI', e0]; exact c5
  · rw [hI', e0]; exact c6
  · rw [e0] at hh; exact r1 r hr i hh
  · rw [e0] at hh; exact r2 r hr i hh
  · rw [e0] at he; rw [up_f (Ne.symm z4), up_f (Ne.symm z5)]; exact r3 e he
  · rw [e0] at he; rw [up_f (Ne.symm z18), up_f (Ne.symm z19)]; exact r4 e he
  · rw [e0] at hh
    rw [hI_sI]
    obtain ⟨q, hq, hq1, hq2⟩ := xt_ty _ hr
    dsimp only at hq1 hq2
    by_cases hc : r'.1 = c ∧ r'.2.1 = k ∧ ad r'.2.2.1 i = ad a p
    · rw [if_pos hc]
      obtain ⟨x1, x2, x3⟩ := hc
      rcases xt_ck _ hr r' hr' x1 x2 with rfl | ⟨y1, y2, y3, y4⟩ | ⟨y1, y2, y3, y4⟩
      · have := hj.1 q hq i p (by rw [hq2]; exact hh) (by rw [hq2]; exact hp) (by rw [hq1]; exact x3)
        subst this
        show _ = iI (up st f (m * i + o) v f (m * i + o))
        rw [up_eq]
      · exfalso
        dsimp only at y2 y3
        subst y2; subst y3
        rw [y1] at x3
        rw [y4] at hh
        exact hj.2 i p hh hp x3
      · exfalso
        dsimp only at y2 y3
        subst y2; subst y3
        rw [y1] at x3
        rw [y4] at hh
        exact hj.2 p i hp hh x3.symm
    · rw [if_neg hc, hi r' hr' i hh]
      congr 1
      rw [up_ne]
      rintro ⟨x1, x2⟩
      obtain ⟨y1, y2, y3, y4⟩ := xt_fo _ hr r' hr' x1
      dsimp only at y1 y2 y3 y4
      have ho : r'.2.2.2.2.2.1 = o := by
        rw [y1] at x2 y3
        have h1 : (m * i + r'.2.2.2.2.2.1) % m = (m * p + o) % m := by rw [x2]
        rw [Nat.mul_add_mod, Nat.mul_add_mod, Nat.mod_eq_of_lt y3, Nat.mod_eq_of_lt y2] at h1
        exact h1
      have := y4 ho
      subst this
      apply hc
      refine ⟨rfl, rfl, ?_⟩
      dsimp only at x2
      have hm : m * i = m * p := by omega
      have hmp : 0 < m := by omega
      rw [Nat.eq_of_mul_eq_mul_left hmp hm]
  · rw [e0] at h1 h2; exact hj.1 r hr i j h1 h2
  · rw [e0] at h1 h2; exact hj.2 i j h1 h2
  · obtain ⟨w1, w2, w3⟩ := hw
    refine ⟨w1, fun i hi => ⟨(w2 i hi).1, ?_⟩, w3⟩
    obtain ⟨s1, s2, s3⟩ := (w2 i hi).2
    exact ⟨s1, by rw [hI_sI, if_neg (fun z => z8 z.1.symm)]; exact s2, s3⟩
