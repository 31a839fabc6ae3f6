/-! THE SMALL MACHINE IS SOUND: what is closed under its steps is what the machine comes to -/
abbrev GP : Type := Launch × Nat × Heap × va_G × (Nat → ClassId) × Nat × Nat × (Nat → Int32)
abbrev gL (g : GP) : Launch := g.1
abbrev gB (g : GP) : Nat := g.2.1
abbrev gH (g : GP) : Heap := g.2.2.1
abbrev gD (g : GP) : va_G := g.2.2.2.1
abbrev gA (g : GP) : Nat → ClassId := g.2.2.2.2.1
abbrev gb (g : GP) : Nat := g.2.2.2.2.2.1
abbrev gN (g : GP) : Nat := g.2.2.2.2.2.2.1
abbrev gX (g : GP) : Nat → Int32 := g.2.2.2.2.2.2.2
def aty (k : Nat) : FieldType := match k with
  | 20 => .int
  | 21 => .boolean
  | 22 => .long
  | 23 => .object "PieceMirror$Piece"
  | 24 => .object "PieceMirror$Eye"
  | 25 => .object "PieceMirror$Leg"
  | 26 => .object "PieceMirror$Pair"
  | 27 => .object "PieceMirror$Stairs"
  | _ => .array .int
def tysL (dA : Nat → ClassId) : List (ClassId × FieldType) := (List.range 9).map (fun j => (dA (20 + j), aty (20 + j)))
theorem tysL_at (dA : Nat → ClassId) {k : Nat} (h1 : 20 ≤ k) (h2 : k < 29) : (tysL dA)[k - 20]? = some (dA k, aty k) := by
  unfold tysL
  rw [List.getElem?_map, List.getElem?_range (by omega)]
  show some (dA (20 + (k - 20)), aty (20 + (k - 20))) = _
  rw [show 20 + (k - 20) = k by omega]
def AOA (U : State) : Prop := (Jvm.Cond.arrayOver (.array .int)).before #[] U = true
theorem AOA.moved {u U : State} (hvm : u.vm.Alike U.vm) (h : AOA u) : AOA U := by
  obtain ⟨comp, c, k, h1, h2, h3, h4, h5⟩ := arrayOverA_spec h
  obtain ⟨k', hk', he⟩ := hvm.2.2 _ _ h3
  have hi : (U.vm.classes.findIdx? fun (x : Class) => match x.kind with | .array component _ => component == comp | _ => false) = some c := by
    have e1 := va_idx_bare U.vm comp
    have e2 := va_idx_bare u.vm comp
    have e3 : U.vm.bare = u.vm.bare := by first | exact hvm.bare_eq | exact hvm.bare_eq.symm
    rw [e3] at e1
    exact (e1.symm.trans e2).trans h2
  have hkind : k'.kind = .array comp (.array .int) := by rw [he]; exact h4
  have f1 : U.vm.findClass (FieldType.array .int).toString = some comp := by rw [hvm.findClass]; exact h1
  have f2 : U.vm.findClass ("[" ++ (FieldType.array .int).toString) = some c := by rw [hvm.findClass]; exact h5
  unfold AOA Jvm.Cond.before Jvm.Cond.holds
  simp only [Jvm.Cond.value]
  rw [f1, Option.bind_some]
  refine (congrArg (fun o : Option Nat => (o.bind (fun c => (U.vm.classes[c]?).map fun (k : Class) => match k.kind with | .array _ ty => decide (ty = FieldType.array .int) && decide (U.vm.findClass ("[" ++ (FieldType.array .int).toString) = some c) | _ => false) == some true)) hi).trans ?_
  simp [hk', hkind, f2]
def aoL : List String := ["PieceMirror$Piece", "PieceMirror$Eye", "PieceMirror$Leg", "PieceMirror$Pair", "PieceMirror$Stairs"]
/-- nest mates' constructors: class, pool index, method -/
def nsL : List (String × Nat × MethodName) := [(RX11, 42, yX6_init), (RX11, 49, yX9_init), (RX11, 56, yX10_init), (RX11, 63, yX5_init), (RX11, 70, yX7_init), (RX3, 17, yX4_init)]
def KK (g : GP) (U : State) : Prop := va_K (gD g) vwC (tysL (gA g)) U ∧ (∀ C ∈ aoL, va_AO C U) ∧ AOA U ∧ (∀ q ∈ nsL, va_Nw (.methodLinkNest q.1 q.2.1 q.2.2 "PieceMirror") U) ∧ va_X (gb g) (gN g) (gX g) U (gH g) ∧ gb g < gB g ∧ gN g < 2 ^ 31
theorem KK.warm {g : GP} {s U : State} (hW : s.WarmedH U.vm) (h : KK g s) : KK g U :=
  ⟨va_K.moved hW.alike h.1, fun C hC => (h.2.1 C hC).moved hW.alike, h.2.2.1.moved hW.alike, fun q hq => va_Nw.warmM hW (h.2.2.2.1 q hq), h.2.2.2.2.1.moved hW.alike, h.2.2.2.2.2.1, h.2.2.2.2.2.2⟩
theorem KK.same {g : GP} {s U : State} (hv : s.vm = U.vm) (h : KK g s) : KK g U := by
  have ha : s.vm.Alike U.vm := hv ▸ Vm.Alike.refl s.vm
  exact ⟨va_K.moved ha h.1, fun C hC => (h.2.1 C hC).moved ha, h.2.2.1.moved ha, fun q hq => va_Nw.same rfl hv (h.2.2.2.1 q hq), h.2.2.2.2.1.moved ha, h.2.2.2.2.2.1, h.2.2.2.2.2.2⟩
def fvl (h : hp) (c k a : Nat) : Value := if fty c k = 2 then va_rf (hR h c k a) else .int (hI h c k a)
def avl (h : hp) (c j a : Nat) : Value := if ak c = 22 then .long (hJ h c j a) else if ak c < 23 then .int (hI h c j a) else va_rf (hR h c j a)
theorem ak_lt (k : Nat) : ak k < 29 := by
  unfold ak
  repeat' split
  all_goals omega
theorem ak_13 {k : Nat} (h : k < 13) : ak k = 0 := by
  unfold ak
  rw [if_neg (by omega), if_neg (by omega), if_neg (by omega), if_neg (by omega), if_neg (by omega), if_neg (by omega)]
def cellAt (g : GP) (h : hp) (a c n : Nat) (H : Heap) : Prop :=
  (c < 13 ∧ n = NC c ∧ gB g ≤ a ∧ t_OB a ((gD g).1 c) (NC c) ((gD g).2 c) H (fun k => fvl h c k a)) ∨
  (c = 40 ∧ a = gb g ∧ n = gN g ∧ ∀ j, j < gN g → hI h 40 j a = gX g j) ∨
  (20 ≤ ak c ∧ gB g ≤ a ∧ H[a]? = some (arrV (gA g (ak c)) n (fun j => avl h c j a)))
def hS (g : GP) (h : hp) (H : Heap) : Prop := (∀ a c n, hT h a = some (c, n) → cellAt g h a c n H) ∧ (∀ q : Nat, q < gB g → H[q]? = (gH g)[q]?) ∧ gB g ≤ H.size
def GG (g : GP) (p : Program) (e : Env) (R : Room) (s : State) (m : MethodId) (args : Array Value) (below : List Frame) (meth : Method) (c : Code) (nL : Nat) (Q' : State → Prop) : Gt := fun pc L S h u =>
  ∀ (H : Heap) (ls : Array Slot) (locs : List Loc), hS g h H → (∀ q ∈ locs, gB g ≤ q.base) → lv_has ls nL L → W p (gL g) e R s m args below meth c H locs u.1 u.2 Q' (F0 m pc ls S)
/-- the addresses below the size are the only ones with a kind -/
theorem hS.lt {g : GP} {h : hp} {H : Heap} (hs : hS g h H) (hb : gb g < gB g) {a c n : Nat} (ht : hT h a = some (c, n)) : a < H.size := by
  rcases hs.1 a c n ht with ⟨-, -, -, cell, q, -⟩ | ⟨-, e, -⟩ | ⟨-, -, q⟩
  · exact (Array.getElem?_eq_some_iff.mp q).1
  · rw [e]; exact Nat.lt_of_lt_of_le hb hs.2.2
  · exact (Array.getElem?_eq_some_iff.mp q).1
/-- a cell is kept, if its contents and its pictures are -/
theorem cellAt.kept {g : GP} {h h' : hp} {a c n : Nat} {H H' : Heap} (hc : cellAt g h a c n H) (hH : H'[a]? = H[a]?) (hi : ∀ k, hI h' c k a = hI h c k a) (hj : ∀ k, hJ h' c k a = hJ h c k a) (hr : ∀ k, hR h' c k a = hR h c k a) : cellAt g h' a c n H' := by
  rcases hc with ⟨h1, h2, h3, h4⟩ | ⟨h1, h2, h3, h4⟩ | ⟨h1, h3, h4⟩
  · exact Or.inl ⟨h1, h2, h3, (h4.kept hH).to (fun k _ => by simp only [fvl, hi, hr])⟩
  · refine Or.inr (Or.inl ⟨h1, h2, h3, fun j hj' => ?_⟩)
    have := hi j
    rw [h1] at this
    rw [this]
    exact h4 j hj'
  · refine Or.inr (Or.inr ⟨h1, h3, ?_⟩)
    rw [hH, h4]
    simp only [avl, hi, hj, hr]
/-- a write to one cell -/
theorem hS.set {g : GP} {h h' : hp} {H H' : Heap} (hs : hS g h H) {a c n : Nat} (ht : hT h a = some (c, n)) (hT' : ∀ b, hT h' b = hT h b) (hba : gB g ≤ a) (hz : H'.size = H.size) (ho : ∀ q, q ≠ a → H'[q]? = H[q]?)
    (hi : ∀ c' k b, b ≠ a → hI h' c' k b = hI h c' k b) (hj : ∀ c' k b, b ≠ a → hJ h' c' k b = hJ h c' k b) (hr : ∀ c' k b, b ≠ a → hR h' c' k b = hR h c' k b) (hc : cellAt g h' a c n H') : hS g h' H' := by
  refine ⟨fun b c' n' hb => ?_, fun q hq => ?_, by rw [hz]; exact hs.2.2⟩
  · rw [hT'] at hb
    by_cases e : b = a
    · subst e
      rw [ht] at hb
      cases hb
      exact hc
    · exact (hs.1 b c' n' hb).kept (ho b e) (fun k => hi c' k b e) (fun k => hj c' k b e) (fun k => hr c' k b e)
  · rw [ho q (by omega)]
    exact hs.2.1 q hq
theorem i1_ex {S : List Value} {f : Int32 → List Value → Prop} (h : i1 S f) : ∃ x s, S = .int x :: s ∧ f x s := by
  match S, h with
  | .int x :: s, h => exact ⟨x, s, rfl, h⟩
theorem l1_ex {S : List Value} {f : Int64 → List Value → Prop} (h : l1 S f) : ∃ x s, S = .long x :: s ∧ f x s := by
  match S, h with
  | .long x :: s, h => exact ⟨x, s, rfl, h⟩
theorem r1_ex {S : List Value} {f : Nat → List Value → Prop} (h : r1 S f) : ∃ x s, S = .ref x :: s ∧ f x s := by
  match S, h with
  | .ref x :: s, h => exact ⟨x, s, rfl, h⟩
theorem i2_ex {S : List Value} {f : Int32 → Int32 → List Value → Prop} (h : i2 S f) : ∃ x y s, S = .int y :: .int x :: s ∧ f x y s := by
  match S, h with
  | .int y :: .int x :: s, h => exact ⟨x, y, s, rfl, h⟩
theorem l2_ex {S : List Value} {f : Int64 → Int64 → List Value → Prop} (h : l2 S f) : ∃ x y s, S = .long y :: .long x :: s ∧ f x y s := by
  match S, h with
  | .long y :: .long x :: s, h => exact ⟨x, y, s, rfl, h⟩
theorem ar_ex {h : hp} {S : List Value} {f : Nat → Nat → Nat → Int32 → List Value → Prop} (hw : ar h S f) : ∃ k n a i s, S = .int i :: .ref a :: s ∧ hT h a = some (k, n) ∧ f k n a i s := by
  match S, hw with
  | .int i :: .ref a :: s, hw =>
    have hw : (match hT h a with | some (k, n) => f k n a i s | none => False) := hw
    cases e : hT h a with
    | none => rw [e] at hw; exact hw.elim
    | some kn =>
      rw [e] at hw
      exact ⟨kn.1, kn.2, a, i, s, rfl, e, hw⟩
theorem lk_mem {L : Lc} {i : Nat} {v : Value} (h : lk L i = some v) : (i, v) ∈ L := by
  induction L with
  | nil => cases h
  | cons q r ih =>
    obtain ⟨j, w⟩ := q
    unfold lk at h
    by_cases e : j = i
    · rw [if_pos e] at h
      cases h
      rw [e]
      exact List.mem_cons_self
    · rw [if_neg e] at h
      exact List.mem_cons_of_mem _ (ih h)
theorem cL_mem {L : Lc} {i : Nat} {v : Value} {q : Nat × Value} (h : q ∈ cL L i v) : q ∈ L ∧ q.1 ≠ i ∧ ¬ (q.1 + 1 = i ∧ q.2.category = 2) ∧ ¬ (q.1 = i + 1 ∧ v.category = 2) := by
  induction L with
  | nil => cases h
  | cons w r ih =>
    obtain ⟨j, w⟩ := w
    unfold cL at h
    split at h
    · obtain ⟨h1, h2⟩ := ih h
      exact ⟨List.mem_cons_of_mem _ h1, h2⟩
    next e =>
      rcases List.mem_cons.mp h with rfl | h
      · exact ⟨List.mem_cons_self, fun z => e (Or.inl z), fun z => e (Or.inr (Or.inl z)), fun z => e (Or.inr (Or.inr z))⟩
      · obtain ⟨h1, h2⟩ := ih h
        exact ⟨List.mem_cons_of_mem _ h1, h2⟩
theorem sL_mem {L : Lc} {i : Nat} {v : Value} {q : Nat × Value} (h : q ∈ sL L i v) : q = (i, v) ∨ (q ∈ L ∧ q.1 ≠ i ∧ ¬ (q.1 + 1 = i ∧ q.2.category = 2) ∧ ¬ (q.1 = i + 1 ∧ v.category = 2)) := by
  induction L with
  | nil => exact Or.inl (by simpa [sL] using h)
  | cons w r ih =>
    obtain ⟨j, w⟩ := w
    unfold sL at h
    split at h
    · rcases List.mem_cons.mp h with h | h
      · exact Or.inl h
      · obtain ⟨h1, h2⟩ := cL_mem h
        exact Or.inr ⟨List.mem_cons_of_mem _ h1, h2⟩
    next e =>
      split at h
      · rcases ih h with h | ⟨h1, h2⟩
        · exact Or.inl h
        · exact Or.inr ⟨List.mem_cons_of_mem _ h1, h2⟩
      next e2 =>
        rcases List.mem_cons.mp h with rfl | h
        · exact Or.inr ⟨List.mem_cons_self, e, fun z => e2 (Or.inl z), fun z => e2 (Or.inr z)⟩
        · rcases ih h with h | ⟨h1, h2⟩
          · exact Or.inl h
          · exact Or.inr ⟨List.mem_cons_of_mem _ h1, h2⟩
theorem sL_has1 {ls : Array Slot} {nL i : Nat} {L : Lc} {v : Value} (h : lv_has ls nL ((i, v) :: L.filter (fun q => !(q.1 == i) && !(q.1 + 1 == i && q.2.category == 2)))) : lv_has ls nL (sL L i v) := by
  refine ⟨h.1, h.2.1, fun q hq => h.2.2 q ?_⟩
  rcases sL_mem hq with rfl | ⟨h1, h2, h3, -⟩
  · exact List.mem_cons_self
  · refine List.mem_cons_of_mem _ (List.mem_filter.mpr ⟨h1, ?_⟩)
    simp only [Bool.and_eq_true, Bool.not_eq_true', beq_eq_false_iff_ne, ne_eq, Bool.and_eq_false_iff]
    refine ⟨h2, ?_⟩
    by_cases e : q.1 + 1 = i
    · exact Or.inr (fun z => h3 ⟨e, z⟩)
    · exact Or.inl e
theorem sL_has2 {ls : Array Slot} {nL i : Nat} {L : Lc} {x : Int64} (h : lv_has ls nL ((i, .long x) :: L.filter (fun q => !(q.1 == i) && (!(q.1 == i + 1) && !(q.1 + 1 == i && q.2.category == 2))))) : lv_has ls nL (sL L i (.long x)) := by
  refine ⟨h.1, h.2.1, fun q hq => h.2.2 q ?_⟩
  rcases sL_mem hq with rfl | ⟨h1, h2, h3, h4⟩
  · exact List.mem_cons_self
  · refine List.mem_cons_of_mem _ (List.mem_filter.mpr ⟨h1, ?_⟩)
    simp only [Bool.and_eq_true, Bool.not_eq_true', beq_eq_false_iff_ne, ne_eq, Bool.and_eq_false_iff]
    refine ⟨h2, fun z => h4 ⟨z, rfl⟩, ?_⟩
    by_cases e : q.1 + 1 = i
    · exact Or.inr (fun z => h3 ⟨e, z⟩)
    · exact Or.inl e
theorem ldI_ex {L : Lc} {i : Nat} {f : Int32 → Prop} (h : ldI L i f) : ∃ x, (i, Value.int x) ∈ L ∧ f x := by
  unfold ldI at h
  split at h
  next x e => exact ⟨x, lk_mem e, h⟩
  next => exact h.elim
theorem ldJ_ex {L : Lc} {i : Nat} {f : Int64 → Prop} (h : ldJ L i f) : ∃ x, (i, Value.long x) ∈ L ∧ f x := by
  unfold ldJ at h
  split at h
  next x e => exact ⟨x, lk_mem e, h⟩
  next => exact h.elim
theorem ldA_ex {L : Lc} {i : Nat} {f : Value → Prop} (h : ldA L i f) : (∃ x, (i, Value.ref x) ∈ L ∧ f (.ref x)) ∨ ((i, Value.null) ∈ L ∧ f .null) := by
  unfold ldA at h
  split at h
  next x e => exact Or.inl ⟨x, lk_mem e, h⟩
  next e => exact Or.inr ⟨lk_mem e, h⟩
  next => exact h.elim
theorem pA_ex {S : List Value} {f : Option Nat → List Value → Prop} (h : pA S f) : (∃ a s, S = .ref a :: s ∧ f (some a) s) ∨ (∃ s, S = .null :: s ∧ f none s) := by
  match S, h with
  | .ref a :: s, h => exact Or.inl ⟨a, s, rfl, h⟩
  | .null :: s, h => exact Or.inr ⟨s, rfl, h⟩
theorem p1_ex {S : List Value} {f : Value → List Value → Prop} (h : p1 S f) : ∃ w s, S = w :: s ∧ f w s := by
  match S, h with
  | w :: s, h => exact ⟨w, s, rfl, h⟩
theorem p2_ex {S : List Value} {f : Value → Value → List Value → Prop} (h : p2 S f) : ∃ w x s, S = w :: x :: s ∧ f w x s := by
  match S, h with
  | w :: x :: s, h => exact ⟨w, x, s, rfl, h⟩
theorem tyAt_ex {h : hp} {a : Nat} {f : Nat → Nat → Prop} (hw : tyAt h a f) : ∃ k n, hT h a = some (k, n) ∧ f k n := by
  unfold tyAt at hw
  split at hw
  next k n e => exact ⟨k, n, e, hw⟩
  next => exact hw.elim
theorem rcv_ex {h : hp} {S : List Value} {n c : Nat} (hw : rcv h S n c) : ∃ b, (S.drop n).head? = some (.ref b) ∧ isO h b c := by
  unfold rcv at hw
  split at hw
  next b e => exact ⟨b, e, hw⟩
  next => exact hw.elim
theorem rcr_ex {S : List Value} {n : Nat} (hw : rcr S n) : ∃ b, (S.drop n).head? = some (.ref b) := by
  unfold rcr at hw
  split at hw
  next b e => exact ⟨b, e⟩
  next => exact hw.elim
theorem take_rcv {S : List Value} {n b : Nat} (h : (S.drop n).head? = some (.ref b)) : (S.take (n + 1)).reverse = .ref b :: (S.take n).reverse ∧ (S.take (n + 1)).reverse.length = n + 1 ∧ S = (S.take (n + 1)).reverse.reverse ++ S.drop (n + 1) := by
  have h1 : S[n]? = some (.ref b) := by rw [List.head?_drop] at h; exact h
  obtain ⟨hn, e⟩ := List.getElem?_eq_some_iff.mp h1
  refine ⟨?_, ?_, ?_⟩
  · rw [List.take_succ_eq_append_getElem hn, List.reverse_append, e]; rfl
  · rw [List.length_reverse, List.length_take]; omega
  · rw [List.reverse_reverse, List.take_append_drop]
