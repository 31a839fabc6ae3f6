def acn (k : Nat) : String := match k with
  | 23 => "PieceMirror$Piece"
  | 24 => "PieceMirror$Eye"
  | 25 => "PieceMirror$Leg"
  | 26 => "PieceMirror$Pair"
  | 27 => "PieceMirror$Stairs"
  | _ => "[[I"
def RsOK (own : String) (rs : Rs) : Prop :=
  (∀ x ∈ rs.1, x.2.1 < 13 ∧ x.2.2 < NC x.2.1 ∧ Jvm.Cond.fieldLink own x.1 (TC x.2.1 x.2.2).1 (TC x.2.1 x.2.2).2.1 (TC x.2.1 x.2.2).2.2.1 ∈ tbG) ∧
  (∀ x ∈ rs.2.1, Jvm.Cond.constant own x.1 (Int32.ofInt x.2) ∈ tbG) ∧
  (∀ x ∈ rs.2.2.1, Jvm.Cond.constantLong own x.1 (Int64.ofInt x.2) ∈ tbG) ∧
  (∀ x ∈ rs.2.2.2.1, x.2 < 13 ∧ Jvm.Cond.classLink own x.1 (RC x.2) ∈ tbG) ∧
  (∀ x ∈ rs.2.2.2.2.1, Jvm.Cond.classLink own x.1 (acn x.2) ∈ tbG)
def okty : FieldType → Bool
  | .int | .boolean | .object _ | .array _ => true
  | _ => false
theorem okty_all : ∀ c, c < 13 → ∀ k, k < NC c → okty (tyC c k) = true := by decide +kernel
theorem ty_put {c k : Nat} (hc : c < 13) (hk : k < NC c) {v : Value} (h : (fty c k = 2 ∧ (v = .null ∨ ∃ a, v = .ref a)) ∨ (fty c k ≠ 2 ∧ ∃ x : Int32, v = .int x ∧ (fty c k = 1 → x = 0 ∨ x = 1))) : narrow (tyC c k) v = v ∧ fits (tyC c k) v = true := by
  have ho := okty_all c hc k hk
  unfold fty at h
  generalize tyC c k = t at h ho
  cases t with
  | int => 
    rcases h with ⟨h, -⟩ | ⟨-, x, rfl, -⟩
    · cases h
    · exact ⟨rfl, rfl⟩
  | boolean =>
    rcases h with ⟨h, -⟩ | ⟨-, x, rfl, h⟩
    · cases h
    · rcases h rfl with rfl | rfl <;> exact ⟨by decide, by decide⟩
  | object n =>
    rcases h with ⟨-, rfl | ⟨a, rfl⟩⟩ | ⟨h, -⟩
    · exact ⟨rfl, rfl⟩
    · exact ⟨rfl, rfl⟩
    · exact absurd rfl h
  | array n =>
    rcases h with ⟨-, rfl | ⟨a, rfl⟩⟩ | ⟨h, -⟩
    · exact ⟨rfl, rfl⟩
    · exact ⟨rfl, rfl⟩
    · exact absurd rfl h
  | _ => cases ho
def ivk (kind i : Nat) : Instr := if kind = 0 then .invokevirtual i else if kind = 1 then .invokestatic i else .invokespecial i
def retm (rt : Nat) (i : Instr) (v : Option Value) : Prop :=
  (i = .ireturn ∧ ∃ x, v = some (.int x) ∧ (rt = 1 ∨ rt = 2 ∧ (x = 0 ∨ x = 1))) ∨ (i = .lreturn ∧ rt = 3 ∧ ∃ x, v = some (.long x)) ∨ (i = .areturn ∧ rt = 4 ∧ ((∃ a, v = some (.ref a)) ∨ v = some .null)) ∨ (i = .return_ ∧ rt = 0 ∧ v = none)
section STEP
variable {g : GP} {p : Program} {e : Env} {R : Room} {s : State} {m : MethodId} {args : Array Value} {below : List Frame} {meth : Method} {c : Code} {nL : Nat} {Q' : State → Prop} {code : ByteArray} {own : String}
def Cx (g : GP) (p : Program) (R : Room) (s : State) (m : MethodId) (args : Array Value) (meth : Method) (c : Code) (nL : Nat) (code : ByteArray) (own : String) (ini : Bool) (on : Nat) (bd : Nat × Nat) : Prop :=
  p.tables.exec = Jvm.exec ∧ c.code = code ∧ c.maxLocals = nL ∧ s.vm.findClass own = some m.cls ∧ (∀ w ∈ tbG, w.before args s = true) ∧ KK g s ∧ (ini = true → meth.name = "<init>" ∧ own = RC on) ∧ meth.locks = false ∧ R.cells = bd.1 ∧ R.slots = bd.2
def CaW (g : GP) (p : Program) (e : Env) (R : Room) (s : State) (m : MethodId) (args : Array Value) (below : List Frame) (meth : Method) (c : Code) (nL : Nat) (Q' : State → Prop) (code : ByteArray) (kind i n rc : Nat) (sp : Nat × Nat × Spec) : Prop :=
  ∀ (pc : Nat) (L : Lc) (as rest : List Value) (h : hp) (u : Nat × Nat) (K : Kt), decode code pc = .ok (ivk kind i, 3) → as.length = (if kind = 1 then n else n + 1) → (rest.length ≤ 4 ∨ cw8 rest) → u.1 + sp.1 ≤ R.cells → u.2 + sp.2.1 ≤ R.slots →
    (kind = 0 → ∃ b t, as = .ref b :: t ∧ isO h b rc) → (kind = 2 → ∃ b t, as = .ref b :: t) → sp.2.2 as h K →
    (∀ v h', K v h' → GG g p e R s m args below meth c nL Q' (pc + 3) L (v.toList ++ rest) h' (u.1 + sp.1, u.2 + sp.2.1)) → GG g p e R s m args below meth c nL Q' pc L (as.reverse ++ rest) h u
def RetW (g : GP) (p : Program) (e : Env) (R : Room) (s : State) (m : MethodId) (args : Array Value) (below : List Frame) (meth : Method) (c : Code) (Q' : State → Prop) (code : ByteArray) (rt : Nat) (bd : Nat × Nat) (Q : Kt) : Prop :=
  ∀ (pc : Nat) (ls : Array Slot) (H : Heap) (locs : List Loc) (u : Nat × Nat) (v : Option Value) (i : Instr) (h : hp), decode code pc = .ok (i, 1) → retm rt i v → u.1 ≤ bd.1 → u.2 ≤ bd.2 → Q v h → hS g h H → (∀ q ∈ locs, gB g ≤ q.base) →
    W p (gL g) e R s m args below meth c H locs u.1 u.2 Q' (F0 m pc ls v.toList)
/-- reading a field -/
theorem st_get (hx : p.tables.exec = Jvm.exec) (hb : c.code = code) (hown : s.vm.findClass own = some m.cls) (hts : ∀ w ∈ tbG, w.before args s = true) (hK : KK g s) {H : Heap} {locs : List Loc} {u : Nat × Nat} {pc : Nat} {ls : Array Slot} {h : hp} (hs : hS g h H) {a cc k i : Nat} {S : List Value} (hc : cc < 13) (hk : k < NC cc) (hl : Jvm.Cond.fieldLink own i (TC cc k).1 (TC cc k).2.1 (TC cc k).2.2.1 ∈ tbG) (ho : isO h a cc)
    (hd : decode code pc = .ok (.getfield i, 3)) (kk : W p (gL g) e R s m args below meth c H locs u.1 u.2 Q' (F0 m (pc + 3) ls (fvl h cc k a :: S))) : W p (gL g) e R s m args below meth c H locs u.1 u.2 Q' (F0 m pc ls (.ref a :: S)) := by
  obtain ⟨n, hn⟩ := ho
  rcases hs.1 a cc n hn with ⟨-, -, -, cell, q1, q2, q3, q4⟩ | ⟨z, -⟩ | ⟨z, -⟩
  · obtain ⟨hSl, hfc, kC, hkC, hkind⟩ := hK.1.1 cc _ (vwC_at hc)
    obtain ⟨cf, kf, fi, f, hi, hsl⟩ := hSl k hk
    refine W.getf hx hb hown (hts _ hl) hi (u_facts hfc hkC (u_lays hts (uwC cc hc) hk) hi).1 q1 (by rw [q3]; exact fun h => by cases h) (v := fvl h cc k a) ?_ rfl rfl hd kk
    rw [hsl]
    exact q4 k hk
  · omega
  · rw [ak_13 hc] at z; omega
/-- writing a field -/
theorem st_put (hx : p.tables.exec = Jvm.exec) (hb : c.code = code) (hown : s.vm.findClass own = some m.cls) (hts : ∀ w ∈ tbG, w.before args s = true) (hK : KK g s) {H : Heap} {locs : List Loc} {u : Nat × Nat} {pc : Nat} {ls : Array Slot} {h h' : hp} (hs : hS g h H) {a cc k i : Nat} {S : List Value} {v : Value} (hc : cc < 13) (hk : k < NC cc) (hl : Jvm.Cond.fieldLink own i (TC cc k).1 (TC cc k).2.1 (TC cc k).2.2.1 ∈ tbG) (ho : isO h a cc)
    (hfin : (TC cc k).2.2.2 = false ∨ (meth.name = "<init>" ∧ own = RC cc)) (hv : narrow (tyC cc k) v = v ∧ fits (tyC cc k) v = true) (hT' : ∀ b, hT h' b = hT h b)
    (hi' : ∀ c' k' b, b ≠ a → hI h' c' k' b = hI h c' k' b) (hj' : ∀ c' k' b, b ≠ a → hJ h' c' k' b = hJ h c' k' b) (hr' : ∀ c' k' b, b ≠ a → hR h' c' k' b = hR h c' k' b) (hfv : ∀ j, fvl h' cc j a = if j = k then v else fvl h cc j a)
    (hlo : ∀ q ∈ locs, gB g ≤ q.base) (hd : decode code pc = .ok (.putfield i, 3)) (kk : ∀ (H' : Heap) (locs' : List Loc), hS g h' H' → (∀ q ∈ locs', gB g ≤ q.base) → W p (gL g) e R s m args below meth c H' locs' u.1 u.2 Q' (F0 m (pc + 3) ls S)) : W p (gL g) e R s m args below meth c H locs u.1 u.2 Q' (F0 m pc ls (v :: .ref a :: S)) := by
  obtain ⟨n, hn⟩ := ho
  rcases hs.1 a cc n hn with ⟨-, hN, hba, cell, q1, q2, q3, q4⟩ | ⟨z, -⟩ | ⟨z, -⟩
  · have hap := va_apart (own := own) hts (uwC cc hc) (tyC cc) (tyC_ok cc hc) (nmC_ok cc hc) hK.1 (vwC_at hc)
    obtain ⟨hSl, hfc, kC, hkC, hkind⟩ := hK.1.1 cc _ (vwC_at hc)
    obtain ⟨cf, kf, fi, f, hi, hsl⟩ := hSl k hk
    have hst := (u_facts hfc hkC (u_lays hts (uwC cc hc) hk) hi).1
    have fin : ∀ (H' : Heap), H'[a]? = some (cell.setSlot f.slot v) → H'.size = H.size → (∀ q, q ≠ a → H'[q]? = H[q]?) → W p (gL g) e R s m args below meth c H' (locs ++ [⟨a, f.slot⟩]) u.1 u.2 Q' (F0 m (pc + 3) ls S) := by
      intro H' e1 e2 e3
      rw [hsl] at e1 ⊢
      refine kk H' _ (hs.set hn hT' hba e2 e3 hi' hj' hr' (Or.inl ⟨hc, hN, hba, t_OB.to (V := updV (fun j => fvl h cc j a) k v) ⟨_, e1, q2, q3, t_set q4 hap hk v⟩ (fun j _ => ?_)⟩)) ?_
      · rw [hfv j]
        simp [updV]
      · intro q hq
        rcases List.mem_append.mp hq with h1 | h1
        · exact hlo q h1
        · rw [List.mem_singleton.mp h1]
          exact hba
    by_cases hf : (TC cc k).2.2.2 = true
    · have hlay := hts _ (uwC cc hc _ (u_in_lay hk))
      unfold u_lay at hlay
      rw [if_pos hf] at hlay
      obtain ⟨hin2, hdecl⟩ : meth.name = "<init>" ∧ own = RC cc := by
        rcases hfin with z | z
        · rw [z] at hf; cases hf
        · exact z
      have hcf : m.cls = cf := by
        obtain ⟨_, _, c', _, _, _, -, -, hf', -, -, -, hown2, -⟩ := Cond.laysFinal_spec hlay
        have e1 : c' = cf := by have := hi.symm.trans hf'; simp at this; exact this.1.symm
        rw [dcC_ok cc hc k hk, ← hdecl] at hown2
        rw [← e1]; exact Option.some.inj (hown.symm.trans hown2)
      have h6 := u_fits hfc hkC hkind (Or.inr hlay) hi (tyC_ok cc hc k hk) hv.1 hv.2
      exact W.putFinK hx hb hown (hts _ hl) hi hst hcf hin2 (by rw [q2]; exact h6) q1 q3 (by rw [hsl]; exact k2_hasslot (q4 k hk)) rfl rfl hd fin
    · have hlay := hts _ (uwC cc hc _ (u_in_lay hk))
      unfold u_lay at hlay
      rw [if_neg hf] at hlay
      have h6 := u_store hfc hkC hkind hlay hi (tyC_ok cc hc k hk) hv.1 hv.2
      exact W.putK hx hb (f := f) ⟨hown, hts _ hl, ⟨_, _, _, hi⟩, hst⟩ (by rw [q2]; exact h6) q1 q3 (by rw [hsl]; exact k2_hasslot (q4 k hk)) rfl rfl hd fin
  · omega
  · rw [ak_13 hc] at z; omega
/-- an array's cell -/
theorem st_arr (hK : KK g s) {H : Heap} {h : hp} (hs : hS g h H) {a k n : Nat} (hn : hT h a = some (k, n)) (h1 : 20 ≤ ak k) : gB g ≤ a ∧ H[a]? = some (arrV (gA g (ak k)) n (fun j => avl h k j a)) ∧ ArrOfT s (gA g (ak k)) (aty (ak k)) ∧ va_RA s (gA g (ak k)) (aty (ak k)) := by
  rcases hs.1 a k n hn with ⟨z, -⟩ | ⟨rfl, -⟩ | ⟨-, b, q⟩
  · rw [ak_13 z] at h1; omega
  · exact absurd h1 (by decide)
  · have := hK.1.2 (ak k - 20) _ (tysL_at (gA g) h1 (ak_lt k))
    exact ⟨b, q, this.1, this.2⟩
theorem st_lt {x : Int32} {n : Nat} (h : vp_in x n) : x.toNatClampNeg < n := Nat.not_le.mp fun q => h (Or.inr q)
/-- writing an array -/
theorem st_ast {H H' : Heap} {locs : List Loc} {h h' : hp} (hs : hS g h H) {a k n j : Nat} {v : Value} (hn : hT h a = some (k, n)) (h1 : 20 ≤ ak k) (hba : gB g ≤ a) (e1 : H'[a]? = some ((arrV (gA g (ak k)) n (fun j => avl h k j a)).setSlot j v)) (e2 : H'.size = H.size) (e3 : ∀ q, q ≠ a → H'[q]? = H[q]?) (hT' : ∀ b, hT h' b = hT h b)
    (hi' : ∀ c' k' b, b ≠ a → hI h' c' k' b = hI h c' k' b) (hj' : ∀ c' k' b, b ≠ a → hJ h' c' k' b = hJ h c' k' b) (hr' : ∀ c' k' b, b ≠ a → hR h' c' k' b = hR h c' k' b) (hfv : ∀ i, avl h' k i a = if i = j then v else avl h k i a) (hlo : ∀ q ∈ locs, gB g ≤ q.base) : hS g h' H' ∧ ∀ q ∈ locs ++ [⟨a, j⟩], gB g ≤ q.base := by
  refine ⟨hs.set hn hT' hba e2 e3 hi' hj' hr' (Or.inr (Or.inr ⟨h1, hba, ?_⟩)), fun q hq => ?_⟩
  · rw [e1, arrV_store]
    congr 2
    funext i
    rw [hfv i]
    simp [updV]
  · rcases List.mem_append.mp hq with z | z
    · exact hlo q z
    · rw [List.mem_singleton.mp z]
      exact hba
theorem iI_nat (n : Nat) : iI (n : Int) = Int32.ofNat n := by
  unfold iI
  first | exact Int32.ofInt_natCast n | simp [Int32.ofInt, Int32.ofNat] | rfl
theorem iI_nat0 {n : Nat} (hn : n < 2 ^ 31) : ¬ iI (n : Int) < 0 ∧ (iI (n : Int)).toNatClampNeg = n := by
  rw [iI_nat]
  exact ⟨nI_pos hn, nI_clamp hn⟩
end STEP
