/-! A SMALL MACHINE OVER FIELD MAPS. A heap here: hT kinds, hI ints, hJ longs, hR references, each by kind, place and address.
Kinds below 20 are the classes (by their numbers); 40 is the script; other kinds are places where arrays are made (their types: ak). -/
abbrev hp : Type := (Nat → Option (Nat × Nat)) × (Nat → Nat → Nat → Int32) × (Nat → Nat → Nat → Int64) × (Nat → Nat → Nat → Option Nat)
def hT (h : hp) (a : Nat) : Option (Nat × Nat) := h.1 a
def hI (h : hp) (c k a : Nat) : Int32 := h.2.1 c k a
def hJ (h : hp) (c k a : Nat) : Int64 := h.2.2.1 c k a
def hR (h : hp) (c k a : Nat) : Option Nat := h.2.2.2 c k a
def sI (h : hp) (c k a : Nat) (v : Int32) : hp := (h.1, (fun c' k' a' => if c' = c ∧ k' = k ∧ a' = a then v else h.2.1 c' k' a'), h.2.2.1, h.2.2.2)
def sJ (h : hp) (c k a : Nat) (v : Int64) : hp := (h.1, h.2.1, (fun c' k' a' => if c' = c ∧ k' = k ∧ a' = a then v else h.2.2.1 c' k' a'), h.2.2.2)
def sR (h : hp) (c k a : Nat) (v : Option Nat) : hp := (h.1, h.2.1, h.2.2.1, (fun c' k' a' => if c' = c ∧ k' = k ∧ a' = a then v else h.2.2.2 c' k' a'))
def nw (h : hp) (a c n : Nat) : hp := ((fun b => if b = a then some (c, n) else h.1 b), (fun c' k' b => if b = a then 0 else h.2.1 c' k' b), (fun c' k' b => if b = a then 0 else h.2.2.1 c' k' b), (fun c' k' b => if b = a then none else h.2.2.2 c' k' b))
/-- a row of arrays: the outer at a, the inner ones at a + 1 .. a + N, of M ints each -/
def nw2 (h : hp) (a ko ki N M : Nat) : hp := ((fun b => if b = a then some (ko, N) else if a < b ∧ b ≤ a + N then some (ki, M) else h.1 b), (fun c' k' b => if a ≤ b ∧ b ≤ a + N then 0 else h.2.1 c' k' b), (fun c' k' b => if a ≤ b ∧ b ≤ a + N then 0 else h.2.2.1 c' k' b), (fun c' k' b => if b = a then (if k' < N then some (a + 1 + k') else none) else if a < b ∧ b ≤ a + N then none else h.2.2.2 c' k' b))
theorem hT_sI (h : hp) (c k a : Nat) (v : Int32) (b : Nat) : hT (sI h c k a v) b = hT h b := rfl
theorem hT_sJ (h : hp) (c k a : Nat) (v : Int64) (b : Nat) : hT (sJ h c k a v) b = hT h b := rfl
theorem hT_sR (h : hp) (c k a : Nat) (v : Option Nat) (b : Nat) : hT (sR h c k a v) b = hT h b := rfl
theorem hI_sJ (h : hp) (c k a : Nat) (v : Int64) (c' k' b : Nat) : hI (sJ h c k a v) c' k' b = hI h c' k' b := rfl
theorem hI_sR (h : hp) (c k a : Nat) (v : Option Nat) (c' k' b : Nat) : hI (sR h c k a v) c' k' b = hI h c' k' b := rfl
theorem hJ_sI (h : hp) (c k a : Nat) (v : Int32) (c' k' b : Nat) : hJ (sI h c k a v) c' k' b = hJ h c' k' b := rfl
theorem hJ_sR (h : hp) (c k a : Nat) (v : Option Nat) (c' k' b : Nat) : hJ (sR h c k a v) c' k' b = hJ h c' k' b := rfl
theorem hR_sI (h : hp) (c k a : Nat) (v : Int32) (c' k' b : Nat) : hR (sI h c k a v) c' k' b = hR h c' k' b := rfl
theorem hR_sJ (h : hp) (c k a : Nat) (v : Int64) (c' k' b : Nat) : hR (sJ h c k a v) c' k' b = hR h c' k' b := rfl
theorem hI_sI (h : hp) (c k a : Nat) (v : Int32) (c' k' b : Nat) : hI (sI h c k a v) c' k' b = if c' = c ∧ k' = k ∧ b = a then v else hI h c' k' b := rfl
theorem hJ_sJ (h : hp) (c k a : Nat) (v : Int64) (c' k' b : Nat) : hJ (sJ h c k a v) c' k' b = if c' = c ∧ k' = k ∧ b = a then v else hJ h c' k' b := rfl
theorem hR_sR (h : hp) (c k a : Nat) (v : Option Nat) (c' k' b : Nat) : hR (sR h c k a v) c' k' b = if c' = c ∧ k' = k ∧ b = a then v else hR h c' k' b := rfl
theorem hT_nw (h : hp) (a c n b : Nat) : hT (nw h a c n) b = if b = a then some (c, n) else hT h b := rfl
theorem hI_nw (h : hp) (a c n c' k' b : Nat) : hI (nw h a c n) c' k' b = if b = a then 0 else hI h c' k' b := rfl
theorem hJ_nw (h : hp) (a c n c' k' b : Nat) : hJ (nw h a c n) c' k' b = if b = a then 0 else hJ h c' k' b := rfl
theorem hR_nw (h : hp) (a c n c' k' b : Nat) : hR (nw h a c n) c' k' b = if b = a then none else hR h c' k' b := rfl
theorem hT_nw2 (h : hp) (a ko ki N M b : Nat) : hT (nw2 h a ko ki N M) b = if b = a then some (ko, N) else if a < b ∧ b ≤ a + N then some (ki, M) else hT h b := rfl
theorem hI_nw2 (h : hp) (a ko ki N M c' k' b : Nat) : hI (nw2 h a ko ki N M) c' k' b = if a ≤ b ∧ b ≤ a + N then 0 else hI h c' k' b := rfl
theorem hJ_nw2 (h : hp) (a ko ki N M c' k' b : Nat) : hJ (nw2 h a ko ki N M) c' k' b = if a ≤ b ∧ b ≤ a + N then 0 else hJ h c' k' b := rfl
theorem hR_nw2 (h : hp) (a ko ki N M c' k' b : Nat) : hR (nw2 h a ko ki N M) c' k' b = if b = a then (if k' < N then some (a + 1 + k') else none) else if a < b ∧ b ≤ a + N then none else hR h c' k' b := rfl
/-- numbers -/
def iI (z : Int) : Int32 := Int32.ofInt z
def lI (z : Int) : Int64 := Int64.ofInt z
/-- an object of a class -/
def isO (h : hp) (a c : Nat) : Prop := ∃ n, hT h a = some (c, n)
abbrev Lc : Type := List (Nat × Value)
abbrev It : Type := Instr × Nat × Nat × Nat × Nat × Int
abbrev Kt : Type := Option Value → hp → Prop
abbrev Spec : Type := List Value → hp → Kt → Prop
abbrev Gt : Type := Nat → Lc → List Value → hp → Nat × Nat → Prop
abbrev Kn : Type := Lc → List Value → hp → Nat × Nat → Prop
def lk : Lc → Nat → Option Value
  | [], _ => none
  | (j, v) :: r, i => if j = i then some v else lk r i
/-- what stays of the locals, if v goes to place i -/
def cL : Lc → Nat → Value → Lc
  | [], _, _ => []
  | (j, w) :: r, i, v => if j = i ∨ (j + 1 = i ∧ w.category = 2) ∨ (j = i + 1 ∧ v.category = 2) then cL r i v else (j, w) :: cL r i v
def sL : Lc → Nat → Value → Lc
  | [], i, v => [(i, v)]
  | (j, w) :: r, i, v => if j = i then (i, v) :: cL r i v else if (j + 1 = i ∧ w.category = 2) ∨ (j = i + 1 ∧ v.category = 2) then sL r i v else (j, w) :: sL r i v
def i1 (S : List Value) (f : Int32 → List Value → Prop) : Prop := match S with
  | .int x :: r => f x r
  | _ => False
def i2 (S : List Value) (f : Int32 → Int32 → List Value → Prop) : Prop := match S with
  | .int y :: .int x :: r => f x y r
  | _ => False
def l1 (S : List Value) (f : Int64 → List Value → Prop) : Prop := match S with
  | .long x :: r => f x r
  | _ => False
def l2 (S : List Value) (f : Int64 → Int64 → List Value → Prop) : Prop := match S with
  | .long y :: .long x :: r => f x y r
  | _ => False
def r1 (S : List Value) (f : Nat → List Value → Prop) : Prop := match S with
  | .ref a :: r => f a r
  | _ => False
/-- an array and a place in it: kind, length, address, place -/
def ar (h : hp) (S : List Value) (f : Nat → Nat → Nat → Int32 → List Value → Prop) : Prop := match S with
  | .int i :: .ref a :: r => match hT h a with
    | some (k, n) => f k n a i r
    | none => False
  | _ => False
def cmpI (c : ClassFile.Cond) (x y : Int32) : Prop := match c with
  | .eq => x = y
  | .ne => x ≠ y
  | .lt => x < y
  | .ge => y ≤ x
  | .gt => y < x
  | .le => x ≤ y
def lgc (x y : Int64) : Int32 := if y < x then 1 else if x = y then 0 else -1
def rcv (h : hp) (S : List Value) (n c : Nat) : Prop := match (S.drop n).head? with
  | some (.ref b) => isO h b c
  | _ => False
-- BEGIN WPI
def ldI (L : Lc) (i : Nat) (f : Int32 → Prop) : Prop := match lk L i with
  | some (.int x) => f x
  | _ => False
def ldJ (L : Lc) (i : Nat) (f : Int64 → Prop) : Prop := match lk L i with
  | some (.long x) => f x
  | _ => False
def ldA (L : Lc) (i : Nat) (f : Value → Prop) : Prop := match lk L i with
  | some (.ref a) => f (.ref a)
  | some .null => f .null
  | _ => False
def pA (S : List Value) (f : Option Nat → List Value → Prop) : Prop := match S with
  | .ref a :: s => f (some a) s
  | .null :: s => f none s
  | _ => False
def p1 (S : List Value) (f : Value → List Value → Prop) : Prop := match S with
  | w :: s => f w s
  | _ => False
def p2 (S : List Value) (f : Value → Value → List Value → Prop) : Prop := match S with
  | w :: x :: s => f w x s
  | _ => False
def tyAt (h : hp) (a : Nat) (f : Nat → Nat → Prop) : Prop := match hT h a with
  | some (k, n) => f k n
  | none => False
/-- the type of a kind of array: 20 int[] 21 boolean[] 22 long[] 23 Piece[] 24 Eye[] 25 Leg[] 26 Pair[] 27 Stairs[] 28 int[][]; a kind a place where arrays are made -/
def ak (k : Nat) : Nat := if 100 ≤ k ∧ k < 200 then 20 else if 200 ≤ k ∧ k < 300 then 21 else if 300 ≤ k ∧ k < 400 then 22 else if 23 ≤ k ∧ k < 29 then k else if k = 29 then 23 else if 30 ≤ k ∧ k < 40 then 28 else 0
def kc (k : Nat) : Nat := match k with
  | 23 => 3
  | 24 => 0
  | 25 => 1
  | 26 => 2
  | _ => 8
def oO (h : hp) (w : Option Nat) (c : Nat) : Prop := match w with
  | some b => isO h b c
  | none => True
def rcr (S : List Value) (n : Nat) : Prop := match (S.drop n).head? with
  | some (.ref _) => True
  | _ => False
/-- few words -/
def cw8 (S : List Value) : Prop := (S.map fun v => v.category).sum ≤ 8
/-- an instruction (instr, length, p, q, r, v): what must hold before it, so that K holds behind it, or G where it jumps to -/
def wpI (cl : Nat → Nat × Nat × Spec) (bd : Nat × Nat) (rt : Nat) (Q : Kt) (it : It) (pc : Nat) (L : Lc) (S : List Value) (h : hp) (u : Nat × Nat) (K : Kn) (G : Gt) : Prop :=
  match it with
  | (.aconst_null, _, p, q, r, v) => K L (.null :: S) h u
  | (.iconst _, _, p, q, r, v) => K L (.int (iI v) :: S) h u
  | (.bipush _, _, p, q, r, v) => K L (.int (iI v) :: S) h u
  | (.sipush _, _, p, q, r, v) => K L (.int (iI v) :: S) h u
  | (.ldc _, _, p, q, r, v) => K L (.int (iI v) :: S) h u
  | (.ldc_w _, _, p, q, r, v) => K L (.int (iI v) :: S) h u
  | (.ldc2_w _, _, p, q, r, v) => K L (.long (lI v) :: S) h u
  | (.lconst _, _, p, q, r, v) => K L (.long (lI v) :: S) h u
  | (.iload _, _, p, q, r, v) => ldI L p fun x => K L (.int x :: S) h u
  | (.iload_n _, _, p, q, r, v) => ldI L p fun x => K L (.int x :: S) h u
  | (.lload _, _, p, q, r, v) => ldJ L p fun x => K L (.long x :: S) h u
  | (.lload_n _, _, p, q, r, v) => ldJ L p fun x => K L (.long x :: S) h u
  | (.aload _, _, p, q, r, v) => ldA L p fun x => K L (x :: S) h u
  | (.aload_n _, _, p, q, r, v) => ldA L p fun x => K L (x :: S) h u
  | (.istore _, _, p, q, r, v) => i1 S fun x s => K (sL L p (.int x)) s h u
  | (.istore_n _, _, p, q, r, v) => i1 S fun x s => K (sL L p (.int x)) s h u
  | (.lstore _, _, p, q, r, v) => l1 S fun x s => K (sL L p (.long x)) s h u
  | (.lstore_n _, _, p, q, r, v) => l1 S fun x s => K (sL L p (.long x)) s h u
  | (.astore _, _, p, q, r, v) => pA S fun x s => K (sL L p (va_rf x)) s h u
  | (.astore_n _, _, p, q, r, v) => pA S fun x s => K (sL L p (va_rf x)) s h u
  | (.iinc _ _, _, p, q, r, v) => ldI L p fun x => K (sL L p (.int (x + iI v))) S h u
  | (.iadd, _, p, q, r, v) => i2 S fun x y s => K L (.int (x + y) :: s) h u
  | (.isub, _, p, q, r, v) => i2 S fun x y s => K L (.int (x - y) :: s) h u
  | (.imul, _, p, q, r, v) => i2 S fun x y s => K L (.int (x * y) :: s) h u
  | (.iand, _, p, q, r, v) => i2 S fun x y s => K L (.int (x &&& y) :: s) h u
  | (.ior, _, p, q, r, v) => i2 S fun x y s => K L (.int (x ||| y) :: s) h u
  | (.ixor, _, p, q, r, v) => i2 S fun x y s => K L (.int (x ^^^ y) :: s) h u
  | (.ishl, _, p, q, r, v) => i2 S fun x y s => K L (.int (x <<< (y &&& 31)) :: s) h u
  | (.ishr, _, p, q, r, v) => i2 S fun x y s => K L (.int (x >>> (y &&& 31)) :: s) h u
  | (.iushr, _, p, q, r, v) => i2 S fun x y s => K L (.int ((x.toUInt32 >>> (y.toUInt32 &&& Int32.toUInt32 31)).toInt32) :: s) h u
  | (.idiv, _, p, q, r, v) => i2 S fun x y s => y ≠ 0 ∧ K L (.int (x / y) :: s) h u
  | (.irem, _, p, q, r, v) => i2 S fun x y s => y ≠ 0 ∧ K L (.int (x - x / y * y) :: s) h u
  | (.ineg, _, p, q, r, v) => i1 S fun x s => K L (.int (-x) :: s) h u
  | (.ladd, _, p, q, r, v) => l2 S fun x y s => K L (.long (x + y) :: s) h u
  | (.lsub, _, p, q, r, v) => l2 S fun x y s => K L (.long (x - y) :: s) h u
  | (.lmul, _, p, q, r, v) => l2 S fun x y s => K L (.long (x * y) :: s) h u
  | (.ldiv, _, p, q, r, v) => l2 S fun x y s => y ≠ 0 ∧ K L (.long (x / y) :: s) h u
  | (.lrem, _, p, q, r, v) => l2 S fun x y s => y ≠ 0 ∧ K L (.long (x - x / y * y) :: s) h u
  | (.lcmp, _, p, q, r, v) => l2 S fun x y s => K L (.int (lgc x y) :: s) h u
  | (.i2l, _, p, q, r, v) => i1 S fun x s => K L (.long x.toInt64 :: s) h u
  | (.l2i, _, p, q, r, v) => l1 S fun x s => K L (.int x.toInt32 :: s) h u
  | (.pop, _, p, q, r, v) => p1 S fun w s => w.category = 1 ∧ K L s h u
  | (.dup, _, p, q, r, v) => p1 S fun w s => w.category = 1 ∧ K L (w :: w :: s) h u
  | (.dup2, _, p, q, r, v) => p2 S fun w x s => w.category = 1 ∧ x.category = 1 ∧ K L (w :: x :: w :: x :: s) h u
  | (.goto _, _, p, q, r, v) => G p L S h u
  | (.ifCond c _, _, p, q, r, v) => i1 S fun x s => (cmpI c x 0 → G p L s h u) ∧ (¬ cmpI c x 0 → K L s h u)
  | (.if_icmp c _, _, p, q, r, v) => i2 S fun x y s => (cmpI c x y → G p L s h u) ∧ (¬ cmpI c x y → K L s h u)
  | (.ifnull _, _, p, q, r, v) => pA S fun w s => (w = none → G p L s h u) ∧ (w ≠ none → K L s h u)
  | (.ifnonnull _, _, p, q, r, v) => pA S fun w s => (w ≠ none → G p L s h u) ∧ (w = none → K L s h u)
  | (.tableswitch d lo hi offs, _, p, q, r, v) => i1 S fun x s => ((x.toInt < lo ∨ hi < x.toInt) → G ((pc : Int) + d).toNat L s h u) ∧ ∀ (j : Nat) (o : Int), offs[j]? = some o → x.toInt = lo + j → G ((pc : Int) + o).toNat L s h u
  | (.getfield _, _, p, q, r, v) => r1 S fun a s => isO h a p ∧ if r = 2 then K L (va_rf (hR h p q a) :: s) h u else K L (.int (hI h p q a) :: s) h u
  | (.putfield _, _, p, q, r, v) => if r = 2 then (pA S fun w t => r1 t fun a s => isO h a p ∧ K L s (sR h p q a w) u) else (i1 S fun x t => r1 t fun a s => isO h a p ∧ (r = 1 → x = 0 ∨ x = 1) ∧ K L s (sI h p q a x) u)
  | (.arraylength, _, p, q, r, v) => r1 S fun a s => tyAt h a fun k n => (20 ≤ ak k ∨ k = 40) ∧ n < 2147483648 ∧ K L (.int (iI n) :: s) h u
  | (.iaload, _, p, q, r, v) => ar h S fun k n a i s => (ak k = 20 ∨ k = 40) ∧ vp_in i n ∧ K L (.int (hI h k i.toNatClampNeg a) :: s) h u
  | (.baload, _, p, q, r, v) => ar h S fun k n a i s => ak k = 21 ∧ vp_in i n ∧ K L (.int (hI h k i.toNatClampNeg a) :: s) h u
  | (.laload, _, p, q, r, v) => ar h S fun k n a i s => ak k = 22 ∧ vp_in i n ∧ K L (.long (hJ h k i.toNatClampNeg a) :: s) h u
  | (.aaload, _, p, q, r, v) => ar h S fun k n a i s => 23 ≤ ak k ∧ vp_in i n ∧ K L (va_rf (hR h k i.toNatClampNeg a) :: s) h u
  | (.iastore, _, p, q, r, v) => i1 S fun x t => ar h t fun k n a i s => ak k = 20 ∧ vp_in i n ∧ K L s (sI h k i.toNatClampNeg a x) u
  | (.bastore, _, p, q, r, v) => i1 S fun x t => ar h t fun k n a i s => ak k = 21 ∧ vp_in i n ∧ (x = 0 ∨ x = 1) ∧ K L s (sI h k i.toNatClampNeg a x) u
  | (.lastore, _, p, q, r, v) => l1 S fun x t => ar h t fun k n a i s => ak k = 22 ∧ vp_in i n ∧ K L s (sJ h k i.toNatClampNeg a x) u
  | (.aastore, _, p, q, r, v) => pA S fun w t => ar h t fun k n a i s => (23 ≤ ak k ∧ ak k < 28) ∧ oO h w (kc (ak k)) ∧ vp_in i n ∧ K L s (sR h k i.toNatClampNeg a w) u
  | (.new _, _, p, q, r, v) => u.1 + 1 ≤ bd.1 ∧ u.2 + q ≤ bd.2 ∧ ∀ a, hT h a = none → K L (.ref a :: S) (nw h a p q) (u.1 + 1, u.2 + q)
  | (.newarray _, _, p, q, r, v) => i1 S fun n s => ∃ N : Nat, n = iI N ∧ N ≤ 10000 ∧ u.1 + 1 ≤ bd.1 ∧ u.2 + N ≤ bd.2 ∧ ∀ a, hT h a = none → K L (.ref a :: s) (nw h a p N) (u.1 + 1, u.2 + N)
  | (.anewarray _, _, p, q, r, v) => i1 S fun n s => ∃ N : Nat, n = iI N ∧ N ≤ 10000 ∧ u.1 + 1 ≤ bd.1 ∧ u.2 + N ≤ bd.2 ∧ ∀ a, hT h a = none → K L (.ref a :: s) (nw h a p N) (u.1 + 1, u.2 + N)
  | (.multianewarray _ _, _, p, q, r, v) => i2 S fun n k s => ∃ N M : Nat, n = iI N ∧ k = iI M ∧ N ≤ 10000 ∧ M ≤ 10000 ∧ u.1 + (1 + N) ≤ bd.1 ∧ u.2 + (N + N * M) ≤ bd.2 ∧ ∀ a, (∀ j, j ≤ N → hT h (a + j) = none) → K L (.ref a :: s) (nw2 h a p q N M) (u.1 + (1 + N), u.2 + (N + N * M))
  | (.invokevirtual _, _, p, q, r, v) => rcv h S p r ∧ ((S.drop (p + 1)).length ≤ 4 ∨ cw8 (S.drop (p + 1))) ∧ u.1 + (cl q).1 ≤ bd.1 ∧ u.2 + (cl q).2.1 ≤ bd.2 ∧ (cl q).2.2 (S.take (p + 1)).reverse h (fun w h' => K L (w.toList ++ S.drop (p + 1)) h' (u.1 + (cl q).1, u.2 + (cl q).2.1))
  | (.invokespecial _, _, p, q, r, v) => rcr S p ∧ ((S.drop (p + 1)).length ≤ 4 ∨ cw8 (S.drop (p + 1))) ∧ u.1 + (cl q).1 ≤ bd.1 ∧ u.2 + (cl q).2.1 ≤ bd.2 ∧ (cl q).2.2 (S.take (p + 1)).reverse h (fun w h' => K L (w.toList ++ S.drop (p + 1)) h' (u.1 + (cl q).1, u.2 + (cl q).2.1))
  | (.invokestatic _, _, p, q, r, v) => p ≤ S.length ∧ ((S.drop p).length ≤ 4 ∨ cw8 (S.drop p)) ∧ u.1 + (cl q).1 ≤ bd.1 ∧ u.2 + (cl q).2.1 ≤ bd.2 ∧ (cl q).2.2 (S.take p).reverse h (fun w h' => K L (w.toList ++ S.drop p) h' (u.1 + (cl q).1, u.2 + (cl q).2.1))
  | (.ireturn, _, p, q, r, v) => i1 S fun x s => s = [] ∧ u.1 ≤ bd.1 ∧ u.2 ≤ bd.2 ∧ (rt = 1 ∨ rt = 2 ∧ (x = 0 ∨ x = 1)) ∧ Q (some (.int x)) h
  | (.lreturn, _, p, q, r, v) => l1 S fun x s => s = [] ∧ rt = 3 ∧ u.1 ≤ bd.1 ∧ u.2 ≤ bd.2 ∧ Q (some (.long x)) h
  | (.areturn, _, p, q, r, v) => pA S fun w s => s = [] ∧ rt = 4 ∧ u.1 ≤ bd.1 ∧ u.2 ≤ bd.2 ∧ Q (some (va_rf w)) h
  | (.return_, _, p, q, r, v) => S = [] ∧ rt = 0 ∧ u.1 ≤ bd.1 ∧ u.2 ≤ bd.2 ∧ Q none h
  | _ => False
section WPL
variable (cl : Nat → Nat × Nat × Spec) (bd : Nat × Nat) (rt : Nat) (Q : Kt) (pc : Nat) (L : Lc) (S : List Value) (h : hp) (u : Nat × Nat) (K : Kn) (G : Gt) (len p q r : Nat) (v : Int)
theorem wp_aconst_null  : wpI cl bd rt Q (.aconst_null, len, p, q, r, v) pc L S h u K G = (K L (.null :: S) h u) := rfl
theorem wp_iconst (i : Int) : wpI cl bd rt Q (.iconst i, len, p, q, r, v) pc L S h u K G = (K L (.int (iI v) :: S) h u) := rfl
theorem wp_bipush (i : Int) : wpI cl bd rt Q (.bipush i, len, p, q, r, v) pc L S h u K G = (K L (.int (iI v) :: S) h u) := rfl
theorem wp_sipush (i : Int) : wpI cl bd rt Q (.sipush i, len, p, q, r, v) pc L S h u K G = (K L (.int (iI v) :: S) h u) := rfl
theorem wp_ldc (i : Nat) : wpI cl bd rt Q (.ldc i, len, p, q, r, v) pc L S h u K G = (K L (.int (iI v) :: S) h u) := rfl
theorem wp_ldc_w (i : Nat) : wpI cl bd rt Q (.ldc_w i, len, p, q, r, v) pc L S h u K G = (K L (.int (iI v) :: S) h u) := rfl
theorem wp_ldc2_w (i : Nat) : wpI cl bd rt Q (.ldc2_w i, len, p, q, r, v) pc L S h u K G = (K L (.long (lI v) :: S) h u) := rfl
theorem wp_lconst (i : Fin 2) : wpI cl bd rt Q (.lconst i, len, p, q, r, v) pc L S h u K G = (K L (.long (lI v) :: S) h u) := rfl
theorem wp_iload (i : Nat) : wpI cl bd rt Q (.iload i, len, p, q, r, v) pc L S h u K G = (ldI L p fun x => K L (.int x :: S) h u) := rfl
theorem wp_iload_n (i : Fin 4) : wpI cl bd rt Q (.iload_n i, len, p, q, r, v) pc L S h u K G = (ldI L p fun x => K L (.int x :: S) h u) := rfl
theorem wp_lload (i : Nat) : wpI cl bd rt Q (.lload i, len, p, q, r, v) pc L S h u K G = (ldJ L p fun x => K L (.long x :: S) h u) := rfl
theorem wp_lload_n (i : Fin 4) : wpI cl bd rt Q (.lload_n i, len, p, q, r, v) pc L S h u K G = (ldJ L p fun x => K L (.long x :: S) h u) := rfl
theorem wp_aload (i : Nat) : wpI cl bd rt Q (.aload i, len, p, q, r, v) pc L S h u K G = (ldA L p fun x => K L (x :: S) h u) := rfl
theorem wp_aload_n (i : Fin 4) : wpI cl bd rt Q (.aload_n i, len, p, q, r, v) pc L S h u K G = (ldA L p fun x => K L (x :: S) h u) := rfl
theorem wp_istore (i : Nat) : wpI cl bd rt Q (.istore i, len, p, q, r, v) pc L S h u K G = (i1 S fun x s => K (sL L p (.int x)) s h u) := rfl
theorem wp_istore_n (i : Fin 4) : wpI cl bd rt Q (.istore_n i, len, p, q, r, v) pc L S h u K G = (i1 S fun x s => K (sL L p (.int x)) s h u) := rfl
theorem wp_lstore (i : Nat) : wpI cl bd rt Q (.lstore i, len, p, q, r, v) pc L S h u K G = (l1 S fun x s => K (sL L p (.long x)) s h u) := rfl
theorem wp_lstore_n (i : Fin 4) : wpI cl bd rt Q (.lstore_n i, len, p, q, r, v) pc L S h u K G = (l1 S fun x s => K (sL L p (.long x)) s h u) := rfl
theorem wp_astore (i : Nat) : wpI cl bd rt Q (.astore i, len, p, q, r, v) pc L S h u K G = (pA S fun x s => K (sL L p (va_rf x)) s h u) := rfl
theorem wp_astore_n (i : Fin 4) : wpI cl bd rt Q (.astore_n i, len, p, q, r, v) pc L S h u K G = (pA S fun x s => K (sL L p (va_rf x)) s h u) := rfl
theorem wp_iinc (i : Nat) (j : Int) : wpI cl bd rt Q (.iinc i j, len, p, q, r, v) pc L S h u K G = (ldI L p fun x => K (sL L p (.int (x + iI v))) S h u) := rfl
theorem wp_iadd  : wpI cl bd rt Q (.iadd, len, p, q, r, v) pc L S h u K G = (i2 S fun x y s => K L (.int (x + y) :: s) h u) := rfl
theorem wp_isub  : wpI cl bd rt Q (.isub, len, p, q, r, v) pc L S h u K G = (i2 S fun x y s => K L (.int (x - y) :: s) h u) := rfl
theorem wp_imul  : wpI cl bd rt Q (.imul, len, p, q, r, v) pc L S h u K G = (i2 S fun x y s => K L (.int (x * y) :: s) h u) := rfl
theorem wp_iand  : wpI cl bd rt Q (.iand, len, p, q, r, v) pc L S h u K G = (i2 S fun x y s => K L (.int (x &&& y) :: s) h u) := rfl
theorem wp_ior  : wpI cl bd rt Q (.ior, len, p, q, r, v) pc L S h u K G = (i2 S fun x y s => K L (.int (x ||| y) :: s) h u) := rfl
theorem wp_ixor  : wpI cl bd rt Q (.ixor, len, p, q, r, v) pc L S h u K G = (i2 S fun x y s => K L (.int (x ^^^ y) :: s) h u) := rfl
theorem wp_ishl  : wpI cl bd rt Q (.ishl, len, p, q, r, v) pc L S h u K G = (i2 S fun x y s => K L (.int (x <<< (y &&& 31)) :: s) h u) := rfl
theorem wp_ishr  : wpI cl bd rt Q (.ishr, len, p, q, r, v) pc L S h u K G = (i2 S fun x y s => K L (.int (x >>> (y &&& 31)) :: s) h u) := rfl
theorem wp_iushr  : wpI cl bd rt Q (.iushr, len, p, q, r, v) pc L S h u K G = (i2 S fun x y s => K L (.int ((x.toUInt32 >>> (y.toUInt32 &&& Int32.toUInt32 31)).toInt32) :: s) h u) := rfl
theorem wp_idiv  : wpI cl bd rt Q (.idiv, len, p, q, r, v) pc L S h u K G = (i2 S fun x y s => y ≠ 0 ∧ K L (.int (x / y) :: s) h u) := rfl
theorem wp_irem  : wpI cl bd rt Q (.irem, len, p, q, r, v) pc L S h u K G = (i2 S fun x y s => y ≠ 0 ∧ K L (.int (x - x / y * y) :: s) h u) := rfl
theorem wp_ineg  : wpI cl bd rt Q (.ineg, len, p, q, r, v) pc L S h u K G = (i1 S fun x s => K L (.int (-x) :: s) h u) := rfl
theorem wp_ladd  : wpI cl bd rt Q (.ladd, len, p, q, r, v) pc L S h u K G = (l2 S fun x y s => K L (.long (x + y) :: s) h u) := rfl
theorem wp_lsub  : wpI cl bd rt Q (.lsub, len, p, q, r, v) pc L S h u K G = (l2 S fun x y s => K L (.long (x - y) :: s) h u) := rfl
theorem wp_lmul  : wpI cl bd rt Q (.lmul, len, p, q, r, v) pc L S h u K G = (l2 S fun x y s => K L (.long (x * y) :: s) h u) := rfl
theorem wp_ldiv  : wpI cl bd rt Q (.ldiv, len, p, q, r, v) pc L S h u K G = (l2 S fun x y s => y ≠ 0 ∧ K L (.long (x / y) :: s) h u) := rfl
theorem wp_lrem  : wpI cl bd rt Q (.lrem, len, p, q, r, v) pc L S h u K G = (l2 S fun x y s => y ≠ 0 ∧ K L (.long (x - x / y * y) :: s) h u) := rfl
theorem wp_lcmp  : wpI cl bd rt Q (.lcmp, len, p, q, r, v) pc L S h u K G = (l2 S fun x y s => K L (.int (lgc x y) :: s) h u) := rfl
theorem wp_i2l  : wpI cl bd rt Q (.i2l, len, p, q, r, v) pc L S h u K G = (i1 S fun x s => K L (.long x.toInt64 :: s) h u) := rfl
theorem wp_l2i  : wpI cl bd rt Q (.l2i, len, p, q, r, v) pc L S h u K G = (l1 S fun x s => K L (.int x.toInt32 :: s) h u) := rfl
theorem wp_pop  : wpI cl bd rt Q (.pop, len, p, q, r, v) pc L S h u K G = (p1 S fun w s => w.category = 1 ∧ K L s h u) := rfl
theorem wp_dup  : wpI cl bd rt Q (.dup, len, p, q, r, v) pc L S h u K G = (p1 S fun w s => w.category = 1 ∧ K L (w :: w :: s) h u) := rfl
theorem wp_dup2  : wpI cl bd rt Q (.dup2, len, p, q, r, v) pc L S h u K G = (p2 S fun w x s => w.category = 1 ∧ x.category = 1 ∧ K L (w :: x :: w :: x :: s) h u) := rfl
theorem wp_goto (i : Int) : wpI cl bd rt Q (.goto i, len, p, q, r, v) pc L S h u K G = (G p L S h u) := rfl
theorem wp_ifCond (c : ClassFile.Cond) (i : Int) : wpI cl bd rt Q (.ifCond c i, len, p, q, r, v) pc L S h u K G = (i1 S fun x s => (cmpI c x 0 → G p L s h u) ∧ (¬ cmpI c x 0 → K L s h u)) := rfl
theorem wp_if_icmp (c : ClassFile.Cond) (i : Int) : wpI cl bd rt Q (.if_icmp c i, len, p, q, r, v) pc L S h u K G = (i2 S fun x y s => (cmpI c x y → G p L s h u) ∧ (¬ cmpI c x y → K L s h u)) := rfl
theorem wp_ifnull (i : Int) : wpI cl bd rt Q (.ifnull i, len, p, q, r, v) pc L S h u K G = (pA S fun w s => (w = none → G p L s h u) ∧ (w ≠ none → K L s h u)) := rfl
theorem wp_ifnonnull (i : Int) : wpI cl bd rt Q (.ifnonnull i, len, p, q, r, v) pc L S h u K G = (pA S fun w s => (w ≠ none → G p L s h u) ∧ (w = none → K L s h u)) := rfl
theorem wp_tableswitch (d lo hi : Int) (offs : Array Int) : wpI cl bd rt Q (.tableswitch d lo hi offs, len, p, q, r, v) pc L S h u K G = (i1 S fun x s => ((x.toInt < lo ∨ hi < x.toInt) → G ((pc : Int) + d).toNat L s h u) ∧ ∀ (j : Nat) (o : Int), offs[j]? = some o → x.toInt = lo + j → G ((pc : Int) + o).toNat L s h u) := rfl
theorem wp_getfield (i : Nat) : wpI cl bd rt Q (.getfield i, len, p, q, r, v) pc L S h u K G = (r1 S fun a s => isO h a p ∧ if r = 2 then K L (va_rf (hR h p q a) :: s) h u else K L (.int (hI h p q a) :: s) h u) := rfl
theorem wp_putfield (i : Nat) : wpI cl bd rt Q (.putfield i, len, p, q, r, v) pc L S h u K G = (if r = 2 then (pA S fun w t => r1 t fun a s => isO h a p ∧ K L s (sR h p q a w) u) else (i1 S fun x t => r1 t fun a s => isO h a p ∧ (r = 1 → x = 0 ∨ x = 1) ∧ K L s (sI h p q a x) u)) := rfl
theorem wp_arraylength  : wpI cl bd rt Q (.arraylength, len, p, q, r, v) pc L S h u K G = (r1 S fun a s => tyAt h a fun k n => (20 ≤ ak k ∨ k = 40) ∧ n < 2147483648 ∧ K L (.int (iI n) :: s) h u) := rfl
theorem wp_iaload  : wpI cl bd rt Q (.iaload, len, p, q, r, v) pc L S h u K G = (ar h S fun k n a i s => (ak k = 20 ∨ k = 40) ∧ vp_in i n ∧ K L (.int (hI h k i.toNatClampNeg a) :: s) h u) := rfl
theorem wp_baload  : wpI cl bd rt Q (.baload, len, p, q, r, v) pc L S h u K G = (ar h S fun k n a i s => ak k = 21 ∧ vp_in i n ∧ K L (.int (hI h k i.toNatClampNeg a) :: s) h u) := rfl
theorem wp_laload  : wpI cl bd rt Q (.laload, len, p, q, r, v) pc L S h u K G = (ar h S fun k n a i s => ak k = 22 ∧ vp_in i n ∧ K L (.long (hJ h k i.toNatClampNeg a) :: s) h u) := rfl
theorem wp_aaload  : wpI cl bd rt Q (.aaload, len, p, q, r, v) pc L S h u K G = (ar h S fun k n a i s => 23 ≤ ak k ∧ vp_in i n ∧ K L (va_rf (hR h k i.toNatClampNeg a) :: s) h u) := rfl
theorem wp_iastore  : wpI cl bd rt Q (.iastore, len, p, q, r, v) pc L S h u K G = (i1 S fun x t => ar h t fun k n a i s => ak k = 20 ∧ vp_in i n ∧ K L s (sI h k i.toNatClampNeg a x) u) := rfl
theorem wp_bastore  : wpI cl bd rt Q (.bastore, len, p, q, r, v) pc L S h u K G = (i1 S fun x t => ar h t fun k n a i s => ak k = 21 ∧ vp_in i n ∧ (x = 0 ∨ x = 1) ∧ K L s (sI h k i.toNatClampNeg a x) u) := rfl
theorem wp_lastore  : wpI cl bd rt Q (.lastore, len, p, q, r, v) pc L S h u K G = (l1 S fun x t => ar h t fun k n a i s => ak k = 22 ∧ vp_in i n ∧ K L s (sJ h k i.toNatClampNeg a x) u) := rfl
theorem wp_aastore  : wpI cl bd rt Q (.aastore, len, p, q, r, v) pc L S h u K G = (pA S fun w t => ar h t fun k n a i s => (23 ≤ ak k ∧ ak k < 28) ∧ oO h w (kc (ak k)) ∧ vp_in i n ∧ K L s (sR h k i.toNatClampNeg a w) u) := rfl
theorem wp_new (i : Nat) : wpI cl bd rt Q (.new i, len, p, q, r, v) pc L S h u K G = (u.1 + 1 ≤ bd.1 ∧ u.2 + q ≤ bd.2 ∧ ∀ a, hT h a = none → K L (.ref a :: S) (nw h a p q) (u.1 + 1, u.2 + q)) := rfl
theorem wp_newarray (i : ArrayType) : wpI cl bd rt Q (.newarray i, len, p, q, r, v) pc L S h u K G = (i1 S fun n s => ∃ N : Nat, n = iI N ∧ N ≤ 10000 ∧ u.1 + 1 ≤ bd.1 ∧ u.2 + N ≤ bd.2 ∧ ∀ a, hT h a = none → K L (.ref a :: s) (nw h a p N) (u.1 + 1, u.2 + N)) := rfl
theorem wp_anewarray (i : Nat) : wpI cl bd rt Q (.anewarray i, len, p, q, r, v) pc L S h u K G = (i1 S fun n s => ∃ N : Nat, n = iI N ∧ N ≤ 10000 ∧ u.1 + 1 ≤ bd.1 ∧ u.2 + N ≤ bd.2 ∧ ∀ a, hT h a = none → K L (.ref a :: s) (nw h a p N) (u.1 + 1, u.2 + N)) := rfl
theorem wp_multianewarray (i j : Nat) : wpI cl bd rt Q (.multianewarray i j, len, p, q, r, v) pc L S h u K G = (i2 S fun n k s => ∃ N M : Nat, n = iI N ∧ k = iI M ∧ N ≤ 10000 ∧ M ≤ 10000 ∧ u.1 + (1 + N) ≤ bd.1 ∧ u.2 + (N + N * M) ≤ bd.2 ∧ ∀ a, (∀ j, j ≤ N → hT h (a + j) = none) → K L (.ref a :: s) (nw2 h a p q N M) (u.1 + (1 + N), u.2 + (N + N * M))) := rfl
theorem wp_invokevirtual (i : Nat) : wpI cl bd rt Q (.invokevirtual i, len, p, q, r, v) pc L S h u K G = (rcv h S p r ∧ ((S.drop (p + 1)).length ≤ 4 ∨ cw8 (S.drop (p + 1))) ∧ u.1 + (cl q).1 ≤ bd.1 ∧ u.2 + (cl q).2.1 ≤ bd.2 ∧ (cl q).2.2 (S.take (p + 1)).reverse h (fun w h' => K L (w.toList ++ S.drop (p + 1)) h' (u.1 + (cl q).1, u.2 + (cl q).2.1))) := rfl
theorem wp_invokespecial (i : Nat) : wpI cl bd rt Q (.invokespecial i, len, p, q, r, v) pc L S h u K G = (rcr S p ∧ ((S.drop (p + 1)).length ≤ 4 ∨ cw8 (S.drop (p + 1))) ∧ u.1 + (cl q).1 ≤ bd.1 ∧ u.2 + (cl q).2.1 ≤ bd.2 ∧ (cl q).2.2 (S.take (p + 1)).reverse h (fun w h' => K L (w.toList ++ S.drop (p + 1)) h' (u.1 + (cl q).1, u.2 + (cl q).2.1))) := rfl
theorem wp_invokestatic (i : Nat) : wpI cl bd rt Q (.invokestatic i, len, p, q, r, v) pc L S h u K G = (p ≤ S.length ∧ ((S.drop p).length ≤ 4 ∨ cw8 (S.drop p)) ∧ u.1 + (cl q).1 ≤ bd.1 ∧ u.2 + (cl q).2.1 ≤ bd.2 ∧ (cl q).2.2 (S.take p).reverse h (fun w h' => K L (w.toList ++ S.drop p) h' (u.1 + (cl q).1, u.2 + (cl q).2.1))) := rfl
theorem wp_ireturn  : wpI cl bd rt Q (.ireturn, len, p, q, r, v) pc L S h u K G = (i1 S fun x s => s = [] ∧ u.1 ≤ bd.1 ∧ u.2 ≤ bd.2 ∧ (rt = 1 ∨ rt = 2 ∧ (x = 0 ∨ x = 1)) ∧ Q (some (.int x)) h) := rfl
theorem wp_lreturn  : wpI cl bd rt Q (.lreturn, len, p, q, r, v) pc L S h u K G = (l1 S fun x s => s = [] ∧ rt = 3 ∧ u.1 ≤ bd.1 ∧ u.2 ≤ bd.2 ∧ Q (some (.long x)) h) := rfl
theorem wp_areturn  : wpI cl bd rt Q (.areturn, len, p, q, r, v) pc L S h u K G = (pA S fun w s => s = [] ∧ rt = 4 ∧ u.1 ≤ bd.1 ∧ u.2 ≤ bd.2 ∧ Q (some (va_rf w)) h) := rfl
theorem wp_return_  : wpI cl bd rt Q (.return_, len, p, q, r, v) pc L S h u K G = (S = [] ∧ rt = 0 ∧ u.1 ≤ bd.1 ∧ u.2 ≤ bd.2 ∧ Q none h) := rfl
end WPL
-- END WPI
def wpL (cl : Nat → Nat × Nat × Spec) (bd : Nat × Nat) (rt : Nat) (Q : Kt) : List It → Nat → Lc → List Value → hp → Nat × Nat → Gt → Prop
  | [], pc, L, S, h, u, G => G pc L S h u
  | it :: r, pc, L, S, h, u, G => wpI cl bd rt Q it pc L S h u (fun L' S' h' u' => wpL cl bd rt Q r (pc + it.2.1) L' S' h' u' G) G
/-- links of a class: fields, int constants, long constants, classes that are made, kinds of arrays, calls (0 virtual 1 static 2 special) -/
abbrev Rs : Type := List (Nat × Nat × Nat) × List (Nat × Int) × List (Nat × Int) × List (Nat × Nat) × List (Nat × Nat) × List (Nat × Nat × Nat × Nat × Nat)
def fty (c k : Nat) : Nat := match tyC c k with
  | .int => 0
  | .boolean => 1
  | _ => 2
def ckI (rs : Rs) (ini : Bool) (own : Nat) (nL : Nat) (pc : Nat) (it : It) : Bool :=
  let n := it.2.1
  let p := it.2.2.1
  let q := it.2.2.2.1
  let r := it.2.2.2.2.1
  let v := it.2.2.2.2.2
  match it.1 with
  | .iconst i => n == 1 && v == i
  | .bipush i => n == 2 && decide ((Int8.ofInt i).toInt32 = Int32.ofInt v)
  | .sipush i => n == 3 && decide ((Int16.ofInt i).toInt32 = Int32.ofInt v)
  | .ldc i => n == 2 && rs.2.1.contains (i, v)
  | .ldc_w i => n == 3 && rs.2.1.contains (i, v)
  | .ldc2_w i => n == 3 && rs.2.2.1.contains (i, v)
  | .lconst i => n == 1 && decide (Int64.ofNat (i : Nat) = Int64.ofInt v)
  | .iload i | .lload i | .aload i => n == 2 && p == i
  | .iload_n i | .lload_n i | .aload_n i => n == 1 && p == i.val
  | .istore i | .astore i => n == 2 && p == i && decide (i < nL)
  | .lstore i => n == 2 && p == i && decide (i + 1 < nL)
  | .istore_n i | .astore_n i => n == 1 && p == i.val && decide (i.val < nL)
  | .lstore_n i => n == 1 && p == i.val && decide (i.val + 1 < nL)
  | .iinc i k => n == 3 && p == i && v == k && decide (i < nL)
  | .goto o | .ifCond _ o | .if_icmp _ o | .ifnonnull o | .ifnull o => n == 3 && decide ((pc : Int) + o = (p : Int))
  | .tableswitch d lo hi offs => decide (0 ≤ (pc : Int) + d) && offs.all (fun o => decide (0 ≤ (pc : Int) + o)) && decide ((offs.size : Int) = hi - lo + 1)
  | .getfield i => n == 3 && rs.1.contains (i, p, q) && r == fty p q
  | .putfield i => n == 3 && rs.1.contains (i, p, q) && r == fty p q && (!(TC p q).2.2.2 || (ini && p == own))
  | .new i => n == 3 && rs.2.2.2.1.contains (i, p) && q == NC p
  | .newarray t => n == 2 && (match t with | .int => ak p == 20 | .boolean => ak p == 21 | .long => ak p == 22 | _ => false)
  | .anewarray i => n == 3 && rs.2.2.2.2.1.contains (i, ak p) && decide (23 ≤ ak p) && decide (ak p < 28)
  | .multianewarray i d => n == 4 && d == 2 && rs.2.2.2.2.1.contains (i, 28) && ak p == 28 && ak q == 20
  | .invokevirtual i => n == 3 && rs.2.2.2.2.2.contains (0, i, p, q, r)
  | .invokestatic i => n == 3 && rs.2.2.2.2.2.contains (1, i, p, q, r)
  | .invokespecial i => n == 3 && rs.2.2.2.2.2.contains (2, i, p, q, r)
  | _ => n == 1
def ckL (rs : Rs) (ini : Bool) (own : Nat) (nL : Nat) (code : ByteArray) : Nat → List It → Bool
  | _, [] => true
  | pc, it :: r => (match decode code pc with | .ok (j, m) => decide (j = it.1) && m == it.2.1 | _ => false) && ckI rs ini own nL pc it && ckL rs ini own nL code (pc + it.2.1) r
/-- what is closed under the code's steps -/
def Good (cl : Nat → Nat × Nat × Spec) (bd : Nat × Nat) (rt : Nat) (Q : Kt) (blk : Nat → List It) (G : Gt) : Prop :=
  (∀ (pc : Nat) (L : Lc) (S : List Value) (h : hp) (u : Nat × Nat), wpL cl bd rt Q (blk pc) pc L S h u G → G pc L S h u) ∧
  (∀ (pc : Nat) (L L' : Lc) (S : List Value) (h : hp) (u : Nat × Nat), (∀ q ∈ L', q ∈ L) → G pc L' S h u → G pc L S h u)
/-- a method keeps a spec: from its entry, whatever is closed -/
def Pf (cl : Nat → Nat × Nat × Spec) (bd : Nat × Nat) (rt : Nat) (blk : Nat → List It) (sp : Spec) : Prop :=
  ∀ (args : List Value) (h : hp) (Q : Kt), sp args h Q → ∀ G : Gt, Good cl bd rt Q blk G → G 0 (lv_args 0 args) [] h (0, 0)
