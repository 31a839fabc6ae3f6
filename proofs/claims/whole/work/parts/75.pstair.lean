/-! the class's stairs over a prime or 0: their steps are the rank -/
def exZ (p : Int) (l : Nat → Int) : Prop := ∀ k, p ∣ l k → l k = 0
def stp (T : Tt) : (Nat → Int) → Prop := fun v => ∃ j, j < 19 ∧ T.1 j = true ∧ v = T.2 j
def TI (p : Int) (T : Tt) (R : (Nat → Int) → Prop) : Prop := ∀ j, j < 19 → T.1 j = true → Der p 19 R (T.2 j) ∧ (∀ k, k < j → p ∣ T.2 j k) ∧ ¬ p ∣ T.2 j j
theorem tm_dv (p a : Int) : p ∣ a - a.tmod p := by
  have h := Int.tmod_add_mul_tdiv a p
  exact ⟨a.tdiv p, by omega⟩
theorem tm_0 {p a : Int} (h : p ∣ a.tmod p) : a.tmod p = 0 := by
  refine Int.tmod_eq_zero_of_dvd ?_
  have := Int.dvd_add (tm_dv p a) h
  rw [Int.sub_add_cancel] at this
  exact this
theorem tkV_ex {p : Int} {s l : Nat → Int} (h : exZ p l) (at' : Nat) : exZ p (tkV p s l at') := by
  intro k hk
  unfold tkV at hk ⊢
  by_cases c : at' ≤ k
  · rw [if_pos c] at hk ⊢; exact tm_0 hk
  · rw [if_neg c] at hk ⊢; exact h k hk
theorem tkV_rel {p : Int} {s l : Nat → Int} {at' : Nat} (hs : ∀ k, k < at' → p ∣ s k) (hl : ∀ k, k < at' → p ∣ l k) (k : Nat) : p ∣ tkV p s l at' k - (s at' * l k + -(l at') * s k) := by
  unfold tkV
  by_cases c : at' ≤ k
  · rw [if_pos c]
    have q := tm_dv p (l k * s at' - s k * l at')
    have e : (l k * s at' - s k * l at').tmod p - (s at' * l k + -(l at') * s k) = -((l k * s at' - s k * l at') - (l k * s at' - s k * l at').tmod p) := by
      rw [Int.mul_comm (s at') (l k), Int.neg_mul, Int.mul_comm (l at') (s k)]
      omega
    rw [e]
    exact Int.dvd_neg.mpr q
  · rw [if_neg c]
    exact Int.dvd_sub (hl k (by omega)) (Int.dvd_add (Int.dvd_mul_of_dvd_right (hl k (by omega))) (Int.dvd_mul_of_dvd_right (hs k (by omega))))
theorem addL_ok {p : Int} (hp : PZ p) {T : Tt} {R : (Nat → Int) → Prop} (hT : TI p T R) : ∀ (n at' : Nat) (l : Nat → Int), at' + n = 19 → Der p 19 R l → exZ p l → (∀ k, k < at' → p ∣ l k) →
    TI p (addL p T n at' l) R ∧ (∀ j, T.1 j = true → (addL p T n at' l).1 j = true ∧ (addL p T n at' l).2 j = T.2 j) ∧ Der p 19 (stp (addL p T n at' l)) l := by
  intro n
  induction n with
  | zero =>
    intro at' l hn hd he hz
    exact ⟨hT, fun j hj => ⟨hj, rfl⟩, Der.zero (fun k hk => hz k (by omega))⟩
  | succ n ih =>
    intro at' l hn hd he hz
    have e0 : addL p T (n + 1) at' l = if l at' = 0 then addL p T n (at' + 1) l else if T.1 at' = true then addL p T n (at' + 1) (tkV p (T.2 at') l at') else flT T at' l := rfl
    by_cases c : l at' = 0
    · rw [e0, if_pos c]
      refine ih (at' + 1) l (by omega) hd he (fun k hk => ?_)
      by_cases z : k = at'
      · rw [z, c]; exact Int.dvd_zero p
      · exact hz k (by omega)
    · by_cases d : T.1 at' = true
      · rw [e0, if_neg c, if_pos d]
        obtain ⟨t1, t2, t3⟩ := hT at' (by omega) d
        have rel := tkV_rel (p := p) (s := T.2 at') (l := l) t2 hz
        obtain ⟨q1, q2, q3⟩ := ih (at' + 1) (tkV p (T.2 at') l at') (by omega) (Der.comb hd t1 (d := 1) (a := T.2 at' at') (b := -(l at')) hp.1 (fun k _ => by rw [Int.one_mul]; exact rel k)) (tkV_ex he at') (fun k hk => by
          by_cases z : k = at'
          · unfold tkV
            rw [if_pos (by omega), z, Int.mul_comm (l at'), Int.sub_self, Int.zero_tmod]
            exact Int.dvd_zero p
          · unfold tkV
            rw [if_neg (by omega)]
            exact hz k (by omega))
        refine ⟨q1, q2, Der.comb q3 (Der.base ⟨at', by omega, (q2 at' d).1, (q2 at' d).2.symm⟩) (d := T.2 at' at') (a := 1) (b := l at') t3 (fun k _ => ?_)⟩
        have e : T.2 at' at' * l k - (1 * tkV p (T.2 at') l at' k + l at' * T.2 at' k) = -(tkV p (T.2 at') l at' k - (T.2 at' at' * l k + -(l at') * T.2 at' k)) := by
          rw [Int.one_mul, Int.neg_mul]
          omega
        rw [e]
        exact Int.dvd_neg.mpr (rel k)
      · rw [e0, if_neg c, if_neg d]
        have f1 : ∀ j, (flT T at' l).1 j = if j = at' then true else T.1 j := fun _ => rfl
        have f2 : ∀ j, (flT T at' l).2 j = if j = at' then l else T.2 j := fun _ => rfl
        refine ⟨fun j hj hf => ?_, fun j hj => ?_, Der.base ⟨at', by omega, by rw [f1, if_pos rfl], by rw [f2, if_pos rfl]⟩⟩
        · rw [f1] at hf
          rw [f2]
          by_cases z : j = at'
          · rw [if_pos z, z]; exact ⟨hd, hz, fun y => c (he _ y)⟩
          · rw [if_neg z] at hf ⊢; exact hT j hj hf
        · have z : j ≠ at' := fun z => d (by rw [← z]; exact hj)
          rw [f1, f2, if_neg z, if_neg z]; exact ⟨hj, rfl⟩
theorem fold_ok {p : Int} (hp : PZ p) : ∀ (rows : List (Nat → Int)) (T : Tt) (R : (Nat → Int) → Prop), TI p T R → (∀ r, R r → Der p 19 (stp T) r) → (∀ r ∈ rows, exZ p r) → TI p (rows.foldl (addT p) T) (fun v => R v ∨ v ∈ rows) ∧ ∀ v, (R v ∨ v ∈ rows) → Der p 19 (stp (rows.foldl (addT p) T)) v := by
  intro rows
  induction rows with
  | nil =>
    intro T R hT hR _
    refine ⟨fun j hj hf => ?_, fun v hv => hv.elim (hR v) (fun z => absurd z List.not_mem_nil)⟩
    obtain ⟨a, b, c⟩ := hT j hj hf
    exact ⟨a.mono (fun v hv => Der.base (Or.inl hv)), b, c⟩
  | cons r rows ih =>
    intro T R hT hR he
    have hT1 : TI p T (fun v => R v ∨ v = r) := fun j hj hf => by
      obtain ⟨a, b, c⟩ := hT j hj hf
      exact ⟨a.mono (fun v hv => Der.base (Or.inl hv)), b, c⟩
    obtain ⟨q1, q2, q3⟩ := addL_ok hp hT1 19 0 r (by omega) (Der.base (Or.inr rfl)) (he r (List.mem_cons_self ..)) (fun k hk => absurd hk (Nat.not_lt_zero _))
    have sub : ∀ v, stp T v → Der p 19 (stp (addT p T r)) v := fun v hv => by
      obtain ⟨j, h1, h2, h3⟩ := hv
      exact Der.base ⟨j, h1, (q2 j h2).1, by rw [h3]; exact (q2 j h2).2.symm⟩
    obtain ⟨k1, k2⟩ := ih (addT p T r) (fun v => R v ∨ v = r) q1 (fun v hv => hv.elim (fun z => (hR v z).mono sub) (fun z => by rw [z]; exact q3)) (fun y hy => he y (List.mem_cons_of_mem _ hy))
    refine ⟨fun j hj hf => ?_, fun v hv => k2 v ?_⟩
    · obtain ⟨a, b, c⟩ := k1 j hj hf
      refine ⟨a.mono (fun v hv => Der.base ?_), b, c⟩
      rcases hv with (z | z) | z
      · exact Or.inl z
      · exact Or.inr (by rw [z]; exact List.mem_cons_self ..)
      · exact Or.inr (List.mem_cons_of_mem _ z)
    · rcases hv with z | z
      · exact Or.inl (Or.inl z)
      · rcases List.mem_cons.mp z with z | z
        · exact Or.inl (Or.inr z)
        · exact Or.inr z
def sgP (p : Int) (rows : List (Nat → Int)) : Tt := rows.foldl (addT p) T0
/-- the steps below C -/
def skP (p : Int) (C : Nat) (rows : List (Nat → Int)) : Nat := cntN (sgP p rows).1 C
theorem sg_ok {p : Int} (hp : PZ p) {rows : List (Nat → Int)} (he : ∀ r ∈ rows, exZ p r) : TI p (sgP p rows) (fun v => v ∈ rows) ∧ ∀ v ∈ rows, Der p 19 (stp (sgP p rows)) v := by
  obtain ⟨a, b⟩ := fold_ok hp rows T0 (fun _ => False) (fun j _ hf => by cases hf) (fun r hr => hr.elim) he
  refine ⟨fun j hj hf => ?_, fun v hv => b v (Or.inr hv)⟩
  obtain ⟨k1, k2, k3⟩ := a j hj hf
  exact ⟨k1.mono (fun v hv => Der.base (hv.resolve_left id)), k2, k3⟩
theorem flt_len (P : Nat → Bool) (n : Nat) : ((List.range n).filter P).length = cntN P n := by
  induction n with
  | zero => rfl
  | succ n ih =>
    rw [List.range_succ, List.filter_append, List.length_append, ih, cntN_s]
    by_cases c : P n = true
    · rw [if_pos c, List.filter_cons_of_pos c]; rfl
    · rw [if_neg c, List.filter_cons_of_neg c]; rfl
theorem sk_ge {p : Int} (hp : PZ p) {C : Nat} (hC : C ≤ 19) {rows : List (Nat → Int)} (he : ∀ r ∈ rows, exZ p r) : ∃ rs : List (Nat → Int), (∀ r ∈ rs, r ∈ rows) ∧ rs.length = skP p C rows ∧ ¬ p ∣ Dt rs ((List.range C).filter (sgP p rows).1) := by
  obtain ⟨hT, -⟩ := sg_ok hp he
  have mem : ∀ j ∈ (List.range C).filter (sgP p rows).1, j < C ∧ (sgP p rows).1 j = true := fun j hj => by
    have := List.mem_filter.mp hj
    exact ⟨List.mem_range.mp this.1, this.2⟩
  obtain ⟨rs, h1, h2, h3⟩ := Der_ge hp (C := C) (R := fun v => v ∈ rows) (js := (List.range C).filter (sgP p rows).1) (g := (sgP p rows).2) (fun j hj => (mem j hj).1) (List.Pairwise.filter _ List.pairwise_lt_range) (fun j hj => (hT j (by have := (mem j hj).1; omega) (mem j hj).2).2.2) (fun j hj => (hT j (by have := (mem j hj).1; omega) (mem j hj).2).2.1) (fun j hj => ((hT j (by have := (mem j hj).1; omega) (mem j hj).2).1).less hC)
  exact ⟨rs, h1, by rw [h2, flt_len]; rfl, h3⟩
/-- the row with the first piece's places again -/
def exR (v : Nat → Int) : Nat → Int := fun k => if k < 3 then -(v k + v (k + 3) + v (k + 6) + v (k + 9) + v (k + 12) + v (k + 15)) else v (k - 3)
theorem exR_rel {p d a b : Int} {C : Nat} (hC : 18 ≤ C) {v r s : Nat → Int} (h : ∀ k, k < C → p ∣ d * v k - (a * r k + b * s k)) : ∀ k, k < C + 3 → p ∣ d * exR v k - (a * exR r k + b * exR s k) := by
  intro k hk
  unfold exR
  by_cases c : k < 3
  · rw [if_pos c, if_pos c, if_pos c]
    have q := Int.dvd_neg.mpr (Int.dvd_add (Int.dvd_add (Int.dvd_add (Int.dvd_add (Int.dvd_add (h k (by omega)) (h (k + 3) (by omega))) (h (k + 6) (by omega))) (h (k + 9) (by omega))) (h (k + 12) (by omega))) (h (k + 15) (by omega)))
    have e : d * -(v k + v (k + 3) + v (k + 6) + v (k + 9) + v (k + 12) + v (k + 15)) - (a * -(r k + r (k + 3) + r (k + 6) + r (k + 9) + r (k + 12) + r (k + 15)) + b * -(s k + s (k + 3) + s (k + 6) + s (k + 9) + s (k + 12) + s (k + 15))) = -(d * v k - (a * r k + b * s k) + (d * v (k + 3) - (a * r (k + 3) + b * s (k + 3))) + (d * v (k + 6) - (a * r (k + 6) + b * s (k + 6))) + (d * v (k + 9) - (a * r (k + 9) + b * s (k + 9))) + (d * v (k + 12) - (a * r (k + 12) + b * s (k + 12))) + (d * v (k + 15) - (a * r (k + 15) + b * s (k + 15)))) := by
      simp only [Int.mul_neg, Int.mul_add]
      omega
    rw [e]
    exact q
  · rw [if_neg c, if_neg c, if_neg c]
    exact h (k - 3) (by omega)
theorem exR_z {p : Int} {C : Nat} (hC : 18 ≤ C) {v : Nat → Int} (h : ∀ k, k < C → p ∣ v k) : ∀ k, k < C + 3 → p ∣ exR v k := by
  intro k hk
  unfold exR
  by_cases c : k < 3
  · rw [if_pos c]
    exact Int.dvd_neg.mpr (Int.dvd_add (Int.dvd_add (Int.dvd_add (Int.dvd_add (Int.dvd_add (h k (by omega)) (h (k + 3) (by omega))) (h (k + 6) (by omega))) (h (k + 9) (by omega))) (h (k + 12) (by omega))) (h (k + 15) (by omega)))
  · rw [if_neg c]
    exact h (k - 3) (by omega)
theorem Der_ex {p : Int} {C : Nat} (hC : 18 ≤ C) {R R' : (Nat → Int) → Prop} (hR : ∀ v, R v → Der p (C + 3) R' (exR v)) {v : Nat → Int} (d : Der p C R v) : Der p (C + 3) R' (exR v) :=
  d (fun v => Der p (C + 3) R' (exR v)) hR (fun _ h => Der.zero (exR_z hC h)) (fun _ _ _ _ _ _ i1 i2 h3 h4 => Der.comb i1 i2 h3 (exR_rel hC h4))
theorem sk_le {p : Int} (hp : PZ p) {C : Nat} (hC : 18 ≤ C ∧ C ≤ 19) {rows : List (Nat → Int)} (he : ∀ r ∈ rows, exZ p r) {rs : List (Nat → Int)} (hr : ∀ r ∈ rs, r ∈ rows.map exR) {cs : List Nat} (hc : lc (C + 3) cs) (hd : ¬ p ∣ Dt rs cs) : rs.length ≤ skP p C rows := by
  obtain ⟨hT, hS⟩ := sg_ok hp he
  refine Der_le hp (C := C + 3) (P := (sgP p rows).1) (N := C) (g := fun j => exR ((sgP p rows).2 j)) (fun r hr' => ?_) hc hd
  obtain ⟨v, hv, rfl⟩ := List.mem_map.mp (hr r hr')
  refine Der_ex hC.1 (fun u hu => ?_) ((hS v hv).less hC.2)
  obtain ⟨j, j1, j2, j3⟩ := hu
  by_cases c : j < C
  · exact Der.base ⟨j, c, j2, by rw [j3]⟩
  · exact Der.zero (exR_z hC.1 (fun k hk => by rw [j3]; exact (hT j j1 j2).2.1 k (by omega)))
theorem Wd_map {r : Nat → Int} {e : Nat → Int} {s : Nat → Nat} (h : ∀ c, e (s c) = r c) : ∀ (cs : List Nat) (f g : List Nat → Int), (∀ t, f (t.map s) = g t) → Wd e f (cs.map s) = Wd r g cs := by
  intro cs
  induction cs with
  | nil => exact fun _ _ _ => rfl
  | cons c cs ih =>
    intro f g hf
    rw [List.map_cons, Wd_c, Wd_c, h, hf, ih (fun t => f (s c :: t)) (fun t => g (c :: t)) (fun t => hf (c :: t))]
theorem Dt_map {e : (Nat → Int) → (Nat → Int)} {s : Nat → Nat} (h : ∀ r c, e r (s c) = r c) : ∀ (rs : List (Nat → Int)) (cs : List Nat), Dt (rs.map e) (cs.map s) = Dt rs cs := by
  intro rs
  induction rs with
  | nil => intro cs; cases cs <;> rfl
  | cons r rs ih => intro cs; exact Wd_map (h r) cs _ _ ih
theorem exR_3 (r : Nat → Int) (c : Nat) : exR r (c + 3) = r c := by
  unfold exR
  rw [if_neg (by omega)]
  rfl
theorem sk_le' {p : Int} (hp : PZ p) {C : Nat} (hC : 18 ≤ C ∧ C ≤ 19) {rows : List (Nat → Int)} (he : ∀ r ∈ rows, exZ p r) {rs : List (Nat → Int)} (hr : ∀ r ∈ rs, r ∈ rows) {cs : List Nat} (hc : lc C cs) (hd : ¬ p ∣ Dt rs cs) : rs.length ≤ skP p C rows := by
  have q := sk_le hp hC he (rs := rs.map exR) (cs := cs.map (· + 3)) (fun r hr' => by
    obtain ⟨v, hv, rfl⟩ := List.mem_map.mp hr'
    exact List.mem_map_of_mem (hr v hv)) (fun c hc' => by
    obtain ⟨x, hx, rfl⟩ := List.mem_map.mp hc'
    have := hc x hx
    show x + 3 < C + 3
    omega) (by rw [Dt_map exR_3]; exact hd)
  rw [List.length_map] at q
  exact q
