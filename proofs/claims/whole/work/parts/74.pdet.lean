/-! determinants by rows: W r f cs = sum over the places of cs, with signs -/
def Wd (r : Nat → Int) (f : List Nat → Int) : List Nat → Int
  | [] => 0
  | c :: cs => r c * f cs - Wd r (fun t => f (c :: t)) cs
def Dt : List (Nat → Int) → List Nat → Int
  | [] => fun cs => if cs.isEmpty = true then 1 else 0
  | r :: rs => Wd r (Dt rs)
theorem Wd_c (r : Nat → Int) (f : List Nat → Int) (c : Nat) (cs : List Nat) : Wd r f (c :: cs) = r c * f cs - Wd r (fun t => f (c :: t)) cs := rfl
/-- all places below C -/
abbrev lc (C : Nat) (cs : List Nat) : Prop := ∀ c ∈ cs, c < C
theorem dv_lin {p a b : Int} (x : Int) (h1 : p ∣ a) (h2 : p ∣ b) : p ∣ x * a - b := Int.dvd_sub (Int.dvd_mul_of_dvd_right h1) h2
theorem Wd_lin {p d a b : Int} {C : Nat} (x : Nat → Int) : ∀ (cs : List Nat) (f g h : List Nat → Int), lc C cs → (∀ t, lc C t → p ∣ d * f t - (a * g t + b * h t)) → p ∣ d * Wd x f cs - (a * Wd x g cs + b * Wd x h cs) := by
  intro cs
  induction cs with
  | nil => intro f g h _ _; show p ∣ d * 0 - (a * 0 + b * 0); simp
  | cons c cs ih =>
    intro f g h hc hf
    have hc1 : c < C := hc c (List.mem_cons_self ..)
    have hc2 : lc C cs := fun y hy => hc y (List.mem_cons_of_mem _ hy)
    rw [Wd_c, Wd_c, Wd_c]
    have k1 := hf cs hc2
    have k2 := ih (fun t => f (c :: t)) (fun t => g (c :: t)) (fun t => h (c :: t)) hc2 (fun t ht => hf (c :: t) (fun y hy => by
      rcases List.mem_cons.mp hy with z | z
      · rw [z]; exact hc1
      · exact ht y z))
    have e : d * (x c * f cs - Wd x (fun t => f (c :: t)) cs) - (a * (x c * g cs - Wd x (fun t => g (c :: t)) cs) + b * (x c * h cs - Wd x (fun t => h (c :: t)) cs)) = x c * (d * f cs - (a * g cs + b * h cs)) - (d * Wd x (fun t => f (c :: t)) cs - (a * Wd x (fun t => g (c :: t)) cs + b * Wd x (fun t => h (c :: t)) cs)) := by
      simp only [Int.mul_sub, Int.mul_add, Int.mul_left_comm (x c)]
      omega
    rw [e]
    exact dv_lin _ k1 k2
theorem Wd_row {p d a b : Int} {C : Nat} {v r s : Nat → Int} (hv : ∀ k, k < C → p ∣ d * v k - (a * r k + b * s k)) : ∀ (cs : List Nat) (f : List Nat → Int), lc C cs → p ∣ d * Wd v f cs - (a * Wd r f cs + b * Wd s f cs) := by
  intro cs
  induction cs with
  | nil => intro f _; show p ∣ d * 0 - (a * 0 + b * 0); simp
  | cons c cs ih =>
    intro f hc
    have hc1 : c < C := hc c (List.mem_cons_self ..)
    have hc2 : lc C cs := fun y hy => hc y (List.mem_cons_of_mem _ hy)
    rw [Wd_c, Wd_c, Wd_c]
    have k1 := hv c hc1
    have k2 := ih (fun t => f (c :: t)) hc2
    have e : d * (v c * f cs - Wd v (fun t => f (c :: t)) cs) - (a * (r c * f cs - Wd r (fun t => f (c :: t)) cs) + b * (s c * f cs - Wd s (fun t => f (c :: t)) cs)) = f cs * (d * v c - (a * r c + b * s c)) - (d * Wd v (fun t => f (c :: t)) cs - (a * Wd r (fun t => f (c :: t)) cs + b * Wd s (fun t => f (c :: t)) cs)) := by
      simp only [Int.mul_sub, Int.mul_add, Int.mul_left_comm (f cs)]
      rw [Int.mul_comm (f cs) (v c), Int.mul_comm (f cs) (r c), Int.mul_comm (f cs) (s c)]
      omega
    rw [e]
    exact dv_lin _ k1 k2
theorem Dt_lin {p d a b : Int} {C : Nat} {v r s : Nat → Int} (hv : ∀ k, k < C → p ∣ d * v k - (a * r k + b * s k)) (post : List (Nat → Int)) : ∀ (pre : List (Nat → Int)) (cs : List Nat), lc C cs → p ∣ d * Dt (pre ++ v :: post) cs - (a * Dt (pre ++ r :: post) cs + b * Dt (pre ++ s :: post) cs) := by
  intro pre
  induction pre with
  | nil => intro cs hc; exact Wd_row hv cs (Dt post) hc
  | cons x pre ih => intro cs hc; exact Wd_lin x cs _ _ _ hc ih
theorem Wd_zero {p : Int} {C : Nat} (x : Nat → Int) : ∀ (cs : List Nat) (f : List Nat → Int), lc C cs → (∀ t, lc C t → p ∣ f t) → p ∣ Wd x f cs := by
  intro cs
  induction cs with
  | nil => intro f _ _; exact Int.dvd_zero p
  | cons c cs ih =>
    intro f hc hf
    have hc2 : lc C cs := fun y hy => hc y (List.mem_cons_of_mem _ hy)
    rw [Wd_c]
    refine dv_lin _ (hf cs hc2) (ih _ hc2 (fun t ht => hf (c :: t) (fun y hy => ?_)))
    rcases List.mem_cons.mp hy with z | z
    · rw [z]; exact hc c (List.mem_cons_self ..)
    · exact ht y z
theorem Dt_z {p : Int} {C : Nat} {v : Nat → Int} (hv : ∀ k, k < C → p ∣ v k) (post : List (Nat → Int)) : ∀ (pre : List (Nat → Int)) (cs : List Nat), lc C cs → p ∣ Dt (pre ++ v :: post) cs := by
  intro pre
  induction pre with
  | nil =>
    intro cs
    show lc C cs → p ∣ Wd v (Dt post) cs
    generalize Dt post = f
    induction cs generalizing f with
    | nil => intro _; exact Int.dvd_zero p
    | cons c cs ih =>
      intro hc
      rw [Wd_c, Int.mul_comm]
      exact dv_lin _ (hv c (hc c (List.mem_cons_self ..))) (ih _ (fun y hy => hc y (List.mem_cons_of_mem _ hy)))
  | cons x pre ih => intro cs hc; exact Wd_zero x cs _ hc ih
theorem Wd_sub (x : Nat → Int) (a : Int) : ∀ (cs : List Nat) (f g : List Nat → Int), Wd x (fun t => a * f t - g t) cs = a * Wd x f cs - Wd x g cs := by
  intro cs
  induction cs with
  | nil => intro f g; show (0 : Int) = a * 0 - 0; simp
  | cons c cs ih =>
    intro f g
    rw [Wd_c, Wd_c, Wd_c, ih (fun t => f (c :: t)) (fun t => g (c :: t))]
    simp only [Int.mul_sub, Int.mul_left_comm (x c)]
    omega
theorem Wd_anti (x y : Nat → Int) : ∀ (cs : List Nat) (f : List Nat → Int), Wd x (Wd y f) cs = - Wd y (Wd x f) cs := by
  intro cs
  induction cs with
  | nil => intro f; rfl
  | cons c cs ih =>
    intro f
    have e : ∀ u z : Nat → Int, Wd u (Wd z f) (c :: cs) = u c * Wd z f cs - (z c * Wd u f cs - Wd u (Wd z (fun t => f (c :: t))) cs) := by
      intro u z
      rw [Wd_c]
      have e2 : (fun t => Wd z f (c :: t)) = fun t => z c * f t - Wd z (fun s => f (c :: s)) t := rfl
      rw [e2, Wd_sub]
    rw [e x y, e y x, ih]
    omega
theorem Wd_same (x : Nat → Int) (cs : List Nat) (f : List Nat → Int) : Wd x (Wd x f) cs = 0 := by
  have := Wd_anti x x cs f
  omega
theorem Wd_z0 (x : Nat → Int) {f : List Nat → Int} (h : ∀ t, f t = 0) : ∀ cs, Wd x f cs = 0 := by
  intro cs
  induction cs generalizing f with
  | nil => rfl
  | cons c cs ih => rw [Wd_c, h, ih (fun t => h (c :: t))]; simp
theorem Dt_alt (x : Nat → Int) (post : List (Nat → Int)) : ∀ (mid : List (Nat → Int)) (cs : List Nat), Dt (x :: (mid ++ x :: post)) cs = 0 := by
  intro mid
  induction mid with
  | nil => intro cs; exact Wd_same x cs (Dt post)
  | cons y mid ih =>
    intro cs
    show Wd x (Wd y (Dt (mid ++ x :: post))) cs = 0
    rw [Wd_anti]
    have : ∀ t, Wd x (Dt (mid ++ x :: post)) t = 0 := ih
    rw [Wd_z0 y this]
    rfl
theorem Dt_dup (x : Nat → Int) (mid post : List (Nat → Int)) : ∀ (pre : List (Nat → Int)) (cs : List Nat), Dt (pre ++ x :: (mid ++ x :: post)) cs = 0 := by
  intro pre
  induction pre with
  | nil => exact Dt_alt x post mid
  | cons y pre ih => intro cs; exact Wd_z0 y ih cs
/-- a place where all rows vanish -/
theorem Dt_col {p : Int} (c : Nat) : ∀ (rs : List (Nat → Int)), (∀ r ∈ rs, p ∣ r c) → ∀ t, p ∣ Dt rs (c :: t) := by
  intro rs
  induction rs with
  | nil => intro _ t; exact Int.dvd_zero p
  | cons r rs ih =>
    intro h t
    show p ∣ Wd r (Dt rs) (c :: t)
    rw [Wd_c, Int.mul_comm]
    refine dv_lin _ (h r (List.mem_cons_self ..)) ?_
    have k := ih (fun y hy => h y (List.mem_cons_of_mem _ hy))
    have : ∀ (cs : List Nat) (f : List Nat → Int), (∀ t, p ∣ f t) → p ∣ Wd r f cs := by
      intro cs
      induction cs with
      | nil => intro f _; exact Int.dvd_zero p
      | cons c' cs ih' => intro f hf; rw [Wd_c]; exact dv_lin _ (hf _) (ih' _ (fun t => hf _))
    exact this t _ k
/-- p is prime or 0 -/
def PZ (p : Int) : Prop := ¬ p ∣ 1 ∧ ∀ a b : Int, p ∣ a * b → p ∣ a ∨ p ∣ b
/-- rows in stairs: the row of the first place is not 0 there, the later rows are -/
theorem Dt_tri {p : Int} (hp : PZ p) (g : Nat → (Nat → Int)) : ∀ js : List Nat, js.Pairwise (· < ·) → (∀ j ∈ js, ¬ p ∣ g j j) → (∀ j ∈ js, ∀ k, k < j → p ∣ g j k) → ¬ p ∣ Dt (js.map g) js := by
  intro js
  induction js with
  | nil => intro _ _ _; exact hp.1
  | cons j js ih =>
    intro h1 h2 h3 h
    obtain ⟨q1, q2⟩ := List.pairwise_cons.mp h1
    have e : Dt ((j :: js).map g) (j :: js) = g j j * Dt (js.map g) js - Wd (g j) (fun t => Dt (js.map g) (j :: t)) js := rfl
    rw [e] at h
    have hz : p ∣ Wd (g j) (fun t => Dt (js.map g) (j :: t)) js := by
      have kz := Dt_col (p := p) j (js.map g) (fun r hr => by
        obtain ⟨i, hi, rfl⟩ := List.mem_map.mp hr
        exact h3 i (List.mem_cons_of_mem _ hi) j (q1 i hi))
      have : ∀ (cs : List Nat) (f : List Nat → Int), (∀ t, p ∣ f t) → p ∣ Wd (g j) f cs := by
        intro cs
        induction cs with
        | nil => intro f _; exact Int.dvd_zero p
        | cons c' cs ih' => intro f hf; rw [Wd_c]; exact dv_lin _ (hf _) (ih' _ (fun t => hf _))
      exact this js _ kz
    have h4 : p ∣ g j j * Dt (js.map g) js := by
      have := Int.dvd_add h hz
      rw [Int.sub_add_cancel] at this
      exact this
    rcases hp.2 _ _ h4 with z | z
    · exact h2 j (List.mem_cons_self ..) z
    · exact ih q2 (fun i hi => h2 i (List.mem_cons_of_mem _ hi)) (fun i hi => h3 i (List.mem_cons_of_mem _ hi)) z
/-- derived rows: what can be had from the rows of R, places below C, mod p -/
def Der (p : Int) (C : Nat) (R : (Nat → Int) → Prop) (v : Nat → Int) : Prop := ∀ S : (Nat → Int) → Prop, (∀ u, R u → S u) → (∀ u : Nat → Int, (∀ k, k < C → p ∣ u k) → S u) → (∀ (u r s : Nat → Int) (d a b : Int), S r → S s → ¬ p ∣ d → (∀ k, k < C → p ∣ d * u k - (a * r k + b * s k)) → S u) → S v
theorem Der.base {p : Int} {C : Nat} {R : (Nat → Int) → Prop} {v : Nat → Int} (h : R v) : Der p C R v := fun _ h1 _ _ => h1 v h
theorem Der.zero {p : Int} {C : Nat} {R : (Nat → Int) → Prop} {v : Nat → Int} (h : ∀ k, k < C → p ∣ v k) : Der p C R v := fun _ _ h2 _ => h2 v h
theorem Der.comb {p : Int} {C : Nat} {R : (Nat → Int) → Prop} {v r s : Nat → Int} {d a b : Int} (x : Der p C R r) (y : Der p C R s) (hd : ¬ p ∣ d) (h : ∀ k, k < C → p ∣ d * v k - (a * r k + b * s k)) : Der p C R v := fun S h1 h2 h3 => h3 v r s d a b (x S h1 h2 h3) (y S h1 h2 h3) hd h
theorem Der.mono {p : Int} {C : Nat} {R R' : (Nat → Int) → Prop} (h : ∀ v, R v → Der p C R' v) {v : Nat → Int} (d : Der p C R v) : Der p C R' v := d _ h (fun _ h1 => Der.zero h1) (fun _ _ _ _ _ _ i1 i2 h3 h4 => Der.comb i1 i2 h3 h4)
theorem Der.less {p : Int} {C C' : Nat} (hC : C' ≤ C) {R : (Nat → Int) → Prop} {v : Nat → Int} (d : Der p C R v) : Der p C' R v :=
  d _ (fun _ h1 => Der.base h1) (fun _ h1 => Der.zero (fun k hk => h1 k (by omega))) (fun _ _ _ _ _ _ i1 i2 h3 h4 => Der.comb i1 i2 h3 (fun k hk => h4 k (by omega)))
theorem Der_in {p : Int} (hp : PZ p) {C : Nat} {R : (Nat → Int) → Prop} {cs : List Nat} (hc : lc C cs) (pre post : List (Nat → Int)) (h : ∀ r, R r → p ∣ Dt (pre ++ r :: post) cs) {v : Nat → Int} (d : Der p C R v) : p ∣ Dt (pre ++ v :: post) cs := by
  refine d (fun v => p ∣ Dt (pre ++ v :: post) cs) h (fun u h1 => Dt_z h1 post pre cs hc) (fun u r s d a b i1 i2 h3 h4 => ?_)
  have k := Dt_lin h4 post pre cs hc
  have fin : ∀ {x a y b z : Int}, p ∣ y → p ∣ z → p ∣ x - (a * y + b * z) → p ∣ x := by
    intro x a y b z hy hz hx
    have k2 := Int.dvd_add hx (Int.dvd_add (Int.dvd_mul_of_dvd_right (b := a) hy) (Int.dvd_mul_of_dvd_right (b := b) hz))
    rw [Int.sub_add_cancel] at k2
    exact k2
  exact (hp.2 _ _ (fin i1 i2 k)).resolve_left h3
theorem Der_all {p : Int} (hp : PZ p) {C : Nat} {R : (Nat → Int) → Prop} {cs : List Nat} (hc : lc C cs) {m : Nat} (h : ∀ rs : List (Nat → Int), (∀ r ∈ rs, R r) → rs.length = m → p ∣ Dt rs cs) : ∀ (post pre : List (Nat → Int)), (∀ r ∈ pre, R r) → (∀ r ∈ post, Der p C R r) → pre.length + post.length = m → p ∣ Dt (pre ++ post) cs := by
  intro post
  induction post with
  | nil => intro pre h1 _ h3; rw [List.append_nil]; exact h pre h1 h3
  | cons v post ih =>
    intro pre h1 h2 h3
    refine Der_in hp hc pre post (fun r hr => ?_) (h2 v (List.mem_cons_self ..))
    have := ih (pre ++ [r]) (fun y hy => by
      rcases List.mem_append.mp hy with z | z
      · exact h1 y z
      · rw [List.mem_singleton.mp z]; exact hr) (fun y hy => h2 y (List.mem_cons_of_mem _ hy)) (by rw [List.length_append]; simp only [List.length_cons, List.length_nil] at h3 ⊢; omega)
    rw [List.append_assoc] at this
    exact this
/-- a list of numbers, all kept by P and below N, longer than there are such numbers, has one twice -/
theorem pigeon (P : Nat → Bool) : ∀ (N : Nat) (js : List Nat), (∀ j ∈ js, j < N ∧ P j = true) → cntN P N < js.length → ∃ pre x mid post, js = pre ++ x :: (mid ++ x :: post) := by
  intro N
  induction N with
  | zero =>
    intro js h hl
    cases js with
    | nil => exact absurd hl (Nat.lt_irrefl _)
    | cons j js => exact absurd (h j (List.mem_cons_self ..)).1 (Nat.not_lt_zero _)
  | succ N ih =>
    intro js h hl
    by_cases c : N ∈ js
    · obtain ⟨a, b, rfl⟩ := List.append_of_mem c
      by_cases d : N ∈ b
      · obtain ⟨m, q, rfl⟩ := List.append_of_mem d
        exact ⟨a, N, m, q, rfl⟩
      · by_cases e : N ∈ a
        · obtain ⟨m, q, rfl⟩ := List.append_of_mem e
          refine ⟨m, N, q, b, ?_⟩
          rw [List.append_assoc]
          rfl
        · have hP := (h N c).2
          rw [cntN_s, if_pos hP] at hl
          obtain ⟨pre, x, mid, post, hx⟩ := ih (a ++ b) (fun j hj => by
            have hne : j ≠ N := fun z => by
              rw [z] at hj
              exact (List.mem_append.mp hj).elim e d
            have := h j (by
              rcases List.mem_append.mp hj with z | z
              · exact List.mem_append_left _ z
              · exact List.mem_append_right _ (List.mem_cons_of_mem _ z))
            exact ⟨by omega, this.2⟩) (by
            rw [List.length_append] at hl ⊢
            simp only [List.length_cons] at hl
            omega)
          -- put N back
          have key : ∀ (a : List Nat) (b pre : List Nat) (mid post : List Nat), a ++ b = pre ++ x :: (mid ++ x :: post) → ∃ pre' mid' post', a ++ N :: b = pre' ++ x :: (mid' ++ x :: post') := by
            intro a
            induction a with
            | nil => intro b pre mid post hb; exact ⟨N :: pre, mid, post, by rw [List.nil_append] at hb ⊢; rw [hb]; rfl⟩
            | cons y a ia =>
              intro b pre mid post hb
              cases pre with
              | nil =>
                injection hb with hy hb
                have k2 : ∀ (a : List Nat) (b mid post : List Nat), a ++ b = mid ++ x :: post → ∃ mid' post', a ++ N :: b = mid' ++ x :: post' := by
                  intro a
                  induction a with
                  | nil => intro b mid post hb; exact ⟨N :: mid, post, by rw [List.nil_append] at hb ⊢; rw [hb]; rfl⟩
                  | cons z a ia2 =>
                    intro b mid post hb
                    cases mid with
                    | nil =>
                      injection hb with hz hb
                      exact ⟨[], a ++ N :: b, by rw [hz]; rfl⟩
                    | cons z' mid =>
                      injection hb with hz hb
                      obtain ⟨m', p', hh⟩ := ia2 b mid post hb
                      exact ⟨z' :: m', p', by rw [hz]; show z' :: (a ++ N :: b) = _; rw [hh]; rfl⟩
                obtain ⟨m', p', hh⟩ := k2 a b mid post hb
                exact ⟨[], m', p', by rw [hy]; show x :: (a ++ N :: b) = _; rw [hh]; rfl⟩
              | cons y' pre =>
                injection hb with hy hb
                obtain ⟨p1, m', p', hh⟩ := ia b pre mid post hb
                exact ⟨y' :: p1, m', p', by rw [hy]; show y' :: (a ++ N :: b) = _; rw [hh]; rfl⟩
          obtain ⟨p1, m', p', hh⟩ := key a b pre mid post hx
          exact ⟨p1, x, m', p', hh⟩
    · refine ih js (fun j hj => ?_) (by rw [cntN_s] at hl; omega)
      have hne : j ≠ N := fun z => c (by rw [← z]; exact hj)
      have := h j hj
      exact ⟨by omega, this.2⟩
/-- no minor is larger than there are rows to derive from -/
theorem Der_le {p : Int} (hp : PZ p) {C : Nat} {P : Nat → Bool} {N : Nat} {g : Nat → (Nat → Int)} {rs : List (Nat → Int)} (h : ∀ r ∈ rs, Der p C (fun v => ∃ j, j < N ∧ P j = true ∧ v = g j) r) {cs : List Nat} (hc : lc C cs) (hd : ¬ p ∣ Dt rs cs) : rs.length ≤ cntN P N := by
  by_cases c : rs.length ≤ cntN P N
  · exact c
  · exfalso
    refine hd (Der_all hp hc (m := rs.length) (fun rs' h' hl => ?_) rs [] (fun r hr => absurd hr List.not_mem_nil) h (by simp))
    have ex : ∃ js : List Nat, (∀ j ∈ js, j < N ∧ P j = true) ∧ rs' = js.map g := by
      clear hl
      induction rs' with
      | nil => exact ⟨[], fun j hj => absurd hj List.not_mem_nil, rfl⟩
      | cons v rs' ih =>
        obtain ⟨js, h1, h2⟩ := ih (fun r hr => h' r (List.mem_cons_of_mem _ hr))
        obtain ⟨j, j1, j2, j3⟩ := h' v (List.mem_cons_self ..)
        exact ⟨j :: js, fun i hi => by
          rcases List.mem_cons.mp hi with z | z
          · rw [z]; exact ⟨j1, j2⟩
          · exact h1 i z, by rw [h2, j3]; rfl⟩
    obtain ⟨js, h1, h2⟩ := ex
    obtain ⟨pre, x, mid, post, hx⟩ := pigeon P N js h1 (by rw [h2, List.length_map] at hl; omega)
    rw [h2, hx]
    have e : (pre ++ x :: (mid ++ x :: post)).map g = pre.map g ++ g x :: (mid.map g ++ g x :: post.map g) := by simp
    rw [e, Dt_dup]
    exact Int.dvd_zero p
/-- some minor of the rows is as large as the stairs have steps -/
theorem Der_ge {p : Int} (hp : PZ p) {C : Nat} {R : (Nat → Int) → Prop} {js : List Nat} (hj : lc C js) (h1 : js.Pairwise (· < ·)) {g : Nat → (Nat → Int)} (h2 : ∀ j ∈ js, ¬ p ∣ g j j) (h3 : ∀ j ∈ js, ∀ k, k < j → p ∣ g j k) (h4 : ∀ j ∈ js, Der p C R (g j)) : ∃ rs : List (Nat → Int), (∀ r ∈ rs, R r) ∧ rs.length = js.length ∧ ¬ p ∣ Dt rs js := by
  refine Classical.byContradiction (fun hn => ?_)
  refine Dt_tri hp g js h1 h2 h3 ?_
  refine Der_all hp hj (m := js.length) (fun rs hr hl => Classical.byContradiction (fun hd => hn ⟨rs, hr, hl, hd⟩)) (js.map g) [] (fun r hr => absurd hr List.not_mem_nil) (fun r hr => ?_) (by simp)
  obtain ⟨j, hj', rfl⟩ := List.mem_map.mp hr
  exact h4 j hj'
