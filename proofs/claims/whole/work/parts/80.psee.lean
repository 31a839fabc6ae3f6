/-! what is seen: the answers by ranks are the same -/
theorem b_al : ∀ e : Nat, e < 24 → b32 alB e = true := by decide +kernel
theorem b_xm : ∀ p : Nat, p < 24 → ∀ e : Nat, e < 24 → b32 (xmE p) e = decide (e ≠ p) := by decide +kernel
theorem b_or {e : Nat} (he : e < 24) (s : Int32) {j : Nat} (hj : j < 32) : b32 (orE s e) j = (b32 s j || decide (j = e)) := by
  unfold orE
  rw [b32_or, b32_2 (by omega) hj]
theorem rws_mem {st : St} {P : Nat → Bool} {t : Nat → Int} {r : Nat → Int} : ∀ n, r ∈ rwsF st P t n ↔ ∃ e, e < n ∧ P e = true ∧ r = eyR st e (t e) := by
  intro n
  induction n with
  | zero => exact ⟨fun h => absurd h List.not_mem_nil, fun ⟨e, h, _⟩ => absurd h (Nat.not_lt_zero _)⟩
  | succ n ih =>
    have e : rwsF st P t (n + 1) = rwsF st P t n ++ (if P n = true then [eyR st n (t n)] else []) := rfl
    rw [e, List.mem_append, ih]
    constructor
    · rintro (⟨e, h1, h2, h3⟩ | h)
      · exact ⟨e, by omega, h2, h3⟩
      · by_cases c : P n = true
        · rw [if_pos c] at h
          exact ⟨n, by omega, c, List.mem_singleton.mp h⟩
        · rw [if_neg c] at h
          exact absurd h List.not_mem_nil
    · rintro ⟨e, h1, h2, h3⟩
      by_cases c : e = n
      · right
        rw [← c, if_pos h2, h3]
        exact List.mem_singleton.mpr rfl
      · exact Or.inl ⟨e, by omega, h2, h3⟩
theorem lyT_0 (st : St) : lyT st 0 = fun _ => 0 := by funext e; unfold lyT; rw [if_pos rfl]
theorem lyT_1 (st : St) : lyT st 1 = rdT st := by funext e; unfold lyT rdT; rw [if_neg (by decide)]
theorem z_rg : ∀ (P : Nat → Bool) (e : Nat), P e = true → -10098 ≤ (fun _ : Nat => (0 : Int)) e ∧ (fun _ : Nat => (0 : Int)) e ≤ 10098 := fun _ _ _ => ⟨(by decide : (-10098 : Int) ≤ 0), (by decide : (0 : Int) ≤ 10098)⟩
theorem rkO_0 {st : St} (w : WF st) (S : Nat → Bool) : rkO st S = skP 0 18 (rwsF st (lyP st S 0) (fun _ => 0) (st 0 1).toNat) := by
  unfold rkO lyE
  rw [lyL_map w, lyT_0]
  exact rkR_0 (C := 18) (by decide) (rwsF_g w (z_rg _) _)
theorem rkW_0 {st : St} (w : WF st) (ey pc : Int) : rkC (rowsW st ey pc) = skP 0 18 (rowsW st ey pc) := rkC_0 (rwsF_g w (z_rg _) _)
theorem rk_same {st : St} (w : WF st) {ey pc : Int} {S : Nat → Bool} (h : ∀ e : Nat, (e : Int) < st 0 1 → wsW st ey pc e = lyP st S 0 e) : rkC (rowsW st ey pc) = rkO st S := by
  rw [rkW_0 w, rkO_0 w]
  unfold rowsW
  rw [rwsF_c (P' := lyP st S 0) (t' := fun _ => 0) _ (fun e he => ⟨h e (by omega), fun _ => rfl⟩)]
theorem ws_al {st : St} (w : WF st) : ∀ e : Nat, (e : Int) < st 0 1 → wsW st (-900009) (-900009) e = lyP st (b32 alB) 0 e := by
  intro e he
  have h1 := w.1.2.1
  obtain ⟨g1, g2, -⟩ := w.2.2.2.2.1 e
  unfold lyP
  rw [b_al e (by omega), Bool.true_and]
  exact decide_eq_decide.mpr ⟨fun z => ⟨z.2.1, Or.inl rfl⟩, fun z => ⟨by omega, z.1, fun y => by rcases y with y | y <;> omega⟩⟩
theorem ws_xm {st : St} (w : WF st) {p : Nat} (hp : (p : Int) < st 0 1) : ∀ e : Nat, (e : Int) < st 0 1 → wsW st (p : Nat) (-900009) e = lyP st (b32 (xmE p)) 0 e := by
  intro e he
  have h1 := w.1.2.1
  obtain ⟨g1, g2, -⟩ := w.2.2.2.2.1 e
  unfold lyP
  rw [b_xm p (by omega) e (by omega), ← Bool.decide_and]
  exact decide_eq_decide.mpr ⟨fun z => ⟨by have := z.1; omega, z.2.1, Or.inl rfl⟩, fun z => ⟨by have := z.1; omega, z.2.1, fun y => by rcases y with y | y <;> omega⟩⟩
theorem eq_moves {st : St} (w : WF st) (b : Int) : rx_moves st b = rm_moves st b := by
  unfold rx_moves rm_moves
  rw [rk_same w (ws_al w)]
theorem eq_needed {st : St} (w : WF st) (e : Int) : rx_needed st e = rm_needed st e := by
  unfold rx_needed rm_needed
  by_cases c : isE st e
  · have c1 := c.1
    have c2 := c.2
    rw [if_pos c, if_pos c]
    have ee : e = ((e.toNat : Nat) : Int) := by omega
    have q := rk_same w (ws_xm w (p := e.toNat) (by omega))
    rw [← ee] at q
    rw [q, rk_same w (ws_al w)]
    by_cases d : wkS st e.toNat
    · rw [if_pos d]
      by_cases f : rkO st (b32 (xmE e.toNat)) < rkO st (b32 alB)
      · rw [if_pos f, if_pos ⟨d, f⟩]
      · rw [if_neg f, if_neg (fun z => f z.2)]
    · rw [if_neg d, if_neg (fun z => d z.1)]
  · rw [if_neg c, if_neg c]
theorem lyE_al {st : St} (w : WF st) : lyE st (b32 alB) 0 = (rowsW st (-900009) (-900009)).map exR := by
  unfold lyE rowsW
  rw [lyL_map w, lyT_0, rwsF_c (P' := lyP st (b32 alB) 0) (t' := fun _ => 0) (P := wsW st (-900009) (-900009)) _ (fun e he => ⟨ws_al w e (by omega), fun _ => rfl⟩)]
theorem eq_sure {st : St} (w : WF st) (a b x y : Int) : rx_sure st a b x y = rm_sure st a b x y := by
  unfold rx_sure rm_sure
  have h0 := w.1.1
  by_cases c : isP st a ∧ isP st b
  · rw [if_pos c, if_pos c]
    by_cases d : bt x (-9) 9 ∧ bt y (-9) 9
    · rw [if_pos d, if_pos d]
      have a1 := c.1.1
      have a2 := c.1.2
      have b1 := c.2.1
      have b2 := c.2.2
      have e : lyE st (b32 alB) 0 ++ [rowM a.toNat b.toNat x y 0] = (rowsW st (-900009) (-900009) ++ [rowC a.toNat b.toNat x y 0]).map exR := by
        rw [List.map_append, lyE_al w]
        show _ = _ ++ [exR (rowC a.toNat b.toNat x y 0)]
        rw [exR_row (by omega) (by omega)]
      have g : ∀ r ∈ rowsW st (-900009) (-900009) ++ [rowC a.toNat b.toNat x y 0], gdR r := fun r hr => by
        rcases List.mem_append.mp hr with z | z
        · exact rwsF_g w (z_rg _) _ r z
        · rw [List.mem_singleton.mp z]
          exact rowC_ok d.1 d.2 ⟨by decide, by decide⟩
      rw [e, rkC_0 g, rkR_0 (C := 18) (by decide) g, rk_same w (ws_al w)]
    · rw [if_neg d, if_neg d]
  · rw [if_neg c, if_neg c]
theorem ey_u1 (st : St) (p : Nat) (v : Int) (e : Nat) (t : Int) : eyR (up st 1 p v) e t = eyR st e t := by
  unfold eyR
  rw [up_f (by decide), up_f (by decide), up_f (by decide), up_f (by decide)]
theorem rws_u1 (st : St) (p : Nat) (v : Int) (P : Nat → Bool) (t : Nat → Int) : ∀ n, rwsF (up st 1 p v) P t n = rwsF st P t n := by
  intro n
  induction n with
  | zero => rfl
  | succ n ih =>
    have e : ∀ s : St, rwsF s P t (n + 1) = rwsF s P t n ++ (if P n = true then [eyR s n (t n)] else []) := fun _ => rfl
    rw [e, e, ih, ey_u1]
theorem in_u1 {st : St} {p : Nat} (hp : (p : Int) < st 0 0) (h : st 1 p ≠ 0) : inS (up st 1 p 0) = inS st - 1 := by
  unfold inS
  have e0 : up st 1 p 0 0 0 = st 0 0 := up_f (by decide)
  rw [e0]
  have q := cntN_fl (fun i => decide (up st 1 p 0 1 i ≠ 0)) p (decide_eq_false (by rw [up_eq]; exact fun z => z rfl)) (st 0 0).toNat
  rw [if_pos (by omega)] at q
  have e : (fun j => if j = p then true else (fun i => decide (up st 1 p 0 1 i ≠ 0)) j) = fun i => decide (st 1 i ≠ 0) := by
    funext j
    by_cases c : j = p
    · rw [if_pos c, c]; exact (decide_eq_true h).symm
    · rw [if_neg c]
      show decide (up st 1 p 0 1 j ≠ 0) = _
      rw [up_ne (fun z => c z.2)]
  rw [e] at q
  rw [q]
  omega
theorem eq_without {st : St} (w : WF st) (p : Int) : rx_without st p = rm_without st p := by
  unfold rx_without rm_without
  by_cases c : isP st p
  · have c1 := c.1
    have c2 := c.2
    have h0 := w.1.1
    have h1 := w.1.2.1
    rw [if_pos c, if_pos c]
    by_cases d : st 1 p.toNat ≠ 0
    · rw [if_pos d, if_pos d, in_u1 (by omega) d]
      have w' : WF (up st 1 p.toNat 0) := WF_u1 w (Or.inl rfl) (by omega) (fun r hr h => by
        have : ∀ r ∈ rgt, r.1 = 1 → r.2.1 ≤ (0 : Int) ∧ (0 : Int) ≤ r.2.2 := by decide
        exact this r hr h)
      have e : rkC (rowsW st (-900009) p) = rkO (up st 1 p.toNat 0) (b32 alB) := by
        rw [rkW_0 w, rkO_0 w', rws_u1, show up st 1 p.toNat 0 0 1 = st 0 1 from up_f (by decide)]
        unfold rowsW
        rw [rwsF_c (P := wsW st (-900009) p) (P' := lyP (up st 1 p.toNat 0) (b32 alB) 0) (t' := fun _ => 0) _ (fun e he => ⟨?_, fun _ => rfl⟩)]
        obtain ⟨⟨g1, g1'⟩, ⟨g2, g2'⟩, -⟩ := w.2.2.2.2.1 e
        unfold lyP
        rw [b_al e (by omega), Bool.true_and]
        refine decide_eq_decide.mpr ?_
        have e9 : up st 1 p.toNat 0 9 e = st 9 e := up_f (by decide)
        have e4 : up st 1 p.toNat 0 4 e = st 4 e := up_f (by decide)
        have e5 : up st 1 p.toNat 0 5 e = st 5 e := up_f (by decide)
        unfold wkS
        rw [e9, e4, e5]
        have u : ∀ x : Int, 0 ≤ x → (up st 1 p.toNat 0 1 x.toNat ≠ 0 ↔ st 1 x.toNat ≠ 0 ∧ x ≠ p) := by
          intro x hx
          by_cases z : x = p
          · rw [z, up_eq]; exact ⟨fun y => absurd rfl y, fun y => absurd rfl y.2⟩
          · rw [up_ne (fun y => z (by have := y.2; omega))]; exact ⟨fun y => ⟨y, z⟩, fun y => y.1⟩
        rw [u _ g1, u _ g2]
        constructor
        · rintro ⟨-, ⟨a1, a2, a3⟩, a4⟩
          exact ⟨⟨a1, ⟨a2, fun z => a4 (Or.inl z)⟩, a3, fun z => a4 (Or.inr z)⟩, Or.inl rfl⟩
        · rintro ⟨⟨a1, ⟨a2, a3⟩, a4, a5⟩, -⟩
          exact ⟨by omega, ⟨a1, a2, a4⟩, fun z => z.elim a3 a5⟩
      rw [← e]
      have inn : 0 ≤ inS st - 1 := by
        rw [← in_u1 (p := p.toNat) (by omega) d]; unfold inS; omega
      by_cases f : inS st - 1 = 0
      · rw [if_pos f, f, if_neg (by decide)]
        -- no eye works
        have nil : rowsW st (-900009) p = [] := by
          have : ∀ r, r ∉ rowsW st (-900009) p := by
            intro r hr
            obtain ⟨e', he, hP, -⟩ := (rws_mem _).mp hr
            have hP' := of_decide_eq_true hP
            obtain ⟨-, ⟨-, a2, a3⟩, a4⟩ := hP'
            obtain ⟨g1, g2, g3, -, -⟩ := w.2.2.2.1 e' (by omega)
            have k := in_u1 (st := st) (p := p.toNat) (by omega) d
            rw [f] at k
            unfold inS at k
            have e0 : up st 1 p.toNat 0 0 0 = st 0 0 := up_f (by decide)
            rw [e0] at k
            have k2 := cntN_mono (fun i => decide (up st 1 p.toNat 0 1 i ≠ 0)) (m := (st 4 e').toNat + 1) (n := (st 0 0).toNat) (by omega)
            rw [cntN_s, if_pos (decide_eq_true (by rw [up_ne (fun z => a4 (Or.inl (by have := z.2; omega)))]; exact a2))] at k2
            omega
          cases h : rowsW st (-900009) p with
          | nil => rfl
          | cons r rs => exact absurd (by rw [h]; exact List.mem_cons_self ..) (this r)
        rw [nil]
        rfl
      · rw [if_neg f, if_pos (by omega)]
    · rw [if_neg d, if_neg d]
  · rw [if_neg c, if_neg c]
theorem rd_rg {st : St} (w : WF st) {S : Nat → Bool} : ∀ e, lyP st S 1 e = true → -10098 ≤ rdT st e ∧ rdT st e ≤ 10098 := by
  intro e h
  unfold lyP at h
  rw [Bool.and_eq_true] at h
  have h2 := of_decide_eq_true h.2
  obtain ⟨-, -, g3⟩ := w.2.2.2.2.1 e
  have g4 := w.rg 10 (lo := -99) (hi := 99) (by decide) e
  unfold rdT
  have := h2.2.resolve_left (by decide)
  omega
theorem ag_iff {st : St} (w : WF st) {ey : Int} {S : Nat → Bool} (h : ∀ e : Nat, (e : Int) < st 0 1 → wsA st ey e = lyP st S 1 e) : agS st ey ↔ agM st S := by
  have e : rowsA st ey = rwsF st (lyP st S 1) (rdT st) (st 0 1).toNat := rwsF_c _ (fun e he => ⟨h e (by omega), fun _ => rfl⟩)
  have g := rwsF_g w (rd_rg w (S := S)) (st 0 1).toNat
  unfold agS agM lyE
  rw [e, lyL_map w, lyT_1, allC_0 g, rkC_0 g, rkR_0 (C := 18) (by decide) g, rkR_0 (C := 19) (by decide) g]
  exact eq_comm
theorem wa_al {st : St} (w : WF st) : ∀ e : Nat, (e : Int) < st 0 1 → wsA st (-900009) e = lyP st (b32 alB) 1 e := by
  intro e he
  have h1 := w.1.2.1
  unfold lyP
  rw [b_al e (by omega), Bool.true_and]
  exact decide_eq_decide.mpr ⟨fun z => ⟨z.2.1, Or.inr z.2.2⟩, fun z => ⟨by omega, z.1, z.2.resolve_left (by decide)⟩⟩
theorem wa_xm {st : St} (w : WF st) {p : Nat} (hp : (p : Int) < st 0 1) : ∀ e : Nat, (e : Int) < st 0 1 → wsA st (p : Nat) e = lyP st (b32 (xmE p)) 1 e := by
  intro e he
  have h1 := w.1.2.1
  unfold lyP
  rw [b_xm p (by omega) e (by omega), ← Bool.decide_and]
  exact decide_eq_decide.mpr ⟨fun z => ⟨by have := z.1; omega, z.2.1, Or.inr z.2.2⟩, fun z => ⟨by have := z.1; omega, z.2.1, z.2.2.resolve_left (by decide)⟩⟩
theorem ag_al {st : St} (w : WF st) : agS st (-900009) ↔ agM st (b32 alB) := ag_iff w (wa_al w)
theorem ag_xm {st : St} (w : WF st) {p : Nat} (hp : (p : Int) < st 0 1) : agS st (p : Nat) ↔ agM st (b32 (xmE p)) := ag_iff w (wa_xm w hp)
theorem eq_agree {st : St} (w : WF st) : (if agS st (-900009) then (1 : Int) else 0) = if agM st (b32 alB) then 1 else 0 := by
  by_cases c : agS st (-900009)
  · rw [if_pos c, if_pos ((ag_al w).mp c)]
  · rw [if_neg c, if_neg (fun z => c ((ag_al w).mpr z))]
theorem lsM_b {st : St} (w : WF st) {j : Nat} (hj : j < 32) : ∀ e : Nat, (e : Int) ≤ st 0 1 → b32 (lsM st e) j = decide (j < e ∧ cnS st j ∧ agM st (b32 (xmE j))) := by
  have h1 := w.1.2.1
  intro e
  induction e with
  | zero => intro _; rw [show lsM st 0 = iI 0 from rfl, b32_0]; exact (decide_eq_false (fun z => absurd z.1 (Nat.not_lt_zero _))).symm
  | succ e ih =>
    intro he
    have es : lsM st (e + 1) = if cnS st e ∧ agM st (b32 (xmE e)) then orE (lsM st e) e else lsM st e := rfl
    rw [es]
    by_cases c : cnS st e ∧ agM st (b32 (xmE e))
    · rw [if_pos c, b_or (by omega) _ hj, ih (by omega), ← Bool.decide_or]
      refine decide_eq_decide.mpr ⟨fun z => ?_, fun z => ?_⟩
      · rcases z with z | z
        · exact ⟨by omega, z.2⟩
        · rw [z]; exact ⟨by omega, c⟩
      · by_cases y : j = e
        · exact Or.inr y
        · exact Or.inl ⟨by omega, z.2⟩
    · rw [if_neg c, ih (by omega)]
      refine decide_eq_decide.mpr ⟨fun z => ⟨by omega, z.2⟩, fun z => ⟨?_, z.2⟩⟩
      have : j ≠ e := fun y => c (by rw [← y]; exact z.2)
      omega
theorem lr_b {st : St} (w : WF st) {j : Nat} (hj : j < 32) : b32 (lsR st) j = lrP st j := by
  have h1 := w.1.2.1
  unfold lsR lrP
  by_cases c : agM st (b32 alB)
  · rw [if_pos c, b32_0]
    exact (decide_eq_false (fun z => z.2.1 ((ag_al w).mpr c))).symm
  · rw [if_neg c, lsM_b w hj _ (by omega)]
    refine decide_eq_decide.mpr ⟨fun z => ⟨by omega, fun y => c ((ag_al w).mp y), z.2.1, (ag_xm w (by omega)).mpr z.2.2⟩, fun z => ⟨by omega, z.2.2.1, (ag_xm w z.1).mp z.2.2.2⟩⟩
theorem eq_liars {st : St} (w : WF st) : cntN (lrP st) 24 = cntN (b32 (lsR st)) (st 0 1).toNat := by
  have h1 := w.1.2.1
  rw [cntN_c (st 0 1).toNat (P := b32 (lsR st)) (P' := lrP st) (fun i hi => lr_b w (by omega))]
  have key : ∀ k, (st 0 1).toNat ≤ k → cntN (lrP st) k = cntN (lrP st) (st 0 1).toNat := by
    intro k
    induction k with
    | zero => intro h; rw [show (st 0 1).toNat = 0 by omega]
    | succ k ih =>
      intro h
      by_cases c : (st 0 1).toNat = k + 1
      · rw [c]
      · rw [cntN_s, ih (by omega), if_neg (fun z => by have := (of_decide_eq_true z).1; omega)]
        rfl
  exact key 24 (by omega)
theorem eq_liar {st : St} (w : WF st) (i : Int) : nthS (lrP st) i = nthS (b32 (lsR st)) i := nthS_c (fun j hj => (lr_b w (by omega)).symm) i
/-! the cheapest eyes -/
theorem st_18 {rows : List (Nat → Int)} {v : Nat → Int} (hv : v ∈ rows) : Der 0 18 (fun u => ∃ j, j < 18 ∧ (sgP 0 rows).1 j = true ∧ u = (sgP 0 rows).2 j) v := by
  obtain ⟨hT, hS⟩ := sg_ok pz_0 (rows := rows) (fun r _ => ex_0 r)
  refine ((hS v hv).less (show 18 ≤ 19 by decide)).mono (fun u hu => ?_)
  obtain ⟨j, j1, j2, j3⟩ := hu
  by_cases c : j < 18
  · exact Der.base ⟨j, c, j2, j3⟩
  · exact Der.zero (fun k hk => by rw [j3]; exact (hT j j1 j2).2.1 k (by omega))
theorem sk_mono {A B : List (Nat → Int)} (h : ∀ r ∈ A, Der 0 18 (fun v => v ∈ B) r) : skP 0 18 A ≤ skP 0 18 B := by
  obtain ⟨rs, h1, h2, h3⟩ := sk_ge pz_0 (C := 18) (by decide) (rows := A) (fun r _ => ex_0 r)
  rw [← h2]
  exact Der_le pz_0 (C := 18) (P := (sgP 0 B).1) (N := 18) (g := (sgP 0 B).2) (fun r hr => (h r (h1 r hr)).mono (fun v hv => st_18 hv)) (fun c hc => List.mem_range.mp (List.mem_filter.mp hc).1) h3
theorem addL_two (p : Int) (T : Tt) : ∀ (n at' : Nat) (l : Nat → Int), addL p T n at' l = T ∨ ∃ j l', j < at' + n ∧ T.1 j = false ∧ addL p T n at' l = flT T j l' := by
  intro n
  induction n with
  | zero => intro at' l; exact Or.inl rfl
  | succ n ih =>
    intro at' l
    have e0 : addL p T (n + 1) at' l = if l at' = 0 then addL p T n (at' + 1) l else if T.1 at' = true then addL p T n (at' + 1) (tkV p (T.2 at') l at') else flT T at' l := rfl
    rw [e0]
    have k : ∀ l, addL p T n (at' + 1) l = T ∨ ∃ j l', j < at' + (n + 1) ∧ T.1 j = false ∧ addL p T n (at' + 1) l = flT T j l' := fun l => by
      rcases ih (at' + 1) l with z | ⟨j, l', z1, z2, z3⟩
      · exact Or.inl z
      · exact Or.inr ⟨j, l', by omega, z2, z3⟩
    by_cases c : l at' = 0
    · rw [if_pos c]; exact k l
    · rw [if_neg c]
      by_cases d : T.1 at' = true
      · rw [if_pos d]; exact k _
      · rw [if_neg d]; exact Or.inr ⟨at', l, by omega, Bool.eq_false_iff.mpr d, rfl⟩
theorem sg_app (A : List (Nat → Int)) (r : Nat → Int) : sgP 0 (A ++ [r]) = addT 0 (sgP 0 A) r := by
  unfold sgP
  rw [List.foldl_append]
  rfl
theorem sk_up {A : List (Nat → Int)} (r : Nat → Int) : skP 0 18 (A ++ [r]) ≤ skP 0 18 A + 1 := by
  unfold skP
  rw [sg_app]
  rcases addL_two 0 (sgP 0 A) 19 0 r with z | ⟨j, l', -, z2, z3⟩
  · have z' : addT 0 (sgP 0 A) r = sgP 0 A := z
    rw [z']; omega
  · have z' : addT 0 (sgP 0 A) r = flT (sgP 0 A) j l' := z3
    rw [z']
    have q := cntN_fl (sgP 0 A).1 j z2 18
    have e : (flT (sgP 0 A) j l').1 = fun i => if i = j then true else (sgP 0 A).1 i := rfl
    rw [e, q]
    split <;> omega
theorem no_fill {A : List (Nat → Int)} {r : Nat → Int} (h : skP 0 18 (A ++ [r]) ≤ skP 0 18 A) : Der 0 18 (fun v => v ∈ A) r := by
  obtain ⟨hT, hS⟩ := sg_ok pz_0 (rows := A ++ [r]) (fun r _ => ex_0 r)
  obtain ⟨hT', -⟩ := sg_ok pz_0 (rows := A) (fun r _ => ex_0 r)
  have hr := (hS r (List.mem_append_right _ (List.mem_singleton.mpr rfl))).less (show 18 ≤ 19 by decide)
  refine hr.mono (fun v hv => ?_)
  obtain ⟨i, i1', i2', i3'⟩ := hv
  by_cases c18 : i < 18
  · unfold skP at h
    rw [sg_app] at h i2' i3'
    rcases addL_two 0 (sgP 0 A) 19 0 r with z | ⟨j, l', -, z2, z3⟩
    · have z' : addT 0 (sgP 0 A) r = sgP 0 A := z
      rw [z'] at i2' i3'
      rw [i3']
      exact ((hT' i i1' i2').1).less (by decide)
    · have z' : addT 0 (sgP 0 A) r = flT (sgP 0 A) j l' := z3
      rw [z'] at h i2' i3'
      have q := cntN_fl (sgP 0 A).1 j z2 18
      have e : (flT (sgP 0 A) j l').1 = fun i => if i = j then true else (sgP 0 A).1 i := rfl
      rw [e, q] at h
      have hj : ¬ j < 18 := fun y => by rw [if_pos y] at h; omega
      have f1 : (flT (sgP 0 A) j l').1 i = if i = j then true else (sgP 0 A).1 i := rfl
      have f2 : (flT (sgP 0 A) j l').2 i = if i = j then l' else (sgP 0 A).2 i := rfl
      rw [f1, if_neg (by omega)] at i2'
      rw [f2, if_neg (by omega)] at i3'
      rw [i3']
      exact ((hT' i i1' i2').1).less (by decide)
  · exact Der.zero (fun k hk => by rw [i3']; exact (hT i i1' i2').2.1 k (by omega))
def GV (st : St) (c : ChT) (s : Int32 × Nat) : Prop :=
  (∀ e, e < 32 → c.2.2 e = b32 s.1 e) ∧ (∀ e, c.2.2 e = true → (e : Int) < st 0 1 ∧ wkS st e ∧ eyR st e 0 ∈ c.1) ∧ s.2 = skP 0 18 c.1 ∧ (∀ r ∈ c.1, Der 0 18 (fun v => ∃ e, c.2.2 e = true ∧ v = eyR st e 0) r) ∧ (∀ r ∈ c.1, gdR r) ∧ c.2.1 = smE st c.2.2 (st 0 1).toNat
theorem smE_up {st : St} {P : Nat → Bool} {e : Nat} (he : P e = false) : ∀ n, smE st (fun j => if j = e then true else P j) n = smE st P n + if e < n then st 8 e else 0 := by
  intro n
  induction n with
  | zero => rfl
  | succ n ih =>
    have es : ∀ Q, smE st Q (n + 1) = smE st Q n + if Q n = true then st 8 n else 0 := fun _ => rfl
    rw [es, es, ih]
    by_cases c : n = e
    · subst c
      have a1 : (if n = n then true else P n) = true := if_pos rfl
      rw [a1, if_pos (rfl : true = true), he, if_neg (by decide : ¬ false = true), if_neg (Nat.lt_irrefl n), if_pos (Nat.lt_succ_self n)]
    · rw [if_neg c]
      by_cases d : e < n
      · rw [if_pos d, if_pos (show e < n + 1 by omega)]; omega
      · rw [if_neg d, if_neg (show ¬ e < n + 1 by omega)]; omega
theorem GV_s {st : St} (w : WF st) {pr : Int} {c : ChT} {s : Int32 × Nat} (g : GV st c s) {e : Nat} (he : (e : Int) < st 0 1) : GV st (chE st pr c e) (beE st pr s e) := by
  have h1 := w.1.2.1
  have g0 := g
  obtain ⟨g1, g2, g3, g4, g5, g6⟩ := g
  unfold chE beE
  by_cases c1 : st 8 e = pr ∧ wkS st e
  · rw [if_pos c1]
    have gr : gdR (eyR st e 0) := rowC_ok (w.rg 6 (lo := -9) (hi := 9) (by decide) e) (w.rg 7 (lo := -9) (hi := 9) (by decide) e) ⟨by decide, by decide⟩
    have g5' : ∀ r ∈ c.1 ++ [eyR st e 0], gdR r := fun r hr => by
      rcases List.mem_append.mp hr with z | z
      · exact g5 r z
      · rw [List.mem_singleton.mp z]; exact gr
    rw [rkC_0 g5, rkC_0 g5']
    have bit : ∀ j : Nat, (j : Int) < st 0 1 → lyP st (b32 (orE s.1 e)) 0 j = true → (c.2.2 j = true ∨ j = e) := by
      intro j hj hl
      unfold lyP at hl
      rw [Bool.and_eq_true, b_or (by omega) _ (by omega), Bool.or_eq_true, ← g1 j (by omega), decide_eq_true_iff] at hl
      exact hl.1
    have bit2 : ∀ j : Nat, (j : Int) < st 0 1 → wkS st j → (c.2.2 j = true ∨ j = e) → lyP st (b32 (orE s.1 e)) 0 j = true := by
      intro j hj hw hl
      unfold lyP
      rw [Bool.and_eq_true, b_or (by omega) _ (by omega), Bool.or_eq_true, ← g1 j (by omega), decide_eq_true_iff]
      exact ⟨hl, decide_eq_true ⟨hw, Or.inl rfl⟩⟩
    have same : rkO st (b32 (orE s.1 e)) = skP 0 18 (c.1 ++ [eyR st e 0]) := by
      rw [rkO_0 w]
      refine Nat.le_antisymm (sk_mono (fun r hr => Der.base ?_)) (sk_mono (fun r hr => ?_))
      · obtain ⟨j, j1, j2, j3⟩ := (rws_mem _).mp hr
        rcases bit j (by omega) j2 with z | z
        · rw [j3]; exact List.mem_append_left _ (g2 j z).2.2
        · rw [j3, z]; exact List.mem_append_right _ (List.mem_singleton.mpr rfl)
      · rcases List.mem_append.mp hr with z | z
        · refine (g4 r z).mono (fun v hv => Der.base ?_)
          obtain ⟨j, j1, j2⟩ := hv
          obtain ⟨k1, k2, k3⟩ := g2 j j1
          exact (rws_mem _).mpr ⟨j, by omega, bit2 j k1 k2 (Or.inl j1), j2⟩
        · rw [List.mem_singleton.mp z]
          exact Der.base ((rws_mem _).mpr ⟨e, by omega, bit2 e he c1.2 (Or.inr rfl), rfl⟩)
    by_cases c2 : skP 0 18 c.1 < skP 0 18 (c.1 ++ [eyR st e 0])
    · rw [if_pos c2, if_pos ⟨c1.1, c1.2, by rw [same, g3]; exact c2⟩]
      have new : c.2.2 e = false := Bool.eq_false_iff.mpr (fun z => by
        have := sk_mono (A := c.1 ++ [eyR st e 0]) (B := c.1) (fun r hr => Der.base (by
          rcases List.mem_append.mp hr with y | y
          · exact y
          · rw [List.mem_singleton.mp y]; exact (g2 e z).2.2))
        omega)
      have up1 := sk_up (A := c.1) (eyR st e 0)
      refine ⟨fun j hj => ?_, fun j hj => ?_, ?_, fun r hr => ?_, g5', ?_⟩
      · show (if j = e then true else c.2.2 j) = b32 (orE s.1 e) j
        rw [b_or (by omega) _ hj, ← g1 j hj]
        by_cases z : j = e
        · rw [if_pos z, decide_eq_true z, Bool.or_true]
        · rw [if_neg z, decide_eq_false z, Bool.or_false]
      · have hj' : (if j = e then true else c.2.2 j) = true := hj
        by_cases z : j = e
        · rw [z]; exact ⟨he, c1.2, List.mem_append_right _ (List.mem_singleton.mpr rfl)⟩
        · rw [if_neg z] at hj'
          obtain ⟨k1, k2, k3⟩ := g2 j hj'
          exact ⟨k1, k2, List.mem_append_left _ k3⟩
      · show s.2 + 1 = skP 0 18 (c.1 ++ [eyR st e 0])
        omega
      · rcases List.mem_append.mp hr with z | z
        · refine (g4 r z).mono (fun v hv => Der.base ?_)
          obtain ⟨j, j1, j2⟩ := hv
          refine ⟨j, ?_, j2⟩
          show (if j = e then true else c.2.2 j) = true
          rw [if_neg (fun y => by rw [y, new] at j1; exact Bool.noConfusion j1)]
          exact j1
        · rw [List.mem_singleton.mp z]
          exact Der.base ⟨e, if_pos rfl, rfl⟩
      · show c.2.1 + pr = smE st (fun j => if j = e then true else c.2.2 j) (st 0 1).toNat
        rw [smE_up new, if_pos (by omega), g6, c1.1]
    · rw [if_neg c2, if_neg (fun z => c2 (by rw [← same, ← g3]; exact z.2.2))]
      have eq2 : skP 0 18 (c.1 ++ [eyR st e 0]) = skP 0 18 c.1 := by
        have := sk_mono (A := c.1) (B := c.1 ++ [eyR st e 0]) (fun r hr => Der.base (List.mem_append_left _ hr))
        omega
      refine ⟨g1, fun j hj => ?_, ?_, fun r hr => ?_, g5', g6⟩
      · obtain ⟨k1, k2, k3⟩ := g2 j hj
        exact ⟨k1, k2, List.mem_append_left _ k3⟩
      · show s.2 = skP 0 18 (c.1 ++ [eyR st e 0])
        rw [eq2]; exact g3
      · rcases List.mem_append.mp hr with z | z
        · exact g4 r z
        · rw [List.mem_singleton.mp z]
          exact (no_fill (Nat.le_of_eq eq2)).mono (fun v hv => g4 v hv)
  · rw [if_neg c1, if_neg (fun z => c1 ⟨z.1, z.2.1⟩)]
    exact g0
theorem GV_R {st : St} (w : WF st) {pr : Int} {c : ChT} {s : Int32 × Nat} (g : GV st c s) : ∀ n : Nat, (n : Int) ≤ st 0 1 → GV st (chR st pr n c) (beR st pr n s) := by
  intro n
  induction n with
  | zero => exact fun _ => g
  | succ n ih => intro hn; exact GV_s w (ih (by omega)) (by omega)
theorem GV_A {st : St} (w : WF st) : ∀ n : Nat, GV st (chA st n) (beA st n) := by
  have h1 := w.1.2.1
  intro n
  induction n with
  | zero =>
    refine ⟨fun e _ => (b32_0 e).symm, fun e h => Bool.noConfusion (show false = true from h), rfl, fun r hr => absurd hr List.not_mem_nil, fun r hr => absurd hr List.not_mem_nil, ?_⟩
    show (0 : Int) = smE st (fun _ => false) (st 0 1).toNat
    have : ∀ n, smE st (fun _ => false) n = 0 := by
      intro n
      induction n with
      | zero => rfl
      | succ n ih =>
        show smE st (fun _ => false) n + (if false = true then st 8 n else 0) = 0
        rw [ih, if_neg (by decide)]
        rfl
    rw [this]
  | succ n ih =>
    have e1 : chA st (n + 1) = chR st ((n + 1 : Nat) : Int) (st 0 1).toNat (chA st n) := rfl
    have e2 : beA st (n + 1) = beR st ((n : Int) + 1) (st 0 1).toNat (beA st n) := rfl
    rw [e1, e2, show ((n + 1 : Nat) : Int) = (n : Int) + 1 by omega]
    exact GV_R w ih _ (by omega)
theorem smE_c {st : St} {P P' : Nat → Bool} : ∀ n, (∀ e, e < n → P e = P' e) → smE st P n = smE st P' n := by
  intro n
  induction n with
  | zero => exact fun _ => rfl
  | succ n ih =>
    intro h
    have es : ∀ Q, smE st Q (n + 1) = smE st Q n + if Q n = true then st 8 n else 0 := fun _ => rfl
    rw [es, es, ih (fun e he => h e (by omega)), h n (by omega)]
theorem eq_cheapest {st : St} (w : WF st) : chS st = rm_cheapest st := by
  have h1 := w.1.2.1
  obtain ⟨g1, -, -, -, -, g6⟩ := GV_A w 99
  unfold chS rm_cheapest
  rw [g6]
  exact smE_c _ (fun e he => g1 e (by omega))
theorem eq_keep {st : St} (w : WF st) (i : Int) : nthS (chP st) i = nthS (b32 (beA st 99).1) i := by
  obtain ⟨g1, -⟩ := GV_A w 99
  exact nthS_c (fun j hj => g1 j (by omega)) i
