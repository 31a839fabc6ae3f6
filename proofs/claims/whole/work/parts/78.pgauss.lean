/-! the reference's elimination: its count is the rank -/
theorem Dt_tri2 {p : Int} (hp : PZ p) (g : Nat → (Nat → Int)) (pv : Nat → Nat) : ∀ js : List Nat, js.Pairwise (fun i j => pv i < pv j) → (∀ j ∈ js, ¬ p ∣ g j (pv j)) → (∀ j ∈ js, ∀ k, k < pv j → p ∣ g j k) → ¬ p ∣ Dt (js.map g) (js.map pv) := by
  intro js
  induction js with
  | nil => intro _ _ _; exact hp.1
  | cons j js ih =>
    intro h1 h2 h3 h
    obtain ⟨q1, q2⟩ := List.pairwise_cons.mp h1
    have e : Dt ((j :: js).map g) ((j :: js).map pv) = g j (pv j) * Dt (js.map g) (js.map pv) - Wd (g j) (fun t => Dt (js.map g) (pv j :: t)) (js.map pv) := rfl
    rw [e] at h
    have hz : p ∣ Wd (g j) (fun t => Dt (js.map g) (pv j :: t)) (js.map pv) := by
      have kz := Dt_col (p := p) (pv j) (js.map g) (fun r hr => by
        obtain ⟨i, hi, rfl⟩ := List.mem_map.mp hr
        exact h3 i (List.mem_cons_of_mem _ hi) (pv j) (q1 i hi))
      have : ∀ (cs : List Nat) (f : List Nat → Int), (∀ t, p ∣ f t) → p ∣ Wd (g j) f cs := by
        intro cs
        induction cs with
        | nil => intro f _; exact Int.dvd_zero p
        | cons c' cs ih' => intro f hf; rw [Wd_c]; exact dv_lin _ (hf _) (ih' _ (fun t => hf _))
      exact this _ _ kz
    have h4 : p ∣ g j (pv j) * Dt (js.map g) (js.map pv) := by
      have := Int.dvd_add h hz
      rw [Int.sub_add_cancel] at this
      exact this
    rcases hp.2 _ _ h4 with z | z
    · exact h2 j (List.mem_cons_self ..) z
    · exact ih q2 (fun i hi => h2 i (List.mem_cons_of_mem _ hi)) (fun i hi => h3 i (List.mem_cons_of_mem _ hi)) z
/-- the count is right: some minor is so large, none is larger -/
def rkOK (p : Int) (cols : Nat) (R : (Nat → Int) → Prop) (g : Nat) : Prop := (∃ rs cs, (∀ r ∈ rs, R r) ∧ rs.length = g ∧ lc cols cs ∧ ¬ p ∣ Dt rs cs) ∧ ∀ rs cs, (∀ r ∈ rs, R r) → lc cols cs → ¬ p ∣ Dt rs cs → rs.length ≤ g
def GI (p : Int) (cols n : Nat) (R : (Nat → Int) → Prop) (c rk : Nat) (T : Rt) (pv : Nat → Nat) : Prop :=
  rk ≤ n ∧ tB p n T ∧ (∀ i, i < rk → pv i < c ∧ (∀ k, k < pv i → p ∣ T i k) ∧ ¬ p ∣ T i (pv i)) ∧ (∀ i j, i < j → j < rk → pv i < pv j) ∧ (∀ r, rk ≤ r → r < n → ∀ k, k < c → p ∣ T r k) ∧ (∀ r, r < n → Der p cols R (T r)) ∧ ∀ v, R v → Der p cols (fun w => ∃ i, i < n ∧ w = T i) v
theorem cnt_tt (n : Nat) : cntN (fun _ => true) n = n := by
  induction n with
  | zero => rfl
  | succ n ih => rw [cntN_s, ih, if_pos rfl]
theorem GI_end {p : Int} (hp : PZ p) {cols n c rk : Nat} {R : (Nat → Int) → Prop} {T : Rt} {pv : Nat → Nat} (hc : c ≤ cols) (h : GI p cols n R c rk T pv) (he : ∀ r, rk ≤ r → r < n → ∀ k, k < cols → p ∣ T r k) : rkOK p cols R rk := by
  obtain ⟨h1, -, h3, h4, -, h6, h7⟩ := h
  refine ⟨?_, fun rs cs hr hcs hd => ?_⟩
  · refine Classical.byContradiction (fun hn => ?_)
    have pw : (List.range rk).Pairwise (fun i j => pv i < pv j) := by
      have : ∀ m, m ≤ rk → (List.range m).Pairwise (fun i j => pv i < pv j) := by
        intro m
        induction m with
        | zero => intro _; exact List.Pairwise.nil
        | succ m ih =>
          intro hm
          rw [List.range_succ, List.pairwise_append]
          refine ⟨ih (by omega), List.pairwise_singleton _ _, fun a ha b hb => ?_⟩
          rw [List.mem_singleton.mp hb]
          exact h4 a m (List.mem_range.mp ha) (by omega)
      exact this rk (Nat.le_refl _)
    refine Dt_tri2 hp T pv (List.range rk) pw (fun j hj => (h3 j (List.mem_range.mp hj)).2.2) (fun j hj => (h3 j (List.mem_range.mp hj)).2.1) ?_
    have lcs : lc cols ((List.range rk).map pv) := fun x hx => by
      obtain ⟨i, hi, rfl⟩ := List.mem_map.mp hx
      have := (h3 i (List.mem_range.mp hi)).1
      omega
    refine Der_all hp lcs (m := rk) (fun rs hr hl => Classical.byContradiction (fun hd => hn ⟨rs, _, hr, hl, lcs, hd⟩)) ((List.range rk).map T) [] (fun r hr => absurd hr List.not_mem_nil) (fun r hr => ?_) (by simp)
    obtain ⟨i, hi, rfl⟩ := List.mem_map.mp hr
    have := List.mem_range.mp hi
    exact h6 i (by omega)
  · have q := Der_le hp (C := cols) (P := fun _ => true) (N := rk) (g := T) (rs := rs) (fun r hr' => ?_) hcs hd
    · rw [cnt_tt] at q; exact q
    · refine (h7 r (hr r hr')).mono (fun v hv => ?_)
      obtain ⟨i, hi, rfl⟩ := hv
      by_cases z : i < rk
      · exact Der.base ⟨i, z, rfl, rfl⟩
      · exact Der.zero (he i (by omega) hi)
theorem em_dv (p a : Int) : p ∣ a - a % p := by
  have h := Int.mul_ediv_add_emod a p
  exact ⟨a / p, by omega⟩
theorem pvF_at (T : Rt) (c : Nat) : ∀ f i : Nat, (∀ r, i ≤ r → r < pvF T c f i → T r c = 0) ∧ (pvF T c f i < i + f → T (pvF T c f i) c ≠ 0) := by
  intro f
  induction f with
  | zero => intro i; exact ⟨fun r h1 h2 => by have : pvF T c 0 i = i := rfl; omega, fun h => by have : pvF T c 0 i = i := rfl; omega⟩
  | succ f ih =>
    intro i
    rw [pvF_s]
    by_cases z : T i c = 0
    · rw [if_pos z]
      obtain ⟨a, b⟩ := ih (i + 1)
      refine ⟨fun r h1 h2 => ?_, fun h => b (by omega)⟩
      by_cases y : r = i
      · rw [y]; exact z
      · exact a r (by omega) h2
    · rw [if_neg z]
      exact ⟨fun r h1 h2 => by omega, fun _ => z⟩
theorem GI_clear {p : Int} (hp : PZ p) (h2 : 2 ≤ p) {cols n c rk : Nat} (hc : c < 22) {R : (Nat → Int) → Prop} {T : Rt} {pv : Nat → Nat} (h : GI p cols n R c rk T pv) {i : Nat} (hi : rk ≤ i) (hin : i < n) (hne : ¬ p ∣ T i c) : GI p cols n R (c + 1) (rk + 1) (clT p (exT T i rk) n rk c) (upN pv rk c) := by
  obtain ⟨h1, hB, h3, h4, h5, h6, h7⟩ := h
  obtain ⟨T1, hT1⟩ : ∃ T1, T1 = exT T i rk := ⟨_, rfl⟩
  have B1 : tB p n T1 := by rw [hT1]; exact exT_B hB hin (by omega)
  -- rows of T1
  have row : ∀ r, r < n → ∃ r', r' < n ∧ (rk ≤ r → rk ≤ r') ∧ (r < rk → r' = r) ∧ T1 r = T r' := by
    intro r hr
    by_cases c1 : r = i
    · exact ⟨rk, by omega, fun _ => Nat.le_refl _, fun z => by omega, by funext k; rw [hT1, c1]; unfold exT; rw [if_pos rfl]⟩
    · by_cases c2 : r = rk
      · exact ⟨i, hin, fun _ => hi, fun z => by omega, by funext k; rw [hT1]; unfold exT; rw [if_neg c1, if_pos c2]⟩
      · exact ⟨r, hr, fun z => z, fun _ => rfl, by funext k; rw [hT1]; unfold exT; rw [if_neg c1, if_neg c2]⟩
  have rowb : ∀ r, r < n → ∃ r', r' < n ∧ T r = T1 r' := by
    intro r hr
    by_cases c1 : r = i
    · exact ⟨rk, by omega, by funext k; rw [hT1, c1]; unfold exT; by_cases z : rk = i; (rw [if_pos z, z]); (rw [if_neg z, if_pos rfl])⟩
    · by_cases c2 : r = rk
      · exact ⟨i, hin, by funext k; rw [hT1, c2]; unfold exT; rw [if_pos rfl]⟩
      · exact ⟨r, hr, by funext k; rw [hT1]; unfold exT; rw [if_neg c1, if_neg c2]⟩
  have z1 : ∀ r, rk ≤ r → r < n → ∀ k, k < c → p ∣ T1 r k := by
    intro r hr1 hr2 k hk
    obtain ⟨r', a1, a2, -, a4⟩ := row r hr2
    rw [a4]
    exact h5 r' (a2 hr1) a1 k hk
  have erk : T1 rk = T i := by
    funext k
    rw [hT1]
    unfold exT
    by_cases z : rk = i
    · rw [if_pos z, z]
    · rw [if_neg z, if_pos rfl]
  have D1 : ∀ r, r < n → Der p cols R (T1 r) := fun r hr => by
    obtain ⟨r', a1, -, -, a4⟩ := row r hr
    rw [a4]; exact h6 r' a1
  rw [← hT1]
  have nrk : ¬ p ∣ T1 rk c := by rw [erk]; exact hne
  obtain ⟨iv, hiv⟩ : ∃ iv, iv = T1 rk c ^ (p - 2).toNat % p := ⟨_, rfl⟩
  have inv : p ∣ iv * T1 rk c - 1 := by
    have k1 := inv_ok hp h2 (B1 rk c (by omega) hc).1 nrk
    have k2 := em_dv p (T1 rk c ^ (p - 2).toNat)
    rw [← hiv] at k2
    have k3 := Int.dvd_sub k1 (Int.dvd_mul_of_dvd_left (c := T1 rk c) k2)
    have e : T1 rk c ^ (p - 2).toNat * T1 rk c - 1 - (T1 rk c ^ (p - 2).toNat - iv) * T1 rk c = iv * T1 rk c - 1 := by
      rw [Int.sub_mul]; omega
    rw [e] at k3
    exact k3
  have ninv : ¬ p ∣ iv := fun z => hp.1 (by
    have k := Int.dvd_sub (Int.dvd_mul_of_dvd_left (c := T1 rk c) z) inv
    have e : iv * T1 rk c - (iv * T1 rk c - 1) = 1 := by omega
    rw [e] at k
    exact k)
  have top : ∀ r, ¬ (rk < r ∧ r < n) → clT p T1 n rk c r = T1 r := fun r hr => if_neg hr
  have low : ∀ r, rk < r → r < n → clT p T1 n rk c r = clR p T1 rk c r := fun r a b => if_pos ⟨a, b⟩
  have rel : ∀ r, rk < r → r < n → ∀ k, p ∣ clR p T1 rk c r k - (1 * T1 r k + -(T1 r c * iv % p) * T1 rk k) := by
    intro r hr1 hr2 k
    unfold clR
    rw [← hiv, Int.one_mul, Int.neg_mul]
    by_cases y : c ≤ k ∧ T1 r c * iv % p ≠ 0
    · rw [if_pos y]
      have k1 := em_dv p (T1 r k + (p - T1 r c * iv % p) * T1 rk k)
      have e : (T1 r k + (p - T1 r c * iv % p) * T1 rk k) % p - (T1 r k + -(T1 r c * iv % p * T1 rk k)) = p * T1 rk k - (T1 r k + (p - T1 r c * iv % p) * T1 rk k - (T1 r k + (p - T1 r c * iv % p) * T1 rk k) % p) := by
        rw [Int.sub_mul]; omega
      rw [e]
      exact Int.dvd_sub (Int.dvd_mul_right p _) k1
    · rw [if_neg y]
      have e : T1 r k - (T1 r k + -(T1 r c * iv % p * T1 rk k)) = T1 r c * iv % p * T1 rk k := by omega
      rw [e]
      by_cases y2 : c ≤ k
      · have : T1 r c * iv % p = 0 := Classical.byContradiction (fun z => y ⟨y2, z⟩)
        rw [this, Int.zero_mul]; exact Int.dvd_zero p
      · exact Int.dvd_mul_of_dvd_right (z1 rk (Nat.le_refl _) (by omega) k (by omega))
  have zc : ∀ r, rk < r → r < n → p ∣ clR p T1 rk c r c := by
    intro r hr1 hr2
    have k1 := rel r hr1 hr2 c
    have k2 := em_dv p (T1 r c * iv)
    have k3 : p ∣ T1 r c * (iv * T1 rk c - 1) := Int.dvd_mul_of_dvd_right inv
    have k4 := Int.dvd_sub (Int.dvd_add k1 (Int.dvd_mul_of_dvd_left (c := T1 rk c) k2)) k3
    have e : clR p T1 rk c r c - (1 * T1 r c + -(T1 r c * iv % p) * T1 rk c) + (T1 r c * iv - T1 r c * iv % p) * T1 rk c - T1 r c * (iv * T1 rk c - 1) = clR p T1 rk c r c := by
      rw [Int.one_mul, Int.neg_mul, Int.sub_mul, Int.mul_sub, Int.mul_one, Int.mul_assoc]
      omega
    rw [e] at k4
    exact k4
  refine ⟨by omega, clT_B h2 B1 rk c, fun j hj => ?_, fun a b hab hb => ?_, fun r hr1 hr2 k hk => ?_, fun r hr => ?_, fun v hv => ?_⟩
  · rw [top j (by omega)]
    unfold upN
    by_cases y : j = rk
    · rw [if_pos y, y]
      exact ⟨by omega, fun k hk => z1 rk (Nat.le_refl _) (by omega) k hk, nrk⟩
    · rw [if_neg y]
      obtain ⟨r', -, -, a3, a4⟩ := row j (by omega)
      rw [a4, a3 (by omega)]
      obtain ⟨g1, g2, g3⟩ := h3 j (by omega)
      exact ⟨by omega, g2, g3⟩
  · unfold upN
    by_cases y : b = rk
    · rw [if_pos y, if_neg (by omega)]
      exact (h3 a (by omega)).1
    · rw [if_neg y, if_neg (by omega)]
      exact h4 a b hab (by omega)
  · rw [low r (by omega) hr2]
    by_cases y : k = c
    · rw [y]; exact zc r (by omega) hr2
    · unfold clR
      rw [if_neg (by omega)]
      exact z1 r (by omega) hr2 k (by omega)
  · by_cases y : rk < r
    · rw [low r y hr]
      exact Der.comb (D1 r hr) (D1 rk (by omega)) (d := 1) (a := 1) (b := -(T1 r c * iv % p)) hp.1 (fun k _ => by rw [Int.one_mul (clR p T1 rk c r k)]; exact rel r y hr k)
    · rw [top r (by omega)]; exact D1 r hr
  · refine (h7 v hv).mono (fun w hw => ?_)
    obtain ⟨j, hj, rfl⟩ := hw
    obtain ⟨r', a1, a2⟩ := rowb j hj
    rw [a2]
    have brk : Der p cols (fun w => ∃ i, i < n ∧ w = clT p T1 n rk c i) (T1 rk) := Der.base ⟨rk, by omega, (top rk (by omega)).symm⟩
    by_cases y : rk < r'
    · refine Der.comb (Der.base ⟨r', a1, rfl⟩) brk (d := 1) (a := 1) (b := T1 r' c * iv % p) hp.1 (fun k _ => ?_)
      rw [low r' y a1]
      have k1 := Int.dvd_neg.mpr (rel r' y a1 k)
      have e : -(clR p T1 rk c r' k - (1 * T1 r' k + -(T1 r' c * iv % p) * T1 rk k)) = 1 * T1 r' k - (1 * clR p T1 rk c r' k + T1 r' c * iv % p * T1 rk k) := by
        rw [Int.neg_mul]; omega
      rw [e] at k1
      exact k1
    · exact Der.base ⟨r', a1, (top r' (by omega)).symm⟩
theorem gsF_ok {p : Int} (hp : PZ p) (h2 : 2 ≤ p) {cols n : Nat} (hcl : cols ≤ 22) {R : (Nat → Int) → Prop} : ∀ (f c rk : Nat) (T : Rt) (pv : Nat → Nat), c + f = cols → GI p cols n R c rk T pv → rkOK p cols R (gsF p n f c rk T) := by
  intro f
  induction f with
  | zero =>
    intro c rk T pv hc h
    refine GI_end hp (by omega) h (fun r h1 h2 k hk => h.2.2.2.2.1 r h1 h2 k (by omega))
  | succ f ih =>
    intro c rk T pv hc h
    have e : gsF p n (f + 1) c rk T = if rk < n then (if pvF T c (n - rk) rk < n then gsF p n f (c + 1) (rk + 1) (clT p (exT T (pvF T c (n - rk) rk) rk) n rk c) else gsF p n f (c + 1) rk T) else rk := rfl
    rw [e]
    by_cases c1 : rk < n
    · rw [if_pos c1]
      obtain ⟨a1, a2⟩ := pvF_at T c (n - rk) rk
      have a3 := pvF_rg T c (n - rk) rk
      by_cases c2 : pvF T c (n - rk) rk < n
      · rw [if_pos c2]
        refine ih (c + 1) (rk + 1) _ (upN pv rk c) (by omega) (GI_clear hp h2 (by omega) h a3.1 c2 (fun z => a2 (by omega) ?_))
        have b := h.2.1 _ c c2 (by omega)
        by_cases y : T (pvF T c (n - rk) rk) c = 0
        · exact y
        · have := Int.le_of_dvd (by omega) z
          omega
      · rw [if_neg c2]
        refine ih (c + 1) rk T pv (by omega) ?_
        obtain ⟨h1, hB, h3, h4, h5, h6, h7⟩ := h
        refine ⟨h1, hB, fun i hi => ⟨by have := (h3 i hi).1; omega, (h3 i hi).2⟩, h4, fun r hr1 hr2 k hk => ?_, h6, h7⟩
        by_cases y : k = c
        · rw [y, a1 r hr1 (by omega)]; exact Int.dvd_zero p
        · exact h5 r hr1 hr2 k (by omega)
    · rw [if_neg c1]
      exact GI_end hp (by omega) h (fun r h1' h2' => by have := h.1; omega)
theorem rkB_ok {p : Int} (hp : PZ p) (h2 : 2 ≤ p) {cols : Nat} (hcl : cols ≤ 22) (L : List (Nat → Int)) : rkOK p cols (fun v => v ∈ L) (rkB p L.length cols (rwL L)) := by
  have rel : ∀ r k, p ∣ 1 * tb0 p (rwL L) r k - (1 * rwL L r k + 0 * rwL L r k) := by
    intro r k
    have k1 := Int.dvd_neg.mpr (em_dv p (rwL L r k))
    have e : -(rwL L r k - rwL L r k % p) = 1 * tb0 p (rwL L) r k - (1 * rwL L r k + 0 * rwL L r k) := by
      unfold tb0
      rw [Int.one_mul, Int.one_mul, Int.zero_mul]
      omega
    rw [e] at k1
    exact k1
  have mem : ∀ r, r < L.length → rwL L r ∈ L := by
    intro r hr
    unfold rwL
    rw [List.getD_eq_getElem?_getD, List.getElem?_eq_getElem hr]
    exact List.getElem_mem hr
  refine gsF_ok hp h2 hcl cols 0 0 (tb0 p (rwL L)) (fun _ => 0) (by omega) ⟨Nat.zero_le _, fun r k _ _ => ⟨Int.emod_nonneg _ (by omega), Int.emod_lt_of_pos _ (by omega)⟩, fun i hi => absurd hi (Nat.not_lt_zero _), fun i j _ hj => absurd hj (Nat.not_lt_zero _), fun r _ _ k hk => absurd hk (Nat.not_lt_zero _), fun r hr => ?_, fun v hv => ?_⟩
  · exact Der.comb (Der.base (mem r hr)) (Der.base (mem r hr)) (d := 1) (a := 1) (b := 0) hp.1 (fun k _ => rel r k)
  · obtain ⟨r, hr, rfl⟩ := List.getElem_of_mem hv
    have e : L[r] = rwL L r := by
      unfold rwL
      rw [List.getD_eq_getElem?_getD, List.getElem?_eq_getElem hr]
      rfl
    rw [e]
    refine Der.comb (Der.base ⟨r, hr, rfl⟩) (Der.base ⟨r, hr, rfl⟩) (d := 1) (a := 1) (b := 0) hp.1 (fun k _ => ?_)
    have k1 := Int.dvd_neg.mpr (rel r k)
    have e2 : -(1 * tb0 p (rwL L) r k - (1 * rwL L r k + 0 * rwL L r k)) = 1 * rwL L r k - (1 * tb0 p (rwL L) r k + 0 * tb0 p (rwL L) r k) := by
      simp only [Int.one_mul, Int.zero_mul]
      omega
    rw [e2] at k1
    exact k1
