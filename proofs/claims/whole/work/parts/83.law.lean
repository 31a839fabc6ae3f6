/-! the law: what both sides hold between two calls -/
def SC (h : hp) (s len : Nat) (sc : Nat → Int) : Prop := hT h s = some (40, len) ∧ ∀ k, k < len → hI h 40 k s = iI (sc k)
def LK (h : hp) (ad : Ad) (X m : Nat) (A : Nat → Nat) (st st' : St) (s len : Nat) (sc : Nat → Int) : Prop := RX h ad st' ∧ ad 30 0 = X ∧ RM h m A st ∧ SC h s len sc
theorem SC_fx {h h' : hp} (f : FX h h') {s len : Nat} {sc : Nat → Int} (S : SC h s len sc) : SC h' s len sc := ⟨f.1 _ _ S.1, fun k hk => (f.2 40 k s (Or.inr rfl) (by rw [S.1]; exact fun z => by cases z)).1.trans (S.2 k hk)⟩
theorem SC_fm {h h' : hp} (f : FM h h') {s len : Nat} {sc : Nat → Int} (S : SC h s len sc) : SC h' s len sc := ⟨(f.1 _).trans S.1, fun k hk => (f.2.2 40 k s rfl).trans (S.2 k hk)⟩
theorem LK.x {h : hp} {ad : Ad} {X m : Nat} {A : Nat → Nat} {st st' : St} {s len : Nat} {sc : Nat → Int} (J : LK h ad X m A st st' s len sc) : isO h X 11 := by
  rw [← J.2.1]; exact xo_x J.1
theorem LK.m {h : hp} {ad : Ad} {X m : Nat} {A : Nat → Nat} {st st' : St} {s len : Nat} {sc : Nat → Int} (J : LK h ad X m A st st' s len sc) : isO h m 12 := mo J.2.2.1
theorem ixL {i j len : Nat} (hj : j ≤ 5) (hi : i + 6 ≤ len) (hl : len ≤ 3072) : vp_in (iI ((i : Int) + (j : Int))) len ∧ (iI ((i : Int) + (j : Int))).toNatClampNeg = i + j := ⟨iI_in (by omega) (by omega), by rw [iI_cl (by omega)]; omega⟩
theorem cs_piece {h : hp} {ad : Ad} {X m : Nat} {A : Nat → Nat} {st : St} {s len : Nat} {sc : Nat → Int} (J : LK h ad X m A st st s len sc) (g : GD st)  {K : Kt} (k : ∀ (h' : hp) (ad' : Ad), LK h' ad' X m A st (n_piece st) s len sc → K (some (.int (iI (r_piece st)))) h') : sp_X11_piece [.ref X] h K := by
  obtain ⟨R, e, M, S⟩ := J
  subst e
  exact ⟨ad, st, rfl, R, g.1, fun h' ad' R' F e' => k h' ad' ⟨R', e', RM_fx F M, SC_fx F S⟩⟩
theorem rs_piece {h : hp} {ad : Ad} {X m : Nat} {A : Nat → Nat} {st : St} {s len : Nat} {sc : Nat → Int} (J : LK h ad X m A st (n_piece st) s len sc) (g : GD st)  {K : Kt} (k : ∀ (h' : hp), LK h' ad X m A (n_piece st) (n_piece st) s len sc → K (some (.int (iI (r_piece st)))) h') : sp_X12_piece [.ref m] h K := by
  obtain ⟨R, e, M, S⟩ := J
  exact ⟨m, A, st, rfl, M, g.1, fun h' M' F => k h' ⟨RX_fm F R, e, M', SC_fm F S⟩⟩
theorem cs_put {h : hp} {ad : Ad} {X m : Nat} {A : Nat → Nat} {st : St} {s len : Nat} {sc : Nat → Int} (J : LK h ad X m A st st s len sc) (g : GD st) {a1 a2 : Int} (h1 : ir a1) (h2 : a2 = 0 ∨ a2 = 1) {K : Kt} (k : ∀ (h' : hp) (ad' : Ad), LK h' ad' X m A st (n_put st a1 a2) s len sc → K (some (.int (iI (r_put st a1)))) h') : sp_X11_put [.ref X, .int (iI a1), .int (iI a2)] h K := by
  obtain ⟨R, e, M, S⟩ := J
  subst e
  exact ⟨ad, st, a1, a2, rfl, R, g.1, h1, h2, fun h' R' F => k h' ad ⟨R', rfl, RM_fx F M, SC_fx F S⟩⟩
theorem rs_put {h : hp} {ad : Ad} {X m : Nat} {A : Nat → Nat} {st : St} {s len : Nat} {sc : Nat → Int} {a1 a2 : Int} (J : LK h ad X m A st (n_put st a1 a2) s len sc) (g : GD st) (h1 : ir a1) (h2 : a2 = 0 ∨ a2 = 1) {K : Kt} (k : ∀ (h' : hp), LK h' ad X m A (n_put st a1 a2) (n_put st a1 a2) s len sc → K (some (.int (iI (r_put st a1)))) h') : sp_X12_put [.ref m, .int (iI a1), .int (iI a2)] h K := by
  obtain ⟨R, e, M, S⟩ := J
  exact ⟨m, A, st, a1, a2, rfl, M, g.1, h1, h2, fun h' M' F => k h' ⟨RX_fm F R, e, M', SC_fm F S⟩⟩
theorem cs_wish {h : hp} {ad : Ad} {X m : Nat} {A : Nat → Nat} {st : St} {s len : Nat} {sc : Nat → Int} (J : LK h ad X m A st st s len sc) (g : GD st) {a1 a2 a3 a4 : Int} (h1 : ir a1) (h2 : ir a2) (h3 : ir a3) (h4 : ir a4) {K : Kt} (k : ∀ (h' : hp) (ad' : Ad), LK h' ad' X m A st (n_wish st a1 a2 a3 a4) s len sc → K (some (.int (iI (r_wish st a1 a2 a3 a4)))) h') : sp_X11_wish [.ref X, .int (iI a1), .int (iI a2), .int (iI a3), .int (iI a4)] h K := by
  obtain ⟨R, e, M, S⟩ := J
  subst e
  exact ⟨ad, st, a1, a2, a3, a4, rfl, R, g.1, h1, h2, h3, h4, fun h' R' F => k h' ad ⟨R', rfl, RM_fx F M, SC_fx F S⟩⟩
theorem rs_wish {h : hp} {ad : Ad} {X m : Nat} {A : Nat → Nat} {st : St} {s len : Nat} {sc : Nat → Int} {a1 a2 a3 a4 : Int} (J : LK h ad X m A st (n_wish st a1 a2 a3 a4) s len sc) (g : GD st) (h1 : ir a1) (h2 : ir a2) (h3 : ir a3) (h4 : ir a4) {K : Kt} (k : ∀ (h' : hp), LK h' ad X m A (n_wish st a1 a2 a3 a4) (n_wish st a1 a2 a3 a4) s len sc → K (some (.int (iI (r_wish st a1 a2 a3 a4)))) h') : sp_X12_wish [.ref m, .int (iI a1), .int (iI a2), .int (iI a3), .int (iI a4)] h K := by
  obtain ⟨R, e, M, S⟩ := J
  exact ⟨m, A, st, a1, a2, a3, a4, rfl, M, g.1, h1, h2, h3, h4, fun h' M' F => k h' ⟨RX_fm F R, e, M', SC_fm F S⟩⟩
theorem cs_about {h : hp} {ad : Ad} {X m : Nat} {A : Nat → Nat} {st : St} {s len : Nat} {sc : Nat → Int} (J : LK h ad X m A st st s len sc) (g : GD st) {a1 a2 : Int} (h1 : ir a1) (h2 : ir a2) {K : Kt} (k : ∀ (h' : hp) (ad' : Ad), LK h' ad' X m A st st s len sc → K (some (.int (iI (r_about st a1 a2)))) h') : sp_X11_about [.ref X, .int (iI a1), .int (iI a2)] h K := by
  obtain ⟨R, e, M, S⟩ := J
  subst e
  exact ⟨ad, st, a1, a2, rfl, R, g.1, h1, h2, k h ad ⟨R, rfl, M, S⟩⟩
theorem rs_about {h : hp} {ad : Ad} {X m : Nat} {A : Nat → Nat} {st : St} {s len : Nat} {sc : Nat → Int} {a1 a2 : Int} (J : LK h ad X m A st st s len sc) (g : GD st) (h1 : ir a1) (h2 : ir a2) {K : Kt} (k : ∀ (h' : hp), LK h' ad X m A st st s len sc → K (some (.int (iI (r_about st a1 a2)))) h') : sp_X12_about [.ref m, .int (iI a1), .int (iI a2)] h K := by
  obtain ⟨R, e, M, S⟩ := J
  exact ⟨m, A, st, a1, a2, rfl, M, g.1, h1, h2, k h ⟨R, e, M, S⟩⟩
theorem cs_eye {h : hp} {ad : Ad} {X m : Nat} {A : Nat → Nat} {st : St} {s len : Nat} {sc : Nat → Int} (J : LK h ad X m A st st s len sc) (g : GD st) {a1 a2 a3 a4 a5 : Int} (h1 : ir a1) (h2 : ir a2) (h3 : ir a3) (h4 : ir a4) (h5 : ir a5) {K : Kt} (k : ∀ (h' : hp) (ad' : Ad), LK h' ad' X m A st (n_eye st a1 a2 a3 a4 a5) s len sc → K (some (.int (iI (r_eye st a1 a2 a3 a4 a5)))) h') : sp_X11_eye [.ref X, .int (iI a1), .int (iI a2), .int (iI a3), .int (iI a4), .int (iI a5)] h K := by
  obtain ⟨R, e, M, S⟩ := J
  subst e
  exact ⟨ad, st, a1, a2, a3, a4, a5, rfl, R, g.1, h1, h2, h3, h4, h5, fun h' ad' R' F e' => k h' ad' ⟨R', e', RM_fx F M, SC_fx F S⟩⟩
theorem rs_eye {h : hp} {ad : Ad} {X m : Nat} {A : Nat → Nat} {st : St} {s len : Nat} {sc : Nat → Int} {a1 a2 a3 a4 a5 : Int} (J : LK h ad X m A st (n_eye st a1 a2 a3 a4 a5) s len sc) (g : GD st) (h1 : ir a1) (h2 : ir a2) (h3 : ir a3) (h4 : ir a4) (h5 : ir a5) {K : Kt} (k : ∀ (h' : hp), LK h' ad X m A (n_eye st a1 a2 a3 a4 a5) (n_eye st a1 a2 a3 a4 a5) s len sc → K (some (.int (iI (r_eye st a1 a2 a3 a4 a5)))) h') : sp_X12_eye [.ref m, .int (iI a1), .int (iI a2), .int (iI a3), .int (iI a4), .int (iI a5)] h K := by
  obtain ⟨R, e, M, S⟩ := J
  exact ⟨m, A, st, a1, a2, a3, a4, a5, rfl, M, g.1, h1, h2, h3, h4, h5, fun h' M' F => k h' ⟨RX_fm F R, e, M', SC_fm F S⟩⟩
theorem cs_blind {h : hp} {ad : Ad} {X m : Nat} {A : Nat → Nat} {st : St} {s len : Nat} {sc : Nat → Int} (J : LK h ad X m A st st s len sc) (g : GD st) {a1 a2 : Int} (h1 : ir a1) (h2 : a2 = 0 ∨ a2 = 1) {K : Kt} (k : ∀ (h' : hp) (ad' : Ad), LK h' ad' X m A st (n_blind st a1 a2) s len sc → K (some (.int (iI (r_blind st a1)))) h') : sp_X11_blind [.ref X, .int (iI a1), .int (iI a2)] h K := by
  obtain ⟨R, e, M, S⟩ := J
  subst e
  exact ⟨ad, st, a1, a2, rfl, R, g.1, h1, h2, fun h' R' F => k h' ad ⟨R', rfl, RM_fx F M, SC_fx F S⟩⟩
theorem rs_blind {h : hp} {ad : Ad} {X m : Nat} {A : Nat → Nat} {st : St} {s len : Nat} {sc : Nat → Int} {a1 a2 : Int} (J : LK h ad X m A st (n_blind st a1 a2) s len sc) (g : GD st) (h1 : ir a1) (h2 : a2 = 0 ∨ a2 = 1) {K : Kt} (k : ∀ (h' : hp), LK h' ad X m A (n_blind st a1 a2) (n_blind st a1 a2) s len sc → K (some (.int (iI (r_blind st a1)))) h') : sp_X12_blind [.ref m, .int (iI a1), .int (iI a2)] h K := by
  obtain ⟨R, e, M, S⟩ := J
  exact ⟨m, A, st, a1, a2, rfl, M, g.1, h1, h2, fun h' M' F => k h' ⟨RX_fm F R, e, M', SC_fm F S⟩⟩
theorem cs_drift {h : hp} {ad : Ad} {X m : Nat} {A : Nat → Nat} {st : St} {s len : Nat} {sc : Nat → Int} (J : LK h ad X m A st st s len sc) (g : GD st) {a1 a2 : Int} (h1 : ir a1) (h2 : ir a2) {K : Kt} (k : ∀ (h' : hp) (ad' : Ad), LK h' ad' X m A st (n_drift st a1 a2) s len sc → K (some (.int (iI (r_drift st a1 a2)))) h') : sp_X11_drift [.ref X, .int (iI a1), .int (iI a2)] h K := by
  obtain ⟨R, e, M, S⟩ := J
  subst e
  exact ⟨ad, st, a1, a2, rfl, R, g.1, h1, h2, fun h' R' F => k h' ad ⟨R', rfl, RM_fx F M, SC_fx F S⟩⟩
theorem rs_drift {h : hp} {ad : Ad} {X m : Nat} {A : Nat → Nat} {st : St} {s len : Nat} {sc : Nat → Int} {a1 a2 : Int} (J : LK h ad X m A st (n_drift st a1 a2) s len sc) (g : GD st) (h1 : ir a1) (h2 : ir a2) {K : Kt} (k : ∀ (h' : hp), LK h' ad X m A (n_drift st a1 a2) (n_drift st a1 a2) s len sc → K (some (.int (iI (r_drift st a1 a2)))) h') : sp_X12_drift [.ref m, .int (iI a1), .int (iI a2)] h K := by
  obtain ⟨R, e, M, S⟩ := J
  exact ⟨m, A, st, a1, a2, rfl, M, g.1, h1, h2, fun h' M' F => k h' ⟨RX_fm F R, e, M', SC_fm F S⟩⟩
theorem cs_tells {h : hp} {ad : Ad} {X m : Nat} {A : Nat → Nat} {st : St} {s len : Nat} {sc : Nat → Int} (J : LK h ad X m A st st s len sc) (g : GD st) {a1 : Int} (h1 : ir a1) {K : Kt} (k : ∀ (h' : hp) (ad' : Ad), LK h' ad' X m A st st s len sc → K (some (.int (iI (r_tells st a1)))) h') : sp_X11_tells [.ref X, .int (iI a1)] h K := by
  obtain ⟨R, e, M, S⟩ := J
  subst e
  exact ⟨ad, st, a1, rfl, R, g.1, h1, k h ad ⟨R, rfl, M, S⟩⟩
theorem rs_tells {h : hp} {ad : Ad} {X m : Nat} {A : Nat → Nat} {st : St} {s len : Nat} {sc : Nat → Int} {a1 : Int} (J : LK h ad X m A st st s len sc) (g : GD st) (h1 : ir a1) {K : Kt} (k : ∀ (h' : hp), LK h' ad X m A st st s len sc → K (some (.int (iI (r_tells st a1)))) h') : sp_X12_tells [.ref m, .int (iI a1)] h K := by
  obtain ⟨R, e, M, S⟩ := J
  exact ⟨m, A, st, a1, rfl, M, g.1, h1, k h ⟨R, e, M, S⟩⟩
theorem cs_moves {h : hp} {ad : Ad} {X m : Nat} {A : Nat → Nat} {st : St} {s len : Nat} {sc : Nat → Int} (J : LK h ad X m A st st s len sc) (g : GD st) {a1 : Int} (h1 : a1 = 0 ∨ a1 = 1) {K : Kt} (k : ∀ (h' : hp) (ad' : Ad), LK h' ad' X m A st st s len sc → K (some (.int (iI (rx_moves st a1)))) h') : sp_X11_moves [.ref X, .int (iI a1)] h K := by
  obtain ⟨R, e, M, S⟩ := J
  subst e
  exact ⟨ad, st, a1, rfl, R, g.1, (by omega), fun h' F => k h' ad ⟨RX_fs F R, rfl, RM_fx F.x M, SC_fx F.x S⟩⟩
theorem rs_moves {h : hp} {ad : Ad} {X m : Nat} {A : Nat → Nat} {st : St} {s len : Nat} {sc : Nat → Int} {a1 : Int} (J : LK h ad X m A st st s len sc) (g : GD st) (h1 : a1 = 0 ∨ a1 = 1) {K : Kt} (k : ∀ (h' : hp), LK h' ad X m A st st s len sc → K (some (.int (iI (rx_moves st a1)))) h') : sp_X12_moves [.ref m, .int (iI a1)] h K := by
  obtain ⟨R, e, M, S⟩ := J
  rw [eq_moves g.1 a1] at k
  exact ⟨m, A, st, a1, rfl, M, g.1, (by omega), fun h' F => k h' ⟨RX_fm F.x R, e, RM_fm F M, SC_fm F.x S⟩⟩
theorem cs_unseen {h : hp} {ad : Ad} {X m : Nat} {A : Nat → Nat} {st : St} {s len : Nat} {sc : Nat → Int} (J : LK h ad X m A st st s len sc) (g : GD st)  {K : Kt} (k : ∀ (h' : hp) (ad' : Ad), LK h' ad' X m A st st s len sc → K (some (.int (iI (r_unseen st)))) h') : sp_X11_unseen [.ref X] h K := by
  obtain ⟨R, e, M, S⟩ := J
  subst e
  exact ⟨ad, st, rfl, R, g.1, k h ad ⟨R, rfl, M, S⟩⟩
theorem rs_unseen {h : hp} {ad : Ad} {X m : Nat} {A : Nat → Nat} {st : St} {s len : Nat} {sc : Nat → Int} (J : LK h ad X m A st st s len sc) (g : GD st)  {K : Kt} (k : ∀ (h' : hp), LK h' ad X m A st st s len sc → K (some (.int (iI (r_unseen st)))) h') : sp_X12_unseen [.ref m] h K := by
  obtain ⟨R, e, M, S⟩ := J
  exact ⟨m, A, st, rfl, M, g.1, k h ⟨R, e, M, S⟩⟩
theorem cs_needed {h : hp} {ad : Ad} {X m : Nat} {A : Nat → Nat} {st : St} {s len : Nat} {sc : Nat → Int} (J : LK h ad X m A st st s len sc) (g : GD st) {a1 : Int} (h1 : ir a1) {K : Kt} (k : ∀ (h' : hp) (ad' : Ad), LK h' ad' X m A st st s len sc → K (some (.int (iI (rx_needed st a1)))) h') : sp_X11_needed [.ref X, .int (iI a1)] h K := by
  obtain ⟨R, e, M, S⟩ := J
  subst e
  exact ⟨ad, st, a1, rfl, R, g.1, h1, fun h' F => k h' ad ⟨RX_fs F R, rfl, RM_fx F.x M, SC_fx F.x S⟩⟩
theorem rs_needed {h : hp} {ad : Ad} {X m : Nat} {A : Nat → Nat} {st : St} {s len : Nat} {sc : Nat → Int} {a1 : Int} (J : LK h ad X m A st st s len sc) (g : GD st) (h1 : ir a1) {K : Kt} (k : ∀ (h' : hp), LK h' ad X m A st st s len sc → K (some (.int (iI (rx_needed st a1)))) h') : sp_X12_needed [.ref m, .int (iI a1)] h K := by
  obtain ⟨R, e, M, S⟩ := J
  rw [eq_needed g.1 a1] at k
  exact ⟨m, A, st, a1, rfl, M, g.1, h1, fun h' F => k h' ⟨RX_fm F.x R, e, RM_fm F M, SC_fm F.x S⟩⟩
theorem cs_cheapest {h : hp} {ad : Ad} {X m : Nat} {A : Nat → Nat} {st : St} {s len : Nat} {sc : Nat → Int} (J : LK h ad X m A st st s len sc) (g : GD st)  {K : Kt} (k : ∀ (h' : hp) (ad' : Ad), LK h' ad' X m A st st s len sc → K (some (.int (iI (chS st)))) h') : sp_X11_cheapest [.ref X] h K := by
  obtain ⟨R, e, M, S⟩ := J
  subst e
  exact ⟨ad, st, rfl, R, g.1, fun h' F => k h' ad ⟨RX_fs F R, rfl, RM_fx F.x M, SC_fx F.x S⟩⟩
theorem rs_cheapest {h : hp} {ad : Ad} {X m : Nat} {A : Nat → Nat} {st : St} {s len : Nat} {sc : Nat → Int} (J : LK h ad X m A st st s len sc) (g : GD st)  {K : Kt} (k : ∀ (h' : hp), LK h' ad X m A st st s len sc → K (some (.int (iI (chS st)))) h') : sp_X12_cheapest [.ref m] h K := by
  obtain ⟨R, e, M, S⟩ := J
  rw [eq_cheapest g.1] at k
  exact ⟨m, A, st, rfl, M, g.1, fun h' F => k h' ⟨RX_fm F.x R, e, RM_fm F M, SC_fm F.x S⟩⟩
theorem cs_keep {h : hp} {ad : Ad} {X m : Nat} {A : Nat → Nat} {st : St} {s len : Nat} {sc : Nat → Int} (J : LK h ad X m A st st s len sc) (g : GD st) {a1 : Int} (h1 : ir a1) {K : Kt} (k : ∀ (h' : hp) (ad' : Ad), LK h' ad' X m A st st s len sc → K (some (.int (iI (nthS (chP st) a1)))) h') : sp_X11_keep [.ref X, .int (iI a1)] h K := by
  obtain ⟨R, e, M, S⟩ := J
  subst e
  exact ⟨ad, st, a1, rfl, R, g.1, h1, fun h' F => k h' ad ⟨RX_fs F R, rfl, RM_fx F.x M, SC_fx F.x S⟩⟩
theorem rs_keep {h : hp} {ad : Ad} {X m : Nat} {A : Nat → Nat} {st : St} {s len : Nat} {sc : Nat → Int} {a1 : Int} (J : LK h ad X m A st st s len sc) (g : GD st) (h1 : ir a1) {K : Kt} (k : ∀ (h' : hp), LK h' ad X m A st st s len sc → K (some (.int (iI (nthS (chP st) a1)))) h') : sp_X12_keep [.ref m, .int (iI a1)] h K := by
  obtain ⟨R, e, M, S⟩ := J
  rw [eq_keep g.1 a1] at k
  exact ⟨m, A, st, a1, rfl, M, g.1, h1, fun h' F => k h' ⟨RX_fm F.x R, e, RM_fm F M, SC_fm F.x S⟩⟩
theorem cs_sure {h : hp} {ad : Ad} {X m : Nat} {A : Nat → Nat} {st : St} {s len : Nat} {sc : Nat → Int} (J : LK h ad X m A st st s len sc) (g : GD st) {a1 a2 a3 a4 : Int} (h1 : ir a1) (h2 : ir a2) (h3 : ir a3) (h4 : ir a4) {K : Kt} (k : ∀ (h' : hp) (ad' : Ad), LK h' ad' X m A st st s len sc → K (some (.int (iI (rx_sure st a1 a2 a3 a4)))) h') : sp_X11_sure [.ref X, .int (iI a1), .int (iI a2), .int (iI a3), .int (iI a4)] h K := by
  obtain ⟨R, e, M, S⟩ := J
  subst e
  exact ⟨ad, st, a1, a2, a3, a4, rfl, R, g.1, h1, h2, h3, h4, fun h' F => k h' ad ⟨RX_fs F R, rfl, RM_fx F.x M, SC_fx F.x S⟩⟩
theorem rs_sure {h : hp} {ad : Ad} {X m : Nat} {A : Nat → Nat} {st : St} {s len : Nat} {sc : Nat → Int} {a1 a2 a3 a4 : Int} (J : LK h ad X m A st st s len sc) (g : GD st) (h1 : ir a1) (h2 : ir a2) (h3 : ir a3) (h4 : ir a4) {K : Kt} (k : ∀ (h' : hp), LK h' ad X m A st st s len sc → K (some (.int (iI (rx_sure st a1 a2 a3 a4)))) h') : sp_X12_sure [.ref m, .int (iI a1), .int (iI a2), .int (iI a3), .int (iI a4)] h K := by
  obtain ⟨R, e, M, S⟩ := J
  rw [eq_sure g.1 a1 a2 a3 a4] at k
  exact ⟨m, A, st, a1, a2, a3, a4, rfl, M, g.1, h1, h2, h3, h4, fun h' F => k h' ⟨RX_fm F.x R, e, RM_fm F M, SC_fm F.x S⟩⟩
theorem cs_without {h : hp} {ad : Ad} {X m : Nat} {A : Nat → Nat} {st : St} {s len : Nat} {sc : Nat → Int} (J : LK h ad X m A st st s len sc) (g : GD st) {a1 : Int} (h1 : ir a1) {K : Kt} (k : ∀ (h' : hp) (ad' : Ad), LK h' ad' X m A st st s len sc → K (some (.int (iI (rx_without st a1)))) h') : sp_X11_without [.ref X, .int (iI a1)] h K := by
  obtain ⟨R, e, M, S⟩ := J
  subst e
  exact ⟨ad, st, a1, rfl, R, g.1, h1, fun h' F => k h' ad ⟨RX_fs F R, rfl, RM_fx F.x M, SC_fx F.x S⟩⟩
theorem rs_without {h : hp} {ad : Ad} {X m : Nat} {A : Nat → Nat} {st : St} {s len : Nat} {sc : Nat → Int} {a1 : Int} (J : LK h ad X m A st st s len sc) (g : GD st) (h1 : ir a1) {K : Kt} (k : ∀ (h' : hp), LK h' ad X m A st st s len sc → K (some (.int (iI (rx_without st a1)))) h') : sp_X12_without [.ref m, .int (iI a1)] h K := by
  obtain ⟨R, e, M, S⟩ := J
  rw [eq_without g.1 a1] at k
  exact ⟨m, A, st, a1, rfl, M, g.1, h1, fun h' M' F => k h' ⟨RX_fm F R, e, M', SC_fm F S⟩⟩
theorem cs_read {h : hp} {ad : Ad} {X m : Nat} {A : Nat → Nat} {st : St} {s len : Nat} {sc : Nat → Int} (J : LK h ad X m A st st s len sc) (g : GD st) {a1 a2 : Int} (h1 : ir a1) (h2 : ir a2) {K : Kt} (k : ∀ (h' : hp) (ad' : Ad), LK h' ad' X m A st (n_read st a1 a2) s len sc → K (some (.int (iI (r_read st a1 a2)))) h') : sp_X11_read [.ref X, .int (iI a1), .int (iI a2)] h K := by
  obtain ⟨R, e, M, S⟩ := J
  subst e
  exact ⟨ad, st, a1, a2, rfl, R, g.1, h1, h2, fun h' R' F => k h' ad ⟨R', rfl, RM_fx F M, SC_fx F S⟩⟩
theorem rs_read {h : hp} {ad : Ad} {X m : Nat} {A : Nat → Nat} {st : St} {s len : Nat} {sc : Nat → Int} {a1 a2 : Int} (J : LK h ad X m A st (n_read st a1 a2) s len sc) (g : GD st) (h1 : ir a1) (h2 : ir a2) {K : Kt} (k : ∀ (h' : hp), LK h' ad X m A (n_read st a1 a2) (n_read st a1 a2) s len sc → K (some (.int (iI (r_read st a1 a2)))) h') : sp_X12_read [.ref m, .int (iI a1), .int (iI a2)] h K := by
  obtain ⟨R, e, M, S⟩ := J
  exact ⟨m, A, st, a1, a2, rfl, M, g.1, h1, h2, fun h' M' F => k h' ⟨RX_fm F R, e, M', SC_fm F S⟩⟩
theorem cs_readAll {h : hp} {ad : Ad} {X m : Nat} {A : Nat → Nat} {st : St} {s len : Nat} {sc : Nat → Int} (J : LK h ad X m A st st s len sc) (g : GD st)  {K : Kt} (k : ∀ (h' : hp) (ad' : Ad), LK h' ad' X m A st (n_readAll st) s len sc → K (some (.int (iI (r_readAll st)))) h') : sp_X11_readAll [.ref X] h K := by
  obtain ⟨R, e, M, S⟩ := J
  subst e
  exact ⟨ad, st, rfl, R, g.1, fun h' R' F => k h' ad ⟨R', rfl, RM_fx F M, SC_fx F S⟩⟩
theorem rs_readAll {h : hp} {ad : Ad} {X m : Nat} {A : Nat → Nat} {st : St} {s len : Nat} {sc : Nat → Int} (J : LK h ad X m A st (n_readAll st) s len sc) (g : GD st)  {K : Kt} (k : ∀ (h' : hp), LK h' ad X m A (n_readAll st) (n_readAll st) s len sc → K (some (.int (iI (r_readAll st)))) h') : sp_X12_readAll [.ref m] h K := by
  obtain ⟨R, e, M, S⟩ := J
  exact ⟨m, A, st, rfl, M, g.1, fun h' M' F => k h' ⟨RX_fm F R, e, M', SC_fm F S⟩⟩
theorem cs_agree {h : hp} {ad : Ad} {X m : Nat} {A : Nat → Nat} {st : St} {s len : Nat} {sc : Nat → Int} (J : LK h ad X m A st st s len sc) (g : GD st)  {K : Kt} (k : ∀ (h' : hp) (ad' : Ad), LK h' ad' X m A st st s len sc → K (some (.int (iI (if agS st (-900009) then 1 else 0)))) h') : sp_X11_agree [.ref X] h K := by
  obtain ⟨R, e, M, S⟩ := J
  subst e
  exact ⟨ad, st, rfl, R, g.1, fun h' F => k h' ad ⟨RX_fs F R, rfl, RM_fx F.x M, SC_fx F.x S⟩⟩
theorem rs_agree {h : hp} {ad : Ad} {X m : Nat} {A : Nat → Nat} {st : St} {s len : Nat} {sc : Nat → Int} (J : LK h ad X m A st st s len sc) (g : GD st)  {K : Kt} (k : ∀ (h' : hp), LK h' ad X m A st st s len sc → K (some (.int (iI (if agS st (-900009) then 1 else 0)))) h') : sp_X12_agree [.ref m] h K := by
  obtain ⟨R, e, M, S⟩ := J
  rw [eq_agree g.1] at k
  exact ⟨m, A, st, rfl, M, g.1, fun h' F => k h' ⟨RX_fm F.x R, e, RM_fm F M, SC_fm F.x S⟩⟩
theorem cs_liars {h : hp} {ad : Ad} {X m : Nat} {A : Nat → Nat} {st : St} {s len : Nat} {sc : Nat → Int} (J : LK h ad X m A st st s len sc) (g : GD st)  {K : Kt} (k : ∀ (h' : hp) (ad' : Ad), LK h' ad' X m A st st s len sc → K (some (.int (iI (cntN (lrP st) 24 : Nat)))) h') : sp_X11_liars [.ref X] h K := by
  obtain ⟨R, e, M, S⟩ := J
  subst e
  exact ⟨ad, st, rfl, R, g.1, fun h' F => k h' ad ⟨RX_fs F R, rfl, RM_fx F.x M, SC_fx F.x S⟩⟩
theorem rs_liars {h : hp} {ad : Ad} {X m : Nat} {A : Nat → Nat} {st : St} {s len : Nat} {sc : Nat → Int} (J : LK h ad X m A st st s len sc) (g : GD st)  {K : Kt} (k : ∀ (h' : hp), LK h' ad X m A st st s len sc → K (some (.int (iI (cntN (lrP st) 24 : Nat)))) h') : sp_X12_liars [.ref m] h K := by
  obtain ⟨R, e, M, S⟩ := J
  rw [eq_liars g.1] at k
  exact ⟨m, A, st, rfl, M, g.1, fun h' F => k h' ⟨RX_fm F.x R, e, RM_fm F M, SC_fm F.x S⟩⟩
theorem cs_liar {h : hp} {ad : Ad} {X m : Nat} {A : Nat → Nat} {st : St} {s len : Nat} {sc : Nat → Int} (J : LK h ad X m A st st s len sc) (g : GD st) {a1 : Int} (h1 : ir a1) {K : Kt} (k : ∀ (h' : hp) (ad' : Ad), LK h' ad' X m A st st s len sc → K (some (.int (iI (nthS (lrP st) a1)))) h') : sp_X11_liar [.ref X, .int (iI a1)] h K := by
  obtain ⟨R, e, M, S⟩ := J
  subst e
  exact ⟨ad, st, a1, rfl, R, g.1, h1, fun h' F => k h' ad ⟨RX_fs F R, rfl, RM_fx F.x M, SC_fx F.x S⟩⟩
theorem rs_liar {h : hp} {ad : Ad} {X m : Nat} {A : Nat → Nat} {st : St} {s len : Nat} {sc : Nat → Int} {a1 : Int} (J : LK h ad X m A st st s len sc) (g : GD st) (h1 : ir a1) {K : Kt} (k : ∀ (h' : hp), LK h' ad X m A st st s len sc → K (some (.int (iI (nthS (lrP st) a1)))) h') : sp_X12_liar [.ref m, .int (iI a1)] h K := by
  obtain ⟨R, e, M, S⟩ := J
  rw [eq_liar g.1 a1] at k
  exact ⟨m, A, st, a1, rfl, M, g.1, h1, fun h' F => k h' ⟨RX_fm F.x R, e, RM_fm F M, SC_fm F.x S⟩⟩
theorem cs_leg {h : hp} {ad : Ad} {X m : Nat} {A : Nat → Nat} {st : St} {s len : Nat} {sc : Nat → Int} (J : LK h ad X m A st st s len sc) (g : GD st) {a1 a2 a3 a4 a5 : Int} (h1 : ir a1) (h2 : ir a2) (h3 : ir a3) (h4 : ir a4) (h5 : ir a5) {K : Kt} (k : ∀ (h' : hp) (ad' : Ad), LK h' ad' X m A st (n_leg st a1 a2 a3 a4 a5) s len sc → K (some (.int (iI (r_leg st a1 a2 a3 a4 a5)))) h') : sp_X11_leg [.ref X, .int (iI a1), .int (iI a2), .int (iI a3), .int (iI a4), .int (iI a5)] h K := by
  obtain ⟨R, e, M, S⟩ := J
  subst e
  exact ⟨ad, st, a1, a2, a3, a4, a5, rfl, R, g.1, g.2, h1, h2, h3, h4, h5, fun h' ad' R' F e' => k h' ad' ⟨R', e', RM_fx F M, SC_fx F S⟩⟩
theorem rs_leg {h : hp} {ad : Ad} {X m : Nat} {A : Nat → Nat} {st : St} {s len : Nat} {sc : Nat → Int} {a1 a2 a3 a4 a5 : Int} (J : LK h ad X m A st (n_leg st a1 a2 a3 a4 a5) s len sc) (g : GD st) (h1 : ir a1) (h2 : ir a2) (h3 : ir a3) (h4 : ir a4) (h5 : ir a5) {K : Kt} (k : ∀ (h' : hp), LK h' ad X m A (n_leg st a1 a2 a3 a4 a5) (n_leg st a1 a2 a3 a4 a5) s len sc → K (some (.int (iI (r_leg st a1 a2 a3 a4 a5)))) h') : sp_X12_leg [.ref m, .int (iI a1), .int (iI a2), .int (iI a3), .int (iI a4), .int (iI a5)] h K := by
  obtain ⟨R, e, M, S⟩ := J
  exact ⟨m, A, st, a1, a2, a3, a4, a5, rfl, M, g.1, g.2, h1, h2, h3, h4, h5, fun h' M' F => k h' ⟨RX_fm F R, e, M', SC_fm F S⟩⟩
theorem cs_stick {h : hp} {ad : Ad} {X m : Nat} {A : Nat → Nat} {st : St} {s len : Nat} {sc : Nat → Int} (J : LK h ad X m A st st s len sc) (g : GD st) {a1 a2 : Int} (h1 : ir a1) (h2 : ir a2) {K : Kt} (k : ∀ (h' : hp) (ad' : Ad), LK h' ad' X m A st (n_stick st a1 a2) s len sc → K (some (.int (iI (r_stick st a1 a2)))) h') : sp_X11_stick [.ref X, .int (iI a1), .int (iI a2)] h K := by
  obtain ⟨R, e, M, S⟩ := J
  subst e
  exact ⟨ad, st, a1, a2, rfl, R, g.1, h1, h2, fun h' R' F => k h' ad ⟨R', rfl, RM_fx F M, SC_fx F S⟩⟩
theorem rs_stick {h : hp} {ad : Ad} {X m : Nat} {A : Nat → Nat} {st : St} {s len : Nat} {sc : Nat → Int} {a1 a2 : Int} (J : LK h ad X m A st (n_stick st a1 a2) s len sc) (g : GD st) (h1 : ir a1) (h2 : ir a2) {K : Kt} (k : ∀ (h' : hp), LK h' ad X m A (n_stick st a1 a2) (n_stick st a1 a2) s len sc → K (some (.int (iI (r_stick st a1 a2)))) h') : sp_X12_stick [.ref m, .int (iI a1), .int (iI a2)] h K := by
  obtain ⟨R, e, M, S⟩ := J
  exact ⟨m, A, st, a1, a2, rfl, M, g.1, h1, h2, fun h' M' F => k h' ⟨RX_fm F R, e, M', SC_fm F S⟩⟩
theorem cs_bars {h : hp} {ad : Ad} {X m : Nat} {A : Nat → Nat} {st : St} {s len : Nat} {sc : Nat → Int} (J : LK h ad X m A st st s len sc) (g : GD st) {a1 : Int} (h1 : ir a1) {K : Kt} (k : ∀ (h' : hp) (ad' : Ad), LK h' ad' X m A st st s len sc → K (some (.int (iI (r_bars st a1)))) h') : sp_X11_bars [.ref X, .int (iI a1)] h K := by
  obtain ⟨R, e, M, S⟩ := J
  subst e
  exact ⟨ad, st, a1, rfl, R, g.1, h1, k h ad ⟨R, rfl, M, S⟩⟩
theorem rs_bars {h : hp} {ad : Ad} {X m : Nat} {A : Nat → Nat} {st : St} {s len : Nat} {sc : Nat → Int} {a1 : Int} (J : LK h ad X m A st st s len sc) (g : GD st) (h1 : ir a1) {K : Kt} (k : ∀ (h' : hp), LK h' ad X m A st st s len sc → K (some (.int (iI (r_bars st a1)))) h') : sp_X12_bars [.ref m, .int (iI a1)] h K := by
  obtain ⟨R, e, M, S⟩ := J
  exact ⟨m, A, st, a1, rfl, M, g.1, h1, k h ⟨R, e, M, S⟩⟩
theorem cs_set {h : hp} {ad : Ad} {X m : Nat} {A : Nat → Nat} {st : St} {s len : Nat} {sc : Nat → Int} (J : LK h ad X m A st st s len sc) (g : GD st) {a1 : Int} (h1 : ir a1) {K : Kt} (k : ∀ (h' : hp) (ad' : Ad), LK h' ad' X m A st (n_set st a1) s len sc → K (some (.int (iI (r_set st a1)))) h') : sp_X11_set [.ref X, .int (iI a1)] h K := by
  obtain ⟨R, e, M, S⟩ := J
  subst e
  exact ⟨ad, st, a1, rfl, R, g.1, h1, fun h' R' F => k h' ad ⟨R', rfl, RM_fx F M, SC_fx F S⟩⟩
theorem rs_set {h : hp} {ad : Ad} {X m : Nat} {A : Nat → Nat} {st : St} {s len : Nat} {sc : Nat → Int} {a1 : Int} (J : LK h ad X m A st (n_set st a1) s len sc) (g : GD st) (h1 : ir a1) {K : Kt} (k : ∀ (h' : hp), LK h' ad X m A (n_set st a1) (n_set st a1) s len sc → K (some (.int (iI (r_set st a1)))) h') : sp_X12_set [.ref m, .int (iI a1)] h K := by
  obtain ⟨R, e, M, S⟩ := J
  exact ⟨m, A, st, a1, rfl, M, g.1, h1, fun h' M' F => k h' ⟨RX_fm F R, e, M', SC_fm F S⟩⟩
theorem cs_pair {h : hp} {ad : Ad} {X m : Nat} {A : Nat → Nat} {st : St} {s len : Nat} {sc : Nat → Int} (J : LK h ad X m A st st s len sc) (g : GD st) {a1 a2 a3 a4 : Int} (h1 : ir a1) (h2 : ir a2) (h3 : ir a3) (h4 : ir a4) {K : Kt} (k : ∀ (h' : hp) (ad' : Ad), LK h' ad' X m A st (n_pair st a1 a2 a3 a4) s len sc → K (some (.int (iI (r_pair st a1 a2 a3 a4)))) h') : sp_X11_pair [.ref X, .int (iI a1), .int (iI a2), .int (iI a3), .int (iI a4)] h K := by
  obtain ⟨R, e, M, S⟩ := J
  subst e
  exact ⟨ad, st, a1, a2, a3, a4, rfl, R, g.1, h1, h2, h3, h4, fun h' ad' R' F e' => k h' ad' ⟨R', e', RM_fx F M, SC_fx F S⟩⟩
theorem rs_pair {h : hp} {ad : Ad} {X m : Nat} {A : Nat → Nat} {st : St} {s len : Nat} {sc : Nat → Int} {a1 a2 a3 a4 : Int} (J : LK h ad X m A st (n_pair st a1 a2 a3 a4) s len sc) (g : GD st) (h1 : ir a1) (h2 : ir a2) (h3 : ir a3) (h4 : ir a4) {K : Kt} (k : ∀ (h' : hp), LK h' ad X m A (n_pair st a1 a2 a3 a4) (n_pair st a1 a2 a3 a4) s len sc → K (some (.int (iI (r_pair st a1 a2 a3 a4)))) h') : sp_X12_pair [.ref m, .int (iI a1), .int (iI a2), .int (iI a3), .int (iI a4)] h K := by
  obtain ⟨R, e, M, S⟩ := J
  exact ⟨m, A, st, a1, a2, a3, a4, rfl, M, g.1, h1, h2, h3, h4, fun h' M' F => k h' ⟨RX_fm F R, e, M', SC_fm F S⟩⟩
theorem cs_drop {h : hp} {ad : Ad} {X m : Nat} {A : Nat → Nat} {st : St} {s len : Nat} {sc : Nat → Int} (J : LK h ad X m A st st s len sc) (g : GD st) {a1 : Int} (h1 : ir a1) {K : Kt} (k : ∀ (h' : hp) (ad' : Ad), LK h' ad' X m A st (n_drop st a1) s len sc → K (some (.int (iI (r_drop st a1)))) h') : sp_X11_drop [.ref X, .int (iI a1)] h K := by
  obtain ⟨R, e, M, S⟩ := J
  subst e
  exact ⟨ad, st, a1, rfl, R, g.1, h1, fun h' ad' R' F e' => k h' ad' ⟨R', e', RM_fx F M, SC_fx F S⟩⟩
theorem rs_drop {h : hp} {ad : Ad} {X m : Nat} {A : Nat → Nat} {st : St} {s len : Nat} {sc : Nat → Int} {a1 : Int} (J : LK h ad X m A st (n_drop st a1) s len sc) (g : GD st) (h1 : ir a1) {K : Kt} (k : ∀ (h' : hp), LK h' ad X m A (n_drop st a1) (n_drop st a1) s len sc → K (some (.int (iI (r_drop st a1)))) h') : sp_X12_drop [.ref m, .int (iI a1)] h K := by
  obtain ⟨R, e, M, S⟩ := J
  exact ⟨m, A, st, a1, rfl, M, g.1, h1, fun h' M' F => k h' ⟨RX_fm F R, e, M', SC_fm F S⟩⟩
theorem cs_reach {h : hp} {ad : Ad} {X m : Nat} {A : Nat → Nat} {st : St} {s len : Nat} {sc : Nat → Int} (J : LK h ad X m A st st s len sc) (g : GD st) {a1 : Int} (h1 : ir a1) {K : Kt} (k : ∀ (h' : hp) (ad' : Ad), LK h' ad' X m A st (n_reach st a1) s len sc → K (some (.int (iI (r_reach st a1)))) h') : sp_X11_reach [.ref X, .int (iI a1)] h K := by
  obtain ⟨R, e, M, S⟩ := J
  subst e
  exact ⟨ad, st, a1, rfl, R, g.1, h1, fun h' R' F => k h' ad ⟨R', rfl, RM_fx F M, SC_fx F S⟩⟩
theorem rs_reach {h : hp} {ad : Ad} {X m : Nat} {A : Nat → Nat} {st : St} {s len : Nat} {sc : Nat → Int} {a1 : Int} (J : LK h ad X m A st (n_reach st a1) s len sc) (g : GD st) (h1 : ir a1) {K : Kt} (k : ∀ (h' : hp), LK h' ad X m A (n_reach st a1) (n_reach st a1) s len sc → K (some (.int (iI (r_reach st a1)))) h') : sp_X12_reach [.ref m, .int (iI a1)] h K := by
  obtain ⟨R, e, M, S⟩ := J
  exact ⟨m, A, st, a1, rfl, M, g.1, h1, fun h' M' F => k h' ⟨RX_fm F R, e, M', SC_fm F S⟩⟩
theorem cs_ways {h : hp} {ad : Ad} {X m : Nat} {A : Nat → Nat} {st : St} {s len : Nat} {sc : Nat → Int} (J : LK h ad X m A st st s len sc) (g : GD st)  {K : Kt} (k : ∀ (h' : hp) (ad' : Ad), LK h' ad' X m A st st s len sc → K (some (.int (iI (rx_ways st)))) h') : sp_X11_ways [.ref X] h K := by
  obtain ⟨R, e, M, S⟩ := J
  subst e
  exact ⟨ad, st, rfl, R, g.1, fun h' F => k h' ad ⟨RX_fs F R, rfl, RM_fx F.x M, SC_fx F.x S⟩⟩
theorem rs_ways {h : hp} {ad : Ad} {X m : Nat} {A : Nat → Nat} {st : St} {s len : Nat} {sc : Nat → Int} (J : LK h ad X m A st st s len sc) (g : GD st)  {K : Kt} (k : ∀ (h' : hp), LK h' ad X m A st st s len sc → K (some (.int (iI (rx_ways st)))) h') : sp_X12_ways [.ref m] h K := by
  obtain ⟨R, e, M, S⟩ := J
  rw [eq_ways g.1] at k
  exact ⟨m, A, st, rfl, M, g.1, fun h' F => k h' ⟨RX_fm F.x R, e, RM_fm F M, SC_fm F.x S⟩⟩
theorem cs_lift {h : hp} {ad : Ad} {X m : Nat} {A : Nat → Nat} {st : St} {s len : Nat} {sc : Nat → Int} (J : LK h ad X m A st st s len sc) (g : GD st) {a1 : Int} (h1 : ir a1) {K : Kt} (k : ∀ (h' : hp) (ad' : Ad), LK h' ad' X m A st st s len sc → K (some (.int (iI (rx_lift st a1)))) h') : sp_X11_lift [.ref X, .int (iI a1)] h K := by
  obtain ⟨R, e, M, S⟩ := J
  subst e
  exact ⟨ad, st, a1, rfl, R, g.1, h1, fun h' F => k h' ad ⟨RX_fs F R, rfl, RM_fx F.x M, SC_fx F.x S⟩⟩
theorem rs_lift {h : hp} {ad : Ad} {X m : Nat} {A : Nat → Nat} {st : St} {s len : Nat} {sc : Nat → Int} {a1 : Int} (J : LK h ad X m A st st s len sc) (g : GD st) (h1 : ir a1) {K : Kt} (k : ∀ (h' : hp), LK h' ad X m A st st s len sc → K (some (.int (iI (rx_lift st a1)))) h') : sp_X12_lift [.ref m, .int (iI a1)] h K := by
  obtain ⟨R, e, M, S⟩ := J
  rw [eq_lift g.1 a1] at k
  exact ⟨m, A, st, a1, rfl, M, g.1, h1, fun h' F => k h' ⟨RX_fm F.x R, e, RM_fm F M, SC_fm F.x S⟩⟩
theorem cs_quarrel {h : hp} {ad : Ad} {X m : Nat} {A : Nat → Nat} {st : St} {s len : Nat} {sc : Nat → Int} (J : LK h ad X m A st st s len sc) (g : GD st)  {K : Kt} (k : ∀ (h' : hp) (ad' : Ad), LK h' ad' X m A st st s len sc → K (some (.int (iI (qrS st (st 0 3).toNat 0)))) h') : sp_X11_quarrel [.ref X] h K := by
  obtain ⟨R, e, M, S⟩ := J
  subst e
  exact ⟨ad, st, rfl, R, g.1, fun h' F => k h' ad ⟨RX_fs F R, rfl, RM_fx F.x M, SC_fx F.x S⟩⟩
theorem rs_quarrel {h : hp} {ad : Ad} {X m : Nat} {A : Nat → Nat} {st : St} {s len : Nat} {sc : Nat → Int} (J : LK h ad X m A st st s len sc) (g : GD st)  {K : Kt} (k : ∀ (h' : hp), LK h' ad X m A st st s len sc → K (some (.int (iI (qrS st (st 0 3).toNat 0)))) h') : sp_X12_quarrel [.ref m] h K := by
  obtain ⟨R, e, M, S⟩ := J
  rw [eq_quarrel g.1] at k
  exact ⟨m, A, st, rfl, M, g.1, fun h' F => k h' ⟨RX_fm F.x R, e, RM_fm F M, SC_fm F.x S⟩⟩
theorem cs_flaw {h : hp} {ad : Ad} {X m : Nat} {A : Nat → Nat} {st : St} {s len : Nat} {sc : Nat → Int} (J : LK h ad X m A st st s len sc) (g : GD st) {a1 a2 a3 : Int} (h1 : ir a1) (h2 : ir a2) (h3 : ir a3) {K : Kt} (k : ∀ (h' : hp) (ad' : Ad), LK h' ad' X m A st (n_flaw st a1 a2 a3) s len sc → K (some (.int (iI (r_flaw st a1 a2 a3)))) h') : sp_X11_flaw [.ref X, .int (iI a1), .int (iI a2), .int (iI a3)] h K := by
  obtain ⟨R, e, M, S⟩ := J
  subst e
  exact ⟨ad, st, a1, a2, a3, rfl, R, g.1, h1, h2, h3, fun h' R' F => k h' ad ⟨R', rfl, RM_fx F M, SC_fx F S⟩⟩
theorem rs_flaw {h : hp} {ad : Ad} {X m : Nat} {A : Nat → Nat} {st : St} {s len : Nat} {sc : Nat → Int} {a1 a2 a3 : Int} (J : LK h ad X m A st (n_flaw st a1 a2 a3) s len sc) (g : GD st) (h1 : ir a1) (h2 : ir a2) (h3 : ir a3) {K : Kt} (k : ∀ (h' : hp), LK h' ad X m A (n_flaw st a1 a2 a3) (n_flaw st a1 a2 a3) s len sc → K (some (.int (iI (r_flaw st a1 a2 a3)))) h') : sp_X12_flaw [.ref m, .int (iI a1), .int (iI a2), .int (iI a3)] h K := by
  obtain ⟨R, e, M, S⟩ := J
  exact ⟨m, A, st, a1, a2, a3, rfl, M, g.1, h1, h2, h3, fun h' M' F => k h' ⟨RX_fm F R, e, M', SC_fm F S⟩⟩
theorem cs_weigh {h : hp} {ad : Ad} {X m : Nat} {A : Nat → Nat} {st : St} {s len : Nat} {sc : Nat → Int} (J : LK h ad X m A st st s len sc) (g : GD st) {a1 a2 a3 : Int} (h1 : ir a1) (h2 : ir a2) (h3 : ir a3) {K : Kt} (k : ∀ (h' : hp) (ad' : Ad), LK h' ad' X m A st (n_weigh st a1 a2 a3) s len sc → K (some (.int (iI (r_weigh st a1 a2 a3)))) h') : sp_X11_weigh [.ref X, .int (iI a1), .int (iI a2), .int (iI a3)] h K := by
  obtain ⟨R, e, M, S⟩ := J
  subst e
  exact ⟨ad, st, a1, a2, a3, rfl, R, g.1, h1, h2, h3, fun h' R' F => k h' ad ⟨R', rfl, RM_fx F M, SC_fx F S⟩⟩
theorem rs_weigh {h : hp} {ad : Ad} {X m : Nat} {A : Nat → Nat} {st : St} {s len : Nat} {sc : Nat → Int} {a1 a2 a3 : Int} (J : LK h ad X m A st (n_weigh st a1 a2 a3) s len sc) (g : GD st) (h1 : ir a1) (h2 : ir a2) (h3 : ir a3) {K : Kt} (k : ∀ (h' : hp), LK h' ad X m A (n_weigh st a1 a2 a3) (n_weigh st a1 a2 a3) s len sc → K (some (.int (iI (r_weigh st a1 a2 a3)))) h') : sp_X12_weigh [.ref m, .int (iI a1), .int (iI a2), .int (iI a3)] h K := by
  obtain ⟨R, e, M, S⟩ := J
  exact ⟨m, A, st, a1, a2, a3, rfl, M, g.1, h1, h2, h3, fun h' M' F => k h' ⟨RX_fm F R, e, M', SC_fm F S⟩⟩
theorem cs_costs {h : hp} {ad : Ad} {X m : Nat} {A : Nat → Nat} {st : St} {s len : Nat} {sc : Nat → Int} (J : LK h ad X m A st st s len sc) (g : GD st) {a1 a2 : Int} (h1 : ir a1) (h2 : ir a2) {K : Kt} (k : ∀ (h' : hp) (ad' : Ad), LK h' ad' X m A st st s len sc → K (some (.int (iI (r_costs st a1 a2)))) h') : sp_X11_costs [.ref X, .int (iI a1), .int (iI a2)] h K := by
  obtain ⟨R, e, M, S⟩ := J
  subst e
  exact ⟨ad, st, a1, a2, rfl, R, g.1, h1, h2, k h ad ⟨R, rfl, M, S⟩⟩
theorem rs_costs {h : hp} {ad : Ad} {X m : Nat} {A : Nat → Nat} {st : St} {s len : Nat} {sc : Nat → Int} {a1 a2 : Int} (J : LK h ad X m A st st s len sc) (g : GD st) (h1 : ir a1) (h2 : ir a2) {K : Kt} (k : ∀ (h' : hp), LK h' ad X m A st st s len sc → K (some (.int (iI (r_costs st a1 a2)))) h') : sp_X12_costs [.ref m, .int (iI a1), .int (iI a2)] h K := by
  obtain ⟨R, e, M, S⟩ := J
  exact ⟨m, A, st, a1, a2, rfl, M, g.1, h1, h2, k h ⟨R, e, M, S⟩⟩
theorem cs_swap {h : hp} {ad : Ad} {X m : Nat} {A : Nat → Nat} {st : St} {s len : Nat} {sc : Nat → Int} (J : LK h ad X m A st st s len sc) (g : GD st)  {K : Kt} (k : ∀ (h' : hp) (ad' : Ad), LK h' ad' X m A st st s len sc → K (some (.int (iI (lsF st 0)))) h') : sp_X11_swap [.ref X] h K := by
  obtain ⟨R, e, M, S⟩ := J
  subst e
  exact ⟨ad, st, rfl, R, g.1, fun h' F => k h' ad ⟨RX_fs F R, rfl, RM_fx F.x M, SC_fx F.x S⟩⟩
theorem rs_swap {h : hp} {ad : Ad} {X m : Nat} {A : Nat → Nat} {st : St} {s len : Nat} {sc : Nat → Int} (J : LK h ad X m A st st s len sc) (g : GD st)  {K : Kt} (k : ∀ (h' : hp), LK h' ad X m A st st s len sc → K (some (.int (iI (lsF st 0)))) h') : sp_X12_swap [.ref m] h K := by
  obtain ⟨R, e, M, S⟩ := J
  rw [eq_swap g.1] at k
  exact ⟨m, A, st, rfl, M, g.1, fun h' F => k h' ⟨RX_fm F.x R, e, RM_fm F M, SC_fm F.x S⟩⟩
theorem cs_hole {h : hp} {ad : Ad} {X m : Nat} {A : Nat → Nat} {st : St} {s len : Nat} {sc : Nat → Int} (J : LK h ad X m A st st s len sc) (g : GD st) {a1 : Int} (h1 : ir a1) {K : Kt} (k : ∀ (h' : hp) (ad' : Ad), LK h' ad' X m A st st s len sc → K (some (.int (iI (rx_hole st a1)))) h') : sp_X11_hole [.ref X, .int (iI a1)] h K := by
  obtain ⟨R, e, M, S⟩ := J
  subst e
  exact ⟨ad, st, a1, rfl, R, g.1, h1, fun h' F => k h' ad ⟨RX_fs F R, rfl, RM_fx F.x M, SC_fx F.x S⟩⟩
theorem rs_hole {h : hp} {ad : Ad} {X m : Nat} {A : Nat → Nat} {st : St} {s len : Nat} {sc : Nat → Int} {a1 : Int} (J : LK h ad X m A st st s len sc) (g : GD st) (h1 : ir a1) {K : Kt} (k : ∀ (h' : hp), LK h' ad X m A st st s len sc → K (some (.int (iI (rx_hole st a1)))) h') : sp_X12_hole [.ref m, .int (iI a1)] h K := by
  obtain ⟨R, e, M, S⟩ := J
  rw [eq_hole g.1 a1] at k
  exact ⟨m, A, st, a1, rfl, M, g.1, h1, fun h' F => k h' ⟨RX_fm F.x R, e, RM_fm F M, SC_fm F.x S⟩⟩
theorem cs_age {h : hp} {ad : Ad} {X m : Nat} {A : Nat → Nat} {st : St} {s len : Nat} {sc : Nat → Int} (J : LK h ad X m A st st s len sc) (g : GD st) {a1 a2 : Int} (h1 : ir a1) (h2 : ir a2) {K : Kt} (k : ∀ (h' : hp) (ad' : Ad), LK h' ad' X m A st (n_age st a1 a2) s len sc → K (some (.int (iI (r_age st a1 a2)))) h') : sp_X11_age [.ref X, .int (iI a1), .int (iI a2)] h K := by
  obtain ⟨R, e, M, S⟩ := J
  subst e
  exact ⟨ad, st, a1, a2, rfl, R, g.1, h1, h2, fun h' R' F => k h' ad ⟨R', rfl, RM_fx F M, SC_fx F S⟩⟩
theorem rs_age {h : hp} {ad : Ad} {X m : Nat} {A : Nat → Nat} {st : St} {s len : Nat} {sc : Nat → Int} {a1 a2 : Int} (J : LK h ad X m A st (n_age st a1 a2) s len sc) (g : GD st) (h1 : ir a1) (h2 : ir a2) {K : Kt} (k : ∀ (h' : hp), LK h' ad X m A (n_age st a1 a2) (n_age st a1 a2) s len sc → K (some (.int (iI (r_age st a1 a2)))) h') : sp_X12_age [.ref m, .int (iI a1), .int (iI a2)] h K := by
  obtain ⟨R, e, M, S⟩ := J
  exact ⟨m, A, st, a1, a2, rfl, M, g.1, h1, h2, fun h' M' F => k h' ⟨RX_fm F R, e, M', SC_fm F S⟩⟩
theorem cs_loss {h : hp} {ad : Ad} {X m : Nat} {A : Nat → Nat} {st : St} {s len : Nat} {sc : Nat → Int} (J : LK h ad X m A st st s len sc) (g : GD st) {a1 : Int} (h1 : ir a1) {K : Kt} (k : ∀ (h' : hp) (ad' : Ad), LK h' ad' X m A st (n_loss st a1) s len sc → K (some (.int (iI (r_loss st a1)))) h') : sp_X11_loss [.ref X, .int (iI a1)] h K := by
  obtain ⟨R, e, M, S⟩ := J
  subst e
  exact ⟨ad, st, a1, rfl, R, g.1, h1, fun h' R' F => k h' ad ⟨R', rfl, RM_fx F M, SC_fx F S⟩⟩
theorem rs_loss {h : hp} {ad : Ad} {X m : Nat} {A : Nat → Nat} {st : St} {s len : Nat} {sc : Nat → Int} {a1 : Int} (J : LK h ad X m A st (n_loss st a1) s len sc) (g : GD st) (h1 : ir a1) {K : Kt} (k : ∀ (h' : hp), LK h' ad X m A (n_loss st a1) (n_loss st a1) s len sc → K (some (.int (iI (r_loss st a1)))) h') : sp_X12_loss [.ref m, .int (iI a1)] h K := by
  obtain ⟨R, e, M, S⟩ := J
  exact ⟨m, A, st, a1, rfl, M, g.1, h1, fun h' M' F => k h' ⟨RX_fm F R, e, M', SC_fm F S⟩⟩
theorem cs_plan {h : hp} {ad : Ad} {X m : Nat} {A : Nat → Nat} {st : St} {s len : Nat} {sc : Nat → Int} (J : LK h ad X m A st st s len sc) (g : GD st) {a1 : Int} (h1 : ir a1) {K : Kt} (k : ∀ (h' : hp) (ad' : Ad), LK h' ad' X m A st st s len sc → K (some (.int (iI (rx_plan st a1)))) h') : sp_X11_plan [.ref X, .int (iI a1)] h K := by
  obtain ⟨R, e, M, S⟩ := J
  subst e
  exact ⟨ad, st, a1, rfl, R, g.1, h1, fun h' F => k h' ad ⟨RX_fs F R, rfl, RM_fx F.x M, SC_fx F.x S⟩⟩
theorem rs_plan {h : hp} {ad : Ad} {X m : Nat} {A : Nat → Nat} {st : St} {s len : Nat} {sc : Nat → Int} {a1 : Int} (J : LK h ad X m A st st s len sc) (g : GD st) (h1 : ir a1) {K : Kt} (k : ∀ (h' : hp), LK h' ad X m A st st s len sc → K (some (.int (iI (rx_plan st a1)))) h') : sp_X12_plan [.ref m, .int (iI a1)] h K := by
  obtain ⟨R, e, M, S⟩ := J
  rw [eq_plan g.1 a1] at k
  exact ⟨m, A, st, a1, rfl, M, g.1, h1, fun h' F => k h' ⟨RX_fm F.x R, e, RM_fm F M, SC_fm F.x S⟩⟩
theorem cs_coat {h : hp} {ad : Ad} {X m : Nat} {A : Nat → Nat} {st : St} {s len : Nat} {sc : Nat → Int} (J : LK h ad X m A st st s len sc) (g : GD st) {a1 a2 : Int} (h1 : ir a1) (h2 : ir a2) {K : Kt} (k : ∀ (h' : hp) (ad' : Ad), LK h' ad' X m A st st s len sc → K (some (.int (iI (rx_coat st a1 a2)))) h') : sp_X11_coat [.ref X, .int (iI a1), .int (iI a2)] h K := by
  obtain ⟨R, e, M, S⟩ := J
  subst e
  exact ⟨ad, st, a1, a2, rfl, R, g.1, h1, h2, fun h' F => k h' ad ⟨RX_fs F R, rfl, RM_fx F.x M, SC_fx F.x S⟩⟩
theorem rs_coat {h : hp} {ad : Ad} {X m : Nat} {A : Nat → Nat} {st : St} {s len : Nat} {sc : Nat → Int} {a1 a2 : Int} (J : LK h ad X m A st st s len sc) (g : GD st) (h1 : ir a1) (h2 : ir a2) {K : Kt} (k : ∀ (h' : hp), LK h' ad X m A st st s len sc → K (some (.int (iI (rx_coat st a1 a2)))) h') : sp_X12_coat [.ref m, .int (iI a1), .int (iI a2)] h K := by
  obtain ⟨R, e, M, S⟩ := J
  rw [eq_coat g.1 a1 a2] at k
  exact ⟨m, A, st, a1, a2, rfl, M, g.1, h1, h2, fun h' F => k h' ⟨RX_fm F.x R, e, RM_fm F M, SC_fm F.x S⟩⟩
theorem cs_light {h : hp} {ad : Ad} {X m : Nat} {A : Nat → Nat} {st : St} {s len : Nat} {sc : Nat → Int} (J : LK h ad X m A st st s len sc) (g : GD st) {a1 a2 a3 : Int} (h1 : ir a1) (h2 : ir a2) (h3 : ir a3) {K : Kt} (k : ∀ (h' : hp) (ad' : Ad), LK h' ad' X m A st st s len sc → K (some (.int (iI (r_light st a1 a2 a3)))) h') : sp_X11_light [.ref X, .int (iI a1), .int (iI a2), .int (iI a3)] h K := by
  obtain ⟨R, e, M, S⟩ := J
  subst e
  exact ⟨ad, st, a1, a2, a3, rfl, R, g.1, h1, h2, h3, k h ad ⟨R, rfl, M, S⟩⟩
theorem rs_light {h : hp} {ad : Ad} {X m : Nat} {A : Nat → Nat} {st : St} {s len : Nat} {sc : Nat → Int} {a1 a2 a3 : Int} (J : LK h ad X m A st st s len sc) (g : GD st) (h1 : ir a1) (h2 : ir a2) (h3 : ir a3) {K : Kt} (k : ∀ (h' : hp), LK h' ad X m A st st s len sc → K (some (.int (iI (r_light st a1 a2 a3)))) h') : sp_X12_light [.ref m, .int (iI a1), .int (iI a2), .int (iI a3)] h K := by
  obtain ⟨R, e, M, S⟩ := J
  exact ⟨m, A, st, a1, a2, a3, rfl, M, g.1, h1, h2, h3, k h ⟨R, e, M, S⟩⟩
theorem cs_focus {h : hp} {ad : Ad} {X m : Nat} {A : Nat → Nat} {st : St} {s len : Nat} {sc : Nat → Int} (J : LK h ad X m A st st s len sc) (g : GD st) {a1 a2 : Int} (h1 : ir a1) (h2 : ir a2) {K : Kt} (k : ∀ (h' : hp) (ad' : Ad), LK h' ad' X m A st st s len sc → K (some (.int (iI (rx_focus st a1 a2)))) h') : sp_X11_focus [.ref X, .int (iI a1), .int (iI a2)] h K := by
  obtain ⟨R, e, M, S⟩ := J
  subst e
  exact ⟨ad, st, a1, a2, rfl, R, g.1, h1, h2, fun h' F => k h' ad ⟨RX_fs F R, rfl, RM_fx F.x M, SC_fx F.x S⟩⟩
theorem rs_focus {h : hp} {ad : Ad} {X m : Nat} {A : Nat → Nat} {st : St} {s len : Nat} {sc : Nat → Int} {a1 a2 : Int} (J : LK h ad X m A st st s len sc) (g : GD st) (h1 : ir a1) (h2 : ir a2) {K : Kt} (k : ∀ (h' : hp), LK h' ad X m A st st s len sc → K (some (.int (iI (rx_focus st a1 a2)))) h') : sp_X12_focus [.ref m, .int (iI a1), .int (iI a2)] h K := by
  obtain ⟨R, e, M, S⟩ := J
  rw [eq_focus g.1 a1 a2] at k
  exact ⟨m, A, st, a1, a2, rfl, M, g.1, h1, h2, k h ⟨R, e, M, S⟩⟩
theorem cs_count {h : hp} {ad : Ad} {X m : Nat} {A : Nat → Nat} {st : St} {s len : Nat} {sc : Nat → Int} (J : LK h ad X m A st st s len sc) (g : GD st) {a1 : Int} (h1 : ir a1) {K : Kt} (k : ∀ (h' : hp) (ad' : Ad), LK h' ad' X m A st st s len sc → K (some (.int (iI (r_count st a1)))) h') : sp_X11_count [.ref X, .int (iI a1)] h K := by
  obtain ⟨R, e, M, S⟩ := J
  subst e
  exact ⟨ad, st, a1, rfl, R, g.1, h1, k h ad ⟨R, rfl, M, S⟩⟩
theorem rs_count {h : hp} {ad : Ad} {X m : Nat} {A : Nat → Nat} {st : St} {s len : Nat} {sc : Nat → Int} {a1 : Int} (J : LK h ad X m A st st s len sc) (g : GD st) (h1 : ir a1) {K : Kt} (k : ∀ (h' : hp), LK h' ad X m A st st s len sc → K (some (.int (iI (r_count st a1)))) h') : sp_X12_count [.ref m, .int (iI a1)] h K := by
  obtain ⟨R, e, M, S⟩ := J
  exact ⟨m, A, st, a1, rfl, M, g.1, h1, k h ⟨R, e, M, S⟩⟩
