/-! METHODS: fetch, undo, warden, hour -/
def PMX (σM : Sg) (A : Nat → Nat) : Prop := PM σM A
theorem HX.frz {b : Bool} {σ σ' : Sg} {A : Nat → Nat} (H : HX b σ 2 A) (f : fr (fun a j => a = 47 ∨ a = 48) σ σ') : HX b σ' 2 A := H.of f (fun a j q => by omega)
theorem hx_act8 {σ : Sg} {A : Nat → Nat} (H : HX true σ 2 A) {h k : Nat} (hh : h < 8) (hk : k < 8) (h1 : 0 < A (10 + 5 * k + 1)) : ∃ σ', f_X8_act 2 (nI 8) (nI h) (nI k) σ = some σ' ∧ HX true σ' 2 (wr (up (up (up A (10 + 5 * k + 1) (A (10 + 5 * k + 1) - 1)) (10 + 5 * h) 2) (10 + 5 * h + 1) 5) h 1) ∧ fr (zT 2) σ σ' := by
  have xh : σ.1 (2 + 4) k = nI (A (10 + 5 * k + 1)) := H.1.2.2.2.2.2.2.2 k hk
  have hb := (H.2.1.2.2.2.2 k hk).2.1
  have H1 := H.heat (v := A (10 + 5 * k + 1) - 1) hk (by omega)
  obtain ⟨x2, s1, s2, s3⟩ := hx_set H1 (h := h) (f := 2) (x := 5) hh (by decide) (by decide)
  obtain ⟨x3, t1, t2, t3⟩ := hx_note s2 (h := h) (w := 1) hh (by decide)
  refine ⟨x3, ?_, t2, ((fr.w (by omega)).trans s3).trans t3⟩
  unfold f_X8_act f_X8_act_119
  simp (disch := omega) only [e_bnd, e_bndV, e_lt, e_grd, e_lit, e_le1, e_le2, e_lt1, e_lt2, e_eq1, e_eq2, e_inb, e_ix, nI_add, pk_mul, e_sub, e_b0, e_b1, e_bz, e_bz0, e_bz1, Bool.and_true, Bool.true_and, ↓reduceIte, not_true_eq_false, not_false_eq_true, decide_false, decide_true, and_self, and_true, true_and, and_false, false_and, Bool.false_eq_true, Bool.not_false, Bool.not_true, xh, s1, t1]
theorem pm_fetchNow {σ : Sg} {A : Nat → Nat} (H : PM σ A) {h k : Nat} (hh : h < 8) (hk : k < 8) (h1 : 0 < A (10 + 5 * k + 1)) : ∃ σ', f_X12_fetchNow (nI h) (nI k) σ = some σ' ∧ PM σ' (wr (up (up (up A (10 + 5 * k + 1) (A (10 + 5 * k + 1) - 1)) (10 + 5 * h) 2) (10 + 5 * h + 1) 5) h 1) ∧ fr (fun a j => a = 1 ∧ ((10 ≤ j ∧ j < 50) ∨ j = 9 ∨ 1956 ≤ j)) σ σ' := by
  have hb := (H.2.1.2.2.2.2 k hk).2.1
  have H1 := H.upd (j := 10 + 5 * k + 1) (v := A (10 + 5 * k + 1) - 1) (by omega) (H.2.1.heat (by omega))
  have H2 := H1.upd (j := 10 + 5 * h) (v := 2) (by omega) (H1.2.1.fire (by decide))
  have H3 := H2.upd (j := 10 + 5 * h + 1) (v := 5) (by omega) (H2.2.1.heat (by decide))
  obtain ⟨x4, t1, t2, t3⟩ := pm_write H3 (h := h) (w := 1) hh (by decide)
  refine ⟨x4, ?_, t2, (((fr.w (by omega)).trans (fr.w (by omega))).trans (fr.w (by omega))).trans (t3.mono (fun a j q => by omega))⟩
  unfold f_X12_fetchNow
  simp (disch := omega) only [e_bnd, e_bndV, e_lt, e_grd, e_lit, e_le1, e_le2, e_lt1, e_lt2, e_eq1, e_eq2, e_inb, e_ix, nI_add, pk_mul, e_sub, e_b0, e_b1, e_bz, e_bz0, e_bz1, Bool.and_true, Bool.true_and, ↓reduceIte, not_true_eq_false, not_false_eq_true, decide_false, decide_true, and_self, and_true, true_and, and_false, false_and, Bool.false_eq_true, Bool.not_false, Bool.not_true, m_get H.1, m_put, Nat.add_zero]
  simp (disch := omega) only [e_bnd, e_bndV, e_lt, e_grd, e_lit, e_le1, e_le2, e_lt1, e_lt2, e_eq1, e_eq2, e_inb, e_ix, nI_add, pk_mul, e_sub, e_b0, e_b1, e_bz, e_bz0, e_bz1, Bool.and_true, Bool.true_and, ↓reduceIte, not_true_eq_false, not_false_eq_true, decide_false, decide_true, and_self, and_true, true_and, and_false, false_and, Bool.false_eq_true, Bool.not_false, Bool.not_true, t1]
/-- fetch, and what a CLAUSE asks of it -/
theorem h_fetch {κ : Kd} {T : TD} (v w : Int32) {σX σM : Sg} (J : Inv κ T σX σM) : ∃ b r x m, b ≤ 1 ∧ f_X11_tried (nI 8) v w σX = some (nI b, x) ∧ f_X11_fetch v w σX = some (r, x) ∧ f_X12_fetch v w σM = some (r, m) ∧ Inv κ T x m ∧ (b = 0 → r = -1) ∧ (b = 1 → ∃ n, n < 10 ∧ r = nI n) := by
  obtain ⟨A, B, I⟩ := J
  have hM := I.2.1
  have c8 := I.1.1.1
  have hR := I.2.2.1.2.2.1
  have s3 := I.1.2.2.2.1.1
  have n01 : ∀ {p : Prop}, 0 = 1 → p := fun q => absurd q (by decide)
  have n10 : ∀ {p : Prop}, 1 = 0 → p := fun q => absurd q (by decide)
  unfold f_X11_fetch f_X11_fetch_40 f_X11_fetch_41 f_X11_tried f_X12_fetch
  rcases I.told v with ⟨e1, e2, _⟩ | ⟨h, hh, rfl, e1, e2⟩
  · have hc : f_X8_can 2 (nI 8) v w 8 σX = some (nI 0, σX) := by
      unfold f_X8_can
      simp (disch := omega) only [e_bnd, e_bndV, e_lt, e_grd, e_lit, e_le1, e_le2, e_lt1, e_lt2, e_eq1, e_eq2, e_inb, e_ix, nI_add, pk_mul, e_sub, e_b0, e_b1, e_bz, e_bz0, e_bz1, Bool.and_true, Bool.true_and, ↓reduceIte, not_true_eq_false, not_false_eq_true, decide_false, decide_true, and_self, and_true, true_and, and_false, false_and, Bool.false_eq_true, Bool.not_false, Bool.not_true, e1]
    refine ⟨0, -1, σX, σM, by decide, ?_, ?_, ?_, ⟨A, B, I⟩, fun _ => rfl, n01⟩
    · simp (disch := omega) only [e_bnd, e_bndV, e_lt, e_grd, e_lit, e_le1, e_le2, e_lt1, e_lt2, e_eq1, e_eq2, e_inb, e_ix, nI_add, pk_mul, e_sub, e_b0, e_b1, e_bz, e_bz0, e_bz1, Bool.and_true, Bool.true_and, ↓reduceIte, not_true_eq_false, not_false_eq_true, decide_false, decide_true, and_self, and_true, true_and, and_false, false_and, Bool.false_eq_true, Bool.not_false, Bool.not_true, hc]
    · simp (disch := omega) only [e_bnd, e_bndV, e_lt, e_grd, e_lit, e_le1, e_le2, e_lt1, e_lt2, e_eq1, e_eq2, e_inb, e_ix, nI_add, pk_mul, e_sub, e_b0, e_b1, e_bz, e_bz0, e_bz1, Bool.and_true, Bool.true_and, ↓reduceIte, not_true_eq_false, not_false_eq_true, decide_false, decide_true, and_self, and_true, true_and, and_false, false_and, Bool.false_eq_true, Bool.not_false, Bool.not_true, hc]
    · unfold f_X12_canFetch f_X12_canFetch_30 f_X12_canFetch_31 f_X12_isSo f_X12_isSo_22 f_X12_isSo_23
      simp (disch := omega) only [e_bnd, e_bndV, e_lt, e_grd, e_lit, e_le1, e_le2, e_lt1, e_lt2, e_eq1, e_eq2, e_inb, e_ix, nI_add, pk_mul, e_sub, e_b0, e_b1, e_bz, e_bz0, e_bz1, Bool.and_true, Bool.true_and, ↓reduceIte, not_true_eq_false, not_false_eq_true, decide_false, decide_true, and_self, and_true, true_and, and_false, false_and, Bool.false_eq_true, Bool.not_false, Bool.not_true, e2]
  rcases I.told w with ⟨g1, g2, _⟩ | ⟨k, hk, rfl, g1, g2⟩
  · have hc := x_can8n I.2.2.1.1 I.1.1 hh g1
    refine ⟨0, -1, σX, σM, by decide, ?_, ?_, ?_, ⟨A, B, I⟩, fun _ => rfl, n01⟩
    · simp (disch := omega) only [e_bnd, e_bndV, e_lt, e_grd, e_lit, e_le1, e_le2, e_lt1, e_lt2, e_eq1, e_eq2, e_inb, e_ix, nI_add, pk_mul, e_sub, e_b0, e_b1, e_bz, e_bz0, e_bz1, Bool.and_true, Bool.true_and, ↓reduceIte, not_true_eq_false, not_false_eq_true, decide_false, decide_true, and_self, and_true, true_and, and_false, false_and, Bool.false_eq_true, Bool.not_false, Bool.not_true, hc]
    · simp (disch := omega) only [e_bnd, e_bndV, e_lt, e_grd, e_lit, e_le1, e_le2, e_lt1, e_lt2, e_eq1, e_eq2, e_inb, e_ix, nI_add, pk_mul, e_sub, e_b0, e_b1, e_bz, e_bz0, e_bz1, Bool.and_true, Bool.true_and, ↓reduceIte, not_true_eq_false, not_false_eq_true, decide_false, decide_true, and_self, and_true, true_and, and_false, false_and, Bool.false_eq_true, Bool.not_false, Bool.not_true, hc]
    · have hbb := (I.1.1.2.2.2.2 h (by omega)).1
      unfold f_X12_canFetch f_X12_canFetch_30 f_X12_canFetch_31 f_X12_isSo f_X12_isSo_22 f_X12_isSo_23 f_X12_isGiver f_X12_isGiver_30 f_X12_isGiver_31
      by_cases q0 : A (10 + 5 * h) = 0
      · simp (disch := omega) only [e_bnd, e_bndV, e_lt, e_grd, e_lit, e_le1, e_le2, e_lt1, e_lt2, e_eq1, e_eq2, e_inb, e_ix, nI_add, pk_mul, e_sub, e_b0, e_b1, e_bz, e_bz0, e_bz1, Bool.and_true, Bool.true_and, ↓reduceIte, not_true_eq_false, not_false_eq_true, decide_false, decide_true, and_self, and_true, true_and, and_false, false_and, Bool.false_eq_true, Bool.not_false, Bool.not_true, e2, m_get hM, Nat.add_zero, q0, g2]
      · simp (disch := omega) only [e_bnd, e_bndV, e_lt, e_grd, e_lit, e_le1, e_le2, e_lt1, e_lt2, e_eq1, e_eq2, e_inb, e_ix, nI_add, pk_mul, e_sub, e_b0, e_b1, e_bz, e_bz0, e_bz1, Bool.and_true, Bool.true_and, ↓reduceIte, not_true_eq_false, not_false_eq_true, decide_false, decide_true, and_self, and_true, true_and, and_false, false_and, Bool.false_eq_true, Bool.not_false, Bool.not_true, e2, m_get hM, Nat.add_zero]
  have hcX := x_can8 I.2.2.1.1 I.1.1 hR hh hk
  have hcM := m_canFetch hM I.1.1 I.1.2.2.1 hh hk
  by_cases hq : A (10 + 5 * h) = 0 ∧ (A (10 + 5 * k) = 1 ∨ A (10 + 5 * k) = 2) ∧ 2 ≤ A (10 + 5 * k + 1) ∧ 0 < A (50 + 8 * h + k)
  · rw [if_pos hq] at hcX hcM
    obtain ⟨x1, m1, k1, k2, H, hP, M, fX, fM⟩ := I.step
    have ek : keepA A (10 + 5 * k + 1) = A (10 + 5 * k + 1) := kA_off s3 (by omega)
    have hbk := (I.1.1.2.2.2.2 k (by omega)).2.1
    obtain ⟨x2, a1, a2, a3⟩ := hx_act8 H (h := h) (k := k) (by omega) (by omega) (by omega)
    obtain ⟨m2, b1, b2, b3⟩ := pm_fetchNow M (h := h) (k := k) (by omega) (by omega) (by omega)
    have tk : f_X8_told 2 (nI k) x2 = some (nI 1, x2) := by
      refine x_told1 a2.1.1 a2.2.1.1 ?_
      rw [wr_off (by rw [up_ne (by omega), up_ne (by omega), up_ne (by omega)]; exact H.2.2.2 rfl |>.1) (by decide) (by decide), up_ne (by omega), up_ne (by omega), up_ne (by omega), kA_off s3 (by decide)]
      exact hk
    obtain ⟨A', hA'⟩ : ∃ A', A' = wr (up (up (up (keepA A) (10 + 5 * k + 1) (keepA A (10 + 5 * k + 1) - 1)) (10 + 5 * h) 2) (10 + 5 * h + 1) 5) h 1 := ⟨_, rfl⟩
    rw [← hA'] at a2 b2
    have xk : x2.1 6 k = nI (A' (10 + 5 * k + 1)) := a2.1.2.2.2.2.2.2.2 k (by omega)
    have hb9 := (a2.2.1.2.2.2.2 k (by omega)).2.1
    refine ⟨1, nI (A' (10 + 5 * k + 1)), x2, m2, by decide, ?_, ?_, ?_, ⟨A', B, I.fin fX fM hP (a3.mono (fun a j q => by omega)) (b3.mono (fun a j q => by omega)) b2.1 a2 (fun j hj => ?_)⟩, n10, fun _ => ⟨_, by omega, rfl⟩⟩
    · simp (disch := omega) only [e_bnd, e_bndV, e_lt, e_grd, e_lit, e_le1, e_le2, e_lt1, e_lt2, e_eq1, e_eq2, e_inb, e_ix, nI_add, pk_mul, e_sub, e_b0, e_b1, e_bz, e_bz0, e_bz1, Bool.and_true, Bool.true_and, ↓reduceIte, not_true_eq_false, not_false_eq_true, decide_false, decide_true, and_self, and_true, true_and, and_false, false_and, Bool.false_eq_true, Bool.not_false, Bool.not_true, hcX, k1, a1]
    · simp (disch := omega) only [e_bnd, e_bndV, e_lt, e_grd, e_lit, e_le1, e_le2, e_lt1, e_lt2, e_eq1, e_eq2, e_inb, e_ix, nI_add, pk_mul, e_sub, e_b0, e_b1, e_bz, e_bz0, e_bz1, Bool.and_true, Bool.true_and, ↓reduceIte, not_true_eq_false, not_false_eq_true, decide_false, decide_true, and_self, and_true, true_and, and_false, false_and, Bool.false_eq_true, Bool.not_false, Bool.not_true, hcX, k1, a1, tk, xk]
    · simp (disch := omega) only [e_bnd, e_bndV, e_lt, e_grd, e_lit, e_le1, e_le2, e_lt1, e_lt2, e_eq1, e_eq2, e_inb, e_ix, nI_add, pk_mul, e_sub, e_b0, e_b1, e_bz, e_bz0, e_bz1, Bool.and_true, Bool.true_and, ↓reduceIte, not_true_eq_false, not_false_eq_true, decide_false, decide_true, and_self, and_true, true_and, and_false, false_and, Bool.false_eq_true, Bool.not_false, Bool.not_true, hcM, k2, b1, m_get b2.1]
    · rw [hA', wr_off (by rw [up_ne (by omega), up_ne (by omega), up_ne (by omega)]; exact H.2.2.2 rfl |>.1) (by omega) (by omega), up_ne (by omega), up_ne (by omega), up_ne (by omega)]
  · rw [if_neg hq] at hcX hcM
    refine ⟨0, -1, σX, σM, by decide, ?_, ?_, ?_, ⟨A, B, I⟩, fun _ => rfl, n01⟩
    · simp (disch := omega) only [e_bnd, e_bndV, e_lt, e_grd, e_lit, e_le1, e_le2, e_lt1, e_lt2, e_eq1, e_eq2, e_inb, e_ix, nI_add, pk_mul, e_sub, e_b0, e_b1, e_bz, e_bz0, e_bz1, Bool.and_true, Bool.true_and, ↓reduceIte, not_true_eq_false, not_false_eq_true, decide_false, decide_true, and_self, and_true, true_and, and_false, false_and, Bool.false_eq_true, Bool.not_false, Bool.not_true, hcX]
    · simp (disch := omega) only [e_bnd, e_bndV, e_lt, e_grd, e_lit, e_le1, e_le2, e_lt1, e_lt2, e_eq1, e_eq2, e_inb, e_ix, nI_add, pk_mul, e_sub, e_b0, e_b1, e_bz, e_bz0, e_bz1, Bool.and_true, Bool.true_and, ↓reduceIte, not_true_eq_false, not_false_eq_true, decide_false, decide_true, and_self, and_true, true_and, and_false, false_and, Bool.false_eq_true, Bool.not_false, Bool.not_true, hcX]
    · simp (disch := omega) only [e_bnd, e_bndV, e_lt, e_grd, e_lit, e_le1, e_le2, e_lt1, e_lt2, e_eq1, e_eq2, e_inb, e_ix, nI_add, pk_mul, e_sub, e_b0, e_b1, e_bz, e_bz0, e_bz1, Bool.and_true, Bool.true_and, ↓reduceIte, not_true_eq_false, not_false_eq_true, decide_false, decide_true, and_self, and_true, true_and, and_false, false_and, Bool.false_eq_true, Bool.not_false, Bool.not_true, hcM]
theorem g_fetch {κ : Kd} {T : TD} (v w : Int32) : GO κ T (f_X11_fetch v w) (f_X12_fetch v w) := by
  intro σX σM J
  obtain ⟨b, r, x, m, _, _, h1, h2, h3, _⟩ := h_fetch v w J
  exact ⟨r, x, m, h1, h2, h3⟩
theorem undo_off {A : Nat → Nat} {j : Nat} (h : j ≠ 3 ∧ ¬ (6 ≤ j ∧ j < 10) ∧ ¬ (10 ≤ j ∧ j < 50 ∧ j % 5 < 3) ∧ (j < 1956 ∨ 1986 ≤ j)) : undoA A j = A j := by
  unfold undoA
  rw [if_neg h.1, if_neg h.2.1, if_neg (by omega), if_neg (by omega)]
theorem undo_in {A : Nat → Nat} {h w : Nat} (hh : h < 8) (hw : w < 3) : undoA A (10 + 5 * h + w) = if h < A 0 then (if h < A (186 + 59 * (A 3 - 1)) then A (186 + 59 * (A 3 - 1) + 5 + 3 * h + w) else if w = 2 then A (10 + 5 * h + 4) else 0) else A (10 + 5 * h + w) := by
  unfold undoA
  rw [if_neg (by omega), if_neg (by omega), show (10 + 5 * h + w - 10) / 5 = h by omega, show (10 + 5 * h + w - 10) % 5 = w by omega]
  by_cases hc : h < A 0
  · rw [if_pos (by omega), if_pos hc]
    by_cases h2 : w = 2
    · subst h2; rfl
    · rw [if_neg h2, if_neg h2]
  · rw [if_neg (by omega), if_neg hc, if_neg (by omega)]
theorem undo_BT {A : Nat → Nat} (hB : BT A) (hS : BS A) (h3 : 0 < A 3) : BT (undoA A) ∧ (BN A → BN (undoA A)) ∧ BS (undoA A) := by
  obtain ⟨s3, rows⟩ := hS
  obtain ⟨n, hn⟩ : ∃ n, A 3 = n + 1 := ⟨A 3 - 1, by omega⟩
  obtain ⟨c0, ok, lk⟩ := rows n (by omega)
  obtain ⟨o1, o2, o3, o4, o5, o6⟩ := ok
  obtain ⟨x, hx⟩ : ∃ x, x = 186 + 59 * n := ⟨_, rfl⟩
  have hx3 : 186 + 59 * (A 3 - 1) = x := by omega
  rw [← hx] at o1 o2 o3 o4 o5 o6 c0
  have c8 := hB.1
  have u0 : undoA A 0 = A 0 := undo_off (by omega)
  have u6 : ∀ w, w < 4 → undoA A (6 + w) = A (x + 1 + w) := fun w hw => by
    unfold undoA
    rw [hx3, if_neg (by omega), if_pos (by omega), show 6 + w - 6 = w by omega]
  have u3 : undoA A 3 = n := by
    unfold undoA
    rw [if_pos rfl]
    omega
  refine ⟨⟨by rw [u0]; exact c8, by rw [u6 0 (by decide)]; exact o1, by rw [u6 1 (by decide)]; exact o2, by rw [u6 2 (by decide)]; exact o3, fun h hh => ?_⟩, fun hN => ⟨by rw [u6 3 (by decide)]; exact o4, fun i hi => ?_⟩, ?_⟩
  · obtain ⟨b0, b1, b2, b3, b4⟩ := hB.2.2.2.2 h hh
    obtain ⟨q0, q1, q2⟩ := o5 h hh
    have e0 := undo_in (A := A) (h := h) (w := 0) hh (by decide)
    simp only [Nat.add_zero] at e0
    have f0 : A (x + (5 + 3 * h)) ≤ 4 := q0
    have f1 : A (x + (5 + 3 * h + 1)) ≤ 9 := q1
    have f2 : A (x + (5 + 3 * h + 2)) ≤ 9999 := q2
    rw [← Nat.add_assoc] at f0
    rw [← Nat.add_assoc, ← Nat.add_assoc] at f1 f2
    refine ⟨?_, ?_, ?_, by rw [undo_off (by omega)]; exact b3, by rw [undo_off (by omega)]; exact b4⟩
    · rw [e0, hx3]
      split
      · split
        · exact f0
        · rw [if_neg (by decide)]; exact Nat.zero_le _
      · exact b0
    · rw [undo_in hh (by decide), hx3]
      split
      · split
        · exact f1
        · rw [if_neg (by decide)]; exact Nat.zero_le _
      · exact b1
    · rw [undo_in hh (by decide), hx3]
      split
      · split
        · exact f2
        · rw [if_pos rfl]; exact b4
      · exact b2
  · have := o6 i hi
    unfold undoA
    rw [hx3, if_neg (by omega), if_neg (by omega), if_neg (by omega), if_pos (by omega), show 1956 + i - 1956 = i by omega]
    rw [Nat.add_assoc]
    exact this
  · refine ⟨by rw [u3]; omega, fun i hi => ?_⟩
    rw [u3] at hi
    obtain ⟨d0, dk, dl⟩ := rows i (by omega)
    have er : ∀ j, j < n → ∀ k, k < 59 → undoA A (186 + 59 * j + k) = A (186 + 59 * j + k) := fun j hj k hk => undo_off (by omega)
    have er0 : undoA A (186 + 59 * i) = A (186 + 59 * i) := er i hi 0 (by decide)
    refine ⟨by rw [er0, u0]; exact d0, rowOK_congr (er i hi) dk, ?_⟩
    rw [nxr_lt (by omega)] at dl
    by_cases hl : i + 1 < n
    · rw [nxr_lt (by omega)]
      have cn : A (186 + 59 * (i + 1) + 0) ≤ A 0 := (rows (i + 1) (by omega)).1
      exact link_congr er0 (er (i + 1) hl) (show A (186 + 59 * (i + 1) + 0) ≤ 8 by omega) (fun h hh => undo_off (by change h < A (186 + 59 * (i + 1) + 0) at hh; omega)) dl
    · rw [nxr_top (by omega)]
      have hi2 : i + 1 = n := by omega
      rw [hi2] at dl
      obtain ⟨l0, l1⟩ := dl
      change A (186 + 59 * i) ≤ A (186 + 59 * n) at l0
      rw [← hx] at l0
      refine ⟨?_, fun h ha hb => ?_⟩
      · show undoA A (186 + 59 * i) ≤ undoA A 0
        rw [er0, u0]
        exact Nat.le_trans l0 c0
      · change undoA A (186 + 59 * i) ≤ h at ha
        rw [er0] at ha
        change h < undoA A 0 at hb
        rw [u0] at hb
        have q0 : rowA (undoA A) (5 + 3 * h) = undoA A (10 + 5 * h + 0) := rowA_h _ (h := h) (w := 0) (by omega) (by decide)
        rw [q0, rowA_h _ (by omega) (by decide), rowA_h _ (by omega) (by decide), undo_in (by omega) (by decide), undo_in (by omega) (by decide), undo_in (by omega) (by decide), hx3, if_pos hb, if_pos hb, if_pos hb, undo_off (j := 10 + 5 * h + 4) (by omega)]
        by_cases hc : h < A x
        · have q := l1 h ha (by show h < A (186 + 59 * n); rw [← hx]; exact hc)
          obtain ⟨qa, qb, qc⟩ := q
          change A (186 + 59 * n + (5 + 3 * h)) = 0 at qa
          change A (186 + 59 * n + (5 + 3 * h + 1)) = 0 at qb
          change A (186 + 59 * n + (5 + 3 * h + 2)) = _ at qc
          rw [← Nat.add_assoc, ← hx] at qa
          rw [← Nat.add_assoc, ← Nat.add_assoc, ← hx] at qb qc
          rw [if_pos hc, if_pos hc, if_pos hc]
          exact ⟨qa, qb, qc⟩
        · rw [if_neg hc, if_neg hc, if_neg hc]
          exact ⟨rfl, rfl, rfl⟩
theorem g_undo {κ : Kd} {T : TD} : GO κ T f_X11_undo f_X12_undo := by
  intro σX σM ⟨A, B, I⟩
  have hM := I.2.1
  have hS := I.1.2.2.2.1
  have s3 := hS.1
  have r3 := hM.1 3 (by decide) (by decide) (by decide)
  obtain ⟨f, _, _, p2, _⟩ := I.2.2.1.2.2.2.1
  change σX.1 11 2 = _ at p2
  unfold f_X11_undo f_X11_undo_34
  by_cases h0 : A 3 = 0
  · refine ⟨-1, σX, σM, ?_, ?_, A, B, I⟩
    · unfold f_X4_takeBack
      simp (disch := omega) only [e_bnd, e_bndV, e_lt, e_grd, e_lit, e_le1, e_le2, e_lt1, e_lt2, e_eq1, e_eq2, e_inb, e_ix, nI_add, pk_mul, e_sub, e_b0, e_b1, e_bz, e_bz0, e_bz1, Bool.and_true, Bool.true_and, ↓reduceIte, not_true_eq_false, not_false_eq_true, decide_false, decide_true, and_self, and_true, true_and, and_false, false_and, Bool.false_eq_true, Bool.not_false, Bool.not_true, p2, h0]
    · unfold f_X12_undo
      simp (disch := omega) only [e_bnd, e_bndV, e_lt, e_grd, e_lit, e_le1, e_le2, e_lt1, e_lt2, e_eq1, e_eq2, e_inb, e_ix, nI_add, pk_mul, e_sub, e_b0, e_b1, e_bz, e_bz0, e_bz1, Bool.and_true, Bool.true_and, ↓reduceIte, not_true_eq_false, not_false_eq_true, decide_false, decide_true, and_self, and_true, true_and, and_false, false_and, Bool.false_eq_true, Bool.not_false, Bool.not_true, r3, h0]
  · obtain ⟨x1, a1, a2, a3, a4, a5⟩ := x_undo I.2.2.1.1 I.2.2.1.2.1 I.2.2.1.2.2.2.1 I.1.1 hS (by omega) (by omega)
    obtain ⟨m1, b1, b2, b3⟩ := m_undo hM I.1.1.1 hS (by omega)
    obtain ⟨u1, u2, u3⟩ := undo_BT I.1.1 hS (by omega)
    have a4c := a4
    obtain ⟨f', _, _, q2, _⟩ := a4
    change x1.1 11 2 = _ at q2
    have e3 : undoA A 3 = A 3 - 1 := if_pos rfl
    rw [e3] at q2
    refine ⟨nI (A 3 - 1), x1, m1, ?_, b1, undoA A, B, I.town (a5.mono (fun a j q => by omega)) (b3.mono (fun a j q => by omega)) b2 a2 a3 a4c ⟨u1, u2 I.1.2.1, u3⟩ (fun j hj => undo_off (by omega)) (by rw [undo_off (by decide)]; exact Nat.le_refl _)⟩
    simp (disch := omega) only [e_bnd, e_bndV, e_lt, e_grd, e_lit, e_le1, e_le2, e_lt1, e_lt2, e_eq1, e_eq2, e_inb, e_ix, nI_add, pk_mul, e_sub, e_b0, e_b1, e_bz, e_bz0, e_bz1, Bool.and_true, Bool.true_and, ↓reduceIte, not_true_eq_false, not_false_eq_true, decide_false, decide_true, and_self, and_true, true_and, and_false, false_and, Bool.false_eq_true, Bool.not_false, Bool.not_true, a1, q2]
