/-! a STEP of both; light, cover, open, quench, fetch -/
theorem kA_off {A : Nat → Nat} {j : Nat} (h3 : A 3 ≤ 30) (h : j ≠ 3 ∧ (j < 186 ∨ 1956 ≤ j)) : keepA A j = A j := by
  unfold keepA
  split
  · unfold putA rolA
    rw [if_neg h.1, if_pos rfl, if_neg (by omega), if_neg h.1, if_neg (by omega)]
  · unfold putA
    rw [if_neg h.1, if_neg (by omega)]
theorem BS_put {D B : Nat → Nat} (hS : BS D) (h3 : D 3 < 30) (hB : BT D) (hN : BN D) (e3 : B 3 = D 3 + 1) (e0 : B 0 = D 0) (er : ∀ i, i < D 3 → ∀ k, k < 59 → B (186 + 59 * i + k) = D (186 + 59 * i + k)) (et : ∀ k, k < 59 → B (186 + 59 * D 3 + k) = rowA D k) (ht : ∀ h, h < 8 → B (10 + 5 * h + 4) = D (10 + 5 * h + 4)) : BS B := by
  obtain ⟨s3, rows⟩ := hS
  have h8 := hB.1
  refine ⟨by omega, fun i hi => ?_⟩
  rw [e3] at hi
  by_cases hl : i < D 3
  · obtain ⟨c0, ok, lk⟩ := rows i hl
    have er0 : B (186 + 59 * i) = D (186 + 59 * i) := er i hl 0 (by decide)
    refine ⟨by rw [er0, e0]; exact c0, rowOK_congr (er i hl) ok, ?_⟩
    rw [nxr_lt (by omega)]
    by_cases hl2 : i + 1 < D 3
    · rw [nxr_lt hl2] at lk
      have cn : D (186 + 59 * (i + 1) + 0) ≤ D 0 := (rows (i + 1) hl2).1
      exact link_congr er0 (er (i + 1) hl2) (show D (186 + 59 * (i + 1) + 0) ≤ 8 by omega) (fun h hh => ht h (by change h < D (186 + 59 * (i + 1) + 0) at hh; omega)) lk
    · rw [nxr_top hl2] at lk
      have hi2 : i + 1 = D 3 := by omega
      rw [hi2]
      exact link_congr (s := rowA D) er0 et h8 (fun h hh => ht h (by change h < D 0 at hh; omega)) lk
  · have hi2 : i = D 3 := by omega
    subst hi2
    have et0 : B (186 + 59 * D 3) = D 0 := et 0 (by decide)
    obtain ⟨b0, b6, b7, b8, bh⟩ := hB
    refine ⟨by rw [et0, e0]; exact Nat.le_refl _, ?_, ?_⟩
    · refine rowOK_congr et ⟨b6, b7, b8, hN.1, fun h hh => ?_, fun k hk => ?_⟩
      · have q0 : rowA D (5 + 3 * h) = D (10 + 5 * h) := rowA_h D (h := h) (w := 0) hh (by decide)
        rw [q0, rowA_h D hh (by decide), rowA_h D hh (by decide)]
        have := bh h hh
        exact ⟨this.1, this.2.1, this.2.2.1⟩
      · rw [rowA_k]
        exact hN.2 k hk
    · rw [nxr_top (by omega)]
      refine ⟨?_, fun h ha hb => ?_⟩
      · show B (186 + 59 * D 3) ≤ B 0
        rw [et0, e0]
        exact Nat.le_refl _
      · change B (186 + 59 * D 3) ≤ h at ha
        change h < B 0 at hb
        omega
theorem rol_town {A : Nat → Nat} {j : Nat} (h : j ≠ 3 ∧ (j < 186 ∨ 1897 ≤ j)) : rolA A j = A j := by
  unfold rolA
  rw [if_neg h.1, if_neg (by omega)]
theorem rol_row {A : Nat → Nat} {i k : Nat} (hi : i < 29) (hk : k < 59) : rolA A (186 + 59 * i + k) = A (186 + 59 * (i + 1) + k) := by
  unfold rolA
  rw [if_neg (by omega), if_pos (by omega)]
  congr 1
  omega
theorem BS_rol {A : Nat → Nat} (hS : BS A) (h8 : A 0 ≤ 8) (h3 : A 3 = 30) : BS (rolA A) := by
  obtain ⟨s3, rows⟩ := hS
  have e3 : rolA A 3 = 29 := rolA_3 A
  have e0 : rolA A 0 = A 0 := rol_town (by omega)
  refine ⟨by omega, fun i hi => ?_⟩
  rw [e3] at hi
  obtain ⟨c0, ok, lk⟩ := rows (i + 1) (by omega)
  have er0 : rolA A (186 + 59 * i) = A (186 + 59 * (i + 1)) := rol_row hi (k := 0) (by decide)
  refine ⟨by rw [er0, e0]; exact c0, rowOK_congr (fun k hk => rol_row hi hk) ok, ?_⟩
  by_cases hl : i + 1 < 29
  · rw [nxr_lt (by omega)] at lk
    rw [nxr_lt (by omega)]
    have cn : A (186 + 59 * (i + 1 + 1) + 0) ≤ A 0 := (rows (i + 1 + 1) (by omega)).1
    exact link_congr er0 (fun k hk => rol_row (by omega) hk) (show A (186 + 59 * (i + 1 + 1) + 0) ≤ 8 by omega) (fun h hh => rol_town (by change h < A (186 + 59 * (i + 1 + 1) + 0) at hh; omega)) lk
  · rw [nxr_top (by omega)] at lk
    rw [nxr_top (by omega)]
    refine link_congr (s := rowA A) er0 (fun k hk => ?_) h8 (fun h hh => rol_town (by change h < A 0 at hh; omega)) lk
    unfold rowA
    split
    · exact e0
    · split
      · exact rol_town (by omega)
      · split
        · exact rol_town (by omega)
        · exact rol_town (by omega)
theorem rowA_congr {A B : Nat → Nat} (h : ∀ j, (j = 0 ∨ (6 ≤ j ∧ j < 50) ∨ 1956 ≤ j) → B j = A j) {k : Nat} (hk : k < 59) : rowA B k = rowA A k := by
  unfold rowA
  split
  · exact h _ (by omega)
  · split
    · exact h _ (by omega)
    · split
      · exact h _ (by omega)
      · exact h _ (by omega)
/-- what is so behind a STEP, whatever it changes in the town -/
theorem BS_after {A B : Nat → Nat} (hS : BS A) (hB : BT A) (hN : BN A) (e : ∀ j, (j = 0 ∨ j = 3 ∨ (186 ≤ j ∧ j < 1956) ∨ (10 ≤ j ∧ j < 50 ∧ j % 5 = 4)) → B j = keepA A j) : BS B := by
  have s3 := hS.1
  by_cases h30 : A 3 = 30
  · have hk : keepA A = putA (rolA A) := if_pos h30
    have e3 := rolA_3 A
    have e0 : rolA A 0 = A 0 := rol_town (by omega)
    have hBr : BT (rolA A) := hB.cong (fun j hj => rol_town (by omega))
    have hNr : BN (rolA A) := BN_congr hN (fun j hj => rol_town (by omega))
    rw [hk] at e
    have p3 : putA (rolA A) 3 = rolA A 3 + 1 := rfl
    refine BS_put (BS_rol hS hB.1 h30) (by omega) hBr hNr (by rw [e 3 (by omega), p3]) ?_ (fun i hi k hk2 => ?_) (fun k hk2 => ?_) (fun h hh => ?_)
    · rw [e 0 (by omega)]; rfl
    · rw [e _ (by omega)]
      unfold putA
      rw [if_neg (by omega), if_neg (by omega)]
    · rw [e _ (by omega)]
      unfold putA
      rw [if_neg (by omega), if_pos (by omega), show 186 + 59 * rolA A 3 + k - (186 + 59 * rolA A 3) = k by omega]
    · rw [e _ (by omega)]
      unfold putA
      rw [if_neg (by omega), if_neg (by omega)]
  · have hk : keepA A = putA A := if_neg h30
    rw [hk] at e
    have p3 : putA A 3 = A 3 + 1 := rfl
    refine BS_put hS (by omega) hB hN (by rw [e 3 (by omega), p3]) ?_ (fun i hi k hk2 => ?_) (fun k hk2 => ?_) (fun h hh => ?_)
    · rw [e 0 (by omega)]
      unfold putA
      rw [if_neg (by omega), if_neg (by omega)]
    · rw [e _ (by omega)]
      unfold putA
      rw [if_neg (by omega), if_neg (by omega)]
    · rw [e _ (by omega)]
      unfold putA
      rw [if_neg (by omega), if_pos (by omega), show 186 + 59 * A 3 + k - (186 + 59 * A 3) = k by omega]
    · rw [e _ (by omega)]
      unfold putA
      rw [if_neg (by omega), if_neg (by omega)]
def PM (σ : Sg) (A : Nat → Nat) : Prop := MA σ A ∧ BT A ∧ BN A ∧ σ.1 0 24 = nI 1
theorem PM.upd {σ : Sg} {A : Nat → Nat} (H : PM σ A) {j v : Nat} (hj : 10 ≤ j ∧ j < 50) (hB : BT (up A j v)) : PM (wI σ 1 j (nI v)) (up A j v) :=
  ⟨H.1.put (by omega) v, hB, BN_up H.2.2.1 (by omega), by rw [e_ne1 (by decide)]; exact H.2.2.2⟩
theorem pm_write {σ : Sg} {A : Nat → Nat} (H : PM σ A) {h w : Nat} (hh : h < 8) (hw : w < 8) : ∃ σ', f_X12_write (nI h) (nI w) σ = some σ' ∧ PM σ' (wr A h w) ∧ fr aB σ σ' := by
  obtain ⟨σ', e1, e2, e3⟩ := m_write H.1 H.2.2.1.1 H.2.1.2.1 H.2.2.2 hh hw
  exact ⟨σ', e1, ⟨e2, BT_wr H.2.1 H.2.2.1.1 h w, BN_wr H.2.2.1 H.2.1.2.1 hh hw, by rw [e3.1 0 24 (by omega)]; exact H.2.2.2⟩, e3⟩
theorem I2.step {κ : Kd} {T : TD} {σX σM : Sg} {A B : Nat → Nat} (I : I2 κ T σX σM A B) : ∃ σX1 σM1, f_X4_keep 11 2 σX = some σX1 ∧ f_X12_keep σM = some σM1 ∧ HX true σX1 2 (keepA A) ∧ XP σX1 11 (keepA A) ∧ PM σM1 (keepA A) ∧ fr (aS 11) σX σX1 ∧ fr aK σM σM1 := by
  have s3 := I.1.2.2.2.1.1
  obtain ⟨x1, a1, a2, a3⟩ := x_keep I.2.2.1.1 I.2.2.1.2.1 I.2.2.1.2.2.2.1 (by omega) s3
  obtain ⟨m1, b1, b2, b3⟩ := m_keep I.2.1 s3
  have hB : BT (keepA A) := I.1.1.cong (fun j hj => kA_off s3 (by omega))
  have hN : BN (keepA A) := BN_congr I.1.2.1 (fun j hj => kA_off s3 (by omega))
  have hT : XT x1 2 (keepA A) := (I.2.2.1.1.of (fun a j q _ => a3.1 _ _ (by omega))).congr (fun j hj => (kA_off s3 (by omega)).symm)
  have hNN : XN x1 2 (keepA A) := by
    have q := I.2.2.1.2.1.of (σ' := x1) (fun a j q => a3.1 _ _ (by omega))
    exact ⟨by rw [kA_off s3 (by omega)]; exact q.1, fun i hi => by rw [kA_off s3 (by omega)]; exact q.2 i hi⟩
  exact ⟨x1, m1, a1, b1, ⟨hT, hB, ⟨fun _ => hNN, _, hN.1, hNN.1⟩, fun _ => hN⟩, a2, ⟨b2, hB, hN, by rw [b3.1 0 24 (by omega)]; exact I.2.2.2.2.2.2.1.2.2.2⟩, a3, b3⟩
abbrev zSX : Nat → Nat → Prop := fun a j => (2 ≤ a ∧ a ≤ 7) ∨ scrX a j
abbrev zSM : Nat → Nat → Prop := fun a j => (a = 1 ∧ ((6 ≤ j ∧ j < 50) ∨ 1956 ≤ j)) ∨ scrM a j
theorem I2.fin {κ : Kd} {T : TD} {σX σM σX1 σM1 σX2 σM2 : Sg} {A A' B : Nat → Nat} (I : I2 κ T σX σM A B) (fX : fr (aS 11) σX σX1) (fM : fr aK σM σM1) (hP : XP σX1 11 (keepA A)) (gX : fr zSX σX1 σX2) (gM : fr zSM σM1 σM2) (hM : MA σM2 A') (hX : HX true σX2 2 A') (e : ∀ j, (j < 6 ∨ (50 ≤ j ∧ j < 1956) ∨ (10 ≤ j ∧ j < 50 ∧ j % 5 = 4)) → A' j = keepA A j) : I2 κ T σX2 σM2 A' B := by
  have s3 := I.1.2.2.2.1.1
  have h31 : keepA A 3 ≤ 30 := by
    unfold keepA
    split
    · show rolA A 3 + 1 ≤ 30
      rw [rolA_3]
      decide
    · show A 3 + 1 ≤ 30
      omega
  refine I.town ((fX.mono (fun a j q => by omega)).trans (gX.mono (fun a j q => by omega))) ((fM.mono (fun a j q => by omega)).trans (gM.mono (fun a j q => by omega))) hM hX.1 (hX.2.2.1.1 rfl) ?_ ⟨hX.2.1, hX.2.2.2 rfl, BS_after I.1.2.2.2.1 I.1.1 I.1.2.1 (fun j hj => e j (by omega))⟩ (fun j hj => ?_) ?_
  · exact (hP.of (fun a j q => gX.1 _ _ (by omega))).congr h31 (fun j hj => e j (by omega))
  · rw [e j (by omega)]; exact kA_off s3 (by omega)
  · rw [e 0 (by omega), kA_off s3 (by omega)]; exact Nat.le_refl _
theorem b1_not0 : (nI 1 = nI 0) = False := eq_false (by decide)

theorem g_light {κ : Kd} {T : TD} (v : Int32) : GO κ T (f_X11_light v) (f_X12_light v) := by
  intro σX σM ⟨A, B, I⟩
  have hM := I.2.1
  have hf : ∀ h, h < 8 → σX.1 (2 + 3) h = nI (A (10 + 5 * h)) := I.2.2.1.1.2.2.2.2.2.2.1
  have c8 := I.1.1.1
  unfold f_X11_light f_X11_tried f_X8_can f_X8_can_58 f_X12_light  f_X12_isSo f_X12_isSo_22 f_X12_isSo_23
  rcases I.told v with ⟨e1, e2, _⟩ | ⟨h, hh, rfl, e1, e2⟩
  · exact ⟨0, σX, σM, by simp (disch := omega) only [e_bnd, e_bndV, e_lt, e_grd, e_lit, e_le1, e_le2, e_lt1, e_lt2, e_eq1, e_eq2, e_inb, e_ix, nI_add, pk_mul, e_sub, e_b0, e_b1, e_bz, e_bz0, e_bz1, Bool.and_true, Bool.true_and, ↓reduceIte, not_true_eq_false, not_false_eq_true, decide_false, decide_true, and_self, and_true, true_and, and_false, false_and, Bool.false_eq_true, Bool.not_false, Bool.not_true, e1], by simp (disch := omega) only [e_bnd, e_bndV, e_lt, e_grd, e_lit, e_le1, e_le2, e_lt1, e_lt2, e_eq1, e_eq2, e_inb, e_ix, nI_add, pk_mul, e_sub, e_b0, e_b1, e_bz, e_bz0, e_bz1, Bool.and_true, Bool.true_and, ↓reduceIte, not_true_eq_false, not_false_eq_true, decide_false, decide_true, and_self, and_true, true_and, and_false, false_and, Bool.false_eq_true, Bool.not_false, Bool.not_true, e2], A, B, I⟩
  have h8 : h < 8 := by omega
  have hb := (I.1.1.2.2.2.2 h h8).1
  have hht := (I.1.1.2.2.2.2 h h8).2.1
  by_cases hq : A (10 + 5 * h) = 0
  · obtain ⟨x1, m1, k1, k2, H, hP, M, fX, fM⟩ := I.step
    have s3 := I.1.2.2.2.1.1
    have kh : keepA A (10 + 5 * h + 1) ≤ 9 := (H.2.1.2.2.2.2 h h8).2.1
    have xh : x1.1 (2 + 4) h = nI (keepA A (10 + 5 * h + 1)) := H.1.2.2.2.2.2.2.2 h h8
    obtain ⟨x2, s1, s2, s3'⟩ := hx_set H (h := h) (f := 2) (x := 9) h8 (by decide) (by decide)
    obtain ⟨x3, t1, t2, t3⟩ := hx_note s2 (h := h) (w := 0) h8 (by decide)
    have M2 := M.upd (j := 10 + 5 * h) (v := 2) (by omega) (M.2.1.fire (by decide))
    have M3 := M2.upd (j := 10 + 5 * h + 1) (v := 9) (by omega) (M2.2.1.heat (by decide))
    obtain ⟨m4, u1, u2, u3⟩ := pm_write M3 (h := h) (w := 0) h8 (by decide)
    refine ⟨1, x3, m4, ?_, ?_, _, B, I.fin fX fM hP ((s3'.mono (fun a j q => by omega)).trans (t3.mono (fun a j q => by omega))) (((fr.w (by omega)).trans (fr.w (by omega))).trans (u3.mono (fun a j q => by omega))) u2.1 t2 (fun j hj => ?_)⟩
    · simp (disch := omega) only [e_bnd, e_bndV, e_lt, e_grd, e_lit, e_le1, e_le2, e_lt1, e_lt2, e_eq1, e_eq2, e_inb, e_ix, nI_add, pk_mul, e_sub, e_b0, e_b1, e_bz, e_bz0, e_bz1, Bool.and_true, Bool.true_and, ↓reduceIte, not_true_eq_false, not_false_eq_true, decide_false, decide_true, and_self, and_true, true_and, and_false, false_and, Bool.false_eq_true, Bool.not_false, Bool.not_true, e1, hf, hq, k1, f_X8_act, f_X8_act_119, s1, t1]
    · simp (disch := omega) only [e_bnd, e_bndV, e_lt, e_grd, e_lit, e_le1, e_le2, e_lt1, e_lt2, e_eq1, e_eq2, e_inb, e_ix, nI_add, pk_mul, e_sub, e_b0, e_b1, e_bz, e_bz0, e_bz1, Bool.and_true, Bool.true_and, ↓reduceIte, not_true_eq_false, not_false_eq_true, decide_false, decide_true, and_self, and_true, true_and, and_false, false_and, Bool.false_eq_true, Bool.not_false, Bool.not_true, e2, m_get hM, Nat.add_zero, hq, k2, f_X12_lightNow, m_put, u1]
    · show wr (up (up (keepA A) (10 + 5 * h) 2) (10 + 5 * h + 1) 9) h 0 j = _
      rw [wr_off M3.2.2.1.1 (by omega) (by omega), up_ne (by omega), up_ne (by omega)]
  · exact ⟨0, σX, σM, by simp (disch := omega) only [e_bnd, e_bndV, e_lt, e_grd, e_lit, e_le1, e_le2, e_lt1, e_lt2, e_eq1, e_eq2, e_inb, e_ix, nI_add, pk_mul, e_sub, e_b0, e_b1, e_bz, e_bz0, e_bz1, Bool.and_true, Bool.true_and, ↓reduceIte, not_true_eq_false, not_false_eq_true, decide_false, decide_true, and_self, and_true, true_and, and_false, false_and, Bool.false_eq_true, Bool.not_false, Bool.not_true, e1, hf], by simp (disch := omega) only [e_bnd, e_bndV, e_lt, e_grd, e_lit, e_le1, e_le2, e_lt1, e_lt2, e_eq1, e_eq2, e_inb, e_ix, nI_add, pk_mul, e_sub, e_b0, e_b1, e_bz, e_bz0, e_bz1, Bool.and_true, Bool.true_and, ↓reduceIte, not_true_eq_false, not_false_eq_true, decide_false, decide_true, and_self, and_true, true_and, and_false, false_and, Bool.false_eq_true, Bool.not_false, Bool.not_true, e2, m_get hM, Nat.add_zero], A, B, I⟩
theorem g_cover {κ : Kd} {T : TD} (v : Int32) : GO κ T (f_X11_cover v) (f_X12_cover v) := by
  intro σX σM ⟨A, B, I⟩
  have hM := I.2.1
  have hf : ∀ h, h < 8 → σX.1 (2 + 3) h = nI (A (10 + 5 * h)) := I.2.2.1.1.2.2.2.2.2.2.1
  have c8 := I.1.1.1
  unfold f_X11_cover f_X11_tried f_X8_can f_X8_can_74 f_X12_cover f_X12_turned f_X12_isSo f_X12_isSo_22 f_X12_isSo_23
  rcases I.told v with ⟨e1, e2, _⟩ | ⟨h, hh, rfl, e1, e2⟩
  · exact ⟨0, σX, σM, by simp (disch := omega) only [e_bnd, e_bndV, e_lt, e_grd, e_lit, e_le1, e_le2, e_lt1, e_lt2, e_eq1, e_eq2, e_inb, e_ix, nI_add, pk_mul, e_sub, e_b0, e_b1, e_bz, e_bz0, e_bz1, Bool.and_true, Bool.true_and, ↓reduceIte, not_true_eq_false, not_false_eq_true, decide_false, decide_true, and_self, and_true, true_and, and_false, false_and, Bool.false_eq_true, Bool.not_false, Bool.not_true, e1], by simp (disch := omega) only [e_bnd, e_bndV, e_lt, e_grd, e_lit, e_le1, e_le2, e_lt1, e_lt2, e_eq1, e_eq2, e_inb, e_ix, nI_add, pk_mul, e_sub, e_b0, e_b1, e_bz, e_bz0, e_bz1, Bool.and_true, Bool.true_and, ↓reduceIte, not_true_eq_false, not_false_eq_true, decide_false, decide_true, and_self, and_true, true_and, and_false, false_and, Bool.false_eq_true, Bool.not_false, Bool.not_true, e2], A, B, I⟩
  have h8 : h < 8 := by omega
  have hb := (I.1.1.2.2.2.2 h h8).1
  have hht := (I.1.1.2.2.2.2 h h8).2.1
  by_cases hq : A (10 + 5 * h) = 2
  · obtain ⟨x1, m1, k1, k2, H, hP, M, fX, fM⟩ := I.step
    have s3 := I.1.2.2.2.1.1
    have kh : keepA A (10 + 5 * h + 1) ≤ 9 := (H.2.1.2.2.2.2 h h8).2.1
    have xh : x1.1 (2 + 4) h = nI (keepA A (10 + 5 * h + 1)) := H.1.2.2.2.2.2.2.2 h h8
    obtain ⟨x2, s1, s2, s3'⟩ := hx_set H (h := h) (f := 1) (x := (keepA A (10 + 5 * h + 1))) h8 (by decide) kh
    have M2 := M.upd (j := 10 + 5 * h) (v := 1) (by omega) (M.2.1.fire (by decide))
    have hid : up (up (keepA A) (10 + 5 * h) 1) (10 + 5 * h + 1) (keepA A (10 + 5 * h + 1)) = up (keepA A) (10 + 5 * h) 1 := by
      funext j
      by_cases q : j = 10 + 5 * h + 1
      · subst q; rw [up_hit, up_ne (by omega)]
      · rw [up_ne q]
    rw [hid] at s2
    refine ⟨1, x2, _, ?_, ?_, _, B, I.fin fX fM hP (s3'.mono (fun a j q => by omega)) (fr.w (by omega)) M2.1 s2 (fun j hj => ?_)⟩
    · simp (disch := omega) only [e_bnd, e_bndV, e_lt, e_grd, e_lit, e_le1, e_le2, e_lt1, e_lt2, e_eq1, e_eq2, e_inb, e_ix, nI_add, pk_mul, e_sub, e_b0, e_b1, e_bz, e_bz0, e_bz1, Bool.and_true, Bool.true_and, ↓reduceIte, not_true_eq_false, not_false_eq_true, decide_false, decide_true, and_self, and_true, true_and, and_false, false_and, Bool.false_eq_true, Bool.not_false, Bool.not_true, e1, hf, hq, k1, f_X8_act, f_X8_act_119, xh, s1]
    · simp (disch := omega) only [e_bnd, e_bndV, e_lt, e_grd, e_lit, e_le1, e_le2, e_lt1, e_lt2, e_eq1, e_eq2, e_inb, e_ix, nI_add, pk_mul, e_sub, e_b0, e_b1, e_bz, e_bz0, e_bz1, Bool.and_true, Bool.true_and, ↓reduceIte, not_true_eq_false, not_false_eq_true, decide_false, decide_true, and_self, and_true, true_and, and_false, false_and, Bool.false_eq_true, Bool.not_false, Bool.not_true, e2, m_get hM, Nat.add_zero, hq, k2, m_put]
    · rw [up_ne (by omega)]
  · exact ⟨0, σX, σM, by simp (disch := omega) only [e_bnd, e_bndV, e_lt, e_grd, e_lit, e_le1, e_le2, e_lt1, e_lt2, e_eq1, e_eq2, e_inb, e_ix, nI_add, pk_mul, e_sub, e_b0, e_b1, e_bz, e_bz0, e_bz1, Bool.and_true, Bool.true_and, ↓reduceIte, not_true_eq_false, not_false_eq_true, decide_false, decide_true, and_self, and_true, true_and, and_false, false_and, Bool.false_eq_true, Bool.not_false, Bool.not_true, e1, hf], by simp (disch := omega) only [e_bnd, e_bndV, e_lt, e_grd, e_lit, e_le1, e_le2, e_lt1, e_lt2, e_eq1, e_eq2, e_inb, e_ix, nI_add, pk_mul, e_sub, e_b0, e_b1, e_bz, e_bz0, e_bz1, Bool.and_true, Bool.true_and, ↓reduceIte, not_true_eq_false, not_false_eq_true, decide_false, decide_true, and_self, and_true, true_and, and_false, false_and, Bool.false_eq_true, Bool.not_false, Bool.not_true, e2, m_get hM, Nat.add_zero], A, B, I⟩
theorem g_open {κ : Kd} {T : TD} (v : Int32) : GO κ T (f_X11_open v) (f_X12_open v) := by
  intro σX σM ⟨A, B, I⟩
  have hM := I.2.1
  have hf : ∀ h, h < 8 → σX.1 (2 + 3) h = nI (A (10 + 5 * h)) := I.2.2.1.1.2.2.2.2.2.2.1
  have c8 := I.1.1.1
  unfold f_X11_open f_X11_tried f_X8_can f_X8_can_90 f_X12_open f_X12_turned f_X12_isSo f_X12_isSo_22 f_X12_isSo_23
  rcases I.told v with ⟨e1, e2, _⟩ | ⟨h, hh, rfl, e1, e2⟩
  · exact ⟨0, σX, σM, by simp (disch := omega) only [e_bnd, e_bndV, e_lt, e_grd, e_lit, e_le1, e_le2, e_lt1, e_lt2, e_eq1, e_eq2, e_inb, e_ix, nI_add, pk_mul, e_sub, e_b0, e_b1, e_bz, e_bz0, e_bz1, Bool.and_true, Bool.true_and, ↓reduceIte, not_true_eq_false, not_false_eq_true, decide_false, decide_true, and_self, and_true, true_and, and_false, false_and, Bool.false_eq_true, Bool.not_false, Bool.not_true, e1], by simp (disch := omega) only [e_bnd, e_bndV, e_lt, e_grd, e_lit, e_le1, e_le2, e_lt1, e_lt2, e_eq1, e_eq2, e_inb, e_ix, nI_add, pk_mul, e_sub, e_b0, e_b1, e_bz, e_bz0, e_bz1, Bool.and_true, Bool.true_and, ↓reduceIte, not_true_eq_false, not_false_eq_true, decide_false, decide_true, and_self, and_true, true_and, and_false, false_and, Bool.false_eq_true, Bool.not_false, Bool.not_true, e2], A, B, I⟩
  have h8 : h < 8 := by omega
  have hb := (I.1.1.2.2.2.2 h h8).1
  have hht := (I.1.1.2.2.2.2 h h8).2.1
  by_cases hq : A (10 + 5 * h) = 1
  · obtain ⟨x1, m1, k1, k2, H, hP, M, fX, fM⟩ := I.step
    have s3 := I.1.2.2.2.1.1
    have kh : keepA A (10 + 5 * h + 1) ≤ 9 := (H.2.1.2.2.2.2 h h8).2.1
    have xh : x1.1 (2 + 4) h = nI (keepA A (10 + 5 * h + 1)) := H.1.2.2.2.2.2.2.2 h h8
    obtain ⟨x2, s1, s2, s3'⟩ := hx_set H (h := h) (f := 2) (x := (keepA A (10 + 5 * h + 1))) h8 (by decide) kh
    have M2 := M.upd (j := 10 + 5 * h) (v := 2) (by omega) (M.2.1.fire (by decide))
    have hid : up (up (keepA A) (10 + 5 * h) 2) (10 + 5 * h + 1) (keepA A (10 + 5 * h + 1)) = up (keepA A) (10 + 5 * h) 2 := by
      funext j
      by_cases q : j = 10 + 5 * h + 1
      · subst q; rw [up_hit, up_ne (by omega)]
      · rw [up_ne q]
    rw [hid] at s2
    refine ⟨1, x2, _, ?_, ?_, _, B, I.fin fX fM hP (s3'.mono (fun a j q => by omega)) (fr.w (by omega)) M2.1 s2 (fun j hj => ?_)⟩
    · simp (disch := omega) only [e_bnd, e_bndV, e_lt, e_grd, e_lit, e_le1, e_le2, e_lt1, e_lt2, e_eq1, e_eq2, e_inb, e_ix, nI_add, pk_mul, e_sub, e_b0, e_b1, e_bz, e_bz0, e_bz1, Bool.and_true, Bool.true_and, ↓reduceIte, not_true_eq_false, not_false_eq_true, decide_false, decide_true, and_self, and_true, true_and, and_false, false_and, Bool.false_eq_true, Bool.not_false, Bool.not_true, e1, hf, hq, k1, f_X8_act, f_X8_act_119, xh, s1]
    · simp (disch := omega) only [e_bnd, e_bndV, e_lt, e_grd, e_lit, e_le1, e_le2, e_lt1, e_lt2, e_eq1, e_eq2, e_inb, e_ix, nI_add, pk_mul, e_sub, e_b0, e_b1, e_bz, e_bz0, e_bz1, Bool.and_true, Bool.true_and, ↓reduceIte, not_true_eq_false, not_false_eq_true, decide_false, decide_true, and_self, and_true, true_and, and_false, false_and, Bool.false_eq_true, Bool.not_false, Bool.not_true, e2, m_get hM, Nat.add_zero, hq, k2, m_put]
    · rw [up_ne (by omega)]
  · exact ⟨0, σX, σM, by simp (disch := omega) only [e_bnd, e_bndV, e_lt, e_grd, e_lit, e_le1, e_le2, e_lt1, e_lt2, e_eq1, e_eq2, e_inb, e_ix, nI_add, pk_mul, e_sub, e_b0, e_b1, e_bz, e_bz0, e_bz1, Bool.and_true, Bool.true_and, ↓reduceIte, not_true_eq_false, not_false_eq_true, decide_false, decide_true, and_self, and_true, true_and, and_false, false_and, Bool.false_eq_true, Bool.not_false, Bool.not_true, e1, hf], by simp (disch := omega) only [e_bnd, e_bndV, e_lt, e_grd, e_lit, e_le1, e_le2, e_lt1, e_lt2, e_eq1, e_eq2, e_inb, e_ix, nI_add, pk_mul, e_sub, e_b0, e_b1, e_bz, e_bz0, e_bz1, Bool.and_true, Bool.true_and, ↓reduceIte, not_true_eq_false, not_false_eq_true, decide_false, decide_true, and_self, and_true, true_and, and_false, false_and, Bool.false_eq_true, Bool.not_false, Bool.not_true, e2, m_get hM, Nat.add_zero], A, B, I⟩
theorem g_quench {κ : Kd} {T : TD} (v : Int32) : GO κ T (f_X11_quench v) (f_X12_quench v) := by
  intro σX σM ⟨A, B, I⟩
  have hM := I.2.1
  have hf : ∀ h, h < 8 → σX.1 (2 + 3) h = nI (A (10 + 5 * h)) := I.2.2.1.1.2.2.2.2.2.2.1
  have c8 := I.1.1.1
  unfold f_X11_quench f_X11_tried f_X8_can f_X8_can_106 f_X12_quench f_X12_turned f_X12_isSo f_X12_isSo_22 f_X12_isSo_23
  rcases I.told v with ⟨e1, e2, _⟩ | ⟨h, hh, rfl, e1, e2⟩
  · exact ⟨0, σX, σM, by simp (disch := omega) only [e_bnd, e_bndV, e_lt, e_grd, e_lit, e_le1, e_le2, e_lt1, e_lt2, e_eq1, e_eq2, e_inb, e_ix, nI_add, pk_mul, e_sub, e_b0, e_b1, e_bz, e_bz0, e_bz1, Bool.and_true, Bool.true_and, ↓reduceIte, not_true_eq_false, not_false_eq_true, decide_false, decide_true, and_self, and_true, true_and, and_false, false_and, Bool.false_eq_true, Bool.not_false, Bool.not_true, e1], by simp (disch := omega) only [e_bnd, e_bndV, e_lt, e_grd, e_lit, e_le1, e_le2, e_lt1, e_lt2, e_eq1, e_eq2, e_inb, e_ix, nI_add, pk_mul, e_sub, e_b0, e_b1, e_bz, e_bz0, e_bz1, Bool.and_true, Bool.true_and, ↓reduceIte, not_true_eq_false, not_false_eq_true, decide_false, decide_true, and_self, and_true, true_and, and_false, false_and, Bool.false_eq_true, Bool.not_false, Bool.not_true, e2], A, B, I⟩
  have h8 : h < 8 := by omega
  have hb := (I.1.1.2.2.2.2 h h8).1
  have hht := (I.1.1.2.2.2.2 h h8).2.1
  by_cases hq : A (10 + 5 * h) = 3
  · obtain ⟨x1, m1, k1, k2, H, hP, M, fX, fM⟩ := I.step
    have s3 := I.1.2.2.2.1.1
    have kh : keepA A (10 + 5 * h + 1) ≤ 9 := (H.2.1.2.2.2.2 h h8).2.1
    have xh : x1.1 (2 + 4) h = nI (keepA A (10 + 5 * h + 1)) := H.1.2.2.2.2.2.2.2 h h8
    obtain ⟨x2, s1, s2, s3'⟩ := hx_set H (h := h) (f := 0) (x := 0) h8 (by decide) (by decide)
    have M2 := M.upd (j := 10 + 5 * h) (v := 0) (by omega) (M.2.1.fire (by decide))
    have M3 := M2.upd (j := 10 + 5 * h + 1) (v := 0) (by omega) (M2.2.1.heat (by decide))
    refine ⟨1, x2, _, ?_, ?_, _, B, I.fin fX fM hP (s3'.mono (fun a j q => by omega)) ((fr.w (by omega)).trans (fr.w (by omega))) M3.1 s2 (fun j hj => ?_)⟩
    · simp (disch := omega) only [e_bnd, e_bndV, e_lt, e_grd, e_lit, e_le1, e_le2, e_lt1, e_lt2, e_eq1, e_eq2, e_inb, e_ix, nI_add, pk_mul, e_sub, e_b0, e_b1, e_bz, e_bz0, e_bz1, Bool.and_true, Bool.true_and, ↓reduceIte, not_true_eq_false, not_false_eq_true, decide_false, decide_true, and_self, and_true, true_and, and_false, false_and, Bool.false_eq_true, Bool.not_false, Bool.not_true, e1, hf, hq, k1, f_X8_act, f_X8_act_119, s1]
    · simp (disch := omega) only [e_bnd, e_bndV, e_lt, e_grd, e_lit, e_le1, e_le2, e_lt1, e_lt2, e_eq1, e_eq2, e_inb, e_ix, nI_add, pk_mul, e_sub, e_b0, e_b1, e_bz, e_bz0, e_bz1, Bool.and_true, Bool.true_and, ↓reduceIte, not_true_eq_false, not_false_eq_true, decide_false, decide_true, and_self, and_true, true_and, and_false, false_and, Bool.false_eq_true, Bool.not_false, Bool.not_true, e2, m_get hM, Nat.add_zero, hq, k2, m_put]
    · rw [up_ne (by omega), up_ne (by omega)]
  · exact ⟨0, σX, σM, by simp (disch := omega) only [e_bnd, e_bndV, e_lt, e_grd, e_lit, e_le1, e_le2, e_lt1, e_lt2, e_eq1, e_eq2, e_inb, e_ix, nI_add, pk_mul, e_sub, e_b0, e_b1, e_bz, e_bz0, e_bz1, Bool.and_true, Bool.true_and, ↓reduceIte, not_true_eq_false, not_false_eq_true, decide_false, decide_true, and_self, and_true, true_and, and_false, false_and, Bool.false_eq_true, Bool.not_false, Bool.not_true, e1, hf], by simp (disch := omega) only [e_bnd, e_bndV, e_lt, e_grd, e_lit, e_le1, e_le2, e_lt1, e_lt2, e_eq1, e_eq2, e_inb, e_ix, nI_add, pk_mul, e_sub, e_b0, e_b1, e_bz, e_bz0, e_bz1, Bool.and_true, Bool.true_and, ↓reduceIte, not_true_eq_false, not_false_eq_true, decide_false, decide_true, and_self, and_true, true_and, and_false, false_and, Bool.false_eq_true, Bool.not_false, Bool.not_true, e2, m_get hM, Nat.add_zero], A, B, I⟩
