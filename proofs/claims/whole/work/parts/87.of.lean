/-! METHODS: of, kept, warmest, parts that only look -/
theorem g_of {κ : Kd} {T : TD} (v w : Int32) : GO κ T (f_X11_of κ v w) (f_X12_of v w) := by
  intro σX σM ⟨A, B, I⟩
  have hM := I.2.1
  have hX := I.2.2.1.1
  have hB := I.1.1
  have hBR := I.1.2.2.1
  have hXR : XR σX 8 A := I.2.2.1.2.2.1
  have c8 := hB.1
  have x3 : ∀ h, h < 8 → σX.1 3 h = nI (A (10 + 5 * h + 3)) := hX.2.2.2.2.1
  have x4 : ∀ h, h < 8 → σX.1 4 h = nI (A (10 + 5 * h + 2)) := hX.2.2.2.2.2.1
  have x5 : ∀ h, h < 8 → σX.1 5 h = nI (A (10 + 5 * h)) := hX.2.2.2.2.2.2.1
  have x6 : ∀ h, h < 8 → σX.1 6 h = nI (A (10 + 5 * h + 1)) := hX.2.2.2.2.2.2.2
  have hall := m_allOf hM hB (f := 3) (by decide)
  have hby : f_X8_housesBy 2 (nI 3) (nI 3) σX = some (nI (fires A 3 3), σX) := x_housesBy hX hB (lo := 3) (hi := 3) (by decide) (by decide)
  have hfl : fires A 3 3 < 256 := mk8 _ c8
  have hM2 : MA (wI σM 0 23 (nI (fires A 3 3))) A := hM.put0 (by decide)
  have hs23 : (wI σM 0 23 (nI (fires A 3 3))).1 0 23 = nI (fires A 3 3) := e_hit
  have I' : I2 κ T σX (wI σM 0 23 (nI (fires A 3 3))) A B := I.scr fr.rfl (fr.w (by omega))
  unfold f_X11_of f_X12_of
  rcases I.told v with ⟨e1, e2, _⟩ | ⟨h, hh, rfl, e1, e2⟩
  · exact ⟨-1, σX, σM, by rw [e1, e_bnd]; exact if_pos rfl, by rw [e2, e_bnd]; exact if_pos rfl, A, B, I⟩
  have h8 : h < 8 := by omega
  have hn := x_near hXR h8 hfl
  obtain ⟨r, Lw, hr, hRX, hSM, hd⟩ := I.rule
  have hr0 := hr σX rfl rfl rfl
  have hSM2 : SAY (wI σM 0 23 (nI (fires A 3 3))) ((wI σM 0 23 (nI (fires A 3 3))).1 1 2) Lw := by
    rw [e_ne1 (by decide)]
    exact hSM.tx (fun j => by rw [e_ne1 (by decide)])
  have look : ∀ l, l < 3 → ∃ x, f_X11_rateNow κ (nI l) (nI h) σX = some (nI (rt (Lw l) l A h (pc8 (bes A h &&& fires A 3 3))), x) ∧ fr (fun a _ => a = 47 ∨ a = 48) σX x := by
    intro l hl
    obtain ⟨x, r1, r2⟩ := hRX σX 2 A l h (pc8 (bes A h &&& fires A 3 3)) (fun _ _ _ => rfl) (by decide) hX hB hl hh (pc8_le _)
    refine ⟨x, ?_, r2⟩
    unfold f_X11_rateNow f_X1_rateToday
    simp (disch := omega) only [e_bnd, e_bndV, e_lt, e_grd, e_lit, e_le1, e_le2, e_lt1, e_lt2, e_eq1, e_eq2, e_inb, e_ix, nI_add, pk_mul, e_sub, e_b0, e_b1, e_bz, e_bz0, e_bz1, Bool.and_true, Bool.true_and, ↓reduceIte, not_true_eq_false, not_false_eq_true, decide_false, decide_true, and_self, and_true, true_and, and_false, false_and, Bool.false_eq_true, Bool.not_false, Bool.not_true, hr0, hby, hn, r1]
  rcases rng w 0 7 (by decide) (by decide) with hw | ⟨n, _, hw, rfl⟩
  · have hne : ∀ k, k ≤ 7 → ¬ w = nI k := fun k hk q => hw (by subst q; exact ⟨nI_pos' (by omega), nI_le hk (by decide)⟩)
    have n0 := hne 0 (by decide)
    have n1 := hne 1 (by decide)
    have n2 := hne 2 (by decide)
    have n3 := hne 3 (by decide)
    have n4 := hne 4 (by decide)
    have n5 := hne 5 (by decide)
    have n6 := hne 6 (by decide)
    have n7 := hne 7 (by decide)
    exact ⟨-1, σX, _, by simp (disch := omega) only [e_bnd, e_bndV, e_lt, e_grd, e_lit, e_le1, e_le2, e_lt1, e_lt2, e_eq1, e_eq2, e_inb, e_ix, nI_add, pk_mul, e_sub, e_b0, e_b1, e_bz, e_bz0, e_bz1, Bool.and_true, Bool.true_and, ↓reduceIte, not_true_eq_false, not_false_eq_true, decide_false, decide_true, and_self, and_true, true_and, and_false, false_and, Bool.false_eq_true, Bool.not_false, Bool.not_true, e1, n0, n1, n2, n3, n4, n5, n6, n7], by simp (disch := omega) only [e_bnd, e_bndV, e_lt, e_grd, e_lit, e_le1, e_le2, e_lt1, e_lt2, e_eq1, e_eq2, e_inb, e_ix, nI_add, pk_mul, e_sub, e_b0, e_b1, e_bz, e_bz0, e_bz1, Bool.and_true, Bool.true_and, ↓reduceIte, not_true_eq_false, not_false_eq_true, decide_false, decide_true, and_self, and_true, true_and, and_false, false_and, Bool.false_eq_true, Bool.not_false, Bool.not_true, e2, hall, n0, n1, n2, n3, n4, n5, n6, n7], A, B, I'⟩
  · have : n = 0 ∨ n = 1 ∨ n = 2 ∨ n = 3 ∨ n = 4 ∨ n = 5 ∨ n = 6 ∨ n = 7 := by omega
    rcases this with rfl | rfl | rfl | rfl | rfl | rfl | rfl | rfl
    · exact ⟨nI (A (10 + 5 * h + 3)), σX, _, by simp (disch := omega) only [e_bnd, e_bndV, e_lt, e_grd, e_lit, e_le1, e_le2, e_lt1, e_lt2, e_eq1, e_eq2, e_inb, e_ix, nI_add, pk_mul, e_sub, e_b0, e_b1, e_bz, e_bz0, e_bz1, Bool.and_true, Bool.true_and, ↓reduceIte, not_true_eq_false, not_false_eq_true, decide_false, decide_true, and_self, and_true, true_and, and_false, false_and, Bool.false_eq_true, Bool.not_false, Bool.not_true, e1, x3], by simp (disch := omega) only [e_bnd, e_bndV, e_lt, e_grd, e_lit, e_le1, e_le2, e_lt1, e_lt2, e_eq1, e_eq2, e_inb, e_ix, nI_add, pk_mul, e_sub, e_b0, e_b1, e_bz, e_bz0, e_bz1, Bool.and_true, Bool.true_and, ↓reduceIte, not_true_eq_false, not_false_eq_true, decide_false, decide_true, and_self, and_true, true_and, and_false, false_and, Bool.false_eq_true, Bool.not_false, Bool.not_true, e2, hall, m_get hM2], A, B, I'⟩
    · exact ⟨nI (A (10 + 5 * h + 2)), σX, _, by simp (disch := omega) only [e_bnd, e_bndV, e_lt, e_grd, e_lit, e_le1, e_le2, e_lt1, e_lt2, e_eq1, e_eq2, e_inb, e_ix, nI_add, pk_mul, e_sub, e_b0, e_b1, e_bz, e_bz0, e_bz1, Bool.and_true, Bool.true_and, ↓reduceIte, not_true_eq_false, not_false_eq_true, decide_false, decide_true, and_self, and_true, true_and, and_false, false_and, Bool.false_eq_true, Bool.not_false, Bool.not_true, e1, x4], by simp (disch := omega) only [e_bnd, e_bndV, e_lt, e_grd, e_lit, e_le1, e_le2, e_lt1, e_lt2, e_eq1, e_eq2, e_inb, e_ix, nI_add, pk_mul, e_sub, e_b0, e_b1, e_bz, e_bz0, e_bz1, Bool.and_true, Bool.true_and, ↓reduceIte, not_true_eq_false, not_false_eq_true, decide_false, decide_true, and_self, and_true, true_and, and_false, false_and, Bool.false_eq_true, Bool.not_false, Bool.not_true, e2, hall, m_get hM2], A, B, I'⟩
    · exact ⟨nI (A (10 + 5 * h)), σX, _, by simp (disch := omega) only [e_bnd, e_bndV, e_lt, e_grd, e_lit, e_le1, e_le2, e_lt1, e_lt2, e_eq1, e_eq2, e_inb, e_ix, nI_add, pk_mul, e_sub, e_b0, e_b1, e_bz, e_bz0, e_bz1, Bool.and_true, Bool.true_and, ↓reduceIte, not_true_eq_false, not_false_eq_true, decide_false, decide_true, and_self, and_true, true_and, and_false, false_and, Bool.false_eq_true, Bool.not_false, Bool.not_true, e1, x5], by simp (disch := omega) only [e_bnd, e_bndV, e_lt, e_grd, e_lit, e_le1, e_le2, e_lt1, e_lt2, e_eq1, e_eq2, e_inb, e_ix, nI_add, pk_mul, e_sub, e_b0, e_b1, e_bz, e_bz0, e_bz1, Bool.and_true, Bool.true_and, ↓reduceIte, not_true_eq_false, not_false_eq_true, decide_false, decide_true, and_self, and_true, true_and, and_false, false_and, Bool.false_eq_true, Bool.not_false, Bool.not_true, e2, hall, m_get hM2, Nat.add_zero], A, B, I'⟩
    · exact ⟨nI (A (10 + 5 * h + 1)), σX, _, by simp (disch := omega) only [e_bnd, e_bndV, e_lt, e_grd, e_lit, e_le1, e_le2, e_lt1, e_lt2, e_eq1, e_eq2, e_inb, e_ix, nI_add, pk_mul, e_sub, e_b0, e_b1, e_bz, e_bz0, e_bz1, Bool.and_true, Bool.true_and, ↓reduceIte, not_true_eq_false, not_false_eq_true, decide_false, decide_true, and_self, and_true, true_and, and_false, false_and, Bool.false_eq_true, Bool.not_false, Bool.not_true, e1, x6], by simp (disch := omega) only [e_bnd, e_bndV, e_lt, e_grd, e_lit, e_le1, e_le2, e_lt1, e_lt2, e_eq1, e_eq2, e_inb, e_ix, nI_add, pk_mul, e_sub, e_b0, e_b1, e_bz, e_bz0, e_bz1, Bool.and_true, Bool.true_and, ↓reduceIte, not_true_eq_false, not_false_eq_true, decide_false, decide_true, and_self, and_true, true_and, and_false, false_and, Bool.false_eq_true, Bool.not_false, Bool.not_true, e2, hall, m_get hM2], A, B, I'⟩
    · obtain ⟨x, l1, l2⟩ := look 0 (by decide)
      obtain ⟨m, k1, k2⟩ := m_coolsOf hM2 hB hBR hSM2 hh hfl hs23
      exact ⟨_, x, m, by simp (disch := omega) only [e_bnd, e_bndV, e_lt, e_grd, e_lit, e_le1, e_le2, e_lt1, e_lt2, e_eq1, e_eq2, e_inb, e_ix, nI_add, pk_mul, e_sub, e_b0, e_b1, e_bz, e_bz0, e_bz1, Bool.and_true, Bool.true_and, ↓reduceIte, not_true_eq_false, not_false_eq_true, decide_false, decide_true, and_self, and_true, true_and, and_false, false_and, Bool.false_eq_true, Bool.not_false, Bool.not_true, e1, l1]; exact rfl, by simp (disch := omega) only [e_bnd, e_bndV, e_lt, e_grd, e_lit, e_le1, e_le2, e_lt1, e_lt2, e_eq1, e_eq2, e_inb, e_ix, nI_add, pk_mul, e_sub, e_b0, e_b1, e_bz, e_bz0, e_bz1, Bool.and_true, Bool.true_and, ↓reduceIte, not_true_eq_false, not_false_eq_true, decide_false, decide_true, and_self, and_true, true_and, and_false, false_and, Bool.false_eq_true, Bool.not_false, Bool.not_true, e2, hall, k1], A, B, I'.scr (l2.mono (fun a j q => by omega)) (k2.mono (fun a j q => by omega))⟩
    · obtain ⟨x, l1, l2⟩ := look 1 (by decide)
      obtain ⟨m, k1, k2⟩ := m_spreadsOf hM2 hB hBR hSM2 hh hfl hs23
      exact ⟨_, x, m, by simp (disch := omega) only [e_bnd, e_bndV, e_lt, e_grd, e_lit, e_le1, e_le2, e_lt1, e_lt2, e_eq1, e_eq2, e_inb, e_ix, nI_add, pk_mul, e_sub, e_b0, e_b1, e_bz, e_bz0, e_bz1, Bool.and_true, Bool.true_and, ↓reduceIte, not_true_eq_false, not_false_eq_true, decide_false, decide_true, and_self, and_true, true_and, and_false, false_and, Bool.false_eq_true, Bool.not_false, Bool.not_true, e1, l1]; exact rfl, by simp (disch := omega) only [e_bnd, e_bndV, e_lt, e_grd, e_lit, e_le1, e_le2, e_lt1, e_lt2, e_eq1, e_eq2, e_inb, e_ix, nI_add, pk_mul, e_sub, e_b0, e_b1, e_bz, e_bz0, e_bz1, Bool.and_true, Bool.true_and, ↓reduceIte, not_true_eq_false, not_false_eq_true, decide_false, decide_true, and_self, and_true, true_and, and_false, false_and, Bool.false_eq_true, Bool.not_false, Bool.not_true, e2, hall, k1], A, B, I'.scr (l2.mono (fun a j q => by omega)) (k2.mono (fun a j q => by omega))⟩
    · obtain ⟨x, l1, l2⟩ := look 2 (by decide)
      obtain ⟨m, k1, k2⟩ := m_fineOf hM2 hB hBR hSM2 hh hfl hs23
      exact ⟨_, x, m, by simp (disch := omega) only [e_bnd, e_bndV, e_lt, e_grd, e_lit, e_le1, e_le2, e_lt1, e_lt2, e_eq1, e_eq2, e_inb, e_ix, nI_add, pk_mul, e_sub, e_b0, e_b1, e_bz, e_bz0, e_bz1, Bool.and_true, Bool.true_and, ↓reduceIte, not_true_eq_false, not_false_eq_true, decide_false, decide_true, and_self, and_true, true_and, and_false, false_and, Bool.false_eq_true, Bool.not_false, Bool.not_true, e1, l1]; exact rfl, by simp (disch := omega) only [e_bnd, e_bndV, e_lt, e_grd, e_lit, e_le1, e_le2, e_lt1, e_lt2, e_eq1, e_eq2, e_inb, e_ix, nI_add, pk_mul, e_sub, e_b0, e_b1, e_bz, e_bz0, e_bz1, Bool.and_true, Bool.true_and, ↓reduceIte, not_true_eq_false, not_false_eq_true, decide_false, decide_true, and_self, and_true, true_and, and_false, false_and, Bool.false_eq_true, Bool.not_false, Bool.not_true, e2, hall, k1], A, B, I'.scr (l2.mono (fun a j q => by omega)) (k2.mono (fun a j q => by omega))⟩
    · have k1 := m_nearOf hM2 c8 hBR h8 hfl hs23
      exact ⟨_, σX, _, by simp (disch := omega) only [e_bnd, e_bndV, e_lt, e_grd, e_lit, e_le1, e_le2, e_lt1, e_lt2, e_eq1, e_eq2, e_inb, e_ix, nI_add, pk_mul, e_sub, e_b0, e_b1, e_bz, e_bz0, e_bz1, Bool.and_true, Bool.true_and, ↓reduceIte, not_true_eq_false, not_false_eq_true, decide_false, decide_true, and_self, and_true, true_and, and_false, false_and, Bool.false_eq_true, Bool.not_false, Bool.not_true, e1, hby, hn]; exact rfl, by simp (disch := omega) only [e_bnd, e_bndV, e_lt, e_grd, e_lit, e_le1, e_le2, e_lt1, e_lt2, e_eq1, e_eq2, e_inb, e_ix, nI_add, pk_mul, e_sub, e_b0, e_b1, e_bz, e_bz0, e_bz1, Bool.and_true, Bool.true_and, ↓reduceIte, not_true_eq_false, not_false_eq_true, decide_false, decide_true, and_self, and_true, true_and, and_false, false_and, Bool.false_eq_true, Bool.not_false, Bool.not_true, e2, hall, k1], A, B, I'⟩
