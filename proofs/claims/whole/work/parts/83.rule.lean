/-! the law that rules; fetch, undo -/
theorem x_without {σ : Sg} {t : Nat} {A : Nat → Nat} (hX : XT σ t A) (hB : BT A) {l h near : Nat} (hl : l < 3) (hh : h < 8) (hn : near ≤ 8) : f_X1_without t (nI l) (nI h) (nI near) σ = some (nI (lwo l A h near), σ) := by
  have hf := hX.2.2.2.2.2.2.1
  have hw := hX.2.2.2.2.1
  have hb := hB.2.2.2.2 h hh
  unfold f_X1_without f_X1_without_15 f_X1_without_54 f_X1_without_81 lwo
  have : l = 0 ∨ l = 1 ∨ l = 2 := by omega
  by_cases h2 : A (10 + 5 * h) = 2
  · rcases this with rfl | rfl | rfl
    · simp (disch := omega) only [e_bnd, e_bndV, e_lt, e_grd, e_lit, e_le1, e_le2, e_lt1, e_lt2, e_eq1, e_eq2, e_inb, e_ix, nI_add, pk_mul, e_sub, e_b0, e_b1, e_bz, e_bz0, e_bz1, Bool.and_true, Bool.true_and, ↓reduceIte, not_true_eq_false, not_false_eq_true, decide_false, decide_true, and_self, and_true, true_and, and_false, false_and, Bool.false_eq_true, Bool.not_false, Bool.not_true, hf, h2, dz_I, pk_div, hw]
    · simp (disch := omega) only [e_bnd, e_bndV, e_lt, e_grd, e_lit, e_le1, e_le2, e_lt1, e_lt2, e_eq1, e_eq2, e_inb, e_ix, nI_add, pk_mul, e_sub, e_b0, e_b1, e_bz, e_bz0, e_bz1, Bool.and_true, Bool.true_and, ↓reduceIte, not_true_eq_false, not_false_eq_true, decide_false, decide_true, and_self, and_true, true_and, and_false, false_and, Bool.false_eq_true, Bool.not_false, Bool.not_true, hf, h2, dz_I, pk_div, hw, show ¬ (1 = 0) by decide]
    · simp (disch := omega) only [e_bnd, e_bndV, e_lt, e_grd, e_lit, e_le1, e_le2, e_lt1, e_lt2, e_eq1, e_eq2, e_inb, e_ix, nI_add, pk_mul, e_sub, e_b0, e_b1, e_bz, e_bz0, e_bz1, Bool.and_true, Bool.true_and, ↓reduceIte, not_true_eq_false, not_false_eq_true, decide_false, decide_true, and_self, and_true, true_and, and_false, false_and, Bool.false_eq_true, Bool.not_false, Bool.not_true, hf, h2, dz_I, pk_div, hw, show ¬ (2 = 0) by decide, show ¬ (2 = 1) by decide]
  · rcases this with rfl | rfl | rfl
    · simp (disch := omega) only [e_bnd, e_bndV, e_lt, e_grd, e_lit, e_le1, e_le2, e_lt1, e_lt2, e_eq1, e_eq2, e_inb, e_ix, nI_add, pk_mul, e_sub, e_b0, e_b1, e_bz, e_bz0, e_bz1, Bool.and_true, Bool.true_and, ↓reduceIte, not_true_eq_false, not_false_eq_true, decide_false, decide_true, and_self, and_true, true_and, and_false, false_and, Bool.false_eq_true, Bool.not_false, Bool.not_true, hf, h2, dz_I, pk_div, hw]
    · simp (disch := omega) only [e_bnd, e_bndV, e_lt, e_grd, e_lit, e_le1, e_le2, e_lt1, e_lt2, e_eq1, e_eq2, e_inb, e_ix, nI_add, pk_mul, e_sub, e_b0, e_b1, e_bz, e_bz0, e_bz1, Bool.and_true, Bool.true_and, ↓reduceIte, not_true_eq_false, not_false_eq_true, decide_false, decide_true, and_self, and_true, true_and, and_false, false_and, Bool.false_eq_true, Bool.not_false, Bool.not_true, hf, h2, dz_I, pk_div, hw, show ¬ (1 = 0) by decide]
    · simp (disch := omega) only [e_bnd, e_bndV, e_lt, e_grd, e_lit, e_le1, e_le2, e_lt1, e_lt2, e_eq1, e_eq2, e_inb, e_ix, nI_add, pk_mul, e_sub, e_b0, e_b1, e_bz, e_bz0, e_bz1, Bool.and_true, Bool.true_and, ↓reduceIte, not_true_eq_false, not_false_eq_true, decide_false, decide_true, and_self, and_true, true_and, and_false, false_and, Bool.false_eq_true, Bool.not_false, Bool.not_true, hf, h2, dz_I, pk_div, hw, show ¬ (2 = 0) by decide, show ¬ (2 = 1) by decide]
theorem lwo_le {A : Nat → Nat} (hB : BT A) {l h near : Nat} (hh : h < 8) (hn : near ≤ 8) : lwo l A h near ≤ 100 := by
  have hb := hB.2.2.2.2 h hh
  unfold lwo
  split
  · split <;> omega
  · split
    · split <;> omega
    · omega
theorem rx_none {κ : Kd} {σ0 : Sg} : RX κ σ0 none (fun _ => none) := by
  intro σ t A l h near h1 ht hX hB hl hh hn
  refine ⟨σ, ?_, fr.rfl⟩
  have h8 : h < 8 := Nat.lt_of_lt_of_le hh hB.1
  have hw := x_without hX hB hl h8 hn
  have hle := lwo_le hB (l := l) h8 hn
  unfold f_X1_rate f_X1_rate_22 f_X1_rate_37 f_X1_rate_60 tsel rt rt0
  have : l = 0 ∨ l = 1 ∨ l = 2 := by omega
  rcases this with rfl | rfl | rfl
  · simp (disch := omega) only [e_bnd, e_bndV, e_lt, e_grd, e_lit, e_le1, e_le2, e_lt1, e_lt2, e_eq1, e_eq2, e_inb, e_ix, nI_add, pk_mul, e_sub, e_b0, e_b1, e_bz, e_bz0, e_bz1, Bool.and_true, Bool.true_and, ↓reduceIte, not_true_eq_false, not_false_eq_true, decide_false, decide_true, and_self, and_true, true_and, and_false, false_and, Bool.false_eq_true, Bool.not_false, Bool.not_true, hw, imin_I, imax_0, Nat.min_comm]
    rfl
  · simp (disch := omega) only [e_bnd, e_bndV, e_lt, e_grd, e_lit, e_le1, e_le2, e_lt1, e_lt2, e_eq1, e_eq2, e_inb, e_ix, nI_add, pk_mul, e_sub, e_b0, e_b1, e_bz, e_bz0, e_bz1, Bool.and_true, Bool.true_and, ↓reduceIte, not_true_eq_false, not_false_eq_true, decide_false, decide_true, and_self, and_true, true_and, and_false, false_and, Bool.false_eq_true, Bool.not_false, Bool.not_true, hw, imin_I, imax_0, Nat.min_comm]
    rfl
  · simp (disch := omega) only [e_bnd, e_bndV, e_lt, e_grd, e_lit, e_le1, e_le2, e_lt1, e_lt2, e_eq1, e_eq2, e_inb, e_ix, nI_add, pk_mul, e_sub, e_b0, e_b1, e_bz, e_bz0, e_bz1, Bool.and_true, Bool.true_and, ↓reduceIte, not_true_eq_false, not_false_eq_true, decide_false, decide_true, and_self, and_true, true_and, and_false, false_and, Bool.false_eq_true, Bool.not_false, Bool.not_true, hw, imin_I, imax_0, Nat.min_comm]
    rfl
theorem say_none {σ0 : Sg} : SAY σ0 (nI 0 - nI 1) (fun _ => none) := by
  intro σ A l h near wo h1 hM hB hN hl hh hn hwo
  refine ⟨σ, ?_, fr.rfl⟩
  unfold f_X12_says
  show f_X12_says_3 (3999 + 1) _ _ _ _ _ _ = _
  rw [f_X12_says_3, if_pos (by decide)]
  unfold f_X12_says_63
  have : ltop l < 2147483648 := by unfold ltop; split <;> (try split) <;> decide
  simp (disch := omega) only [e_bnd, e_bndV, e_lt, e_grd, e_lit, e_le1, e_le2, e_lt1, e_lt2, e_eq1, e_eq2, e_inb, e_ix, nI_add, pk_mul, e_sub, e_b0, e_b1, e_bz, e_bz0, e_bz1, Bool.and_true, Bool.true_and, ↓reduceIte, not_true_eq_false, not_false_eq_true, decide_false, decide_true, and_self, and_true, true_and, and_false, false_and, Bool.false_eq_true, Bool.not_false, Bool.not_true, m_cutN]
  rfl
theorem I2.rule {κ : Kd} {T : TD} {σX σM : Sg} {A B : Nat → Nat} (I : I2 κ T σX σM A B) : ∃ r Lw, (∀ s : Sg, s.1 1 4 = σX.1 1 4 → s.1 1 5 = σX.1 1 5 → s.2.2 = σX.2.2 → f_X10_rule 1 s = some (r, s)) ∧ RX κ σX r Lw ∧ SAY σM (σM.1 1 2) Lw ∧ deps Lw := by
  have o1 : σX.1 1 4 = nI (A 1) := I.2.2.1.2.2.2.2.1
  have o2 : σX.1 1 5 = nI (A 2) - nI 1 := I.2.2.1.2.2.2.2.2.1
  have m2 := I.2.1.2
  have b1 := I.1.2.2.2.2.1
  have b2 := I.1.2.2.2.2.2.1
  by_cases h0 : A 2 = 0
  · refine ⟨none, fun _ => none, fun s s4 s5 s6 => ?_, rx_none, by rw [m2, h0]; exact say_none, fun l v hv => by cases hv⟩
    have hn : ¬ ((0 : Int32) ≤ nI 0 - nI 1 ∧ nI 0 - nI 1 ≤ nI (A 1) - 1) := fun q => absurd q.1 (by decide)
    unfold f_X10_rule f_X10_textOf f_X10_textOf_28 f_X10_textOf_29
    rw [s5, o2, h0, x_within, if_neg (by rw [s4, o1]; exact hn)]
    rfl
  · obtain ⟨t, ht⟩ : ∃ t, A 2 = t + 1 := ⟨A 2 - 1, by omega⟩
    obtain ⟨_, _, g⟩ := I.2.2.2.2.2.2.2
    obtain ⟨g1, g2, ⟨g3, g4, g5, g6⟩, g7⟩ := g t (by omega)
    have e2 : nI (A 2) - nI 1 = nI t := by rw [ht]; exact e_sub (b := 1) (by omega)
    refine ⟨some (T.2.1 t), T.2.2.1 t, fun s s4 s5 s6 => ?_, g6.1, by rw [m2, e2]; exact g7.1, g1⟩
    unfold f_X10_rule f_X10_textOf f_X10_textOf_28 f_X10_textOf_29
    rw [s5, o2, e2, s4, o1]
    have hl : ∀ {α : Type} (x : Option Nat) (k : Option Nat → Option α), ltT x k = k x := fun _ _ => rfl
    simp (disch := omega) only [e_bnd, e_bndV, e_lt, e_grd, e_lit, e_le1, e_le2, e_lt1, e_lt2, e_eq1, e_eq2, e_inb, e_ix, nI_add, pk_mul, e_sub, e_b0, e_b1, e_bz, e_bz0, e_bz1, Bool.and_true, Bool.true_and, ↓reduceIte, not_true_eq_false, not_false_eq_true, decide_false, decide_true, and_self, and_true, true_and, and_false, false_and, Bool.false_eq_true, Bool.not_false, Bool.not_true, x_within, hl, s6]
    rw [show ((1 : Nat) + 12) = 13 from rfl, g4]
theorem bit_and {a b : Nat} (h : Nat) : (a &&& b).testBit h = (a.testBit h && b.testBit h) := Nat.testBit_and a b h
theorem and_bit0 : ∀ m, m < 256 → ∀ h, h < 8 → (nI m &&& shl (nI 1) (nI h) = nI 0 ↔ m.testBit h = false) := by decide +kernel
theorem mayG_bit {A : Nat → Nat} {k : Nat} (hk : k < A 0) : (mayG A).testBit k = decide ((A (10 + 5 * k) = 1 ∨ A (10 + 5 * k) = 2) ∧ 2 ≤ A (10 + 5 * k + 1)) := by
  unfold mayG
  rw [mk_bit]
  simp [hk]
theorem x_can8 {σX : Sg} {A : Nat → Nat} (hX : XT σX 2 A) (hB : BT A) (hR : XR σX 8 A) {h k : Nat} (hh : h < A 0) (hk : k < A 0) : f_X8_can 2 (nI 8) (nI h) (nI k) 8 σX = some (if A (10 + 5 * h) = 0 ∧ (A (10 + 5 * k) = 1 ∨ A (10 + 5 * k) = 2) ∧ 2 ≤ A (10 + 5 * k + 1) ∧ 0 < A (50 + 8 * h + k) then nI 1 else nI 0, σX) := by
  have c8 := hB.1
  have h8 : h < 8 := by omega
  have hf := hX.2.2.2.2.2.2.1
  have hbe : σX.1 (8 + 2) h = nI (bes A h) := hR.2 h h8
  have t1 := x_told1 hX.1 c8 hh
  have t2 := x_told1 hX.1 c8 hk
  have hg := x_mayGive hX hB
  have hbb := (hB.2.2.2.2 h h8).1
  have hm : bes A h &&& mayG A < 256 := Nat.lt_of_le_of_lt Nat.and_le_left (bes_lt A h)
  have hb : ((bes A h &&& mayG A).testBit k = false) = ¬ ((A (10 + 5 * k) = 1 ∨ A (10 + 5 * k) = 2) ∧ 2 ≤ A (10 + 5 * k + 1) ∧ 0 < A (50 + 8 * h + k)) := by
    rw [bit_and, bes_bit _ _ _ (by omega), mayG_bit hk]
    apply propext
    by_cases q1 : (A (10 + 5 * k) = 1 ∨ A (10 + 5 * k) = 2) <;> by_cases q2 : 2 ≤ A (10 + 5 * k + 1) <;> by_cases q3 : 0 < A (50 + 8 * h + k) <;> simp [q1, q2, q3]
  have hz : (nI (bes A h &&& mayG A) &&& shl (nI 1) (nI k) = nI 0) = ¬ ((A (10 + 5 * k) = 1 ∨ A (10 + 5 * k) = 2) ∧ 2 ≤ A (10 + 5 * k + 1) ∧ 0 < A (50 + 8 * h + k)) := by
    rw [← hb]
    exact propext (and_bit0 _ hm k (by omega))
  unfold f_X8_can f_X8_can_147 f_X8_can_148
  by_cases q0 : A (10 + 5 * h) = 0
  · by_cases q : (A (10 + 5 * k) = 1 ∨ A (10 + 5 * k) = 2) ∧ 2 ≤ A (10 + 5 * k + 1) ∧ 0 < A (50 + 8 * h + k)
    · rw [if_pos ⟨q0, q⟩]
      have hz2 : (nI (bes A h &&& mayG A) &&& shl (nI 1) (nI k) = nI 0) = False := by rw [hz]; simp [q]
      simp (disch := omega) only [e_bnd, e_bndV, e_lt, e_grd, e_lit, e_le1, e_le2, e_lt1, e_lt2, e_eq1, e_eq2, e_inb, e_ix, nI_add, pk_mul, e_sub, e_b0, e_b1, e_bz, e_bz0, e_bz1, Bool.and_true, Bool.true_and, ↓reduceIte, not_true_eq_false, not_false_eq_true, decide_false, decide_true, and_self, and_true, true_and, and_false, false_and, Bool.false_eq_true, Bool.not_false, Bool.not_true, t1, t2, hf, q0, hg, hbe, and_I, hz2]
    · rw [if_neg (fun z => q z.2)]
      have hz2 : (nI (bes A h &&& mayG A) &&& shl (nI 1) (nI k) = nI 0) = True := by rw [hz]; simp only [q, not_false_eq_true]
      simp (disch := omega) only [e_bnd, e_bndV, e_lt, e_grd, e_lit, e_le1, e_le2, e_lt1, e_lt2, e_eq1, e_eq2, e_inb, e_ix, nI_add, pk_mul, e_sub, e_b0, e_b1, e_bz, e_bz0, e_bz1, Bool.and_true, Bool.true_and, ↓reduceIte, not_true_eq_false, not_false_eq_true, decide_false, decide_true, and_self, and_true, true_and, and_false, false_and, Bool.false_eq_true, Bool.not_false, Bool.not_true, t1, t2, hf, q0, hg, hbe, and_I, hz2]
  · rw [if_neg (fun z => q0 z.1)]
    simp (disch := omega) only [e_bnd, e_bndV, e_lt, e_grd, e_lit, e_le1, e_le2, e_lt1, e_lt2, e_eq1, e_eq2, e_inb, e_ix, nI_add, pk_mul, e_sub, e_b0, e_b1, e_bz, e_bz0, e_bz1, Bool.and_true, Bool.true_and, ↓reduceIte, not_true_eq_false, not_false_eq_true, decide_false, decide_true, and_self, and_true, true_and, and_false, false_and, Bool.false_eq_true, Bool.not_false, Bool.not_true, t1, hf]
theorem x_can8n {σX : Sg} {A : Nat → Nat} (hX : XT σX 2 A) (hB : BT A) {h : Nat} {w : Int32} (hh : h < A 0) (hw : f_X8_told 2 w σX = some (nI 0, σX)) : f_X8_can 2 (nI 8) (nI h) w 8 σX = some (nI 0, σX) := by
  have c8 := hB.1
  have h8 : h < 8 := by omega
  have hf := hX.2.2.2.2.2.2.1
  have hbb := (hB.2.2.2.2 h h8).1
  have t1 := x_told1 hX.1 c8 hh
  unfold f_X8_can f_X8_can_147 f_X8_can_148
  by_cases q0 : A (10 + 5 * h) = 0
  · simp (disch := omega) only [e_bnd, e_bndV, e_lt, e_grd, e_lit, e_le1, e_le2, e_lt1, e_lt2, e_eq1, e_eq2, e_inb, e_ix, nI_add, pk_mul, e_sub, e_b0, e_b1, e_bz, e_bz0, e_bz1, Bool.and_true, Bool.true_and, ↓reduceIte, not_true_eq_false, not_false_eq_true, decide_false, decide_true, and_self, and_true, true_and, and_false, false_and, Bool.false_eq_true, Bool.not_false, Bool.not_true, t1, hf, q0, hw]
  · simp (disch := omega) only [e_bnd, e_bndV, e_lt, e_grd, e_lit, e_le1, e_le2, e_lt1, e_lt2, e_eq1, e_eq2, e_inb, e_ix, nI_add, pk_mul, e_sub, e_b0, e_b1, e_bz, e_bz0, e_bz1, Bool.and_true, Bool.true_and, ↓reduceIte, not_true_eq_false, not_false_eq_true, decide_false, decide_true, and_self, and_true, true_and, and_false, false_and, Bool.false_eq_true, Bool.not_false, Bool.not_true, t1, hf]
theorem m_canFetch {σ : Sg} {A : Nat → Nat} (hM : MA σ A) (hB : BT A) (hR : BR A) {h k : Nat} (hh : h < A 0) (hk : k < A 0) : f_X12_canFetch (nI h) (nI k) σ = some (if A (10 + 5 * h) = 0 ∧ (A (10 + 5 * k) = 1 ∨ A (10 + 5 * k) = 2) ∧ 2 ≤ A (10 + 5 * k + 1) ∧ 0 < A (50 + 8 * h + k) then nI 1 else nI 0, σ) := by
  have c8 := hB.1
  have t1 := m_isHouse1 hM c8 hh
  have t2 := m_isHouse1 hM c8 hk
  have ha := m_isAlight hM hB (h := k) (by omega)
  have hbb := (hB.2.2.2.2 h (by omega)).1
  have hbk := (hB.2.2.2.2 k (by omega)).2.1
  have hl := (hR h k (by omega) (by omega)).1
  unfold f_X12_canFetch f_X12_canFetch_30 f_X12_canFetch_31 f_X12_isSo f_X12_isSo_22 f_X12_isSo_23 f_X12_isGiver f_X12_isGiver_30 f_X12_isGiver_31
  by_cases q0 : A (10 + 5 * h) = 0
  · by_cases q1 : A (10 + 5 * k) = 1 ∨ A (10 + 5 * k) = 2
    · rw [if_pos q1] at ha
      by_cases q2 : 2 ≤ A (10 + 5 * k + 1)
      · by_cases q3 : 0 < A (50 + 8 * h + k)
        · rw [if_pos ⟨q0, q1, q2, q3⟩]
          simp (disch := omega) only [e_bnd, e_bndV, e_lt, e_grd, e_lit, e_le1, e_le2, e_lt1, e_lt2, e_eq1, e_eq2, e_inb, e_ix, nI_add, pk_mul, e_sub, e_b0, e_b1, e_bz, e_bz0, e_bz1, Bool.and_true, Bool.true_and, ↓reduceIte, not_true_eq_false, not_false_eq_true, decide_false, decide_true, and_self, and_true, true_and, and_false, false_and, Bool.false_eq_true, Bool.not_false, Bool.not_true, t1, t2, m_get hM, Nat.add_zero, q0, ha, m_lengthOf hM]
        · rw [if_neg (fun z => q3 z.2.2.2)]
          simp (disch := omega) only [e_bnd, e_bndV, e_lt, e_grd, e_lit, e_le1, e_le2, e_lt1, e_lt2, e_eq1, e_eq2, e_inb, e_ix, nI_add, pk_mul, e_sub, e_b0, e_b1, e_bz, e_bz0, e_bz1, Bool.and_true, Bool.true_and, ↓reduceIte, not_true_eq_false, not_false_eq_true, decide_false, decide_true, and_self, and_true, true_and, and_false, false_and, Bool.false_eq_true, Bool.not_false, Bool.not_true, t1, t2, m_get hM, Nat.add_zero, q0, ha, m_lengthOf hM]
      · rw [if_neg (fun z => q2 z.2.2.1)]
        simp (disch := omega) only [e_bnd, e_bndV, e_lt, e_grd, e_lit, e_le1, e_le2, e_lt1, e_lt2, e_eq1, e_eq2, e_inb, e_ix, nI_add, pk_mul, e_sub, e_b0, e_b1, e_bz, e_bz0, e_bz1, Bool.and_true, Bool.true_and, ↓reduceIte, not_true_eq_false, not_false_eq_true, decide_false, decide_true, and_self, and_true, true_and, and_false, false_and, Bool.false_eq_true, Bool.not_false, Bool.not_true, t1, t2, m_get hM, Nat.add_zero, q0, ha]
    · rw [if_neg q1] at ha
      rw [if_neg (fun z => q1 z.2.1)]
      simp (disch := omega) only [e_bnd, e_bndV, e_lt, e_grd, e_lit, e_le1, e_le2, e_lt1, e_lt2, e_eq1, e_eq2, e_inb, e_ix, nI_add, pk_mul, e_sub, e_b0, e_b1, e_bz, e_bz0, e_bz1, Bool.and_true, Bool.true_and, ↓reduceIte, not_true_eq_false, not_false_eq_true, decide_false, decide_true, and_self, and_true, true_and, and_false, false_and, Bool.false_eq_true, Bool.not_false, Bool.not_true, t1, t2, m_get hM, Nat.add_zero, q0, ha]
  · rw [if_neg (fun z => q0 z.1)]
    simp (disch := omega) only [e_bnd, e_bndV, e_lt, e_grd, e_lit, e_le1, e_le2, e_lt1, e_lt2, e_eq1, e_eq2, e_inb, e_ix, nI_add, pk_mul, e_sub, e_b0, e_b1, e_bz, e_bz0, e_bz1, Bool.and_true, Bool.true_and, ↓reduceIte, not_true_eq_false, not_false_eq_true, decide_false, decide_true, and_self, and_true, true_and, and_false, false_and, Bool.false_eq_true, Bool.not_false, Bool.not_true, t1, m_get hM, Nat.add_zero]
