/-! the reference's array as numbers -/
def MA (σ : Sg) (A : Nat → Nat) : Prop := (∀ j, j < 1986 → j ≠ 2 → (j < 114 ∨ 138 ≤ j) → σ.1 1 j = nI (A j)) ∧ σ.1 1 2 = nI (A 2) - nI 1
theorem m_isHouse {σ : Sg} {A : Nat → Nat} (hM : MA σ A) (hc : A 0 ≤ 8) (v : Int32) : (f_X12_isHouse v σ = some (nI 0, σ) ∧ ∀ h, h < A 0 → v ≠ nI h) ∨ ∃ h, h < A 0 ∧ v = nI h ∧ f_X12_isHouse v σ = some (nI 1, σ) := by
  have h0 := hM.1 0 (by decide) (by decide) (by decide)
  have e : (if (0 : Int32) ≤ v ∧ v ≤ nI (A 0) - 1 then nI 1 else nI 0) = nI 1 ∧ (∃ h, h < A 0 ∧ v = nI h) ∨ (if (0 : Int32) ≤ v ∧ v ≤ nI (A 0) - 1 then nI 1 else nI 0) = nI 0 ∧ ∀ h, h < A 0 → v ≠ nI h := by
    by_cases hc0 : A 0 = 0
    · refine Or.inr ⟨if_neg (fun q => ?_), fun h hh => by omega⟩
      rw [hc0] at q
      exact absurd (Int32.le_trans q.1 q.2) (by decide)
    · have e1 : nI (A 0) - 1 = nI (A 0 - 1) := e_sub (b := 1) (by omega)
      rw [e1]
      rcases pk_ix v (n := A 0) (by omega) with h | h | ⟨j, hj, rfl⟩
      · refine Or.inr ⟨if_neg (fun q => absurd h (Int32.not_lt.mpr q.1)), fun k hk e => ?_⟩
        subst e; exact nI_pos (by omega) h
      · refine Or.inr ⟨if_neg (fun q => nI_ge (a := A 0 - 1) (b := A 0) (by omega) (by omega) (Int32.le_trans h q.2)), fun k hk e => ?_⟩
        subst e; exact nI_ge hk (by omega) h
      · exact Or.inl ⟨if_pos ⟨nI_pos' (by omega), nI_le (by omega) (by omega)⟩, j, hj, rfl⟩
  have hi : f_X12_isHouse v σ = bnd (some (if (0 : Int32) ≤ v ∧ v ≤ nI (A 0) - 1 then nI 1 else nI 0, σ)) fun r3 σ2 => grd (bz r3) <| some (r3, σ2) := by
    unfold f_X12_isHouse
    rw [grd_of (by decide), m_isIn]
    show bnd (some (if (0 : Int32) ≤ v ∧ v ≤ σ.1 1 0 - 1 then nI 1 else nI 0, σ)) _ = _
    rw [h0]
  rcases e with ⟨e1, e2⟩ | ⟨e1, e2⟩
  · obtain ⟨h, hh, rfl⟩ := e2
    exact Or.inr ⟨h, hh, rfl, by rw [hi, e1]; rfl⟩
  · exact Or.inl ⟨by rw [hi, e1]; rfl, e2⟩
theorem m_isHouse1 {σ : Sg} {A : Nat → Nat} (hM : MA σ A) (hc : A 0 ≤ 8) {h : Nat} (hh : h < A 0) : f_X12_isHouse (nI h) σ = some (nI 1, σ) := by
  rcases m_isHouse hM hc (nI h) with ⟨_, e⟩ | ⟨_, _, _, e⟩
  · exact absurd rfl (e h hh)
  · exact e
theorem m_get {σ : Sg} {A : Nat → Nat} (hM : MA σ A) {h w : Nat} (hh : h < 8) (hw : w < 5) : f_X12_get (nI h) (nI w) σ = some (nI (A (10 + 5 * h + w)), σ) := by
  rw [f_get_eq hh hw, hM.1 _ (by omega) (by omega) (by omega)]
theorem m_put {σ : Sg} {h w : Nat} {v : Int32} (hh : h < 8) (hw : w < 5) : f_X12_put (nI h) (nI w) v σ = some (wI σ 1 (10 + 5 * h + w) v) := by
  unfold f_X12_put
  simp (disch := omega) only [e_bnd, e_bndV, e_lt, e_grd, e_lit, e_le1, e_le2, e_lt1, e_lt2, e_eq1, e_eq2, e_inb, e_ix, nI_add, pk_mul, e_sub, e_b0, e_b1, e_bz, e_bz0, e_bz1, Bool.and_true, Bool.true_and, ↓reduceIte, not_true_eq_false, not_false_eq_true, decide_false, decide_true, and_self, and_true, true_and, and_false, false_and, Bool.false_eq_true, Bool.not_false, Bool.not_true]
theorem m_lengthOf {σ : Sg} {A : Nat → Nat} (hM : MA σ A) {h e : Nat} (hh : h < 8) (he : e < 8) : f_X12_lengthOf (nI h) (nI e) σ = some (nI (A (50 + 8 * h + e)), σ) := by
  unfold f_X12_lengthOf
  simp (disch := omega) only [e_bnd, e_bndV, e_lt, e_grd, e_lit, e_le1, e_le2, e_lt1, e_lt2, e_eq1, e_eq2, e_inb, e_ix, nI_add, pk_mul, e_sub, e_b0, e_b1, e_bz, e_bz0, e_bz1, Bool.and_true, Bool.true_and, ↓reduceIte, not_true_eq_false, not_false_eq_true, decide_false, decide_true, and_self, and_true, true_and, and_false, false_and, Bool.false_eq_true, Bool.not_false, Bool.not_true, hM.1]
theorem MA.put {σ : Sg} {A : Nat → Nat} (hM : MA σ A) {j : Nat} (h2 : j ≠ 2) (v : Nat) : MA (wI σ 1 j (nI v)) (up A j v) := by
  refine ⟨fun i h1 h3 h4 => ?_, ?_⟩
  · by_cases h : i = j
    · subst h; rw [e_hit, up_hit]
    · rw [e_ne2 h, up_ne h]; exact hM.1 i h1 h3 h4
  · rw [e_ne2 (fun q => h2 q.symm), up_ne (fun q => h2 q.symm)]; exact hM.2
theorem MA.put0 {σ : Sg} {A : Nat → Nat} (hM : MA σ A) {k j : Nat} {v : Int32} (h : k ≠ 1) : MA (wI σ k j v) A :=
  ⟨fun i h1 h3 h4 => by rw [e_ne1 (fun q => h q.symm)]; exact hM.1 i h1 h3 h4, by rw [e_ne1 (fun q => h q.symm)]; exact hM.2⟩
theorem bes_cut {A : Nat → Nat} (hR : BR A) (hc : A 0 ≤ 8) {h : Nat} (hh : h < 8) : mk (A 0) (fun e => decide (0 < A (50 + 8 * h + e))) = bes A h := by
  refine bit_eq (mk8 _ hc) (bes_lt A h) fun i hi => ?_
  rw [mk_bit, bes_bit _ _ _ hi]
  by_cases h1 : i < A 0
  · simp [h1]
  · have := (hR i h hi hh).2.2.1 (by omega)
    have h2 := (hR h i hh hi).2.1
    rw [this] at h2
    simp [h1, h2]
theorem m_beside {σ : Sg} {A : Nat → Nat} (hM : MA σ A) (hc : A 0 ≤ 8) (hR : BR A) {h : Nat} (hh : h < 8) : f_X12_beside (nI h) σ = some (nI (bes A h), σ) := by
  have h0 := hM.1 0 (by decide) (by decide) (by decide)
  rw [← bes_cut hR hc hh]
  unfold f_X12_beside
  refine lp (fun fu (s : Int32 × Int32) => f_X12_beside_4 fu (nI h) s.1 s.2 σ) (fun i => (nI (mk i (fun e => decide (0 < A (50 + 8 * h + e)))), nI i)) (A 0) (fun i hi fu => ?_) (fun fu => ?_) FU (by unfold FU; omega)
  · have hb := (hR h i hh (by omega)).1
    dsimp only
    rw [f_X12_beside_4]
    by_cases h1 : 0 < A (50 + 8 * h + i)
    · rw [mk_1 (by rw [decide_eq_true]; omega)]
      simp (disch := omega) only [h0, m_lengthOf hM, e_bnd, e_bndV, e_lt, e_grd, e_lit, e_le1, e_le2, e_lt1, e_lt2, e_eq1, e_eq2, e_inb, e_ix, nI_add, pk_mul, e_sub, e_b0, e_b1, e_bz, e_bz0, e_bz1, Bool.and_true, Bool.true_and, ↓reduceIte, not_true_eq_false, not_false_eq_true, decide_false, decide_true, and_self, and_true, true_and, and_false, false_and, Bool.false_eq_true, Bool.not_false, Bool.not_true, f_X12_beside_31, sh1, or_I]
    · rw [mk_0 (by rw [decide_eq_false]; omega)]
      simp (disch := omega) only [h0, m_lengthOf hM, e_bnd, e_bndV, e_lt, e_grd, e_lit, e_le1, e_le2, e_lt1, e_lt2, e_eq1, e_eq2, e_inb, e_ix, nI_add, pk_mul, e_sub, e_b0, e_b1, e_bz, e_bz0, e_bz1, Bool.and_true, Bool.true_and, ↓reduceIte, not_true_eq_false, not_false_eq_true, decide_false, decide_true, and_self, and_true, true_and, and_false, false_and, Bool.false_eq_true, Bool.not_false, Bool.not_true, f_X12_beside_31, or_I, Nat.or_zero]
  · dsimp only
    rw [f_X12_beside_4]
    simp (disch := omega) only [h0, e_bnd, e_bndV, e_lt, e_grd, e_lit, e_le1, e_le2, e_lt1, e_lt2, e_eq1, e_eq2, e_inb, e_ix, nI_add, pk_mul, e_sub, e_b0, e_b1, e_bz, e_bz0, e_bz1, Bool.and_true, Bool.true_and, ↓reduceIte, not_true_eq_false, not_false_eq_true, decide_false, decide_true, and_self, and_true, true_and, and_false, false_and, Bool.false_eq_true, Bool.not_false, Bool.not_true]
theorem m_allOf {σ : Sg} {A : Nat → Nat} (hM : MA σ A) (hB : BT A) {f : Nat} (hf : f < 9) : f_X12_allOf (nI f) σ = some (nI (fires A f f), σ) := by
  have h0 := hM.1 0 (by decide) (by decide) (by decide)
  have hc := hB.1
  unfold f_X12_allOf fires
  refine lp (fun fu (s : Int32 × Int32) => f_X12_allOf_4 fu (nI f) s.1 s.2 σ) (fun i => (nI (mk i fun h => decide (f ≤ A (10 + 5 * h) ∧ A (10 + 5 * h) ≤ f)), nI i)) (A 0) (fun i hi fu => ?_) (fun fu => ?_) FU (by unfold FU; omega)
  · have hb := (hB.2.2.2.2 i (by omega)).1
    dsimp only
    rw [f_X12_allOf_4]
    by_cases h1 : A (10 + 5 * i) = f
    · rw [mk_1 (by rw [decide_eq_true]; omega)]
      simp (disch := omega) only [h0, m_get hM, e_bnd, e_bndV, e_lt, e_grd, e_lit, e_le1, e_le2, e_lt1, e_lt2, e_eq1, e_eq2, e_inb, e_ix, nI_add, pk_mul, e_sub, e_b0, e_b1, e_bz, e_bz0, e_bz1, Bool.and_true, Bool.true_and, ↓reduceIte, not_true_eq_false, not_false_eq_true, decide_false, decide_true, and_self, and_true, true_and, and_false, false_and, Bool.false_eq_true, Bool.not_false, Bool.not_true, f_X12_allOf_32, sh1, or_I, Nat.add_zero]
    · rw [mk_0 (by rw [decide_eq_false]; omega)]
      simp (disch := omega) only [h0, m_get hM, e_bnd, e_bndV, e_lt, e_grd, e_lit, e_le1, e_le2, e_lt1, e_lt2, e_eq1, e_eq2, e_inb, e_ix, nI_add, pk_mul, e_sub, e_b0, e_b1, e_bz, e_bz0, e_bz1, Bool.and_true, Bool.true_and, ↓reduceIte, not_true_eq_false, not_false_eq_true, decide_false, decide_true, and_self, and_true, true_and, and_false, false_and, Bool.false_eq_true, Bool.not_false, Bool.not_true, f_X12_allOf_32, or_I, Nat.or_zero, Nat.add_zero]
  · dsimp only
    rw [f_X12_allOf_4]
    simp (disch := omega) only [h0, e_bnd, e_bndV, e_lt, e_grd, e_lit, e_le1, e_le2, e_lt1, e_lt2, e_eq1, e_eq2, e_inb, e_ix, nI_add, pk_mul, e_sub, e_b0, e_b1, e_bz, e_bz0, e_bz1, Bool.and_true, Bool.true_and, ↓reduceIte, not_true_eq_false, not_false_eq_true, decide_false, decide_true, and_self, and_true, true_and, and_false, false_and, Bool.false_eq_true, Bool.not_false, Bool.not_true]
theorem m_isBell {σ : Sg} {A : Nat → Nat} (hM : MA σ A) (hB : BT A) : f_X12_isBell σ = some (if 20 ≤ A 6 % 24 ∨ A 6 % 24 < 6 then nI 1 else nI 0, σ) := by
  have h6 := hM.1 6 (by decide) (by decide) (by decide)
  have hb := hB.2.1
  unfold f_X12_isBell f_X12_isBell_30 f_X12_isBell_35
  by_cases h1 : 20 ≤ A 6 % 24
  · simp (disch := omega) only [h6, e_bnd, e_bndV, e_lt, e_grd, e_lit, e_le1, e_le2, e_lt1, e_lt2, e_eq1, e_eq2, e_inb, e_ix, nI_add, pk_mul, e_sub, e_b0, e_b1, e_bz, e_bz0, e_bz1, Bool.and_true, Bool.true_and, ↓reduceIte, not_true_eq_false, not_false_eq_true, decide_false, decide_true, and_self, and_true, true_and, and_false, false_and, Bool.false_eq_true, Bool.not_false, Bool.not_true, rem_I, dz_I, h1, true_or]
  · by_cases h2 : A 6 % 24 < 6
    · simp (disch := omega) only [h6, e_bnd, e_bndV, e_lt, e_grd, e_lit, e_le1, e_le2, e_lt1, e_lt2, e_eq1, e_eq2, e_inb, e_ix, nI_add, pk_mul, e_sub, e_b0, e_b1, e_bz, e_bz0, e_bz1, Bool.and_true, Bool.true_and, ↓reduceIte, not_true_eq_false, not_false_eq_true, decide_false, decide_true, and_self, and_true, true_and, and_false, false_and, Bool.false_eq_true, Bool.not_false, Bool.not_true, rem_I, dz_I, h1, h2, or_true]
    · simp (disch := omega) only [h6, e_bnd, e_bndV, e_lt, e_grd, e_lit, e_le1, e_le2, e_lt1, e_lt2, e_eq1, e_eq2, e_inb, e_ix, nI_add, pk_mul, e_sub, e_b0, e_b1, e_bz, e_bz0, e_bz1, Bool.and_true, Bool.true_and, ↓reduceIte, not_true_eq_false, not_false_eq_true, decide_false, decide_true, and_self, and_true, true_and, and_false, false_and, Bool.false_eq_true, Bool.not_false, Bool.not_true, rem_I, dz_I, h1, h2, or_self]
theorem m_isAlight {σ : Sg} {A : Nat → Nat} (hM : MA σ A) (hB : BT A) {h : Nat} (hh : h < 8) : f_X12_isAlight (nI h) σ = some (if A (10 + 5 * h) = 1 ∨ A (10 + 5 * h) = 2 then nI 1 else nI 0, σ) := by
  have hb := (hB.2.2.2.2 h hh).1
  unfold f_X12_isAlight f_X12_isAlight_20 f_X12_isAlight_25
  by_cases h1 : A (10 + 5 * h) = 1
  · simp (disch := omega) only [m_get hM, e_bnd, e_bndV, e_lt, e_grd, e_lit, e_le1, e_le2, e_lt1, e_lt2, e_eq1, e_eq2, e_inb, e_ix, nI_add, pk_mul, e_sub, e_b0, e_b1, e_bz, e_bz0, e_bz1, Bool.and_true, Bool.true_and, ↓reduceIte, not_true_eq_false, not_false_eq_true, decide_false, decide_true, and_self, and_true, true_and, and_false, false_and, Bool.false_eq_true, Bool.not_false, Bool.not_true, h1, true_or, Nat.add_zero]
  · by_cases h2 : A (10 + 5 * h) = 2
    · simp (disch := omega) only [m_get hM, e_bnd, e_bndV, e_lt, e_grd, e_lit, e_le1, e_le2, e_lt1, e_lt2, e_eq1, e_eq2, e_inb, e_ix, nI_add, pk_mul, e_sub, e_b0, e_b1, e_bz, e_bz0, e_bz1, Bool.and_true, Bool.true_and, ↓reduceIte, not_true_eq_false, not_false_eq_true, decide_false, decide_true, and_self, and_true, true_and, and_false, false_and, Bool.false_eq_true, Bool.not_false, Bool.not_true, h2, or_true, Nat.add_zero]
    · simp (disch := omega) only [m_get hM, e_bnd, e_bndV, e_lt, e_grd, e_lit, e_le1, e_le2, e_lt1, e_lt2, e_eq1, e_eq2, e_inb, e_ix, nI_add, pk_mul, e_sub, e_b0, e_b1, e_bz, e_bz0, e_bz1, Bool.and_true, Bool.true_and, ↓reduceIte, not_true_eq_false, not_false_eq_true, decide_false, decide_true, and_self, and_true, true_and, and_false, false_and, Bool.false_eq_true, Bool.not_false, Bool.not_true, h1, h2, or_self, Nat.add_zero]
