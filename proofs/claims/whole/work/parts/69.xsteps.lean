/-! the class keeps a STEP -/
abbrev aS (p : Nat) : Nat → Nat → Prop := fun a j => (a = p ∧ (j = 1 ∨ j = 2)) ∨ a = p + 1
theorem x_keep32 {σ : Sg} {p t : Nat} {A : Nat → Nat} (hX : XT σ t A) (hN : XN σ t A) (hP : XP σ p A) (hp : t + 5 < p) (h3 : A 3 < 30) : ∃ σ', f_X4_keep_32 p t σ = some σ' ∧ XP σ' p (putA A) ∧ fr (aS p) σ σ' := by
  obtain ⟨f, hf, p1, p2, rows⟩ := hP
  have hm : (f + A 3) % 30 < 30 := Nat.mod_lt _ (by decide)
  obtain ⟨σ1, e1, e2, e3⟩ := x_store (σ := σ) (t := t) (q := p + 1) (b := (f + A 3) % 30 * 59) (by omega) (by omega)
  refine ⟨wI σ1 p 2 (nI (A 3 + 1)), ?_, ⟨f, hf, ?_, ?_, fun i hi => ?_⟩, ?_⟩
  · have g2 : σ1.1 p 2 = nI (A 3) := by rw [e3.1 _ _ (by omega)]; exact p2
    unfold f_X4_keep_32
    simp (disch := omega) only [e_bnd, e_bndV, e_lt, e_grd, e_lit, e_le1, e_le2, e_lt1, e_lt2, e_eq1, e_eq2, e_inb, e_ix, nI_add, pk_mul, e_sub, e_b0, e_b1, e_bz, e_bz0, e_bz1, Bool.and_true, Bool.true_and, ↓reduceIte, not_true_eq_false, not_false_eq_true, decide_false, decide_true, and_self, and_true, true_and, and_false, false_and, Bool.false_eq_true, Bool.not_false, Bool.not_true, p1, p2, rem_I, dz_I, e1, g2]
  · rw [e_ne2 (by decide), e3.1 _ _ (by omega)]; exact p1
  · rw [e_hit]; rfl
  · have a3 : ∀ j, 186 ≤ j → j < 186 + 59 * A 3 → putA A j = A j := fun j h1 h2 => by
      unfold putA
      try dsimp only
      rw [if_neg (by omega), if_neg (by omega)]
    by_cases q : i < A 3
    · have hne : (f + i) % 30 ≠ (f + A 3) % 30 := by omega
      have hoff : ∀ j, j < 59 → (wI σ1 p 2 (nI (A 3 + 1))).1 (p + 1) ((f + i) % 30 * 59 + j) = σ.1 (p + 1) ((f + i) % 30 * 59 + j) := fun j hj => by
        rw [e_ne1 (by omega), e3.1 _ _ (by omega)]
      obtain ⟨r1, r2, r3⟩ := rows i q
      refine ⟨fun k hk => ?_, fun h hh => ⟨?_, ?_, ?_⟩, fun k hk => ?_⟩
      · rw [hoff _ (by omega), a3 _ (by omega) (by omega)]; exact r1 k hk
      · rw [Nat.add_assoc, hoff _ (by omega), a3 _ (by omega) (by omega), ← Nat.add_assoc]; exact (r2 h hh).1
      · rw [Nat.add_assoc, Nat.add_assoc, hoff _ (by omega), a3 _ (by omega) (by omega), ← Nat.add_assoc, ← Nat.add_assoc]; exact (r2 h hh).2.1
      · rw [Nat.add_assoc, Nat.add_assoc, hoff _ (by omega), a3 _ (by omega) (by omega), ← Nat.add_assoc, ← Nat.add_assoc]; exact (r2 h hh).2.2
      · rw [Nat.add_assoc, Nat.add_assoc, hoff _ (by omega), a3 _ (by omega) (by omega), ← Nat.add_assoc, ← Nat.add_assoc]; exact r3 k hk
    · have hi2 : i = A 3 := by
        have : putA A 3 = A 3 + 1 := rfl
        omega
      subst hi2
      have hin : ∀ j, j < 59 → (wI σ1 p 2 (nI (A 3 + 1))).1 (p + 1) ((f + A 3) % 30 * 59 + j) = rowX σ t j := fun j hj => by
        rw [e_ne1 (by omega)]; exact e2 j hj
      have hrow : ∀ j, j < 59 → putA A (186 + 59 * A 3 + j) = rowA A j := fun j hj => by
        unfold putA
        try dsimp only
        rw [if_neg (by omega), if_pos (by omega), show 186 + 59 * A 3 + j - (186 + 59 * A 3) = j by omega]
      obtain ⟨h0, h5, h6, h7, hw, hk, hf2, hh⟩ := hX
      obtain ⟨n9, nn⟩ := hN
      refine ⟨fun k hk2 => ?_, fun h hh2 => ⟨?_, ?_, ?_⟩, fun k hk2 => ?_⟩
      · rw [hin _ (by omega), hrow _ (by omega)]
        unfold rowX rowA
        have hc : k = 0 ∨ k = 1 ∨ k = 2 ∨ k = 3 ∨ k = 4 := by omega
        rcases hc with rfl | rfl | rfl | rfl | rfl
        · exact h0
        · exact h5
        · exact h6
        · exact h7
        · exact n9
      · rw [Nat.add_assoc, hin _ (by omega), show 186 + 59 * A 3 + 5 + 3 * h + 2 = 186 + 59 * A 3 + (5 + 3 * h + 2) by omega, hrow _ (by omega)]
        unfold rowX rowA
        rw [if_neg (by omega), if_neg (by omega), if_neg (by omega), if_neg (by omega), if_neg (by omega), if_pos (by omega), if_neg (by omega), if_neg (by omega), if_pos (by omega), show 5 + h - 5 = h by omega, hk h hh2]
        congr 2
        omega
      · rw [Nat.add_assoc, Nat.add_assoc, hin _ (by omega), show 186 + 59 * A 3 + 5 + 3 * h = 186 + 59 * A 3 + (5 + 3 * h) by omega, hrow _ (by omega)]
        unfold rowX rowA
        rw [if_neg (by omega), if_neg (by omega), if_neg (by omega), if_neg (by omega), if_neg (by omega), if_neg (by omega), if_pos (by omega), if_neg (by omega), if_neg (by omega), if_pos (by omega), show 5 + (8 + h) - 13 = h by omega, hf2 h hh2]
        congr 2
        omega
      · rw [Nat.add_assoc, Nat.add_assoc, hin _ (by omega), show 186 + 59 * A 3 + 5 + 3 * h + 1 = 186 + 59 * A 3 + (5 + 3 * h + 1) by omega, hrow _ (by omega)]
        unfold rowX rowA
        rw [if_neg (by omega), if_neg (by omega), if_neg (by omega), if_neg (by omega), if_neg (by omega), if_neg (by omega), if_neg (by omega), if_pos (by omega), if_neg (by omega), if_neg (by omega), if_pos (by omega), show 5 + (16 + h) - 21 = h by omega, hh h hh2]
        congr 2
        omega
      · rw [Nat.add_assoc, Nat.add_assoc, hin _ (by omega), show 186 + 59 * A 3 + 29 + k = 186 + 59 * A 3 + (29 + k) by omega, hrow _ (by omega)]
        unfold rowX rowA
        rw [if_neg (by omega), if_neg (by omega), if_neg (by omega), if_neg (by omega), if_neg (by omega), if_neg (by omega), if_neg (by omega), if_neg (by omega), if_neg (by omega), if_neg (by omega), if_neg (by omega), show 5 + (24 + k) - 29 = k by omega, nn k hk2]
        congr 2
        omega
  · exact (e3.mono (fun a j q => Or.inr q.1)).trans (fr.w (Or.inl ⟨rfl, Or.inr rfl⟩))
theorem x_keep {σ : Sg} {p t : Nat} {A : Nat → Nat} (hX : XT σ t A) (hN : XN σ t A) (hP : XP σ p A) (hp : t + 5 < p) (h3 : A 3 ≤ 30) : ∃ σ', f_X4_keep p t σ = some σ' ∧ XP σ' p (keepA A) ∧ fr (aS p) σ σ' := by
  unfold keepA
  by_cases hl : A 3 = 30
  · rw [if_pos hl]
    obtain ⟨f, hf, p1, p2, rows⟩ := hP
    have hP2 : XP (wI (wI σ p 1 (nI ((f + 1) % 30))) p 2 (nI 29)) p (rolA A) := by
      refine ⟨(f + 1) % 30, Nat.mod_lt _ (by decide), by rw [e_ne2 (by decide), e_hit], by rw [e_hit]; rfl, fun i hi => ?_⟩
      have hi2 : i < 29 := hi
      have hr : ∀ j, j < 59 → rolA A (186 + 59 * i + j) = A (186 + 59 * (i + 1) + j) := fun j hj => by
        unfold rolA
        try dsimp only
        rw [if_neg (by omega), if_pos (by omega)]
        congr 1
        omega
      obtain ⟨r1, r2, r3⟩ := rows (i + 1) (by omega)
      rw [show ((f + 1) % 30 + i) % 30 = (f + (i + 1)) % 30 by omega]
      refine ⟨fun k hk => ?_, fun h hh => ⟨?_, ?_, ?_⟩, fun k hk => ?_⟩
      · rw [e_ne1 (by omega), e_ne1 (by omega), hr _ (by omega)]; exact r1 k hk
      · rw [e_ne1 (by omega), e_ne1 (by omega), show 186 + 59 * i + 5 + 3 * h + 2 = 186 + 59 * i + (5 + 3 * h + 2) by omega, hr _ (by omega), show 186 + 59 * (i + 1) + (5 + 3 * h + 2) = 186 + 59 * (i + 1) + 5 + 3 * h + 2 by omega]; exact (r2 h hh).1
      · rw [e_ne1 (by omega), e_ne1 (by omega), show 186 + 59 * i + 5 + 3 * h = 186 + 59 * i + (5 + 3 * h) by omega, hr _ (by omega), show 186 + 59 * (i + 1) + (5 + 3 * h) = 186 + 59 * (i + 1) + 5 + 3 * h by omega]; exact (r2 h hh).2.1
      · rw [e_ne1 (by omega), e_ne1 (by omega), show 186 + 59 * i + 5 + 3 * h + 1 = 186 + 59 * i + (5 + 3 * h + 1) by omega, hr _ (by omega), show 186 + 59 * (i + 1) + (5 + 3 * h + 1) = 186 + 59 * (i + 1) + 5 + 3 * h + 1 by omega]; exact (r2 h hh).2.2
      · rw [e_ne1 (by omega), e_ne1 (by omega), show 186 + 59 * i + 29 + k = 186 + 59 * i + (29 + k) by omega, hr _ (by omega), show 186 + 59 * (i + 1) + (29 + k) = 186 + 59 * (i + 1) + 29 + k by omega]; exact r3 k hk
    have hX2 : XT (wI (wI σ p 1 (nI ((f + 1) % 30))) p 2 (nI 29)) t (rolA A) := ((hX.other (by omega)).other (by omega)).congr (fun j hj => by
      unfold rolA
      try dsimp only
      rw [if_neg (by omega), if_neg (by omega)])
    have hN2 : XN (wI (wI σ p 1 (nI ((f + 1) % 30))) p 2 (nI 29)) t (rolA A) := by
      refine ⟨?_, fun i hi => ?_⟩
      · rw [e_ne1 (by omega), e_ne1 (by omega)]; exact hN.1
      · rw [e_ne1 (by omega), e_ne1 (by omega)]
        unfold rolA
        try dsimp only
        rw [if_neg (by omega), if_neg (by omega)]
        exact hN.2 i hi
    obtain ⟨σ', e1, e2, e3⟩ := x_keep32 hX2 hN2 hP2 hp (show 29 < 30 by decide)
    refine ⟨σ', ?_, e2, ((fr.w (Or.inl ⟨rfl, Or.inl rfl⟩)).trans (fr.w (Or.inl ⟨rfl, Or.inr rfl⟩))).trans e3⟩
    unfold f_X4_keep
    simp (disch := omega) only [e_bnd, e_bndV, e_lt, e_grd, e_lit, e_le1, e_le2, e_lt1, e_lt2, e_eq1, e_eq2, e_inb, e_ix, nI_add, pk_mul, e_sub, e_b0, e_b1, e_bz, e_bz0, e_bz1, Bool.and_true, Bool.true_and, ↓reduceIte, not_true_eq_false, not_false_eq_true, decide_false, decide_true, and_self, and_true, true_and, and_false, false_and, Bool.false_eq_true, Bool.not_false, Bool.not_true, p1, p2, hl, rem_I, dz_I, e_ne2, e1]
  · rw [if_neg hl]
    obtain ⟨σ', e1, e2, e3⟩ := x_keep32 hX hN hP hp (by omega)
    refine ⟨σ', ?_, e2, e3⟩
    obtain ⟨f, hf, p1, p2, rows⟩ := hP
    unfold f_X4_keep
    simp (disch := omega) only [e_bnd, e_bndV, e_lt, e_grd, e_lit, e_le1, e_le2, e_lt1, e_lt2, e_eq1, e_eq2, e_inb, e_ix, nI_add, pk_mul, e_sub, e_b0, e_b1, e_bz, e_bz0, e_bz1, Bool.and_true, Bool.true_and, ↓reduceIte, not_true_eq_false, not_false_eq_true, decide_false, decide_true, and_self, and_true, true_and, and_false, false_and, Bool.false_eq_true, Bool.not_false, Bool.not_true, p2, e1]
