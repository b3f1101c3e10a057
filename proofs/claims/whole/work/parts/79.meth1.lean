/-! METHODS: house, street, the tape, fault, by -/
def GO (κ : Kd) (T : TD) (fX fM : Sg → Option (Int32 × Sg)) : Prop := ∀ σX σM, Inv κ T σX σM → ∃ r σX' σM', fX σX = some (r, σX') ∧ fM σM = some (r, σM') ∧ Inv κ T σX' σM'
theorem rng (v : Int32) (a b : Nat) (ha : a < 2147483648) (hb : b < 2147483647) : ¬ (nI a ≤ v ∧ v ≤ nI b) ∨ ∃ n, a ≤ n ∧ n ≤ b ∧ v = nI n := by
  by_cases h : nI a ≤ v ∧ v ≤ nI b
  · refine Or.inr ?_
    rcases pk_ix v (n := b + 1) (by omega) with q | q | ⟨j, hj, rfl⟩
    · exact absurd (Int32.lt_of_le_of_lt h.1 q) (nI_pos ha)
    · exact absurd (Int32.le_trans q h.2) (nI_ge (by omega) (by omega))
    · exact ⟨j, (nI_leI ha (by omega)).mp h.1, by omega, rfl⟩
  · exact Or.inl h
theorem XW.told {σ : Sg} {A : Nat → Nat} (h : XW σ 1 A) (hc : A 0 ≤ 8) (v : Int32) : (f_X8_told 2 v σ = some (nI 0, σ) ∧ ∀ h, h < A 0 → v ≠ nI h) ∨ ∃ h, h < A 0 ∧ v = nI h ∧ f_X8_told 2 v σ = some (nI 1, σ) := x_told h.1.1 hc v
theorem rowOK_congr {r s : Nat → Nat} (h : ∀ k, k < 59 → s k = r k) (ok : rowOK r) : rowOK s := by
  obtain ⟨o1, o2, o3, o4, o5, o6⟩ := ok
  refine ⟨by rw [h _ (by decide)]; exact o1, by rw [h _ (by decide)]; exact o2, by rw [h _ (by decide)]; exact o3, by rw [h _ (by decide)]; exact o4, fun k hk => ⟨by rw [h _ (by omega)]; exact (o5 k hk).1, by rw [h _ (by omega)]; exact (o5 k hk).2.1, by rw [h _ (by omega)]; exact (o5 k hk).2.2⟩, fun k hk => by rw [h _ (by omega)]; exact o6 k hk⟩
theorem link_congr {r s r' s' A B : Nat → Nat} (hr : r' 0 = r 0) (hs : ∀ k, k < 59 → s' k = s k) (h8 : s 0 ≤ 8) (ht : ∀ h, h < s 0 → B (10 + 5 * h + 4) = A (10 + 5 * h + 4)) (l : link r s A) : link r' s' B := by
  refine ⟨by rw [hr, hs 0 (by decide)]; exact l.1, fun h ha hb => ?_⟩
  rw [hr] at ha
  rw [hs 0 (by decide)] at hb
  rw [hs _ (by omega), hs _ (by omega), hs _ (by omega), ht h hb]
  exact l.2 h ha hb
theorem nxr_lt {A : Nat → Nat} {i : Nat} (h : i + 1 < A 3) : nxr A i = fun k => A (186 + 59 * (i + 1) + k) := by
  funext k
  exact if_pos h
theorem nxr_top {A : Nat → Nat} {i : Nat} (h : ¬ i + 1 < A 3) : nxr A i = rowA A := by
  funext k
  exact if_neg h
theorem BS_house {A B : Nat → Nat} (hS : BS A) (hc : A 0 < 8) (h0 : B 0 = A 0 + 1) (he : ∀ j, j ≠ 0 → (j < 10 + 5 * A 0 ∨ 10 + 5 * A 0 + 4 < j) → B j = A j) (z0 : B (10 + 5 * A 0) = 0) (z1 : B (10 + 5 * A 0 + 1) = 0) (z2 : B (10 + 5 * A 0 + 2) = B (10 + 5 * A 0 + 4)) : BS B := by
  obtain ⟨s3, rows⟩ := hS
  have e3 : B 3 = A 3 := he 3 (by decide) (by omega)
  refine ⟨by omega, fun i hi => ?_⟩
  rw [e3] at hi
  obtain ⟨c0, ok, lk⟩ := rows i hi
  have er : ∀ k, k < 59 → B (186 + 59 * i + k) = A (186 + 59 * i + k) := fun k hk => he _ (by omega) (by omega)
  have er0 : B (186 + 59 * i) = A (186 + 59 * i) := er 0 (by decide)
  refine ⟨by rw [er0]; omega, rowOK_congr er ok, ?_⟩
  by_cases hl : i + 1 < A 3
  · rw [nxr_lt hl] at lk
    rw [nxr_lt (by rw [e3]; exact hl)]
    have cn : A (186 + 59 * (i + 1) + 0) ≤ A 0 := (rows (i + 1) hl).1
    exact link_congr er0 (fun k hk => he _ (by omega) (by omega)) (show A (186 + 59 * (i + 1) + 0) ≤ 8 by omega) (fun h hh => he _ (by omega) (by change h < A (186 + 59 * (i + 1) + 0) at hh; omega)) lk
  · rw [nxr_top hl] at lk
    rw [nxr_top (by rw [e3]; exact hl)]
    obtain ⟨l0, l1⟩ := lk
    rw [rowA_0] at l0
    refine ⟨?_, fun h ha hb => ?_⟩
    · show B (186 + 59 * i) ≤ B 0
      rw [er0, h0]
      exact Nat.le_succ_of_le l0
    · change B (186 + 59 * i) ≤ h at ha
      rw [er0] at ha
      rw [rowA_0, h0] at hb
      have q0 : rowA B (5 + 3 * h) = B (10 + 5 * h) := rowA_h B (h := h) (w := 0) (by omega) (by decide)
      have p0 : rowA A (5 + 3 * h) = A (10 + 5 * h) := rowA_h A (h := h) (w := 0) (by omega) (by decide)
      rw [q0, rowA_h B (by omega) (by decide), rowA_h B (by omega) (by decide)]
      by_cases hq : h = A 0
      · subst hq
        exact ⟨z0, z1, z2⟩
      · have q := l1 h ha (by rw [rowA_0]; omega)
        rw [p0, rowA_h A (by omega) (by decide), rowA_h A (by omega) (by decide)] at q
        rw [he _ (by omega) (by omega), he (10 + 5 * h + 1) (by omega) (by omega), he (10 + 5 * h + 2) (by omega) (by omega), he (10 + 5 * h + 4) (by omega) (by omega)]
        exact q
theorem h_house {κ : Kd} {T : TD} (v w : Int32) {σX σM : Sg} (J : Inv κ T σX σM) : ∃ r σX' σM', f_X11_house v w σX = some (r, σX') ∧ f_X12_house v w σM = some (r, σM') ∧ Inv κ T σX' σM' ∧ (r = -1 ∨ ∃ n, n < 8 ∧ r = nI n) := by
  obtain ⟨A, B, I⟩ := J
  have hM := I.2.1
  have hT := I.2.2.1.1
  have r0 := hM.1 0 (by decide) (by decide) (by decide)
  have x0 := hT.1
  have c8 := I.1.1.1
  change σX.1 2 0 = _ at x0
  have fail : ∀ h : (f_X11_house v w σX = some (-1, σX) ∧ f_X12_house v w σM = some (-1, σM)), ∃ r σX' σM', f_X11_house v w σX = some (r, σX') ∧ f_X12_house v w σM = some (r, σM') ∧ Inv κ T σX' σM' ∧ (r = -1 ∨ ∃ n, n < 8 ∧ r = nI n) := fun h => ⟨-1, σX, σM, h.1, h.2, ⟨A, B, I⟩, Or.inl rfl⟩
  unfold f_X11_house f_X8_settle f_X8_settle_30 f_X12_house f_X12_house_32 at fail ⊢
  rcases rng v 0 9 (by decide) (by decide) with hn | ⟨a, _, ha, rfl⟩
  · exact fail (by simp (disch := omega) only [e_bnd, e_bndV, e_lt, e_grd, e_lit, e_le1, e_le2, e_lt1, e_lt2, e_eq1, e_eq2, e_inb, e_ix, nI_add, pk_mul, e_sub, e_b0, e_b1, e_bz, e_bz0, e_bz1, Bool.and_true, Bool.true_and, ↓reduceIte, not_true_eq_false, not_false_eq_true, decide_false, decide_true, and_self, and_true, true_and, and_false, false_and, Bool.false_eq_true, Bool.not_false, Bool.not_true, x_within, m_isIn, hn])
  rcases rng w 0 9999 (by decide) (by decide) with hn | ⟨b, _, hb, rfl⟩
  · exact fail (by simp (disch := omega) only [e_bnd, e_bndV, e_lt, e_grd, e_lit, e_le1, e_le2, e_lt1, e_lt2, e_eq1, e_eq2, e_inb, e_ix, nI_add, pk_mul, e_sub, e_b0, e_b1, e_bz, e_bz0, e_bz1, Bool.and_true, Bool.true_and, ↓reduceIte, not_true_eq_false, not_false_eq_true, decide_false, decide_true, and_self, and_true, true_and, and_false, false_and, Bool.false_eq_true, Bool.not_false, Bool.not_true, x_within, m_isIn, hn])
  by_cases hc : A 0 = 8
  · exact fail (by simp (disch := omega) only [e_bnd, e_bndV, e_lt, e_grd, e_lit, e_le1, e_le2, e_lt1, e_lt2, e_eq1, e_eq2, e_inb, e_ix, nI_add, pk_mul, e_sub, e_b0, e_b1, e_bz, e_bz0, e_bz1, Bool.and_true, Bool.true_and, ↓reduceIte, not_true_eq_false, not_false_eq_true, decide_false, decide_true, and_self, and_true, true_and, and_false, false_and, Bool.false_eq_true, Bool.not_false, Bool.not_true, x_within, m_isIn, x0, r0, hc])
  have c8' : A 0 < 8 := by omega
  have M1 := hM.put (j := 10 + 5 * A 0 + 3) (by omega) a
  have M2 := M1.put (j := 10 + 5 * A 0 + 4) (by omega) b
  obtain ⟨s, e1, e2, e3⟩ := m_begin M2 (h := A 0) c8'
  have s0 := e2.1 0 (by decide) (by decide) (by decide)
  rw [up_ne (by omega), up_ne (by omega), up_ne (by omega), up_ne (by omega), up_ne (by omega)] at s0
  rw [up_hit] at e2
  have M3 := e2.put (j := 0) (by decide) (A 0 + 1)
  have X5 := ((((hT.wood c8' a).coins c8' b).fire c8' 0).heat c8' 0).count (A 0 + 1)
  refine ⟨nI (A 0), _, wI s 1 0 (nI (A 0 + 1)), (by simp (disch := omega) only [e_bnd, e_bndV, e_lt, e_grd, e_lit, e_le1, e_le2, e_lt1, e_lt2, e_eq1, e_eq2, e_inb, e_ix, nI_add, pk_mul, e_sub, e_b0, e_b1, e_bz, e_bz0, e_bz1, Bool.and_true, Bool.true_and, ↓reduceIte, not_true_eq_false, not_false_eq_true, decide_false, decide_true, and_self, and_true, true_and, and_false, false_and, Bool.false_eq_true, Bool.not_false, Bool.not_true, x_within, m_isIn, x0, e_ne1, e_hit, Nat.add_sub_cancel]; exact rfl), (by simp (disch := omega) only [e_bnd, e_bndV, e_lt, e_grd, e_lit, e_le1, e_le2, e_lt1, e_lt2, e_eq1, e_eq2, e_inb, e_ix, nI_add, pk_mul, e_sub, e_b0, e_b1, e_bz, e_bz0, e_bz1, Bool.and_true, Bool.true_and, ↓reduceIte, not_true_eq_false, not_false_eq_true, decide_false, decide_true, and_self, and_true, true_and, and_false, false_and, Bool.false_eq_true, Bool.not_false, Bool.not_true, x_within, m_isIn, r0, m_put, e1, s0]), ?_, Or.inr ⟨A 0, c8', rfl⟩⟩
  refine ⟨_, B, I.town ?_ ?_ M3 (X5.congr (fun j hj => ?_)) ?_ ?_ ⟨?_, ?_, ?_⟩ ?_ ?_⟩
  · exact ((((fr.w (by omega)).trans (fr.w (by omega))).trans (fr.w (by omega))).trans (fr.w (by omega))).trans (fr.w (by omega))
  · exact (((fr.w (by omega)).trans (fr.w (by omega))).trans (e3.mono (fun a j q => by omega))).trans (fr.w (by omega))
  · simp only [up]
    repeat' split
    all_goals omega
  · refine ⟨?_, fun i hi => ?_⟩
    · rw [e_ne2 (by decide), e_ne1 (by decide), e_ne1 (by decide), e_ne1 (by decide), e_ne1 (by decide), up_ne (by omega), up_ne (by omega), up_ne (by omega), up_ne (by omega), up_ne (by omega), up_ne (by omega)]
      exact I.2.2.1.2.1.1
    · rw [e_ne1 (by omega), e_ne1 (by omega), e_ne1 (by omega), e_ne1 (by omega), e_ne1 (by omega), up_ne (by omega), up_ne (by omega), up_ne (by omega), up_ne (by omega), up_ne (by omega), up_ne (by omega)]
      exact I.2.2.1.2.1.2 i hi
  · refine (I.2.2.1.2.2.2.1.of (fun a j q => ?_)).congr I.1.2.2.2.1.1 (fun j hj => ?_)
    · rw [e_ne1 (by omega), e_ne1 (by omega), e_ne1 (by omega), e_ne1 (by omega), e_ne1 (by omega)]
    · rw [up_ne (by omega), up_ne (by omega), up_ne (by omega), up_ne (by omega), up_ne (by omega), up_ne (by omega)]
  · obtain ⟨b0, b6, b7, b8, bh⟩ := I.1.1
    refine ⟨by rw [up_hit]; omega, ?_, ?_, ?_, fun h hh => ?_⟩
    · rw [up_ne (by omega), up_ne (by omega), up_ne (by omega), up_ne (by omega), up_ne (by omega), up_ne (by omega)]; exact b6
    · rw [up_ne (by omega), up_ne (by omega), up_ne (by omega), up_ne (by omega), up_ne (by omega), up_ne (by omega)]; exact b7
    · rw [up_ne (by omega), up_ne (by omega), up_ne (by omega), up_ne (by omega), up_ne (by omega), up_ne (by omega)]; exact b8
    · have := bh h hh
      simp only [up]
      refine ⟨?_, ?_, ?_, ?_, ?_⟩
      all_goals
        repeat' split
        all_goals omega
  · refine ⟨?_, fun i hi => ?_⟩
    · rw [up_ne (by omega), up_ne (by omega), up_ne (by omega), up_ne (by omega), up_ne (by omega), up_ne (by omega)]; exact I.1.2.1.1
    · rw [up_ne (by omega), up_ne (by omega), up_ne (by omega), up_ne (by omega), up_ne (by omega), up_ne (by omega)]; exact I.1.2.1.2 i hi
  · refine BS_house I.1.2.2.2.1 c8' up_hit (fun j h1 h2 => ?_) ?_ ?_ ?_
    · rw [up_ne (by omega), up_ne (by omega), up_ne (by omega), up_ne (by omega), up_ne (by omega), up_ne (by omega)]
    · rw [up_ne (by omega), up_ne (by omega), up_ne (by omega), up_hit]
    · rw [up_ne (by omega), up_ne (by omega), up_hit]
    · rw [up_ne (by omega), up_hit, up_ne (by omega), up_ne (by omega), up_ne (by omega), up_ne (by omega), up_hit]
  · intro j hj
    rw [up_ne (by omega), up_ne (by omega), up_ne (by omega), up_ne (by omega), up_ne (by omega), up_ne (by omega)]
  · rw [up_hit]; omega
theorem g_house {κ : Kd} {T : TD} (v w : Int32) : GO κ T (f_X11_house v w) (f_X12_house v w) := by
  intro σX σM J
  obtain ⟨r, x, m, h1, h2, h3, _⟩ := h_house v w J
  exact ⟨r, x, m, h1, h2, h3⟩
