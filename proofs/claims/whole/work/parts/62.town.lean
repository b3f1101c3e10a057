/-! the town as numbers: A has the reference's layout; what the class holds at t -/
def up (A : Nat → Nat) (j v : Nat) : Nat → Nat := fun i => if i = j then v else A i
theorem up_hit {A : Nat → Nat} {j v : Nat} : up A j v j = v := if_pos rfl
theorem up_ne {A : Nat → Nat} {j v i : Nat} (h : i ≠ j) : up A j v i = A i := if_neg h
/-- houses, clock, wind, x -/
def XT (σ : Sg) (t : Nat) (A : Nat → Nat) : Prop :=
  σ.1 t 0 = nI (A 0) ∧ σ.1 t 5 = nI (A 6) ∧ σ.1 t 6 = nI (A 7) ∧ σ.1 t 7 = nI (A 8) ∧ (∀ h, h < 8 → σ.1 (t + 1) h = nI (A (10 + 5 * h + 3))) ∧ (∀ h, h < 8 → σ.1 (t + 2) h = nI (A (10 + 5 * h + 2))) ∧ (∀ h, h < 8 → σ.1 (t + 3) h = nI (A (10 + 5 * h))) ∧ (∀ h, h < 8 → σ.1 (t + 4) h = nI (A (10 + 5 * h + 1)))
/-- the book -/
def XN (σ : Sg) (t : Nat) (A : Nat → Nat) : Prop := σ.1 t 9 = nI (A 9) ∧ ∀ i, i < 30 → σ.1 (t + 5) i = nI (A (1956 + i))
/-- the streets at s: lengths, and of each house those beside it -/
def bes (A : Nat → Nat) (h : Nat) : Nat := mk 8 fun e => decide (0 < A (50 + 8 * h + e))
def XR (σ : Sg) (s : Nat) (A : Nat → Nat) : Prop := (∀ i, i < 64 → σ.1 (s + 1) i = nI (A (50 + i))) ∧ ∀ h, h < 8 → σ.1 (s + 2) h = nI (bes A h)
/-- bounds of houses, clock, wind, x -/
def BT (A : Nat → Nat) : Prop := A 0 ≤ 8 ∧ A 6 ≤ 9999 ∧ A 7 ≤ 9 ∧ A 8 < 30497 ∧ (∀ h, h < 8 → A (10 + 5 * h) ≤ 4 ∧ A (10 + 5 * h + 1) ≤ 9 ∧ A (10 + 5 * h + 2) ≤ 9999 ∧ A (10 + 5 * h + 3) ≤ 9 ∧ A (10 + 5 * h + 4) ≤ 9999)
def BN (A : Nat → Nat) : Prop := A 9 ≤ 30 ∧ ∀ i, i < 30 → A (1956 + i) < 1000000
def BR (A : Nat → Nat) : Prop := ∀ h e, h < 8 → e < 8 → A (50 + 8 * h + e) ≤ 99 ∧ A (50 + 8 * h + e) = A (50 + 8 * e + h) ∧ (A 0 ≤ h → A (50 + 8 * h + e) = 0) ∧ A (50 + 8 * h + h) = 0
theorem bes_lt (A : Nat → Nat) (h : Nat) : bes A h < 256 := mk8 _ (by decide)
theorem bes_bit (A : Nat → Nat) (h e : Nat) (he : e < 8) : (bes A h).testBit e = decide (0 < A (50 + 8 * h + e)) := by
  unfold bes
  rw [mk_bit]
  simp [he]
theorem s_of {q : Option (Int32 × Sg)} {r : Int32} {s : Sg} (h : q = some (r, s)) : q = some (r, s) := h
theorem x_within (v lo hi : Int32) (σ : Sg) : f_X11_within v lo hi σ = some (if lo ≤ v ∧ v ≤ hi then nI 1 else nI 0, σ) := f_within_eq v lo hi σ
theorem m_isIn (v lo hi : Int32) (σ : Sg) : f_X12_isIn v lo hi σ = some (if lo ≤ v ∧ v ≤ hi then nI 1 else nI 0, σ) := f_isIn_eq v lo hi σ
/-- told: of any number -/
theorem x_told {σ : Sg} {t : Nat} {A : Nat → Nat} (h0 : σ.1 t 0 = nI (A 0)) (hc : A 0 ≤ 8) (v : Int32) : (f_X8_told t v σ = some (nI 0, σ) ∧ ∀ h, h < A 0 → v ≠ nI h) ∨ ∃ h, h < A 0 ∧ v = nI h ∧ f_X8_told t v σ = some (nI 1, σ) := by
  rcases pk_ix v (n := A 0) (by omega) with h | h | ⟨j, hj, rfl⟩
  · refine Or.inl ⟨?_, fun k hk e => ?_⟩
    · unfold f_X8_told f_X8_told_22 f_X8_told_23
      rw [if_pos h]
      rfl
    · subst e; exact nI_pos (by omega) h
  · by_cases hv : v < 0
    · refine Or.inl ⟨?_, fun k hk e => ?_⟩
      · unfold f_X8_told f_X8_told_22 f_X8_told_23
        rw [if_pos hv]
        rfl
      · subst e; exact nI_pos (by omega) hv
    · refine Or.inl ⟨?_, fun k hk e => ?_⟩
      · unfold f_X8_told f_X8_told_22 f_X8_told_23
        rw [if_neg hv, h0, if_pos h]
        rfl
      · subst e; exact nI_ge hk (by omega) h
  · refine Or.inr ⟨j, hj, rfl, ?_⟩
    unfold f_X8_told f_X8_told_22 f_X8_told_23
    simp (disch := omega) only [h0, e_bnd, e_bndV, e_lt, e_grd, e_lit, e_le1, e_le2, e_lt1, e_lt2, e_eq1, e_eq2, e_inb, e_ix, nI_add, pk_mul, e_sub, e_b0, e_b1, e_bz, e_bz0, e_bz1, Bool.and_true, Bool.true_and, ↓reduceIte, not_true_eq_false, not_false_eq_true, decide_false, decide_true, and_self, and_true, true_and, and_false, false_and, Bool.false_eq_true, Bool.not_false, Bool.not_true]
theorem x_told1 {σ : Sg} {t : Nat} {A : Nat → Nat} (h0 : σ.1 t 0 = nI (A 0)) (hc : A 0 ≤ 8) {h : Nat} (hh : h < A 0) : f_X8_told t (nI h) σ = some (nI 1, σ) := by
  unfold f_X8_told f_X8_told_22 f_X8_told_23
  simp (disch := omega) only [h0, e_bnd, e_bndV, e_lt, e_grd, e_lit, e_le1, e_le2, e_lt1, e_lt2, e_eq1, e_eq2, e_inb, e_ix, nI_add, pk_mul, e_sub, e_b0, e_b1, e_bz, e_bz0, e_bz1, Bool.and_true, Bool.true_and, ↓reduceIte, not_true_eq_false, not_false_eq_true, decide_false, decide_true, and_self, and_true, true_and, and_false, false_and, Bool.false_eq_true, Bool.not_false, Bool.not_true]
theorem x_keeps {σ : Sg} {t : Nat} {A : Nat → Nat} (hX : XT σ t A) (hB : BT A) {h : Nat} (hh : h < 8) : f_X8_keeps t (nI h) σ = some (if A (10 + 5 * h) = 1 ∨ A (10 + 5 * h) = 2 then nI 1 else nI 0, σ) := by
  have hf := hX.2.2.2.2.2.2.1
  have hb := (hB.2.2.2.2 h hh).1
  unfold f_X8_keeps f_X8_keeps_20 f_X8_keeps_25
  by_cases h1 : A (10 + 5 * h) = 1
  · simp (disch := omega) only [hf, e_bnd, e_bndV, e_lt, e_grd, e_lit, e_le1, e_le2, e_lt1, e_lt2, e_eq1, e_eq2, e_inb, e_ix, nI_add, pk_mul, e_sub, e_b0, e_b1, e_bz, e_bz0, e_bz1, Bool.and_true, Bool.true_and, ↓reduceIte, not_true_eq_false, not_false_eq_true, decide_false, decide_true, and_self, and_true, true_and, and_false, false_and, Bool.false_eq_true, Bool.not_false, Bool.not_true, h1, true_or]
  · by_cases h2 : A (10 + 5 * h) = 2
    · simp (disch := omega) only [hf, e_bnd, e_bndV, e_lt, e_grd, e_lit, e_le1, e_le2, e_lt1, e_lt2, e_eq1, e_eq2, e_inb, e_ix, nI_add, pk_mul, e_sub, e_b0, e_b1, e_bz, e_bz0, e_bz1, Bool.and_true, Bool.true_and, ↓reduceIte, not_true_eq_false, not_false_eq_true, decide_false, decide_true, and_self, and_true, true_and, and_false, false_and, Bool.false_eq_true, Bool.not_false, Bool.not_true, h2, or_true]
    · simp (disch := omega) only [hf, e_bnd, e_bndV, e_lt, e_grd, e_lit, e_le1, e_le2, e_lt1, e_lt2, e_eq1, e_eq2, e_inb, e_ix, nI_add, pk_mul, e_sub, e_b0, e_b1, e_bz, e_bz0, e_bz1, Bool.and_true, Bool.true_and, ↓reduceIte, not_true_eq_false, not_false_eq_true, decide_false, decide_true, and_self, and_true, true_and, and_false, false_and, Bool.false_eq_true, Bool.not_false, Bool.not_true, h1, h2, or_self]
def fires (A : Nat → Nat) (lo hi : Nat) : Nat := mk (A 0) fun h => decide (lo ≤ A (10 + 5 * h) ∧ A (10 + 5 * h) ≤ hi)
theorem x_housesBy {σ : Sg} {t : Nat} {A : Nat → Nat} (hX : XT σ t A) (hB : BT A) {lo hi : Nat} (hl : lo < 9) (hh : hi < 9) : f_X8_housesBy t (nI lo) (nI hi) σ = some (nI (fires A lo hi), σ) := by
  have hf := hX.2.2.2.2.2.2.1
  have h0 := hX.1
  have hc := hB.1
  unfold f_X8_housesBy
  refine lp (fun fu (s : Int32 × Int32) => f_X8_housesBy_5 t fu (nI lo) (nI hi) s.1 s.2 σ) (fun i => (nI (mk i fun h => decide (lo ≤ A (10 + 5 * h) ∧ A (10 + 5 * h) ≤ hi)), nI i)) (A 0) (fun i hi2 fu => ?_) (fun fu => ?_) FU (by unfold FU; omega)
  · have hb := (hB.2.2.2.2 i (by omega)).1
    dsimp only
    rw [f_X8_housesBy_5]
    by_cases h1 : A (10 + 5 * i) < lo
    · rw [mk_0 (by rw [decide_eq_false]; omega)]
      simp (disch := omega) only [h0, hf, e_bnd, e_bndV, e_lt, e_grd, e_lit, e_le1, e_le2, e_lt1, e_lt2, e_eq1, e_eq2, e_inb, e_ix, nI_add, pk_mul, e_sub, e_b0, e_b1, e_bz, e_bz0, e_bz1, Bool.and_true, Bool.true_and, ↓reduceIte, not_true_eq_false, not_false_eq_true, decide_false, decide_true, and_self, and_true, true_and, and_false, false_and, Bool.false_eq_true, Bool.not_false, Bool.not_true, f_X8_housesBy_43]
    · by_cases h2 : hi < A (10 + 5 * i)
      · rw [mk_0 (by rw [decide_eq_false]; omega)]
        simp (disch := omega) only [h0, hf, e_bnd, e_bndV, e_lt, e_grd, e_lit, e_le1, e_le2, e_lt1, e_lt2, e_eq1, e_eq2, e_inb, e_ix, nI_add, pk_mul, e_sub, e_b0, e_b1, e_bz, e_bz0, e_bz1, Bool.and_true, Bool.true_and, ↓reduceIte, not_true_eq_false, not_false_eq_true, decide_false, decide_true, and_self, and_true, true_and, and_false, false_and, Bool.false_eq_true, Bool.not_false, Bool.not_true, f_X8_housesBy_43]
      · rw [mk_1 (by rw [decide_eq_true]; omega)]
        simp (disch := omega) only [h0, hf, e_bnd, e_bndV, e_lt, e_grd, e_lit, e_le1, e_le2, e_lt1, e_lt2, e_eq1, e_eq2, e_inb, e_ix, nI_add, pk_mul, e_sub, e_b0, e_b1, e_bz, e_bz0, e_bz1, Bool.and_true, Bool.true_and, ↓reduceIte, not_true_eq_false, not_false_eq_true, decide_false, decide_true, and_self, and_true, true_and, and_false, false_and, Bool.false_eq_true, Bool.not_false, Bool.not_true, f_X8_housesBy_43, sh1, or_I]
  · dsimp only
    rw [f_X8_housesBy_5]
    simp (disch := omega) only [h0, e_bnd, e_bndV, e_lt, e_grd, e_lit, e_le1, e_le2, e_lt1, e_lt2, e_eq1, e_eq2, e_inb, e_ix, nI_add, pk_mul, e_sub, e_b0, e_b1, e_bz, e_bz0, e_bz1, Bool.and_true, Bool.true_and, ↓reduceIte, not_true_eq_false, not_false_eq_true, decide_false, decide_true, and_self, and_true, true_and, and_false, false_and, Bool.false_eq_true, Bool.not_false, Bool.not_true]
    rfl
def mayG (A : Nat → Nat) : Nat := mk (A 0) fun h => decide ((A (10 + 5 * h) = 1 ∨ A (10 + 5 * h) = 2) ∧ 2 ≤ A (10 + 5 * h + 1))
theorem x_mayGive {σ : Sg} {t : Nat} {A : Nat → Nat} (hX : XT σ t A) (hB : BT A) : f_X8_mayGive t σ = some (nI (mayG A), σ) := by
  have hf := hX.2.2.2.2.2.2.2
  have h0 := hX.1
  have hc := hB.1
  unfold f_X8_mayGive
  refine lp (fun fu (s : Int32 × Int32) => f_X8_mayGive_4 t fu s.1 s.2 σ) (fun i => (nI (mk i fun h => decide ((A (10 + 5 * h) = 1 ∨ A (10 + 5 * h) = 2) ∧ 2 ≤ A (10 + 5 * h + 1))), nI i)) (A 0) (fun i hi2 fu => ?_) (fun fu => ?_) FU (by unfold FU; omega)
  · have hb := (hB.2.2.2.2 i (by omega)).1
    have hb2 := (hB.2.2.2.2 i (by omega)).2.1
    dsimp only
    rw [f_X8_mayGive_4]
    by_cases h1 : A (10 + 5 * i) = 1 ∨ A (10 + 5 * i) = 2
    · by_cases h2 : A (10 + 5 * i + 1) < 2
      · rw [mk_0 (by rw [decide_eq_false]; omega)]
        simp (disch := omega) only [h0, x_keeps hX hB, hf, e_bnd, e_bndV, e_lt, e_grd, e_lit, e_le1, e_le2, e_lt1, e_lt2, e_eq1, e_eq2, e_inb, e_ix, nI_add, pk_mul, e_sub, e_b0, e_b1, e_bz, e_bz0, e_bz1, Bool.and_true, Bool.true_and, ↓reduceIte, not_true_eq_false, not_false_eq_true, decide_false, decide_true, and_self, and_true, true_and, and_false, false_and, Bool.false_eq_true, Bool.not_false, Bool.not_true, f_X8_mayGive_36, h1]
      · rw [mk_1 (by rw [decide_eq_true]; omega)]
        simp (disch := omega) only [h0, x_keeps hX hB, hf, e_bnd, e_bndV, e_lt, e_grd, e_lit, e_le1, e_le2, e_lt1, e_lt2, e_eq1, e_eq2, e_inb, e_ix, nI_add, pk_mul, e_sub, e_b0, e_b1, e_bz, e_bz0, e_bz1, Bool.and_true, Bool.true_and, ↓reduceIte, not_true_eq_false, not_false_eq_true, decide_false, decide_true, and_self, and_true, true_and, and_false, false_and, Bool.false_eq_true, Bool.not_false, Bool.not_true, f_X8_mayGive_36, h1, sh1, or_I]
    · rw [mk_0 (by rw [decide_eq_false]; omega)]
      simp (disch := omega) only [h0, x_keeps hX hB, hf, e_bnd, e_bndV, e_lt, e_grd, e_lit, e_le1, e_le2, e_lt1, e_lt2, e_eq1, e_eq2, e_inb, e_ix, nI_add, pk_mul, e_sub, e_b0, e_b1, e_bz, e_bz0, e_bz1, Bool.and_true, Bool.true_and, ↓reduceIte, not_true_eq_false, not_false_eq_true, decide_false, decide_true, and_self, and_true, true_and, and_false, false_and, Bool.false_eq_true, Bool.not_false, Bool.not_true, f_X8_mayGive_36, h1]
  · dsimp only
    rw [f_X8_mayGive_4]
    simp (disch := omega) only [h0, e_bnd, e_bndV, e_lt, e_grd, e_lit, e_le1, e_le2, e_lt1, e_lt2, e_eq1, e_eq2, e_inb, e_ix, nI_add, pk_mul, e_sub, e_b0, e_b1, e_bz, e_bz0, e_bz1, Bool.and_true, Bool.true_and, ↓reduceIte, not_true_eq_false, not_false_eq_true, decide_false, decide_true, and_self, and_true, true_and, and_false, false_and, Bool.false_eq_true, Bool.not_false, Bool.not_true]
    rfl
def bellP (A : Nat → Nat) : Prop := 20 ≤ A 6 % 24 ∨ A 6 % 24 < 6
theorem x_bell {σ : Sg} {t : Nat} {A : Nat → Nat} (hX : XT σ t A) (hB : BT A) : f_X8_bell t σ = some (if 20 ≤ A 6 % 24 ∨ A 6 % 24 < 6 then nI 1 else nI 0, σ) := by
  have h5 := hX.2.1
  have hb := hB.2.1
  unfold f_X8_bell f_X8_bell_20 f_X8_bell_25
  by_cases h1 : 20 ≤ A 6 % 24
  · simp (disch := omega) only [h5, e_bnd, e_bndV, e_lt, e_grd, e_lit, e_le1, e_le2, e_lt1, e_lt2, e_eq1, e_eq2, e_inb, e_ix, nI_add, pk_mul, e_sub, e_b0, e_b1, e_bz, e_bz0, e_bz1, Bool.and_true, Bool.true_and, ↓reduceIte, not_true_eq_false, not_false_eq_true, decide_false, decide_true, and_self, and_true, true_and, and_false, false_and, Bool.false_eq_true, Bool.not_false, Bool.not_true, rem_I, dz_I, h1, true_or]
  · by_cases h2 : A 6 % 24 < 6
    · simp (disch := omega) only [h5, e_bnd, e_bndV, e_lt, e_grd, e_lit, e_le1, e_le2, e_lt1, e_lt2, e_eq1, e_eq2, e_inb, e_ix, nI_add, pk_mul, e_sub, e_b0, e_b1, e_bz, e_bz0, e_bz1, Bool.and_true, Bool.true_and, ↓reduceIte, not_true_eq_false, not_false_eq_true, decide_false, decide_true, and_self, and_true, true_and, and_false, false_and, Bool.false_eq_true, Bool.not_false, Bool.not_true, rem_I, dz_I, h1, h2, or_true]
    · simp (disch := omega) only [h5, e_bnd, e_bndV, e_lt, e_grd, e_lit, e_le1, e_le2, e_lt1, e_lt2, e_eq1, e_eq2, e_inb, e_ix, nI_add, pk_mul, e_sub, e_b0, e_b1, e_bz, e_bz0, e_bz1, Bool.and_true, Bool.true_and, ↓reduceIte, not_true_eq_false, not_false_eq_true, decide_false, decide_true, and_self, and_true, true_and, and_false, false_and, Bool.false_eq_true, Bool.not_false, Bool.not_true, rem_I, dz_I, h1, h2, or_self]
theorem x_near {σ : Sg} {s : Nat} {A : Nat → Nat} (hR : XR σ s A) {h m : Nat} (hh : h < 8) (hm : m < 256) : f_X5_near s (nI h) (nI m) σ = some (nI (pc8 (bes A h &&& m)), σ) := by
  have hb := hR.2
  have hl : bes A h &&& m < 256 := Nat.lt_of_le_of_lt Nat.and_le_left (bes_lt A h)
  unfold f_X5_near
  simp (disch := omega) only [hb, e_bnd, e_bndV, e_lt, e_grd, e_lit, e_le1, e_le2, e_lt1, e_lt2, e_eq1, e_eq2, e_inb, e_ix, nI_add, pk_mul, e_sub, e_b0, e_b1, e_bz, e_bz0, e_bz1, Bool.and_true, Bool.true_and, ↓reduceIte, not_true_eq_false, not_false_eq_true, decide_false, decide_true, and_self, and_true, true_and, and_false, false_and, Bool.false_eq_true, Bool.not_false, Bool.not_true, and_I, f_bitCount_eq]
