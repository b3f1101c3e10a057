/-! began, whom: may h's fire have begun at t -/
def bg (A : Nat → Nat) (h t i : Nat) : Bool := if A (138 + 3 * i + 2) = 1 then decide (t + hp A (8 * h + A (138 + 3 * i)) = A (138 + 3 * i + 1)) else decide (A (138 + 3 * i + 1) < t + hp A (8 * h + A (138 + 3 * i)))
def bgs (A : Nat → Nat) (h t : Nat) : Nat → Nat → Bool
  | 0, _ => true
  | d + 1, i => bg A h t i && bgs A h t d (i + 1)
theorem hp_le {A : Nat → Nat} (hR : BR A) (x : Nat) : hp A x ≤ 1000000 := LE_flo (D0_le hR 1) (A 0) x
theorem m_isBegun {σ : Sg} {A : Nat → Nat} (hM : MA σ A) (hW : WF A) {h t : Nat} (hh : h < A 0) (ht : t < 100) (hH : ∀ h e, h < A 0 → e < A 0 → σ.1 13 (8 * h + e) = nI (hp A (8 * h + e))) : ∀ d i, i + d = A 4 → ∀ fu, d < fu → f_X12_isBegun_4 fu (nI h) (nI t) (nI (138 + 3 * i)) σ = some (if bgs A h t d i = true then nI 1 else nI 0, σ)
  | 0, i, hd, fu, hf => by
    obtain ⟨f, rfl⟩ : ∃ f, fu = f + 1 := ⟨fu - 1, by omega⟩
    have a8 := hW.2.2.2.2.2.2.1
    have r4 := hM.1 4 (by decide) (by decide) (by decide)
    have e : (if bgs A h t 0 i = true then nI 1 else nI 0) = nI 1 := rfl
    rw [e, f_X12_isBegun_4]
    clear hH
    simp (disch := omega) only [e_bnd, e_bndV, e_lt, e_grd, e_lit, e_le1, e_le2, e_lt1, e_lt2, e_eq1, e_eq2, e_inb, e_ix, nI_add, pk_mul, e_sub, e_b0, e_b1, e_bz, e_bz0, e_bz1, Bool.and_true, Bool.true_and, ↓reduceIte, not_true_eq_false, not_false_eq_true, decide_false, decide_true, and_self, and_true, true_and, and_false, false_and, Bool.false_eq_true, Bool.not_false, Bool.not_true, r4]
  | d + 1, i, hd, fu, hf => by
    obtain ⟨f, rfl⟩ : ∃ f, fu = f + 1 := ⟨fu - 1, by omega⟩
    have a8 := hW.2.2.2.2.2.2.1
    have c8 := hW.1.1
    have hR := hW.2.2.1
    obtain ⟨s1, s2⟩ := hW.2.2.2.2.2.2.2.2.1 i (by omega)
    have s3 := hW.2.2.2.2.2.2.2.2.2.1 i (by omega)
    have r4 := hM.1 4 (by decide) (by decide) (by decide)
    have q0 := hM.1 (138 + 3 * i) (by omega) (by omega) (by omega)
    have q1 := hM.1 (138 + 3 * i + 1) (by omega) (by omega) (by omega)
    have q2 := hM.1 (138 + 3 * i + 2) (by omega) (by omega) (by omega)
    have c1 := hH h _ hh s1
    have b1 := hp_le hR (8 * h + A (138 + 3 * i))
    have ih := m_isBegun hM hW hh ht hH d (i + 1) (by omega) f (by omega)
    rw [show 138 + 3 * (i + 1) = 138 + 3 * i + 3 by omega] at ih
    have e : bgs A h t (d + 1) i = (bg A h t i && bgs A h t d (i + 1)) := rfl
    rw [e]
    have hb : bg A h t i = if A (138 + 3 * i + 2) = 1 then decide (t + hp A (8 * h + A (138 + 3 * i)) = A (138 + 3 * i + 1)) else decide (A (138 + 3 * i + 1) < t + hp A (8 * h + A (138 + 3 * i))) := rfl
    rw [f_X12_isBegun_4]
    clear hH hW hR e
    by_cases z : A (138 + 3 * i + 2) = 1
    · rw [if_pos z] at hb
      by_cases y : t + hp A (8 * h + A (138 + 3 * i)) = A (138 + 3 * i + 1)
      · rw [decide_eq_true y] at hb
        rw [hb]
        clear hb
        simp (disch := omega) only [e_bnd, e_bndV, e_lt, e_grd, e_lit, e_le1, e_le2, e_lt1, e_lt2, e_eq1, e_eq2, e_inb, e_ix, nI_add, pk_mul, e_sub, e_b0, e_b1, e_bz, e_bz0, e_bz1, Bool.and_true, Bool.true_and, ↓reduceIte, not_true_eq_false, not_false_eq_true, decide_false, decide_true, and_self, and_true, true_and, and_false, false_and, Bool.false_eq_true, Bool.not_false, Bool.not_true, r4, q0, q1, q2, c1, f_X12_isBegun_83]
        exact ih
      · rw [decide_eq_false y] at hb
        have ef : (if (false && bgs A h t d (i + 1)) = true then nI 1 else nI 0) = nI 0 := by rw [Bool.false_and]; rfl
        rw [hb, ef]
        clear hb
        simp (disch := omega) only [e_bnd, e_bndV, e_lt, e_grd, e_lit, e_le1, e_le2, e_lt1, e_lt2, e_eq1, e_eq2, e_inb, e_ix, nI_add, pk_mul, e_sub, e_b0, e_b1, e_bz, e_bz0, e_bz1, Bool.and_true, Bool.true_and, ↓reduceIte, not_true_eq_false, not_false_eq_true, decide_false, decide_true, and_self, and_true, true_and, and_false, false_and, Bool.false_eq_true, Bool.not_false, Bool.not_true, r4, q0, q1, q2, c1, f_X12_isBegun_81]
    · rw [if_neg z] at hb
      by_cases y : A (138 + 3 * i + 1) < t + hp A (8 * h + A (138 + 3 * i))
      · rw [decide_eq_true y] at hb
        rw [hb]
        clear hb
        simp (disch := omega) only [e_bnd, e_bndV, e_lt, e_grd, e_lit, e_le1, e_le2, e_lt1, e_lt2, e_eq1, e_eq2, e_inb, e_ix, nI_add, pk_mul, e_sub, e_b0, e_b1, e_bz, e_bz0, e_bz1, Bool.and_true, Bool.true_and, ↓reduceIte, not_true_eq_false, not_false_eq_true, decide_false, decide_true, and_self, and_true, true_and, and_false, false_and, Bool.false_eq_true, Bool.not_false, Bool.not_true, r4, q0, q1, q2, c1, f_X12_isBegun_83]
        exact ih
      · rw [decide_eq_false y] at hb
        have ef : (if (false && bgs A h t d (i + 1)) = true then nI 1 else nI 0) = nI 0 := by rw [Bool.false_and]; rfl
        rw [hb, ef]
        clear hb
        simp (disch := omega) only [e_bnd, e_bndV, e_lt, e_grd, e_lit, e_le1, e_le2, e_lt1, e_lt2, e_eq1, e_eq2, e_inb, e_ix, nI_add, pk_mul, e_sub, e_b0, e_b1, e_bz, e_bz0, e_bz1, Bool.and_true, Bool.true_and, ↓reduceIte, not_true_eq_false, not_false_eq_true, decide_false, decide_true, and_self, and_true, true_and, and_false, false_and, Bool.false_eq_true, Bool.not_false, Bool.not_true, r4, q0, q1, q2, c1, f_X12_isBegun_81]
