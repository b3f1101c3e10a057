/-! began: the mask, the reference -/
theorem ct_le (A : Nat → Nat) (h : Nat) : ∀ t, ct A h t ≤ t
  | 0 => Nat.le_refl _
  | t + 1 => by
    have := ct_le A h t
    show (if bgs A h t (A 4) 0 = true then ct A h t + 1 else ct A h t) ≤ t + 1
    split <;> omega
theorem m_began35 {σ : Sg} {A : Nat → Nat} (hM : MA σ A) (hW : WF A) (hH : ∀ h e, h < A 0 → e < A 0 → σ.1 13 (8 * h + e) = nI (hp A (8 * h + e))) {N : Nat} (hN : N = 100) : f_X12_began_35 FU (nI 0) (nI 0) σ = some (nI (mk (A 0) fun h => decide (0 < ct A h N)), σ) := by
  have c8 := hW.1.1
  have r0 := hM.1 0 (by decide) (by decide) (by decide)
  refine lp (fun fu (q : Int32 × Int32) => f_X12_began_35 fu q.1 q.2 σ) (fun i => (nI (mk i fun h => decide (0 < ct A h N)), nI i)) (A 0) (fun i hi fu => ?_) (fun fu => ?_) FU (by unfold FU; omega)
  · have mo := m_hoursOf hM hW hi hH hN
    have le := ct_le A i N
    clear hH hW
    dsimp only
    rw [f_X12_began_35]
    by_cases z : 0 < ct A i N
    · rw [mk_1 (by rw [decide_eq_true z])]
      simp (disch := omega) only [e_bnd, e_bndV, e_lt, e_grd, e_lit, e_le1, e_le2, e_lt1, e_lt2, e_eq1, e_eq2, e_inb, e_ix, nI_add, pk_mul, e_sub, e_b0, e_b1, e_bz, e_bz0, e_bz1, Bool.and_true, Bool.true_and, ↓reduceIte, not_true_eq_false, not_false_eq_true, decide_false, decide_true, and_self, and_true, true_and, and_false, false_and, Bool.false_eq_true, Bool.not_false, Bool.not_true, r0, mo, f_X12_began_61, sh1, or_I]
    · rw [mk_0 (by rw [decide_eq_false z])]
      simp (disch := omega) only [e_bnd, e_bndV, e_lt, e_grd, e_lit, e_le1, e_le2, e_lt1, e_lt2, e_eq1, e_eq2, e_inb, e_ix, nI_add, pk_mul, e_sub, e_b0, e_b1, e_bz, e_bz0, e_bz1, Bool.and_true, Bool.true_and, ↓reduceIte, not_true_eq_false, not_false_eq_true, decide_false, decide_true, and_self, and_true, true_and, and_false, false_and, Bool.false_eq_true, Bool.not_false, Bool.not_true, r0, mo, f_X12_began_61, or_I, Nat.or_zero]
  · clear hH hW
    dsimp only
    rw [f_X12_began_35]
    simp (disch := omega) only [e_bnd, e_bndV, e_lt, e_grd, e_lit, e_le1, e_le2, e_lt1, e_lt2, e_eq1, e_eq2, e_inb, e_ix, nI_add, pk_mul, e_sub, e_b0, e_b1, e_bz, e_bz0, e_bz1, Bool.and_true, Bool.true_and, ↓reduceIte, not_true_eq_false, not_false_eq_true, decide_false, decide_true, and_self, and_true, true_and, and_false, false_and, Bool.false_eq_true, Bool.not_false, Bool.not_true, r0]
