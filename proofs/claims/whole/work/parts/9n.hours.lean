/-! began: how many hours, the reference -/
def ct (A : Nat → Nat) (h : Nat) : Nat → Nat
  | 0 => 0
  | t + 1 => if bgs A h t (A 4) 0 = true then ct A h t + 1 else ct A h t
theorem m_hoursOf {σ : Sg} {A : Nat → Nat} (hM : MA σ A) (hW : WF A) {h : Nat} (hh : h < A 0) (hH : ∀ h e, h < A 0 → e < A 0 → σ.1 13 (8 * h + e) = nI (hp A (8 * h + e))) {N : Nat} (hN : N = 100) : f_X12_hoursOf (nI h) σ = some (nI (ct A h N), σ) := by
  unfold f_X12_hoursOf
  simp (disch := omega) only [e_lit]
  refine lp (fun fu (q : Int32 × Int32) => f_X12_hoursOf_4 fu (nI h) q.1 q.2 σ) (fun t => (nI (ct A h t), nI t)) N (fun t ht fu => ?_) (fun fu => ?_) FU (by unfold FU; omega)
  · have a8 := hW.2.2.2.2.2.2.1
    have mb : f_X12_isBegun (nI h) (nI t) σ = some (if bgs A h t (A 4) 0 = true then nI 1 else nI 0, σ) := m_isBegun hM hW hh (by omega) hH (A 4) 0 (by omega) FU (by unfold FU; omega)
    have e : ct A h (t + 1) = if bgs A h t (A 4) 0 = true then ct A h t + 1 else ct A h t := rfl
    clear hH hW
    dsimp only
    by_cases z : bgs A h t (A 4) 0 = true
    · rw [if_pos z] at mb e
      rw [e, f_X12_hoursOf_4]
      simp (disch := omega) only [e_bnd, e_bndV, e_lt, e_grd, e_lit, e_le1, e_le2, e_lt1, e_lt2, e_eq1, e_eq2, e_inb, e_ix, nI_add, pk_mul, e_sub, e_b0, e_b1, e_bz, e_bz0, e_bz1, Bool.and_true, Bool.true_and, ↓reduceIte, not_true_eq_false, not_false_eq_true, decide_false, decide_true, and_self, and_true, true_and, and_false, false_and, Bool.false_eq_true, Bool.not_false, Bool.not_true, mb, f_X12_hoursOf_25]
    · rw [if_neg z] at mb e
      rw [e, f_X12_hoursOf_4]
      simp (disch := omega) only [e_bnd, e_bndV, e_lt, e_grd, e_lit, e_le1, e_le2, e_lt1, e_lt2, e_eq1, e_eq2, e_inb, e_ix, nI_add, pk_mul, e_sub, e_b0, e_b1, e_bz, e_bz0, e_bz1, Bool.and_true, Bool.true_and, ↓reduceIte, not_true_eq_false, not_false_eq_true, decide_false, decide_true, and_self, and_true, true_and, and_false, false_and, Bool.false_eq_true, Bool.not_false, Bool.not_true, mb, f_X12_hoursOf_25, Nat.add_zero]
  · clear hH hW
    dsimp only
    rw [f_X12_hoursOf_4]
    simp (disch := omega) only [e_bnd, e_bndV, e_lt, e_grd, e_lit, e_le1, e_le2, e_lt1, e_lt2, e_eq1, e_eq2, e_inb, e_ix, nI_add, pk_mul, e_sub, e_b0, e_b1, e_bz, e_bz0, e_bz1, Bool.and_true, Bool.true_and, ↓reduceIte, not_true_eq_false, not_false_eq_true, decide_false, decide_true, and_self, and_true, true_and, and_false, false_and, Bool.false_eq_true, Bool.not_false, Bool.not_true]
