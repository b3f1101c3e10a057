/-! what the reference writes -/
/-- cells lo .. lo + n of a0 are those d behind -/
def sh (a0 lo d n : Nat) (σ : Sg) : Sg := (fun a j => if a = a0 ∧ lo ≤ j ∧ j < lo + n then σ.1 a0 (j + d) else σ.1 a j, σ.2)
theorem sh_0 {a0 lo d : Nat} {σ : Sg} : sh a0 lo d 0 σ = σ := by
  refine Prod.ext (funext fun a => funext fun j => ?_) rfl
  show (if _ then _ else _) = _
  rw [if_neg (by omega)]
theorem sh_rd {a0 lo d n j a : Nat} {σ : Sg} : (sh a0 lo d n σ).1 a j = if a = a0 ∧ lo ≤ j ∧ j < lo + n then σ.1 a0 (j + d) else σ.1 a j := rfl
theorem sh_at {a0 lo d n j : Nat} {σ : Sg} (h : j < lo ∨ lo + n ≤ j) : (sh a0 lo d n σ).1 a0 j = σ.1 a0 j := by
  rw [sh_rd, if_neg (by omega)]
theorem sh_step {a0 lo d n : Nat} {σ : Sg} : wI (sh a0 lo d n σ) a0 (lo + n) (σ.1 a0 (lo + n + d)) = sh a0 lo d (n + 1) σ := by
  refine Prod.ext (funext fun a => funext fun j => ?_) rfl
  show (if a = a0 ∧ j = lo + n then _ else if a = a0 ∧ lo ≤ j ∧ j < lo + n then _ else _) = (if a = a0 ∧ lo ≤ j ∧ j < lo + (n + 1) then _ else _)
  by_cases h1 : a = a0 ∧ j = lo + n
  · rw [if_pos h1, if_pos (by omega), h1.2]
  · rw [if_neg h1]
    by_cases h2 : a = a0 ∧ lo ≤ j ∧ j < lo + n
    · rw [if_pos h2, if_pos (by omega)]
    · rw [if_neg h2, if_neg (by omega)]
theorem wC_0 {k0 s k1 d : Nat} {σ : Sg} : wC σ k0 s k1 d 0 = σ := by
  refine Prod.ext (funext fun a => funext fun j => ?_) rfl
  show (if _ then _ else _) = _
  rw [if_neg (by omega)]
theorem wC_step {k0 s k1 d n : Nat} {σ : Sg} : wI (wC σ k0 s k1 d n) k1 (d + n) (σ.1 k0 (s + n)) = wC σ k0 s k1 d (n + 1) := by
  refine Prod.ext (funext fun a => funext fun j => ?_) rfl
  show (if a = k1 ∧ j = d + n then _ else if a = k1 ∧ d ≤ j ∧ j < d + n then _ else _) = (if a = k1 ∧ d ≤ j ∧ j < d + (n + 1) then _ else _)
  by_cases h1 : a = k1 ∧ j = d + n
  · rw [if_pos h1, if_pos (by omega), h1.2, show d + n - d = n by omega]
  · rw [if_neg h1]
    by_cases h2 : a = k1 ∧ d ≤ j ∧ j < d + n
    · rw [if_pos h2, if_pos (by omega)]
    · rw [if_neg h2, if_neg (by omega)]
theorem wC_o {k0 s k1 d n a j : Nat} {σ : Sg} (h : a ≠ k1 ∨ j < d ∨ d + n ≤ j) : (wC σ k0 s k1 d n).1 a j = σ.1 a j := by
  rw [wC_rd, if_neg (by omega)]
theorem wC_in {k0 s k1 d n j : Nat} {σ : Sg} (h : d ≤ j ∧ j < d + n) : (wC σ k0 s k1 d n).1 k1 j = σ.1 k0 (s + (j - d)) := by
  rw [wC_rd, if_pos (by omega)]
/-- the cells of the reference that a STEP may change, but for what is asked -/
abbrev aB : Nat → Nat → Prop := fun a j => a = 1 ∧ (j = 9 ∨ 1956 ≤ j)
theorem m_write {σ : Sg} {A : Nat → Nat} (hM : MA σ A) (h9 : A 9 ≤ 30) (h6 : A 6 ≤ 9999) (hW : σ.1 0 24 = nI 1) {h w : Nat} (hh : h < 8) (hw : w < 8) : ∃ σ', f_X12_write (nI h) (nI w) σ = some σ' ∧ MA σ' (wr A h w) ∧ fr aB σ σ' := by
  have r9 := hM.1 9 (by decide) (by decide) (by decide)
  have r6 := hM.1 6 (by decide) (by decide) (by decide)
  unfold f_X12_write
  by_cases hl : A 9 < 30
  · refine ⟨wI (wI σ 1 (1956 + A 9) (nI (A 6 * 64 + h * 8 + w))) 1 9 (nI (A 9 + 1)), ?_, ?_, ?_⟩
    · simp (disch := omega) only [hW, r9, r6, e_bnd, e_bndV, e_lt, e_grd, e_lit, e_le1, e_le2, e_lt1, e_lt2, e_eq1, e_eq2, e_inb, e_ix, nI_add, pk_mul, e_sub, e_b0, e_b1, e_bz, e_bz0, e_bz1, Bool.and_true, Bool.true_and, ↓reduceIte, not_true_eq_false, not_false_eq_true, decide_false, decide_true, and_self, and_true, true_and, and_false, false_and, Bool.false_eq_true, Bool.not_false, Bool.not_true, f_X12_write_67, e_ne2, show ∀ c, ((c * 8 + h) * 8 + w) = c * 64 + h * 8 + w from fun c => by omega]
    · unfold wr
      rw [if_pos hl]
      exact (hM.put (by omega) _).put (by decide) _
    · exact (fr.w ⟨rfl, Or.inr (by omega)⟩).trans (fr.w ⟨rfl, Or.inl rfl⟩)
  · have h30 : A 9 = 30 := by omega
    have hs : f_X12_write_22 FU (nI h) (nI w) (nI 1) σ = f_X12_write_67 (nI h) (nI w) (wI (sh 1 1956 1 29 σ) 1 9 (nI 29)) := by
      have e := lp (fun fu (s : Int32 × Sg) => f_X12_write_22 fu (nI h) (nI w) s.1 s.2) (fun i => (nI (1 + i), sh 1 1956 1 i σ)) 29 (r := f_X12_write_67 (nI h) (nI w) (wI (sh 1 1956 1 29 σ) 1 9 (nI 29))) (fun i hi fu => by
        dsimp only
        rw [f_X12_write_22, ← sh_step]
        simp (disch := omega) only [e_bnd, e_bndV, e_lt, e_grd, e_lit, e_le1, e_le2, e_lt1, e_lt2, e_eq1, e_eq2, e_inb, e_ix, nI_add, pk_mul, e_sub, e_b0, e_b1, e_bz, e_bz0, e_bz1, Bool.and_true, Bool.true_and, ↓reduceIte, not_true_eq_false, not_false_eq_true, decide_false, decide_true, and_self, and_true, true_and, and_false, false_and, Bool.false_eq_true, Bool.not_false, Bool.not_true, sh_at, show 1956 + i + 1 - 1 = 1956 + i by omega, show 1956 + (1 + i) = 1956 + i + 1 by omega, show 1 + i + 1 = 1 + (i + 1) by omega]) (fun fu => by
        dsimp only
        rw [f_X12_write_22]
        simp (disch := omega) only [e_bnd, e_bndV, e_lt, e_grd, e_lit, e_le1, e_le2, e_lt1, e_lt2, e_eq1, e_eq2, e_inb, e_ix, nI_add, pk_mul, e_sub, e_b0, e_b1, e_bz, e_bz0, e_bz1, Bool.and_true, Bool.true_and, ↓reduceIte, not_true_eq_false, not_false_eq_true, decide_false, decide_true, and_self, and_true, true_and, and_false, false_and, Bool.false_eq_true, Bool.not_false, Bool.not_true, sh_at, r9, h30]) FU (by unfold FU; omega)
      rw [sh_0] at e
      exact e
    refine ⟨wI (wI (wI (sh 1 1956 1 29 σ) 1 9 (nI 29)) 1 1985 (nI (A 6 * 64 + h * 8 + w))) 1 9 (nI 30), ?_, ⟨fun j h1 h2 h3 => ?_, ?_⟩, ?_⟩
    · simp (disch := omega) only [hW, r9, r6, h30, e_bnd, e_bndV, e_lt, e_grd, e_lit, e_le1, e_le2, e_lt1, e_lt2, e_eq1, e_eq2, e_inb, e_ix, nI_add, pk_mul, e_sub, e_b0, e_b1, e_bz, e_bz0, e_bz1, Bool.and_true, Bool.true_and, ↓reduceIte, not_true_eq_false, not_false_eq_true, decide_false, decide_true, and_self, and_true, true_and, and_false, false_and, Bool.false_eq_true, Bool.not_false, Bool.not_true]
      rw [show (nI 1 : Int32) = nI 1 from rfl, hs]
      unfold f_X12_write_67
      simp (disch := omega) only [e_hit, e_ne2, sh_at, r6, e_bnd, e_bndV, e_lt, e_grd, e_lit, e_le1, e_le2, e_lt1, e_lt2, e_eq1, e_eq2, e_inb, e_ix, nI_add, pk_mul, e_sub, e_b0, e_b1, e_bz, e_bz0, e_bz1, Bool.and_true, Bool.true_and, ↓reduceIte, not_true_eq_false, not_false_eq_true, decide_false, decide_true, and_self, and_true, true_and, and_false, false_and, Bool.false_eq_true, Bool.not_false, Bool.not_true, show ∀ c, ((c * 8 + h) * 8 + w) = c * 64 + h * 8 + w from fun c => by omega]
    · unfold wr
      rw [if_neg hl]
      by_cases q : j = 9
      · subst q; rw [e_hit, if_neg (by decide), if_neg (by decide), h30]
      · rw [e_ne2 q]
        by_cases q2 : j = 1985
        · subst q2; rw [e_hit, if_pos rfl]
        · rw [e_ne2 q2, e_ne2 q, sh_rd, if_neg q2]
          by_cases q3 : 1956 ≤ j ∧ j < 1985
          · rw [if_pos (by omega), if_pos q3]; exact hM.1 _ (by omega) (by omega) (by omega)
          · rw [if_neg (by omega), if_neg q3]; exact hM.1 _ h1 h2 h3
    · unfold wr
      rw [if_neg hl]
      rw [e_ne2 (by decide), e_ne2 (by decide), e_ne2 (by decide), sh_at (by decide), if_neg (by decide), if_neg (by decide)]
      exact hM.2
    · refine ((((?_ : fr aB σ (sh 1 1956 1 29 σ)).trans (fr.w ⟨rfl, Or.inl rfl⟩)).trans (fr.w ⟨rfl, Or.inr (by omega)⟩)).trans (fr.w ⟨rfl, Or.inl rfl⟩))
      exact ⟨fun a j hn => by rw [sh_rd, if_neg (fun q => hn ⟨q.1, Or.inr (by omega)⟩)], rfl⟩
theorem m_write0 {σ : Sg} (hW : σ.1 0 24 = nI 0) (h w : Int32) : f_X12_write h w σ = some σ := by
  unfold f_X12_write
  exact if_pos hW
