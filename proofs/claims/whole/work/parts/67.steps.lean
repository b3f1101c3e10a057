/-! keeping a STEP, and taking it back -/
/-- the row of a STEP: what it keeps of the town -/
def rowA (A : Nat → Nat) (k : Nat) : Nat := if k = 0 then A 0 else if k < 5 then A (5 + k) else if k < 29 then A (10 + 5 * ((k - 5) / 3) + (k - 5) % 3) else A (1956 + (k - 29))
def rolA (A : Nat → Nat) : Nat → Nat := fun i => if i = 3 then 29 else if 186 ≤ i ∧ i < 1897 then A (i + 59) else A i
def putA (A : Nat → Nat) : Nat → Nat := fun i => if i = 3 then A 3 + 1 else if 186 + 59 * A 3 ≤ i ∧ i < 186 + 59 * A 3 + 59 then rowA A (i - (186 + 59 * A 3)) else A i
def keepA (A : Nat → Nat) : Nat → Nat := if A 3 = 30 then putA (rolA A) else putA A
def undoA (A : Nat → Nat) : Nat → Nat := fun i =>
  if i = 3 then A 3 - 1 else if 6 ≤ i ∧ i < 10 then A (186 + 59 * (A 3 - 1) + 1 + (i - 6))
  else if 10 ≤ i ∧ i < 50 ∧ (i - 10) / 5 < A 0 ∧ (i - 10) % 5 < 3 then (if (i - 10) / 5 < A (186 + 59 * (A 3 - 1)) then A (186 + 59 * (A 3 - 1) + 5 + 3 * ((i - 10) / 5) + (i - 10) % 5) else if (i - 10) % 5 = 2 then A (i + 2) else 0)
  else if 1956 ≤ i ∧ i < 1986 then A (186 + 59 * (A 3 - 1) + 29 + (i - 1956)) else A i
/-- the ring of STEPS of the class at p -/
def XP (σ : Sg) (p : Nat) (A : Nat → Nat) : Prop := ∃ f, f < 30 ∧ σ.1 p 1 = nI f ∧ σ.1 p 2 = nI (A 3) ∧ ∀ i, i < A 3 → (∀ k, k < 5 → σ.1 (p + 1) ((f + i) % 30 * 59 + k) = nI (A (186 + 59 * i + k))) ∧ (∀ h, h < 8 → σ.1 (p + 1) ((f + i) % 30 * 59 + 5 + h) = nI (A (186 + 59 * i + 5 + 3 * h + 2)) ∧ σ.1 (p + 1) ((f + i) % 30 * 59 + 5 + 8 + h) = nI (A (186 + 59 * i + 5 + 3 * h)) ∧ σ.1 (p + 1) ((f + i) % 30 * 59 + 5 + 16 + h) = nI (A (186 + 59 * i + 5 + 3 * h + 1))) ∧ ∀ k, k < 30 → σ.1 (p + 1) ((f + i) % 30 * 59 + 5 + 24 + k) = nI (A (186 + 59 * i + 29 + k))
theorem e_cp {s d n n0 n1 : Nat} (h : s + n ≤ n0 ∧ d + n ≤ n1 ∧ n0 < 10000 ∧ n1 < 10000) : cpg (nI s) (nI d) (nI n) n0 n1 = true := by
  unfold cpg
  rw [decide_eq_false (nI_pos (by omega)), decide_eq_false (nI_pos (by omega)), decide_eq_false (nI_pos (by omega)), e_ix (by omega), e_ix (by omega), e_ix (by omega), decide_eq_true h.1, decide_eq_true h.2.1]
  rfl
/-- the row that store writes -/
def rowX (σ : Sg) (t k : Nat) : Int32 := if k = 0 then σ.1 t 0 else if k = 1 then σ.1 t 5 else if k = 2 then σ.1 t 6 else if k = 3 then σ.1 t 7 else if k = 4 then σ.1 t 9 else if k < 13 then σ.1 (t + 2) (k - 5) else if k < 21 then σ.1 (t + 3) (k - 13) else if k < 29 then σ.1 (t + 4) (k - 21) else σ.1 (t + 5) (k - 29)
theorem x_store {σ : Sg} {t q b : Nat} (hb : b + 59 ≤ 1770) (hq : t + 5 < q) : ∃ σ', f_X8_store t q (nI b) σ = some σ' ∧ (∀ j, j < 59 → σ'.1 q (b + j) = rowX σ t j) ∧ fr (fun a j => a = q ∧ b ≤ j ∧ j < b + 59) σ σ' := by
  refine ⟨wC (wC (wC (wC (wI (wI (wI (wI (wI σ q b (σ.1 t 0)) q (b + 1) (σ.1 t 5)) q (b + 2) (σ.1 t 6)) q (b + 3) (σ.1 t 7)) q (b + 4) (σ.1 t 9)) (t + 2) 0 q (b + 5) 8) (t + 3) 0 q (b + 5 + 8) 8) (t + 4) 0 q (b + 5 + 16) 8) (t + 5) 0 q (b + 5 + 24) 30, ?_, fun j hj => ?_, ?_⟩
  · unfold f_X8_store
    have e0 : (1770 : Int32) - 59 = nI 1711 := by decide
    rw [e0]
    simp (disch := omega) only [e_bnd, e_bndV, e_lt, e_grd, e_lit, e_le1, e_le2, e_lt1, e_lt2, e_eq1, e_eq2, e_inb, e_ix, nI_add, pk_mul, e_sub, e_b0, e_b1, e_bz, e_bz0, e_bz1, Bool.and_true, Bool.true_and, ↓reduceIte, not_true_eq_false, not_false_eq_true, decide_false, decide_true, and_self, and_true, true_and, and_false, false_and, Bool.false_eq_true, Bool.not_false, Bool.not_true, e_ne1, e_cp]
  · unfold rowX
    by_cases h0 : j = 0
    · subst h0
      simp (disch := omega) only [wC_o, e_ne2, e_hit, ↓reduceIte, Nat.add_zero]
    by_cases h1 : j = 1
    · subst h1
      simp (disch := omega) only [wC_o, e_ne2, e_hit, ↓reduceIte, h0]
    by_cases h2 : j = 2
    · subst h2
      simp (disch := omega) only [wC_o, e_ne2, e_hit, ↓reduceIte, h0, h1]
    by_cases h3 : j = 3
    · subst h3
      simp (disch := omega) only [wC_o, e_ne2, e_hit, ↓reduceIte, h0, h1, h2]
    by_cases h4 : j = 4
    · subst h4
      simp (disch := omega) only [wC_o, e_ne2, e_hit, ↓reduceIte, h0, h1, h2, h3]
    rw [if_neg h0, if_neg h1, if_neg h2, if_neg h3, if_neg h4]
    by_cases h5 : j < 13
    · rw [if_pos h5, wC_o (by omega), wC_o (by omega), wC_o (by omega), wC_in (by omega)]
      simp (disch := omega) only [e_ne1, show 0 + (b + j - (b + 5)) = j - 5 by omega]
    by_cases h6 : j < 21
    · rw [if_neg h5, if_pos h6, wC_o (by omega), wC_o (by omega), wC_in (by omega)]
      simp (disch := omega) only [wC_o, e_ne1, show 0 + (b + j - (b + 5 + 8)) = j - 13 by omega]
    by_cases h7 : j < 29
    · rw [if_neg h5, if_neg h6, if_pos h7, wC_o (by omega), wC_in (by omega)]
      simp (disch := omega) only [wC_o, e_ne1, show 0 + (b + j - (b + 5 + 16)) = j - 21 by omega]
    rw [if_neg h5, if_neg h6, if_neg h7, wC_in (by omega)]
    simp (disch := omega) only [wC_o, e_ne1, show 0 + (b + j - (b + 5 + 24)) = j - 29 by omega]
  · refine ⟨fun a j hn => ?_, rfl⟩
    simp (disch := omega) only [wC_o, wI_rd]
    repeat rw [if_neg (by omega)]
