/-! STEPS taken back, both sides -/
theorem MA.congr {σ : Sg} {A B : Nat → Nat} (hM : MA σ A) (h : ∀ j, j < 1986 → B j = A j) : MA σ B :=
  ⟨fun j a b c => by rw [h j a]; exact hM.1 j a b c, by rw [h 2 (by decide)]; exact hM.2⟩
def rowOK (r : Nat → Nat) : Prop := r 1 ≤ 9999 ∧ r 2 ≤ 9 ∧ r 3 < 30497 ∧ r 4 ≤ 30 ∧ (∀ h, h < 8 → r (5 + 3 * h) ≤ 4 ∧ r (5 + 3 * h + 1) ≤ 9 ∧ r (5 + 3 * h + 2) ≤ 9999) ∧ ∀ k, k < 30 → r (29 + k) < 1000000
def link (r s A : Nat → Nat) : Prop := r 0 ≤ s 0 ∧ ∀ h, r 0 ≤ h → h < s 0 → s (5 + 3 * h) = 0 ∧ s (5 + 3 * h + 1) = 0 ∧ s (5 + 3 * h + 2) = A (10 + 5 * h + 4)
def nxr (A : Nat → Nat) (i k : Nat) : Nat := if i + 1 < A 3 then A (186 + 59 * (i + 1) + k) else rowA A k
def BS (A : Nat → Nat) : Prop := A 3 ≤ 30 ∧ ∀ i, i < A 3 → A (186 + 59 * i) ≤ A 0 ∧ rowOK (fun k => A (186 + 59 * i + k)) ∧ link (fun k => A (186 + 59 * i + k)) (nxr A i) A
theorem rowA_0 (A : Nat → Nat) : rowA A 0 = A 0 := rfl
theorem rowA_h (A : Nat → Nat) {h w : Nat} (hh : h < 8) (hw : w < 3) : rowA A (5 + 3 * h + w) = A (10 + 5 * h + w) := by
  unfold rowA
  rw [if_neg (by omega), if_neg (by omega), if_pos (by omega)]
  congr 1
  omega
theorem rowA_k (A : Nat → Nat) {k : Nat} : rowA A (29 + k) = A (1956 + k) := by
  unfold rowA
  rw [if_neg (by omega), if_neg (by omega), if_neg (by omega)]
  congr 1
  omega
theorem imin8 {c : Nat} (h : c ≤ 8) : imax (nI 0) (imin (nI c) (nI 8)) = nI c := by
  rw [imin_I (by omega) (by decide), imax_I (by decide) (by omega)]
  congr 1
  omega
theorem x_undo {σ : Sg} {p t : Nat} {A : Nat → Nat} (hX : XT σ t A) (hN : XN σ t A) (hP : XP σ p A) (hB : BT A) (hS : BS A) (hp : t + 5 < p) (h3 : 0 < A 3) : ∃ σ', f_X4_takeBack p t σ = some (nI 1, σ') ∧ XT σ' t (undoA A) ∧ XN σ' t (undoA A) ∧ XP σ' p (undoA A) ∧ fr (fun a j => (t ≤ a ∧ a ≤ t + 5) ∨ (a = p ∧ j = 2)) σ σ' := by
  obtain ⟨f, hf, p1, p2, rows⟩ := hP
  obtain ⟨s3, srow⟩ := hS
  obtain ⟨n, hn⟩ : ∃ n, A 3 = n + 1 := ⟨A 3 - 1, by omega⟩
  obtain ⟨r1, r2, r3⟩ := rows n (by omega)
  obtain ⟨sc, sok, slink⟩ := srow n (by omega)
  have hc8 := hB.1
  obtain ⟨x, hx⟩ : ∃ x, x = 186 + 59 * n := ⟨_, rfl⟩
  obtain ⟨b, hb⟩ : ∃ b, b = (f + n) % 30 * 59 := ⟨_, rfl⟩
  have hbl : b + 59 ≤ 1770 := by omega
  rw [← hb, ← hx] at r1 r2 r3
  rw [← hx] at sc
  have hx3 : 186 + 59 * (A 3 - 1) = x := by omega
  have z0 := r1 0 (by decide)
  have z1 := r1 1 (by decide)
  have z2 := r1 2 (by decide)
  have z3 := r1 3 (by decide)
  have z4 := r1 4 (by decide)
  simp only [Nat.add_zero] at z0
  obtain ⟨h0, h5, h6, h7, hw, hk, hfi, hh⟩ := hX
  obtain ⟨n9, nn⟩ := hN
  have hnx : nxr A n = rowA A := by
    funext k
    unfold nxr
    rw [if_neg (by omega)]
  rw [hnx, ← hx] at slink
  have lk : ∀ h, A x ≤ h → h < A 0 → A (10 + 5 * h) = 0 ∧ A (10 + 5 * h + 1) = 0 ∧ A (10 + 5 * h + 2) = A (10 + 5 * h + 4) := by
    intro h ha hb2
    have q := slink.2 h ha hb2
    have e0 := rowA_h A (h := h) (w := 0) (by omega) (by decide)
    simp only [Nat.add_zero] at e0
    rw [e0, rowA_h A (by omega) (by decide), rowA_h A (by omega) (by decide)] at q
    exact q
  refine ⟨wC (wC (wC (wC (wI (wI (wI (wI (wI σ p 2 (nI n)) t 5 (nI (A (x + 1)))) t 6 (nI (A (x + 2)))) t 7 (nI (A (x + 3)))) t 9 (nI (A (x + 4)))) (p + 1) (b + 5) (t + 2) 0 (A x)) (p + 1) (b + 5 + 8) (t + 3) 0 (A x)) (p + 1) (b + 5 + 16) (t + 4) 0 (A x)) (p + 1) (b + 5 + 24) (t + 5) 0 30, ?_, ⟨?_, ?_, ?_, ?_, ?_, ?_, ?_, ?_⟩, ⟨?_, ?_⟩, ⟨f, hf, ?_, ?_, ?_⟩, ?_⟩
  · unfold f_X4_takeBack
    have e0 : (1770 : Int32) - 59 = nI 1711 := by decide
    have hres : f_X8_restore t (p + 1) (nI b) (wI σ p 2 (nI n)) = some (wC (wC (wC (wC (wI (wI (wI (wI (wI σ p 2 (nI n)) t 5 (nI (A (x + 1)))) t 6 (nI (A (x + 2)))) t 7 (nI (A (x + 3)))) t 9 (nI (A (x + 4)))) (p + 1) (b + 5) (t + 2) 0 (A x)) (p + 1) (b + 5 + 8) (t + 3) 0 (A x)) (p + 1) (b + 5 + 16) (t + 4) 0 (A x)) (p + 1) (b + 5 + 24) (t + 5) 0 30) := by
      unfold f_X8_restore
      rw [e0]
      simp (disch := omega) only [e_bnd, e_bndV, e_lt, e_grd, e_lit, e_le1, e_le2, e_lt1, e_lt2, e_eq1, e_eq2, e_inb, e_ix, nI_add, pk_mul, e_sub, e_b0, e_b1, e_bz, e_bz0, e_bz1, Bool.and_true, Bool.true_and, ↓reduceIte, not_true_eq_false, not_false_eq_true, decide_false, decide_true, and_self, and_true, true_and, and_false, false_and, Bool.false_eq_true, Bool.not_false, Bool.not_true, e_ne1, z0, z1, z2, z3, z4, imin8, e_cp]
    simp (disch := omega) only [e_bnd, e_bndV, e_lt, e_grd, e_lit, e_le1, e_le2, e_lt1, e_lt2, e_eq1, e_eq2, e_inb, e_ix, nI_add, pk_mul, e_sub, e_b0, e_b1, e_bz, e_bz0, e_bz1, Bool.and_true, Bool.true_and, ↓reduceIte, not_true_eq_false, not_false_eq_true, decide_false, decide_true, and_self, and_true, true_and, and_false, false_and, Bool.false_eq_true, Bool.not_false, Bool.not_true, p1, p2, hn, e_ne2, e_hit, rem_I, dz_I, Nat.add_sub_cancel, ← hb, hres]
  · unfold undoA
    simp (disch := omega) only [wC_o, e_ne1, e_ne2]
    rw [if_neg (by decide), if_neg (by decide), if_neg (by omega), if_neg (by omega)]; exact h0
  · unfold undoA
    rw [hx3]
    simp (disch := omega) only [wC_o, e_ne1, e_ne2, e_hit]
    rw [if_neg (by decide), if_pos (by decide)]
  · unfold undoA
    rw [hx3]
    simp (disch := omega) only [wC_o, e_ne1, e_ne2, e_hit]
    rw [if_neg (by decide), if_pos (by decide)]
  · unfold undoA
    rw [hx3]
    simp (disch := omega) only [wC_o, e_ne1, e_ne2, e_hit]
    rw [if_neg (by decide), if_pos (by decide)]
  · intro h h8
    unfold undoA
    simp (disch := omega) only [wC_o, e_ne1, e_ne2, e_hit]
    rw [if_neg (by omega), if_neg (by omega), if_neg (by omega), if_neg (by omega)]; exact hw h h8
  · intro h h8
    unfold undoA
    rw [hx3, if_neg (by omega), if_neg (by omega), show (10 + 5 * h + 2 - 10) / 5 = h by omega, show (10 + 5 * h + 2 - 10) % 5 = 2 by omega]
    by_cases hl : h < A x
    · rw [wC_o (by omega), wC_o (by omega), wC_o (by omega), wC_in (by omega), if_pos (by omega), if_pos hl, show b + 5 + (h - 0) = b + 5 + h by omega]
      simp (disch := omega) only [e_ne1]
      exact (r2 h h8).1
    · rw [wC_o (by omega), wC_o (by omega), wC_o (by omega), wC_o (by omega)]
      simp (disch := omega) only [e_ne1]
      rw [hk h h8]
      by_cases hc : h < A 0
      · rw [if_pos (by omega), if_neg hl, if_pos trivial, (lk h (by omega) hc).2.2]
      · rw [if_neg (by omega), if_neg (by omega)]
  · intro h h8
    unfold undoA
    rw [hx3, if_neg (by omega), if_neg (by omega), show (10 + 5 * h - 10) / 5 = h by omega, show (10 + 5 * h - 10) % 5 = 0 by omega]
    by_cases hl : h < A x
    · rw [wC_o (by omega), wC_o (by omega), wC_in (by omega), if_pos (by omega), if_pos hl, show b + 5 + 8 + (h - 0) = b + 5 + 8 + h by omega]
      simp (disch := omega) only [e_ne1, wC_o]
      exact (r2 h h8).2.1
    · rw [wC_o (by omega), wC_o (by omega), wC_o (by omega), wC_o (by omega)]
      simp (disch := omega) only [e_ne1]
      rw [hfi h h8]
      by_cases hc : h < A 0
      · rw [if_pos (by omega), if_neg hl, if_neg (by decide), (lk h (by omega) hc).1]
      · rw [if_neg (by omega), if_neg (by omega)]
  · intro h h8
    unfold undoA
    rw [hx3, if_neg (by omega), if_neg (by omega), show (10 + 5 * h + 1 - 10) / 5 = h by omega, show (10 + 5 * h + 1 - 10) % 5 = 1 by omega]
    by_cases hl : h < A x
    · rw [wC_o (by omega), wC_in (by omega), if_pos (by omega), if_pos hl, show b + 5 + 16 + (h - 0) = b + 5 + 16 + h by omega]
      simp (disch := omega) only [e_ne1, wC_o]
      exact (r2 h h8).2.2
    · rw [wC_o (by omega), wC_o (by omega), wC_o (by omega), wC_o (by omega)]
      simp (disch := omega) only [e_ne1]
      rw [hh h h8]
      by_cases hc : h < A 0
      · rw [if_pos (by omega), if_neg hl, if_neg (by decide), (lk h (by omega) hc).2.1]
      · rw [if_neg (by omega), if_neg (by omega)]
  · unfold undoA
    rw [hx3]
    simp (disch := omega) only [wC_o, e_ne1, e_ne2, e_hit]
    rw [if_neg (by decide), if_pos (by decide)]
  · intro i hi
    unfold undoA
    rw [hx3, wC_in (by omega), if_neg (by omega), if_neg (by omega), if_neg (by omega), if_pos (by omega), show b + 5 + 24 + (i - 0) = b + 5 + 24 + i by omega, show 1956 + i - 1956 = i by omega]
    simp (disch := omega) only [e_ne1, wC_o]
    exact r3 i hi
  · simp (disch := omega) only [wC_o, e_ne1, e_ne2]
    exact p1
  · simp (disch := omega) only [wC_o, e_ne1, e_hit]
    unfold undoA
    rw [if_pos rfl, hn]
    rfl
  · intro i hi
    have hi2 : i < n := by
      have e : undoA A 3 = A 3 - 1 := by
        unfold undoA
        rw [if_pos rfl]
      omega
    have hu : ∀ j, 186 ≤ j → j < 1956 → undoA A j = A j := fun j ha hb2 => by
      unfold undoA
      rw [if_neg (by omega), if_neg (by omega), if_neg (by omega), if_neg (by omega)]
    obtain ⟨q1, q2, q3⟩ := rows i (by omega)
    refine ⟨fun k hk2 => ?_, fun h h8 => ⟨?_, ?_, ?_⟩, fun k hk2 => ?_⟩
    · rw [hu _ (by omega) (by omega)]
      simp (disch := omega) only [e_ne1, wC_o]
      exact q1 k hk2
    · rw [hu _ (by omega) (by omega)]
      simp (disch := omega) only [e_ne1, wC_o]
      exact (q2 h h8).1
    · rw [hu _ (by omega) (by omega)]
      simp (disch := omega) only [e_ne1, wC_o]
      exact (q2 h h8).2.1
    · rw [hu _ (by omega) (by omega)]
      simp (disch := omega) only [e_ne1, wC_o]
      exact (q2 h h8).2.2
    · rw [hu _ (by omega) (by omega)]
      simp (disch := omega) only [e_ne1, wC_o]
      exact q3 k hk2
  · refine ⟨fun a j hn2 => ?_, rfl⟩
    rw [wC_o (by omega), wC_o (by omega), wC_o (by omega), wC_o (by omega)]
    repeat rw [wI_rd, if_neg (by omega)]
