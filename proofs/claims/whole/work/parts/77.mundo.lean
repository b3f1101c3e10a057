/-! the reference takes a STEP back -/
def uhA (A : Nat → Nat) (x h k : Nat) : Nat → Nat := fun i => if 10 ≤ i ∧ i < 10 + 5 * h + k ∧ (i - 10) % 5 < 3 then (if (i - 10) / 5 < A x then A (x + 5 + 3 * ((i - 10) / 5) + (i - 10) % 5) else if (i - 10) % 5 = 2 then A (i + 2) else 0) else A i
abbrev zU : Nat → Nat → Prop := fun a j => a = 1 ∧ (j = 3 ∨ (6 ≤ j ∧ j < 50) ∨ 1956 ≤ j)
def puA (σ : Sg) (h : Nat) (f : Nat → Nat) : Nat → Sg
  | 0 => σ
  | k + 1 => wI (puA σ h f k) 1 (10 + 5 * h + k) (nI (f k))
theorem m_undo96 {σ : Sg} {A : Nat → Nat} {x h : Nat} (hM : MA σ (uhA A x h 0)) (hx : 186 ≤ x ∧ x + 59 ≤ 1956) (hh : h < 8) (hc : h < A x) (hA : A x ≤ 8) : ∃ σ', (∀ rec : Int32 → Int32 → Sg → Option (Int32 × Sg), f_X12_undo_96 rec FU (nI x) (nI h) (nI 0) σ = rec (nI x) (nI (h + 1)) σ') ∧ MA σ' (uhA A x (h + 1) 0) ∧ fr zU σ σ' := by
  have hpu : ∀ k, k ≤ 3 → MA (puA σ h (fun k => A (x + 5 + 3 * h + k)) k) (uhA A x h k) ∧ fr zU σ (puA σ h (fun k => A (x + 5 + 3 * h + k)) k) := by
    intro k
    induction k with
    | zero => intro _; exact ⟨hM, fr.rfl⟩
    | succ k ih =>
      intro hk
      obtain ⟨Hm, hf⟩ := ih (by omega)
      refine ⟨(Hm.put (j := 10 + 5 * h + k) (by omega) (A (x + 5 + 3 * h + k))).congr (fun j hj => ?_), hf.trans (fr.w (by omega))⟩
      by_cases q : j = 10 + 5 * h + k
      · subst q
        rw [up_hit]
        unfold uhA
        rw [if_pos (by omega), if_pos (by omega), show (10 + 5 * h + k - 10) / 5 = h by omega, show (10 + 5 * h + k - 10) % 5 = k by omega]
      · rw [up_ne q]
        unfold uhA
        by_cases q2 : 10 ≤ j ∧ j < 10 + 5 * h + k ∧ (j - 10) % 5 < 3
        · rw [if_pos (by omega), if_pos q2]
        · rw [if_neg (by omega), if_neg q2]
  obtain ⟨Hm, hf⟩ := hpu 3 (by decide)
  refine ⟨puA σ h (fun k => A (x + 5 + 3 * h + k)) 3, fun rec => ?_, Hm.congr (fun j hj => ?_), hf⟩
  · refine lp (fun fu (q : Int32 × Sg) => f_X12_undo_96 rec fu (nI x) (nI h) q.1 q.2) (fun k => (nI k, puA σ h (fun k => A (x + 5 + 3 * h + k)) k)) 3 (fun k hk fu => ?_) (fun fu => ?_) FU (by unfold FU; omega)
    · obtain ⟨Hk, _⟩ := hpu k (by omega)
      have rx := Hk.1 x (by omega) (by omega) (by omega)
      have ry := Hk.1 (x + 5 + 3 * h + k) (by omega) (by omega) (by omega)
      have ux : uhA A x h k x = A x := if_neg (by omega)
      have uy : uhA A x h k (x + 5 + 3 * h + k) = A (x + 5 + 3 * h + k) := if_neg (by omega)
      rw [ux] at rx
      rw [uy] at ry
      dsimp only
      rw [f_X12_undo_96]
      simp (disch := omega) only [e_bnd, e_bndV, e_lt, e_grd, e_lit, e_le1, e_le2, e_lt1, e_lt2, e_eq1, e_eq2, e_inb, e_ix, nI_add, pk_mul, e_sub, e_b0, e_b1, e_bz, e_bz0, e_bz1, Bool.and_true, Bool.true_and, ↓reduceIte, not_true_eq_false, not_false_eq_true, decide_false, decide_true, and_self, and_true, true_and, and_false, false_and, Bool.false_eq_true, Bool.not_false, Bool.not_true, rx, ry, m_put]
      rfl
    · dsimp only
      rw [f_X12_undo_96]
      simp (disch := omega) only [e_bnd, e_bndV, e_lt, e_grd, e_lit, e_le1, e_le2, e_lt1, e_lt2, e_eq1, e_eq2, e_inb, e_ix, nI_add, pk_mul, e_sub, e_b0, e_b1, e_bz, e_bz0, e_bz1, Bool.and_true, Bool.true_and, ↓reduceIte, not_true_eq_false, not_false_eq_true, decide_false, decide_true, and_self, and_true, true_and, and_false, false_and, Bool.false_eq_true, Bool.not_false, Bool.not_true, f_X12_undo_137]
  · unfold uhA
    by_cases q2 : 10 ≤ j ∧ j < 10 + 5 * h + 3 ∧ (j - 10) % 5 < 3
    · rw [if_pos (by omega), if_pos q2]
    · rw [if_neg (by omega), if_neg q2]
theorem m_begin {σ : Sg} {A : Nat → Nat} (hM : MA σ A) {h : Nat} (hh : h < 8) : ∃ σ', f_X12_begin (nI h) σ = some σ' ∧ MA σ' (up (up (up A (10 + 5 * h) 0) (10 + 5 * h + 1) 0) (10 + 5 * h + 2) (A (10 + 5 * h + 4))) ∧ fr zU σ σ' := by
  have M1 := hM.put (j := 10 + 5 * h) (by omega) 0
  have M2 := M1.put (j := 10 + 5 * h + 1) (by omega) 0
  have M3 := M2.put (j := 10 + 5 * h + 2) (by omega) (A (10 + 5 * h + 4))
  refine ⟨_, ?_, M3, ((fr.w (by omega)).trans (fr.w (by omega))).trans (fr.w (by omega))⟩
  unfold f_X12_begin
  simp (disch := omega) only [e_bnd, e_bndV, e_lt, e_grd, e_lit, e_le1, e_le2, e_lt1, e_lt2, e_eq1, e_eq2, e_inb, e_ix, nI_add, pk_mul, e_sub, e_b0, e_b1, e_bz, e_bz0, e_bz1, Bool.and_true, Bool.true_and, ↓reduceIte, not_true_eq_false, not_false_eq_true, decide_false, decide_true, and_self, and_true, true_and, and_false, false_and, Bool.false_eq_true, Bool.not_false, Bool.not_true, m_put, Nat.add_zero, m_get M2, up_ne]
theorem m_undo69 {σ : Sg} {A : Nat → Nat} {x : Nat} (hM : MA σ A) (hx : 186 ≤ x ∧ x + 59 ≤ 1956) (hc : A 0 ≤ 8) (hA : A x ≤ 8) : ∃ σ', f_X12_undo_69 FU (nI x) (nI 0) σ = f_X12_undo_145 FU (nI x) (nI 0) σ' ∧ MA σ' (uhA A x (A 0) 0) ∧ fr zU σ σ' := by
  refine lpI (fun fu (q : Int32 × Sg) => f_X12_undo_69 fu (nI x) q.1 q.2)
    (fun h q => q.1 = nI h ∧ MA q.2 (uhA A x h 0) ∧ fr zU σ q.2) (A 0) (fun y => ∃ σ', y = f_X12_undo_145 FU (nI x) (nI 0) σ' ∧ MA σ' (uhA A x (A 0) 0) ∧ fr zU σ σ')
    (fun h hh q hq => ?_) (fun q hq fu => ?_) FU (by unfold FU; omega) (nI 0, σ) ⟨rfl, hM.congr (fun j hj => if_neg (by omega)), fr.rfl⟩
  · obtain ⟨v, s⟩ := q
    obtain ⟨rfl, Hm, hf⟩ := hq
    dsimp only at Hm hf
    have r0 := Hm.1 0 (by decide) (by decide) (by decide)
    have rx := Hm.1 x (by omega) (by omega) (by omega)
    have u0 : uhA A x h 0 0 = A 0 := if_neg (by omega)
    have ux : uhA A x h 0 x = A x := if_neg (by omega)
    rw [u0] at r0
    rw [ux] at rx
    by_cases hl : h < A x
    · obtain ⟨s', k1, k2, k3⟩ := m_undo96 Hm hx (by omega) hl hA
      refine ⟨(nI (h + 1), s'), ⟨rfl, k2, hf.trans k3⟩, fun fu => ?_⟩
      dsimp only
      rw [f_X12_undo_69]
      simp (disch := omega) only [e_bnd, e_bndV, e_lt, e_grd, e_lit, e_le1, e_le2, e_lt1, e_lt2, e_eq1, e_eq2, e_inb, e_ix, nI_add, pk_mul, e_sub, e_b0, e_b1, e_bz, e_bz0, e_bz1, Bool.and_true, Bool.true_and, ↓reduceIte, not_true_eq_false, not_false_eq_true, decide_false, decide_true, and_self, and_true, true_and, and_false, false_and, Bool.false_eq_true, Bool.not_false, Bool.not_true, r0, rx, f_X12_undo_94, k1]
    · obtain ⟨s', k1, k2, k3⟩ := m_begin Hm (h := h) (by omega)
      have rx2 := k2.1 x (by omega) (by omega) (by omega)
      rw [up_ne (by omega), up_ne (by omega), up_ne (by omega), ux] at rx2
      refine ⟨(nI (h + 1), s'), ⟨rfl, k2.congr (fun j hj => ?_), hf.trans k3⟩, fun fu => ?_⟩
      · unfold up uhA
        by_cases j2 : j = 10 + 5 * h + 2
        · rw [if_pos j2, if_pos (by omega), if_neg (by omega), if_pos (by omega), if_neg (by omega), show j + 2 = 10 + 5 * h + 4 by omega]
        rw [if_neg j2]
        by_cases j1 : j = 10 + 5 * h + 1
        · rw [if_pos j1, if_pos (by omega), if_neg (by omega), if_neg (by omega)]
        rw [if_neg j1]
        by_cases j0 : j = 10 + 5 * h
        · rw [if_pos j0, if_pos (by omega), if_neg (by omega), if_neg (by omega)]
        rw [if_neg j0]
        by_cases q2 : 10 ≤ j ∧ j < 10 + 5 * h + 0 ∧ (j - 10) % 5 < 3
        · rw [if_pos (by omega), if_pos q2]
        · rw [if_neg (by omega), if_neg q2]
      · dsimp only
        rw [f_X12_undo_69]
        have h96 : ∀ rec, f_X12_undo_96 rec FU (nI x) (nI h) (nI 0) s' = rec (nI x) (nI (h + 1)) s' := by
          intro rec
          show f_X12_undo_96 rec (3999 + 1) (nI x) (nI h) (nI 0) s' = _
          rw [f_X12_undo_96]
          simp (disch := omega) only [e_bnd, e_bndV, e_lt, e_grd, e_lit, e_le1, e_le2, e_lt1, e_lt2, e_eq1, e_eq2, e_inb, e_ix, nI_add, pk_mul, e_sub, e_b0, e_b1, e_bz, e_bz0, e_bz1, Bool.and_true, Bool.true_and, ↓reduceIte, not_true_eq_false, not_false_eq_true, decide_false, decide_true, and_self, and_true, true_and, and_false, false_and, Bool.false_eq_true, Bool.not_false, Bool.not_true, rx2, f_X12_undo_137]
        simp (disch := omega) only [e_bnd, e_bndV, e_lt, e_grd, e_lit, e_le1, e_le2, e_lt1, e_lt2, e_eq1, e_eq2, e_inb, e_ix, nI_add, pk_mul, e_sub, e_b0, e_b1, e_bz, e_bz0, e_bz1, Bool.and_true, Bool.true_and, ↓reduceIte, not_true_eq_false, not_false_eq_true, decide_false, decide_true, and_self, and_true, true_and, and_false, false_and, Bool.false_eq_true, Bool.not_false, Bool.not_true, r0, rx, k1, f_X12_undo_94, h96]
  · obtain ⟨v, s⟩ := q
    obtain ⟨rfl, Hm, hf⟩ := hq
    dsimp only at Hm hf
    have r0 := Hm.1 0 (by decide) (by decide) (by decide)
    have u0 : uhA A x (A 0) 0 0 = A 0 := if_neg (by omega)
    rw [u0] at r0
    refine ⟨s, ?_, Hm, hf⟩
    dsimp only
    rw [f_X12_undo_69]
    simp (disch := omega) only [e_bnd, e_bndV, e_lt, e_grd, e_lit, e_le1, e_le2, e_lt1, e_lt2, e_eq1, e_eq2, e_inb, e_ix, nI_add, pk_mul, e_sub, e_b0, e_b1, e_bz, e_bz0, e_bz1, Bool.and_true, Bool.true_and, ↓reduceIte, not_true_eq_false, not_false_eq_true, decide_false, decide_true, and_self, and_true, true_and, and_false, false_and, Bool.false_eq_true, Bool.not_false, Bool.not_true, r0]
def ckA (A : Nat → Nat) (x n : Nat) : Nat → Nat := fun i => if 6 ≤ i ∧ i < 10 then A (x + 1 + (i - 6)) else up A 3 n i
theorem ck_in {A : Nat → Nat} {x n i : Nat} (h : 6 ≤ i ∧ i < 10) : ckA A x n i = A (x + 1 + (i - 6)) := if_pos h
theorem ck_3 {A : Nat → Nat} {x n : Nat} : ckA A x n 3 = n := by
  unfold ckA
  rw [if_neg (by omega), up_hit]
theorem ck_o {A : Nat → Nat} {x n i : Nat} (h : ¬ (6 ≤ i ∧ i < 10)) (h3 : i ≠ 3) : ckA A x n i = A i := by
  unfold ckA
  rw [if_neg h, up_ne h3]
theorem uh_in {A : Nat → Nat} {x h k i : Nat} (q : 10 ≤ i ∧ i < 10 + 5 * h + k ∧ (i - 10) % 5 < 3) : uhA A x h k i = (if (i - 10) / 5 < A x then A (x + 5 + 3 * ((i - 10) / 5) + (i - 10) % 5) else if (i - 10) % 5 = 2 then A (i + 2) else 0) := if_pos q
theorem uh_o {A : Nat → Nat} {x h k i : Nat} (q : ¬ (10 ≤ i ∧ i < 10 + 5 * h + k ∧ (i - 10) % 5 < 3)) : uhA A x h k i = A i := if_neg q
theorem m_undo {σ : Sg} {A : Nat → Nat} (hM : MA σ A) (hc : A 0 ≤ 8) (hS : BS A) (h3 : 0 < A 3) : ∃ σ', f_X12_undo σ = some (nI (A 3 - 1), σ') ∧ MA σ' (undoA A) ∧ fr zU σ σ' := by
  obtain ⟨s3, srow⟩ := hS
  obtain ⟨n, hn⟩ : ∃ n, A 3 = n + 1 := ⟨A 3 - 1, by omega⟩
  have sc := (srow n (by omega)).1
  obtain ⟨x, hx⟩ : ∃ x, x = 186 + 59 * n := ⟨_, rfl⟩
  rw [← hx] at sc
  have hx3 : 186 + 59 * (A 3 - 1) = x := by omega
  have r3 := hM.1 3 (by decide) (by decide) (by decide)
  have M1 := hM.put (j := 3) (by decide) n
  obtain ⟨s1, hs1⟩ : ∃ s1, s1 = wI σ 1 3 (nI n) := ⟨_, rfl⟩
  rw [← hs1] at M1
  have M2 : MA (wC s1 1 (x + 1) 1 6 4) (ckA A x n) := by
    refine ⟨fun j h1 h2 h4 => ?_, ?_⟩
    · by_cases q : 6 ≤ j ∧ j < 10
      · rw [wC_in (by omega), ck_in q, M1.1 _ (by omega) (by omega) (by omega), up_ne (by omega)]
      · rw [wC_o (by omega), M1.1 j h1 h2 h4]
        unfold ckA
        rw [if_neg q]
    · rw [wC_o (by omega), ck_o (by omega) (by omega)]; exact M1.2
  have c0 : ckA A x n 0 = A 0 := ck_o (by omega) (by omega)
  have cx : ckA A x n x = A x := ck_o (by omega) (by omega)
  obtain ⟨s2, g1, g2, g3⟩ := m_undo69 M2 (x := x) (by omega) (by rw [c0]; exact hc) (by rw [cx]; omega)
  rw [c0] at g2
  have e37 : f_X12_undo_37 FU (nI x) (nI 0) s1 = f_X12_undo_69 FU (nI x) (nI 0) (wC s1 1 (x + 1) 1 6 4) := by
    have e := lp (fun fu (q : Int32 × Sg) => f_X12_undo_37 fu (nI x) q.1 q.2) (fun i => (nI i, wC s1 1 (x + 1) 1 6 i)) 4 (r := f_X12_undo_69 FU (nI x) (nI 0) (wC s1 1 (x + 1) 1 6 4)) (fun i hi fu => by
      dsimp only
      rw [f_X12_undo_37, ← wC_step]
      simp (disch := omega) only [e_bnd, e_bndV, e_lt, e_grd, e_lit, e_le1, e_le2, e_lt1, e_lt2, e_eq1, e_eq2, e_inb, e_ix, nI_add, pk_mul, e_sub, e_b0, e_b1, e_bz, e_bz0, e_bz1, Bool.and_true, Bool.true_and, ↓reduceIte, not_true_eq_false, not_false_eq_true, decide_false, decide_true, and_self, and_true, true_and, and_false, false_and, Bool.false_eq_true, Bool.not_false, Bool.not_true, wC_o]) (fun fu => by
      dsimp only
      rw [f_X12_undo_37]
      simp (disch := omega) only [e_bnd, e_bndV, e_lt, e_grd, e_lit, e_le1, e_le2, e_lt1, e_lt2, e_eq1, e_eq2, e_inb, e_ix, nI_add, pk_mul, e_sub, e_b0, e_b1, e_bz, e_bz0, e_bz1, Bool.and_true, Bool.true_and, ↓reduceIte, not_true_eq_false, not_false_eq_true, decide_false, decide_true, and_self, and_true, true_and, and_false, false_and, Bool.false_eq_true, Bool.not_false, Bool.not_true]) FU (by unfold FU; omega)
    rw [wC_0] at e
    exact e
  have t3 : s2.1 1 3 = nI n := by
    rw [g2.1 3 (by decide) (by decide) (by decide), uh_o (by omega), ck_3]
  have e145 : f_X12_undo_145 FU (nI x) (nI 0) s2 = some (nI n, wC s2 1 (x + 29) 1 1956 30) := by
    have e := lp (fun fu (q : Int32 × Sg) => f_X12_undo_145 fu (nI x) q.1 q.2) (fun i => (nI i, wC s2 1 (x + 29) 1 1956 i)) 30 (r := some (nI n, wC s2 1 (x + 29) 1 1956 30)) (fun i hi fu => by
      dsimp only
      rw [f_X12_undo_145, ← wC_step]
      simp (disch := omega) only [e_bnd, e_bndV, e_lt, e_grd, e_lit, e_le1, e_le2, e_lt1, e_lt2, e_eq1, e_eq2, e_inb, e_ix, nI_add, pk_mul, e_sub, e_b0, e_b1, e_bz, e_bz0, e_bz1, Bool.and_true, Bool.true_and, ↓reduceIte, not_true_eq_false, not_false_eq_true, decide_false, decide_true, and_self, and_true, true_and, and_false, false_and, Bool.false_eq_true, Bool.not_false, Bool.not_true, wC_o]) (fun fu => by
      dsimp only
      rw [f_X12_undo_145]
      simp (disch := omega) only [e_bnd, e_bndV, e_lt, e_grd, e_lit, e_le1, e_le2, e_lt1, e_lt2, e_eq1, e_eq2, e_inb, e_ix, nI_add, pk_mul, e_sub, e_b0, e_b1, e_bz, e_bz0, e_bz1, Bool.and_true, Bool.true_and, ↓reduceIte, not_true_eq_false, not_false_eq_true, decide_false, decide_true, and_self, and_true, true_and, and_false, false_and, Bool.false_eq_true, Bool.not_false, Bool.not_true, wC_o, t3]) FU (by unfold FU; omega)
    rw [wC_0] at e
    exact e
  refine ⟨wC s2 1 (x + 29) 1 1956 30, ?_, ?_, ?_⟩
  · unfold f_X12_undo
    simp (disch := omega) only [e_bnd, e_bndV, e_lt, e_grd, e_lit, e_le1, e_le2, e_lt1, e_lt2, e_eq1, e_eq2, e_inb, e_ix, nI_add, pk_mul, e_sub, e_b0, e_b1, e_bz, e_bz0, e_bz1, Bool.and_true, Bool.true_and, ↓reduceIte, not_true_eq_false, not_false_eq_true, decide_false, decide_true, and_self, and_true, true_and, and_false, false_and, Bool.false_eq_true, Bool.not_false, Bool.not_true, r3, hn, Nat.add_sub_cancel, e_hit]
    rw [← hs1, ← hx]
    rw [e37, g1, e145]
  · have hu : ∀ j, j < 1956 → undoA A j = uhA (ckA A x n) x (A 0) 0 j := by
      intro j hj
      unfold undoA
      rw [hx3]
      by_cases q3 : j = 3
      · subst q3
        rw [if_pos rfl, uh_o (by omega), ck_3]
        omega
      rw [if_neg q3]
      by_cases q6 : 6 ≤ j ∧ j < 10
      · rw [if_pos q6, uh_o (by omega), ck_in q6]
      rw [if_neg q6]
      by_cases q : 10 ≤ j ∧ j < 50 ∧ (j - 10) / 5 < A 0 ∧ (j - 10) % 5 < 3
      · rw [if_pos q, uh_in (by omega), cx, ck_o (by omega) (by omega), ck_o (by omega) (by omega)]
      · rw [if_neg q, if_neg (by omega), uh_o (by omega), ck_o q6 q3]
    refine ⟨fun j h1 h2 h4 => ?_, ?_⟩
    · by_cases q : 1956 ≤ j
      · rw [wC_in (by omega), g2.1 _ (by omega) (by omega) (by omega), uh_o (by omega), ck_o (by omega) (by omega)]
        unfold undoA
        rw [hx3, if_neg (by omega), if_neg (by omega), if_neg (by omega), if_pos (by omega)]
      · rw [wC_o (by omega), hu j (by omega)]
        exact g2.1 j h1 h2 h4
    · rw [wC_o (by omega), hu 2 (by decide)]
      exact g2.2
  · rw [hs1] at g3
    refine (((fr.w (k := 1) (i := 3) (v := nI n) (by omega)).trans (?_ : fr zU (wI σ 1 3 (nI n)) (wC (wI σ 1 3 (nI n)) 1 (x + 1) 1 6 4))).trans g3).trans ?_
    · exact ⟨fun a j hn2 => wC_o (by omega), rfl⟩
    · exact ⟨fun a j hn2 => wC_o (by omega), rfl⟩
