/-! the reference keeps a STEP and takes it back -/
def kh (x n : Nat) (σ : Sg) : Sg := (fun a j => if a = 1 ∧ x + 5 ≤ j ∧ j < x + 5 + n then σ.1 1 (10 + 5 * ((j - (x + 5)) / 3) + (j - (x + 5)) % 3) else σ.1 a j, σ.2)
theorem kh_rd {x n a j : Nat} {σ : Sg} : (kh x n σ).1 a j = if a = 1 ∧ x + 5 ≤ j ∧ j < x + 5 + n then σ.1 1 (10 + 5 * ((j - (x + 5)) / 3) + (j - (x + 5)) % 3) else σ.1 a j := rfl
theorem kh_0 {x : Nat} {σ : Sg} : kh x 0 σ = σ := by
  refine Prod.ext (funext fun a => funext fun j => ?_) rfl
  rw [kh_rd, if_neg (by omega)]
theorem kh_at {x n a j : Nat} {σ : Sg} (h : a ≠ 1 ∨ j < x + 5 ∨ x + 5 + n ≤ j) : (kh x n σ).1 a j = σ.1 a j := by
  rw [kh_rd, if_neg (by omega)]
theorem kh_step {x h k : Nat} {σ : Sg} (hk : k < 3) : wI (kh x (3 * h + k) σ) 1 (x + 5 + 3 * h + k) (σ.1 1 (10 + 5 * h + k)) = kh x (3 * h + (k + 1)) σ := by
  refine Prod.ext (funext fun a => funext fun j => ?_) rfl
  rw [wI_rd, kh_rd, kh_rd]
  by_cases h1 : a = 1 ∧ j = x + 5 + 3 * h + k
  · rw [if_pos h1, if_pos (by omega), show 10 + 5 * ((j - (x + 5)) / 3) + (j - (x + 5)) % 3 = 10 + 5 * h + k by omega]
  · rw [if_neg h1]
    by_cases h2 : a = 1 ∧ x + 5 ≤ j ∧ j < x + 5 + (3 * h + k)
    · rw [if_pos h2, if_pos (by omega)]
    · rw [if_neg h2, if_neg (by omega)]
def kpS (σ : Sg) (x : Nat) : Sg := wC (kh x 24 (wC (wI σ 1 x (σ.1 1 0)) 1 6 1 (x + 1) 4)) 1 1956 1 (x + 29) 30
abbrev aK : Nat → Nat → Prop := fun a j => a = 1 ∧ (j = 3 ∨ (186 ≤ j ∧ j < 1956))
theorem m_keep56 {σ : Sg} {A : Nat → Nat} (hM : MA σ A) (h3 : A 3 < 30) : ∃ σ', f_X12_keep_56 σ = some σ' ∧ MA σ' (putA A) ∧ fr aK σ σ' := by
  have r3 := hM.1 3 (by decide) (by decide) (by decide)
  have r0 := hM.1 0 (by decide) (by decide) (by decide)
  have ex : ∃ x, x = 186 + 59 * A 3 := ⟨_, rfl⟩
  obtain ⟨x, hx⟩ := ex
  have e163 : ∀ s, s.1 1 3 = nI (A 3) → f_X12_keep_163 FU (nI x) (nI 0) s = some (wI (wC s 1 1956 1 (x + 29) 30) 1 3 (nI (A 3 + 1))) := by
    intro s hs
    have e := lp (fun fu (q : Int32 × Sg) => f_X12_keep_163 fu (nI x) q.1 q.2) (fun i => (nI i, wC s 1 1956 1 (x + 29) i)) 30 (r := some (wI (wC s 1 1956 1 (x + 29) 30) 1 3 (nI (A 3 + 1)))) (fun i hi fu => by
      dsimp only
      rw [f_X12_keep_163, ← wC_step]
      simp (disch := omega) only [e_bnd, e_bndV, e_lt, e_grd, e_lit, e_le1, e_le2, e_lt1, e_lt2, e_eq1, e_eq2, e_inb, e_ix, nI_add, pk_mul, e_sub, e_b0, e_b1, e_bz, e_bz0, e_bz1, Bool.and_true, Bool.true_and, ↓reduceIte, not_true_eq_false, not_false_eq_true, decide_false, decide_true, and_self, and_true, true_and, and_false, false_and, Bool.false_eq_true, Bool.not_false, Bool.not_true, wC_o]) (fun fu => by
      dsimp only
      rw [f_X12_keep_163]
      simp (disch := omega) only [e_bnd, e_bndV, e_lt, e_grd, e_lit, e_le1, e_le2, e_lt1, e_lt2, e_eq1, e_eq2, e_inb, e_ix, nI_add, pk_mul, e_sub, e_b0, e_b1, e_bz, e_bz0, e_bz1, Bool.and_true, Bool.true_and, ↓reduceIte, not_true_eq_false, not_false_eq_true, decide_false, decide_true, and_self, and_true, true_and, and_false, false_and, Bool.false_eq_true, Bool.not_false, Bool.not_true, wC_o, hs]) FU (by unfold FU; omega)
    rw [wC_0] at e
    exact e
  have e124 : ∀ fu s h, h < 8 → f_X12_keep_124 (f_X12_keep_116 fu) FU (nI x) (nI h) (nI 0) (kh x (3 * h) s) = f_X12_keep_116 fu (nI x) (nI (h + 1)) (kh x (3 * (h + 1)) s) := by
    intro fu s h hh
    exact lp (fun fu2 (q : Int32 × Sg) => f_X12_keep_124 (f_X12_keep_116 fu) fu2 (nI x) (nI h) q.1 q.2) (fun i => (nI i, kh x (3 * h + i) s)) 3 (r := f_X12_keep_116 fu (nI x) (nI (h + 1)) (kh x (3 * (h + 1)) s)) (fun i hi fu2 => by
      dsimp only
      rw [f_X12_keep_124, ← kh_step hi]
      simp (disch := omega) only [e_bnd, e_bndV, e_lt, e_grd, e_lit, e_le1, e_le2, e_lt1, e_lt2, e_eq1, e_eq2, e_inb, e_ix, nI_add, pk_mul, e_sub, e_b0, e_b1, e_bz, e_bz0, e_bz1, Bool.and_true, Bool.true_and, ↓reduceIte, not_true_eq_false, not_false_eq_true, decide_false, decide_true, and_self, and_true, true_and, and_false, false_and, Bool.false_eq_true, Bool.not_false, Bool.not_true, f_get_eq, kh_at]) (fun fu2 => by
      dsimp only
      rw [f_X12_keep_124]
      simp (disch := omega) only [e_bnd, e_bndV, e_lt, e_grd, e_lit, e_le1, e_le2, e_lt1, e_lt2, e_eq1, e_eq2, e_inb, e_ix, nI_add, pk_mul, e_sub, e_b0, e_b1, e_bz, e_bz0, e_bz1, Bool.and_true, Bool.true_and, ↓reduceIte, not_true_eq_false, not_false_eq_true, decide_false, decide_true, and_self, and_true, true_and, and_false, false_and, Bool.false_eq_true, Bool.not_false, Bool.not_true, show 3 * (h + 1) = 3 * h + 3 by omega]) FU (by unfold FU; omega)
  have e116 : ∀ s, s.1 1 3 = nI (A 3) → f_X12_keep_116 FU (nI x) (nI 0) s = some (wI (wC (kh x 24 s) 1 1956 1 (x + 29) 30) 1 3 (nI (A 3 + 1))) := by
    intro s hs
    have e := lp (fun fu (q : Int32 × Sg) => f_X12_keep_116 fu (nI x) q.1 q.2) (fun i => (nI i, kh x (3 * i) s)) 8 (r := some (wI (wC (kh x 24 s) 1 1956 1 (x + 29) 30) 1 3 (nI (A 3 + 1)))) (fun i hi fu => by
      dsimp only
      rw [f_X12_keep_116]
      simp (disch := omega) only [e_bnd, e_bndV, e_lt, e_grd, e_lit, e_le1, e_le2, e_lt1, e_lt2, e_eq1, e_eq2, e_inb, e_ix, nI_add, pk_mul, e_sub, e_b0, e_b1, e_bz, e_bz0, e_bz1, Bool.and_true, Bool.true_and, ↓reduceIte, not_true_eq_false, not_false_eq_true, decide_false, decide_true, and_self, and_true, true_and, and_false, false_and, Bool.false_eq_true, Bool.not_false, Bool.not_true, e124]) (fun fu => by
      dsimp only
      rw [f_X12_keep_116]
      simp (disch := omega) only [e_bnd, e_bndV, e_lt, e_grd, e_lit, e_le1, e_le2, e_lt1, e_lt2, e_eq1, e_eq2, e_inb, e_ix, nI_add, pk_mul, e_sub, e_b0, e_b1, e_bz, e_bz0, e_bz1, Bool.and_true, Bool.true_and, ↓reduceIte, not_true_eq_false, not_false_eq_true, decide_false, decide_true, and_self, and_true, true_and, and_false, false_and, Bool.false_eq_true, Bool.not_false, Bool.not_true]
      exact e163 _ (by rw [kh_at (by omega)]; exact hs)) FU (by unfold FU; omega)
    rw [kh_0] at e
    exact e
  have e84 : ∀ s, s.1 1 3 = nI (A 3) → f_X12_keep_84 FU (nI x) (nI 0) s = some (wI (wC (kh x 24 (wC s 1 6 1 (x + 1) 4)) 1 1956 1 (x + 29) 30) 1 3 (nI (A 3 + 1))) := by
    intro s hs
    have e := lp (fun fu (q : Int32 × Sg) => f_X12_keep_84 fu (nI x) q.1 q.2) (fun i => (nI i, wC s 1 6 1 (x + 1) i)) 4 (r := some (wI (wC (kh x 24 (wC s 1 6 1 (x + 1) 4)) 1 1956 1 (x + 29) 30) 1 3 (nI (A 3 + 1)))) (fun i hi fu => by
      dsimp only
      rw [f_X12_keep_84, ← wC_step]
      simp (disch := omega) only [e_bnd, e_bndV, e_lt, e_grd, e_lit, e_le1, e_le2, e_lt1, e_lt2, e_eq1, e_eq2, e_inb, e_ix, nI_add, pk_mul, e_sub, e_b0, e_b1, e_bz, e_bz0, e_bz1, Bool.and_true, Bool.true_and, ↓reduceIte, not_true_eq_false, not_false_eq_true, decide_false, decide_true, and_self, and_true, true_and, and_false, false_and, Bool.false_eq_true, Bool.not_false, Bool.not_true, wC_o]) (fun fu => by
      dsimp only
      rw [f_X12_keep_84]
      simp (disch := omega) only [e_bnd, e_bndV, e_lt, e_grd, e_lit, e_le1, e_le2, e_lt1, e_lt2, e_eq1, e_eq2, e_inb, e_ix, nI_add, pk_mul, e_sub, e_b0, e_b1, e_bz, e_bz0, e_bz1, Bool.and_true, Bool.true_and, ↓reduceIte, not_true_eq_false, not_false_eq_true, decide_false, decide_true, and_self, and_true, true_and, and_false, false_and, Bool.false_eq_true, Bool.not_false, Bool.not_true]
      exact e116 _ (by rw [wC_o (by omega)]; exact hs)) FU (by unfold FU; omega)
    rw [wC_0] at e
    exact e
  refine ⟨wI (kpS σ x) 1 3 (nI (A 3 + 1)), ?_, ⟨fun j h1 h2 h4 => ?_, ?_⟩, ?_⟩
  · unfold f_X12_keep_56
    simp (disch := omega) only [e_bnd, e_bndV, e_lt, e_grd, e_lit, e_le1, e_le2, e_lt1, e_lt2, e_eq1, e_eq2, e_inb, e_ix, nI_add, pk_mul, e_sub, e_b0, e_b1, e_bz, e_bz0, e_bz1, Bool.and_true, Bool.true_and, ↓reduceIte, not_true_eq_false, not_false_eq_true, decide_false, decide_true, and_self, and_true, true_and, and_false, false_and, Bool.false_eq_true, Bool.not_false, Bool.not_true, r3, ← hx]
    rw [e84 _ (by rw [e_ne2 (by omega)]; exact r3)]
    rfl
  · unfold putA kpS
    try dsimp only
    by_cases q3 : j = 3
    · subst q3; rw [e_hit, if_pos rfl]
    rw [e_ne2 q3, if_neg q3, ← hx]
    by_cases q : x ≤ j ∧ j < x + 59
    · rw [if_pos q]
      unfold rowA
      by_cases k0 : j - x = 0
      · rw [if_pos k0, wC_o (by omega), kh_at (by omega), wC_o (by omega), show j = x by omega, e_hit]; exact r0
      rw [if_neg k0]
      by_cases k1 : j - x < 5
      · rw [if_pos k1, wC_o (by omega), kh_at (by omega), wC_in (by omega), e_ne2 (by omega), show 6 + (j - (x + 1)) = 5 + (j - x) by omega]; exact hM.1 _ (by omega) (by omega) (by omega)
      rw [if_neg k1]
      by_cases k2 : j - x < 29
      · rw [if_pos k2, wC_o (by omega), kh_rd, if_pos (by omega), wC_o (by omega), e_ne2 (by omega), show j - (x + 5) = j - x - 5 by omega]; exact hM.1 _ (by omega) (by omega) (by omega)
      rw [if_neg k2, wC_in (by omega), kh_at (by omega), wC_o (by omega), e_ne2 (by omega), show 1956 + (j - (x + 29)) = 1956 + (j - x - 29) by omega]; exact hM.1 _ (by omega) (by omega) (by omega)
    · rw [if_neg q, wC_o (by omega), kh_at (by omega), wC_o (by omega), e_ne2 (by omega)]; exact hM.1 _ h1 h2 h4
  · unfold putA kpS
    try dsimp only
    rw [e_ne2 (by decide), wC_o (by omega), kh_at (by omega), wC_o (by omega), e_ne2 (by omega), if_neg (by decide), if_neg (by omega)]
    exact hM.2
  · refine ⟨fun a j hn => ?_, rfl⟩
    unfold kpS
    rw [wI_rd, if_neg (by omega), wC_o (by omega), kh_at (by omega), wC_o (by omega), wI_rd, if_neg (by omega)]
theorem m_keep13 {σ : Sg} {A : Nat → Nat} (r3 : σ.1 1 3 = nI 30) : f_X12_keep_13 FU (nI 0) σ = f_X12_keep_56 (wI (sh 1 186 59 1711 σ) 1 3 (nI 29)) := by
  have e : ∀ N, 1711 < N → f_X12_keep_13 N (nI 0) (sh 1 186 59 0 σ) = f_X12_keep_56 (wI (sh 1 186 59 1711 σ) 1 3 (nI 29)) := fun N hN => lp (fun fu (q : Int32 × Sg) => f_X12_keep_13 fu q.1 q.2) (fun i => (nI i, sh 1 186 59 i σ)) 1711 (r := f_X12_keep_56 (wI (sh 1 186 59 1711 σ) 1 3 (nI 29))) (fun i hi fu => by
    dsimp only
    rw [f_X12_keep_13, ← sh_step]
    simp (disch := omega) only [e_bnd, e_bndV, e_lt, e_grd, e_lit, e_le1, e_le2, e_lt1, e_lt2, e_eq1, e_eq2, e_inb, e_ix, nI_add, pk_mul, e_sub, e_b0, e_b1, e_bz, e_bz0, e_bz1, Bool.and_true, Bool.true_and, ↓reduceIte, not_true_eq_false, not_false_eq_true, decide_false, decide_true, and_self, and_true, true_and, and_false, false_and, Bool.false_eq_true, Bool.not_false, Bool.not_true, sh_at, show 245 + i = 186 + i + 59 by omega]) (fun fu => by
    dsimp only
    rw [f_X12_keep_13]
    simp (disch := omega) only [e_bnd, e_bndV, e_lt, e_grd, e_lit, e_le1, e_le2, e_lt1, e_lt2, e_eq1, e_eq2, e_inb, e_ix, nI_add, pk_mul, e_sub, e_b0, e_b1, e_bz, e_bz0, e_bz1, Bool.and_true, Bool.true_and, ↓reduceIte, not_true_eq_false, not_false_eq_true, decide_false, decide_true, and_self, and_true, true_and, and_false, false_and, Bool.false_eq_true, Bool.not_false, Bool.not_true, sh_at, r3]) N hN
  rw [sh_0] at e
  exact e FU (by unfold FU; omega)
theorem m_rol {σ : Sg} {A : Nat → Nat} (hM : MA σ A) : MA (wI (sh 1 186 59 1711 σ) 1 3 (nI 29)) (rolA A) := by
  refine ⟨fun j h1 h2 h4 => ?_, ?_⟩
  · unfold rolA
    by_cases q3 : j = 3
    · subst q3; rw [e_hit, if_pos rfl]
    rw [e_ne2 q3, if_neg q3, sh_rd]
    by_cases q : 186 ≤ j ∧ j < 1897
    · rw [if_pos (by omega), if_pos q]; exact hM.1 _ (by omega) (by omega) (by omega)
    · rw [if_neg (by omega), if_neg q]; exact hM.1 _ h1 h2 h4
  · unfold rolA
    rw [e_ne2 (by decide), sh_at (by omega), if_neg (by decide), if_neg (by omega)]
    exact hM.2
theorem rolA_3 (A : Nat → Nat) : rolA A 3 = 29 := if_pos rfl
theorem m_keep {σ : Sg} {A : Nat → Nat} (hM : MA σ A) (h3 : A 3 ≤ 30) : ∃ σ', f_X12_keep σ = some σ' ∧ MA σ' (keepA A) ∧ fr aK σ σ' := by
  have r3 := hM.1 3 (by decide) (by decide) (by decide)
  unfold f_X12_keep keepA
  by_cases hl : A 3 = 30
  · rw [if_pos hl]
    have hs := m_keep13 (σ := σ) (A := A) (by rw [r3, hl])
    obtain ⟨σ', e1, e2, e3⟩ := m_keep56 (m_rol hM) (by rw [rolA_3]; decide)
    refine ⟨σ', ?_, e2, (?_ : fr aK σ _).trans e3⟩
    · simp (disch := omega) only [e_bnd, e_bndV, e_lt, e_grd, e_lit, e_le1, e_le2, e_lt1, e_lt2, e_eq1, e_eq2, e_inb, e_ix, nI_add, pk_mul, e_sub, e_b0, e_b1, e_bz, e_bz0, e_bz1, Bool.and_true, Bool.true_and, ↓reduceIte, not_true_eq_false, not_false_eq_true, decide_false, decide_true, and_self, and_true, true_and, and_false, false_and, Bool.false_eq_true, Bool.not_false, Bool.not_true, r3, hl, hs, e1]
    · refine (?_ : fr aK σ (sh 1 186 59 1711 σ)).trans (fr.w ⟨rfl, Or.inl rfl⟩)
      exact ⟨fun a j hn => by rw [sh_rd, if_neg (fun q => hn ⟨q.1, Or.inr (by omega)⟩)], rfl⟩
  · rw [if_neg hl]
    obtain ⟨σ', e1, e2, e3⟩ := m_keep56 hM (by omega)
    exact ⟨σ', by simp (disch := omega) only [e_bnd, e_bndV, e_lt, e_grd, e_lit, e_le1, e_le2, e_lt1, e_lt2, e_eq1, e_eq2, e_inb, e_ix, nI_add, pk_mul, e_sub, e_b0, e_b1, e_bz, e_bz0, e_bz1, Bool.and_true, Bool.true_and, ↓reduceIte, not_true_eq_false, not_false_eq_true, decide_false, decide_true, and_self, and_true, true_and, and_false, false_and, Bool.false_eq_true, Bool.not_false, Bool.not_true, r3, e1], e2, e3⟩
