/-! METHODS: far, on -/
theorem x_measure79 {σ : Sg} {D : Nat → Nat} (t : Nat) (h : LX σ D) (l : LE D) : ∃ σ', (LX σ' (flo D 8 8) ∧ fr S60 σ σ') ∧ f_X9_measure_79 t FU (nI 0) σ = some σ' := by
  refine lpI (fun fu (q : Int32 × Sg) => f_X9_measure_79 t fu q.1 q.2) (fun i q => q.1 = nI i ∧ LX q.2 (flo D 8 i) ∧ fr S60 σ q.2) 8 (fun r => ∃ σ', (LX σ' (flo D 8 8) ∧ fr S60 σ σ') ∧ r = some σ') (fun i hi q hq => ?_) (fun q hq fu => ?_) FU (by unfold FU; omega) (nI 0, σ) ⟨rfl, h, fr.rfl⟩
  · obtain ⟨v, s⟩ := q
    obtain ⟨q1, q2, q3⟩ := hq
    dsimp only at q1 q2 q3
    subst q1
    obtain ⟨s', ⟨g1, g2⟩, g3⟩ := x_shorten q2 (LE_flo l i) hi
    refine ⟨(nI (i + 1), s'), ⟨rfl, g1, q3.trans g2⟩, fun fu => ?_⟩
    dsimp only
    rw [f_X9_measure_79]
    simp (disch := omega) only [e_bnd, e_bndV, e_lt, e_grd, e_lit, e_le1, e_le2, e_lt1, e_lt2, e_eq1, e_eq2, e_inb, e_ix, nI_add, pk_mul, e_sub, e_b0, e_b1, e_bz, e_bz0, e_bz1, Bool.and_true, Bool.true_and, ↓reduceIte, not_true_eq_false, not_false_eq_true, decide_false, decide_true, and_self, and_true, true_and, and_false, false_and, Bool.false_eq_true, Bool.not_false, Bool.not_true, g3]
  · obtain ⟨v, s⟩ := q
    obtain ⟨q1, q2, q3⟩ := hq
    dsimp only at q1 q2 q3
    subst q1
    refine ⟨s, ⟨q2, q3⟩, ?_⟩
    dsimp only
    rw [f_X9_measure_79]
    simp (disch := omega) only [e_bnd, e_bndV, e_lt, e_grd, e_lit, e_le1, e_le2, e_lt1, e_lt2, e_eq1, e_eq2, e_inb, e_ix, nI_add, pk_mul, e_sub, e_b0, e_b1, e_bz, e_bz0, e_bz1, Bool.and_true, Bool.true_and, ↓reduceIte, not_true_eq_false, not_false_eq_true, decide_false, decide_true, and_self, and_true, true_and, and_false, false_and, Bool.false_eq_true, Bool.not_false, Bool.not_true]
theorem x_measure53 {σ : Sg} {A : Nat → Nat} (hR : BR A) (t m : Nat) (h : ∀ x, x < 64 → σ.1 60 x = nI (bs0 A m x)) : ∃ σ', (LX σ' (flo (D0 A m) 8 8) ∧ fr S60 σ σ') ∧ f_X9_measure_53 t FU (nI 0) σ = some σ' := by
  refine lpI (fun fu (q : Int32 × Sg) => f_X9_measure_53 t fu q.1 q.2) (fun i q => q.1 = nI i ∧ (∀ x, x < 64 → q.2.1 60 x = nI (if x % 9 = 0 ∧ x < 9 * i then 0 else bs0 A m x)) ∧ fr S60 σ q.2) 8 (fun r => ∃ σ', (LX σ' (flo (D0 A m) 8 8) ∧ fr S60 σ σ') ∧ r = some σ') (fun i hi q hq => ?_) (fun q hq fu => ?_) FU (by unfold FU; omega) (nI 0, σ) ⟨rfl, fun x hx => by rw [if_neg (by omega)]; exact h x hx, fr.rfl⟩
  · obtain ⟨v, s⟩ := q
    obtain ⟨q1, q2, q3⟩ := hq
    dsimp only at q1 q2 q3
    subst q1
    refine ⟨(nI (i + 1), wI s 60 (i * 8 + i) (nI 0)), ⟨rfl, fun x hx => ?_, q3.trans (fr.w rfl)⟩, fun fu => ?_⟩
    · dsimp only
      by_cases z : x = i * 8 + i
      · subst z; rw [e_hit, if_pos (by omega)]
      · rw [e_ne2 z, q2 x hx]
        by_cases y : x % 9 = 0 ∧ x < 9 * i
        · rw [if_pos y, if_pos (by omega)]
        · rw [if_neg y, if_neg (by omega)]
    · dsimp only
      rw [f_X9_measure_53]
      simp (disch := omega) only [e_bnd, e_bndV, e_lt, e_grd, e_lit, e_le1, e_le2, e_lt1, e_lt2, e_eq1, e_eq2, e_inb, e_ix, nI_add, pk_mul, e_sub, e_b0, e_b1, e_bz, e_bz0, e_bz1, Bool.and_true, Bool.true_and, ↓reduceIte, not_true_eq_false, not_false_eq_true, decide_false, decide_true, and_self, and_true, true_and, and_false, false_and, Bool.false_eq_true, Bool.not_false, Bool.not_true]
  · obtain ⟨v, s⟩ := q
    obtain ⟨q1, q2, q3⟩ := hq
    dsimp only at q1 q2 q3
    subst q1
    have hL : LX s (D0 A m) := fun x hx => by
      rw [q2 x hx]
      unfold D0
      rw [if_pos hx]
      by_cases z : x % 9 = 0
      · rw [if_pos (by omega), if_pos z]
      · rw [if_neg (fun y => z y.1), if_neg z]
    obtain ⟨s', ⟨g1, g2⟩, g3⟩ := x_measure79 t hL (D0_le hR m)
    refine ⟨s', ⟨g1, q3.trans g2⟩, ?_⟩
    dsimp only
    rw [f_X9_measure_53]
    simp (disch := omega) only [e_bnd, e_bndV, e_lt, e_grd, e_lit, e_le1, e_le2, e_lt1, e_lt2, e_eq1, e_eq2, e_inb, e_ix, nI_add, pk_mul, e_sub, e_b0, e_b1, e_bz, e_bz0, e_bz1, Bool.and_true, Bool.true_and, ↓reduceIte, not_true_eq_false, not_false_eq_true, decide_false, decide_true, and_self, and_true, true_and, and_false, false_and, Bool.false_eq_true, Bool.not_false, Bool.not_true]
    exact g3
theorem x_measure {σ : Sg} {t : Nat} {A : Nat → Nat} (ht : t + 1 < 60) (hX : XR σ t A) (hR : BR A) {m : Nat} (hm : m ≤ 1) : ∃ σ', (LX σ' (flo (D0 A m) 8 8) ∧ fr S60 σ σ') ∧ f_X9_measure t (nI m) σ = some σ' := by
  unfold f_X9_measure
  simp (disch := omega) only [e_lit]
  refine lpI (fun fu (q : Int32 × Sg) => f_X9_measure_2 t fu (nI m) q.1 q.2) (fun i q => q.1 = nI i ∧ (∀ x, x < i → q.2.1 60 x = nI (bs0 A m x)) ∧ fr S60 σ q.2) 64 (fun r => ∃ σ', (LX σ' (flo (D0 A m) 8 8) ∧ fr S60 σ σ') ∧ r = some σ') (fun i hi q hq => ?_) (fun q hq fu => ?_) FU (by unfold FU; omega) (nI 0, σ) ⟨rfl, fun x hx => absurd hx (by omega), fr.rfl⟩
  · obtain ⟨v, s⟩ := q
    obtain ⟨q1, q2, q3⟩ := hq
    dsimp only at q1 q2 q3
    subst q1
    have c1 : s.1 (t + 1) i = nI (A (50 + i)) := by
      rw [q3.1 _ _ (fun z => by have z2 : t + 1 = 60 := z; omega)]
      exact hX.1 i hi
    have b1 : A (50 + i) ≤ 99 := by
      have := (hR (i / 8) (i % 8) (by omega) (by omega)).1
      rw [show 50 + 8 * (i / 8) + i % 8 = 50 + i by omega] at this
      exact this
    refine ⟨(nI (i + 1), wI s 60 i (nI (bs0 A m i))), ⟨rfl, fun x hx => ?_, q3.trans (fr.w rfl)⟩, fun fu => ?_⟩
    · dsimp only
      by_cases z : x = i
      · subst z; rw [e_hit]
      · rw [e_ne2 z]; exact q2 x (by omega)
    · dsimp only
      rw [f_X9_measure_2]
      clear q2
      unfold bs0
      by_cases z : A (50 + i) = 0
      · rw [if_pos z]
        simp (disch := omega) only [e_bnd, e_bndV, e_lt, e_grd, e_lit, e_le1, e_le2, e_lt1, e_lt2, e_eq1, e_eq2, e_inb, e_ix, nI_add, pk_mul, e_sub, e_b0, e_b1, e_bz, e_bz0, e_bz1, Bool.and_true, Bool.true_and, ↓reduceIte, not_true_eq_false, not_false_eq_true, decide_false, decide_true, and_self, and_true, true_and, and_false, false_and, Bool.false_eq_true, Bool.not_false, Bool.not_true, c1, f_X9_measure_44]
      · rw [if_neg z]
        by_cases y : m = 0
        · rw [if_pos y]
          simp (disch := omega) only [e_bnd, e_bndV, e_lt, e_grd, e_lit, e_le1, e_le2, e_lt1, e_lt2, e_eq1, e_eq2, e_inb, e_ix, nI_add, pk_mul, e_sub, e_b0, e_b1, e_bz, e_bz0, e_bz1, Bool.and_true, Bool.true_and, ↓reduceIte, not_true_eq_false, not_false_eq_true, decide_false, decide_true, and_self, and_true, true_and, and_false, false_and, Bool.false_eq_true, Bool.not_false, Bool.not_true, c1, f_X9_measure_44]
        · rw [if_neg y]
          simp (disch := omega) only [e_bnd, e_bndV, e_lt, e_grd, e_lit, e_le1, e_le2, e_lt1, e_lt2, e_eq1, e_eq2, e_inb, e_ix, nI_add, pk_mul, e_sub, e_b0, e_b1, e_bz, e_bz0, e_bz1, Bool.and_true, Bool.true_and, ↓reduceIte, not_true_eq_false, not_false_eq_true, decide_false, decide_true, and_self, and_true, true_and, and_false, false_and, Bool.false_eq_true, Bool.not_false, Bool.not_true, c1, f_X9_measure_44]
  · obtain ⟨v, s⟩ := q
    obtain ⟨q1, q2, q3⟩ := hq
    dsimp only at q1 q2 q3
    subst q1
    obtain ⟨s', ⟨g1, g2⟩, g3⟩ := x_measure53 hR t m q2
    refine ⟨s', ⟨g1, q3.trans g2⟩, ?_⟩
    dsimp only
    rw [f_X9_measure_2]
    simp (disch := omega) only [e_bnd, e_bndV, e_lt, e_grd, e_lit, e_le1, e_le2, e_lt1, e_lt2, e_eq1, e_eq2, e_inb, e_ix, nI_add, pk_mul, e_sub, e_b0, e_b1, e_bz, e_bz0, e_bz1, Bool.and_true, Bool.true_and, ↓reduceIte, not_true_eq_false, not_false_eq_true, decide_false, decide_true, and_self, and_true, true_and, and_false, false_and, Bool.false_eq_true, Bool.not_false, Bool.not_true]
    exact g3
/-! the reference -/
def LM (c : Nat) (σ : Sg) (D : Nat → Nat) : Prop := ∀ h e, h < c → e < c → σ.1 10 (8 * h + e) = nI (D (8 * h + e))
abbrev S10 : Nat → Nat → Prop := fun a _ => a = 10
theorem LM.put {c : Nat} {σ : Sg} {D : Nat → Nat} (h : LM c σ D) (y n : Nat) : LM c (wI σ 10 y (nI n)) (up D y n) := fun a b ha hb => by
  by_cases z : 8 * a + b = y
  · subst z; rw [e_hit, up_hit]
  · rw [e_ne2 z, up_ne z]; exact h a b ha hb
theorem m_far103 {σ : Sg} {c : Nat} {D : Nat → Nat} (r0 : σ.1 1 0 = nI c) (c8 : c ≤ 8) (h : LM c σ D) (l : LE D) {k i : Nat} (hk : k < c) (hi : i < c) : ∃ σ', (LM c σ' (rowf D k i c) ∧ fr S10 σ σ') ∧ ∀ rec, f_X12_layFars_103 rec FU (nI k) (nI i) (nI 0) σ = rec (nI k) (nI (i + 1)) σ' := by
  obtain ⟨s', ⟨g1, g2, g3⟩, g4⟩ := lpR (fun rec fu (q : Int32 × Sg) => f_X12_layFars_103 rec fu (nI k) (nI i) q.1 q.2) (fun j q => q.1 = nI j ∧ LM c q.2 (rowf D k i j) ∧ fr S10 σ q.2) c (fun j hj q hq => by
    obtain ⟨v, s⟩ := q
    obtain ⟨q1, q2, q3⟩ := hq
    dsimp only at q1 q2 q3
    subst q1
    have lj := LE_row (k := k) (i := i) l j
    have rs : s.1 1 0 = nI c := by rw [q3.1 _ _ (by omega)]; exact r0
    have c1 := q2 i j hi hj
    have c2 := q2 k j hk hj
    have c3 := q2 i k hi hk
    have b1 := lj (8 * i + j)
    have b2 := lj (8 * k + j)
    have b3 := lj (8 * i + k)
    have e1 : rowf D k i (j + 1) = st1 (rowf D k i j) k i j := rfl
    by_cases z : rowf D k i j (8 * i + j) ≤ rowf D k i j (8 * i + k) + rowf D k i j (8 * k + j)
    · refine ⟨(nI (j + 1), s), ⟨rfl, by rw [e1, st1_id z]; exact q2, q3⟩, fun rec fu => ?_⟩
      dsimp only
      rw [f_X12_layFars_103]
      clear q2 q3
      simp (disch := omega) only [e_bnd, e_bndV, e_lt, e_grd, e_lit, e_le1, e_le2, e_lt1, e_lt2, e_eq1, e_eq2, e_inb, e_ix, nI_add, pk_mul, e_sub, e_b0, e_b1, e_bz, e_bz0, e_bz1, Bool.and_true, Bool.true_and, ↓reduceIte, not_true_eq_false, not_false_eq_true, decide_false, decide_true, and_self, and_true, true_and, and_false, false_and, Bool.false_eq_true, Bool.not_false, Bool.not_true, rs, c1, c2, c3, f_X12_layFars_184]
    · refine ⟨(nI (j + 1), wI s 10 (8 * i + j) (nI (rowf D k i j (8 * i + k) + rowf D k i j (8 * k + j)))), ⟨rfl, ?_, q3.trans (fr.w rfl)⟩, fun rec fu => ?_⟩
      · rw [e1]
        unfold st1
        rw [show min (rowf D k i j (8 * i + j)) (rowf D k i j (8 * i + k) + rowf D k i j (8 * k + j)) = rowf D k i j (8 * i + k) + rowf D k i j (8 * k + j) by omega]
        exact q2.put _ _
      · dsimp only
        rw [f_X12_layFars_103]
        clear q2 q3
        simp (disch := omega) only [e_bnd, e_bndV, e_lt, e_grd, e_lit, e_le1, e_le2, e_lt1, e_lt2, e_eq1, e_eq2, e_inb, e_ix, nI_add, pk_mul, e_sub, e_b0, e_b1, e_bz, e_bz0, e_bz1, Bool.and_true, Bool.true_and, ↓reduceIte, not_true_eq_false, not_false_eq_true, decide_false, decide_true, and_self, and_true, true_and, and_false, false_and, Bool.false_eq_true, Bool.not_false, Bool.not_true, rs, c1, c2, c3, f_X12_layFars_184]) (nI 0, σ) ⟨rfl, h, fr.rfl⟩
  refine ⟨s'.2, ⟨g2, g3⟩, fun rec => ?_⟩
  have rs : s'.2.1 1 0 = nI c := by rw [g3.1 _ _ (by omega)]; exact r0
  obtain ⟨f, hf⟩ := FU_n (n := c) (by omega)
  have e := g4 rec (f + 1)
  dsimp only at e
  rw [hf, e, g1, f_X12_layFars_103]
  clear g2 g3 h
  simp (disch := omega) only [e_bnd, e_bndV, e_lt, e_grd, e_lit, e_le1, e_le2, e_lt1, e_lt2, e_eq1, e_eq2, e_inb, e_ix, nI_add, pk_mul, e_sub, e_b0, e_b1, e_bz, e_bz0, e_bz1, Bool.and_true, Bool.true_and, ↓reduceIte, not_true_eq_false, not_false_eq_true, decide_false, decide_true, and_self, and_true, true_and, and_false, false_and, Bool.false_eq_true, Bool.not_false, Bool.not_true, rs]
theorem m_far91 {σ : Sg} {c : Nat} {D : Nat → Nat} (r0 : σ.1 1 0 = nI c) (c8 : c ≤ 8) (h : LM c σ D) (l : LE D) {k : Nat} (hk : k < c) : ∃ σ', (LM c σ' (colf D c k c) ∧ fr S10 σ σ') ∧ ∀ rec, f_X12_layFars_91 rec FU (nI k) (nI 0) σ = rec (nI (k + 1)) σ' := by
  obtain ⟨s', ⟨g1, g2, g3⟩, g4⟩ := lpR (fun rec fu (q : Int32 × Sg) => f_X12_layFars_91 rec fu (nI k) q.1 q.2) (fun i q => q.1 = nI i ∧ LM c q.2 (colf D c k i) ∧ fr S10 σ q.2) c (fun i hi q hq => by
    obtain ⟨v, s⟩ := q
    obtain ⟨q1, q2, q3⟩ := hq
    dsimp only at q1 q2 q3
    subst q1
    have rs : s.1 1 0 = nI c := by rw [q3.1 _ _ (by omega)]; exact r0
    obtain ⟨s', ⟨g1, g2⟩, g3⟩ := m_far103 rs c8 q2 (LE_col l i) hk hi
    refine ⟨(nI (i + 1), s'), ⟨rfl, g1, q3.trans g2⟩, fun rec fu => ?_⟩
    dsimp only
    rw [f_X12_layFars_91]
    have g3' := g3 (f_X12_layFars_91 rec fu)
    clear q2 q3 g1 g2 g3
    simp (disch := omega) only [e_bnd, e_bndV, e_lt, e_grd, e_lit, e_le1, e_le2, e_lt1, e_lt2, e_eq1, e_eq2, e_inb, e_ix, nI_add, pk_mul, e_sub, e_b0, e_b1, e_bz, e_bz0, e_bz1, Bool.and_true, Bool.true_and, ↓reduceIte, not_true_eq_false, not_false_eq_true, decide_false, decide_true, and_self, and_true, true_and, and_false, false_and, Bool.false_eq_true, Bool.not_false, Bool.not_true, rs]
    exact g3') (nI 0, σ) ⟨rfl, h, fr.rfl⟩
  refine ⟨s'.2, ⟨g2, g3⟩, fun rec => ?_⟩
  have rs : s'.2.1 1 0 = nI c := by rw [g3.1 _ _ (by omega)]; exact r0
  obtain ⟨f, hf⟩ := FU_n (n := c) (by omega)
  have e := g4 rec (f + 1)
  dsimp only at e
  rw [hf, e, g1, f_X12_layFars_91]
  clear g2 g3 h
  simp (disch := omega) only [e_bnd, e_bndV, e_lt, e_grd, e_lit, e_le1, e_le2, e_lt1, e_lt2, e_eq1, e_eq2, e_inb, e_ix, nI_add, pk_mul, e_sub, e_b0, e_b1, e_bz, e_bz0, e_bz1, Bool.and_true, Bool.true_and, ↓reduceIte, not_true_eq_false, not_false_eq_true, decide_false, decide_true, and_self, and_true, true_and, and_false, false_and, Bool.false_eq_true, Bool.not_false, Bool.not_true, rs]
theorem m_far79 {σ : Sg} {c : Nat} {D : Nat → Nat} (r0 : σ.1 1 0 = nI c) (c8 : c ≤ 8) (h : LM c σ D) (l : LE D) : ∃ σ', (LM c σ' (flo D c c) ∧ fr S10 σ σ') ∧ f_X12_layFars_79 FU (nI 0) σ = some σ' := by
  refine lpI (fun fu (q : Int32 × Sg) => f_X12_layFars_79 fu q.1 q.2) (fun i q => q.1 = nI i ∧ LM c q.2 (flo D c i) ∧ fr S10 σ q.2) c (fun r => ∃ σ', (LM c σ' (flo D c c) ∧ fr S10 σ σ') ∧ r = some σ') (fun i hi q hq => ?_) (fun q hq fu => ?_) FU (by unfold FU; omega) (nI 0, σ) ⟨rfl, h, fr.rfl⟩
  · obtain ⟨v, s⟩ := q
    obtain ⟨q1, q2, q3⟩ := hq
    dsimp only at q1 q2 q3
    subst q1
    have rs : s.1 1 0 = nI c := by rw [q3.1 _ _ (by omega)]; exact r0
    obtain ⟨s', ⟨g1, g2⟩, g3⟩ := m_far91 rs c8 q2 (LE_flo l i) hi
    refine ⟨(nI (i + 1), s'), ⟨rfl, g1, q3.trans g2⟩, fun fu => ?_⟩
    dsimp only
    rw [f_X12_layFars_79]
    have g3' := g3 (f_X12_layFars_79 fu)
    clear q2 q3 g1 g2 g3
    simp (disch := omega) only [e_bnd, e_bndV, e_lt, e_grd, e_lit, e_le1, e_le2, e_lt1, e_lt2, e_eq1, e_eq2, e_inb, e_ix, nI_add, pk_mul, e_sub, e_b0, e_b1, e_bz, e_bz0, e_bz1, Bool.and_true, Bool.true_and, ↓reduceIte, not_true_eq_false, not_false_eq_true, decide_false, decide_true, and_self, and_true, true_and, and_false, false_and, Bool.false_eq_true, Bool.not_false, Bool.not_true, rs]
    exact g3'
  · obtain ⟨v, s⟩ := q
    obtain ⟨q1, q2, q3⟩ := hq
    dsimp only at q1 q2 q3
    subst q1
    have rs : s.1 1 0 = nI c := by rw [q3.1 _ _ (by omega)]; exact r0
    refine ⟨s, ⟨q2, q3⟩, ?_⟩
    dsimp only
    rw [f_X12_layFars_79]
    clear q2 q3 h
    simp (disch := omega) only [e_bnd, e_bndV, e_lt, e_grd, e_lit, e_le1, e_le2, e_lt1, e_lt2, e_eq1, e_eq2, e_inb, e_ix, nI_add, pk_mul, e_sub, e_b0, e_b1, e_bz, e_bz0, e_bz1, Bool.and_true, Bool.true_and, ↓reduceIte, not_true_eq_false, not_false_eq_true, decide_false, decide_true, and_self, and_true, true_and, and_false, false_and, Bool.false_eq_true, Bool.not_false, Bool.not_true, rs]
theorem m_far14 {σ : Sg} {A : Nat → Nat} (hM : MA σ A) (c8 : A 0 ≤ 8) (hR : BR A) {i : Nat} (hi : i < A 0) (h : ∀ a b, a < i → b < A 0 → σ.1 10 (8 * a + b) = nI (D0 A 0 (8 * a + b))) : ∃ σ', ((∀ a b, a < i + 1 → b < A 0 → σ'.1 10 (8 * a + b) = nI (D0 A 0 (8 * a + b))) ∧ fr S10 σ σ') ∧ ∀ rec, f_X12_layFars_14 rec FU (nI i) (nI 0) σ = rec (nI (i + 1)) σ' := by
  have r0 := hM.1 0 (by decide) (by decide) (by decide)
  obtain ⟨s', ⟨g1, g2, g3⟩, g4⟩ := lpR (fun rec fu (q : Int32 × Sg) => f_X12_layFars_14 rec fu (nI i) q.1 q.2) (fun j q => q.1 = nI j ∧ (∀ a b, (a < i ∨ (a = i ∧ b < j)) → b < A 0 → q.2.1 10 (8 * a + b) = nI (D0 A 0 (8 * a + b))) ∧ fr S10 σ q.2) (A 0) (fun j hj q hq => by
    obtain ⟨v, s⟩ := q
    obtain ⟨q1, q2, q3⟩ := hq
    dsimp only at q1 q2 q3
    subst q1
    have hMs : MA s A := hM.of q3 (by intro a j q; omega)
    have rs := hMs.1 0 (by decide) (by decide) (by decide)
    have ml := m_lengthOf hMs (by omega : i < 8) (by omega : j < 8)
    have b1 := (hR i j (by omega) (by omega)).1
    refine ⟨(nI (j + 1), wI s 10 (8 * i + j) (nI (D0 A 0 (8 * i + j)))), ⟨rfl, fun a b hab hb => ?_, q3.trans (fr.w rfl)⟩, fun rec fu => ?_⟩
    · dsimp only
      by_cases z : 8 * a + b = 8 * i + j
      · rw [z, e_hit]
      · rw [e_ne2 z]; exact q2 a b (by omega) hb
    · dsimp only
      rw [f_X12_layFars_14]
      clear q2 q3 h
      have ed : D0 A 0 (8 * i + j) = if (8 * i + j) % 9 = 0 then 0 else if A (50 + 8 * i + j) = 0 then 1000000 else A (50 + 8 * i + j) := by
        unfold D0 bs0
        rw [if_pos (by omega), show 50 + (8 * i + j) = 50 + 8 * i + j by omega, if_pos rfl]
      by_cases z : i = j
      · rw [if_pos (by omega)] at ed
        simp (disch := omega) only [e_bnd, e_bndV, e_lt, e_grd, e_lit, e_le1, e_le2, e_lt1, e_lt2, e_eq1, e_eq2, e_inb, e_ix, nI_add, pk_mul, e_sub, e_b0, e_b1, e_bz, e_bz0, e_bz1, Bool.and_true, Bool.true_and, ↓reduceIte, not_true_eq_false, not_false_eq_true, decide_false, decide_true, and_self, and_true, true_and, and_false, false_and, Bool.false_eq_true, Bool.not_false, Bool.not_true, rs, ed, f_X12_layFars_64]
      · rw [if_neg (by omega)] at ed
        by_cases y : A (50 + 8 * i + j) = 0
        · rw [if_pos y] at ed
          simp (disch := omega) only [e_bnd, e_bndV, e_lt, e_grd, e_lit, e_le1, e_le2, e_lt1, e_lt2, e_eq1, e_eq2, e_inb, e_ix, nI_add, pk_mul, e_sub, e_b0, e_b1, e_bz, e_bz0, e_bz1, Bool.and_true, Bool.true_and, ↓reduceIte, not_true_eq_false, not_false_eq_true, decide_false, decide_true, and_self, and_true, true_and, and_false, false_and, Bool.false_eq_true, Bool.not_false, Bool.not_true, rs, ml, ed, f_X12_layFars_64]
        · rw [if_neg y] at ed
          simp (disch := omega) only [e_bnd, e_bndV, e_lt, e_grd, e_lit, e_le1, e_le2, e_lt1, e_lt2, e_eq1, e_eq2, e_inb, e_ix, nI_add, pk_mul, e_sub, e_b0, e_b1, e_bz, e_bz0, e_bz1, Bool.and_true, Bool.true_and, ↓reduceIte, not_true_eq_false, not_false_eq_true, decide_false, decide_true, and_self, and_true, true_and, and_false, false_and, Bool.false_eq_true, Bool.not_false, Bool.not_true, rs, ml, ed, f_X12_layFars_64]) (nI 0, σ) ⟨rfl, fun a b hab hb => h a b (by omega) hb, fr.rfl⟩
  refine ⟨s'.2, ⟨fun a b ha hb => g2 a b (by omega) hb, g3⟩, fun rec => ?_⟩
  have rs : s'.2.1 1 0 = nI (A 0) := by rw [g3.1 _ _ (by omega)]; exact r0
  obtain ⟨f, hf⟩ := FU_n (n := A 0) (by omega)
  have e := g4 rec (f + 1)
  dsimp only at e
  rw [hf, e, g1, f_X12_layFars_14]
  clear g2 g3 h
  simp (disch := omega) only [e_bnd, e_bndV, e_lt, e_grd, e_lit, e_le1, e_le2, e_lt1, e_lt2, e_eq1, e_eq2, e_inb, e_ix, nI_add, pk_mul, e_sub, e_b0, e_b1, e_bz, e_bz0, e_bz1, Bool.and_true, Bool.true_and, ↓reduceIte, not_true_eq_false, not_false_eq_true, decide_false, decide_true, and_self, and_true, true_and, and_false, false_and, Bool.false_eq_true, Bool.not_false, Bool.not_true, rs]
theorem m_layFars {σ : Sg} {A : Nat → Nat} (hM : MA σ A) (c8 : A 0 ≤ 8) (hR : BR A) : ∃ σ', (LM (A 0) σ' (flo (D0 A 0) (A 0) (A 0)) ∧ fr S10 σ σ') ∧ f_X12_layFars σ = some σ' := by
  unfold f_X12_layFars
  simp (disch := omega) only [e_lit]
  refine lpI (fun fu (q : Int32 × Sg) => f_X12_layFars_2 fu q.1 q.2) (fun i q => q.1 = nI i ∧ (∀ a b, a < i → b < A 0 → q.2.1 10 (8 * a + b) = nI (D0 A 0 (8 * a + b))) ∧ fr S10 σ q.2) (A 0) (fun r => ∃ σ', (LM (A 0) σ' (flo (D0 A 0) (A 0) (A 0)) ∧ fr S10 σ σ') ∧ r = some σ') (fun i hi q hq => ?_) (fun q hq fu => ?_) FU (by unfold FU; omega) (nI 0, σ) ⟨rfl, fun a b ha => absurd ha (by omega), fr.rfl⟩
  · obtain ⟨v, s⟩ := q
    obtain ⟨q1, q2, q3⟩ := hq
    dsimp only at q1 q2 q3
    subst q1
    have hMs : MA s A := hM.of q3 (by intro a j q; omega)
    have rs := hMs.1 0 (by decide) (by decide) (by decide)
    obtain ⟨s', ⟨g1, g2⟩, g3⟩ := m_far14 hMs c8 hR hi q2
    refine ⟨(nI (i + 1), s'), ⟨rfl, g1, q3.trans g2⟩, fun fu => ?_⟩
    dsimp only
    rw [f_X12_layFars_2]
    have g3' := g3 (f_X12_layFars_2 fu)
    clear q2 q3 g1 g2 g3
    simp (disch := omega) only [e_bnd, e_bndV, e_lt, e_grd, e_lit, e_le1, e_le2, e_lt1, e_lt2, e_eq1, e_eq2, e_inb, e_ix, nI_add, pk_mul, e_sub, e_b0, e_b1, e_bz, e_bz0, e_bz1, Bool.and_true, Bool.true_and, ↓reduceIte, not_true_eq_false, not_false_eq_true, decide_false, decide_true, and_self, and_true, true_and, and_false, false_and, Bool.false_eq_true, Bool.not_false, Bool.not_true, rs]
    exact g3'
  · obtain ⟨v, s⟩ := q
    obtain ⟨q1, q2, q3⟩ := hq
    dsimp only at q1 q2 q3
    subst q1
    have hMs : MA s A := hM.of q3 (by intro a j q; omega)
    have rs := hMs.1 0 (by decide) (by decide) (by decide)
    obtain ⟨s', ⟨g1, g2⟩, g3⟩ := m_far79 rs c8 q2 (D0_le hR 0)
    refine ⟨s', ⟨g1, q3.trans g2⟩, ?_⟩
    dsimp only
    rw [f_X12_layFars_2]
    clear q2 q3 g1 g2
    simp (disch := omega) only [e_bnd, e_bndV, e_lt, e_grd, e_lit, e_le1, e_le2, e_lt1, e_lt2, e_eq1, e_eq2, e_inb, e_ix, nI_add, pk_mul, e_sub, e_b0, e_b1, e_bz, e_bz0, e_bz1, Bool.and_true, Bool.true_and, ↓reduceIte, not_true_eq_false, not_false_eq_true, decide_false, decide_true, and_self, and_true, true_and, and_false, false_and, Bool.false_eq_true, Bool.not_false, Bool.not_true, rs]
    exact g3
theorem g_far {κ : Kd} {T : TD} (v w : Int32) : GO κ T (f_X11_far v w) (f_X12_far v w) := by
  intro σX σM ⟨A, B, I⟩
  have hM := I.2.1
  have hB := I.1.1
  have c8 := hB.1
  have hR := I.1.2.2.1
  unfold f_X11_far f_X12_far f_X11_far_28 f_X12_far_16 f_X11_far_66 f_X12_far_54
  rcases I.told v with ⟨e1, e2, _⟩ | ⟨h, hh, rfl, e1, e2⟩
  · exact I.q (r := -1) (by simp (disch := omega) only [e_bnd, e_bndV, e_lt, e_grd, e_lit, e_le1, e_le2, e_lt1, e_lt2, e_eq1, e_eq2, e_inb, e_ix, nI_add, pk_mul, e_sub, e_b0, e_b1, e_bz, e_bz0, e_bz1, Bool.and_true, Bool.true_and, ↓reduceIte, not_true_eq_false, not_false_eq_true, decide_false, decide_true, and_self, and_true, true_and, and_false, false_and, Bool.false_eq_true, Bool.not_false, Bool.not_true, e1]) (by simp (disch := omega) only [e_bnd, e_bndV, e_lt, e_grd, e_lit, e_le1, e_le2, e_lt1, e_lt2, e_eq1, e_eq2, e_inb, e_ix, nI_add, pk_mul, e_sub, e_b0, e_b1, e_bz, e_bz0, e_bz1, Bool.and_true, Bool.true_and, ↓reduceIte, not_true_eq_false, not_false_eq_true, decide_false, decide_true, and_self, and_true, true_and, and_false, false_and, Bool.false_eq_true, Bool.not_false, Bool.not_true, e2])
  rcases I.told w with ⟨d1, d2, _⟩ | ⟨e, he, rfl, d1, d2⟩
  · exact I.q (r := -1) (by simp (disch := omega) only [e_bnd, e_bndV, e_lt, e_grd, e_lit, e_le1, e_le2, e_lt1, e_lt2, e_eq1, e_eq2, e_inb, e_ix, nI_add, pk_mul, e_sub, e_b0, e_b1, e_bz, e_bz0, e_bz1, Bool.and_true, Bool.true_and, ↓reduceIte, not_true_eq_false, not_false_eq_true, decide_false, decide_true, and_self, and_true, true_and, and_false, false_and, Bool.false_eq_true, Bool.not_false, Bool.not_true, e1, d1]) (by simp (disch := omega) only [e_bnd, e_bndV, e_lt, e_grd, e_lit, e_le1, e_le2, e_lt1, e_lt2, e_eq1, e_eq2, e_inb, e_ix, nI_add, pk_mul, e_sub, e_b0, e_b1, e_bz, e_bz0, e_bz1, Bool.and_true, Bool.true_and, ↓reduceIte, not_true_eq_false, not_false_eq_true, decide_false, decide_true, and_self, and_true, true_and, and_false, false_and, Bool.false_eq_true, Bool.not_false, Bool.not_true, e2, d2])
  obtain ⟨sX, ⟨x1, x2⟩, x3⟩ := x_measure (m := 0) (by decide) I.xr hR (by decide)
  obtain ⟨sM, ⟨m1, m2⟩, m3⟩ := m_layFars hM c8 hR
  have c1 := x1 (8 * h + e) (by omega)
  have c2 := m1 h e hh he
  rw [flo_8 (D0_le hR 0) (D0_ou hR 0) c8] at c1
  have b := LE_flo (D0_le hR 0) (n := A 0) (A 0) (8 * h + e)
  have Inv' : Inv κ T sX sM := ⟨A, B, I.scr (x2.mono (fun a j q => by have q2 : a = 60 := q; omega)) (m2.mono (fun a j q => by have q2 : a = 10 := q; omega))⟩
  clear x1 x2 m1 m2 I
  by_cases z : flo (D0 A 0) (A 0) (A 0) (8 * h + e) < 1000000
  · refine ⟨nI (flo (D0 A 0) (A 0) (A 0) (8 * h + e)), sX, sM, ?_, ?_, Inv'⟩
    · simp (disch := omega) only [e_bnd, e_bndV, e_lt, e_grd, e_lit, e_le1, e_le2, e_lt1, e_lt2, e_eq1, e_eq2, e_inb, e_ix, nI_add, pk_mul, e_sub, e_b0, e_b1, e_bz, e_bz0, e_bz1, Bool.and_true, Bool.true_and, ↓reduceIte, not_true_eq_false, not_false_eq_true, decide_false, decide_true, and_self, and_true, true_and, and_false, false_and, Bool.false_eq_true, Bool.not_false, Bool.not_true, e1, d1, x3, f_X9_between, Nat.mul_comm h 8, c1]
    · simp (disch := omega) only [e_bnd, e_bndV, e_lt, e_grd, e_lit, e_le1, e_le2, e_lt1, e_lt2, e_eq1, e_eq2, e_inb, e_ix, nI_add, pk_mul, e_sub, e_b0, e_b1, e_bz, e_bz0, e_bz1, Bool.and_true, Bool.true_and, ↓reduceIte, not_true_eq_false, not_false_eq_true, decide_false, decide_true, and_self, and_true, true_and, and_false, false_and, Bool.false_eq_true, Bool.not_false, Bool.not_true, e2, d2, m3, c2]
  · refine ⟨-1, sX, sM, ?_, ?_, Inv'⟩
    · simp (disch := omega) only [e_bnd, e_bndV, e_lt, e_grd, e_lit, e_le1, e_le2, e_lt1, e_lt2, e_eq1, e_eq2, e_inb, e_ix, nI_add, pk_mul, e_sub, e_b0, e_b1, e_bz, e_bz0, e_bz1, Bool.and_true, Bool.true_and, ↓reduceIte, not_true_eq_false, not_false_eq_true, decide_false, decide_true, and_self, and_true, true_and, and_false, false_and, Bool.false_eq_true, Bool.not_false, Bool.not_true, e1, d1, x3, f_X9_between, Nat.mul_comm h 8, c1]
    · simp (disch := omega) only [e_bnd, e_bndV, e_lt, e_grd, e_lit, e_le1, e_le2, e_lt1, e_lt2, e_eq1, e_eq2, e_inb, e_ix, nI_add, pk_mul, e_sub, e_b0, e_b1, e_bz, e_bz0, e_bz1, Bool.and_true, Bool.true_and, ↓reduceIte, not_true_eq_false, not_false_eq_true, decide_false, decide_true, and_self, and_true, true_and, and_false, false_and, Bool.false_eq_true, Bool.not_false, Bool.not_true, e2, d2, m3, c2]
