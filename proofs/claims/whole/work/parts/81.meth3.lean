/-! METHODS: feed, end, fault, warmth, is, about, kept, warmest -/
theorem I2.hi {κ : Kd} {T : TD} {σX σX' σM σM' : Sg} {A B : Nat → Nat} (I : I2 κ T σX σM A B) (f : fr (fun a j => a = 14 ∨ a = 70 ∨ a = 0 ∨ a = 49 ∨ scrX a j) σX σX') (g : fr (fun a j => a = 4 ∨ a = 0 ∨ (a = 1 ∧ 114 ≤ j ∧ j < 138) ∨ scrM a j) σM σM') (h : HI σX' σM') : I2 κ T σX' σM' A B := by
  obtain ⟨i1, i2, i3, i4, i5, i6, i7, i8⟩ := I
  refine ⟨i1, ⟨fun j a b c => ?_, ?_⟩, ⟨i3.1.of (fun a j q _ => f.1 _ _ (by omega)), i3.2.1.of (fun a j q => f.1 _ _ (by omega)), i3.2.2.1.of (fun a j q => f.1 _ _ (by omega)), i3.2.2.2.1.of (fun a j q => f.1 _ _ (by omega)), i3.2.2.2.2.of (fun a j q => f.1 _ _ (by omega))⟩, i4, i5.of (fun j => g.1 _ _ (by omega)), i6.of (fun a j q => f.1 _ _ (by omega)), h, i8.of (fun a ha j => f.1 _ _ (by omega)) f.2 (fun j => g.1 _ _ (by omega)) rfl rfl⟩
  · rw [g.1 _ _ (by omega)]; exact i2.1 j a b c
  · rw [g.1 _ _ (by omega)]; exact i2.2
def TP (σX σM : Sg) (p : Nat) : Prop := σX.1 0 10 = nI p ∧ σM.1 0 4 = nI p ∧ ∀ i, i < p → ∃ b, b < 256 ∧ σX.1 70 i = nI b ∧ σM.1 4 i = nI b
theorem TP.put {σX σM : Sg} {p : Nat} (h : TP σX σM p) (x : Int32) : TP (wI (wI σX 70 p (x &&& 255)) 0 10 (nI (p + 1))) (wI (wI σM 4 p (x &&& 255)) 0 4 (nI (p + 1))) (p + 1) := by
  refine ⟨e_hit, e_hit, fun i hi => ?_⟩
  by_cases q : i = p
  · subst q
    obtain ⟨b, hb, e⟩ := pk_andE x (m := 255) 8 (by decide)
    refine ⟨b, hb, ?_, ?_⟩
    · rw [e_ne1 (by decide), e_hit, e]
    · rw [e_ne1 (by decide), e_hit, e]
  · obtain ⟨b, hb, e1, e2⟩ := h.2.2 i (by omega)
    exact ⟨b, hb, by rw [e_ne1 (by decide), e_ne2 q]; exact e1, by rw [e_ne1 (by decide), e_ne2 q]; exact e2⟩
theorem x_put1 {σ : Sg} {p : Nat} (fu : Nat) (v s : Int32) (hs : ¬ s < 0) (h : σ.1 0 10 = nI p) (hp : p < 300) : f_X11_putFour_3 (fu + 1) v s σ = f_X11_putFour_3 fu v (s + -8) (wI (wI σ 70 p (shr v s &&& 255)) 0 10 (nI (p + 1))) := by
  rw [f_X11_putFour_3, if_neg hs]
  simp (disch := omega) only [h, e_bnd, e_lt, e_grd, e_le2, e_ix, e_inb, ↓reduceIte, Bool.and_true, f_X11_putFour_43, e_ne1, nI_1, show (300 : Int32) = nI 300 from rfl]
theorem m_put1 {σ : Sg} {p : Nat} (fu : Nat) (v s : Int32) (hs : ¬ s < 0) (h : σ.1 0 4 = nI p) (hp : p < 300) : f_X12_four_3 (fu + 1) v s σ = f_X12_four_3 fu v (s + -8) (wI (wI σ 4 p (shr v s &&& 255)) 0 4 (nI (p + 1))) := by
  rw [f_X12_four_3, if_neg hs]
  simp (disch := omega) only [h, e_bnd, e_lt, e_grd, e_le2, e_ix, e_inb, ↓reduceIte, Bool.and_true, e_ne1, nI_1]
abbrev zTX : Nat → Nat → Prop := fun a j => a = 70 ∨ (a = 0 ∧ j = 10)
abbrev zTM : Nat → Nat → Prop := fun a j => a = 4 ∨ (a = 0 ∧ j = 4)
theorem TP.four {σX σM : Sg} {p : Nat} (h : TP σX σM p) (hp : p + 4 ≤ 300) (v : Int32) : ∃ σX' σM', f_X11_putFour v σX = some σX' ∧ f_X12_four v σM = some σM' ∧ TP σX' σM' (p + 4) ∧ fr zTX σX σX' ∧ fr zTM σM σM' := by
  have h1 := h.put (shr v 24)
  have h2 := h1.put (shr v 16)
  have h3 := h2.put (shr v 8)
  have h4 := h3.put (shr v 0)
  refine ⟨_, _, ?_, ?_, h4, (((((fr.w (by omega)).trans (fr.w (by omega))).trans (fr.w (by omega))).trans (fr.w (by omega))).trans ((fr.w (by omega)).trans (fr.w (by omega)))).trans ((fr.w (by omega)).trans (fr.w (by omega))), (((((fr.w (by omega)).trans (fr.w (by omega))).trans (fr.w (by omega))).trans (fr.w (by omega))).trans ((fr.w (by omega)).trans (fr.w (by omega)))).trans ((fr.w (by omega)).trans (fr.w (by omega)))⟩
  · show f_X11_putFour_3 (3995 + 5) v 24 σX = _
    rw [x_put1 _ v 24 (by decide) h.1 (by omega), show (24 : Int32) + -8 = 16 by decide, x_put1 _ v 16 (by decide) h1.1 (by omega), show (16 : Int32) + -8 = 8 by decide, x_put1 _ v 8 (by decide) h2.1 (by omega), show (8 : Int32) + -8 = 0 by decide, x_put1 _ v 0 (by decide) h3.1 (by omega), show (0 : Int32) + -8 = -8 by decide, f_X11_putFour_3, if_pos (by decide)]
  · show f_X12_four_3 (3995 + 5) v 24 σM = _
    rw [m_put1 _ v 24 (by decide) h.2.1 (by omega), show (24 : Int32) + -8 = 16 by decide, m_put1 _ v 16 (by decide) h1.2.1 (by omega), show (16 : Int32) + -8 = 8 by decide, m_put1 _ v 8 (by decide) h2.2.1 (by omega), show (8 : Int32) + -8 = 0 by decide, m_put1 _ v 0 (by decide) h3.2.1 (by omega), show (0 : Int32) + -8 = -8 by decide, f_X12_four_3, if_pos (by decide)]
theorem I2.tape {κ : Kd} {T : TD} {σX σX' σM σM' : Sg} {A B : Nat → Nat} (I : I2 κ T σX σM A B) (f : fr zTX σX σX') (g : fr zTM σM σM') {p : Nat} (hp : p ≤ 300) (h : TP σX' σM' p) : I2 κ T σX' σM' A B := by
  refine I.hi (f.mono (fun a j q => by omega)) (g.mono (fun a j q => by omega)) ?_
  obtain ⟨h1, h2, h3, h4⟩ := I.2.2.2.2.2.2.1
  refine ⟨fun k hk => ?_, ⟨p, hp, h.1, h.2.1, h.2.2⟩, ?_, by rw [g.1 _ _ (by omega)]; exact h4⟩
  · rw [f.1 _ _ (by omega), f.1 _ _ (by omega), g.1 _ _ (by omega), g.1 _ _ (by omega)]; exact h1 k hk
  · rw [f.1 _ _ (by omega), f.1 _ _ (by omega), f.1 _ _ (by omega), g.1 _ _ (by omega), g.1 _ _ (by omega)]; exact h3
theorem g_feed {κ : Kd} {T : TD} (a b c d e : Int32) : GO κ T (f_X11_feed a b c d e) (f_X12_feed a b c d e) := by
  intro σX σM ⟨A, B, I⟩
  obtain ⟨p, hp, t1, t2, t3⟩ := I.2.2.2.2.2.2.1.2.1
  have T : TP σX σM p := ⟨t1, t2, t3⟩
  unfold f_X11_feed f_X12_feed
  by_cases hl : p ≤ 280
  · obtain ⟨x1, m1, a1, b1, T1, f1, g1⟩ := T.four (by omega) a
    obtain ⟨x2, m2, a2, b2, T2, f2, g2⟩ := T1.four (by omega) b
    obtain ⟨x3, m3, a3, b3, T3, f3, g3⟩ := T2.four (by omega) c
    obtain ⟨x4, m4, a4, b4, T4, f4, g4⟩ := T3.four (by omega) d
    obtain ⟨x5, m5, a5, b5, T5, f5, g5⟩ := T4.four (by omega) e
    refine ⟨nI (p + 4 + 4 + 4 + 4 + 4), x5, m5, ?_, ?_, A, B, I.tape ((((f1.trans f2).trans f3).trans f4).trans f5) ((((g1.trans g2).trans g3).trans g4).trans g5) (by omega) T5⟩
    · simp (disch := omega) only [e_bnd, e_bndV, e_lt, e_grd, e_lit, e_le1, e_le2, e_lt1, e_lt2, e_eq1, e_eq2, e_inb, e_ix, nI_add, pk_mul, e_sub, e_b0, e_b1, e_bz, e_bz0, e_bz1, Bool.and_true, Bool.true_and, ↓reduceIte, not_true_eq_false, not_false_eq_true, decide_false, decide_true, and_self, and_true, true_and, and_false, false_and, Bool.false_eq_true, Bool.not_false, Bool.not_true, t1, a1, a2, a3, a4, a5, T5.1]
    · simp (disch := omega) only [e_bnd, e_bndV, e_lt, e_grd, e_lit, e_le1, e_le2, e_lt1, e_lt2, e_eq1, e_eq2, e_inb, e_ix, nI_add, pk_mul, e_sub, e_b0, e_b1, e_bz, e_bz0, e_bz1, Bool.and_true, Bool.true_and, ↓reduceIte, not_true_eq_false, not_false_eq_true, decide_false, decide_true, and_self, and_true, true_and, and_false, false_and, Bool.false_eq_true, Bool.not_false, Bool.not_true, t2, b1, b2, b3, b4, b5, T5.2.1]
  · exact ⟨-1, σX, σM, by simp (disch := omega) only [e_bnd, e_bndV, e_lt, e_grd, e_lit, e_le1, e_le2, e_lt1, e_lt2, e_eq1, e_eq2, e_inb, e_ix, nI_add, pk_mul, e_sub, e_b0, e_b1, e_bz, e_bz0, e_bz1, Bool.and_true, Bool.true_and, ↓reduceIte, not_true_eq_false, not_false_eq_true, decide_false, decide_true, and_self, and_true, true_and, and_false, false_and, Bool.false_eq_true, Bool.not_false, Bool.not_true, t1], by simp (disch := omega) only [e_bnd, e_bndV, e_lt, e_grd, e_lit, e_le1, e_le2, e_lt1, e_lt2, e_eq1, e_eq2, e_inb, e_ix, nI_add, pk_mul, e_sub, e_b0, e_b1, e_bz, e_bz0, e_bz1, Bool.and_true, Bool.true_and, ↓reduceIte, not_true_eq_false, not_false_eq_true, decide_false, decide_true, and_self, and_true, true_and, and_false, false_and, Bool.false_eq_true, Bool.not_false, Bool.not_true, t2], A, B, I⟩
theorem g_end {κ : Kd} {T : TD} (v : Int32) : GO κ T (f_X11_end v) (f_X12_end v) := by
  intro σX σM ⟨A, B, I⟩
  obtain ⟨p, hp, t1, t2, t3⟩ := I.2.2.2.2.2.2.1.2.1
  unfold f_X11_end f_X12_end
  rcases rng v 0 p (by decide) (by omega) with hn | ⟨n, _, hn, rfl⟩
  · exact ⟨-1, σX, σM, by simp (disch := omega) only [e_bnd, e_bndV, e_lt, e_grd, e_lit, e_le1, e_le2, e_lt1, e_lt2, e_eq1, e_eq2, e_inb, e_ix, nI_add, pk_mul, e_sub, e_b0, e_b1, e_bz, e_bz0, e_bz1, Bool.and_true, Bool.true_and, ↓reduceIte, not_true_eq_false, not_false_eq_true, decide_false, decide_true, and_self, and_true, true_and, and_false, false_and, Bool.false_eq_true, Bool.not_false, Bool.not_true, t1, x_within, hn], by simp (disch := omega) only [e_bnd, e_bndV, e_lt, e_grd, e_lit, e_le1, e_le2, e_lt1, e_lt2, e_eq1, e_eq2, e_inb, e_ix, nI_add, pk_mul, e_sub, e_b0, e_b1, e_bz, e_bz0, e_bz1, Bool.and_true, Bool.true_and, ↓reduceIte, not_true_eq_false, not_false_eq_true, decide_false, decide_true, and_self, and_true, true_and, and_false, false_and, Bool.false_eq_true, Bool.not_false, Bool.not_true, t2, m_isIn, hn], A, B, I⟩
  · refine ⟨nI n, wI σX 0 10 (nI n), wI σM 0 4 (nI n), by simp (disch := omega) only [e_bnd, e_bndV, e_lt, e_grd, e_lit, e_le1, e_le2, e_lt1, e_lt2, e_eq1, e_eq2, e_inb, e_ix, nI_add, pk_mul, e_sub, e_b0, e_b1, e_bz, e_bz0, e_bz1, Bool.and_true, Bool.true_and, ↓reduceIte, not_true_eq_false, not_false_eq_true, decide_false, decide_true, and_self, and_true, true_and, and_false, false_and, Bool.false_eq_true, Bool.not_false, Bool.not_true, t1, x_within], by simp (disch := omega) only [e_bnd, e_bndV, e_lt, e_grd, e_lit, e_le1, e_le2, e_lt1, e_lt2, e_eq1, e_eq2, e_inb, e_ix, nI_add, pk_mul, e_sub, e_b0, e_b1, e_bz, e_bz0, e_bz1, Bool.and_true, Bool.true_and, ↓reduceIte, not_true_eq_false, not_false_eq_true, decide_false, decide_true, and_self, and_true, true_and, and_false, false_and, Bool.false_eq_true, Bool.not_false, Bool.not_true, t2, m_isIn], A, B, I.tape (fr.w (by omega)) (fr.w (by omega)) (p := n) (by omega) ⟨e_hit, e_hit, fun i hi => ?_⟩⟩
    rw [e_ne1 (by decide), e_ne1 (by decide)]
    exact t3 i (by omega)
theorem g_fault {κ : Kd} {T : TD} (v : Int32) : GO κ T (f_X11_fault v) (f_X12_fault v) := by
  intro σX σM ⟨A, B, I⟩
  have h := I.2.2.2.2.2.2.1.2.2.1
  unfold f_X11_fault f_X11_fault_19 f_X11_fault_42 f_X12_fault f_X12_fault_24
  rcases rng v 0 1 (by decide) (by decide) with hn | ⟨n, _, hn, rfl⟩
  · have n0 : ¬ v = 0 := fun q => hn (by subst q; decide)
    have n1 : ¬ v = 1 := fun q => hn (by subst q; decide)
    refine ⟨-1, σX, σM, ?_, by rw [if_neg n0, if_neg n1], A, B, I⟩
    rcases h with ⟨h1, _⟩ | ⟨h1, _⟩
    · simp (disch := omega) only [e_bnd, e_bndV, e_lt, e_grd, e_lit, e_le1, e_le2, e_lt1, e_lt2, e_eq1, e_eq2, e_inb, e_ix, nI_add, pk_mul, e_sub, e_b0, e_b1, e_bz, e_bz0, e_bz1, Bool.and_true, Bool.true_and, ↓reduceIte, not_true_eq_false, not_false_eq_true, decide_false, decide_true, and_self, and_true, true_and, and_false, false_and, Bool.false_eq_true, Bool.not_false, Bool.not_true, h1]
    · simp (disch := omega) only [e_bnd, e_bndV, e_lt, e_grd, e_lit, e_le1, e_le2, e_lt1, e_lt2, e_eq1, e_eq2, e_inb, e_ix, nI_add, pk_mul, e_sub, e_b0, e_b1, e_bz, e_bz0, e_bz1, Bool.and_true, Bool.true_and, ↓reduceIte, not_true_eq_false, not_false_eq_true, decide_false, decide_true, and_self, and_true, true_and, and_false, false_and, Bool.false_eq_true, Bool.not_false, Bool.not_true, h1, x_within, hn]
  · have : n = 0 ∨ n = 1 := by omega
    rcases this with rfl | rfl
    · refine ⟨σM.1 0 5, σX, σM, ?_, if_pos rfl, A, B, I⟩
      rcases h with ⟨h1, h2, _⟩ | ⟨h1, h2, _⟩
      · simp (disch := omega) only [e_bnd, e_bndV, e_lt, e_grd, e_lit, e_le1, e_le2, e_lt1, e_lt2, e_eq1, e_eq2, e_inb, e_ix, nI_add, pk_mul, e_sub, e_b0, e_b1, e_bz, e_bz0, e_bz1, Bool.and_true, Bool.true_and, ↓reduceIte, not_true_eq_false, not_false_eq_true, decide_false, decide_true, and_self, and_true, true_and, and_false, false_and, Bool.false_eq_true, Bool.not_false, Bool.not_true, h1, h2]
      · simp (disch := omega) only [e_bnd, e_bndV, e_lt, e_grd, e_lit, e_le1, e_le2, e_lt1, e_lt2, e_eq1, e_eq2, e_inb, e_ix, nI_add, pk_mul, e_sub, e_b0, e_b1, e_bz, e_bz0, e_bz1, Bool.and_true, Bool.true_and, ↓reduceIte, not_true_eq_false, not_false_eq_true, decide_false, decide_true, and_self, and_true, true_and, and_false, false_and, Bool.false_eq_true, Bool.not_false, Bool.not_true, h1, h2, x_within]
    · refine ⟨σM.1 0 6, σX, σM, ?_, by rw [if_neg (by decide)]; exact if_pos rfl, A, B, I⟩
      rcases h with ⟨h1, _, h2⟩ | ⟨h1, _, h2⟩
      · simp (disch := omega) only [e_bnd, e_bndV, e_lt, e_grd, e_lit, e_le1, e_le2, e_lt1, e_lt2, e_eq1, e_eq2, e_inb, e_ix, nI_add, pk_mul, e_sub, e_b0, e_b1, e_bz, e_bz0, e_bz1, Bool.and_true, Bool.true_and, ↓reduceIte, not_true_eq_false, not_false_eq_true, decide_false, decide_true, and_self, and_true, true_and, and_false, false_and, Bool.false_eq_true, Bool.not_false, Bool.not_true, h1, h2]
      · simp (disch := omega) only [e_bnd, e_bndV, e_lt, e_grd, e_lit, e_le1, e_le2, e_lt1, e_lt2, e_eq1, e_eq2, e_inb, e_ix, nI_add, pk_mul, e_sub, e_b0, e_b1, e_bz, e_bz0, e_bz1, Bool.and_true, Bool.true_and, ↓reduceIte, not_true_eq_false, not_false_eq_true, decide_false, decide_true, and_self, and_true, true_and, and_false, false_and, Bool.false_eq_true, Bool.not_false, Bool.not_true, h1, h2, x_within]
theorem g_warmth {κ : Kd} {T : TD} (v w : Int32) : GO κ T (f_X11_warmth v w) (f_X12_warmth v w) := by
  intro σX σM ⟨A, B, I⟩
  unfold f_X11_warmth f_X11_warmth_21 f_X12_warmth f_X12_warmth_21
  rcases rng v 0 23 (by decide) (by decide) with hn | ⟨n, _, hn, rfl⟩
  · exact ⟨0, σX, σM, by simp (disch := omega) only [e_bnd, e_bndV, e_lt, e_grd, e_lit, e_le1, e_le2, e_lt1, e_lt2, e_eq1, e_eq2, e_inb, e_ix, nI_add, pk_mul, e_sub, e_b0, e_b1, e_bz, e_bz0, e_bz1, Bool.and_true, Bool.true_and, ↓reduceIte, not_true_eq_false, not_false_eq_true, decide_false, decide_true, and_self, and_true, true_and, and_false, false_and, Bool.false_eq_true, Bool.not_false, Bool.not_true, x_within, hn], by simp (disch := omega) only [e_bnd, e_bndV, e_lt, e_grd, e_lit, e_le1, e_le2, e_lt1, e_lt2, e_eq1, e_eq2, e_inb, e_ix, nI_add, pk_mul, e_sub, e_b0, e_b1, e_bz, e_bz0, e_bz1, Bool.and_true, Bool.true_and, ↓reduceIte, not_true_eq_false, not_false_eq_true, decide_false, decide_true, and_self, and_true, true_and, and_false, false_and, Bool.false_eq_true, Bool.not_false, Bool.not_true, m_isIn, hn], A, B, I⟩
  by_cases hw : (-99 : Int32) ≤ w ∧ w ≤ 99
  · refine ⟨1, wI σX 14 n w, wI σM 1 (114 + n) w, ?_, ?_, A, B, I.hi (fr.w (by omega)) (fr.w (by omega)) ?_⟩
    · have hw2 : -nI 99 ≤ w ∧ w ≤ nI 99 := hw
      simp (disch := omega) only [e_bnd, e_bndV, e_lt, e_grd, e_lit, e_le1, e_le2, e_lt1, e_lt2, e_eq1, e_eq2, e_inb, e_ix, nI_add, pk_mul, e_sub, e_b0, e_b1, e_bz, e_bz0, e_bz1, Bool.and_true, Bool.true_and, ↓reduceIte, not_true_eq_false, not_false_eq_true, decide_false, decide_true, and_self, and_true, true_and, and_false, false_and, Bool.false_eq_true, Bool.not_false, Bool.not_true, x_within, hw2]
    · have hw2 : -nI 99 ≤ w ∧ w ≤ nI 99 := hw
      simp (disch := omega) only [e_bnd, e_bndV, e_lt, e_grd, e_lit, e_le1, e_le2, e_lt1, e_lt2, e_eq1, e_eq2, e_inb, e_ix, nI_add, pk_mul, e_sub, e_b0, e_b1, e_bz, e_bz0, e_bz1, Bool.and_true, Bool.true_and, ↓reduceIte, not_true_eq_false, not_false_eq_true, decide_false, decide_true, and_self, and_true, true_and, and_false, false_and, Bool.false_eq_true, Bool.not_false, Bool.not_true, m_isIn, hw2]
    · obtain ⟨h1, ⟨p, t0, t1, t2, t3⟩, h3, h4⟩ := I.2.2.2.2.2.2.1
      have hwo : wOK w := by
        have q1 := Int32.le_iff_toInt_le.mp hw.1
        have q2 := Int32.le_iff_toInt_le.mp hw.2
        exact ⟨q1, q2⟩
      refine ⟨fun k hk => ?_, ⟨p, t0, by rw [e_ne1 (by decide)]; exact t1, by rw [e_ne1 (by decide)]; exact t2, fun i hi => by rw [e_ne1 (by decide), e_ne1 (by decide)]; exact t3 i hi⟩, by rw [e_ne1 (by decide), e_ne1 (by decide), e_ne1 (by decide), e_ne1 (by decide), e_ne1 (by decide)]; exact h3, by rw [e_ne1 (by decide)]; exact h4⟩
      obtain ⟨k1, k2, k3, k4⟩ := h1 k hk
      by_cases q : k = n
      · subst q
        rw [e_hit, e_hit, e_ne1 (by decide), e_ne1 (by decide)]
        exact ⟨rfl, k2, hwo, k4⟩
      · rw [e_ne2 q, e_ne2 (by omega), e_ne1 (by decide), e_ne1 (by decide)]
        exact ⟨k1, k2, k3, k4⟩
  · refine ⟨0, σX, σM, ?_, ?_, A, B, I⟩
    · have hw2 : ¬ (-nI 99 ≤ w ∧ w ≤ nI 99) := hw
      simp (disch := omega) only [e_bnd, e_bndV, e_lt, e_grd, e_lit, e_le1, e_le2, e_lt1, e_lt2, e_eq1, e_eq2, e_inb, e_ix, nI_add, pk_mul, e_sub, e_b0, e_b1, e_bz, e_bz0, e_bz1, Bool.and_true, Bool.true_and, ↓reduceIte, not_true_eq_false, not_false_eq_true, decide_false, decide_true, and_self, and_true, true_and, and_false, false_and, Bool.false_eq_true, Bool.not_false, Bool.not_true, x_within, hw2]
    · have hw2 : ¬ (-nI 99 ≤ w ∧ w ≤ nI 99) := hw
      simp (disch := omega) only [e_bnd, e_bndV, e_lt, e_grd, e_lit, e_le1, e_le2, e_lt1, e_lt2, e_eq1, e_eq2, e_inb, e_ix, nI_add, pk_mul, e_sub, e_b0, e_b1, e_bz, e_bz0, e_bz1, Bool.and_true, Bool.true_and, ↓reduceIte, not_true_eq_false, not_false_eq_true, decide_false, decide_true, and_self, and_true, true_and, and_false, false_and, Bool.false_eq_true, Bool.not_false, Bool.not_true, m_isIn, hw2]
theorem g_is {κ : Kd} {T : TD} (v : Int32) : GO κ T (f_X11_is v) (f_X12_is v) := by
  intro σX σM ⟨A, B, I⟩
  have hM := I.2.1
  have hX := I.2.2.1.1
  have hb1 := x_bell hX I.1.1
  have hb2 := m_isBell hM I.1.1
  have r6 := hM.1 6 (by decide) (by decide) (by decide)
  have r7 := hM.1 7 (by decide) (by decide) (by decide)
  have r8 := hM.1 8 (by decide) (by decide) (by decide)
  have x5 : σX.1 2 5 = nI (A 6) := hX.2.1
  have x6 : σX.1 2 6 = nI (A 7) := hX.2.2.1
  have x7 : σX.1 2 7 = nI (A 8) := hX.2.2.2.1
  change f_X8_bell 2 σX = _ at hb1
  unfold f_X11_is f_X11_is_61 f_X12_is f_X12_is_52
  by_cases h0 : v = 0
  · subst h0
    exact ⟨nI (A 6), σX, σM, by simp (disch := omega) only [e_bnd, e_bndV, e_lt, e_grd, e_lit, e_le1, e_le2, e_lt1, e_lt2, e_eq1, e_eq2, e_inb, e_ix, nI_add, pk_mul, e_sub, e_b0, e_b1, e_bz, e_bz0, e_bz1, Bool.and_true, Bool.true_and, ↓reduceIte, not_true_eq_false, not_false_eq_true, decide_false, decide_true, and_self, and_true, true_and, and_false, false_and, Bool.false_eq_true, Bool.not_false, Bool.not_true, x5], by simp (disch := omega) only [e_bnd, e_bndV, e_lt, e_grd, e_lit, e_le1, e_le2, e_lt1, e_lt2, e_eq1, e_eq2, e_inb, e_ix, nI_add, pk_mul, e_sub, e_b0, e_b1, e_bz, e_bz0, e_bz1, Bool.and_true, Bool.true_and, ↓reduceIte, not_true_eq_false, not_false_eq_true, decide_false, decide_true, and_self, and_true, true_and, and_false, false_and, Bool.false_eq_true, Bool.not_false, Bool.not_true, r6], A, B, I⟩
  by_cases h1 : v = 1
  · subst h1
    refine ⟨if 20 ≤ A 6 % 24 ∨ A 6 % 24 < 6 then nI 1 else nI 0, σX, σM, ?_, ?_, A, B, I⟩
    · by_cases hl : 20 ≤ A 6 % 24 ∨ A 6 % 24 < 6
      · rw [if_pos hl] at hb1 ⊢
        simp (disch := omega) only [e_bnd, e_bndV, e_lt, e_grd, e_lit, e_le1, e_le2, e_lt1, e_lt2, e_eq1, e_eq2, e_inb, e_ix, nI_add, pk_mul, e_sub, e_b0, e_b1, e_bz, e_bz0, e_bz1, Bool.and_true, Bool.true_and, ↓reduceIte, not_true_eq_false, not_false_eq_true, decide_false, decide_true, and_self, and_true, true_and, and_false, false_and, Bool.false_eq_true, Bool.not_false, Bool.not_true, hb1]
      · rw [if_neg hl] at hb1 ⊢
        simp (disch := omega) only [e_bnd, e_bndV, e_lt, e_grd, e_lit, e_le1, e_le2, e_lt1, e_lt2, e_eq1, e_eq2, e_inb, e_ix, nI_add, pk_mul, e_sub, e_b0, e_b1, e_bz, e_bz0, e_bz1, Bool.and_true, Bool.true_and, ↓reduceIte, not_true_eq_false, not_false_eq_true, decide_false, decide_true, and_self, and_true, true_and, and_false, false_and, Bool.false_eq_true, Bool.not_false, Bool.not_true, hb1]
    · by_cases hl : 20 ≤ A 6 % 24 ∨ A 6 % 24 < 6
      · rw [if_pos hl] at hb2 ⊢
        simp (disch := omega) only [e_bnd, e_bndV, e_lt, e_grd, e_lit, e_le1, e_le2, e_lt1, e_lt2, e_eq1, e_eq2, e_inb, e_ix, nI_add, pk_mul, e_sub, e_b0, e_b1, e_bz, e_bz0, e_bz1, Bool.and_true, Bool.true_and, ↓reduceIte, not_true_eq_false, not_false_eq_true, decide_false, decide_true, and_self, and_true, true_and, and_false, false_and, Bool.false_eq_true, Bool.not_false, Bool.not_true, hb2]
      · rw [if_neg hl] at hb2 ⊢
        simp (disch := omega) only [e_bnd, e_bndV, e_lt, e_grd, e_lit, e_le1, e_le2, e_lt1, e_lt2, e_eq1, e_eq2, e_inb, e_ix, nI_add, pk_mul, e_sub, e_b0, e_b1, e_bz, e_bz0, e_bz1, Bool.and_true, Bool.true_and, ↓reduceIte, not_true_eq_false, not_false_eq_true, decide_false, decide_true, and_self, and_true, true_and, and_false, false_and, Bool.false_eq_true, Bool.not_false, Bool.not_true, hb2]
  by_cases h2 : v = 2
  · subst h2
    exact ⟨nI (A 7), σX, σM, by simp (disch := omega) only [e_bnd, e_bndV, e_lt, e_grd, e_lit, e_le1, e_le2, e_lt1, e_lt2, e_eq1, e_eq2, e_inb, e_ix, nI_add, pk_mul, e_sub, e_b0, e_b1, e_bz, e_bz0, e_bz1, Bool.and_true, Bool.true_and, ↓reduceIte, not_true_eq_false, not_false_eq_true, decide_false, decide_true, and_self, and_true, true_and, and_false, false_and, Bool.false_eq_true, Bool.not_false, Bool.not_true, x6], by simp (disch := omega) only [e_bnd, e_bndV, e_lt, e_grd, e_lit, e_le1, e_le2, e_lt1, e_lt2, e_eq1, e_eq2, e_inb, e_ix, nI_add, pk_mul, e_sub, e_b0, e_b1, e_bz, e_bz0, e_bz1, Bool.and_true, Bool.true_and, ↓reduceIte, not_true_eq_false, not_false_eq_true, decide_false, decide_true, and_self, and_true, true_and, and_false, false_and, Bool.false_eq_true, Bool.not_false, Bool.not_true, r7], A, B, I⟩
  by_cases h3 : v = 3
  · subst h3
    exact ⟨nI (A 8), σX, σM, by simp (disch := omega) only [e_bnd, e_bndV, e_lt, e_grd, e_lit, e_le1, e_le2, e_lt1, e_lt2, e_eq1, e_eq2, e_inb, e_ix, nI_add, pk_mul, e_sub, e_b0, e_b1, e_bz, e_bz0, e_bz1, Bool.and_true, Bool.true_and, ↓reduceIte, not_true_eq_false, not_false_eq_true, decide_false, decide_true, and_self, and_true, true_and, and_false, false_and, Bool.false_eq_true, Bool.not_false, Bool.not_true, x7], by simp (disch := omega) only [e_bnd, e_bndV, e_lt, e_grd, e_lit, e_le1, e_le2, e_lt1, e_lt2, e_eq1, e_eq2, e_inb, e_ix, nI_add, pk_mul, e_sub, e_b0, e_b1, e_bz, e_bz0, e_bz1, Bool.and_true, Bool.true_and, ↓reduceIte, not_true_eq_false, not_false_eq_true, decide_false, decide_true, and_self, and_true, true_and, and_false, false_and, Bool.false_eq_true, Bool.not_false, Bool.not_true, r8], A, B, I⟩
  exact ⟨-2, σX, σM, by rw [if_neg h0, if_neg h1, if_neg h2, if_neg h3], by rw [if_neg h0, if_neg h1, if_neg h2, if_neg h3], A, B, I⟩
theorem g_about {κ : Kd} {T : TD} (v : Int32) : GO κ T (f_X11_about v) (f_X12_about v) := by
  intro σX σM ⟨A, B, I⟩
  have hM := I.2.1
  have hX := I.2.2.1.1
  obtain ⟨p, hp, t1, t2, t3⟩ := I.2.2.2.2.2.2.1.2.1
  obtain ⟨o1, o2, o3, o4, o5⟩ := I.2.2.1.2.2.2.2
  obtain ⟨f, _, _, p2, _⟩ := I.2.2.1.2.2.2.1
  change σX.1 11 2 = _ at p2
  have x0 : σX.1 2 0 = nI (A 0) := hX.1
  have r0 := hM.1 0 (by decide) (by decide) (by decide)
  have r1 := hM.1 1 (by decide) (by decide) (by decide)
  have r3 := hM.1 3 (by decide) (by decide) (by decide)
  have r4 := hM.1 4 (by decide) (by decide) (by decide)
  have r5 := hM.1 5 (by decide) (by decide) (by decide)
  have r2 := hM.2
  unfold f_X11_about f_X12_about f_X12_about_33
  rcases rng v 0 6 (by decide) (by decide) with hn | ⟨n, _, hn, rfl⟩
  · have h5 : ¬ (nI 0 ≤ v ∧ v ≤ nI 5) := fun q => hn ⟨q.1, Int32.le_trans q.2 (by decide)⟩
    have hne : ∀ k, k ≤ 6 → ¬ v = nI k := fun k hk q => hn (by subst q; exact ⟨nI_pos' (by omega), nI_le hk (by decide)⟩)
    have n0 := hne 0 (by decide)
    have n1 := hne 1 (by decide)
    have n2 := hne 2 (by decide)
    have n3 := hne 3 (by decide)
    have n4 := hne 4 (by decide)
    have n5 := hne 5 (by decide)
    have n6 := hne 6 (by decide)
    exact ⟨-2, σX, σM, by simp (disch := omega) only [e_bnd, e_bndV, e_lt, e_grd, e_lit, e_le1, e_le2, e_lt1, e_lt2, e_eq1, e_eq2, e_inb, e_ix, nI_add, pk_mul, e_sub, e_b0, e_b1, e_bz, e_bz0, e_bz1, Bool.and_true, Bool.true_and, ↓reduceIte, not_true_eq_false, not_false_eq_true, decide_false, decide_true, and_self, and_true, true_and, and_false, false_and, Bool.false_eq_true, Bool.not_false, Bool.not_true, n0, n1, n2, n3, n4, n5, n6], by simp (disch := omega) only [e_bnd, e_bndV, e_lt, e_grd, e_lit, e_le1, e_le2, e_lt1, e_lt2, e_eq1, e_eq2, e_inb, e_ix, nI_add, pk_mul, e_sub, e_b0, e_b1, e_bz, e_bz0, e_bz1, Bool.and_true, Bool.true_and, ↓reduceIte, not_true_eq_false, not_false_eq_true, decide_false, decide_true, and_self, and_true, true_and, and_false, false_and, Bool.false_eq_true, Bool.not_false, Bool.not_true, m_isIn, h5, n6], A, B, I⟩
  · have : n = 0 ∨ n = 1 ∨ n = 2 ∨ n = 3 ∨ n = 4 ∨ n = 5 ∨ n = 6 := by omega
    rcases this with rfl | rfl | rfl | rfl | rfl | rfl | rfl
    · exact ⟨nI (A 0), σX, σM, by simp (disch := omega) only [e_bnd, e_bndV, e_lt, e_grd, e_lit, e_le1, e_le2, e_lt1, e_lt2, e_eq1, e_eq2, e_inb, e_ix, nI_add, pk_mul, e_sub, e_b0, e_b1, e_bz, e_bz0, e_bz1, Bool.and_true, Bool.true_and, ↓reduceIte, not_true_eq_false, not_false_eq_true, decide_false, decide_true, and_self, and_true, true_and, and_false, false_and, Bool.false_eq_true, Bool.not_false, Bool.not_true, x0], by simp (disch := omega) only [e_bnd, e_bndV, e_lt, e_grd, e_lit, e_le1, e_le2, e_lt1, e_lt2, e_eq1, e_eq2, e_inb, e_ix, nI_add, pk_mul, e_sub, e_b0, e_b1, e_bz, e_bz0, e_bz1, Bool.and_true, Bool.true_and, ↓reduceIte, not_true_eq_false, not_false_eq_true, decide_false, decide_true, and_self, and_true, true_and, and_false, false_and, Bool.false_eq_true, Bool.not_false, Bool.not_true, m_isIn, r0], A, B, I⟩
    · exact ⟨nI (A 1), σX, σM, by simp (disch := omega) only [e_bnd, e_bndV, e_lt, e_grd, e_lit, e_le1, e_le2, e_lt1, e_lt2, e_eq1, e_eq2, e_inb, e_ix, nI_add, pk_mul, e_sub, e_b0, e_b1, e_bz, e_bz0, e_bz1, Bool.and_true, Bool.true_and, ↓reduceIte, not_true_eq_false, not_false_eq_true, decide_false, decide_true, and_self, and_true, true_and, and_false, false_and, Bool.false_eq_true, Bool.not_false, Bool.not_true, o1], by simp (disch := omega) only [e_bnd, e_bndV, e_lt, e_grd, e_lit, e_le1, e_le2, e_lt1, e_lt2, e_eq1, e_eq2, e_inb, e_ix, nI_add, pk_mul, e_sub, e_b0, e_b1, e_bz, e_bz0, e_bz1, Bool.and_true, Bool.true_and, ↓reduceIte, not_true_eq_false, not_false_eq_true, decide_false, decide_true, and_self, and_true, true_and, and_false, false_and, Bool.false_eq_true, Bool.not_false, Bool.not_true, m_isIn, r1], A, B, I⟩
    · refine ⟨nI (A 2) - nI 1, σX, σM, ?_, ?_, A, B, I⟩
      · simp (disch := omega) only [e_lit, e_eq2, e_eq1, ↓reduceIte, o2]
      · simp (disch := omega) only [e_lit, e_eq2, e_eq1, ↓reduceIte, r2, m_isIn, e_bnd, e_b0, e_le1, and_self, not_true_eq_false, e_grd, e_inb, e_ix, Bool.and_true]
    · exact ⟨nI (A 3), σX, σM, by simp (disch := omega) only [e_bnd, e_bndV, e_lt, e_grd, e_lit, e_le1, e_le2, e_lt1, e_lt2, e_eq1, e_eq2, e_inb, e_ix, nI_add, pk_mul, e_sub, e_b0, e_b1, e_bz, e_bz0, e_bz1, Bool.and_true, Bool.true_and, ↓reduceIte, not_true_eq_false, not_false_eq_true, decide_false, decide_true, and_self, and_true, true_and, and_false, false_and, Bool.false_eq_true, Bool.not_false, Bool.not_true, p2], by simp (disch := omega) only [e_bnd, e_bndV, e_lt, e_grd, e_lit, e_le1, e_le2, e_lt1, e_lt2, e_eq1, e_eq2, e_inb, e_ix, nI_add, pk_mul, e_sub, e_b0, e_b1, e_bz, e_bz0, e_bz1, Bool.and_true, Bool.true_and, ↓reduceIte, not_true_eq_false, not_false_eq_true, decide_false, decide_true, and_self, and_true, true_and, and_false, false_and, Bool.false_eq_true, Bool.not_false, Bool.not_true, m_isIn, r3], A, B, I⟩
    · exact ⟨nI (A 4), σX, σM, by simp (disch := omega) only [e_bnd, e_bndV, e_lt, e_grd, e_lit, e_le1, e_le2, e_lt1, e_lt2, e_eq1, e_eq2, e_inb, e_ix, nI_add, pk_mul, e_sub, e_b0, e_b1, e_bz, e_bz0, e_bz1, Bool.and_true, Bool.true_and, ↓reduceIte, not_true_eq_false, not_false_eq_true, decide_false, decide_true, and_self, and_true, true_and, and_false, false_and, Bool.false_eq_true, Bool.not_false, Bool.not_true, o3], by simp (disch := omega) only [e_bnd, e_bndV, e_lt, e_grd, e_lit, e_le1, e_le2, e_lt1, e_lt2, e_eq1, e_eq2, e_inb, e_ix, nI_add, pk_mul, e_sub, e_b0, e_b1, e_bz, e_bz0, e_bz1, Bool.and_true, Bool.true_and, ↓reduceIte, not_true_eq_false, not_false_eq_true, decide_false, decide_true, and_self, and_true, true_and, and_false, false_and, Bool.false_eq_true, Bool.not_false, Bool.not_true, m_isIn, r4], A, B, I⟩
    · exact ⟨nI (A 5), σX, σM, by simp (disch := omega) only [e_bnd, e_bndV, e_lt, e_grd, e_lit, e_le1, e_le2, e_lt1, e_lt2, e_eq1, e_eq2, e_inb, e_ix, nI_add, pk_mul, e_sub, e_b0, e_b1, e_bz, e_bz0, e_bz1, Bool.and_true, Bool.true_and, ↓reduceIte, not_true_eq_false, not_false_eq_true, decide_false, decide_true, and_self, and_true, true_and, and_false, false_and, Bool.false_eq_true, Bool.not_false, Bool.not_true, o4], by simp (disch := omega) only [e_bnd, e_bndV, e_lt, e_grd, e_lit, e_le1, e_le2, e_lt1, e_lt2, e_eq1, e_eq2, e_inb, e_ix, nI_add, pk_mul, e_sub, e_b0, e_b1, e_bz, e_bz0, e_bz1, Bool.and_true, Bool.true_and, ↓reduceIte, not_true_eq_false, not_false_eq_true, decide_false, decide_true, and_self, and_true, true_and, and_false, false_and, Bool.false_eq_true, Bool.not_false, Bool.not_true, m_isIn, r5], A, B, I⟩
    · exact ⟨nI p, σX, σM, by simp (disch := omega) only [e_bnd, e_bndV, e_lt, e_grd, e_lit, e_le1, e_le2, e_lt1, e_lt2, e_eq1, e_eq2, e_inb, e_ix, nI_add, pk_mul, e_sub, e_b0, e_b1, e_bz, e_bz0, e_bz1, Bool.and_true, Bool.true_and, ↓reduceIte, not_true_eq_false, not_false_eq_true, decide_false, decide_true, and_self, and_true, true_and, and_false, false_and, Bool.false_eq_true, Bool.not_false, Bool.not_true, t1], by simp (disch := omega) only [e_bnd, e_bndV, e_lt, e_grd, e_lit, e_le1, e_le2, e_lt1, e_lt2, e_eq1, e_eq2, e_inb, e_ix, nI_add, pk_mul, e_sub, e_b0, e_b1, e_bz, e_bz0, e_bz1, Bool.and_true, Bool.true_and, ↓reduceIte, not_true_eq_false, not_false_eq_true, decide_false, decide_true, and_self, and_true, true_and, and_false, false_and, Bool.false_eq_true, Bool.not_false, Bool.not_true, m_isIn, t2], A, B, I⟩
