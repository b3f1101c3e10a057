/-! round, again: the reference's table -/
theorem vl_0 {A P : Nat → Nat} {v : Nat} : ∀ c, c ≤ low v + 1 → vl A P v c = 1000000
  | 0, _ => rfl
  | e + 1, h => by
    show (if low v < e ∧ v.testBit e = true then _ else _) = _
    rw [if_neg (by omega)]
    exact vl_0 e (by omega)
theorem vl_c {A P : Nat → Nat} {v c : Nat} (h : ∀ i, i < 8 → v.testBit i = true → i < c) : ∀ d, c + d ≤ 8 → vl A P v (c + d) = vl A P v c
  | 0, _ => rfl
  | d + 1, hd => by
    show (if low v < c + d ∧ v.testBit (c + d) = true then _ else _) = _
    rw [if_neg (fun z => by have := h (c + d) (by omega) z.2; omega)]
    exact vl_c h d (by omega)
theorem m_least {a b : Nat} (ha : a < 2147483648) (hb : b < 2147483648) (σ : Sg) : f_X12_least (nI a) (nI b) σ = some (nI (min a b), σ) := by
  unfold f_X12_least f_X12_least_10
  by_cases z : b ≤ a
  · rw [if_pos (nI_le z ha), show min a b = b by omega]
  · rw [if_neg (nI_ge (by omega) hb), show min a b = a by omega]
theorem al_le {v c : Nat} (h : v ≤ al c) (c8 : c ≤ 8) : ∀ i, i < 8 → v.testBit i = true → i < c := fun i hi z => by
  by_cases q : i < c
  · exact q
  · have h1 : v < 2 ^ c := by
      have : 0 < 2 ^ c := Nat.pow_pos (by decide)
      unfold al at h
      omega
    have := Nat.testBit_lt_two_pow (x := v) (i := i) (Nat.lt_of_lt_of_le h1 (Nat.pow_le_pow_right (by decide) (by omega)))
    rw [this] at z
    exact absurd z (by decide)
theorem wy_le {A : Nat → Nat} (hR : BR A) (x : Nat) : wy A x ≤ 1000000 := LE_flo (D0_le hR 0) (A 0) x
theorem m_pairs39 {σ : Sg} {A : Nat → Nat} (r0 : σ.1 1 0 = nI (A 0)) (c8 : A 0 ≤ 8) (hR : BR A) (hL : LM (A 0) σ (wy A)) {v : Nat} (hv : v ≤ al (A 0)) (hn : v ≠ 0) (hP : ∀ r, r < v → σ.1 11 r = nI (PP A r)) (h0 : σ.1 11 v = nI 1000000) : ∃ σ', (σ'.1 11 v = nI (PP A v) ∧ fr (fun a j => a = 11 ∧ j = v) σ σ') ∧ ∀ rec, f_X12_layPairs_39 rec FU (nI v) (nI (low v)) (nI (low v + 1)) σ = rec (nI (v + 1)) σ' := by
  have hv8 : v < 256 := by have := al_lt (A 0) (by omega); omega
  obtain ⟨l1, l2, l3⟩ := lw8_t v hv8 hn
  have hin := al_le hv c8
  have lc := hin _ l1 l2
  clear l3
  obtain ⟨s', ⟨g1, g2, g3⟩, g4⟩ := lpR (fun rec fu (q : Int32 × Sg) => f_X12_layPairs_39 rec fu (nI v) (nI (low v)) q.1 q.2) (fun i q => q.1 = nI (low v + 1 + i) ∧ q.2.1 11 v = nI (vl A (PP A) v (low v + 1 + i)) ∧ fr (fun a j => a = 11 ∧ j = v) σ q.2) (A 0 - (low v + 1)) (fun i hi q hq => by
    obtain ⟨w, s⟩ := q
    obtain ⟨q1, q2, q3⟩ := hq
    dsimp only at q1 q2 q3
    subst q1
    obtain ⟨e, hed⟩ : ∃ e, e = low v + 1 + i := ⟨_, rfl⟩
    rw [← hed] at q2 ⊢
    have e1 : vl A (PP A) v (low v + 1 + (i + 1)) = if low v < e ∧ v.testBit e = true then min (vl A (PP A) v e) (wv A (PP A) v e) else vl A (PP A) v e := by rw [hed]; rfl
    have e2 : nI (low v + 1 + (i + 1)) = nI (e + 1) := by rw [hed]; rfl
    have rs : s.1 1 0 = nI (A 0) := by rw [q3.1 _ _ (by omega)]; exact r0
    have mh := m_has hv8 (by omega : e < 9) s
    rw [e1]
    simp only [e2]
    by_cases z : v.testBit e = true
    · have rl := rst2_lt hv8 (low v) e
      obtain ⟨_, r2⟩ := rst2_pc hv8 l1 (by omega) l2 z (by omega)
      have c1 : s.1 10 (8 * low v + e) = nI (wy A (8 * low v + e)) := by rw [q3.1 _ _ (by omega)]; exact hL _ _ lc (by omega)
      have c2 : s.1 11 (rst2 v (low v) e) = nI (PP A (rst2 v (low v) e)) := by rw [q3.1 _ _ (by omega)]; exact hP _ r2
      have b1 := wy_le hR (8 * low v + e)
      have b2 := PP_le (A := A) rl
      have b3 := vl_le (A := A) (P := PP A) (v := v) e
      rw [if_pos ⟨by omega, z⟩]
      rw [if_pos z] at mh
      refine ⟨(nI (e + 1), wI s 11 v (nI (min (vl A (PP A) v e) (wv A (PP A) v e)))), ⟨rfl, e_hit, q3.trans (fr.w ⟨rfl, rfl⟩)⟩, fun rec fu => ?_⟩
      have rm := rst2_m hv8 (a := low v) (b := e)
      have wve : wv A (PP A) v e = wy A (8 * low v + e) + PP A (rst2 v (low v) e) := rfl
      dsimp only
      rw [f_X12_layPairs_39, wve]
      clear q3 hL hP hin
      simp (disch := omega) only [e_bnd, e_bndV, e_lt, e_grd, e_lit, e_le1, e_le2, e_lt1, e_lt2, e_eq1, e_eq2, e_inb, e_ix, nI_add, pk_mul, e_sub, e_b0, e_b1, e_bz, e_bz0, e_bz1, Bool.and_true, Bool.true_and, ↓reduceIte, not_true_eq_false, not_false_eq_true, decide_false, decide_true, and_self, and_true, true_and, and_false, false_and, Bool.false_eq_true, Bool.not_false, Bool.not_true, rs, mh, sh1, xm1, rm, q2, c1, c2, m_least, f_X12_layPairs_102]
    · rw [if_neg (fun y => z y.2)]
      rw [if_neg z] at mh
      refine ⟨(nI (e + 1), s), ⟨rfl, q2, q3⟩, fun rec fu => ?_⟩
      dsimp only
      rw [f_X12_layPairs_39]
      clear q3 hL hP hin
      simp (disch := omega) only [e_bnd, e_bndV, e_lt, e_grd, e_lit, e_le1, e_le2, e_lt1, e_lt2, e_eq1, e_eq2, e_inb, e_ix, nI_add, pk_mul, e_sub, e_b0, e_b1, e_bz, e_bz0, e_bz1, Bool.and_true, Bool.true_and, ↓reduceIte, not_true_eq_false, not_false_eq_true, decide_false, decide_true, and_self, and_true, true_and, and_false, false_and, Bool.false_eq_true, Bool.not_false, Bool.not_true, rs, mh, f_X12_layPairs_102]) (nI (low v + 1), σ) ⟨rfl, by rw [vl_0 _ (by omega)]; exact h0, fr.rfl⟩
  refine ⟨s'.2, ⟨?_, g3⟩, fun rec => ?_⟩
  · rw [g2, PP_s hv8 hn, show low v + 1 + (A 0 - (low v + 1)) = A 0 by omega]
    have := vl_c (A := A) (P := PP A) hin (8 - A 0) (by omega)
    rw [show A 0 + (8 - A 0) = 8 by omega] at this
    rw [this]
  · have rs : s'.2.1 1 0 = nI (A 0) := by rw [g3.1 _ _ (by omega)]; exact r0
    obtain ⟨f, hf⟩ := FU_n (n := A 0 - (low v + 1)) (by omega)
    have e := g4 rec (f + 1)
    dsimp only at e
    rw [hf, e, g1, show low v + 1 + (A 0 - (low v + 1)) = A 0 by omega, f_X12_layPairs_39]
    clear g2 g3 hL hP hin
    simp (disch := omega) only [e_bnd, e_bndV, e_lt, e_grd, e_lit, e_le1, e_le2, e_lt1, e_lt2, e_eq1, e_eq2, e_inb, e_ix, nI_add, pk_mul, e_sub, e_b0, e_b1, e_bz, e_bz0, e_bz1, Bool.and_true, Bool.true_and, ↓reduceIte, not_true_eq_false, not_false_eq_true, decide_false, decide_true, and_self, and_true, true_and, and_false, false_and, Bool.false_eq_true, Bool.not_false, Bool.not_true, rs]
abbrev S11 : Nat → Nat → Prop := fun a _ => a = 10 ∨ a = 11
theorem m_layPairs {σ : Sg} {A : Nat → Nat} (hM : MA σ A) (c8 : A 0 ≤ 8) (hR : BR A) : ∃ σ', (LM (A 0) σ' (wy A) ∧ (∀ r, r ≤ al (A 0) → σ'.1 11 r = nI (PP A r)) ∧ fr S11 σ σ') ∧ f_X12_layPairs σ = some σ' := by
  obtain ⟨s0, ⟨a1, a2⟩, a3⟩ := m_layFars hM c8 hR
  have a1' : LM (A 0) s0 (wy A) := a1
  have hal := al_lt (A 0) (by omega)
  have main : ∃ σ', (LM (A 0) σ' (wy A) ∧ (∀ r, r ≤ al (A 0) → σ'.1 11 r = nI (PP A r)) ∧ fr S11 σ σ') ∧ f_X12_layPairs_13 FU (nI (0 + 1)) (wI s0 11 0 (nI 0)) = some σ' := by
    refine lpI (fun fu (q : Int32 × Sg) => f_X12_layPairs_13 fu q.1 q.2) (fun i q => q.1 = nI (i + 1) ∧ LM (A 0) q.2 (wy A) ∧ (∀ r, r ≤ i → q.2.1 11 r = nI (PP A r)) ∧ fr S11 σ q.2) (al (A 0)) (fun r => ∃ σ', (LM (A 0) σ' (wy A) ∧ (∀ r, r ≤ al (A 0) → σ'.1 11 r = nI (PP A r)) ∧ fr S11 σ σ') ∧ r = some σ') (fun i hi q hq => ?_) (fun q hq fu => ?_) FU (by unfold FU; omega) (nI (0 + 1), wI s0 11 0 (nI 0)) ⟨rfl, fun a b ha hb => by rw [e_ne1 (by decide)]; exact a1' a b ha hb, fun r hr => ?_, (a2.mono (fun a j q => Or.inl q)).trans (fr.w (Or.inr rfl))⟩
    · obtain ⟨w, s⟩ := q
      obtain ⟨q1, q2, q3, q4⟩ := hq
      dsimp only at q1 q2 q3 q4
      subst q1
      have hMs : MA (wI s 11 (i + 1) (nI 1000000)) A := hM.of (q4.trans (fr.w (Or.inr rfl))) (by intro a j q; omega)
      have hMs0 : MA s A := hM.of q4 (by intro a j q; omega)
      have rs := hMs.1 0 (by decide) (by decide) (by decide)
      have ma := m_all hMs0 c8
      obtain ⟨l1, l2, l3⟩ := lw8_t (i + 1) (by omega) (by omega)
      have ml := m_lowOf (σ := wI s 11 (i + 1) (nI 1000000)) (by omega : i + 1 < 256) l1 l2 l3
      obtain ⟨s', ⟨g1, g2⟩, g3⟩ := m_pairs39 rs c8 hR (fun a b ha hb => by rw [e_ne1 (by decide)]; exact q2 a b ha hb) (by omega : i + 1 ≤ al (A 0)) (by omega) (fun r hr => by rw [e_ne2 (by omega)]; exact q3 r (by omega)) e_hit
      refine ⟨(nI (i + 1 + 1), s'), ⟨rfl, fun a b ha hb => by rw [g2.1 _ _ (by omega), e_ne1 (by decide)]; exact q2 a b ha hb, fun r hr => ?_, (q4.trans (fr.w (Or.inr rfl))).trans (g2.mono (fun a j q => Or.inr q.1))⟩, fun fu => ?_⟩
      · dsimp only
        by_cases z : r = i + 1
        · rw [z]; exact g1
        · rw [g2.1 _ _ (by omega), e_ne2 z]; exact q3 r (by omega)
      · have g3' := g3 (f_X12_layPairs_13 fu)
        dsimp only
        rw [f_X12_layPairs_13]
        clear q2 q3 q4 g1 g2 g3 l2 l3 a1 a2 a3 a1'
        simp (disch := omega) only [e_bnd, e_bndV, e_lt, e_grd, e_lit, e_le1, e_le2, e_lt1, e_lt2, e_eq1, e_eq2, e_inb, e_ix, nI_add, pk_mul, e_sub, e_b0, e_b1, e_bz, e_bz0, e_bz1, Bool.and_true, Bool.true_and, ↓reduceIte, not_true_eq_false, not_false_eq_true, decide_false, decide_true, and_self, and_true, true_and, and_false, false_and, Bool.false_eq_true, Bool.not_false, Bool.not_true, ma, ml]
        exact g3'
    · obtain ⟨w, s⟩ := q
      obtain ⟨q1, q2, q3, q4⟩ := hq
      dsimp only at q1 q2 q3 q4
      subst q1
      have hMs0 : MA s A := hM.of q4 (by intro a j q; omega)
      have ma := m_all hMs0 c8
      refine ⟨s, ⟨q2, q3, q4⟩, ?_⟩
      dsimp only
      rw [f_X12_layPairs_13]
      clear q2 q3 q4 a1 a2 a3 a1'
      simp (disch := omega) only [e_bnd, e_bndV, e_lt, e_grd, e_lit, e_le1, e_le2, e_lt1, e_lt2, e_eq1, e_eq2, e_inb, e_ix, nI_add, pk_mul, e_sub, e_b0, e_b1, e_bz, e_bz0, e_bz1, Bool.and_true, Bool.true_and, ↓reduceIte, not_true_eq_false, not_false_eq_true, decide_false, decide_true, and_self, and_true, true_and, and_false, false_and, Bool.false_eq_true, Bool.not_false, Bool.not_true, ma]
    · rw [show r = 0 by omega, e_hit]
      rfl
  obtain ⟨s', g1, g2⟩ := main
  refine ⟨s', g1, ?_⟩
  unfold f_X12_layPairs
  simp (disch := omega) only [e_bnd, e_bndV, e_lt, e_grd, e_lit, e_le1, e_le2, e_lt1, e_lt2, e_eq1, e_eq2, e_inb, e_ix, nI_add, pk_mul, e_sub, e_b0, e_b1, e_bz, e_bz0, e_bz1, Bool.and_true, Bool.true_and, ↓reduceIte, not_true_eq_false, not_false_eq_true, decide_false, decide_true, and_self, and_true, true_and, and_false, false_and, Bool.false_eq_true, Bool.not_false, Bool.not_true, a3]
  exact g2
