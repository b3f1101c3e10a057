/-! began, whom: the reference's hops, on -/
def hk (A : Nat → Nat) (h k e : Nat) : Nat := if hp A (8 * h + e) ≤ k then hp A (8 * h + e) else 1000000
theorem m_hops55 {σ : Sg} {A : Nat → Nat} (hM : MA σ A) (c8 : A 0 ≤ 8) (hR : BR A) {h : Nat} (hh : h < A 0) (h0 : ∀ e, e < A 0 → σ.1 13 (8 * h + e) = nI (hk A h 0 e)) : ∃ σ', ((∀ e, e < A 0 → σ'.1 13 (8 * h + e) = nI (hp A (8 * h + e))) ∧ fr (S13 h) σ σ') ∧ ∀ rec, f_X12_layHops_55 rec FU (nI h) (nI (2 ^ h)) (nI 1) σ = rec (nI (h + 1)) σ' := by
  have h8 : h < 8 := by omega
  obtain ⟨s', ⟨g0, g1, g2, g3⟩, g4⟩ := lpR (fun rec fu (q : Int32 × Int32 × Sg) => f_X12_layHops_55 rec fu (nI h) q.1 q.2.1 q.2.2) (fun i q => q.1 = nI (ly A h i) ∧ q.2.1 = nI (i + 1) ∧ (∀ e, e < A 0 → q.2.2.1 13 (8 * h + e) = nI (hk A h i e)) ∧ fr (S13 h) σ q.2.2) 7 (fun i hi q hq => by
    obtain ⟨v, w, t⟩ := q
    obtain ⟨q0, q1, q2, q3⟩ := hq
    dsimp only at q0 q1 q2 q3
    subst q0 q1
    have hMt : MA t A := hM.of q3 (by intro a j q; omega)
    have rt := hMt.1 0 (by decide) (by decide) (by decide)
    have st := ly_step hR c8 (k := i) h8
    have a67 := m_hops67 hMt c8 hR (ly_lt (A := A) h8 i) h (i + 1)
    rw [← st] at a67
    obtain ⟨t', ⟨b1, b2⟩, b3⟩ := m_hops107 rt c8 (k := i + 1) (s := ly A h i) (w := ly A h (i + 1)) h8 (by omega) (ly_lt h8 (i + 1)) q2
    refine ⟨(nI (ly A h (i + 1)), nI (i + 1 + 1), t'), ⟨rfl, rfl, fun e he => ?_, q3.trans b2⟩, fun rec fu => ?_⟩
    · dsimp only
      rw [b1 e he]
      have i1 := hp_iff c8 hh he (by omega : i < 1000000)
      have i2 := hp_iff c8 hh he (by omega : i + 1 < 1000000)
      unfold hk
      rw [mi_bit (by omega)]
      by_cases x : hp A (8 * h + e) ≤ i
      · rw [i1.mpr x, if_pos x, if_neg (by rw [Bool.not_true, Bool.and_false]; decide), if_pos (by omega)]
      · have n1 : (ly A h i).testBit e = false := Bool.eq_false_iff.mpr (fun y => x (i1.mp y))
        rw [n1, if_neg x]
        by_cases y : hp A (8 * h + e) ≤ i + 1
        · rw [i2.mpr y, if_pos (by decide), if_pos y]
          exact congrArg nI (by omega)
        · have n2 : (ly A h (i + 1)).testBit e = false := Bool.eq_false_iff.mpr (fun z => y (i2.mp z))
          rw [n2, if_neg (by decide), if_neg y]
    · have a := a67 (f_X12_layHops_55 rec fu)
      have b := b3 (f_X12_layHops_55 rec fu)
      dsimp only
      rw [f_X12_layHops_55]
      clear q2 q3 b1 b2 b3 a67 st h0
      simp (disch := omega) only [e_bnd, e_bndV, e_lt, e_grd, e_lit, e_le1, e_le2, e_lt1, e_lt2, e_eq1, e_eq2, e_inb, e_ix, nI_add, pk_mul, e_sub, e_b0, e_b1, e_bz, e_bz0, e_bz1, Bool.and_true, Bool.true_and, ↓reduceIte, not_true_eq_false, not_false_eq_true, decide_false, decide_true, and_self, and_true, true_and, and_false, false_and, Bool.false_eq_true, Bool.not_false, Bool.not_true]
      rw [a, b]) (nI (2 ^ h), nI 1, σ) ⟨rfl, rfl, h0, fr.rfl⟩
  refine ⟨s'.2.2, ⟨fun e he => ?_, g3⟩, fun rec => ?_⟩
  · rw [g2 e he]
    unfold hk
    rcases hp_val hR c8 hh he with x | x
    · rw [if_pos x]
    · rw [if_neg (by omega), x]
  · obtain ⟨f, hf⟩ := FU_n (n := 7) (by omega)
    have e := g4 rec (f + 1)
    dsimp only at e
    rw [hf, e, g0, g1, f_X12_layHops_55]
    clear g2 g3 h0
    simp (disch := omega) only [e_bnd, e_bndV, e_lt, e_grd, e_lit, e_le1, e_le2, e_lt1, e_lt2, e_eq1, e_eq2, e_inb, e_ix, nI_add, pk_mul, e_sub, e_b0, e_b1, e_bz, e_bz0, e_bz1, Bool.and_true, Bool.true_and, ↓reduceIte, not_true_eq_false, not_false_eq_true, decide_false, decide_true, and_self, and_true, true_and, and_false, false_and, Bool.false_eq_true, Bool.not_false, Bool.not_true]
theorem m_hops18 {σ : Sg} {A : Nat → Nat} (hM : MA σ A) (c8 : A 0 ≤ 8) (hR : BR A) {h : Nat} (hh : h < A 0) : ∃ σ', ((∀ e, e < A 0 → σ'.1 13 (8 * h + e) = nI (hp A (8 * h + e))) ∧ fr (S13 h) σ σ') ∧ ∀ rec, f_X12_layHops_18 rec FU (nI h) (nI (2 ^ h)) (nI 0) σ = rec (nI (h + 1)) σ' := by
  have h8 : h < 8 := by omega
  obtain ⟨s', ⟨g1, g2, g3⟩, g4⟩ := lpR (fun rec fu (q : Int32 × Sg) => f_X12_layHops_18 rec fu (nI h) (nI (2 ^ h)) q.1 q.2) (fun i q => q.1 = nI i ∧ (∀ e, e < i → q.2.1 13 (8 * h + e) = nI (if e = h then 0 else 1000000)) ∧ fr (S13 h) σ q.2) 8 (fun i hi q hq => by
    obtain ⟨v, t⟩ := q
    obtain ⟨q1, q2, q3⟩ := hq
    dsimp only at q1 q2 q3
    subst q1
    refine ⟨(nI (i + 1), wI t 13 (8 * h + i) (nI (if i = h then 0 else 1000000))), ⟨rfl, fun e he => ?_, q3.trans (fr.w ⟨rfl, by omega, by omega⟩)⟩, fun rec fu => ?_⟩
    · dsimp only
      by_cases y : e = i
      · subst y; rw [e_hit]
      · rw [e_ne2 (by omega)]; exact q2 e (by omega)
    · dsimp only
      rw [f_X12_layHops_18]
      clear q2 q3
      by_cases y : i = h
      · rw [if_pos y]
        simp (disch := omega) only [e_bnd, e_bndV, e_lt, e_grd, e_lit, e_le1, e_le2, e_lt1, e_lt2, e_eq1, e_eq2, e_inb, e_ix, nI_add, pk_mul, e_sub, e_b0, e_b1, e_bz, e_bz0, e_bz1, Bool.and_true, Bool.true_and, ↓reduceIte, not_true_eq_false, not_false_eq_true, decide_false, decide_true, and_self, and_true, true_and, and_false, false_and, Bool.false_eq_true, Bool.not_false, Bool.not_true, f_X12_layHops_46]
      · rw [if_neg y]
        simp (disch := omega) only [e_bnd, e_bndV, e_lt, e_grd, e_lit, e_le1, e_le2, e_lt1, e_lt2, e_eq1, e_eq2, e_inb, e_ix, nI_add, pk_mul, e_sub, e_b0, e_b1, e_bz, e_bz0, e_bz1, Bool.and_true, Bool.true_and, ↓reduceIte, not_true_eq_false, not_false_eq_true, decide_false, decide_true, and_self, and_true, true_and, and_false, false_and, Bool.false_eq_true, Bool.not_false, Bool.not_true, f_X12_layHops_46]) (nI 0, σ) ⟨rfl, fun e he => absurd he (by omega), fr.rfl⟩
  have hMt : MA s'.2 A := hM.of g3 (by intro a j q; omega)
  obtain ⟨t, ⟨b1, b2⟩, b3⟩ := m_hops55 hMt c8 hR hh (fun e he => by
    rw [g2 e (by omega)]
    have i1 := hp_iff c8 hh he (by omega : 0 < 1000000)
    have i2 : (ly A h 0).testBit e = true ↔ h = e := by
      show (2 ^ h).testBit e = true ↔ _
      rw [Nat.testBit_two_pow, decide_eq_true_eq]
    unfold hk
    by_cases y : e = h
    · have := i1.mp (i2.mpr y.symm)
      rw [if_pos y, if_pos this, show hp A (8 * h + e) = 0 by omega]
    · rw [if_neg y, if_neg (fun z => y (i2.mp (i1.mpr z)).symm)])
  refine ⟨t, ⟨b1, g3.trans b2⟩, fun rec => ?_⟩
  obtain ⟨f, hf⟩ := FU_n (n := 8) (by omega)
  have e := g4 rec (f + 1)
  have b := b3 rec
  dsimp only at e
  rw [hf, e, g1, f_X12_layHops_18]
  clear g2 g3 b1 b2 b3
  simp (disch := omega) only [e_bnd, e_bndV, e_lt, e_grd, e_lit, e_le1, e_le2, e_lt1, e_lt2, e_eq1, e_eq2, e_inb, e_ix, nI_add, pk_mul, e_sub, e_b0, e_b1, e_bz, e_bz0, e_bz1, Bool.and_true, Bool.true_and, ↓reduceIte, not_true_eq_false, not_false_eq_true, decide_false, decide_true, and_self, and_true, true_and, and_false, false_and, Bool.false_eq_true, Bool.not_false, Bool.not_true]
  exact b
theorem m_layHops {σ : Sg} {A : Nat → Nat} (hM : MA σ A) (c8 : A 0 ≤ 8) (hR : BR A) : ∃ σ', ((∀ h e, h < A 0 → e < A 0 → σ'.1 13 (8 * h + e) = nI (hp A (8 * h + e))) ∧ fr (fun a _ => a = 13) σ σ') ∧ f_X12_layHops σ = some σ' := by
  unfold f_X12_layHops
  simp (disch := omega) only [e_lit]
  refine lpI (fun fu (q : Int32 × Sg) => f_X12_layHops_2 fu q.1 q.2) (fun i q => q.1 = nI i ∧ (∀ h e, h < i → e < A 0 → q.2.1 13 (8 * h + e) = nI (hp A (8 * h + e))) ∧ fr (fun a _ => a = 13) σ q.2) (A 0) (fun r => ∃ σ', ((∀ h e, h < A 0 → e < A 0 → σ'.1 13 (8 * h + e) = nI (hp A (8 * h + e))) ∧ fr (fun a _ => a = 13) σ σ') ∧ r = some σ') (fun i hi q hq => ?_) (fun q hq fu => ?_) FU (by unfold FU; omega) (nI 0, σ) ⟨rfl, fun h e hh => absurd hh (by omega), fr.rfl⟩
  · obtain ⟨v, t⟩ := q
    obtain ⟨q1, q2, q3⟩ := hq
    dsimp only at q1 q2 q3
    subst q1
    have hMt : MA t A := hM.of q3 (by intro a j q; omega)
    have rt := hMt.1 0 (by decide) (by decide) (by decide)
    obtain ⟨t', ⟨b1, b2⟩, b3⟩ := m_hops18 hMt c8 hR hi
    refine ⟨(nI (i + 1), t'), ⟨rfl, fun h e hh he => ?_, q3.trans (b2.mono (fun a j q => q.1))⟩, fun fu => ?_⟩
    · dsimp only
      by_cases y : h = i
      · subst y; exact b1 e he
      · rw [b2.1 _ _ (by omega)]; exact q2 h e (by omega) he
    · have b := b3 (f_X12_layHops_2 fu)
      dsimp only
      rw [f_X12_layHops_2]
      clear q2 q3 b1 b2 b3
      simp (disch := omega) only [e_bnd, e_bndV, e_lt, e_grd, e_lit, e_le1, e_le2, e_lt1, e_lt2, e_eq1, e_eq2, e_inb, e_ix, nI_add, pk_mul, e_sub, e_b0, e_b1, e_bz, e_bz0, e_bz1, Bool.and_true, Bool.true_and, ↓reduceIte, not_true_eq_false, not_false_eq_true, decide_false, decide_true, and_self, and_true, true_and, and_false, false_and, Bool.false_eq_true, Bool.not_false, Bool.not_true, rt, sh1]
      exact b
  · obtain ⟨v, t⟩ := q
    obtain ⟨q1, q2, q3⟩ := hq
    dsimp only at q1 q2 q3
    subst q1
    have hMt : MA t A := hM.of q3 (by intro a j q; omega)
    have rt := hMt.1 0 (by decide) (by decide) (by decide)
    refine ⟨t, ⟨q2, q3⟩, ?_⟩
    dsimp only
    rw [f_X12_layHops_2]
    clear q2 q3
    simp (disch := omega) only [e_bnd, e_bndV, e_lt, e_grd, e_lit, e_le1, e_le2, e_lt1, e_lt2, e_eq1, e_eq2, e_inb, e_ix, nI_add, pk_mul, e_sub, e_b0, e_b1, e_bz, e_bz0, e_bz1, Bool.and_true, Bool.true_and, ↓reduceIte, not_true_eq_false, not_false_eq_true, decide_false, decide_true, and_self, and_true, true_and, and_false, false_and, Bool.false_eq_true, Bool.not_false, Bool.not_true, rt]
/-- the class's hops are the same -/
theorem x_hops {σ : Sg} {A : Nat → Nat} (hX : XR σ 8 A) (hR : BR A) (c8 : A 0 ≤ 8) : ∃ σ', ((∀ x, x < 64 → σ'.1 60 x = nI (hp A x)) ∧ fr S60 σ σ') ∧ f_X9_measure 8 (nI 1) σ = some σ' := by
  obtain ⟨s, ⟨a1, a2⟩, a3⟩ := x_measure (m := 1) (by decide) hX hR (by decide)
  rw [flo_8 (D0_le hR 1) (D0_ou hR 1) c8] at a1
  exact ⟨s, ⟨a1, a2⟩, a3⟩
