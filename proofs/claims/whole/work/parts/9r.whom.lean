/-! whom: the answers as a mask, the reference -/
def an (A : Nat → Nat) (e h t : Nat) : Nat := if hp A (8 * h + e) = 1000000 then 107 else t + hp A (8 * h + e)
def mw (A : Nat → Nat) (e h : Nat) : Nat → Nat → Nat
  | 0, m => m
  | t + 1, m => if bgs A h t (A 4) 0 = true then mw A e h t m ||| 2 ^ an A e h t else mw A e h t m
def ms (A : Nat → Nat) (e N : Nat) : Nat → Nat
  | 0 => 0
  | h + 1 => mw A e h N (ms A e N h)
def sl (k : Nat) : Nat := if k = 107 then 119 else k
def FL (σ : Sg) (m : Nat) : Prop := ∀ k, k < 108 → σ.1 14 (sl k) = nI (m.testBit k).toNat
abbrev S14 : Nat → Nat → Prop := fun a _ => a = 14
theorem sl_inj {a b : Nat} (ha : a < 108) (hb : b < 108) (h : sl a = sl b) : a = b := by
  unfold sl at h
  split at h <;> split at h <;> omega
theorem FL.put {σ : Sg} {m : Nat} (h : FL σ m) {k : Nat} (hk : k < 108) : FL (wI σ 14 (sl k) (nI 1)) (m ||| 2 ^ k) := by
  intro i hi
  rw [Nat.testBit_or, Nat.testBit_two_pow]
  by_cases z : i = k
  · subst z
    rw [e_hit, decide_eq_true rfl, Bool.or_true]
    rfl
  · rw [e_ne2 (fun q => z (sl_inj hi hk q)), decide_eq_false (fun q => z q.symm), Bool.or_false]
    exact h i hi
theorem an_lt {A : Nat → Nat} (hR : BR A) (c8 : A 0 ≤ 8) {e h t : Nat} (hh : h < A 0) (he : e < A 0) (ht : t < 100) : an A e h t < 108 := by
  unfold an
  rcases hp_val hR c8 hh he with x | x
  · rw [if_neg (by omega)]; omega
  · rw [if_pos x]; decide
theorem m_ans38 {σ : Sg} {A : Nat → Nat} (hM : MA σ A) (hW : WF A) (hH : ∀ h e, h < A 0 → e < A 0 → σ.1 13 (8 * h + e) = nI (hp A (8 * h + e))) {h e m N : Nat} (hh : h < A 0) (he : e < A 0) (hN : N = 100) (hF : FL σ m) : ∃ σ', (FL σ' (mw A e h N m) ∧ fr S14 σ σ') ∧ ∀ rec, f_X12_answers_38 rec FU (nI e) (nI (cd 128 m)) (nI h) (nI 0) σ = rec (nI e) (nI (cd 128 (mw A e h N m))) (nI (h + 1)) σ' := by
  have c8 := hW.1.1
  have hR := hW.2.2.1
  obtain ⟨K, hK⟩ : ∃ K : Nat, K = 128 := ⟨128, rfl⟩
  rw [← hK]
  obtain ⟨s', ⟨g0, g1, g2, g3⟩, g4⟩ := lpR (fun rec fu (q : Int32 × Int32 × Sg) => f_X12_answers_38 rec fu (nI e) q.1 (nI h) q.2.1 q.2.2) (fun i q => q.1 = nI (cd K (mw A e h i m)) ∧ q.2.1 = nI i ∧ FL q.2.2 (mw A e h i m) ∧ fr S14 σ q.2.2) N (fun i hi q hq => by
    obtain ⟨v, w, t⟩ := q
    obtain ⟨q0, q1, q2, q3⟩ := hq
    dsimp only at q0 q1 q2 q3
    subst q0 q1
    have hMt : MA t A := hM.of q3 (by intro a j q; omega)
    have hHt : ∀ h e, h < A 0 → e < A 0 → t.1 13 (8 * h + e) = nI (hp A (8 * h + e)) := fun h e a b => by rw [q3.1 _ _ (by omega)]; exact hH h e a b
    have a8 := hW.2.2.2.2.2.2.1
    have mb : f_X12_isBegun (nI h) (nI i) t = some (if bgs A h i (A 4) 0 = true then nI 1 else nI 0, t) := m_isBegun hMt hW hh (by omega) hHt (A 4) 0 (by omega) FU (by unfold FU; omega)
    have hv := hp_val hR c8 hh he
    have al := an_lt hR c8 hh he (t := i) (by omega)
    have h13 := hHt h e hh he
    have cl := cd_le K (mw A e h i m)
    have eo := cd_or K (an A e h i) (mw A e h i m) (by omega)
    by_cases z : bgs A h i (A 4) 0 = true
    · have em : mw A e h (i + 1) m = mw A e h i m ||| 2 ^ an A e h i := if_pos z
      rw [if_pos z] at mb
      refine ⟨(nI (cd K (mw A e h (i + 1) m)), nI (i + 1), wI t 14 (sl (an A e h i)) (nI 1)), ⟨rfl, rfl, ?_, q3.trans (fr.w rfl)⟩, fun rec fu => ?_⟩
      · rw [em]
        exact q2.put al
      · have fl := q2 _ al
        rw [em]
        dsimp only
        rw [f_X12_answers_38]
        clear hH hHt hW hR hF q2 q3
        by_cases y : (mw A e h i m).testBit (an A e h i) = true
        · rw [if_pos y] at eo
          rw [y] at fl
          rw [eo]
          rcases hv with x | x
          · have ea : an A e h i = i + hp A (8 * h + e) := if_neg (by omega)
            have es : sl (an A e h i) = i + hp A (8 * h + e) := by rw [ea]; exact if_neg (by omega)
            rw [es, Bool.toNat_true] at fl
            rw [es]
            simp (disch := omega) only [e_bnd, e_bndV, e_lt, e_grd, e_lit, e_le1, e_le2, e_lt1, e_lt2, e_eq1, e_eq2, e_inb, e_ix, nI_add, pk_mul, e_sub, e_b0, e_b1, e_bz, e_bz0, e_bz1, Bool.and_true, Bool.true_and, ↓reduceIte, not_true_eq_false, not_false_eq_true, decide_false, decide_true, and_self, and_true, true_and, and_false, false_and, Bool.false_eq_true, Bool.not_false, Bool.not_true, mb, h13, f_X12_answers_94, fl, f_X12_answers_112, f_X12_answers_122, Nat.add_zero]
          · have ea : an A e h i = 107 := if_pos x
            have es : sl (an A e h i) = 119 := by rw [ea]; rfl
            rw [es, Bool.toNat_true] at fl
            rw [es]
            simp (disch := omega) only [e_bnd, e_bndV, e_lt, e_grd, e_lit, e_le1, e_le2, e_lt1, e_lt2, e_eq1, e_eq2, e_inb, e_ix, nI_add, pk_mul, e_sub, e_b0, e_b1, e_bz, e_bz0, e_bz1, Bool.and_true, Bool.true_and, ↓reduceIte, not_true_eq_false, not_false_eq_true, decide_false, decide_true, and_self, and_true, true_and, and_false, false_and, Bool.false_eq_true, Bool.not_false, Bool.not_true, mb, h13, x, f_X12_answers_94, fl, f_X12_answers_112, f_X12_answers_122, Nat.add_zero]
        · rw [if_neg y] at eo
          rw [Bool.eq_false_iff.mpr y] at fl
          rw [eo]
          rcases hv with x | x
          · have ea : an A e h i = i + hp A (8 * h + e) := if_neg (by omega)
            have es : sl (an A e h i) = i + hp A (8 * h + e) := by rw [ea]; exact if_neg (by omega)
            rw [es, Bool.toNat_false] at fl
            rw [es]
            simp (disch := omega) only [e_bnd, e_bndV, e_lt, e_grd, e_lit, e_le1, e_le2, e_lt1, e_lt2, e_eq1, e_eq2, e_inb, e_ix, nI_add, pk_mul, e_sub, e_b0, e_b1, e_bz, e_bz0, e_bz1, Bool.and_true, Bool.true_and, ↓reduceIte, not_true_eq_false, not_false_eq_true, decide_false, decide_true, and_self, and_true, true_and, and_false, false_and, Bool.false_eq_true, Bool.not_false, Bool.not_true, mb, h13, f_X12_answers_94, fl, f_X12_answers_112, f_X12_answers_122]
          · have ea : an A e h i = 107 := if_pos x
            have es : sl (an A e h i) = 119 := by rw [ea]; rfl
            rw [es, Bool.toNat_false] at fl
            rw [es]
            simp (disch := omega) only [e_bnd, e_bndV, e_lt, e_grd, e_lit, e_le1, e_le2, e_lt1, e_lt2, e_eq1, e_eq2, e_inb, e_ix, nI_add, pk_mul, e_sub, e_b0, e_b1, e_bz, e_bz0, e_bz1, Bool.and_true, Bool.true_and, ↓reduceIte, not_true_eq_false, not_false_eq_true, decide_false, decide_true, and_self, and_true, true_and, and_false, false_and, Bool.false_eq_true, Bool.not_false, Bool.not_true, mb, h13, x, f_X12_answers_94, fl, f_X12_answers_112, f_X12_answers_122]
    · have em : mw A e h (i + 1) m = mw A e h i m := if_neg z
      rw [if_neg z] at mb
      refine ⟨(nI (cd K (mw A e h (i + 1) m)), nI (i + 1), t), ⟨rfl, rfl, ?_, q3⟩, fun rec fu => ?_⟩
      · rw [em]
        exact q2
      · rw [em]
        dsimp only
        rw [f_X12_answers_38]
        clear hH hHt hW hR hF q2 q3
        simp (disch := omega) only [e_bnd, e_bndV, e_lt, e_grd, e_lit, e_le1, e_le2, e_lt1, e_lt2, e_eq1, e_eq2, e_inb, e_ix, nI_add, pk_mul, e_sub, e_b0, e_b1, e_bz, e_bz0, e_bz1, Bool.and_true, Bool.true_and, ↓reduceIte, not_true_eq_false, not_false_eq_true, decide_false, decide_true, and_self, and_true, true_and, and_false, false_and, Bool.false_eq_true, Bool.not_false, Bool.not_true, mb, f_X12_answers_122]) (nI (cd K m), nI 0, σ) ⟨rfl, rfl, hF, fr.rfl⟩
  refine ⟨s'.2.2, ⟨g2, g3⟩, fun rec => ?_⟩
  obtain ⟨f, hf⟩ := FU_n (n := N) (by omega)
  have e4 := g4 rec (f + 1)
  dsimp only at e4
  rw [hf, e4, g0, g1, f_X12_answers_38]
  clear hH hW hR hF g2 g3
  simp (disch := omega) only [e_bnd, e_bndV, e_lt, e_grd, e_lit, e_le1, e_le2, e_lt1, e_lt2, e_eq1, e_eq2, e_inb, e_ix, nI_add, pk_mul, e_sub, e_b0, e_b1, e_bz, e_bz0, e_bz1, Bool.and_true, Bool.true_and, ↓reduceIte, not_true_eq_false, not_false_eq_true, decide_false, decide_true, and_self, and_true, true_and, and_false, false_and, Bool.false_eq_true, Bool.not_false, Bool.not_true]
theorem m_ans25 {σ : Sg} {A : Nat → Nat} (hM : MA σ A) (hW : WF A) (hH : ∀ h e, h < A 0 → e < A 0 → σ.1 13 (8 * h + e) = nI (hp A (8 * h + e))) {e N : Nat} (he : e < A 0) (hN : N = 100) (hF : FL σ 0) : ∃ σ', fr S14 σ σ' ∧ f_X12_answers_25 FU (nI e) (nI 0) (nI 0) σ = some (nI (cd 128 (ms A e N (A 0))), σ') := by
  have c8 := hW.1.1
  have hR := hW.2.2.1
  obtain ⟨K, hK⟩ : ∃ K : Nat, K = 128 := ⟨128, rfl⟩
  rw [← hK]
  refine lpI (fun fu (q : Int32 × Int32 × Sg) => f_X12_answers_25 fu (nI e) q.1 q.2.1 q.2.2) (fun i q => q.1 = nI (cd K (ms A e N i)) ∧ q.2.1 = nI i ∧ FL q.2.2 (ms A e N i) ∧ fr S14 σ q.2.2) (A 0) (fun r => ∃ σ', fr S14 σ σ' ∧ r = some (nI (cd K (ms A e N (A 0))), σ')) (fun i hi q hq => ?_) (fun q hq fu => ?_) FU (by unfold FU; omega) (nI 0, nI 0, σ) ⟨?_, rfl, hF, fr.rfl⟩
  · obtain ⟨v, w, t⟩ := q
    obtain ⟨q0, q1, q2, q3⟩ := hq
    dsimp only at q0 q1 q2 q3
    subst q0 q1
    have hMt : MA t A := hM.of q3 (by intro a j q; omega)
    have rt := hMt.1 0 (by decide) (by decide) (by decide)
    obtain ⟨t', ⟨b1, b2⟩, b3⟩ := m_ans38 hMt hW (fun h e a b => by rw [q3.1 _ _ (by omega)]; exact hH h e a b) hi he hN q2
    rw [← hK] at b3
    refine ⟨(nI (cd K (ms A e N (i + 1))), nI (i + 1), t'), ⟨rfl, rfl, b1, q3.trans b2⟩, fun fu => ?_⟩
    have b := b3 (f_X12_answers_25 fu)
    dsimp only
    rw [f_X12_answers_25]
    clear hH hW hR hF q2 q3 b1 b2 b3
    simp (disch := omega) only [e_bnd, e_bndV, e_lt, e_grd, e_lit, e_le1, e_le2, e_lt1, e_lt2, e_eq1, e_eq2, e_inb, e_ix, nI_add, pk_mul, e_sub, e_b0, e_b1, e_bz, e_bz0, e_bz1, Bool.and_true, Bool.true_and, ↓reduceIte, not_true_eq_false, not_false_eq_true, decide_false, decide_true, and_self, and_true, true_and, and_false, false_and, Bool.false_eq_true, Bool.not_false, Bool.not_true, rt]
    exact b
  · obtain ⟨v, w, t⟩ := q
    obtain ⟨q0, q1, q2, q3⟩ := hq
    dsimp only at q0 q1 q2 q3
    subst q0 q1
    have hMt : MA t A := hM.of q3 (by intro a j q; omega)
    have rt := hMt.1 0 (by decide) (by decide) (by decide)
    refine ⟨t, q3, ?_⟩
    dsimp only
    rw [f_X12_answers_25]
    clear hH hW hR hF q2 q3
    simp (disch := omega) only [e_bnd, e_bndV, e_lt, e_grd, e_lit, e_le1, e_le2, e_lt1, e_lt2, e_eq1, e_eq2, e_inb, e_ix, nI_add, pk_mul, e_sub, e_b0, e_b1, e_bz, e_bz0, e_bz1, Bool.and_true, Bool.true_and, ↓reduceIte, not_true_eq_false, not_false_eq_true, decide_false, decide_true, and_self, and_true, true_and, and_false, false_and, Bool.false_eq_true, Bool.not_false, Bool.not_true, rt]
  · show nI 0 = nI (cd K 0)
    rw [cd_0]
theorem m_answers {σ : Sg} {A : Nat → Nat} (hM : MA σ A) (hW : WF A) (hH : ∀ h e, h < A 0 → e < A 0 → σ.1 13 (8 * h + e) = nI (hp A (8 * h + e))) {e N : Nat} (he : e < A 0) (hN : N = 100) : ∃ σ', fr S14 σ σ' ∧ f_X12_answers (nI e) σ = some (nI (cd 128 (ms A e N (A 0))), σ') := by
  obtain ⟨L, hL⟩ : ∃ L : Nat, L = 120 := ⟨120, rfl⟩
  unfold f_X12_answers
  simp (disch := omega) only [e_lit]
  refine lpI (fun fu (q : Int32 × Sg) => f_X12_answers_2 fu (nI e) q.1 q.2) (fun i q => q.1 = nI i ∧ (∀ k, k < i → q.2.1 14 k = nI 0) ∧ fr S14 σ q.2) L (fun r => ∃ σ', fr S14 σ σ' ∧ r = some (nI (cd 128 (ms A e N (A 0))), σ')) (fun i hi q hq => ?_) (fun q hq fu => ?_) FU (by unfold FU; omega) (nI 0, σ) ⟨rfl, fun k hk => absurd hk (by omega), fr.rfl⟩
  · obtain ⟨v, t⟩ := q
    obtain ⟨q0, q1, q2⟩ := hq
    dsimp only at q0 q1 q2
    subst q0
    refine ⟨(nI (i + 1), wI t 14 i (nI 0)), ⟨rfl, fun k hk => ?_, q2.trans (fr.w rfl)⟩, fun fu => ?_⟩
    · dsimp only
      by_cases y : k = i
      · subst y; rw [e_hit]
      · rw [e_ne2 y]; exact q1 k (by omega)
    · dsimp only
      rw [f_X12_answers_2]
      clear hH hW q1 q2
      simp (disch := omega) only [e_bnd, e_bndV, e_lt, e_grd, e_lit, e_le1, e_le2, e_lt1, e_lt2, e_eq1, e_eq2, e_inb, e_ix, nI_add, pk_mul, e_sub, e_b0, e_b1, e_bz, e_bz0, e_bz1, Bool.and_true, Bool.true_and, ↓reduceIte, not_true_eq_false, not_false_eq_true, decide_false, decide_true, and_self, and_true, true_and, and_false, false_and, Bool.false_eq_true, Bool.not_false, Bool.not_true]
  · obtain ⟨v, t⟩ := q
    obtain ⟨q0, q1, q2⟩ := hq
    dsimp only at q0 q1 q2
    subst q0
    have hMt : MA t A := hM.of q2 (by intro a j q; omega)
    obtain ⟨s, b1, b2⟩ := m_ans25 hMt hW (fun h e a b => by rw [q2.1 _ _ (by omega)]; exact hH h e a b) he hN (fun k hk => by
      rw [Nat.zero_testBit]
      refine q1 _ ?_
      unfold sl
      split <;> omega)
    refine ⟨s, q2.trans b1, ?_⟩
    dsimp only
    rw [f_X12_answers_2]
    clear hH hW q1 q2
    simp (disch := omega) only [e_bnd, e_bndV, e_lt, e_grd, e_lit, e_le1, e_le2, e_lt1, e_lt2, e_eq1, e_eq2, e_inb, e_ix, nI_add, pk_mul, e_sub, e_b0, e_b1, e_bz, e_bz0, e_bz1, Bool.and_true, Bool.true_and, ↓reduceIte, not_true_eq_false, not_false_eq_true, decide_false, decide_true, and_self, and_true, true_and, and_false, false_and, Bool.false_eq_true, Bool.not_false, Bool.not_true]
    exact b2
def wb (A : Nat → Nat) (N K : Nat) : Nat → Int32 × Nat
  | 0 => (-1, 0)
  | i + 1 => if (wb A N K i).2 < cd K (ms A i N (A 0)) then (nI i, cd K (ms A i N (A 0))) else wb A N K i
theorem wb_le (A : Nat → Nat) (N K : Nat) : ∀ i, (wb A N K i).2 ≤ K
  | 0 => Nat.zero_le _
  | i + 1 => by
    have ih := wb_le A N K i
    have := cd_le K (ms A i N (A 0))
    unfold wb
    split
    · exact this
    · exact ih
theorem m_whom10 {σ : Sg} {A : Nat → Nat} (hM : MA σ A) (hW : WF A) (hH : ∀ h e, h < A 0 → e < A 0 → σ.1 13 (8 * h + e) = nI (hp A (8 * h + e))) {N K : Nat} (hN : N = 100) (hK : K = 128) : ∃ σ', fr S14 σ σ' ∧ f_X12_whom_10 FU (-1) (nI 0) (nI 0) σ = some ((wb A N K (A 0)).1, σ') := by
  have c8 := hW.1.1
  refine lpI (fun fu (q : Int32 × Int32 × Int32 × Sg) => f_X12_whom_10 fu q.1 q.2.1 q.2.2.1 q.2.2.2) (fun i q => q.1 = (wb A N K i).1 ∧ q.2.1 = nI (wb A N K i).2 ∧ q.2.2.1 = nI i ∧ fr S14 σ q.2.2.2) (A 0) (fun r => ∃ σ', fr S14 σ σ' ∧ r = some ((wb A N K (A 0)).1, σ')) (fun i hi q hq => ?_) (fun q hq fu => ?_) FU (by unfold FU; omega) (-1, nI 0, nI 0, σ) ⟨rfl, rfl, rfl, fr.rfl⟩
  · obtain ⟨u, v, w, t⟩ := q
    obtain ⟨q0, q1, q2, q3⟩ := hq
    dsimp only at q0 q1 q2 q3
    subst q0 q1 q2
    have hMt : MA t A := hM.of q3 (by intro a j q; omega)
    have rt := hMt.1 0 (by decide) (by decide) (by decide)
    obtain ⟨s, b1, b2⟩ := m_answers hMt hW (fun h e a b => by rw [q3.1 _ _ (by omega)]; exact hH h e a b) hi hN
    rw [← hK] at b2
    have l1 := wb_le A N K i
    have l2 := cd_le K (ms A i N (A 0))
    refine ⟨((wb A N K (i + 1)).1, nI (wb A N K (i + 1)).2, nI (i + 1), s), ⟨rfl, rfl, rfl, q3.trans b1⟩, fun fu => ?_⟩
    dsimp only
    rw [f_X12_whom_10]
    have ew : wb A N K (i + 1) = if (wb A N K i).2 < cd K (ms A i N (A 0)) then (nI i, cd K (ms A i N (A 0))) else wb A N K i := rfl
    clear hH hW q3
    by_cases z : (wb A N K i).2 < cd K (ms A i N (A 0))
    · rw [if_pos z] at ew
      rw [ew]
      clear ew
      simp (disch := omega) only [e_bnd, e_bndV, e_lt, e_grd, e_lit, e_le1, e_le2, e_lt1, e_lt2, e_eq1, e_eq2, e_inb, e_ix, nI_add, pk_mul, e_sub, e_b0, e_b1, e_bz, e_bz0, e_bz1, Bool.and_true, Bool.true_and, ↓reduceIte, not_true_eq_false, not_false_eq_true, decide_false, decide_true, and_self, and_true, true_and, and_false, false_and, Bool.false_eq_true, Bool.not_false, Bool.not_true, rt, b2, f_X12_whom_41]
    · rw [if_neg z] at ew
      rw [ew]
      clear ew
      simp (disch := omega) only [e_bnd, e_bndV, e_lt, e_grd, e_lit, e_le1, e_le2, e_lt1, e_lt2, e_eq1, e_eq2, e_inb, e_ix, nI_add, pk_mul, e_sub, e_b0, e_b1, e_bz, e_bz0, e_bz1, Bool.and_true, Bool.true_and, ↓reduceIte, not_true_eq_false, not_false_eq_true, decide_false, decide_true, and_self, and_true, true_and, and_false, false_and, Bool.false_eq_true, Bool.not_false, Bool.not_true, rt, b2, f_X12_whom_41]
  · obtain ⟨u, v, w, t⟩ := q
    obtain ⟨q0, q1, q2, q3⟩ := hq
    dsimp only at q0 q1 q2 q3
    subst q0 q1 q2
    have hMt : MA t A := hM.of q3 (by intro a j q; omega)
    have rt := hMt.1 0 (by decide) (by decide) (by decide)
    refine ⟨t, q3, ?_⟩
    dsimp only
    rw [f_X12_whom_10]
    clear hH hW q3
    simp (disch := omega) only [e_bnd, e_bndV, e_lt, e_grd, e_lit, e_le1, e_le2, e_lt1, e_lt2, e_eq1, e_eq2, e_inb, e_ix, nI_add, pk_mul, e_sub, e_b0, e_b1, e_bz, e_bz0, e_bz1, Bool.and_true, Bool.true_and, ↓reduceIte, not_true_eq_false, not_false_eq_true, decide_false, decide_true, and_self, and_true, true_and, and_false, false_and, Bool.false_eq_true, Bool.not_false, Bool.not_true, rt]
