/-! the reference: what its laws say, and an HOUR -/
def NM (σ : Sg) (A : Nat → Nat) (h near : Nat) : Prop := σ.1 6 0 = nI (A 6) ∧ σ.1 6 1 = (if 20 ≤ A 6 % 24 ∨ A 6 % 24 < 6 then nI 1 else nI 0) ∧ σ.1 6 2 = nI (A 7) ∧ σ.1 6 3 = nI h ∧ σ.1 6 4 = nI (A (10 + 5 * h + 3)) ∧ σ.1 6 5 = nI (A (10 + 5 * h)) ∧ σ.1 6 6 = nI (A (10 + 5 * h + 1)) ∧ σ.1 6 7 = nI near ∧ σ.1 6 8 = nI (A (10 + 5 * h + 2))
/-- a TEXT's own cells -/
def SG (tx : Int32) (j : Nat) : Prop := ∃ t, tx = nI t ∧ t < 4 ∧ 705 * t ≤ j ∧ j < 705 * t + 705
def SAY (σ0 : Sg) (tx : Int32) (Lw : Nat → Option LV) : Prop := ∀ (σ : Sg) (A : Nat → Nat) (l h near wo : Nat), (∀ j, SG tx j → σ.1 3 j = σ0.1 3 j) → MA σ A → BT A → NM σ A h near → l < 3 → h < A 0 → near ≤ 8 → wo ≤ 100 → ∃ σ', f_X12_says tx (nI l) (nI wo) (nI (ltop l)) σ = some (nI (rt0 (Lw l) (ltop l) wo A h near), σ') ∧ fr (fun a _ => a = 8) σ σ'
theorem SAY.tx {σ0 σ1 : Sg} {x : Int32} {Lw : Nat → Option LV} (h : SAY σ0 x Lw) (e : ∀ j, σ1.1 3 j = σ0.1 3 j) : SAY σ1 x Lw := fun σ A l k n w h1 => h σ A l k n w (fun j hj => (h1 j hj).trans (e j))
theorem MA.of {σ σ' : Sg} {A : Nat → Nat} (hM : MA σ A) {S : Nat → Nat → Prop} (f : fr S σ σ') (h : ∀ a j, S a j → a ≠ 1) : MA σ' A :=
  ⟨fun j a b c => by rw [f.1 1 j (fun q => h 1 j q rfl)]; exact hM.1 j a b c, by rw [f.1 1 2 (fun q => h 1 2 q rfl)]; exact hM.2⟩
theorem m_nearOf {σ : Sg} {A : Nat → Nat} (hM : MA σ A) (hc : A 0 ≤ 8) (hR : BR A) {h b : Nat} (hh : h < 8) (hb : b < 256) (hs : σ.1 0 23 = nI b) : f_X12_nearOf (nI h) σ = some (nI (pc8 (bes A h &&& b)), σ) := by
  have hl : bes A h &&& b < 256 := Nat.lt_of_le_of_lt Nat.and_le_left (bes_lt A h)
  unfold f_X12_nearOf
  simp (disch := omega) only [e_bnd, e_bndV, e_lt, e_grd, e_lit, e_le1, e_le2, e_lt1, e_lt2, e_eq1, e_eq2, e_inb, e_ix, nI_add, pk_mul, e_sub, e_b0, e_b1, e_bz, e_bz0, e_bz1, Bool.and_true, Bool.true_and, ↓reduceIte, not_true_eq_false, not_false_eq_true, decide_false, decide_true, and_self, and_true, true_and, and_false, false_and, Bool.false_eq_true, Bool.not_false, Bool.not_true, m_beside hM hc hR, hs, and_I, f_bits_eq]
theorem m_name {σ : Sg} {A : Nat → Nat} (hM : MA σ A) (hB : BT A) (hR : BR A) {h b : Nat} (hh : h < 8) (hb : b < 256) (hs : σ.1 0 23 = nI b) : ∃ σ', f_X12_name (nI h) σ = some σ' ∧ NM σ' A h (pc8 (bes A h &&& b)) ∧ fr (fun a _ => a = 6) σ σ' := by
  have key : ∀ v : Nat, f_X12_name_30 (nI h) (nI 1) (nI v) (wI σ 6 0 (nI (A 6))) = some (wI (wI (wI (wI (wI (wI (wI (wI (wI σ 6 0 (nI (A 6))) 6 1 (nI v)) 6 2 (nI (A 7))) 6 3 (nI h)) 6 4 (nI (A (10 + 5 * h + 3)))) 6 5 (nI (A (10 + 5 * h)))) 6 6 (nI (A (10 + 5 * h + 1)))) 6 7 (nI (pc8 (bes A h &&& b)))) 6 8 (nI (A (10 + 5 * h + 2)))) := by
    intro v
    have M0 : MA (wI σ 6 0 (nI (A 6))) A := hM.put0 (by decide)
    have M1 : MA (wI (wI σ 6 0 (nI (A 6))) 6 1 (nI v)) A := M0.put0 (by decide)
    have M2 := M1.put0 (k := 6) (j := 2) (v := nI (A 7)) (by decide)
    have M3 := M2.put0 (k := 6) (j := 3) (v := nI h) (by decide)
    have M4 := M3.put0 (k := 6) (j := 4) (v := nI (A (10 + 5 * h + 3))) (by decide)
    have M5 := M4.put0 (k := 6) (j := 5) (v := nI (A (10 + 5 * h))) (by decide)
    have M6 := M5.put0 (k := 6) (j := 6) (v := nI (A (10 + 5 * h + 1))) (by decide)
    have M7 := M6.put0 (k := 6) (j := 7) (v := nI (pc8 (bes A h &&& b))) (by decide)
    have s6 : (wI (wI (wI (wI (wI (wI (wI σ 6 0 (nI (A 6))) 6 1 (nI v)) 6 2 (nI (A 7))) 6 3 (nI h)) 6 4 (nI (A (10 + 5 * h + 3)))) 6 5 (nI (A (10 + 5 * h)))) 6 6 (nI (A (10 + 5 * h + 1)))).1 0 23 = nI b := by
      rw [e_ne1 (by decide), e_ne1 (by decide), e_ne1 (by decide), e_ne1 (by decide), e_ne1 (by decide), e_ne1 (by decide), e_ne1 (by decide)]; exact hs
    unfold f_X12_name_30
    simp (disch := omega) only [e_bnd, e_bndV, e_lt, e_grd, e_lit, e_le1, e_le2, e_lt1, e_lt2, e_eq1, e_eq2, e_inb, e_ix, nI_add, pk_mul, e_sub, e_b0, e_b1, e_bz, e_bz0, e_bz1, Bool.and_true, Bool.true_and, ↓reduceIte, not_true_eq_false, not_false_eq_true, decide_false, decide_true, and_self, and_true, true_and, and_false, false_and, Bool.false_eq_true, Bool.not_false, Bool.not_true, M1.1, m_get M3, m_get M4, m_get M5, m_nearOf M6 hB.1 hR hh hb s6, m_get M7, Nat.add_zero]
  have M0 : MA (wI σ 6 0 (nI (A 6))) A := hM.put0 (by decide)
  have hbell := m_isBell M0 hB
  have r6 := hM.1 6 (by decide) (by decide) (by decide)
  unfold f_X12_name
  refine ⟨(wI (wI (wI (wI (wI (wI (wI (wI (wI σ 6 0 (nI (A 6))) 6 1 (nI (if 20 ≤ A 6 % 24 ∨ A 6 % 24 < 6 then 1 else 0))) 6 2 (nI (A 7))) 6 3 (nI h)) 6 4 (nI (A (10 + 5 * h + 3)))) 6 5 (nI (A (10 + 5 * h)))) 6 6 (nI (A (10 + 5 * h + 1)))) 6 7 (nI (pc8 (bes A h &&& b)))) 6 8 (nI (A (10 + 5 * h + 2)))), ?_, ?_, ?_⟩
  · by_cases hl : 20 ≤ A 6 % 24 ∨ A 6 % 24 < 6
    · rw [if_pos hl] at hbell ⊢
      simp (disch := omega) only [e_bnd, e_bndV, e_lt, e_grd, e_lit, e_le1, e_le2, e_lt1, e_lt2, e_eq1, e_eq2, e_inb, e_ix, nI_add, pk_mul, e_sub, e_b0, e_b1, e_bz, e_bz0, e_bz1, Bool.and_true, Bool.true_and, ↓reduceIte, not_true_eq_false, not_false_eq_true, decide_false, decide_true, and_self, and_true, true_and, and_false, false_and, Bool.false_eq_true, Bool.not_false, Bool.not_true, r6, hbell, key]
    · rw [if_neg hl] at hbell ⊢
      simp (disch := omega) only [e_bnd, e_bndV, e_lt, e_grd, e_lit, e_le1, e_le2, e_lt1, e_lt2, e_eq1, e_eq2, e_inb, e_ix, nI_add, pk_mul, e_sub, e_b0, e_b1, e_bz, e_bz0, e_bz1, Bool.and_true, Bool.true_and, ↓reduceIte, not_true_eq_false, not_false_eq_true, decide_false, decide_true, and_self, and_true, true_and, and_false, false_and, Bool.false_eq_true, Bool.not_false, Bool.not_true, r6, hbell, key]
  · refine ⟨?_, ?_, ?_, ?_, ?_, ?_, ?_, ?_, ?_⟩
    · simp (disch := omega) only [e_ne2, e_hit]
    · simp (disch := omega) only [e_ne2, e_hit]
      split <;> rfl
    · simp (disch := omega) only [e_ne2, e_hit]
    · simp (disch := omega) only [e_ne2, e_hit]
    · simp (disch := omega) only [e_ne2, e_hit]
    · simp (disch := omega) only [e_ne2, e_hit]
    · simp (disch := omega) only [e_ne2, e_hit]
    · simp (disch := omega) only [e_ne2, e_hit]
    · simp (disch := omega) only [e_ne2, e_hit]
  · repeat' refine fr.trans ?_ (fr.w (S := fun a _ => a = 6) rfl)
    exact fr.rfl
abbrev zN : Nat → Nat → Prop := fun a _ => a = 6 ∨ a = 8
theorem NM.of {σ : Sg} {A B : Nat → Nat} {h n : Nat} (hN : NM σ A h n) : NM σ A h n := hN
theorem m_coolsOf {σ : Sg} {A : Nat → Nat} {tx : Int32} {Lw : Nat → Option LV} (hM : MA σ A) (hB : BT A) (hR : BR A) (hS : SAY σ tx Lw) {h b : Nat} (hh : h < A 0) (hb : b < 256) (hs : σ.1 0 23 = nI b) : ∃ σ', f_X12_coolsOf tx (nI h) σ = some (nI (rt (Lw 0) 0 A h (pc8 (bes A h &&& b))), σ') ∧ fr zN σ σ' := by
  have h8 : h < 8 := Nat.lt_of_lt_of_le hh hB.1
  obtain ⟨σ1, e1, e2, e3⟩ := m_name hM hB hR h8 hb hs
  have M1 := hM.of e3 (by intro a j q; omega)
  unfold f_X12_coolsOf f_X12_coolsOf_23
  by_cases h2 : A (10 + 5 * h) = 2
  · obtain ⟨σ2, g1, g2⟩ := hS σ1 A 0 h _ 3 (fun j _ => e3.1 3 j (fun q : (3 : Nat) = 6 => absurd q (by decide))) M1 hB e2 (by decide) hh (pc8_le _) (by decide)
    change f_X12_says tx (nI 0) (nI 3) (nI 9) σ1 = _ at g1
    refine ⟨σ2, ?_, (e3.mono (fun a j q => Or.inl q)).trans (g2.mono (fun a j q => Or.inr q))⟩
    simp (disch := omega) only [e_bnd, e_bndV, e_lt, e_grd, e_lit, e_le1, e_le2, e_lt1, e_lt2, e_eq1, e_eq2, e_inb, e_ix, nI_add, pk_mul, e_sub, e_b0, e_b1, e_bz, e_bz0, e_bz1, Bool.and_true, Bool.true_and, ↓reduceIte, not_true_eq_false, not_false_eq_true, decide_false, decide_true, and_self, and_true, true_and, and_false, false_and, Bool.false_eq_true, Bool.not_false, Bool.not_true, e1, m_get M1, Nat.add_zero, h2, g1]
    unfold rt lwo
    simp (disch := omega) only [↓reduceIte, h2]
    try rfl
  · obtain ⟨σ2, g1, g2⟩ := hS σ1 A 0 h _ 1 (fun j _ => e3.1 3 j (fun q : (3 : Nat) = 6 => absurd q (by decide))) M1 hB e2 (by decide) hh (pc8_le _) (by decide)
    change f_X12_says tx (nI 0) (nI 1) (nI 9) σ1 = _ at g1
    refine ⟨σ2, ?_, (e3.mono (fun a j q => Or.inl q)).trans (g2.mono (fun a j q => Or.inr q))⟩
    have hb4 := (hB.2.2.2.2 h h8).1
    simp (disch := omega) only [e_bnd, e_bndV, e_lt, e_grd, e_lit, e_le1, e_le2, e_lt1, e_lt2, e_eq1, e_eq2, e_inb, e_ix, nI_add, pk_mul, e_sub, e_b0, e_b1, e_bz, e_bz0, e_bz1, Bool.and_true, Bool.true_and, ↓reduceIte, not_true_eq_false, not_false_eq_true, decide_false, decide_true, and_self, and_true, true_and, and_false, false_and, Bool.false_eq_true, Bool.not_false, Bool.not_true, e1, m_get M1, Nat.add_zero, g1]
    unfold rt lwo
    simp (disch := omega) only [↓reduceIte, h2]
    try rfl
theorem m_spreadsOf {σ : Sg} {A : Nat → Nat} {Lw : Nat → Option LV} (hM : MA σ A) (hB : BT A) (hR : BR A) (hS : SAY σ (σ.1 1 2) Lw) {h b : Nat} (hh : h < A 0) (hb : b < 256) (hs : σ.1 0 23 = nI b) : ∃ σ', f_X12_spreadsOf (nI h) σ = some (nI (rt (Lw 1) 1 A h (pc8 (bes A h &&& b))), σ') ∧ fr zN σ σ' := by
  have h8 : h < 8 := Nat.lt_of_lt_of_le hh hB.1
  obtain ⟨σ1, e1, e2, e3⟩ := m_name hM hB hR h8 hb hs
  have M1 := hM.of e3 (by intro a j q; omega)
  have t1 : σ1.1 1 2 = σ.1 1 2 := e3.1 1 2 (by decide)
  have hbb := hB.2.2.2.2 h h8
  have hp := pc8_le (bes A h &&& b)
  unfold f_X12_spreadsOf f_X12_spreadsOf_50
  by_cases h2 : A (10 + 5 * h) = 2
  · obtain ⟨σ2, g1, g2⟩ := hS σ1 A 1 h _ (A (10 + 5 * h + 3) / 2 + pc8 (bes A h &&& b)) (fun j _ => e3.1 3 j (fun q : (3 : Nat) = 6 => absurd q (by decide))) M1 hB e2 (by decide) hh (pc8_le _) (by omega)
    change f_X12_says (σ.1 1 2) (nI 1) _ (nI 10) σ1 = _ at g1
    refine ⟨σ2, ?_, (e3.mono (fun a j q => Or.inl q)).trans (g2.mono (fun a j q => Or.inr q))⟩
    have e7 := e2.2.2.2.2.2.2.2.1
    simp (disch := omega) only [e_bnd, e_bndV, e_lt, e_grd, e_lit, e_le1, e_le2, e_lt1, e_lt2, e_eq1, e_eq2, e_inb, e_ix, nI_add, pk_mul, e_sub, e_b0, e_b1, e_bz, e_bz0, e_bz1, Bool.and_true, Bool.true_and, ↓reduceIte, not_true_eq_false, not_false_eq_true, decide_false, decide_true, and_self, and_true, true_and, and_false, false_and, Bool.false_eq_true, Bool.not_false, Bool.not_true, e1, m_get M1, Nat.add_zero, h2, dz_I, t1, pk_div, e7, g1]
    unfold rt lwo
    simp (disch := omega) only [↓reduceIte, h2]
    try rfl
  · obtain ⟨σ2, g1, g2⟩ := hS σ1 A 1 h _ (A (10 + 5 * h + 3) / 4) (fun j _ => e3.1 3 j (fun q : (3 : Nat) = 6 => absurd q (by decide))) M1 hB e2 (by decide) hh (pc8_le _) (by omega)
    change f_X12_says (σ.1 1 2) (nI 1) _ (nI 10) σ1 = _ at g1
    refine ⟨σ2, ?_, (e3.mono (fun a j q => Or.inl q)).trans (g2.mono (fun a j q => Or.inr q))⟩
    simp (disch := omega) only [e_bnd, e_bndV, e_lt, e_grd, e_lit, e_le1, e_le2, e_lt1, e_lt2, e_eq1, e_eq2, e_inb, e_ix, nI_add, pk_mul, e_sub, e_b0, e_b1, e_bz, e_bz0, e_bz1, Bool.and_true, Bool.true_and, ↓reduceIte, not_true_eq_false, not_false_eq_true, decide_false, decide_true, and_self, and_true, true_and, and_false, false_and, Bool.false_eq_true, Bool.not_false, Bool.not_true, e1, m_get M1, Nat.add_zero, dz_I, t1, pk_div, g1]
    unfold rt lwo
    simp (disch := omega) only [↓reduceIte, h2]
    try rfl
theorem m_fineOf {σ : Sg} {A : Nat → Nat} {Lw : Nat → Option LV} (hM : MA σ A) (hB : BT A) (hR : BR A) (hS : SAY σ (σ.1 1 2) Lw) {h b : Nat} (hh : h < A 0) (hb : b < 256) (hs : σ.1 0 23 = nI b) : ∃ σ', f_X12_fineOf (nI h) σ = some (nI (rt (Lw 2) 2 A h (pc8 (bes A h &&& b))), σ') ∧ fr zN σ σ' := by
  have h8 : h < 8 := Nat.lt_of_lt_of_le hh hB.1
  obtain ⟨σ1, e1, e2, e3⟩ := m_name hM hB hR h8 hb hs
  have M1 := hM.of e3 (by intro a j q; omega)
  have t1 : σ1.1 1 2 = σ.1 1 2 := e3.1 1 2 (by decide)
  unfold f_X12_fineOf
  obtain ⟨σ2, g1, g2⟩ := hS σ1 A 2 h _ 10 (fun j _ => e3.1 3 j (fun q : (3 : Nat) = 6 => absurd q (by decide))) M1 hB e2 (by decide) hh (pc8_le _) (by decide)
  change f_X12_says (σ.1 1 2) (nI 2) (nI 10) (nI 9999) σ1 = _ at g1
  refine ⟨σ2, ?_, (e3.mono (fun a j q => Or.inl q)).trans (g2.mono (fun a j q => Or.inr q))⟩
  simp (disch := omega) only [e_bnd, e_bndV, e_lt, e_grd, e_lit, e_le1, e_le2, e_lt1, e_lt2, e_eq1, e_eq2, e_inb, e_ix, nI_add, pk_mul, e_sub, e_b0, e_b1, e_bz, e_bz0, e_bz1, Bool.and_true, Bool.true_and, ↓reduceIte, not_true_eq_false, not_false_eq_true, decide_false, decide_true, and_self, and_true, true_and, and_false, false_and, Bool.false_eq_true, Bool.not_false, Bool.not_true, e1, t1, g1]
  rfl
