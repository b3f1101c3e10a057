/-! the reference: an HOUR -/
abbrev zP : Nat → Nat → Prop := fun a j => (a = 1 ∧ ((6 ≤ j ∧ j < 50) ∨ 1956 ≤ j)) ∨ a = 6 ∨ a = 8 ∨ (a = 0 ∧ (j = 23 ∨ j = 25))
theorem BR_of {A B : Nat → Nat} (hR : BR A) (h : ∀ j, (j = 0 ∨ (50 ≤ j ∧ j < 114)) → B j = A j) : BR B := by
  intro k e hk he
  rw [h (50 + 8 * k + e) (by omega), h (50 + 8 * e + k) (by omega), h (50 + 8 * k + k) (by omega), h 0 (by omega)]
  exact hR k e hk he
theorem BR_up {A : Nat → Nat} (hR : BR A) {j v : Nat} (h : j ≠ 0 ∧ (j < 50 ∨ 114 ≤ j)) : BR (up A j v) := BR_of hR (fun k hk => up_ne (by omega))
theorem BR_wr {A : Nat → Nat} (hR : BR A) (h9 : A 9 ≤ 30) (h w : Nat) : BR (wr A h w) := BR_of hR (fun k hk => wr_off h9 (by omega) (by omega))
def HM (b : Bool) (σ : Sg) (A : Nat → Nat) (c : Int32) (bu : Nat) (tx : Int32) : Prop := MA σ A ∧ BT A ∧ BR A ∧ σ.1 0 24 = nI (if b then 1 else 0) ∧ BNb b A ∧ σ.1 0 25 = c ∧ σ.1 0 23 = nI bu ∧ σ.1 1 2 = tx
theorem HM.upd {b : Bool} {σ : Sg} {A : Nat → Nat} {c : Int32} {bu : Nat} {tx : Int32} (H : HM b σ A c bu tx) {j v : Nat} (hj : (6 ≤ j ∧ j < 9) ∨ (10 ≤ j ∧ j < 50)) (hB : BT (up A j v)) : HM b (wI σ 1 j (nI v)) (up A j v) c bu tx := by
  obtain ⟨h1, h2, h3, h4, h5, h6, h7, h8⟩ := H
  exact ⟨h1.put (by omega) v, hB, BR_up h3 (by omega), by rw [e_ne1 (by decide)]; exact h4, fun q => BN_up (h5 q) (by omega), by rw [e_ne1 (by decide)]; exact h6, by rw [e_ne1 (by decide)]; exact h7, by rw [e_ne2 (by omega)]; exact h8⟩
theorem HM.of {b : Bool} {σ σ' : Sg} {A : Nat → Nat} {c : Int32} {bu : Nat} {tx : Int32} (H : HM b σ A c bu tx) (f : fr zN σ σ') : HM b σ' A c bu tx := by
  obtain ⟨h1, h2, h3, h4, h5, h6, h7, h8⟩ := H
  exact ⟨h1.of f (by intro a j q; omega), h2, h3, by rw [f.1 0 24 (by omega)]; exact h4, h5, by rw [f.1 0 25 (by omega)]; exact h6, by rw [f.1 0 23 (by omega)]; exact h7, by rw [f.1 1 2 (by omega)]; exact h8⟩
theorem hm_write {b : Bool} {σ : Sg} {A : Nat → Nat} {c : Int32} {bu : Nat} {tx : Int32} (H : HM b σ A c bu tx) {h w : Nat} (hh : h < 8) (hw : w < 8) : ∃ σ', f_X12_write (nI h) (nI w) σ = some σ' ∧ HM b σ' (wrb b A h w) c bu tx ∧ fr aB σ σ' := by
  obtain ⟨h1, h2, h3, h4, h5, h6, h7, h8⟩ := H
  cases b with
  | true =>
    obtain ⟨σ', e1, e2, e3⟩ := m_write h1 (h5 rfl).1 h2.2.1 h4 hh hw
    exact ⟨σ', e1, ⟨e2, BT_wr h2 (h5 rfl).1 h w, BR_wr h3 (h5 rfl).1 h w, by rw [e3.1 0 24 (by omega)]; exact h4, fun q => BN_wr (h5 rfl) h2.2.1 hh hw, by rw [e3.1 0 25 (by omega)]; exact h6, by rw [e3.1 0 23 (by omega)]; exact h7, by rw [e3.1 1 2 (by omega)]; exact h8⟩, e3⟩
  | false => exact ⟨σ, m_write0 h4 _ _, ⟨h1, h2, h3, h4, h5, h6, h7, h8⟩, fr.rfl⟩
theorem SAY.mv {σ σ' : Sg} {tx : Int32} {Lw : Nat → Option LV} (h : SAY σ tx Lw) (f : fr zP σ σ') : SAY σ' tx Lw := h.tx (fun j => f.1 3 j (by omega))
theorem hm_cool {b : Bool} {σ : Sg} {A : Nat → Nat} {c : Int32} {bu : Nat} {tx : Int32} {Lw : Nat → Option LV} (H : HM b σ A c bu tx) (hS : SAY σ tx Lw) (hbu : bu < 256) {h : Nat} (hh : h < A 0) (hf : A (10 + 5 * h) = 1 ∨ A (10 + 5 * h) = 2) : ∃ σ', f_X12_cool (nI h) σ = some σ' ∧ HM b σ' (coolA b Lw A h (pc8 (bes A h &&& bu))) c bu tx ∧ fr zP σ σ' := by
  have h8 : h < 8 := Nat.lt_of_lt_of_le hh H.2.1.1
  have hb := H.2.1.2.2.2.2 h h8
  have htx := H.2.2.2.2.2.2.2
  obtain ⟨σ1, e1, e2⟩ := m_coolsOf H.1 H.2.1 H.2.2.1 hS hh hbu H.2.2.2.2.2.2.1
  have H1 := H.of e2
  obtain ⟨n, hn⟩ : ∃ n, n = pc8 (bes A h &&& bu) := ⟨_, rfl⟩
  rw [← hn] at e1 ⊢
  have hle := rt0_le (Lw 0) (ltop 0) (lwo 0 A h n) A h n
  change rt (Lw 0) 0 A h n ≤ 9 at hle
  obtain ⟨x, hx⟩ : ∃ x, x = A (10 + 5 * h + 1) - rt (Lw 0) 0 A h n := ⟨_, rfl⟩
  have hx9 : x ≤ 9 := by omega
  have H2 := H1.upd (j := 10 + 5 * h + 1) (v := x) (by omega) (H.2.1.heat hx9)
  unfold f_X12_cool coolA
  rw [if_pos hf, ← hx]
  by_cases hz : x = 0
  · have H3 := H2.upd (j := 10 + 5 * h) (v := 0) (by omega) (H2.2.1.fire (by decide))
    obtain ⟨σ4, w1, w2, w3⟩ := hm_write H3 h8 (w := 2) (by decide)
    subst hz
    refine ⟨σ4, ?_, ?_, ?_⟩
    · simp (disch := omega) only [e_bnd, e_bndV, e_lt, e_grd, e_lit, e_le1, e_le2, e_lt1, e_lt2, e_eq1, e_eq2, e_inb, e_ix, nI_add, pk_mul, e_sub, e_b0, e_b1, e_bz, e_bz0, e_bz1, Bool.and_true, Bool.true_and, ↓reduceIte, not_true_eq_false, not_false_eq_true, decide_false, decide_true, and_self, and_true, true_and, and_false, false_and, Bool.false_eq_true, Bool.not_false, Bool.not_true, m_get H.1, htx, e1, m_cutS, m_cutN, ← hx, m_put, m_get H2.1, up_hit, Nat.min_eq_left, Nat.add_zero]
      simp (disch := omega) only [e_bnd, e_bndV, e_lt, e_grd, e_lit, e_le1, e_le2, e_lt1, e_lt2, e_eq1, e_eq2, e_inb, e_ix, nI_add, pk_mul, e_sub, e_b0, e_b1, e_bz, e_bz0, e_bz1, Bool.and_true, Bool.true_and, ↓reduceIte, not_true_eq_false, not_false_eq_true, decide_false, decide_true, and_self, and_true, true_and, and_false, false_and, Bool.false_eq_true, Bool.not_false, Bool.not_true, w1]
    · rw [if_pos rfl]; exact w2
    · exact (((e2.mono (fun a j q => by omega)).trans (fr.w (by omega))).trans (fr.w (by omega))).trans (w3.mono (fun a j q => by omega))
  · refine ⟨_, ?_, ?_, (e2.mono (fun a j q => by omega)).trans (fr.w (k := 1) (i := 10 + 5 * h + 1) (v := nI x) (by omega))⟩
    · simp (disch := omega) only [e_bnd, e_bndV, e_lt, e_grd, e_lit, e_le1, e_le2, e_lt1, e_lt2, e_eq1, e_eq2, e_inb, e_ix, nI_add, pk_mul, e_sub, e_b0, e_b1, e_bz, e_bz0, e_bz1, Bool.and_true, Bool.true_and, ↓reduceIte, not_true_eq_false, not_false_eq_true, decide_false, decide_true, and_self, and_true, true_and, and_false, false_and, Bool.false_eq_true, Bool.not_false, Bool.not_true, m_get H.1, htx, e1, m_cutS, m_cutN, ← hx, m_put, m_get H2.1, up_hit, Nat.min_eq_left, Nat.add_zero]
    · rw [if_neg hz]; exact H2
theorem hm_drawn {b : Bool} {σ : Sg} {A : Nat → Nat} {c : Int32} {bu : Nat} {tx : Int32} (H : HM b σ A c bu tx) : f_X12_drawn σ = some (nI (A 8 % 10), wI σ 1 8 (nI (nxt (A 8)))) ∧ HM b (wI σ 1 8 (nI (nxt (A 8)))) (up A 8 (nxt (A 8))) c bu tx :=
  ⟨m_drawn H.1 H.2.1.2.2.2.1, H.upd (by omega) (H.2.1.drawn _)⟩
theorem hm_live45 {b : Bool} {σ : Sg} {A : Nat → Nat} {c : Int32} {bu : Nat} {tx : Int32} {Lw : Nat → Option LV} (H : HM b σ A c bu tx) (hS : SAY σ tx Lw) (hd : deps Lw) (hbu : bu < 256) {h : Nat} (hh : h < A 0) : ∃ σ', f_X12_live_45 (nI h) σ = some σ' ∧ HM b σ' (catA b Lw A h (pc8 (bes A h &&& bu))).1 (c + nI (catA b Lw A h (pc8 (bes A h &&& bu))).2) bu tx ∧ fr zP σ σ' := by
  have h8 : h < 8 := Nat.lt_of_lt_of_le hh H.2.1.1
  have hb := H.2.1.2.2.2.2 h h8
  have hnr := m_nearOf H.1 H.2.1.1 H.2.2.1 h8 hbu H.2.2.2.2.2.2.1
  have hp := pc8_le (bes A h &&& bu)
  have htx := H.2.2.2.2.2.2.2
  obtain ⟨σ1, e1, e2⟩ := m_spreadsOf H.1 H.2.1 H.2.2.1 (by rw [htx]; exact hS) hh hbu H.2.2.2.2.2.2.1
  obtain ⟨n, hn⟩ : ∃ n, n = pc8 (bes A h &&& bu) := ⟨_, rfl⟩
  rw [← hn] at hnr hp e1 ⊢
  have h74 : ∃ σ', f_X12_live_74 (nI h) σ = some σ' ∧ HM b σ' (if A 8 % 10 < rt (Lw 1) 1 A h n then (wrb b (up (up A 8 (nxt (A 8))) (10 + 5 * h) 3) h 3, 1) else (up A 8 (nxt (A 8)), 0)).1 (c + nI (if A 8 % 10 < rt (Lw 1) 1 A h n then (wrb b (up (up A 8 (nxt (A 8))) (10 + 5 * h) 3) h 3, 1) else (up A 8 (nxt (A 8)), 0)).2) bu tx ∧ fr zP σ σ' := by
    obtain ⟨d1, d2⟩ := hm_drawn (H.of e2)
    have hle := rt0_le (Lw 1) (ltop 1) (lwo 1 A h n) A h n
    change rt (Lw 1) 1 A h n ≤ 10 at hle
    unfold f_X12_live_74
    by_cases hl : A 8 % 10 < rt (Lw 1) 1 A h n
    · have H3 := d2.upd (j := 10 + 5 * h) (v := 3) (by omega) (d2.2.1.fire (by decide))
      obtain ⟨σ4, w1, w2, w3⟩ := hm_write H3 h8 (w := 3) (by decide)
      refine ⟨wI σ4 0 25 (c + nI 1), ?_, ?_, ((((e2.mono (fun a j q => by omega)).trans (fr.w (by omega))).trans (fr.w (by omega))).trans (w3.mono (fun a j q => by omega))).trans (fr.w (by omega))⟩
      · simp (disch := omega) only [e_bnd, e_bndV, e_lt, e_grd, e_lit, e_le1, e_le2, e_lt1, e_lt2, e_eq1, e_eq2, e_inb, e_ix, nI_add, pk_mul, e_sub, e_b0, e_b1, e_bz, e_bz0, e_bz1, Bool.and_true, Bool.true_and, ↓reduceIte, not_true_eq_false, not_false_eq_true, decide_false, decide_true, and_self, and_true, true_and, and_false, false_and, Bool.false_eq_true, Bool.not_false, Bool.not_true, e1, d1, hl, m_put, Nat.add_zero]
        simp (disch := omega) only [e_bnd, e_bndV, e_lt, e_grd, e_lit, e_le1, e_le2, e_lt1, e_lt2, e_eq1, e_eq2, e_inb, e_ix, nI_add, pk_mul, e_sub, e_b0, e_b1, e_bz, e_bz0, e_bz1, Bool.and_true, Bool.true_and, ↓reduceIte, not_true_eq_false, not_false_eq_true, decide_false, decide_true, and_self, and_true, true_and, and_false, false_and, Bool.false_eq_true, Bool.not_false, Bool.not_true, w1, w2.2.2.2.2.2.1]
      · rw [if_pos hl]
        obtain ⟨h1, h2, h3, h4, h5, h6, h7, h8⟩ := w2
        exact ⟨h1.put0 (by decide), h2, h3, by rw [e_ne2 (by decide)]; exact h4, h5, e_hit, by rw [e_ne2 (by decide)]; exact h7, by rw [e_ne1 (by decide)]; exact h8⟩
    · refine ⟨_, ?_, ?_, (e2.mono (fun a j q => by omega)).trans (fr.w (k := 1) (i := 8) (v := nI (nxt (A 8))) (by omega))⟩
      · simp (disch := omega) only [e_bnd, e_bndV, e_lt, e_grd, e_lit, e_le1, e_le2, e_lt1, e_lt2, e_eq1, e_eq2, e_inb, e_ix, nI_add, pk_mul, e_sub, e_b0, e_b1, e_bz, e_bz0, e_bz1, Bool.and_true, Bool.true_and, ↓reduceIte, not_true_eq_false, not_false_eq_true, decide_false, decide_true, and_self, and_true, true_and, and_false, false_and, Bool.false_eq_true, Bool.not_false, Bool.not_true, e1, d1, hl]
      · rw [if_neg hl]
        show HM b _ _ (c + nI 0) bu tx
        rw [show c + nI 0 = c from Int32.add_zero c]
        exact d2
  unfold f_X12_live_45 f_X12_live_73 catA
  by_cases hc : A (10 + 5 * h) = 4 ∨ (n = 0 ∧ A (10 + 5 * h) ≠ 2)
  · refine ⟨σ, ?_, ?_, fr.rfl⟩
    · by_cases h4 : A (10 + 5 * h) = 4
      · simp (disch := omega) only [e_bnd, e_bndV, e_lt, e_grd, e_lit, e_le1, e_le2, e_lt1, e_lt2, e_eq1, e_eq2, e_inb, e_ix, nI_add, pk_mul, e_sub, e_b0, e_b1, e_bz, e_bz0, e_bz1, Bool.and_true, Bool.true_and, ↓reduceIte, not_true_eq_false, not_false_eq_true, decide_false, decide_true, and_self, and_true, true_and, and_false, false_and, Bool.false_eq_true, Bool.not_false, Bool.not_true, m_get H.1, Nat.add_zero, h4]
      · have h5 : n = 0 ∧ A (10 + 5 * h) ≠ 2 := hc.resolve_left h4
        have h6 := h5.2
        rw [h5.1] at hnr
        simp (disch := omega) only [e_bnd, e_bndV, e_lt, e_grd, e_lit, e_le1, e_le2, e_lt1, e_lt2, e_eq1, e_eq2, e_inb, e_ix, nI_add, pk_mul, e_sub, e_b0, e_b1, e_bz, e_bz0, e_bz1, Bool.and_true, Bool.true_and, ↓reduceIte, not_true_eq_false, not_false_eq_true, decide_false, decide_true, and_self, and_true, true_and, and_false, false_and, Bool.false_eq_true, Bool.not_false, Bool.not_true, m_get H.1, Nat.add_zero, hnr, h4]
    · rw [if_pos hc]
      show HM b _ _ (c + nI 0) bu tx
      rw [show c + nI 0 = c from Int32.add_zero c]
      exact H
  · obtain ⟨σ', q1, q2, q3⟩ := h74
    refine ⟨σ', ?_, by rw [if_neg hc]; exact q2, q3⟩
    by_cases h0 : n = 0
    · have h2 : A (10 + 5 * h) = 2 := by omega
      rw [h0] at hnr
      simp (disch := omega) only [e_bnd, e_bndV, e_lt, e_grd, e_lit, e_le1, e_le2, e_lt1, e_lt2, e_eq1, e_eq2, e_inb, e_ix, nI_add, pk_mul, e_sub, e_b0, e_b1, e_bz, e_bz0, e_bz1, Bool.and_true, Bool.true_and, ↓reduceIte, not_true_eq_false, not_false_eq_true, decide_false, decide_true, and_self, and_true, true_and, and_false, false_and, Bool.false_eq_true, Bool.not_false, Bool.not_true, m_get H.1, Nat.add_zero, hnr, h2, q1]
    · simp (disch := omega) only [e_bnd, e_bndV, e_lt, e_grd, e_lit, e_le1, e_le2, e_lt1, e_lt2, e_eq1, e_eq2, e_inb, e_ix, nI_add, pk_mul, e_sub, e_b0, e_b1, e_bz, e_bz0, e_bz1, Bool.and_true, Bool.true_and, ↓reduceIte, not_true_eq_false, not_false_eq_true, decide_false, decide_true, and_self, and_true, true_and, and_false, false_and, Bool.false_eq_true, Bool.not_false, Bool.not_true, m_get H.1, Nat.add_zero, hnr, q1]
theorem hm_live {b : Bool} {σ : Sg} {A : Nat → Nat} {c : Int32} {bu : Nat} {tx : Int32} {Lw : Nat → Option LV} (H : HM b σ A c bu tx) (hS : SAY σ tx Lw) (hd : deps Lw) (hbu : bu < 256) {h : Nat} (hh : h < A 0) : ∃ σ', f_X12_live (nI h) σ = some σ' ∧ HM b σ' (liveA b Lw bu A h).1 (c + nI (liveA b Lw bu A h).2) bu tx ∧ fr zP σ σ' := by
  have h8 : h < 8 := Nat.lt_of_lt_of_le hh H.2.1.1
  have h7 := H.2.2.2.2.2.2.1
  have hal := m_isAlight H.1 H.2.1 h8
  unfold f_X12_live
  by_cases ht : bu.testBit h = true
  · have H1 := H.upd (j := 10 + 5 * h) (v := 4) (by omega) (H.2.1.fire (by decide))
    have H2 := H1.upd (j := 10 + 5 * h + 1) (v := 0) (by omega) (H1.2.1.heat (by decide))
    obtain ⟨σ4, w1, w2, w3⟩ := hm_write H2 h8 (w := 4) (by decide)
    refine ⟨σ4, ?_, ?_, ((fr.w (by omega)).trans (fr.w (by omega))).trans (w3.mono (fun a j q => by omega))⟩
    · simp (disch := omega) only [e_bnd, e_bndV, e_lt, e_grd, e_lit, e_le1, e_le2, e_lt1, e_lt2, e_eq1, e_eq2, e_inb, e_ix, nI_add, pk_mul, e_sub, e_b0, e_b1, e_bz, e_bz0, e_bz1, Bool.and_true, Bool.true_and, ↓reduceIte, not_true_eq_false, not_false_eq_true, decide_false, decide_true, and_self, and_true, true_and, and_false, false_and, Bool.false_eq_true, Bool.not_false, Bool.not_true, f_has_eq, h7, e_hb, ht, m_put, Nat.add_zero]
      simp (disch := omega) only [e_bnd, e_bndV, e_lt, e_grd, e_lit, e_le1, e_le2, e_lt1, e_lt2, e_eq1, e_eq2, e_inb, e_ix, nI_add, pk_mul, e_sub, e_b0, e_b1, e_bz, e_bz0, e_bz1, Bool.and_true, Bool.true_and, ↓reduceIte, not_true_eq_false, not_false_eq_true, decide_false, decide_true, and_self, and_true, true_and, and_false, false_and, Bool.false_eq_true, Bool.not_false, Bool.not_true, w1]
    · unfold liveA
      rw [if_pos ht]
      show HM b _ _ (c + nI 0) bu tx
      rw [show c + nI 0 = c from Int32.add_zero c]
      exact w2
  · have hl : liveA b Lw bu A h = catA b Lw (coolA b Lw A h (pc8 (bes A h &&& bu))) h (pc8 (bes A h &&& bu)) := if_neg ht
    rw [hl]
    by_cases hf : A (10 + 5 * h) = 1 ∨ A (10 + 5 * h) = 2
    · rw [if_pos hf] at hal
      obtain ⟨σ1, c1, c2, c3⟩ := hm_cool H hS hbu hh hf
      have hsm := cool_same (Lw := Lw) (b := b) H.2.2.2.2.1 h8 (pc8 (bes A h &&& bu))
      have hbe : bes (coolA b Lw A h (pc8 (bes A h &&& bu))) h = bes A h := bes_same hsm h8
      obtain ⟨σ2, l1, l2, l3⟩ := hm_live45 c2 (hS.mv c3) hd hbu (h := h) (by rw [hsm 0 (by omega) (by omega) (by omega)]; exact hh)
      rw [hbe] at l2
      refine ⟨σ2, ?_, l2, c3.trans l3⟩
      simp (disch := omega) only [e_bnd, e_bndV, e_lt, e_grd, e_lit, e_le1, e_le2, e_lt1, e_lt2, e_eq1, e_eq2, e_inb, e_ix, nI_add, pk_mul, e_sub, e_b0, e_b1, e_bz, e_bz0, e_bz1, Bool.and_true, Bool.true_and, ↓reduceIte, not_true_eq_false, not_false_eq_true, decide_false, decide_true, and_self, and_true, true_and, and_false, false_and, Bool.false_eq_true, Bool.not_false, Bool.not_true, f_has_eq, h7, e_hb, ht, hal, c1, l1]
    · rw [if_neg hf] at hal
      have hcl : coolA b Lw A h (pc8 (bes A h &&& bu)) = A := if_neg hf
      rw [hcl]
      obtain ⟨σ2, l1, l2, l3⟩ := hm_live45 H hS hd hbu hh
      refine ⟨σ2, ?_, l2, l3⟩
      simp (disch := omega) only [e_bnd, e_bndV, e_lt, e_grd, e_lit, e_le1, e_le2, e_lt1, e_lt2, e_eq1, e_eq2, e_inb, e_ix, nI_add, pk_mul, e_sub, e_b0, e_b1, e_bz, e_bz0, e_bz1, Bool.and_true, Bool.true_and, ↓reduceIte, not_true_eq_false, not_false_eq_true, decide_false, decide_true, and_self, and_true, true_and, and_false, false_and, Bool.false_eq_true, Bool.not_false, Bool.not_true, f_has_eq, h7, e_hb, ht, hal, l1]
