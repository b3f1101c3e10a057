/-! the reference: an HOUR, house by house -/
theorem hm_pass {b : Bool} {σ : Sg} {A : Nat → Nat} {c : Int32} {bu : Nat} {tx : Int32} {Lw : Nat → Option LV} (H : HM b σ A c bu tx) (hS : SAY σ tx Lw) (hd : deps Lw) (h6 : A 6 < 9999) : ∃ σ' bu', bu' < 256 ∧ f_X12_pass σ = some σ' ∧ HM b σ' (passA b Lw A).1 (c + nI (passA b Lw A).2) bu' tx ∧ fr zP σ σ' := by
  obtain ⟨d1, d2⟩ := hm_drawn H
  have H1 : HM b (wI (wI σ 1 8 (nI (nxt (A 8)))) 1 7 (nI (A 8 % 10))) (windA A) c bu tx := d2.upd (j := 7) (v := A 8 % 10) (by omega) (d2.2.1.wind (by omega))
  have f1 : fr zP σ (wI (wI σ 1 8 (nI (nxt (A 8)))) 1 7 (nI (A 8 % 10))) := (fr.w (by omega)).trans (fr.w (by omega))
  obtain ⟨σ1, hσ1⟩ : ∃ σ1, σ1 = wI (wI σ 1 8 (nI (nxt (A 8)))) 1 7 (nI (A 8 % 10)) := ⟨_, rfl⟩
  rw [← hσ1] at H1 f1
  have sw : same A (windA A) := same_put (same_put (same.refl A) (by omega)) (by omega)
  have ha := m_allOf H1.1 H1.2.1 (f := 3) (by decide)
  obtain ⟨b3, hb3⟩ : ∃ b3, b3 = fires (windA A) 3 3 := ⟨_, rfl⟩
  have hbl : b3 < 256 := by rw [hb3]; exact mk8 _ H1.2.1.1
  rw [← hb3] at ha
  have H2 : HM b (wI σ1 0 23 (nI b3)) (windA A) c b3 tx := by
    obtain ⟨h1, h2, h3, h4, h5, h6, h7, h8⟩ := H1
    exact ⟨h1.put0 (by decide), h2, h3, by rw [e_ne2 (by decide)]; exact h4, h5, by rw [e_ne2 (by decide)]; exact h6, e_hit, by rw [e_ne1 (by decide)]; exact h8⟩
  have f2 : fr zP σ (wI σ1 0 23 (nI b3)) := f1.trans (fr.w (by omega))
  have main := lpI (fun fu (q : Int32 × Sg) => f_X12_pass_22 fu q.1 q.2)
    (fun i q => q.1 = nI i ∧ HM b q.2 (livesA b Lw b3 (windA A) i).1 (c + nI (livesA b Lw b3 (windA A) i).2) b3 tx ∧ fr zP σ q.2 ∧ same A (livesA b Lw b3 (windA A) i).1)
    (A 0) (fun x => ∃ σ' bu', bu' < 256 ∧ x = some σ' ∧ HM b σ' (passA b Lw A).1 (c + nI (passA b Lw A).2) bu' tx ∧ fr zP σ σ')
    (fun i hi q hq => by
      obtain ⟨v6, σi⟩ := q
      obtain ⟨rfl, Hi, fi, si⟩ := hq
      dsimp only at Hi fi
      have c0 : (livesA b Lw b3 (windA A) i).1 0 = A 0 := si 0 (by omega) (by omega) (by omega)
      have hc8 := H.2.1.1
      have r0 := Hi.1.1 0 (by decide) (by decide) (by decide)
      rw [c0] at r0
      obtain ⟨σ2, l1, l2, l3⟩ := hm_live Hi (hS.mv fi) hd hbl (h := i) (by rw [c0]; exact hi)
      have c6 := si 6 (by omega) (by omega) (by omega)
      refine ⟨(nI (i + 1), σ2), ⟨rfl, ?_, fi.trans l3, si.trans (live_same Hi.2.2.2.2.1 Hi.2.1.2.1 (by omega))⟩, fun fu => ?_⟩
      · show HM b σ2 (liveA b Lw b3 (livesA b Lw b3 (windA A) i).1 i).1 (c + nI ((livesA b Lw b3 (windA A) i).2 + (liveA b Lw b3 (livesA b Lw b3 (windA A) i).1 i).2)) b3 tx
        rw [← nI_add, ← Int32.add_assoc]
        exact l2
      · dsimp only
        rw [f_X12_pass_22]
        simp (disch := omega) only [e_bnd, e_bndV, e_lt, e_grd, e_lit, e_le1, e_le2, e_lt1, e_lt2, e_eq1, e_eq2, e_inb, e_ix, nI_add, pk_mul, e_sub, e_b0, e_b1, e_bz, e_bz0, e_bz1, Bool.and_true, Bool.true_and, ↓reduceIte, not_true_eq_false, not_false_eq_true, decide_false, decide_true, and_self, and_true, true_and, and_false, false_and, Bool.false_eq_true, Bool.not_false, Bool.not_true, r0, l1])
    (fun q hq fu => by
      obtain ⟨v6, σi⟩ := q
      obtain ⟨rfl, Hi, fi, si⟩ := hq
      dsimp only at Hi fi
      have c0 : (livesA b Lw b3 (windA A) (A 0)).1 0 = A 0 := si 0 (by omega) (by omega) (by omega)
      have c6 : (livesA b Lw b3 (windA A) (A 0)).1 6 = A 6 := si 6 (by omega) (by omega) (by omega)
      have hc8 := H.2.1.1
      have r0 := Hi.1.1 0 (by decide) (by decide) (by decide)
      have r6 := Hi.1.1 6 (by decide) (by decide) (by decide)
      rw [c0] at r0
      rw [c6] at r6
      have H3 := Hi.upd (j := 6) (v := A 6 + 1) (by omega) (Hi.2.1.clock (by omega))
      have hpa : up (livesA b Lw b3 (windA A) (A 0)).1 6 (A 6 + 1) = (passA b Lw A).1 := by rw [hb3]; rfl
      have hpc : (livesA b Lw b3 (windA A) (A 0)).2 = (passA b Lw A).2 := by rw [hb3]; rfl
      rw [hpa, hpc] at H3
      have ha3 := m_allOf H3.1 H3.2.1 (f := 3) (by decide)
      refine ⟨wI (wI σi 1 6 (nI (A 6 + 1))) 0 23 (nI (fires (passA b Lw A).1 3 3)), fires (passA b Lw A).1 3 3, mk8 _ H3.2.1.1, ?_, ?_, (fi.trans (fr.w (by omega))).trans (fr.w (by omega))⟩
      · dsimp only
        rw [f_X12_pass_22]
        simp (disch := omega) only [e_bnd, e_bndV, e_lt, e_grd, e_lit, e_le1, e_le2, e_lt1, e_lt2, e_eq1, e_eq2, e_inb, e_ix, nI_add, pk_mul, e_sub, e_b0, e_b1, e_bz, e_bz0, e_bz1, Bool.and_true, Bool.true_and, ↓reduceIte, not_true_eq_false, not_false_eq_true, decide_false, decide_true, and_self, and_true, true_and, and_false, false_and, Bool.false_eq_true, Bool.not_false, Bool.not_true, r0, r6, ha3]
      · obtain ⟨h1, h2, h3, h4, h5, h6, h7, h8⟩ := H3
        exact ⟨h1.put0 (by decide), h2, h3, by rw [e_ne2 (by decide)]; exact h4, h5, by rw [e_ne2 (by decide)]; exact h6, e_hit, by rw [e_ne1 (by decide)]; exact h8⟩)
    FU (by have := H.2.1.1; unfold FU; omega) (nI 0, wI σ1 0 23 (nI b3)) ⟨rfl, by rw [show c + nI (livesA b Lw b3 (windA A) 0).2 = c from Int32.add_zero c]; exact H2, f2, sw⟩
  obtain ⟨σ', bu', e0, e1, e2, e3⟩ := main
  refine ⟨σ', bu', e0, ?_, e2, e3⟩
  unfold f_X12_pass
  simp (disch := omega) only [e_bnd, e_bndV, e_lt, e_grd, e_lit, e_le1, e_le2, e_lt1, e_lt2, e_eq1, e_eq2, e_inb, e_ix, nI_add, pk_mul, e_sub, e_b0, e_b1, e_bz, e_bz0, e_bz1, Bool.and_true, Bool.true_and, ↓reduceIte, not_true_eq_false, not_false_eq_true, decide_false, decide_true, and_self, and_true, true_and, and_false, false_and, Bool.false_eq_true, Bool.not_false, Bool.not_true, d1]
  rw [← hσ1]
  simp (disch := omega) only [e_bnd, e_bndV, e_lt, e_grd, e_lit, e_le1, e_le2, e_lt1, e_lt2, e_eq1, e_eq2, e_inb, e_ix, nI_add, pk_mul, e_sub, e_b0, e_b1, e_bz, e_bz0, e_bz1, Bool.and_true, Bool.true_and, ↓reduceIte, not_true_eq_false, not_false_eq_true, decide_false, decide_true, and_self, and_true, true_and, and_false, false_and, Bool.false_eq_true, Bool.not_false, Bool.not_true, ha]
  exact e1
