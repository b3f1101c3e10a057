/-! dawn: the method -/
abbrev Sst : Nat → Nat → Prop := fun a _ => 62 ≤ a ∧ a ≤ 66
def askO (A : Nat → Nat) (i : Nat) : Nat := mk i fun k => decide (mayO A k ≠ 0)
theorem x_settle {σ : Sg} {A : Nat → Nat} (hX : XT σ 2 A) (hR : XR σ 8 A) (hB : BT A) {E : Nat} (hE : 1 ≤ E ∧ E ≤ 8) : ∃ σ', f_X0_settle 2 8 (nI E) σ = some σ' ∧ fr Sst σ σ' ∧ σ'.1 62 1 = nI (sol (mayO A) 8 0 (fun _ => E)).1 ∧ ∀ j, j < 8 → σ'.1 63 j = (sol (mayO A) 8 0 (fun _ => E)).2 j := by
  have c8 := hB.1
  have x1 := x_mayGive hX hB
  have x2 : f_X8_housesBy 2 (nI 0) (nI 0) σ = some (nI (fires A 0 0), σ) := x_housesBy hX hB (by decide) (by decide)
  unfold f_X0_settle
  rw [x1, e_bnd, show (0 : Int32) = nI 0 from rfl, x2, e_bnd, e_lt]
  refine lpI (fun fu (q : Int32 × Sg) => f_X0_settle_22 2 8 fu (nI E) (nI (mayG A)) (nI (fires A 0 0)) q.1 q.2) (fun i q => q.1 = nI i ∧ (∀ k, k < i → q.2.1 66 k = nI (mayO A k) ∧ q.2.1 65 k = nI 0 ∧ q.2.1 63 k = -1) ∧ q.2.1 62 5 = nI (askO A i) ∧ fr Sst σ q.2) 8 (fun r => ∃ σ', r = some σ' ∧ fr Sst σ σ' ∧ σ'.1 62 1 = nI (sol (mayO A) 8 0 (fun _ => E)).1 ∧ ∀ j, j < 8 → σ'.1 63 j = (sol (mayO A) 8 0 (fun _ => E)).2 j) (fun i hi q hq => ?_) (fun q hq fu => ?_) FU (by unfold FU; omega) (nI 0, wI σ 62 5 (nI 0)) ⟨rfl, fun k hk => absurd hk (by omega), ?_, fr.w (by omega)⟩
  · obtain ⟨v, t⟩ := q
    obtain ⟨q0, q1, q2, q3⟩ := hq
    dsimp only at q0 q1 q2 q3
    subst q0
    have ml := mayO_lt A i
    have st : ∀ nv, f_X0_settle_60 2 8 (f_X0_settle_22 2 8 nv) (nI E) (nI (mayG A)) (nI (fires A 0 0)) (nI i) (nI i) (nI (mayO A i)) t = f_X0_settle_22 2 8 nv (nI E) (nI (mayG A)) (nI (fires A 0 0)) (nI (i + 1)) (wI (wI (wI (wI t 66 i (nI (mayO A i))) 62 5 (nI (askO A (i + 1)))) 65 i (nI 0)) 63 i (-1)) := by
      intro nv
      have sh := sh1 i (by omega)
      by_cases z : mayO A i = 0
      · have ea : askO A (i + 1) = askO A i := mk_0 (by rw [decide_eq_false (fun q => q z)])
        rw [ea]
        unfold f_X0_settle_60
        clear q1 q3 hX hR hB x1 x2 ea
        simp (disch := omega) only [e_bnd, e_bndV, e_lt, e_grd, e_lit, e_le1, e_le2, e_lt1, e_lt2, e_eq1, e_eq2, e_inb, e_ix, nI_add, pk_mul, e_sub, e_b0, e_b1, e_bz, e_bz0, e_bz1, Bool.and_true, Bool.true_and, ↓reduceIte, not_true_eq_false, not_false_eq_true, decide_false, decide_true, and_self, and_true, true_and, and_false, false_and, Bool.false_eq_true, Bool.not_false, Bool.not_true, e_hit, e_ne1, z, q2, f_X0_settle_84, or_I, Nat.or_zero]
      · have ea : askO A (i + 1) = askO A i ||| 2 ^ i := mk_1 (by rw [decide_eq_true z])
        rw [ea]
        unfold f_X0_settle_60
        clear q1 q3 hX hR hB x1 x2 ea
        simp (disch := omega) only [e_bnd, e_bndV, e_lt, e_grd, e_lit, e_le1, e_le2, e_lt1, e_lt2, e_eq1, e_eq2, e_inb, e_ix, nI_add, pk_mul, e_sub, e_b0, e_b1, e_bz, e_bz0, e_bz1, Bool.and_true, Bool.true_and, ↓reduceIte, not_true_eq_false, not_false_eq_true, decide_false, decide_true, and_self, and_true, true_and, and_false, false_and, Bool.false_eq_true, Bool.not_false, Bool.not_true, e_hit, e_ne1, z, q2, f_X0_settle_84, or_I, sh]
    refine ⟨(nI (i + 1), wI (wI (wI (wI t 66 i (nI (mayO A i))) 62 5 (nI (askO A (i + 1)))) 65 i (nI 0)) 63 i (-1)), ⟨rfl, fun k hk => ?_, ?_, ?_⟩, fun fu => ?_⟩
    · dsimp only
      by_cases y : k = i
      · subst y
        refine ⟨?_, ?_, e_hit⟩
        · rw [e_ne1 (by decide), e_ne1 (by decide), e_ne1 (by decide), e_hit]
        · rw [e_ne1 (by decide), e_hit]
      · rw [e_ne1 (by decide), e_ne1 (by decide), e_ne1 (by decide), e_ne2 y, e_ne1 (by decide), e_ne2 y, e_ne1 (by decide), e_ne1 (by decide), e_ne2 y, e_ne1 (by decide), e_ne1 (by decide), e_ne1 (by decide)]
        exact q1 k (by omega)
    · dsimp only
      rw [e_ne1 (by decide), e_ne1 (by decide), e_hit]
    · exact q3.trans ((((fr.w (by omega)).trans (fr.w (by omega))).trans (fr.w (by omega))).trans (fr.w (by omega)))
    · have s := st fu
      have xb := hR.2 i (by omega)
      have yb : t.1 10 i = nI (bes A i) := by rw [q3.1 _ _ (by omega)]; exact xb
      have fl : fires A 0 0 < 256 := mk8 _ c8
      dsimp only
      rw [f_X0_settle_22]
      by_cases z : (fires A 0 0).testBit i = true
      · have hb := e_hbT fl (by omega : i < 9) z
        have em : mayO A i = bes A i &&& mayG A := if_pos z
        rw [em] at s ⊢
        clear q1 q2 q3 hX hR hB x1 x2 st ml em
        simp (disch := omega) only [e_bnd, e_bndV, e_lt, e_grd, e_lit, e_le1, e_le2, e_lt1, e_lt2, e_eq1, e_eq2, e_inb, e_ix, nI_add, pk_mul, e_sub, e_b0, e_b1, e_bz, e_bz0, e_bz1, Bool.and_true, Bool.true_and, ↓reduceIte, not_true_eq_false, not_false_eq_true, decide_false, decide_true, and_self, and_true, true_and, and_false, false_and, Bool.false_eq_true, Bool.not_false, Bool.not_true, hb, yb, and_I]
        exact s
      · have hb := e_hbF fl (by omega : i < 9) (Bool.eq_false_iff.mpr z)
        have em : mayO A i = 0 := if_neg z
        rw [em] at s ⊢
        clear q1 q2 q3 hX hR hB x1 x2 st ml em
        simp (disch := omega) only [e_bnd, e_bndV, e_lt, e_grd, e_lit, e_le1, e_le2, e_lt1, e_lt2, e_eq1, e_eq2, e_inb, e_ix, nI_add, pk_mul, e_sub, e_b0, e_b1, e_bz, e_bz0, e_bz1, Bool.and_true, Bool.true_and, ↓reduceIte, not_true_eq_false, not_false_eq_true, decide_false, decide_true, and_self, and_true, true_and, and_false, false_and, Bool.false_eq_true, Bool.not_false, Bool.not_true, hb]
        exact s
  · obtain ⟨v, t⟩ := q
    obtain ⟨q0, q1, q2, q3⟩ := hq
    dsimp only at q0 q1 q2 q3
    subst q0
    have al : askO A 8 < 256 := mk8 _ (by decide)
    obtain ⟨u, u1, u2, u3, u4, u5⟩ := x_choose (f := mayO A) (E := E) (ask := askO A 8) hE al (fun h _ => mayO_lt A h) (fun h hh q => by
      unfold askO
      rw [mk_bit, decide_eq_true hh, Bool.true_and]
      exact decide_eq_true q) 8 0 rfl 200 (by decide) (wI (wI t 62 6 (nI E)) 62 1 (nI 0)) (fun _ => E) (0, fun _ => -1) (fun _ => 0) 0 (fun _ _ => Nat.le_refl _) (Nat.le_refl _) (Nat.zero_le _) ⟨fun h hh => by rw [e_ne1 (by decide), e_ne1 (by decide)]; exact (q1 h hh).1, by rw [e_ne2 (by decide), e_hit], by rw [e_ne2 (by decide), e_ne2 (by decide)]; exact q2⟩ (fun g hg => by
      rw [e_ne1 (by decide), e_ne1 (by decide), Nat.sub_self]
      exact (q1 g hg).2.1) ⟨e_hit, fun j hj => by rw [e_ne1 (by decide), e_ne1 (by decide)]; exact (q1 j hj).2.2⟩ (fun j hj => absurd hj (by omega))
    have ew : nw (0, fun _ => -1) (0 + (sol (mayO A) 8 0 (fun _ => E)).1) (mix 0 (fun _ => 0) (sol (mayO A) 8 0 (fun _ => E)).2) = sol (mayO A) 8 0 (fun _ => E) := by
      have em : mix 0 (fun _ => 0) (sol (mayO A) 8 0 (fun _ => E)).2 = (sol (mayO A) 8 0 (fun _ => E)).2 := by
        funext j
        exact if_neg (by omega)
      rw [em, Nat.zero_add]
      unfold nw
      by_cases z : (0 : Nat) < (sol (mayO A) 8 0 (fun _ => E)).1
      · rw [if_pos z]
      · rw [if_neg z]
        have z0 : (sol (mayO A) 8 0 (fun _ => E)).1 = 0 := by omega
        have := sol_zero (mayO A) 8 0 (fun _ => E) z0
        exact Prod.ext z0.symm this.symm
    rw [ew] at u3
    refine ⟨u, ?_, (q3.trans ((fr.w (by omega)).trans (fr.w (by omega)))).trans (u5.mono (fun a j q => by omega)), u3.1, u3.2⟩
    have u1' : f_X0_choose (nI 0) (nI 0) (wI (wI t 62 6 (nI E)) 62 1 (nI 0)) = some u := u1
    dsimp only
    rw [f_X0_settle_22]
    clear q1 q2 q3 hX hR hB x1 x2 u1 u2 u3 u4 u5 ew
    simp (disch := omega) only [e_bnd, e_bndV, e_lt, e_grd, e_lit, e_le1, e_le2, e_lt1, e_lt2, e_eq1, e_eq2, e_inb, e_ix, nI_add, pk_mul, e_sub, e_b0, e_b1, e_bz, e_bz0, e_bz1, Bool.and_true, Bool.true_and, ↓reduceIte, not_true_eq_false, not_false_eq_true, decide_false, decide_true, and_self, and_true, true_and, and_false, false_and, Bool.false_eq_true, Bool.not_false, Bool.not_true, u1']
  · rw [e_hit]
    rfl
theorem m_dawn29 {σ : Sg} {A : Nat → Nat} (hM : MA σ A) (hB : BT A) (hRR : BR A) {E : Nat} (hE : E ≤ 8) (w : Int32) {r : Int32} (hr : (w = -1 ∧ r = nI (sol (mayO A) 8 0 (fun _ => E)).1) ∨ ∃ e, e < 8 ∧ w = nI e ∧ (fires A 0 0).testBit e = true ∧ r = (sol (mayO A) 8 0 (fun _ => E)).2 e) : ∃ σ', fr S12 σ σ' ∧ f_X12_dawn_29 FU (nI E) w (nI 0) σ = some (r, σ') := by
  have c8 := hB.1
  refine lpI (fun fu (q : Int32 × Sg) => f_X12_dawn_29 fu (nI E) w q.1 q.2) (fun i q => q.1 = nI i ∧ (∀ g, g < i → q.2.1 12 g = nI (if (mayG A).testBit g = true then E else 0)) ∧ fr S12 σ q.2) (A 0) (fun x => ∃ σ', fr S12 σ σ' ∧ x = some (r, σ')) (fun i hi q hq => ?_) (fun q hq fu => ?_) FU (by unfold FU; omega) (nI 0, σ) ⟨rfl, fun g hg => absurd hg (by omega), fr.rfl⟩
  · obtain ⟨v, t⟩ := q
    obtain ⟨q0, q1, q2⟩ := hq
    dsimp only at q0 q1 q2
    subst q0
    have hMt : MA t A := hM.of q2 (by intro a j q; omega)
    have rt := hMt.1 0 (by decide) (by decide) (by decide)
    have mg := m_isGiver hMt hB hi
    have bit : (mayG A).testBit i = decide ((A (10 + 5 * i) = 1 ∨ A (10 + 5 * i) = 2) ∧ 2 ≤ A (10 + 5 * i + 1)) := by
      unfold mayG
      rw [mk_bit, decide_eq_true hi, Bool.true_and]
    refine ⟨(nI (i + 1), wI t 12 i (nI (if (mayG A).testBit i = true then E else 0))), ⟨rfl, fun g hg => ?_, q2.trans (fr.w rfl)⟩, fun fu => ?_⟩
    · dsimp only
      by_cases y : g = i
      · subst y; rw [e_hit]
      · rw [e_ne2 y]
        exact q1 g (by omega)
    · dsimp only
      rw [f_X12_dawn_29]
      by_cases z : (A (10 + 5 * i) = 1 ∨ A (10 + 5 * i) = 2) ∧ 2 ≤ A (10 + 5 * i + 1)
      · rw [if_pos z] at mg
        have em : (if (mayG A).testBit i = true then E else 0) = E := if_pos (bit.trans (decide_eq_true z))
        rw [em]
        clear q1 q2 hM hMt hB hRR bit hr
        simp (disch := omega) only [e_bnd, e_bndV, e_lt, e_grd, e_lit, e_le1, e_le2, e_lt1, e_lt2, e_eq1, e_eq2, e_inb, e_ix, nI_add, pk_mul, e_sub, e_b0, e_b1, e_bz, e_bz0, e_bz1, Bool.and_true, Bool.true_and, ↓reduceIte, not_true_eq_false, not_false_eq_true, decide_false, decide_true, and_self, and_true, true_and, and_false, false_and, Bool.false_eq_true, Bool.not_false, Bool.not_true, rt, mg, f_X12_dawn_57]
      · rw [if_neg z] at mg
        have em : (if (mayG A).testBit i = true then E else 0) = 0 := if_neg (by rw [bit, decide_eq_false z]; decide)
        rw [em]
        clear q1 q2 hM hMt hB hRR bit hr
        simp (disch := omega) only [e_bnd, e_bndV, e_lt, e_grd, e_lit, e_le1, e_le2, e_lt1, e_lt2, e_eq1, e_eq2, e_inb, e_ix, nI_add, pk_mul, e_sub, e_b0, e_b1, e_bz, e_bz0, e_bz1, Bool.and_true, Bool.true_and, ↓reduceIte, not_true_eq_false, not_false_eq_true, decide_false, decide_true, and_self, and_true, true_and, and_false, false_and, Bool.false_eq_true, Bool.not_false, Bool.not_true, rt, mg, f_X12_dawn_57]
  · obtain ⟨v, t⟩ := q
    obtain ⟨q0, q1, q2⟩ := hq
    dsimp only at q0 q1 q2
    subst q0
    have hMt : MA t A := hM.of q2 (by intro a j q; omega)
    have rt := hMt.1 0 (by decide) (by decide) (by decide)
    have ma := m_allOf hMt hB (f := 0) (by decide)
    have fl : fires A 0 0 < 256 := mk8 _ c8
    have oa := Oh_all fl
    obtain ⟨d, d1, d2⟩ := m_givenOf hMt c8 hRR hE (r := fun _ => E) (fun _ _ => Nat.le_refl _) (fun g hg => q1 g hg) fl (fun _ _ q => q)
    rw [nu_given (d := 8) (h := 0) rfl oa.symm d1] at d2
    rcases hr with ⟨rfl, rfl⟩ | ⟨e, e1, rfl, e2, rfl⟩
    · refine ⟨t, q2, ?_⟩
      dsimp only
      rw [f_X12_dawn_29, show t.1 1 (ix 0) = nI (A 0) from rt]
      rw [grd_of (by decide), if_pos (nI_le (Nat.le_refl _) (by omega)), show (0 : Int32) = nI 0 from rfl, ma, e_bnd, d2, e_bnd, if_pos rfl]
    · obtain ⟨s, s1, s2⟩ := m_dawn91 hMt c8 hRR hE e1 e2 (fun j => (sol (mayO A) 8 0 (fun _ => E)).2 j) 8 0 rfl (by omega) t (fun _ => E) (-1) fr.rfl (fun _ _ => Nat.le_refl _) (fun g hg => q1 g hg) (fun _ _ _ => rfl) (fun w => absurd w (by omega)) FU (by unfold FU; omega)
      rw [oa] at s1
      have nk : ¬ (nI e = -1) := by
        have := e_m1n e (by omega)
        intro w
        rw [show (-1 : Int32) = -nI 1 from rfl, this] at w
        exact w
      refine ⟨s, q2.trans s2, ?_⟩
      dsimp only
      rw [f_X12_dawn_29, show t.1 1 (ix 0) = nI (A 0) from rt]
      rw [grd_of (by decide), if_pos (nI_le (Nat.le_refl _) (by omega)), show (0 : Int32) = nI 0 from rfl, ma, e_bnd, d2, e_bnd, if_neg nk]
      exact s1
theorem g_dawn {κ : Kd} {T : TD} (v w : Int32) : GO κ T (f_X11_dawn v w) (f_X12_dawn v w) := by
  intro σX σM ⟨A, B, I⟩
  have hM := I.2.1
  have hB := I.1.1
  have c8 := hB.1
  have hR := I.1.2.2.1
  rcases rng v 1 8 (by decide) (by decide) with hn | ⟨E, hE1, hE2, rfl⟩
  · refine I.q (r := -2) ?_ ?_
    · unfold f_X11_dawn
      simp (disch := omega) only [e_bnd, e_bndV, e_lt, e_grd, e_lit, e_le1, e_le2, e_lt1, e_lt2, e_eq1, e_eq2, e_inb, e_ix, nI_add, pk_mul, e_sub, e_b0, e_b1, e_bz, e_bz0, e_bz1, Bool.and_true, Bool.true_and, ↓reduceIte, not_true_eq_false, not_false_eq_true, decide_false, decide_true, and_self, and_true, true_and, and_false, false_and, Bool.false_eq_true, Bool.not_false, Bool.not_true, x_within, hn]
    · unfold f_X12_dawn f_X12_dawn_24
      simp (disch := omega) only [e_bnd, e_bndV, e_lt, e_grd, e_lit, e_le1, e_le2, e_lt1, e_lt2, e_eq1, e_eq2, e_inb, e_ix, nI_add, pk_mul, e_sub, e_b0, e_b1, e_bz, e_bz0, e_bz1, Bool.and_true, Bool.true_and, ↓reduceIte, not_true_eq_false, not_false_eq_true, decide_false, decide_true, and_self, and_true, true_and, and_false, false_and, Bool.false_eq_true, Bool.not_false, Bool.not_true, m_isIn, hn]
  obtain ⟨s, s1, s2, s3, s4⟩ := x_settle I.2.2.1.1 I.xr hB ⟨hE1, hE2⟩
  have wi : f_X11_within (nI E) 1 8 σX = some (nI 1, σX) := by
    rw [x_within, if_pos ⟨nI_le (a := 1) hE1 (by omega), nI_le (b := 8) hE2 (by omega)⟩]
  have mi : f_X12_isIn (nI E) 1 8 σM = some (nI 1, σM) := by
    rw [m_isIn, if_pos ⟨nI_le (a := 1) hE1 (by omega), nI_le (b := 8) hE2 (by omega)⟩]
  have fX : fr scrX σX s := s2.mono (fun a j q => by omega)
  unfold f_X11_dawn f_X12_dawn
  rw [wi, mi, e_bnd, e_bnd, if_neg (show ¬ (nI 1 = 0) by decide), if_neg (show ¬ (nI 1 = 0) by decide)]
  by_cases hw : w = -1
  · obtain ⟨m, m1, m2⟩ := m_dawn29 hM hB hR hE2 w (Or.inl ⟨hw, rfl⟩)
    refine ⟨nI (sol (mayO A) 8 0 (fun _ => E)).1, s, m, ?_, ?_, A, B, I.scr fX (m1.mono (fun a j q => by omega))⟩
    · rw [if_pos hw]
      unfold f_X11_dawn_50 f_X11_dawn_96
      rw [s1, e_bndV, if_pos hw, s3]
    · rw [if_pos hw]
      exact m2
  · rw [if_neg hw, if_neg hw]
    rcases I.told w with ⟨e1, e2, _⟩ | ⟨e, he, rfl, e1, e2⟩
    · have e3 := m_isSo0 I e2 (nI 0)
      refine I.q (r := -2) ?_ ?_
      · rw [e1, e_bnd, if_pos (show nI 0 = 0 from rfl)]
        rfl
      · rw [show (0 : Int32) = nI 0 from rfl, e3, e_bnd, if_pos rfl]
        rfl
    · have e3 := m_isSo hM hB (f := 0) he (by decide)
      have x5 : σX.1 5 e = nI (A (10 + 5 * e)) := I.2.2.1.1.2.2.2.2.2.2.1 e (by omega)
      have b4 := (hB.2.2.2.2 e (by omega)).1
      have g1 : (inb (nI e) 8 && true) = true := by rw [e_inb (by omega) (by decide)]; rfl
      have ixe : ix (nI e) = e := e_ix (by omega)
      rw [e1, e_bnd, if_neg (by decide), grd_of g1, ixe, x5, show (0 : Int32) = nI 0 from rfl, e3, e_bnd]
      by_cases hz : A (10 + 5 * e) = 0
      · have bit : (fires A 0 0).testBit e = true := by
          unfold fires
          rw [mk_bit, decide_eq_true he, Bool.true_and]
          exact decide_eq_true ⟨Nat.zero_le _, by omega⟩
        obtain ⟨m, m1, m2⟩ := m_dawn29 hM hB hR hE2 (nI e) (Or.inr ⟨e, by omega, rfl, bit, rfl⟩)
        refine ⟨(sol (mayO A) 8 0 (fun _ => E)).2 e, s, m, ?_, ?_, A, B, I.scr fX (m1.mono (fun a j q => by omega))⟩
        · rw [if_pos (by rw [hz])]
          unfold f_X11_dawn_50 f_X11_dawn_96
          rw [s1, e_bndV, if_neg hw, grd_of g1, ixe, s4 e (by omega)]
        · rw [if_pos hz, if_neg (by decide)]
          exact m2
      · refine I.q (r := -2) ?_ ?_
        · rw [if_neg (fun q => hz ((nI_eq (by omega) (by decide)).mp q))]
          rfl
        · rw [if_neg hz, if_pos rfl]
          rfl
