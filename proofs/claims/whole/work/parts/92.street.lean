/-! METHODS: street -/
def stb (m h : Nat) (b : Bool) : Nat := mk 8 fun e => if e = h then b else m.testBit e
theorem stb_lt (m h : Nat) (b : Bool) : stb m h b < 256 := mk8 _ (by decide)
theorem stb_f : ∀ m, m < 256 → ∀ h, h < 8 → (nI m &&& (shl (nI 1) (nI h) ^^^ -nI 1)) ||| nI 0 = nI (stb m h false) := by decide +kernel
theorem stb_t : ∀ m, m < 256 → ∀ h, h < 8 → (nI m &&& (shl (nI 1) (nI h) ^^^ -nI 1)) ||| shl (nI 1) (nI h) = nI (stb m h true) := by decide +kernel
theorem x_lay {σ : Sg} {A : Nat → Nat} (hR : XR σ 8 A) {h k l : Nat} (hh : h < 8) (hk : k < 8) (hne : h ≠ k) (hl : l ≤ 99) : ∃ σ', f_X5_lay 8 (nI h) (nI k) (nI l) σ = some σ' ∧ XR σ' 8 (up (up A (50 + 8 * h + k) l) (50 + 8 * k + h) l) ∧ fr (fun a _ => a = 9 ∨ a = 10) σ σ' := by
  obtain ⟨r1, r2⟩ := hR
  have b1 : σ.1 10 h = nI (bes A h) := r2 h hh
  have b2 : σ.1 10 k = nI (bes A k) := r2 k hk
  have l1 := bes_lt A h
  have l2 := bes_lt A k
  obtain ⟨b, hb⟩ : ∃ b : Bool, b = decide (0 < l) := ⟨_, rfl⟩
  have z1 : ∀ x, x < 8 → bes (up (up A (50 + 8 * h + k) l) (50 + 8 * k + h) l) x = if x = h then stb (bes A h) k b else if x = k then stb (bes A k) h b else bes A x := by
    intro x hx
    have hlt : (if x = h then stb (bes A h) k b else if x = k then stb (bes A k) h b else bes A x) < 256 := by
      split
      · exact stb_lt _ _ _
      · split
        · exact stb_lt _ _ _
        · exact bes_lt _ _
    refine bit_eq (bes_lt _ _) hlt fun e he => ?_
    rw [bes_bit _ _ _ he]
    by_cases q1 : x = h
    · rw [if_pos q1, stb, mk_bit, bes_bit _ _ _ he]
      by_cases q2 : e = k
      · rw [up_ne (by omega), up_hit2 (by omega)]
        simp [he, q2, hb, hk]
      · rw [up_ne (by omega), up_ne (by omega)]
        simp [he, q2, q1]
    · rw [if_neg q1]
      by_cases q3 : x = k
      · rw [if_pos q3, stb, mk_bit, bes_bit _ _ _ he]
        by_cases q2 : e = h
        · rw [up_hit2 (by omega)]
          simp [he, q2, hb, hh]
        · rw [up_ne (by omega), up_ne (by omega)]
          simp [he, q2, q3]
      · rw [if_neg q3, up_ne (by omega), up_ne (by omega), bes_bit _ _ _ he]
  refine ⟨wI (wI (wI (wI σ 9 (h * 8 + k) (nI l)) 9 (k * 8 + h) (nI l)) 10 h (nI (stb (bes A h) k b))) 10 k (nI (stb (bes A k) h b)), ?_, ⟨fun i hi => ?_, fun x hx => ?_⟩, (((fr.w (by omega)).trans (fr.w (by omega))).trans (fr.w (by omega))).trans (fr.w (by omega))⟩
  · have f1 := stb_f _ l1 k hk
    have f2 := stb_f _ l2 h hh
    have t1 := stb_t _ l1 k hk
    have t2 := stb_t _ l2 h hh
    unfold f_X5_lay f_X5_lay_52 f_X5_lay_82
    by_cases q : 0 < l
    · have hbt : b = true := by rw [hb]; exact decide_eq_true q
      rw [hbt]
      simp (disch := omega) only [e_bnd, e_bndV, e_lt, e_grd, e_lit, e_le1, e_le2, e_lt1, e_lt2, e_eq1, e_eq2, e_inb, e_ix, nI_add, pk_mul, e_sub, e_b0, e_b1, e_bz, e_bz0, e_bz1, Bool.and_true, Bool.true_and, ↓reduceIte, not_true_eq_false, not_false_eq_true, decide_false, decide_true, and_self, and_true, true_and, and_false, false_and, Bool.false_eq_true, Bool.not_false, Bool.not_true, e_ne1, b1, b2, t1, t2, e_ne2]
    · have hbt : b = false := by rw [hb]; exact decide_eq_false q
      rw [hbt]
      simp (disch := omega) only [e_bnd, e_bndV, e_lt, e_grd, e_lit, e_le1, e_le2, e_lt1, e_lt2, e_eq1, e_eq2, e_inb, e_ix, nI_add, pk_mul, e_sub, e_b0, e_b1, e_bz, e_bz0, e_bz1, Bool.and_true, Bool.true_and, ↓reduceIte, not_true_eq_false, not_false_eq_true, decide_false, decide_true, and_self, and_true, true_and, and_false, false_and, Bool.false_eq_true, Bool.not_false, Bool.not_true, e_ne1, b1, b2, f1, f2, e_ne2]
  · show (wI (wI (wI (wI σ 9 (h * 8 + k) (nI l)) 9 (k * 8 + h) (nI l)) 10 h (nI (stb (bes A h) k b))) 10 k (nI (stb (bes A k) h b))).1 9 i = _
    rw [e_ne1 (by decide), e_ne1 (by decide)]
    by_cases q1 : i = k * 8 + h
    · rw [q1, e_hit, up_hit2 (by omega)]
    · rw [e_ne2 q1, up_ne (by omega)]
      by_cases q2 : i = h * 8 + k
      · rw [q2, e_hit, up_hit2 (by omega)]
      · rw [e_ne2 q2, up_ne (by omega)]
        exact r1 i hi
  · show (wI (wI (wI (wI σ 9 (h * 8 + k) (nI l)) 9 (k * 8 + h) (nI l)) 10 h (nI (stb (bes A h) k b))) 10 k (nI (stb (bes A k) h b))).1 10 x = _
    rw [z1 x hx]
    by_cases q1 : x = h
    · rw [if_pos q1, q1, e_ne2 hne, e_hit]
    · rw [if_neg q1]
      by_cases q3 : x = k
      · rw [if_pos q3, q3, e_hit]
      · rw [if_neg q3, e_ne2 q3, e_ne2 q1, e_ne1 (by decide), e_ne1 (by decide)]
        exact r2 x hx
theorem I2.str {κ : Kd} {T : TD} {σX σX' σM σM' : Sg} {A A' B : Nat → Nat} (I : I2 κ T σX σM A B) (f : fr (fun a _ => a = 9 ∨ a = 10) σX σX') (g : fr (fun a j => a = 1 ∧ 50 ≤ j ∧ j < 114) σM σM') (hM : MA σM' A') (hR : XR σX' 8 A') (e : ∀ j, ¬ (50 ≤ j ∧ j < 114) → A' j = A j) (hB : BR A') : I2 κ T σX' σM' A' B := by
  obtain ⟨⟨w1, w2, w3, w4, w5, w6, w7, w8, w9, w10, w11, w12⟩, i2, i3, i4, i5, i6, i7, i8⟩ := I
  refine ⟨⟨w1.cong (fun j hj => e j (by omega)), BN_congr w2 (fun j hj => e j (by omega)), hB, BS_congr w4 w1.1 (fun j hj => e j (by omega)), by rw [e 1 (by omega)]; exact w5, by rw [e 1 (by omega), e 2 (by omega)]; exact w6, by rw [e 4 (by omega)]; exact w7, by rw [e 5 (by omega)]; exact w8, fun i hi => ?_, fun i hi => by rw [e _ (by omega)]; exact w10 i hi, fun i hi => by rw [e _ (by omega)]; exact w11 i hi, fun i hi => ?_⟩, hM, ⟨(i3.1.of (fun a j q _ => f.1 _ _ (by omega))).congr (fun j hj => (e j (by omega)).symm), ?_, hR, (i3.2.2.2.1.of (fun a j q => f.1 _ _ (by omega))).congr w4.1 (fun j hj => e j (by omega)), (i3.2.2.2.2.of (fun a j q => f.1 _ _ (by omega))).congr (fun j hj => e j (by omega))⟩, i4, i5.of (fun j => g.1 _ _ (by omega)), i6.of (fun a j q => f.1 _ _ (by omega)), i7.of2 (fun a j q => f.1 _ _ (by omega)) (fun a j q => g.1 _ _ (by omega)), i8.of (fun a ha j => f.1 _ _ (by omega)) f.2 (fun j => g.1 _ _ (by omega)) (e 1 (by omega)) rfl⟩
  · rw [e 4 (by omega)] at hi
    rw [e (138 + 3 * i) (by omega), e (138 + 3 * i + 1) (by omega), e 0 (by omega)]
    exact w9 i hi
  · rw [e 5 (by omega)] at hi
    rw [e (170 + 2 * i) (by omega), e (170 + 2 * i + 1) (by omega), e 0 (by omega)]
    exact w12 i hi
  · have hN := i3.2.1.of (σ' := σX') (fun a j q => f.1 _ _ (by omega))
    exact ⟨by rw [e 9 (by omega)]; exact hN.1, fun i hi => by rw [e _ (by omega)]; exact hN.2 i hi⟩
theorem h_street {κ : Kd} {T : TD} (v w u : Int32) {σX σM : Sg} (J : Inv κ T σX σM) : ∃ b x m, b ≤ 1 ∧ f_X11_street v w u σX = some (nI b, x) ∧ f_X12_street v w u σM = some (nI b, m) ∧ Inv κ T x m := by
  obtain ⟨A, B, I⟩ := J
  have c8 := I.1.1.1
  have hBR := I.1.2.2.1
  unfold f_X11_street f_X11_street_43 f_X12_street f_X12_street_31
  rcases I.told v with ⟨e1, e2, _⟩ | ⟨h, hh, rfl, e1, e2⟩
  · refine ⟨0, σX, σM, by decide, ?_, ?_, A, B, I⟩
    · simp (disch := omega) only [e_bnd, e_bndV, e_lt, e_grd, e_lit, e_le1, e_le2, e_lt1, e_lt2, e_eq1, e_eq2, e_inb, e_ix, nI_add, pk_mul, e_sub, e_b0, e_b1, e_bz, e_bz0, e_bz1, Bool.and_true, Bool.true_and, ↓reduceIte, not_true_eq_false, not_false_eq_true, decide_false, decide_true, and_self, and_true, true_and, and_false, false_and, Bool.false_eq_true, Bool.not_false, Bool.not_true, e1]
    · simp (disch := omega) only [e_bnd, e_bndV, e_lt, e_grd, e_lit, e_le1, e_le2, e_lt1, e_lt2, e_eq1, e_eq2, e_inb, e_ix, nI_add, pk_mul, e_sub, e_b0, e_b1, e_bz, e_bz0, e_bz1, Bool.and_true, Bool.true_and, ↓reduceIte, not_true_eq_false, not_false_eq_true, decide_false, decide_true, and_self, and_true, true_and, and_false, false_and, Bool.false_eq_true, Bool.not_false, Bool.not_true, e2]
  rcases I.told w with ⟨g1, g2, _⟩ | ⟨k, hk, rfl, g1, g2⟩
  · refine ⟨0, σX, σM, by decide, ?_, ?_, A, B, I⟩
    · simp (disch := omega) only [e_bnd, e_bndV, e_lt, e_grd, e_lit, e_le1, e_le2, e_lt1, e_lt2, e_eq1, e_eq2, e_inb, e_ix, nI_add, pk_mul, e_sub, e_b0, e_b1, e_bz, e_bz0, e_bz1, Bool.and_true, Bool.true_and, ↓reduceIte, not_true_eq_false, not_false_eq_true, decide_false, decide_true, and_self, and_true, true_and, and_false, false_and, Bool.false_eq_true, Bool.not_false, Bool.not_true, e1, g1]
    · simp (disch := omega) only [e_bnd, e_bndV, e_lt, e_grd, e_lit, e_le1, e_le2, e_lt1, e_lt2, e_eq1, e_eq2, e_inb, e_ix, nI_add, pk_mul, e_sub, e_b0, e_b1, e_bz, e_bz0, e_bz1, Bool.and_true, Bool.true_and, ↓reduceIte, not_true_eq_false, not_false_eq_true, decide_false, decide_true, and_self, and_true, true_and, and_false, false_and, Bool.false_eq_true, Bool.not_false, Bool.not_true, e2, g2]
  by_cases hne : h = k
  · subst hne
    refine ⟨0, σX, σM, by decide, ?_, ?_, A, B, I⟩
    · simp (disch := omega) only [e_bnd, e_bndV, e_lt, e_grd, e_lit, e_le1, e_le2, e_lt1, e_lt2, e_eq1, e_eq2, e_inb, e_ix, nI_add, pk_mul, e_sub, e_b0, e_b1, e_bz, e_bz0, e_bz1, Bool.and_true, Bool.true_and, ↓reduceIte, not_true_eq_false, not_false_eq_true, decide_false, decide_true, and_self, and_true, true_and, and_false, false_and, Bool.false_eq_true, Bool.not_false, Bool.not_true, e1]
    · simp (disch := omega) only [e_bnd, e_bndV, e_lt, e_grd, e_lit, e_le1, e_le2, e_lt1, e_lt2, e_eq1, e_eq2, e_inb, e_ix, nI_add, pk_mul, e_sub, e_b0, e_b1, e_bz, e_bz0, e_bz1, Bool.and_true, Bool.true_and, ↓reduceIte, not_true_eq_false, not_false_eq_true, decide_false, decide_true, and_self, and_true, true_and, and_false, false_and, Bool.false_eq_true, Bool.not_false, Bool.not_true, e2]
  rcases rng u 0 99 (by decide) (by decide) with hu | ⟨l, _, hl, rfl⟩
  · refine ⟨0, σX, σM, by decide, ?_, ?_, A, B, I⟩
    · simp (disch := omega) only [e_bnd, e_bndV, e_lt, e_grd, e_lit, e_le1, e_le2, e_lt1, e_lt2, e_eq1, e_eq2, e_inb, e_ix, nI_add, pk_mul, e_sub, e_b0, e_b1, e_bz, e_bz0, e_bz1, Bool.and_true, Bool.true_and, ↓reduceIte, not_true_eq_false, not_false_eq_true, decide_false, decide_true, and_self, and_true, true_and, and_false, false_and, Bool.false_eq_true, Bool.not_false, Bool.not_true, e1, g1, x_within, hu]
    · simp (disch := omega) only [e_bnd, e_bndV, e_lt, e_grd, e_lit, e_le1, e_le2, e_lt1, e_lt2, e_eq1, e_eq2, e_inb, e_ix, nI_add, pk_mul, e_sub, e_b0, e_b1, e_bz, e_bz0, e_bz1, Bool.and_true, Bool.true_and, ↓reduceIte, not_true_eq_false, not_false_eq_true, decide_false, decide_true, and_self, and_true, true_and, and_false, false_and, Bool.false_eq_true, Bool.not_false, Bool.not_true, e2, g2, m_isIn, hu]
  obtain ⟨x, a1, a2, a3⟩ := x_lay I.xr (h := h) (k := k) (l := l) (by omega) (by omega) hne hl
  refine ⟨1, x, wI (wI σM 1 (50 + 8 * h + k) (nI l)) 1 (50 + 8 * k + h) (nI l), by decide, ?_, ?_, _, B, I.str a3 ((fr.w (by omega)).trans (fr.w (by omega))) ((I.2.1.put (j := 50 + 8 * h + k) (by omega) l).put (j := 50 + 8 * k + h) (by omega) l) a2 (fun j hj => by rw [up_ne (by omega), up_ne (by omega)]) ?_⟩
  · simp (disch := omega) only [e_bnd, e_bndV, e_lt, e_grd, e_lit, e_le1, e_le2, e_lt1, e_lt2, e_eq1, e_eq2, e_inb, e_ix, nI_add, pk_mul, e_sub, e_b0, e_b1, e_bz, e_bz0, e_bz1, Bool.and_true, Bool.true_and, ↓reduceIte, not_true_eq_false, not_false_eq_true, decide_false, decide_true, and_self, and_true, true_and, and_false, false_and, Bool.false_eq_true, Bool.not_false, Bool.not_true, e1, g1, x_within, a1]
  · simp (disch := omega) only [e_bnd, e_bndV, e_lt, e_grd, e_lit, e_le1, e_le2, e_lt1, e_lt2, e_eq1, e_eq2, e_inb, e_ix, nI_add, pk_mul, e_sub, e_b0, e_b1, e_bz, e_bz0, e_bz1, Bool.and_true, Bool.true_and, ↓reduceIte, not_true_eq_false, not_false_eq_true, decide_false, decide_true, and_self, and_true, true_and, and_false, false_and, Bool.false_eq_true, Bool.not_false, Bool.not_true, e2, g2, m_isIn]
  · intro p q hp hq
    obtain ⟨z1, z2, z3, z4⟩ := hBR p q hp hq
    have y0 : up (up A (50 + 8 * h + k) l) (50 + 8 * k + h) l 0 = A 0 := by rw [up_ne (by omega), up_ne (by omega)]
    rw [y0]
    refine ⟨?_, ?_, fun hc => ?_, ?_⟩
    · simp only [up]
      split
      · exact hl
      · split
        · exact hl
        · exact z1
    · by_cases c1 : p = h ∧ q = k
      · rw [c1.1, c1.2, up_ne (by omega), up_hit, up_hit]
      · by_cases c2 : p = k ∧ q = h
        · rw [c2.1, c2.2, up_hit, up_ne (by omega), up_hit]
        · rw [up_ne (by omega), up_ne (by omega), up_ne (by omega), up_ne (by omega)]
          exact z2
    · rw [up_ne (by omega), up_ne (by omega)]
      exact z3 hc
    · rw [up_ne (by omega), up_ne (by omega)]
      exact z4
theorem g_street {κ : Kd} {T : TD} (v w u : Int32) : GO κ T (f_X11_street v w u) (f_X12_street v w u) := by
  intro σX σM J
  obtain ⟨b, x, m, _, h1, h2, h3⟩ := h_street v w u J
  exact ⟨nI b, x, m, h1, h2, h3⟩
