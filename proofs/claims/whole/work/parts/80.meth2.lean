/-! METHODS: street, the tape, fault, by, warmth, bid, seen, cooled -/
theorem HI.of2 {σX σX' σM σM' : Sg} (h : HI σX σM) (f : ∀ a j, (a = 14 ∨ a = 34 ∨ (a = 0 ∧ j = 10) ∨ a = 70 ∨ (a = 49 ∧ j < 3)) → σX'.1 a j = σX.1 a j) (g : ∀ a j, ((a = 1 ∧ 114 ≤ j ∧ j < 138) ∨ a = 2 ∨ a = 4 ∨ (a = 0 ∧ (j = 4 ∨ j = 5 ∨ j = 6 ∨ j = 24))) → σM'.1 a j = σM.1 a j) : HI σX' σM' := by
  obtain ⟨h1, ⟨p, h2, h3, h4, h5⟩, h6, h7⟩ := h
  refine ⟨fun k hk => ?_, ⟨p, h2, by rw [f _ _ (by omega)]; exact h3, by rw [g _ _ (by omega)]; exact h4, fun i hi => ?_⟩, ?_, by rw [g _ _ (by omega)]; exact h7⟩
  · rw [f _ _ (by omega), f _ _ (by omega), g _ _ (by omega), g _ _ (by omega)]; exact h1 k hk
  · obtain ⟨b, b1, b2, b3⟩ := h5 i hi
    exact ⟨b, b1, by rw [f _ _ (by omega)]; exact b2, by rw [g _ _ (by omega)]; exact b3⟩
  · rw [f _ _ (by omega), f _ _ (by omega), f _ _ (by omega), g _ _ (by omega), g _ _ (by omega)]; exact h6
theorem BS_congr {A B : Nat → Nat} (hS : BS A) (h8 : A 0 ≤ 8) (e : ∀ j, (j = 0 ∨ j = 3 ∨ (6 ≤ j ∧ j < 50) ∨ 186 ≤ j) → B j = A j) : BS B := by
  obtain ⟨s3, rows⟩ := hS
  have e3 : B 3 = A 3 := e 3 (by omega)
  refine ⟨by omega, fun i hi => ?_⟩
  rw [e3] at hi
  obtain ⟨c0, ok, lk⟩ := rows i hi
  have er : ∀ k, k < 59 → B (186 + 59 * i + k) = A (186 + 59 * i + k) := fun k hk => e _ (by omega)
  have er0 : B (186 + 59 * i) = A (186 + 59 * i) := er 0 (by decide)
  refine ⟨by rw [er0, e 0 (by omega)]; exact c0, rowOK_congr er ok, ?_⟩
  by_cases hl : i + 1 < A 3
  · rw [nxr_lt hl] at lk
    rw [nxr_lt (by rw [e3]; exact hl)]
    have cn : A (186 + 59 * (i + 1) + 0) ≤ A 0 := (rows (i + 1) hl).1
    exact link_congr er0 (fun k hk => e _ (by omega)) (show A (186 + 59 * (i + 1) + 0) ≤ 8 by omega) (fun h hh => e _ (by change h < A (186 + 59 * (i + 1) + 0) at hh; omega)) lk
  · rw [nxr_top hl] at lk
    rw [nxr_top (by rw [e3]; exact hl)]
    refine link_congr (s := rowA A) er0 (fun k hk => ?_) h8 (fun h hh => e _ (by change h < A 0 at hh; omega)) lk
    unfold rowA
    split
    · exact e _ (by omega)
    · split
      · exact e _ (by omega)
      · split
        · exact e _ (by omega)
        · exact e _ (by omega)
theorem BT_congr {A B : Nat → Nat} (hB : BT A) (h : ∀ j, (j = 0 ∨ (6 ≤ j ∧ j < 9) ∨ (10 ≤ j ∧ j < 50)) → B j = A j) : BT B := hB.cong h
theorem BN_congr {A B : Nat → Nat} (hB : BN A) (h : ∀ j, (j = 9 ∨ 1956 ≤ j) → B j = A j) : BN B := ⟨by rw [h _ (by omega)]; exact hB.1, fun i hi => by rw [h _ (by omega)]; exact hB.2 i hi⟩
abbrev otX : Nat → Nat → Prop := fun a j => (a = 1 ∧ (j = 5 ∨ j = 11 ∨ j = 14)) ∨ (15 ≤ a ∧ a ≤ 20)
abbrev otM : Nat → Nat → Prop := fun a j => a = 1 ∧ (j = 2 ∨ j = 4 ∨ j = 5 ∨ (138 ≤ j ∧ j < 186))
def WO (A : Nat → Nat) : Prop := A 2 ≤ A 1 ∧ A 4 ≤ 8 ∧ A 5 ≤ 8 ∧ (∀ i, i < A 4 → A (138 + 3 * i) < A 0 ∧ A (138 + 3 * i + 1) ≤ 99) ∧ (∀ i, i < 8 → A (138 + 3 * i + 2) ≤ 1) ∧ (∀ h, h < 8 → A (162 + h) ≤ 99) ∧ ∀ i, i < A 5 → A (170 + 2 * i) < A 0 ∧ A (170 + 2 * i + 1) ≤ 9
theorem I2.oth {κ : Kd} {T : TD} {σX σX' σM σM' : Sg} {A A' B : Nat → Nat} (I : I2 κ T σX σM A B) (f : fr otX σX σX') (g : fr otM σM σM') (hM : MA σM' A') (hO : XO σX' 1 A') (e : ∀ j, ¬ (j = 2 ∨ j = 4 ∨ j = 5 ∨ (138 ≤ j ∧ j < 186)) → A' j = A j) (w : WO A') : I2 κ T σX' σM' A' B := by
  obtain ⟨⟨w1, w2, w3, w4, w5, w6⟩, i2, i3, i4, i5, i6, i7, i8⟩ := I
  refine ⟨⟨w1.cong (fun j hj => e j (by omega)), BN_congr w2 (fun j hj => e j (by omega)), BR_of w3 (fun j hj => e j (by omega)), BS_congr w4 w1.1 (fun j hj => e j (by omega)), by rw [e 1 (by omega)]; exact w5, w⟩, hM, ⟨(i3.1.of (fun a j q _ => f.1 _ _ (by omega))).congr (fun j hj => (e j (by omega)).symm), ?_, (i3.2.2.1.of (fun a j q => f.1 _ _ (by omega))).congr (fun j h1 h2 => e j (by omega)), (i3.2.2.2.1.of (fun a j q => f.1 _ _ (by omega))).congr w4.1 (fun j hj => e j (by omega)), hO⟩, i4, i5.of (fun j => g.1 _ _ (by omega)), i6.of (fun a j q => f.1 _ _ (by omega)), i7.of2 (fun a j q => f.1 _ _ (by omega)) (fun a j q => g.1 _ _ (by omega)), i8.of (fun a ha j => f.1 _ _ (by omega)) f.2 (fun j => g.1 _ _ (by omega)) (e 1 (by omega)) rfl⟩
  have hN := i3.2.1.of (σ' := σX') (fun a j q => f.1 _ _ (by omega))
  exact ⟨by rw [e 9 (by omega)]; exact hN.1, fun i hi => by rw [e _ (by omega)]; exact hN.2 i hi⟩
theorem e_m1n (n : Nat) (h : n < 2147483648) : (nI n = -nI 1) = False := eq_false (fun q => by
  have := congrArg Int32.toInt q
  rw [nI_toInt h, show (-nI 1 : Int32).toInt = -1 by decide] at this
  omega)
theorem g_by {κ : Kd} {T : TD} (v : Int32) : GO κ T (f_X11_by v) (f_X12_by v) := by
  intro σX σM ⟨A, B, I⟩
  have hM := I.2.1
  have r1 := hM.1 1 (by decide) (by decide) (by decide)
  have hO := I.2.2.1.2.2.2.2
  have x1 := hO.1
  have h14 := I.1.2.2.2.2.1
  have fin : ∀ n, n ≤ A 1 → I2 κ T (wI σX 1 5 (nI n - nI 1)) (wI σM 1 2 (nI n - nI 1)) (up A 2 n) B := by
    intro n hn
    have w := I.1.2.2.2.2.2
    refine I.oth (fr.w (by omega)) (fr.w (by omega)) ⟨fun j a b c => ?_, ?_⟩ ?_ (fun j hj => up_ne (by omega)) ⟨?_, w.2.1, w.2.2.1, ?_, ?_, ?_, ?_⟩
    · rw [e_ne2 b, up_ne b]; exact hM.1 j a b c
    · rw [e_hit, up_hit]
    · obtain ⟨o1, o2, o3, o4, o5, o6, o7⟩ := hO
      refine ⟨by rw [e_ne2 (by decide), up_ne (by decide)]; exact o1, by rw [e_hit, up_hit], by rw [e_ne2 (by decide), up_ne (by decide)]; exact o3, by rw [e_ne2 (by decide), up_ne (by decide)]; exact o4, fun k hk => by rw [e_ne1 (by decide), up_ne (by omega)]; exact o5 k hk, fun k hk => ⟨by rw [e_ne1 (by decide), up_ne (by omega)]; exact (o6 k hk).1, by rw [e_ne1 (by decide), up_ne (by omega)]; exact (o6 k hk).2.1, by rw [e_ne1 (by decide), up_ne (by omega)]; exact (o6 k hk).2.2⟩, fun k hk => ⟨by rw [e_ne1 (by decide), up_ne (by omega)]; exact (o7 k hk).1, by rw [e_ne1 (by decide), up_ne (by omega)]; exact (o7 k hk).2⟩⟩
    · rw [up_hit, up_ne (by decide)]; exact hn
    · intro i hi
      rw [up_ne (by decide)] at hi
      rw [up_ne (by omega), up_ne (by omega), up_ne (by omega)]
      exact w.2.2.2.1 i hi
    · intro i hi
      rw [up_ne (by omega)]
      exact w.2.2.2.2.1 i hi
    · intro i hi
      rw [up_ne (by omega)]
      exact w.2.2.2.2.2.1 i hi
    · intro i hi
      rw [up_ne (by decide)] at hi
      rw [up_ne (by omega), up_ne (by omega), up_ne (by omega)]
      exact w.2.2.2.2.2.2 i hi
  unfold f_X11_by f_X11_by_24 f_X12_by
  by_cases hm : v = -1
  · subst hm
    have f0 := fin 0 (by omega)
    change I2 κ T (wI σX 1 5 (-1)) (wI σM 1 2 (-1)) _ B at f0
    refine ⟨1, _, _, by rw [if_pos rfl]; exact rfl, ?_, _, B, f0⟩
    rw [grd_of (by decide), m_isIn]
    have hh : (-1 : Int32) ≤ -1 ∧ (-1 : Int32) ≤ σM.1 1 (ix 1) - 1 := by
      refine ⟨by decide, ?_⟩
      rw [show ix 1 = 1 by decide, r1]
      rcases Nat.eq_zero_or_pos (A 1) with q | q
      · rw [q]; decide
      · rw [show (1 : Int32) = nI 1 from rfl, e_sub (by omega)]
        exact Int32.le_trans (by decide) (nI_pos' (n := A 1 - 1) (by omega))
    rw [if_pos hh]
    rfl
  · have hx : ((-1 : Int32) ≤ v ∧ v ≤ nI (A 1) - 1) = (0 ≤ v ∧ v ≤ nI (A 1) - 1) := by
      refine propext ⟨fun q => ⟨?_, q.2⟩, fun q => ⟨Int32.le_trans (by decide) q.1, q.2⟩⟩
      have h1 := Int32.le_iff_toInt_le.mp q.1
      have h2 : v.toInt ≠ -1 := fun z => hm (Int32.toInt_inj.mp (z.trans (by decide)))
      rw [Int32.le_iff_toInt_le]
      rw [show (-1 : Int32).toInt = -1 by decide] at h1
      rw [show (0 : Int32).toInt = 0 by decide]
      omega
    rw [if_neg hm, x_within, grd_of (by decide), m_isIn, show ix 1 = 1 by decide, r1, x1, e_bnd, e_bnd]
    by_cases hc : (0 : Int32) ≤ v ∧ v ≤ nI (A 1) - 1
    · have hn : ∃ n, n < A 1 ∧ v = nI n := by
        rcases pk_ix v (n := A 1) (by omega) with q | q | ⟨j, hj, rfl⟩
        · exact absurd q (Int32.not_lt.mpr hc.1)
        · rcases Nat.eq_zero_or_pos (A 1) with z | z
          · rw [z] at hc
            exact absurd (Int32.le_trans hc.1 hc.2) (by decide)
          · have := Int32.le_trans q hc.2
            rw [show (1 : Int32) = nI 1 from rfl, e_sub (by omega)] at this
            exact absurd this (nI_ge (by omega) (by omega))
        · exact ⟨j, hj, rfl⟩
      obtain ⟨n, hn, rfl⟩ := hn
      have f1 := fin (n + 1) (by omega)
      rw [show nI (n + 1) - nI 1 = nI n from e_sub (b := 1) (by omega)] at f1
      have hc2 : (-1 : Int32) ≤ nI n ∧ nI n ≤ nI (A 1) - 1 := by rw [hx]; exact hc
      rw [if_pos hc, if_pos hc2]
      exact ⟨1, _, _, rfl, rfl, _, B, f1⟩
    · have hc2 : ¬ ((-1 : Int32) ≤ v ∧ v ≤ nI (A 1) - 1) := by rw [hx]; exact hc
      rw [if_neg hc, if_neg hc2]
      exact ⟨0, σX, σM, rfl, rfl, A, B, I⟩
theorem n_m1 : (-1 : Int32) = -nI 1 := rfl
theorem e_m1b {n : Nat} (h : n < 2147483648) : (-nI 1 = nI n) = False := by
  exact eq_false (fun q => cast (e_m1n n h) q.symm)
theorem XO.upd {σ' : Sg} {A' : Nat → Nat} (h1 : σ'.1 1 4 = nI (A' 1)) (h2 : σ'.1 1 5 = nI (A' 2) - nI 1) (h3 : σ'.1 1 11 = nI (A' 4)) (h4 : σ'.1 1 14 = nI (A' 5)) (h5 : ∀ h, h < 8 → σ'.1 15 h = nI (A' (162 + h))) (h6 : ∀ i, i < 8 → σ'.1 16 i = nI (A' (138 + 3 * i)) ∧ σ'.1 17 i = nI (A' (138 + 3 * i + 1)) ∧ σ'.1 18 i = nI (A' (138 + 3 * i + 2))) (h7 : ∀ i, i < 8 → σ'.1 19 i = nI (A' (170 + 2 * i)) ∧ σ'.1 20 i = nI (A' (170 + 2 * i + 1))) : XO σ' 1 A' := ⟨h1, h2, h3, h4, h5, h6, h7⟩
theorem I2.told {κ : Kd} {T : TD} {σX σM : Sg} {A B : Nat → Nat} (I : I2 κ T σX σM A B) (v : Int32) : (f_X8_told 2 v σX = some (nI 0, σX) ∧ f_X12_isHouse v σM = some (nI 0, σM) ∧ ∀ h, h < A 0 → v ≠ nI h) ∨ ∃ h, h < A 0 ∧ v = nI h ∧ f_X8_told 2 v σX = some (nI 1, σX) ∧ f_X12_isHouse v σM = some (nI 1, σM) := by
  rcases x_told I.2.2.1.1.1 I.1.1.1 v with ⟨e1, e2⟩ | ⟨h, hh, rfl, e1⟩
  · rcases m_isHouse I.2.1 I.1.1.1 v with ⟨g1, _⟩ | ⟨k, hk, g1, _⟩
    · exact Or.inl ⟨e1, g1, e2⟩
    · exact absurd g1 (e2 k hk)
  · exact Or.inr ⟨h, hh, rfl, e1, m_isHouse1 I.2.1 I.1.1.1 hh⟩
theorem up_hit2 {A : Nat → Nat} {i j v : Nat} (h : i = j) : up A j v i = v := if_pos h
theorem g_bid {κ : Kd} {T : TD} (v w : Int32) : GO κ T (f_X11_bid v w) (f_X12_bid v w) := by
  intro σX σM ⟨A, B, I⟩
  have hM := I.2.1
  have hc := I.1.1.1
  obtain ⟨w1, w2, w3, w4, w5, w6, w7⟩ := I.1.2.2.2.2.2
  obtain ⟨o1, o2, o3, o4, o5, o6, o7⟩ := I.2.2.1.2.2.2.2
  unfold f_X11_bid f_X11_bid_24 f_X12_bid f_X12_bid_18
  rcases I.told v with ⟨e1, e2, _⟩ | ⟨h, hh, rfl, e1, e2⟩
  · exact ⟨nI 0, σX, σM, by simp (disch := omega) only [e_bnd, e_bndV, e_lt, e_grd, e_lit, e_le1, e_le2, e_lt1, e_lt2, e_eq1, e_eq2, e_inb, e_ix, nI_add, pk_mul, e_sub, e_b0, e_b1, e_bz, e_bz0, e_bz1, Bool.and_true, Bool.true_and, ↓reduceIte, not_true_eq_false, not_false_eq_true, decide_false, decide_true, and_self, and_true, true_and, and_false, false_and, Bool.false_eq_true, Bool.not_false, Bool.not_true, e1], by simp (disch := omega) only [e_bnd, e_bndV, e_lt, e_grd, e_lit, e_le1, e_le2, e_lt1, e_lt2, e_eq1, e_eq2, e_inb, e_ix, nI_add, pk_mul, e_sub, e_b0, e_b1, e_bz, e_bz0, e_bz1, Bool.and_true, Bool.true_and, ↓reduceIte, not_true_eq_false, not_false_eq_true, decide_false, decide_true, and_self, and_true, true_and, and_false, false_and, Bool.false_eq_true, Bool.not_false, Bool.not_true, e2], A, B, I⟩
  rcases rng w 0 99 (by decide) (by decide) with hn | ⟨b, _, hb, rfl⟩
  · exact ⟨nI 0, σX, σM, by simp (disch := omega) only [e_bnd, e_bndV, e_lt, e_grd, e_lit, e_le1, e_le2, e_lt1, e_lt2, e_eq1, e_eq2, e_inb, e_ix, nI_add, pk_mul, e_sub, e_b0, e_b1, e_bz, e_bz0, e_bz1, Bool.and_true, Bool.true_and, ↓reduceIte, not_true_eq_false, not_false_eq_true, decide_false, decide_true, and_self, and_true, true_and, and_false, false_and, Bool.false_eq_true, Bool.not_false, Bool.not_true, e1, x_within, hn], by simp (disch := omega) only [e_bnd, e_bndV, e_lt, e_grd, e_lit, e_le1, e_le2, e_lt1, e_lt2, e_eq1, e_eq2, e_inb, e_ix, nI_add, pk_mul, e_sub, e_b0, e_b1, e_bz, e_bz0, e_bz1, Bool.and_true, Bool.true_and, ↓reduceIte, not_true_eq_false, not_false_eq_true, decide_false, decide_true, and_self, and_true, true_and, and_false, false_and, Bool.false_eq_true, Bool.not_false, Bool.not_true, e2, m_isIn, hn], A, B, I⟩
  refine ⟨nI 1, wI σX 15 h (nI b), wI σM 1 (162 + h) (nI b), by simp (disch := omega) only [e_bnd, e_bndV, e_lt, e_grd, e_lit, e_le1, e_le2, e_lt1, e_lt2, e_eq1, e_eq2, e_inb, e_ix, nI_add, pk_mul, e_sub, e_b0, e_b1, e_bz, e_bz0, e_bz1, Bool.and_true, Bool.true_and, ↓reduceIte, not_true_eq_false, not_false_eq_true, decide_false, decide_true, and_self, and_true, true_and, and_false, false_and, Bool.false_eq_true, Bool.not_false, Bool.not_true, e1, x_within], by simp (disch := omega) only [e_bnd, e_bndV, e_lt, e_grd, e_lit, e_le1, e_le2, e_lt1, e_lt2, e_eq1, e_eq2, e_inb, e_ix, nI_add, pk_mul, e_sub, e_b0, e_b1, e_bz, e_bz0, e_bz1, Bool.and_true, Bool.true_and, ↓reduceIte, not_true_eq_false, not_false_eq_true, decide_false, decide_true, and_self, and_true, true_and, and_false, false_and, Bool.false_eq_true, Bool.not_false, Bool.not_true, e2, m_isIn], up A (162 + h) b, B, ?_⟩
  refine I.oth (fr.w (by omega)) (fr.w (by omega)) (hM.put (by omega) b) (XO.upd (by (simp (disch := omega) only [e_hit2, e_ne1, e_ne2, up_hit2, up_ne] <;> first | exact o1 | omega)) (by (simp (disch := omega) only [e_hit2, e_ne1, e_ne2, up_hit2, up_ne] <;> first | exact o2 | omega)) (by (simp (disch := omega) only [e_hit2, e_ne1, e_ne2, up_hit2, up_ne] <;> first | exact o3 | omega)) (by (simp (disch := omega) only [e_hit2, e_ne1, e_ne2, up_hit2, up_ne] <;> first | exact o4 | omega)) (fun k hk => by by_cases q : k = h <;> (simp (disch := omega) only [e_hit2, e_ne1, e_ne2, up_hit2, up_ne] <;> first | exact o5 k hk | omega)) (fun k hk => ⟨by (simp (disch := omega) only [e_hit2, e_ne1, e_ne2, up_hit2, up_ne] <;> first | exact (o6 k hk).1 | omega), by (simp (disch := omega) only [e_hit2, e_ne1, e_ne2, up_hit2, up_ne] <;> first | exact (o6 k hk).2.1 | omega), by (simp (disch := omega) only [e_hit2, e_ne1, e_ne2, up_hit2, up_ne] <;> first | exact (o6 k hk).2.2 | omega)⟩) (fun k hk => ⟨by (simp (disch := omega) only [e_hit2, e_ne1, e_ne2, up_hit2, up_ne] <;> first | exact (o7 k hk).1 | omega), by (simp (disch := omega) only [e_hit2, e_ne1, e_ne2, up_hit2, up_ne] <;> first | exact (o7 k hk).2 | omega)⟩)) (fun j hj => up_ne (by omega)) ⟨by (simp (disch := omega) only [e_hit2, e_ne1, e_ne2, up_hit2, up_ne] <;> first | exact w1 | omega), by (simp (disch := omega) only [e_hit2, e_ne1, e_ne2, up_hit2, up_ne] <;> first | exact w2 | omega), by (simp (disch := omega) only [e_hit2, e_ne1, e_ne2, up_hit2, up_ne] <;> first | exact w3 | omega), fun i hi => ?_, fun i hi => by (simp (disch := omega) only [e_hit2, e_ne1, e_ne2, up_hit2, up_ne] <;> first | exact w5 i hi | omega), fun i hi => by by_cases q : i = h <;> (simp (disch := omega) only [e_hit2, e_ne1, e_ne2, up_hit2, up_ne] <;> first | exact w6 i hi | omega), fun i hi => ?_⟩
  · rw [up_ne (by omega)] at hi
    exact ⟨by (simp (disch := omega) only [e_hit2, e_ne1, e_ne2, up_hit2, up_ne] <;> first | exact (w4 i hi).1 | omega), by (simp (disch := omega) only [e_hit2, e_ne1, e_ne2, up_hit2, up_ne] <;> first | exact (w4 i hi).2 | omega)⟩
  · rw [up_ne (by omega)] at hi
    exact ⟨by (simp (disch := omega) only [e_hit2, e_ne1, e_ne2, up_hit2, up_ne] <;> first | exact (w7 i hi).1 | omega), by (simp (disch := omega) only [e_hit2, e_ne1, e_ne2, up_hit2, up_ne] <;> first | exact (w7 i hi).2 | omega)⟩
theorem bz_zb (x : Int32) : zb x = nI 0 ∨ zb x = nI 1 := by
  unfold zb
  by_cases h : x = 0
  · rw [if_pos h]; exact Or.inl rfl
  · rw [if_neg h]; exact Or.inr rfl
theorem g_seen {κ : Kd} {T : TD} (v u x : Int32) (hx : x = nI 0 ∨ x = nI 1) : GO κ T (f_X11_seen v u x) (f_X12_seen v u x) := by
  intro σX σM ⟨A, B, I⟩
  have hM := I.2.1
  have hc := I.1.1.1
  have r4 := hM.1 4 (by decide) (by decide) (by decide)
  obtain ⟨w1, w2, w3, w4, w5, w6, w7⟩ := I.1.2.2.2.2.2
  obtain ⟨o1, o2, o3, o4, o5, o6, o7⟩ := I.2.2.1.2.2.2.2
  unfold f_X11_seen f_X11_seen_51 f_X12_seen f_X12_seen_43 f_X12_seen_95
  by_cases hm : v = -1
  · refine ⟨0, wI σX 1 11 (nI 0), wI σM 1 4 (nI 0), by rw [if_pos hm]; rfl, by rw [if_pos hm]; rfl, up A 4 0, B, ?_⟩
    refine I.oth (fr.w (by omega)) (fr.w (by omega)) (hM.put (by omega) 0) (XO.upd (by (simp (disch := omega) only [e_hit2, e_ne1, e_ne2, up_hit2, up_ne] <;> first | exact o1 | omega)) (by (simp (disch := omega) only [e_hit2, e_ne1, e_ne2, up_hit2, up_ne] <;> first | exact o2 | omega)) (by (simp (disch := omega) only [e_hit2, e_ne1, e_ne2, up_hit2, up_ne] <;> first | exact o3 | omega)) (by (simp (disch := omega) only [e_hit2, e_ne1, e_ne2, up_hit2, up_ne] <;> first | exact o4 | omega)) (fun k hk => by (simp (disch := omega) only [e_hit2, e_ne1, e_ne2, up_hit2, up_ne] <;> first | exact o5 k hk | omega)) (fun k hk => ⟨by (simp (disch := omega) only [e_hit2, e_ne1, e_ne2, up_hit2, up_ne] <;> first | exact (o6 k hk).1 | omega), by (simp (disch := omega) only [e_hit2, e_ne1, e_ne2, up_hit2, up_ne] <;> first | exact (o6 k hk).2.1 | omega), by (simp (disch := omega) only [e_hit2, e_ne1, e_ne2, up_hit2, up_ne] <;> first | exact (o6 k hk).2.2 | omega)⟩) (fun k hk => ⟨by (simp (disch := omega) only [e_hit2, e_ne1, e_ne2, up_hit2, up_ne] <;> first | exact (o7 k hk).1 | omega), by (simp (disch := omega) only [e_hit2, e_ne1, e_ne2, up_hit2, up_ne] <;> first | exact (o7 k hk).2 | omega)⟩)) (fun j hj => up_ne (by omega)) ⟨by (simp (disch := omega) only [e_hit2, e_ne1, e_ne2, up_hit2, up_ne] <;> first | exact w1 | omega), by (simp (disch := omega) only [e_hit2, e_ne1, e_ne2, up_hit2, up_ne] <;> first | exact w2 | omega), by (simp (disch := omega) only [e_hit2, e_ne1, e_ne2, up_hit2, up_ne] <;> first | exact w3 | omega), fun i hi => ?_, fun i hi => by (simp (disch := omega) only [e_hit2, e_ne1, e_ne2, up_hit2, up_ne] <;> first | exact w5 i hi | omega), fun i hi => by (simp (disch := omega) only [e_hit2, e_ne1, e_ne2, up_hit2, up_ne] <;> first | exact w6 i hi | omega), fun i hi => ?_⟩
    · rw [up_hit] at hi; omega
    · rw [up_ne (by omega)] at hi
      exact ⟨by (simp (disch := omega) only [e_hit2, e_ne1, e_ne2, up_hit2, up_ne] <;> first | exact (w7 i hi).1 | omega), by (simp (disch := omega) only [e_hit2, e_ne1, e_ne2, up_hit2, up_ne] <;> first | exact (w7 i hi).2 | omega)⟩
  rw [if_neg hm, if_neg hm]
  rcases I.told v with ⟨e1, e2, _⟩ | ⟨h, hh, rfl, e1, e2⟩
  · exact ⟨-2, σX, σM, by simp (disch := omega) only [e_bnd, e_bndV, e_lt, e_grd, e_lit, e_le1, e_le2, e_lt1, e_lt2, e_eq1, e_eq2, e_inb, e_ix, nI_add, pk_mul, e_sub, e_b0, e_b1, e_bz, e_bz0, e_bz1, Bool.and_true, Bool.true_and, ↓reduceIte, not_true_eq_false, not_false_eq_true, decide_false, decide_true, and_self, and_true, true_and, and_false, false_and, Bool.false_eq_true, Bool.not_false, Bool.not_true, e1], by simp (disch := omega) only [e_bnd, e_bndV, e_lt, e_grd, e_lit, e_le1, e_le2, e_lt1, e_lt2, e_eq1, e_eq2, e_inb, e_ix, nI_add, pk_mul, e_sub, e_b0, e_b1, e_bz, e_bz0, e_bz1, Bool.and_true, Bool.true_and, ↓reduceIte, not_true_eq_false, not_false_eq_true, decide_false, decide_true, and_self, and_true, true_and, and_false, false_and, Bool.false_eq_true, Bool.not_false, Bool.not_true, e2], A, B, I⟩
  rcases rng u 0 99 (by decide) (by decide) with hn | ⟨b, _, hb, rfl⟩
  · exact ⟨-2, σX, σM, by simp (disch := omega) only [e_bnd, e_bndV, e_lt, e_grd, e_lit, e_le1, e_le2, e_lt1, e_lt2, e_eq1, e_eq2, e_inb, e_ix, nI_add, pk_mul, e_sub, e_b0, e_b1, e_bz, e_bz0, e_bz1, Bool.and_true, Bool.true_and, ↓reduceIte, not_true_eq_false, not_false_eq_true, decide_false, decide_true, and_self, and_true, true_and, and_false, false_and, Bool.false_eq_true, Bool.not_false, Bool.not_true, e1, x_within, hn], by simp (disch := omega) only [e_bnd, e_bndV, e_lt, e_grd, e_lit, e_le1, e_le2, e_lt1, e_lt2, e_eq1, e_eq2, e_inb, e_ix, nI_add, pk_mul, e_sub, e_b0, e_b1, e_bz, e_bz0, e_bz1, Bool.and_true, Bool.true_and, ↓reduceIte, not_true_eq_false, not_false_eq_true, decide_false, decide_true, and_self, and_true, true_and, and_false, false_and, Bool.false_eq_true, Bool.not_false, Bool.not_true, e2, m_isIn, hn], A, B, I⟩
  by_cases h8 : A 4 = 8
  · exact ⟨-2, σX, σM, by simp (disch := omega) only [e_bnd, e_bndV, e_lt, e_grd, e_lit, e_le1, e_le2, e_lt1, e_lt2, e_eq1, e_eq2, e_inb, e_ix, nI_add, pk_mul, e_sub, e_b0, e_b1, e_bz, e_bz0, e_bz1, Bool.and_true, Bool.true_and, ↓reduceIte, not_true_eq_false, not_false_eq_true, decide_false, decide_true, and_self, and_true, true_and, and_false, false_and, Bool.false_eq_true, Bool.not_false, Bool.not_true, e1, x_within, o3, h8], by simp (disch := omega) only [e_bnd, e_bndV, e_lt, e_grd, e_lit, e_le1, e_le2, e_lt1, e_lt2, e_eq1, e_eq2, e_inb, e_ix, nI_add, pk_mul, e_sub, e_b0, e_b1, e_bz, e_bz0, e_bz1, Bool.and_true, Bool.true_and, ↓reduceIte, not_true_eq_false, not_false_eq_true, decide_false, decide_true, and_self, and_true, true_and, and_false, false_and, Bool.false_eq_true, Bool.not_false, Bool.not_true, e2, m_isIn, r4, h8], A, B, I⟩
  obtain ⟨c, hc1, rfl⟩ : ∃ c, c ≤ 1 ∧ x = nI c := by
    rcases hx with rfl | rfl
    · exact ⟨0, by decide, rfl⟩
    · exact ⟨1, by decide, rfl⟩
  have hbz : bz (nI c) = true := by
    have : c = 0 ∨ c = 1 := by omega
    rcases this with rfl | rfl <;> rfl
  obtain ⟨n, hn⟩ : ∃ n, A 4 = n := ⟨_, rfl⟩
  rw [hn] at o3 r4 h8 w2
  refine ⟨nI (n + 1), wI (wI (wI (wI σX 16 n (nI h)) 17 n (nI b)) 18 n (nI c)) 1 11 (nI (n + 1)), wI (wI (wI (wI σM 1 (138 + 3 * n) (nI h)) 1 (138 + 3 * n + 1) (nI b)) 1 (138 + 3 * n + 2) (nI c)) 1 4 (nI (n + 1)), by simp (disch := omega) only [e_bnd, e_bndV, e_lt, e_grd, e_lit, e_le1, e_le2, e_lt1, e_lt2, e_eq1, e_eq2, e_inb, e_ix, nI_add, pk_mul, e_sub, e_b0, e_b1, e_bz, e_bz0, e_bz1, Bool.and_true, Bool.true_and, ↓reduceIte, not_true_eq_false, not_false_eq_true, decide_false, decide_true, and_self, and_true, true_and, and_false, false_and, Bool.false_eq_true, Bool.not_false, Bool.not_true, e1, x_within, o3, e_ne1, hbz, e_hit], ?_, up (up (up (up A (138 + 3 * n) h) (138 + 3 * n + 1) b) (138 + 3 * n + 2) c) 4 (n + 1), B, ?_⟩
  · by_cases hz : c = 0
    · subst hz
      simp (disch := omega) only [e_bnd, e_bndV, e_lt, e_grd, e_lit, e_le1, e_le2, e_lt1, e_lt2, e_eq1, e_eq2, e_inb, e_ix, nI_add, pk_mul, e_sub, e_b0, e_b1, e_bz, e_bz0, e_bz1, Bool.and_true, Bool.true_and, ↓reduceIte, not_true_eq_false, not_false_eq_true, decide_false, decide_true, and_self, and_true, true_and, and_false, false_and, Bool.false_eq_true, Bool.not_false, Bool.not_true, e2, m_isIn, r4, e_ne2, e_hit]
    · have : c = 1 := by omega
      subst this
      simp (disch := omega) only [e_bnd, e_bndV, e_lt, e_grd, e_lit, e_le1, e_le2, e_lt1, e_lt2, e_eq1, e_eq2, e_inb, e_ix, nI_add, pk_mul, e_sub, e_b0, e_b1, e_bz, e_bz0, e_bz1, Bool.and_true, Bool.true_and, ↓reduceIte, not_true_eq_false, not_false_eq_true, decide_false, decide_true, and_self, and_true, true_and, and_false, false_and, Bool.false_eq_true, Bool.not_false, Bool.not_true, e2, m_isIn, r4, e_ne2, e_hit]
  refine I.oth ((((fr.w (by omega)).trans (fr.w (by omega))).trans (fr.w (by omega))).trans (fr.w (by omega))) ((((fr.w (by omega)).trans (fr.w (by omega))).trans (fr.w (by omega))).trans (fr.w (by omega))) ((((hM.put (by omega) h).put (by omega) b).put (by omega) c).put (by omega) (n + 1)) (XO.upd (by (simp (disch := omega) only [e_hit2, e_ne1, e_ne2, up_hit2, up_ne] <;> first | exact o1 | omega)) (by (simp (disch := omega) only [e_hit2, e_ne1, e_ne2, up_hit2, up_ne] <;> first | exact o2 | omega)) (by (simp (disch := omega) only [e_hit2, e_ne1, e_ne2, up_hit2, up_ne] <;> first | exact o3 | omega)) (by (simp (disch := omega) only [e_hit2, e_ne1, e_ne2, up_hit2, up_ne] <;> first | exact o4 | omega)) (fun k hk => by (simp (disch := omega) only [e_hit2, e_ne1, e_ne2, up_hit2, up_ne] <;> first | exact o5 k hk | omega)) (fun k hk => ⟨by by_cases q : k = n <;> (simp (disch := omega) only [e_hit2, e_ne1, e_ne2, up_hit2, up_ne] <;> first | exact (o6 k hk).1 | omega), by by_cases q : k = n <;> (simp (disch := omega) only [e_hit2, e_ne1, e_ne2, up_hit2, up_ne] <;> first | exact (o6 k hk).2.1 | omega), by by_cases q : k = n <;> (simp (disch := omega) only [e_hit2, e_ne1, e_ne2, up_hit2, up_ne] <;> first | exact (o6 k hk).2.2 | omega)⟩) (fun k hk => ⟨by (simp (disch := omega) only [e_hit2, e_ne1, e_ne2, up_hit2, up_ne] <;> first | exact (o7 k hk).1 | omega), by (simp (disch := omega) only [e_hit2, e_ne1, e_ne2, up_hit2, up_ne] <;> first | exact (o7 k hk).2 | omega)⟩)) (fun j hj => by rw [up_ne (by omega), up_ne (by omega), up_ne (by omega), up_ne (by omega)]) ⟨by (simp (disch := omega) only [e_hit2, e_ne1, e_ne2, up_hit2, up_ne] <;> first | exact w1 | omega), by (simp (disch := omega) only [e_hit2, e_ne1, e_ne2, up_hit2, up_ne] <;> first | exact w2 | omega), by (simp (disch := omega) only [e_hit2, e_ne1, e_ne2, up_hit2, up_ne] <;> first | exact w3 | omega), fun i hi => ?_, fun i hi => by by_cases q : i = n <;> (simp (disch := omega) only [e_hit2, e_ne1, e_ne2, up_hit2, up_ne] <;> first | exact w5 i hi | omega), fun i hi => by (simp (disch := omega) only [e_hit2, e_ne1, e_ne2, up_hit2, up_ne] <;> first | exact w6 i hi | omega), fun i hi => ?_⟩
  · rw [up_hit] at hi
    by_cases q : i = n
    · subst q
      exact ⟨by (simp (disch := omega) only [e_hit2, e_ne1, e_ne2, up_hit2, up_ne] <;> first | exact hh | omega), by (simp (disch := omega) only [e_hit2, e_ne1, e_ne2, up_hit2, up_ne] <;> first | exact hb | omega)⟩
    · have := w4 i (by omega)
      exact ⟨by (simp (disch := omega) only [e_hit2, e_ne1, e_ne2, up_hit2, up_ne] <;> first | exact this.1 | omega), by (simp (disch := omega) only [e_hit2, e_ne1, e_ne2, up_hit2, up_ne] <;> first | exact this.2 | omega)⟩
  · have hi2 : i < A 5 := by
      rw [up_ne (by omega), up_ne (by omega), up_ne (by omega), up_ne (by omega)] at hi
      exact hi
    exact ⟨by (simp (disch := omega) only [e_hit2, e_ne1, e_ne2, up_hit2, up_ne] <;> first | exact (w7 i hi2).1 | omega), by (simp (disch := omega) only [e_hit2, e_ne1, e_ne2, up_hit2, up_ne] <;> first | exact (w7 i hi2).2 | omega)⟩
theorem g_cooled {κ : Kd} {T : TD} (v u : Int32) : GO κ T (f_X11_cooled v u) (f_X12_cooled v u) := by
  intro σX σM ⟨A, B, I⟩
  have hM := I.2.1
  have hc := I.1.1.1
  have r5 := hM.1 5 (by decide) (by decide) (by decide)
  obtain ⟨w1, w2, w3, w4, w5, w6, w7⟩ := I.1.2.2.2.2.2
  obtain ⟨o1, o2, o3, o4, o5, o6, o7⟩ := I.2.2.1.2.2.2.2
  unfold f_X11_cooled f_X11_cooled_51 f_X12_cooled f_X12_cooled_43
  by_cases hm : v = -1
  · refine ⟨0, wI σX 1 14 (nI 0), wI σM 1 5 (nI 0), by rw [if_pos hm]; rfl, by rw [if_pos hm]; rfl, up A 5 0, B, ?_⟩
    refine I.oth (fr.w (by omega)) (fr.w (by omega)) (hM.put (by omega) 0) (XO.upd (by (simp (disch := omega) only [e_hit2, e_ne1, e_ne2, up_hit2, up_ne] <;> first | exact o1 | omega)) (by (simp (disch := omega) only [e_hit2, e_ne1, e_ne2, up_hit2, up_ne] <;> first | exact o2 | omega)) (by (simp (disch := omega) only [e_hit2, e_ne1, e_ne2, up_hit2, up_ne] <;> first | exact o3 | omega)) (by (simp (disch := omega) only [e_hit2, e_ne1, e_ne2, up_hit2, up_ne] <;> first | exact o4 | omega)) (fun k hk => by (simp (disch := omega) only [e_hit2, e_ne1, e_ne2, up_hit2, up_ne] <;> first | exact o5 k hk | omega)) (fun k hk => ⟨by (simp (disch := omega) only [e_hit2, e_ne1, e_ne2, up_hit2, up_ne] <;> first | exact (o6 k hk).1 | omega), by (simp (disch := omega) only [e_hit2, e_ne1, e_ne2, up_hit2, up_ne] <;> first | exact (o6 k hk).2.1 | omega), by (simp (disch := omega) only [e_hit2, e_ne1, e_ne2, up_hit2, up_ne] <;> first | exact (o6 k hk).2.2 | omega)⟩) (fun k hk => ⟨by (simp (disch := omega) only [e_hit2, e_ne1, e_ne2, up_hit2, up_ne] <;> first | exact (o7 k hk).1 | omega), by (simp (disch := omega) only [e_hit2, e_ne1, e_ne2, up_hit2, up_ne] <;> first | exact (o7 k hk).2 | omega)⟩)) (fun j hj => up_ne (by omega)) ⟨by (simp (disch := omega) only [e_hit2, e_ne1, e_ne2, up_hit2, up_ne] <;> first | exact w1 | omega), by (simp (disch := omega) only [e_hit2, e_ne1, e_ne2, up_hit2, up_ne] <;> first | exact w2 | omega), by (simp (disch := omega) only [e_hit2, e_ne1, e_ne2, up_hit2, up_ne] <;> first | exact w3 | omega), fun i hi => ?_, fun i hi => by (simp (disch := omega) only [e_hit2, e_ne1, e_ne2, up_hit2, up_ne] <;> first | exact w5 i hi | omega), fun i hi => by (simp (disch := omega) only [e_hit2, e_ne1, e_ne2, up_hit2, up_ne] <;> first | exact w6 i hi | omega), fun i hi => ?_⟩
    · rw [up_ne (by omega)] at hi
      exact ⟨by (simp (disch := omega) only [e_hit2, e_ne1, e_ne2, up_hit2, up_ne] <;> first | exact (w4 i hi).1 | omega), by (simp (disch := omega) only [e_hit2, e_ne1, e_ne2, up_hit2, up_ne] <;> first | exact (w4 i hi).2 | omega)⟩
    · rw [up_hit] at hi; omega
  rw [if_neg hm, if_neg hm]
  rcases I.told v with ⟨e1, e2, _⟩ | ⟨h, hh, rfl, e1, e2⟩
  · exact ⟨-2, σX, σM, by simp (disch := omega) only [e_bnd, e_bndV, e_lt, e_grd, e_lit, e_le1, e_le2, e_lt1, e_lt2, e_eq1, e_eq2, e_inb, e_ix, nI_add, pk_mul, e_sub, e_b0, e_b1, e_bz, e_bz0, e_bz1, Bool.and_true, Bool.true_and, ↓reduceIte, not_true_eq_false, not_false_eq_true, decide_false, decide_true, and_self, and_true, true_and, and_false, false_and, Bool.false_eq_true, Bool.not_false, Bool.not_true, e1], by simp (disch := omega) only [e_bnd, e_bndV, e_lt, e_grd, e_lit, e_le1, e_le2, e_lt1, e_lt2, e_eq1, e_eq2, e_inb, e_ix, nI_add, pk_mul, e_sub, e_b0, e_b1, e_bz, e_bz0, e_bz1, Bool.and_true, Bool.true_and, ↓reduceIte, not_true_eq_false, not_false_eq_true, decide_false, decide_true, and_self, and_true, true_and, and_false, false_and, Bool.false_eq_true, Bool.not_false, Bool.not_true, e2], A, B, I⟩
  rcases rng u 0 9 (by decide) (by decide) with hn | ⟨b, _, hb, rfl⟩
  · exact ⟨-2, σX, σM, by simp (disch := omega) only [e_bnd, e_bndV, e_lt, e_grd, e_lit, e_le1, e_le2, e_lt1, e_lt2, e_eq1, e_eq2, e_inb, e_ix, nI_add, pk_mul, e_sub, e_b0, e_b1, e_bz, e_bz0, e_bz1, Bool.and_true, Bool.true_and, ↓reduceIte, not_true_eq_false, not_false_eq_true, decide_false, decide_true, and_self, and_true, true_and, and_false, false_and, Bool.false_eq_true, Bool.not_false, Bool.not_true, e1, x_within, hn], by simp (disch := omega) only [e_bnd, e_bndV, e_lt, e_grd, e_lit, e_le1, e_le2, e_lt1, e_lt2, e_eq1, e_eq2, e_inb, e_ix, nI_add, pk_mul, e_sub, e_b0, e_b1, e_bz, e_bz0, e_bz1, Bool.and_true, Bool.true_and, ↓reduceIte, not_true_eq_false, not_false_eq_true, decide_false, decide_true, and_self, and_true, true_and, and_false, false_and, Bool.false_eq_true, Bool.not_false, Bool.not_true, e2, m_isIn, hn], A, B, I⟩
  by_cases h8 : A 5 = 8
  · exact ⟨-2, σX, σM, by simp (disch := omega) only [e_bnd, e_bndV, e_lt, e_grd, e_lit, e_le1, e_le2, e_lt1, e_lt2, e_eq1, e_eq2, e_inb, e_ix, nI_add, pk_mul, e_sub, e_b0, e_b1, e_bz, e_bz0, e_bz1, Bool.and_true, Bool.true_and, ↓reduceIte, not_true_eq_false, not_false_eq_true, decide_false, decide_true, and_self, and_true, true_and, and_false, false_and, Bool.false_eq_true, Bool.not_false, Bool.not_true, e1, x_within, o4, h8], by simp (disch := omega) only [e_bnd, e_bndV, e_lt, e_grd, e_lit, e_le1, e_le2, e_lt1, e_lt2, e_eq1, e_eq2, e_inb, e_ix, nI_add, pk_mul, e_sub, e_b0, e_b1, e_bz, e_bz0, e_bz1, Bool.and_true, Bool.true_and, ↓reduceIte, not_true_eq_false, not_false_eq_true, decide_false, decide_true, and_self, and_true, true_and, and_false, false_and, Bool.false_eq_true, Bool.not_false, Bool.not_true, e2, m_isIn, r5, h8], A, B, I⟩
  obtain ⟨n, hn⟩ : ∃ n, A 5 = n := ⟨_, rfl⟩
  rw [hn] at o4 r5 h8 w3
  refine ⟨nI (n + 1), wI (wI (wI σX 19 n (nI h)) 20 n (nI b)) 1 14 (nI (n + 1)), wI (wI (wI σM 1 (170 + 2 * n) (nI h)) 1 (170 + 2 * n + 1) (nI b)) 1 5 (nI (n + 1)), by simp (disch := omega) only [e_bnd, e_bndV, e_lt, e_grd, e_lit, e_le1, e_le2, e_lt1, e_lt2, e_eq1, e_eq2, e_inb, e_ix, nI_add, pk_mul, e_sub, e_b0, e_b1, e_bz, e_bz0, e_bz1, Bool.and_true, Bool.true_and, ↓reduceIte, not_true_eq_false, not_false_eq_true, decide_false, decide_true, and_self, and_true, true_and, and_false, false_and, Bool.false_eq_true, Bool.not_false, Bool.not_true, e1, x_within, o4, e_ne1, e_hit], by simp (disch := omega) only [e_bnd, e_bndV, e_lt, e_grd, e_lit, e_le1, e_le2, e_lt1, e_lt2, e_eq1, e_eq2, e_inb, e_ix, nI_add, pk_mul, e_sub, e_b0, e_b1, e_bz, e_bz0, e_bz1, Bool.and_true, Bool.true_and, ↓reduceIte, not_true_eq_false, not_false_eq_true, decide_false, decide_true, and_self, and_true, true_and, and_false, false_and, Bool.false_eq_true, Bool.not_false, Bool.not_true, e2, m_isIn, r5, e_ne2, e_hit], up (up (up A (170 + 2 * n) h) (170 + 2 * n + 1) b) 5 (n + 1), B, ?_⟩
  refine I.oth (((fr.w (by omega)).trans (fr.w (by omega))).trans (fr.w (by omega))) (((fr.w (by omega)).trans (fr.w (by omega))).trans (fr.w (by omega))) (((hM.put (by omega) h).put (by omega) b).put (by omega) (n + 1)) (XO.upd (by (simp (disch := omega) only [e_hit2, e_ne1, e_ne2, up_hit2, up_ne] <;> first | exact o1 | omega)) (by (simp (disch := omega) only [e_hit2, e_ne1, e_ne2, up_hit2, up_ne] <;> first | exact o2 | omega)) (by (simp (disch := omega) only [e_hit2, e_ne1, e_ne2, up_hit2, up_ne] <;> first | exact o3 | omega)) (by (simp (disch := omega) only [e_hit2, e_ne1, e_ne2, up_hit2, up_ne] <;> first | exact o4 | omega)) (fun k hk => by (simp (disch := omega) only [e_hit2, e_ne1, e_ne2, up_hit2, up_ne] <;> first | exact o5 k hk | omega)) (fun k hk => ⟨by (simp (disch := omega) only [e_hit2, e_ne1, e_ne2, up_hit2, up_ne] <;> first | exact (o6 k hk).1 | omega), by (simp (disch := omega) only [e_hit2, e_ne1, e_ne2, up_hit2, up_ne] <;> first | exact (o6 k hk).2.1 | omega), by (simp (disch := omega) only [e_hit2, e_ne1, e_ne2, up_hit2, up_ne] <;> first | exact (o6 k hk).2.2 | omega)⟩) (fun k hk => ⟨by by_cases q : k = n <;> (simp (disch := omega) only [e_hit2, e_ne1, e_ne2, up_hit2, up_ne] <;> first | exact (o7 k hk).1 | omega), by by_cases q : k = n <;> (simp (disch := omega) only [e_hit2, e_ne1, e_ne2, up_hit2, up_ne] <;> first | exact (o7 k hk).2 | omega)⟩)) (fun j hj => by rw [up_ne (by omega), up_ne (by omega), up_ne (by omega)]) ⟨by (simp (disch := omega) only [e_hit2, e_ne1, e_ne2, up_hit2, up_ne] <;> first | exact w1 | omega), by (simp (disch := omega) only [e_hit2, e_ne1, e_ne2, up_hit2, up_ne] <;> first | exact w2 | omega), by (simp (disch := omega) only [e_hit2, e_ne1, e_ne2, up_hit2, up_ne] <;> first | exact w3 | omega), fun i hi => ?_, fun i hi => by (simp (disch := omega) only [e_hit2, e_ne1, e_ne2, up_hit2, up_ne] <;> first | exact w5 i hi | omega), fun i hi => by (simp (disch := omega) only [e_hit2, e_ne1, e_ne2, up_hit2, up_ne] <;> first | exact w6 i hi | omega), fun i hi => ?_⟩
  · have hi2 : i < A 4 := by
      rw [up_ne (by omega), up_ne (by omega), up_ne (by omega)] at hi
      exact hi
    exact ⟨by (simp (disch := omega) only [e_hit2, e_ne1, e_ne2, up_hit2, up_ne] <;> first | exact (w4 i hi2).1 | omega), by (simp (disch := omega) only [e_hit2, e_ne1, e_ne2, up_hit2, up_ne] <;> first | exact (w4 i hi2).2 | omega)⟩
  · rw [up_hit] at hi
    by_cases q : i = n
    · subst q
      exact ⟨by (simp (disch := omega) only [e_hit2, e_ne1, e_ne2, up_hit2, up_ne] <;> first | exact hh | omega), by (simp (disch := omega) only [e_hit2, e_ne1, e_ne2, up_hit2, up_ne] <;> first | exact hb | omega)⟩
    · have := w7 i (by omega)
      exact ⟨by (simp (disch := omega) only [e_hit2, e_ne1, e_ne2, up_hit2, up_ne] <;> first | exact this.1 | omega), by (simp (disch := omega) only [e_hit2, e_ne1, e_ne2, up_hit2, up_ne] <;> first | exact this.2 | omega)⟩
