/-! METHODS: hour -/
def TXS (σX σM x m : Sg) : Prop := x.2.2 = σX.2.2 ∧ (∀ a, 72 ≤ a → ∀ j, x.1 a j = σX.1 a j) ∧ ∀ j, m.1 3 j = σM.1 3 j
theorem TXS.rfl {x m : Sg} : TXS x m x m := ⟨Eq.refl _, fun _ _ _ => Eq.refl _, fun _ => Eq.refl _⟩
theorem TXS.trans {a b c d e f : Sg} (h : TXS a b c d) (g : TXS c d e f) : TXS a b e f := ⟨g.1.trans h.1, fun k hk j => (g.2.1 k hk j).trans (h.2.1 k hk j), fun j => (g.2.2 j).trans (h.2.2 j)⟩
theorem I2.hours {κ : Kd} {T : TD} {B : Nat → Nat} (n : Nat) (hn : n ≤ 60) : ∀ (d j : Nat), d + j = n → ∀ (σX σM : Sg) (A : Nat → Nat) (c : Int32), I2 κ T σX σM A B → ∃ x m A' s, (∀ fu, d < fu → f_X11_passHours_4 κ fu (nI n) c (nI j) σX = some (c + s, x)) ∧ (∀ fu, d < fu → f_X12_arePassed_7 fu (nI n) (nI j) σM = some (if d ≤ 9999 - A 6 then nI 1 else nI 0, m)) ∧ I2 κ T x m A' B ∧ m.1 0 25 = σM.1 0 25 + s ∧ (∀ j, j = 0 ∨ j = 1 ∨ j = 2 → A' j = A j) ∧ TXS σX σM x m := by
  intro d
  induction d with
  | zero =>
    intro j hj σX σM A c I
    have hj2 : j = n := by omega
    subst hj2
    refine ⟨σX, σM, A, 0, fun fu hf => ?_, fun fu hf => ?_, I, (Int32.add_zero _).symm, fun _ _ => rfl, TXS.rfl⟩
    · obtain ⟨f, rfl⟩ : ∃ f, fu = f + 1 := ⟨fu - 1, by omega⟩
      rw [f_X11_passHours_4, if_pos (Int32.le_refl _), Int32.add_zero]
      rfl
    · obtain ⟨f, rfl⟩ : ∃ f, fu = f + 1 := ⟨fu - 1, by omega⟩
      rw [f_X12_arePassed_7, if_pos (Int32.le_refl _), if_pos (Nat.zero_le _)]
      rfl
  | succ d ih =>
    intro j hj σX σM A c I
    have h6 := I.1.1.2.1
    have x5 : σX.1 2 5 = nI (A 6) := I.2.2.1.1.2.1
    have r6 := I.2.1.1 6 (by decide) (by decide) (by decide)
    by_cases hl : A 6 < 9999
    · obtain ⟨x1, m1, r, x2, m2, A', q, k1, k2, k3, k4, k5, I', e6, ec, e0, t1, t2, t3⟩ := I.hour1 hl
      obtain ⟨x, m, A2, s, g1, g2, g3, g4, g5, g6⟩ := ih (j + 1) (by omega) x2 m2 A' (c + nI q) I'
      refine ⟨x, m, A2, nI q + s, fun fu hf => ?_, fun fu hf => ?_, g3, ?_, fun j hj => (g5 j hj).trans (e0 j hj), TXS.trans ⟨t1, t2, t3⟩ g6⟩
      · obtain ⟨f, rfl⟩ : ∃ f, fu = f + 1 := ⟨fu - 1, by omega⟩
        rw [f_X11_passHours_4]
        simp (disch := omega) only [e_bnd, e_bndV, e_lt, e_grd, e_lit, e_le1, e_le2, e_lt1, e_lt2, e_eq1, e_eq2, e_inb, e_ix, nI_add, pk_mul, e_sub, e_b0, e_b1, e_bz, e_bz0, e_bz1, Bool.and_true, Bool.true_and, ↓reduceIte, not_true_eq_false, not_false_eq_true, decide_false, decide_true, and_self, and_true, true_and, and_false, false_and, Bool.false_eq_true, Bool.not_false, Bool.not_true, x5, k1, k2, k3]
        rw [g1 f (by omega), Int32.add_assoc]
      · obtain ⟨f, rfl⟩ : ∃ f, fu = f + 1 := ⟨fu - 1, by omega⟩
        rw [f_X12_arePassed_7]
        simp (disch := omega) only [e_bnd, e_bndV, e_lt, e_grd, e_lit, e_le1, e_le2, e_lt1, e_lt2, e_eq1, e_eq2, e_inb, e_ix, nI_add, pk_mul, e_sub, e_b0, e_b1, e_bz, e_bz0, e_bz1, Bool.and_true, Bool.true_and, ↓reduceIte, not_true_eq_false, not_false_eq_true, decide_false, decide_true, and_self, and_true, true_and, and_false, false_and, Bool.false_eq_true, Bool.not_false, Bool.not_true, r6, k4, k5]
        rw [g2 f (by omega), e6]
        by_cases q : d + 1 ≤ 9999 - A 6
        · rw [if_pos q, if_pos (by omega)]
        · rw [if_neg q, if_neg (by omega)]
      · rw [g4, ec, Int32.add_assoc]
    · have h9 : A 6 = 9999 := by omega
      refine ⟨σX, σM, A, 0, fun fu hf => ?_, fun fu hf => ?_, I, (Int32.add_zero _).symm, fun _ _ => rfl, TXS.rfl⟩
      · obtain ⟨f, rfl⟩ : ∃ f, fu = f + 1 := ⟨fu - 1, by omega⟩
        rw [f_X11_passHours_4, Int32.add_zero]
        simp (disch := omega) only [e_bnd, e_bndV, e_lt, e_grd, e_lit, e_le1, e_le2, e_lt1, e_lt2, e_eq1, e_eq2, e_inb, e_ix, nI_add, pk_mul, e_sub, e_b0, e_b1, e_bz, e_bz0, e_bz1, Bool.and_true, Bool.true_and, ↓reduceIte, not_true_eq_false, not_false_eq_true, decide_false, decide_true, and_self, and_true, true_and, and_false, false_and, Bool.false_eq_true, Bool.not_false, Bool.not_true, x5, h9, f_X11_passHours_79]
      · obtain ⟨f, rfl⟩ : ∃ f, fu = f + 1 := ⟨fu - 1, by omega⟩
        rw [f_X12_arePassed_7]
        simp (disch := omega) only [e_bnd, e_bndV, e_lt, e_grd, e_lit, e_le1, e_le2, e_lt1, e_lt2, e_eq1, e_eq2, e_inb, e_ix, nI_add, pk_mul, e_sub, e_b0, e_b1, e_bz, e_bz0, e_bz1, Bool.and_true, Bool.true_and, ↓reduceIte, not_true_eq_false, not_false_eq_true, decide_false, decide_true, and_self, and_true, true_and, and_false, false_and, Bool.false_eq_true, Bool.not_false, Bool.not_true, r6, h9]
        rw [if_neg (by omega)]
theorem I2.caught {κ : Kd} {T : TD} {σX σM : Sg} {A B : Nat → Nat} (I : I2 κ T σX σM A B) (v : Int32) : I2 κ T σX (wI σM 0 25 v) A B := I.scr fr.rfl (fr.w (by omega))
theorem I2.passed {κ : Kd} {T : TD} {σX σM : Sg} {A B : Nat → Nat} (I : I2 κ T σX σM A B) {n : Nat} (hn : n ≤ 60) : ∃ x m A' s, f_X11_passHours κ (nI n) σX = some (s, x) ∧ f_X12_arePassed (nI n) σM = some (if n ≤ 9999 - A 6 then nI 1 else nI 0, m) ∧ I2 κ T x m A' B ∧ m.1 0 25 = s ∧ (∀ j, j = 0 ∨ j = 1 ∨ j = 2 → A' j = A j) ∧ TXS σX σM x m := by
  obtain ⟨x, m, A', s, g1, g2, g3, g4, g5, g6⟩ := I2.hours n hn n 0 (by omega) σX (wI σM 0 25 (nI 0)) A (nI 0) (I.caught _)
  refine ⟨x, m, A', s, ?_, ?_, g3, ?_, g5, ?_⟩
  · have := g1 FU (by unfold FU; omega)
    rw [show nI 0 + s = s from Int32.zero_add s] at this
    unfold f_X11_passHours
    simp (disch := omega) only [e_lit]
    exact this
  · have := g2 FU (by unfold FU; omega)
    unfold f_X12_arePassed
    simp (disch := omega) only [e_lit, e_lt]
    exact this
  · rw [g4, e_hit]
    exact Int32.zero_add s
  · exact ⟨g6.1, g6.2.1, fun j => by rw [g6.2.2 j, e_ne1 (by decide)]⟩
theorem g_hour {κ : Kd} {T : TD} (v : Int32) : GO κ T (f_X11_hour κ v) (f_X12_hour v) := by
  intro σX σM ⟨A, B, I⟩
  have h6 := I.1.1.2.1
  have x5 : σX.1 2 5 = nI (A 6) := I.2.2.1.1.2.1
  have r6 := I.2.1.1 6 (by decide) (by decide) (by decide)
  unfold f_X11_hour f_X11_hour_28 f_X12_hour f_X12_hour_40 f_X12_hour_41
  rcases rng v 1 60 (by decide) (by decide) with hn | ⟨n, h1, hn, rfl⟩
  · exact ⟨-1, σX, σM, by simp (disch := omega) only [e_bnd, e_bndV, e_lt, e_grd, e_lit, e_le1, e_le2, e_lt1, e_lt2, e_eq1, e_eq2, e_inb, e_ix, nI_add, pk_mul, e_sub, e_b0, e_b1, e_bz, e_bz0, e_bz1, Bool.and_true, Bool.true_and, ↓reduceIte, not_true_eq_false, not_false_eq_true, decide_false, decide_true, and_self, and_true, true_and, and_false, false_and, Bool.false_eq_true, Bool.not_false, Bool.not_true, x_within, hn], by simp (disch := omega) only [e_bnd, e_bndV, e_lt, e_grd, e_lit, e_le1, e_le2, e_lt1, e_lt2, e_eq1, e_eq2, e_inb, e_ix, nI_add, pk_mul, e_sub, e_b0, e_b1, e_bz, e_bz0, e_bz1, Bool.and_true, Bool.true_and, ↓reduceIte, not_true_eq_false, not_false_eq_true, decide_false, decide_true, and_self, and_true, true_and, and_false, false_and, Bool.false_eq_true, Bool.not_false, Bool.not_true, m_isIn, hn], A, B, I⟩
  by_cases hl : n ≤ 9999 - A 6
  · obtain ⟨x, m, A', s, g1, g2, g3, g4, g5, g6⟩ := I.passed hn
    rw [if_pos hl] at g2
    refine ⟨s, x, m, ?_, ?_, A', B, g3⟩
    · simp (disch := omega) only [e_bnd, e_bndV, e_lt, e_grd, e_lit, e_le1, e_le2, e_lt1, e_lt2, e_eq1, e_eq2, e_inb, e_ix, nI_add, pk_mul, e_sub, e_b0, e_b1, e_bz, e_bz0, e_bz1, Bool.and_true, Bool.true_and, ↓reduceIte, not_true_eq_false, not_false_eq_true, decide_false, decide_true, and_self, and_true, true_and, and_false, false_and, Bool.false_eq_true, Bool.not_false, Bool.not_true, x_within, x5, g1]
    · simp (disch := omega) only [e_bnd, e_bndV, e_lt, e_grd, e_lit, e_le1, e_le2, e_lt1, e_lt2, e_eq1, e_eq2, e_inb, e_ix, nI_add, pk_mul, e_sub, e_b0, e_b1, e_bz, e_bz0, e_bz1, Bool.and_true, Bool.true_and, ↓reduceIte, not_true_eq_false, not_false_eq_true, decide_false, decide_true, and_self, and_true, true_and, and_false, false_and, Bool.false_eq_true, Bool.not_false, Bool.not_true, m_isIn, r6, g2, g4]
  · exact ⟨-1, σX, σM, by simp (disch := omega) only [e_bnd, e_bndV, e_lt, e_grd, e_lit, e_le1, e_le2, e_lt1, e_lt2, e_eq1, e_eq2, e_inb, e_ix, nI_add, pk_mul, e_sub, e_b0, e_b1, e_bz, e_bz0, e_bz1, Bool.and_true, Bool.true_and, ↓reduceIte, not_true_eq_false, not_false_eq_true, decide_false, decide_true, and_self, and_true, true_and, and_false, false_and, Bool.false_eq_true, Bool.not_false, Bool.not_true, x_within, x5], by simp (disch := omega) only [e_bnd, e_bndV, e_lt, e_grd, e_lit, e_le1, e_le2, e_lt1, e_lt2, e_eq1, e_eq2, e_inb, e_ix, nI_add, pk_mul, e_sub, e_b0, e_b1, e_bz, e_bz0, e_bz1, Bool.and_true, Bool.true_and, ↓reduceIte, not_true_eq_false, not_false_eq_true, decide_false, decide_true, and_self, and_true, true_and, and_false, false_and, Bool.false_eq_true, Bool.not_false, Bool.not_true, m_isIn, r6], A, B, I⟩
