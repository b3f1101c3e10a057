/-! METHODS: round, again, on -/
def dg (A : Nat → Nat) (h e : Nat) : Nat := (decide (0 < A (50 + 8 * h + e))).toNat
theorem dg_s {A : Nat → Nat} (hR : BR A) {h e : Nat} (hh : h < 8) (he : e < 8) : dg A h e = dg A e h := by
  unfold dg
  rw [(hR h e hh he).2.1]
theorem dg_0 {A : Nat → Nat} (hR : BR A) {h : Nat} (hh : h < 8) : dg A h h = 0 := by
  unfold dg
  rw [(hR h h hh hh).2.2.2]
  decide
theorem pc_bes (A : Nat → Nat) (h : Nat) : pc8 (bes A h) = dg A h 0 + dg A h 1 + dg A h 2 + dg A h 3 + dg A h 4 + dg A h 5 + dg A h 6 + dg A h 7 := by
  rw [pc8_sum _ (bes_lt A h), bes_bit _ _ _ (by decide), bes_bit _ _ _ (by decide), bes_bit _ _ _ (by decide), bes_bit _ _ _ (by decide), bes_bit _ _ _ (by decide), bes_bit _ _ _ (by decide), bes_bit _ _ _ (by decide), bes_bit _ _ _ (by decide)]
  rfl
theorem od_bit {A : Nat → Nat} {i : Nat} (hi : i < 8) : ((od A).testBit i).toNat = pc8 (bes A i) % 2 := by
  unfold od oddp
  rw [mk_bit, decide_eq_true hi, Bool.true_and]
  by_cases z : pc8 (bes A i) % 2 = 1
  · rw [decide_eq_true z, z]; rfl
  · rw [decide_eq_false z]
    show 0 = _
    omega
/-- the odd are even in number -/
theorem od_ev {A : Nat → Nat} (hR : BR A) : ev A (od A) := by
  refine ⟨fun _ _ z => z, ?_⟩
  have ho : od A < 256 := mk8 _ (by decide)
  rw [pc8_sum _ ho, od_bit (by decide), od_bit (by decide), od_bit (by decide), od_bit (by decide), od_bit (by decide), od_bit (by decide), od_bit (by decide), od_bit (by decide), pc_bes, pc_bes, pc_bes, pc_bes, pc_bes, pc_bes, pc_bes, pc_bes]
  rw [dg_0 hR (h := 0) (by decide)]
  rw [dg_0 hR (h := 1) (by decide)]
  rw [dg_s hR (h := 1) (e := 0) (by decide) (by decide)]
  rw [dg_0 hR (h := 2) (by decide)]
  rw [dg_s hR (h := 2) (e := 0) (by decide) (by decide)]
  rw [dg_s hR (h := 2) (e := 1) (by decide) (by decide)]
  rw [dg_0 hR (h := 3) (by decide)]
  rw [dg_s hR (h := 3) (e := 0) (by decide) (by decide)]
  rw [dg_s hR (h := 3) (e := 1) (by decide) (by decide)]
  rw [dg_s hR (h := 3) (e := 2) (by decide) (by decide)]
  rw [dg_0 hR (h := 4) (by decide)]
  rw [dg_s hR (h := 4) (e := 0) (by decide) (by decide)]
  rw [dg_s hR (h := 4) (e := 1) (by decide) (by decide)]
  rw [dg_s hR (h := 4) (e := 2) (by decide) (by decide)]
  rw [dg_s hR (h := 4) (e := 3) (by decide) (by decide)]
  rw [dg_0 hR (h := 5) (by decide)]
  rw [dg_s hR (h := 5) (e := 0) (by decide) (by decide)]
  rw [dg_s hR (h := 5) (e := 1) (by decide) (by decide)]
  rw [dg_s hR (h := 5) (e := 2) (by decide) (by decide)]
  rw [dg_s hR (h := 5) (e := 3) (by decide) (by decide)]
  rw [dg_s hR (h := 5) (e := 4) (by decide) (by decide)]
  rw [dg_0 hR (h := 6) (by decide)]
  rw [dg_s hR (h := 6) (e := 0) (by decide) (by decide)]
  rw [dg_s hR (h := 6) (e := 1) (by decide) (by decide)]
  rw [dg_s hR (h := 6) (e := 2) (by decide) (by decide)]
  rw [dg_s hR (h := 6) (e := 3) (by decide) (by decide)]
  rw [dg_s hR (h := 6) (e := 4) (by decide) (by decide)]
  rw [dg_s hR (h := 6) (e := 5) (by decide) (by decide)]
  rw [dg_0 hR (h := 7) (by decide)]
  rw [dg_s hR (h := 7) (e := 0) (by decide) (by decide)]
  rw [dg_s hR (h := 7) (e := 1) (by decide) (by decide)]
  rw [dg_s hR (h := 7) (e := 2) (by decide) (by decide)]
  rw [dg_s hR (h := 7) (e := 3) (by decide) (by decide)]
  rw [dg_s hR (h := 7) (e := 4) (by decide) (by decide)]
  rw [dg_s hR (h := 7) (e := 5) (by decide) (by decide)]
  rw [dg_s hR (h := 7) (e := 6) (by decide) (by decide)]
  omega
def tot (A : Nat → Nat) : Nat → Nat
  | 0 => 0
  | i + 1 => tot A i + A (50 + i)
def rsum (A : Nat → Nat) (h : Nat) : Nat → Nat
  | 0 => 0
  | e + 1 => rsum A h e + A (50 + 8 * h + e)
def tri8 (A : Nat → Nat) : Nat → Nat
  | 0 => 0
  | h + 1 => tri8 A h + rsum A h h
theorem rsum_0 {A : Nat → Nat} (hR : BR A) {h : Nat} (hh : h < 8) (hc : A 0 ≤ h) : ∀ e, e ≤ 8 → rsum A h e = 0
  | 0, _ => rfl
  | e + 1, he => by
    show rsum A h e + A (50 + 8 * h + e) = 0
    rw [rsum_0 hR hh hc e (by omega), (hR h e hh (by omega)).2.2.1 hc]
theorem tri_c {A : Nat → Nat} (hR : BR A) : ∀ d, A 0 + d ≤ 8 → tri8 A (A 0 + d) = tri8 A (A 0)
  | 0, _ => rfl
  | d + 1, h => by
    show tri8 A (A 0 + d) + rsum A (A 0 + d) (A 0 + d) = _
    rw [tri_c hR d (by omega), rsum_0 hR (by omega) (by omega) _ (by omega), Nat.add_zero]
theorem tot_2 {A : Nat → Nat} (hR : BR A) : tot A 64 = 2 * tri8 A 8 ∧ tri8 A 8 ≤ 2772 := by
  have e1 : tot A 64 = ((((((((((((((((((((((((((((((((((((((((((((((((((((((((((((((((0 + A 50) + A 51) + A 52) + A 53) + A 54) + A 55) + A 56) + A 57) + A 58) + A 59) + A 60) + A 61) + A 62) + A 63) + A 64) + A 65) + A 66) + A 67) + A 68) + A 69) + A 70) + A 71) + A 72) + A 73) + A 74) + A 75) + A 76) + A 77) + A 78) + A 79) + A 80) + A 81) + A 82) + A 83) + A 84) + A 85) + A 86) + A 87) + A 88) + A 89) + A 90) + A 91) + A 92) + A 93) + A 94) + A 95) + A 96) + A 97) + A 98) + A 99) + A 100) + A 101) + A 102) + A 103) + A 104) + A 105) + A 106) + A 107) + A 108) + A 109) + A 110) + A 111) + A 112) + A 113) := rfl
  have e2 : tri8 A 8 = ((((((((0 + 0) + (0 + A 58)) + ((0 + A 66) + A 67)) + (((0 + A 74) + A 75) + A 76)) + ((((0 + A 82) + A 83) + A 84) + A 85)) + (((((0 + A 90) + A 91) + A 92) + A 93) + A 94)) + ((((((0 + A 98) + A 99) + A 100) + A 101) + A 102) + A 103)) + (((((((0 + A 106) + A 107) + A 108) + A 109) + A 110) + A 111) + A 112)) := rfl
  rw [e1, e2]
  have d0 : A 50 = 0 := (hR 0 0 (by decide) (by decide)).2.2.2
  have d1 : A 59 = 0 := (hR 1 1 (by decide) (by decide)).2.2.2
  have s10 : A 58 = A 51 := (hR 1 0 (by decide) (by decide)).2.1
  have b10 : A 58 ≤ 99 := (hR 1 0 (by decide) (by decide)).1
  have d2 : A 68 = 0 := (hR 2 2 (by decide) (by decide)).2.2.2
  have s20 : A 66 = A 52 := (hR 2 0 (by decide) (by decide)).2.1
  have b20 : A 66 ≤ 99 := (hR 2 0 (by decide) (by decide)).1
  have s21 : A 67 = A 60 := (hR 2 1 (by decide) (by decide)).2.1
  have b21 : A 67 ≤ 99 := (hR 2 1 (by decide) (by decide)).1
  have d3 : A 77 = 0 := (hR 3 3 (by decide) (by decide)).2.2.2
  have s30 : A 74 = A 53 := (hR 3 0 (by decide) (by decide)).2.1
  have b30 : A 74 ≤ 99 := (hR 3 0 (by decide) (by decide)).1
  have s31 : A 75 = A 61 := (hR 3 1 (by decide) (by decide)).2.1
  have b31 : A 75 ≤ 99 := (hR 3 1 (by decide) (by decide)).1
  have s32 : A 76 = A 69 := (hR 3 2 (by decide) (by decide)).2.1
  have b32 : A 76 ≤ 99 := (hR 3 2 (by decide) (by decide)).1
  have d4 : A 86 = 0 := (hR 4 4 (by decide) (by decide)).2.2.2
  have s40 : A 82 = A 54 := (hR 4 0 (by decide) (by decide)).2.1
  have b40 : A 82 ≤ 99 := (hR 4 0 (by decide) (by decide)).1
  have s41 : A 83 = A 62 := (hR 4 1 (by decide) (by decide)).2.1
  have b41 : A 83 ≤ 99 := (hR 4 1 (by decide) (by decide)).1
  have s42 : A 84 = A 70 := (hR 4 2 (by decide) (by decide)).2.1
  have b42 : A 84 ≤ 99 := (hR 4 2 (by decide) (by decide)).1
  have s43 : A 85 = A 78 := (hR 4 3 (by decide) (by decide)).2.1
  have b43 : A 85 ≤ 99 := (hR 4 3 (by decide) (by decide)).1
  have d5 : A 95 = 0 := (hR 5 5 (by decide) (by decide)).2.2.2
  have s50 : A 90 = A 55 := (hR 5 0 (by decide) (by decide)).2.1
  have b50 : A 90 ≤ 99 := (hR 5 0 (by decide) (by decide)).1
  have s51 : A 91 = A 63 := (hR 5 1 (by decide) (by decide)).2.1
  have b51 : A 91 ≤ 99 := (hR 5 1 (by decide) (by decide)).1
  have s52 : A 92 = A 71 := (hR 5 2 (by decide) (by decide)).2.1
  have b52 : A 92 ≤ 99 := (hR 5 2 (by decide) (by decide)).1
  have s53 : A 93 = A 79 := (hR 5 3 (by decide) (by decide)).2.1
  have b53 : A 93 ≤ 99 := (hR 5 3 (by decide) (by decide)).1
  have s54 : A 94 = A 87 := (hR 5 4 (by decide) (by decide)).2.1
  have b54 : A 94 ≤ 99 := (hR 5 4 (by decide) (by decide)).1
  have d6 : A 104 = 0 := (hR 6 6 (by decide) (by decide)).2.2.2
  have s60 : A 98 = A 56 := (hR 6 0 (by decide) (by decide)).2.1
  have b60 : A 98 ≤ 99 := (hR 6 0 (by decide) (by decide)).1
  have s61 : A 99 = A 64 := (hR 6 1 (by decide) (by decide)).2.1
  have b61 : A 99 ≤ 99 := (hR 6 1 (by decide) (by decide)).1
  have s62 : A 100 = A 72 := (hR 6 2 (by decide) (by decide)).2.1
  have b62 : A 100 ≤ 99 := (hR 6 2 (by decide) (by decide)).1
  have s63 : A 101 = A 80 := (hR 6 3 (by decide) (by decide)).2.1
  have b63 : A 101 ≤ 99 := (hR 6 3 (by decide) (by decide)).1
  have s64 : A 102 = A 88 := (hR 6 4 (by decide) (by decide)).2.1
  have b64 : A 102 ≤ 99 := (hR 6 4 (by decide) (by decide)).1
  have s65 : A 103 = A 96 := (hR 6 5 (by decide) (by decide)).2.1
  have b65 : A 103 ≤ 99 := (hR 6 5 (by decide) (by decide)).1
  have d7 : A 113 = 0 := (hR 7 7 (by decide) (by decide)).2.2.2
  have s70 : A 106 = A 57 := (hR 7 0 (by decide) (by decide)).2.1
  have b70 : A 106 ≤ 99 := (hR 7 0 (by decide) (by decide)).1
  have s71 : A 107 = A 65 := (hR 7 1 (by decide) (by decide)).2.1
  have b71 : A 107 ≤ 99 := (hR 7 1 (by decide) (by decide)).1
  have s72 : A 108 = A 73 := (hR 7 2 (by decide) (by decide)).2.1
  have b72 : A 108 ≤ 99 := (hR 7 2 (by decide) (by decide)).1
  have s73 : A 109 = A 81 := (hR 7 3 (by decide) (by decide)).2.1
  have b73 : A 109 ≤ 99 := (hR 7 3 (by decide) (by decide)).1
  have s74 : A 110 = A 89 := (hR 7 4 (by decide) (by decide)).2.1
  have b74 : A 110 ≤ 99 := (hR 7 4 (by decide) (by decide)).1
  have s75 : A 111 = A 97 := (hR 7 5 (by decide) (by decide)).2.1
  have b75 : A 111 ≤ 99 := (hR 7 5 (by decide) (by decide)).1
  have s76 : A 112 = A 105 := (hR 7 6 (by decide) (by decide)).2.1
  have b76 : A 112 ≤ 99 := (hR 7 6 (by decide) (by decide)).1
  omega
theorem half_a : ∀ a, a < 44 → ∀ b, b < 64 → nI (2 * (64 * a + b)) / nI 2 = nI (64 * a + b) := by decide +kernel
theorem half_t (s : Nat) (h : s < 2773) : nI (2 * s) / nI 2 = nI s := by
  have := half_a (s / 64) (by omega) (s % 64) (by omega)
  rw [show 64 * (s / 64) + s % 64 = s by omega] at this
  exact this
theorem x_together {σ : Sg} {t : Nat} {A : Nat → Nat} (hX : XR σ t A) (hR : BR A) : f_X5_together t σ = some (nI (tri8 A 8), σ) := by
  obtain ⟨t1, t2⟩ := tot_2 hR
  have ht := half_t (tri8 A 8) (by omega)
  rw [← t1] at ht
  have x1 := hX.1
  unfold f_X5_together
  simp (disch := omega) only [e_lit]
  refine lp (fun fu (q : Int32 × Int32) => f_X5_together_4 t fu q.1 q.2 σ) (fun i => (nI (tot A i), nI i)) 64 (fun i hi fu => ?_) (fun fu => ?_) FU (by unfold FU; omega)
  · have e : tot A (i + 1) = tot A i + A (50 + i) := rfl
    have xi := x1 i hi
    dsimp only
    rw [f_X5_together_4, e]
    simp (disch := omega) only [e_bnd, e_bndV, e_lt, e_grd, e_lit, e_le1, e_le2, e_lt1, e_lt2, e_eq1, e_eq2, e_inb, e_ix, nI_add, pk_mul, e_sub, e_b0, e_b1, e_bz, e_bz0, e_bz1, Bool.and_true, Bool.true_and, ↓reduceIte, not_true_eq_false, not_false_eq_true, decide_false, decide_true, and_self, and_true, true_and, and_false, false_and, Bool.false_eq_true, Bool.not_false, Bool.not_true, xi]
  · have z : (!decide (nI 2 = 0)) = true := by decide
    dsimp only
    rw [f_X5_together_4]
    clear x1 t1
    simp (disch := omega) only [e_bnd, e_bndV, e_lt, e_grd, e_lit, e_le1, e_le2, e_lt1, e_lt2, e_eq1, e_eq2, e_inb, e_ix, nI_add, pk_mul, e_sub, e_b0, e_b1, e_bz, e_bz0, e_bz1, Bool.and_true, Bool.true_and, ↓reduceIte, not_true_eq_false, not_false_eq_true, decide_false, decide_true, and_self, and_true, true_and, and_false, false_and, Bool.false_eq_true, Bool.not_false, Bool.not_true, dz_I, ht]
theorem m_round52 {σ : Sg} {A : Nat → Nat} (hM : MA σ A) (rec : Int32 → Int32 → Sg → Option (Int32 × Sg)) {h : Nat} (hh : h < 8) (a : Nat) : f_X12_round_52 rec FU (nI a) (nI h) (nI 0) σ = rec (nI (a + rsum A h h)) (nI (h + 1)) σ := by
  refine lp (fun fu (q : Int32 × Int32) => f_X12_round_52 rec fu q.1 (nI h) q.2 σ) (fun i => (nI (a + rsum A h i), nI i)) h (fun i hi fu => ?_) (fun fu => ?_) FU (by unfold FU; omega)
  · have e : a + rsum A h (i + 1) = a + rsum A h i + A (50 + 8 * h + i) := (Nat.add_assoc _ _ _).symm
    have ml := m_lengthOf hM hh (by omega : i < 8)
    dsimp only
    rw [f_X12_round_52, e]
    simp (disch := omega) only [e_bnd, e_bndV, e_lt, e_grd, e_lit, e_le1, e_le2, e_lt1, e_lt2, e_eq1, e_eq2, e_inb, e_ix, nI_add, pk_mul, e_sub, e_b0, e_b1, e_bz, e_bz0, e_bz1, Bool.and_true, Bool.true_and, ↓reduceIte, not_true_eq_false, not_false_eq_true, decide_false, decide_true, and_self, and_true, true_and, and_false, false_and, Bool.false_eq_true, Bool.not_false, Bool.not_true, ml]
  · dsimp only
    rw [f_X12_round_52]
    simp (disch := omega) only [e_bnd, e_bndV, e_lt, e_grd, e_lit, e_le1, e_le2, e_lt1, e_lt2, e_eq1, e_eq2, e_inb, e_ix, nI_add, pk_mul, e_sub, e_b0, e_b1, e_bz, e_bz0, e_bz1, Bool.and_true, Bool.true_and, ↓reduceIte, not_true_eq_false, not_false_eq_true, decide_false, decide_true, and_self, and_true, true_and, and_false, false_and, Bool.false_eq_true, Bool.not_false, Bool.not_true]
theorem m_round39 {σ : Sg} {A : Nat → Nat} (hM : MA σ A) (c8 : A 0 ≤ 8) (a : Nat) : f_X12_round_39 FU (nI a) (nI 0) σ = some (nI (a + tri8 A (A 0)), σ) := by
  have r0 := hM.1 0 (by decide) (by decide) (by decide)
  refine lp (fun fu (q : Int32 × Int32) => f_X12_round_39 fu q.1 q.2 σ) (fun i => (nI (a + tri8 A i), nI i)) (A 0) (fun i hi fu => ?_) (fun fu => ?_) FU (by unfold FU; omega)
  · have e : a + tri8 A (i + 1) = a + tri8 A i + rsum A i i := (Nat.add_assoc _ _ _).symm
    have g := m_round52 hM (f_X12_round_39 fu) (by omega : i < 8) (a + tri8 A i)
    dsimp only
    rw [f_X12_round_39, e]
    simp (disch := omega) only [e_bnd, e_bndV, e_lt, e_grd, e_lit, e_le1, e_le2, e_lt1, e_lt2, e_eq1, e_eq2, e_inb, e_ix, nI_add, pk_mul, e_sub, e_b0, e_b1, e_bz, e_bz0, e_bz1, Bool.and_true, Bool.true_and, ↓reduceIte, not_true_eq_false, not_false_eq_true, decide_false, decide_true, and_self, and_true, true_and, and_false, false_and, Bool.false_eq_true, Bool.not_false, Bool.not_true, r0]
    exact g
  · dsimp only
    rw [f_X12_round_39]
    simp (disch := omega) only [e_bnd, e_bndV, e_lt, e_grd, e_lit, e_le1, e_le2, e_lt1, e_lt2, e_eq1, e_eq2, e_inb, e_ix, nI_add, pk_mul, e_sub, e_b0, e_b1, e_bz, e_bz0, e_bz1, Bool.and_true, Bool.true_and, ↓reduceIte, not_true_eq_false, not_false_eq_true, decide_false, decide_true, and_self, and_true, true_and, and_false, false_and, Bool.false_eq_true, Bool.not_false, Bool.not_true, r0]
theorem jo_or (A : Nat → Nat) : jo A = 0 ∨ jo A = 1 := by
  unfold jo
  split
  · exact Or.inr rfl
  · exact Or.inl rfl
theorem od_al {A : Nat → Nat} (hR : BR A) (c8 : A 0 ≤ 8) : od A ≤ al (A 0) := by
  have h : od A < 2 ^ (A 0) := by
    refine Nat.lt_of_not_le fun z => ?_
    have e : mk (A 0) (oddp A) = od A := mk_cut c8 (fun i h1 h2 => by
      unfold oddp
      rw [bes_0 hR h2 h1, pc8_0]
      decide)
    have := mk_lt (A 0) (oddp A)
    omega
  unfold al
  omega
theorem g_round {κ : Kd} {T : TD} (v : Int32) : GO κ T (f_X11_round v) (f_X12_round v) := by
  intro σX σM ⟨A, B, I⟩
  have hM := I.2.1
  have hB := I.1.1
  have c8 := hB.1
  have hR := I.1.2.2.1
  have xo := x_odds I.xr
  have mo := m_odds hM c8 hR
  have n10 : ¬ (nI 1 : Int32) = nI 0 := by decide
  unfold f_X11_round f_X12_round
  by_cases z1 : v = nI 1
  · subst z1
    exact I.q (r := nI (od A)) (by simp (disch := omega) only [e_bnd, e_bndV, e_lt, e_grd, e_lit, e_le1, e_le2, e_lt1, e_lt2, e_eq1, e_eq2, e_inb, e_ix, nI_add, pk_mul, e_sub, e_b0, e_b1, e_bz, e_bz0, e_bz1, Bool.and_true, Bool.true_and, ↓reduceIte, not_true_eq_false, not_false_eq_true, decide_false, decide_true, and_self, and_true, true_and, and_false, false_and, Bool.false_eq_true, Bool.not_false, Bool.not_true, xo]) (by simp (disch := omega) only [e_bnd, e_bndV, e_lt, e_grd, e_lit, e_le1, e_le2, e_lt1, e_lt2, e_eq1, e_eq2, e_inb, e_ix, nI_add, pk_mul, e_sub, e_b0, e_b1, e_bz, e_bz0, e_bz1, Bool.and_true, Bool.true_and, ↓reduceIte, not_true_eq_false, not_false_eq_true, decide_false, decide_true, and_self, and_true, true_and, and_false, false_and, Bool.false_eq_true, Bool.not_false, Bool.not_true, mo])
  by_cases z0 : v = nI 0
  · subst z0
    have xh := x_hang I.xr hR c8
    have mj := m_joined hM hB hR
    rcases jo_or A with j | j
    · rw [j] at xh mj
      exact I.q (r := -nI 1) (by simp (disch := omega) only [e_bnd, e_bndV, e_lt, e_grd, e_lit, e_le1, e_le2, e_lt1, e_lt2, e_eq1, e_eq2, e_inb, e_ix, nI_add, pk_mul, e_sub, e_b0, e_b1, e_bz, e_bz0, e_bz1, Bool.and_true, Bool.true_and, ↓reduceIte, not_true_eq_false, not_false_eq_true, decide_false, decide_true, and_self, and_true, true_and, and_false, false_and, Bool.false_eq_true, Bool.not_false, Bool.not_true, f_X9_walk, xh]) (by simp (disch := omega) only [e_bnd, e_bndV, e_lt, e_grd, e_lit, e_le1, e_le2, e_lt1, e_lt2, e_eq1, e_eq2, e_inb, e_ix, nI_add, pk_mul, e_sub, e_b0, e_b1, e_bz, e_bz0, e_bz1, Bool.and_true, Bool.true_and, ↓reduceIte, not_true_eq_false, not_false_eq_true, decide_false, decide_true, and_self, and_true, true_and, and_false, false_and, Bool.false_eq_true, Bool.not_false, Bool.not_true, mj, f_X12_round_21])
    · rw [j] at xh mj
      have ho : od A < 256 := mk8 _ (by decide)
      obtain ⟨sX, ⟨⟨a0, a1⟩, a2⟩, a3⟩ := x_pairUp I.xr hR c8 j
      obtain ⟨sM, ⟨b0, b1, b2⟩, b3⟩ := m_layPairs hM c8 hR
      have hXs : XR sX 8 A := I.xr.of (fun a j q => a2.1 _ _ (by omega))
      have hMs : MA sM A := hM.of b2 (by intro a j q; omega)
      have xt := x_together hXs hR
      have mo2 := m_odds hMs c8 hR
      have c1 := a1 (od A) (by omega) (od_ev hR)
      have c2 := b1 (od A) (od_al hR c8)
      have mr := m_round39 hMs c8 (PP A (od A))
      have tc := tri_c hR (8 - A 0) (by omega)
      rw [show A 0 + (8 - A 0) = 8 by omega] at tc
      rw [tc] at xt
      rw [Nat.add_comm] at mr
      have inv : Inv κ T sX sM := ⟨A, B, I.scr (a2.mono (fun a j q => by omega)) (b2.mono (fun a j q => by omega))⟩
      refine ⟨nI (tri8 A (A 0) + PP A (od A)), sX, sM, ?_, ?_, inv⟩
      · clear a0 a1 a2 b0 b1 b2 I
        simp (disch := omega) only [e_bnd, e_bndV, e_lt, e_grd, e_lit, e_le1, e_le2, e_lt1, e_lt2, e_eq1, e_eq2, e_inb, e_ix, nI_add, pk_mul, e_sub, e_b0, e_b1, e_bz, e_bz0, e_bz1, Bool.and_true, Bool.true_and, ↓reduceIte, not_true_eq_false, not_false_eq_true, decide_false, decide_true, and_self, and_true, true_and, and_false, false_and, Bool.false_eq_true, Bool.not_false, Bool.not_true, f_X9_walk, xh, xo, a3, xt, c1]
      · clear a0 a1 a2 b0 b1 b2 I
        simp (disch := omega) only [e_bnd, e_bndV, e_lt, e_grd, e_lit, e_le1, e_le2, e_lt1, e_lt2, e_eq1, e_eq2, e_inb, e_ix, nI_add, pk_mul, e_sub, e_b0, e_b1, e_bz, e_bz0, e_bz1, Bool.and_true, Bool.true_and, ↓reduceIte, not_true_eq_false, not_false_eq_true, decide_false, decide_true, and_self, and_true, true_and, and_false, false_and, Bool.false_eq_true, Bool.not_false, Bool.not_true, mj, b3, mo2, c2]
        exact mr
  · exact I.q (r := -nI 1) (by simp (disch := omega) only [e_bnd, e_bndV, e_lt, e_grd, e_lit, e_le1, e_le2, e_lt1, e_lt2, e_eq1, e_eq2, e_inb, e_ix, nI_add, pk_mul, e_sub, e_b0, e_b1, e_bz, e_bz0, e_bz1, Bool.and_true, Bool.true_and, ↓reduceIte, not_true_eq_false, not_false_eq_true, decide_false, decide_true, and_self, and_true, true_and, and_false, false_and, Bool.false_eq_true, Bool.not_false, Bool.not_true, z0, z1]) (by simp (disch := omega) only [e_bnd, e_bndV, e_lt, e_grd, e_lit, e_le1, e_le2, e_lt1, e_lt2, e_eq1, e_eq2, e_inb, e_ix, nI_add, pk_mul, e_sub, e_b0, e_b1, e_bz, e_bz0, e_bz1, Bool.and_true, Bool.true_and, ↓reduceIte, not_true_eq_false, not_false_eq_true, decide_false, decide_true, and_self, and_true, true_and, and_false, false_and, Bool.false_eq_true, Bool.not_false, Bool.not_true, z0, z1, f_X12_round_21])
