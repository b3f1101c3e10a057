/-! METHODS: kept, warmest, leaves, book, befell; odd -/
theorem mk_cut {n : Nat} {p : Nat → Bool} (hn : n ≤ 8) (h : ∀ i, n ≤ i → i < 8 → p i = false) : mk n p = mk 8 p := by
  refine bit_eq (mk8 _ hn) (mk8 _ (by decide)) fun i hi => ?_
  rw [mk_bit, mk_bit]
  by_cases q : i < n
  · simp [q, hi]
  · simp [q, h i (by omega) hi]
theorem bes_0 {A : Nat → Nat} (hR : BR A) {h : Nat} (hh : h < 8) (hc : A 0 ≤ h) : bes A h = 0 := by
  refine bit_eq (bes_lt A h) (by decide) fun i hi => ?_
  rw [bes_bit _ _ _ hi, (hR h i hh hi).2.2.1 hc]
  simp
theorem pc8_0 : pc8 0 = 0 := by decide
theorem I2.xr {κ : Kd} {T : TD} {σX σM : Sg} {A B : Nat → Nat} (I : I2 κ T σX σM A B) : XR σX 8 A := I.2.2.1.2.2.1
theorem I2.q {κ : Kd} {T : TD} {σX σM : Sg} {A B : Nat → Nat} (I : I2 κ T σX σM A B) {x y : Option (Int32 × Sg)} {r : Int32} (h1 : x = some (r, σX)) (h2 : y = some (r, σM)) : ∃ r σX' σM', x = some (r, σX') ∧ y = some (r, σM') ∧ Inv κ T σX' σM' := ⟨r, σX, σM, h1, h2, A, B, I⟩
theorem g_kept {κ : Kd} {T : TD} : GO κ T f_X11_kept f_X12_kept := by
  intro σX σM ⟨A, B, I⟩
  have hb := x_housesBy I.2.2.1.1 I.1.1 (lo := 1) (hi := 2) (by decide) (by decide)
  change f_X8_housesBy 2 (nI 1) (nI 2) σX = _ at hb
  have h1 := m_allOf I.2.1 I.1.1 (f := 1) (by decide)
  have h2 := m_allOf I.2.1 I.1.1 (f := 2) (by decide)
  have c8 := I.1.1.1
  have e : fires A 1 1 ||| fires A 2 2 = fires A 1 2 := by
    refine bit_eq (Nat.or_lt_two_pow (n := 8) (mk8 _ c8) (mk8 _ c8)) (mk8 _ c8) fun i hi => ?_
    rw [Nat.testBit_or]
    unfold fires
    rw [mk_bit, mk_bit, mk_bit]
    by_cases q : i < A 0
    · simp only [q, decide_true, Bool.true_and]
      rw [← Bool.decide_or]
      congr 1
      apply propext
      omega
    · simp [q]
  refine I.q (r := nI (fires A 1 2)) ?_ ?_
  · unfold f_X11_kept
    simp (disch := omega) only [e_bnd, e_bndV, e_lt, e_grd, e_lit, e_le1, e_le2, e_lt1, e_lt2, e_eq1, e_eq2, e_inb, e_ix, nI_add, pk_mul, e_sub, e_b0, e_b1, e_bz, e_bz0, e_bz1, Bool.and_true, Bool.true_and, ↓reduceIte, not_true_eq_false, not_false_eq_true, decide_false, decide_true, and_self, and_true, true_and, and_false, false_and, Bool.false_eq_true, Bool.not_false, Bool.not_true, hb]
  · unfold f_X12_kept
    simp (disch := omega) only [e_bnd, e_bndV, e_lt, e_grd, e_lit, e_le1, e_le2, e_lt1, e_lt2, e_eq1, e_eq2, e_inb, e_ix, nI_add, pk_mul, e_sub, e_b0, e_b1, e_bz, e_bz0, e_bz1, Bool.and_true, Bool.true_and, ↓reduceIte, not_true_eq_false, not_false_eq_true, decide_false, decide_true, and_self, and_true, true_and, and_false, false_and, Bool.false_eq_true, Bool.not_false, Bool.not_true, h1, h2, or_I, e]
def wmA (A : Nat → Nat) : Nat → Int32 × Nat
  | 0 => (-1, 0)
  | i + 1 => if (wmA A i).2 < A (10 + 5 * i + 1) then (nI i, A (10 + 5 * i + 1)) else wmA A i
theorem wmA_le {A : Nat → Nat} (hB : BT A) : ∀ i, i ≤ 8 → (wmA A i).2 ≤ 9 := by
  intro i
  induction i with
  | zero => intro _; exact Nat.zero_le _
  | succ i ih =>
    intro h
    unfold wmA
    split
    · exact (hB.2.2.2.2 i (by omega)).2.1
    · exact ih (by omega)
theorem g_warmest {κ : Kd} {T : TD} : GO κ T f_X11_warmest f_X12_warmest := by
  intro σX σM ⟨A, B, I⟩
  have hM := I.2.1
  have c8 := I.1.1.1
  have x0 : σX.1 2 0 = nI (A 0) := I.2.2.1.1.1
  have r0 := hM.1 0 (by decide) (by decide) (by decide)
  have x6 : ∀ h, h < 8 → σX.1 6 h = nI (A (10 + 5 * h + 1)) := I.2.2.1.1.2.2.2.2.2.2.2
  refine I.q (r := (wmA A (A 0)).1) ?_ ?_
  · unfold f_X11_warmest
    refine lp (fun fu (s : Int32 × Int32 × Int32) => f_X11_warmest_6 fu s.1 s.2.1 s.2.2 σX) (fun i => ((wmA A i).1, nI (wmA A i).2, nI i)) (A 0) (fun i hi fu => ?_) (fun fu => ?_) FU (by unfold FU; omega)
    · have h1 := wmA_le I.1.1 i (by omega)
      have h2 := (I.1.1.2.2.2.2 i (by omega)).2.1
      dsimp only
      rw [f_X11_warmest_6]
      by_cases q : (wmA A i).2 < A (10 + 5 * i + 1)
      · rw [show wmA A (i + 1) = (nI i, A (10 + 5 * i + 1)) from if_pos q]
        simp (disch := omega) only [e_bnd, e_bndV, e_lt, e_grd, e_lit, e_le1, e_le2, e_lt1, e_lt2, e_eq1, e_eq2, e_inb, e_ix, nI_add, pk_mul, e_sub, e_b0, e_b1, e_bz, e_bz0, e_bz1, Bool.and_true, Bool.true_and, ↓reduceIte, not_true_eq_false, not_false_eq_true, decide_false, decide_true, and_self, and_true, true_and, and_false, false_and, Bool.false_eq_true, Bool.not_false, Bool.not_true, x0, x6, f_X11_warmest_51]
      · rw [show wmA A (i + 1) = wmA A i from if_neg q]
        simp (disch := omega) only [e_bnd, e_bndV, e_lt, e_grd, e_lit, e_le1, e_le2, e_lt1, e_lt2, e_eq1, e_eq2, e_inb, e_ix, nI_add, pk_mul, e_sub, e_b0, e_b1, e_bz, e_bz0, e_bz1, Bool.and_true, Bool.true_and, ↓reduceIte, not_true_eq_false, not_false_eq_true, decide_false, decide_true, and_self, and_true, true_and, and_false, false_and, Bool.false_eq_true, Bool.not_false, Bool.not_true, x0, x6, f_X11_warmest_51]
    · dsimp only
      rw [f_X11_warmest_6]
      simp (disch := omega) only [e_bnd, e_bndV, e_lt, e_grd, e_lit, e_le1, e_le2, e_lt1, e_lt2, e_eq1, e_eq2, e_inb, e_ix, nI_add, pk_mul, e_sub, e_b0, e_b1, e_bz, e_bz0, e_bz1, Bool.and_true, Bool.true_and, ↓reduceIte, not_true_eq_false, not_false_eq_true, decide_false, decide_true, and_self, and_true, true_and, and_false, false_and, Bool.false_eq_true, Bool.not_false, Bool.not_true, x0]
  · unfold f_X12_warmest
    refine lp (fun fu (s : Int32 × Int32 × Int32) => f_X12_warmest_6 fu s.1 s.2.1 s.2.2 σM) (fun i => ((wmA A i).1, nI (wmA A i).2, nI i)) (A 0) (fun i hi fu => ?_) (fun fu => ?_) FU (by unfold FU; omega)
    · have h1 := wmA_le I.1.1 i (by omega)
      have h2 := (I.1.1.2.2.2.2 i (by omega)).2.1
      dsimp only
      rw [f_X12_warmest_6]
      by_cases q : (wmA A i).2 < A (10 + 5 * i + 1)
      · rw [show wmA A (i + 1) = (nI i, A (10 + 5 * i + 1)) from if_pos q]
        simp (disch := omega) only [e_bnd, e_bndV, e_lt, e_grd, e_lit, e_le1, e_le2, e_lt1, e_lt2, e_eq1, e_eq2, e_inb, e_ix, nI_add, pk_mul, e_sub, e_b0, e_b1, e_bz, e_bz0, e_bz1, Bool.and_true, Bool.true_and, ↓reduceIte, not_true_eq_false, not_false_eq_true, decide_false, decide_true, and_self, and_true, true_and, and_false, false_and, Bool.false_eq_true, Bool.not_false, Bool.not_true, r0, m_get hM, f_X12_warmest_38]
      · rw [show wmA A (i + 1) = wmA A i from if_neg q]
        simp (disch := omega) only [e_bnd, e_bndV, e_lt, e_grd, e_lit, e_le1, e_le2, e_lt1, e_lt2, e_eq1, e_eq2, e_inb, e_ix, nI_add, pk_mul, e_sub, e_b0, e_b1, e_bz, e_bz0, e_bz1, Bool.and_true, Bool.true_and, ↓reduceIte, not_true_eq_false, not_false_eq_true, decide_false, decide_true, and_self, and_true, true_and, and_false, false_and, Bool.false_eq_true, Bool.not_false, Bool.not_true, r0, m_get hM, f_X12_warmest_38]
    · dsimp only
      rw [f_X12_warmest_6]
      simp (disch := omega) only [e_bnd, e_bndV, e_lt, e_grd, e_lit, e_le1, e_le2, e_lt1, e_lt2, e_eq1, e_eq2, e_inb, e_ix, nI_add, pk_mul, e_sub, e_b0, e_b1, e_bz, e_bz0, e_bz1, Bool.and_true, Bool.true_and, ↓reduceIte, not_true_eq_false, not_false_eq_true, decide_false, decide_true, and_self, and_true, true_and, and_false, false_and, Bool.false_eq_true, Bool.not_false, Bool.not_true, r0]
theorem g_leaves {κ : Kd} {T : TD} : GO κ T f_X11_leaves f_X12_leaves := by
  intro σX σM ⟨A, B, I⟩
  have hM := I.2.1
  have c8 := I.1.1.1
  have hR := I.1.2.2.1
  have r0 := hM.1 0 (by decide) (by decide) (by decide)
  have xb : ∀ h, h < 8 → σX.1 10 h = nI (bes A h) := I.xr.2
  have hbl := bes_lt A
  have hp := pc8_le
  refine I.q (r := nI (mk 8 fun h => decide (pc8 (bes A h) = 1))) ?_ ?_
  · unfold f_X11_leaves
    refine lp (fun fu (s : Int32 × Int32) => f_X11_leaves_4 fu s.1 s.2 σX) (fun i => (nI (mk i fun h => decide (pc8 (bes A h) = 1)), nI i)) 8 (fun i hi fu => ?_) (fun fu => ?_) FU (by unfold FU; omega)
    · have h1 := hbl i
      have h2 := hp (bes A i)
      dsimp only
      rw [f_X11_leaves_4]
      by_cases q : pc8 (bes A i) = 1
      · rw [mk_1 (by rw [decide_eq_true]; exact q)]
        simp (disch := omega) only [e_bnd, e_bndV, e_lt, e_grd, e_lit, e_le1, e_le2, e_lt1, e_lt2, e_eq1, e_eq2, e_inb, e_ix, nI_add, pk_mul, e_sub, e_b0, e_b1, e_bz, e_bz0, e_bz1, Bool.and_true, Bool.true_and, ↓reduceIte, not_true_eq_false, not_false_eq_true, decide_false, decide_true, and_self, and_true, true_and, and_false, false_and, Bool.false_eq_true, Bool.not_false, Bool.not_true, xb, f_bitCount_eq, q, f_X11_leaves_35, sh1, or_I]
      · rw [mk_0 (by rw [decide_eq_false]; exact q)]
        simp (disch := omega) only [e_bnd, e_bndV, e_lt, e_grd, e_lit, e_le1, e_le2, e_lt1, e_lt2, e_eq1, e_eq2, e_inb, e_ix, nI_add, pk_mul, e_sub, e_b0, e_b1, e_bz, e_bz0, e_bz1, Bool.and_true, Bool.true_and, ↓reduceIte, not_true_eq_false, not_false_eq_true, decide_false, decide_true, and_self, and_true, true_and, and_false, false_and, Bool.false_eq_true, Bool.not_false, Bool.not_true, xb, f_bitCount_eq, f_X11_leaves_35]
    · dsimp only
      rw [f_X11_leaves_4]
      simp (disch := omega) only [e_bnd, e_bndV, e_lt, e_grd, e_lit, e_le1, e_le2, e_lt1, e_lt2, e_eq1, e_eq2, e_inb, e_ix, nI_add, pk_mul, e_sub, e_b0, e_b1, e_bz, e_bz0, e_bz1, Bool.and_true, Bool.true_and, ↓reduceIte, not_true_eq_false, not_false_eq_true, decide_false, decide_true, and_self, and_true, true_and, and_false, false_and, Bool.false_eq_true, Bool.not_false, Bool.not_true]
  · unfold f_X12_leaves
    rw [← mk_cut c8 (fun i h1 h2 => by rw [bes_0 hR h2 h1, pc8_0]; rfl)]
    refine lp (fun fu (s : Int32 × Int32) => f_X12_leaves_4 fu s.1 s.2 σM) (fun i => (nI (mk i fun h => decide (pc8 (bes A h) = 1)), nI i)) (A 0) (fun i hi fu => ?_) (fun fu => ?_) FU (by unfold FU; omega)
    · have h1 := hbl i
      have h2 := hp (bes A i)
      dsimp only
      rw [f_X12_leaves_4]
      by_cases q : pc8 (bes A i) = 1
      · rw [mk_1 (by rw [decide_eq_true]; exact q)]
        simp (disch := omega) only [e_bnd, e_bndV, e_lt, e_grd, e_lit, e_le1, e_le2, e_lt1, e_lt2, e_eq1, e_eq2, e_inb, e_ix, nI_add, pk_mul, e_sub, e_b0, e_b1, e_bz, e_bz0, e_bz1, Bool.and_true, Bool.true_and, ↓reduceIte, not_true_eq_false, not_false_eq_true, decide_false, decide_true, and_self, and_true, true_and, and_false, false_and, Bool.false_eq_true, Bool.not_false, Bool.not_true, r0, m_beside hM c8 hR, f_bits_eq, q, f_X12_leaves_34, sh1, or_I]
      · rw [mk_0 (by rw [decide_eq_false]; exact q)]
        simp (disch := omega) only [e_bnd, e_bndV, e_lt, e_grd, e_lit, e_le1, e_le2, e_lt1, e_lt2, e_eq1, e_eq2, e_inb, e_ix, nI_add, pk_mul, e_sub, e_b0, e_b1, e_bz, e_bz0, e_bz1, Bool.and_true, Bool.true_and, ↓reduceIte, not_true_eq_false, not_false_eq_true, decide_false, decide_true, and_self, and_true, true_and, and_false, false_and, Bool.false_eq_true, Bool.not_false, Bool.not_true, r0, m_beside hM c8 hR, f_bits_eq, f_X12_leaves_34, or_I, Nat.or_zero]
    · dsimp only
      rw [f_X12_leaves_4]
      simp (disch := omega) only [e_bnd, e_bndV, e_lt, e_grd, e_lit, e_le1, e_le2, e_lt1, e_lt2, e_eq1, e_eq2, e_inb, e_ix, nI_add, pk_mul, e_sub, e_b0, e_b1, e_bz, e_bz0, e_bz1, Bool.and_true, Bool.true_and, ↓reduceIte, not_true_eq_false, not_false_eq_true, decide_false, decide_true, and_self, and_true, true_and, and_false, false_and, Bool.false_eq_true, Bool.not_false, Bool.not_true, r0]
def oddA (A : Nat → Nat) : Nat := mk 8 fun h => decide (pc8 (bes A h) % 2 = 1)
theorem and1_I (n : Nat) : nI n &&& nI 1 = nI (n % 2) := by rw [and_I, Nat.and_one_is_mod]
theorem sh0 : ∀ h, h < 16 → shl (nI 0) (nI h) = nI 0 := by decide +kernel
theorem x_odd {σ : Sg} {s : Nat} {A : Nat → Nat} (hR : XR σ s A) : f_X5_odd s σ = some (nI (oddA A), σ) := by
  have xb := hR.2
  have hbl := bes_lt A
  unfold f_X5_odd
  refine lp (fun fu (q : Int32 × Int32) => f_X5_odd_4 s fu q.1 q.2 σ) (fun i => (nI (mk i fun h => decide (pc8 (bes A h) % 2 = 1)), nI i)) 8 (fun i hi fu => ?_) (fun fu => ?_) FU (by unfold FU; omega)
  · have h1 := hbl i
    dsimp only
    rw [f_X5_odd_4]
    by_cases q : pc8 (bes A i) % 2 = 1
    · rw [mk_1 (by rw [decide_eq_true]; exact q)]
      simp (disch := omega) only [e_bnd, e_bndV, e_lt, e_grd, e_lit, e_le1, e_le2, e_lt1, e_lt2, e_eq1, e_eq2, e_inb, e_ix, nI_add, pk_mul, e_sub, e_b0, e_b1, e_bz, e_bz0, e_bz1, Bool.and_true, Bool.true_and, ↓reduceIte, not_true_eq_false, not_false_eq_true, decide_false, decide_true, and_self, and_true, true_and, and_false, false_and, Bool.false_eq_true, Bool.not_false, Bool.not_true, xb, f_bitCount_eq, and1_I, q, sh1, or_I]
    · have q0 : pc8 (bes A i) % 2 = 0 := by omega
      rw [mk_0 (by rw [decide_eq_false]; exact q)]
      simp (disch := omega) only [e_bnd, e_bndV, e_lt, e_grd, e_lit, e_le1, e_le2, e_lt1, e_lt2, e_eq1, e_eq2, e_inb, e_ix, nI_add, pk_mul, e_sub, e_b0, e_b1, e_bz, e_bz0, e_bz1, Bool.and_true, Bool.true_and, ↓reduceIte, not_true_eq_false, not_false_eq_true, decide_false, decide_true, and_self, and_true, true_and, and_false, false_and, Bool.false_eq_true, Bool.not_false, Bool.not_true, xb, f_bitCount_eq, and1_I, q0, sh0, or_I, Nat.or_zero]
  · dsimp only
    rw [f_X5_odd_4]
    simp (disch := omega) only [e_bnd, e_bndV, e_lt, e_grd, e_lit, e_le1, e_le2, e_lt1, e_lt2, e_eq1, e_eq2, e_inb, e_ix, nI_add, pk_mul, e_sub, e_b0, e_b1, e_bz, e_bz0, e_bz1, Bool.and_true, Bool.true_and, ↓reduceIte, not_true_eq_false, not_false_eq_true, decide_false, decide_true, and_self, and_true, true_and, and_false, false_and, Bool.false_eq_true, Bool.not_false, Bool.not_true]
    rfl
theorem m_odd {σ : Sg} {A : Nat → Nat} (hM : MA σ A) (c8 : A 0 ≤ 8) (hR : BR A) : f_X12_odd σ = some (nI (oddA A), σ) := by
  have r0 := hM.1 0 (by decide) (by decide) (by decide)
  have hbl := bes_lt A
  have hp := pc8_le
  unfold f_X12_odd oddA
  rw [← mk_cut c8 (fun i h1 h2 => by rw [bes_0 hR h2 h1, pc8_0]; rfl)]
  refine lp (fun fu (s : Int32 × Int32) => f_X12_odd_4 fu s.1 s.2 σ) (fun i => (nI (mk i fun h => decide (pc8 (bes A h) % 2 = 1)), nI i)) (A 0) (fun i hi fu => ?_) (fun fu => ?_) FU (by unfold FU; omega)
  · have h1 := hbl i
    have h2 := hp (bes A i)
    dsimp only
    rw [f_X12_odd_4]
    by_cases q : pc8 (bes A i) % 2 = 1
    · rw [mk_1 (by rw [decide_eq_true]; exact q)]
      simp (disch := omega) only [e_bnd, e_bndV, e_lt, e_grd, e_lit, e_le1, e_le2, e_lt1, e_lt2, e_eq1, e_eq2, e_inb, e_ix, nI_add, pk_mul, e_sub, e_b0, e_b1, e_bz, e_bz0, e_bz1, Bool.and_true, Bool.true_and, ↓reduceIte, not_true_eq_false, not_false_eq_true, decide_false, decide_true, and_self, and_true, true_and, and_false, false_and, Bool.false_eq_true, Bool.not_false, Bool.not_true, r0, m_beside hM c8 hR, f_bits_eq, rem_I, dz_I, q, f_X12_odd_36, sh1, or_I]
    · rw [mk_0 (by rw [decide_eq_false]; exact q)]
      simp (disch := omega) only [e_bnd, e_bndV, e_lt, e_grd, e_lit, e_le1, e_le2, e_lt1, e_lt2, e_eq1, e_eq2, e_inb, e_ix, nI_add, pk_mul, e_sub, e_b0, e_b1, e_bz, e_bz0, e_bz1, Bool.and_true, Bool.true_and, ↓reduceIte, not_true_eq_false, not_false_eq_true, decide_false, decide_true, and_self, and_true, true_and, and_false, false_and, Bool.false_eq_true, Bool.not_false, Bool.not_true, r0, m_beside hM c8 hR, f_bits_eq, rem_I, dz_I, f_X12_odd_36, or_I, Nat.or_zero]
  · dsimp only
    rw [f_X12_odd_4]
    simp (disch := omega) only [e_bnd, e_bndV, e_lt, e_grd, e_lit, e_le1, e_le2, e_lt1, e_lt2, e_eq1, e_eq2, e_inb, e_ix, nI_add, pk_mul, e_sub, e_b0, e_b1, e_bz, e_bz0, e_bz1, Bool.and_true, Bool.true_and, ↓reduceIte, not_true_eq_false, not_false_eq_true, decide_false, decide_true, and_self, and_true, true_and, and_false, false_and, Bool.false_eq_true, Bool.not_false, Bool.not_true, r0]
theorem s_l' : ∀ n, n < 32 → ((nI n &&& 31).toBitVec.smod 32).toNat = n := by decide +kernel
theorem shr_I {n k : Nat} (hn : n < 2147483648) (hk : k < 32) : shr (nI n) (nI k) = nI (n / 2 ^ k) := by
  unfold shr
  exact pk_shrN hn _ k (s_l' k hk)
theorem and7_I (n : Nat) : nI n &&& nI 7 = nI (n % 8) := by
  rw [and_I]
  congr 1
  exact Nat.and_two_pow_sub_one_eq_mod n 3
theorem rngc (v : Int32) {c : Nat} (hc : c < 1073741824) : ¬ (nI 0 ≤ v ∧ v ≤ nI c - nI 1) ∨ ∃ n, n < c ∧ v = nI n := by
  by_cases h : nI 0 ≤ v ∧ v ≤ nI c - nI 1
  · refine Or.inr ?_
    rcases Nat.eq_zero_or_pos c with q | q
    · subst q
      exact absurd (Int32.le_trans h.1 h.2) (by decide)
    · rw [e_sub (by omega)] at h
      rcases rng v 0 (c - 1) (by decide) (by omega) with g | ⟨n, _, g, e⟩
      · exact absurd h g
      · exact ⟨n, by omega, e⟩
  · exact Or.inl h
theorem g_book {κ : Kd} {T : TD} (v w : Int32) : GO κ T (f_X11_book v w) (f_X12_book v w) := by
  intro σX σM ⟨A, B, I⟩
  have hM := I.2.1
  have b9 := I.1.2.1.1
  have bb := I.1.2.1.2
  have x9 : σX.1 2 9 = nI (A 9) := I.2.2.1.2.1.1
  have x7 : ∀ i, i < 30 → σX.1 7 i = nI (A (1956 + i)) := I.2.2.1.2.1.2
  have r9 := hM.1 9 (by decide) (by decide) (by decide)
  unfold f_X11_book f_X8_hourOf f_X8_houseOf f_X8_whatOf f_X12_book f_X12_book_48 f_X12_book_50 f_X12_entry f_X12_entry_57
  by_cases hm : v = -1
  · refine I.q (r := nI (A 9)) ?_ ?_
    · rw [if_pos hm, x9]
    · rw [if_pos hm]
      simp (disch := omega) only [e_bnd, e_bndV, e_lt, e_grd, e_lit, e_le1, e_le2, e_lt1, e_lt2, e_eq1, e_eq2, e_inb, e_ix, nI_add, pk_mul, e_sub, e_b0, e_b1, e_bz, e_bz0, e_bz1, Bool.and_true, Bool.true_and, ↓reduceIte, not_true_eq_false, not_false_eq_true, decide_false, decide_true, and_self, and_true, true_and, and_false, false_and, Bool.false_eq_true, Bool.not_false, Bool.not_true, r9]
  have hm2 : ¬ v = -nI 1 := hm
  rcases rngc v (c := A 9) (by omega) with hn | ⟨n, hn, rfl⟩
  · refine I.q (r := -2) ?_ ?_
    · simp (disch := omega) only [e_bnd, e_bndV, e_lt, e_grd, e_lit, e_le1, e_le2, e_lt1, e_lt2, e_eq1, e_eq2, e_inb, e_ix, nI_add, pk_mul, e_sub, e_b0, e_b1, e_bz, e_bz0, e_bz1, Bool.and_true, Bool.true_and, ↓reduceIte, not_true_eq_false, not_false_eq_true, decide_false, decide_true, and_self, and_true, true_and, and_false, false_and, Bool.false_eq_true, Bool.not_false, Bool.not_true, hm2, x9, x_within, hn]
    · simp (disch := omega) only [e_bnd, e_bndV, e_lt, e_grd, e_lit, e_le1, e_le2, e_lt1, e_lt2, e_eq1, e_eq2, e_inb, e_ix, nI_add, pk_mul, e_sub, e_b0, e_b1, e_bz, e_bz0, e_bz1, Bool.and_true, Bool.true_and, ↓reduceIte, not_true_eq_false, not_false_eq_true, decide_false, decide_true, and_self, and_true, true_and, and_false, false_and, Bool.false_eq_true, Bool.not_false, Bool.not_true, hm2, r9, m_isIn, hn]
  have y7 := x7 n (by omega)
  have rn := hM.1 (1956 + n) (by omega) (by omega) (by omega)
  have bn := bb n (by omega)
  have hdv : A (1956 + n) / 8 < 2147483648 := Nat.lt_of_le_of_lt (Nat.div_le_self _ _) (by omega)
  rcases rng w 0 2 (by decide) (by decide) with hw | ⟨k, _, hk, rfl⟩
  · have hne : ∀ k, k ≤ 2 → ¬ w = nI k := fun k hk q => hw (by subst q; exact ⟨nI_pos' (by omega), nI_le hk (by decide)⟩)
    have n0 := hne 0 (by decide)
    have n1 := hne 1 (by decide)
    have n2 := hne 2 (by decide)
    refine I.q (r := -2) ?_ ?_
    · simp (disch := omega) only [e_bnd, e_bndV, e_lt, e_grd, e_lit, e_le1, e_le2, e_lt1, e_lt2, e_eq1, e_eq2, e_inb, e_ix, nI_add, pk_mul, e_sub, e_b0, e_b1, e_bz, e_bz0, e_bz1, Bool.and_true, Bool.true_and, ↓reduceIte, not_true_eq_false, not_false_eq_true, decide_false, decide_true, and_self, and_true, true_and, and_false, false_and, Bool.false_eq_true, Bool.not_false, Bool.not_true, hm2, x9, x_within, n0, n1, n2]
    · simp (disch := omega) only [e_bnd, e_bndV, e_lt, e_grd, e_lit, e_le1, e_le2, e_lt1, e_lt2, e_eq1, e_eq2, e_inb, e_ix, nI_add, pk_mul, e_sub, e_b0, e_b1, e_bz, e_bz0, e_bz1, Bool.and_true, Bool.true_and, ↓reduceIte, not_true_eq_false, not_false_eq_true, decide_false, decide_true, and_self, and_true, true_and, and_false, false_and, Bool.false_eq_true, Bool.not_false, Bool.not_true, hm2, r9, m_isIn, hw]
  · have : k = 0 ∨ k = 1 ∨ k = 2 := by omega
    rcases this with rfl | rfl | rfl
    · refine I.q (r := nI (A (1956 + n) / 64)) ?_ ?_
      · simp (disch := omega) only [e_bnd, e_bndV, e_lt, e_grd, e_lit, e_le1, e_le2, e_lt1, e_lt2, e_eq1, e_eq2, e_inb, e_ix, nI_add, pk_mul, e_sub, e_b0, e_b1, e_bz, e_bz0, e_bz1, Bool.and_true, Bool.true_and, ↓reduceIte, not_true_eq_false, not_false_eq_true, decide_false, decide_true, and_self, and_true, true_and, and_false, false_and, Bool.false_eq_true, Bool.not_false, Bool.not_true, hm2, x9, x_within, y7, shr_I]
      · simp (disch := omega) only [e_bnd, e_bndV, e_lt, e_grd, e_lit, e_le1, e_le2, e_lt1, e_lt2, e_eq1, e_eq2, e_inb, e_ix, nI_add, pk_mul, e_sub, e_b0, e_b1, e_bz, e_bz0, e_bz1, Bool.and_true, Bool.true_and, ↓reduceIte, not_true_eq_false, not_false_eq_true, decide_false, decide_true, and_self, and_true, true_and, and_false, false_and, Bool.false_eq_true, Bool.not_false, Bool.not_true, hm2, r9, m_isIn, dz_I, rn, pk_div]
    · refine I.q (r := nI (A (1956 + n) / 8 % 8)) ?_ ?_
      · simp (disch := omega) only [e_bnd, e_bndV, e_lt, e_grd, e_lit, e_le1, e_le2, e_lt1, e_lt2, e_eq1, e_eq2, e_inb, e_ix, nI_add, pk_mul, e_sub, e_b0, e_b1, e_bz, e_bz0, e_bz1, Bool.and_true, Bool.true_and, ↓reduceIte, not_true_eq_false, not_false_eq_true, decide_false, decide_true, and_self, and_true, true_and, and_false, false_and, Bool.false_eq_true, Bool.not_false, Bool.not_true, hm2, x9, x_within, y7, shr_I, and7_I]
      · simp (disch := omega) only [e_bnd, e_bndV, e_lt, e_grd, e_lit, e_le1, e_le2, e_lt1, e_lt2, e_eq1, e_eq2, e_inb, e_ix, nI_add, pk_mul, e_sub, e_b0, e_b1, e_bz, e_bz0, e_bz1, Bool.and_true, Bool.true_and, ↓reduceIte, not_true_eq_false, not_false_eq_true, decide_false, decide_true, and_self, and_true, true_and, and_false, false_and, Bool.false_eq_true, Bool.not_false, Bool.not_true, hm2, r9, m_isIn, dz_I, rn, pk_div, rem_I]
    · refine I.q (r := nI (A (1956 + n) % 8)) ?_ ?_
      · simp (disch := omega) only [e_bnd, e_bndV, e_lt, e_grd, e_lit, e_le1, e_le2, e_lt1, e_lt2, e_eq1, e_eq2, e_inb, e_ix, nI_add, pk_mul, e_sub, e_b0, e_b1, e_bz, e_bz0, e_bz1, Bool.and_true, Bool.true_and, ↓reduceIte, not_true_eq_false, not_false_eq_true, decide_false, decide_true, and_self, and_true, true_and, and_false, false_and, Bool.false_eq_true, Bool.not_false, Bool.not_true, hm2, x9, x_within, y7, and7_I]
      · simp (disch := omega) only [e_bnd, e_bndV, e_lt, e_grd, e_lit, e_le1, e_le2, e_lt1, e_lt2, e_eq1, e_eq2, e_inb, e_ix, nI_add, pk_mul, e_sub, e_b0, e_b1, e_bz, e_bz0, e_bz1, Bool.and_true, Bool.true_and, ↓reduceIte, not_true_eq_false, not_false_eq_true, decide_false, decide_true, and_self, and_true, true_and, and_false, false_and, Bool.false_eq_true, Bool.not_false, Bool.not_true, hm2, r9, m_isIn, dz_I, rn, rem_I]
def cnt (p : Nat → Bool) : Nat → Nat
  | 0 => 0
  | i + 1 => cnt p i + if p i then 1 else 0
theorem cnt_1 {p : Nat → Bool} {i : Nat} (h : p i = true) : cnt p (i + 1) = cnt p i + 1 := by
  show cnt p i + _ = _
  rw [if_pos h]
theorem cnt_0 {p : Nat → Bool} {i : Nat} (h : p i = false) : cnt p (i + 1) = cnt p i := by
  show cnt p i + _ = _
  rw [if_neg (by rw [h]; decide), Nat.add_zero]
theorem cnt_le (p : Nat → Bool) (i : Nat) : cnt p i ≤ i := by
  induction i with
  | zero => exact Nat.le_refl _
  | succ i ih =>
    show cnt p i + _ ≤ _
    split <;> omega
theorem g_befell {κ : Kd} {T : TD} (v w : Int32) : GO κ T (f_X11_befell v w) (f_X12_befell v w) := by
  intro σX σM ⟨A, B, I⟩
  have hM := I.2.1
  have b9 := I.1.2.1.1
  have bb := I.1.2.1.2
  have x9 : σX.1 2 9 = nI (A 9) := I.2.2.1.2.1.1
  have x7 : ∀ i, i < 30 → σX.1 7 i = nI (A (1956 + i)) := I.2.2.1.2.1.2
  have r9 := hM.1 9 (by decide) (by decide) (by decide)
  have key : ∀ (h : Nat) (k : Nat), k ≤ 5 → (v = -nI 1 ∨ (v = nI h ∧ h < 8 ∧ ¬ v = -nI 1)) → f_X11_befell_36 FU v (nI k) (nI 0) (nI 0) σX = some (nI (cnt (fun i => decide (A (1956 + i) % 8 = k ∧ (v = -nI 1 ∨ A (1956 + i) / 8 % 8 = h))) (A 9)), σX) ∧ f_X12_befell_30 FU v (nI k) (nI 0) (nI 0) σM = some (nI (cnt (fun i => decide (A (1956 + i) % 8 = k ∧ (v = -nI 1 ∨ A (1956 + i) / 8 % 8 = h))) (A 9)), σM) := by
    intro h k hk hv
    obtain ⟨p, hp⟩ : ∃ p : Nat → Bool, p = fun i => decide (A (1956 + i) % 8 = k ∧ (v = -nI 1 ∨ A (1956 + i) / 8 % 8 = h)) := ⟨_, rfl⟩
    rw [← hp]
    refine ⟨?_, ?_⟩
    · refine lp (fun fu (s : Int32 × Int32) => f_X11_befell_36 fu v (nI k) s.1 s.2 σX) (fun i => (nI (cnt p i), nI i)) (A 9) (fun i hi fu => ?_) (fun fu => ?_) FU (by unfold FU; omega)
      · have y7 := x7 i (by omega)
        have bn := bb i (by omega)
        have hdv : A (1956 + i) / 8 < 2147483648 := Nat.lt_of_le_of_lt (Nat.div_le_self _ _) (by omega)
        dsimp only
        rw [f_X11_befell_36]
        by_cases q : A (1956 + i) % 8 = k
        · rcases hv with hv | ⟨hv, h8, hv2⟩
          · rw [cnt_1 (p := p) (by rw [hp]; simp [q, hv])]
            simp (disch := omega) only [e_bnd, e_bndV, e_lt, e_grd, e_lit, e_le1, e_le2, e_lt1, e_lt2, e_eq1, e_eq2, e_inb, e_ix, nI_add, pk_mul, e_sub, e_b0, e_b1, e_bz, e_bz0, e_bz1, Bool.and_true, Bool.true_and, ↓reduceIte, not_true_eq_false, not_false_eq_true, decide_false, decide_true, and_self, and_true, true_and, and_false, false_and, Bool.false_eq_true, Bool.not_false, Bool.not_true, x9, y7, f_X8_whatOf, and7_I, q, hv, f_X11_befell_89, f_X11_befell_92]
          · by_cases q2 : A (1956 + i) / 8 % 8 = h
            · rw [cnt_1 (p := p) (by rw [hp]; simp [q, q2])]
              subst hv
              simp (disch := omega) only [e_bnd, e_bndV, e_lt, e_grd, e_lit, e_le1, e_le2, e_lt1, e_lt2, e_eq1, e_eq2, e_inb, e_ix, nI_add, pk_mul, e_sub, e_b0, e_b1, e_bz, e_bz0, e_bz1, Bool.and_true, Bool.true_and, ↓reduceIte, not_true_eq_false, not_false_eq_true, decide_false, decide_true, and_self, and_true, true_and, and_false, false_and, Bool.false_eq_true, Bool.not_false, Bool.not_true, x9, y7, f_X8_whatOf, f_X8_houseOf, and7_I, q, hv2, shr_I, show (2 : Nat) ^ 3 = 8 from rfl, q2, f_X11_befell_89, f_X11_befell_92]
            · rw [cnt_0 (p := p) (by rw [hp]; simp [q, q2, hv2])]
              subst hv
              simp (disch := omega) only [e_bnd, e_bndV, e_lt, e_grd, e_lit, e_le1, e_le2, e_lt1, e_lt2, e_eq1, e_eq2, e_inb, e_ix, nI_add, pk_mul, e_sub, e_b0, e_b1, e_bz, e_bz0, e_bz1, Bool.and_true, Bool.true_and, ↓reduceIte, not_true_eq_false, not_false_eq_true, decide_false, decide_true, and_self, and_true, true_and, and_false, false_and, Bool.false_eq_true, Bool.not_false, Bool.not_true, x9, y7, f_X8_whatOf, f_X8_houseOf, and7_I, q, hv2, shr_I, show (2 : Nat) ^ 3 = 8 from rfl, f_X11_befell_89, f_X11_befell_92]
        · rw [cnt_0 (p := p) (by rw [hp]; simp [q])]
          simp (disch := omega) only [e_bnd, e_bndV, e_lt, e_grd, e_lit, e_le1, e_le2, e_lt1, e_lt2, e_eq1, e_eq2, e_inb, e_ix, nI_add, pk_mul, e_sub, e_b0, e_b1, e_bz, e_bz0, e_bz1, Bool.and_true, Bool.true_and, ↓reduceIte, not_true_eq_false, not_false_eq_true, decide_false, decide_true, and_self, and_true, true_and, and_false, false_and, Bool.false_eq_true, Bool.not_false, Bool.not_true, x9, y7, f_X8_whatOf, and7_I, f_X11_befell_92]
      · dsimp only
        rw [f_X11_befell_36]
        simp (disch := omega) only [e_bnd, e_bndV, e_lt, e_grd, e_lit, e_le1, e_le2, e_lt1, e_lt2, e_eq1, e_eq2, e_inb, e_ix, nI_add, pk_mul, e_sub, e_b0, e_b1, e_bz, e_bz0, e_bz1, Bool.and_true, Bool.true_and, ↓reduceIte, not_true_eq_false, not_false_eq_true, decide_false, decide_true, and_self, and_true, true_and, and_false, false_and, Bool.false_eq_true, Bool.not_false, Bool.not_true, x9]
    · refine lp (fun fu (s : Int32 × Int32) => f_X12_befell_30 fu v (nI k) s.1 s.2 σM) (fun i => (nI (cnt p i), nI i)) (A 9) (fun i hi fu => ?_) (fun fu => ?_) FU (by unfold FU; omega)
      · have rn := hM.1 (1956 + i) (by omega) (by omega) (by omega)
        have bn := bb i (by omega)
        have hdv : A (1956 + i) / 8 < 2147483648 := Nat.lt_of_le_of_lt (Nat.div_le_self _ _) (by omega)
        dsimp only
        rw [f_X12_befell_30]
        by_cases q : A (1956 + i) % 8 = k
        · rcases hv with hv | ⟨hv, h8, hv2⟩
          · rw [cnt_1 (p := p) (by rw [hp]; simp [q, hv])]
            simp (disch := omega) only [e_bnd, e_bndV, e_lt, e_grd, e_lit, e_le1, e_le2, e_lt1, e_lt2, e_eq1, e_eq2, e_inb, e_ix, nI_add, pk_mul, e_sub, e_b0, e_b1, e_bz, e_bz0, e_bz1, Bool.and_true, Bool.true_and, ↓reduceIte, not_true_eq_false, not_false_eq_true, decide_false, decide_true, and_self, and_true, true_and, and_false, false_and, Bool.false_eq_true, Bool.not_false, Bool.not_true, r9, rn, f_X12_entry, f_X12_entry_57, dz_I, rem_I, q, hv, f_X12_befell_70, f_X12_befell_75]
          · by_cases q2 : A (1956 + i) / 8 % 8 = h
            · rw [cnt_1 (p := p) (by rw [hp]; simp [q, q2])]
              subst hv
              simp (disch := omega) only [e_bnd, e_bndV, e_lt, e_grd, e_lit, e_le1, e_le2, e_lt1, e_lt2, e_eq1, e_eq2, e_inb, e_ix, nI_add, pk_mul, e_sub, e_b0, e_b1, e_bz, e_bz0, e_bz1, Bool.and_true, Bool.true_and, ↓reduceIte, not_true_eq_false, not_false_eq_true, decide_false, decide_true, and_self, and_true, true_and, and_false, false_and, Bool.false_eq_true, Bool.not_false, Bool.not_true, r9, rn, f_X12_entry, f_X12_entry_57, dz_I, rem_I, pk_div, q, hv2, q2, f_X12_befell_70, f_X12_befell_75]
            · rw [cnt_0 (p := p) (by rw [hp]; simp [q, q2, hv2])]
              subst hv
              simp (disch := omega) only [e_bnd, e_bndV, e_lt, e_grd, e_lit, e_le1, e_le2, e_lt1, e_lt2, e_eq1, e_eq2, e_inb, e_ix, nI_add, pk_mul, e_sub, e_b0, e_b1, e_bz, e_bz0, e_bz1, Bool.and_true, Bool.true_and, ↓reduceIte, not_true_eq_false, not_false_eq_true, decide_false, decide_true, and_self, and_true, true_and, and_false, false_and, Bool.false_eq_true, Bool.not_false, Bool.not_true, r9, rn, f_X12_entry, f_X12_entry_57, dz_I, rem_I, pk_div, q, hv2, f_X12_befell_74, f_X12_befell_75, Nat.add_zero]
        · rw [cnt_0 (p := p) (by rw [hp]; simp [q])]
          simp (disch := omega) only [e_bnd, e_bndV, e_lt, e_grd, e_lit, e_le1, e_le2, e_lt1, e_lt2, e_eq1, e_eq2, e_inb, e_ix, nI_add, pk_mul, e_sub, e_b0, e_b1, e_bz, e_bz0, e_bz1, Bool.and_true, Bool.true_and, ↓reduceIte, not_true_eq_false, not_false_eq_true, decide_false, decide_true, and_self, and_true, true_and, and_false, false_and, Bool.false_eq_true, Bool.not_false, Bool.not_true, r9, rn, f_X12_entry, f_X12_entry_57, dz_I, rem_I, f_X12_befell_74, f_X12_befell_75, Nat.add_zero]
      · dsimp only
        rw [f_X12_befell_30]
        simp (disch := omega) only [e_bnd, e_bndV, e_lt, e_grd, e_lit, e_le1, e_le2, e_lt1, e_lt2, e_eq1, e_eq2, e_inb, e_ix, nI_add, pk_mul, e_sub, e_b0, e_b1, e_bz, e_bz0, e_bz1, Bool.and_true, Bool.true_and, ↓reduceIte, not_true_eq_false, not_false_eq_true, decide_false, decide_true, and_self, and_true, true_and, and_false, false_and, Bool.false_eq_true, Bool.not_false, Bool.not_true, r9]
  unfold f_X11_befell f_X11_befell_19 f_X11_befell_28 f_X12_befell f_X12_befell_13 f_X12_befell_22
  rcases rng w 0 5 (by decide) (by decide) with hw | ⟨k, _, hk, rfl⟩
  · by_cases hm : v = -nI 1
    · refine I.q (r := -2) ?_ ?_
      · simp (disch := omega) only [e_bnd, e_bndV, e_lt, e_grd, e_lit, e_le1, e_le2, e_lt1, e_lt2, e_eq1, e_eq2, e_inb, e_ix, nI_add, pk_mul, e_sub, e_b0, e_b1, e_bz, e_bz0, e_bz1, Bool.and_true, Bool.true_and, ↓reduceIte, not_true_eq_false, not_false_eq_true, decide_false, decide_true, and_self, and_true, true_and, and_false, false_and, Bool.false_eq_true, Bool.not_false, Bool.not_true, hm, x_within, hw]
      · simp (disch := omega) only [e_bnd, e_bndV, e_lt, e_grd, e_lit, e_le1, e_le2, e_lt1, e_lt2, e_eq1, e_eq2, e_inb, e_ix, nI_add, pk_mul, e_sub, e_b0, e_b1, e_bz, e_bz0, e_bz1, Bool.and_true, Bool.true_and, ↓reduceIte, not_true_eq_false, not_false_eq_true, decide_false, decide_true, and_self, and_true, true_and, and_false, false_and, Bool.false_eq_true, Bool.not_false, Bool.not_true, hm, m_isIn, hw]
    · rcases I.told v with ⟨e1, e2, _⟩ | ⟨h, hh, rfl, e1, e2⟩
      · refine I.q (r := -2) ?_ ?_
        · simp (disch := omega) only [e_bnd, e_bndV, e_lt, e_grd, e_lit, e_le1, e_le2, e_lt1, e_lt2, e_eq1, e_eq2, e_inb, e_ix, nI_add, pk_mul, e_sub, e_b0, e_b1, e_bz, e_bz0, e_bz1, Bool.and_true, Bool.true_and, ↓reduceIte, not_true_eq_false, not_false_eq_true, decide_false, decide_true, and_self, and_true, true_and, and_false, false_and, Bool.false_eq_true, Bool.not_false, Bool.not_true, hm, e1]
        · simp (disch := omega) only [e_bnd, e_bndV, e_lt, e_grd, e_lit, e_le1, e_le2, e_lt1, e_lt2, e_eq1, e_eq2, e_inb, e_ix, nI_add, pk_mul, e_sub, e_b0, e_b1, e_bz, e_bz0, e_bz1, Bool.and_true, Bool.true_and, ↓reduceIte, not_true_eq_false, not_false_eq_true, decide_false, decide_true, and_self, and_true, true_and, and_false, false_and, Bool.false_eq_true, Bool.not_false, Bool.not_true, hm, e2]
      · refine I.q (r := -2) ?_ ?_
        · simp (disch := omega) only [e_bnd, e_bndV, e_lt, e_grd, e_lit, e_le1, e_le2, e_lt1, e_lt2, e_eq1, e_eq2, e_inb, e_ix, nI_add, pk_mul, e_sub, e_b0, e_b1, e_bz, e_bz0, e_bz1, Bool.and_true, Bool.true_and, ↓reduceIte, not_true_eq_false, not_false_eq_true, decide_false, decide_true, and_self, and_true, true_and, and_false, false_and, Bool.false_eq_true, Bool.not_false, Bool.not_true, hm, e1, x_within, hw]
        · simp (disch := omega) only [e_bnd, e_bndV, e_lt, e_grd, e_lit, e_le1, e_le2, e_lt1, e_lt2, e_eq1, e_eq2, e_inb, e_ix, nI_add, pk_mul, e_sub, e_b0, e_b1, e_bz, e_bz0, e_bz1, Bool.and_true, Bool.true_and, ↓reduceIte, not_true_eq_false, not_false_eq_true, decide_false, decide_true, and_self, and_true, true_and, and_false, false_and, Bool.false_eq_true, Bool.not_false, Bool.not_true, hm, e2, m_isIn, hw]
  · by_cases hm : v = -nI 1
    · obtain ⟨k1, k2⟩ := key 0 k hk (Or.inl hm)
      refine I.q (r := nI (cnt (fun i => decide (A (1956 + i) % 8 = k ∧ (v = -nI 1 ∨ A (1956 + i) / 8 % 8 = 0))) (A 9))) ?_ ?_
      · rw [← k1]
        simp (disch := omega) only [e_bnd, e_bndV, e_lt, e_grd, e_lit, e_le1, e_le2, e_lt1, e_lt2, e_eq1, e_eq2, e_inb, e_ix, nI_add, pk_mul, e_sub, e_b0, e_b1, e_bz, e_bz0, e_bz1, Bool.and_true, Bool.true_and, ↓reduceIte, not_true_eq_false, not_false_eq_true, decide_false, decide_true, and_self, and_true, true_and, and_false, false_and, Bool.false_eq_true, Bool.not_false, Bool.not_true, hm, x_within]
      · rw [← k2]
        simp (disch := omega) only [e_bnd, e_bndV, e_lt, e_grd, e_lit, e_le1, e_le2, e_lt1, e_lt2, e_eq1, e_eq2, e_inb, e_ix, nI_add, pk_mul, e_sub, e_b0, e_b1, e_bz, e_bz0, e_bz1, Bool.and_true, Bool.true_and, ↓reduceIte, not_true_eq_false, not_false_eq_true, decide_false, decide_true, and_self, and_true, true_and, and_false, false_and, Bool.false_eq_true, Bool.not_false, Bool.not_true, hm, m_isIn]
    · rcases I.told v with ⟨e1, e2, _⟩ | ⟨h, hh, rfl, e1, e2⟩
      · refine I.q (r := -2) ?_ ?_
        · simp (disch := omega) only [e_bnd, e_bndV, e_lt, e_grd, e_lit, e_le1, e_le2, e_lt1, e_lt2, e_eq1, e_eq2, e_inb, e_ix, nI_add, pk_mul, e_sub, e_b0, e_b1, e_bz, e_bz0, e_bz1, Bool.and_true, Bool.true_and, ↓reduceIte, not_true_eq_false, not_false_eq_true, decide_false, decide_true, and_self, and_true, true_and, and_false, false_and, Bool.false_eq_true, Bool.not_false, Bool.not_true, hm, e1]
        · simp (disch := omega) only [e_bnd, e_bndV, e_lt, e_grd, e_lit, e_le1, e_le2, e_lt1, e_lt2, e_eq1, e_eq2, e_inb, e_ix, nI_add, pk_mul, e_sub, e_b0, e_b1, e_bz, e_bz0, e_bz1, Bool.and_true, Bool.true_and, ↓reduceIte, not_true_eq_false, not_false_eq_true, decide_false, decide_true, and_self, and_true, true_and, and_false, false_and, Bool.false_eq_true, Bool.not_false, Bool.not_true, hm, e2]
      · have c8 := I.1.1.1
        obtain ⟨k1, k2⟩ := key h k hk (Or.inr ⟨rfl, by omega, hm⟩)
        refine I.q (r := nI (cnt (fun i => decide (A (1956 + i) % 8 = k ∧ (nI h = -nI 1 ∨ A (1956 + i) / 8 % 8 = h))) (A 9))) ?_ ?_
        · rw [← k1]
          simp (disch := omega) only [e_bnd, e_bndV, e_lt, e_grd, e_lit, e_le1, e_le2, e_lt1, e_lt2, e_eq1, e_eq2, e_inb, e_ix, nI_add, pk_mul, e_sub, e_b0, e_b1, e_bz, e_bz0, e_bz1, Bool.and_true, Bool.true_and, ↓reduceIte, not_true_eq_false, not_false_eq_true, decide_false, decide_true, and_self, and_true, true_and, and_false, false_and, Bool.false_eq_true, Bool.not_false, Bool.not_true, hm, e1, x_within]
        · rw [← k2]
          simp (disch := omega) only [e_bnd, e_bndV, e_lt, e_grd, e_lit, e_le1, e_le2, e_lt1, e_lt2, e_eq1, e_eq2, e_inb, e_ix, nI_add, pk_mul, e_sub, e_b0, e_b1, e_bz, e_bz0, e_bz1, Bool.and_true, Bool.true_and, ↓reduceIte, not_true_eq_false, not_false_eq_true, decide_false, decide_true, and_self, and_true, true_and, and_false, false_and, Bool.false_eq_true, Bool.not_false, Bool.not_true, hm, e2, m_isIn]
