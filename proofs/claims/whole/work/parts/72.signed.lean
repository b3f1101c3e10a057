/-! numbers with a sign -/
def iI (z : Int) : Int32 := Int32.ofInt z
def iL (z : Int) : Int64 := Int64.ofInt z
theorem iI_n (n : Nat) : iI (n : Int) = nI n := Int32.ofInt_eq_ofNat
theorem iI_t {z : Int} (h : -2147483648 ≤ z ∧ z < 2147483648) : (iI z).toInt = z := Int32.toInt_ofInt_of_le (by omega) (by omega)
theorem iL_t {z : Int} (h : -4611686018427387904 ≤ z ∧ z < 4611686018427387904) : (iL z).toInt = z := Int64.toInt_ofInt_of_le (by omega) (by omega)
theorem iL_add (a b : Int) : iL a + iL b = iL (a + b) := (Int64.ofInt_add a b).symm
theorem iL_sub (a b : Int) : iL a - iL b = iL (a - b) := (Int64.ofInt_sub a b).symm
theorem iL_mul (a b : Int) : iL a * iL b = iL (a * b) := (Int64.ofInt_mul a b).symm
theorem iL_neg (a : Int) : -iL a = iL (-a) := (Int64.ofInt_neg a).symm
theorem iI_add (a b : Int) : iI a + iI b = iI (a + b) := (Int32.ofInt_add a b).symm
theorem iI_sub (a b : Int) : iI a - iI b = iI (a - b) := (Int32.ofInt_sub a b).symm
theorem iI_neg (a : Int) : -iI a = iI (-a) := (Int32.ofInt_neg a).symm
theorem iL_div {a b : Int} (ha : -4611686018427387904 ≤ a ∧ a < 4611686018427387904) (hb : -4611686018427387904 ≤ b ∧ b < 4611686018427387904) : iL a / iL b = iL (a.tdiv b) := by
  refine (Int64.ofInt_tdiv ?_ ?_ ?_ ?_).symm
  all_goals first | (show (-9223372036854775808 : Int) ≤ _; omega) | (show _ ≤ (9223372036854775807 : Int); omega)
theorem iI_div {a b : Int} (ha : -2147483648 ≤ a ∧ a < 2147483648) (hb : -2147483648 ≤ b ∧ b < 2147483648) : iI a / iI b = iI (a.tdiv b) := by
  refine (Int32.ofInt_tdiv ?_ ?_ ?_ ?_).symm
  all_goals first | (show (-2147483648 : Int) ≤ _; omega) | (show _ ≤ (2147483647 : Int); omega)
theorem iI_l {z : Int} (h : -2147483648 ≤ z ∧ z < 2147483648) : (iI z).toInt64 = iL z := by
  apply Int64.toInt_inj.mp
  rw [Int32.toInt_toInt64, iI_t h, iL_t (by omega)]
theorem iL_i {z : Int} (h : -2147483648 ≤ z ∧ z < 2147483648) : (iL z).toInt32 = iI z := by
  apply Int32.toInt_inj.mp
  rw [Int64.toInt_toInt32, iI_t h, iL_t (by omega)]
  exact Int.bmod_eq_of_le (by omega) (by omega)
theorem nI_lL {n : Nat} (h : n < 2147483648) : (nI n).toInt64 = iL n := by rw [← iI_n, iI_l (by omega)]
theorem iL_lit (n : Nat) : (OfNat.ofNat n : Int64) = iL n := Eq.trans (show Int64.ofNat n = _ from (Int64.ofInt_eq_ofNat).symm) rfl
theorem iL_le {a b : Int} (ha : -4611686018427387904 ≤ a ∧ a < 4611686018427387904) (hb : -4611686018427387904 ≤ b ∧ b < 4611686018427387904) : (iL a ≤ iL b) = (a ≤ b) := by
  rw [Int64.le_iff_toInt_le, iL_t ha, iL_t hb]
theorem iL_lt {a b : Int} (ha : -4611686018427387904 ≤ a ∧ a < 4611686018427387904) (hb : -4611686018427387904 ≤ b ∧ b < 4611686018427387904) : (iL a < iL b) = (a < b) := by
  rw [Int64.lt_iff_toInt_lt, iL_t ha, iL_t hb]
theorem iL_eq {a b : Int} (ha : -4611686018427387904 ≤ a ∧ a < 4611686018427387904) (hb : -4611686018427387904 ≤ b ∧ b < 4611686018427387904) : (iL a = iL b) = (a = b) := by
  rw [← Int64.toInt_inj, iL_t ha, iL_t hb]
theorem iI_le {a b : Int} (ha : -2147483648 ≤ a ∧ a < 2147483648) (hb : -2147483648 ≤ b ∧ b < 2147483648) : (iI a ≤ iI b) = (a ≤ b) := by
  rw [Int32.le_iff_toInt_le, iI_t ha, iI_t hb]
theorem iI_lt {a b : Int} (ha : -2147483648 ≤ a ∧ a < 2147483648) (hb : -2147483648 ≤ b ∧ b < 2147483648) : (iI a < iI b) = (a < b) := by
  rw [Int32.lt_iff_toInt_lt, iI_t ha, iI_t hb]
theorem iI_eq {a b : Int} (ha : -2147483648 ≤ a ∧ a < 2147483648) (hb : -2147483648 ≤ b ∧ b < 2147483648) : (iI a = iI b) = (a = b) := by
  rw [← Int32.toInt_inj, iI_t ha, iI_t hb]
theorem cmp_ge {x y : Int64} : (nI 0 ≤ lg_cmp x y) = (y ≤ x) := by
  unfold lg_cmp
  by_cases h : x > y
  · rw [if_pos h]
    exact propext ⟨fun _ => Int64.le_of_lt h, fun _ => by decide⟩
  · rw [if_neg h]
    by_cases h2 : x = y
    · rw [if_pos h2]
      subst h2
      exact propext ⟨fun _ => Int64.le_refl _, fun _ => by decide⟩
    · rw [if_neg h2]
      refine propext ⟨fun q => absurd q (by decide), fun q => ?_⟩
      exact absurd (Int64.lt_of_le_of_ne q (fun e => h2 e.symm)) h
theorem cmp_le {x y : Int64} : (lg_cmp x y ≤ nI 0) = (x ≤ y) := by
  unfold lg_cmp
  by_cases h : x > y
  · rw [if_pos h]
    exact propext ⟨fun q => absurd q (by decide), fun q => absurd h (Int64.not_lt.mpr q)⟩
  · rw [if_neg h]
    have h3 : x ≤ y := Int64.not_lt.mp h
    by_cases h2 : x = y
    · rw [if_pos h2]
      exact propext ⟨fun _ => h3, fun _ => by decide⟩
    · rw [if_neg h2]
      exact propext ⟨fun _ => h3, fun _ => by decide⟩
theorem cmp_lt {x y : Int64} : (lg_cmp x y < nI 0) = (x < y) := by
  rw [← Int32.not_le, cmp_ge, Int64.not_le]
theorem cmp_gt {x y : Int64} : (nI 0 < lg_cmp x y) = (y < x) := by
  rw [← Int32.not_le, cmp_le, Int64.not_le]
theorem cmp_eq {x y : Int64} : (lg_cmp x y = nI 0) = (x = y) := by
  unfold lg_cmp
  by_cases h : x > y
  · rw [if_pos h]
    exact propext ⟨fun q => absurd q (by decide), fun q => absurd h (by rw [q]; exact fun z => Int64.lt_irrefl z)⟩
  · rw [if_neg h]
    by_cases h2 : x = y
    · rw [if_pos h2]
      exact propext ⟨fun _ => h2, fun _ => rfl⟩
    · rw [if_neg h2]
      exact propext ⟨fun q => absurd q (by decide), fun q => absurd q h2⟩
theorem m_cut {z : Int} {m : Nat} (hz : -4611686018427387904 ≤ z ∧ z < 4611686018427387904) (hm : m < 2147483648) (σ : Sg) : f_X12_cut (iL z) (nI 0) (nI m) σ = some (nI (min z.toNat m), σ) := by
  unfold f_X12_cut f_X12_cut_24
  by_cases h0 : 0 ≤ z
  · by_cases h1 : z ≤ (m : Int)
    · simp (disch := omega) only [e_lit, cmp_ge, cmp_le, nI_lL, iL_le, ↓reduceIte, h0, h1, Int.natCast_zero, iL_i]
      rw [show (min z.toNat m) = z.toNat by omega, ← iI_n, show ((z.toNat : Nat) : Int) = z by omega]
    · simp (disch := omega) only [e_lit, cmp_ge, cmp_le, nI_lL, iL_le, ↓reduceIte, h0, h1, Int.natCast_zero]
      rw [show (min z.toNat m) = m by omega]
  · simp (disch := omega) only [e_lit, cmp_ge, cmp_le, nI_lL, iL_le, ↓reduceIte, h0, Int.natCast_zero]
    rw [show (min z.toNat m) = 0 by omega]
theorem sub_il {a b : Nat} (ha : a < 1073741824) (hb : b < 1073741824) : (nI a - nI b).toInt64 = iL ((a : Int) - b) := by
  rw [← iI_n, ← iI_n, iI_sub, iI_l (by omega)]
theorem m_cutS {a b m : Nat} (ha : a < 1073741824) (hb : b < 1073741824) (hm : m < 2147483648) (σ : Sg) : f_X12_cut (nI a - nI b).toInt64 (nI 0) (nI m) σ = some (nI (min (a - b) m), σ) := by
  rw [sub_il ha hb, m_cut (by omega) hm, show ((a : Int) - b).toNat = a - b by omega]
theorem m_cutN {a m : Nat} (ha : a < 2147483648) (hm : m < 2147483648) (σ : Sg) : f_X12_cut (nI a).toInt64 (nI 0) (nI m) σ = some (nI (min a m), σ) := by
  rw [nI_lL ha, m_cut (by omega) hm, show ((a : Int)).toNat = a by omega]
theorem m_anew {σ : Sg} {A : Nat → Nat} (hM : MA σ A) (h8 : A 8 < 30497) : f_X12_anew σ = some (wI σ 1 8 (nI (nxt (A 8)))) := by
  have r8 := hM.1 8 (by decide) (by decide) (by decide)
  have e : Int64.toInt32 (jlrem (Int32.toInt64 (nI (A 8)) * 397 + 277) 30497) = nI (nxt (A 8)) := by
    unfold jlrem
    rw [nI_lL (by omega), iL_lit 397, iL_lit 277, iL_lit 30497, iL_mul, iL_add, iL_div (by omega) (by omega), iL_mul, iL_sub]
    unfold nxt
    rw [show ((A 8 : Int) * ((397 : Nat) : Int) + ((277 : Nat) : Int)) = ((A 8 * 397 + 277 : Nat) : Int) by omega, ← iI_n, show ((A 8 * 397 + 277 : Nat) : Int).tdiv ((30497 : Nat) : Int) = (((A 8 * 397 + 277) / 30497 : Nat) : Int) from (Int.ofNat_tdiv _ _).symm]
    rw [show (((A 8 * 397 + 277 : Nat) : Int) - (((A 8 * 397 + 277) / 30497 : Nat) : Int) * ((30497 : Nat) : Int)) = (((A 8 * 397 + 277) % 30497 : Nat) : Int) by omega]
    exact iL_i (by omega)
  unfold f_X12_anew
  have d : (!decide ((30497 : Int64) = 0)) = true := by decide
  rw [d]
  rw [grd_of (by decide), e_lt]
  show some (wI σ 1 8 (Int64.toInt32 (jlrem (Int32.toInt64 (σ.1 1 8) * 397 + 277) 30497))) = _
  rw [r8, e]
theorem m_drawn {σ : Sg} {A : Nat → Nat} (hM : MA σ A) (h8 : A 8 < 30497) : f_X12_drawn σ = some (nI (A 8 % 10), wI σ 1 8 (nI (nxt (A 8)))) := by
  have r8 := hM.1 8 (by decide) (by decide) (by decide)
  unfold f_X12_drawn
  simp (disch := omega) only [e_bnd, e_bndV, e_lt, e_grd, e_lit, e_le1, e_le2, e_lt1, e_lt2, e_eq1, e_eq2, e_inb, e_ix, nI_add, pk_mul, e_sub, e_b0, e_b1, e_bz, e_bz0, e_bz1, Bool.and_true, Bool.true_and, ↓reduceIte, not_true_eq_false, not_false_eq_true, decide_false, decide_true, and_self, and_true, true_and, and_false, false_and, Bool.false_eq_true, Bool.not_false, Bool.not_true, m_anew hM h8, r8, rem_I, dz_I]
