/-! round, again: the odd, the joined, the lowest -/
def oddp (A : Nat → Nat) (h : Nat) : Bool := decide (pc8 (bes A h) % 2 = 1)
def od (A : Nat → Nat) : Nat := mk 8 (oddp A)
def linp (A : Nat → Nat) (h : Nat) : Bool := decide (bes A h ≠ 0)
def jv (A : Nat → Nat) : Nat := mk 8 (linp A)
theorem sh_odd : ∀ p, p < 9 → ∀ h, h < 8 → shl (nI p &&& nI 1) (nI h) = nI (if p % 2 = 1 then 2 ^ h else 0) := by decide +kernel
theorem x_odds {σ : Sg} {t : Nat} {A : Nat → Nat} (hX : XR σ t A) : f_X5_odd t σ = some (nI (od A), σ) := by
  unfold f_X5_odd od
  simp (disch := omega) only [e_lit]
  refine lp (fun fu (q : Int32 × Int32) => f_X5_odd_4 t fu q.1 q.2 σ) (fun i => (nI (mk i (oddp A)), nI i)) 8 (fun i hi fu => ?_) (fun fu => ?_) FU (by unfold FU; omega)
  · have x1 := hX.2 i hi
    have b1 := f_bitCount_eq (bes_lt A i) σ
    have p8 := pc8_le (bes A i)
    have so := sh_odd (pc8 (bes A i)) (by omega) i hi
    have e1 : mk (i + 1) (oddp A) = mk i (oddp A) ||| (if pc8 (bes A i) % 2 = 1 then 2 ^ i else 0) := by
      show mk i (oddp A) ||| (if oddp A i = true then 2 ^ i else 0) = _
      unfold oddp
      simp only [decide_eq_true_eq]
    dsimp only
    rw [f_X5_odd_4, e1]
    simp (disch := omega) only [e_bnd, e_bndV, e_lt, e_grd, e_lit, e_le1, e_le2, e_lt1, e_lt2, e_eq1, e_eq2, e_inb, e_ix, nI_add, pk_mul, e_sub, e_b0, e_b1, e_bz, e_bz0, e_bz1, Bool.and_true, Bool.true_and, ↓reduceIte, not_true_eq_false, not_false_eq_true, decide_false, decide_true, and_self, and_true, true_and, and_false, false_and, Bool.false_eq_true, Bool.not_false, Bool.not_true, x1, b1, so, or_I]
  · dsimp only
    rw [f_X5_odd_4]
    simp (disch := omega) only [e_bnd, e_bndV, e_lt, e_grd, e_lit, e_le1, e_le2, e_lt1, e_lt2, e_eq1, e_eq2, e_inb, e_ix, nI_add, pk_mul, e_sub, e_b0, e_b1, e_bz, e_bz0, e_bz1, Bool.and_true, Bool.true_and, ↓reduceIte, not_true_eq_false, not_false_eq_true, decide_false, decide_true, and_self, and_true, true_and, and_false, false_and, Bool.false_eq_true, Bool.not_false, Bool.not_true]
theorem m_odds {σ : Sg} {A : Nat → Nat} (hM : MA σ A) (c8 : A 0 ≤ 8) (hR : BR A) : f_X12_odd σ = some (nI (od A), σ) := by
  have r0 := hM.1 0 (by decide) (by decide) (by decide)
  have e : mk (A 0) (oddp A) = od A := mk_cut c8 (fun i h1 h2 => by
    unfold oddp
    rw [bes_0 hR h2 h1, pc8_0]
    decide)
  rw [← e]
  unfold f_X12_odd
  simp (disch := omega) only [e_lit]
  refine lp (fun fu (q : Int32 × Int32) => f_X12_odd_4 fu q.1 q.2 σ) (fun i => (nI (mk i (oddp A)), nI i)) (A 0) (fun i hi fu => ?_) (fun fu => ?_) FU (by unfold FU; omega)
  · have mb := m_beside hM c8 hR (h := i) (by omega)
    have b1 := f_bits_eq (bes_lt A i) σ
    have p8 := pc8_le (bes A i)
    dsimp only
    rw [f_X12_odd_4]
    by_cases z : pc8 (bes A i) % 2 = 1
    · rw [mk_1 (show oddp A i = true from decide_eq_true z)]
      simp (disch := omega) only [e_bnd, e_bndV, e_lt, e_grd, e_lit, e_le1, e_le2, e_lt1, e_lt2, e_eq1, e_eq2, e_inb, e_ix, nI_add, pk_mul, e_sub, e_b0, e_b1, e_bz, e_bz0, e_bz1, Bool.and_true, Bool.true_and, ↓reduceIte, not_true_eq_false, not_false_eq_true, decide_false, decide_true, and_self, and_true, true_and, and_false, false_and, Bool.false_eq_true, Bool.not_false, Bool.not_true, r0, mb, b1, rem_I, dz_I, z, f_X12_odd_36, sh1, or_I]
    · rw [mk_0 (show oddp A i = false from decide_eq_false z)]
      simp (disch := omega) only [e_bnd, e_bndV, e_lt, e_grd, e_lit, e_le1, e_le2, e_lt1, e_lt2, e_eq1, e_eq2, e_inb, e_ix, nI_add, pk_mul, e_sub, e_b0, e_b1, e_bz, e_bz0, e_bz1, Bool.and_true, Bool.true_and, ↓reduceIte, not_true_eq_false, not_false_eq_true, decide_false, decide_true, and_self, and_true, true_and, and_false, false_and, Bool.false_eq_true, Bool.not_false, Bool.not_true, r0, mb, b1, rem_I, dz_I, f_X12_odd_36, or_I, Nat.or_zero]
  · dsimp only
    rw [f_X12_odd_4]
    simp (disch := omega) only [e_bnd, e_bndV, e_lt, e_grd, e_lit, e_le1, e_le2, e_lt1, e_lt2, e_eq1, e_eq2, e_inb, e_ix, nI_add, pk_mul, e_sub, e_b0, e_b1, e_bz, e_bz0, e_bz1, Bool.and_true, Bool.true_and, ↓reduceIte, not_true_eq_false, not_false_eq_true, decide_false, decide_true, and_self, and_true, true_and, and_false, false_and, Bool.false_eq_true, Bool.not_false, Bool.not_true, r0]
theorem low_ex : ∀ V, V < 256 → V ≠ 0 → ∃ lo, lo < 8 ∧ V.testBit lo = true ∧ ∀ i, i < lo → V.testBit i = false := by decide +kernel
theorem m_lowOf {σ : Sg} {V lo : Nat} (hV : V < 256) (hl : lo < 8) (hb : V.testBit lo = true) (hn : ∀ i, i < lo → V.testBit i = false) : f_X12_lowOf (nI V) σ = some (nI lo, σ) := by
  unfold f_X12_lowOf
  simp (disch := omega) only [e_lit]
  refine lp (fun fu (q : Int32) => f_X12_lowOf_2 fu (nI V) q σ) (fun i => nI i) lo (fun i hi fu => ?_) (fun fu => ?_) FU (by unfold FU; omega)
  · have mh := m_has hV (by omega : i < 9) σ
    rw [if_neg (by rw [hn i hi]; decide)] at mh
    rw [f_X12_lowOf_2]
    simp (disch := omega) only [e_bnd, e_bndV, e_lt, e_grd, e_lit, e_le1, e_le2, e_lt1, e_lt2, e_eq1, e_eq2, e_inb, e_ix, nI_add, pk_mul, e_sub, e_b0, e_b1, e_bz, e_bz0, e_bz1, Bool.and_true, Bool.true_and, ↓reduceIte, not_true_eq_false, not_false_eq_true, decide_false, decide_true, and_self, and_true, true_and, and_false, false_and, Bool.false_eq_true, Bool.not_false, Bool.not_true, mh]
  · have mh := m_has hV (by omega : lo < 9) σ
    rw [if_pos hb] at mh
    rw [f_X12_lowOf_2]
    simp (disch := omega) only [e_bnd, e_bndV, e_lt, e_grd, e_lit, e_le1, e_le2, e_lt1, e_lt2, e_eq1, e_eq2, e_inb, e_ix, nI_add, pk_mul, e_sub, e_b0, e_b1, e_bz, e_bz0, e_bz1, Bool.and_true, Bool.true_and, ↓reduceIte, not_true_eq_false, not_false_eq_true, decide_false, decide_true, and_self, and_true, true_and, and_false, false_and, Bool.false_eq_true, Bool.not_false, Bool.not_true, mh]
theorem x_lowOf {σ : Sg} {V lo : Nat} (hV : V < 256) (hl : lo < 8) (hb : V.testBit lo = true) (hn : ∀ i, i < lo → V.testBit i = false) : f_X9_lowestOf (nI V) σ = some (nI lo, σ) := by
  unfold f_X9_lowestOf
  simp (disch := omega) only [e_lit]
  refine lp (fun fu (q : Int32) => f_X9_lowestOf_2 fu (nI V) q σ) (fun i => nI i) lo (fun i hi fu => ?_) (fun fu => ?_) FU (by unfold FU; omega)
  · have mh : (shr (nI V) (nI i) &&& nI 1 = nI 0) = True := by
      rw [e_hb0 hV (by omega)]; exact eq_true (hn i hi)
    rw [f_X9_lowestOf_2]
    simp (disch := omega) only [e_bnd, e_bndV, e_lt, e_grd, e_lit, e_le1, e_le2, e_lt1, e_lt2, e_eq1, e_eq2, e_inb, e_ix, nI_add, pk_mul, e_sub, e_b0, e_b1, e_bz, e_bz0, e_bz1, Bool.and_true, Bool.true_and, ↓reduceIte, not_true_eq_false, not_false_eq_true, decide_false, decide_true, and_self, and_true, true_and, and_false, false_and, Bool.false_eq_true, Bool.not_false, Bool.not_true, mh]
  · have mh : (shr (nI V) (nI lo) &&& nI 1 = nI 0) = False := by
      rw [e_hb0 hV (by omega), hb]; exact eq_false (by decide)
    rw [f_X9_lowestOf_2]
    simp (disch := omega) only [e_bnd, e_bndV, e_lt, e_grd, e_lit, e_le1, e_le2, e_lt1, e_lt2, e_eq1, e_eq2, e_inb, e_ix, nI_add, pk_mul, e_sub, e_b0, e_b1, e_bz, e_bz0, e_bz1, Bool.and_true, Bool.true_and, ↓reduceIte, not_true_eq_false, not_false_eq_true, decide_false, decide_true, and_self, and_true, true_and, and_false, false_and, Bool.false_eq_true, Bool.not_false, Bool.not_true, mh, f_X9_lowestOf_22]
/-! all that have a street hang together -/
theorem jv_bit {A : Nat → Nat} {i : Nat} (hi : i < 8) : (jv A).testBit i = true ↔ bes A i ≠ 0 := by
  unfold jv linp
  rw [mk_bit, decide_eq_true hi, Bool.true_and, decide_eq_true_eq]
theorem jv_lt (A : Nat → Nat) : jv A < 256 := mk8 _ (by decide)
theorem jv_in {A : Nat → Nat} (hR : BR A) : ∀ i, i < 8 → (jv A).testBit i = true → i < A 0 := fun i hi z => by
  by_cases q : A 0 ≤ i
  · exact absurd (bes_0 hR hi q) ((jv_bit hi).mp z)
  · omega
theorem bes_ne {A : Nat → Nat} {h e : Nat} (he : e < 8) (q : 0 < A (50 + 8 * h + e)) : bes A h ≠ 0 := by
  refine bit_ne0 (h := e) ?_
  rw [bes_bit _ _ _ he]
  exact decide_eq_true q
theorem jv_cl {A : Nat → Nat} (hR : BR A) (V : Nat) : CL A V (jv A) := fun h e hh he _ q _ => (jv_bit he).mpr (bes_ne hh (sym hR hh he q))
theorem ng_0 (A : Nat → Nat) (V : Nat) : ∀ d h, ng A V d h 0 = 0
  | 0, _ => rfl
  | d + 1, h => by
    show (if (0 : Nat).testBit h = true then _ else _) = 0
    rw [Nat.zero_testBit, if_neg (by decide)]
    exact ng_0 A V d (h + 1)
theorem ng_pos (A : Nat → Nat) (V : Nat) : ∀ d h L i, h ≤ i → i < h + d → L.testBit i = true → 1 ≤ ng A V d h L
  | 0, _, _, _, a, b, _ => absurd b (by omega)
  | d + 1, h, L, i, a, b, q => by
    show 1 ≤ (if L.testBit h = true then _ else _)
    by_cases z : L.testBit h = true
    · rw [if_pos z]; omega
    · rw [if_neg z]
      refine ng_pos A V d (h + 1) L i ?_ (by omega) q
      by_cases y : i = h
      · subst y; exact absurd q z
      · omega
theorem ng_low (A : Nat → Nat) (V : Nat) : ∀ d h L lo, h ≤ lo → lo < h + d → L.testBit lo = true → (∀ i, i < lo → L.testBit i = false) → ng A V d h L = 1 + ng A V (h + d - lo - 1) (lo + 1) (mi L (co A V lo))
  | 0, _, _, _, a, b, _, _ => absurd b (by omega)
  | d + 1, h, L, lo, a, b, q, r => by
    show (if L.testBit h = true then _ else _) = _
    by_cases y : lo = h
    · subst y
      rw [if_pos q, show lo + (d + 1) - lo - 1 = d by omega]
    · rw [if_neg (by rw [r h (by omega)]; decide), ng_low A V d (h + 1) L lo (by omega) (by omega) q r, show h + 1 + d = h + (d + 1) by omega]
theorem ng_iff {A : Nat → Nat} (hR : BR A) {lo : Nat} (hl : lo < 8) (hb : (jv A).testBit lo = true) (hn : ∀ i, i < lo → (jv A).testBit i = false) (c8 : A 0 ≤ 8) : ng A (jv A) (A 0) 0 (jv A) ≤ 1 ↔ co A (al (A 0)) lo = jv A := by
  have e : co A (jv A) lo = co A (al (A 0)) lo := co_part hl (jv_cl hR _) (fun i hi z => by
    rw [al_bit]; exact decide_eq_true (jv_in hR i hi z)) hb
  have hlo := jv_in hR lo hl hb
  rw [ng_low A (jv A) (A 0) 0 (jv A) lo (by omega) (by omega) hb hn, ← e]
  constructor
  · intro q
    refine bit_eq (co_lt hl) (jv_lt A) fun i hi => ?_
    rw [Bool.eq_iff_iff]
    refine ⟨co_sub hb hi, fun z => ?_⟩
    cases w : (co A (jv A) lo).testBit i with
    | true => rfl
    | false =>
      have hi0 := jv_in hR i hi z
      have ge : lo + 1 ≤ i := by
        by_cases y : i < lo
        · rw [hn i y] at z; exact absurd z (by decide)
        · by_cases y2 : i = lo
          · subst y2; rw [co_has hi] at w; exact absurd w (by decide)
          · omega
      have := ng_pos A (jv A) (0 + A 0 - lo - 1) (lo + 1) (mi (jv A) (co A (jv A) lo)) i ge (by omega) (by rw [mi_bit hi, z, w]; rfl)
      omega
  · intro q
    have z : mi (jv A) (co A (jv A) lo) = 0 := by
      rw [q]
      refine bit_eq (mi_lt (jv_lt A)) (by decide) fun i hi => ?_
      rw [mi_bit hi, Nat.zero_testBit]
      cases (jv A).testBit i <;> rfl
    rw [z, ng_0]
    exact Nat.le_refl _
/-- the streets hang together -/
def jo (A : Nat → Nat) : Nat := if ng A (jv A) (A 0) 0 (jv A) ≤ 1 then 1 else 0
theorem ng_le {A : Nat → Nat} {V : Nat} : ∀ d h L, ng A V d h L ≤ d
  | 0, _, _ => Nat.le_refl _
  | d + 1, h, L => by
    show (if L.testBit h = true then _ else _) ≤ d + 1
    split
    · have := ng_le (A := A) (V := V) d (h + 1) (mi L (co A V h)); omega
    · have := ng_le (A := A) (V := V) d (h + 1) L; omega
theorem x_hang {σ : Sg} {t : Nat} {A : Nat → Nat} (hX : XR σ t A) (hR : BR A) (c8 : A 0 ≤ 8) : f_X5_hangTogether t σ = some (nI (jo A), σ) := by
  have xg := x_groups hX hR (jv_lt A) (jv_in hR) c8
  unfold f_X5_hangTogether
  simp (disch := omega) only [e_lit]
  refine lp (fun fu (q : Int32 × Int32) => f_X5_hangTogether_4 t fu q.1 q.2 σ) (fun i => (nI (mk i (linp A)), nI i)) 8 (fun i hi fu => ?_) (fun fu => ?_) FU (by unfold FU; omega)
  · have x1 := hX.2 i hi
    have bl := bes_lt A i
    dsimp only
    rw [f_X5_hangTogether_4]
    by_cases z : bes A i = 0
    · rw [mk_0 (show linp A i = false from decide_eq_false (fun q => q z))]
      simp (disch := omega) only [e_bnd, e_bndV, e_lt, e_grd, e_lit, e_le1, e_le2, e_lt1, e_lt2, e_eq1, e_eq2, e_inb, e_ix, nI_add, pk_mul, e_sub, e_b0, e_b1, e_bz, e_bz0, e_bz1, Bool.and_true, Bool.true_and, ↓reduceIte, not_true_eq_false, not_false_eq_true, decide_false, decide_true, and_self, and_true, true_and, and_false, false_and, Bool.false_eq_true, Bool.not_false, Bool.not_true, x1, z, f_X5_hangTogether_25]
    · rw [mk_1 (show linp A i = true from decide_eq_true z)]
      simp (disch := omega) only [e_bnd, e_bndV, e_lt, e_grd, e_lit, e_le1, e_le2, e_lt1, e_lt2, e_eq1, e_eq2, e_inb, e_ix, nI_add, pk_mul, e_sub, e_b0, e_b1, e_bz, e_bz0, e_bz1, Bool.and_true, Bool.true_and, ↓reduceIte, not_true_eq_false, not_false_eq_true, decide_false, decide_true, and_self, and_true, true_and, and_false, false_and, Bool.false_eq_true, Bool.not_false, Bool.not_true, x1, z, f_X5_hangTogether_25, sh1, or_I]
  · have e : mk 8 (linp A) = jv A := rfl
    have gl := ng_le (A := A) (V := jv A) (A 0) 0 (jv A)
    dsimp only
    rw [f_X5_hangTogether_4, e]
    unfold jo
    by_cases z : ng A (jv A) (A 0) 0 (jv A) ≤ 1
    · rw [if_pos z]
      simp (disch := omega) only [e_bnd, e_bndV, e_lt, e_grd, e_lit, e_le1, e_le2, e_lt1, e_lt2, e_eq1, e_eq2, e_inb, e_ix, nI_add, pk_mul, e_sub, e_b0, e_b1, e_bz, e_bz0, e_bz1, Bool.and_true, Bool.true_and, ↓reduceIte, not_true_eq_false, not_false_eq_true, decide_false, decide_true, and_self, and_true, true_and, and_false, false_and, Bool.false_eq_true, Bool.not_false, Bool.not_true, xg, f_X5_hangTogether_45]
    · rw [if_neg z]
      simp (disch := omega) only [e_bnd, e_bndV, e_lt, e_grd, e_lit, e_le1, e_le2, e_lt1, e_lt2, e_eq1, e_eq2, e_inb, e_ix, nI_add, pk_mul, e_sub, e_b0, e_b1, e_bz, e_bz0, e_bz1, Bool.and_true, Bool.true_and, ↓reduceIte, not_true_eq_false, not_false_eq_true, decide_false, decide_true, and_self, and_true, true_and, and_false, false_and, Bool.false_eq_true, Bool.not_false, Bool.not_true, xg, f_X5_hangTogether_45]
theorem m_joined {σ : Sg} {A : Nat → Nat} (hM : MA σ A) (hB : BT A) (hR : BR A) : f_X12_isJoined σ = some (nI (jo A), σ) := by
  have c8 := hB.1
  have r0 := hM.1 0 (by decide) (by decide) (by decide)
  have e : mk (A 0) (linp A) = jv A := mk_cut c8 (fun i h1 h2 => by
    unfold linp
    rw [bes_0 hR h2 h1]
    decide)
  unfold f_X12_isJoined
  simp (disch := omega) only [e_lit]
  refine lp (fun fu (q : Int32 × Int32) => f_X12_isJoined_4 fu q.1 q.2 σ) (fun i => (nI (mk i (linp A)), nI i)) (A 0) (fun i hi fu => ?_) (fun fu => ?_) FU (by unfold FU; omega)
  · have mb := m_beside hM c8 hR (h := i) (by omega)
    have bl := bes_lt A i
    dsimp only
    rw [f_X12_isJoined_4]
    by_cases z : bes A i = 0
    · rw [mk_0 (show linp A i = false from decide_eq_false (fun q => q z))]
      simp (disch := omega) only [e_bnd, e_bndV, e_lt, e_grd, e_lit, e_le1, e_le2, e_lt1, e_lt2, e_eq1, e_eq2, e_inb, e_ix, nI_add, pk_mul, e_sub, e_b0, e_b1, e_bz, e_bz0, e_bz1, Bool.and_true, Bool.true_and, ↓reduceIte, not_true_eq_false, not_false_eq_true, decide_false, decide_true, and_self, and_true, true_and, and_false, false_and, Bool.false_eq_true, Bool.not_false, Bool.not_true, r0, mb, z, f_X12_isJoined_30, or_I, Nat.or_zero]
    · rw [mk_1 (show linp A i = true from decide_eq_true z)]
      simp (disch := omega) only [e_bnd, e_bndV, e_lt, e_grd, e_lit, e_le1, e_le2, e_lt1, e_lt2, e_eq1, e_eq2, e_inb, e_ix, nI_add, pk_mul, e_sub, e_b0, e_b1, e_bz, e_bz0, e_bz1, Bool.and_true, Bool.true_and, ↓reduceIte, not_true_eq_false, not_false_eq_true, decide_false, decide_true, and_self, and_true, true_and, and_false, false_and, Bool.false_eq_true, Bool.not_false, Bool.not_true, r0, mb, z, f_X12_isJoined_30, sh1, or_I]
  · have hj := jv_lt A
    dsimp only
    rw [f_X12_isJoined_4, e]
    by_cases z : jv A = 0
    · have e2 : jo A = 1 := by
        unfold jo
        rw [z, ng_0]; rfl
      rw [e2]
      simp (disch := omega) only [e_bnd, e_bndV, e_lt, e_grd, e_lit, e_le1, e_le2, e_lt1, e_lt2, e_eq1, e_eq2, e_inb, e_ix, nI_add, pk_mul, e_sub, e_b0, e_b1, e_bz, e_bz0, e_bz1, Bool.and_true, Bool.true_and, ↓reduceIte, not_true_eq_false, not_false_eq_true, decide_false, decide_true, and_self, and_true, true_and, and_false, false_and, Bool.false_eq_true, Bool.not_false, Bool.not_true, r0, z, f_X12_isJoined_58, f_X12_isJoined_63]
    · obtain ⟨lo, l1, l2, l3⟩ := low_ex _ hj z
      have ml := m_lowOf (σ := σ) hj l1 l2 l3
      have ma := m_all hM c8
      have mg := m_heapOf hM hB hR (V := al (A 0)) l1
      have it := ng_iff hR l1 l2 l3 c8
      have cl := co_lt (A := A) (V := al (A 0)) l1
      clear l3 l2
      unfold jo
      by_cases y : co A (al (A 0)) lo = jv A
      · rw [if_pos (it.mpr y)]
        simp (disch := omega) only [e_bnd, e_bndV, e_lt, e_grd, e_lit, e_le1, e_le2, e_lt1, e_lt2, e_eq1, e_eq2, e_inb, e_ix, nI_add, pk_mul, e_sub, e_b0, e_b1, e_bz, e_bz0, e_bz1, Bool.and_true, Bool.true_and, ↓reduceIte, not_true_eq_false, not_false_eq_true, decide_false, decide_true, and_self, and_true, true_and, and_false, false_and, Bool.false_eq_true, Bool.not_false, Bool.not_true, r0, z, ml, ma, mg, y, f_X12_isJoined_58, f_X12_isJoined_63]
      · rw [if_neg (fun w => y (it.mp w))]
        simp (disch := omega) only [e_bnd, e_bndV, e_lt, e_grd, e_lit, e_le1, e_le2, e_lt1, e_lt2, e_eq1, e_eq2, e_inb, e_ix, nI_add, pk_mul, e_sub, e_b0, e_b1, e_bz, e_bz0, e_bz1, Bool.and_true, Bool.true_and, ↓reduceIte, not_true_eq_false, not_false_eq_true, decide_false, decide_true, and_self, and_true, true_and, and_false, false_and, Bool.false_eq_true, Bool.not_false, Bool.not_true, r0, z, ml, ma, mg, y, f_X12_isJoined_58, f_X12_isJoined_63]
