/-! METHODS: chain -/
def nb (A : Nat → Nat) (m : Nat) : Nat → Nat
  | 0 => 0
  | i + 1 => nb A m i ||| (if m.testBit i then bes A i else 0)
theorem nb_lt (A : Nat → Nat) (m : Nat) : ∀ i, nb A m i < 256
  | 0 => (by decide : 0 < 256)
  | i + 1 => by
    unfold nb
    refine Nat.or_lt_two_pow (n := 8) (nb_lt A m i) ?_
    split
    · exact bes_lt A i
    · decide
theorem nb_1 {A : Nat → Nat} {m i : Nat} (h : m.testBit i = true) : nb A m (i + 1) = nb A m i ||| bes A i := by
  show _ ||| _ = _
  rw [if_pos h]
theorem nb_0 {A : Nat → Nat} {m i : Nat} (h : m.testBit i = false) : nb A m (i + 1) = nb A m i := by
  show _ ||| _ = _
  rw [if_neg (by rw [h]; decide), Nat.or_zero]
theorem nb_cut {A : Nat → Nat} (hR : BR A) {m : Nat} : ∀ d, A 0 + d ≤ 8 → nb A m (A 0 + d) = nb A m (A 0)
  | 0, _ => rfl
  | d + 1, h => by
    have e := nb_cut hR (m := m) d (by omega)
    show nb A m (A 0 + d) ||| (if m.testBit (A 0 + d) then bes A (A 0 + d) else 0) = _
    rw [bes_0 hR (by omega) (by omega), ite_self, Nat.or_zero, e]
theorem nb_8 {A : Nat → Nat} (hR : BR A) (c8 : A 0 ≤ 8) {m : Nat} : nb A m 8 = nb A m (A 0) := by
  have := nb_cut hR (m := m) (8 - A 0) (by omega)
  rw [show A 0 + (8 - A 0) = 8 by omega] at this
  exact this
theorem nb_bit {A : Nat → Nat} {m e : Nat} (he : e < 8) : ∀ i, (nb A m i).testBit e = decide (∃ h, h < i ∧ m.testBit h = true ∧ 0 < A (50 + 8 * h + e))
  | 0 => by simp [nb]
  | i + 1 => by
    show (nb A m i ||| _).testBit e = _
    rw [Nat.testBit_or, nb_bit he i]
    by_cases q : m.testBit i = true
    · rw [if_pos q, bes_bit _ _ _ he, ← Bool.decide_or]
      congr 1
      apply propext
      constructor
      · rintro (⟨h, h1, h2, h3⟩ | h)
        · exact ⟨h, by omega, h2, h3⟩
        · exact ⟨i, by omega, q, h⟩
      · rintro ⟨h, h1, h2, h3⟩
        by_cases z : h = i
        · subst z; exact Or.inr h3
        · exact Or.inl ⟨h, by omega, h2, h3⟩
    · rw [if_neg q]
      simp only [Nat.zero_testBit, Bool.or_false]
      congr 1
      apply propext
      constructor
      · rintro ⟨h, h1, h2, h3⟩
        exact ⟨h, by omega, h2, h3⟩
      · rintro ⟨h, h1, h2, h3⟩
        by_cases z : h = i
        · subst z; exact absurd h2 q
        · exact ⟨h, by omega, h2, h3⟩
theorem e_hbF {m h : Nat} (hm : m < 256) (hh : h < 9) (q : m.testBit h = false) : (shr (nI m) (nI h) &&& nI 1 = nI 1) = False := by
  rw [e_hb hm hh, q]
  exact eq_false (by decide)
theorem e_hbT {m h : Nat} (hm : m < 256) (hh : h < 9) (q : m.testBit h = true) : (shr (nI m) (nI h) &&& nI 1 = nI 1) = True := by
  rw [e_hb hm hh, q]
  exact eq_true rfl
theorem x_besideAll {σ : Sg} {s : Nat} {A : Nat → Nat} (hR : XR σ s A) {m : Nat} (hm : m < 256) : f_X5_besideAll s (nI m) σ = some (nI (nb A m 8), σ) := by
  have xb := hR.2
  unfold f_X5_besideAll
  refine lp (fun fu (q : Int32 × Int32) => f_X5_besideAll_4 s fu (nI m) q.1 q.2 σ) (fun i => (nI (nb A m i), nI i)) 8 (fun i hi fu => ?_) (fun fu => ?_) FU (by unfold FU; omega)
  · dsimp only
    rw [f_X5_besideAll_4]
    cases q : m.testBit i with
    | true =>
      have hb := e_hbT hm (by omega : i < 9) q
      rw [nb_1 q]
      simp (disch := omega) only [e_bnd, e_bndV, e_lt, e_grd, e_lit, e_le1, e_le2, e_lt1, e_lt2, e_eq1, e_eq2, e_inb, e_ix, nI_add, pk_mul, e_sub, e_b0, e_b1, e_bz, e_bz0, e_bz1, Bool.and_true, Bool.true_and, ↓reduceIte, not_true_eq_false, not_false_eq_true, decide_false, decide_true, and_self, and_true, true_and, and_false, false_and, Bool.false_eq_true, Bool.not_false, Bool.not_true, hb, xb, f_X5_besideAll_28, or_I]
    | false =>
      have hb := e_hbF hm (by omega : i < 9) q
      rw [nb_0 q]
      simp (disch := omega) only [e_bnd, e_bndV, e_lt, e_grd, e_lit, e_le1, e_le2, e_lt1, e_lt2, e_eq1, e_eq2, e_inb, e_ix, nI_add, pk_mul, e_sub, e_b0, e_b1, e_bz, e_bz0, e_bz1, Bool.and_true, Bool.true_and, ↓reduceIte, not_true_eq_false, not_false_eq_true, decide_false, decide_true, and_self, and_true, true_and, and_false, false_and, Bool.false_eq_true, Bool.not_false, Bool.not_true, hb, f_X5_besideAll_28]
  · dsimp only
    rw [f_X5_besideAll_4]
    simp (disch := omega) only [e_bnd, e_bndV, e_lt, e_grd, e_lit, e_le1, e_le2, e_lt1, e_lt2, e_eq1, e_eq2, e_inb, e_ix, nI_add, pk_mul, e_sub, e_b0, e_b1, e_bz, e_bz0, e_bz1, Bool.and_true, Bool.true_and, ↓reduceIte, not_true_eq_false, not_false_eq_true, decide_false, decide_true, and_self, and_true, true_and, and_false, false_and, Bool.false_eq_true, Bool.not_false, Bool.not_true]
theorem m_isGiver {σ : Sg} {A : Nat → Nat} (hM : MA σ A) (hB : BT A) {h : Nat} (hh : h < A 0) : f_X12_isGiver (nI h) σ = some (if (A (10 + 5 * h) = 1 ∨ A (10 + 5 * h) = 2) ∧ 2 ≤ A (10 + 5 * h + 1) then nI 1 else nI 0, σ) := by
  have c8 := hB.1
  have t1 := m_isHouse1 hM c8 hh
  have ha := m_isAlight hM hB (h := h) (by omega)
  have hb := (hB.2.2.2.2 h (by omega)).2.1
  unfold f_X12_isGiver f_X12_isGiver_30 f_X12_isGiver_31
  by_cases q1 : A (10 + 5 * h) = 1 ∨ A (10 + 5 * h) = 2
  · rw [if_pos q1] at ha
    by_cases q2 : 2 ≤ A (10 + 5 * h + 1)
    · rw [if_pos ⟨q1, q2⟩]
      simp (disch := omega) only [e_bnd, e_bndV, e_lt, e_grd, e_lit, e_le1, e_le2, e_lt1, e_lt2, e_eq1, e_eq2, e_inb, e_ix, nI_add, pk_mul, e_sub, e_b0, e_b1, e_bz, e_bz0, e_bz1, Bool.and_true, Bool.true_and, ↓reduceIte, not_true_eq_false, not_false_eq_true, decide_false, decide_true, and_self, and_true, true_and, and_false, false_and, Bool.false_eq_true, Bool.not_false, Bool.not_true, t1, ha, m_get hM]
    · rw [if_neg (fun z => q2 z.2)]
      simp (disch := omega) only [e_bnd, e_bndV, e_lt, e_grd, e_lit, e_le1, e_le2, e_lt1, e_lt2, e_eq1, e_eq2, e_inb, e_ix, nI_add, pk_mul, e_sub, e_b0, e_b1, e_bz, e_bz0, e_bz1, Bool.and_true, Bool.true_and, ↓reduceIte, not_true_eq_false, not_false_eq_true, decide_false, decide_true, and_self, and_true, true_and, and_false, false_and, Bool.false_eq_true, Bool.not_false, Bool.not_true, t1, ha, m_get hM]
  · rw [if_neg q1] at ha
    rw [if_neg (fun z => q1 z.1)]
    simp (disch := omega) only [e_bnd, e_bndV, e_lt, e_grd, e_lit, e_le1, e_le2, e_lt1, e_lt2, e_eq1, e_eq2, e_inb, e_ix, nI_add, pk_mul, e_sub, e_b0, e_b1, e_bz, e_bz0, e_bz1, Bool.and_true, Bool.true_and, ↓reduceIte, not_true_eq_false, not_false_eq_true, decide_false, decide_true, and_self, and_true, true_and, and_false, false_and, Bool.false_eq_true, Bool.not_false, Bool.not_true, t1, ha]
theorem m_has {m h : Nat} (hm : m < 256) (hh : h < 9) (σ : Sg) : f_X12_has (nI m) (nI h) σ = some (if m.testBit h = true then nI 1 else nI 0, σ) := by
  rw [f_has_eq, show ((1 : Int32) = nI 1) from rfl]
  simp only [e_hb hm hh]
  rfl
def chS (A : Nat → Nat) (o : Nat) : Nat → Nat
  | 0 => mayG A
  | k + 1 => chS A o k ||| (nb A (chS A o k) 8 &&& o)
theorem and_lt8 {a b : Nat} (h : a < 256) : a &&& b < 256 := Nat.lt_of_le_of_lt Nat.and_le_left h
theorem or_lt8 {a b : Nat} (h : a < 256) (g : b < 256) : a ||| b < 256 := Nat.or_lt_two_pow (n := 8) h g
theorem chS_lt {A : Nat → Nat} (c8 : A 0 ≤ 8) (o : Nat) : ∀ k, chS A o k < 256
  | 0 => mk8 _ c8
  | k + 1 => or_lt8 (chS_lt c8 o k) (and_lt8 (nb_lt _ _ _))
theorem m_isSo0 {κ : Kd} {T : TD} {σX σM : Sg} {A B : Nat → Nat} (I : I2 κ T σX σM A B) {v : Int32} (h : f_X12_isHouse v σM = some (nI 0, σM)) (f : Int32) : f_X12_isSo v f σM = some (nI 0, σM) := by
  unfold f_X12_isSo f_X12_isSo_22 f_X12_isSo_23
  simp (disch := omega) only [e_bnd, e_bndV, e_lt, e_grd, e_lit, e_le1, e_le2, e_lt1, e_lt2, e_eq1, e_eq2, e_inb, e_ix, nI_add, pk_mul, e_sub, e_b0, e_b1, e_bz, e_bz0, e_bz1, Bool.and_true, Bool.true_and, ↓reduceIte, not_true_eq_false, not_false_eq_true, decide_false, decide_true, and_self, and_true, true_and, and_false, false_and, Bool.false_eq_true, Bool.not_false, Bool.not_true, h]
theorem g_chain {κ : Kd} {T : TD} (v : Int32) : GO κ T (f_X11_chain v) (f_X12_chain v) := by
  intro σX σM ⟨A, B, I⟩
  have hM := I.2.1
  have hB := I.1.1
  have c8 := hB.1
  have hR := I.1.2.2.1
  have r0 := hM.1 0 (by decide) (by decide) (by decide)
  unfold f_X11_chain f_X11_chain_29 f_X12_chain
  rcases I.told v with ⟨e1, e2, _⟩ | ⟨h, hh, rfl, e1, e2⟩
  · have e3 := m_isSo0 I e2 (nI 0)
    refine I.q (r := -1) ?_ ?_
    · simp (disch := omega) only [e_bnd, e_bndV, e_lt, e_grd, e_lit, e_le1, e_le2, e_lt1, e_lt2, e_eq1, e_eq2, e_inb, e_ix, nI_add, pk_mul, e_sub, e_b0, e_b1, e_bz, e_bz0, e_bz1, Bool.and_true, Bool.true_and, ↓reduceIte, not_true_eq_false, not_false_eq_true, decide_false, decide_true, and_self, and_true, true_and, and_false, false_and, Bool.false_eq_true, Bool.not_false, Bool.not_true, e1]
    · simp (disch := omega) only [e_bnd, e_bndV, e_lt, e_grd, e_lit, e_le1, e_le2, e_lt1, e_lt2, e_eq1, e_eq2, e_inb, e_ix, nI_add, pk_mul, e_sub, e_b0, e_b1, e_bz, e_bz0, e_bz1, Bool.and_true, Bool.true_and, ↓reduceIte, not_true_eq_false, not_false_eq_true, decide_false, decide_true, and_self, and_true, true_and, and_false, false_and, Bool.false_eq_true, Bool.not_false, Bool.not_true, e3]
  have h8 : h < 8 := by omega
  have x5 : σX.1 5 h = nI (A (10 + 5 * h)) := I.2.2.1.1.2.2.2.2.2.2.1 h h8
  have hb := (hB.2.2.2.2 h h8).1
  have e3 := m_isSo hM hB (f := 0) hh (by decide)
  by_cases hz : A (10 + 5 * h) = 0
  · rw [if_pos hz] at e3
    obtain ⟨o, ho⟩ : ∃ o, o = fires A 0 0 := ⟨_, rfl⟩
    have hol : o < 256 := by rw [ho]; exact mk8 _ c8
    have hby : f_X8_housesBy 2 (nI 0) (nI 0) σX = some (nI o, σX) := by rw [ho]; exact x_housesBy I.2.2.1.1 hB (by decide) (by decide)
    have hall : f_X12_allOf (nI 0) σM = some (nI o, σM) := by rw [ho]; exact m_allOf hM hB (by decide)
    have hg : f_X8_mayGive 2 σX = some (nI (mayG A), σX) := x_mayGive I.2.2.1.1 hB
    have inner : ∀ (f : Nat) (s k : Nat), s < 256 → k ≤ 9 → f_X12_chain_63 (f_X12_chain_51 f) FU (nI h) (nI s) (nI k) (nI s) (nI 0) σM = if (s ||| (nb A s 8 &&& o)).testBit h = true then some (nI k, σM) else f_X12_chain_51 f (nI h) (nI (s ||| (nb A s 8 &&& o))) (nI (k + 1)) σM := by
      intro f s k hs hk
      refine (lp (fun fu (q : Int32 × Int32) => f_X12_chain_63 (f_X12_chain_51 f) fu (nI h) (nI s) (nI k) q.1 q.2 σM) (fun i => (nI (s ||| (nb A s i &&& o)), nI i)) (A 0) (fun i hi fu => ?_) (fun fu => ?_) FU (by unfold FU; omega) : f_X12_chain_63 (f_X12_chain_51 f) FU (nI h) (nI s) (nI k) (nI (s ||| (nb A s 0 &&& o))) (nI 0) σM = _) |> fun z => by
        rw [show s ||| (nb A s 0 &&& o) = s by show s ||| (0 &&& o) = s; rw [Nat.zero_and, Nat.or_zero]] at z
        exact z
      · dsimp only
        rw [f_X12_chain_63]
        have mh := m_has hs (by omega : i < 9) σM
        cases q : s.testBit i with
        | true =>
          rw [if_pos q] at mh
          rw [nb_1 q, Nat.and_or_distrib_right, ← Nat.or_assoc]
          simp (disch := omega) only [e_bnd, e_bndV, e_lt, e_grd, e_lit, e_le1, e_le2, e_lt1, e_lt2, e_eq1, e_eq2, e_inb, e_ix, nI_add, pk_mul, e_sub, e_b0, e_b1, e_bz, e_bz0, e_bz1, Bool.and_true, Bool.true_and, ↓reduceIte, not_true_eq_false, not_false_eq_true, decide_false, decide_true, and_self, and_true, true_and, and_false, false_and, Bool.false_eq_true, Bool.not_false, Bool.not_true, r0, mh, m_beside hM c8 hR, hall, and_I, or_I, f_X12_chain_100]
        | false =>
          rw [if_neg (by rw [q]; decide)] at mh
          rw [nb_0 q]
          simp (disch := omega) only [e_bnd, e_bndV, e_lt, e_grd, e_lit, e_le1, e_le2, e_lt1, e_lt2, e_eq1, e_eq2, e_inb, e_ix, nI_add, pk_mul, e_sub, e_b0, e_b1, e_bz, e_bz0, e_bz1, Bool.and_true, Bool.true_and, ↓reduceIte, not_true_eq_false, not_false_eq_true, decide_false, decide_true, and_self, and_true, true_and, and_false, false_and, Bool.false_eq_true, Bool.not_false, Bool.not_true, r0, mh, f_X12_chain_100]
      · dsimp only
        rw [f_X12_chain_63, ← nb_8 hR c8]
        have mh := m_has (or_lt8 hs (and_lt8 (b := o) (nb_lt A s 8))) (by omega : h < 9) σM
        by_cases q : (s ||| (nb A s 8 &&& o)).testBit h = true
        · rw [if_pos q] at mh ⊢
          simp (disch := omega) only [e_bnd, e_bndV, e_lt, e_grd, e_lit, e_le1, e_le2, e_lt1, e_lt2, e_eq1, e_eq2, e_inb, e_ix, nI_add, pk_mul, e_sub, e_b0, e_b1, e_bz, e_bz0, e_bz1, Bool.and_true, Bool.true_and, ↓reduceIte, not_true_eq_false, not_false_eq_true, decide_false, decide_true, and_self, and_true, true_and, and_false, false_and, Bool.false_eq_true, Bool.not_false, Bool.not_true, r0, mh]
        · rw [if_neg q] at mh ⊢
          simp (disch := omega) only [e_bnd, e_bndV, e_lt, e_grd, e_lit, e_le1, e_le2, e_lt1, e_lt2, e_eq1, e_eq2, e_inb, e_ix, nI_add, pk_mul, e_sub, e_b0, e_b1, e_bz, e_bz0, e_bz1, Bool.and_true, Bool.true_and, ↓reduceIte, not_true_eq_false, not_false_eq_true, decide_false, decide_true, and_self, and_true, true_and, and_false, false_and, Bool.false_eq_true, Bool.not_false, Bool.not_true, r0, mh]
    have loop : ∀ (d k : Nat), d + k = 8 → ∃ r, (∀ fu, d < fu → f_X11_chain_58 fu (nI h) (nI o) (nI (chS A o k)) (nI (k + 1)) σX = some (r, σX)) ∧ (∀ fu, d < fu → f_X12_chain_51 fu (nI h) (nI (chS A o k)) (nI (k + 1)) σM = some (r, σM)) := by
      intro d
      induction d with
      | zero =>
        intro k hk
        have hk8 : k = 8 := by omega
        subst hk8
        refine ⟨-1, fun fu hf => ?_, fun fu hf => ?_⟩
        · obtain ⟨f, rfl⟩ : ∃ f, fu = f + 1 := ⟨fu - 1, by omega⟩
          rw [f_X11_chain_58]
          exact if_pos (by decide)
        · obtain ⟨f, rfl⟩ : ∃ f, fu = f + 1 := ⟨fu - 1, by omega⟩
          rw [f_X12_chain_51]
          exact if_pos (by decide)
      | succ d ih =>
        intro k hk
        obtain ⟨r, g1, g2⟩ := ih (k + 1) (by omega)
        have hs := chS_lt c8 o k
        have hs1 := chS_lt c8 o (k + 1)
        have hba := x_besideAll I.xr hs
        have hx : ∀ f, f_X11_chain_58 (f + 1) (nI h) (nI o) (nI (chS A o k)) (nI (k + 1)) σX = if (chS A o (k + 1)).testBit h = true then some (nI (k + 1), σX) else f_X11_chain_58 f (nI h) (nI o) (nI (chS A o (k + 1))) (nI (k + 1 + 1)) σX := fun f => by
          have e : chS A o k ||| (nb A (chS A o k) 8 &&& o) = chS A o (k + 1) := rfl
          rw [f_X11_chain_58]
          cases q : (chS A o (k + 1)).testBit h with
          | true =>
            have hb := e_hbT hs1 (by omega : h < 9) q
            simp (disch := omega) only [e_bnd, e_bndV, e_lt, e_grd, e_lit, e_le1, e_le2, e_lt1, e_lt2, e_eq1, e_eq2, e_inb, e_ix, nI_add, pk_mul, e_sub, e_b0, e_b1, e_bz, e_bz0, e_bz1, Bool.and_true, Bool.true_and, ↓reduceIte, not_true_eq_false, not_false_eq_true, decide_false, decide_true, and_self, and_true, true_and, and_false, false_and, Bool.false_eq_true, Bool.not_false, Bool.not_true, hba, and_I, or_I, e, hb]
          | false =>
            have hb := e_hbF hs1 (by omega : h < 9) q
            simp (disch := omega) only [e_bnd, e_bndV, e_lt, e_grd, e_lit, e_le1, e_le2, e_lt1, e_lt2, e_eq1, e_eq2, e_inb, e_ix, nI_add, pk_mul, e_sub, e_b0, e_b1, e_bz, e_bz0, e_bz1, Bool.and_true, Bool.true_and, ↓reduceIte, not_true_eq_false, not_false_eq_true, decide_false, decide_true, and_self, and_true, true_and, and_false, false_and, Bool.false_eq_true, Bool.not_false, Bool.not_true, hba, and_I, or_I, e, hb]
        have hm : ∀ f, f_X12_chain_51 (f + 1) (nI h) (nI (chS A o k)) (nI (k + 1)) σM = if (chS A o (k + 1)).testBit h = true then some (nI (k + 1), σM) else f_X12_chain_51 f (nI h) (nI (chS A o (k + 1))) (nI (k + 1 + 1)) σM := fun f => by
          rw [f_X12_chain_51, if_neg (show ¬ (9 : Int32) ≤ nI (k + 1) from nI_ge (b := 9) (by omega) (by decide))]
          exact inner f (chS A o k) (k + 1) hs (by omega)
        by_cases q : (chS A o (k + 1)).testBit h = true
        · refine ⟨nI (k + 1), fun fu hf => ?_, fun fu hf => ?_⟩
          · obtain ⟨f, rfl⟩ : ∃ f, fu = f + 1 := ⟨fu - 1, by omega⟩
            rw [hx, if_pos q]
          · obtain ⟨f, rfl⟩ : ∃ f, fu = f + 1 := ⟨fu - 1, by omega⟩
            rw [hm, if_pos q]
        · refine ⟨r, fun fu hf => ?_, fun fu hf => ?_⟩
          · obtain ⟨f, rfl⟩ : ∃ f, fu = f + 1 := ⟨fu - 1, by omega⟩
            rw [hx, if_neg q]
            exact g1 f (by omega)
          · obtain ⟨f, rfl⟩ : ∃ f, fu = f + 1 := ⟨fu - 1, by omega⟩
            rw [hm, if_neg q]
            exact g2 f (by omega)
    obtain ⟨r, g1, g2⟩ := loop 8 0 (by decide)
    have gX := g1 FU (by unfold FU; omega)
    have gM := g2 FU (by unfold FU; omega)
    have m15 : f_X12_chain_15 FU (nI h) (nI 0) (nI 0) σM = f_X12_chain_51 FU (nI h) (nI (mayG A)) (nI 1) σM := by
      refine lp (fun fu (q : Int32 × Int32) => f_X12_chain_15 fu (nI h) q.1 q.2 σM) (fun i => (nI (mk i fun h => decide ((A (10 + 5 * h) = 1 ∨ A (10 + 5 * h) = 2) ∧ 2 ≤ A (10 + 5 * h + 1))), nI i)) (A 0) (fun i hi fu => ?_) (fun fu => ?_) FU (by unfold FU; omega)
      · have hg := m_isGiver hM hB hi
        dsimp only
        rw [f_X12_chain_15]
        by_cases q : (A (10 + 5 * i) = 1 ∨ A (10 + 5 * i) = 2) ∧ 2 ≤ A (10 + 5 * i + 1)
        · rw [if_pos q] at hg
          rw [mk_1 (by rw [decide_eq_true]; exact q)]
          simp (disch := omega) only [e_bnd, e_bndV, e_lt, e_grd, e_lit, e_le1, e_le2, e_lt1, e_lt2, e_eq1, e_eq2, e_inb, e_ix, nI_add, pk_mul, e_sub, e_b0, e_b1, e_bz, e_bz0, e_bz1, Bool.and_true, Bool.true_and, ↓reduceIte, not_true_eq_false, not_false_eq_true, decide_false, decide_true, and_self, and_true, true_and, and_false, false_and, Bool.false_eq_true, Bool.not_false, Bool.not_true, r0, hg, f_X12_chain_41, sh1, or_I]
        · rw [if_neg q] at hg
          rw [mk_0 (by rw [decide_eq_false]; exact q)]
          simp (disch := omega) only [e_bnd, e_bndV, e_lt, e_grd, e_lit, e_le1, e_le2, e_lt1, e_lt2, e_eq1, e_eq2, e_inb, e_ix, nI_add, pk_mul, e_sub, e_b0, e_b1, e_bz, e_bz0, e_bz1, Bool.and_true, Bool.true_and, ↓reduceIte, not_true_eq_false, not_false_eq_true, decide_false, decide_true, and_self, and_true, true_and, and_false, false_and, Bool.false_eq_true, Bool.not_false, Bool.not_true, r0, hg, f_X12_chain_41, or_I, Nat.or_zero]
      · dsimp only
        rw [f_X12_chain_15]
        simp (disch := omega) only [e_bnd, e_bndV, e_lt, e_grd, e_lit, e_le1, e_le2, e_lt1, e_lt2, e_eq1, e_eq2, e_inb, e_ix, nI_add, pk_mul, e_sub, e_b0, e_b1, e_bz, e_bz0, e_bz1, Bool.and_true, Bool.true_and, ↓reduceIte, not_true_eq_false, not_false_eq_true, decide_false, decide_true, and_self, and_true, true_and, and_false, false_and, Bool.false_eq_true, Bool.not_false, Bool.not_true, r0]
        rfl
    refine I.q (r := r) ?_ ?_
    · simp (disch := omega) only [e_bnd, e_bndV, e_lt, e_grd, e_lit, e_le1, e_le2, e_lt1, e_lt2, e_eq1, e_eq2, e_inb, e_ix, nI_add, pk_mul, e_sub, e_b0, e_b1, e_bz, e_bz0, e_bz1, Bool.and_true, Bool.true_and, ↓reduceIte, not_true_eq_false, not_false_eq_true, decide_false, decide_true, and_self, and_true, true_and, and_false, false_and, Bool.false_eq_true, Bool.not_false, Bool.not_true, e1, x5, hz, hby, hg]
      exact gX
    · simp (disch := omega) only [e_bnd, e_bndV, e_lt, e_grd, e_lit, e_le1, e_le2, e_lt1, e_lt2, e_eq1, e_eq2, e_inb, e_ix, nI_add, pk_mul, e_sub, e_b0, e_b1, e_bz, e_bz0, e_bz1, Bool.and_true, Bool.true_and, ↓reduceIte, not_true_eq_false, not_false_eq_true, decide_false, decide_true, and_self, and_true, true_and, and_false, false_and, Bool.false_eq_true, Bool.not_false, Bool.not_true, e3, m15]
      exact gM
  · rw [if_neg hz] at e3
    refine I.q (r := -1) ?_ ?_
    · simp (disch := omega) only [e_bnd, e_bndV, e_lt, e_grd, e_lit, e_le1, e_le2, e_lt1, e_lt2, e_eq1, e_eq2, e_inb, e_ix, nI_add, pk_mul, e_sub, e_b0, e_b1, e_bz, e_bz0, e_bz1, Bool.and_true, Bool.true_and, ↓reduceIte, not_true_eq_false, not_false_eq_true, decide_false, decide_true, and_self, and_true, true_and, and_false, false_and, Bool.false_eq_true, Bool.not_false, Bool.not_true, e1, x5]
    · simp (disch := omega) only [e_bnd, e_bndV, e_lt, e_grd, e_lit, e_le1, e_le2, e_lt1, e_lt2, e_eq1, e_eq2, e_inb, e_ix, nI_add, pk_mul, e_sub, e_b0, e_b1, e_bz, e_bz0, e_bz1, Bool.and_true, Bool.true_and, ↓reduceIte, not_true_eq_false, not_false_eq_true, decide_false, decide_true, and_self, and_true, true_and, and_false, false_and, Bool.false_eq_true, Bool.not_false, Bool.not_true, e3]
