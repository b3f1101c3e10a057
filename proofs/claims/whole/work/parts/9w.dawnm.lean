/-! dawn: the reference -/
def RM (σ : Sg) (A r : Nat → Nat) : Prop := ∀ g, g < A 0 → σ.1 12 g = nI (if (mayG A).testBit g = true then r g else 0)
def mayO (A : Nat → Nat) (h : Nat) : Nat := if (fires A 0 0).testBit h = true then bes A h &&& mayG A else 0
theorem mayO_lt (A : Nat → Nat) (h : Nat) : mayO A h < 256 := by
  unfold mayO
  split
  · exact and_lt8 (bes_lt A h)
  · decide
theorem mayG_lt {A : Nat → Nat} (c8 : A 0 ≤ 8) : mayG A < 256 := mk8 _ c8
theorem mayG_in {A : Nat → Nat} {g : Nat} (h : (mayG A).testBit g = true) : g < A 0 := by
  unfold mayG at h
  rw [mk_bit, Bool.and_eq_true] at h
  exact of_decide_eq_true h.1
theorem fires_in {A : Nat → Nat} {a b g : Nat} (h : (fires A a b).testBit g = true) : g < A 0 := by
  unfold fires at h
  rw [mk_bit, Bool.and_eq_true] at h
  exact of_decide_eq_true h.1
/-- how many the givers of a set can give to -/
theorem cp_nb {A : Nat → Nat} (r : Nat → Nat) {S : Nat} (hS : ∀ h, h < 8 → S.testBit h = true → (fires A 0 0).testBit h = true) : cp (fun g => if (mayG A).testBit g = true then r g else 0) (nb A S 8) 8 = cp r (un (mayO A) S 8) 8 := by
  refine cp_congr 8 fun g hg => ?_
  have e1 : (nb A S 8).testBit g = true ↔ ∃ h, h < 8 ∧ S.testBit h = true ∧ (bes A h).testBit g = true := by
    rw [nb_bit hg, decide_eq_true_eq]
    constructor
    · rintro ⟨h, h1, h2, h3⟩
      exact ⟨h, h1, h2, by rw [bes_bit _ _ _ hg]; exact decide_eq_true h3⟩
    · rintro ⟨h, h1, h2, h3⟩
      rw [bes_bit _ _ _ hg] at h3
      exact ⟨h, h1, h2, of_decide_eq_true h3⟩
  have e2 : (un (mayO A) S 8).testBit g = true ↔ (∃ h, h < 8 ∧ S.testBit h = true ∧ (bes A h).testBit g = true) ∧ (mayG A).testBit g = true := by
    rw [un_bit]
    constructor
    · rintro ⟨h, h1, h2, h3⟩
      unfold mayO at h3
      rw [if_pos (hS h h1 h2), Nat.testBit_and, Bool.and_eq_true] at h3
      exact ⟨⟨h, h1, h2, h3.1⟩, h3.2⟩
    · rintro ⟨⟨h, h1, h2, h3⟩, h4⟩
      refine ⟨h, h1, h2, ?_⟩
      unfold mayO
      rw [if_pos (hS h h1 h2), Nat.testBit_and, h3, h4]
      rfl
  by_cases x : (mayG A).testBit g = true
  · by_cases y : (nb A S 8).testBit g = true
    · rw [if_pos y, if_pos x, if_pos (e2.mpr ⟨e1.mp y, x⟩)]
    · rw [if_neg y, if_neg (fun q => y (e1.mpr (e2.mp q).1))]
  · rw [if_neg x, ite_self, if_neg (fun q => x (e2.mp q).2)]
theorem cp_cut {r : Nat → Nat} {m c : Nat} (h : ∀ g, c ≤ g → g < 8 → (if m.testBit g = true then r g else 0) = 0) : ∀ d, c + d ≤ 8 → cp r m (c + d) = cp r m c
  | 0, _ => rfl
  | d + 1, q => by
    show cp r m (c + d) + (if m.testBit (c + d) = true then r (c + d) else 0) = _
    rw [h _ (by omega) (by omega), cp_cut h d (by omega)]
    rfl
theorem xI : ∀ m, m < 256 → (nI m ^^^ (-1 : Int32)) = nI (4294967295 - m) := by decide +kernel
/-- one set of takers -/
theorem m_given72 {σ : Sg} {A r : Nat → Nat} {E : Nat} (r0 : σ.1 1 0 = nI (A 0)) (c8 : A 0 ≤ 8) (hE : E ≤ 8) (hr : ∀ g, g < 8 → r g ≤ E) (hR : RM σ A r) {T w s b : Nat} (hs : s < 256) (hb : b < 256) (hw : w ≤ 8) (rec : Int32 → Int32 → Int32 → Sg → Option (Int32 × Sg)) : f_X12_givenOf_72 rec FU (nI T) (nI w) (nI s) (nI b) (nI 0) (nI 0) σ = rec (nI T) (nI (max w (pc8 s - cp (fun g => if (mayG A).testBit g = true then r g else 0) b (A 0)))) (nI s + -1) σ := by
  have lc : ∀ i, i ≤ 8 → cp (fun g => if (mayG A).testBit g = true then r g else 0) b i ≤ 8 * i := by
    intro i
    induction i with
    | zero => intro _; exact Nat.le_refl _
    | succ i ih =>
      intro hi
      have := ih (by omega)
      have := hr i (by omega)
      show cp _ b i + (if b.testBit i = true then (if (mayG A).testBit i = true then r i else 0) else 0) ≤ _
      repeat' split
      all_goals omega
  refine lp (fun fu (q : Int32 × Int32) => f_X12_givenOf_72 rec fu (nI T) (nI w) (nI s) (nI b) q.1 q.2 σ) (fun i => (nI (cp (fun g => if (mayG A).testBit g = true then r g else 0) b i), nI i)) (A 0) (fun i hi fu => ?_) (fun fu => ?_) FU (by unfold FU; omega)
  · have mh := m_has hb (by omega : i < 9) σ
    have ri := hR i hi
    dsimp only
    rw [f_X12_givenOf_72]
    by_cases y : b.testBit i = true
    · have ec : cp (fun g => if (mayG A).testBit g = true then r g else 0) b (i + 1) = cp (fun g => if (mayG A).testBit g = true then r g else 0) b i + (if (mayG A).testBit i = true then r i else 0) := by
        show cp _ b i + (if b.testBit i = true then (if (mayG A).testBit i = true then r i else 0) else 0) = _
        rw [if_pos y]
      rw [if_pos y] at mh
      rw [ec]
      clear hR hr lc ec
      simp (disch := omega) only [e_bnd, e_bndV, e_lt, e_grd, e_lit, e_le1, e_le2, e_lt1, e_lt2, e_eq1, e_eq2, e_inb, e_ix, nI_add, pk_mul, e_sub, e_b0, e_b1, e_bz, e_bz0, e_bz1, Bool.and_true, Bool.true_and, ↓reduceIte, not_true_eq_false, not_false_eq_true, decide_false, decide_true, and_self, and_true, true_and, and_false, false_and, Bool.false_eq_true, Bool.not_false, Bool.not_true, r0, mh, ri, f_X12_givenOf_106]
    · have ec : cp (fun g => if (mayG A).testBit g = true then r g else 0) b (i + 1) = cp (fun g => if (mayG A).testBit g = true then r g else 0) b i := by
        show cp _ b i + (if b.testBit i = true then (if (mayG A).testBit i = true then r i else 0) else 0) = _
        rw [if_neg y]
        rfl
      rw [if_neg y] at mh
      rw [ec]
      clear hR hr lc ec
      simp (disch := omega) only [e_bnd, e_bndV, e_lt, e_grd, e_lit, e_le1, e_le2, e_lt1, e_lt2, e_eq1, e_eq2, e_inb, e_ix, nI_add, pk_mul, e_sub, e_b0, e_b1, e_bz, e_bz0, e_bz1, Bool.and_true, Bool.true_and, ↓reduceIte, not_true_eq_false, not_false_eq_true, decide_false, decide_true, and_self, and_true, true_and, and_false, false_and, Bool.false_eq_true, Bool.not_false, Bool.not_true, r0, mh, f_X12_givenOf_106, Nat.add_zero]
  · have l := lc (A 0) c8
    have bs := f_bits_eq hs σ
    have p8 := pc8_le s
    obtain ⟨C, hC⟩ : ∃ C, C = cp (fun g => if (mayG A).testBit g = true then r g else 0) b (A 0) := ⟨_, rfl⟩
    rw [← hC] at l ⊢
    have cm : (nI (pc8 s) - nI C ≤ nI w) = ((pc8 s : Int) - C ≤ w) := by
      rw [← iI_n, ← iI_n, ← iI_n, iI_sub]
      exact iI_le (by omega) (by omega)
    dsimp only
    rw [f_X12_givenOf_72]
    clear hR hr lc hC
    by_cases y : (pc8 s : Int) - C ≤ w
    · rw [show max w (pc8 s - C) = w by omega]
      simp (disch := omega) only [e_bnd, e_bndV, e_lt, e_grd, e_lit, e_le1, e_le2, e_lt1, e_lt2, e_eq1, e_eq2, e_inb, e_ix, nI_add, pk_mul, e_sub, e_b0, e_b1, e_bz, e_bz0, e_bz1, Bool.and_true, Bool.true_and, ↓reduceIte, not_true_eq_false, not_false_eq_true, decide_false, decide_true, and_self, and_true, true_and, and_false, false_and, Bool.false_eq_true, Bool.not_false, Bool.not_true, r0, bs, cm, y, f_X12_givenOf_137, f_X12_givenOf_138]
    · rw [show max w (pc8 s - C) = pc8 s - C by omega]
      simp (disch := omega) only [e_bnd, e_bndV, e_lt, e_grd, e_lit, e_le1, e_le2, e_lt1, e_lt2, e_eq1, e_eq2, e_inb, e_ix, nI_add, pk_mul, e_sub, e_b0, e_b1, e_bz, e_bz0, e_bz1, Bool.and_true, Bool.true_and, ↓reduceIte, not_true_eq_false, not_false_eq_true, decide_false, decide_true, and_self, and_true, true_and, and_false, false_and, Bool.false_eq_true, Bool.not_false, Bool.not_true, r0, bs, cm, y, f_X12_givenOf_137, f_X12_givenOf_138]
theorem m_given25 {σ : Sg} {A : Nat → Nat} (hM : MA σ A) (c8 : A 0 ≤ 8) (hR : BR A) {T w s : Nat} (hs : s < 256) (rec : Int32 → Int32 → Int32 → Sg → Option (Int32 × Sg)) : f_X12_givenOf_25 rec FU (nI T) (nI w) (nI s) (nI 0) (nI 0) σ = f_X12_givenOf_72 rec FU (nI T) (nI w) (nI s) (nI (nb A s 8)) (nI 0) (nI 0) σ := by
  have r0 := hM.1 0 (by decide) (by decide) (by decide)
  rw [nb_8 hR c8]
  refine lp (fun fu (q : Int32 × Int32) => f_X12_givenOf_25 rec fu (nI T) (nI w) (nI s) q.1 q.2 σ) (fun i => (nI (nb A s i), nI i)) (A 0) (fun i hi fu => ?_) (fun fu => ?_) FU (by unfold FU; omega)
  · have mh := m_has hs (by omega : i < 9) σ
    have mb := m_beside hM c8 hR (h := i) (by omega)
    dsimp only
    rw [f_X12_givenOf_25]
    cases q : s.testBit i with
    | true =>
      rw [if_pos q] at mh
      rw [nb_1 q]
      clear hR
      simp (disch := omega) only [e_bnd, e_bndV, e_lt, e_grd, e_lit, e_le1, e_le2, e_lt1, e_lt2, e_eq1, e_eq2, e_inb, e_ix, nI_add, pk_mul, e_sub, e_b0, e_b1, e_bz, e_bz0, e_bz1, Bool.and_true, Bool.true_and, ↓reduceIte, not_true_eq_false, not_false_eq_true, decide_false, decide_true, and_self, and_true, true_and, and_false, false_and, Bool.false_eq_true, Bool.not_false, Bool.not_true, r0, mh, mb, or_I, f_X12_givenOf_57]
    | false =>
      rw [if_neg (by rw [q]; decide)] at mh
      rw [nb_0 q]
      clear hR
      simp (disch := omega) only [e_bnd, e_bndV, e_lt, e_grd, e_lit, e_le1, e_le2, e_lt1, e_lt2, e_eq1, e_eq2, e_inb, e_ix, nI_add, pk_mul, e_sub, e_b0, e_b1, e_bz, e_bz0, e_bz1, Bool.and_true, Bool.true_and, ↓reduceIte, not_true_eq_false, not_false_eq_true, decide_false, decide_true, and_self, and_true, true_and, and_false, false_and, Bool.false_eq_true, Bool.not_false, Bool.not_true, r0, mh, or_I, Nat.or_zero, f_X12_givenOf_57]
  · dsimp only
    rw [f_X12_givenOf_25]
    clear hR
    simp (disch := omega) only [e_bnd, e_bndV, e_lt, e_grd, e_lit, e_le1, e_le2, e_lt1, e_lt2, e_eq1, e_eq2, e_inb, e_ix, nI_add, pk_mul, e_sub, e_b0, e_b1, e_bz, e_bz0, e_bz1, Bool.and_true, Bool.true_and, ↓reduceIte, not_true_eq_false, not_false_eq_true, decide_false, decide_true, and_self, and_true, true_and, and_false, false_and, Bool.false_eq_true, Bool.not_false, Bool.not_true, r0]
theorem sb_iff : ∀ T, T < 256 → ∀ s, s < 256 → (nI s &&& nI (4294967295 - T) = nI 0 ↔ s &&& T = s) := by
  intro T hT s hs
  rw [and_I]
  have e : s &&& (4294967295 - T) = s &&& (255 ^^^ T) := by
    have q : ∀ T, T < 256 → (4294967295 - T) % 256 = 255 ^^^ T := by decide +kernel
    rw [← q T hT]
    have m := Nat.and_mod_two_pow (a := s) (b := 4294967295 - T) (n := 8)
    have l1 : s &&& (4294967295 - T) < 256 := and_lt8 hs
    rw [show (2 : Nat) ^ 8 = 256 from rfl, Nat.mod_eq_of_lt l1, Nat.mod_eq_of_lt hs] at m
    exact m
  rw [e, nI_eq (by have := and_lt8 (b := 255 ^^^ T) hs; omega) (by decide)]
  have x255 : ∀ i, i < 8 → (255 ^^^ T).testBit i = !T.testBit i := by
    intro i hi
    have q : ∀ i, i < 8 → (255 : Nat).testBit i = true := by decide
    rw [Nat.testBit_xor, q i hi]
    cases T.testBit i <;> rfl
  constructor
  · intro z
    refine bit_eq (and_lt8 hs) hs fun i hi => ?_
    have := congrArg (fun n => n.testBit i) z
    simp only [Nat.testBit_and, Nat.zero_testBit, x255 i hi] at this
    rw [Nat.testBit_and]
    cases h1 : s.testBit i <;> cases h2 : T.testBit i <;> simp_all
  · intro z
    refine bit_eq (and_lt8 hs) (by decide) fun i hi => ?_
    have := congrArg (fun n => n.testBit i) z
    simp only [Nat.testBit_and] at this
    rw [Nat.testBit_and, x255 i hi, Nat.zero_testBit]
    cases h1 : s.testBit i <;> cases h2 : T.testBit i <;> simp_all
theorem sb_and {s T : Nat} (hs : s < 256) : s &&& T = s ↔ sb s T := by
  constructor
  · intro z i _ q
    have := congrArg (fun n => n.testBit i) z
    simp only [Nat.testBit_and, q, Bool.true_and] at this
    exact this
  · intro z
    refine bit_eq (and_lt8 hs) hs fun i hi => ?_
    rw [Nat.testBit_and]
    cases q : s.testBit i with
    | true => rw [z i hi q]; rfl
    | false => rfl
theorem m_givenOf {σ : Sg} {A r : Nat → Nat} {E : Nat} (hM : MA σ A) (c8 : A 0 ≤ 8) (hRR : BR A) (hE : E ≤ 8) (hr : ∀ g, g < 8 → r g ≤ E) (hR : RM σ A r) {T : Nat} (hT : T < 256) (hO : ∀ h, h < 8 → T.testBit h = true → (fires A 0 0).testBit h = true) : ∃ d : Nat, isD (mayO A) r T d ∧ f_X12_givenOf (nI T) σ = some (nI (pc8 T - d), σ) := by
  have r0 := hM.1 0 (by decide) (by decide) (by decide)
  have val : ∀ s, s < 256 → sb s T → ((pc8 s - cp (fun g => if (mayG A).testBit g = true then r g else 0) (nb A s 8) (A 0) : Nat) : Int) = max 0 (df (mayO A) r s) := by
    intro s hs hb
    have c := cp_nb (A := A) r (S := s) (fun h h1 h2 => hO h h1 (hb h h1 h2))
    have cc := cp_cut (r := fun g => if (mayG A).testBit g = true then r g else 0) (m := nb A s 8) (c := A 0) (fun g h1 h2 => by
      have : ¬ (mayG A).testBit g = true := fun q => by
        have := mayG_in q
        omega
      show (if _ then (if (mayG A).testBit g = true then r g else 0) else 0) = 0
      rw [if_neg this, ite_self]) (8 - A 0) (by omega)
    rw [show A 0 + (8 - A 0) = 8 by omega] at cc
    rw [← cc, c]
    unfold df
    omega
  have loop : ∀ (s w : Nat), s ≤ T → w ≤ 8 → (∃ S, S < 256 ∧ sb S T ∧ df (mayO A) r S = w) → (∀ S, S < 256 → sb S T → s < S → df (mayO A) r S ≤ w) → ∀ fu, s < fu → ∃ d : Nat, isD (mayO A) r T d ∧ f_X12_givenOf_4 fu (nI T) (nI w) (nI s) σ = some (nI (pc8 T - d), σ) := by
    intro s
    induction s with
    | zero =>
      intro w _ hw h1 h2 fu hf
      obtain ⟨f, rfl⟩ : ∃ f, fu = f + 1 := ⟨fu - 1, by omega⟩
      have hD : isD (mayO A) r T w := ⟨fun S s1 s2 => by
        by_cases z : 0 < S
        · exact h2 S s1 s2 z
        · have : S = 0 := by omega
          subst this
          rw [df_0]
          omega, h1⟩
      refine ⟨w, hD, ?_⟩
      have le := isD_le hT hD
      have bs := f_bits_eq hT σ
      rw [f_X12_givenOf_4]
      clear h1 h2 hD hR hr val hRR hO
      simp (disch := omega) only [e_bnd, e_bndV, e_lt, e_grd, e_lit, e_le1, e_le2, e_lt1, e_lt2, e_eq1, e_eq2, e_inb, e_ix, nI_add, pk_mul, e_sub, e_b0, e_b1, e_bz, e_bz0, e_bz1, Bool.and_true, Bool.true_and, ↓reduceIte, not_true_eq_false, not_false_eq_true, decide_false, decide_true, and_self, and_true, true_and, and_false, false_and, Bool.false_eq_true, Bool.not_false, Bool.not_true, bs]
    | succ s ih =>
      intro w hs hw h1 h2 fu hf
      obtain ⟨f, rfl⟩ : ∃ f, fu = f + 1 := ⟨fu - 1, by omega⟩
      have xT : nI T ^^^ -nI 1 = nI (4294967295 - T) := xI T hT
      have q := sb_iff T hT (s + 1) (by omega)
      have dec : nI (s + 1) + -1 = nI s := by
        rw [show (-1 : Int32) = iI (-1) from rfl, ← iI_n, iI_add, ← iI_n]
        congr 1
        omega
      have dec2 : nI (s + 1) + -nI 1 = nI s := dec
      have p8 := pc8_le (s + 1)
      by_cases z : sb (s + 1) T
      · have z1 := q.mpr ((sb_and (by omega)).mpr z)
        have v := val (s + 1) (by omega) z
        obtain ⟨d, d1, d2⟩ := ih (max w (pc8 (s + 1) - cp (fun g => if (mayG A).testBit g = true then r g else 0) (nb A (s + 1) 8) (A 0))) (by omega) (by omega) (by
          by_cases y : df (mayO A) r (s + 1) ≤ w
          · obtain ⟨S, s1, s2, s3⟩ := h1
            exact ⟨S, s1, s2, by omega⟩
          · exact ⟨s + 1, by omega, z, by omega⟩) (fun S s1 s2 s3 => by
          by_cases y : S = s + 1
          · subst y; omega
          · have := h2 S s1 s2 (by omega)
            omega) f (by omega)
        refine ⟨d, d1, ?_⟩
        have g1 := m_given25 hM c8 hRR (T := T) (w := w) (s := s + 1) (by omega) (f_X12_givenOf_4 f)
        have g2 := m_given72 r0 c8 hE hr hR (T := T) (w := w) (s := s + 1) (b := nb A (s + 1) 8) (by omega) (nb_lt _ _ _) hw (f_X12_givenOf_4 f)
        rw [dec, d2] at g2
        rw [g2] at g1
        rw [f_X12_givenOf_4]
        clear ih h1 h2 hR hr val hRR hO g2 d1 d2
        simp (disch := omega) only [e_bnd, e_bndV, e_lt, e_grd, e_lit, e_le1, e_le2, e_lt1, e_lt2, e_eq1, e_eq2, e_inb, e_ix, nI_add, pk_mul, e_sub, e_b0, e_b1, e_bz, e_bz0, e_bz1, Bool.and_true, Bool.true_and, ↓reduceIte, not_true_eq_false, not_false_eq_true, decide_false, decide_true, and_self, and_true, true_and, and_false, false_and, Bool.false_eq_true, Bool.not_false, Bool.not_true, xT, z1]
        exact g1
      · have z1 : ¬ (nI (s + 1) &&& nI (4294967295 - T) = nI 0) := fun y => z ((sb_and (by omega)).mp (q.mp y))
        obtain ⟨d, d1, d2⟩ := ih w (by omega) hw h1 (fun S s1 s2 s3 => by
          by_cases y : S = s + 1
          · subst y; exact absurd s2 z
          · exact h2 S s1 s2 (by omega)) f (by omega)
        refine ⟨d, d1, ?_⟩
        rw [f_X12_givenOf_4]
        clear ih h1 h2 hR hr val hRR hO d1
        simp (disch := omega) only [e_bnd, e_bndV, e_lt, e_grd, e_lit, e_le1, e_le2, e_lt1, e_lt2, e_eq1, e_eq2, e_inb, e_ix, nI_add, pk_mul, e_sub, e_b0, e_b1, e_bz, e_bz0, e_bz1, Bool.and_true, Bool.true_and, ↓reduceIte, not_true_eq_false, not_false_eq_true, decide_false, decide_true, and_self, and_true, true_and, and_false, false_and, Bool.false_eq_true, Bool.not_false, Bool.not_true, xT, z1, f_X12_givenOf_138]
        rw [dec2]
        exact d2
  obtain ⟨d, d1, d2⟩ := loop T 0 (Nat.le_refl _) (by decide) ⟨0, by decide, sb_0 T, df_0 _ _⟩ (fun S s1 s2 s3 => by
    have : S ≤ T := by
      have := (sb_and s1).mpr s2
      rw [← this]
      exact Nat.and_le_right
    omega) FU (by unfold FU; omega)
  refine ⟨d, d1, ?_⟩
  unfold f_X12_givenOf
  simp (disch := omega) only [e_lit]
  exact d2
