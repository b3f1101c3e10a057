/-! METHODS: again -/
theorem xm2 (s a b : Nat) : nI s &&& ((nI a ^^^ -nI 1) &&& (nI b ^^^ -nI 1)) = nI (mi (mi s a) b) := by
  rw [← xm1, ← xm1, Int32.and_assoc]
/-- the partner of h among S, d turns at most -/
def pa (A : Nat → Nat) (h : Nat) : Nat → Nat → Int32
  | 0, _ => -nI 1
  | d + 1, S => if S = 0 then -nI 1 else if low S = h then pv (bp A (PP A) S 8) else if bp A (PP A) S 8 = some h then nI (low S) else pa A h d (rst2 S (low S) ((bp A (PP A) S 8).getD 8))
theorem x_again14 {σ : Sg} {A : Nat → Nat} (hR : BR A) (c8 : A 0 ≤ 8) (hj : jo A = 1) (hX : XV A (od A + 1) σ) {h : Nat} (hh : h < 8) : ∀ d k S, d + k = 4 → S ≤ od A → ev A S → ∀ fu, d < fu → f_X9_partner_14 8 fu (nI h) (nI S) (nI k) σ = some (pa A h d S, σ)
  | 0, k, S, hk, hS, he, fu, hf => by
    obtain ⟨f, rfl⟩ : ∃ f, fu = f + 1 := ⟨fu - 1, by omega⟩
    have e : pa A h 0 S = -nI 1 := rfl
    rw [e, f_X9_partner_14]
    clear hX he
    simp (disch := omega) only [e_bnd, e_bndV, e_lt, e_grd, e_lit, e_le1, e_le2, e_lt1, e_lt2, e_eq1, e_eq2, e_inb, e_ix, nI_add, pk_mul, e_sub, e_b0, e_b1, e_bz, e_bz0, e_bz1, Bool.and_true, Bool.true_and, ↓reduceIte, not_true_eq_false, not_false_eq_true, decide_false, decide_true, and_self, and_true, true_and, and_false, false_and, Bool.false_eq_true, Bool.not_false, Bool.not_true, f_X9_partner_83]
  | d + 1, k, S, hk, hS, he, fu, hf => by
    obtain ⟨f, rfl⟩ : ∃ f, fu = f + 1 := ⟨fu - 1, by omega⟩
    have ho : od A < 256 := mk8 _ (by decide)
    have hS8 : S < 256 := by omega
    have e : pa A h (d + 1) S = if S = 0 then -nI 1 else if low S = h then pv (bp A (PP A) S 8) else if bp A (PP A) S 8 = some h then nI (low S) else pa A h d (rst2 S (low S) ((bp A (PP A) S 8).getD 8)) := rfl
    by_cases z : S = 0
    · rw [if_pos z] at e
      rw [e, f_X9_partner_14]
      clear hX he
      simp (disch := omega) only [e_bnd, e_bndV, e_lt, e_grd, e_lit, e_le1, e_le2, e_lt1, e_lt2, e_eq1, e_eq2, e_inb, e_ix, nI_add, pk_mul, e_sub, e_b0, e_b1, e_bz, e_bz0, e_bz1, Bool.and_true, Bool.true_and, ↓reduceIte, not_true_eq_false, not_false_eq_true, decide_false, decide_true, and_self, and_true, true_and, and_false, false_and, Bool.false_eq_true, Bool.not_false, Bool.not_true, f_X9_partner_83]
    · rw [if_neg z] at e
      obtain ⟨l1, l2, l3⟩ := lw8_t S hS8 z
      have xl := x_lowOf (σ := σ) hS8 l1 l2 l3
      have hXS : XV A S σ := ⟨hX.1, fun r hr er => hX.2 r (by omega) er⟩
      have xp := x_lowestPartner hR hXS hS8 z he
      obtain ⟨p, p1, p2, p3, p4, _, _, _⟩ := bp_PP hR c8 hj hS8 z he
      have er := ev_rst hS8 l1 p2 l2 p4 (by omega) he
      obtain ⟨_, r2⟩ := rst2_pc hS8 l1 p2 l2 p4 (by omega)
      have ih := x_again14 hR c8 hj hX hh d (k + 1) _ (by omega) (by omega) er f (by omega)
      have ps : ∀ x, pv (some x) = nI x := fun _ => rfl
      rw [p1, ps] at xp
      rw [p1, ps] at e
      rw [f_X9_partner_14]
      clear l3 hX hXS he er
      by_cases y : low S = h
      · rw [if_pos y] at e
        rw [e]
        simp (disch := omega) only [e_bnd, e_bndV, e_lt, e_grd, e_lit, e_le1, e_le2, e_lt1, e_lt2, e_eq1, e_eq2, e_inb, e_ix, nI_add, pk_mul, e_sub, e_b0, e_b1, e_bz, e_bz0, e_bz1, Bool.and_true, Bool.true_and, ↓reduceIte, not_true_eq_false, not_false_eq_true, decide_false, decide_true, and_self, and_true, true_and, and_false, false_and, Bool.false_eq_true, Bool.not_false, Bool.not_true, xl, xp, y, f_X9_partner_49, f_X9_partner_62]
      · rw [if_neg y] at e
        by_cases w : p = h
        · rw [if_pos (by rw [w])] at e
          rw [e]
          simp (disch := omega) only [e_bnd, e_bndV, e_lt, e_grd, e_lit, e_le1, e_le2, e_lt1, e_lt2, e_eq1, e_eq2, e_inb, e_ix, nI_add, pk_mul, e_sub, e_b0, e_b1, e_bz, e_bz0, e_bz1, Bool.and_true, Bool.true_and, ↓reduceIte, not_true_eq_false, not_false_eq_true, decide_false, decide_true, and_self, and_true, true_and, and_false, false_and, Bool.false_eq_true, Bool.not_false, Bool.not_true, xl, xp, y, w, f_X9_partner_49, f_X9_partner_62]
        · rw [if_neg (fun q => w (Option.some.inj q))] at e
          rw [e]
          simp (disch := omega) only [e_bnd, e_bndV, e_lt, e_grd, e_lit, e_le1, e_le2, e_lt1, e_lt2, e_eq1, e_eq2, e_inb, e_ix, nI_add, pk_mul, e_sub, e_b0, e_b1, e_bz, e_bz0, e_bz1, Bool.and_true, Bool.true_and, ↓reduceIte, not_true_eq_false, not_false_eq_true, decide_false, decide_true, and_self, and_true, true_and, and_false, false_and, Bool.false_eq_true, Bool.not_false, Bool.not_true, xl, xp, y, w, sh1, or_I, xm1, rst2_e]
          exact ih
theorem pa_no {A : Nat → Nat} (hR : BR A) (c8 : A 0 ≤ 8) (hj : jo A = 1) {h : Nat} : ∀ d S, S < 256 → ev A S → h < 8 → S.testBit h = false → pa A h d S = -nI 1
  | 0, _, _, _, _, _ => rfl
  | d + 1, S, hS, he, hh, q => by
    show (if S = 0 then -nI 1 else if low S = h then pv (bp A (PP A) S 8) else if bp A (PP A) S 8 = some h then nI (low S) else pa A h d (rst2 S (low S) ((bp A (PP A) S 8).getD 8))) = _
    by_cases z : S = 0
    · rw [if_pos z]
    · obtain ⟨l1, l2, l3⟩ := lw8_t S hS z
      obtain ⟨p, p1, p2, p3, p4, _, _, _⟩ := bp_PP hR c8 hj hS z he
      rw [if_neg z, if_neg (fun y => by rw [y, q] at l2; exact absurd l2 (by decide)), p1, if_neg (fun y => by rw [Option.some.inj y, q] at p4; exact absurd p4 (by decide))]
      have gd : (some p).getD 8 = p := rfl
      rw [gd]
      refine pa_no hR c8 hj d _ (rst2_lt hS _ _) (ev_rst hS l1 p2 l2 p4 (by omega) he) hh ?_
      rw [rst2_bit hh, q, Bool.false_and]
theorem m_again37 {σ : Sg} {A : Nat → Nat} (hR : BR A) (c8 : A 0 ≤ 8) (hj : jo A = 1) (hL : LM (A 0) σ (wy A)) (hP : ∀ r, r ≤ al (A 0) → σ.1 11 r = nI (PP A r)) {h : Nat} (hh : h < 8) : ∀ d S, S ≤ al (A 0) → ev A S → S.testBit h = true → pc8 S ≤ 2 * d → ∀ fu, d < fu → f_X12_again_37 fu (nI h) (nI S) σ = some (pa A h d S, σ)
  | 0, S, hS, he, hb, hp, fu, hf => by
    have hS8 : S < 256 := by have := al_lt (A 0) (by omega); omega
    have z := bit_ne0 hb
    obtain ⟨e, e1, e2, e3⟩ := ev_two S hS8 z he.2
    obtain ⟨l1, l2, l3⟩ := lw8_t S hS8 z
    have := (rst2_pc hS8 l1 e1 l2 e3 (by omega)).1
    omega
  | d + 1, S, hS, he, hb, hp, fu, hf => by
    obtain ⟨f, rfl⟩ : ∃ f, fu = f + 1 := ⟨fu - 1, by omega⟩
    have hal := al_lt (A 0) (by omega)
    have hS8 : S < 256 := by omega
    have z := bit_ne0 hb
    have e : pa A h (d + 1) S = if S = 0 then -nI 1 else if low S = h then pv (bp A (PP A) S 8) else if bp A (PP A) S 8 = some h then nI (low S) else pa A h d (rst2 S (low S) ((bp A (PP A) S 8).getD 8)) := rfl
    rw [if_neg z] at e
    obtain ⟨l1, l2, l3⟩ := lw8_t S hS8 z
    have ml := m_lowOf (σ := σ) hS8 l1 l2 l3
    obtain ⟨p, p1, p2, p3, p4, p5, p6, p7⟩ := bp_PP hR c8 hj hS8 z he
    have er := ev_rst hS8 l1 p2 l2 p4 (by omega) he
    obtain ⟨r1, r2⟩ := rst2_pc hS8 l1 p2 l2 p4 (by omega)
    have ps : ∀ x, pv (some x) = nI x := fun _ => rfl
    rw [p1, ps] at e
    have hin := al_le hS c8
    have lc := hin _ l1 l2
    have cS := hP S hS
    have bS := PP_le (A := A) hS8
    have inner : f_X12_again_47 (f_X12_again_37 f) FU (nI h) (nI S) (nI (low S)) (nI (low S + 1 + 0)) σ = some (pa A h (d + 1) S, σ) := by
      refine lp (fun fu (q : Int32) => f_X12_again_47 (f_X12_again_37 f) fu (nI h) (nI S) (nI (low S)) q σ) (fun i => nI (low S + 1 + i)) (p - (low S + 1)) (fun i hi fu => ?_) (fun fu => ?_) FU (by unfold FU; omega)
      · obtain ⟨c, hc⟩ : ∃ c, c = low S + 1 + i := ⟨_, rfl⟩
        have mh := m_has hS8 (by omega : c < 9) σ
        have e2 : nI (low S + 1 + (i + 1)) = nI (c + 1) := by rw [hc]; rfl
        rw [e2, ← hc, f_X12_again_47]
        by_cases y : S.testBit c = true
        · have ne := p7 c (by omega) (by omega) y
          obtain ⟨_, rr⟩ := rst2_pc hS8 l1 (by omega : c < 8) l2 y (by omega)
          have rl := rst2_lt hS8 (low S) c
          have c1 := hL (low S) c lc (hin c (by omega) y)
          have c2 := hP (rst2 S (low S) c) (by omega)
          have b1 := wy_le hR (8 * low S + c)
          have b2 := PP_le (A := A) rl
          have rm := rst2_m hS8 (a := low S) (b := c)
          have wve : wv A (PP A) S c = wy A (8 * low S + c) + PP A (rst2 S (low S) c) := rfl
          rw [wve] at ne
          rw [if_pos y] at mh
          clear hL hP hin l3 er he p7 p5 e
          simp (disch := omega) only [e_bnd, e_bndV, e_lt, e_grd, e_lit, e_le1, e_le2, e_lt1, e_lt2, e_eq1, e_eq2, e_inb, e_ix, nI_add, pk_mul, e_sub, e_b0, e_b1, e_bz, e_bz0, e_bz1, Bool.and_true, Bool.true_and, ↓reduceIte, not_true_eq_false, not_false_eq_true, decide_false, decide_true, and_self, and_true, true_and, and_false, false_and, Bool.false_eq_true, Bool.not_false, Bool.not_true, mh, sh1, xm1, rm, c1, c2, cS, ne, f_X12_again_97]
        · rw [if_neg y] at mh
          clear hL hP hin l3 er he p7 p5 e
          simp (disch := omega) only [e_bnd, e_bndV, e_lt, e_grd, e_lit, e_le1, e_le2, e_lt1, e_lt2, e_eq1, e_eq2, e_inb, e_ix, nI_add, pk_mul, e_sub, e_b0, e_b1, e_bz, e_bz0, e_bz1, Bool.and_true, Bool.true_and, ↓reduceIte, not_true_eq_false, not_false_eq_true, decide_false, decide_true, and_self, and_true, true_and, and_false, false_and, Bool.false_eq_true, Bool.not_false, Bool.not_true, mh, f_X12_again_97]
      · have mh := m_has hS8 (by omega : p < 9) σ
        rw [if_pos p4] at mh
        have rl := rst2_lt hS8 (low S) p
        have c1 := hL (low S) p lc (hin p p2 p4)
        have c2 := hP (rst2 S (low S) p) (by omega)
        have b1 := wy_le hR (8 * low S + p)
        have b2 := PP_le (A := A) rl
        have rm := rst2_m hS8 (a := low S) (b := p)
        have wve : wv A (PP A) S p = wy A (8 * low S + p) + PP A (rst2 S (low S) p) := rfl
        have eq : wy A (8 * low S + p) + PP A (rst2 S (low S) p) = PP A S := by rw [← wve]; exact p5.symm
        rw [show low S + 1 + (p - (low S + 1)) = p by omega, f_X12_again_47]
        by_cases y : low S = h
        · rw [if_pos y] at e
          rw [e]
          have y2 := y.symm
          clear hL hP hin l3 er he p7 p5 e wve
          simp (disch := omega) only [e_bnd, e_bndV, e_lt, e_grd, e_lit, e_le1, e_le2, e_lt1, e_lt2, e_eq1, e_eq2, e_inb, e_ix, nI_add, pk_mul, e_sub, e_b0, e_b1, e_bz, e_bz0, e_bz1, Bool.and_true, Bool.true_and, ↓reduceIte, not_true_eq_false, not_false_eq_true, decide_false, decide_true, and_self, and_true, true_and, and_false, false_and, Bool.false_eq_true, Bool.not_false, Bool.not_true, mh, sh1, xm1, rm, c1, c2, cS, eq]
        · rw [if_neg y] at e
          by_cases w : p = h
          · rw [if_pos (by rw [w])] at e
            rw [e]
            clear hL hP hin l3 er he p7 p5 e wve
            simp (disch := omega) only [e_bnd, e_bndV, e_lt, e_grd, e_lit, e_le1, e_le2, e_lt1, e_lt2, e_eq1, e_eq2, e_inb, e_ix, nI_add, pk_mul, e_sub, e_b0, e_b1, e_bz, e_bz0, e_bz1, Bool.and_true, Bool.true_and, ↓reduceIte, not_true_eq_false, not_false_eq_true, decide_false, decide_true, and_self, and_true, true_and, and_false, false_and, Bool.false_eq_true, Bool.not_false, Bool.not_true, mh, sh1, xm1, rm, c1, c2, cS, eq]
          · rw [if_neg (fun q => w (Option.some.inj q))] at e
            have hb2 : (rst2 S (low S) p).testBit h = true := by
              rw [rst2_bit hh, hb, decide_eq_false y, decide_eq_false w]
              rfl
            have ih := m_again37 hR c8 hj hL hP hh d _ (by omega) er hb2 (by omega) f (by omega)
            have gd : (some p).getD 8 = p := rfl
            rw [e, gd]
            clear hL hP hin l3 er he p7 p5 e wve
            simp (disch := omega) only [e_bnd, e_bndV, e_lt, e_grd, e_lit, e_le1, e_le2, e_lt1, e_lt2, e_eq1, e_eq2, e_inb, e_ix, nI_add, pk_mul, e_sub, e_b0, e_b1, e_bz, e_bz0, e_bz1, Bool.and_true, Bool.true_and, ↓reduceIte, not_true_eq_false, not_false_eq_true, decide_false, decide_true, and_self, and_true, true_and, and_false, false_and, Bool.false_eq_true, Bool.not_false, Bool.not_true, mh, sh1, xm1, xm2, rm, c1, c2, cS, eq]
            exact ih
    rw [f_X12_again_37]
    clear hL hP hin l3 er he p7 p5 e
    simp (disch := omega) only [e_bnd, e_bndV, e_lt, e_grd, e_lit, e_le1, e_le2, e_lt1, e_lt2, e_eq1, e_eq2, e_inb, e_ix, nI_add, pk_mul, e_sub, e_b0, e_b1, e_bz, e_bz0, e_bz1, Bool.and_true, Bool.true_and, ↓reduceIte, not_true_eq_false, not_false_eq_true, decide_false, decide_true, and_self, and_true, true_and, and_false, false_and, Bool.false_eq_true, Bool.not_false, Bool.not_true, ml]
    exact inner
theorem g_again {κ : Kd} {T : TD} (v : Int32) : GO κ T (f_X11_again v) (f_X12_again v) := by
  intro σX σM ⟨A, B, I⟩
  have hM := I.2.1
  have hB := I.1.1
  have c8 := hB.1
  have hR := I.1.2.2.1
  have xo := x_odds I.xr
  have mo := m_odds hM c8 hR
  have xh := x_hang I.xr hR c8
  have mj := m_joined hM hB hR
  unfold f_X11_again f_X12_again
  rcases I.told v with ⟨e1, e2, _⟩ | ⟨h, hh, rfl, e1, e2⟩
  · exact I.q (r := -nI 1) (by simp (disch := omega) only [e_bnd, e_bndV, e_lt, e_grd, e_lit, e_le1, e_le2, e_lt1, e_lt2, e_eq1, e_eq2, e_inb, e_ix, nI_add, pk_mul, e_sub, e_b0, e_b1, e_bz, e_bz0, e_bz1, Bool.and_true, Bool.true_and, ↓reduceIte, not_true_eq_false, not_false_eq_true, decide_false, decide_true, and_self, and_true, true_and, and_false, false_and, Bool.false_eq_true, Bool.not_false, Bool.not_true, e1, f_X11_again_27]) (by simp (disch := omega) only [e_bnd, e_bndV, e_lt, e_grd, e_lit, e_le1, e_le2, e_lt1, e_lt2, e_eq1, e_eq2, e_inb, e_ix, nI_add, pk_mul, e_sub, e_b0, e_b1, e_bz, e_bz0, e_bz1, Bool.and_true, Bool.true_and, ↓reduceIte, not_true_eq_false, not_false_eq_true, decide_false, decide_true, and_self, and_true, true_and, and_false, false_and, Bool.false_eq_true, Bool.not_false, Bool.not_true, e2, f_X12_again_26])
  have ho : od A < 256 := mk8 _ (by decide)
  have mh := m_has ho (by omega : h < 9) σM
  rcases jo_or A with j | j
  · rw [j] at xh mj
    refine I.q (r := -nI 1) (by simp (disch := omega) only [e_bnd, e_bndV, e_lt, e_grd, e_lit, e_le1, e_le2, e_lt1, e_lt2, e_eq1, e_eq2, e_inb, e_ix, nI_add, pk_mul, e_sub, e_b0, e_b1, e_bz, e_bz0, e_bz1, Bool.and_true, Bool.true_and, ↓reduceIte, not_true_eq_false, not_false_eq_true, decide_false, decide_true, and_self, and_true, true_and, and_false, false_and, Bool.false_eq_true, Bool.not_false, Bool.not_true, e1, xh, f_X11_again_27]) ?_
    by_cases q : (od A).testBit h = true
    · rw [if_pos q] at mh
      simp (disch := omega) only [e_bnd, e_bndV, e_lt, e_grd, e_lit, e_le1, e_le2, e_lt1, e_lt2, e_eq1, e_eq2, e_inb, e_ix, nI_add, pk_mul, e_sub, e_b0, e_b1, e_bz, e_bz0, e_bz1, Bool.and_true, Bool.true_and, ↓reduceIte, not_true_eq_false, not_false_eq_true, decide_false, decide_true, and_self, and_true, true_and, and_false, false_and, Bool.false_eq_true, Bool.not_false, Bool.not_true, e2, mo, mh, mj, f_X12_again_26]
    · rw [if_neg q] at mh
      simp (disch := omega) only [e_bnd, e_bndV, e_lt, e_grd, e_lit, e_le1, e_le2, e_lt1, e_lt2, e_eq1, e_eq2, e_inb, e_ix, nI_add, pk_mul, e_sub, e_b0, e_b1, e_bz, e_bz0, e_bz1, Bool.and_true, Bool.true_and, ↓reduceIte, not_true_eq_false, not_false_eq_true, decide_false, decide_true, and_self, and_true, true_and, and_false, false_and, Bool.false_eq_true, Bool.not_false, Bool.not_true, e2, mo, mh, mj, f_X12_again_26]
  · rw [j] at xh mj
    obtain ⟨sX, ⟨a1, a2⟩, a3⟩ := x_pairUp I.xr hR c8 j
    have xa := x_again14 hR c8 j a1 (by omega : h < 8) 4 0 (od A) (by omega) (Nat.le_refl _) (od_ev hR) FU (by unfold FU; omega)
    by_cases q : (od A).testBit h = true
    · rw [if_pos q] at mh
      obtain ⟨sM, ⟨b0, b1, b2⟩, b3⟩ := m_layPairs hM c8 hR
      have hMs : MA sM A := hM.of b2 (by intro a j q; omega)
      have mo2 := m_odds hMs c8 hR
      have ma := m_again37 hR c8 j b0 b1 (by omega : h < 8) 4 (od A) (od_al hR c8) (od_ev hR) q (by have := pc8_le (od A); omega) FU (by unfold FU; omega)
      have inv : Inv κ T sX sM := ⟨A, B, I.scr (a2.mono (fun a j q => by omega)) (b2.mono (fun a j q => by omega))⟩
      refine ⟨pa A h 4 (od A), sX, sM, ?_, ?_, inv⟩
      · clear a1 a2 b0 b1 b2 I
        simp (disch := omega) only [e_bnd, e_bndV, e_lt, e_grd, e_lit, e_le1, e_le2, e_lt1, e_lt2, e_eq1, e_eq2, e_inb, e_ix, nI_add, pk_mul, e_sub, e_b0, e_b1, e_bz, e_bz0, e_bz1, Bool.and_true, Bool.true_and, ↓reduceIte, not_true_eq_false, not_false_eq_true, decide_false, decide_true, and_self, and_true, true_and, and_false, false_and, Bool.false_eq_true, Bool.not_false, Bool.not_true, e1, xh, f_X9_partner, xo, a3, xa]
      · clear a1 a2 b0 b1 b2 I
        simp (disch := omega) only [e_bnd, e_bndV, e_lt, e_grd, e_lit, e_le1, e_le2, e_lt1, e_lt2, e_eq1, e_eq2, e_inb, e_ix, nI_add, pk_mul, e_sub, e_b0, e_b1, e_bz, e_bz0, e_bz1, Bool.and_true, Bool.true_and, ↓reduceIte, not_true_eq_false, not_false_eq_true, decide_false, decide_true, and_self, and_true, true_and, and_false, false_and, Bool.false_eq_true, Bool.not_false, Bool.not_true, e2, mo, mh, mj, b3, mo2, ma]
    · rw [if_neg q] at mh
      have no := pa_no hR c8 j 4 (od A) ho (od_ev hR) (by omega : h < 8) (Bool.eq_false_iff.mpr q)
      rw [no] at xa
      have inv : Inv κ T sX σM := ⟨A, B, I.scr (a2.mono (fun a j q => by omega)) fr.rfl⟩
      refine ⟨-nI 1, sX, σM, ?_, ?_, inv⟩
      · clear a1 a2 I
        simp (disch := omega) only [e_bnd, e_bndV, e_lt, e_grd, e_lit, e_le1, e_le2, e_lt1, e_lt2, e_eq1, e_eq2, e_inb, e_ix, nI_add, pk_mul, e_sub, e_b0, e_b1, e_bz, e_bz0, e_bz1, Bool.and_true, Bool.true_and, ↓reduceIte, not_true_eq_false, not_false_eq_true, decide_false, decide_true, and_self, and_true, true_and, and_false, false_and, Bool.false_eq_true, Bool.not_false, Bool.not_true, e1, xh, f_X9_partner, xo, a3, xa]
      · clear a1 a2 I
        simp (disch := omega) only [e_bnd, e_bndV, e_lt, e_grd, e_lit, e_le1, e_le2, e_lt1, e_lt2, e_eq1, e_eq2, e_inb, e_ix, nI_add, pk_mul, e_sub, e_b0, e_b1, e_bz, e_bz0, e_bz1, Bool.and_true, Bool.true_and, ↓reduceIte, not_true_eq_false, not_false_eq_true, decide_false, decide_true, and_self, and_true, true_and, and_false, false_and, Bool.false_eq_true, Bool.not_false, Bool.not_true, e2, mo, mh, f_X12_again_26]
