/-! METHODS: round, again -/
theorem and1_t : ∀ p, p < 9 → nI p &&& nI 1 = nI (p % 2) := by decide +kernel
theorem ne_m1 : ∀ p, p < 9 → ¬ nI p = -nI 1 := by decide +kernel
def pv : Option Nat → Int32
  | none => -nI 1
  | some e => nI e
theorem rst2_e (v a b : Nat) : mi v (2 ^ a ||| 2 ^ b) = rst2 v a b := rfl
/-- the class's tables, sets below n -/
def XV (A : Nat → Nat) (n : Nat) (σ : Sg) : Prop := (∀ x, x < 64 → σ.1 60 x = nI (wy A x)) ∧ ∀ r, r < n → ev A r → σ.1 61 r = nI (PP A r)
theorem x_with {σ : Sg} {A : Nat → Nat} (hR : BR A) {v e : Nat} (hX : XV A v σ) (hv : v < 256) (hn : v ≠ 0) (he : ev A v) (h8 : e < 8) (hl : low v < e) (hb : v.testBit e = true) : f_X9_with (nI v) (nI e) σ = some (nI (wv A (PP A) v e), σ) := by
  obtain ⟨l1, l2, l3⟩ := lw8_t v hv hn
  have xl := x_lowOf (σ := σ) hv l1 l2 l3
  obtain ⟨_, r2⟩ := rst2_pc hv l1 h8 l2 hb (by omega)
  have c1 := hX.1 (8 * low v + e) (by omega)
  have c2 := hX.2 _ r2 (ev_rst hv l1 h8 l2 hb (by omega) he)
  have rl := rst2_lt hv (low v) e
  have b1 := wy_le hR (8 * low v + e)
  have b2 := PP_le (A := A) rl
  have wve : wv A (PP A) v e = wy A (8 * low v + e) + PP A (rst2 v (low v) e) := rfl
  clear l3 hX
  unfold f_X9_with f_X9_between
  rw [wve]
  simp (disch := omega) only [e_bnd, e_bndV, e_lt, e_grd, e_lit, e_le1, e_le2, e_lt1, e_lt2, e_eq1, e_eq2, e_inb, e_ix, nI_add, pk_mul, e_sub, e_b0, e_b1, e_bz, e_bz0, e_bz1, Bool.and_true, Bool.true_and, ↓reduceIte, not_true_eq_false, not_false_eq_true, decide_false, decide_true, and_self, and_true, true_and, and_false, false_and, Bool.false_eq_true, Bool.not_false, Bool.not_true, xl, Nat.mul_comm (low v) 8, c1, sh1, or_I, xm1, rst2_e, c2]
theorem x_lowestPartner {σ : Sg} {A : Nat → Nat} (hR : BR A) {v : Nat} (hX : XV A v σ) (hv : v < 256) (hn : v ≠ 0) (he : ev A v) : f_X9_lowestPartner (nI v) σ = some (pv (bp A (PP A) v 8), σ) := by
  obtain ⟨l1, l2, l3⟩ := lw8_t v hv hn
  have xl := x_lowOf (σ := σ) hv l1 l2 l3
  have b0 : ∀ c, c ≤ low v + 1 → bp A (PP A) v c = none := by
    intro c
    induction c with
    | zero => exact fun _ => rfl
    | succ c ih =>
      intro h
      show (if low v < c ∧ v.testBit c = true then _ else _) = _
      rw [if_neg (by omega)]
      exact ih (by omega)
  have key : f_X9_lowestPartner_12 FU (nI v) (pv (bp A (PP A) v (low v + 1 + 0))) (nI (low v + 1 + 0)) σ = some (pv (bp A (PP A) v 8), σ) := by
    refine lp (fun fu (q : Int32 × Int32) => f_X9_lowestPartner_12 fu (nI v) q.1 q.2 σ) (fun i => (pv (bp A (PP A) v (low v + 1 + i)), nI (low v + 1 + i))) (7 - low v) (fun i hi fu => ?_) (fun fu => ?_) FU (by unfold FU; omega)
    · obtain ⟨e, hed⟩ : ∃ e, e = low v + 1 + i := ⟨_, rfl⟩
      have e1 : bp A (PP A) v (low v + 1 + (i + 1)) = if low v < e ∧ v.testBit e = true then (match bp A (PP A) v e with
        | none => some e
        | some p => if wv A (PP A) v p ≤ wv A (PP A) v e then some p else some e) else bp A (PP A) v e := by rw [hed]; rfl
      have e2 : nI (low v + 1 + (i + 1)) = nI (e + 1) := by rw [hed]; rfl
      dsimp only
      rw [e2, ← hed, f_X9_lowestPartner_12]
      have ps : ∀ x, pv (some x) = nI x := fun _ => rfl
      have pn : pv none = -nI 1 := rfl
      by_cases z : v.testBit e = true
      · have hb := e_hbT hv (by omega : e < 9) z
        have we := x_with hR hX hv hn he (by omega) (by omega) z
        rw [if_pos ⟨by omega, z⟩] at e1
        rcases bp_ok (A := A) (P := PP A) (v := v) e with ⟨b1, b2, b3⟩ | ⟨p, b1, b2, b3, b4, b5, b6, b7⟩
        · rw [b1] at e1
          dsimp only at e1
          rw [e1, b1]
          clear l3 b0 hX e1 b3
          simp (disch := omega) only [e_bnd, e_bndV, e_lt, e_grd, e_lit, e_le1, e_le2, e_lt1, e_lt2, e_eq1, e_eq2, e_inb, e_ix, nI_add, pk_mul, e_sub, e_b0, e_b1, e_bz, e_bz0, e_bz1, Bool.and_true, Bool.true_and, ↓reduceIte, not_true_eq_false, not_false_eq_true, decide_false, decide_true, and_self, and_true, true_and, and_false, false_and, Bool.false_eq_true, Bool.not_false, Bool.not_true, ps, pn, hb, f_X9_lowestPartner_34, f_X9_lowestPartner_62, f_X9_lowestPartner_65]
        · have wp := x_with hR hX hv hn he (by omega) b3 b4
          have pl := ne_m1 p (by omega)
          have v1 := PP_le (A := A) (rst2_lt hv (low v) p)
          have v2 := PP_le (A := A) (rst2_lt hv (low v) e)
          have u1 := wy_le hR (8 * low v + p)
          have u2 := wy_le hR (8 * low v + e)
          have w1 : wv A (PP A) v p = wy A (8 * low v + p) + PP A (rst2 v (low v) p) := rfl
          have w2 : wv A (PP A) v e = wy A (8 * low v + e) + PP A (rst2 v (low v) e) := rfl
          rw [b1] at e1
          dsimp only at e1
          by_cases y : wv A (PP A) v p ≤ wv A (PP A) v e
          · rw [if_pos y] at e1
            rw [e1, b1]
            clear l3 b0 hX e1 b5 b6 b7
            simp (disch := omega) only [e_bnd, e_bndV, e_lt, e_grd, e_lit, e_le1, e_le2, e_lt1, e_lt2, e_eq1, e_eq2, e_inb, e_ix, nI_add, pk_mul, e_sub, e_b0, e_b1, e_bz, e_bz0, e_bz1, Bool.and_true, Bool.true_and, ↓reduceIte, not_true_eq_false, not_false_eq_true, decide_false, decide_true, and_self, and_true, true_and, and_false, false_and, Bool.false_eq_true, Bool.not_false, Bool.not_true, ps, hb, we, wp, pl, f_X9_lowestPartner_34, f_X9_lowestPartner_62, f_X9_lowestPartner_65]
          · rw [if_neg y] at e1
            rw [e1, b1]
            clear l3 b0 hX e1 b5 b6 b7
            simp (disch := omega) only [e_bnd, e_bndV, e_lt, e_grd, e_lit, e_le1, e_le2, e_lt1, e_lt2, e_eq1, e_eq2, e_inb, e_ix, nI_add, pk_mul, e_sub, e_b0, e_b1, e_bz, e_bz0, e_bz1, Bool.and_true, Bool.true_and, ↓reduceIte, not_true_eq_false, not_false_eq_true, decide_false, decide_true, and_self, and_true, true_and, and_false, false_and, Bool.false_eq_true, Bool.not_false, Bool.not_true, ps, hb, we, wp, pl, f_X9_lowestPartner_34, f_X9_lowestPartner_62, f_X9_lowestPartner_65]
      · have hb := e_hbF hv (by omega : e < 9) (Bool.eq_false_iff.mpr z)
        rw [if_neg (fun y => z y.2)] at e1
        rw [e1]
        clear l3 b0 hX e1
        simp (disch := omega) only [e_bnd, e_bndV, e_lt, e_grd, e_lit, e_le1, e_le2, e_lt1, e_lt2, e_eq1, e_eq2, e_inb, e_ix, nI_add, pk_mul, e_sub, e_b0, e_b1, e_bz, e_bz0, e_bz1, Bool.and_true, Bool.true_and, ↓reduceIte, not_true_eq_false, not_false_eq_true, decide_false, decide_true, and_self, and_true, true_and, and_false, false_and, Bool.false_eq_true, Bool.not_false, Bool.not_true, hb, f_X9_lowestPartner_34, f_X9_lowestPartner_65]
    · dsimp only
      rw [show low v + 1 + (7 - low v) = 8 by omega, f_X9_lowestPartner_12]
      clear l3 b0 hX
      simp (disch := omega) only [e_bnd, e_bndV, e_lt, e_grd, e_lit, e_le1, e_le2, e_lt1, e_lt2, e_eq1, e_eq2, e_inb, e_ix, nI_add, pk_mul, e_sub, e_b0, e_b1, e_bz, e_bz0, e_bz1, Bool.and_true, Bool.true_and, ↓reduceIte, not_true_eq_false, not_false_eq_true, decide_false, decide_true, and_self, and_true, true_and, and_false, false_and, Bool.false_eq_true, Bool.not_false, Bool.not_true]
  rw [b0 _ (by omega)] at key
  have pn : pv none = -nI 1 := rfl
  rw [pn] at key
  unfold f_X9_lowestPartner
  clear l3 b0 hX
  simp (disch := omega) only [e_bnd, e_bndV, e_lt, e_grd, e_lit, e_le1, e_le2, e_lt1, e_lt2, e_eq1, e_eq2, e_inb, e_ix, nI_add, pk_mul, e_sub, e_b0, e_b1, e_bz, e_bz0, e_bz1, Bool.and_true, Bool.true_and, ↓reduceIte, not_true_eq_false, not_false_eq_true, decide_false, decide_true, and_self, and_true, true_and, and_false, false_and, Bool.false_eq_true, Bool.not_false, Bool.not_true, xl]
  exact key
theorem x_partner1 {σ : Sg} {A : Nat → Nat} (hR : BR A) (c8 : A 0 ≤ 8) (hj : jo A = 1) {v : Nat} (hX : XV A v σ) (hv : v < 256) (hn : v ≠ 0) (he : ev A v) : ∃ p, p < 8 ∧ low v < p ∧ v.testBit p = true ∧ f_X9_lowestPartner (nI v) σ = some (nI p, σ) ∧ f_X9_with (nI v) (nI p) σ = some (nI (PP A v), σ) ∧ PP A v = wv A (PP A) v p ∧ ∀ e, e < p → low v < e → v.testBit e = true → wv A (PP A) v e ≠ PP A v := by
  obtain ⟨p, p1, p2, p3, p4, p5, p6, p7⟩ := bp_PP hR c8 hj hv hn he
  have a := x_lowestPartner hR hX hv hn he
  rw [p1] at a
  have b := x_with hR hX hv hn he p2 p3 p4
  rw [← p5] at b
  exact ⟨p, p2, p3, p4, a, b, p5, p7⟩
theorem mi_0t : ∀ v o, v < 256 → o < 256 → (mi v o = 0 ↔ ∀ i, i < 8 → v.testBit i = true → o.testBit i = true) := fun v o hv ho => by
  constructor
  · intro z i hi q
    have e : (mi v o).testBit i = false := by rw [z, Nat.zero_testBit]
    rw [mi_bit hi, q, Bool.true_and, Bool.not_eq_false'] at e
    exact e
  · intro z
    refine bit_eq (mi_lt hv) (by decide) fun i hi => ?_
    rw [mi_bit hi, Nat.zero_testBit]
    cases q : v.testBit i with
    | false => rfl
    | true => rw [z i hi q]; rfl
abbrev S61 : Nat → Nat → Prop := fun a _ => a = 60 ∨ a = 61
theorem x_pairUp {σ : Sg} {A : Nat → Nat} (hXR : XR σ 8 A) (hR : BR A) (c8 : A 0 ≤ 8) (hj : jo A = 1) : ∃ σ', (XV A (od A + 1) σ' ∧ fr S61 σ σ') ∧ f_X9_pairUp 8 (nI (od A)) σ = some σ' := by
  obtain ⟨s0, ⟨a1, a2⟩, a3⟩ := x_measure (m := 0) (by decide) hXR hR (by decide)
  rw [flo_8 (D0_le hR 0) (D0_ou hR 0) c8] at a1
  have a1' : ∀ x, x < 64 → s0.1 60 x = nI (wy A x) := a1
  have ho : od A < 256 := mk8 _ (by decide)
  have main : ∃ σ', (XV A (od A + 1) σ' ∧ fr S61 σ σ') ∧ f_X9_pairUp_15 8 FU (nI (od A)) (nI (0 + 1)) (wI s0 61 0 (nI 0)) = some σ' := by
    refine lpI (fun fu (q : Int32 × Sg) => f_X9_pairUp_15 8 fu (nI (od A)) q.1 q.2) (fun i q => q.1 = nI (i + 1) ∧ XV A (i + 1) q.2 ∧ fr S61 σ q.2) (od A) (fun r => ∃ σ', (XV A (od A + 1) σ' ∧ fr S61 σ σ') ∧ r = some σ') (fun i hi q hq => ?_) (fun q hq fu => ?_) FU (by unfold FU; omega) (nI (0 + 1), wI s0 61 0 (nI 0)) ⟨rfl, ⟨fun x hx => by rw [e_ne1 (by decide)]; exact a1' x hx, fun r hr _ => ?_⟩, (a2.mono (fun a j q => Or.inl q)).trans (fr.w (Or.inr rfl))⟩
    · obtain ⟨w, s⟩ := q
      obtain ⟨q1, q2, q3⟩ := hq
      dsimp only at q1 q2 q3
      subst q1
      have p8 := pc8_le (i + 1)
      have bc := f_bitCount_eq (by omega : i + 1 < 256) s
      have an := and1_t (pc8 (i + 1)) (by omega)
      have it := mi_0t (i + 1) (od A) (by omega) ho
      have ml := mi_lt (b := od A) (by omega : i + 1 < 256)
      by_cases z : ev A (i + 1)
      · obtain ⟨p, p2, p3, p4, p5, p6, p7, _⟩ := x_partner1 hR c8 hj q2 (by omega) (by omega) z
        have m0 := it.mpr z.1
        have z2 := z.2
        have pl := ne_m1 p (by omega)
        refine ⟨(nI (i + 1 + 1), wI s 61 (i + 1) (nI (PP A (i + 1)))), ⟨rfl, ⟨fun x hx => by rw [e_ne1 (by decide)]; exact q2.1 x hx, fun r hr er => ?_⟩, q3.trans (fr.w (Or.inr rfl))⟩, fun fu => ?_⟩
        · dsimp only
          by_cases y : r = i + 1
          · rw [y, e_hit]
          · rw [e_ne2 y]; exact q2.2 r (by omega) er
        · dsimp only
          rw [f_X9_pairUp_15]
          clear q2 q3 it z a1 a2 a3 a1'
          simp (disch := omega) only [e_bnd, e_bndV, e_lt, e_grd, e_lit, e_le1, e_le2, e_lt1, e_lt2, e_eq1, e_eq2, e_inb, e_ix, nI_add, pk_mul, e_sub, e_b0, e_b1, e_bz, e_bz0, e_bz1, Bool.and_true, Bool.true_and, ↓reduceIte, not_true_eq_false, not_false_eq_true, decide_false, decide_true, and_self, and_true, true_and, and_false, false_and, Bool.false_eq_true, Bool.not_false, Bool.not_true, xm1, m0, bc, an, z2, p5, p6, pl, f_X9_pairUp_67, f_X9_pairUp_68]
      · refine ⟨(nI (i + 1 + 1), s), ⟨rfl, ⟨q2.1, fun r hr er => ?_⟩, q3⟩, fun fu => ?_⟩
        · by_cases y : r = i + 1
          · subst y; exact absurd er z
          · exact q2.2 r (by omega) er
        · dsimp only
          rw [f_X9_pairUp_15]
          by_cases y : mi (i + 1) (od A) = 0
          · have y2 : pc8 (i + 1) % 2 = 1 := by
              have : ¬ pc8 (i + 1) % 2 = 0 := fun x => z ⟨it.mp y, x⟩
              omega
            clear q2 q3 it z a1 a2 a3 a1'
            simp (disch := omega) only [e_bnd, e_bndV, e_lt, e_grd, e_lit, e_le1, e_le2, e_lt1, e_lt2, e_eq1, e_eq2, e_inb, e_ix, nI_add, pk_mul, e_sub, e_b0, e_b1, e_bz, e_bz0, e_bz1, Bool.and_true, Bool.true_and, ↓reduceIte, not_true_eq_false, not_false_eq_true, decide_false, decide_true, and_self, and_true, true_and, and_false, false_and, Bool.false_eq_true, Bool.not_false, Bool.not_true, xm1, y, bc, an, y2, f_X9_pairUp_67, f_X9_pairUp_68]
          · clear q2 q3 it z a1 a2 a3 a1'
            simp (disch := omega) only [e_bnd, e_bndV, e_lt, e_grd, e_lit, e_le1, e_le2, e_lt1, e_lt2, e_eq1, e_eq2, e_inb, e_ix, nI_add, pk_mul, e_sub, e_b0, e_b1, e_bz, e_bz0, e_bz1, Bool.and_true, Bool.true_and, ↓reduceIte, not_true_eq_false, not_false_eq_true, decide_false, decide_true, and_self, and_true, true_and, and_false, false_and, Bool.false_eq_true, Bool.not_false, Bool.not_true, xm1, y, f_X9_pairUp_67, f_X9_pairUp_68]
    · obtain ⟨w, s⟩ := q
      obtain ⟨q1, q2, q3⟩ := hq
      dsimp only at q1 q2 q3
      subst q1
      refine ⟨s, ⟨q2, q3⟩, ?_⟩
      dsimp only
      rw [f_X9_pairUp_15]
      clear q2 q3 a1 a2 a3 a1'
      simp (disch := omega) only [e_bnd, e_bndV, e_lt, e_grd, e_lit, e_le1, e_le2, e_lt1, e_lt2, e_eq1, e_eq2, e_inb, e_ix, nI_add, pk_mul, e_sub, e_b0, e_b1, e_bz, e_bz0, e_bz1, Bool.and_true, Bool.true_and, ↓reduceIte, not_true_eq_false, not_false_eq_true, decide_false, decide_true, and_self, and_true, true_and, and_false, false_and, Bool.false_eq_true, Bool.not_false, Bool.not_true]
    · rw [show r = 0 by omega, e_hit]
      rfl
  obtain ⟨s', g1, g2⟩ := main
  refine ⟨s', g1, ?_⟩
  unfold f_X9_pairUp
  simp (disch := omega) only [e_bnd, e_bndV, e_lt, e_grd, e_lit, e_le1, e_le2, e_lt1, e_lt2, e_eq1, e_eq2, e_inb, e_ix, nI_add, pk_mul, e_sub, e_b0, e_b1, e_bz, e_bz0, e_bz1, Bool.and_true, Bool.true_and, ↓reduceIte, not_true_eq_false, not_false_eq_true, decide_false, decide_true, and_self, and_true, true_and, and_false, false_and, Bool.false_eq_true, Bool.not_false, Bool.not_true, a3]
  exact g2
