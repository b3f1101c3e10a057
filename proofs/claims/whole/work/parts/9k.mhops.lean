/-! began, whom: the reference's hops -/
theorem nb_al {A : Nat → Nat} (hR : BR A) {s e : Nat} (he : e < 8) (q : (nb A s 8).testBit e = true) : (al (A 0)).testBit e = true := by
  rw [nb_bit he, decide_eq_true_eq] at q
  obtain ⟨h, h1, _, h3⟩ := q
  rw [al_bit]
  refine decide_eq_true ?_
  by_cases z : A 0 ≤ e
  · have := (hR e h he h1).2.2.1 z
    have := (hR h e h1 he).2.1
    omega
  · omega
theorem ly_step {A : Nat → Nat} (hR : BR A) (c8 : A 0 ≤ 8) {h k : Nat} (hh : h < 8) : ly A h (k + 1) = ly A h k ||| nb A (ly A h k) (A 0) := by
  have e : ly A h (k + 1) = ly A h k ||| (nb A (ly A h k) 8 &&& al (A 0)) := rfl
  rw [e, ← nb_8 hR c8]
  congr 1
  refine bit_eq (and_lt8 (nb_lt _ _ _)) (nb_lt _ _ _) fun i hi => ?_
  rw [Nat.testBit_and]
  cases q : (nb A (ly A h k) 8).testBit i with
  | false => rfl
  | true => rw [nb_al hR hi q]; rfl
theorem m_hops67 {σ : Sg} {A : Nat → Nat} (hM : MA σ A) (c8 : A 0 ≤ 8) (hR : BR A) {s : Nat} (hs : s < 256) (h k : Nat) (rec : Int32 → Int32 → Int32 → Sg → Option Sg) : f_X12_layHops_67 rec FU (nI h) (nI s) (nI k) (nI s) (nI 0) σ = f_X12_layHops_107 rec FU (nI h) (nI s) (nI k) (nI (s ||| nb A s (A 0))) (nI 0) σ := by
  have r0 := hM.1 0 (by decide) (by decide) (by decide)
  have e0 : s = s ||| nb A s 0 := (Nat.or_zero s).symm
  have main : f_X12_layHops_67 rec FU (nI h) (nI s) (nI k) (nI (s ||| nb A s 0)) (nI 0) σ = f_X12_layHops_107 rec FU (nI h) (nI s) (nI k) (nI (s ||| nb A s (A 0))) (nI 0) σ := by
    refine lp (fun fu (q : Int32 × Int32) => f_X12_layHops_67 rec fu (nI h) (nI s) (nI k) q.1 q.2 σ) (fun i => (nI (s ||| nb A s i), nI i)) (A 0) (fun i hi fu => ?_) (fun fu => ?_) FU (by unfold FU; omega)
    · have mh := m_has hs (by omega : i < 9) σ
      dsimp only
      rw [f_X12_layHops_67]
      cases q : s.testBit i with
      | true =>
        rw [if_pos q] at mh
        rw [nb_1 q, ← Nat.or_assoc]
        simp (disch := omega) only [e_bnd, e_bndV, e_lt, e_grd, e_lit, e_le1, e_le2, e_lt1, e_lt2, e_eq1, e_eq2, e_inb, e_ix, nI_add, pk_mul, e_sub, e_b0, e_b1, e_bz, e_bz0, e_bz1, Bool.and_true, Bool.true_and, ↓reduceIte, not_true_eq_false, not_false_eq_true, decide_false, decide_true, and_self, and_true, true_and, and_false, false_and, Bool.false_eq_true, Bool.not_false, Bool.not_true, r0, mh, m_beside hM c8 hR, or_I, f_X12_layHops_98]
      | false =>
        rw [if_neg (by rw [q]; decide)] at mh
        rw [nb_0 q]
        simp (disch := omega) only [e_bnd, e_bndV, e_lt, e_grd, e_lit, e_le1, e_le2, e_lt1, e_lt2, e_eq1, e_eq2, e_inb, e_ix, nI_add, pk_mul, e_sub, e_b0, e_b1, e_bz, e_bz0, e_bz1, Bool.and_true, Bool.true_and, ↓reduceIte, not_true_eq_false, not_false_eq_true, decide_false, decide_true, and_self, and_true, true_and, and_false, false_and, Bool.false_eq_true, Bool.not_false, Bool.not_true, r0, mh, f_X12_layHops_98]
    · dsimp only
      rw [f_X12_layHops_67]
      simp (disch := omega) only [e_bnd, e_bndV, e_lt, e_grd, e_lit, e_le1, e_le2, e_lt1, e_lt2, e_eq1, e_eq2, e_inb, e_ix, nI_add, pk_mul, e_sub, e_b0, e_b1, e_bz, e_bz0, e_bz1, Bool.and_true, Bool.true_and, ↓reduceIte, not_true_eq_false, not_false_eq_true, decide_false, decide_true, and_self, and_true, true_and, and_false, false_and, Bool.false_eq_true, Bool.not_false, Bool.not_true, r0]
  rw [← e0] at main
  exact main
abbrev S13 (h : Nat) : Nat → Nat → Prop := fun a j => a = 13 ∧ 8 * h ≤ j ∧ j < 8 * h + 8
theorem m_hops107 {σ : Sg} {c : Nat} (r0 : σ.1 1 0 = nI c) (c8 : c ≤ 8) {h k s w : Nat} (hh : h < 8) (hk : k < 8) (hw : w < 256) {U : Nat → Nat} (hU : ∀ e, e < c → σ.1 13 (8 * h + e) = nI (U e)) : ∃ σ', ((∀ e, e < c → σ'.1 13 (8 * h + e) = nI (if (mi w s).testBit e = true then k else U e)) ∧ fr (S13 h) σ σ') ∧ ∀ rec, f_X12_layHops_107 rec FU (nI h) (nI s) (nI k) (nI w) (nI 0) σ = rec (nI h) (nI w) (nI (k + 1)) σ' := by
  obtain ⟨s', ⟨g1, g2, g3⟩, g4⟩ := lpR (fun rec fu (q : Int32 × Sg) => f_X12_layHops_107 rec fu (nI h) (nI s) (nI k) (nI w) q.1 q.2) (fun i q => q.1 = nI i ∧ (∀ e, e < c → q.2.1 13 (8 * h + e) = nI (if e < i ∧ (mi w s).testBit e = true then k else U e)) ∧ fr (S13 h) σ q.2) c (fun i hi q hq => by
    obtain ⟨v, t⟩ := q
    obtain ⟨q1, q2, q3⟩ := hq
    dsimp only at q1 q2 q3
    subst q1
    have rs : t.1 1 0 = nI c := by rw [q3.1 _ _ (by omega)]; exact r0
    have mh := m_has (mi_lt (b := s) hw) (by omega : i < 9) t
    by_cases z : (mi w s).testBit i = true
    · rw [if_pos z] at mh
      refine ⟨(nI (i + 1), wI t 13 (8 * h + i) (nI k)), ⟨rfl, fun e he => ?_, q3.trans (fr.w ⟨rfl, by omega, by omega⟩)⟩, fun rec fu => ?_⟩
      · dsimp only
        by_cases y : e = i
        · subst y; rw [e_hit, if_pos ⟨by omega, z⟩]
        · rw [e_ne2 (by omega), q2 e he]
          by_cases x : e < i ∧ (mi w s).testBit e = true
          · rw [if_pos x, if_pos ⟨by omega, x.2⟩]
          · rw [if_neg x, if_neg (fun u => x ⟨by omega, u.2⟩)]
      · dsimp only
        rw [f_X12_layHops_107]
        clear q2 q3 hU
        simp (disch := omega) only [e_bnd, e_bndV, e_lt, e_grd, e_lit, e_le1, e_le2, e_lt1, e_lt2, e_eq1, e_eq2, e_inb, e_ix, nI_add, pk_mul, e_sub, e_b0, e_b1, e_bz, e_bz0, e_bz1, Bool.and_true, Bool.true_and, ↓reduceIte, not_true_eq_false, not_false_eq_true, decide_false, decide_true, and_self, and_true, true_and, and_false, false_and, Bool.false_eq_true, Bool.not_false, Bool.not_true, rs, xm1, mh, f_X12_layHops_145]
    · rw [if_neg z] at mh
      refine ⟨(nI (i + 1), t), ⟨rfl, fun e he => ?_, q3⟩, fun rec fu => ?_⟩
      · dsimp only
        rw [q2 e he]
        by_cases x : e < i ∧ (mi w s).testBit e = true
        · rw [if_pos x, if_pos ⟨by omega, x.2⟩]
        · rw [if_neg x, if_neg (fun u => x ⟨by
            have : e ≠ i := fun y => z (by rw [← y]; exact u.2)
            omega, u.2⟩)]
      · dsimp only
        rw [f_X12_layHops_107]
        clear q2 q3 hU
        simp (disch := omega) only [e_bnd, e_bndV, e_lt, e_grd, e_lit, e_le1, e_le2, e_lt1, e_lt2, e_eq1, e_eq2, e_inb, e_ix, nI_add, pk_mul, e_sub, e_b0, e_b1, e_bz, e_bz0, e_bz1, Bool.and_true, Bool.true_and, ↓reduceIte, not_true_eq_false, not_false_eq_true, decide_false, decide_true, and_self, and_true, true_and, and_false, false_and, Bool.false_eq_true, Bool.not_false, Bool.not_true, rs, xm1, mh, f_X12_layHops_145]) (nI 0, σ) ⟨rfl, fun e he => by rw [if_neg (by omega)]; exact hU e he, fr.rfl⟩
  refine ⟨s'.2, ⟨fun e he => ?_, g3⟩, fun rec => ?_⟩
  · rw [g2 e he]
    by_cases x : (mi w s).testBit e = true
    · rw [if_pos x, if_pos ⟨he, x⟩]
    · rw [if_neg x, if_neg (fun u => x u.2)]
  · have rs : s'.2.1 1 0 = nI c := by rw [g3.1 _ _ (by omega)]; exact r0
    obtain ⟨f, hf⟩ := FU_n (n := c) (by omega)
    have e := g4 rec (f + 1)
    dsimp only at e
    rw [hf, e, g1, f_X12_layHops_107]
    clear g2 g3 hU
    simp (disch := omega) only [e_bnd, e_bndV, e_lt, e_grd, e_lit, e_le1, e_le2, e_lt1, e_lt2, e_eq1, e_eq2, e_inb, e_ix, nI_add, pk_mul, e_sub, e_b0, e_b1, e_bz, e_bz0, e_bz1, Bool.and_true, Bool.true_and, ↓reduceIte, not_true_eq_false, not_false_eq_true, decide_false, decide_true, and_self, and_true, true_and, and_false, false_and, Bool.false_eq_true, Bool.not_false, Bool.not_true, rs]
