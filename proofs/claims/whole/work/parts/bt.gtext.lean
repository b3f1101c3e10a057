/-! METHOD: text -/
theorem m_text_full {σ : Sg} (h : σ.1 1 1 = nI 4) : f_X12_text σ = some (-1, σ) := by
  unfold f_X12_text
  rw [grd_of (by decide), show ix 1 = 1 by decide, h, if_pos (by decide)]
theorem m_text_ok {σ σ' : Sg} {t : Nat} (ht : t < 4) (h : σ.1 1 1 = nI t) (h2 : f_X12_readText σ = some (nI 0, σ')) (h3 : σ'.1 1 1 = nI t) : f_X12_text σ = some (nI t, wI (wI (wI (wI σ' 0 5 0) 0 6 (-1)) 0 4 0) 1 1 (nI (t + 1))) := by
  have n4 : ¬ (nI t = 4) := fun q => by
    have := (nI_eq (b := 4) (by omega) (by decide)).mp q
    omega
  have i1 : ix (1 : Int32) = 1 := by decide
  have s1 : nI t + 1 = nI (t + 1) := nI_add _ _
  have s2 : nI (t + 1) - 1 = nI t := e_sub (b := 1) (by omega)
  unfold f_X12_text f_X12_text_36
  rw [grd_of (by decide), i1, h, if_neg n4, h2, e_bnd, e_lt, e_hit, if_pos (show nI 0 = 0 from rfl), e_lt, e_lt, e_ne2 (by decide), e_ne2 (by decide), e_hit, if_pos (show nI 0 = 0 from rfl), grd_of (by decide), e_ne1 (by decide), e_ne1 (by decide), e_ne1 (by decide), h3, s1, e_lt, grd_of (by decide), e_hit, s2]
  rfl
theorem m_text_no {σ σ' : Sg} {t f pl : Nat} (ht : t < 4) (hf : f ≠ 0) (hf2 : f < 100) (h : σ.1 1 1 = nI t) (h2 : f_X12_readText σ = some (nI f, σ')) (h3 : σ'.1 0 8 = nI pl) : f_X12_text σ = some (-1, wI (wI (wI σ' 0 5 (nI f)) 0 6 (nI pl)) 0 4 0) := by
  have n4 : ¬ (nI t = 4) := fun q => by
    have := (nI_eq (b := 4) (by omega) (by decide)).mp q
    omega
  have nf : ¬ (nI f = 0) := fun q => hf ((nI_eq (b := 0) (by omega) (by decide)).mp q)
  have i1 : ix (1 : Int32) = 1 := by decide
  unfold f_X12_text f_X12_text_36
  rw [grd_of (by decide), i1, h, if_neg n4, h2, e_bnd, e_lt, e_hit, if_neg nf, e_ne2 (by decide), h3, e_lt, e_lt, e_ne2 (by decide), e_ne2 (by decide), e_hit, if_neg nf]
/-- what the reading leaves, on both sides -/
def RD (κ : Kd) (T : TD) (σX σM : Sg) (p : Nat) (a b σX' : Sg) : Prop := σX.1 0 10 = nI p ∧ σX.1 1 4 = nI T.1 ∧ f_X3_begin σX = some a ∧ f_X7_cut (nI p) a = some b ∧ xloop 25 b = some σX' ∧ fr Stx σX a ∧ fr Stx σX b ∧ fr Stx σX σX' ∧
  ((∃ f σMF, f ≠ 0 ∧ f < 100 ∧ σX'.1 49 1 = nI f ∧ f_X12_text σM = some (-1, σMF) ∧ Inv κ T (wI σX' 0 10 0) σMF) ∨
  (σX'.1 49 1 = nI 0 ∧ ∃ n s, n ≤ 24 ∧ s ≤ 300 ∧ σX'.1 49 6 = nI n ∧ σX'.1 49 9 = nI s ∧ ∃ σMF T', T'.1 = T.1 + 1 ∧ (∀ t, t < T'.1 → T'.2.1 t + 5 < (κ ++ nK n s).length) ∧ f_X12_text σM = some (nI T.1, σMF) ∧ ∀ σF, NF κ.length T.1 n s σX' σF → Inv (κ ++ nK n s) T' σF σMF))
theorem g_text {κ : Kd} {T : TD} {σX σM : Sg} (I : Inv κ T σX σM) (hR : 72 ≤ κ.length) (hT : ∀ t, t < T.1 → T.2.1 t + 5 < κ.length) : (T.1 = 4 ∧ σX.1 1 4 = nI 4 ∧ f_X12_text σM = some (-1, σM)) ∨ (T.1 < 4 ∧ ∃ p a b σX', p ≤ 300 ∧ RD κ T σX σM p a b σX') := by
  obtain ⟨A, B, I⟩ := I
  have t0 : A 1 = T.1 := I.2.2.2.2.2.2.2.1
  have a4 : A 1 ≤ 4 := I.1.2.2.2.2.1
  have m11 : σM.1 1 1 = nI T.1 := by
    rw [I.2.1.1 1 (by decide) (by decide) (by decide), t0]
  have x14 : σX.1 1 4 = nI T.1 := by
    rw [I.2.2.1.2.2.2.2.1, t0]
  by_cases z : T.1 = 4
  · exact Or.inl ⟨z, by rw [x14, z], m_text_full (by rw [m11, z])⟩
  have ht : T.1 < 4 := by omega
  obtain ⟨p, hp, h10, h4, hb⟩ := I.2.2.2.2.2.2.1.2.1
  obtain ⟨a, b, σX', σM', r, m, a1, b1, l1, r1, fa, fb, fX, fM, fT, x490, g⟩ := j_text hp ht h4 hb m11
  refine Or.inr ⟨ht, p, a, b, σX', hp, h10, x14, a1, b1, l1, fa, fb, fX, ?_⟩
  rcases g with ⟨rfl, T2, q, n, ck, cn, Lw, J⟩ | ⟨f, pl, f0, f1, rfl, hF, h08⟩
  · obtain ⟨⟨s, cX, hX⟩, ⟨c, hM⟩, hd, hc⟩ := J
    have hX2 := hX
    obtain ⟨_, ⟨lw, s1, s2, s4, s9, s12⟩, qm, sq, hC, ⟨hn, h6, _⟩, hL⟩ := hX2
    have q300 := hM.2.1
    have s300 : s ≤ 300 := Nat.le_trans sq q300
    refine Or.inr ⟨s1, n, s, hn, s300, h6, s9, _, nT T κ.length n Lw ck cn, rfl, fun t h => ?_, m_text_ok ht m11 r1 (by rw [fM.1 _ _ (by omega)]; exact m11), fun σF F => ⟨_, B, I2_new I hR hT ht fX fM fT F x490 s1 s2 rfl (XTX_new hX s300 hR F) (MTX_end ht hM) hd hc⟩⟩
    rw [nK_len]
    show upF T.2.1 T.1 κ.length t + 5 < _
    by_cases y : t = T.1
    · rw [y, upF_hit]
      omega
    · have h' : t < T.1 + 1 := h
      rw [upF_ne y]
      have := hT t (by omega)
      omega
  · obtain ⟨f2, f3, _⟩ := hF
    exact Or.inl ⟨f, _, f0, f1, f2, m_text_no ht f0 f1 m11 r1 h08, A, B, I2_fault I ht fX fM fT x490 f2 f3 rfl⟩
