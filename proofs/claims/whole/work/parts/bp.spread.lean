/-! text: spreads -/
theorem isW1 : isW 1 := Or.inl (by decide)
theorem sgK_30 (b : Nat) : 30 ≤ sgK b := by
  unfold sgK
  repeat' split
  all_goals decide
theorem spr_iff {L : Nat} {T : Nat → Nat} {i : Nat} : kdA L T i = 1 ↔ (tokE L T i - i = 7 ∧ T i = 115 ∧ T (i + 1) = 112 ∧ T (i + 2) = 114 ∧ T (i + 3) = 101 ∧ T (i + 4) = 97 ∧ T (i + 5) = 100 ∧ T (i + 6) = 115) := by
  constructor
  · intro h
    unfold kdA at h
    by_cases a : L ≤ i
    · rw [if_pos a] at h
      exact absurd h (by decide)
    rw [if_neg a] at h
    by_cases b : isLt (T i) = true
    · rw [if_pos b] at h
      have w := (wordK_iff isW1).mp h
      have l := congrArg List.length w
      rw [tkB_len] at l
      have l7 : tokE L T i - i = 7 := l.symm
      rw [l7] at w
      simp only [tkB, wdB, List.cons.injEq, Nat.add_assoc, Nat.reduceAdd, and_true] at w
      obtain ⟨w0, w1, w2, w3, w4, w5, w6⟩ := w
      exact ⟨l7, w0.symm, w1.symm, w2.symm, w3.symm, w4.symm, w5.symm, w6.symm⟩
    rw [if_neg b] at h
    by_cases c : isDg (T i) = true
    · rw [if_pos c] at h
      exact absurd h (by decide)
    rw [if_neg c] at h
    have s := sgK_30 (T i)
    by_cases d : (T i = 60 ∨ T i = 62) ∧ i + 1 < L ∧ T (i + 1) = 61
    · rw [if_pos d] at h
      omega
    · rw [if_neg d] at h
      omega
  · rintro ⟨l7, w0, w1, w2, w3, w4, w5, w6⟩
    have a : ¬ L ≤ i := fun q => by
      have e : tokE L T i = i := if_pos q
      omega
    have b : isLt (T i) = true := by
      rw [w0]
      decide
    unfold kdA
    rw [if_neg a, if_pos b, l7]
    refine (wordK_iff isW1).mpr ?_
    show [115, 112, 114, 101, 97, 100, 115] = [T i, T (i + 1), T (i + 2), T (i + 3), T (i + 4), T (i + 5), T (i + 6)]
    rw [w0, w1, w2, w3, w4, w5, w6]
theorem m_w2 {a b : Nat} (ha : a < 256) (hb : b < 256) (σ : Sg) : f_X12_w2 (nI a) (nI b) σ = some (nL (256 * a + b), σ) := by
  unfold f_X12_w2
  rw [show Int32.toInt64 (nI a) = nL a by rw [nI_lL (by omega), nL_iL], nL_pack hb]
theorem m_w3 {a b c : Nat} (ha : a < 256) (hb : b < 256) (hc : c < 256) (σ : Sg) : f_X12_w3 (nI a) (nI b) (nI c) σ = some (nL (256 * (256 * a + b) + c), σ) := by
  unfold f_X12_w3
  rw [m_w2 ha hb, e_bnd, nL_pack hc]
theorem m_w4 {a b c d : Nat} (ha : a < 256) (hb : b < 256) (hc : c < 256) (hd : d < 256) (σ : Sg) : f_X12_w4 (nI a) (nI b) (nI c) (nI d) σ = some (nL (256 * (256 * (256 * a + b) + c) + d), σ) := by
  unfold f_X12_w4
  rw [m_w3 ha hb hc, e_bnd, nL_pack hd]
theorem nL_cmp {x y : Nat} (hx : x < 4611686018427387904) (hy : y < 4611686018427387904) : (lg_cmp (nL x) (nL y) = 0) = (x = y) := by
  rw [nL_iL, nL_iL]
  exact ((cmp_eq (x := iL (x : Int)) (y := iL (y : Int))).trans (iL_eq (by omega) (by omega))).trans (propext ⟨fun q => by omega, fun q => by omega⟩)
theorem m_SPX {L : Nat} {T : Nat → Nat} (hL : L ≤ 300) (hT : ∀ i, i < L → T i < 256) : SPX T (plc L T) (Et L T) (Kt L T) (Vt L T) L := by
  intro σ p h
  obtain ⟨i, hi⟩ : ∃ i, i = plc L T p := ⟨_, rfl⟩
  have h7 : σ.1 0 7 = nI (tokE L T i) := by rw [hi]; exact h.2.2.1
  have h8 : σ.1 0 8 = nI i := by rw [hi]; exact h.2.1
  have hE : tokE L T i ≤ L := by rw [hi]; exact Et_le p
  have hP : i ≤ L := by rw [hi]; exact (plc_le p).1
  have hk : Kt L T p = kdA L T i := by rw [hi]; rfl
  have h50 : Kt L T p ≤ 50 := kdA_50 _
  have ht := h.1
  have tp : TPM L T σ := ⟨h.2.2.2.1, h.2.2.2.2⟩
  have n129 : ¬ (Kt L T p = 1) → f_X12_isSpreads_129 σ = some (if Kt L T p = 1 then nI 1 else nI 0, σ) := by
    intro n
    unfold f_X12_isSpreads_129 f_X12_isSpreads_130
    rw [if_neg n, grd_of (by decide)]
    rfl
  unfold f_X12_isSpreads
  by_cases t2 : σ.1 0 9 = nI 2
  · have ge : i ≤ tokE L T i := by
      by_cases z : i < L
      · exact Nat.le_of_lt (tokE_gt z).1
      · have e : tokE L T i = i := if_pos (by omega)
        omega
    rw [if_pos (show σ.1 0 9 = 2 from t2), h7, h8, e_sub ge]
    by_cases d : tokE L T i - i = 7
    · rw [if_pos (show nI (tokE L T i - i) = 7 by rw [d]; rfl)]
      have by_ : ∀ k, k < 7 → f_X12_byteAt (nI (i + k)) σ = some (nI (T (i + k)), σ) := by
        intro k hk
        rw [m_byte hL tp (by omega)]
        unfold bt
        rw [if_pos (by omega)]
      have lt_ : ∀ k, k < 7 → T (i + k) < 256 := fun k hk => hT _ (by omega)
      have q1 : nI i + 1 = nI (i + 1) := nI_add _ _
      have q2 : nI i + 2 = nI (i + 2) := nI_add _ _
      have q3 : nI i + 3 = nI (i + 3) := nI_add _ _
      have q4 : nI i + 4 = nI (i + 4) := nI_add _ _
      have q5 : nI i + 5 = nI (i + 5) := nI_add _ _
      have q6 : nI i + 6 = nI (i + 6) := nI_add _ _
      have l4 : f_X12_w4 115 112 114 101 σ = some (nL (256 * (256 * (256 * 115 + 112) + 114) + 101), σ) := m_w4 (by decide) (by decide) (by decide) (by decide) σ
      have l3 : f_X12_w3 97 100 115 σ = some (nL (256 * (256 * 97 + 100) + 115), σ) := m_w3 (by decide) (by decide) (by decide) σ
      have y0 := by_ 0 (by decide)
      have t0 := lt_ 0 (by decide)
      have t1 := lt_ 1 (by decide)
      have t3 := lt_ 2 (by decide)
      have t4 := lt_ 3 (by decide)
      have t5 := lt_ 4 (by decide)
      have t6 := lt_ 5 (by decide)
      have t7 := lt_ 6 (by decide)
      rw [Nat.add_zero] at y0 t0
      rw [y0, e_bnd, h8, q1, by_ 1 (by decide), e_bnd, h8, q2, by_ 2 (by decide), e_bnd, h8, q3, by_ 3 (by decide), e_bnd, m_w4 t0 t1 t3 t4, e_bnd, l4, e_bnd]
      by_cases z : 256 * (256 * (256 * T i + T (i + 1)) + T (i + 2)) + T (i + 3) = 256 * (256 * (256 * 115 + 112) + 114) + 101
      · rw [if_pos (by rw [nL_cmp (by omega) (by omega)]; exact z), h8, q4, by_ 4 (by decide), e_bnd, h8, q5, by_ 5 (by decide), e_bnd, h8, q6, by_ 6 (by decide), e_bnd, m_w3 t5 t6 t7, e_bnd, l3, e_bnd]
        by_cases y : 256 * (256 * T (i + 4) + T (i + 5)) + T (i + 6) = 256 * (256 * 97 + 100) + 115
        · have K1 : Kt L T p = 1 := by
            rw [hk]
            exact spr_iff.mpr ⟨d, by omega, by omega, by omega, by omega, by omega, by omega, by omega⟩
          rw [if_pos (by rw [nL_cmp (by omega) (by omega)]; exact y), if_pos K1]
          unfold f_X12_isSpreads_130
          rw [grd_of (by decide)]
          rfl
        · rw [if_neg (by rw [nL_cmp (by omega) (by omega)]; exact y)]
          refine n129 (fun q => y ?_)
          rw [hk] at q
          obtain ⟨_, w0, w1, w2, w3, w4, w5, w6⟩ := spr_iff.mp q
          omega
      · rw [if_neg (by rw [nL_cmp (by omega) (by omega)]; exact z)]
        refine n129 (fun q => z ?_)
        rw [hk] at q
        obtain ⟨_, w0, w1, w2, w3, w4, w5, w6⟩ := spr_iff.mp q
        omega
    · rw [if_neg (show ¬ (nI (tokE L T i - i) = 7) from fun q => d ((nI_eq (b := 7) (by omega) (by decide)).mp q))]
      refine n129 (fun q => d ?_)
      rw [hk] at q
      exact (spr_iff.mp q).1
  · rw [if_neg (show ¬ (σ.1 0 9 = 2) from t2)]
    exact n129 (fun q => t2 (m_tok2 ht h50 (by rw [q]; exact isW1)))
