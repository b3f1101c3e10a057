/-! text: the class's signs -/
def ixR (v : Int32) : Nat → Nat → Int32
  | 0, _ => -1
  | d + 1, k => if (bytS.getD 5 []).getD (ix (nI k)) 0 = v then nI k else ixR v d (k + 1)
theorem x_ixc (v : Int32) (σ : Sg) : ∀ d k, k + d = 13 → ∀ fu, d < fu → f_J1_indexOfChar_4cfef_7 5 fu (nI 13) v (nI k) σ = some (ixR v d k, σ) := by
  intro d
  induction d with
  | zero =>
    intro k hk fu hfu
    obtain ⟨f, rfl⟩ : ∃ f, fu = f + 1 := ⟨fu - 1, by omega⟩
    show (if nI 13 ≤ nI k then _ else _) = _
    rw [if_pos (show nI 13 ≤ nI k from nI_le (by omega) (by omega))]
    rfl
  | succ d ih =>
    intro k hk fu hfu
    obtain ⟨f, rfl⟩ : ∃ f, fu = f + 1 := ⟨fu - 1, by omega⟩
    have t : ∀ k, k < 13 → inb (nI k) (lenS.getD 5 0) = true := by decide +kernel
    show (if nI 13 ≤ nI k then _ else _) = _
    rw [if_neg (show ¬ (nI 13 ≤ nI k) from nI_ge (by omega) (by decide)), grd_of (t k (by omega))]
    have e : ixR v (d + 1) k = if (bytS.getD 5 []).getD (ix (nI k)) 0 = v then nI k else ixR v d (k + 1) := rfl
    rw [e]
    by_cases z : (bytS.getD 5 []).getD (ix (nI k)) 0 = v
    · rw [if_pos z, if_pos z]
    · rw [if_neg z, if_neg z, show nI k + 1 = nI (k + 1) from nI_add _ _]
      exact ih (k + 1) (by omega) f (by omega)
theorem x_sgn_t : ∀ b, b < 256 → ¬ i2c (nI b) < 0 ∧ ¬ 255 < i2c (nI b) ∧ (b ≠ 32 → (if 0 ≤ ixR (i2b (i2c (nI b))) 13 0 then 30 + ixR (i2b (i2c (nI b))) 13 0 else 44) = nI (sgK b)) := by decide +kernel
theorem x_signOf {b : Nat} (hb : b < 256) (σ : Sg) : f_X7_signOf (nI b) σ = some (nI (sgK b), σ) := by
  obtain ⟨t1, t2, t3⟩ := x_sgn_t b hb
  unfold f_X7_signOf f_X7_signOf_17 f_X7_signOf_31
  by_cases z : b = 32
  · rw [if_pos (show nI b = 32 by rw [z]; rfl), if_neg (show ¬ ((0 : Int32) ≤ -1) by decide), z]
    rfl
  · rw [if_neg (show ¬ (nI b = 32) from fun q => z ((nI_eq (b := 32) (by omega) (by decide)).mp q))]
    have e : f_J0_indexOf_0f7a4 5 (i2c (nI b)) σ = some (ixR (i2b (i2c (nI b))) 13 0, σ) := by
      have n1 : ¬ ((1 : Int32) = 0) := by decide
      have l : f_J0_length_8abf5 5 σ = some (nI 13, σ) := by
        unfold f_J0_length_8abf5 f_J0_coder_7d493 f_J0_coder_7d493_14
        rw [if_neg n1, grd_of (by decide), e_bnd]
        rfl
      have c := x_ixc (i2b (i2c (nI b))) σ 13 0 rfl FU (by unfold FU; omega)
      have m0 : imax (0 : Int32) 0 = nI 0 := by decide
      have m1 : imin (nI 13) (Int32.ofNat (lenS.getD 5 0)) = nI 13 := by decide
      unfold f_J0_indexOf_0f7a4 f_J0_indexOf_7cf53 f_J0_indexOf_7cf53_36 f_J0_isLatin1_aae02 f_J0_isLatin1_aae02_18 f_J1_indexOf_4cfef f_J1_canEncode_9a6ad f_J1_canEncode_9a6ad_16 f_J1_indexOfChar_4cfef
      rw [if_neg n1, if_pos (show (0 : Int32) = 0 from rfl), grd_of (by decide), e_bnd, if_neg n1, l, e_bnd, if_neg t1, if_neg t2, grd_of (by decide), e_bnd, if_neg n1, m0, m1, if_pos (show nI 0 < nI 13 by decide), c]
      rfl
    rw [e, e_bnd]
    have := t3 z
    by_cases q : 0 ≤ ixR (i2b (i2c (nI b))) 13 0
    · rw [if_pos q] at this ⊢
      rw [this]
    · rw [if_neg q] at this ⊢
      rw [← this]
