/-! text: the reference cuts the tape -/
theorem nL_shl8 (w : Nat) : lshl (nL w) 8 = nL (256 * w) := by
  apply Int64.toBitVec_inj.1
  show BitVec.ofNat 64 w <<< (((8 : Int32).toInt64 &&& 63).toBitVec.smod 64) = BitVec.ofNat 64 (256 * w)
  have e : (((8 : Int32).toInt64 &&& 63).toBitVec.smod 64).toNat = 8 := by decide +kernel
  apply BitVec.eq_of_toNat_eq
  rw [BitVec.shiftLeft_eq', BitVec.toNat_shiftLeft, e, BitVec.toNat_ofNat, BitVec.toNat_ofNat, Nat.shiftLeft_eq]
  omega
theorem nL_pack {w b : Nat} (hb : b < 256) : lshl (nL w) 8 ||| Int32.toInt64 (nI b) = nL (256 * w + b) := by
  rw [nL_shl8, nI_lL (by omega), ← nL_iL, nL_or]
  congr 1
  exact (Nat.two_pow_add_eq_or_of_lt (i := 8) hb w).symm
theorem nL_shr48 {w : Nat} (h : w < 4611686018427387904) : (lg_cmp (lshr (nL w) 48) 0 = 0) = (w < 281474976710656) := by
  have s : lshr (nL w) 48 = nL (w / 281474976710656) := by
    apply Int64.toBitVec_inj.1
    show (BitVec.ofNat 64 w).sshiftRight (((48 : Int32).toInt64 &&& 63).toBitVec.smod 64).toNat = BitVec.ofNat 64 (w / 281474976710656)
    have e : (((48 : Int32).toInt64 &&& 63).toBitVec.smod 64).toNat = 48 := by decide +kernel
    have ew : (BitVec.ofNat 64 w).toNat = w := by
      rw [BitVec.toNat_ofNat]
      exact Nat.mod_eq_of_lt (by omega)
    have m : (BitVec.ofNat 64 w).msb = false := by
      rw [BitVec.msb_eq_false_iff_two_mul_lt, ew]
      omega
    rw [e, BitVec.sshiftRight_eq_of_msb_false m]
    apply BitVec.eq_of_toNat_eq
    rw [BitVec.toNat_ushiftRight, ew, BitVec.toNat_ofNat, Nat.shiftRight_eq_div_pow]
    omega
  rw [s, nL_iL]
  refine ((cmp_eq (x := iL ((w / 281474976710656 : Nat) : Int)) (y := iL ((0 : Nat) : Int))).trans (iL_eq (by omega) (by omega))).trans (propext ⟨fun q => ?_, fun q => ?_⟩)
  · omega
  · omega
def TPM (L : Nat) (T : Nat → Nat) (σ : Sg) : Prop := σ.1 0 4 = nI L ∧ ∀ i, i < L → σ.1 4 i = nI (T i)
theorem TPM.of {L : Nat} {T : Nat → Nat} {σ σ' : Sg} (h : TPM L T σ) (f : fr Snt σ σ') : TPM L T σ' := ⟨by rw [f.1 _ _ (by omega)]; exact h.1, fun k hk => by rw [f.1 _ _ (by omega)]; exact h.2 k hk⟩
def bt (L : Nat) (T : Nat → Nat) (k : Nat) : Int32 := if k < L then nI (T k) else -1
theorem m_byte {L : Nat} {T : Nat → Nat} (hL : L ≤ 300) {σ : Sg} (h : TPM L T σ) {k : Nat} (hk : k ≤ 1000) : f_X12_byteAt (nI k) σ = some (bt L T k, σ) := by
  unfold f_X12_byteAt f_X12_byteAt_18 bt
  rw [h.1]
  by_cases z : k < L
  · rw [if_neg (show ¬ (nI L ≤ nI k) from nI_ge z (by omega)), grd_of (by rw [e_inb (by omega) (by decide)]; rfl), e_ix (by omega), h.2 k z, if_pos z]
  · rw [if_pos (show nI L ≤ nI k from nI_le (by omega) (by omega)), if_neg z]
theorem m_figV (v : Int32) (σ : Sg) : f_X12_isFigure v σ = some (if v < 48 then 0 else if 57 < v then 0 else 1, σ) := by
  unfold f_X12_isFigure f_X12_isFigure_16 f_X12_isFigure_17
  by_cases a : v < 48
  · rw [if_pos a, if_pos a, grd_of (by decide)]
  · rw [if_neg a, if_neg a]
    by_cases b : 57 < v
    · rw [if_pos b, if_pos b, grd_of (by decide)]
    · rw [if_neg b, if_neg b, grd_of (by decide)]
theorem m_fig_t : ∀ b, b < 256 → (if nI b < 48 then (0 : Int32) else if 57 < nI b then 0 else 1) = if isDg b = true then nI 1 else nI 0 := by decide +kernel
theorem m_fig {L : Nat} {T : Nat → Nat} (hT : ∀ i, i < L → T i < 256) (k : Nat) (σ : Sg) : f_X12_isFigure (bt L T k) σ = some (if k < L ∧ isDg (T k) = true then nI 1 else nI 0, σ) := by
  rw [m_figV]
  unfold bt
  by_cases z : k < L
  · rw [if_pos z, m_fig_t _ (hT k z)]
    by_cases q : isDg (T k) = true
    · rw [if_pos q, if_pos ⟨z, q⟩]
    · rw [if_neg q, if_neg (fun p => q p.2)]
  · rw [if_neg z, if_neg (show ¬ (k < L ∧ isDg (T k) = true) from fun p => z p.1)]
    rfl
theorem m_letV (v : Int32) (σ : Sg) : f_X12_isLetterByte v σ = some (if v < 97 then (if v < 65 then 0 else if 90 < v then 0 else 1) else if v ≤ 122 then 1 else (if v < 65 then 0 else if 90 < v then 0 else 1), σ) := by
  have e : f_X12_isLetterByte_12 v σ = some (if v < 65 then 0 else if 90 < v then 0 else 1, σ) := by
    unfold f_X12_isLetterByte_12 f_X12_isLetterByte_28 f_X12_isLetterByte_24 f_X12_isLetterByte_29
    by_cases a : v < 65
    · rw [if_pos a, if_pos a, grd_of (by decide)]
    · rw [if_neg a, if_neg a]
      by_cases b : 90 < v
      · rw [if_pos b, if_pos b, grd_of (by decide)]
      · rw [if_neg b, if_neg b, grd_of (by decide)]
  unfold f_X12_isLetterByte f_X12_isLetterByte_24 f_X12_isLetterByte_29
  rw [e]
  by_cases a : v < 97
  · rw [if_pos a, if_pos a]
  · rw [if_neg a, if_neg a]
    by_cases b : v ≤ 122
    · rw [if_pos b, if_pos b, grd_of (by decide)]
    · rw [if_neg b, if_neg b]
theorem m_let_t : ∀ b, b < 256 → (if nI b < 97 then (if nI b < 65 then (0 : Int32) else if 90 < nI b then 0 else 1) else if nI b ≤ 122 then 1 else (if nI b < 65 then 0 else if 90 < nI b then 0 else 1)) = if isLt b = true then nI 1 else nI 0 := by decide +kernel
theorem m_let {L : Nat} {T : Nat → Nat} (hT : ∀ i, i < L → T i < 256) (k : Nat) (σ : Sg) : f_X12_isLetterByte (bt L T k) σ = some (if k < L ∧ isLt (T k) = true then nI 1 else nI 0, σ) := by
  rw [m_letV]
  unfold bt
  by_cases z : k < L
  · rw [if_pos z, m_let_t _ (hT k z)]
    by_cases q : isLt (T k) = true
    · rw [if_pos q, if_pos ⟨z, q⟩]
    · rw [if_neg q, if_neg (fun p => q p.2)]
  · rw [if_neg z, if_neg (show ¬ (k < L ∧ isLt (T k) = true) from fun p => z p.1)]
    rfl
/-- a number as the reference has it, and as the class has it -/
def NW (w v : Nat) : Prop := w ≤ 2000000 ∧ ((w = v ∧ v ≤ 9999) ∨ (9999 < w ∧ 9999 < v))
abbrev Sn7 : Nat → Nat → Prop := fun a j => a = 0 ∧ (j = 7 ∨ j = 10)
theorem m_nt85 {L : Nat} {T : Nat → Nat} (hL : L ≤ 300) (hT : ∀ i, i < L → T i < 256) : ∀ d k w v, L - k = d → k ≤ L → NW w v → v ≤ 10000 → ∀ fu, d < fu → ∀ σ, TPM L T σ → σ.1 0 7 = nI k → σ.1 0 10 = nI w → ∃ σ' w', f_X12_nextToken_85 fu σ = some σ' ∧ σ'.1 0 7 = nI (skE L T isDg k) ∧ σ'.1 0 10 = nI w' ∧ NW w' (nmT L T k v) ∧ fr Sn7 σ σ' := by
  intro d
  induction d with
  | zero =>
    intro k w v hd hk hw hv fu hfu σ h h7 h10
    obtain ⟨f, rfl⟩ : ∃ f, fu = f + 1 := ⟨fu - 1, by omega⟩
    refine ⟨σ, w, ?_, by rw [skE_stop (by omega)]; exact h7, h10, by rw [nmT_stop (by omega)]; exact hw, fr.rfl⟩
    show (bnd (f_X12_byteAt (σ.1 0 7) σ) _) = _
    rw [h7, m_byte hL h (by omega), e_bnd, m_fig hT, e_bnd, if_neg (show ¬ (k < L ∧ isDg (T k) = true) by omega), if_pos (show nI 0 = 0 from rfl)]
    rfl
  | succ d ih =>
    intro k w v hd hk hw hv fu hfu σ h h7 h10
    obtain ⟨f, rfl⟩ : ∃ f, fu = f + 1 := ⟨fu - 1, by omega⟩
    by_cases z : isDg (T k) = true
    · have z2 := of_decide_eq_true z
      have n7 : ∀ (s : Sg) (x : Int32), (wI s 0 10 x).1 0 7 = s.1 0 7 := fun s x => e_ne2 (by decide)
      have main : ∀ w', NW w' (min 10000 (v * 10 + T k - 48)) → f_X12_nextToken_85 (f + 1) σ = f_X12_nextToken_135 (f_X12_nextToken_85 f) (nI w') σ → ∃ σ' w', f_X12_nextToken_85 (f + 1) σ = some σ' ∧ σ'.1 0 7 = nI (skE L T isDg k) ∧ σ'.1 0 10 = nI w' ∧ NW w' (nmT L T k v) ∧ fr Sn7 σ σ' := by
        intro w' hw' e
        obtain ⟨u, hu⟩ : ∃ u, u = wI (wI σ 0 10 (nI w')) 0 7 (nI (k + 1)) := ⟨_, rfl⟩
        have fu : fr Sn7 σ u := by rw [hu]; exact (fr.w (by omega)).trans (fr.w (by omega))
        obtain ⟨σ', w2, a1, a2, a3, a4, a5⟩ := ih (k + 1) w' _ (by omega) (by omega) hw' (Nat.min_le_left _ _) f (by omega) u (h.of (fu.mono (fun a j q => by omega))) (by rw [hu, e_hit]) (by rw [hu, e_ne2 (by decide), e_hit])
        refine ⟨σ', w2, ?_, by rw [skE_step (by omega) z]; exact a2, a3, by rw [nmT_step (by omega) z]; exact a4, fu.trans a5⟩
        rw [e]
        unfold f_X12_nextToken_135
        rw [e_lt, n7, h7, e_lt, show nI k + 1 = nI (k + 1) from nI_add _ _, ← hu]
        exact a1
      have pre : ∀ R, (if nI w ≤ 99999 then f_X12_nextToken_135 (f_X12_nextToken_85 f) (((10 * nI w) + nI (T k)) - 48) σ else f_X12_nextToken_135 (f_X12_nextToken_85 f) (nI w) σ) = R → f_X12_nextToken_85 (f + 1) σ = R := by
        intro R e
        rw [← e]
        show (bnd (f_X12_byteAt (σ.1 0 7) σ) _) = _
        have bk : bt L T k = nI (T k) := if_pos (by omega)
        rw [h7, m_byte hL h (by omega), e_bnd, m_fig hT, e_bnd, if_pos (show k < L ∧ isDg (T k) = true from ⟨by omega, z⟩), if_neg (show ¬ (nI 1 = 0) by decide), h10, h7, m_byte hL h (by omega), e_bnd, bk]
      have hw2 := hw.2
      by_cases y : w ≤ 99999
      · refine main (10 * w + T k - 48) ⟨by omega, by omega⟩ (pre _ ?_)
        rw [if_pos (show nI w ≤ 99999 from nI_le (b := 99999) y (by decide)), show (10 : Int32) * nI w = nI (10 * w) from pk_mul 10 _, nI_add, show nI (10 * w + T k) - 48 = nI (10 * w + T k - 48) from e_sub (b := 48) (by omega)]
      · refine main w ⟨hw.1, by omega⟩ (pre _ ?_)
        have := hw.1
        rw [if_neg (show ¬ (nI w ≤ 99999) from nI_ge (a := 99999) (by omega) (by omega))]
    · refine ⟨σ, w, ?_, by rw [skE_stop (fun q => z q.2)]; exact h7, h10, by rw [nmT_stop (fun q => z q.2)]; exact hw, fr.rfl⟩
      show (bnd (f_X12_byteAt (σ.1 0 7) σ) _) = _
      rw [h7, m_byte hL h (by omega), e_bnd, m_fig hT, e_bnd, if_neg (show ¬ (k < L ∧ isDg (T k) = true) from fun q => z q.2), if_pos (show nI 0 = 0 from rfl)]
      rfl
abbrev Sn8 : Nat → Nat → Prop := fun a j => a = 0 ∧ j = 7
theorem m_nt168 {L : Nat} {T : Nat → Nat} (hL : L ≤ 300) (hT : ∀ i, i < L → T i < 256) : ∀ d k w, L - k = d → k ≤ L → w < 4611686018427387904 → ∀ fu, d < fu → ∀ σ, TPM L T σ → σ.1 0 7 = nI k → σ.2.1 0 11 = nL w → ∃ σ', f_X12_nextToken_168 fu σ = some σ' ∧ σ'.1 0 7 = nI (skE L T isLt k) ∧ σ'.2.1 0 11 = nL (pwT L T k w) ∧ fr Sn8 σ σ' := by
  intro d
  induction d with
  | zero =>
    intro k w hd hk hw fu hfu σ h h7 h11
    obtain ⟨f, rfl⟩ : ∃ f, fu = f + 1 := ⟨fu - 1, by omega⟩
    refine ⟨σ, ?_, by rw [skE_stop (by omega)]; exact h7, by rw [pwT_stop (by omega)]; exact h11, fr.rfl⟩
    show (bnd (f_X12_byteAt (σ.1 0 7) σ) _) = _
    rw [h7, m_byte hL h (by omega), e_bnd, m_let hT, e_bnd, if_neg (show ¬ (k < L ∧ isLt (T k) = true) by omega), if_pos (show nI 0 = 0 from rfl)]
    rfl
  | succ d ih =>
    intro k w hd hk hw fu hfu σ h h7 h11
    obtain ⟨f, rfl⟩ : ∃ f, fu = f + 1 := ⟨fu - 1, by omega⟩
    by_cases z : isLt (T k) = true
    · have hb := hT k (by omega)
      have n7 : ∀ (s : Sg) (x : Int64), (wL s 0 11 x).1 0 7 = s.1 0 7 := fun s x => rfl
      have main : ∀ w', w' < 4611686018427387904 → w' = (if w < 281474976710656 then 256 * w + T k else 1152921504606846976) → f_X12_nextToken_168 (f + 1) σ = f_X12_nextToken_218 (f_X12_nextToken_168 f) (nL w') σ → ∃ σ', f_X12_nextToken_168 (f + 1) σ = some σ' ∧ σ'.1 0 7 = nI (skE L T isLt k) ∧ σ'.2.1 0 11 = nL (pwT L T k w) ∧ fr Sn8 σ σ' := by
        intro w' hw' ew e
        obtain ⟨u, hu⟩ : ∃ u, u = wI (wL σ 0 11 (nL w')) 0 7 (nI (k + 1)) := ⟨_, rfl⟩
        have fu : fr Sn8 σ u := by rw [hu]; exact fr_wL.trans (fr.w (by omega))
        obtain ⟨σ', a1, a2, a3, a4⟩ := ih (k + 1) w' (by omega) (by omega) hw' f (by omega) u (h.of (fu.mono (fun a j q => by omega))) (by rw [hu, e_hit]) (by
          rw [hu]
          show (wL σ 0 11 (nL w')).2.1 0 11 = _
          exact wL_hit)
        refine ⟨σ', ?_, by rw [skE_step (by omega) z]; exact a2, by rw [pwT_step (by omega) z, ← ew]; exact a3, fu.trans a4⟩
        rw [e]
        unfold f_X12_nextToken_218
        rw [e_lt, n7, h7, e_lt, show nI k + 1 = nI (k + 1) from nI_add _ _, ← hu]
        exact a1
      have pre : ∀ R, (if (lg_cmp (lshr (nL w) 48) 0) = 0 then f_X12_nextToken_218 (f_X12_nextToken_168 f) ((lshl (nL w) 8) ||| (Int32.toInt64 (nI (T k)))) σ else f_X12_nextToken_218 (f_X12_nextToken_168 f) 1152921504606846976 σ) = R → f_X12_nextToken_168 (f + 1) σ = R := by
        intro R e
        rw [← e]
        show (bnd (f_X12_byteAt (σ.1 0 7) σ) _) = _
        have bk : bt L T k = nI (T k) := if_pos (by omega)
        rw [h7, m_byte hL h (by omega), e_bnd, m_let hT, e_bnd, if_pos (show k < L ∧ isLt (T k) = true from ⟨by omega, z⟩), if_neg (show ¬ (nI 1 = 0) by decide), h11, h7, m_byte hL h (by omega), e_bnd, bk]
      by_cases y : w < 281474976710656
      · refine main (256 * w + T k) (by omega) (by rw [if_pos y]) (pre _ ?_)
        rw [if_pos (by rw [nL_shr48 hw]; exact y), nL_pack hb]
      · refine main 1152921504606846976 (by omega) (by rw [if_neg y]) (pre _ ?_)
        rw [if_neg (by rw [nL_shr48 hw]; exact y)]
        rfl
    · refine ⟨σ, ?_, by rw [skE_stop (fun q => z q.2)]; exact h7, by rw [pwT_stop (fun q => z q.2)]; exact h11, fr.rfl⟩
      show (bnd (f_X12_byteAt (σ.1 0 7) σ) _) = _
      rw [h7, m_byte hL h (by omega), e_bnd, m_let hT, e_bnd, if_neg (show ¬ (k < L ∧ isLt (T k) = true) from fun q => z q.2), if_pos (show nI 0 = 0 from rfl)]
      rfl
def sgI (v0 : Int32) : Int32 := if v0 = 35 then ( (1 : Int32) ) else ( if v0 = 36 then ( (0 : Int32) ) else ( if v0 = 37 then ( (0 : Int32) ) else ( if v0 = 38 then ( (0 : Int32) ) else ( if v0 = 39 then ( (0 : Int32) ) else ( if v0 = 40 then ( (1 : Int32) ) else ( if v0 = 41 then ( (1 : Int32) ) else ( if v0 = 42 then ( (1 : Int32) ) else ( if v0 = 43 then ( (1 : Int32) ) else ( if v0 = 44 then ( (0 : Int32) ) else ( if v0 = 45 then ( (1 : Int32) ) else ( if v0 = 46 then ( (0 : Int32) ) else ( if v0 = 47 then ( (1 : Int32) ) else ( if v0 = 48 then ( (0 : Int32) ) else ( if v0 = 49 then ( (0 : Int32) ) else ( if v0 = 50 then ( (0 : Int32) ) else ( if v0 = 51 then ( (0 : Int32) ) else ( if v0 = 52 then ( (0 : Int32) ) else ( if v0 = 53 then ( (0 : Int32) ) else ( if v0 = 54 then ( (0 : Int32) ) else ( if v0 = 55 then ( (0 : Int32) ) else ( if v0 = 56 then ( (0 : Int32) ) else ( if v0 = 57 then ( (0 : Int32) ) else ( if v0 = 58 then ( (1 : Int32) ) else ( if v0 = 59 then ( (1 : Int32) ) else ( if v0 = 60 then ( (1 : Int32) ) else ( if v0 = 61 then ( (1 : Int32) ) else ( if v0 = 62 then ( (1 : Int32) ) else ( (0 : Int32) ))))))))))))))))))))))))))))
theorem m_isSign (v : Int32) (σ : Sg) : f_X12_isSign v σ = some (sgI v, σ) := by
  unfold f_X12_isSign sgI f_X12_isSign_128 f_X12_isSign_130
  by_cases z35 : v = 35
  · rw [if_pos z35, if_pos z35]
  rw [if_neg z35, if_neg z35]
  by_cases z36 : v = 36
  · rw [if_pos z36, if_pos z36]
  rw [if_neg z36, if_neg z36]
  by_cases z37 : v = 37
  · rw [if_pos z37, if_pos z37]
  rw [if_neg z37, if_neg z37]
  by_cases z38 : v = 38
  · rw [if_pos z38, if_pos z38]
  rw [if_neg z38, if_neg z38]
  by_cases z39 : v = 39
  · rw [if_pos z39, if_pos z39]
  rw [if_neg z39, if_neg z39]
  by_cases z40 : v = 40
  · rw [if_pos z40, if_pos z40]
  rw [if_neg z40, if_neg z40]
  by_cases z41 : v = 41
  · rw [if_pos z41, if_pos z41]
  rw [if_neg z41, if_neg z41]
  by_cases z42 : v = 42
  · rw [if_pos z42, if_pos z42]
  rw [if_neg z42, if_neg z42]
  by_cases z43 : v = 43
  · rw [if_pos z43, if_pos z43]
  rw [if_neg z43, if_neg z43]
  by_cases z44 : v = 44
  · rw [if_pos z44, if_pos z44]
  rw [if_neg z44, if_neg z44]
  by_cases z45 : v = 45
  · rw [if_pos z45, if_pos z45]
  rw [if_neg z45, if_neg z45]
  by_cases z46 : v = 46
  · rw [if_pos z46, if_pos z46]
  rw [if_neg z46, if_neg z46]
  by_cases z47 : v = 47
  · rw [if_pos z47, if_pos z47]
  rw [if_neg z47, if_neg z47]
  by_cases z48 : v = 48
  · rw [if_pos z48, if_pos z48]
  rw [if_neg z48, if_neg z48]
  by_cases z49 : v = 49
  · rw [if_pos z49, if_pos z49]
  rw [if_neg z49, if_neg z49]
  by_cases z50 : v = 50
  · rw [if_pos z50, if_pos z50]
  rw [if_neg z50, if_neg z50]
  by_cases z51 : v = 51
  · rw [if_pos z51, if_pos z51]
  rw [if_neg z51, if_neg z51]
  by_cases z52 : v = 52
  · rw [if_pos z52, if_pos z52]
  rw [if_neg z52, if_neg z52]
  by_cases z53 : v = 53
  · rw [if_pos z53, if_pos z53]
  rw [if_neg z53, if_neg z53]
  by_cases z54 : v = 54
  · rw [if_pos z54, if_pos z54]
  rw [if_neg z54, if_neg z54]
  by_cases z55 : v = 55
  · rw [if_pos z55, if_pos z55]
  rw [if_neg z55, if_neg z55]
  by_cases z56 : v = 56
  · rw [if_pos z56, if_pos z56]
  rw [if_neg z56, if_neg z56]
  by_cases z57 : v = 57
  · rw [if_pos z57, if_pos z57]
  rw [if_neg z57, if_neg z57]
  by_cases z58 : v = 58
  · rw [if_pos z58, if_pos z58]
  rw [if_neg z58, if_neg z58]
  by_cases z59 : v = 59
  · rw [if_pos z59, if_pos z59]
  rw [if_neg z59, if_neg z59]
  by_cases z60 : v = 60
  · rw [if_pos z60, if_pos z60]
  rw [if_neg z60, if_neg z60]
  by_cases z61 : v = 61
  · rw [if_pos z61, if_pos z61]
  rw [if_neg z61, if_neg z61]
  by_cases z62 : v = 62
  · rw [if_pos z62, if_pos z62]
  rw [if_neg z62, if_neg z62]
theorem nt0_step (fu : Nat) (σ : Sg) : f_X12_nextToken_0 (fu + 1) σ = bnd (f_X12_byteAt (σ.1 0 7) σ) fun r42 σ41 =>
    if r42 = 32 then (
    f_X12_nextToken_26 (f_X12_nextToken_0 fu) σ41
    ) else (
    bnd (f_X12_byteAt (σ41.1 0 7) σ41) fun r45 σ44 =>
    if r45 = 10 then (
    f_X12_nextToken_26 (f_X12_nextToken_0 fu) σ44
    ) else (
    ltσ (wI σ44 0 8 (σ44.1 0 7)) fun σ46 =>
    bnd (f_X12_byteAt (σ46.1 0 7) σ46) fun r50 σ49 =>
    if 0 ≤ r50 then (
    bnd (f_X12_isFigure r50 σ49) fun r53 σ52 =>
    if r53 = 0 then (
    bnd (f_X12_isLetterByte r50 σ52) fun r56 σ55 =>
    if r56 = 0 then (
    bnd (f_X12_isSign r50 σ55) fun r59 σ58 =>
    if r59 = 0 then (
    f_X12_nextToken_247 r50 3 σ58
    ) else (
    f_X12_nextToken_247 r50 r50 σ58
    )
    ) else (
    ltσ (wI σ55 0 9 2) fun σ60 =>
    ltσ (wL σ60 0 11 0) fun σ62 =>
    f_X12_nextToken_168 FU σ62
    )
    ) else (
    ltσ (wI σ52 0 9 1) fun σ64 =>
    ltσ (wI σ64 0 10 0) fun σ66 =>
    f_X12_nextToken_85 FU σ66
    )
    ) else (
    ltσ (wI σ49 0 9 0) fun σ68 =>
    f_X12_nextToken_310 σ68
    )
    )
    ) := rfl
def s1I (b : Nat) : Int32 := if sgI (nI b) = 0 then 3 else nI b
theorem sgI_t : ∀ b, b < 256 → isLt b = false → isDg b = false → ((30 ≤ sgK b ∧ sgK b ≤ 42) ∧ s1I b = nI (sgn (sgK b))) ∨ (sgK b = 44 ∧ (s1I b = nI 3 ∨ s1I b = nI 58)) := by decide +kernel
theorem bt_nb {L : Nat} {T : Nat → Nat} {i : Nat} (hT : ∀ i, i < L → T i < 256) (nb : ¬ (i < L ∧ isBk (T i) = true)) : ¬ (bt L T i = 32) ∧ ¬ (bt L T i = 10) := by
  unfold bt
  by_cases z : i < L
  · have := hT i z
    rw [if_pos z]
    constructor
    · intro q
      have := (nI_eq (b := 32) (by omega) (by decide)).mp q
      exact nb ⟨z, decide_eq_true (by omega)⟩
    · intro q
      have := (nI_eq (b := 10) (by omega) (by decide)).mp q
      exact nb ⟨z, decide_eq_true (by omega)⟩
  · rw [if_neg z]
    decide
theorem m_tokN {L : Nat} {T : Nat → Nat} (hL : L ≤ 300) (hT : ∀ i, i < L → T i < 256) {σ : Sg} {i : Nat} (hi : i ≤ L) (h : TPM L T σ) (h7 : σ.1 0 7 = nI i) (nb : ¬ (i < L ∧ isBk (T i) = true)) (fu : Nat) : ∃ σ', f_X12_nextToken_0 (fu + 1) σ = some σ' ∧ TM σ' (kdA L T i) (nmA L T i) ∧ σ'.1 0 8 = nI i ∧ σ'.1 0 7 = nI (tokE L T i) ∧ fr Snt σ σ' := by
  have b1 := m_byte hL h (k := i) (by omega)
  obtain ⟨n32, n10⟩ := bt_nb hT nb
  obtain ⟨s1, hs1⟩ : ∃ s1, s1 = wI σ 0 8 (nI i) := ⟨_, rfl⟩
  have f1 : fr Snt σ s1 := by rw [hs1]; exact fr.w (by omega)
  have h1 := h.of f1
  have s7 : s1.1 0 7 = nI i := by rw [hs1, e_ne2 (by decide)]; exact h7
  have s8 : s1.1 0 8 = nI i := by rw [hs1, e_hit]
  have b2 := m_byte hL h1 (k := i) (by omega)
  rw [nt0_step, h7, b1, e_bnd, if_neg n32, h7, b1, e_bnd, if_neg n10, h7, e_lt, ← hs1, s7, b2, e_bnd]
  by_cases zL : L ≤ i
  · have eb : bt L T i = -1 := if_neg (by omega)
    have ek : kdA L T i = 45 := if_pos zL
    have et : tokE L T i = i := if_pos zL
    rw [eb, if_neg (show ¬ ((0 : Int32) ≤ -1) by decide), e_lt, ek, et]
    exact ⟨_, rfl, Or.inl ⟨rfl, e_hit⟩, by rw [e_ne2 (by decide)]; exact s8, by rw [e_ne2 (by decide)]; exact s7, f1.trans (fr.w (by omega))⟩
  have zi : i < L := by omega
  have hb := hT i zi
  have eb : bt L T i = nI (T i) := if_pos zi
  have fg := m_fig hT i s1
  have le := m_let hT i s1
  rw [eb] at fg le ⊢
  have ge0 : (0 : Int32) ≤ nI (T i) := nI_le (a := 0) (Nat.zero_le _) (by omega)
  rw [if_pos ge0, fg, e_bnd]
  by_cases a : isLt (T i) = true
  · have na : ¬ (isDg (T i) = true) := fun q => by
      have := of_decide_eq_true a
      have := of_decide_eq_true q
      omega
    have E : tokE L T i = skE L T isLt i := by
      rw [skE_step zi a]
      unfold tokE
      rw [if_neg zL, if_pos a]
    have ek : kdA L T i = wordK (tkB T (skE L T isLt i - i) i) := by
      rw [← E]
      unfold kdA
      rw [if_neg zL, if_pos a]
    obtain ⟨p1, p2⟩ := pw_word (L := L) (T := T) zi a
    obtain ⟨u, hu⟩ : ∃ u, u = wL (wI s1 0 9 2) 0 11 0 := ⟨_, rfl⟩
    have fu1 : fr Snt s1 u := by rw [hu]; exact (fr.w (by omega)).trans fr_wL
    obtain ⟨v, v1, v2, v3, v4⟩ := m_nt168 hL hT _ i 0 rfl hi (by decide) FU (by unfold FU; omega) u (h1.of fu1) (by
      rw [hu]
      show (wI s1 0 9 2).1 0 7 = _
      rw [e_ne2 (by decide)]
      exact s7) (by
      rw [hu]
      exact wL_hit)
    have u9 : u.1 0 9 = 2 := by
      rw [hu]
      show (wI s1 0 9 2).1 0 9 = _
      rw [e_hit]
    have u8 : u.1 0 8 = nI i := by
      rw [hu]
      show (wI s1 0 9 2).1 0 8 = _
      rw [e_ne2 (by decide)]
      exact s8
    rw [if_neg (show ¬ (i < L ∧ isDg (T i) = true) from fun q => na q.2), if_pos (show nI 0 = 0 from rfl), le, e_bnd, if_pos (show i < L ∧ isLt (T i) = true from ⟨zi, a⟩), if_neg (show ¬ (nI 1 = 0) by decide), e_lt, e_lt, ← hu, ek, E]
    refine ⟨v, v1, Or.inr (Or.inr (Or.inr (Or.inr ⟨?_, by rw [v4.1 _ _ (by omega)]; exact u9, _, p1, by rw [v3, nL_iL], p2⟩))), by rw [v4.1 _ _ (by omega)]; exact u8, v2, (f1.trans fu1).trans (v4.mono (fun a j q => by omega))⟩
    rcases wordK_v (tkB T (skE L T isLt i - i) i) with g | ⟨g, _⟩
    · exact Or.inr g
    · exact Or.inl g
  have af : isLt (T i) = false := by
    cases q : isLt (T i)
    · rfl
    · exact absurd q a
  by_cases b : isDg (T i) = true
  · have E : tokE L T i = skE L T isDg i := by
      rw [skE_step zi b]
      unfold tokE
      rw [if_neg zL, if_neg a, if_pos b]
    have ek : kdA L T i = 43 := by
      unfold kdA
      rw [if_neg zL, if_neg a, if_pos b]
    have b48 := of_decide_eq_true b
    have en : nmA L T i = nmT L T i 0 := by
      rw [nmT_step zi b]
      unfold nmA
      rw [if_neg zL, if_neg a, if_pos b]
      congr 1
      omega
    obtain ⟨u, hu⟩ : ∃ u, u = wI (wI s1 0 9 1) 0 10 0 := ⟨_, rfl⟩
    have fu1 : fr Snt s1 u := by rw [hu]; exact (fr.w (by omega)).trans (fr.w (by omega))
    obtain ⟨v, w', v1, v2, v3, v4, v5⟩ := m_nt85 hL hT _ i 0 0 rfl hi ⟨by decide, Or.inl ⟨rfl, by decide⟩⟩ (by decide) FU (by unfold FU; omega) u (h1.of fu1) (by rw [hu, e_ne2 (by decide), e_ne2 (by decide)]; exact s7) (by rw [hu, e_hit]; rfl)
    have u9 : u.1 0 9 = 1 := by rw [hu, e_ne2 (by decide), e_hit]
    have u8 : u.1 0 8 = nI i := by rw [hu, e_ne2 (by decide), e_ne2 (by decide)]; exact s8
    rw [if_pos (show i < L ∧ isDg (T i) = true from ⟨zi, b⟩), if_neg (show ¬ (nI 1 = 0) by decide), e_lt, e_lt, ← hu, ek, E, en]
    exact ⟨v, v1, Or.inr (Or.inl ⟨rfl, by rw [v5.1 _ _ (by omega)]; exact u9, w', v4.1, v3, v4.2⟩), by rw [v5.1 _ _ (by omega)]; exact u8, v2, (f1.trans fu1).trans (v5.mono (fun a j q => by omega))⟩
  have bf : isDg (T i) = false := by
    cases q : isDg (T i)
    · rfl
    · exact absurd q b
  have K44 := sgI_t (T i) hb af bf
  obtain ⟨u, hu⟩ : ∃ u, u = wI (wI s1 0 9 (s1I (T i))) 0 7 (nI (i + 1)) := ⟨_, rfl⟩
  have fu1 : fr Snt s1 u := by rw [hu]; exact (fr.w (by omega)).trans (fr.w (by omega))
  have u7 : u.1 0 7 = nI (i + 1) := by rw [hu, e_hit]
  have u8 : u.1 0 8 = nI i := by rw [hu, e_ne2 (by decide), e_ne2 (by decide)]; exact s8
  have u9 : u.1 0 9 = s1I (T i) := by rw [hu, e_ne2 (by decide), e_hit]
  have u8t := h1.of fu1
  have go : (bnd (f_X12_isSign (nI (T i)) s1) fun r59 σ58 => if r59 = 0 then f_X12_nextToken_247 (nI (T i)) 3 σ58 else f_X12_nextToken_247 (nI (T i)) (nI (T i)) σ58) = (if nI (T i) = 60 then f_X12_nextToken_272 (nI (T i)) u else if nI (T i) = 62 then f_X12_nextToken_272 (nI (T i)) u else f_X12_nextToken_310 u) := by
    have e247 : f_X12_nextToken_247 (nI (T i)) (s1I (T i)) s1 = (if nI (T i) = 60 then f_X12_nextToken_272 (nI (T i)) u else if nI (T i) = 62 then f_X12_nextToken_272 (nI (T i)) u else f_X12_nextToken_310 u) := by
      unfold f_X12_nextToken_247
      rw [e_lt, e_ne2 (by decide), s7, e_lt, show nI i + 1 = nI (i + 1) from nI_add _ _, ← hu]
    rw [m_isSign, e_bnd, ← e247]
    unfold s1I
    by_cases q : sgI (nI (T i)) = 0
    · rw [if_pos q, if_pos q]
    · rw [if_neg q, if_neg q]
  rw [if_neg (show ¬ (i < L ∧ isDg (T i) = true) from fun q => b q.2), if_pos (show nI 0 = 0 from rfl), le, e_bnd, if_neg (show ¬ (i < L ∧ isLt (T i) = true) from fun q => a q.2), if_pos (show nI 0 = 0 from rfl), go]
  have e310 : f_X12_nextToken_310 u = some u := rfl
  have c60 : (nI (T i) = 60) = (T i = 60) := propext (nI_eq (b := 60) (by omega) (by decide))
  have c62 : (nI (T i) = 62) = (T i = 62) := propext (nI_eq (b := 62) (by omega) (by decide))
  have plain : ¬ ((T i = 60 ∨ T i = 62) ∧ i + 1 < L ∧ T (i + 1) = 61) → ∃ σ', some u = some σ' ∧ TM σ' (kdA L T i) (nmA L T i) ∧ σ'.1 0 8 = nI i ∧ σ'.1 0 7 = nI (tokE L T i) ∧ fr Snt σ σ' := by
    intro no
    have ek : kdA L T i = sgK (T i) := by
      unfold kdA
      rw [if_neg zL, if_neg a, if_neg b, if_neg no]
    have E : tokE L T i = i + 1 := by
      unfold tokE
      rw [if_neg zL, if_neg a, if_neg b, if_neg no]
    rw [ek, E]
    refine ⟨u, rfl, ?_, u8, u7, f1.trans fu1⟩
    rcases K44 with ⟨g1, g2⟩ | ⟨g1, g2⟩
    · exact Or.inr (Or.inr (Or.inl ⟨g1, by rw [u9, g2]⟩))
    · exact Or.inr (Or.inr (Or.inr (Or.inl ⟨g1, by rw [u9]; exact g2⟩)))
  have e272 : (T i = 60 ∨ T i = 62) → ∃ σ', f_X12_nextToken_272 (nI (T i)) u = some σ' ∧ TM σ' (kdA L T i) (nmA L T i) ∧ σ'.1 0 8 = nI i ∧ σ'.1 0 7 = nI (tokE L T i) ∧ fr Snt σ σ' := by
    intro w
    unfold f_X12_nextToken_272
    rw [u7, m_byte hL u8t (by omega), e_bnd]
    by_cases y : i + 1 < L ∧ T (i + 1) = 61
    · have ey : bt L T (i + 1) = 61 := by
        unfold bt
        rw [if_pos y.1, y.2]
        rfl
      have ek : kdA L T i = sgK (T i) + 1 := by
        unfold kdA
        rw [if_neg zL, if_neg a, if_neg b, if_pos ⟨w, y⟩]
      have E : tokE L T i = i + 2 := by
        unfold tokE
        rw [if_neg zL, if_neg a, if_neg b, if_pos ⟨w, y⟩]
      have e297 : ∀ x : Int32, ∃ σ', f_X12_nextToken_297 x u = some σ' ∧ σ'.1 0 9 = x ∧ σ'.1 0 8 = nI i ∧ σ'.1 0 7 = nI (i + 2) ∧ fr Snt σ σ' := by
        intro x
        refine ⟨wI (wI u 0 9 x) 0 7 (nI (i + 2)), ?_, by rw [e_ne2 (by decide), e_hit], by rw [e_ne2 (by decide), e_ne2 (by decide)]; exact u8, by rw [e_hit], (f1.trans fu1).trans ((fr.w (by omega)).trans (fr.w (by omega)))⟩
        unfold f_X12_nextToken_297
        rw [e_lt, e_ne2 (by decide), u7, e_lt, show nI (i + 1) + 1 = nI (i + 2) from nI_add _ _]
        rfl
      rw [if_pos ey, ek, E]
      rcases w with w | w
      · rw [if_pos (show nI (T i) = 60 by rw [c60]; exact w)]
        obtain ⟨σ', q1, q2, q3, q4, q5⟩ := e297 4
        refine ⟨σ', q1, Or.inr (Or.inr (Or.inl ⟨?_, ?_⟩)), q3, q4, q5⟩
        · rw [w]
          decide
        · rw [w, q2]
          decide
      · rw [if_neg (show ¬ (nI (T i) = 60) by rw [c60]; omega)]
        obtain ⟨σ', q1, q2, q3, q4, q5⟩ := e297 5
        refine ⟨σ', q1, Or.inr (Or.inr (Or.inl ⟨?_, ?_⟩)), q3, q4, q5⟩
        · rw [w]
          decide
        · rw [w, q2]
          decide
    · have ey : ¬ (bt L T (i + 1) = 61) := by
        unfold bt
        by_cases x : i + 1 < L
        · have := hT _ x
          rw [if_pos x]
          exact fun q => y ⟨x, (nI_eq (b := 61) (by omega) (by decide)).mp q⟩
        · rw [if_neg x]
          decide
      rw [if_neg ey, e310]
      exact plain (fun q => y q.2)
  by_cases w60 : T i = 60
  · rw [if_pos (by rw [c60]; exact w60)]
    exact e272 (Or.inl w60)
  rw [if_neg (by rw [c60]; exact w60)]
  by_cases w62 : T i = 62
  · rw [if_pos (by rw [c62]; exact w62)]
    exact e272 (Or.inr w62)
  rw [if_neg (by rw [c62]; exact w62), e310]
  exact plain (fun q => by omega)
theorem m_nt0 {L : Nat} {T : Nat → Nat} (hL : L ≤ 300) (hT : ∀ i, i < L → T i < 256) : ∀ d k, L - k = d → k ≤ L → ∀ fu, d < fu → ∀ σ, TPM L T σ → σ.1 0 7 = nI k → ∃ σ', f_X12_nextToken_0 fu σ = some σ' ∧ TM σ' (kdA L T (skE L T isBk k)) (nmA L T (skE L T isBk k)) ∧ σ'.1 0 8 = nI (skE L T isBk k) ∧ σ'.1 0 7 = nI (tokE L T (skE L T isBk k)) ∧ fr Snt σ σ' := by
  intro d
  induction d with
  | zero =>
    intro k hd hk fu hfu σ h h7
    obtain ⟨f, rfl⟩ : ∃ f, fu = f + 1 := ⟨fu - 1, by omega⟩
    rw [skE_stop (by omega)]
    exact m_tokN hL hT hk h h7 (by omega) f
  | succ d ih =>
    intro k hd hk fu hfu σ h h7
    obtain ⟨f, rfl⟩ : ∃ f, fu = f + 1 := ⟨fu - 1, by omega⟩
    by_cases z : isBk (T k) = true
    · rw [skE_step (by omega) z]
      obtain ⟨u, hu⟩ : ∃ u, u = wI σ 0 7 (nI (k + 1)) := ⟨_, rfl⟩
      have fu : fr Snt σ u := by rw [hu]; exact fr.w (by omega)
      obtain ⟨σ', a1, a2, a3, a4, a5⟩ := ih (k + 1) (by omega) (by omega) f (by omega) u (h.of fu) (by rw [hu, e_hit])
      refine ⟨σ', ?_, a2, a3, a4, fu.trans a5⟩
      have bk : bt L T k = nI (T k) := if_pos (by omega)
      have z2 := of_decide_eq_true z
      have e26 : f_X12_nextToken_26 (f_X12_nextToken_0 f) σ = some σ' := by
        unfold f_X12_nextToken_26
        rw [h7, e_lt, show nI k + 1 = nI (k + 1) from nI_add _ _, ← hu]
        exact a1
      rw [nt0_step, h7, m_byte hL h (by omega), e_bnd, bk]
      by_cases y : T k = 32
      · rw [if_pos (show nI (T k) = 32 by rw [y]; rfl)]
        exact e26
      · have y10 : T k = 10 := by omega
        rw [if_neg (show ¬ (nI (T k) = 32) by rw [y10]; decide), h7, m_byte hL h (by omega), e_bnd, bk, if_pos (show nI (T k) = 10 by rw [y10]; rfl)]
        exact e26
    · rw [skE_stop (fun q => z q.2)]
      exact m_tokN hL hT hk h h7 (fun q => z q.2) f
theorem m_nextA {L : Nat} {T : Nat → Nat} (hL : L ≤ 300) (hT : ∀ i, i < L → T i < 256) {σ : Sg} {e : Nat} (he : e ≤ L) (h : TPM L T σ) (h7 : σ.1 0 7 = nI e) : ∃ σ', f_X12_nextToken σ = some σ' ∧ TM σ' (kdA L T (skE L T isBk e)) (nmA L T (skE L T isBk e)) ∧ σ'.1 0 8 = nI (skE L T isBk e) ∧ σ'.1 0 7 = nI (tokE L T (skE L T isBk e)) ∧ fr Snt σ σ' := m_nt0 hL hT _ e rfl he FU (by unfold FU; omega) σ h h7
/-- the tokens, as both lexers have them -/
def Kt (L : Nat) (T : Nat → Nat) (j : Nat) : Nat := kdA L T (plc L T j)
def Vt (L : Nat) (T : Nat → Nat) (j : Nat) : Nat := nmA L T (plc L T j)
def Et (L : Nat) (T : Nat → Nat) (j : Nat) : Nat := tokE L T (plc L T j)
theorem Et_le {L : Nat} {T : Nat → Nat} (j : Nat) : Et L T j ≤ L := by
  unfold Et
  by_cases z : plc L T j < L
  · exact (tokE_gt z).2
  · have := (plc_le (L := L) (T := T) j).1
    have e : tokE L T (plc L T j) = plc L T j := if_pos (by omega)
    omega
theorem m_NX {L : Nat} {T : Nat → Nat} (hL : L ≤ 300) (hT : ∀ i, i < L → T i < 256) : NX T (plc L T) (Et L T) (Kt L T) (Vt L T) L := by
  intro σ p h
  obtain ⟨σ', a1, a2, a3, a4, a5⟩ := m_nextA hL hT (Et_le p) ⟨h.2.2.2.1, h.2.2.2.2⟩ h.2.2.1
  have t := TPM.of (L := L) (T := T) ⟨h.2.2.2.1, h.2.2.2.2⟩ a5
  exact ⟨σ', a1, ⟨a2, a3, a4, t.1, t.2⟩, a5⟩
theorem m_NX0 {L : Nat} {T : Nat → Nat} (hL : L ≤ 300) (hT : ∀ i, i < L → T i < 256) : NX0 T (plc L T) (Et L T) (Kt L T) (Vt L T) L := by
  intro σ h4 h40 h7
  obtain ⟨σ', a1, a2, a3, a4, a5⟩ := m_nextA hL hT (Nat.zero_le _) ⟨h4, h40⟩ h7
  have t := TPM.of (L := L) (T := T) ⟨h4, h40⟩ a5
  exact ⟨σ', a1, ⟨a2, a3, a4, t.1, t.2⟩, a5⟩
