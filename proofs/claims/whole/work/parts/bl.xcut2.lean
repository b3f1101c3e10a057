/-! text: the class cuts the tape -/
def TPX (L : Nat) (T : Nat → Nat) (σ : Sg) : Prop := ∀ k, k < L → σ.1 70 k = nI (T k) ∧ T k < 256
theorem TPX.of {L : Nat} {T : Nat → Nat} {σ σ' : Sg} (h : TPX L T σ) (f : fr Stk σ σ') : TPX L T σ' := fun k hk => ⟨by rw [f.1 _ _ (by omega)]; exact (h k hk).1, (h k hk).2⟩
theorem isLt_32 {b : Nat} (h : isLt b = true) : b ≠ 32 := by
  have := of_decide_eq_true h
  omega
theorem x_cut14 {L : Nat} {T : Nat → Nat} (hL : L ≤ 300) {σ : Sg} (h : TPX L T σ) (v : Int32) : ∀ d k, L - k = d → k ≤ L → ∀ fu, d < fu → f_X7_cutOne_14 fu v (nI L) (nI k) σ = f_X7_cutOne_36 v (nI (skE L T isLt k)) σ := by
  intro d
  induction d with
  | zero =>
    intro k hk hk2 fu hfu
    obtain ⟨f, rfl⟩ : ∃ f, fu = f + 1 := ⟨fu - 1, by omega⟩
    show (if nI L ≤ nI k then _ else _) = _
    rw [if_pos (show nI L ≤ nI k from nI_le (by omega) (by omega)), skE_stop (by omega)]
  | succ d ih =>
    intro k hk hk2 fu hfu
    obtain ⟨f, rfl⟩ : ∃ f, fu = f + 1 := ⟨fu - 1, by omega⟩
    obtain ⟨t1, t2⟩ := h k (by omega)
    show (if nI L ≤ nI k then _ else _) = _
    rw [if_neg (show ¬ (nI L ≤ nI k) from nI_ge (by omega) (by omega)), grd_of (by rw [e_inb (by omega) (by decide)]; rfl), e_ix (by omega), t1, x_isLetter t2, e_bnd]
    by_cases z : isLt (T k) = true
    · rw [if_pos z, if_neg (show ¬ (nI 1 = 0) by decide), skE_step (by omega) z, show nI k + 1 = nI (k + 1) from nI_add _ _]
      exact ih (k + 1) (by omega) (by omega) f (by omega)
    · rw [if_neg z, if_pos (show nI 0 = 0 from rfl), skE_stop (fun q => z q.2)]
theorem x_cut69 {L : Nat} {T : Nat → Nat} (hL : L ≤ 300) {σ : Sg} (h : TPX L T σ) (u : Int32) : ∀ d k v, L - k = d → k ≤ L → v ≤ 10000 → ∀ fu, d < fu → f_X7_cutOne_69 fu u (nI L) (nI k) (nI v) σ = f_X7_cutOne_112 u (nI (skE L T isDg k)) (nI (nmT L T k v)) σ := by
  intro d
  induction d with
  | zero =>
    intro k v hk hk2 hv fu hfu
    obtain ⟨f, rfl⟩ : ∃ f, fu = f + 1 := ⟨fu - 1, by omega⟩
    show (if nI L ≤ nI k then _ else _) = _
    rw [if_pos (show nI L ≤ nI k from nI_le (by omega) (by omega)), skE_stop (by omega), nmT_stop (by omega)]
  | succ d ih =>
    intro k v hk hk2 hv fu hfu
    obtain ⟨f, rfl⟩ : ∃ f, fu = f + 1 := ⟨fu - 1, by omega⟩
    obtain ⟨t1, t2⟩ := h k (by omega)
    show (if nI L ≤ nI k then _ else _) = _
    rw [if_neg (show ¬ (nI L ≤ nI k) from nI_ge (by omega) (by omega)), grd_of (by rw [e_inb (by omega) (by decide)]; rfl), e_ix (by omega), t1, x_isDigit t2, e_bnd]
    by_cases z : isDg (T k) = true
    · have z2 := of_decide_eq_true z
      have en : imin 10000 (((nI v * 10) + nI (T k)) - 48) = nI (min 10000 (v * 10 + T k - 48)) := by
        rw [show nI v * 10 = nI (v * 10) from pk_mul _ 10, nI_add, show nI (v * 10 + T k) - 48 = nI (v * 10 + T k - 48) from e_sub (b := 48) (by omega)]
        exact imin_I (a := 10000) (by decide) (by omega)
      rw [if_pos z, if_neg (show ¬ (nI 1 = 0) by decide), grd_of (by rw [e_inb (by omega) (by decide)]; rfl), t1, en, skE_step (by omega) z, nmT_step (by omega) z, show nI k + 1 = nI (k + 1) from nI_add _ _]
      exact ih (k + 1) _ (by omega) (by omega) (Nat.min_le_left _ _) f (by omega)
    · rw [if_neg z, if_pos (show nI 0 = 0 from rfl), skE_stop (fun q => z q.2), nmT_stop (fun q => z q.2)]
theorem x_cutOne {L : Nat} {T : Nat → Nat} (hL : L ≤ 300) {σ : Sg} (h : TPX L T σ) {c : Nat} (hc : c < 301) (hi : plc L T c < L) (hT : TKN L T σ c) : ∃ σ', f_X7_cutOne (nI (plc L T c)) (nI L) σ = some (nI (tokE L T (plc L T c)), σ') ∧ TKN L T σ' (c + 1) ∧ fr Stk σ σ' := by
  obtain ⟨u, u1, u2, u3⟩ := x_addT hT hc
  refine ⟨u, ?_, u2, u3⟩
  obtain ⟨i, hpi⟩ : ∃ i, i = plc L T c := ⟨_, rfl⟩
  rw [← hpi] at u1 hi ⊢
  obtain ⟨t1, t2⟩ := h i hi
  have g1 : inb (nI i) 300 = true := by rw [e_inb (by omega) (by decide)]
  have nL : ¬ L ≤ i := by omega
  have s1 : nI i + 1 = nI (i + 1) := nI_add _ _
  unfold f_X7_cutOne
  rw [grd_of (by rw [g1]; rfl), e_ix (by omega), t1, x_isLetter t2, e_bnd]
  by_cases a : isLt (T i) = true
  · have E : tokE L T i = skE L T isLt (i + 1) := by
      unfold tokE
      rw [if_neg nL, if_pos a]
    have gt := tokE_gt (T := T) hi
    have al := (skE_all (L := L) (T := T) (Q := isLt) _ (i + 1) rfl).2.2.2
    have ek : kdA L T i = wordK (tkB T (tokE L T i - i) i) := by
      unfold kdA
      rw [if_neg nL, if_pos a]
    have en : nmA L T i = 0 := by
      unfold nmA
      rw [if_neg nL, if_pos a]
    rw [ek, en] at u1
    have u1' : f_X7_add (nI (wordK (tkB T (tokE L T i - i) i))) 0 (nI i) σ = some u := u1
    rw [if_pos a, if_neg (show ¬ (nI 1 = 0) by decide), s1, x_cut14 hL h (nI i) _ (i + 1) rfl (by omega) FU (by unfold FU; omega), ← E]
    unfold f_X7_cutOne_36 f_X7_cutOne_175
    rw [x_wordAt (T := T) gt.1 (by omega) (fun k h1 h2 => ⟨(h k (by omega)).1, (h k (by omega)).2, ?_⟩), e_bnd, u1', e_bndV]
    by_cases y : k = i
    · rw [y]
      exact isLt_32 a
    · exact isLt_32 (al k (by omega) (by rw [← E]; exact h2))
  rw [if_neg a, if_pos (show nI 0 = 0 from rfl), grd_of (by rw [g1]; rfl), t1, x_isDigit t2, e_bnd]
  by_cases b : isDg (T i) = true
  · have b2 := of_decide_eq_true b
    have E : tokE L T i = skE L T isDg (i + 1) := by
      unfold tokE
      rw [if_neg nL, if_neg a, if_pos b]
    have ek : kdA L T i = 43 := by
      unfold kdA
      rw [if_neg nL, if_neg a, if_pos b]
    have en : nmA L T i = nmT L T (i + 1) (T i - 48) := by
      unfold nmA
      rw [if_neg nL, if_neg a, if_pos b]
    rw [ek, en] at u1
    have u1' : f_X7_add 43 (nI (nmT L T (i + 1) (T i - 48))) (nI i) σ = some u := u1
    rw [if_pos b, if_neg (show ¬ (nI 1 = 0) by decide), grd_of (by rw [g1]; rfl), t1, s1, show nI (T i) - 48 = nI (T i - 48) from e_sub (b := 48) (by omega), x_cut69 hL h (nI i) _ (i + 1) _ rfl (by omega) (by omega) FU (by unfold FU; omega), ← E]
    unfold f_X7_cutOne_112 f_X7_cutOne_175
    rw [u1', e_bndV]
  have en : nmA L T i = 0 := by
    unfold nmA
    rw [if_neg nL, if_neg a, if_neg b]
  rw [en] at u1
  rw [if_neg b, if_pos (show nI 0 = 0 from rfl), grd_of (by rw [g1]; rfl), t1, x_signOf t2, e_bnd]
  have sg := sgK_50 (T i)
  have s60 : ∀ b, b < 256 → (sgK b = 30 ↔ b = 60) ∧ (sgK b = 32 ↔ b = 62) := by decide +kernel
  obtain ⟨k1, k2⟩ := s60 (T i) t2
  have f146 : (T i = 60 ∨ T i = 62) → f_X7_cutOne_146 (nI i) (nI L) (nI (i + 1)) (nI (sgK (T i))) σ = some (nI (tokE L T i), u) := by
    intro w
    unfold f_X7_cutOne_146 f_X7_cutOne_167 f_X7_cutOne_175
    by_cases y : i + 1 < L
    · obtain ⟨r1, r2⟩ := h (i + 1) y
      rw [if_neg (show ¬ (nI L ≤ nI (i + 1)) from nI_ge (by omega) (by omega)), grd_of (by rw [e_inb (by omega) (by decide)]; rfl), e_ix (by omega), r1]
      by_cases x : T (i + 1) = 61
      · have E : tokE L T i = i + 2 := by
          unfold tokE
          rw [if_neg nL, if_neg a, if_neg b, if_pos ⟨w, y, x⟩]
        have ek : kdA L T i = sgK (T i) + 1 := by
          unfold kdA
          rw [if_neg nL, if_neg a, if_neg b, if_pos ⟨w, y, x⟩]
        rw [ek] at u1
        have u1' : f_X7_add (nI (sgK (T i) + 1)) 0 (nI i) σ = some u := u1
        rw [if_pos (show nI (T (i + 1)) = 61 by rw [x]; rfl), show nI (sgK (T i)) + 1 = nI (sgK (T i) + 1) from nI_add _ _, u1', e_bndV, E, show nI (i + 1) + 1 = nI (i + 2) from nI_add _ _]
      · have no : ¬ ((T i = 60 ∨ T i = 62) ∧ i + 1 < L ∧ T (i + 1) = 61) := fun q => x q.2.2
        have E : tokE L T i = i + 1 := by
          unfold tokE
          rw [if_neg nL, if_neg a, if_neg b, if_neg no]
        have ek : kdA L T i = sgK (T i) := by
          unfold kdA
          rw [if_neg nL, if_neg a, if_neg b, if_neg no]
        rw [ek] at u1
        have u1' : f_X7_add (nI (sgK (T i))) 0 (nI i) σ = some u := u1
        rw [if_neg (show ¬ (nI (T (i + 1)) = 61) from fun q => x ((nI_eq (b := 61) (by omega) (by decide)).mp q)), u1', e_bndV, E]
    · have no : ¬ ((T i = 60 ∨ T i = 62) ∧ i + 1 < L ∧ T (i + 1) = 61) := fun q => y q.2.1
      have E : tokE L T i = i + 1 := by
        unfold tokE
        rw [if_neg nL, if_neg a, if_neg b, if_neg no]
      have ek : kdA L T i = sgK (T i) := by
        unfold kdA
        rw [if_neg nL, if_neg a, if_neg b, if_neg no]
      rw [ek] at u1
      have u1' : f_X7_add (nI (sgK (T i))) 0 (nI i) σ = some u := u1
      rw [if_pos (show nI L ≤ nI (i + 1) from nI_le (by omega) (by omega)), u1', e_bndV, E]
  by_cases x : T i = 60
  · rw [if_pos (show nI (sgK (T i)) = 30 by rw [k1.mpr x]; rfl), s1]
    exact f146 (Or.inl x)
  rw [if_neg (show ¬ (nI (sgK (T i)) = 30) from fun q => x (k1.mp ((nI_eq (b := 30) (by omega) (by decide)).mp q)))]
  by_cases y : T i = 62
  · rw [if_pos (show nI (sgK (T i)) = 32 by rw [k2.mpr y]; rfl), s1]
    exact f146 (Or.inr y)
  rw [if_neg (show ¬ (nI (sgK (T i)) = 32) from fun q => y (k2.mp ((nI_eq (b := 32) (by omega) (by decide)).mp q))), s1]
  have no : ¬ ((T i = 60 ∨ T i = 62) ∧ i + 1 < L ∧ T (i + 1) = 61) := fun q => q.1.elim x y
  have E : tokE L T i = i + 1 := by
    unfold tokE
    rw [if_neg nL, if_neg a, if_neg b, if_neg no]
  have ek : kdA L T i = sgK (T i) := by
    unfold kdA
    rw [if_neg nL, if_neg a, if_neg b, if_neg no]
  rw [ek] at u1
  have u1' : f_X7_add (nI (sgK (T i))) 0 (nI i) σ = some u := u1
  unfold f_X7_cutOne_167 f_X7_cutOne_175
  rw [u1', e_bndV, E]
theorem x_cut12 {L : Nat} {T : Nat → Nat} (hL : L ≤ 300) : ∀ d i c left fu (σ : Sg), L - i = d → i ≤ L → c ≤ i → d ≤ left → left ≤ 300 → d < fu → skE L T isBk i = plc L T c → (∀ j, j < c → plc L T j < L) → TPX L T σ → TKN L T σ c → ∃ m σ', f_X7_cut_12 fu (nI L) (nI i) (nI left) σ = some σ' ∧ m ≤ L ∧ plc L T m = L ∧ (∀ j, j < m → plc L T j < L) ∧ TKN L T σ' (m + 1) ∧ fr Stk σ σ' := by
  intro d
  induction d using Nat.strongRecOn with
  | _ d ih =>
    intro i c left fu σ hd hi hc hl hl3 hfu hs hlt hX hT
    obtain ⟨f, rfl⟩ : ∃ f, fu = f + 1 := ⟨fu - 1, by omega⟩
    by_cases z : L ≤ i
    · have iL : i = L := by omega
      have pe : plc L T c = L := by rw [← hs, skE_stop (by omega), iL]
      obtain ⟨u, u1, u2, u3⟩ := x_addT hT (by omega)
      have ek : kdA L T L = 45 := if_pos (Nat.le_refl _)
      have en : nmA L T L = 0 := if_pos (Nat.le_refl _)
      rw [pe, ek, en] at u1
      have u1' : f_X7_add 45 0 (nI L) σ = some u := u1
      have e72 : f_X7_cut_72 (nI L) σ = some u := by
        unfold f_X7_cut_72
        rw [u1', e_bndV]
      refine ⟨c, u, ?_, by omega, pe, hlt, u2, u3⟩
      show (if nI left ≤ 0 then _ else _) = _
      by_cases y : nI left ≤ 0
      · rw [if_pos y]
        exact e72
      · rw [if_neg y, if_pos (show nI L ≤ nI i from nI_le z (by omega))]
        exact e72
    · obtain ⟨l, rfl⟩ : ∃ l, left = l + 1 := ⟨left - 1, by omega⟩
      obtain ⟨t1, t2⟩ := hX i (by omega)
      have hd0 : f_X7_cut_12 (f + 1) (nI L) (nI i) (nI (l + 1)) σ = if nI (T i) = 32 then f_X7_cut_47 (f_X7_cut_12 f) (nI L) (nI i) (nI (l + 1)) σ else if nI (T i) = 10 then f_X7_cut_47 (f_X7_cut_12 f) (nI L) (nI i) (nI (l + 1)) σ else bnd (f_X7_cutOne (nI i) (imin (nI L) 300) σ) fun r5 σ4 => f_X7_cut_66 (f_X7_cut_12 f) (nI L) r5 (nI (l + 1)) σ4 := by
        show (if nI (l + 1) ≤ 0 then _ else _) = _
        rw [if_neg (show ¬ (nI (l + 1) ≤ 0) from nI_ge (a := 0) (by omega) (by omega)), if_neg (show ¬ (nI L ≤ nI i) from nI_ge (by omega) (by omega)), if_neg (show ¬ ((300 : Int32) ≤ nI i) from nI_ge (b := 300) (by omega) (by decide)), grd_of (by rw [e_inb (by omega) (by decide)]; rfl), e_ix (by omega), t1]
      have e47 : f_X7_cut_47 (f_X7_cut_12 f) (nI L) (nI i) (nI (l + 1)) σ = f_X7_cut_12 f (nI L) (nI (i + 1)) (nI l) σ := by
        unfold f_X7_cut_47 f_X7_cut_66
        rw [dec1, show nI i + 1 = nI (i + 1) from nI_add _ _]
      by_cases b : isBk (T i) = true
      · have b2 := of_decide_eq_true b
        rw [skE_step (by omega) b] at hs
        obtain ⟨m, u, u1, u2⟩ := ih (L - (i + 1)) (by omega) (i + 1) c l f σ rfl (by omega) (by omega) (by omega) (by omega) (by omega) hs hlt hX hT
        refine ⟨m, u, ?_, u2⟩
        rw [hd0]
        rcases b2 with b3 | b3
        · rw [if_pos (show nI (T i) = 32 by rw [b3]; rfl), e47, u1]
        · rw [if_neg (show ¬ (nI (T i) = 32) by rw [b3]; decide), if_pos (show nI (T i) = 10 by rw [b3]; rfl), e47, u1]
      · have nb2 : ¬ (T i = 32 ∨ T i = 10) := fun q => b (decide_eq_true q)
        rw [skE_stop (fun q => b q.2)] at hs
        rw [hs] at z
        obtain ⟨u, u1, u2, u3⟩ := x_cutOne hL hX (c := c) (by omega) (by omega) hT
        rw [← hs] at u1
        have gt := tokE_gt (T := T) (i := i) (L := L) (by omega)
        obtain ⟨m, w, w1, w2, w3, w4, w5, w6⟩ := ih (L - tokE L T i) (by omega) (tokE L T i) (c + 1) l f u rfl gt.2 (by omega) (by omega) (by omega) (by omega) (by rw [hs]; rfl) (fun j hj => by
          by_cases y : j = c
          · rw [y]
            omega
          · exact hlt j (by omega)) (hX.of u3) u2
        refine ⟨m, w, ?_, w2, w3, w4, w5, u3.trans w6⟩
        have mn : imin (nI L) 300 = nI L := by
          have := imin_I (a := L) (b := 300) (by omega) (by decide)
          rw [Nat.min_eq_left hL] at this
          exact this
        rw [hd0, if_neg (show ¬ (nI (T i) = 32) from fun q => nb2 (Or.inl ((nI_eq (b := 32) (by omega) (by decide)).mp q))), if_neg (show ¬ (nI (T i) = 10) from fun q => nb2 (Or.inr ((nI_eq (b := 10) (by omega) (by decide)).mp q))), mn, u1, e_bnd]
        unfold f_X7_cut_66
        rw [dec1, w1]
theorem x_cut {L : Nat} {T : Nat → Nat} (hL : L ≤ 300) {σ : Sg} (hX : TPX L T σ) : ∃ m σ', f_X7_cut (nI L) σ = some σ' ∧ TK (fun j => kdA L T (plc L T j)) (fun j => nmA L T (plc L T j)) m ∧ XTk σ' (fun j => kdA L T (plc L T j)) (fun j => nmA L T (plc L T j)) (plc L T) m ∧ fr Stk σ σ' := by
  have f0 : fr Stk σ (wI σ 50 3 (nI 0)) := fr.w (by omega)
  obtain ⟨m, u, u1, u2, u3, u4, u5, u6⟩ := x_cut12 (T := T) hL L 0 0 300 FU (wI σ 50 3 (nI 0)) (by omega) (by omega) (by omega) hL (by omega) (by unfold FU; omega) rfl (fun j hj => absurd hj (Nat.not_lt_zero _)) (hX.of f0) ⟨e_hit, fun j hj => absurd hj (Nat.not_lt_zero _)⟩
  refine ⟨m, u, ?_, ⟨by omega, fun j hj => ?_, fun j => kdA_50 _, fun j => nmA_le (fun i hi => (hX i hi).2) _⟩, ⟨u5.1, fun j hj => u5.2 j (by omega)⟩, f0.trans u6⟩
  · unfold f_X7_cut
    rw [e_lt]
    exact u1
  · obtain ⟨q, rfl⟩ : ∃ q, j = m + q := ⟨j - m, by omega⟩
    show kdA L T (plc L T (m + q)) = 45
    rw [plc_over u3 q]
    exact if_pos (Nat.le_refl _)
