/-! METHODS: played -/
theorem e_ofN (n : Nat) : Int32.ofNat n = nI n := Eq.trans rfl rfl
theorem x_count {κ : Kd} {r n : Nat} (hl : lenOf κ (r + 1) = 4 * n) (hn : n ≤ 24) (σ : Sg) : f_X6_clauseCount κ r σ = some (nI n, σ) := by
  unfold f_X6_clauseCount
  simp (disch := omega) only [hl, e_ofN, e_bnd, e_bndV, e_lt, e_grd, e_lit, e_le1, e_le2, e_lt1, e_lt2, e_eq1, e_eq2, e_inb, e_ix, nI_add, pk_mul, e_sub, e_b0, e_b1, e_bz, e_bz0, e_bz1, Bool.and_true, Bool.true_and, ↓reduceIte, not_true_eq_false, not_false_eq_true, decide_false, decide_true, and_self, and_true, true_and, and_false, false_and, Bool.false_eq_true, Bool.not_false, Bool.not_true, dz_I, pk_div, show 4 * n / 4 = n by omega]
theorem x_kind {κ : Kd} {r n k : Nat} (hl : lenOf κ (r + 1) = 4 * n) (hn : n ≤ 24) (hk : k < n) (σ : Sg) : f_X6_kind κ r (nI k) σ = some (σ.1 (r + 1) (4 * k), σ) := by
  unfold f_X6_kind f_X6_kind_26 f_X6_kind_27
  simp (disch := omega) only [hl, e_ofN, e_bnd, e_bndV, e_lt, e_grd, e_lit, e_le1, e_le2, e_lt1, e_lt2, e_eq1, e_eq2, e_inb, e_ix, nI_add, pk_mul, e_sub, e_b0, e_b1, e_bz, e_bz0, e_bz1, Bool.and_true, Bool.true_and, ↓reduceIte, not_true_eq_false, not_false_eq_true, decide_false, decide_true, and_self, and_true, true_and, and_false, false_and, Bool.false_eq_true, Bool.not_false, Bool.not_true, dz_I, pk_div, show 4 * n / 4 = n by omega, show k * 4 = 4 * k by omega]
theorem x_number {κ : Kd} {r n k j : Nat} (hl : lenOf κ (r + 1) = 4 * n) (hn : n ≤ 24) (hk : k < n) (hj : j < 3) (σ : Sg) : f_X6_number κ r (nI k) (nI j) σ = some (σ.1 (r + 1) (4 * k + 1 + j), σ) := by
  unfold f_X6_number f_X6_number_28 f_X6_number_29 f_X6_number_50
  simp (disch := omega) only [hl, e_ofN, e_bnd, e_bndV, e_lt, e_grd, e_lit, e_le1, e_le2, e_lt1, e_lt2, e_eq1, e_eq2, e_inb, e_ix, nI_add, pk_mul, e_sub, e_b0, e_b1, e_bz, e_bz0, e_bz1, Bool.and_true, Bool.true_and, ↓reduceIte, not_true_eq_false, not_false_eq_true, decide_false, decide_true, and_self, and_true, true_and, and_false, false_and, Bool.false_eq_true, Bool.not_false, Bool.not_true, dz_I, pk_div, show 4 * n / 4 = n by omega, show k * 4 = 4 * k by omega]
theorem tried_any {c : Nat} (hc : c = 5 ∨ c = 6 ∨ c = 7 ∨ c = 9) (v w u : Int32) (σ : Sg) : f_X11_tried (nI c) v w σ = f_X11_tried (nI c) v u σ := by
  unfold f_X11_tried f_X8_can f_X8_act
  rcases hc with rfl | rfl | rfl | rfl
  · simp (disch := omega) only [e_lit, e_eq1, e_eq2, ↓reduceIte]
  · simp (disch := omega) only [e_lit, e_eq1, e_eq2, ↓reduceIte]
  · simp (disch := omega) only [e_lit, e_eq1, e_eq2, ↓reduceIte]
  · simp (disch := omega) only [e_lit, e_eq1, e_eq2, ↓reduceIte]
theorem b_cases {x : Int32} (h : bz x = true) : ∃ b, b ≤ 1 ∧ x = nI b := by
  unfold bz at h
  rcases Bool.or_eq_true _ _ |>.mp h with q | q
  · exact ⟨0, by decide, of_decide_eq_true q⟩
  · exact ⟨1, by decide, of_decide_eq_true q⟩
/-- an act of one HOUSE, by hand and in a CLAUSE -/
theorem act_c {κ : Kd} {T : TD} {c : Nat} (hc : c = 5 ∨ c = 6 ∨ c = 7 ∨ c = 9) {fX fM : Sg → Option (Int32 × Sg)} {v : Int32} (hX : ∀ σ, fX σ = bnd (f_X11_tried (nI c) v (-1) σ) fun r3 σ2 => grd (bz r3) <| some (r3, σ2)) (g : GO κ T fX fM) {σX σM : Sg} (J : Inv κ T σX σM) (y : Nat) (w : Int32) : ∃ b x m, b ≤ 1 ∧ f_X11_carriedOut_133 κ y v w (nI c) σX = some (nI b, x) ∧ fM σM = some (nI b, m) ∧ Inv κ T x m := by
  obtain ⟨r, x, m, h1, h2, h3⟩ := g σX σM J
  have e : f_X11_carriedOut_133 κ y v w (nI c) σX = fX σX := by
    unfold f_X11_carriedOut_133
    rw [hX, tried_any hc v w (-1)]
  rw [hX] at h1
  obtain ⟨r', s', q1, q2⟩ := bnd_some h1
  obtain ⟨q3, q4⟩ := grd_some q2
  have q5 : r' = r := congrArg (fun z => (z.getD (0, s')).1) q4
  subst q5
  obtain ⟨b, hb, rfl⟩ := b_cases q3
  exact ⟨b, x, m, hb, by rw [e, hX]; exact h1, h2, h3⟩
theorem clause_c {κ : Kd} {T : TD} {σX σM : Sg} (J : Inv κ T σX σM) {t k : Nat} (ht : t < T.1) (hk : k < T.2.2.2.1 t) (h11 : T.2.2.2.2.1 t k ≠ 11) : ∃ b x m, b ≤ 1 ∧ f_X11_carriedOut κ (T.2.1 t) (nI k) σX = some (nI b, x) ∧ f_X12_isPlayed (nI (705 * t + 1 + 4 * k)) σM = some (nI b, m) ∧ Inv κ T x m := by
  obtain ⟨A, B, I⟩ := id J
  obtain ⟨i0, i1, i2⟩ := I.2.2.2.2.2.2.2
  have a4 := I.1.2.2.2.2.1
  obtain ⟨_, ⟨cb1, cb2⟩, ⟨_, _, _, ⟨_, xl, xc⟩⟩, ⟨_, mn, mc⟩⟩ := i2 t (by omega)
  obtain ⟨xk, xn⟩ := xc k hk
  obtain ⟨mk1, mn1⟩ := mc k hk
  obtain ⟨b11, _⟩ := cb2 k hk
  obtain ⟨c, hcc⟩ : ∃ c, c = T.2.2.2.2.1 t k := ⟨_, rfl⟩
  rw [← hcc] at xk xn mk1 mn1 b11 h11
  have n0 : f_X6_number κ (T.2.1 t) (nI k) 0 σX = _ := x_number xl cb1 hk (j := 0) (by decide) σX
  have n1 : f_X6_number κ (T.2.1 t) (nI k) 1 σX = _ := x_number xl cb1 hk (j := 1) (by decide) σX
  have n2 : f_X6_number κ (T.2.1 t) (nI k) 2 σX = _ := x_number xl cb1 hk (j := 2) (by decide) σX
  have kk := x_kind xl cb1 hk σX
  rw [xk] at kk
  obtain ⟨y, hy⟩ : ∃ y, y = 705 * t + 1 + 4 * k := ⟨_, rfl⟩
  have hyb : y + 3 < 2820 := by omega
  rw [← hy] at mk1 mn1
  rw [← hy]
  have cc : c = 0 ∨ c = 1 ∨ c = 2 ∨ c = 3 ∨ c = 4 ∨ c = 5 ∨ c = 6 ∨ c = 7 ∨ c = 8 ∨ c = 9 ∨ c = 10 := by omega
  have one : ∀ {c'}, c = c' → 0 < ari c' → σX.1 (T.2.1 t + 1) (4 * k + 1 + 0) = nI (T.2.2.2.2.2 t k 0) ∧ σM.1 3 (y + 1) = nI (T.2.2.2.2.2 t k 0) := fun {c'} q z => by
    subst q
    exact ⟨xn 0 z, mn1 0 z⟩
  have two : ∀ {c'}, c = c' → 1 < ari c' → σX.1 (T.2.1 t + 1) (4 * k + 1 + 1) = nI (T.2.2.2.2.2 t k 1) ∧ σM.1 3 (y + 2) = nI (T.2.2.2.2.2 t k 1) := fun {c'} q z => by
    subst q
    exact ⟨xn 1 z, mn1 1 z⟩
  have three : ∀ {c'}, c = c' → 2 < ari c' → σX.1 (T.2.1 t + 1) (4 * k + 1 + 2) = nI (T.2.2.2.2.2 t k 2) ∧ σM.1 3 (y + 3) = nI (T.2.2.2.2.2 t k 2) := fun {c'} q z => by
    subst q
    exact ⟨xn 2 z, mn1 2 z⟩
  unfold f_X11_carriedOut f_X12_isPlayed
  have simpleAct : ∀ {c'}, c = c' → (c' = 5 ∨ c' = 6 ∨ c' = 7 ∨ c' = 9) → True := fun _ _ => trivial
  rcases cc with q | q | q | q | q | q | q | q | q | q | q
  · rw [q] at kk mk1
    exact ⟨1, σX, σM, by decide, by rw [n0, e_bnd, n1, e_bnd, kk, e_bnd]; simp (disch := omega) only [e_bnd, e_bndV, e_lt, e_grd, e_lit, e_le1, e_le2, e_lt1, e_lt2, e_eq1, e_eq2, e_inb, e_ix, nI_add, pk_mul, e_sub, e_b0, e_b1, e_bz, e_bz0, e_bz1, Bool.and_true, Bool.true_and, ↓reduceIte, not_true_eq_false, not_false_eq_true, decide_false, decide_true, and_self, and_true, true_and, and_false, false_and, Bool.false_eq_true, Bool.not_false, Bool.not_true, f_X11_carriedOut_84], by simp (disch := omega) only [e_bnd, e_bndV, e_lt, e_grd, e_lit, e_le1, e_le2, e_lt1, e_lt2, e_eq1, e_eq2, e_inb, e_ix, nI_add, pk_mul, e_sub, e_b0, e_b1, e_bz, e_bz0, e_bz1, Bool.and_true, Bool.true_and, ↓reduceIte, not_true_eq_false, not_false_eq_true, decide_false, decide_true, and_self, and_true, true_and, and_false, false_and, Bool.false_eq_true, Bool.not_false, Bool.not_true, mk1], J⟩
  · rw [q] at kk mk1
    exact ⟨1, σX, σM, by decide, by rw [n0, e_bnd, n1, e_bnd, kk, e_bnd]; simp (disch := omega) only [e_bnd, e_bndV, e_lt, e_grd, e_lit, e_le1, e_le2, e_lt1, e_lt2, e_eq1, e_eq2, e_inb, e_ix, nI_add, pk_mul, e_sub, e_b0, e_b1, e_bz, e_bz0, e_bz1, Bool.and_true, Bool.true_and, ↓reduceIte, not_true_eq_false, not_false_eq_true, decide_false, decide_true, and_self, and_true, true_and, and_false, false_and, Bool.false_eq_true, Bool.not_false, Bool.not_true, f_X11_carriedOut_84], by simp (disch := omega) only [e_bnd, e_bndV, e_lt, e_grd, e_lit, e_le1, e_le2, e_lt1, e_lt2, e_eq1, e_eq2, e_inb, e_ix, nI_add, pk_mul, e_sub, e_b0, e_b1, e_bz, e_bz0, e_bz1, Bool.and_true, Bool.true_and, ↓reduceIte, not_true_eq_false, not_false_eq_true, decide_false, decide_true, and_self, and_true, true_and, and_false, false_and, Bool.false_eq_true, Bool.not_false, Bool.not_true, mk1], J⟩
  · rw [q] at kk mk1
    exact ⟨1, σX, σM, by decide, by rw [n0, e_bnd, n1, e_bnd, kk, e_bnd]; simp (disch := omega) only [e_bnd, e_bndV, e_lt, e_grd, e_lit, e_le1, e_le2, e_lt1, e_lt2, e_eq1, e_eq2, e_inb, e_ix, nI_add, pk_mul, e_sub, e_b0, e_b1, e_bz, e_bz0, e_bz1, Bool.and_true, Bool.true_and, ↓reduceIte, not_true_eq_false, not_false_eq_true, decide_false, decide_true, and_self, and_true, true_and, and_false, false_and, Bool.false_eq_true, Bool.not_false, Bool.not_true, f_X11_carriedOut_84], by simp (disch := omega) only [e_bnd, e_bndV, e_lt, e_grd, e_lit, e_le1, e_le2, e_lt1, e_lt2, e_eq1, e_eq2, e_inb, e_ix, nI_add, pk_mul, e_sub, e_b0, e_b1, e_bz, e_bz0, e_bz1, Bool.and_true, Bool.true_and, ↓reduceIte, not_true_eq_false, not_false_eq_true, decide_false, decide_true, and_self, and_true, true_and, and_false, false_and, Bool.false_eq_true, Bool.not_false, Bool.not_true, mk1], J⟩
  · obtain ⟨o1, o2⟩ := one q (by decide)
    obtain ⟨p1, p2⟩ := two q (by decide)
    rw [q] at kk mk1
    obtain ⟨r, x, m, h1, h2, h3, h4⟩ := h_house (nI (T.2.2.2.2.2 t k 0)) (nI (T.2.2.2.2.2 t k 1)) J
    rcases h4 with rfl | ⟨n, hn, rfl⟩
    · refine ⟨0, x, m, by decide, ?_, ?_, h3⟩
      · rw [n_m1] at h1
        rw [n0, e_bnd, n1, e_bnd, kk, e_bnd]
        simp (disch := omega) only [e_bnd, e_bndV, e_lt, e_grd, e_lit, e_le1, e_le2, e_lt1, e_lt2, e_eq1, e_eq2, e_inb, e_ix, nI_add, pk_mul, e_sub, e_b0, e_b1, e_bz, e_bz0, e_bz1, Bool.and_true, Bool.true_and, ↓reduceIte, not_true_eq_false, not_false_eq_true, decide_false, decide_true, and_self, and_true, true_and, and_false, false_and, Bool.false_eq_true, Bool.not_false, Bool.not_true, o1, p1, h1, f_X11_carriedOut_102]
      · simp (disch := omega) only [e_bnd, e_bndV, e_lt, e_grd, e_lit, e_le1, e_le2, e_lt1, e_lt2, e_eq1, e_eq2, e_inb, e_ix, nI_add, pk_mul, e_sub, e_b0, e_b1, e_bz, e_bz0, e_bz1, Bool.and_true, Bool.true_and, ↓reduceIte, not_true_eq_false, not_false_eq_true, decide_false, decide_true, and_self, and_true, true_and, and_false, false_and, Bool.false_eq_true, Bool.not_false, Bool.not_true, mk1, o2, p2, h2]
        rw [if_pos (by decide)]
        rfl
    · have hne : ¬ nI n = -1 := by
        have := e_m1n n (by omega)
        exact fun q => cast this q
      refine ⟨1, x, m, by decide, ?_, ?_, h3⟩
      · have hne2 : ¬ nI n = -nI 1 := hne
        rw [n0, e_bnd, n1, e_bnd, kk, e_bnd]
        simp (disch := omega) only [e_bnd, e_bndV, e_lt, e_grd, e_lit, e_le1, e_le2, e_lt1, e_lt2, e_eq1, e_eq2, e_inb, e_ix, nI_add, pk_mul, e_sub, e_b0, e_b1, e_bz, e_bz0, e_bz1, Bool.and_true, Bool.true_and, ↓reduceIte, not_true_eq_false, not_false_eq_true, decide_false, decide_true, and_self, and_true, true_and, and_false, false_and, Bool.false_eq_true, Bool.not_false, Bool.not_true, o1, p1, h1, hne2, f_X11_carriedOut_102]
      · simp (disch := omega) only [e_bnd, e_bndV, e_lt, e_grd, e_lit, e_le1, e_le2, e_lt1, e_lt2, e_eq1, e_eq2, e_inb, e_ix, nI_add, pk_mul, e_sub, e_b0, e_b1, e_bz, e_bz0, e_bz1, Bool.and_true, Bool.true_and, ↓reduceIte, not_true_eq_false, not_false_eq_true, decide_false, decide_true, and_self, and_true, true_and, and_false, false_and, Bool.false_eq_true, Bool.not_false, Bool.not_true, mk1, o2, p2, h2, f_X12_isPlayed_90]
  · obtain ⟨o1, o2⟩ := one q (by decide)
    obtain ⟨p1, p2⟩ := two q (by decide)
    obtain ⟨q1, q2⟩ := three q (by decide)
    rw [q] at kk mk1
    obtain ⟨b, x, m, hb, h1, h2, h3⟩ := h_street (nI (T.2.2.2.2.2 t k 0)) (nI (T.2.2.2.2.2 t k 1)) (nI (T.2.2.2.2.2 t k 2)) J
    refine ⟨b, x, m, hb, ?_, ?_, h3⟩
    · rw [n0, e_bnd, n1, e_bnd, kk, e_bnd]
      have n2' : f_X6_number κ (T.2.1 t) (nI k) (nI 2) σX = _ := n2
      simp (disch := omega) only [e_bnd, e_bndV, e_lt, e_grd, e_lit, e_le1, e_le2, e_lt1, e_lt2, e_eq1, e_eq2, e_inb, e_ix, nI_add, pk_mul, e_sub, e_b0, e_b1, e_bz, e_bz0, e_bz1, Bool.and_true, Bool.true_and, ↓reduceIte, not_true_eq_false, not_false_eq_true, decide_false, decide_true, and_self, and_true, true_and, and_false, false_and, Bool.false_eq_true, Bool.not_false, Bool.not_true, n2', o1, p1, q1, h1, bz_le1]
    · simp (disch := omega) only [e_bnd, e_bndV, e_lt, e_grd, e_lit, e_le1, e_le2, e_lt1, e_lt2, e_eq1, e_eq2, e_inb, e_ix, nI_add, pk_mul, e_sub, e_b0, e_b1, e_bz, e_bz0, e_bz1, Bool.and_true, Bool.true_and, ↓reduceIte, not_true_eq_false, not_false_eq_true, decide_false, decide_true, and_self, and_true, true_and, and_false, false_and, Bool.false_eq_true, Bool.not_false, Bool.not_true, mk1, o2, p2, q2, h2, bz_le1]
  · obtain ⟨o1, o2⟩ := one q (by decide)
    rw [q] at kk mk1
    obtain ⟨b, x, m, hb, h1, h2, h3⟩ := act_c (κ := κ) (T := T) (c := 5) (Or.inl rfl) (fX := f_X11_light (nI (T.2.2.2.2.2 t k 0))) (fun _ => rfl) (g_light _) J (T.2.1 t) (σX.1 (T.2.1 t + 1) (4 * k + 1 + 1))
    exact ⟨b, x, m, hb, by rw [n0, e_bnd, n1, e_bnd, kk, e_bnd]; simp (disch := omega) only [e_bnd, e_bndV, e_lt, e_grd, e_lit, e_le1, e_le2, e_lt1, e_lt2, e_eq1, e_eq2, e_inb, e_ix, nI_add, pk_mul, e_sub, e_b0, e_b1, e_bz, e_bz0, e_bz1, Bool.and_true, Bool.true_and, ↓reduceIte, not_true_eq_false, not_false_eq_true, decide_false, decide_true, and_self, and_true, true_and, and_false, false_and, Bool.false_eq_true, Bool.not_false, Bool.not_true, o1, h1], by simp (disch := omega) only [e_bnd, e_bndV, e_lt, e_grd, e_lit, e_le1, e_le2, e_lt1, e_lt2, e_eq1, e_eq2, e_inb, e_ix, nI_add, pk_mul, e_sub, e_b0, e_b1, e_bz, e_bz0, e_bz1, Bool.and_true, Bool.true_and, ↓reduceIte, not_true_eq_false, not_false_eq_true, decide_false, decide_true, and_self, and_true, true_and, and_false, false_and, Bool.false_eq_true, Bool.not_false, Bool.not_true, mk1, o2, h2, bz_le1], h3⟩
  · obtain ⟨o1, o2⟩ := one q (by decide)
    rw [q] at kk mk1
    obtain ⟨b, x, m, hb, h1, h2, h3⟩ := act_c (κ := κ) (T := T) (c := 6) (Or.inr (Or.inl rfl)) (fX := f_X11_cover (nI (T.2.2.2.2.2 t k 0))) (fun _ => rfl) (g_cover _) J (T.2.1 t) (σX.1 (T.2.1 t + 1) (4 * k + 1 + 1))
    exact ⟨b, x, m, hb, by rw [n0, e_bnd, n1, e_bnd, kk, e_bnd]; simp (disch := omega) only [e_bnd, e_bndV, e_lt, e_grd, e_lit, e_le1, e_le2, e_lt1, e_lt2, e_eq1, e_eq2, e_inb, e_ix, nI_add, pk_mul, e_sub, e_b0, e_b1, e_bz, e_bz0, e_bz1, Bool.and_true, Bool.true_and, ↓reduceIte, not_true_eq_false, not_false_eq_true, decide_false, decide_true, and_self, and_true, true_and, and_false, false_and, Bool.false_eq_true, Bool.not_false, Bool.not_true, o1, h1], by simp (disch := omega) only [e_bnd, e_bndV, e_lt, e_grd, e_lit, e_le1, e_le2, e_lt1, e_lt2, e_eq1, e_eq2, e_inb, e_ix, nI_add, pk_mul, e_sub, e_b0, e_b1, e_bz, e_bz0, e_bz1, Bool.and_true, Bool.true_and, ↓reduceIte, not_true_eq_false, not_false_eq_true, decide_false, decide_true, and_self, and_true, true_and, and_false, false_and, Bool.false_eq_true, Bool.not_false, Bool.not_true, mk1, o2, h2, bz_le1], h3⟩
  · obtain ⟨o1, o2⟩ := one q (by decide)
    rw [q] at kk mk1
    obtain ⟨b, x, m, hb, h1, h2, h3⟩ := act_c (κ := κ) (T := T) (c := 7) (Or.inr (Or.inr (Or.inl rfl))) (fX := f_X11_open (nI (T.2.2.2.2.2 t k 0))) (fun _ => rfl) (g_open _) J (T.2.1 t) (σX.1 (T.2.1 t + 1) (4 * k + 1 + 1))
    exact ⟨b, x, m, hb, by rw [n0, e_bnd, n1, e_bnd, kk, e_bnd]; simp (disch := omega) only [e_bnd, e_bndV, e_lt, e_grd, e_lit, e_le1, e_le2, e_lt1, e_lt2, e_eq1, e_eq2, e_inb, e_ix, nI_add, pk_mul, e_sub, e_b0, e_b1, e_bz, e_bz0, e_bz1, Bool.and_true, Bool.true_and, ↓reduceIte, not_true_eq_false, not_false_eq_true, decide_false, decide_true, and_self, and_true, true_and, and_false, false_and, Bool.false_eq_true, Bool.not_false, Bool.not_true, o1, h1], by simp (disch := omega) only [e_bnd, e_bndV, e_lt, e_grd, e_lit, e_le1, e_le2, e_lt1, e_lt2, e_eq1, e_eq2, e_inb, e_ix, nI_add, pk_mul, e_sub, e_b0, e_b1, e_bz, e_bz0, e_bz1, Bool.and_true, Bool.true_and, ↓reduceIte, not_true_eq_false, not_false_eq_true, decide_false, decide_true, and_self, and_true, true_and, and_false, false_and, Bool.false_eq_true, Bool.not_false, Bool.not_true, mk1, o2, h2, bz_le1], h3⟩
  · obtain ⟨o1, o2⟩ := one q (by decide)
    obtain ⟨p1, p2⟩ := two q (by decide)
    rw [q] at kk mk1
    obtain ⟨b, r, x, m, hb, h1, _, h2, h3, h4, h5⟩ := h_fetch (nI (T.2.2.2.2.2 t k 0)) (nI (T.2.2.2.2.2 t k 1)) J
    have hb2 : b = 0 ∨ b = 1 := by omega
    refine ⟨b, x, m, hb, ?_, ?_, h3⟩
    · rw [n0, e_bnd, n1, e_bnd, kk, e_bnd]
      simp (disch := omega) only [e_bnd, e_bndV, e_lt, e_grd, e_lit, e_le1, e_le2, e_lt1, e_lt2, e_eq1, e_eq2, e_inb, e_ix, nI_add, pk_mul, e_sub, e_b0, e_b1, e_bz, e_bz0, e_bz1, Bool.and_true, Bool.true_and, ↓reduceIte, not_true_eq_false, not_false_eq_true, decide_false, decide_true, and_self, and_true, true_and, and_false, false_and, Bool.false_eq_true, Bool.not_false, Bool.not_true, o1, p1, h1, f_X11_carriedOut_133, bz_le1]
    · rcases hb2 with rfl | rfl
      · rw [h4 rfl] at h2
        simp (disch := omega) only [e_bnd, e_bndV, e_lt, e_grd, e_lit, e_le1, e_le2, e_lt1, e_lt2, e_eq1, e_eq2, e_inb, e_ix, nI_add, pk_mul, e_sub, e_b0, e_b1, e_bz, e_bz0, e_bz1, Bool.and_true, Bool.true_and, ↓reduceIte, not_true_eq_false, not_false_eq_true, decide_false, decide_true, and_self, and_true, true_and, and_false, false_and, Bool.false_eq_true, Bool.not_false, Bool.not_true, mk1, o2, p2, h2]
        rw [if_pos (by decide)]
        rfl
      · obtain ⟨n, hn, rfl⟩ := h5 rfl
        simp (disch := omega) only [e_bnd, e_bndV, e_lt, e_grd, e_lit, e_le1, e_le2, e_lt1, e_lt2, e_eq1, e_eq2, e_inb, e_ix, nI_add, pk_mul, e_sub, e_b0, e_b1, e_bz, e_bz0, e_bz1, Bool.and_true, Bool.true_and, ↓reduceIte, not_true_eq_false, not_false_eq_true, decide_false, decide_true, and_self, and_true, true_and, and_false, false_and, Bool.false_eq_true, Bool.not_false, Bool.not_true, mk1, o2, p2, h2, f_X12_isPlayed_138]
  · obtain ⟨o1, o2⟩ := one q (by decide)
    rw [q] at kk mk1
    obtain ⟨b, x, m, hb, h1, h2, h3⟩ := act_c (κ := κ) (T := T) (c := 9) (Or.inr (Or.inr (Or.inr rfl))) (fX := f_X11_quench (nI (T.2.2.2.2.2 t k 0))) (fun _ => rfl) (g_quench _) J (T.2.1 t) (σX.1 (T.2.1 t + 1) (4 * k + 1 + 1))
    exact ⟨b, x, m, hb, by rw [n0, e_bnd, n1, e_bnd, kk, e_bnd]; simp (disch := omega) only [e_bnd, e_bndV, e_lt, e_grd, e_lit, e_le1, e_le2, e_lt1, e_lt2, e_eq1, e_eq2, e_inb, e_ix, nI_add, pk_mul, e_sub, e_b0, e_b1, e_bz, e_bz0, e_bz1, Bool.and_true, Bool.true_and, ↓reduceIte, not_true_eq_false, not_false_eq_true, decide_false, decide_true, and_self, and_true, true_and, and_false, false_and, Bool.false_eq_true, Bool.not_false, Bool.not_true, o1, h1], by simp (disch := omega) only [e_bnd, e_bndV, e_lt, e_grd, e_lit, e_le1, e_le2, e_lt1, e_lt2, e_eq1, e_eq2, e_inb, e_ix, nI_add, pk_mul, e_sub, e_b0, e_b1, e_bz, e_bz0, e_bz1, Bool.and_true, Bool.true_and, ↓reduceIte, not_true_eq_false, not_false_eq_true, decide_false, decide_true, and_self, and_true, true_and, and_false, false_and, Bool.false_eq_true, Bool.not_false, Bool.not_true, mk1, o2, h2, bz_le1], h3⟩
  · obtain ⟨o1, o2⟩ := one q (by decide)
    rw [q] at kk mk1
    obtain ⟨r, x, m, h1, h2, h3⟩ := g_warden (nI (T.2.2.2.2.2 t k 0)) σX σM J
    by_cases hr : r = -2
    · have hr2 : r = -nI 2 := hr
      refine ⟨0, x, m, by decide, ?_, ?_, h3⟩
      · rw [n0, e_bnd, n1, e_bnd, kk, e_bnd]
        simp (disch := omega) only [e_bnd, e_bndV, e_lt, e_grd, e_lit, e_le1, e_le2, e_lt1, e_lt2, e_eq1, e_eq2, e_inb, e_ix, nI_add, pk_mul, e_sub, e_b0, e_b1, e_bz, e_bz0, e_bz1, Bool.and_true, Bool.true_and, ↓reduceIte, not_true_eq_false, not_false_eq_true, decide_false, decide_true, and_self, and_true, true_and, and_false, false_and, Bool.false_eq_true, Bool.not_false, Bool.not_true, o1, h1, hr2, f_X11_carriedOut_132]
      · simp (disch := omega) only [e_bnd, e_bndV, e_lt, e_grd, e_lit, e_le1, e_le2, e_lt1, e_lt2, e_eq1, e_eq2, e_inb, e_ix, nI_add, pk_mul, e_sub, e_b0, e_b1, e_bz, e_bz0, e_bz1, Bool.and_true, Bool.true_and, ↓reduceIte, not_true_eq_false, not_false_eq_true, decide_false, decide_true, and_self, and_true, true_and, and_false, false_and, Bool.false_eq_true, Bool.not_false, Bool.not_true, mk1, o2, h2, hr2, f_X12_isPlayed_160]
    · have hr2 : ¬ r = -nI 2 := hr
      refine ⟨1, x, m, by decide, ?_, ?_, h3⟩
      · rw [n0, e_bnd, n1, e_bnd, kk, e_bnd]
        simp (disch := omega) only [e_bnd, e_bndV, e_lt, e_grd, e_lit, e_le1, e_le2, e_lt1, e_lt2, e_eq1, e_eq2, e_inb, e_ix, nI_add, pk_mul, e_sub, e_b0, e_b1, e_bz, e_bz0, e_bz1, Bool.and_true, Bool.true_and, ↓reduceIte, not_true_eq_false, not_false_eq_true, decide_false, decide_true, and_self, and_true, true_and, and_false, false_and, Bool.false_eq_true, Bool.not_false, Bool.not_true, o1, h1, hr2, f_X11_carriedOut_132]
      · simp (disch := omega) only [e_bnd, e_bndV, e_lt, e_grd, e_lit, e_le1, e_le2, e_lt1, e_lt2, e_eq1, e_eq2, e_inb, e_ix, nI_add, pk_mul, e_sub, e_b0, e_b1, e_bz, e_bz0, e_bz1, Bool.and_true, Bool.true_and, ↓reduceIte, not_true_eq_false, not_false_eq_true, decide_false, decide_true, and_self, and_true, true_and, and_false, false_and, Bool.false_eq_true, Bool.not_false, Bool.not_true, mk1, o2, h2, hr2, f_X12_isPlayed_160]
theorem g_played {κ : Kd} {T : TD} (v : Int32) : GO κ T (f_X11_played κ v) (f_X12_played v) := by
  intro σX σM J
  obtain ⟨A, B, I⟩ := id J
  have o1 : σX.1 1 4 = nI (A 1) := I.2.2.1.2.2.2.2.1
  have r1 := I.2.1.1 1 (by decide) (by decide) (by decide)
  have a4 := I.1.2.2.2.2.1
  obtain ⟨i0, i1, i2⟩ := I.2.2.2.2.2.2.2
  have hl : ∀ {α : Type} (x : Option Nat) (k : Option Nat → Option α), ltT x k = k x := fun _ _ => rfl
  unfold f_X11_played f_X10_textOf f_X10_textOf_28 f_X10_textOf_29 f_X12_played
  rcases rngc v (c := A 1) (by omega) with hn | ⟨t, ht, rfl⟩
  · refine ⟨-2, σX, σM, ?_, ?_, J⟩
    · simp (disch := omega) only [e_bnd, e_bndV, e_lt, e_grd, e_lit, e_le1, e_le2, e_lt1, e_lt2, e_eq1, e_eq2, e_inb, e_ix, nI_add, pk_mul, e_sub, e_b0, e_b1, e_bz, e_bz0, e_bz1, Bool.and_true, Bool.true_and, ↓reduceIte, not_true_eq_false, not_false_eq_true, decide_false, decide_true, and_self, and_true, true_and, and_false, false_and, Bool.false_eq_true, Bool.not_false, Bool.not_true, o1, x_within, hn]
      rfl
    · simp (disch := omega) only [e_bnd, e_bndV, e_lt, e_grd, e_lit, e_le1, e_le2, e_lt1, e_lt2, e_eq1, e_eq2, e_inb, e_ix, nI_add, pk_mul, e_sub, e_b0, e_b1, e_bz, e_bz0, e_bz1, Bool.and_true, Bool.true_and, ↓reduceIte, not_true_eq_false, not_false_eq_true, decide_false, decide_true, and_self, and_true, true_and, and_false, false_and, Bool.false_eq_true, Bool.not_false, Bool.not_true, r1, m_isIn, hn]
  obtain ⟨_, ⟨cb1, _⟩, ⟨_, g4, _, _⟩, _⟩ := i2 t ht
  have htT : t < T.1 := by omega
  have loop : ∀ (d k : Nat), d + k = T.2.2.2.1 t → ∀ σx σm, Inv κ T σx σm → ∃ r x m, (∀ fu, d < fu → f_X11_played_18 κ fu (T.2.1 t) (nI k) σx = some (r, x)) ∧ (∀ fu, d < fu → f_X12_played_21 fu (nI t) (nI k) σm = some (r, m)) ∧ Inv κ T x m := by
    intro d
    induction d with
    | zero =>
      intro k hk σx σm J
      obtain ⟨A', B', I'⟩ := id J
      obtain ⟨j0, j1, j2⟩ := I'.2.2.2.2.2.2.2
      obtain ⟨_, _, ⟨_, _, _, ⟨_, xl, xc⟩⟩, ⟨_, mn, mc⟩⟩ := j2 t (by omega)
      have xc' := x_count xl cb1 σx
      refine ⟨-1, σx, σm, fun fu hf => ?_, fun fu hf => ?_, J⟩
      · obtain ⟨f, rfl⟩ : ∃ f, fu = f + 1 := ⟨fu - 1, by omega⟩
        rw [f_X11_played_18, xc', e_bnd, if_pos (nI_le (by omega) (by omega))]
      · obtain ⟨f, rfl⟩ : ∃ f, fu = f + 1 := ⟨fu - 1, by omega⟩
        rw [f_X12_played_21]
        simp (disch := omega) only [e_bnd, e_bndV, e_lt, e_grd, e_lit, e_le1, e_le2, e_lt1, e_lt2, e_eq1, e_eq2, e_inb, e_ix, nI_add, pk_mul, e_sub, e_b0, e_b1, e_bz, e_bz0, e_bz1, Bool.and_true, Bool.true_and, ↓reduceIte, not_true_eq_false, not_false_eq_true, decide_false, decide_true, and_self, and_true, true_and, and_false, false_and, Bool.false_eq_true, Bool.not_false, Bool.not_true, mn]
    | succ d ih =>
      intro k hk σx σm J
      obtain ⟨A', B', I'⟩ := id J
      obtain ⟨j0, j1, j2⟩ := I'.2.2.2.2.2.2.2
      obtain ⟨_, ⟨_, cb2⟩, ⟨_, _, _, ⟨_, xl, xc⟩⟩, ⟨_, mn, mc⟩⟩ := j2 t (by omega)
      have xc' := x_count xl cb1 σx
      have hkn : k < T.2.2.2.1 t := by omega
      obtain ⟨xk, xn⟩ := xc k hkn
      obtain ⟨mk1, mn1⟩ := mc k hkn
      have kk := x_kind xl cb1 hkn σx
      rw [xk] at kk
      have n0 : f_X6_number κ (T.2.1 t) (nI k) 0 σx = _ := x_number xl cb1 hkn (j := 0) (by decide) σx
      have hle : ¬ nI (T.2.2.2.1 t) ≤ nI k := nI_ge hkn (by omega)
      have b11 := (cb2 k hkn).1
      have step : ∃ b x m, b ≤ 1 ∧ Inv κ T x m ∧ (∀ f, f_X11_played_18 κ (f + 1) (T.2.1 t) (nI k) σx = f_X11_played_88 κ (f_X11_played_18 κ f) (T.2.1 t) (nI k) (nI b) x) ∧ f_X12_isPlayed (nI (705 * t + 1 + 4 * k)) σm = some (nI b, m) := by
        by_cases h11 : T.2.2.2.2.1 t k = 11
        · have hb := (cb2 k hkn).2 0 (by rw [h11]; decide)
          rw [h11] at kk xn mk1 mn1
          have hb2 : 1 ≤ T.2.2.2.2.2 t k 0 ∧ T.2.2.2.2.2 t k 0 ≤ 60 := by
            unfold cnB at hb
            rw [if_neg (by rw [h11]; decide), if_pos h11] at hb
            exact hb
          have x0 := xn 0 (by decide)
          have m0 := mn1 0 (by decide)
          rw [x0] at n0
          have x5 : σx.1 2 5 = nI (A' 6) := I'.2.2.1.1.2.1
          have b6 := I'.1.1.2.1
          obtain ⟨x, m, A2, s, p1, p2, p3, p4, p5, p6⟩ := I'.passed hb2.2
          obtain ⟨y, hy⟩ : ∃ y, y = 705 * t + 1 + 4 * k := ⟨_, rfl⟩
          have hyb : y + 3 < 2820 := by omega
          rw [← hy] at mk1 m0
          rw [← hy]
          by_cases hq : T.2.2.2.2.2 t k 0 ≤ 9999 - A' 6
          · rw [if_pos hq] at p2
            refine ⟨1, x, m, by decide, ⟨A2, B', p3⟩, fun f => ?_, ?_⟩
            · rw [f_X11_played_18, xc', e_bnd, if_neg hle, kk, e_bnd]
              have n0' : f_X6_number κ (T.2.1 t) (nI k) (nI 0) σx = _ := n0
              simp (disch := omega) only [e_bnd, e_bndV, e_lt, e_grd, e_lit, e_le1, e_le2, e_lt1, e_lt2, e_eq1, e_eq2, e_inb, e_ix, nI_add, pk_mul, e_sub, e_b0, e_b1, e_bz, e_bz0, e_bz1, Bool.and_true, Bool.true_and, ↓reduceIte, not_true_eq_false, not_false_eq_true, decide_false, decide_true, and_self, and_true, true_and, and_false, false_and, Bool.false_eq_true, Bool.not_false, Bool.not_true, n0', x5, f_X11_played_68, p1]
            · unfold f_X12_isPlayed
              simp (disch := omega) only [e_bnd, e_bndV, e_lt, e_grd, e_lit, e_le1, e_le2, e_lt1, e_lt2, e_eq1, e_eq2, e_inb, e_ix, nI_add, pk_mul, e_sub, e_b0, e_b1, e_bz, e_bz0, e_bz1, Bool.and_true, Bool.true_and, ↓reduceIte, not_true_eq_false, not_false_eq_true, decide_false, decide_true, and_self, and_true, true_and, and_false, false_and, Bool.false_eq_true, Bool.not_false, Bool.not_true, mk1, m0, p2]
          · rw [if_neg hq] at p2
            refine ⟨0, x, m, by decide, ⟨A2, B', p3⟩, fun f => ?_, ?_⟩
            · rw [f_X11_played_18, xc', e_bnd, if_neg hle, kk, e_bnd]
              have n0' : f_X6_number κ (T.2.1 t) (nI k) (nI 0) σx = _ := n0
              simp (disch := omega) only [e_bnd, e_bndV, e_lt, e_grd, e_lit, e_le1, e_le2, e_lt1, e_lt2, e_eq1, e_eq2, e_inb, e_ix, nI_add, pk_mul, e_sub, e_b0, e_b1, e_bz, e_bz0, e_bz1, Bool.and_true, Bool.true_and, ↓reduceIte, not_true_eq_false, not_false_eq_true, decide_false, decide_true, and_self, and_true, true_and, and_false, false_and, Bool.false_eq_true, Bool.not_false, Bool.not_true, n0', x5, f_X11_played_68, p1]
            · unfold f_X12_isPlayed
              simp (disch := omega) only [e_bnd, e_bndV, e_lt, e_grd, e_lit, e_le1, e_le2, e_lt1, e_lt2, e_eq1, e_eq2, e_inb, e_ix, nI_add, pk_mul, e_sub, e_b0, e_b1, e_bz, e_bz0, e_bz1, Bool.and_true, Bool.true_and, ↓reduceIte, not_true_eq_false, not_false_eq_true, decide_false, decide_true, and_self, and_true, true_and, and_false, false_and, Bool.false_eq_true, Bool.not_false, Bool.not_true, mk1, m0, p2]
        · obtain ⟨b, x, m, hb, h1, h2, h3⟩ := clause_c J htT hkn h11
          refine ⟨b, x, m, hb, h3, fun f => ?_, h2⟩
          have hne : ¬ nI (T.2.2.2.2.1 t k) = 11 := fun q => h11 ((nI_eq (by omega) (by decide)).mp q)
          rw [f_X11_played_18, xc', e_bnd, if_neg hle, kk, e_bnd, if_neg hne, h1, e_bnd]
      obtain ⟨b, x, m, hb, J2, s1, s2⟩ := step
      have sM : ∀ f, f_X12_played_21 (f + 1) (nI t) (nI k) σm = if nI b = 0 then some (nI k, m) else f_X12_played_21 f (nI t) (nI (k + 1)) m := fun f => by
        rw [f_X12_played_21]
        simp (disch := omega) only [e_bnd, e_bndV, e_lt, e_grd, e_lit, e_le1, e_le2, e_lt1, e_lt2, e_eq1, e_eq2, e_inb, e_ix, nI_add, pk_mul, e_sub, e_b0, e_b1, e_bz, e_bz0, e_bz1, Bool.and_true, Bool.true_and, ↓reduceIte, not_true_eq_false, not_false_eq_true, decide_false, decide_true, and_self, and_true, true_and, and_false, false_and, Bool.false_eq_true, Bool.not_false, Bool.not_true, mn, s2]
      have hb2 : b = 0 ∨ b = 1 := by omega
      rcases hb2 with rfl | rfl
      · refine ⟨nI k, x, m, fun fu hf => ?_, fun fu hf => ?_, J2⟩
        · obtain ⟨f, rfl⟩ : ∃ f, fu = f + 1 := ⟨fu - 1, by omega⟩
          rw [s1]
          unfold f_X11_played_88
          exact if_pos rfl
        · obtain ⟨f, rfl⟩ : ∃ f, fu = f + 1 := ⟨fu - 1, by omega⟩
          rw [sM]
          exact if_pos rfl
      · obtain ⟨r, x', m', q1, q2, q3⟩ := ih (k + 1) (by omega) x m J2
        refine ⟨r, x', m', fun fu hf => ?_, fun fu hf => ?_, q3⟩
        · obtain ⟨f, rfl⟩ : ∃ f, fu = f + 1 := ⟨fu - 1, by omega⟩
          rw [s1]
          unfold f_X11_played_88
          rw [if_neg (by decide), nI_1]
          exact q1 f (by omega)
        · obtain ⟨f, rfl⟩ : ∃ f, fu = f + 1 := ⟨fu - 1, by omega⟩
          rw [sM, if_neg (by decide)]
          exact q2 f (by omega)
  obtain ⟨r, x, m, q1, q2, q3⟩ := loop (T.2.2.2.1 t) 0 (by omega) σX σM J
  have gX := q1 FU (by unfold FU; omega)
  have gM := q2 FU (by unfold FU; omega)
  refine ⟨r, x, m, ?_, ?_, q3⟩
  · have g4' : σX.2.2 (1 + 12) t = some (T.2.1 t) := g4
    simp (disch := omega) only [e_bnd, e_bndV, e_lt, e_grd, e_lit, e_le1, e_le2, e_lt1, e_lt2, e_eq1, e_eq2, e_inb, e_ix, nI_add, pk_mul, e_sub, e_b0, e_b1, e_bz, e_bz0, e_bz1, Bool.and_true, Bool.true_and, ↓reduceIte, not_true_eq_false, not_false_eq_true, decide_false, decide_true, and_self, and_true, true_and, and_false, false_and, Bool.false_eq_true, Bool.not_false, Bool.not_true, x_within, o1, hl, g4']
    exact gX
  · simp (disch := omega) only [e_bnd, e_bndV, e_lt, e_grd, e_lit, e_le1, e_le2, e_lt1, e_lt2, e_eq1, e_eq2, e_inb, e_ix, nI_add, pk_mul, e_sub, e_b0, e_b1, e_bz, e_bz0, e_bz1, Bool.and_true, Bool.true_and, ↓reduceIte, not_true_eq_false, not_false_eq_true, decide_false, decide_true, and_self, and_true, true_and, and_false, false_and, Bool.false_eq_true, Bool.not_false, Bool.not_true, r1, m_isIn]
    exact gM
