/-! text: the class reads: steps -/
def TK (K V : Nat → Nat) (m : Nat) : Prop := m ≤ 300 ∧ (∀ j, m ≤ j → K j = 45) ∧ (∀ j, K j ≤ 50) ∧ ∀ j, V j ≤ 10000
def XTk (σ : Sg) (K V P : Nat → Nat) (m : Nat) : Prop := σ.1 50 3 = nI (m + 1) ∧ ∀ j, j ≤ m → σ.1 51 j = nI (K j) ∧ σ.1 52 j = nI (V j) ∧ σ.1 53 j = nI (P j)
def XC (σ : Sg) (cX : Nat → Nat × Nat) (s : Nat) : Prop := ∀ j, j < s → σ.1 55 j = nI (cX j).1 ∧ σ.1 56 j = nI (cX j).2 ∧ (cX j).1 ≤ 50 ∧ (cX j).2 ≤ 10000
def RSr (σ : Sg) (p s lw : Nat) : Prop := σ.1 49 1 = nI 0 ∧ σ.1 49 2 = -1 ∧ σ.1 49 4 = nI p ∧ σ.1 49 9 = nI s ∧ σ.1 49 12 = nI lw
def FS (σ : Sg) (m f pl : Nat) : Prop := σ.1 49 1 = nI f ∧ σ.1 49 2 = nI pl ∧ σ.1 49 4 = nI m ∧ ∃ s, s ≤ 300 ∧ σ.1 49 9 = nI s
abbrev Srd : Nat → Nat → Prop := fun a j => (a = 49 ∧ (j = 1 ∨ j = 2 ∨ j = 4 ∨ j = 9)) ∨ a = 55 ∨ a = 56
def upC (cX : Nat → Nat × Nat) (s : Nat) (x : Nat × Nat) : Nat → Nat × Nat := fun j => if j = s then x else cX j
theorem upC_hit {cX : Nat → Nat × Nat} {s : Nat} {x : Nat × Nat} : upC cX s x s = x := if_pos rfl
theorem upC_ne {cX : Nat → Nat × Nat} {s j : Nat} {x : Nat × Nat} (h : j ≠ s) : upC cX s x j = cX j := if_neg h
theorem XTk.of {σ σ' : Sg} {K V P : Nat → Nat} {m : Nat} (h : XTk σ K V P m) (f : fr Srd σ σ') : XTk σ' K V P m := ⟨by rw [f.1 _ _ (by omega)]; exact h.1, fun j hj => by rw [f.1 _ _ (by omega), f.1 _ _ (by omega), f.1 _ _ (by omega)]; exact h.2 j hj⟩
theorem x_kindT {σ : Sg} {K V P : Nat → Nat} {m p : Nat} (t : TK K V m) (h : XTk σ K V P m) (hp : p ≤ 1000) : f_X7_kind (nI p) σ = some (nI (K p), σ) := by
  have h0 := h.1
  have m3 := t.1
  unfold f_X7_kind f_X7_kind_21 f_X7_kind_23
  by_cases z : p ≤ m
  · have h1 := (h.2 p z).1
    clear h t
    simp (disch := omega) only [e_bnd, e_bndV, e_lt, e_grd, e_lit, e_le1, e_le2, e_lt1, e_lt2, e_eq1, e_eq2, e_inb, e_ix, nI_add, pk_mul, e_sub, e_b0, e_b1, e_bz, e_bz0, e_bz1, Bool.and_true, Bool.true_and, ↓reduceIte, not_true_eq_false, not_false_eq_true, decide_false, decide_true, and_self, and_true, true_and, and_false, false_and, Bool.false_eq_true, Bool.not_false, Bool.not_true, h0, h1]
  · have h1 := t.2.1 p (by omega)
    rw [h1]
    clear h t
    simp (disch := omega) only [e_bnd, e_bndV, e_lt, e_grd, e_lit, e_le1, e_le2, e_lt1, e_lt2, e_eq1, e_eq2, e_inb, e_ix, nI_add, pk_mul, e_sub, e_b0, e_b1, e_bz, e_bz0, e_bz1, Bool.and_true, Bool.true_and, ↓reduceIte, not_true_eq_false, not_false_eq_true, decide_false, decide_true, and_self, and_true, true_and, and_false, false_and, Bool.false_eq_true, Bool.not_false, Bool.not_true, h0]
theorem x_numT {σ : Sg} {K V P : Nat → Nat} {m p : Nat} (t : TK K V m) (h : XTk σ K V P m) (hp : p ≤ m) : f_X7_number (nI p) σ = some (nI (V p), σ) := by
  have h0 := h.1
  have m3 := t.1
  have h1 := (h.2 p hp).2.1
  unfold f_X7_number f_X7_number_22
  clear h t
  simp (disch := omega) only [e_bnd, e_bndV, e_lt, e_grd, e_lit, e_le1, e_le2, e_lt1, e_lt2, e_eq1, e_eq2, e_inb, e_ix, nI_add, pk_mul, e_sub, e_b0, e_b1, e_bz, e_bz0, e_bz1, Bool.and_true, Bool.true_and, ↓reduceIte, not_true_eq_false, not_false_eq_true, decide_false, decide_true, and_self, and_true, true_and, and_false, false_and, Bool.false_eq_true, Bool.not_false, Bool.not_true, h0, h1]
theorem x_place {σ : Sg} {K V P : Nat → Nat} {m p : Nat} (t : TK K V m) (h : XTk σ K V P m) (hp : p ≤ m) : f_X7_place (nI p) σ = some (nI (P p), σ) := by
  have h0 := h.1
  have m3 := t.1
  have h1 := (h.2 p hp).2.2
  unfold f_X7_place f_X7_place_22
  clear h t
  simp (disch := omega) only [e_bnd, e_bndV, e_lt, e_grd, e_lit, e_le1, e_le2, e_lt1, e_lt2, e_eq1, e_eq2, e_inb, e_ix, nI_add, pk_mul, e_sub, e_b0, e_b1, e_bz, e_bz0, e_bz1, Bool.and_true, Bool.true_and, ↓reduceIte, not_true_eq_false, not_false_eq_true, decide_false, decide_true, and_self, and_true, true_and, and_false, false_and, Bool.false_eq_true, Bool.not_false, Bool.not_true, h0, h1]
theorem x_fail {σ : Sg} {K V P : Nat → Nat} {m p s lw f : Nat} (t : TK K V m) (h : XTk σ K V P m) (r : RSr σ p s lw) (hp : p ≤ m) (hs : s ≤ 300) : ∃ σ', f_X3_fail (nI f) σ = some σ' ∧ fr Srd σ σ' ∧ FS σ' m f (P p) := by
  have h0 := h.1
  have m3 := t.1
  have r1 := r.1
  have r4 := r.2.2.1
  have r9 := r.2.2.2.1
  have pl := x_place (σ := wI σ 49 1 (nI f)) t (h.of (fr.w (by omega))) hp
  refine ⟨wI (wI (wI σ 49 1 (nI f)) 49 2 (nI (P p))) 49 4 (nI m), ?_, (((fr.w (by omega)).trans (fr.w (by omega))).trans (fr.w (by omega))), ?_, ?_, e_hit, s, hs, ?_⟩
  · unfold f_X3_fail f_X3_fail_27 f_X7_last
    clear h t r
    simp (disch := omega) only [e_bnd, e_bndV, e_lt, e_grd, e_lit, e_le1, e_le2, e_lt1, e_lt2, e_eq1, e_eq2, e_inb, e_ix, nI_add, pk_mul, e_sub, e_b0, e_b1, e_bz, e_bz0, e_bz1, Bool.and_true, Bool.true_and, ↓reduceIte, not_true_eq_false, not_false_eq_true, decide_false, decide_true, and_self, and_true, true_and, and_false, false_and, Bool.false_eq_true, Bool.not_false, Bool.not_true, r1, r4, e_ne2, pl, e_ne1, h0, Nat.add_sub_cancel]
  · rw [e_ne2 (by decide), e_ne2 (by decide), e_hit]
  · rw [e_ne2 (by decide), e_hit]
  · rw [e_ne2 (by decide), e_ne2 (by decide), e_ne2 (by decide)]; exact r9
theorem x_failF {σ : Sg} {K V P : Nat → Nat} {m f pl : Nat} {g : Int32} (t : TK K V m) (h : XTk σ K V P m) (hf : f ≠ 0 ∧ f < 100) (r : FS σ m f pl) : ∃ σ', f_X3_fail g σ = some σ' ∧ fr Srd σ σ' ∧ FS σ' m f pl := by
  have h0 := h.1
  have m3 := t.1
  obtain ⟨r1, r2, r4, s, s1, r9⟩ := r
  refine ⟨wI σ 49 4 (nI m), ?_, fr.w (by omega), ?_, ?_, e_hit, s, s1, ?_⟩
  · unfold f_X3_fail f_X3_fail_27 f_X7_last
    clear h t
    simp (disch := omega) only [e_bnd, e_bndV, e_lt, e_grd, e_lit, e_le1, e_le2, e_lt1, e_lt2, e_eq1, e_eq2, e_inb, e_ix, nI_add, pk_mul, e_sub, e_b0, e_b1, e_bz, e_bz0, e_bz1, Bool.and_true, Bool.true_and, ↓reduceIte, not_true_eq_false, not_false_eq_true, decide_false, decide_true, and_self, and_true, true_and, and_false, false_and, Bool.false_eq_true, Bool.not_false, Bool.not_true, r1, h0, Nat.add_sub_cancel]
  · rw [e_ne2 (by decide)]; exact r1
  · rw [e_ne2 (by decide)]; exact r2
  · rw [e_ne2 (by decide)]; exact r9
theorem x_emit {σ : Sg} {p s lw o a : Nat} {cX : Nat → Nat × Nat} (r : RSr σ p s lw) (c : XC σ cX s) (hs : s < 300) (ho : o ≤ 50 ∧ a ≤ 10000) : ∃ σ', f_X3_emit (nI o) (nI a) σ = some (nI s, σ') ∧ fr Srd σ σ' ∧ RSr σ' p (s + 1) lw ∧ XC σ' (upC cX s (o, a)) (s + 1) := by
  obtain ⟨r1, r2, r4, r9, r12⟩ := r
  refine ⟨wI (wI (wI σ 55 s (nI o)) 56 s (nI a)) 49 9 (nI (s + 1)), ?_, ((fr.w (by omega)).trans (fr.w (by omega))).trans (fr.w (by omega)), ⟨?_, ?_, ?_, e_hit, ?_⟩, fun j hj => ?_⟩
  · unfold f_X3_emit
    clear c
    simp (disch := omega) only [e_bnd, e_bndV, e_lt, e_grd, e_lit, e_le1, e_le2, e_lt1, e_lt2, e_eq1, e_eq2, e_inb, e_ix, nI_add, pk_mul, e_sub, e_b0, e_b1, e_bz, e_bz0, e_bz1, Bool.and_true, Bool.true_and, ↓reduceIte, not_true_eq_false, not_false_eq_true, decide_false, decide_true, and_self, and_true, true_and, and_false, false_and, Bool.false_eq_true, Bool.not_false, Bool.not_true, r9, e_ne1, e_hit, Nat.add_sub_cancel]
  · rw [e_ne2 (by decide), e_ne1 (by decide), e_ne1 (by decide)]; exact r1
  · rw [e_ne2 (by decide), e_ne1 (by decide), e_ne1 (by decide)]; exact r2
  · rw [e_ne2 (by decide), e_ne1 (by decide), e_ne1 (by decide)]; exact r4
  · rw [e_ne2 (by decide), e_ne1 (by decide), e_ne1 (by decide)]; exact r12
  · rw [e_ne1 (by decide), e_ne1 (by decide), e_ne1 (show (56 : Nat) ≠ 49 by decide)]
    by_cases z : j = s
    · subst z
      rw [e_hit, e_hit, upC_hit]
      exact ⟨rfl, rfl, ho⟩
    · rw [e_ne2 z, e_ne2 z, e_ne1 (by decide), upC_ne z]
      exact c j (by omega)
theorem x_emitF {σ : Sg} {m f pl : Nat} {x y : Int32} (r : FS σ m f pl) : ∃ z σ', f_X3_emit x y σ = some (z, σ') ∧ fr Srd σ σ' ∧ FS σ' m f pl := by
  obtain ⟨r1, r2, r4, s, s1, r9⟩ := r
  unfold f_X3_emit
  by_cases z : s < 300
  · refine ⟨nI s, wI (wI (wI σ 55 s x) 56 s y) 49 9 (nI (s + 1)), ?_, ((fr.w (by omega)).trans (fr.w (by omega))).trans (fr.w (by omega)), ?_, ?_, ?_, s + 1, by omega, e_hit⟩
    · simp (disch := omega) only [e_bnd, e_bndV, e_lt, e_grd, e_lit, e_le1, e_le2, e_lt1, e_lt2, e_eq1, e_eq2, e_inb, e_ix, nI_add, pk_mul, e_sub, e_b0, e_b1, e_bz, e_bz0, e_bz1, Bool.and_true, Bool.true_and, ↓reduceIte, not_true_eq_false, not_false_eq_true, decide_false, decide_true, and_self, and_true, true_and, and_false, false_and, Bool.false_eq_true, Bool.not_false, Bool.not_true, r9, e_ne1, e_hit, Nat.add_sub_cancel]
    · rw [e_ne2 (by decide), e_ne1 (by decide), e_ne1 (by decide)]; exact r1
    · rw [e_ne2 (by decide), e_ne1 (by decide), e_ne1 (by decide)]; exact r2
    · rw [e_ne2 (by decide), e_ne1 (by decide), e_ne1 (by decide)]; exact r4
  · refine ⟨-1, σ, ?_, fr.rfl, r1, r2, r4, s, s1, r9⟩
    simp (disch := omega) only [e_bnd, e_bndV, e_lt, e_grd, e_lit, e_le1, e_le2, e_lt1, e_lt2, e_eq1, e_eq2, e_inb, e_ix, nI_add, pk_mul, e_sub, e_b0, e_b1, e_bz, e_bz0, e_bz1, Bool.and_true, Bool.true_and, ↓reduceIte, not_true_eq_false, not_false_eq_true, decide_false, decide_true, and_self, and_true, true_and, and_false, false_and, Bool.false_eq_true, Bool.not_false, Bool.not_true, r9]
theorem x_lead {σ : Sg} {p s lw j : Nat} {cX : Nat → Nat × Nat} (r : RSr σ p s lw) (c : XC σ cX s) (hs : s ≤ 300) (hj : j < s) : ∃ σ', f_X3_leadHere (nI j) σ = some σ' ∧ fr Srd σ σ' ∧ RSr σ' p s lw ∧ XC σ' (upC cX j ((cX j).1, s)) s := by
  obtain ⟨r1, r2, r4, r9, r12⟩ := r
  refine ⟨wI σ 56 j (nI s), ?_, fr.w (by omega), ⟨?_, ?_, ?_, ?_, ?_⟩, fun i hi => ?_⟩
  · unfold f_X3_leadHere f_X3_leadHere_25
    clear c
    simp (disch := omega) only [e_bnd, e_bndV, e_lt, e_grd, e_lit, e_le1, e_le2, e_lt1, e_lt2, e_eq1, e_eq2, e_inb, e_ix, nI_add, pk_mul, e_sub, e_b0, e_b1, e_bz, e_bz0, e_bz1, Bool.and_true, Bool.true_and, ↓reduceIte, not_true_eq_false, not_false_eq_true, decide_false, decide_true, and_self, and_true, true_and, and_false, false_and, Bool.false_eq_true, Bool.not_false, Bool.not_true, x_within, r9]
  · rw [e_ne1 (by decide)]; exact r1
  · rw [e_ne1 (by decide)]; exact r2
  · rw [e_ne1 (by decide)]; exact r4
  · rw [e_ne1 (by decide)]; exact r9
  · rw [e_ne1 (by decide)]; exact r12
  · rw [e_ne1 (by decide)]
    by_cases z : i = j
    · subst z
      rw [e_hit, upC_hit]
      exact ⟨(c i hi).1, rfl, (c i hi).2.2.1, show s ≤ 10000 by omega⟩
    · rw [e_ne2 z, upC_ne z]
      exact c i hi
theorem x_leadF {σ : Sg} {m f pl : Nat} {x : Int32} (r : FS σ m f pl) : ∃ σ', f_X3_leadHere x σ = some σ' ∧ fr Srd σ σ' ∧ FS σ' m f pl := by
  obtain ⟨r1, r2, r4, s, s1, r9⟩ := r
  unfold f_X3_leadHere f_X3_leadHere_25
  rcases rng x 0 299 (by decide) (by decide) with q | ⟨j, _, hj, rfl⟩
  · refine ⟨σ, ?_, fr.rfl, r1, r2, r4, s, s1, r9⟩
    simp (disch := omega) only [e_bnd, e_bndV, e_lt, e_grd, e_lit, e_le1, e_le2, e_lt1, e_lt2, e_eq1, e_eq2, e_inb, e_ix, nI_add, pk_mul, e_sub, e_b0, e_b1, e_bz, e_bz0, e_bz1, Bool.and_true, Bool.true_and, ↓reduceIte, not_true_eq_false, not_false_eq_true, decide_false, decide_true, and_self, and_true, true_and, and_false, false_and, Bool.false_eq_true, Bool.not_false, Bool.not_true, x_within, q]
  · refine ⟨wI σ 56 j (nI s), ?_, fr.w (by omega), ?_, ?_, ?_, s, s1, ?_⟩
    · simp (disch := omega) only [e_bnd, e_bndV, e_lt, e_grd, e_lit, e_le1, e_le2, e_lt1, e_lt2, e_eq1, e_eq2, e_inb, e_ix, nI_add, pk_mul, e_sub, e_b0, e_b1, e_bz, e_bz0, e_bz1, Bool.and_true, Bool.true_and, ↓reduceIte, not_true_eq_false, not_false_eq_true, decide_false, decide_true, and_self, and_true, true_and, and_false, false_and, Bool.false_eq_true, Bool.not_false, Bool.not_true, x_within, r9]
    · rw [e_ne1 (by decide)]; exact r1
    · rw [e_ne1 (by decide)]; exact r2
    · rw [e_ne1 (by decide)]; exact r4
    · rw [e_ne1 (by decide)]; exact r9
theorem RSr.at {σ : Sg} {p q s lw : Nat} (r : RSr σ p s lw) : RSr (wI σ 49 4 (nI q)) q s lw := ⟨by rw [e_ne2 (by decide)]; exact r.1, by rw [e_ne2 (by decide)]; exact r.2.1, e_hit, by rw [e_ne2 (by decide)]; exact r.2.2.2.1, by rw [e_ne2 (by decide)]; exact r.2.2.2.2⟩
theorem XC.w {σ : Sg} {cX : Nat → Nat × Nat} {s j : Nat} {v : Int32} (c : XC σ cX s) : XC (wI σ 49 j v) cX s := fun i hi => by rw [e_ne1 (by decide), e_ne1 (by decide)]; exact c i hi
theorem lt_m {K V : Nat → Nat} {m p k : Nat} (t : TK K V m) (h : K p = k) (hk : k ≠ 45) : p < m := by
  refine Nat.lt_of_not_le fun q => ?_
  exact hk (h.symm.trans (t.2.1 p q))
theorem x_take {σ : Sg} {K V P : Nat → Nat} {m p s lw k : Nat} (t : TK K V m) (h : XTk σ K V P m) (r : RSr σ p s lw) (hp : p ≤ m) (hk : K p = k) : f_X3_take (nI k) σ = some (wI σ 49 4 (nI (p + 1))) := by
  have m3 := t.1
  have r4 := r.2.2.1
  have kd := x_kindT t h (p := p) (by omega)
  rw [hk] at kd
  unfold f_X3_take f_X3_take_33
  clear h t r hk
  simp (disch := omega) only [e_bnd, e_bndV, e_lt, e_grd, e_lit, e_le1, e_le2, e_lt1, e_lt2, e_eq1, e_eq2, e_inb, e_ix, nI_add, pk_mul, e_sub, e_b0, e_b1, e_bz, e_bz0, e_bz1, Bool.and_true, Bool.true_and, ↓reduceIte, not_true_eq_false, not_false_eq_true, decide_false, decide_true, and_self, and_true, true_and, and_false, false_and, Bool.false_eq_true, Bool.not_false, Bool.not_true, r4, kd]
theorem x_takeN {σ : Sg} {K V P : Nat → Nat} {m p s lw k : Nat} (t : TK K V m) (h : XTk σ K V P m) (r : RSr σ p s lw) (hp : p ≤ m) (hs : s ≤ 300) (hk : K p ≠ k) (hk2 : k < 100) : ∃ σ', f_X3_take (nI k) σ = some σ' ∧ fr Srd σ σ' ∧ FS σ' m 1 (P p) := by
  have m3 := t.1
  have r4 := r.2.2.1
  have kb := t.2.2.1 p
  have kd := x_kindT t h (p := p) (by omega)
  obtain ⟨u, u1, u2, u3⟩ := x_fail (f := 1) t h r hp hs
  refine ⟨u, ?_, u2, u3⟩
  unfold f_X3_take f_X3_take_33
  clear h t r u2 u3
  simp (disch := omega) only [e_bnd, e_bndV, e_lt, e_grd, e_lit, e_le1, e_le2, e_lt1, e_lt2, e_eq1, e_eq2, e_inb, e_ix, nI_add, pk_mul, e_sub, e_b0, e_b1, e_bz, e_bz0, e_bz1, Bool.and_true, Bool.true_and, ↓reduceIte, not_true_eq_false, not_false_eq_true, decide_false, decide_true, and_self, and_true, true_and, and_false, false_and, Bool.false_eq_true, Bool.not_false, Bool.not_true, r4, kd, u1]
/-- behind a FAULT -/
def FOK (K V P : Nat → Nat) (m : Nat) (k : Sg → Option Sg) : Prop := ∀ σ f pl, f ≠ 0 ∧ f < 100 → XTk σ K V P m → FS σ m f pl → ∃ σ', k σ = some σ' ∧ fr Srd σ σ' ∧ FS σ' m f pl
theorem fok_bndV {K V P : Nat → Nat} {m : Nat} {o k : Sg → Option Sg} (h : FOK K V P m o) (g : FOK K V P m k) : FOK K V P m (fun σ => bndV (o σ) k) := fun σ f pl hf t r => by
  obtain ⟨u, u1, u2, u3⟩ := h σ f pl hf t r
  obtain ⟨w, w1, w2, w3⟩ := g u f pl hf (t.of u2) u3
  exact ⟨w, by show bndV (o σ) k = some w; rw [u1, e_bndV]; exact w1, u2.trans w2, w3⟩
theorem fok_emit {K V P : Nat → Nat} {m : Nat} {x y : Int32} {k : Int32 → Sg → Option Sg} (g : ∀ r, FOK K V P m (k r)) : FOK K V P m (fun σ => bnd (f_X3_emit x y σ) k) := fun σ f pl hf t r => by
  obtain ⟨z, u, u1, u2, u3⟩ := x_emitF (x := x) (y := y) r
  obtain ⟨w, w1, w2, w3⟩ := g z u f pl hf (t.of u2) u3
  exact ⟨w, by show bnd (f_X3_emit x y σ) k = some w; rw [u1, e_bnd]; exact w1, u2.trans w2, w3⟩
theorem fok_some {K V P : Nat → Nat} {m : Nat} : FOK K V P m (fun σ => some σ) := fun σ _ _ _ _ r => ⟨σ, rfl, fr.rfl, r⟩
theorem fok_fail {K V P : Nat → Nat} {m : Nat} {g : Int32} (t : TK K V m) : FOK K V P m (f_X3_fail g) := fun _ _ _ hf h r => x_failF t h hf r
theorem fok_lead {K V P : Nat → Nat} {m : Nat} {x : Int32} : FOK K V P m (f_X3_leadHere x) := fun _ _ _ _ _ r => x_leadF r
theorem fok_take {K V P : Nat → Nat} {m k : Nat} (t : TK K V m) (hk : k ≠ 45 ∧ k < 100) : FOK K V P m (f_X3_take (nI k)) := fun σ f pl hf h r => by
  have m3 := t.1
  have r4 := r.2.2.1
  have kd := x_kindT t h (p := m) (by omega)
  rw [t.2.1 m (Nat.le_refl _)] at kd
  obtain ⟨u, u1, u2, u3⟩ := x_failF (g := nI 1) t h hf r
  refine ⟨u, ?_, u2, u3⟩
  unfold f_X3_take f_X3_take_33
  clear h t r u2 u3
  simp (disch := omega) only [e_bnd, e_bndV, e_lt, e_grd, e_lit, e_le1, e_le2, e_lt1, e_lt2, e_eq1, e_eq2, e_inb, e_ix, nI_add, pk_mul, e_sub, e_b0, e_b1, e_bz, e_bz0, e_bz1, Bool.and_true, Bool.true_and, ↓reduceIte, not_true_eq_false, not_false_eq_true, decide_false, decide_true, and_self, and_true, true_and, and_false, false_and, Bool.false_eq_true, Bool.not_false, Bool.not_true, r4, kd, u1]
theorem fok_one {K V P : Nat → Nat} {m : Nat} (t : TK K V m) (n : Nat) (d e : Int32) : FOK K V P m (f_SCC3 (n + 1) 2 d e) := fun σ f pl hf h r => by
  have m3 := t.1
  have r4 := r.2.2.1
  have kd := x_kindT t h (p := m) (by omega)
  rw [t.2.1 m (Nat.le_refl _)] at kd
  obtain ⟨u, u1, u2, u3⟩ := x_failF (g := nI 1) t h hf r
  refine ⟨u, ?_, u2, u3⟩
  unfold f_SCC3 b_X3_one f_X3_one_55 f_X3_one_93
  clear h t r u2 u3
  simp (disch := omega) only [e_bnd, e_bndV, e_lt, e_grd, e_lit, e_le1, e_le2, e_lt1, e_lt2, e_eq1, e_eq2, e_inb, e_ix, nI_add, pk_mul, e_sub, e_b0, e_b1, e_bz, e_bz0, e_bz1, Bool.and_true, Bool.true_and, ↓reduceIte, not_true_eq_false, not_false_eq_true, decide_false, decide_true, and_self, and_true, true_and, and_false, false_and, Bool.false_eq_true, Bool.not_false, Bool.not_true, r4, kd, u1]
theorem fok_prod9 {K V P : Nat → Nat} {m : Nat} (t : TK K V m) (rc : Nat → Int32 → Int32 → Sg → Option Sg) (fu : Nat) (d v : Int32) : FOK K V P m (f_X3_product_9 rc (fu + 1) d v) := fun σ f pl hf h r => by
  have m3 := t.1
  have r4 := r.2.2.1
  have kd := x_kindT t h (p := m) (by omega)
  rw [t.2.1 m (Nat.le_refl _)] at kd
  refine ⟨σ, ?_, fr.rfl, r⟩
  rw [f_X3_product_9]
  by_cases z : v ≤ 0
  · rw [if_pos z]
  · rw [if_neg z]
    clear h t r
    simp (disch := omega) only [e_bnd, e_bndV, e_lt, e_grd, e_lit, e_le1, e_le2, e_lt1, e_lt2, e_eq1, e_eq2, e_inb, e_ix, nI_add, pk_mul, e_sub, e_b0, e_b1, e_bz, e_bz0, e_bz1, Bool.and_true, Bool.true_and, ↓reduceIte, not_true_eq_false, not_false_eq_true, decide_false, decide_true, and_self, and_true, true_and, and_false, false_and, Bool.false_eq_true, Bool.not_false, Bool.not_true, r4, kd]
theorem fok_prod {K V P : Nat → Nat} {m : Nat} (t : TK K V m) (n : Nat) (d e : Int32) : FOK K V P m (f_SCC3 (n + 2) 1 d e) := by
  have h : f_SCC3 (n + 2) 1 d e = fun σ => bndV (f_SCC3 (n + 1) 2 d 0 σ) (fun σ12 => f_X3_product_9 (f_SCC3 (n + 1)) FU d 300 σ12) := by
    funext σ
    rw [show n + 2 = (n + 1) + 1 from rfl]
    unfold f_SCC3
    rfl
  rw [h]
  exact fok_bndV (fok_one t n d 0) (fok_prod9 t _ 3999 d 300)
theorem fok_sum9 {K V P : Nat → Nat} {m : Nat} (t : TK K V m) (rc : Nat → Int32 → Int32 → Sg → Option Sg) (fu : Nat) (d v : Int32) : FOK K V P m (f_X3_sum_9 rc (fu + 1) d v) := fun σ f pl hf h r => by
  have m3 := t.1
  have r4 := r.2.2.1
  have kd := x_kindT t h (p := m) (by omega)
  rw [t.2.1 m (Nat.le_refl _)] at kd
  refine ⟨σ, ?_, fr.rfl, r⟩
  rw [f_X3_sum_9]
  by_cases z : v ≤ 0
  · rw [if_pos z]
  · rw [if_neg z]
    clear h t r
    simp (disch := omega) only [e_bnd, e_bndV, e_lt, e_grd, e_lit, e_le1, e_le2, e_lt1, e_lt2, e_eq1, e_eq2, e_inb, e_ix, nI_add, pk_mul, e_sub, e_b0, e_b1, e_bz, e_bz0, e_bz1, Bool.and_true, Bool.true_and, ↓reduceIte, not_true_eq_false, not_false_eq_true, decide_false, decide_true, and_self, and_true, true_and, and_false, false_and, Bool.false_eq_true, Bool.not_false, Bool.not_true, r4, kd]
theorem fok_sum {K V P : Nat → Nat} {m : Nat} (t : TK K V m) (n : Nat) (d e : Int32) : FOK K V P m (f_SCC3 (n + 3) 0 d e) := by
  have h : f_SCC3 (n + 3) 0 d e = fun σ => bndV (f_SCC3 (n + 2) 1 d 0 σ) (fun σ12 => f_X3_sum_9 (f_SCC3 (n + 2)) FU d 300 σ12) := by
    funext σ
    rw [show n + 3 = (n + 2) + 1 from rfl]
    unfold f_SCC3
    rfl
  rw [h]
  exact fok_bndV (fok_prod t n d 0) (fok_sum9 t _ 3999 d 300)
theorem fok_eith9 {K V P : Nat → Nat} {m : Nat} (t : TK K V m) (rc : Nat → Int32 → Int32 → Sg → Option Sg) (fu : Nat) (d v : Int32) : FOK K V P m (f_X3_either_9 rc (fu + 1) d v) := fun σ f pl hf h r => by
  have m3 := t.1
  have r4 := r.2.2.1
  have kd := x_kindT t h (p := m) (by omega)
  rw [t.2.1 m (Nat.le_refl _)] at kd
  refine ⟨σ, ?_, fr.rfl, r⟩
  rw [f_X3_either_9]
  unfold f_X3_either_58
  by_cases z : v ≤ 0
  · rw [if_pos z]
  · rw [if_neg z]
    clear h t r
    simp (disch := omega) only [e_bnd, e_bndV, e_lt, e_grd, e_lit, e_le1, e_le2, e_lt1, e_lt2, e_eq1, e_eq2, e_inb, e_ix, nI_add, pk_mul, e_sub, e_b0, e_b1, e_bz, e_bz0, e_bz1, Bool.and_true, Bool.true_and, ↓reduceIte, not_true_eq_false, not_false_eq_true, decide_false, decide_true, and_self, and_true, true_and, and_false, false_and, Bool.false_eq_true, Bool.not_false, Bool.not_true, r4, kd]
theorem fok_both9 {K V P : Nat → Nat} {m : Nat} (t : TK K V m) (rc : Nat → Int32 → Int32 → Sg → Option Sg) (fu : Nat) (d v : Int32) : FOK K V P m (f_X3_both_9 rc (fu + 1) d v) := fun σ f pl hf h r => by
  have m3 := t.1
  have r4 := r.2.2.1
  have kd := x_kindT t h (p := m) (by omega)
  rw [t.2.1 m (Nat.le_refl _)] at kd
  refine ⟨σ, ?_, fr.rfl, r⟩
  rw [f_X3_both_9]
  unfold f_X3_both_58
  by_cases z : v ≤ 0
  · rw [if_pos z]
  · rw [if_neg z]
    clear h t r
    simp (disch := omega) only [e_bnd, e_bndV, e_lt, e_grd, e_lit, e_le1, e_le2, e_lt1, e_lt2, e_eq1, e_eq2, e_inb, e_ix, nI_add, pk_mul, e_sub, e_b0, e_b1, e_bz, e_bz0, e_bz1, Bool.and_true, Bool.true_and, ↓reduceIte, not_true_eq_false, not_false_eq_true, decide_false, decide_true, and_self, and_true, true_and, and_false, false_and, Bool.false_eq_true, Bool.not_false, Bool.not_true, r4, kd]
