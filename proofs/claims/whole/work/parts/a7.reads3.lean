/-! text: the class reads if and one; all depths -/
theorem xout_mono {K V P : Nat → Nat} {m lw r n0 n1 i : Nat} {Sem : List (Nat × Nat) → (Nat → Nat × Nat) → Nat → Nat → Prop} {o : Nat → PR} (h : XOUT K V P m lw r n0 i Sem o) (g : n0 ≤ n1) : XOUT K V P m lw r n1 i Sem o := fun n hn => h n (by omega)
theorem out_base {P : Nat → Nat} {m lw p s : Nat} {σ : Sg} {r : PR} {cX : Nat → Nat × Nat} {Sem : List (Nat × Nat) → (Nat → Nat × Nat) → Nat → Nat → Prop} {o : Option Sg} (h : OUT P m lw σ r (p + 1) s cX Sem o) : OUT P m lw σ r p s cX Sem o := by
  obtain ⟨u, u1, u2, u3, u4⟩ := h
  refine ⟨u, u1, u2, fun z => ?_, u4⟩
  obtain ⟨a0, s2, dX, a1, a2, a3, a4, a5⟩ := u3 z
  exact ⟨a0, s2, dX, a1, a2, a3, by omega, a5⟩
theorem out_take {K V P : Nat → Nat} {m lw p s q s1 w : Nat} {σ : Sg} {r : PR} {cX : Nat → Nat × Nat} {Sem : List (Nat × Nat) → (Nat → Nat × Nat) → Nat → Nat → Prop} {k : Sg → Option Sg} (t : TK K V m) (ht : XTk σ K V P m) (hr : RSr σ q s1 lw) (hq : q ≤ m) (hs : s1 ≤ 300) (hw : w < 100) (gf : FOK K V P m k) (g : K q = w → OUT P m lw (wI σ 49 4 (nI (q + 1))) r p s cX Sem (k (wI σ 49 4 (nI (q + 1))))) : OUT P m lw σ (if K q = w then r else (1, q, [])) p s cX Sem (bndV (f_X3_take (nI w) σ) k) := by
  by_cases z : K q = w
  · rw [if_pos z, x_take t ht hr hq z, e_bndV]
    exact out_pre (fr.w (by omega)) (g z)
  · rw [if_neg z]
    obtain ⟨u, u1, u2, u3⟩ := x_takeN t ht hr hq hs z hw
    rw [u1, e_bndV]
    obtain ⟨x, x1, x2, x3⟩ := gf u 1 (P q) (by decide) (ht.of u2) u3
    exact out_no x1 (by decide) (u2.trans x2) x3
theorem x_choice {K V P : Nat → Nat} {m lw r n0 N : Nat} {o a : Nat → PR} (t : TK K V m) (hS : XOUT K V P m lw r n0 0 SemN (sumP K o N)) (hE : XOUT K V P m lw r n0 5 SemB (eithP K a N)) (hn0 : 3 ≤ n0) : XOUT K V P m lw r (n0 + 1) 4 SemN (chP K o a N) := by
  intro n hn σ p s cX d hd hp hs ht hr hc
  obtain ⟨k, rfl⟩ : ∃ k, n = k + 3 + 1 := ⟨n - 4, by omega⟩
  have m3 := t.1
  have F5 : ∀ x, FOK K V P m (fun σ20 => bndV (f_X3_leadHere x σ20) (fun σ22 => some σ22)) := fun x => fok_bndV fok_lead fok_some
  have F4 : ∀ x, FOK K V P m (fun σ18 => bndV (f_X3_take 27 σ18) fun σ20 => bndV (f_X3_leadHere x σ20) (fun σ22 => some σ22)) := fun x => fok_bndV (fok_take (k := 27) t (by decide)) (F5 x)
  have F3 : ∀ x y, FOK K V P m (fun σ13 => bndV (f_X3_leadHere y σ13) fun σ16 => bndV (f_SCC3 (k + 3) 0 (nI d) 0 σ16) fun σ18 => bndV (f_X3_take 27 σ18) fun σ20 => bndV (f_X3_leadHere x σ20) (fun σ22 => some σ22)) := fun x y => fok_bndV fok_lead (fok_bndV (fok_sum t k _ _) (F4 x))
  have F2a : ∀ y, FOK K V P m (fun σ11 => bnd (f_X3_emit 26 0 σ11) fun r14 σ13 => bndV (f_X3_leadHere y σ13) fun σ16 => bndV (f_SCC3 (k + 3) 0 (nI d) 0 σ16) fun σ18 => bndV (f_X3_take 27 σ18) fun σ20 => bndV (f_X3_leadHere r14 σ20) (fun σ22 => some σ22)) := fun y => fok_emit (fun x => F3 x y)
  have F2 : ∀ y, FOK K V P m (fun σ9 => bndV (f_X3_take 26 σ9) fun σ11 => bnd (f_X3_emit 26 0 σ11) fun r14 σ13 => bndV (f_X3_leadHere y σ13) fun σ16 => bndV (f_SCC3 (k + 3) 0 (nI d) 0 σ16) fun σ18 => bndV (f_X3_take 27 σ18) fun σ20 => bndV (f_X3_leadHere r14 σ20) (fun σ22 => some σ22)) := fun y => fok_bndV (fok_take (k := 26) t (by decide)) (F2a y)
  have F1 : FOK K V P m (fun σ4 => bnd (f_X3_emit 24 0 σ4) fun r7 σ6 => bndV (f_SCC3 (k + 3) 0 (nI d) 0 σ6) fun σ9 => bndV (f_X3_take 26 σ9) fun σ11 => bnd (f_X3_emit 26 0 σ11) fun r14 σ13 => bndV (f_X3_leadHere r7 σ13) fun σ16 => bndV (f_SCC3 (k + 3) 0 (nI d) 0 σ16) fun σ18 => bndV (f_X3_take 27 σ18) fun σ20 => bndV (f_X3_leadHere r14 σ20) (fun σ22 => some σ22)) := fok_emit (fun y => fok_bndV (fok_sum t k _ _) (F2 y))
  have F0 : FOK K V P m (fun σ2 => bndV (f_X3_take 25 σ2) fun σ4 => bnd (f_X3_emit 24 0 σ4) fun r7 σ6 => bndV (f_SCC3 (k + 3) 0 (nI d) 0 σ6) fun σ9 => bndV (f_X3_take 26 σ9) fun σ11 => bnd (f_X3_emit 26 0 σ11) fun r14 σ13 => bndV (f_X3_leadHere r7 σ13) fun σ16 => bndV (f_SCC3 (k + 3) 0 (nI d) 0 σ16) fun σ18 => bndV (f_X3_take 27 σ18) fun σ20 => bndV (f_X3_leadHere r14 σ20) (fun σ22 => some σ22)) := fok_bndV (fok_take (k := 25) t (by decide)) F1
  rw [scc3_4]
  unfold b_X3_choice chP
  refine out_bind (hE (k + 3) (by omega) σ p s cX d hd hp hs ht hr hc) ht (fun σ1 s1 X1 t1 a0 a1 a2 a3 a4 a5 a6 a7 => ?_) F0
  generalize (eithP K a N p).2.1 = q at *
  generalize (eithP K a N p).2.2 = c at *
  refine out_take (w := 25) t t1 a2 a1 (by omega) (by decide) F1 (fun z => ?_)
  have qm : q < m := lt_m t z (by decide)
  obtain ⟨u, u1, u2, u3, u4⟩ := x_emit (o := 24) (a := 0) (a2.at (q := q + 1)) (a3.w (j := 4) (v := nI (q + 1))) (by omega) ⟨by decide, by decide⟩
  have tu := (t1.of (fr.w (S := Srd) (k := 49) (i := 4) (v := nI (q + 1)) (by omega))).of u2
  have u1' : f_X3_emit 24 0 (wI σ1 49 4 (nI (q + 1))) = some (nI s1, u) := u1
  rw [u1', e_bnd]
  refine out_pre u2 (out_bind (hS (k + 3) (by omega) u (q + 1) (s1 + 1) _ d hd qm (by omega) tu u3 u4) tu (fun σ2 s2 X2 t2 b0 b1 b2 b3 b4 b5 b6 b7 => ?_) (F2 _))
  generalize (sumP K o N (q + 1)).2.1 = q2 at *
  generalize (sumP K o N (q + 1)).2.2 = c2 at *
  refine out_take (w := 26) t t2 b2 b1 (by omega) (by decide) (F2a _) (fun z2 => ?_)
  have qm2 : q2 < m := lt_m t z2 (by decide)
  obtain ⟨v, v1, v2, v3, v4⟩ := x_emit (o := 26) (a := 0) (b2.at (q := q2 + 1)) (b3.w (j := 4) (v := nI (q2 + 1))) (by omega) ⟨by decide, by decide⟩
  have tv := (t2.of (fr.w (S := Srd) (k := 49) (i := 4) (v := nI (q2 + 1)) (by omega))).of v2
  have v1' : f_X3_emit 26 0 (wI σ2 49 4 (nI (q2 + 1))) = some (nI s2, v) := v1
  rw [v1', e_bnd]
  obtain ⟨w, w1, w2, w3, w4⟩ := x_lead (j := s1) v3 v4 (by omega) (by omega)
  rw [w1, e_bndV]
  refine out_pre (v2.trans w2) (out_bind (hS (k + 3) (by omega) w (q2 + 1) (s2 + 1) _ d hd qm2 (by omega) (tv.of w2) w3 w4) (tv.of w2) (fun σ3 s3 X4 t3 d0 d1 d2 d3 d4 d5 d6 d7 => ?_) (F4 _))
  generalize (sumP K o N (q2 + 1)).2.1 = q3 at *
  generalize (sumP K o N (q2 + 1)).2.2 = c3 at *
  refine out_take (w := 27) t t3 d2 d1 (by omega) (by decide) (F5 _) (fun z3 => ?_)
  have qm3 : q3 < m := lt_m t z3 (by decide)
  obtain ⟨x, x1, x2, x3, x4⟩ := x_lead (j := s2) (d2.at (q := q3 + 1)) (d3.w (j := 4) (v := nI (q3 + 1))) (by omega) (by omega)
  rw [x1, e_bndV]
  obtain ⟨b, bb1, bb2, bb3⟩ := a7
  obtain ⟨y, y1, y2, y3⟩ := b7
  obtain ⟨g, g1, g2, g3⟩ := d7
  have e1 : ∀ j, j < s1 → upC X4 s2 ((X4 s2).1, s3) j = X1 j := fun j hj => by
    rw [upC_ne (by omega), d6 j (by omega), upC_ne (by omega), upC_ne (by omega), b6 j (by omega), upC_ne (by omega)]
  have e2 : upC X4 s2 ((X4 s2).1, s3) s1 = (24, s2 + 1) := by
    rw [upC_ne (by omega), d6 s1 (by omega), upC_hit, upC_ne (by omega), b6 s1 (by omega), upC_hit]
  have e3 : ∀ j, s1 + 1 ≤ j → j < s2 → upC X4 s2 ((X4 s2).1, s3) j = X2 j := fun j h1 h2 => by
    rw [upC_ne (by omega), d6 j (by omega), upC_ne (by omega), upC_ne (by omega)]
  have e4 : upC X4 s2 ((X4 s2).1, s3) s2 = (26, s3) := by
    rw [upC_hit, d6 s2 (by omega), upC_ne (by omega), upC_hit]
  refine out_pre x2 (out_ok qm3 x3 x4 (by omega) (by omega) (fun i hi => by rw [e1 i (by omega)]; exact a6 i hi) ⟨fun A h n => if b A h n then y A h n else g A h n, fun A B e => ?_, GN_sel bb2 y2 g2, ?_⟩)
  · funext h n
    show (if b A h n then y A h n else g A h n) = (if b B h n then y B h n else g B h n)
    rw [bb1 A B e, y1 A B e, g1 A B e]
  · exact SEG_if (bb3.congr (fun j _ h => e1 j h)) e2 (y3.congr e3) e4 (g3.congr (fun j h1 h2 => upC_ne (by omega)))
def XAR (K V P : Nat → Nat) (m lw r n0 : Nat) (ar : Nat → PR) : Prop := ∀ n, n0 ≤ n → ∀ σ p s cX d, d + r = 8 → p ≤ m → s ≤ p → (K p = 40 ∨ K p = 37 ∨ K p = 47 ∨ K p = 24) → XTk σ K V P m → RSr σ p s lw → XC σ cX s → OUT P m lw σ (ar p) p s cX SemN (f_SCC3 n 3 (nI (K p)) (nI d) σ)
theorem x_ar0 {K V P : Nat → Nat} {m lw : Nat} (t : TK K V m) : XAR K V P m lw 0 1 (fun p => (3, p, [])) := by
  intro n hn σ p s cX d hd hp hs hk ht hr hc
  obtain ⟨k, rfl⟩ : ∃ k, n = k + 1 := ⟨n - 1, by omega⟩
  have m3 := t.1
  obtain ⟨u, u1, u2, u3⟩ := x_fail (f := 3) t ht hr hp (by omega)
  have u1' : f_X3_fail 3 σ = some u := u1
  rw [scc3_3]
  unfold b_X3_around
  rw [if_neg (show ¬ (nI d < 8) from nI_nlt (b := 8) (by omega) (by omega)), u1', e_bndV]
  exact out_no rfl (by decide) u2 u3
theorem x_ars {K V P : Nat → Nat} {m lw r n0 N : Nat} {o a : Nat → PR} (t : TK K V m) (hO : XOUT K V P m lw r n0 2 SemN o) (hS : XOUT K V P m lw r n0 0 SemN (sumP K o N)) (hC : XOUT K V P m lw r n0 4 SemN (chP K o a N)) (hn0 : 3 ≤ n0) : XAR K V P m lw (r + 1) (n0 + 1) (arP K o a N) := by
  intro n hn σ p s cX d hd hp hs hk ht hr hc
  obtain ⟨k, rfl⟩ : ∃ k, n = k + 3 + 1 := ⟨n - 4, by omega⟩
  have m3 := t.1
  have r4 := hr.2.2.1
  have kb := t.2.2.1 p
  have pm : p < m := lt_m t rfl (by omega)
  have ne : ∀ w, w < 100 → K p ≠ w → ¬ (nI (K p) = nI w) := fun w hw h y => h ((nI_eq (by omega) (by omega)).mp y)
  have t0 := ht.of (fr.w (S := Srd) (k := 49) (i := 4) (v := nI (p + 1)) (by omega))
  rw [scc3_3]
  unfold b_X3_around arP
  rw [if_pos (show nI d < 8 from nI_lt (b := 8) (by omega) (by omega)), r4, e_lt, show (nI d + 1) = nI (d + 1) from nI_add _ _, show (nI p + 1) = nI (p + 1) from nI_add _ _]
  have un : ∀ (x o' : Nat) (fv : LV → LV), (x = 46 ∧ o' = 4 ∧ fv = (fun v A h n => -v A h n)) ∨ (x = 47 ∧ o' = 2 ∧ fv = (fun v A h n => wmV A (v A h n))) → OUT P m lw (wI σ 49 4 (nI (p + 1))) (bnR (o (p + 1)) (fun q c => (0, q, c ++ [(o', 0)]))) p s cX SemN (bndV (f_SCC3 (k + 3) 2 (nI (d + 1)) 0 (wI σ 49 4 (nI (p + 1)))) fun σ4 => bnd (f_X3_emit (nI x) 0 σ4) fun _ σ6 => f_X3_around_115 (f_SCC3 (k + 3)) σ6) := by
    intro x o' fv hx
    refine out_bind (hO (k + 3) (by omega) (wI σ 49 4 (nI (p + 1))) (p + 1) s cX (d + 1) (by omega) pm (by omega) t0 hr.at hc.w) t0 (fun σ2 s3 eX ttt a0 a1 a2 a3 a4 a5 a6 a7 => ?_) (fok_emit (fun _ => fok_some))
    obtain ⟨v, v1, v2, v3⟩ := a7
    obtain ⟨u, u1, u2, u3, u4⟩ := x_emit (o := x) (a := 0) a2 a3 (by omega) ⟨by omega, by decide⟩
    have u1' : f_X3_emit (nI x) 0 σ2 = some (nI s3, u) := u1
    rw [u1', e_bnd]
    have sg := SEG_on1 (o := x) (a := 0) (v3.congr (dX := upC eX s3 (x, 0)) (fun i i1 i2 => upC_ne (by omega))) upC_hit (by omega)
    refine out_pre u2 (out_ok a1 u3 u4 (by omega) (by omega) (fun i hi => by rw [upC_ne (by omega)]; exact a6 i hi) ⟨fv v, fun A B e => ?_, ?_, ?_⟩)
    · funext h n
      rcases hx with ⟨_, _, rfl⟩ | ⟨_, _, rfl⟩
      · show -v A h n = -v B h n
        rw [v1 A B e]
      · show wmV A (v A h n) = wmV B (v B h n)
        rw [v1 A B e, wm_dep e]
    · rcases hx with ⟨_, rfl, rfl⟩ | ⟨_, rfl, rfl⟩
      · exact GN_neg v2
      · exact GN_warm v2
    · rcases hx with ⟨rfl, _, rfl⟩ | ⟨rfl, _, rfl⟩
      · exact sg
      · exact sg
  by_cases z37 : K p = 37
  · rw [if_pos (show nI (K p) = 37 by rw [z37]; rfl), if_neg (by omega), if_pos z37]
    exact out_pre (fr.w (by omega)) (un 46 4 _ (Or.inl ⟨rfl, rfl, rfl⟩))
  · rw [if_neg (show ¬ (nI (K p) = 37) from ne 37 (by decide) z37)]
    by_cases z40 : K p = 40
    · rw [if_pos (show nI (K p) = 40 by rw [z40]; rfl), if_pos z40]
      have F : FOK K V P m (fun σ9 => bndV (f_X3_take 41 σ9) fun σ11 => f_X3_around_115 (f_SCC3 (k + 3)) σ11) := fok_bndV (fok_take (k := 41) t (by decide)) fok_some
      refine out_pre (fr.w (by omega)) (out_bind (hS (k + 3) (by omega) (wI σ 49 4 (nI (p + 1))) (p + 1) s cX (d + 1) (by omega) pm (by omega) t0 hr.at hc.w) t0 (fun σ2 s3 eX ttt a0 a1 a2 a3 a4 a5 a6 a7 => ?_) F)
      generalize (sumP K o N (p + 1)).2.1 = q at *
      generalize (sumP K o N (p + 1)).2.2 = c at *
      refine out_take (w := 41) t ttt a2 a1 (by omega) (by decide) fok_some (fun y => ?_)
      have qm : q < m := lt_m t y (by decide)
      exact out_ok qm a2.at a3.w (by omega) (by omega) a6 a7
    · rw [if_neg (show ¬ (nI (K p) = 40) from ne 40 (by decide) z40), if_neg z40, if_neg z37]
      by_cases z47 : K p = 47
      · rw [if_pos (show nI (K p) = 47 by rw [z47]; rfl), if_pos z47]
        exact out_pre (fr.w (by omega)) (un 47 2 _ (Or.inr ⟨rfl, rfl, rfl⟩))
      · rw [if_neg (show ¬ (nI (K p) = 47) from ne 47 (by decide) z47), if_neg z47]
        have e1 : ∀ X : Option Sg, bndV X (fun σ18 => f_X3_around_115 (f_SCC3 (k + 3)) σ18) = X := fun X => by cases X <;> rfl
        rw [e1]
        exact out_pre (fr.w (by omega)) (out_base (hC (k + 3) (by omega) (wI σ 49 4 (nI (p + 1))) (p + 1) s cX (d + 1) (by omega) pm (by omega) t0 hr.at hc.w))
theorem x_tnum {σ : Sg} {K V P : Nat → Nat} {m p s lw lo hi : Nat} (t : TK K V m) (h : XTk σ K V P m) (r : RSr σ p s lw) (hp : p ≤ m) (hs : s ≤ 300) (hlo : lo < 20000) (hhi : hi < 20000) : (K p = 43 ∧ lo ≤ V p ∧ V p ≤ hi ∧ f_X3_takeNumber (nI lo) (nI hi) σ = some (nI (V p), wI σ 49 4 (nI (p + 1)))) ∨ (K p = 43 ∧ ¬ (lo ≤ V p ∧ V p ≤ hi) ∧ ∃ σ', f_X3_takeNumber (nI lo) (nI hi) σ = some (nI (V p), σ') ∧ fr Srd σ σ' ∧ FS σ' m 2 (P p)) ∨ (K p ≠ 43 ∧ ∃ σ', f_X3_takeNumber (nI lo) (nI hi) σ = some (nI (V p), σ') ∧ fr Srd σ σ' ∧ FS σ' m 1 (P p)) := by
  have m3 := t.1
  have r4 := r.2.2.1
  have kb := t.2.2.1 p
  have vb := t.2.2.2 p
  have kd := x_kindT t h (p := p) (by omega)
  have nd := x_numT t h hp
  by_cases z : K p = 43
  · by_cases y : lo ≤ V p ∧ V p ≤ hi
    · refine Or.inl ⟨z, y.1, y.2, ?_⟩
      unfold f_X3_takeNumber f_X3_takeNumber_63
      clear h t r
      rw [z] at kd
      simp (disch := omega) only [e_bnd, e_bndV, e_lt, e_grd, e_lit, e_le1, e_le2, e_lt1, e_lt2, e_eq1, e_eq2, e_inb, e_ix, nI_add, pk_mul, e_sub, e_b0, e_b1, e_bz, e_bz0, e_bz1, Bool.and_true, Bool.true_and, ↓reduceIte, not_true_eq_false, not_false_eq_true, decide_false, decide_true, and_self, and_true, true_and, and_false, false_and, Bool.false_eq_true, Bool.not_false, Bool.not_true, r4, nd, kd, x_within, y.1, y.2]
    · refine Or.inr (Or.inl ⟨z, y, ?_⟩)
      obtain ⟨u, u1, u2, u3⟩ := x_fail (f := 2) t h r hp hs
      refine ⟨u, ?_, u2, u3⟩
      have nw : ¬ (nI lo ≤ nI (V p) ∧ nI (V p) ≤ nI hi) := fun q => y ⟨(nI_leI (by omega) (by omega)).mp q.1, (nI_leI (by omega) (by omega)).mp q.2⟩
      unfold f_X3_takeNumber f_X3_takeNumber_63
      clear h t r u2 u3
      rw [z] at kd
      simp (disch := omega) only [e_bnd, e_bndV, e_lt, e_grd, e_lit, e_le1, e_le2, e_lt1, e_lt2, e_eq1, e_eq2, e_inb, e_ix, nI_add, pk_mul, e_sub, e_b0, e_b1, e_bz, e_bz0, e_bz1, Bool.and_true, Bool.true_and, ↓reduceIte, not_true_eq_false, not_false_eq_true, decide_false, decide_true, and_self, and_true, true_and, and_false, false_and, Bool.false_eq_true, Bool.not_false, Bool.not_true, r4, nd, kd, x_within, nw, u1]
  · refine Or.inr (Or.inr ⟨z, ?_⟩)
    obtain ⟨u, u1, u2, u3⟩ := x_fail (f := 1) t h r hp hs
    refine ⟨u, ?_, u2, u3⟩
    unfold f_X3_takeNumber f_X3_takeNumber_63
    clear h t r u2 u3
    simp (disch := omega) only [e_bnd, e_bndV, e_lt, e_grd, e_lit, e_le1, e_le2, e_lt1, e_lt2, e_eq1, e_eq2, e_inb, e_ix, nI_add, pk_mul, e_sub, e_b0, e_b1, e_bz, e_bz0, e_bz1, Bool.and_true, Bool.true_and, ↓reduceIte, not_true_eq_false, not_false_eq_true, decide_false, decide_true, and_self, and_true, true_and, and_false, false_and, Bool.false_eq_true, Bool.not_false, Bool.not_true, r4, nd, kd, u1]
theorem x_one {K V P : Nat → Nat} {m lw r n0 : Nat} {ar : Nat → PR} (t : TK K V m) (hl : lw < 3) (hA : XAR K V P m lw r n0 ar) : XOUT K V P m lw r (n0 + 1) 2 SemN (oneL K V lw ar) := by
  intro n hn σ p s cX d hd hp hs ht hr hc
  obtain ⟨k, rfl⟩ : ∃ k, n = k + 1 := ⟨n - 1, by omega⟩
  have m3 := t.1
  have r4 := hr.2.2.1
  have kb := t.2.2.1 p
  have kd := x_kindT t ht (p := p) (by omega)
  have ne : ∀ w, w < 100 → K p ≠ w → ¬ (nI (K p) = nI w) := fun w hw h y => h ((nI_eq (by omega) (by omega)).mp y)
  rw [scc3_2]
  unfold b_X3_one oneL
  rw [r4, kd, e_bnd]
  by_cases z : K p = 43
  · rw [if_pos (show nI (K p) = 43 by rw [z]; rfl), if_pos z]
    have pm : p < m := lt_m t z (by decide)
    rcases x_tnum (lo := 0) (hi := 9999) t ht hr hp (by omega) (by decide) (by decide) with ⟨_, _, y, e⟩ | ⟨_, y, u, u1, u2, u3⟩ | ⟨y, _⟩
    · have e' : f_X3_takeNumber 0 9999 σ = some (nI (V p), wI σ 49 4 (nI (p + 1))) := e
      rw [if_neg (by omega), e', e_bnd]
      obtain ⟨u, u1, u2, u3, u4⟩ := x_emit (o := K p) (a := V p) (hr.at (q := p + 1)) (hc.w (j := 4) (v := nI (p + 1))) (by omega) ⟨t.2.2.1 _, t.2.2.2 _⟩
      rw [u1, e_bnd]
      refine out_pre ((fr.w (by omega)).trans u2) (out_ok pm u3 u4 (by omega) (by omega) (fun i hi => upC_ne (by omega)) ⟨fun _ _ _ => (V p : Int), fun _ _ _ => rfl, GN_num y, SEG_num (a := V p) ?_ y⟩)
      rw [upC_hit, z]
    · have u1' : f_X3_takeNumber 0 9999 σ = some (nI (V p), u) := u1
      rw [if_pos (by omega), u1', e_bnd]
      obtain ⟨x, w, w1, w2, w3⟩ := x_emitF (x := nI (K p)) (y := nI (V p)) u3
      rw [w1, e_bnd]
      exact out_no rfl (by decide) (u2.trans w2) w3
    · exact absurd z y
  · rw [if_neg (show ¬ (nI (K p) = 43) from ne 43 (by decide) z), if_neg z]
    by_cases y : 11 ≤ K p ∧ K p ≤ 19
    · rw [if_neg (show ¬ (nI (K p) < 11) from nI_nlt (b := 11) y.1 (by omega)), if_neg (show ¬ (19 < nI (K p)) from nI_nlt (a := 19) (by omega) (by omega)), if_pos y]
      have pm : p < m := lt_m t rfl (by omega)
      unfold f_X3_name f_X3_name_39
      have go : OUT P m lw σ (0, p + 1, [(1, K p - 11)]) p s cX SemN (bndV (f_X3_name_22 (nI (K p)) σ) fun σ9 => f_X3_one_93 (f_SCC3 k) σ9) := by
        obtain ⟨u, u1, u2, u3, u4⟩ := x_emit (o := K p) (a := 0) (hr.at (q := p + 1)) (hc.w (j := 4) (v := nI (p + 1))) (by omega) ⟨t.2.2.1 _, by decide⟩
        have u1' : f_X3_emit (nI (K p)) 0 (wI σ 49 4 (nI (p + 1))) = some (nI s, u) := u1
        have e : f_X3_name_22 (nI (K p)) σ = some u := by
          unfold f_X3_name_22 f_X3_name_39
          rw [r4, e_lt, show (nI p + 1) = nI (p + 1) from nI_add _ _, u1', e_bnd]
        rw [e, e_bndV]
        exact out_pre ((fr.w (by omega)).trans u2) (out_ok pm u3 u4 (by omega) (by omega) (fun i hi => upC_ne (by omega)) ⟨fun A h n => nmV A h n (K p - 11), dep_nm _, GN_name (by omega), SEG_name upC_hit y⟩)
      by_cases x : K p = 19
      · rw [if_pos (show nI (K p) = 19 by rw [x]; rfl), hr.2.2.2.2]
        by_cases w : lw = 2
        · rw [if_pos (show nI lw = 2 by rw [w]; rfl), if_neg (fun q => q.2 w)]
          exact go
        · rw [if_neg (show ¬ (nI lw = 2) from fun q => w ((nI_eq (b := 2) (by omega) (by decide)).mp q)), if_pos ⟨x, w⟩]
          obtain ⟨u, u1, u2, u3⟩ := x_fail (f := 5) t ht hr hp (by omega)
          have u1' : f_X3_fail 5 σ = some u := u1
          rw [u1', e_bndV, e_bndV]
          exact out_no rfl (by decide) u2 u3
      · rw [if_neg (show ¬ (nI (K p) = 19) from ne 19 (by decide) x), if_neg (fun q => x q.1)]
        exact go
    · rw [if_neg y]
      have e1 : (if nI (K p) < 11 then f_X3_one_55 (f_SCC3 k) (nI d) (nI (K p)) σ else if 19 < nI (K p) then f_X3_one_55 (f_SCC3 k) (nI d) (nI (K p)) σ else bndV (f_X3_name (nI (K p)) σ) fun σ9 => f_X3_one_93 (f_SCC3 k) σ9) = f_X3_one_55 (f_SCC3 k) (nI d) (nI (K p)) σ := by
        by_cases g : K p < 11
        · exact if_pos (nI_lt (b := 11) g (by omega))
        · rw [if_neg (show ¬ (nI (K p) < 11) from nI_nlt (b := 11) (by omega) (by omega))]
          exact if_pos (nI_lt (a := 19) (by omega) (by omega))
      rw [e1]
      unfold f_X3_one_55
      by_cases x : K p = 40 ∨ K p = 37 ∨ K p = 47 ∨ K p = 24
      · rw [if_pos x]
        have e2 : f_X3_one_79 (f_SCC3 k) (nI d) (nI (K p)) σ = f_SCC3 k 3 (nI (K p)) (nI d) σ := by
          unfold f_X3_one_79
          cases f_SCC3 k 3 (nI (K p)) (nI d) σ <;> rfl
        have r := hA k (by omega) σ p s cX d hd hp hs x ht hr hc
        rw [← e2] at r
        rcases x with x | x | x | x
        · rw [if_pos (show nI (K p) = 40 by rw [x]; rfl)]
          exact r
        · rw [if_neg (show ¬ (nI (K p) = 40) from ne 40 (by decide) (by omega)), if_pos (show nI (K p) = 37 by rw [x]; rfl)]
          exact r
        · rw [if_neg (show ¬ (nI (K p) = 40) from ne 40 (by decide) (by omega)), if_neg (show ¬ (nI (K p) = 37) from ne 37 (by decide) (by omega)), if_pos (show nI (K p) = 47 by rw [x]; rfl)]
          exact r
        · rw [if_neg (show ¬ (nI (K p) = 40) from ne 40 (by decide) (by omega)), if_neg (show ¬ (nI (K p) = 37) from ne 37 (by decide) (by omega)), if_neg (show ¬ (nI (K p) = 47) from ne 47 (by decide) (by omega)), if_pos (show nI (K p) = 24 by rw [x]; rfl)]
          exact r
      · rw [if_neg x, if_neg (show ¬ (nI (K p) = 40) from ne 40 (by decide) (by omega)), if_neg (show ¬ (nI (K p) = 37) from ne 37 (by decide) (by omega)), if_neg (show ¬ (nI (K p) = 47) from ne 47 (by decide) (by omega)), if_neg (show ¬ (nI (K p) = 24) from ne 24 (by decide) (by omega))]
        obtain ⟨u, u1, u2, u3⟩ := x_fail (f := 1) t ht hr hp (by omega)
        have u1' : f_X3_fail 1 σ = some u := u1
        rw [u1', e_bndV]
        exact out_no rfl (by decide) u2 u3
theorem x_OA {K V P : Nat → Nat} {m lw N : Nat} (t : TK K V m) (hl : lw < 3) (hN : N = 300) : ∀ r, XOUT K V P m lw r (10 + 10 * r) 2 SemN (OA K V lw N r).1 ∧ XOUT K V P m lw r (10 + 10 * r + 4) 7 SemB (OA K V lw N r).2
  | 0 => by
    have o : XOUT K V P m lw 0 10 2 SemN (oneL K V lw (fun p => (3, p, []))) := xout_mono (x_one t hl (x_ar0 t)) (by decide)
    have s := x_sum t hN (x_product t hN o (by decide)) (by decide)
    exact ⟨o, x_ask (a := fun p => (0, p, [])) t s (fun w h => absurd h (by omega)) (by decide)⟩
  | r + 1 => by
    obtain ⟨i1, i2⟩ := x_OA (P := P) (N := N) t hl hN r
    have s0 := x_sum t hN (x_product t hN i1 (by omega)) (by omega)
    have b := x_both t hN i2 (by omega)
    have e := x_either t hN b (by omega)
    have c := x_choice t (xout_mono s0 (n1 := 10 + 10 * r + 6) (by omega)) (xout_mono e (by omega)) (by omega)
    have ar := x_ars t (xout_mono i1 (n1 := 10 + 10 * r + 7) (by omega)) (xout_mono s0 (by omega)) (xout_mono c (by omega)) (by omega)
    have o := xout_mono (x_one t hl ar) (n1 := 10 + 10 * (r + 1)) (by omega)
    have s := x_sum t hN (x_product t hN o (by omega)) (by omega)
    exact ⟨o, xout_mono (x_ask t s (fun w h => by
      have : w = r := by omega
      subst this
      exact xout_mono i2 (by omega)) (by omega)) (by omega)⟩
