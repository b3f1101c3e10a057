/-! text: the class reads and, or, if, one -/
theorem on2_and (b c : Bool) : on2 28 (if b = true then 1 else 0) (if c = true then 1 else 0) = if (b && c) = true then 1 else 0 := by cases b <;> cases c <;> decide
theorem on2_or (b c : Bool) : on2 29 (if b = true then 1 else 0) (if c = true then 1 else 0) = if (b || c) = true then 1 else 0 := by cases b <;> cases c <;> decide
theorem on1_not (A : Nat → Nat) (b : Bool) : on1 A 48 (if b = true then 1 else 0) = if (!b) = true then 1 else 0 := by
  unfold on1
  rw [if_neg (by decide), if_neg (by decide), if_pos rfl]
  cases b <;> decide
theorem on1_odd (A : Nat → Nat) {k : Nat} (hk : k = 49 ∨ k = 50) (x : Int) : on1 A k x = if (decide (x % 2 = 0) == decide (k - 33 = 17)) = true then 1 else 0 := by
  rcases hk with rfl | rfl
  · by_cases w : x % 2 = 0
    · rw [decide_eq_true w]
      exact if_pos w
    · rw [decide_eq_false w]
      exact if_neg w
  · by_cases w : x % 2 = 0
    · rw [decide_eq_true w]
      exact if_pos w
    · rw [decide_eq_false w]
      exact if_neg w
theorem x_both {K V P : Nat → Nat} {m lw r n0 N : Nat} {a : Nat → PR} (t : TK K V m) (hN : N = 300) (hA : XOUT K V P m lw r n0 7 SemB a) (hn0 : 1 ≤ n0) : XOUT K V P m lw r (n0 + 1) 6 SemB (manyP K 28 21 a N) := by
  subst hN
  intro n hn σ p s cX d hd hp hs ht hr hc
  obtain ⟨k, rfl⟩ : ∃ k, n = k + 1 := ⟨n - 1, by omega⟩
  have m3 := t.1
  have T : ∀ j fu, j < fu → j ≤ 300 → ∀ σ1 q c s2 dX, XTk σ1 K V P m → RSr σ1 q s2 lw → XC σ1 dX s2 → q ≤ m → s ≤ s2 → s2 + p ≤ s + q → (∀ i, i < s → dX i = cX i) → SemB c dX s s2 → OUT P m lw σ1 (manyT K 28 21 a j q c) p s cX SemB (f_X3_both_9 (f_SCC3 k) fu (nI d) (nI j) σ1) := by
    intro j
    induction j with
    | zero =>
      intro fu hfu hj σ1 q c s2 dX tt rr cc hq h1 h2 h3 h4
      obtain ⟨f, rfl⟩ : ∃ f, fu = f + 1 := ⟨fu - 1, by omega⟩
      have e : f_X3_both_9 (f_SCC3 k) (f + 1) (nI d) (nI 0) σ1 = some σ1 := by
        rw [f_X3_both_9]
        exact if_pos (by decide)
      rw [e]
      exact out_ok hq rr cc h1 h2 h3 h4
    | succ j ih =>
      intro fu hfu hj σ1 q c s2 dX tt rr cc hq h1 h2 h3 h4
      obtain ⟨f, rfl⟩ : ∃ f, fu = f + 1 := ⟨fu - 1, by omega⟩
      have kd := x_kindT t tt (p := q) (by omega)
      have r4 := rr.2.2.1
      have kb := t.2.2.1 q
      have ng : ¬ (nI (j + 1) ≤ 0) := nI_ge (a := 0) (by omega) (by omega)
      by_cases z : K q = 28
      · have e : f_X3_both_9 (f_SCC3 k) (f + 1) (nI d) (nI (j + 1)) σ1 = bndV (f_SCC3 k 7 (nI d) 0 (wI σ1 49 4 (nI (q + 1)))) (fun σ4 => bnd (f_X3_emit (nI 28) (nI 0) σ4) fun _ σ6 => f_X3_both_9 (f_SCC3 k) f (nI d) (nI j) σ6) := by
          rw [f_X3_both_9, if_neg ng, r4, kd, e_bnd, z, dec1]
          rw [r4, e_lt, show (nI q + 1) = nI (q + 1) from nI_add _ _]
          exact if_pos rfl
        have e2 : manyT K 28 21 a (j + 1) q c = bnR (a (q + 1)) (fun u d' => manyT K 28 21 a j u (c ++ d' ++ [(21, 0)])) := if_pos z
        have qm : q < m := lt_m t z (by decide)
        rw [e, e2]
        refine out_pre (fr.w (by omega)) (out_bind (hA k (by omega) (wI σ1 49 4 (nI (q + 1))) (q + 1) s2 dX d hd qm (by omega) (tt.of (fr.w (by omega))) rr.at cc.w) (tt.of (fr.w (by omega))) (fun σ2 s3 eX ttt a0 a1 a2 a3 a4 a5 a6 a7 => ?_) (fok_emit (fun _ => ?_)))
        · obtain ⟨v, v1, v2, v3⟩ := h4
          obtain ⟨w, w1, w2, w3⟩ := a7
          obtain ⟨u, u1, u2, u3, u4⟩ := x_emit (o := 28) (a := 0) a2 a3 (by omega) ⟨by decide, by decide⟩
          rw [u1, e_bnd]
          refine out_pre u2 (ih f (by omega) (by omega) u _ _ (s3 + 1) _ (ttt.of u2) u3 u4 a1 (by omega) (by omega) (fun i hi => ?_) ?_)
          · rw [upC_ne (by omega), a6 i (by omega)]
            exact h3 i hi
          · refine ⟨fun A h n => v A h n && w A h n, fun A B e => ?_, GB_and v2 w2, ?_⟩
            · funext h n
              show (v A h n && w A h n) = (v B h n && w B h n)
              rw [v1 A B e, w1 A B e]
            · have sg := SEG_on2 (o := 28) (a := 0) (v3.congr (dX := upC eX s3 (28, 0)) (fun i i1 i2 => by rw [upC_ne (by omega), a6 i i2])) (w3.congr (dX := upC eX s3 (28, 0)) (fun i i1 i2 => upC_ne (by omega))) upC_hit (by decide) (fun _ A h n => ⟨by unfold b01; split <;> omega, by unfold b01; split <;> omega⟩)
              have ee : (fun A h n => on2 28 (b01 v A h n) (b01 w A h n)) = b01 (fun A h n => v A h n && w A h n) := by
                funext A h n
                exact on2_and (v A h n) (w A h n)
              rw [ee] at sg
              exact sg
        · obtain ⟨g, rfl⟩ : ∃ g, f = g + 1 := ⟨f - 1, by omega⟩
          exact fok_both9 t _ g _ _
      · have e : f_X3_both_9 (f_SCC3 k) (f + 1) (nI d) (nI (j + 1)) σ1 = some σ1 := by
          rw [f_X3_both_9, if_neg ng, r4, kd, e_bnd, if_neg (show ¬ (nI (K q) = 28) from fun y => z ((nI_eq (b := 28) (by omega) (by omega)).mp y))]
          rfl
        have e2 : manyT K 28 21 a (j + 1) q c = (0, q, c) := if_neg z
        rw [e, e2]
        exact out_ok hq rr cc h1 h2 h3 h4
  have e : f_SCC3 (k + 1) 6 (nI d) 0 σ = bndV (f_SCC3 k 7 (nI d) 0 σ) (fun σ12 => f_X3_both_9 (f_SCC3 k) FU (nI d) (nI 300) σ12) := by
    rw [scc3_6]
    rfl
  rw [e]
  refine out_bind (hA k (by omega) σ p s cX d hd hp hs ht hr hc) ht (fun σ1 s2 dX tt a0 a1 a2 a3 a4 a5 a6 a7 => ?_) (fok_both9 t _ 3999 _ _)
  exact T 300 FU (by unfold FU; omega) (by omega) σ1 _ _ s2 dX tt a2 a3 a1 a4 a5 a6 a7
theorem x_either {K V P : Nat → Nat} {m lw r n0 N : Nat} {a : Nat → PR} (t : TK K V m) (hN : N = 300) (hA : XOUT K V P m lw r n0 6 SemB a) (hn0 : 1 ≤ n0) : XOUT K V P m lw r (n0 + 1) 5 SemB (manyP K 29 22 a N) := by
  subst hN
  intro n hn σ p s cX d hd hp hs ht hr hc
  obtain ⟨k, rfl⟩ : ∃ k, n = k + 1 := ⟨n - 1, by omega⟩
  have m3 := t.1
  have T : ∀ j fu, j < fu → j ≤ 300 → ∀ σ1 q c s2 dX, XTk σ1 K V P m → RSr σ1 q s2 lw → XC σ1 dX s2 → q ≤ m → s ≤ s2 → s2 + p ≤ s + q → (∀ i, i < s → dX i = cX i) → SemB c dX s s2 → OUT P m lw σ1 (manyT K 29 22 a j q c) p s cX SemB (f_X3_either_9 (f_SCC3 k) fu (nI d) (nI j) σ1) := by
    intro j
    induction j with
    | zero =>
      intro fu hfu hj σ1 q c s2 dX tt rr cc hq h1 h2 h3 h4
      obtain ⟨f, rfl⟩ : ∃ f, fu = f + 1 := ⟨fu - 1, by omega⟩
      have e : f_X3_either_9 (f_SCC3 k) (f + 1) (nI d) (nI 0) σ1 = some σ1 := by
        rw [f_X3_either_9]
        exact if_pos (by decide)
      rw [e]
      exact out_ok hq rr cc h1 h2 h3 h4
    | succ j ih =>
      intro fu hfu hj σ1 q c s2 dX tt rr cc hq h1 h2 h3 h4
      obtain ⟨f, rfl⟩ : ∃ f, fu = f + 1 := ⟨fu - 1, by omega⟩
      have kd := x_kindT t tt (p := q) (by omega)
      have r4 := rr.2.2.1
      have kb := t.2.2.1 q
      have ng : ¬ (nI (j + 1) ≤ 0) := nI_ge (a := 0) (by omega) (by omega)
      by_cases z : K q = 29
      · have e : f_X3_either_9 (f_SCC3 k) (f + 1) (nI d) (nI (j + 1)) σ1 = bndV (f_SCC3 k 6 (nI d) 0 (wI σ1 49 4 (nI (q + 1)))) (fun σ4 => bnd (f_X3_emit (nI 29) (nI 0) σ4) fun _ σ6 => f_X3_either_9 (f_SCC3 k) f (nI d) (nI j) σ6) := by
          rw [f_X3_either_9, if_neg ng, r4, kd, e_bnd, z, dec1]
          rw [r4, e_lt, show (nI q + 1) = nI (q + 1) from nI_add _ _]
          exact if_pos rfl
        have e2 : manyT K 29 22 a (j + 1) q c = bnR (a (q + 1)) (fun u d' => manyT K 29 22 a j u (c ++ d' ++ [(22, 0)])) := if_pos z
        have qm : q < m := lt_m t z (by decide)
        rw [e, e2]
        refine out_pre (fr.w (by omega)) (out_bind (hA k (by omega) (wI σ1 49 4 (nI (q + 1))) (q + 1) s2 dX d hd qm (by omega) (tt.of (fr.w (by omega))) rr.at cc.w) (tt.of (fr.w (by omega))) (fun σ2 s3 eX ttt a0 a1 a2 a3 a4 a5 a6 a7 => ?_) (fok_emit (fun _ => ?_)))
        · obtain ⟨v, v1, v2, v3⟩ := h4
          obtain ⟨w, w1, w2, w3⟩ := a7
          obtain ⟨u, u1, u2, u3, u4⟩ := x_emit (o := 29) (a := 0) a2 a3 (by omega) ⟨by decide, by decide⟩
          rw [u1, e_bnd]
          refine out_pre u2 (ih f (by omega) (by omega) u _ _ (s3 + 1) _ (ttt.of u2) u3 u4 a1 (by omega) (by omega) (fun i hi => ?_) ?_)
          · rw [upC_ne (by omega), a6 i (by omega)]
            exact h3 i hi
          · refine ⟨fun A h n => v A h n || w A h n, fun A B e => ?_, GB_or v2 w2, ?_⟩
            · funext h n
              show (v A h n || w A h n) = (v B h n || w B h n)
              rw [v1 A B e, w1 A B e]
            · have sg := SEG_on2 (o := 29) (a := 0) (v3.congr (dX := upC eX s3 (29, 0)) (fun i i1 i2 => by rw [upC_ne (by omega), a6 i i2])) (w3.congr (dX := upC eX s3 (29, 0)) (fun i i1 i2 => upC_ne (by omega))) upC_hit (by decide) (fun _ A h n => ⟨by unfold b01; split <;> omega, by unfold b01; split <;> omega⟩)
              have ee : (fun A h n => on2 29 (b01 v A h n) (b01 w A h n)) = b01 (fun A h n => v A h n || w A h n) := by
                funext A h n
                exact on2_or (v A h n) (w A h n)
              rw [ee] at sg
              exact sg
        · obtain ⟨g, rfl⟩ : ∃ g, f = g + 1 := ⟨f - 1, by omega⟩
          exact fok_eith9 t _ g _ _
      · have e : f_X3_either_9 (f_SCC3 k) (f + 1) (nI d) (nI (j + 1)) σ1 = some σ1 := by
          rw [f_X3_either_9, if_neg ng, r4, kd, e_bnd, if_neg (show ¬ (nI (K q) = 29) from fun y => z ((nI_eq (b := 29) (by omega) (by omega)).mp y))]
          rfl
        have e2 : manyT K 29 22 a (j + 1) q c = (0, q, c) := if_neg z
        rw [e, e2]
        exact out_ok hq rr cc h1 h2 h3 h4
  have e : f_SCC3 (k + 1) 5 (nI d) 0 σ = bndV (f_SCC3 k 6 (nI d) 0 σ) (fun σ12 => f_X3_either_9 (f_SCC3 k) FU (nI d) (nI 300) σ12) := by
    rw [scc3_5]
    rfl
  rw [e]
  refine out_bind (hA k (by omega) σ p s cX d hd hp hs ht hr hc) ht (fun σ1 s2 dX tt a0 a1 a2 a3 a4 a5 a6 a7 => ?_) (fok_eith9 t _ 3999 _ _)
  exact T 300 FU (by unfold FU; omega) (by omega) σ1 _ _ s2 dX tt a2 a3 a1 a4 a5 a6 a7
theorem x_ask {K V P : Nat → Nat} {m lw r n0 N : Nat} {o a : Nat → PR} (t : TK K V m) (hS : XOUT K V P m lw r n0 0 SemN (sumP K o N)) (hA : ∀ s, r = s + 1 → XOUT K V P m lw s n0 7 SemB a) (hn0 : 3 ≤ n0) : XOUT K V P m lw r (n0 + 2) 7 SemB (askP K o a N r) := by
  intro n hn σ p s cX d hd hp hs ht hr hc
  obtain ⟨k, rfl⟩ : ∃ k, n = k + 3 + 1 := ⟨n - 4, by omega⟩
  have m3 := t.1
  have kd := x_kindT t ht (p := p) (by omega)
  have r4 := hr.2.2.1
  have kb := t.2.2.1 p
  have ne : ∀ w, w < 100 → K p ≠ w → ¬ (nI (K p) = nI w) := fun w hw h y => h ((nI_eq (by omega) (by omega)).mp y)
  rw [scc3_7]
  unfold b_X3_ask askP
  rw [r4, kd, e_bnd]
  by_cases z : K p = 48
  · rw [if_pos (show nI (K p) = 48 by rw [z]; rfl), if_pos z, scc3_8]
    unfold b_X3_deny
    have pm : p < m := lt_m t z (by decide)
    by_cases y : r = 0
    · rw [if_pos y]
      obtain ⟨u, u1, u2, u3⟩ := x_fail (f := 3) t ht hr hp (by omega)
      have u1' : f_X3_fail 3 σ = some u := u1
      rw [if_neg (show ¬ (nI d < 8) from nI_nlt (b := 8) (by omega) (by omega)), u1', e_bndV]
      exact out_no rfl (by decide) u2 u3
    · rw [if_neg y, if_pos (show nI d < 8 from nI_lt (b := 8) (by omega) (by omega)), r4, e_lt, show (nI d + 1) = nI (d + 1) from nI_add _ _, show (nI p + 1) = nI (p + 1) from nI_add _ _]
      obtain ⟨w, rfl⟩ : ∃ w, r = w + 1 := ⟨r - 1, by omega⟩
      have e1 : ∀ X : Option Sg, bndV (bndV X (fun σ4 => bnd (f_X3_emit 48 0 σ4) fun _ σ6 => some σ6)) (fun σ26 => some σ26) = bndV X (fun σ4 => bnd (f_X3_emit 48 0 σ4) fun _ σ6 => some σ6) := by
        intro X
        cases X with
        | none => rfl
        | some x =>
          rw [e_bndV]
          cases f_X3_emit 48 0 x with
          | none => rfl
          | some y => rfl
      rw [e1]
      refine out_pre (fr.w (by omega)) (out_bind (hA w rfl (k + 2) (by omega) (wI σ 49 4 (nI (p + 1))) (p + 1) s cX (d + 1) (by omega) pm (by omega) (ht.of (fr.w (by omega))) hr.at hc.w) (ht.of (fr.w (by omega))) (fun σ2 s3 eX ttt a0 a1 a2 a3 a4 a5 a6 a7 => ?_) (fok_emit (fun _ => fok_some)))
      obtain ⟨b, b1, b2, b3⟩ := a7
      obtain ⟨u, u1, u2, u3, u4⟩ := x_emit (o := 48) (a := 0) a2 a3 (by omega) ⟨by decide, by decide⟩
      have u1' : f_X3_emit 48 0 σ2 = some (nI s3, u) := u1
      rw [u1', e_bnd]
      refine out_pre u2 (out_ok a1 u3 u4 (by omega) (by omega) (fun i hi => by rw [upC_ne (by omega)]; exact a6 i hi) ⟨fun A h n => !b A h n, fun A B e => ?_, GB_not b2, ?_⟩)
      · funext h n
        show (!b A h n) = (!b B h n)
        rw [b1 A B e]
      · have sg := SEG_on1 (o := 48) (a := 0) (b3.congr (dX := upC eX s3 (48, 0)) (fun i i1 i2 => upC_ne (by omega))) upC_hit (by decide)
        have ee : (fun A h n => on1 A 48 (b01 b A h n)) = b01 (fun A h n => !b A h n) := by
          funext A h n
          exact on1_not A (b A h n)
        rw [ee] at sg
        exact sg
  · rw [if_neg (show ¬ (nI (K p) = 48) from ne 48 (by decide) z), if_neg z]
    by_cases y : K p = 49 ∨ K p = 50
    · have pm : p < m := lt_m t rfl (by omega)
      have e1 : (if nI (K p) = 49 then f_X3_ask_36 (f_SCC3 (k + 3)) (nI d) (nI (K p)) σ else if nI (K p) = 50 then f_X3_ask_36 (f_SCC3 (k + 3)) (nI d) (nI (K p)) σ else bndV (f_SCC3 (k + 3) 0 (nI d) 0 σ) fun σ14 => bnd (f_X7_kind (σ14.1 49 4) σ14) fun r17 σ16 => if r17 < 30 then f_X3_ask_88 (f_SCC3 (k + 3)) σ16 else if r17 ≤ 35 then ltσ (wI σ16 49 4 ((σ16.1 49 4) + 1)) fun σ18 => bndV (f_SCC3 (k + 3) 0 (nI d) 0 σ18) fun σ21 => bnd (f_X3_emit r17 0 σ21) fun r24 σ23 => some σ23 else f_X3_ask_88 (f_SCC3 (k + 3)) σ16) = f_X3_ask_36 (f_SCC3 (k + 3)) (nI d) (nI (K p)) σ := by
        rcases y with y | y
        · exact if_pos (by rw [y]; rfl)
        · rw [if_neg (show ¬ (nI (K p) = 49) from ne 49 (by decide) (by omega))]
          exact if_pos (by rw [y]; rfl)
      rw [e1, if_pos y]
      unfold f_X3_ask_36
      rw [r4, e_lt, show (nI p + 1) = nI (p + 1) from nI_add _ _]
      refine out_pre (fr.w (by omega)) (out_bind (hS (k + 3) (by omega) (wI σ 49 4 (nI (p + 1))) (p + 1) s cX d hd pm (by omega) (ht.of (fr.w (by omega))) hr.at hc.w) (ht.of (fr.w (by omega))) (fun σ2 s3 eX ttt a0 a1 a2 a3 a4 a5 a6 a7 => ?_) (fok_emit (fun _ => fok_some)))
      obtain ⟨v, v1, v2, v3⟩ := a7
      obtain ⟨u, u1, u2, u3, u4⟩ := x_emit (o := K p) (a := 0) a2 a3 (by omega) ⟨t.2.2.1 _, by decide⟩
      have u1' : f_X3_emit (nI (K p)) 0 σ2 = some (nI s3, u) := u1
      rw [u1', e_bnd]
      refine out_pre u2 (out_ok a1 u3 u4 (by omega) (by omega) (fun i hi => by rw [upC_ne (by omega)]; exact a6 i hi) ⟨fun A h n => decide (v A h n % 2 = 0) == decide (K p - 33 = 17), fun A B e => ?_, GB_odd (by omega) v2, ?_⟩)
      · funext h n
        show (decide (v A h n % 2 = 0) == decide (K p - 33 = 17)) = (decide (v B h n % 2 = 0) == decide (K p - 33 = 17))
        rw [v1 A B e]
      · have sg := SEG_on1 (o := K p) (a := 0) (v3.congr (dX := upC eX s3 (K p, 0)) (fun i i1 i2 => upC_ne (by omega))) upC_hit (by omega)
        have ee : (fun A h n => on1 A (K p) (v A h n)) = b01 (fun A h n => decide (v A h n % 2 = 0) == decide (K p - 33 = 17)) := by
          funext A h n
          exact on1_odd A y (v A h n)
        rw [ee] at sg
        exact sg
    · rw [if_neg (show ¬ (nI (K p) = 49) from ne 49 (by decide) (by omega)), if_neg (show ¬ (nI (K p) = 50) from ne 50 (by decide) (by omega)), if_neg y]
      have fk : FOK K V P m (fun σ14 => bnd (f_X7_kind (σ14.1 49 4) σ14) fun r17 σ16 => if r17 < 30 then f_X3_ask_88 (f_SCC3 (k + 3)) σ16 else if r17 ≤ 35 then ltσ (wI σ16 49 4 ((σ16.1 49 4) + 1)) fun σ18 => bndV (f_SCC3 (k + 3) 0 (nI d) 0 σ18) fun σ21 => bnd (f_X3_emit r17 0 σ21) fun r24 σ23 => some σ23 else f_X3_ask_88 (f_SCC3 (k + 3)) σ16) := fun τ f pl hf tt rr => by
        obtain ⟨u, u1, u2, u3⟩ := x_failF (g := 1) t tt hf rr
        have kk := x_kindT t tt (p := m) (by omega)
        rw [t.2.1 m (Nat.le_refl _)] at kk
        refine ⟨u, ?_, u2, u3⟩
        show bnd (f_X7_kind (τ.1 49 4) τ) _ = _
        rw [rr.2.2.1, kk, e_bnd, if_neg (by decide), if_neg (by decide)]
        unfold f_X3_ask_88
        rw [u1, e_bndV]
      refine out_bind (hS (k + 3) (by omega) σ p s cX d hd hp hs ht hr hc) ht (fun σ1 s1 dX tt a0 a1 a2 a3 a4 a5 a6 a7 => ?_) fk
      have kk := x_kindT t tt (p := (sumP K o N p).2.1) (by omega)
      have kc := t.2.2.1 (sumP K o N p).2.1
      rw [a2.2.2.1, kk, e_bnd]
      generalize (sumP K o N p).2.1 = q at *
      generalize (sumP K o N p).2.2 = c at *
      by_cases x : 30 ≤ K q ∧ K q ≤ 35
      · have qm : q < m := lt_m t rfl (by omega)
        rw [if_neg (show ¬ (nI (K q) < 30) from nI_nlt (b := 30) (by omega) (by omega)), if_pos (show nI (K q) ≤ 35 from nI_le (b := 35) (by omega) (by omega)), if_pos x, a2.2.2.1, e_lt, show (nI q + 1) = nI (q + 1) from nI_add _ _]
        refine out_pre (fr.w (by omega)) (out_bind (hS (k + 3) (by omega) (wI σ1 49 4 (nI (q + 1))) (q + 1) s1 dX d hd qm (by omega) (tt.of (fr.w (by omega))) a2.at a3.w) (tt.of (fr.w (by omega))) (fun σ2 s3 eX ttt b0 b1 b2 b3 b4 b5 b6 b7 => ?_) (fok_emit (fun _ => fok_some)))
        obtain ⟨v, v1, v2, v3⟩ := a7
        obtain ⟨w, w1, w2, w3⟩ := b7
        obtain ⟨u, u1, u2, u3, u4⟩ := x_emit (o := K q) (a := 0) b2 b3 (by omega) ⟨t.2.2.1 _, by decide⟩
        have u1' : f_X3_emit (nI (K q)) 0 σ2 = some (nI s3, u) := u1
        rw [u1', e_bnd]
        refine out_pre u2 (out_ok b1 u3 u4 (by omega) (by omega) (fun i hi => by rw [upC_ne (by omega), b6 i (by omega)]; exact a6 i hi) ⟨fun A h n => cmW (K q - 20) (v A h n) (w A h n), fun A B e => ?_, GB_cmp (by omega) v2 w2, ?_⟩)
        · funext h n
          show cmW (K q - 20) (v A h n) (w A h n) = cmW (K q - 20) (v B h n) (w B h n)
          rw [v1 A B e, w1 A B e]
        · have sg := SEG_on2 (o := K q) (a := 0) (v3.congr (dX := upC eX s3 (K q, 0)) (fun i i1 i2 => by rw [upC_ne (by omega), b6 i i2])) (w3.congr (dX := upC eX s3 (K q, 0)) (fun i i1 i2 => upC_ne (by omega))) upC_hit (by omega) (fun h => absurd h (by omega))
          have ee : (fun A h n => on2 (K q) (v A h n) (w A h n)) = b01 (fun A h n => cmW (K q - 20) (v A h n) (w A h n)) := by
            funext A h n
            unfold on2 b01
            rw [if_neg (by omega), if_neg (by omega), if_pos (by omega)]
          rw [ee] at sg
          exact sg
      · rw [if_neg x]
        obtain ⟨u, u1, u2, u3⟩ := x_fail (f := 1) t tt a2 a1 (by omega)
        have u1' : f_X3_fail 1 σ1 = some u := u1
        have e1 : (if nI (K q) < 30 then f_X3_ask_88 (f_SCC3 (k + 3)) σ1 else if nI (K q) ≤ 35 then ltσ (wI σ1 49 4 ((σ1.1 49 4) + 1)) fun σ18 => bndV (f_SCC3 (k + 3) 0 (nI d) 0 σ18) fun σ21 => bnd (f_X3_emit (nI (K q)) 0 σ21) fun r24 σ23 => some σ23 else f_X3_ask_88 (f_SCC3 (k + 3)) σ1) = some u := by
          have e2 : f_X3_ask_88 (f_SCC3 (k + 3)) σ1 = some u := by
            unfold f_X3_ask_88
            rw [u1', e_bndV]
          by_cases g : K q < 30
          · rw [if_pos (show nI (K q) < 30 from nI_lt (b := 30) g (by omega))]
            exact e2
          · rw [if_neg (show ¬ (nI (K q) < 30) from nI_nlt (b := 30) (by omega) (by omega)), if_neg (show ¬ (nI (K q) ≤ 35) from nI_ge (a := 35) (by omega) (by omega))]
            exact e2
        exact out_no e1 (by decide) u2 u3
