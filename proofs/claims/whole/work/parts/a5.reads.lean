/-! text: the class reads as the parser does, and its code says the same -/
def depB (b : LB2) : Prop := ∀ A B : Nat → Nat, (∀ j, lcell j → A j = B j) → b A = b B
theorem dep_nm (i : Nat) : dep (fun A h n => nmV A h n i) := fun A B e => by
  have hv : ∀ h w, w < 5 → hsV A h w = hsV B h w := fun h w hw => by
    unfold hsV
    by_cases z : h < 8
    · rw [if_pos z, if_pos z, e _ (Or.inr (Or.inr (Or.inr (by omega))))]
    · rw [if_neg z, if_neg z]
  funext h n
  show nmV A h n i = nmV B h n i
  unfold nmV
  rw [e 6 (Or.inr (Or.inl rfl)), e 7 (Or.inr (Or.inr (Or.inl rfl))), hv h 0 (by decide), hv h 1 (by decide), hv h 2 (by decide), hv h 3 (by decide)]
theorem wm_dep {A B : Nat → Nat} (e : ∀ j, lcell j → A j = B j) (x : Int) : wmV A x = wmV B x := by
  unfold wmV
  rw [e 0 (Or.inl rfl)]
  by_cases z : 0 ≤ x ∧ x < (B 0 : Int) ∧ x < 8
  · rw [if_pos z, if_pos z, e _ (Or.inr (Or.inr (Or.inr (by omega))))]
  · rw [if_neg z, if_neg z]
def SemN (c : List (Nat × Nat)) (dX : Nat → Nat × Nat) (s s' : Nat) : Prop := ∃ v : LV, dep v ∧ GN c v ∧ SEG dX s s' v
def SemB (c : List (Nat × Nat)) (dX : Nat → Nat × Nat) (s s' : Nat) : Prop := ∃ b : LB2, depB b ∧ GB c b ∧ SEG dX s s' (b01 b)
def OUT (P : Nat → Nat) (m lw : Nat) (σ : Sg) (r : PR) (p s : Nat) (cX : Nat → Nat × Nat) (Sem : List (Nat × Nat) → (Nat → Nat × Nat) → Nat → Nat → Prop) (o : Option Sg) : Prop := ∃ σ', o = some σ' ∧ fr Srd σ σ' ∧ (r.1 = 0 → r.2.1 ≤ m ∧ ∃ s' dX, RSr σ' r.2.1 s' lw ∧ XC σ' dX s' ∧ s ≤ s' ∧ s' + p ≤ s + r.2.1 ∧ (∀ j, j < s → dX j = cX j) ∧ Sem r.2.2 dX s s') ∧ (r.1 ≠ 0 → r.1 < 100 ∧ FS σ' m r.1 (P r.2.1))
theorem out_pre {P : Nat → Nat} {m lw p s : Nat} {σ σ1 : Sg} {r : PR} {cX : Nat → Nat × Nat} {Sem : List (Nat × Nat) → (Nat → Nat × Nat) → Nat → Nat → Prop} {o : Option Sg} (f : fr Srd σ σ1) (h : OUT P m lw σ1 r p s cX Sem o) : OUT P m lw σ r p s cX Sem o := by
  obtain ⟨u, u1, u2, u3, u4⟩ := h
  exact ⟨u, u1, f.trans u2, u3, u4⟩
theorem out_bind {K V P : Nat → Nat} {m lw p s p1 s1 : Nat} {σ : Sg} {r : PR} {cX cX1 : Nat → Nat × Nat} {Sem1 Sem2 : List (Nat × Nat) → (Nat → Nat × Nat) → Nat → Nat → Prop} {o1 : Option Sg} {kk : Nat → List (Nat × Nat) → PR} {k : Sg → Option Sg} (h : OUT P m lw σ r p1 s1 cX1 Sem1 o1) (t : XTk σ K V P m) (g : ∀ σ1 s2 dX, XTk σ1 K V P m → r.1 = 0 → r.2.1 ≤ m → RSr σ1 r.2.1 s2 lw → XC σ1 dX s2 → s1 ≤ s2 → s2 + p1 ≤ s1 + r.2.1 → (∀ j, j < s1 → dX j = cX1 j) → Sem1 r.2.2 dX s1 s2 → OUT P m lw σ1 (kk r.2.1 r.2.2) p s cX Sem2 (k σ1)) (gf : FOK K V P m k) : OUT P m lw σ (bnR r kk) p s cX Sem2 (bndV o1 k) := by
  obtain ⟨u, u1, u2, u3, u4⟩ := h
  rw [u1, e_bndV]
  by_cases z : r.1 = 0
  · rw [bnR_0 z]
    obtain ⟨a0, s2, dX, a1, a2, a3, a4, a5, a6⟩ := u3 z
    exact out_pre u2 (g u s2 dX (t.of u2) z a0 a1 a2 a3 a4 a5 a6)
  · rw [bnR_1 z]
    obtain ⟨b1, b2⟩ := u4 z
    obtain ⟨w, w1, w2, w3⟩ := gf u r.1 (P r.2.1) ⟨z, b1⟩ (t.of u2) b2
    exact ⟨w, w1, u2.trans w2, fun y => absurd y z, fun _ => ⟨b1, w3⟩⟩
theorem out_ok {P : Nat → Nat} {m lw p s q s' : Nat} {σ : Sg} {c : List (Nat × Nat)} {cX dX : Nat → Nat × Nat} {Sem : List (Nat × Nat) → (Nat → Nat × Nat) → Nat → Nat → Prop} (hq : q ≤ m) (r : RSr σ q s' lw) (x : XC σ dX s') (h1 : s ≤ s') (h2 : s' + p ≤ s + q) (h3 : ∀ j, j < s → dX j = cX j) (h4 : Sem c dX s s') : OUT P m lw σ (0, q, c) p s cX Sem (some σ) := ⟨σ, rfl, fr.rfl, fun _ => ⟨hq, s', dX, r, x, h1, h2, h3, h4⟩, fun z => absurd rfl z⟩
theorem out_no {P : Nat → Nat} {m lw p s f q : Nat} {σ σ' : Sg} {cX : Nat → Nat × Nat} {Sem : List (Nat × Nat) → (Nat → Nat × Nat) → Nat → Nat → Prop} {o : Option Sg} (e : o = some σ') (hf : f ≠ 0 ∧ f < 100) (h : fr Srd σ σ') (g : FS σ' m f (P q)) : OUT P m lw σ (f, q, []) p s cX Sem o := ⟨σ', e, h, fun z => absurd z hf.1, fun _ => ⟨hf.2, g⟩⟩
theorem dec1 (j : Nat) : nI (j + 1) + -1 = nI j := by
  rw [show (-1 : Int32) = iI (-1) from rfl, ← iI_n, iI_add, ← iI_n]
  congr 1
  omega
def XOUT (K V P : Nat → Nat) (m lw r n0 i : Nat) (Sem : List (Nat × Nat) → (Nat → Nat × Nat) → Nat → Nat → Prop) (o : Nat → PR) : Prop := ∀ n, n0 ≤ n → ∀ σ p s cX d, d + r = 8 → p ≤ m → s ≤ p → XTk σ K V P m → RSr σ p s lw → XC σ cX s → OUT P m lw σ (o p) p s cX Sem (f_SCC3 n i (nI d) 0 σ)
theorem scc3_0 {k : Nat} {a b : Int32} {σ : Sg} : f_SCC3 (k + 1) 0 a b σ = b_X3_sum (f_SCC3 k) a σ := by rw [f_SCC3]
theorem scc3_1 {k : Nat} {a b : Int32} {σ : Sg} : f_SCC3 (k + 1) 1 a b σ = b_X3_product (f_SCC3 k) a σ := by rw [f_SCC3]
theorem scc3_2 {k : Nat} {a b : Int32} {σ : Sg} : f_SCC3 (k + 1) 2 a b σ = b_X3_one (f_SCC3 k) a σ := by rw [f_SCC3]
theorem scc3_3 {k : Nat} {a b : Int32} {σ : Sg} : f_SCC3 (k + 1) 3 a b σ = b_X3_around (f_SCC3 k) a b σ := by rw [f_SCC3]
theorem scc3_4 {k : Nat} {a b : Int32} {σ : Sg} : f_SCC3 (k + 1) 4 a b σ = b_X3_choice (f_SCC3 k) a σ := by rw [f_SCC3]
theorem scc3_5 {k : Nat} {a b : Int32} {σ : Sg} : f_SCC3 (k + 1) 5 a b σ = b_X3_either (f_SCC3 k) a σ := by rw [f_SCC3]
theorem scc3_6 {k : Nat} {a b : Int32} {σ : Sg} : f_SCC3 (k + 1) 6 a b σ = b_X3_both (f_SCC3 k) a σ := by rw [f_SCC3]
theorem scc3_7 {k : Nat} {a b : Int32} {σ : Sg} : f_SCC3 (k + 1) 7 a b σ = b_X3_ask (f_SCC3 k) a σ := by rw [f_SCC3]
theorem scc3_8 {k : Nat} {a b : Int32} {σ : Sg} : f_SCC3 (k + 1) 8 a b σ = b_X3_deny (f_SCC3 k) a σ := by unfold f_SCC3; rfl
theorem x_product {K V P : Nat → Nat} {m lw r n0 N : Nat} {o : Nat → PR} (t : TK K V m) (hN : N = 300) (hO : XOUT K V P m lw r n0 2 SemN o) (hn0 : 1 ≤ n0) : XOUT K V P m lw r (n0 + 1) 1 SemN (prodP K o N) := by
  subst hN
  intro n hn σ p s cX d hd hp hs ht hr hc
  obtain ⟨k, rfl⟩ : ∃ k, n = k + 1 := ⟨n - 1, by omega⟩
  have m3 := t.1
  have T : ∀ j fu, j < fu → j ≤ 300 → ∀ σ1 q c s2 dX, XTk σ1 K V P m → RSr σ1 q s2 lw → XC σ1 dX s2 → q ≤ m → s ≤ s2 → s2 + p ≤ s + q → (∀ i, i < s → dX i = cX i) → SemN c dX s s2 → OUT P m lw σ1 (prodT K o j q c) p s cX SemN (f_X3_product_9 (f_SCC3 k) fu (nI d) (nI j) σ1) := by
    intro j
    induction j with
    | zero =>
      intro fu hfu hj σ1 q c s2 dX tt rr cc hq h1 h2 h3 h4
      obtain ⟨f, rfl⟩ : ∃ f, fu = f + 1 := ⟨fu - 1, by omega⟩
      have e : f_X3_product_9 (f_SCC3 k) (f + 1) (nI d) (nI 0) σ1 = some σ1 := by
        rw [f_X3_product_9]
        exact if_pos (by decide)
      rw [e]
      exact out_ok hq rr cc h1 h2 h3 h4
    | succ j ih =>
      intro fu hfu hj σ1 q c s2 dX tt rr cc hq h1 h2 h3 h4
      obtain ⟨f, rfl⟩ : ∃ f, fu = f + 1 := ⟨fu - 1, by omega⟩
      have kd := x_kindT t tt (p := q) (by omega)
      have r4 := rr.2.2.1
      have kb := t.2.2.1 q
      have ng : ¬ (nI (j + 1) ≤ 0) := nI_ge (a := 0) (by omega) (by omega)
      by_cases z : K q = 38 ∨ K q = 39
      · have e : f_X3_product_9 (f_SCC3 k) (f + 1) (nI d) (nI (j + 1)) σ1 = bndV (f_SCC3 k 2 (nI d) 0 (wI σ1 49 4 (nI (q + 1)))) (fun σ4 => bnd (f_X3_emit (nI (K q)) (nI 0) σ4) fun _ σ6 => f_X3_product_9 (f_SCC3 k) f (nI d) (nI j) σ6) := by
          rw [f_X3_product_9, if_neg ng, r4, kd, e_bnd]
          unfold f_X3_product_38
          rw [r4, e_lt, show (nI q + 1) = nI (q + 1) from nI_add _ _, dec1]
          rcases z with z | z
          · rw [z]
            exact if_pos rfl
          · rw [z]
            rw [if_neg (by decide)]
            exact if_pos rfl
        have e2 : prodT K o (j + 1) q c = bnR (o (q + 1)) (fun u d' => prodT K o j u (c ++ d' ++ [(K q - 31, 0)])) := if_pos z
        have qm : q < m := lt_m t rfl (by omega)
        rw [e, e2]
        refine out_pre (fr.w (by omega)) (out_bind (hO k (by omega) (wI σ1 49 4 (nI (q + 1))) (q + 1) s2 dX d hd qm (by omega) (tt.of (fr.w (by omega))) rr.at cc.w) (tt.of (fr.w (by omega))) (fun σ2 s3 eX ttt a0 a1 a2 a3 a4 a5 a6 a7 => ?_) (fok_emit (fun _ => ?_)))
        · obtain ⟨v, v1, v2, v3⟩ := h4
          obtain ⟨w, w1, w2, w3⟩ := a7
          obtain ⟨u, u1, u2, u3, u4⟩ := x_emit (o := K q) (a := 0) a2 a3 (by omega) ⟨t.2.2.1 _, by decide⟩
          rw [u1, e_bnd]
          refine out_pre u2 (ih f (by omega) (by omega) u _ _ (s3 + 1) _ (ttt.of u2) u3 u4 a1 (by omega) (by omega) (fun i hi => ?_) ?_)
          · rw [upC_ne (by omega), a6 i (by omega)]
            exact h3 i hi
          · refine ⟨fun A h n => on2 (K q) (v A h n) (w A h n), fun A B e => ?_, ?_, ?_⟩
            · funext h n
              show on2 (K q) (v A h n) (w A h n) = on2 (K q) (v B h n) (w B h n)
              rw [v1 A B e, w1 A B e]
            · have := GN_two (o := K q - 31) (by omega) v2 w2
              have ee : (fun A k n => op2 (K q - 31) (v A k n) (w A k n)) = fun A h n => on2 (K q) (v A h n) (w A h n) := by
                funext A h n
                unfold on2
                rw [if_neg (by omega), if_neg (by omega), if_neg (by omega)]
              rw [ee] at this
              exact this
            · exact SEG_on2 (v3.congr (fun i i1 i2 => by rw [upC_ne (by omega), a6 i i2])) (w3.congr (fun i i1 i2 => upC_ne (by omega))) upC_hit (by omega) (fun w => absurd w (by omega))
        · obtain ⟨g, rfl⟩ : ∃ g, f = g + 1 := ⟨f - 1, by omega⟩
          exact fok_prod9 t _ g _ _
      · have e : f_X3_product_9 (f_SCC3 k) (f + 1) (nI d) (nI (j + 1)) σ1 = some σ1 := by
          rw [f_X3_product_9, if_neg ng, r4, kd, e_bnd, if_neg (show ¬ (nI (K q) = 38) from fun y => z (Or.inl ((nI_eq (b := 38) (by omega) (by omega)).mp y))), if_neg (show ¬ (nI (K q) = 39) from fun y => z (Or.inr ((nI_eq (b := 39) (by omega) (by omega)).mp y)))]
        have e2 : prodT K o (j + 1) q c = (0, q, c) := if_neg z
        rw [e, e2]
        exact out_ok hq rr cc h1 h2 h3 h4
  have e : f_SCC3 (k + 1) 1 (nI d) 0 σ = bndV (f_SCC3 k 2 (nI d) 0 σ) (fun σ12 => f_X3_product_9 (f_SCC3 k) FU (nI d) (nI 300) σ12) := by
    rw [scc3_1]
    rfl
  rw [e]
  refine out_bind (hO k (by omega) σ p s cX d hd hp hs ht hr hc) ht (fun σ1 s2 dX tt a0 a1 a2 a3 a4 a5 a6 a7 => ?_) (fok_prod9 t _ 3999 _ _)
  exact T 300 FU (by unfold FU; omega) (by omega) σ1 _ _ s2 dX tt a2 a3 a1 a4 a5 a6 a7
theorem x_sum {K V P : Nat → Nat} {m lw r n0 N : Nat} {o : Nat → PR} (t : TK K V m) (hN : N = 300) (hO : XOUT K V P m lw r n0 1 SemN (prodP K o N)) (hn0 : 1 ≤ n0) : XOUT K V P m lw r (n0 + 1) 0 SemN (sumP K o N) := by
  subst hN
  intro n hn σ p s cX d hd hp hs ht hr hc
  obtain ⟨k, rfl⟩ : ∃ k, n = k + 1 := ⟨n - 1, by omega⟩
  have m3 := t.1
  have T : ∀ j fu, j < fu → j ≤ 300 → ∀ σ1 q c s2 dX, XTk σ1 K V P m → RSr σ1 q s2 lw → XC σ1 dX s2 → q ≤ m → s ≤ s2 → s2 + p ≤ s + q → (∀ i, i < s → dX i = cX i) → SemN c dX s s2 → OUT P m lw σ1 (sumT K o 300 j q c) p s cX SemN (f_X3_sum_9 (f_SCC3 k) fu (nI d) (nI j) σ1) := by
    intro j
    induction j with
    | zero =>
      intro fu hfu hj σ1 q c s2 dX tt rr cc hq h1 h2 h3 h4
      obtain ⟨f, rfl⟩ : ∃ f, fu = f + 1 := ⟨fu - 1, by omega⟩
      have e : f_X3_sum_9 (f_SCC3 k) (f + 1) (nI d) (nI 0) σ1 = some σ1 := by
        rw [f_X3_sum_9]
        exact if_pos (by decide)
      rw [e]
      exact out_ok hq rr cc h1 h2 h3 h4
    | succ j ih =>
      intro fu hfu hj σ1 q c s2 dX tt rr cc hq h1 h2 h3 h4
      obtain ⟨f, rfl⟩ : ∃ f, fu = f + 1 := ⟨fu - 1, by omega⟩
      have kd := x_kindT t tt (p := q) (by omega)
      have r4 := rr.2.2.1
      have kb := t.2.2.1 q
      have ng : ¬ (nI (j + 1) ≤ 0) := nI_ge (a := 0) (by omega) (by omega)
      by_cases z : K q = 36 ∨ K q = 37
      · have e : f_X3_sum_9 (f_SCC3 k) (f + 1) (nI d) (nI (j + 1)) σ1 = bndV (f_SCC3 k 1 (nI d) 0 (wI σ1 49 4 (nI (q + 1)))) (fun σ4 => bnd (f_X3_emit (nI (K q)) (nI 0) σ4) fun _ σ6 => f_X3_sum_9 (f_SCC3 k) f (nI d) (nI j) σ6) := by
          rw [f_X3_sum_9, if_neg ng, r4, kd, e_bnd]
          unfold f_X3_sum_38
          rw [r4, e_lt, show (nI q + 1) = nI (q + 1) from nI_add _ _, dec1]
          rcases z with z | z
          · rw [z]
            exact if_pos rfl
          · rw [z]
            rw [if_neg (by decide)]
            exact if_pos rfl
        have e2 : sumT K o 300 (j + 1) q c = bnR (prodP K o 300 (q + 1)) (fun u d' => sumT K o 300 j u (c ++ d' ++ [(K q - 31, 0)])) := if_pos z
        have qm : q < m := lt_m t rfl (by omega)
        rw [e, e2]
        refine out_pre (fr.w (by omega)) (out_bind (hO k (by omega) (wI σ1 49 4 (nI (q + 1))) (q + 1) s2 dX d hd qm (by omega) (tt.of (fr.w (by omega))) rr.at cc.w) (tt.of (fr.w (by omega))) (fun σ2 s3 eX ttt a0 a1 a2 a3 a4 a5 a6 a7 => ?_) (fok_emit (fun _ => ?_)))
        · obtain ⟨v, v1, v2, v3⟩ := h4
          obtain ⟨w, w1, w2, w3⟩ := a7
          obtain ⟨u, u1, u2, u3, u4⟩ := x_emit (o := K q) (a := 0) a2 a3 (by omega) ⟨t.2.2.1 _, by decide⟩
          rw [u1, e_bnd]
          refine out_pre u2 (ih f (by omega) (by omega) u _ _ (s3 + 1) _ (ttt.of u2) u3 u4 a1 (by omega) (by omega) (fun i hi => ?_) ?_)
          · rw [upC_ne (by omega), a6 i (by omega)]
            exact h3 i hi
          · refine ⟨fun A h n => on2 (K q) (v A h n) (w A h n), fun A B e => ?_, ?_, ?_⟩
            · funext h n
              show on2 (K q) (v A h n) (w A h n) = on2 (K q) (v B h n) (w B h n)
              rw [v1 A B e, w1 A B e]
            · have := GN_two (o := K q - 31) (by omega) v2 w2
              have ee : (fun A k n => op2 (K q - 31) (v A k n) (w A k n)) = fun A h n => on2 (K q) (v A h n) (w A h n) := by
                funext A h n
                unfold on2
                rw [if_neg (by omega), if_neg (by omega), if_neg (by omega)]
              rw [ee] at this
              exact this
            · exact SEG_on2 (v3.congr (fun i i1 i2 => by rw [upC_ne (by omega), a6 i i2])) (w3.congr (fun i i1 i2 => upC_ne (by omega))) upC_hit (by omega) (fun w => absurd w (by omega))
        · obtain ⟨g, rfl⟩ : ∃ g, f = g + 1 := ⟨f - 1, by omega⟩
          exact fok_sum9 t _ g _ _
      · have e : f_X3_sum_9 (f_SCC3 k) (f + 1) (nI d) (nI (j + 1)) σ1 = some σ1 := by
          rw [f_X3_sum_9, if_neg ng, r4, kd, e_bnd, if_neg (show ¬ (nI (K q) = 36) from fun y => z (Or.inl ((nI_eq (b := 36) (by omega) (by omega)).mp y))), if_neg (show ¬ (nI (K q) = 37) from fun y => z (Or.inr ((nI_eq (b := 37) (by omega) (by omega)).mp y)))]
        have e2 : sumT K o 300 (j + 1) q c = (0, q, c) := if_neg z
        rw [e, e2]
        exact out_ok hq rr cc h1 h2 h3 h4
  have e : f_SCC3 (k + 1) 0 (nI d) 0 σ = bndV (f_SCC3 k 1 (nI d) 0 σ) (fun σ12 => f_X3_sum_9 (f_SCC3 k) FU (nI d) (nI 300) σ12) := by
    rw [scc3_0]
    rfl
  rw [e]
  refine out_bind (hO k (by omega) σ p s cX d hd hp hs ht hr hc) ht (fun σ1 s2 dX tt a0 a1 a2 a3 a4 a5 a6 a7 => ?_) (fok_sum9 t _ 3999 _ _)
  exact T 300 FU (by unfold FU; omega) (by omega) σ1 _ _ s2 dX tt a2 a3 a1 a4 a5 a6 a7
