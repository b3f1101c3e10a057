/-! text: the pile machine, on: and, or, if, one -/
def CND (K : Nat → Nat) (l : Nat) (E : Nat → Prop) (L : List Nat) (n : Nat) (c0 : List (Nat × Nat)) (p : Nat) (q : Nat) (c : List (Nat × Nat)) (X : PS) : Prop := p < q ∧ st l X = (L, n, c0 ++ c) ∧ cmpd X.1 = true ∧ X.1.length ≤ 60 ∧ E q
theorem pile_many {K V : Nat → Nat} {lw n N k w l m : Nat} {a : Nat → PR} {E : Nat → Prop} (hN : N = 300) (hK : ∀ j, 300 ≤ j → K j = 45) (hk : k < 45) (hw : w < 40) (hr : rkO w = l) (hl : 1 ≤ l ∧ l ≤ 2) (hb : ∀ q X, E q → K q = k → opn X = 41 → cmpd X = true → btw (K q) X = w) (hw0 : w ≠ 0) (hm : m ≤ 100) (hA : ∀ p L c0, L.length ≤ m + 1 → opn L = 41 → topA L = true → lo (l + 1) L → HLD K V lw (a p) (false, p, L, n, c0) (CND K (l + 1) E L n c0 p)) : ∀ p L c0, L.length ≤ m → opn L = 41 → topA L = true → lo l L → HLD K V lw (manyP K k w a N p) (false, p, L, n, c0) (CND K l (fun q => E q ∧ K q ≠ k) L n c0 p) := by
  intro p L c0 h1 h41 ht hlo
  have T : ∀ j q c X, 300 < q + j → st l X = (L, n, c0 ++ c) → cmpd X.1 = true → X.1.length ≤ 60 → E q → HLD K V lw (manyT K k w a j q c) (true, q, X) (fun q c X => st l X = (L, n, c0 ++ c) ∧ cmpd X.1 = true ∧ X.1.length ≤ 60 ∧ (E q ∧ K q ≠ k)) := by
    intro j
    induction j with
    | zero =>
      intro q c X g1 g2 g3 g4 g5
      have := hK q (by omega)
      exact hld_ok ⟨g2, g3, g4, g5, by omega⟩
    | succ j ih =>
      intro q c X g1 g2 g3 g4 g5
      by_cases z : K q = k
      · have e1 : manyT K k w a (j + 1) q c = bnR (a (q + 1)) (fun s d => manyT K k w a j s (c ++ d ++ [(w, 0)])) := if_pos z
        have o41 : opn X.1 = 41 := by rw [opn_st hl.1 g2]; exact h41
        have bt := hb q X.1 g5 z o41 g3
        have s1 : mst K V lw (true, q, X) = (0, false, q + 1, w :: L, n, c0 ++ c) := by
          rw [mst_w (by omega)]
          unfold bhd
          rw [bt, if_pos hw0, if_neg (show ¬ rkO w = 4 by omega), hr]
          show (0, false, _, _ :: (st l X).1, (st l X).2) = _
          rw [g2]
        rw [e1]
        have tw : topA (w :: L) = true := decide_eq_true (p := 40 ≤ w ∨ (1 ≤ rkO w ∧ rkO w ≤ 3)) (by omega)
        refine hld_step s1 (hld_bind (hA (q + 1) (w :: L) (c0 ++ c) (by simp only [List.length_cons]; omega) (by rw [opn_op hw]; exact h41) tw (lo_cons (by omega))) (fun Y y0 hY => ?_))
        obtain ⟨y1, y2, y3, y4, y5⟩ := hY
        refine ih _ _ Y (by omega) ?_ y3 y4 y5
        have w20 : ¬ (rkO w = 7 ∨ w = 20) := fun q => by
          rcases q with q | q
          · omega
          · subst q
            have : rkO 20 = 3 := rfl
            omega
        rw [st_st (by omega) y2, stl_hi (by omega), if_neg w20, stl_lo hlo]
        simp only [List.append_assoc]
      · have e1 : manyT K k w a (j + 1) q c = (0, q, c) := if_neg z
        rw [e1]
        exact hld_ok ⟨g2, g3, g4, g5, z⟩
  refine hld_gt (hld_bind (hA p L c0 (by omega) h41 ht (fun x y e => by have := hlo x y e; omega)) (fun Y y0 hY => ?_))
  obtain ⟨y1, y2, y3, y4, y5⟩ := hY
  refine T N _ _ Y (by omega) ?_ y3 y4 y5
  rw [st_st (by omega) y2]
  exact stl_lo hlo _ _
theorem pile_eith {K V : Nat → Nat} {lw s N : Nat} {a : Nat → PR} (hN : N = 300) (hK : ∀ j, 300 ≤ j → K j = 45) (hs : s ≤ 7) (hA : ASK K V lw s a) : ∀ p L n c0, n + s = 8 → L.length + 4 ≤ 6 * n → HLD K V lw (eithP K a N p) (false, p, 41 :: L, n, c0) (CND K 1 (fun q => (¬ (36 ≤ K q ∧ K q ≤ 39) ∧ K q ≠ 28) ∧ K q ≠ 29) (41 :: L) n c0 p) := by
  intro p L n c0 hn hl
  have B1 := pile_many (K := K) (V := V) (lw := lw) (n := n) (k := 28) (w := 21) (l := 2) (m := 6 * n - 2) (a := a) (E := fun q => ¬ (36 ≤ K q ∧ K q ≤ 39)) hN hK (by decide) (by decide) rfl (by decide) (fun q X e k o cm => by
    unfold btw
    rw [if_neg e, if_neg (by omega), if_neg (by rw [cm]; decide), if_pos k]) (by decide) (by omega) (fun p L c0 g1 g2 g3 g4 => hld_mono (hA p L n c0 hn (by omega) g2 g3) (fun q c X h => ⟨h.1, by rw [h.2.1]; exact stl_lo g4 _ _, h.2.2⟩))
  have B2 := pile_many (K := K) (V := V) (lw := lw) (n := n) (k := 29) (w := 22) (l := 1) (m := 6 * n - 3) (a := manyP K 28 21 a N) (E := fun q => ¬ (36 ≤ K q ∧ K q ≤ 39) ∧ K q ≠ 28) hN hK (by decide) (by decide) rfl (by decide) (fun q X e k o cm => by
    unfold btw
    rw [if_neg e.1, if_neg (by omega), if_neg (by rw [cm]; decide), if_neg (by omega), if_pos k]) (by decide) (by omega) (fun p L c0 g1 g2 g3 g4 => B1 p L c0 (by omega) g2 g3 g4)
  exact B2 p (41 :: L) c0 (by simp only [List.length_cons]; omega) (opn_hi (by decide)) (by show decide (40 ≤ 41 ∨ (1 ≤ rkO 41 ∧ rkO 41 ≤ 3)) = true; decide) (lo_cons (by decide))
theorem setO_hi {v o : Nat} {L : List Nat} (h : 40 ≤ o) : setO v (o :: L) = v :: L := if_pos h
theorem pile_ch {K V : Nat → Nat} {lw s N : Nat} {o a : Nat → PR} (hN : N = 300) (hK : ∀ j, 300 ≤ j → K j = 45) (hs : s ≤ 7) (hO : ONE K V lw s o) (hA : ASK K V lw s a) : ∀ p L n c0, n + 1 + s = 8 → L.length ≤ 2 + 6 * n → HLD K V lw (chP K o a N p) (false, p, 41 :: L, n + 1, c0) (fun q c X => X = stl 7 L n (c0 ++ c)) := by
  intro p L n c0 hn hl
  have S1 := pile_sum (V := V) (lw := lw) hN hK (by omega) hO
  have fault : ∀ (q : Nat) (X : PS), X.1.length ≤ 60 → opn X.1 ≠ 0 → btw (K q) X.1 = 0 → prt (K q) X.1 = 0 → (mst K V lw (true, q, X)).1 = 10 + 1 := by
    intro q X h1 h2 h3 h4
    rw [mst_w (by omega)]
    unfold bhd
    rw [h3, if_neg (by decide), h4, if_pos rfl, if_neg h2]
  unfold chP
  refine hld_bind (pile_eith hN hK hs hA p L (n + 1) c0 hn (by omega)) (fun X x0 hX => ?_)
  obtain ⟨x1, x2, x3, x4, ⟨x5, x6⟩, x7⟩ := hX
  have o41 : opn X.1 = 41 := by rw [opn_st (by decide) x2]; exact opn_hi (by decide)
  have b0 : btw (K (eithP K a N p).2.1) X.1 = 0 := by
    unfold btw
    rw [if_neg x5, if_neg (by omega), if_neg (by rw [x3]; decide), if_neg x6, if_neg x7]
  by_cases z : K (eithP K a N p).2.1 = 25
  · rw [if_pos z]
    have pt : prt (K (eithP K a N p).2.1) X.1 = 42 := by
      unfold prt
      rw [if_neg (by omega), if_pos o41, if_pos ⟨z, x3⟩]
    have s1 : mst K V lw (true, (eithP K a N p).2.1, X) = (0, false, (eithP K a N p).2.1 + 1, 42 :: L, n + 1, c0 ++ (eithP K a N p).2.2) := by
      rw [mst_w (by omega)]
      unfold bhd
      rw [b0, if_neg (by decide), pt, if_neg (by decide), if_neg (by decide), x2]
      show (0, false, _, setO 42 (41 :: L), _) = _
      rw [setO_hi (by decide)]
    refine hld_step s1 (hld_bind (S1 _ (42 :: L) (n + 1) _ hn (by simp only [List.length_cons]; omega) (lo_cons (by decide)) (Or.inl (askA_no (by rw [opn_hi (by decide)]; decide)))) (fun Y y0 hY => ?_))
    obtain ⟨y1, y2, y3, y4⟩ := hY
    have o42 : opn Y.1 = 42 := by rw [opn_st (by decide) y2]; exact opn_hi (by decide)
    generalize (sumP K o N ((eithP K a N p).2.1 + 1)).2.1 = u at y1 y4 ⊢
    generalize (sumP K o N ((eithP K a N p).2.1 + 1)).2.2 = d at y2 ⊢
    have c0' : btw (K u) Y.1 = 0 := by
      unfold btw
      rw [if_neg y4, if_pos (by omega)]
    by_cases w : K u = 26
    · rw [if_pos w]
      have pu : prt (K u) Y.1 = 43 := by
        unfold prt
        rw [if_neg (by omega), if_neg (by omega), if_pos o42, if_pos w]
      have s2 : mst K V lw (true, u, Y) = (0, false, u + 1, 43 :: L, n + 1, c0 ++ (eithP K a N p).2.2 ++ d) := by
        rw [mst_w (by omega)]
        unfold bhd
        rw [c0', if_neg (by decide), pu, if_neg (by decide), if_neg (by decide), st_st (a := 1) (by decide) y2, stl_lo (lo_cons (by decide))]
        show (0, false, _, setO 43 (42 :: L), _) = _
        rw [setO_hi (by decide)]
      refine hld_step s2 (hld_bind (S1 _ (43 :: L) (n + 1) _ hn (by simp only [List.length_cons]; omega) (lo_cons (by decide)) (Or.inl (askA_no (by rw [opn_hi (by decide)]; decide)))) (fun Z z0 hZ => ?_))
      obtain ⟨z1, z2, z3, z4⟩ := hZ
      have o43 : opn Z.1 = 43 := by rw [opn_st (by decide) z2]; exact opn_hi (by decide)
      generalize (sumP K o N (u + 1)).2.1 = v at z1 z4 ⊢
      generalize (sumP K o N (u + 1)).2.2 = e at z2 ⊢
      have c1' : btw (K v) Z.1 = 0 := by
        unfold btw
        rw [if_neg z4, if_pos (by omega)]
      by_cases x : K v = 27
      · rw [if_pos x]
        have pv : prt (K v) Z.1 = 1 := by
          unfold prt
          rw [if_neg (by omega), if_neg (by omega), if_neg (by omega), if_pos o43, if_pos x]
        have s3 : mst K V lw (true, v, Z) = (0, true, v + 1, stl 7 L n (c0 ++ ((eithP K a N p).2.2 ++ d ++ e ++ [(3, 0)]))) := by
          rw [mst_w (by omega)]
          unfold bhd
          rw [c1', if_neg (by decide), pv, if_neg (by decide), if_pos rfl, st_st (a := 1) (by decide) z2, stl_lo (lo_cons (by decide)), if_pos o43]
          show (0, true, _, stl 7 L (n + 1 - 1) _) = _
          rw [Nat.add_sub_cancel]
          simp only [List.append_assoc]
        exact hld_step s3 (hld_ok rfl)
      · rw [if_neg x]
        refine hld_fault (fault v Z z3 (by omega) c1' ?_) (by decide) rfl
        unfold prt
        rw [if_neg (by omega), if_neg (by omega), if_neg (by omega), if_pos o43, if_neg x]
    · rw [if_neg w]
      refine hld_fault (fault u Y y3 (by omega) c0' ?_) (by decide) rfl
      unfold prt
      rw [if_neg (by omega), if_neg (by omega), if_pos o42, if_neg w]
  · rw [if_neg z]
    refine hld_fault (fault _ X x4 (by omega) b0 ?_) (by decide) rfl
    unfold prt
    rw [if_neg (by omega), if_pos o41, if_neg (fun q => z q.1)]
/-- what stands around a smaller one, or no room -/
def ARD (K V : Nat → Nat) (lw r : Nat) (ar : Nat → PR) : Prop := ∀ p L n c0 o, n + r = 8 → L.length ≤ 2 + 6 * n → ((K p = 40 ∧ o = 40) ∨ (K p = 37 ∧ o = 4) ∨ (K p = 47 ∧ o = 2) ∨ (K p = 24 ∧ o = 41)) → bgn K V lw p (L, n, c0) = opd o p (L, n, c0) → HLD K V lw (ar p) (false, p, L, n, c0) (fun q c X => X = stl 7 L n (c0 ++ c))
theorem pile_one {K V : Nat → Nat} {lw r : Nat} {ar : Nat → PR} (hAR : ARD K V lw r ar) : ONE K V lw r (oneL K V lw ar) := by
  intro p L n c0 hn hl ha
  refine hld_gt ?_
  have lb : L.length ≤ 150 := by omega
  unfold oneL
  by_cases z : K p = 43
  · rw [if_pos z]
    by_cases y : 9999 < V p
    · rw [if_pos y]
      refine hld_fault ?_ (by decide) rfl
      rw [mst_b lb]
      unfold bgn
      rw [if_pos ⟨z, y⟩]
    · rw [if_neg y]
      have s1 : mst K V lw (false, p, L, n, c0) = (0, true, p + 1, stl 7 L n (c0 ++ [(0, V p)])) := by
        rw [mst_b lb]
        unfold bgn
        rw [if_neg (fun q => y q.2), if_neg (by omega), if_pos z]
      exact hld_step s1 (hld_ok rfl)
  · rw [if_neg z]
    by_cases y : 11 ≤ K p ∧ K p ≤ 19
    · rw [if_pos y]
      by_cases x : K p = 19 ∧ lw ≠ 2
      · rw [if_pos x]
        refine hld_fault ?_ (by decide) rfl
        rw [mst_b lb]
        unfold bgn
        rw [if_neg (fun q => z q.1), if_pos x]
      · rw [if_neg x]
        have s1 : mst K V lw (false, p, L, n, c0) = (0, true, p + 1, stl 7 L n (c0 ++ [(1, K p - 11)])) := by
          rw [mst_b lb]
          unfold bgn
          rw [if_neg (fun q => z q.1), if_neg x, if_neg z, if_pos y]
        exact hld_step s1 (hld_ok rfl)
    · rw [if_neg y]
      have nx : ¬ (K p = 19 ∧ lw ≠ 2) := fun q => y (by omega)
      by_cases x : K p = 40 ∨ K p = 37 ∨ K p = 47 ∨ K p = 24
      · rw [if_pos x]
        have bg : ∀ o, ((K p = 40 ∧ o = 40) ∨ (K p = 37 ∧ o = 4) ∨ (K p = 47 ∧ o = 2) ∨ (K p = 24 ∧ o = 41)) → bgn K V lw p (L, n, c0) = opd o p (L, n, c0) := by
          intro o q
          unfold bgn
          rw [if_neg (fun q => z q.1), if_neg nx, if_neg z, if_neg y]
          rcases q with ⟨q, rfl⟩ | ⟨q, rfl⟩ | ⟨q, rfl⟩ | ⟨q, rfl⟩
          · rw [if_pos q]
          · rw [if_neg (by omega), if_pos q]
          · rw [if_neg (by omega), if_neg (by omega), if_pos q]
          · rw [if_neg (by omega), if_neg (by omega), if_neg (by omega), if_pos q]
        rcases x with x | x | x | x
        · exact hAR p L n c0 40 hn hl (by omega) (bg 40 (by omega))
        · exact hAR p L n c0 4 hn hl (by omega) (bg 4 (by omega))
        · exact hAR p L n c0 2 hn hl (by omega) (bg 2 (by omega))
        · exact hAR p L n c0 41 hn hl (by omega) (bg 41 (by omega))
      · rw [if_neg x]
        refine hld_fault ?_ (by decide) rfl
        rw [mst_b lb]
        unfold bgn
        rw [if_neg (fun q => z q.1), if_neg nx, if_neg z, if_neg y, if_neg (by omega), if_neg (by omega), if_neg (by omega), if_neg (by omega)]
        by_cases w : askA L = false
        · rw [if_pos w]
        · rw [if_neg w]
          have k3 : ¬ (48 ≤ K p ∧ K p ≤ 50) := by
            rcases ha with ha | ha
            · exact absurd ha w
            · exact ha
          rw [if_neg (by omega), if_neg (by omega), if_neg (by omega)]
theorem ard_0 {K V : Nat → Nat} {lw : Nat} : ARD K V lw 0 (fun p => (3, p, [])) := by
  intro p L n c0 o hn hl ho hb
  exact hld_fault (bgn_op8 (by omega) hb (by omega)) (by decide) rfl
theorem ard_s {K V : Nat → Nat} {lw s N : Nat} {o a : Nat → PR} (hN : N = 300) (hK : ∀ j, 300 ≤ j → K j = 45) (hs : s ≤ 7) (hO : ONE K V lw s o) (hA : ASK K V lw s a) : ARD K V lw (s + 1) (arP K o a N) := by
  intro p L n c0 w hn hl hw hb
  have S1 := pile_sum (V := V) (lw := lw) hN hK (by omega) hO
  have s0 := bgn_opd (by omega) hb (by omega)
  refine hld_step s0 ?_
  unfold arP
  by_cases z : K p = 40
  · have hw' : w = 40 := by omega
    subst hw'
    rw [if_pos z]
    refine hld_bind (S1 (p + 1) (40 :: L) (n + 1) c0 (by omega) (by simp only [List.length_cons]; omega) (lo_cons (by decide)) (Or.inl (askA_no (by rw [opn_hi (by decide)]; decide)))) (fun Y y0 hY => ?_)
    obtain ⟨y1, y2, y3, y4⟩ := hY
    have o40 : opn Y.1 = 40 := by rw [opn_st (by decide) y2]; exact opn_hi (by decide)
    have c1 : btw (K (sumP K o N (p + 1)).2.1) Y.1 = 0 := by
      unfold btw
      rw [if_neg y4, if_pos (by omega)]
    by_cases x : K (sumP K o N (p + 1)).2.1 = 41
    · rw [if_pos x]
      have pv : prt (K (sumP K o N (p + 1)).2.1) Y.1 = 1 := by
        unfold prt
        rw [if_pos o40, if_pos x]
      have s3 : mst K V lw (true, (sumP K o N (p + 1)).2.1, Y) = (0, true, (sumP K o N (p + 1)).2.1 + 1, stl 7 L n (c0 ++ (sumP K o N (p + 1)).2.2)) := by
        rw [mst_w (by omega)]
        unfold bhd
        rw [c1, if_neg (by decide), pv, if_neg (by decide), if_pos rfl, st_st (a := 1) (by decide) y2, stl_lo (lo_cons (by decide)), if_neg (by omega)]
        show (0, true, _, stl 7 L (n + 1 - 1) _) = _
        rw [Nat.add_sub_cancel, List.append_nil]
      exact hld_step s3 (hld_ok rfl)
    · rw [if_neg x]
      refine hld_fault ?_ (by decide) rfl
      have pv : prt (K (sumP K o N (p + 1)).2.1) Y.1 = 0 := by
        unfold prt
        rw [if_pos o40, if_neg x]
      rw [mst_w (by omega)]
      unfold bhd
      rw [c1, if_neg (by decide), pv, if_pos rfl, if_neg (by omega)]
  · rw [if_neg z]
    by_cases y : K p = 37
    · have hw' : w = 4 := by omega
      subst hw'
      rw [if_pos y]
      refine hld_bind (hO (p + 1) (4 :: L) (n + 1) c0 (by omega) (by simp only [List.length_cons]; omega) (Or.inl (askA_op (by decide) (by decide)))) (fun X x0 hX => ?_)
      refine hld_ok ?_
      rw [hX.2, stl_hi (by decide), if_pos (Or.inl (by decide)), Nat.add_sub_cancel]
      simp only [List.append_assoc]
    · rw [if_neg y]
      by_cases x : K p = 47
      · have hw' : w = 2 := by omega
        subst hw'
        rw [if_pos x]
        refine hld_bind (hO (p + 1) (2 :: L) (n + 1) c0 (by omega) (by simp only [List.length_cons]; omega) (Or.inl (askA_op (by decide) (by decide)))) (fun X x0 hX => ?_)
        refine hld_ok ?_
        rw [hX.2, stl_hi (by decide), if_pos (Or.inl (by decide)), Nat.add_sub_cancel]
        simp only [List.append_assoc]
      · have hw' : w = 41 := by omega
        subst hw'
        rw [if_neg x]
        exact pile_ch hN hK hs hO hA (p + 1) L n c0 (by omega) hl
theorem pile_OA {K V : Nat → Nat} {lw N : Nat} (hN : N = 300) (hK : ∀ j, 300 ≤ j → K j = 45) : ∀ r, r ≤ 8 → ONE K V lw r (OA K V lw N r).1 ∧ ASK K V lw r (OA K V lw N r).2
  | 0, _ => by
    have o := pile_one (K := K) (V := V) (lw := lw) (r := 0) ard_0
    exact ⟨o, pile_ask (a := fun p => (0, p, [])) hN hK (by decide) o (fun s h => absurd h (by omega))⟩
  | r + 1, h => by
    obtain ⟨i1, i2⟩ := pile_OA (V := V) (lw := lw) hN hK r (by omega)
    have o := pile_one (ard_s hN hK (by omega) i1 i2)
    exact ⟨o, pile_ask hN hK h o (fun s e => by
      have : s = r := by omega
      subst this
      exact i2)⟩
/-- the whole of a law's sum: the machine ends where the parser ends, with its code -/
theorem pile_law {K V : Nat → Nat} {lw N : Nat} (hN : N = 300) (hK : ∀ j, 300 ≤ j → K j = 45) (p : Nat) (c0 : List (Nat × Nat)) : ((sumP K (OA K V lw N 8).1 N p).1 = 0 → ∃ k X, rn K V lw k (false, p, [], 0, c0) = (0, (true, (sumP K (OA K V lw N 8).1 N p).2.1, X)) ∧ mst K V lw (true, (sumP K (OA K V lw N 8).1 N p).2.1, X) = (1, true, (sumP K (OA K V lw N 8).1 N p).2.1, [], 0, c0 ++ (sumP K (OA K V lw N 8).1 N p).2.2)) ∧ ((sumP K (OA K V lw N 8).1 N p).1 ≠ 0 → FLS K V lw (false, p, [], 0, c0) (sumP K (OA K V lw N 8).1 N p).1 (sumP K (OA K V lw N 8).1 N p).2.1) := by
  have h := pile_sum (V := V) (lw := lw) hN hK (Nat.le_refl 8) (pile_OA hN hK 8 (Nat.le_refl 8)).1 p [] 0 c0 rfl (by decide) (fun _ _ e => absurd e (by simp)) (Or.inl rfl)
  refine ⟨fun z => ?_, h.2⟩
  obtain ⟨k, X, a, _, x2, x3, x4⟩ := h.1 z
  refine ⟨k, X, a, ?_⟩
  have o0 : opn X.1 = 0 := by rw [opn_st (by decide) x2]; rfl
  have b0 : btw (K (sumP K (OA K V lw N 8).1 N p).2.1) X.1 = 0 := by
    unfold btw
    rw [if_neg x4, if_pos (by omega)]
  have p0 : prt (K (sumP K (OA K V lw N 8).1 N p).2.1) X.1 = 0 := by
    unfold prt
    rw [if_neg (by omega), if_neg (by omega), if_neg (by omega), if_neg (by omega)]
  rw [mst_w (by omega)]
  unfold bhd
  rw [b0, if_neg (by decide), p0, if_pos rfl, if_pos o0, st_st (a := 1) (by decide) x2]
  rfl
