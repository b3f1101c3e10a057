/-! text: the reference's sum: its whole run -/
theorem bgn_next {K V : Nat → Nat} {lw p : Nat} {X : PS} (h : (bgn K V lw p X).1 = 0) : (bgn K V lw p X).2.2.1 = p + 1 ∧ K p ≠ 45 := by
  have od : ∀ o, (opd o p X).1 = 0 → (opd o p X).2.2.1 = p + 1 := by
    intro o g
    unfold opd at g ⊢
    by_cases z : X.2.1 = 8
    · rw [if_pos z] at g
      exact absurd (show (13 : Nat) = 0 from g) (by decide)
    · rw [if_neg z]
  unfold bgn at h ⊢
  by_cases a : K p = 43 ∧ 9999 < V p
  · rw [if_pos a] at h
    exact absurd (show (12 : Nat) = 0 from h) (by decide)
  rw [if_neg a] at h ⊢
  by_cases b : K p = 19 ∧ lw ≠ 2
  · rw [if_pos b] at h
    exact absurd (show (15 : Nat) = 0 from h) (by decide)
  rw [if_neg b] at h ⊢
  by_cases c : K p = 43
  · rw [if_pos c]
    exact ⟨rfl, by omega⟩
  rw [if_neg c] at h ⊢
  by_cases d : 11 ≤ K p ∧ K p ≤ 19
  · rw [if_pos d]
    exact ⟨rfl, by omega⟩
  rw [if_neg d] at h ⊢
  by_cases e : K p = 40
  · rw [if_pos e] at h ⊢
    exact ⟨od _ h, by omega⟩
  rw [if_neg e] at h ⊢
  by_cases e : K p = 37
  · rw [if_pos e] at h ⊢
    exact ⟨od _ h, by omega⟩
  rw [if_neg e] at h ⊢
  by_cases e : K p = 47
  · rw [if_pos e] at h ⊢
    exact ⟨od _ h, by omega⟩
  rw [if_neg e] at h ⊢
  by_cases e : K p = 24
  · rw [if_pos e] at h ⊢
    exact ⟨od _ h, by omega⟩
  rw [if_neg e] at h ⊢
  by_cases e : askA X.1 = false
  · rw [if_pos e] at h
    exact absurd (show (11 : Nat) = 0 from h) (by decide)
  rw [if_neg e] at h ⊢
  by_cases e : K p = 48
  · rw [if_pos e] at h ⊢
    exact ⟨od _ h, by omega⟩
  rw [if_neg e] at h ⊢
  by_cases e : K p = 49
  · rw [if_pos e]
    exact ⟨rfl, by omega⟩
  rw [if_neg e] at h ⊢
  by_cases e : K p = 50
  · rw [if_pos e]
    exact ⟨rfl, by omega⟩
  rw [if_neg e] at h
  exact absurd (show (11 : Nat) = 0 from h) (by decide)
theorem bhd_next {K : Nat → Nat} {p : Nat} {X : PS} (h : (bhd K p X).1 = 0) : (bhd K p X).2.2.1 = p + 1 ∧ K p ≠ 45 := by
  unfold bhd at h ⊢
  by_cases a : btw (K p) X.1 ≠ 0
  · rw [if_pos a]
    refine ⟨rfl, fun q => a ?_⟩
    rw [q]
    unfold btw
    rw [if_neg (by omega)]
    by_cases b : opn X.1 ≠ 41
    · exact if_pos b
    rw [if_neg b]
    by_cases c : cmpd X.1 = false
    · rw [if_pos c]
      exact if_neg (by omega)
    · rw [if_neg c, if_neg (by omega), if_neg (by omega)]
  rw [if_neg a] at h ⊢
  by_cases b : prt (K p) X.1 = 0
  · rw [if_pos b] at h
    by_cases c : opn X.1 = 0
    · rw [if_pos c] at h
      exact absurd (show (1 : Nat) = 0 from h) (by decide)
    · rw [if_neg c] at h
      exact absurd (show (11 : Nat) = 0 from h) (by decide)
  have k45 : K p ≠ 45 := by
    intro q
    refine b ?_
    rw [q]
    unfold prt
    repeat' split
    all_goals first | rfl | omega
  rw [if_neg b]
  by_cases c : prt (K p) X.1 = 1
  · rw [if_pos c]
    exact ⟨rfl, k45⟩
  · rw [if_neg c]
    exact ⟨rfl, k45⟩
theorem mst_next {K V : Nat → Nat} {lw : Nat} {S : MS} (h : (mst K V lw S).1 = 0) : (mst K V lw S).2.2.1 = S.2.1 + 1 ∧ K S.2.1 ≠ 45 ∧ S.2.2.1.length ≤ 150 := by
  unfold mst at h ⊢
  by_cases z : 150 < S.2.2.1.length
  · rw [if_pos z] at h
    exact absurd (show (99 : Nat) = 0 from h) (by decide)
  rw [if_neg z] at h ⊢
  by_cases w : S.1 = true
  · rw [if_pos w] at h ⊢
    exact ⟨(bhd_next h).1, (bhd_next h).2, by omega⟩
  · rw [if_neg w] at h ⊢
    exact ⟨(bgn_next h).1, (bgn_next h).2, by omega⟩
/-- one step, and all steps -/
theorem m_run {T P E K V : Nat → Nat} {L B lw : Nat} (hnx : NX T P E K V L) (hK50 : ∀ j, K j ≤ 50) (hK : ∀ j, 300 ≤ j → K j = 45) (hV : ∀ j, V j ≤ 10000) (hB : B + 705 ≤ 2820) (hlw : lw < 3) : ∀ (k : Nat) (S S' : MS) (fu : Nat) (σ : Sg), rn K V lw k S = (0, S') → PMS T P E K V L σ B lw S → S.2.1 ≤ 300 → S'.2.1 = S.2.1 + k ∧ S'.2.1 ≤ 300 ∧ ∃ σ', f_X12_summed_15 (fu + k) σ = f_X12_summed_15 fu σ' ∧ PMS T P E K V L σ' B lw S' ∧ fr Smp σ σ' ∧ frB B σ σ'
  | 0, S, S', fu, σ, h, hP, hp => by
    have e : S = S' := congrArg (fun x => x.2) h
    rw [← e]
    exact ⟨rfl, hp, σ, rfl, hP, fr.rfl, fun _ _ => rfl⟩
  | k + 1, S, S', fu, σ, h, hP, hp => by
    have e : rn K V lw (k + 1) S = if (mst K V lw S).1 = 0 then rn K V lw k (mst K V lw S).2 else mst K V lw S := rfl
    by_cases z : (mst K V lw S).1 = 0
    · rw [e, if_pos z] at h
      obtain ⟨n1, n2, n3⟩ := mst_next z
      have p300 : S.2.1 < 300 := Nat.lt_of_not_le fun g => n2 (hK _ g)
      have go : ∃ σ', f_X12_summed_15 (fu + k + 1) σ = f_X12_summed_15 (fu + k) σ' ∧ PMS T P E K V L σ' B lw (mst K V lw S).2 ∧ fr Smp σ σ' ∧ frB B σ σ' := by
        obtain ⟨b, p, X⟩ := S
        dsimp only at n1 n2 n3 p300 hp
        have h18 := hP.2.2.2.1
        have eM : mst K V lw (b, p, X) = if b = true then bhd K p X else bgn K V lw p X := if_neg (show ¬ (150 < X.1.length) by omega)
        rw [eM] at z ⊢
        cases b with
        | true =>
          rw [if_pos rfl] at z ⊢
          obtain ⟨s, s1, s2, s3, s4⟩ := (m_behOne hnx hK50 hB hp hP n3).1 z
          refine ⟨s, ?_, s2, s3, s4⟩
          have h18' : σ.1 0 18 = nI 1 := h18
          show (if (σ.1 0 18) = 0 then _ else _) = _
          rw [h18', if_neg (show ¬ (nI 1 = 0) by decide), s1, e_bnd, if_neg (show ¬ (nI 1 = 0) by decide)]
        | false =>
          rw [if_neg (by decide)] at z ⊢
          obtain ⟨s, s1, s2, s3, s4⟩ := (m_begOne hnx hK50 hV hB hlw hp hP n3).1 z
          refine ⟨s, ?_, s2, s3, s4⟩
          have h18' : σ.1 0 18 = nI 0 := h18
          show (if (σ.1 0 18) = 0 then _ else _) = _
          rw [h18', if_pos (show nI 0 = 0 from rfl), s1, e_bnd, if_pos (show nI 0 = 0 from rfl)]
      obtain ⟨u, u1, u2, u3, u4⟩ := go
      obtain ⟨r1, r2, v, v1, v2, v3, v4⟩ := m_run hnx hK50 hK hV hB hlw k (mst K V lw S).2 S' fu u h u2 (by omega)
      exact ⟨by omega, r2, v, by rw [← Nat.add_assoc, u1, v1], v2, u3.trans v3, u4.trans v4⟩
    · rw [e, if_neg z] at h
      exact absurd (congrArg (fun x => x.1) h) z
/-- faults are five -/
theorem fb_bnR {r : PR} {k : Nat → List (Nat × Nat) → PR} (h : r.1 ≤ 5) (g : ∀ q c, (k q c).1 ≤ 5) : (bnR r k).1 ≤ 5 := by
  unfold bnR
  split
  · exact g _ _
  · exact h
theorem fb_prodT {K : Nat → Nat} {o : Nat → PR} (h : ∀ p, (o p).1 ≤ 5) : ∀ n p c, (prodT K o n p c).1 ≤ 5
  | 0, _, _ => Nat.zero_le _
  | n + 1, p, c => by
    unfold prodT
    split
    · exact fb_bnR (h _) (fun q d => fb_prodT h n q _)
    · exact Nat.zero_le _
theorem fb_prodP {K : Nat → Nat} {o : Nat → PR} {N : Nat} (h : ∀ p, (o p).1 ≤ 5) (p : Nat) : (prodP K o N p).1 ≤ 5 := fb_bnR (h _) (fun q c => fb_prodT h _ _ _)
theorem fb_sumT {K : Nat → Nat} {o : Nat → PR} {N : Nat} (h : ∀ p, (o p).1 ≤ 5) : ∀ n p c, (sumT K o N n p c).1 ≤ 5
  | 0, _, _ => Nat.zero_le _
  | n + 1, p, c => by
    unfold sumT
    split
    · exact fb_bnR (fb_prodP h _) (fun q d => fb_sumT h n q _)
    · exact Nat.zero_le _
theorem fb_sumP {K : Nat → Nat} {o : Nat → PR} {N : Nat} (h : ∀ p, (o p).1 ≤ 5) (p : Nat) : (sumP K o N p).1 ≤ 5 := fb_bnR (fb_prodP h _) (fun q c => fb_sumT h _ _ _)
theorem fb_z {f p : Nat} {c : List (Nat × Nat)} (h : f ≤ 5) : ((f, p, c) : PR).1 ≤ 5 := h
theorem fb_oneL {K V : Nat → Nat} {lw : Nat} {ar : Nat → PR} (h : ∀ p, (ar p).1 ≤ 5) (p : Nat) : (oneL K V lw ar p).1 ≤ 5 := by
  unfold oneL
  repeat' split
  all_goals first | exact h _ | exact fb_z (by decide)
theorem fb_askP {K : Nat → Nat} {o a : Nat → PR} {N r : Nat} (h : ∀ p, (o p).1 ≤ 5) (g : ∀ p, (a p).1 ≤ 5) (p : Nat) : (askP K o a N r p).1 ≤ 5 := by
  unfold askP
  split
  · split
    · show (3 : Nat) ≤ 5
      decide
    · exact fb_bnR (g _) (fun q c => Nat.zero_le _)
  · split
    · exact fb_bnR (fb_sumP h _) (fun q c => Nat.zero_le _)
    · refine fb_bnR (fb_sumP h _) (fun q c => ?_)
      split
      · exact fb_bnR (fb_sumP h _) (fun q c => Nat.zero_le _)
      · show (1 : Nat) ≤ 5
        decide
theorem fb_manyT {K : Nat → Nat} {k w : Nat} {a : Nat → PR} (h : ∀ p, (a p).1 ≤ 5) : ∀ n p c, (manyT K k w a n p c).1 ≤ 5
  | 0, _, _ => Nat.zero_le _
  | n + 1, p, c => by
    unfold manyT
    split
    · exact fb_bnR (h _) (fun q d => fb_manyT h n q _)
    · exact Nat.zero_le _
theorem fb_manyP {K : Nat → Nat} {k w N : Nat} {a : Nat → PR} (h : ∀ p, (a p).1 ≤ 5) (p : Nat) : (manyP K k w a N p).1 ≤ 5 := fb_bnR (h _) (fun q c => fb_manyT h _ _ _)
theorem fb_chP {K : Nat → Nat} {o a : Nat → PR} {N : Nat} (h : ∀ p, (o p).1 ≤ 5) (g : ∀ p, (a p).1 ≤ 5) (p : Nat) : (chP K o a N p).1 ≤ 5 := by
  have one : ∀ q : Nat, ((1, q, []) : PR).1 ≤ 5 := fun q => (by decide : (1 : Nat) ≤ 5)
  refine fb_bnR (fb_manyP (fb_manyP g) _) (fun q c => ?_)
  split
  · refine fb_bnR (fb_sumP h _) (fun q c => ?_)
    split
    · refine fb_bnR (fb_sumP h _) (fun q c => ?_)
      split
      · exact Nat.zero_le _
      · exact one _
    · exact one _
  · exact one _
theorem fb_arP {K : Nat → Nat} {o a : Nat → PR} {N : Nat} (h : ∀ p, (o p).1 ≤ 5) (g : ∀ p, (a p).1 ≤ 5) (p : Nat) : (arP K o a N p).1 ≤ 5 := by
  unfold arP
  split
  · refine fb_bnR (fb_sumP h _) (fun q c => ?_)
    split
    · exact Nat.zero_le _
    · show (1 : Nat) ≤ 5
      decide
  · split
    · exact fb_bnR (h _) (fun q c => Nat.zero_le _)
    · split
      · exact fb_bnR (h _) (fun q c => Nat.zero_le _)
      · exact fb_chP h g _
theorem fb_OA {K V : Nat → Nat} {lw N : Nat} : ∀ r, (∀ p, ((OA K V lw N r).1 p).1 ≤ 5) ∧ ∀ p, ((OA K V lw N r).2 p).1 ≤ 5
  | 0 => by
    have h : ∀ p, (oneL K V lw (fun p => (3, p, [])) p).1 ≤ 5 := fb_oneL (fun p => (by decide : (3 : Nat) ≤ 5))
    exact ⟨h, fb_askP h (fun p => Nat.zero_le _)⟩
  | r + 1 => by
    have h := fb_oneL (K := K) (V := V) (lw := lw) (ar := arP K (OA K V lw N r).1 (OA K V lw N r).2 N) (fb_arP (fb_OA r).1 (fb_OA r).2)
    exact ⟨h, fb_askP h (fb_OA r).2⟩
