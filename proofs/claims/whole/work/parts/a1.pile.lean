/-! text: the pile machine does what the parser does -/
def OKS (K V : Nat → Nat) (lw : Nat) (S : MS) (p : Nat) (P : PS → Prop) : Prop := ∃ k X, rn K V lw k S = (0, (true, p, X)) ∧ P X
def FLS (K V : Nat → Nat) (lw : Nat) (S : MS) (f p : Nat) : Prop := ∃ k S', rn K V lw k S = (0, S') ∧ S'.2.1 = p ∧ (mst K V lw S').1 = 10 + f
def HLD (K V : Nat → Nat) (lw : Nat) (r : PR) (S : MS) (P : Nat → List (Nat × Nat) → PS → Prop) : Prop := (r.1 = 0 → OKS K V lw S r.2.1 (P r.2.1 r.2.2)) ∧ (r.1 ≠ 0 → FLS K V lw S r.1 r.2.1)
theorem rn_1 {K V : Nat → Nat} {lw : Nat} {S S' : MS} (h : mst K V lw S = (0, S')) : rn K V lw 1 S = (0, S') := by
  show (if (mst K V lw S).1 = 0 then rn K V lw 0 (mst K V lw S).2 else mst K V lw S) = _
  rw [h]
  rfl
theorem hld_pre {K V : Nat → Nat} {lw k : Nat} {r : PR} {S S' : MS} {P : Nat → List (Nat × Nat) → PS → Prop} (h : rn K V lw k S = (0, S')) (g : HLD K V lw r S' P) : HLD K V lw r S P := by
  refine ⟨fun z => ?_, fun z => ?_⟩
  · obtain ⟨j, X, a, b⟩ := g.1 z
    exact ⟨k + j, X, (rn_add k j S S' h).trans a, b⟩
  · obtain ⟨j, T, a, b⟩ := g.2 z
    exact ⟨k + j, T, (rn_add k j S S' h).trans a, b⟩
theorem hld_step {K V : Nat → Nat} {lw : Nat} {r : PR} {S S' : MS} {P : Nat → List (Nat × Nat) → PS → Prop} (h : mst K V lw S = (0, S')) (g : HLD K V lw r S' P) : HLD K V lw r S P := hld_pre (rn_1 h) g
theorem hld_fault {K V : Nat → Nat} {lw f p : Nat} {S : MS} {P : Nat → List (Nat × Nat) → PS → Prop} (h : (mst K V lw S).1 = 10 + f) (hf : f ≠ 0) (hp : S.2.1 = p) : HLD K V lw (f, p, []) S P := ⟨fun z => absurd z hf, fun _ => ⟨0, S, rfl, hp, h⟩⟩
theorem hld_ok {K V : Nat → Nat} {lw p : Nat} {c : List (Nat × Nat)} {X : PS} {P : Nat → List (Nat × Nat) → PS → Prop} (h : P p c X) : HLD K V lw (0, p, c) (true, p, X) P := ⟨fun _ => ⟨0, X, rfl, h⟩, fun z => absurd rfl z⟩
theorem hld_bind {K V : Nat → Nat} {lw : Nat} {r : PR} {S : MS} {k : Nat → List (Nat × Nat) → PR} {P Q : Nat → List (Nat × Nat) → PS → Prop} (h : HLD K V lw r S P) (g : ∀ X, r.1 = 0 → P r.2.1 r.2.2 X → HLD K V lw (k r.2.1 r.2.2) (true, r.2.1, X) Q) : HLD K V lw (bnR r k) S Q := by
  by_cases z : r.1 = 0
  · rw [bnR_0 z]
    obtain ⟨j, X, a, b⟩ := h.1 z
    exact hld_pre a (g X z b)
  · rw [bnR_1 z]
    exact ⟨fun y => absurd y z, fun _ => h.2 z⟩
theorem hld_mono {K V : Nat → Nat} {lw : Nat} {r : PR} {S : MS} {P Q : Nat → List (Nat × Nat) → PS → Prop} (h : HLD K V lw r S P) (g : ∀ q c X, P q c X → Q q c X) : HLD K V lw r S Q :=
  ⟨fun z => by
    obtain ⟨j, X, a, b⟩ := h.1 z
    exact ⟨j, X, a, g _ _ _ b⟩, h.2⟩
theorem mst_at {K V : Nat → Nat} {lw : Nat} {S : MS} (h : (mst K V lw S).1 = 0) : (mst K V lw S).2.2.1 = S.2.1 + 1 := by
  unfold mst at h ⊢
  by_cases z : 150 < S.2.2.1.length
  · rw [if_pos z] at h
    exact absurd (show (99 : Nat) = 0 from h) (by decide)
  · rw [if_neg z] at h ⊢
    by_cases w : S.1 = true
    · rw [if_pos w] at h ⊢
      unfold bhd at h ⊢
      by_cases a : btw (K S.2.1) S.2.2.1 ≠ 0
      · rw [if_pos a]
      · rw [if_neg a] at h ⊢
        by_cases b : prt (K S.2.1) S.2.2.1 = 0
        · rw [if_pos b] at h
          by_cases c : opn S.2.2.1 = 0
          · rw [if_pos c] at h
            exact absurd (show (1 : Nat) = 0 from h) (by decide)
          · rw [if_neg c] at h
            exact absurd (show (11 : Nat) = 0 from h) (by decide)
        · rw [if_neg b]
          by_cases c : prt (K S.2.1) S.2.2.1 = 1
          · rw [if_pos c]
          · rw [if_neg c]
    · rw [if_neg w] at h ⊢
      have op : ∀ o, (opd o S.2.1 S.2.2).1 = 0 → (opd o S.2.1 S.2.2).2.2.1 = S.2.1 + 1 := fun o q => by
        unfold opd at q ⊢
        by_cases a : S.2.2.2.1 = 8
        · rw [if_pos a] at q
          exact absurd (show (13 : Nat) = 0 from q) (by decide)
        · rw [if_neg a]
      unfold bgn at h ⊢
      by_cases c0 : K S.2.1 = 43 ∧ 9999 < V S.2.1
      · rw [if_pos c0] at h
        exact absurd (show (12 : Nat) = 0 from h) (by decide)
      rw [if_neg c0] at h ⊢
      by_cases c1 : K S.2.1 = 19 ∧ lw ≠ 2
      · rw [if_pos c1] at h
        exact absurd (show (15 : Nat) = 0 from h) (by decide)
      rw [if_neg c1] at h ⊢
      by_cases c2 : K S.2.1 = 43
      · rw [if_pos c2]
      rw [if_neg c2] at h ⊢
      by_cases c3 : 11 ≤ K S.2.1 ∧ K S.2.1 ≤ 19
      · rw [if_pos c3]
      rw [if_neg c3] at h ⊢
      by_cases c4 : K S.2.1 = 40
      · rw [if_pos c4] at h ⊢
        exact op _ h
      rw [if_neg c4] at h ⊢
      by_cases c5 : K S.2.1 = 37
      · rw [if_pos c5] at h ⊢
        exact op _ h
      rw [if_neg c5] at h ⊢
      by_cases c6 : K S.2.1 = 47
      · rw [if_pos c6] at h ⊢
        exact op _ h
      rw [if_neg c6] at h ⊢
      by_cases c7 : K S.2.1 = 24
      · rw [if_pos c7] at h ⊢
        exact op _ h
      rw [if_neg c7] at h ⊢
      by_cases c8 : askA S.2.2.1 = false
      · rw [if_pos c8] at h
        exact absurd (show (11 : Nat) = 0 from h) (by decide)
      rw [if_neg c8] at h ⊢
      by_cases c9 : K S.2.1 = 48
      · rw [if_pos c9] at h ⊢
        exact op _ h
      rw [if_neg c9] at h ⊢
      by_cases c10 : K S.2.1 = 49
      · rw [if_pos c10]
        rfl
      rw [if_neg c10] at h ⊢
      by_cases c11 : K S.2.1 = 50
      · rw [if_pos c11]
        rfl
      rw [if_neg c11] at h ⊢
      exact absurd (show (11 : Nat) = 0 from h) (by decide)
theorem rn_at {K V : Nat → Nat} {lw : Nat} : ∀ (k : Nat) (S S' : MS), rn K V lw k S = (0, S') → S'.2.1 = S.2.1 + k
  | 0, S, S', h => by
    have : S = S' := congrArg (fun x => x.2) h
    rw [this]
    rfl
  | k + 1, S, S', h => by
    change (if (mst K V lw S).1 = 0 then rn K V lw k (mst K V lw S).2 else mst K V lw S) = (0, S') at h
    by_cases z : (mst K V lw S).1 = 0
    · rw [if_pos z] at h
      have := rn_at k _ _ h
      rw [mst_at z] at this
      omega
    · rw [if_neg z] at h
      exact absurd (congrArg (fun x => x.1) h) z
theorem hld_gt {K V : Nat → Nat} {lw p : Nat} {r : PR} {X : PS} {P : Nat → List (Nat × Nat) → PS → Prop} (h : HLD K V lw r (false, p, X) P) : HLD K V lw r (false, p, X) (fun q c Y => p < q ∧ P q c Y) :=
  ⟨fun z => by
    obtain ⟨j, Y, a, b⟩ := h.1 z
    refine ⟨j, Y, a, ?_, b⟩
    have e := rn_at j _ _ a
    have : j ≠ 0 := fun w => by
      subst w
      have : (false, p, X) = (true, r.2.1, Y) := congrArg (fun x => x.2) a
      exact absurd (show false = true from congrArg (fun x => x.1) this) (by decide)
    change r.2.1 = p + j at e
    omega, h.2⟩
def lo (l : Nat) (p : List Nat) : Prop := ∀ o q, p = o :: q → rkO o < l
theorem lo_cons {l o : Nat} {p : List Nat} (h : rkO o < l) : lo l (o :: p) := fun a b e => by
  cases e
  exact h
theorem mst_w {K V : Nat → Nat} {lw p : Nat} {X : PS} (h : X.1.length ≤ 150) : mst K V lw (true, p, X) = bhd K p X := by
  unfold mst
  rw [if_neg (by show ¬ 150 < X.1.length; omega), if_pos rfl]
theorem mst_b {K V : Nat → Nat} {lw p : Nat} {X : PS} (h : X.1.length ≤ 150) : mst K V lw (false, p, X) = bgn K V lw p X := by
  unfold mst
  rw [if_neg (by show ¬ 150 < X.1.length; omega), if_neg (show ¬ (false = true) by decide)]
def aok (k : Nat) (p : List Nat) : Prop := askA p = false ∨ ¬ (48 ≤ k ∧ k ≤ 50)
def ONE (K V : Nat → Nat) (lw r : Nat) (o : Nat → PR) : Prop := ∀ p L n c0, n + r = 8 → L.length ≤ 2 + 6 * n → aok (K p) L → HLD K V lw (o p) (false, p, L, n, c0) (fun q c X => p < q ∧ X = stl 7 L n (c0 ++ c))
theorem askA_op {o : Nat} {L : List Nat} (h : o < 40) (h2 : 4 ≤ rkO o) : askA (o :: L) = false := by
  have : topA (o :: L) = false := decide_eq_false (by omega)
  unfold askA
  rw [this, Bool.and_false]
theorem askA_no {L : List Nat} (h : opn L ≠ 41) : askA L = false := by
  unfold askA
  rw [decide_eq_false h, Bool.false_and]
theorem opn_op {o : Nat} {L : List Nat} (h : o < 40) : opn (o :: L) = opn L := if_neg (by omega)
theorem opn_hi {o : Nat} {L : List Nat} (h : 40 ≤ o) : opn (o :: L) = o := if_pos h
theorem pile_prod {K V : Nat → Nat} {lw r N : Nat} {o : Nat → PR} (hN : N = 300) (hK : ∀ j, 300 ≤ j → K j = 45) (hr : r ≤ 8) (hO : ONE K V lw r o) : ∀ p L n c0, n + r = 8 → L.length ≤ 1 + 6 * n → lo 6 L → aok (K p) L → HLD K V lw (prodP K o N p) (false, p, L, n, c0) (fun q c X => st 6 X = (L, n, c0 ++ c) ∧ X.1.length ≤ 60 ∧ ¬ (K q = 38 ∨ K q = 39)) := by
  intro p L n c0 hn hl h6 ha
  have T : ∀ m q c X, 300 < q + m → st 6 X = (L, n, c0 ++ c) → X.1.length ≤ 60 → HLD K V lw (prodT K o m q c) (true, q, X) (fun q c X => st 6 X = (L, n, c0 ++ c) ∧ X.1.length ≤ 60 ∧ ¬ (K q = 38 ∨ K q = 39)) := by
    intro m
    induction m with
    | zero =>
      intro q c X h1 h2 h3
      have := hK q (by omega)
      exact hld_ok ⟨h2, h3, by omega⟩
    | succ m ih =>
      intro q c X h1 h2 h3
      by_cases z : K q = 38 ∨ K q = 39
      · have e1 : prodT K o (m + 1) q c = bnR (o (q + 1)) (fun s d => prodT K o m s (c ++ d ++ [(K q - 31, 0)])) := if_pos z
        have b1 : btw (K q) X.1 = K q - 31 := if_pos (by omega)
        have r1 : rkO (K q - 31) = 6 := by rcases z with z | z <;> rw [z] <;> rfl
        have s1 : mst K V lw (true, q, X) = (0, false, q + 1, (K q - 31) :: L, n, c0 ++ c) := by
          rw [mst_w (by omega)]
          unfold bhd
          rw [b1, if_pos (by omega), r1]
          show (0, false, q + 1, _ :: (st 6 X).1, (st 6 X).2) = _
          rw [h2]
        rw [e1]
        refine hld_step s1 (hld_bind (hO (q + 1) ((K q - 31) :: L) n (c0 ++ c) hn (by simp only [List.length_cons]; omega) (Or.inl (askA_op (by omega) (by omega)))) (fun Y y0 hY => ?_))
        · obtain ⟨y1, y2⟩ := hY
          have e2 : Y = ((K q - 31) :: L, n, c0 ++ c ++ (o (q + 1)).2.2) := by
            rw [y2]
            exact stl_lo (lo_cons (by omega)) _ _
          refine ih _ _ _ (by omega) ?_ ?_
          · rw [e2]
            show stl 6 ((K q - 31) :: L) n _ = _
            rw [stl_hi (by omega), if_neg (by omega), stl_lo h6]
            simp only [List.append_assoc]
          · rw [e2]
            simp only [List.length_cons]
            omega
      · have e1 : prodT K o (m + 1) q c = (0, q, c) := if_neg z
        rw [e1]
        exact hld_ok ⟨h2, h3, z⟩
  refine hld_bind (hO p L n c0 hn (by omega) ha) (fun Y y0 hY => ?_)
  obtain ⟨y1, y2⟩ := hY
  have e2 : Y = (L, n, c0 ++ (o p).2.2) := by
    rw [y2]
    exact stl_lo (fun a b e => by have := h6 a b e; omega) _ _
  refine T N _ _ Y (by omega) ?_ ?_
  · rw [e2]
    exact stl_lo h6 _ _
  · rw [e2]
    show L.length ≤ 60
    omega
theorem pile_sum {K V : Nat → Nat} {lw r N : Nat} {o : Nat → PR} (hN : N = 300) (hK : ∀ j, 300 ≤ j → K j = 45) (hr : r ≤ 8) (hO : ONE K V lw r o) : ∀ p L n c0, n + r = 8 → L.length ≤ 6 * n → lo 5 L → aok (K p) L → HLD K V lw (sumP K o N p) (false, p, L, n, c0) (fun q c X => p < q ∧ st 5 X = (L, n, c0 ++ c) ∧ X.1.length ≤ 60 ∧ ¬ (36 ≤ K q ∧ K q ≤ 39)) := by
  intro p L n c0 hn hl h5 ha
  have P1 := pile_prod (V := V) (lw := lw) hN hK hr hO
  have h6 : lo 6 L := fun a b e => by have := h5 a b e; omega
  have T : ∀ m q c X, 300 < q + m → st 5 X = (L, n, c0 ++ c) → X.1.length ≤ 60 → ¬ (K q = 38 ∨ K q = 39) → HLD K V lw (sumT K o N m q c) (true, q, X) (fun q c X => st 5 X = (L, n, c0 ++ c) ∧ X.1.length ≤ 60 ∧ ¬ (36 ≤ K q ∧ K q ≤ 39)) := by
    intro m
    induction m with
    | zero =>
      intro q c X h1 h2 h3 h4
      have := hK q (by omega)
      exact hld_ok ⟨h2, h3, by omega⟩
    | succ m ih =>
      intro q c X h1 h2 h3 h4
      by_cases z : K q = 36 ∨ K q = 37
      · have e1 : sumT K o N (m + 1) q c = bnR (prodP K o N (q + 1)) (fun s d => sumT K o N m s (c ++ d ++ [(K q - 31, 0)])) := if_pos z
        have b1 : btw (K q) X.1 = K q - 31 := if_pos (by omega)
        have r1 : rkO (K q - 31) = 5 := by rcases z with z | z <;> rw [z] <;> rfl
        have s1 : mst K V lw (true, q, X) = (0, false, q + 1, (K q - 31) :: L, n, c0 ++ c) := by
          rw [mst_w (by omega)]
          unfold bhd
          rw [b1, if_pos (by omega), r1]
          show (0, false, q + 1, _ :: (st 5 X).1, (st 5 X).2) = _
          rw [h2]
        rw [e1]
        refine hld_step s1 (hld_bind (hld_gt (P1 (q + 1) ((K q - 31) :: L) n (c0 ++ c) hn (by simp only [List.length_cons]; omega) (lo_cons (by omega)) (Or.inl (askA_op (by omega) (by omega))))) (fun Y y0 hY => ?_))
        · obtain ⟨y1, y2, y3, y4⟩ := hY
          refine ih _ _ _ (by omega) ?_ y3 y4
          have := stl_stl (a := 5) (b := 6) (by decide) Y.1 Y.2.1 Y.2.2
          change st 5 (st 6 Y) = st 5 Y at this
          rw [← this, y2]
          show stl 5 ((K q - 31) :: L) n _ = _
          rw [stl_hi (by omega), if_neg (by omega), stl_lo h5]
          simp only [List.append_assoc]
      · have e1 : sumT K o N (m + 1) q c = (0, q, c) := if_neg z
        rw [e1]
        exact hld_ok ⟨h2, h3, by omega⟩
  refine hld_mono (hld_gt (hld_bind (hld_gt (P1 p L n c0 hn (by omega) h6 ha)) (Q := fun q c X => st 5 X = (L, n, c0 ++ c) ∧ X.1.length ≤ 60 ∧ ¬ (36 ≤ K q ∧ K q ≤ 39)) (fun Y y0 hY => ?_))) (fun q c X h => ⟨h.1, h.2⟩)
  obtain ⟨y1, y2, y3, y4⟩ := hY
  refine T N _ _ Y (by omega) ?_ y3 y4
  have := stl_stl (a := 5) (b := 6) (by decide) Y.1 Y.2.1 Y.2.2
  change st 5 (st 6 Y) = st 5 Y at this
  rw [← this, y2]
  exact stl_lo h5 _ _
def ASK (K V : Nat → Nat) (lw r : Nat) (a : Nat → PR) : Prop := ∀ p L n c0, n + r = 8 → L.length + 1 ≤ 6 * n → opn L = 41 → topA L = true → HLD K V lw (a p) (false, p, L, n, c0) (fun q c X => p < q ∧ st 3 X = stl 3 L n (c0 ++ c) ∧ cmpd X.1 = true ∧ X.1.length ≤ 60 ∧ ¬ (36 ≤ K q ∧ K q ≤ 39))
theorem opn_st {l : Nat} (hl : 1 ≤ l) {X : PS} {L : List Nat} {n : Nat} {c : List (Nat × Nat)} (h : st l X = (L, n, c)) : opn X.1 = opn L := by
  have := opn_stl hl X.1 X.2.1 X.2.2
  change opn (st l X).1 = _ at this
  rw [h] at this
  exact this.symm
theorem cmpd_st {X : PS} {L : List Nat} {n : Nat} {c : List (Nat × Nat)} (h : st 5 X = (L, n, c)) : cmpd X.1 = cmpd L := by
  have := cmpd_stl X.1 X.2.1 X.2.2
  change cmpd (st 5 X).1 = _ at this
  rw [h] at this
  exact this.symm
theorem st_st {a b : Nat} (h : a ≤ b) {X : PS} {L : List Nat} {n : Nat} {c : List (Nat × Nat)} (e : st b X = (L, n, c)) : st a X = stl a L n c := by
  have := stl_stl h X.1 X.2.1 X.2.2
  change st a (st b X) = st a X at this
  rw [← this, e]
theorem bgn_opd {K V : Nat → Nat} {lw p o n : Nat} {L : List Nat} {c0 : List (Nat × Nat)} (h : L.length ≤ 150) (hb : bgn K V lw p (L, n, c0) = opd o p (L, n, c0)) (hn : n ≠ 8) : mst K V lw (false, p, L, n, c0) = (0, false, p + 1, o :: L, n + 1, c0) := by
  rw [mst_b h, hb]
  exact if_neg hn
theorem bgn_op8 {K V : Nat → Nat} {lw p o n : Nat} {L : List Nat} {c0 : List (Nat × Nat)} (h : L.length ≤ 150) (hb : bgn K V lw p (L, n, c0) = opd o p (L, n, c0)) (hn : n = 8) : (mst K V lw (false, p, L, n, c0)).1 = 10 + 3 := by
  rw [mst_b h, hb]
  have : opd o p (L, n, c0) = (13, false, p, L, n, c0) := if_pos hn
  rw [this]
theorem bgn_48 {K V : Nat → Nat} {lw p : Nat} {X : PS} (k : K p = 48) (ha : askA X.1 = true) : bgn K V lw p X = opd 20 p X := by
  unfold bgn
  rw [if_neg (by omega), if_neg (by omega), if_neg (by omega), if_neg (by omega), if_neg (by omega), if_neg (by omega), if_neg (by omega), if_neg (by omega), if_neg (by rw [ha]; decide), if_pos k]
theorem bgn_49 {K V : Nat → Nat} {lw p : Nat} {X : PS} (k : K p = 49 ∨ K p = 50) (ha : askA X.1 = true) : bgn K V lw p X = wts (K p - 33) p X := by
  unfold bgn
  rw [if_neg (by omega), if_neg (by omega), if_neg (by omega), if_neg (by omega), if_neg (by omega), if_neg (by omega), if_neg (by omega), if_neg (by omega), if_neg (by rw [ha]; decide), if_neg (by omega)]
  rcases k with k | k
  · rw [if_pos k, k]
  · rw [if_neg (by omega), if_pos k, k]
theorem top_20 {L : List Nat} : topA (20 :: L) = true := by
  show decide (40 ≤ 20 ∨ (1 ≤ rkO 20 ∧ rkO 20 ≤ 3)) = true
  decide
theorem pile_ask {K V : Nat → Nat} {lw r N : Nat} {o a : Nat → PR} (hN : N = 300) (hK : ∀ j, 300 ≤ j → K j = 45) (hr : r ≤ 8) (hO : ONE K V lw r o) (hA : ∀ s, r = s + 1 → ASK K V lw s a) : ASK K V lw r (askP K o a N r) := by
  intro p L n c0 hn hl h41 ht
  have S1 := pile_sum (V := V) (lw := lw) hN hK hr hO
  have al : askA L = true := by
    unfold askA
    rw [h41, ht]
    rfl
  have n8 : n ≤ 8 := by omega
  have l4 : lo 4 L := by
    intro x y e
    subst e
    have := of_decide_eq_true (p := 40 ≤ x ∨ (1 ≤ rkO x ∧ rkO x ≤ 3)) ht
    rcases this with q | q
    · have : rkO x = 0 := if_pos q
      omega
    · omega
  have l5 : lo 5 L := fun x y e => by have := l4 x y e; omega
  unfold askP
  by_cases z : K p = 48
  · rw [if_pos z]
    have hb := bgn_48 (V := V) (lw := lw) (X := (L, n, c0)) z al
    by_cases y : r = 0
    · rw [if_pos y]
      exact hld_fault (bgn_op8 (by omega) hb (by omega)) (by decide) rfl
    · rw [if_neg y]
      obtain ⟨s, rfl⟩ : ∃ s, r = s + 1 := ⟨r - 1, by omega⟩
      refine hld_gt (hld_step (bgn_opd (by omega) hb (by omega)) (hld_bind (hA s rfl (p + 1) (20 :: L) (n + 1) c0 (by omega) (by simp only [List.length_cons]; omega) (by rw [opn_op (by decide)]; exact h41) top_20) (fun X x0 hX => ?_)))
      obtain ⟨x1, x2, x3⟩ := hX
      refine hld_ok ⟨?_, x3⟩
      rw [x2, stl_hi (by decide), if_pos (Or.inr rfl), Nat.add_sub_cancel]
      simp only [List.append_assoc]
  · rw [if_neg z]
    by_cases y : K p = 49 ∨ K p = 50
    · rw [if_pos y]
      have hb := bgn_49 (V := V) (lw := lw) (X := (L, n, c0)) y al
      have r4 : rkO (K p - 33) = 4 := by rcases y with y | y <;> rw [y] <;> rfl
      have s1 : mst K V lw (false, p, L, n, c0) = (0, false, p + 1, (K p - 33) :: L, n, c0) := by
        rw [mst_b (by show L.length ≤ 150; omega), hb]
        rfl
      refine hld_gt (hld_step s1 (hld_bind (S1 (p + 1) ((K p - 33) :: L) n c0 hn (by simp only [List.length_cons]; omega) (lo_cons (by omega)) (Or.inl (askA_op (by omega) (by omega)))) (fun X x0 hX => ?_)))
      obtain ⟨x1, x2, x3, x4⟩ := hX
      refine hld_ok ⟨?_, ?_, x3, x4⟩
      · rw [st_st (by decide) x2, stl_hi (by omega), if_neg (by omega)]
        simp only [List.append_assoc]
      · rw [cmpd_st x2]
        show (if 4 < rkO (K p - 33) then _ else decide (rkO (K p - 33) = 4)) = true
        rw [if_neg (by omega)]
        exact decide_eq_true r4
    · rw [if_neg y]
      refine hld_gt (hld_bind (S1 p L n c0 hn (by omega) l5 (Or.inr (by omega))) (fun X x0 hX => ?_))
      obtain ⟨x1, x2, x3, x4⟩ := hX
      have o41 : opn X.1 = 41 := by rw [opn_st (by decide) x2]; exact h41
      have cf : cmpd X.1 = false := by
        rw [cmpd_st x2]
        cases L with
        | nil => rfl
        | cons x q =>
          have := l4 x q rfl
          show (if 4 < rkO x then _ else decide (rkO x = 4)) = false
          rw [if_neg (by omega)]
          exact decide_eq_false (by omega)
      by_cases w : 30 ≤ K (sumP K o N p).2.1 ∧ K (sumP K o N p).2.1 ≤ 35
      · rw [if_pos w]
        have bt : btw (K (sumP K o N p).2.1) X.1 = K (sumP K o N p).2.1 - 20 := by
          unfold btw
          rw [if_neg (by omega), if_neg (by omega), if_pos cf, if_pos w]
        have r4 : rkO (K (sumP K o N p).2.1 - 20) = 4 := by
          obtain ⟨w1, w2⟩ := w
          generalize K (sumP K o N p).2.1 = k at w1 w2
          unfold rkO
          rw [if_neg (by omega), if_neg (by omega), if_neg (by omega), if_neg (by omega), if_pos (by omega)]
        have s1 : mst K V lw (true, (sumP K o N p).2.1, X) = (0, false, (sumP K o N p).2.1 + 1, (K (sumP K o N p).2.1 - 20) :: L, n, c0 ++ (sumP K o N p).2.2) := by
          rw [mst_w (by omega)]
          unfold bhd
          rw [bt, if_pos (by omega), if_pos r4]
          show (0, false, _, _ :: (st 5 X).1, (st 5 X).2) = _
          rw [x2]
        refine hld_step s1 (hld_bind (S1 _ ((K (sumP K o N p).2.1 - 20) :: L) n _ hn (by simp only [List.length_cons]; omega) (lo_cons (by omega)) (Or.inl (askA_op (by omega) (by omega)))) (fun Y y0 hY => ?_))
        obtain ⟨y1, y2, y3, y4⟩ := hY
        refine hld_ok ⟨?_, ?_, y3, y4⟩
        · rw [st_st (by decide) y2, stl_hi (by omega), if_neg (by omega)]
          simp only [List.append_assoc]
        · rw [cmpd_st y2]
          show (if 4 < rkO (K (sumP K o N p).2.1 - 20) then _ else decide (rkO (K (sumP K o N p).2.1 - 20) = 4)) = true
          rw [if_neg (by omega)]
          exact decide_eq_true r4
      · rw [if_neg w]
        refine hld_fault ?_ (by decide) rfl
        have bt : btw (K (sumP K o N p).2.1) X.1 = 0 := by
          unfold btw
          rw [if_neg x4, if_neg (by omega), if_pos cf, if_neg w]
        have pt : prt (K (sumP K o N p).2.1) X.1 = 0 := by
          unfold prt
          rw [if_neg (by omega), if_pos o41, if_neg (by rw [cf]; exact fun q => absurd q.2 (by decide))]
        rw [mst_w (by omega)]
        unfold bhd
        rw [bt, if_neg (by decide), pt, if_pos rfl, if_neg (by omega)]
