/-! text: the reference's sum is the pile machine -/
theorem m_begOne {T P E K V : Nat → Nat} {L B lw p : Nat} (hnx : NX T P E K V L) (hK50 : ∀ j, K j ≤ 50) (hV : ∀ j, V j ≤ 10000) (hB : B + 705 ≤ 2820) (hlw : lw < 3) (hp : p ≤ 300) {σ : Sg} {X : PS} (h : PMS T P E K V L σ B lw (false, p, X)) (hq : X.1.length ≤ 150) : ((bgn K V lw p X).1 = 0 → ∃ σ', f_X12_beginOne σ = some (nI 0, σ') ∧ PMS T P E K V L σ' B lw (bgn K V lw p X).2 ∧ fr Smp σ σ' ∧ frB B σ σ') ∧ ((bgn K V lw p X).1 ≠ 0 → f_X12_beginOne σ = some (nI ((bgn K V lw p X).1 - 10), σ)) := by
  have h' := h
  obtain ⟨hT, hS, h14, h18, hl⟩ := h
  dsimp only at hT hS h18 hl
  have tm := hT.1
  have k50 := hK50 p
  have t1 := m_tok1 tm k50
  have nmO := m_nameOf tm k50
  have go83 : ∀ o a : Nat, o ≤ 1 → a ≤ 9999 → ∃ σ', f_X12_beginOne_83 (nI o) (nI a) σ = some (nI 0, σ') ∧ PMS T P E K V L σ' B lw (true, p + 1, stl 7 X.1 X.2.1 (X.2.2 ++ [(o, a)])) ∧ fr Smp σ σ' ∧ frB B σ σ' := by
    intro o a ho ha
    obtain ⟨u, u1, u2, u3, u4⟩ := m_emit (o := o) (a := a) hS.1 hS.2.1 hS.2.2.2.2.2.1 (by omega) (by omega)
    have uL := emit_L u1
    obtain ⟨w, w1, w2, w3⟩ := hnx u p (hT.of (fun j hj => u2.1 _ _ (by omega)) (fun j => u2.1 _ _ (by omega)) uL)
    have fw : fr Smp σ w := (u2.mono (fun x j q => by omega)).trans (w3.mono (fun x j q => by omega))
    have S1 : SET (wI w 0 18 1) B (X.1, X.2.1, X.2.2 ++ [(o, a)]) := ⟨by rw [e_ne2 (by decide), w3.1 _ _ (by omega), u2.1 _ _ (by omega)]; exact hS.1, by rw [e_ne2 (by decide), w3.1 _ _ (by omega), u3, List.length_append]; rfl, by rw [e_ne2 (by decide), w3.1 _ _ (by omega), u2.1 _ _ (by omega)]; exact hS.2.2.1, by rw [e_ne2 (by decide), w3.1 _ _ (by omega), u2.1 _ _ (by omega)]; exact hS.2.2.2.1, hS.2.2.2.2.1.of (fun j hj => by rw [e_ne1 (by decide), w3.1 _ _ (by omega), u2.1 _ _ (by omega)]), u4.of (fun j _ _ => by rw [e_ne1 (by decide), w3.1 _ _ (by omega)]), hS.2.2.2.2.2.2⟩
    obtain ⟨y, y1, y2, y3, y4, y5⟩ := m_settle (l := 7) hB (by decide) S1 (by rw [List.length_append]; simp only [List.length_cons, List.length_nil]; omega) hq
    refine ⟨y, ?_, ⟨w2.of (fun j hj => by rw [y2.1 _ _ (by omega), e_ne2 (by omega)]) (fun j => by rw [y2.1 _ _ (by omega), e_ne1 (by decide)]) y5, y4, by rw [y2.1 _ _ (by omega), e_ne2 (by decide), fw.1 _ _ (by omega)]; exact h14, by rw [y2.1 _ _ (by omega), e_hit]; rfl, ?_⟩, (fw.trans (fr.w (by omega))).trans (y2.mono (fun x j q => by omega)), ?_⟩
    · have y1' : f_X12_settle 7 (wI w 0 18 1) = some y := y1
      unfold f_X12_beginOne_83
      rw [u1, e_bndV, w1, e_bndV, grd_of (by decide), e_lt, y1', e_bndV]
      rfl
    · have := stl_len (l := 7) X.1 X.2.1 (X.2.2 ++ [(o, a)])
      rw [List.length_append] at this
      simp only [List.length_cons, List.length_nil] at this
      show (stl 7 X.1 X.2.1 (X.2.2 ++ [(o, a)])).2.2.length + (stl 7 X.1 X.2.1 (X.2.2 ++ [(o, a)])).1.length ≤ p + 1
      omega
    · intro j hj
      rw [y3 j hj, e_ne1 (by decide), w3.1 _ _ (by omega), u2.1 _ _ (by omega)]
  unfold f_X12_beginOne
  by_cases z : K p = 43
  · have e1 : σ.1 0 9 = nI 1 := t1.symm ▸ z
    have wv : ∃ w, w ≤ 2000000 ∧ σ.1 0 10 = nI w ∧ ((w = V p ∧ V p ≤ 9999) ∨ (9999 < w ∧ 9999 < V p)) := by
      rcases tm with ⟨q, _⟩ | ⟨_, _, q⟩ | ⟨q, _⟩ | ⟨q, _⟩ | ⟨q, _⟩
      · omega
      · exact q
      · omega
      · omega
      · unfold isW at q; omega
    obtain ⟨w, w1, w2, w3⟩ := wv
    rw [if_pos (show σ.1 0 9 = 1 from e1), w2]
    by_cases y : 9999 < V p
    · have eb : bgn K V lw p X = (12, false, p, X) := if_pos ⟨z, y⟩
      rw [eb, if_neg (show ¬ (nI w ≤ 9999) from nI_ge (a := 9999) (by omega) (by omega))]
      exact ⟨fun q => absurd (show (12 : Nat) = 0 from q) (by decide), fun _ => rfl⟩
    · have eb : bgn K V lw p X = (0, true, p + 1, stl 7 X.1 X.2.1 (X.2.2 ++ [(0, V p)])) := by
        unfold bgn
        rw [if_neg (fun q => y q.2), if_neg (by omega), if_pos z]
      rw [eb, if_pos (show nI w ≤ 9999 from nI_le (b := 9999) (by omega) (by omega))]
      refine ⟨fun _ => ?_, fun q => absurd rfl q⟩
      obtain ⟨s, s1, s2⟩ := go83 0 (V p) (by decide) (by omega)
      refine ⟨s, ?_, s2⟩
      unfold f_X12_beginOne_20 f_X12_beginOne_41 f_X12_beginOne_53 f_X12_beginOne_67
      rw [nmO, e_bnd, if_neg (show ¬ (11 ≤ K p ∧ K p ≤ 19) by omega), if_neg (show ¬ ((-1 : Int32) = 8) by decide), if_pos (show σ.1 0 9 = 1 from e1), if_pos (show σ.1 0 9 = 1 from e1), if_pos (show σ.1 0 9 = 1 from e1), w2]
      rw [show w = V p by omega]
      exact s1
  · have e1 : ¬ (σ.1 0 9 = 1) := fun q => z (t1 ▸ q)
    rw [if_neg e1]
    unfold f_X12_beginOne_20
    rw [nmO, e_bnd]
    by_cases y : 11 ≤ K p ∧ K p ≤ 19
    · rw [if_pos y]
      have h41 : f_X12_beginOne_41 (nI (K p - 11)) σ = f_X12_beginOne_83 (nI 1) (nI (K p - 11)) σ := by
        unfold f_X12_beginOne_41 f_X12_beginOne_53 f_X12_beginOne_67
        rw [if_neg e1, if_neg (nI_pos (by omega)), if_neg e1, if_neg e1]
        rfl
      by_cases x : K p = 19
      · rw [if_pos (show nI (K p - 11) = 8 by rw [x]; rfl), h14]
        by_cases w : lw = 2
        · have eb : bgn K V lw p X = (0, true, p + 1, stl 7 X.1 X.2.1 (X.2.2 ++ [(1, K p - 11)])) := by
            unfold bgn
            rw [if_neg (fun q => z q.1), if_neg (fun q => q.2 w), if_neg z, if_pos y]
          rw [eb, if_pos (show nI lw = 2 by rw [w]; rfl), h41]
          exact ⟨fun _ => go83 1 (K p - 11) (by decide) (by omega), fun q => absurd rfl q⟩
        · have eb : bgn K V lw p X = (15, false, p, X) := by
            unfold bgn
            rw [if_neg (fun q => z q.1), if_pos ⟨x, w⟩]
          rw [eb, if_neg (show ¬ (nI lw = 2) from fun q => w ((nI_eq (b := 2) (by omega) (by decide)).mp q))]
          exact ⟨fun q => absurd (show (15 : Nat) = 0 from q) (by decide), fun _ => rfl⟩
      · have eb : bgn K V lw p X = (0, true, p + 1, stl 7 X.1 X.2.1 (X.2.2 ++ [(1, K p - 11)])) := by
          unfold bgn
          rw [if_neg (fun q => z q.1), if_neg (fun q => x q.1), if_neg z, if_pos y]
        rw [eb, if_neg (show ¬ (nI (K p - 11) = 8) from fun q => x (by have := (nI_eq (b := 8) (by omega) (by decide)).mp q; omega)), h41]
        exact ⟨fun _ => go83 1 (K p - 11) (by decide) (by omega), fun q => absurd rfl q⟩
    · have nx : ¬ (K p = 19 ∧ lw ≠ 2) := fun q => y (by omega)
      have k40 := m_tok tm k50 (j := 40) (by decide)
      have k37 := m_tok tm k50 (j := 37) (by decide)
      have eb0 : bgn K V lw p X = (if K p = 40 then opd 40 p X else if K p = 37 then opd 4 p X else if K p = 47 then opd 2 p X else if K p = 24 then opd 41 p X else if askA X.1 = false then (11, false, p, X) else if K p = 48 then opd 20 p X else if K p = 49 then wts 16 p X else if K p = 50 then wts 17 p X else (11, false, p, X)) := by
        unfold bgn
        rw [if_neg (fun q => z q.1), if_neg nx, if_neg z, if_neg y]
      rw [if_neg y, if_neg (show ¬ ((-1 : Int32) = 8) by decide), eb0]
      unfold f_X12_beginOne_41
      rw [if_neg e1, if_pos (show (-1 : Int32) < 0 by decide)]
      have op : ∀ o, (o = 40 ∨ o = 4 ∨ o = 2 ∨ o = 41 ∨ o = 20) → ∀ f : Int32 → Sg → Option (Int32 × Sg), (∀ r τ, f r τ = some (r, τ)) → ((opd o p X).1 = 0 → ∃ σ', bnd (f_X12_opened (nI o) σ) f = some (nI 0, σ') ∧ PMS T P E K V L σ' B lw (opd o p X).2 ∧ fr Smp σ σ' ∧ frB B σ σ') ∧ ((opd o p X).1 ≠ 0 → bnd (f_X12_opened (nI o) σ) f = some (nI ((opd o p X).1 - 10), σ)) := by
        intro o ho f hf
        obtain ⟨a, b⟩ := m_opened hnx h' hq ho
        refine ⟨fun q => ?_, fun q => ?_⟩
        · obtain ⟨s, s1, s2⟩ := a q
          exact ⟨s, by rw [s1, e_bnd, hf], s2⟩
        · rw [b q, e_bnd, hf]
      by_cases c40 : K p = 40
      · rw [if_pos (show σ.1 0 9 = 40 from k40.symm ▸ c40), if_pos c40]
        exact op 40 (by decide) _ (fun _ _ => rfl)
      rw [if_neg (show ¬ (σ.1 0 9 = 40) from fun q => c40 (k40 ▸ q)), if_neg c40]
      by_cases c37 : K p = 37
      · rw [if_pos (show σ.1 0 9 = 45 from k37.symm ▸ c37), if_pos c37]
        exact op 4 (by decide) _ (fun _ _ => rfl)
      rw [if_neg (show ¬ (σ.1 0 9 = 45) from fun q => c37 (k37 ▸ q)), if_neg c37]
      have iw : ∀ j, (47 ≤ j ∧ j ≤ 50) ∨ j = 24 → isW j := fun j hj => by unfold isW; omega
      have w47 := m_isWord tm (iw 47 (by decide)) (by decide) k50
      by_cases c47 : K p = 47
      · rw [if_pos c47] at w47
        rw [wd_47, e_bnd, w47, e_bnd, if_neg (show ¬ (nI 1 = 0) by decide), if_pos c47]
        exact op 2 (by decide) _ (fun _ _ => rfl)
      rw [if_neg c47] at w47
      rw [wd_47, e_bnd, w47, e_bnd, if_pos (show nI 0 = 0 from rfl), if_neg c47]
      have w24 := m_isWord tm (iw 24 (by decide)) (by decide) k50
      by_cases c24 : K p = 24
      · rw [if_pos c24] at w24
        rw [wd_24, e_bnd, w24, e_bnd, if_neg (show ¬ (nI 1 = 0) by decide), if_pos c24]
        exact op 41 (by decide) _ (fun _ _ => rfl)
      rw [if_neg c24] at w24
      rw [wd_24, e_bnd, w24, e_bnd, if_pos (show nI 0 = 0 from rfl), if_neg c24]
      have wa := m_isAsk hS.2.2.1 hS.2.2.2.2.1 hq
      by_cases ca : askA X.1 = false
      · rw [if_neg (show ¬ (askA X.1 = true) by rw [ca]; decide)] at wa
        rw [wa, e_bnd, if_pos (show nI 0 = 0 from rfl), if_pos ca]
        exact ⟨fun q => absurd (show (11 : Nat) = 0 from q) (by decide), fun _ => rfl⟩
      have ca' : askA X.1 = true := by
        cases w : askA X.1 with
        | true => rfl
        | false => exact absurd w ca
      rw [if_pos ca'] at wa
      rw [wa, e_bnd, if_neg (show ¬ (nI 1 = 0) by decide), if_neg ca]
      have w48 := m_isWord tm (iw 48 (by decide)) (by decide) k50
      by_cases c48 : K p = 48
      · rw [if_pos c48] at w48
        rw [wd_48, e_bnd, w48, e_bnd, if_neg (show ¬ (nI 1 = 0) by decide), if_pos c48]
        exact op 20 (by decide) _ (fun _ _ => rfl)
      rw [if_neg c48] at w48
      rw [wd_48, e_bnd, w48, e_bnd, if_pos (show nI 0 = 0 from rfl), if_neg c48]
      have wt : ∀ o, o = 16 ∨ o = 17 → ((wts o p X).1 = 0 → ∃ σ', bnd (f_X12_waits (nI o) σ) (fun r σ => f_X12_beginOne_266 r σ) = some (nI 0, σ') ∧ PMS T P E K V L σ' B lw (wts o p X).2 ∧ fr Smp σ σ' ∧ frB B σ σ') ∧ ((wts o p X).1 ≠ 0 → bnd (f_X12_waits (nI o) σ) (fun r σ => f_X12_beginOne_266 r σ) = some (nI ((wts o p X).1 - 10), σ)) := by
        intro o ho
        obtain ⟨u, u1, u2, u3, u4, u5, u6, u7⟩ := m_waitsP (w := false) hnx hT hS h14 hl hq (o := o) (by rcases ho with rfl | rfl <;> decide)
        refine ⟨fun _ => ⟨u, by rw [u1, e_bnd]; rfl, ⟨u2, u3, u4, by rw [u5]; exact h18, ?_⟩, u6, u7⟩, fun q => absurd rfl q⟩
        show X.2.2.length + (X.1.length + 1) ≤ p + 1
        omega
      have w49 := m_isWord tm (iw 49 (by decide)) (by decide) k50
      by_cases c49 : K p = 49
      · rw [if_pos c49] at w49
        rw [wd_49, e_bnd, w49, e_bnd, if_neg (show ¬ (nI 1 = 0) by decide), if_pos c49]
        exact wt 16 (Or.inl rfl)
      rw [if_neg c49] at w49
      rw [wd_49, e_bnd, w49, e_bnd, if_pos (show nI 0 = 0 from rfl), if_neg c49]
      have w50 := m_isWord tm (iw 50 (by decide)) (by decide) k50
      by_cases c50 : K p = 50
      · rw [if_pos c50] at w50
        rw [wd_50, e_bnd, w50, e_bnd, if_neg (show ¬ (nI 1 = 0) by decide), if_pos c50]
        exact wt 17 (Or.inr rfl)
      rw [if_neg c50] at w50
      rw [wd_50, e_bnd, w50, e_bnd, if_pos (show nI 0 = 0 from rfl), if_neg c50]
      exact ⟨fun q => absurd (show (11 : Nat) = 0 from q) (by decide), fun _ => rfl⟩
theorem m_cmpOf {σ : Sg} {k v : Nat} (tm : TM σ k v) (hk : k ≤ 50) : f_X12_compareOf σ = some (if 30 ≤ k ∧ k ≤ 35 then nI (k - 20) else -1, σ) := by
  have t30 := m_tok tm hk (j := 30) (by decide)
  have t31 := m_tok tm hk (j := 31) (by decide)
  have t32 := m_tok tm hk (j := 32) (by decide)
  have t33 := m_tok tm hk (j := 33) (by decide)
  have t34 := m_tok tm hk (j := 34) (by decide)
  have t35 := m_tok tm hk (j := 35) (by decide)
  unfold f_X12_compareOf f_X12_compareOf_83
  by_cases c0 : k = 30
  · rw [if_pos (show σ.1 0 9 = 60 from t30.symm ▸ c0), if_pos (by omega), c0]
    rfl
  rw [if_neg (show ¬ (σ.1 0 9 = 60) from fun q => c0 (t30 ▸ q))]
  by_cases c1 : k = 31
  · rw [if_pos (show σ.1 0 9 = 4 from t31.symm ▸ c1), if_pos (by omega), c1]
    rfl
  rw [if_neg (show ¬ (σ.1 0 9 = 4) from fun q => c1 (t31 ▸ q))]
  by_cases c2 : k = 32
  · rw [if_pos (show σ.1 0 9 = 62 from t32.symm ▸ c2), if_pos (by omega), c2]
    rfl
  rw [if_neg (show ¬ (σ.1 0 9 = 62) from fun q => c2 (t32 ▸ q))]
  by_cases c3 : k = 33
  · rw [if_pos (show σ.1 0 9 = 5 from t33.symm ▸ c3), if_pos (by omega), c3]
    rfl
  rw [if_neg (show ¬ (σ.1 0 9 = 5) from fun q => c3 (t33 ▸ q))]
  by_cases c4 : k = 34
  · rw [if_pos (show σ.1 0 9 = 61 from t34.symm ▸ c4), if_pos (by omega), c4]
    rfl
  rw [if_neg (show ¬ (σ.1 0 9 = 61) from fun q => c4 (t34 ▸ q))]
  by_cases c5 : k = 35
  · rw [if_pos (show σ.1 0 9 = 35 from t35.symm ▸ c5), if_pos (by omega), c5]
    rfl
  rw [if_neg (show ¬ (σ.1 0 9 = 35) from fun q => c5 (t35 ▸ q)), if_neg (by omega)]
theorem m_btw {σ : Sg} {k v : Nat} {q : List Nat} (tm : TM σ k v) (hk : k ≤ 50) (h16 : σ.1 0 16 = nI q.length) (h : PLK σ q) (hq : q.length ≤ 150) : f_X12_betweenOf σ = some (if btw k q = 0 then -1 else nI (btw k q), σ) := by
  have t36 := m_tok tm hk (j := 36) (by decide)
  have t37 := m_tok tm hk (j := 37) (by decide)
  have t38 := m_tok tm hk (j := 38) (by decide)
  have t39 := m_tok tm hk (j := 39) (by decide)
  have on := m_openNow h16 h hq
  have ic := m_isCmp h16 h hq
  unfold f_X12_betweenOf f_X12_betweenOf_111 btw
  by_cases c0 : k = 36
  · rw [if_pos (show σ.1 0 9 = 43 from t36.symm ▸ c0), if_pos (show 36 ≤ k ∧ k ≤ 39 by omega), c0]
    rfl
  rw [if_neg (show ¬ (σ.1 0 9 = 43) from fun q => c0 (t36 ▸ q))]
  by_cases c1 : k = 37
  · rw [if_pos (show σ.1 0 9 = 45 from t37.symm ▸ c1), if_pos (show 36 ≤ k ∧ k ≤ 39 by omega), c1]
    rfl
  rw [if_neg (show ¬ (σ.1 0 9 = 45) from fun q => c1 (t37 ▸ q))]
  by_cases c2 : k = 38
  · rw [if_pos (show σ.1 0 9 = 42 from t38.symm ▸ c2), if_pos (show 36 ≤ k ∧ k ≤ 39 by omega), c2]
    rfl
  rw [if_neg (show ¬ (σ.1 0 9 = 42) from fun q => c2 (t38 ▸ q))]
  by_cases c3 : k = 39
  · rw [if_pos (show σ.1 0 9 = 47 from t39.symm ▸ c3), if_pos (show 36 ≤ k ∧ k ≤ 39 by omega), c3]
    rfl
  rw [if_neg (show ¬ (σ.1 0 9 = 47) from fun q => c3 (t39 ▸ q)), if_neg (show ¬ (36 ≤ k ∧ k ≤ 39) by omega), on, e_bnd]
  by_cases z : opn q = 41
  · rw [if_neg (show ¬ (opn q = 0) by omega), if_pos (show nI (opn q) = 41 by rw [z]; rfl), ic, e_bnd, if_neg (show ¬ (opn q ≠ 41) from fun g => g z)]
    cases w : cmpd q with
    | false =>
      rw [if_neg (show ¬ (false = true) by decide), if_pos (show nI 0 = 0 from rfl), m_cmpOf tm hk, e_bnd, if_pos (show false = false from rfl)]
      by_cases x : 30 ≤ k ∧ k ≤ 35
      · rw [if_pos x, if_pos x, if_neg (by omega)]
      · rw [if_neg x, if_neg x, if_pos rfl]
    | true =>
      rw [if_pos (show true = true from rfl), if_neg (show ¬ (nI 1 = 0) by decide), wd_28, e_bnd, m_isWord tm (j := 28) (by unfold isW; omega) (by decide) hk, e_bnd, if_neg (show ¬ (true = false) by decide)]
      by_cases x : k = 28
      · rw [if_pos x, if_neg (show ¬ (nI 1 = 0) by decide), if_pos x, if_neg (by decide)]
        rfl
      · rw [if_neg x, if_pos (show nI 0 = 0 from rfl), wd_29, e_bnd, m_isWord tm (j := 29) (by unfold isW; omega) (by decide) hk, e_bnd, if_neg x]
        by_cases y : k = 29
        · rw [if_pos y, if_neg (show ¬ (nI 1 = 0) by decide), if_pos y, if_neg (by decide)]
          rfl
        · rw [if_neg y, if_pos (show nI 0 = 0 from rfl), if_neg y, if_pos rfl]
  · rw [if_pos (show opn q ≠ 41 from z), if_pos rfl]
    by_cases y : opn q = 0
    · rw [if_pos y, if_neg (by decide)]
    · rcases opI_spec q σ h hq with ⟨a, _⟩ | ⟨a, b, _⟩
      · exact absurd a y
      · rw [if_neg y, if_neg (show ¬ (nI (opn q) = 41) from fun g => z ((nI_eq (b := 41) (by omega) (by decide)).mp g))]
theorem m_part {σ : Sg} {k v : Nat} {q : List Nat} (tm : TM σ k v) (hk : k ≤ 50) (h16 : σ.1 0 16 = nI q.length) (h : PLK σ q) (hq : q.length ≤ 150) : f_X12_partOf (if opn q = 0 then -1 else nI (opn q)) σ = some (if prt k q = 0 then -1 else if prt k q = 1 then nI 0 else nI (prt k q), σ) := by
  have t41 := m_tok tm hk (j := 41) (by decide)
  have ic := m_isCmp h16 h hq
  have sp := opI_spec q σ h hq
  unfold f_X12_partOf f_X12_partOf_46 f_X12_partOf_77 f_X12_partOf_78 f_X12_partOf_103 f_X12_partOf_125 prt
  have cs : opn q = 0 ∨ opn q = 40 ∨ opn q = 41 ∨ opn q = 42 ∨ opn q = 43 := by
    rcases sp with ⟨a, _⟩ | ⟨a, b, _⟩ <;> omega
  rcases cs with z | z | z | z | z
  · rw [z]
    rfl
  · rw [z, if_neg (show ¬ ((40 : Nat) = 0) by decide), if_pos (show nI 40 = 40 from rfl), if_pos (show (40 : Nat) = 40 from rfl)]
    by_cases x : k = 41
    · rw [if_pos (show σ.1 0 9 = 41 from t41.symm ▸ x), if_pos x]
      rfl
    · rw [if_neg (show ¬ (σ.1 0 9 = 41) from fun q => x (t41 ▸ q)), if_neg x]
      rfl
  · rw [z, if_neg (show ¬ ((41 : Nat) = 0) by decide), if_neg (show ¬ (nI 41 = 40) by decide), if_pos (show nI 41 = 41 from rfl), if_neg (show ¬ ((41 : Nat) = 40) by decide), if_pos (show (41 : Nat) = 41 from rfl), wd_25, e_bnd, m_isWord tm (j := 25) (by unfold isW; omega) (by decide) hk, e_bnd]
    by_cases x : k = 25
    · rw [if_pos x, if_neg (show ¬ (nI 1 = 0) by decide), ic, e_bnd]
      cases w : cmpd q with
      | true =>
        rw [if_pos (show true = true from rfl), if_neg (show ¬ (nI 1 = 0) by decide), if_pos (show k = 25 ∧ true = true from ⟨x, rfl⟩)]
        rfl
      | false =>
        rw [if_neg (show ¬ (false = true) by decide), if_pos (show nI 0 = 0 from rfl), if_neg (show ¬ (k = 25 ∧ false = true) from fun g => absurd g.2 (by decide))]
        rfl
    · rw [if_neg x, if_pos (show nI 0 = 0 from rfl), if_neg (show ¬ (k = 25 ∧ cmpd q = true) from fun g => x g.1)]
      rfl
  · rw [z, if_neg (show ¬ ((42 : Nat) = 0) by decide), if_neg (show ¬ (nI 42 = 40) by decide), if_neg (show ¬ (nI 42 = 41) by decide), if_pos (show nI 42 = 42 from rfl), if_neg (show ¬ ((42 : Nat) = 40) by decide), if_neg (show ¬ ((42 : Nat) = 41) by decide), if_pos (show (42 : Nat) = 42 from rfl), wd_26, e_bnd, m_isWord tm (j := 26) (by unfold isW; omega) (by decide) hk, e_bnd]
    by_cases x : k = 26
    · rw [if_pos x, if_neg (show ¬ (nI 1 = 0) by decide), if_pos x]
      rfl
    · rw [if_neg x, if_pos (show nI 0 = 0 from rfl), if_neg x]
      rfl
  · rw [z, if_neg (show ¬ ((43 : Nat) = 0) by decide), if_neg (show ¬ (nI 43 = 40) by decide), if_neg (show ¬ (nI 43 = 41) by decide), if_neg (show ¬ (nI 43 = 42) by decide), if_pos (show nI 43 = 43 from rfl), if_neg (show ¬ ((43 : Nat) = 40) by decide), if_neg (show ¬ ((43 : Nat) = 41) by decide), if_neg (show ¬ ((43 : Nat) = 42) by decide), if_pos (show (43 : Nat) = 43 from rfl), wd_27, e_bnd, m_isWord tm (j := 27) (by unfold isW; omega) (by decide) hk, e_bnd]
    by_cases x : k = 27
    · rw [if_pos x, if_neg (show ¬ (nI 1 = 0) by decide), if_pos x]
      rfl
    · rw [if_neg x, if_pos (show nI 0 = 0 from rfl), if_neg x]
      rfl
