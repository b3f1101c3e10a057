/-! text: the reference's sum as the parser's -/
theorem m_summed {T P E K V : Nat → Nat} {L B lw : Nat} (hnx : NX T P E K V L) (hK50 : ∀ j, K j ≤ 50) (hK : ∀ j, 300 ≤ j → K j = 45) (hV : ∀ j, V j ≤ 10000) (hB : B + 705 ≤ 2820) (hlw : lw < 3) {σ : Sg} {p : Nat} {c0 : List (Nat × Nat)} (hp : p ≤ 300) (hT : NT T P E K V L σ p) (h12 : σ.1 0 12 = nI B) (h13 : σ.1 0 13 = nI c0.length) (h14 : σ.1 0 14 = nI lw) (hC : CD σ (B + 97) 0 c0) (hc : c0.length ≤ p) : ((sumP K (OA K V lw 300 8).1 300 p).1 = 0 → (sumP K (OA K V lw 300 8).1 300 p).2.1 ≤ 300 ∧ c0.length + (sumP K (OA K V lw 300 8).1 300 p).2.2.length ≤ (sumP K (OA K V lw 300 8).1 300 p).2.1 ∧ ∃ σ', f_X12_summed σ = some (nI 0, σ') ∧ NT T P E K V L σ' (sumP K (OA K V lw 300 8).1 300 p).2.1 ∧ σ'.1 0 13 = nI (c0.length + (sumP K (OA K V lw 300 8).1 300 p).2.2.length) ∧ CD σ' (B + 97) 0 (c0 ++ (sumP K (OA K V lw 300 8).1 300 p).2.2) ∧ fr Smp σ σ' ∧ frB B σ σ') ∧ ((sumP K (OA K V lw 300 8).1 300 p).1 ≠ 0 → ∃ σ', f_X12_summed σ = some (nI (sumP K (OA K V lw 300 8).1 300 p).1, σ') ∧ σ'.1 0 8 = nI (P (sumP K (OA K V lw 300 8).1 300 p).2.1) ∧ fr Smp σ σ' ∧ frB B σ σ') := by
  obtain ⟨τ, hτ⟩ : ∃ τ, τ = wI (wI (wI σ 0 16 0) 0 17 0) 0 18 0 := ⟨_, rfl⟩
  have e : f_X12_summed σ = f_X12_summed_15 FU τ := by
    rw [hτ]
    unfold f_X12_summed
    rw [e_lt, e_lt, grd_of (by decide), e_lt]
  have f0 : fr Smp σ τ := by
    rw [hτ]
    exact ((fr.w (by omega)).trans (fr.w (by omega))).trans (fr.w (by omega))
  have fB : frB B σ τ := fun j _ => by rw [hτ, e_ne1 (by decide), e_ne1 (by decide), e_ne1 (by decide)]
  have fo : ∀ a j, ¬ (a = 0 ∧ 16 ≤ j ∧ j ≤ 18) → τ.1 a j = σ.1 a j := by
    have fx : fr (fun a j => a = 0 ∧ 16 ≤ j ∧ j ≤ 18) σ τ := by
      rw [hτ]
      exact ((fr.w (by omega)).trans (fr.w (by omega))).trans (fr.w (by omega))
    exact fun a j h => fx.1 a j h
  have hP : PMS T P E K V L τ B lw (false, p, [], 0, c0) := by
    refine ⟨hT.of (fun j hj => fo _ _ (by omega)) (fun j => fo _ _ (by omega)) (by rw [hτ]; rfl), ⟨?_, ?_, ?_, ?_, trivial, hC.of (fun j _ _ => fo _ _ (by omega)), rfl⟩, ?_, ?_, ?_⟩
    · rw [fo _ _ (by omega)]; exact h12
    · rw [fo _ _ (by omega)]; exact h13
    · rw [hτ, e_ne2 (by decide), e_ne2 (by decide), e_hit]; rfl
    · rw [hτ, e_ne2 (by decide), e_hit]; rfl
    · rw [fo _ _ (by omega)]; exact h14
    · rw [hτ, e_hit]; rfl
    · show c0.length + 0 ≤ p
      omega
  have pl := pile_law (V := V) (lw := lw) (N := 300) rfl hK p c0
  have fb := fb_sumP (K := K) (N := 300) (fb_OA (K := K) (V := V) (lw := lw) (N := 300) 8).1 p
  obtain ⟨r, hr⟩ : ∃ r, r = sumP K (OA K V lw 300 8).1 300 p := ⟨_, rfl⟩
  rw [← hr] at pl fb ⊢
  rw [e]
  refine ⟨fun z => ?_, fun z => ?_⟩
  · obtain ⟨k, X, k1, k2⟩ := pl.1 z
    obtain ⟨_, rb, _⟩ := m_run hnx hK50 hK hV hB hlw k _ _ 0 τ k1 hP hp
    have kb : k ≤ 300 := by
      have := (m_run hnx hK50 hK hV hB hlw k _ _ 0 τ k1 hP hp).1
      dsimp only at this rb
      omega
    obtain ⟨fu, hfu⟩ := FU_n (n := k) (by omega)
    obtain ⟨_, _, u, u1, u2, u3, u4⟩ := m_run hnx hK50 hK hV hB hlw k _ _ (fu + 1) τ k1 hP hp
    dsimp only at rb
    have l150 : X.1.length ≤ 150 := by
      refine Nat.le_of_not_lt fun g => ?_
      have : mst K V lw (true, r.2.1, X) = (99, true, r.2.1, X) := if_pos g
      rw [k2] at this
      exact absurd (congrArg (fun x => x.1) this) (show ¬ ((1 : Nat) = 99) by decide)
    have k3 : bhd K r.2.1 X = (1, true, r.2.1, [], 0, c0 ++ r.2.2) := by
      rw [← k2]
      unfold mst
      rw [if_neg (show ¬ (150 < X.1.length) by omega), if_pos rfl]
    have bz1 : (bhd K r.2.1 X).1 ≠ 0 := by rw [k3]; exact (by decide : (1 : Nat) ≠ 0)
    have b := (m_behOne hnx hK50 hB rb u2 l150).2 bz1
    have opx : opn X.1 = 0 ∧ st 1 X = ([], 0, c0 ++ r.2.2) := by
      unfold bhd at k3
      by_cases y1 : btw (K r.2.1) X.1 ≠ 0
      · rw [if_pos y1] at k3
        exact absurd (congrArg (fun x => x.1) k3) (show ¬ ((0 : Nat) = 1) by decide)
      rw [if_neg y1] at k3
      by_cases y2 : prt (K r.2.1) X.1 = 0
      · rw [if_pos y2] at k3
        by_cases y3 : opn X.1 = 0
        · rw [if_pos y3] at k3
          exact ⟨y3, congrArg (fun x => x.2.2.2) k3⟩
        · rw [if_neg y3] at k3
          exact absurd (congrArg (fun x => x.1) k3) (show ¬ ((11 : Nat) = 1) by decide)
      rw [if_neg y2] at k3
      by_cases y3 : prt (K r.2.1) X.1 = 1
      · rw [if_pos y3] at k3
        exact absurd (congrArg (fun x => x.1) k3) (show ¬ ((0 : Nat) = 1) by decide)
      · rw [if_neg y3] at k3
        exact absurd (congrArg (fun x => x.1) k3) (show ¬ ((0 : Nat) = 1) by decide)
    have hS := u2.2.1
    have hl := u2.2.2.2.2
    dsimp only at hS hl
    obtain ⟨v, v1, v2, v3, v4, v5⟩ := m_settle (l := 1) hB (by decide) hS (by omega) l150
    have v1' : f_X12_settle 1 u = some v := v1
    rw [opx.2] at v4
    have ln := stl_len (l := 1) X.1 X.2.1 X.2.2
    change (st 1 X).1.length + (st 1 X).2.2.length = _ at ln
    rw [opx.2] at ln
    simp only [List.length_append, List.length_nil] at ln
    refine ⟨rb, by omega, v, ?_, u2.1.of (fun j hj => v2.1 _ _ (by omega)) (fun j => v2.1 _ _ (by omega)) v5, ?_, v4.2.2.2.2.2.1, (f0.trans u3).trans (v2.mono (fun x j q => by omega)), (fB.trans u4).trans v3⟩
    · rw [hfu, u1]
      have h18 : u.1 0 18 = nI 1 := u2.2.2.2.1
      show (if (u.1 0 18) = 0 then _ else _) = _
      rw [h18, if_neg (show ¬ (nI 1 = 0) by decide), b, e_bnd, if_pos (show nI 0 = 0 from rfl), m_openNow hS.2.2.1 hS.2.2.2.2.1 l150, if_pos opx.1, e_bnd, if_pos (show (-1 : Int32) < 0 by decide), v1', e_bndV]
      rfl
    · have := v4.2.1
      simp only [List.length_append] at this
      exact this
  · obtain ⟨k, S', k1, k2, k3⟩ := pl.2 z
    obtain ⟨rp, rb, _⟩ := m_run hnx hK50 hK hV hB hlw k _ _ 0 τ k1 hP hp
    dsimp only at rp
    obtain ⟨fu, hfu⟩ := FU_n (n := k) (by omega)
    obtain ⟨_, _, u, u1, u2, u3, u4⟩ := m_run hnx hK50 hK hV hB hlw k _ _ (fu + 1) τ k1 hP hp
    have l150 : S'.2.2.1.length ≤ 150 := by
      refine Nat.le_of_not_lt fun g => ?_
      have : mst K V lw S' = (99, S') := if_pos g
      rw [this] at k3
      have k3' : (99 : Nat) = 10 + r.1 := k3
      omega
    obtain ⟨b, q, X⟩ := S'
    dsimp only at k2 l150 rb
    have eM : mst K V lw (b, q, X) = if b = true then bhd K q X else bgn K V lw q X := if_neg (show ¬ (150 < X.1.length) by omega)
    rw [eM] at k3
    have h18 := u2.2.2.2.1
    have u8 := u2.1.2.1
    dsimp only at u8
    refine ⟨u, ?_, by rw [u8, k2], f0.trans u3, fB.trans u4⟩
    rw [hfu, u1]
    cases b with
    | true =>
      rw [if_pos rfl] at k3
      have h18' : u.1 0 18 = nI 1 := h18
      have r1 : r.1 = 1 ∧ opn X.1 ≠ 0 := by
        unfold bhd at k3
        by_cases y1 : btw (K q) X.1 ≠ 0
        · rw [if_pos y1] at k3
          have : (0 : Nat) = 10 + r.1 := k3
          omega
        rw [if_neg y1] at k3
        by_cases y2 : prt (K q) X.1 = 0
        · rw [if_pos y2] at k3
          by_cases y3 : opn X.1 = 0
          · rw [if_pos y3] at k3
            have : (1 : Nat) = 10 + r.1 := k3
            omega
          · rw [if_neg y3] at k3
            have : (11 : Nat) = 10 + r.1 := k3
            exact ⟨by omega, y3⟩
        rw [if_neg y2] at k3
        by_cases y3 : prt (K q) X.1 = 1
        · rw [if_pos y3] at k3
          have : (0 : Nat) = 10 + r.1 := k3
          omega
        · rw [if_neg y3] at k3
          have : (0 : Nat) = 10 + r.1 := k3
          omega
      have b := (m_behOne hnx hK50 hB rb u2 l150).2 (by rw [k3]; omega)
      have hS := u2.2.1
      dsimp only at hS
      have sp := opI_spec X.1 u hS.2.2.2.2.1 l150
      show (if (u.1 0 18) = 0 then _ else _) = _
      rw [h18', if_neg (show ¬ (nI 1 = 0) by decide), b, e_bnd, if_pos (show nI 0 = 0 from rfl), m_openNow hS.2.2.1 hS.2.2.2.2.1 l150, if_neg r1.2, e_bnd, if_neg (nI_pos (n := opn X.1) (by rcases sp with ⟨a, _⟩ | ⟨a, b, _⟩ <;> omega)), r1.1]
      rfl
    | false =>
      rw [if_neg (by decide)] at k3
      have h18' : u.1 0 18 = nI 0 := h18
      have b := (m_begOne hnx hK50 hV hB hlw rb u2 l150).2 (by rw [k3]; omega)
      rw [k3, show 10 + r.1 - 10 = r.1 by omega] at b
      show (if (u.1 0 18) = 0 then _ else _) = _
      rw [h18', if_pos (show nI 0 = 0 from rfl), b, e_bnd, if_neg (show ¬ (nI r.1 = 0) from fun g => z ((nI_eq (b := 0) (by omega) (by decide)).mp g))]
