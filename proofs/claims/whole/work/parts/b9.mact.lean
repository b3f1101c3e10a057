/-! text: the reference's kinds and acts -/
def SPX (T P E K V : Nat → Nat) (L : Nat) : Prop := ∀ σ p, NT T P E K V L σ p → f_X12_isSpreads σ = some (if K p = 1 then nI 1 else nI 0, σ)
theorem m_sortOf {T P E K V : Nat → Nat} {L p : Nat} (hsp : SPX T P E K V L) (hK50 : ∀ j, K j ≤ 50) {σ : Sg} (hT : NT T P E K V L σ p) : f_X12_sortOf σ = some (if K p ≤ 11 then nI (K p) else -1, σ) := by
  have tm := hT.1
  have k50 := hK50 p
  have sp := hsp σ p hT
  have is : ∀ j, j ≤ 11 → j ≠ 1 → f_X12_isWord (iL (pkw j : Nat)) σ = some (if K p = j then nI 1 else nI 0, σ) := fun j h g => m_isWord tm (by unfold isW; omega) g k50
  have n10 : ¬ (nI 1 = 0) := by decide
  have y0 : nI 0 = 0 := rfl
  unfold f_X12_sortOf f_X12_sortOf_262
  rw [wd_0, e_bnd, is 0 (by decide) (by decide), e_bnd]
  by_cases c : K p = 0
  · rw [if_pos c, if_neg n10, if_pos (by omega), c]
    rfl
  rw [if_neg c, if_pos y0, sp, e_bnd]
  by_cases c : K p = 1
  · rw [if_pos c, if_neg n10, if_pos (by omega), c]
    rfl
  rw [if_neg c, if_pos y0, wd_2, e_bnd, is 2 (by decide) (by decide), e_bnd]
  by_cases c : K p = 2
  · rw [if_pos c, if_neg n10, if_pos (by omega), c]
    rfl
  rw [if_neg c, if_pos y0, wd_3, e_bnd, is 3 (by decide) (by decide), e_bnd]
  by_cases c : K p = 3
  · rw [if_pos c, if_neg n10, if_pos (by omega), c]
    rfl
  rw [if_neg c, if_pos y0, wd_4, e_bnd, is 4 (by decide) (by decide), e_bnd]
  by_cases c : K p = 4
  · rw [if_pos c, if_neg n10, if_pos (by omega), c]
    rfl
  rw [if_neg c, if_pos y0, wd_5, e_bnd, is 5 (by decide) (by decide), e_bnd]
  by_cases c : K p = 5
  · rw [if_pos c, if_neg n10, if_pos (by omega), c]
    rfl
  rw [if_neg c, if_pos y0, wd_6, e_bnd, is 6 (by decide) (by decide), e_bnd]
  by_cases c : K p = 6
  · rw [if_pos c, if_neg n10, if_pos (by omega), c]
    rfl
  rw [if_neg c, if_pos y0, wd_7, e_bnd, is 7 (by decide) (by decide), e_bnd]
  by_cases c : K p = 7
  · rw [if_pos c, if_neg n10, if_pos (by omega), c]
    rfl
  rw [if_neg c, if_pos y0, wd_8, e_bnd, is 8 (by decide) (by decide), e_bnd]
  by_cases c : K p = 8
  · rw [if_pos c, if_neg n10, if_pos (by omega), c]
    rfl
  rw [if_neg c, if_pos y0, wd_9, e_bnd, is 9 (by decide) (by decide), e_bnd]
  by_cases c : K p = 9
  · rw [if_pos c, if_neg n10, if_pos (by omega), c]
    rfl
  rw [if_neg c, if_pos y0, wd_10, e_bnd, is 10 (by decide) (by decide), e_bnd]
  by_cases c : K p = 10
  · rw [if_pos c, if_neg n10, if_pos (by omega), c]
    rfl
  rw [if_neg c, if_pos y0, wd_11, e_bnd, is 11 (by decide) (by decide), e_bnd]
  by_cases c : K p = 11
  · rw [if_pos c, if_neg n10, if_pos (by omega), c]
    rfl
  rw [if_neg c, if_pos y0, if_neg (by omega)]
abbrev Sfg (b : Nat) : Nat → Nat → Prop := fun x j => (x = 3 ∧ b + 1 ≤ j ∧ j ≤ b + 3) ∨ (x = 0 ∧ 7 ≤ j ∧ j ≤ 10)
def OKA (T P E K V : Nat → Nat) (L b : Nat) (σ0 σ : Sg) (r : PR) : Prop := NT T P E K V L σ r.2.1 ∧ r.2.1 ≤ 300 ∧ fr (Sfg b) σ0 σ ∧ ∀ j, j < r.2.2.length → σ.1 3 (b + 1 + j) = nI (nth r.2.2 j)
def AO (T P E K V : Nat → Nat) (L b : Nat) (σ0 : Sg) (r : PR) (o : Option (Int32 × Sg)) : Prop := (r.1 = 0 → ∃ σ', o = some (nI 0, σ') ∧ OKA T P E K V L b σ0 σ' r) ∧ (r.1 ≠ 0 → ∃ σ', o = some (nI r.1, σ') ∧ σ'.1 0 8 = nI (P r.2.1) ∧ fr (Sfg b) σ0 σ')
theorem nth_lt {x : Nat × Nat} : ∀ {c : List (Nat × Nat)} {j : Nat}, j < c.length → nth (c ++ [x]) j = nth c j
  | [], _, h => absurd h (Nat.not_lt_zero _)
  | _ :: _, 0, _ => rfl
  | y :: c, j + 1, h => nth_lt (c := c) (j := j) (Nat.lt_of_succ_lt_succ h)
theorem nth_at {x : Nat × Nat} : ∀ {c : List (Nat × Nat)}, nth (c ++ [x]) c.length = x.1
  | [] => rfl
  | _ :: c => nth_at (c := c)
theorem as_fig {T P E K V : Nat → Nat} {L b : Nat} (hnx : NX T P E K V L) (hK50 : ∀ j, K j ≤ 50) (hK : ∀ j, 300 ≤ j → K j = 45) (hb : b + 4 ≤ 2820) {σ0 σ : Sg} {r : PR} (lo hi i : Nat) (hlo : lo < 10000) (hhi : hi < 10000) (hr : r.1 = 0) (hl : r.2.2.length = i) (hi3 : i < 3) (h : OKA T P E K V L b σ0 σ r) : AO T P E K V L b σ0 (nxR (numP K V lo hi) r) (f_X12_figure (nI (b + 1 + i)) (nI lo) (nI hi) σ) := by
  obtain ⟨hT, hp, hf, hc⟩ := h
  have e : nxR (numP K V lo hi) r = bnR (numP K V lo hi r.2.1) fun s d => (0, s, r.2.2 ++ d) := bnR_0 hr
  have tm := hT.1
  have k50 := hK50 r.2.1
  have t1 := m_tok1 tm k50
  unfold f_X12_figure
  by_cases z : K r.2.1 = 43
  · have p300 : r.2.1 < 300 := Nat.lt_of_not_le fun g => by rw [hK _ g] at z; exact absurd z (by decide)
    have tw : ∃ w, w ≤ 2000000 ∧ σ.1 0 10 = nI w ∧ ((w = V r.2.1 ∧ V r.2.1 ≤ 9999) ∨ (9999 < w ∧ 9999 < V r.2.1)) := by
      rcases tm with ⟨q, _⟩ | ⟨_, _, q⟩ | ⟨q, _⟩ | ⟨q, _⟩ | ⟨q, _⟩
      · omega
      · exact q
      · omega
      · omega
      · unfold isW at q
        omega
    obtain ⟨w, w1, w2, w3⟩ := tw
    rw [if_pos (show σ.1 0 9 = 1 from t1.mpr z), w2, m_isIn, e_bnd]
    by_cases y : lo ≤ V r.2.1 ∧ V r.2.1 ≤ hi
    · have wv : w = V r.2.1 := by omega
      have en : numP K V lo hi r.2.1 = (0, r.2.1 + 1, [(V r.2.1, 0)]) := by
        unfold numP
        rw [if_pos z, if_pos y]
      rw [e, en, if_pos (show nI lo ≤ nI w ∧ nI w ≤ nI hi from ⟨nI_le (by omega) (by omega), nI_le (by omega) (by omega)⟩), if_neg (show ¬ (nI 1 = 0) by decide), grd_of (by rw [e_inb (by omega) (by decide)]; rfl), e_ix (by omega), w2, e_lt]
      obtain ⟨u, u1, u2, u3⟩ := hnx (wI σ 3 (b + 1 + i) (nI w)) r.2.1 (hT.of (fun j hj => by rw [e_ne1 (by decide)]) (fun j => by rw [e_ne1 (by decide)]) rfl)
      refine ⟨fun _ => ⟨u, ?_, u2, ?_, (hf.trans (fr.w (by omega))).trans (u3.mono (fun x j q => by omega)), fun j hj => ?_⟩, fun q => absurd rfl q⟩
      · rw [u1, e_bndV]
        rfl
      · show r.2.1 + 1 ≤ 300
        omega
      · have hj' : j < r.2.2.length + 1 := by
          have : j < (r.2.2 ++ [(V r.2.1, 0)]).length := hj
          rw [List.length_append] at this
          exact this
        show u.1 3 (b + 1 + j) = nI (nth (r.2.2 ++ [(V r.2.1, 0)]) j)
        rw [u3.1 _ _ (by omega)]
        by_cases x : j < r.2.2.length
        · rw [nth_lt x, e_ne2 (by omega)]
          exact hc j x
        · have : j = i := by omega
          have en2 : nth (r.2.2 ++ [(V r.2.1, 0)]) j = V r.2.1 := by
            rw [this, ← hl]
            exact nth_at
          rw [en2, this, e_hit, wv]
    · have en : numP K V lo hi r.2.1 = (2, r.2.1, []) := by
        unfold numP
        rw [if_pos z, if_neg y]
      rw [e, en, if_neg (show ¬ (nI lo ≤ nI w ∧ nI w ≤ nI hi) from fun q => by
        have q1 := (nI_leI (a := lo) (b := w) (by omega) (by omega)).mp q.1
        have q2 := (nI_leI (a := w) (b := hi) (by omega) (by omega)).mp q.2
        omega), if_pos (show nI 0 = 0 from rfl)]
      exact ⟨fun q => absurd (show (2 : Nat) = 0 from q) (by decide), fun _ => ⟨σ, rfl, hT.2.1, hf⟩⟩
  · have en : numP K V lo hi r.2.1 = (1, r.2.1, []) := by
      unfold numP
      rw [if_neg z]
    rw [e, en, if_neg (show ¬ (σ.1 0 9 = 1) from fun q => z (t1.mp q))]
    exact ⟨fun q => absurd (show (1 : Nat) = 0 from q) (by decide), fun _ => ⟨σ, rfl, hT.2.1, hf⟩⟩
