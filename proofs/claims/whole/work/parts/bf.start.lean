/-! text: starts and ends of the reading -/
theorem nI_surj (v : Int32) : ∃ n, v = nI n := ⟨v.toUInt32.toNat, by
  show v = Int32.ofNat v.toUInt32.toNat
  cases v with
  | ofUInt32 u =>
    show Int32.ofUInt32 u = Int32.ofUInt32 (UInt32.ofNat u.toNat)
    rw [UInt32.ofNat_toNat]⟩
theorem CD_app1 {σ : Sg} {b : Nat} : ∀ {pre c : List (Nat × Nat)} {i : Nat}, CD σ b i (pre ++ c) → CD σ b (i + pre.length) c
  | [], _, _, h => h
  | x :: pre, c, i, h => by
    have := CD_app1 (pre := pre) (c := c) (i := i + 1) h.2.2.2
    rw [show i + (x :: pre).length = i + 1 + pre.length by simp only [List.length_cons]; omega]
    exact this
theorem CD_app0 {σ : Sg} {b : Nat} : ∀ {d c : List (Nat × Nat)} {i : Nat}, CD σ b i (d ++ c) → CD σ b i d
  | [], _, _, _ => trivial
  | _ :: d, c, i, h => ⟨h.1, h.2.1, h.2.2.1, CD_app0 (d := d) (c := c) (i := i + 1) h.2.2.2⟩
theorem LWM_end {T P E K V : Nat → Nat} {L t : Nat} {σ : Sg} {p n : Nat} {ck : Nat → Nat} {cn : Nat → Nat → Nat} {Lw : Nat → Option LV} {c : List (Nat × Nat)} (ht : t < 4) (I : CSM T P E K V L (705 * t) σ p n ck cn Lw c) : LWM σ t n ck Lw := by
  obtain ⟨_, hp, _, _, hcp, hC, hM, _, hL⟩ := I
  refine ⟨ht, hM.1, hM.2.1, fun k hk => ⟨(hM.2.2 k hk).1, (hM.2.2 k hk).2.1⟩, fun l hl => ?_⟩
  rcases hL l hl with g | ⟨v, k, d, pre, post, g1, g2, g3, g4, g5, g6, g7, g8⟩
  · exact Or.inl g
  · refine Or.inr ⟨v, k, pre.length, d, g1, g2, g3, g4, g5, g6, ?_, g8, ?_⟩
    · rw [g7] at hC
      have := CD_app1 hC
      rw [Nat.zero_add] at this
      exact CD_app0 this
    · have : c.length = pre.length + (d.length + post.length) := by rw [g7, List.length_append, List.length_append]
      omega
theorem MTX_end {T P E K V : Nat → Nat} {L t : Nat} {σ : Sg} {p n : Nat} {ck : Nat → Nat} {cn : Nat → Nat → Nat} {Lw : Nat → Option LV} {c : List (Nat × Nat)} (ht : t < 4) (I : CSM T P E K V L (705 * t) σ p n ck cn Lw c) : MTX σ t Lw n ck cn := ⟨SAY_of (LWM_end ht I), I.2.2.2.2.2.2.1.2.1, fun k hk => ⟨(I.2.2.2.2.2.2.1.2.2 k hk).1, (I.2.2.2.2.2.2.1.2.2 k hk).2.2⟩⟩
abbrev Sbg : Nat → Nat → Prop := fun x j => (x = 49 ∧ (j = 0 ∨ j = 1 ∨ j = 2 ∨ j = 4 ∨ j = 6 ∨ j = 9)) ∨ x = 57 ∨ x = 58
theorem x_begin (σ : Sg) : ∃ σ', f_X3_begin σ = some σ' ∧ fr Sbg σ σ' ∧ σ'.1 49 0 = nI 1 ∧ σ'.1 49 1 = nI 0 ∧ σ'.1 49 2 = -1 ∧ σ'.1 49 4 = nI 0 ∧ σ'.1 49 6 = nI 0 ∧ σ'.1 49 9 = nI 0 ∧ ∀ l, l < 3 → σ'.1 57 l = -1 := by
  obtain ⟨τ, hτ⟩ : ∃ τ, τ = wI (wI (wI (wI (wI (wI σ 49 0 1) 49 1 0) 49 2 (-1)) 49 4 0) 49 6 0) 49 9 0 := ⟨_, rfl⟩
  have e : f_X3_begin σ = f_X3_begin_32 FU 0 τ := by
    rw [hτ]
    unfold f_X3_begin
    rw [grd_of (by decide), e_lt, e_lt, e_lt, e_lt, e_lt, e_lt]
  have step : ∀ l, l < 3 → ∀ fu s, f_X3_begin_32 (fu + 1) (nI l) s = f_X3_begin_32 fu (nI (l + 1)) (wI (wI s 57 l (-1)) 58 l (-1)) := by
    intro l hl fu s
    show (if (3 : Int32) ≤ nI l then _ else _) = _
    rw [if_neg (show ¬ ((3 : Int32) ≤ nI l) from nI_ge (b := 3) hl (by decide)), grd_of (by rw [e_inb (by omega) (by decide)]; rfl), e_ix (by omega), e_lt, grd_of (by rw [e_inb (by omega) (by decide)]; rfl), e_lt, show nI l + 1 = nI (l + 1) from nI_add _ _]
  have last : ∀ fu s, f_X3_begin_32 (fu + 1) (nI 3) s = some s := by
    intro fu s
    show (if (3 : Int32) ≤ nI 3 then _ else _) = _
    rw [if_pos (by decide)]
  obtain ⟨fu, hf⟩ := FU_n (n := 3) (by decide)
  refine ⟨wI (wI (wI (wI (wI (wI τ 57 0 (-1)) 58 0 (-1)) 57 1 (-1)) 58 1 (-1)) 57 2 (-1)) 58 2 (-1), ?_, ?_, ?_, ?_, ?_, ?_, ?_, ?_, ?_⟩
  · rw [e, hf]
    have z : (0 : Int32) = nI 0 := rfl
    rw [z, step 0 (by decide) (fu + 1 + 2), step 1 (by decide) (fu + 1 + 1), step 2 (by decide) (fu + 1), last]
  · rw [hτ]
    exact (((((((((((fr.w (by omega)).trans (fr.w (by omega))).trans (fr.w (by omega))).trans (fr.w (by omega))).trans (fr.w (by omega))).trans (fr.w (by omega))).trans (fr.w (by omega))).trans (fr.w (by omega))).trans (fr.w (by omega))).trans (fr.w (by omega))).trans (fr.w (by omega))).trans (fr.w (by omega))
  · simp only [e_ne1 (show (49 : Nat) ≠ 57 by decide), e_ne1 (show (49 : Nat) ≠ 58 by decide)]
    rw [hτ, e_ne2 (by decide), e_ne2 (by decide), e_ne2 (by decide), e_ne2 (by decide), e_ne2 (by decide), e_hit]
    rfl
  · simp only [e_ne1 (show (49 : Nat) ≠ 57 by decide), e_ne1 (show (49 : Nat) ≠ 58 by decide)]
    rw [hτ, e_ne2 (by decide), e_ne2 (by decide), e_ne2 (by decide), e_ne2 (by decide), e_hit]
    rfl
  · simp only [e_ne1 (show (49 : Nat) ≠ 57 by decide), e_ne1 (show (49 : Nat) ≠ 58 by decide)]
    rw [hτ, e_ne2 (by decide), e_ne2 (by decide), e_ne2 (by decide), e_hit]
  · simp only [e_ne1 (show (49 : Nat) ≠ 57 by decide), e_ne1 (show (49 : Nat) ≠ 58 by decide)]
    rw [hτ, e_ne2 (by decide), e_ne2 (by decide), e_hit]
    rfl
  · simp only [e_ne1 (show (49 : Nat) ≠ 57 by decide), e_ne1 (show (49 : Nat) ≠ 58 by decide)]
    rw [hτ, e_ne2 (by decide), e_hit]
    rfl
  · simp only [e_ne1 (show (49 : Nat) ≠ 57 by decide), e_ne1 (show (49 : Nat) ≠ 58 by decide)]
    rw [hτ, e_hit]
    rfl
  · intro l hl
    have cs : l = 0 ∨ l = 1 ∨ l = 2 := by omega
    rcases cs with rfl | rfl | rfl
    · rw [e_ne1 (by decide), e_ne2 (by decide), e_ne1 (by decide), e_ne2 (by decide), e_ne1 (by decide), e_hit]
    · rw [e_ne1 (by decide), e_ne2 (by decide), e_ne1 (by decide), e_hit]
    · rw [e_ne1 (by decide), e_hit]
theorem CSX_start {K V P : Nat → Nat} {m : Nat} {σ : Sg} (h : XTk σ K V P m) (h1 : σ.1 49 1 = nI 0) (h2 : σ.1 49 2 = -1) (h4 : σ.1 49 4 = nI 0) (h6 : σ.1 49 6 = nI 0) (h9 : σ.1 49 9 = nI 0) (h57 : ∀ l, l < 3 → σ.1 57 l = -1) : CSX K V P m σ 0 0 0 (fun _ => 0) (fun _ _ => 0) (fun _ => none) (fun _ => (0, 0)) := by
  obtain ⟨lw, hlw⟩ := nI_surj (σ.1 49 12)
  exact ⟨h, ⟨lw, h1, h2, h4, h9, hlw⟩, Nat.zero_le _, Nat.zero_le _, fun j hj => absurd hj (Nat.not_lt_zero _), ⟨by decide, h6, fun k hk => absurd hk (Nat.not_lt_zero _)⟩, fun l hl => Or.inl ⟨rfl, h57 l hl⟩⟩
def NX0 (T P E K V : Nat → Nat) (L : Nat) : Prop := ∀ σ : Sg, σ.1 0 4 = nI L → (∀ i, i < L → σ.1 4 i = nI (T i)) → σ.1 0 7 = nI 0 → ∃ σ', f_X12_nextToken σ = some σ' ∧ NT T P E K V L σ' 0 ∧ fr Snt σ σ'
theorem mul705 : ∀ t, t < 4 → (705 : Int32) * nI t = nI (705 * t) := by decide +kernel
abbrev Srt : Nat → Nat → Prop := fun x j => Scm x j ∨ (x = 0 ∧ j = 12)
theorem m_readText {T P E K V : Nat → Nat} {L t : Nat} (hn0 : NX0 T P E K V L) (ht : t < 4) {σ : Sg} (h1 : σ.1 1 1 = nI t) (h4 : σ.1 0 4 = nI L) (hT : ∀ i, i < L → σ.1 4 i = nI (T i)) : ∃ τ, f_X12_readText σ = f_X12_readText_43 FU τ ∧ CSM T P E K V L (705 * t) τ 0 0 (fun _ => 0) (fun _ _ => 0) (fun _ => none) [] ∧ fr Srt σ τ ∧ frT (705 * t) σ τ := by
  obtain ⟨u, hu⟩ : ∃ u, u = wI (wI (wI (wI (wI σ 0 12 (nI (705 * t))) 3 (705 * t) 0) 0 13 0) 0 19 0) 0 7 0 := ⟨_, rfl⟩
  have fu : fr (fun x j => (x = 0 ∧ (j = 12 ∨ j = 13 ∨ j = 19 ∨ j = 7)) ∨ (x = 3 ∧ j = 705 * t)) σ u := by
    rw [hu]
    exact ((((fr.w (by omega)).trans (fr.w (by omega))).trans (fr.w (by omega))).trans (fr.w (by omega))).trans (fr.w (by omega))
  have u7 : u.1 0 7 = nI 0 := by rw [hu, e_hit]; rfl
  have u12 : u.1 0 12 = nI (705 * t) := by rw [hu, e_ne2 (by decide), e_ne2 (by decide), e_ne2 (by decide), e_ne1 (by decide), e_hit]
  have u13 : u.1 0 13 = nI 0 := by rw [hu, e_ne2 (by decide), e_ne2 (by decide), e_hit]; rfl
  have u19 : u.1 0 19 = nI 0 := by rw [hu, e_ne2 (by decide), e_hit]; rfl
  have uB : u.1 3 (705 * t) = nI 0 := by rw [hu, e_ne1 (by decide), e_ne1 (by decide), e_ne1 (by decide), e_hit]; rfl
  obtain ⟨v, v1, v2, v3⟩ := hn0 u (by rw [fu.1 _ _ (by omega)]; exact h4) (fun i hi => by rw [fu.1 _ _ (by omega)]; exact hT i hi) u7
  refine ⟨v, ?_, ⟨v2, Nat.zero_le _, by rw [v3.1 _ _ (by omega)]; exact u12, by rw [v3.1 _ _ (by omega)]; exact u13, Nat.zero_le _, trivial, ⟨by decide, by rw [v3.1 _ _ (by omega)]; exact uB, fun k hk => absurd hk (Nat.not_lt_zero _)⟩, ⟨0, by decide, by rw [v3.1 _ _ (by omega)]; exact u19, fun l hl => Nat.zero_testBit l⟩, fun l hl => Or.inl ⟨rfl, fun k hk => absurd hk (Nat.not_lt_zero _)⟩⟩, (fu.mono (fun x j q => by omega)).trans (v3.mono (fun x j q => by omega)), fun j hj => by rw [v3.1 _ _ (by omega), fu.1 _ _ (by omega)]⟩
  have i1 : ix (1 : Int32) = 1 := by decide
  unfold f_X12_readText
  rw [grd_of (by decide), i1, h1, mul705 t ht, e_lt, e_hit, grd_of (by rw [e_inb (by omega) (by decide)]; rfl), e_ix (by omega), e_lt, e_lt, e_lt, e_lt, ← hu, v1, e_bndV]
