/-! text: both readings of one tape -/
abbrev Stx : Nat → Nat → Prop := fun x j => (x = 49 ∧ (j = 0 ∨ j = 1 ∨ j = 2 ∨ j = 4 ∨ j = 6 ∨ j = 9 ∨ j = 12)) ∨ (x = 50 ∧ j = 3) ∨ (51 ≤ x ∧ x ≤ 58)
theorem j_text {L t : Nat} (hL : L ≤ 300) (ht : t < 4) {σX σM : Sg} (h4 : σM.1 0 4 = nI L) (hb : ∀ i, i < L → ∃ b, b < 256 ∧ σX.1 70 i = nI b ∧ σM.1 4 i = nI b) (h1 : σM.1 1 1 = nI t) : ∃ a b σX' σM' r m, f_X3_begin σX = some a ∧ f_X7_cut (nI L) a = some b ∧ xloop 25 b = some σX' ∧ f_X12_readText σM = some (r, σM') ∧ fr Stx σX a ∧ fr Stx σX b ∧ fr Stx σX σX' ∧ fr Srt σM σM' ∧ frT (705 * t) σM σM' ∧ σX'.1 49 0 = nI 1 ∧ ((r = nI 0 ∧ ∃ T q n ck cn Lw, JT T (plc L T) (Et L T) (Kt L T) (Vt L T) L m (705 * t) σX' σM' q n ck cn Lw) ∨ ∃ f pl, f ≠ 0 ∧ f < 100 ∧ r = nI f ∧ FS σX' m f pl ∧ σM'.1 0 8 = nI pl) := by
  obtain ⟨T, hT⟩ : ∃ T : Nat → Nat, ∀ i, i < L → T i < 256 ∧ σX.1 70 i = nI (T i) ∧ σM.1 4 i = nI (T i) := ⟨fun i => if h : i < L then Classical.choose (hb i h) else 0, fun i hi => by
    have e : (if h : i < L then Classical.choose (hb i h) else 0) = Classical.choose (hb i hi) := dif_pos hi
    show (if h : i < L then Classical.choose (hb i h) else 0) < 256 ∧ σX.1 70 i = nI (if h : i < L then Classical.choose (hb i h) else 0) ∧ σM.1 4 i = nI (if h : i < L then Classical.choose (hb i h) else 0)
    rw [e]
    exact Classical.choose_spec (hb i hi)⟩
  have hTb : ∀ i, i < L → T i < 256 := fun i hi => (hT i hi).1
  obtain ⟨a, a1, a2, a3, a4, a5, a6, a7, a8, a9⟩ := x_begin σX
  obtain ⟨m, b, b1, b2, b3, b4⟩ := x_cut (T := T) hL (σ := a) (fun k hk => ⟨by rw [a2.1 _ _ (by omega)]; exact (hT k hk).2.1, hTb k hk⟩)
  have tk : TK (Kt L T) (Vt L T) m := b2
  have xt : XTk b (Kt L T) (Vt L T) (plc L T) m := b3
  have cs := CSX_start xt (by rw [b4.1 _ _ (by omega)]; exact a4) (by rw [b4.1 _ _ (by omega)]; exact a5) (by rw [b4.1 _ _ (by omega)]; exact a6) (by rw [b4.1 _ _ (by omega)]; exact a7) (by rw [b4.1 _ _ (by omega)]; exact a8) (fun l hl => by rw [b4.1 _ _ (by omega)]; exact a9 l hl)
  obtain ⟨τ, t1, t2, t3, t4⟩ := m_readText (m_NX0 hL hTb) ht h1 h4 (fun i hi => (hT i hi).2.2)
  have J0 : JT T (plc L T) (Et L T) (Kt L T) (Vt L T) L m (705 * t) b τ 0 0 (fun _ => 0) (fun _ _ => 0) (fun _ => none) := ⟨⟨0, _, cs⟩, ⟨[], t2⟩, (fun _ _ h => nomatch h), ⟨by decide, fun k hk => absurd hk (Nat.not_lt_zero _)⟩⟩
  obtain ⟨f, hf⟩ := FU_n (n := 25) (by decide)
  obtain ⟨σX', σM', r, g1, g2, g3, g4, g5, g6⟩ := j_loop tk (m_NX hL hTb) (m_SPX hL hTb) (by omega) 25 0 b τ 0 _ _ _ (f + 1) rfl J0
  have fa : fr Stx σX a := a2.mono (fun x j q => by omega)
  have fb : fr Stx σX b := fa.trans (b4.mono (fun x j q => by omega))
  refine ⟨a, b, σX', σM', r, m, a1, b1, g1, ?_, fa, fb, fb.trans (g3.mono (fun x j q => by omega)), t3.trans (g4.mono (fun x j q => Or.inl q)), t4.trans g5, by rw [g3.1 _ _ (by omega), b4.1 _ _ (by omega)]; exact a3, ?_⟩
  · rw [t1, hf]
    exact g2
  · rcases g6 with ⟨e, q, n', ck', cn', Lw', J⟩ | g
    · exact Or.inl ⟨e, T, q, n', ck', cn', Lw', J⟩
    · exact Or.inr g
