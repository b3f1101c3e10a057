/-! what the class writes into a town -/
theorem XT.wood {σ : Sg} {t : Nat} {A : Nat → Nat} (hX : XT σ t A) {h : Nat} (hh8 : h < 8) (v : Nat) : XT (wI σ (t + 1) h (nI v)) t (up A (10 + 5 * h + 3) v) := by
  obtain ⟨h0, h5, h6, h7, hw, hk, hf, hh⟩ := hX
  refine ⟨by rw [wI_rd, if_neg (by omega), up_ne (by omega)]; exact h0, by rw [wI_rd, if_neg (by omega), up_ne (by omega)]; exact h5, by rw [wI_rd, if_neg (by omega), up_ne (by omega)]; exact h6, by rw [wI_rd, if_neg (by omega), up_ne (by omega)]; exact h7, fun k hk2 => by
    by_cases q : k = h
    · subst q; rw [e_hit, up_hit]
    · rw [e_ne2 q, up_ne (by omega)]; exact hw k hk2, fun k hk2 => by rw [e_ne1 (by omega), up_ne (by omega)]; exact hk k hk2, fun k hk2 => by rw [e_ne1 (by omega), up_ne (by omega)]; exact hf k hk2, fun k hk2 => by rw [e_ne1 (by omega), up_ne (by omega)]; exact hh k hk2⟩
theorem XT.coins {σ : Sg} {t : Nat} {A : Nat → Nat} (hX : XT σ t A) {h : Nat} (hh8 : h < 8) (v : Nat) : XT (wI σ (t + 2) h (nI v)) t (up A (10 + 5 * h + 2) v) := by
  obtain ⟨h0, h5, h6, h7, hw, hk, hf, hh⟩ := hX
  refine ⟨by rw [wI_rd, if_neg (by omega), up_ne (by omega)]; exact h0, by rw [wI_rd, if_neg (by omega), up_ne (by omega)]; exact h5, by rw [wI_rd, if_neg (by omega), up_ne (by omega)]; exact h6, by rw [wI_rd, if_neg (by omega), up_ne (by omega)]; exact h7, fun k hk2 => by rw [e_ne1 (by omega), up_ne (by omega)]; exact hw k hk2, fun k hk2 => by
    by_cases q : k = h
    · subst q; rw [e_hit, up_hit]
    · rw [e_ne2 q, up_ne (by omega)]; exact hk k hk2, fun k hk2 => by rw [e_ne1 (by omega), up_ne (by omega)]; exact hf k hk2, fun k hk2 => by rw [e_ne1 (by omega), up_ne (by omega)]; exact hh k hk2⟩
theorem XT.fire {σ : Sg} {t : Nat} {A : Nat → Nat} (hX : XT σ t A) {h : Nat} (hh8 : h < 8) (v : Nat) : XT (wI σ (t + 3) h (nI v)) t (up A (10 + 5 * h) v) := by
  obtain ⟨h0, h5, h6, h7, hw, hk, hf, hh⟩ := hX
  refine ⟨by rw [wI_rd, if_neg (by omega), up_ne (by omega)]; exact h0, by rw [wI_rd, if_neg (by omega), up_ne (by omega)]; exact h5, by rw [wI_rd, if_neg (by omega), up_ne (by omega)]; exact h6, by rw [wI_rd, if_neg (by omega), up_ne (by omega)]; exact h7, fun k hk2 => by rw [e_ne1 (by omega), up_ne (by omega)]; exact hw k hk2, fun k hk2 => by rw [e_ne1 (by omega), up_ne (by omega)]; exact hk k hk2, fun k hk2 => by
    by_cases q : k = h
    · subst q; rw [e_hit, up_hit]
    · rw [e_ne2 q, up_ne (by omega)]; exact hf k hk2, fun k hk2 => by rw [e_ne1 (by omega), up_ne (by omega)]; exact hh k hk2⟩
theorem XT.heat {σ : Sg} {t : Nat} {A : Nat → Nat} (hX : XT σ t A) {h : Nat} (hh8 : h < 8) (v : Nat) : XT (wI σ (t + 4) h (nI v)) t (up A (10 + 5 * h + 1) v) := by
  obtain ⟨h0, h5, h6, h7, hw, hk, hf, hh⟩ := hX
  refine ⟨by rw [wI_rd, if_neg (by omega), up_ne (by omega)]; exact h0, by rw [wI_rd, if_neg (by omega), up_ne (by omega)]; exact h5, by rw [wI_rd, if_neg (by omega), up_ne (by omega)]; exact h6, by rw [wI_rd, if_neg (by omega), up_ne (by omega)]; exact h7, fun k hk2 => by rw [e_ne1 (by omega), up_ne (by omega)]; exact hw k hk2, fun k hk2 => by rw [e_ne1 (by omega), up_ne (by omega)]; exact hk k hk2, fun k hk2 => by rw [e_ne1 (by omega), up_ne (by omega)]; exact hf k hk2, fun k hk2 => by
    by_cases q : k = h
    · subst q; rw [e_hit, up_hit]
    · rw [e_ne2 q, up_ne (by omega)]; exact hh k hk2⟩
theorem XT.count {σ : Sg} {t : Nat} {A : Nat → Nat} (hX : XT σ t A) (v : Nat) : XT (wI σ t 0 (nI v)) t (up A 0 v) := by
  obtain ⟨h0, h5, h6, h7, hw, hk, hf, hh⟩ := hX
  refine ⟨by rw [e_hit, up_hit], by rw [e_ne2 (by decide), up_ne (by decide)]; exact h5, by rw [e_ne2 (by decide), up_ne (by decide)]; exact h6, by rw [e_ne2 (by decide), up_ne (by decide)]; exact h7, fun k hk2 => by rw [e_ne1 (by omega), up_ne (by omega)]; exact hw k hk2, fun k hk2 => by rw [e_ne1 (by omega), up_ne (by omega)]; exact hk k hk2, fun k hk2 => by rw [e_ne1 (by omega), up_ne (by omega)]; exact hf k hk2, fun k hk2 => by rw [e_ne1 (by omega), up_ne (by omega)]; exact hh k hk2⟩
theorem XT.clock {σ : Sg} {t : Nat} {A : Nat → Nat} (hX : XT σ t A) (v : Nat) : XT (wI σ t 5 (nI v)) t (up A 6 v) := by
  obtain ⟨h0, h5, h6, h7, hw, hk, hf, hh⟩ := hX
  refine ⟨by rw [e_ne2 (by decide), up_ne (by decide)]; exact h0, by rw [e_hit, up_hit], by rw [e_ne2 (by decide), up_ne (by decide)]; exact h6, by rw [e_ne2 (by decide), up_ne (by decide)]; exact h7, fun k hk2 => by rw [e_ne1 (by omega), up_ne (by omega)]; exact hw k hk2, fun k hk2 => by rw [e_ne1 (by omega), up_ne (by omega)]; exact hk k hk2, fun k hk2 => by rw [e_ne1 (by omega), up_ne (by omega)]; exact hf k hk2, fun k hk2 => by rw [e_ne1 (by omega), up_ne (by omega)]; exact hh k hk2⟩
theorem XT.wind {σ : Sg} {t : Nat} {A : Nat → Nat} (hX : XT σ t A) (v : Nat) : XT (wI σ t 6 (nI v)) t (up A 7 v) := by
  obtain ⟨h0, h5, h6, h7, hw, hk, hf, hh⟩ := hX
  refine ⟨by rw [e_ne2 (by decide), up_ne (by decide)]; exact h0, by rw [e_ne2 (by decide), up_ne (by decide)]; exact h5, by rw [e_hit, up_hit], by rw [e_ne2 (by decide), up_ne (by decide)]; exact h7, fun k hk2 => by rw [e_ne1 (by omega), up_ne (by omega)]; exact hw k hk2, fun k hk2 => by rw [e_ne1 (by omega), up_ne (by omega)]; exact hk k hk2, fun k hk2 => by rw [e_ne1 (by omega), up_ne (by omega)]; exact hf k hk2, fun k hk2 => by rw [e_ne1 (by omega), up_ne (by omega)]; exact hh k hk2⟩
theorem XT.drawn {σ : Sg} {t : Nat} {A : Nat → Nat} (hX : XT σ t A) (v : Nat) : XT (wI σ t 7 (nI v)) t (up A 8 v) := by
  obtain ⟨h0, h5, h6, h7, hw, hk, hf, hh⟩ := hX
  refine ⟨by rw [e_ne2 (by decide), up_ne (by decide)]; exact h0, by rw [e_ne2 (by decide), up_ne (by decide)]; exact h5, by rw [e_ne2 (by decide), up_ne (by decide)]; exact h6, by rw [e_hit, up_hit], fun k hk2 => by rw [e_ne1 (by omega), up_ne (by omega)]; exact hw k hk2, fun k hk2 => by rw [e_ne1 (by omega), up_ne (by omega)]; exact hk k hk2, fun k hk2 => by rw [e_ne1 (by omega), up_ne (by omega)]; exact hf k hk2, fun k hk2 => by rw [e_ne1 (by omega), up_ne (by omega)]; exact hh k hk2⟩
theorem XT.other {σ : Sg} {t : Nat} {A : Nat → Nat} (hX : XT σ t A) {k i : Nat} {v : Int32} (h : k < t ∨ t + 4 < k ∨ (k = t ∧ 8 ≤ i)) : XT (wI σ k i v) t A := by
  obtain ⟨h0, h5, h6, h7, hw, hk, hf, hh⟩ := hX
  refine ⟨by rw [wI_rd, if_neg (by omega)]; exact h0, by rw [wI_rd, if_neg (by omega)]; exact h5, by rw [wI_rd, if_neg (by omega)]; exact h6, by rw [wI_rd, if_neg (by omega)]; exact h7, fun k hk2 => by rw [wI_rd, if_neg (by omega)]; exact hw k hk2, fun k hk2 => by rw [wI_rd, if_neg (by omega)]; exact hk k hk2, fun k hk2 => by rw [wI_rd, if_neg (by omega)]; exact hf k hk2, fun k hk2 => by rw [wI_rd, if_neg (by omega)]; exact hh k hk2⟩
theorem XT.congr {σ : Sg} {t : Nat} {A B : Nat → Nat} (hX : XT σ t A) (h : ∀ j, (j = 0 ∨ (6 ≤ j ∧ j < 9) ∨ (10 ≤ j ∧ j < 50 ∧ j % 5 < 4)) → A j = B j) : XT σ t B := by
  obtain ⟨h0, h5, h6, h7, hw, hk, hf, hh⟩ := hX
  refine ⟨by rw [← h _ (by omega)]; exact h0, by rw [← h _ (by omega)]; exact h5, by rw [← h _ (by omega)]; exact h6, by rw [← h _ (by omega)]; exact h7, fun k hk2 => by rw [← h _ (by omega)]; exact hw k hk2, fun k hk2 => by rw [← h _ (by omega)]; exact hk k hk2, fun k hk2 => by rw [← h _ (by omega)]; exact hf k hk2, fun k hk2 => by rw [← h _ (by omega)]; exact hh k hk2⟩
/-- cells at t .. t + 4 but for the noted are those of another world -/
theorem XT.of {σ σ' : Sg} {t : Nat} {A : Nat → Nat} (hX : XT σ t A) (h : ∀ a j, t ≤ a ∧ a ≤ t + 4 → ¬ (a = t ∧ 8 ≤ j) → σ'.1 a j = σ.1 a j) : XT σ' t A := by
  obtain ⟨h0, h5, h6, h7, hw, hk, hf, hh⟩ := hX
  refine ⟨by rw [h _ _ (by omega) (by omega)]; exact h0, by rw [h _ _ (by omega) (by omega)]; exact h5, by rw [h _ _ (by omega) (by omega)]; exact h6, by rw [h _ _ (by omega) (by omega)]; exact h7, fun k hk2 => by rw [h _ _ (by omega) (by omega)]; exact hw k hk2, fun k hk2 => by rw [h _ _ (by omega) (by omega)]; exact hk k hk2, fun k hk2 => by rw [h _ _ (by omega) (by omega)]; exact hf k hk2, fun k hk2 => by rw [h _ _ (by omega) (by omega)]; exact hh k hk2⟩
/-- cells off S are as they were; references too -/
def fr (S : Nat → Nat → Prop) (σ σ' : Sg) : Prop := (∀ a j, ¬ S a j → σ'.1 a j = σ.1 a j) ∧ σ'.2.2 = σ.2.2
theorem fr.rfl {S : Nat → Nat → Prop} {σ : Sg} : fr S σ σ := ⟨fun _ _ _ => Eq.refl _, Eq.refl _⟩
theorem fr.trans {S : Nat → Nat → Prop} {a b c : Sg} (h : fr S a b) (g : fr S b c) : fr S a c := ⟨fun k j hn => by rw [g.1 k j hn, h.1 k j hn], by rw [g.2, h.2]⟩
theorem fr.mono {S S' : Nat → Nat → Prop} {a b : Sg} (h : fr S a b) (g : ∀ k j, S k j → S' k j) : fr S' a b := ⟨fun k j hn => h.1 k j (fun q => hn (g k j q)), h.2⟩
theorem fr.w {S : Nat → Nat → Prop} {σ : Sg} {k i : Nat} {v : Int32} (h : S k i) : fr S σ (wI σ k i v) := ⟨fun a j hn => by rw [wI_rd, if_neg (fun q => hn (by rw [q.1, q.2]; exact h))], Eq.refl _⟩
theorem fr.c {S : Nat → Nat → Prop} {σ : Sg} {k0 sp k1 dp n : Nat} (h : ∀ j, S k1 j) : fr S σ (wC σ k0 sp k1 dp n) := ⟨fun a j hn => by rw [wC_rd, if_neg (fun q => hn (by rw [q.1]; exact h j))], Eq.refl _⟩
/-- the book, one longer -/
def wr (A : Nat → Nat) (h w : Nat) : Nat → Nat := if A 9 < 30 then up (up A (1956 + A 9) (A 6 * 64 + h * 8 + w)) 9 (A 9 + 1) else fun i => if i = 1985 then A 6 * 64 + h * 8 + w else if 1956 ≤ i ∧ i < 1985 then A (i + 1) else A i
theorem wr_off {A : Nat → Nat} {h w j : Nat} (h9 : A 9 ≤ 30) (hj : j ≠ 9) (h2 : j < 1956 ∨ 1986 ≤ j) : wr A h w j = A j := by
  unfold wr
  split
  · rw [up_ne hj, up_ne (by omega)]
  · dsimp only
    rw [if_neg (by omega), if_neg (by omega)]
theorem note_val : ∀ h, h < 8 → ∀ w, w < 8 → ∀ c, c < 10000 → shl (nI c) (nI 6) ||| shl (nI h) (nI 3) ||| nI w = nI (c * 64 + h * 8 + w) := by
  intro h hh w hw c hc
  have e1 : shl (nI c) (nI 6) = nI (c * 64) := by
    unfold shl
    exact pk_shlN _ 6 (by decide) (by omega)
  have e2 : shl (nI h) (nI 3) = nI (h * 8) := by
    unfold shl
    exact pk_shlN _ 3 (by decide) (by omega)
  rw [e1, e2, or_I, or_I]
  congr 1
  have g1 : c * 64 ||| h * 8 = c * 64 + h * 8 := by
    have := Nat.two_pow_add_eq_or_of_lt (i := 6) (b := h * 8) (by omega) c
    rw [show c * 64 = 2 ^ 6 * c by omega]
    exact this.symm
  rw [g1]
  have := Nat.two_pow_add_eq_or_of_lt (i := 3) (b := w) (by omega) (c * 8 + h)
  rw [show c * 64 + h * 8 = 2 ^ 3 * (c * 8 + h) by omega]
  exact this.symm
theorem x_note {σ : Sg} {t : Nat} {A : Nat → Nat} (hN : XN σ t A) (h9 : A 9 ≤ 30) (h5 : σ.1 t 5 = nI (A 6)) (h6 : A 6 ≤ 9999) {h w : Nat} (hh : h < 8) (hw : w < 8) : ∃ σ', f_X8_note t (nI h) (nI w) σ = some σ' ∧ XN σ' t (wr A h w) ∧ fr (fun a j => (a = t ∧ j = 9) ∨ a = t + 5) σ σ' := by
  obtain ⟨n9, nn⟩ := hN
  unfold f_X8_note f_X8_note_30
  by_cases hl : A 9 < 30
  · refine ⟨wI (wI σ (t + 5) (A 9) (nI (A 6 * 64 + h * 8 + w))) t 9 (nI (A 9 + 1)), ?_, ⟨?_, fun i hi => ?_⟩, ?_⟩
    · simp (disch := omega) only [n9, h5, e_bnd, e_bndV, e_lt, e_grd, e_lit, e_le1, e_le2, e_lt1, e_lt2, e_eq1, e_eq2, e_inb, e_ix, nI_add, pk_mul, e_sub, e_b0, e_b1, e_bz, e_bz0, e_bz1, Bool.and_true, Bool.true_and, ↓reduceIte, not_true_eq_false, not_false_eq_true, decide_false, decide_true, and_self, and_true, true_and, and_false, false_and, Bool.false_eq_true, Bool.not_false, Bool.not_true, note_val, e_ne1]
    · rw [e_hit]; unfold wr; rw [if_pos hl, up_hit]
    · unfold wr
      rw [if_pos hl, e_ne1 (by omega), up_ne (by omega)]
      by_cases q : i = A 9
      · subst q; rw [e_hit, up_hit]
      · rw [e_ne2 q, up_ne (by omega)]; exact nn i hi
    · exact (fr.w (Or.inr (Eq.refl _))).trans (fr.w (Or.inl ⟨Eq.refl _, Eq.refl _⟩))
  · have h30 : A 9 = 30 := by omega
    refine ⟨wI (wI (wI (wC σ (t + 5) 1 (t + 5) 0 29) t 9 (nI 29)) (t + 5) 29 (nI (A 6 * 64 + h * 8 + w))) t 9 (nI 30), ?_, ⟨?_, fun i hi => ?_⟩, ?_⟩
    · rw [n9, h30, if_neg (by decide), grd_of (by decide)]
      have e1 : (wI (wC σ (t + 5) 1 (t + 5) 0 29) t 9 (nI 29)).1 t 5 = nI (A 6) := by
        rw [e_ne2 (by decide), wC_rd, if_neg (by omega)]; exact h5
      show ltσ (wC σ (t + 5) 1 (t + 5) 0 29) _ = _
      rw [e_lt, e_lt]
      show grd (inb ((wI (wC σ (t + 5) 1 (t + 5) 0 29) t 9 (nI 29)).1 t 9) 30 && true) _ = _
      simp (disch := omega) only [e_hit, e1, e_bnd, e_bndV, e_lt, e_grd, e_lit, e_le1, e_le2, e_lt1, e_lt2, e_eq1, e_eq2, e_inb, e_ix, nI_add, pk_mul, e_sub, e_b0, e_b1, e_bz, e_bz0, e_bz1, Bool.and_true, Bool.true_and, ↓reduceIte, not_true_eq_false, not_false_eq_true, decide_false, decide_true, and_self, and_true, true_and, and_false, false_and, Bool.false_eq_true, Bool.not_false, Bool.not_true, note_val, e_ne1]
    · rw [e_hit]; unfold wr; rw [if_neg hl, if_neg (by decide), if_neg (by decide), h30]
    · unfold wr
      rw [if_neg hl, e_ne1 (by omega)]
      by_cases q : i = 29
      · subst q; rw [e_hit, if_pos rfl]
      · rw [e_ne2 q, e_ne1 (by omega), wC_rd, if_pos (by omega), if_neg (by omega), if_pos (by omega), show 1 + (i - 0) = i + 1 by omega, nn _ (by omega)]
        congr 1
    · exact (((fr.c (fun _ => Or.inr (Eq.refl _))).trans (fr.w (Or.inl ⟨Eq.refl _, Eq.refl _⟩))).trans (fr.w (Or.inr (Eq.refl _)))).trans (fr.w (Or.inl ⟨Eq.refl _, Eq.refl _⟩))
/-- the book of a town that nobody asks for its book -/
theorem x_note0 {σ : Sg} {t n c : Nat} (hN : σ.1 t 9 = nI n) (h9 : n ≤ 30) (h5 : σ.1 t 5 = nI c) (h6 : c ≤ 9999) {h w : Nat} (hh : h < 8) (hw : w < 8) : ∃ σ', f_X8_note t (nI h) (nI w) σ = some σ' ∧ (∃ m, m ≤ 30 ∧ σ'.1 t 9 = nI m) ∧ fr (fun a j => (a = t ∧ j = 9) ∨ a = t + 5) σ σ' := by
  have hx : ∀ x : Int32, ∃ n, n < 2 ^ 32 ∧ x = nI n := fun x => ⟨x.toBitVec.toNat, x.toBitVec.isLt, Int32.toBitVec_inj.1 (show x.toBitVec = BitVec.ofNat 32 x.toBitVec.toNat by rw [BitVec.ofNat_toNat, BitVec.setWidth_eq])⟩
  obtain ⟨σ', e1, e2, e3⟩ := x_note (σ := σ) (t := t) (A := fun i => if i = 9 then n else if i = 6 then c else Classical.choose (hx (σ.1 (t + 5) (i - 1956)))) ⟨by simpa using hN, fun i hi => by
    have := (Classical.choose_spec (hx (σ.1 (t + 5) i))).2
    dsimp only
    rw [if_neg (by omega), if_neg (by omega), show 1956 + i - 1956 = i by omega]
    exact this⟩ (by simpa using h9) (by simpa using h5) (by simpa using h6) hh hw
  refine ⟨σ', e1, ?_, e3⟩
  refine ⟨_, ?_, e2.1⟩
  unfold wr
  split
  · rw [up_hit]; omega
  · simp only [show ¬ (9 = 1985) by decide, show ¬ (1956 ≤ 9 ∧ 9 < 1985) by decide, if_false, if_true]; exact h9
