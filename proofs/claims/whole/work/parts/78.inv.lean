/-! THE RELATION -/
def WF (A : Nat → Nat) : Prop := BT A ∧ BN A ∧ BR A ∧ BS A ∧ A 1 ≤ 4 ∧ A 2 ≤ A 1 ∧ A 4 ≤ 8 ∧ A 5 ≤ 8 ∧ (∀ i, i < A 4 → A (138 + 3 * i) < A 0 ∧ A (138 + 3 * i + 1) ≤ 99) ∧ (∀ i, i < 8 → A (138 + 3 * i + 2) ≤ 1) ∧ (∀ h, h < 8 → A (162 + h) ≤ 99) ∧ ∀ i, i < A 5 → A (170 + 2 * i) < A 0 ∧ A (170 + 2 * i + 1) ≤ 9
def XO (σ : Sg) (w : Nat) (A : Nat → Nat) : Prop := σ.1 w 4 = nI (A 1) ∧ σ.1 w 5 = nI (A 2) - nI 1 ∧ σ.1 w 11 = nI (A 4) ∧ σ.1 w 14 = nI (A 5) ∧ (∀ h, h < 8 → σ.1 (w + 14) h = nI (A (162 + h))) ∧ (∀ i, i < 8 → σ.1 (w + 15) i = nI (A (138 + 3 * i)) ∧ σ.1 (w + 16) i = nI (A (138 + 3 * i + 1)) ∧ σ.1 (w + 17) i = nI (A (138 + 3 * i + 2))) ∧ ∀ i, i < 8 → σ.1 (w + 18) i = nI (A (170 + 2 * i)) ∧ σ.1 (w + 19) i = nI (A (170 + 2 * i + 1))
def XW (σ : Sg) (w : Nat) (A : Nat → Nat) : Prop := XT σ (w + 1) A ∧ XN σ (w + 1) A ∧ XR σ (w + 7) A ∧ XP σ (w + 10) A ∧ XO σ w A
def MI (σ : Sg) (A : Nat → Nat) : Prop := (∀ j, j < 1986 → j ≠ 2 → (j < 114 ∨ 138 ≤ j) → σ.1 2 j = nI (A j)) ∧ σ.1 2 2 = nI (A 2) - nI 1
def ari (k : Nat) : Nat := if k < 3 then 0 else if k = 3 then 2 else if k = 4 then 3 else if k = 8 then 2 else 1
/-- bounds of a CLAUSE's NUMBERS -/
def cnB (k j v : Nat) : Prop := if k = 3 then v ≤ 9999 else if k = 11 then 1 ≤ v ∧ v ≤ 60 else if k = 4 ∧ j = 2 then v ≤ 99 else v ≤ 7
def XTX (κ : Kd) (σ : Sg) (r : Nat) (L : Nat → Option LV) (n : Nat) (ck : Nat → Nat) (cn : Nat → Nat → Nat) : Prop := RX κ σ (some r) L ∧ lenOf κ (r + 1) = 4 * n ∧ ∀ k, k < n → σ.1 (r + 1) (4 * k) = nI (ck k) ∧ ∀ j, j < ari (ck k) → σ.1 (r + 1) (4 * k + 1 + j) = nI (cn k j)
def MTX (σ : Sg) (t : Nat) (L : Nat → Option LV) (n : Nat) (ck : Nat → Nat) (cn : Nat → Nat → Nat) : Prop := SAY σ (nI t) L ∧ σ.1 3 (705 * t) = nI n ∧ ∀ k, k < n → σ.1 3 (705 * t + 1 + 4 * k) = nI (ck k) ∧ ∀ j, j < ari (ck k) → σ.1 3 (705 * t + 1 + 4 * k + 1 + j) = nI (cn k j)
def CB (n : Nat) (ck : Nat → Nat) (cn : Nat → Nat → Nat) : Prop := n ≤ 24 ∧ ∀ k, k < n → ck k ≤ 11 ∧ ∀ j, j < ari (ck k) → cnB (ck k) j (cn k j)
/-- the TEXTS: how many, where the class has each, its laws, its CLAUSES -/
abbrev TD : Type := Nat × (Nat → Nat) × (Nat → Nat → Option LV) × (Nat → Nat) × (Nat → Nat → Nat) × (Nat → Nat → Nat → Nat)
def TI (κ : Kd) (T : TD) (σX σM : Sg) (A B : Nat → Nat) : Prop := A 1 = T.1 ∧ B 1 ≤ A 1 ∧ ∀ t, t < A 1 → deps (T.2.2.1 t) ∧ CB (T.2.2.2.1 t) (T.2.2.2.2.1 t) (T.2.2.2.2.2 t) ∧ (72 ≤ T.2.1 t ∧ σX.2.2 13 t = some (T.2.1 t) ∧ (t < B 1 → σX.2.2 33 t = some (T.2.1 t)) ∧ XTX κ σX (T.2.1 t) (T.2.2.1 t) (T.2.2.2.1 t) (T.2.2.2.2.1 t) (T.2.2.2.2.2 t)) ∧ MTX σM t (T.2.2.1 t) (T.2.2.2.1 t) (T.2.2.2.2.1 t) (T.2.2.2.2.2 t)
/-- WARMTHS, the tape, the latest FAULT -/
def wOK (x : Int32) : Prop := -99 ≤ x.toInt ∧ x.toInt ≤ 99
def HI (σX σM : Sg) : Prop := (∀ h, h < 24 → σX.1 14 h = σM.1 1 (114 + h) ∧ σX.1 34 h = σM.1 2 (114 + h) ∧ wOK (σX.1 14 h) ∧ wOK (σX.1 34 h)) ∧ (∃ p, p ≤ 300 ∧ σX.1 0 10 = nI p ∧ σM.1 0 4 = nI p ∧ ∀ i, i < p → ∃ b, b < 256 ∧ σX.1 70 i = nI b ∧ σM.1 4 i = nI b) ∧ ((σX.1 49 0 = nI 0 ∧ σM.1 0 5 = -1 ∧ σM.1 0 6 = -1) ∨ (σX.1 49 0 = nI 1 ∧ σX.1 49 1 = σM.1 0 5 ∧ σX.1 49 2 = σM.1 0 6)) ∧ σM.1 0 24 = nI 1
def I2 (κ : Kd) (T : TD) (σX σM : Sg) (A B : Nat → Nat) : Prop := WF A ∧ MA σM A ∧ XW σX 1 A ∧ WF B ∧ MI σM B ∧ XW σX 21 B ∧ HI σX σM ∧ TI κ T σX σM A B
def Inv (κ : Kd) (T : TD) (σX σM : Sg) : Prop := ∃ A B, I2 κ T σX σM A B
/-- cells that nothing is kept in -/
abbrev scrX : Nat → Nat → Prop := fun a j => (41 ≤ a ∧ a ≤ 48) ∨ (a = 49 ∧ 3 ≤ j) ∨ (50 ≤ a ∧ a ≤ 69) ∨ a = 71
abbrev scrM : Nat → Nat → Prop := fun a j => 5 ≤ a ∨ (a = 0 ∧ j ≠ 4 ∧ j ≠ 5 ∧ j ≠ 6 ∧ j ≠ 24)
theorem XN.of {σ σ' : Sg} {t : Nat} {A : Nat → Nat} (h : XN σ t A) (e : ∀ a j, t ≤ a ∧ a ≤ t + 5 → σ'.1 a j = σ.1 a j) : XN σ' t A := ⟨by rw [e _ _ (by omega)]; exact h.1, fun i hi => by rw [e _ _ (by omega)]; exact h.2 i hi⟩
theorem XR.of {σ σ' : Sg} {s : Nat} {A : Nat → Nat} (h : XR σ s A) (e : ∀ a j, s ≤ a ∧ a ≤ s + 2 → σ'.1 a j = σ.1 a j) : XR σ' s A := ⟨fun i hi => by rw [e _ _ (by omega)]; exact h.1 i hi, fun i hi => by rw [e _ _ (by omega)]; exact h.2 i hi⟩
theorem XP.of {σ σ' : Sg} {p : Nat} {A : Nat → Nat} (h : XP σ p A) (e : ∀ a j, p ≤ a ∧ a ≤ p + 1 → σ'.1 a j = σ.1 a j) : XP σ' p A := by
  obtain ⟨f, h1, h2, h3, h4⟩ := h
  refine ⟨f, h1, by rw [e _ _ (by omega)]; exact h2, by rw [e _ _ (by omega)]; exact h3, fun i hi => ?_⟩
  obtain ⟨q1, q2, q3⟩ := h4 i hi
  refine ⟨fun k hk => by rw [e _ _ (by omega)]; exact q1 k hk, fun k hk => ⟨by rw [e _ _ (by omega)]; exact (q2 k hk).1, by rw [e _ _ (by omega)]; exact (q2 k hk).2.1, by rw [e _ _ (by omega)]; exact (q2 k hk).2.2⟩, fun k hk => by rw [e _ _ (by omega)]; exact q3 k hk⟩
theorem XP.congr {σ : Sg} {p : Nat} {A B : Nat → Nat} (h : XP σ p A) (h30 : A 3 ≤ 30) (e : ∀ j, (j = 3 ∨ (186 ≤ j ∧ j < 1956)) → B j = A j) : XP σ p B := by
  obtain ⟨f, h1, h2, h3, h4⟩ := h
  have e3 := e 3 (by omega)
  refine ⟨f, h1, h2, by rw [e3]; exact h3, fun i hi => ?_⟩
  rw [e3] at hi
  obtain ⟨q1, q2, q3⟩ := h4 i hi
  refine ⟨fun k hk => by rw [e _ (by omega)]; exact q1 k hk, fun k hk => ⟨by rw [e _ (by omega)]; exact (q2 k hk).1, by rw [e _ (by omega)]; exact (q2 k hk).2.1, by rw [e _ (by omega)]; exact (q2 k hk).2.2⟩, fun k hk => by rw [e _ (by omega)]; exact q3 k hk⟩
theorem XO.of {σ σ' : Sg} {w : Nat} {A : Nat → Nat} (h : XO σ w A) (e : ∀ a j, (a = w ∧ (j = 4 ∨ j = 5 ∨ j = 11 ∨ j = 14)) ∨ (w + 14 ≤ a ∧ a ≤ w + 19) → σ'.1 a j = σ.1 a j) : XO σ' w A := by
  obtain ⟨h1, h2, h3, h4, h5, h6, h7⟩ := h
  refine ⟨by rw [e _ _ (by omega)]; exact h1, by rw [e _ _ (by omega)]; exact h2, by rw [e _ _ (by omega)]; exact h3, by rw [e _ _ (by omega)]; exact h4, fun k hk => by rw [e _ _ (by omega)]; exact h5 k hk, fun k hk => ⟨by rw [e _ _ (by omega)]; exact (h6 k hk).1, by rw [e _ _ (by omega)]; exact (h6 k hk).2.1, by rw [e _ _ (by omega)]; exact (h6 k hk).2.2⟩, fun k hk => ⟨by rw [e _ _ (by omega)]; exact (h7 k hk).1, by rw [e _ _ (by omega)]; exact (h7 k hk).2⟩⟩
theorem XO.congr {σ : Sg} {w : Nat} {A B : Nat → Nat} (h : XO σ w A) (e : ∀ j, (j = 1 ∨ j = 2 ∨ j = 4 ∨ j = 5 ∨ (138 ≤ j ∧ j < 186)) → B j = A j) : XO σ w B := by
  obtain ⟨h1, h2, h3, h4, h5, h6, h7⟩ := h
  refine ⟨by rw [e _ (by omega)]; exact h1, by rw [e _ (by omega)]; exact h2, by rw [e _ (by omega)]; exact h3, by rw [e _ (by omega)]; exact h4, fun k hk => by rw [e _ (by omega)]; exact h5 k hk, fun k hk => ⟨by rw [e _ (by omega)]; exact (h6 k hk).1, by rw [e _ (by omega)]; exact (h6 k hk).2.1, by rw [e _ (by omega)]; exact (h6 k hk).2.2⟩, fun k hk => ⟨by rw [e _ (by omega)]; exact (h7 k hk).1, by rw [e _ (by omega)]; exact (h7 k hk).2⟩⟩
theorem XR.congr {σ : Sg} {s : Nat} {A B : Nat → Nat} (h : XR σ s A) (e : ∀ j, 50 ≤ j → j < 114 → B j = A j) : XR σ s B := by
  refine ⟨fun i hi => by rw [e _ (by omega) (by omega)]; exact h.1 i hi, fun i hi => ?_⟩
  rw [h.2 i hi]
  congr 1
  unfold bes
  exact mk_congr fun k hk => by rw [e _ (by omega) (by omega)]
theorem MI.of {σ σ' : Sg} {A : Nat → Nat} (h : MI σ A) (e : ∀ j, σ'.1 2 j = σ.1 2 j) : MI σ' A := ⟨fun j a b c => by rw [e]; exact h.1 j a b c, by rw [e]; exact h.2⟩
theorem XTX.of {κ : Kd} {σ σ' : Sg} {r : Nat} {L : Nat → Option LV} {n : Nat} {ck : Nat → Nat} {cn : Nat → Nat → Nat} (h : XTX κ σ r L n ck cn) (hr : 72 ≤ r) (e : ∀ a, 72 ≤ a → ∀ j, σ'.1 a j = σ.1 a j) : XTX κ σ' r L n ck cn :=
  ⟨h.1.tx e, h.2.1, fun k hk => ⟨by rw [e _ (by omega)]; exact (h.2.2 k hk).1, fun j hj => by rw [e _ (by omega)]; exact (h.2.2 k hk).2 j hj⟩⟩
theorem MTX.of {σ σ' : Sg} {t : Nat} {L : Nat → Option LV} {n : Nat} {ck : Nat → Nat} {cn : Nat → Nat → Nat} (h : MTX σ t L n ck cn) (e : ∀ j, σ'.1 3 j = σ.1 3 j) : MTX σ' t L n ck cn :=
  ⟨h.1.tx e, by rw [e]; exact h.2.1, fun k hk => ⟨by rw [e]; exact (h.2.2 k hk).1, fun j hj => by rw [e]; exact (h.2.2 k hk).2 j hj⟩⟩
theorem TI.of {κ : Kd} {T : TD} {σX σX' σM σM' : Sg} {A A' B B' : Nat → Nat} (h : TI κ T σX σM A B) (e : ∀ a, 72 ≤ a → ∀ j, σX'.1 a j = σX.1 a j) (e2 : σX'.2.2 = σX.2.2) (e3 : ∀ j, σM'.1 3 j = σM.1 3 j) (hA : A' 1 = A 1) (hB : B' 1 = B 1) : TI κ T σX' σM' A' B' := by
  obtain ⟨h0, h1, h2⟩ := h
  refine ⟨by rw [hA]; exact h0, by rw [hA, hB]; exact h1, fun t ht => ?_⟩
  rw [hA] at ht
  obtain ⟨g1, g2, ⟨g3, g4, g5, g6⟩, g7⟩ := h2 t ht
  exact ⟨g1, g2, ⟨g3, by rw [e2]; exact g4, fun q => by rw [e2]; exact g5 (by rw [← hB]; exact q), g6.of g3 e⟩, g7.of e3⟩
/-- the cells that a STEP of the class, of the reference, may change -/
abbrev tnX : Nat → Nat → Prop := fun a j => (2 ≤ a ∧ a ≤ 7) ∨ (a = 11 ∧ (j = 1 ∨ j = 2)) ∨ a = 12 ∨ scrX a j
abbrev tnM : Nat → Nat → Prop := fun a j => (a = 1 ∧ (j = 0 ∨ j = 3 ∨ (6 ≤ j ∧ j < 50) ∨ 186 ≤ j)) ∨ scrM a j
theorem HI.of {σX σX' σM σM' : Sg} (h : HI σX σM) (f : fr tnX σX σX') (g : fr tnM σM σM') : HI σX' σM' := by
  obtain ⟨h1, ⟨p, h2, h3, h4, h5⟩, h6, h7⟩ := h
  refine ⟨fun k hk => ?_, ⟨p, h2, by rw [f.1 _ _ (by omega)]; exact h3, by rw [g.1 _ _ (by omega)]; exact h4, fun i hi => ?_⟩, ?_, by rw [g.1 _ _ (by omega)]; exact h7⟩
  · rw [f.1 _ _ (by omega), f.1 _ _ (by omega), g.1 _ _ (by omega), g.1 _ _ (by omega)]; exact h1 k hk
  · obtain ⟨b, b1, b2, b3⟩ := h5 i hi
    exact ⟨b, b1, by rw [f.1 _ _ (by omega)]; exact b2, by rw [g.1 _ _ (by omega)]; exact b3⟩
  · rw [f.1 _ _ (by omega), f.1 _ _ (by omega), f.1 _ _ (by omega), g.1 _ _ (by omega), g.1 _ _ (by omega)]; exact h6
theorem XW.of {σ σ' : Sg} {w : Nat} {A : Nat → Nat} (h : XW σ w A) (e : ∀ a j, (w ≤ a ∧ a ≤ w + 19) → σ'.1 a j = σ.1 a j) : XW σ' w A :=
  ⟨h.1.of (fun a j q _ => e a j (by omega)), h.2.1.of (fun a j q => e a j (by omega)), h.2.2.1.of (fun a j q => e a j (by omega)), h.2.2.2.1.of (fun a j q => e a j (by omega)), h.2.2.2.2.of (fun a j q => e a j (by omega))⟩
theorem I2.town {κ : Kd} {T : TD} {σX σX' σM σM' : Sg} {A A' B : Nat → Nat} (I : I2 κ T σX σM A B) (f : fr tnX σX σX') (g : fr tnM σM σM') (hM : MA σM' A') (hX : XT σX' 2 A') (hN : XN σX' 2 A') (hP : XP σX' 11 A') (hB : BT A' ∧ BN A' ∧ BS A') (e : ∀ j, (j = 1 ∨ j = 2 ∨ j = 4 ∨ j = 5 ∨ (50 ≤ j ∧ j < 186)) → A' j = A j) (h0 : A 0 ≤ A' 0) : I2 κ T σX' σM' A' B := by
  obtain ⟨⟨w1, w2, w3, w4, w5, w6, w7, w8, w9, w10, w11, w12⟩, i2, i3, i4, i5, i6, i7, i8⟩ := I
  refine ⟨⟨hB.1, hB.2.1, ?_, hB.2.2, by rw [e 1 (by omega)]; exact w5, by rw [e 1 (by omega), e 2 (by omega)]; exact w6, by rw [e 4 (by omega)]; exact w7, by rw [e 5 (by omega)]; exact w8, fun i hi => ?_, fun i hi => by rw [e _ (by omega)]; exact w10 i hi, fun i hi => by rw [e _ (by omega)]; exact w11 i hi, fun i hi => ?_⟩, hM, ⟨hX, hN, ?_, hP, ?_⟩, i4, i5.of (fun j => g.1 _ _ (by omega)), i6.of (fun a j q => f.1 _ _ (by omega)), i7.of f g, i8.of (fun a ha j => f.1 _ _ (by omega)) f.2 (fun j => g.1 _ _ (by omega)) (e 1 (by omega)) rfl⟩
  · intro h k hh hk
    obtain ⟨q1, q2, q3, q4⟩ := w3 h k hh hk
    rw [e _ (by omega), e (50 + 8 * k + h) (by omega), e (50 + 8 * h + h) (by omega)]
    exact ⟨q1, q2, fun q => q3 (by omega), q4⟩
  · rw [e 4 (by omega)] at hi
    rw [e (138 + 3 * i) (by omega), e (138 + 3 * i + 1) (by omega)]
    have := w9 i hi
    omega
  · rw [e 5 (by omega)] at hi
    rw [e (170 + 2 * i) (by omega), e (170 + 2 * i + 1) (by omega)]
    have := w12 i hi
    omega
  · exact (i3.2.2.1.of (fun a j q => f.1 _ _ (by omega))).congr (fun j h1 h2 => e j (by omega))
  · exact (i3.2.2.2.2.of (fun a j q => f.1 _ _ (by omega))).congr (fun j hj => e j (by omega))
theorem I2.scr {κ : Kd} {T : TD} {σX σX' σM σM' : Sg} {A B : Nat → Nat} (I : I2 κ T σX σM A B) (f : fr scrX σX σX') (g : fr scrM σM σM') : I2 κ T σX' σM' A B :=
  I.town (f.mono (fun a j q => Or.inr (Or.inr (Or.inr q)))) (g.mono (fun a j q => Or.inr q)) (I.2.1.of g (by intro a j q; omega)) (I.2.2.1.1.of (fun a j q _ => f.1 _ _ (by omega))) (I.2.2.1.2.1.of (fun a j q => f.1 _ _ (by omega))) (I.2.2.1.2.2.2.1.of (fun a j q => f.1 _ _ (by omega))) ⟨I.1.1, I.1.2.1, I.1.2.2.2.1⟩ (fun _ _ => rfl) (Nat.le_refl _)
