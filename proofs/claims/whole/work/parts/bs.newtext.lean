/-! text: the new TEXT in the relation -/
def nK (n s : Nat) : Kd := [(6, 0), (13, 4 * n), (13, s), (13, s), (13, 3), (13, 3)]
theorem nK_len (κ : Kd) (n s : Nat) : (κ ++ nK n s).length = κ.length + 6 := by
  rw [List.length_append]
  rfl
theorem nK_old {κ : Kd} {n s a : Nat} (h : a < κ.length) : (κ ++ nK n s)[a]? = κ[a]? := List.getElem?_append_left h
theorem nK_new {κ : Kd} {n s : Nat} (i : Nat) : (κ ++ nK n s)[κ.length + i]? = (nK n s)[i]? := by
  rw [List.getElem?_append_right (by omega), Nat.add_sub_cancel_left]
theorem nK_lold {κ : Kd} {n s a : Nat} (h : a < κ.length) : lenOf (κ ++ nK n s) a = lenOf κ a := by
  unfold lenOf
  rw [nK_old h]
theorem nK_lnew {κ : Kd} {n s : Nat} (i : Nat) : lenOf (κ ++ nK n s) (κ.length + i) = (((nK n s)[i]?).getD (0, 0)).2 := by
  unfold lenOf
  rw [nK_new]
/-- the class's cells behind the reading -/
def NF (R t n s : Nat) (σ σF : Sg) : Prop := (∀ a j, a < R → ¬ (a = 0 ∧ j = 10) → ¬ (a = 1 ∧ j = 4) → σF.1 a j = σ.1 a j) ∧ σF.1 0 10 = nI 0 ∧ σF.1 1 4 = nI (t + 1) ∧ (∀ a j, σF.2.2 a j = if a = 13 ∧ j = t then some R else σ.2.2 a j) ∧ (∀ j, j < 4 * n → σF.1 (R + 1) j = σ.1 54 j) ∧ (∀ j, j < s → σF.1 (R + 2) j = σ.1 55 j ∧ σF.1 (R + 3) j = σ.1 56 j) ∧ ∀ j, j < 3 → σF.1 (R + 4) j = σ.1 57 j ∧ σF.1 (R + 5) j = σ.1 58 j
def nT (T : TD) (R n : Nat) (Lw : Nat → Option LV) (ck : Nat → Nat) (cn : Nat → Nat → Nat) : TD := (T.1 + 1, upF T.2.1 T.1 R, upF T.2.2.1 T.1 Lw, upF T.2.2.2.1 T.1 n, upF T.2.2.2.2.1 T.1 ck, upF T.2.2.2.2.2 T.1 cn)
theorem XTX_new {K V P : Nat → Nat} {m : Nat} {σ σF : Sg} {p s n t : Nat} {κ : Kd} {ck : Nat → Nat} {cn : Nat → Nat → Nat} {Lw : Nat → Option LV} {cX : Nat → Nat × Nat} (h : CSX K V P m σ p s n ck cn Lw cX) (hs : s ≤ 300) (hR : 72 ≤ κ.length) (F : NF κ.length t n s σ σF) : XTX (κ ++ nK n s) σF κ.length Lw n ck cn := by
  obtain ⟨_, _, _, _, hC, ⟨hn, _, hc⟩, hL⟩ := h
  obtain ⟨_, _, _, _, f1, f2, f3⟩ := F
  refine ⟨RX_of (cX := cX) (E := s) hR ⟨⟨nK_lnew 2, nK_lnew 3, hs, fun j hj => ?_⟩, nK_lnew 4, nK_lnew 5, fun l hl => ?_⟩, nK_lnew 1, fun k hk => ⟨?_, fun j hj => ?_⟩⟩
  · rw [(f2 j hj).1, (f2 j hj).2]
    exact hC j hj
  · rw [(f3 l hl).1, (f3 l hl).2]
    rcases hL l hl with g | ⟨v, s', e, g1, g2, g3, g4, g5, g6⟩
    · exact Or.inl g
    · exact Or.inr ⟨v, s', e, g1, g3, g4, g5, g6⟩
  · rw [f1 _ (by omega)]
    exact (hc k hk).1
  · have := ari_3 (ck k)
    rw [f1 _ (by omega)]
    exact (hc k hk).2 j hj
theorem I2_new {κ : Kd} {T0 : TD} {σX σM σX' σM' σF σMF : Sg} {A B : Nat → Nat} {n s : Nat} {Lw : Nat → Option LV} {ck : Nat → Nat} {cn : Nat → Nat → Nat} (I : I2 κ T0 σX σM A B) (hR : 72 ≤ κ.length) (hT : ∀ t, t < T0.1 → T0.2.1 t + 5 < κ.length) (ht : T0.1 < 4) (fX : fr Stx σX σX') (fM : fr Srt σM σM') (fT : frT (705 * T0.1) σM σM') (F : NF κ.length T0.1 n s σX' σF) (h490 : σX'.1 49 0 = nI 1) (h491 : σX'.1 49 1 = nI 0) (h492 : σX'.1 49 2 = -1) (eM : σMF = wI (wI (wI (wI σM' 0 5 0) 0 6 (-1)) 0 4 0) 1 1 (nI (T0.1 + 1))) (hX : XTX (κ ++ nK n s) σF κ.length Lw n ck cn) (hM : MTX σM' T0.1 Lw n ck cn) (hd : deps Lw) (hc : CB n ck cn) : I2 (κ ++ nK n s) (nT T0 κ.length n Lw ck cn) σF σMF (up A 1 (T0.1 + 1)) B := by
  obtain ⟨i1, i2, i3, i4, i5, i6, i7, i8⟩ := I
  obtain ⟨t0, t1, t2⟩ := i8
  have eX : ∀ a j, a < κ.length → ¬ (a = 0 ∧ j = 10) → ¬ (a = 1 ∧ j = 4) → ¬ (49 ≤ a ∧ a ≤ 58) → σF.1 a j = σX.1 a j := fun a j h1 h2 h3 h4 => by
    rw [F.1 a j h1 h2 h3, fX.1 _ _ (by omega)]
  have g0 : ∀ a j, ¬ (a = 0 ∧ (j = 5 ∨ j = 6 ∨ j = 4)) → ¬ (a = 1 ∧ j = 1) → σMF.1 a j = σM'.1 a j := fun a j h1 h2 => by
    rw [eM, wI_rd, if_neg (by omega), wI_rd, if_neg (by omega), wI_rd, if_neg (by omega), wI_rd, if_neg (by omega)]
  have gM : ∀ a j, a ≠ 3 → a ≠ 5 → a ≠ 0 → ¬ (a = 1 ∧ j = 1) → σMF.1 a j = σM.1 a j := fun a j h1 h2 h3 h4 => by
    rw [g0 a j (by omega) h4, fM.1 _ _ (by omega)]
  have g3 : ∀ j, σMF.1 3 j = σM'.1 3 j := fun j => g0 3 j (by omega) (by omega)
  have m11 : σMF.1 1 1 = nI (T0.1 + 1) := by rw [eM, e_hit]
  refine ⟨WF_1 i1 (by omega) (by have := i1.2.2.2.2.2.1; omega), ⟨fun j a b c => ?_, ?_⟩, ⟨(i3.1.of (fun a j q _ => eX _ _ (by omega) (by omega) (by omega) (by omega))).congr (fun j hj => (up_ne (by omega)).symm), ?_, (i3.2.2.1.of (fun a j q => eX _ _ (by omega) (by omega) (by omega) (by omega))).congr (fun j h1 h2 => up_ne (by omega)), (i3.2.2.2.1.of (fun a j q => eX _ _ (by omega) (by omega) (by omega) (by omega))).congr i1.2.2.2.1.1 (fun j hj => up_ne (by omega)), ?_⟩, i4, i5.of (fun j => gM _ _ (by decide) (by decide) (by decide) (by omega)), i6.of (fun a j q => eX _ _ (by omega) (by omega) (by omega) (by omega)), ⟨fun k hk => ?_, ⟨0, by decide, F.2.1, by rw [eM, e_ne1 (by decide), e_hit]; rfl, fun i hi => absurd hi (Nat.not_lt_zero _)⟩, Or.inr ⟨?_, ?_, ?_⟩, ?_⟩, ⟨up_hit, ?_, fun t' ht' => ?_⟩⟩
  · by_cases y : j = 1
    · rw [y, m11, up_hit]
    · rw [gM 1 j (by decide) (by decide) (by decide) (by omega), up_ne y]
      exact i2.1 j a b c
  · rw [gM 1 2 (by decide) (by decide) (by decide) (by omega), up_ne (by decide)]
    exact i2.2
  · have hN := i3.2.1.of (σ' := σF) (fun a j q => eX _ _ (by omega) (by omega) (by omega) (by omega))
    exact ⟨by rw [up_ne (by decide)]; exact hN.1, fun i hi => by rw [up_ne (by omega)]; exact hN.2 i hi⟩
  · obtain ⟨o1, o2, o3, o4, o5, o6, o7⟩ := i3.2.2.2.2
    refine ⟨by rw [F.2.2.1, up_hit], by rw [eX _ _ (by omega) (by omega) (by omega) (by omega), up_ne (by decide)]; exact o2, by rw [eX _ _ (by omega) (by omega) (by omega) (by omega), up_ne (by decide)]; exact o3, by rw [eX _ _ (by omega) (by omega) (by omega) (by omega), up_ne (by decide)]; exact o4, fun k hk => by rw [eX _ _ (by omega) (by omega) (by omega) (by omega), up_ne (by omega)]; exact o5 k hk, fun k hk => ⟨by rw [eX _ _ (by omega) (by omega) (by omega) (by omega), up_ne (by omega)]; exact (o6 k hk).1, by rw [eX _ _ (by omega) (by omega) (by omega) (by omega), up_ne (by omega)]; exact (o6 k hk).2.1, by rw [eX _ _ (by omega) (by omega) (by omega) (by omega), up_ne (by omega)]; exact (o6 k hk).2.2⟩, fun k hk => ⟨by rw [eX _ _ (by omega) (by omega) (by omega) (by omega), up_ne (by omega)]; exact (o7 k hk).1, by rw [eX _ _ (by omega) (by omega) (by omega) (by omega), up_ne (by omega)]; exact (o7 k hk).2⟩⟩
  · rw [eX _ _ (by omega) (by omega) (by omega) (by omega), eX _ _ (by omega) (by omega) (by omega) (by omega), gM _ _ (by decide) (by decide) (by decide) (by omega), gM _ _ (by decide) (by decide) (by decide) (by omega)]
    exact i7.1 k hk
  · rw [F.1 _ _ (by omega) (by omega) (by omega)]
    exact h490
  · rw [F.1 _ _ (by omega) (by omega) (by omega), h491, eM, e_ne1 (by decide), e_ne2 (by decide), e_ne2 (by decide), e_hit]
    rfl
  · rw [F.1 _ _ (by omega) (by omega) (by omega), h492, eM, e_ne1 (by decide), e_ne2 (by decide), e_hit]
  · rw [g0 0 24 (by omega) (by omega), fM.1 _ _ (by omega)]
    exact i7.2.2.2
  · rw [up_hit]
    omega
  · rw [up_hit] at ht'
    by_cases y : t' = T0.1
    · subst y
      show deps (upF T0.2.2.1 T0.1 Lw T0.1) ∧ CB (upF T0.2.2.2.1 T0.1 n T0.1) (upF T0.2.2.2.2.1 T0.1 ck T0.1) (upF T0.2.2.2.2.2 T0.1 cn T0.1) ∧ (72 ≤ upF T0.2.1 T0.1 κ.length T0.1 ∧ σF.2.2 13 T0.1 = some (upF T0.2.1 T0.1 κ.length T0.1) ∧ (T0.1 < B 1 → σF.2.2 33 T0.1 = some (upF T0.2.1 T0.1 κ.length T0.1)) ∧ XTX (κ ++ nK n s) σF (upF T0.2.1 T0.1 κ.length T0.1) (upF T0.2.2.1 T0.1 Lw T0.1) (upF T0.2.2.2.1 T0.1 n T0.1) (upF T0.2.2.2.2.1 T0.1 ck T0.1) (upF T0.2.2.2.2.2 T0.1 cn T0.1)) ∧ MTX σMF T0.1 (upF T0.2.2.1 T0.1 Lw T0.1) (upF T0.2.2.2.1 T0.1 n T0.1) (upF T0.2.2.2.2.1 T0.1 ck T0.1) (upF T0.2.2.2.2.2 T0.1 cn T0.1)
      simp only [upF_hit]
      exact ⟨hd, hc, ⟨hR, by rw [F.2.2.2.1, if_pos ⟨rfl, rfl⟩], fun q => by omega, hX⟩, hM.of g3⟩
    · have tl : t' < T0.1 := by omega
      have tA : t' < A 1 := by omega
      obtain ⟨q1, q2, ⟨q3, q4, q5, q6⟩, q7⟩ := t2 t' tA
      have r5 := hT t' tl
      show deps (upF T0.2.2.1 T0.1 Lw t') ∧ CB (upF T0.2.2.2.1 T0.1 n t') (upF T0.2.2.2.2.1 T0.1 ck t') (upF T0.2.2.2.2.2 T0.1 cn t') ∧ (72 ≤ upF T0.2.1 T0.1 κ.length t' ∧ σF.2.2 13 t' = some (upF T0.2.1 T0.1 κ.length t') ∧ (t' < B 1 → σF.2.2 33 t' = some (upF T0.2.1 T0.1 κ.length t')) ∧ XTX (κ ++ nK n s) σF (upF T0.2.1 T0.1 κ.length t') (upF T0.2.2.1 T0.1 Lw t') (upF T0.2.2.2.1 T0.1 n t') (upF T0.2.2.2.2.1 T0.1 ck t') (upF T0.2.2.2.2.2 T0.1 cn t')) ∧ MTX σMF t' (upF T0.2.2.1 T0.1 Lw t') (upF T0.2.2.2.1 T0.1 n t') (upF T0.2.2.2.2.1 T0.1 ck t') (upF T0.2.2.2.2.2 T0.1 cn t')
      simp only [upF_ne y]
      refine ⟨q1, q2, ⟨q3, by rw [F.2.2.2.1, if_neg (by omega), fX.2]; exact q4, fun q => by rw [F.2.2.2.1, if_neg (by omega), fX.2]; exact q5 q, q6.more q3 (fun j h1 h2 => nK_lold (by omega)) (fun a h1 h2 j => eX _ _ (by omega) (by omega) (by omega) (by omega))⟩, q7.more (by omega) q2.1 (fun j h1 h2 => ?_)⟩
      rw [g3, fT j (by omega)]
theorem I2_fault {κ : Kd} {T0 : TD} {σX σM σX' σM' σMF : Sg} {A B : Nat → Nat} {f pl : Nat} (I : I2 κ T0 σX σM A B) (ht : T0.1 < 4) (fX : fr Stx σX σX') (fM : fr Srt σM σM') (fT : frT (705 * T0.1) σM σM') (h490 : σX'.1 49 0 = nI 1) (h491 : σX'.1 49 1 = nI f) (h492 : σX'.1 49 2 = nI pl) (eM : σMF = wI (wI (wI σM' 0 5 (nI f)) 0 6 (nI pl)) 0 4 0) : I2 κ T0 (wI σX' 0 10 0) σMF A B := by
  obtain ⟨i1, i2, i3, i4, i5, i6, i7, i8⟩ := I
  obtain ⟨t0, t1, t2⟩ := i8
  have eX : ∀ a j, ¬ (a = 0 ∧ j = 10) → ¬ (49 ≤ a ∧ a ≤ 58) → (wI σX' 0 10 0).1 a j = σX.1 a j := fun a j h2 h4 => by
    rw [wI_rd, if_neg (by omega), fX.1 _ _ (by omega)]
  have g0 : ∀ a j, ¬ (a = 0 ∧ (j = 5 ∨ j = 6 ∨ j = 4)) → σMF.1 a j = σM'.1 a j := fun a j h1 => by
    rw [eM, wI_rd, if_neg (by omega), wI_rd, if_neg (by omega), wI_rd, if_neg (by omega)]
  have gM : ∀ a j, a ≠ 3 → a ≠ 5 → a ≠ 0 → σMF.1 a j = σM.1 a j := fun a j h1 h2 h3 => by
    rw [g0 a j (by omega), fM.1 _ _ (by omega)]
  refine ⟨i1, ⟨fun j a b c => ?_, ?_⟩, ⟨i3.1.of (fun a j q _ => eX _ _ (by omega) (by omega)), i3.2.1.of (fun a j q => eX _ _ (by omega) (by omega)), i3.2.2.1.of (fun a j q => eX _ _ (by omega) (by omega)), i3.2.2.2.1.of (fun a j q => eX _ _ (by omega) (by omega)), i3.2.2.2.2.of (fun a j q => eX _ _ (by omega) (by omega))⟩, i4, i5.of (fun j => gM _ _ (by decide) (by decide) (by decide)), i6.of (fun a j q => eX _ _ (by omega) (by omega)), ⟨fun k hk => ?_, ⟨0, by decide, e_hit, by rw [eM, e_hit]; rfl, fun i hi => absurd hi (Nat.not_lt_zero _)⟩, Or.inr ⟨?_, ?_, ?_⟩, ?_⟩, ⟨t0, t1, fun t' ht' => ?_⟩⟩
  · rw [gM 1 j (by decide) (by decide) (by decide)]
    exact i2.1 j a b c
  · rw [gM 1 2 (by decide) (by decide) (by decide)]
    exact i2.2
  · rw [eX _ _ (by omega) (by omega), eX _ _ (by omega) (by omega), gM _ _ (by decide) (by decide) (by decide), gM _ _ (by decide) (by decide) (by decide)]
    exact i7.1 k hk
  · rw [e_ne1 (by decide)]
    exact h490
  · rw [e_ne1 (by decide), h491, eM, e_ne2 (by decide), e_ne2 (by decide), e_hit]
  · rw [e_ne1 (by decide), h492, eM, e_ne2 (by decide), e_hit]
  · rw [g0 0 24 (by omega), fM.1 _ _ (by omega)]
    exact i7.2.2.2
  · obtain ⟨q1, q2, ⟨q3, q4, q5, q6⟩, q7⟩ := t2 t' ht'
    refine ⟨q1, q2, ⟨q3, by rw [show (wI σX' 0 10 0).2.2 = σX'.2.2 from rfl, fX.2]; exact q4, fun q => by rw [show (wI σX' 0 10 0).2.2 = σX'.2.2 from rfl, fX.2]; exact q5 q, q6.of q3 (fun a ha j => eX _ _ (by omega) (by omega))⟩, q7.more (by omega) q2.1 (fun j h1 h2 => ?_)⟩
    rw [g0 3 j (by omega), fT j (by omega)]
