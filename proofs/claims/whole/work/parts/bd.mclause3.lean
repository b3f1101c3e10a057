/-! text: the reference's clause, whole -/
theorem mul4 : ∀ n, n < 24 → (4 : Int32) * nI n = nI (4 * n) := by decide +kernel
theorem CLM.add {σ σ' : Sg} {B n kd : Nat} {ck : Nat → Nat} {cn : Nat → Nat → Nat} {c : Nat → Nat} (h : CLM σ B n ck cn) (hn : n < 24) (hk : kd ≤ 11) (o : ∀ j, B + 1 ≤ j → j < B + 1 + 4 * n → σ'.1 3 j = σ.1 3 j) (h6 : σ'.1 3 B = nI (n + 1)) (g : σ'.1 3 (B + 1 + 4 * n) = nI kd) (g2 : ∀ j, j < ari kd → σ'.1 3 (B + 1 + 4 * n + 1 + j) = nI (c j)) : CLM σ' B (n + 1) (upF ck n kd) (upF cn n c) := by
  refine ⟨by omega, h6, fun k hk2 => ?_⟩
  by_cases z : k = n
  · rw [z, upF_hit, upF_hit]
    exact ⟨g, hk, g2⟩
  · rw [upF_ne z, upF_ne z]
    obtain ⟨a, b, d⟩ := h.2.2 k (by omega)
    refine ⟨by rw [o _ (by omega) (by omega)]; exact a, b, fun j hj => ?_⟩
    have := ari_3 (ck k)
    rw [o _ (by omega) (by omega)]
    exact d j hj
theorem LWN.add {σ σ' : Sg} {B n kd : Nat} {ck : Nat → Nat} {Lw Lw' : Nat → Option LV} {c c' d : List (Nat × Nat)} (h : LWN σ B n ck Lw c) (o : ∀ j, B + 1 ≤ j → j < B + 1 + 4 * n → σ'.1 3 j = σ.1 3 j) (hc : c' = c ++ d) (hs : ∀ l, l < 3 → l ≠ kd → Lw' l = Lw l) (hk : kd < 3 → Lw kd = none ∧ ∃ v, Lw' kd = some v ∧ GN d v ∧ σ'.1 3 (B + 1 + 4 * n + 1) = nI c.length ∧ σ'.1 3 (B + 1 + 4 * n + 2) = nI (c.length + d.length)) : LWN σ' B (n + 1) (upF ck n kd) Lw' c' := by
  intro l hl
  by_cases z : l = kd
  · obtain ⟨k0, v, k1, k2, k3, k4⟩ := hk (by omega)
    have hno : ∀ k, k < n → ck k ≠ kd := by
      rcases h kd (by omega) with ⟨_, g⟩ | ⟨v1, k, _, _, _, g, _⟩
      · exact g
      · rw [k0] at g
        cases g
    rw [z]
    refine Or.inr ⟨v, n, d, c, [], k1, by omega, upF_hit, fun j hj => ?_, k3, k4, by rw [hc, List.append_nil], k2⟩
    rw [upF_ne (by omega)]
    exact hno j hj
  · rw [hs l hl z]
    rcases h l hl with ⟨g1, g2⟩ | ⟨v, k, e, pre, post, g1, g2, g3, g4, g5, g6, g7, g8⟩
    · refine Or.inl ⟨g1, fun k hk2 => ?_⟩
      by_cases y : k = n
      · rw [y, upF_hit]
        exact fun q => z q.symm
      · rw [upF_ne y]
        exact g2 k (by omega)
    · refine Or.inr ⟨v, k, e, pre, post ++ d, g1, by omega, by rw [upF_ne (by omega)]; exact g3, fun j hj => by rw [upF_ne (by omega)]; exact g4 j hj, by rw [o _ (by omega) (by omega)]; exact g5, by rw [o _ (by omega) (by omega)]; exact g6, ?_, g8⟩
      rw [hc, g7, List.append_assoc, List.append_assoc]
theorem m_clause {T P E K V : Nat → Nat} {L B : Nat} (hnx : NX T P E K V L) (hsp : SPX T P E K V L) (hK50 : ∀ j, K j ≤ 50) (hK : ∀ j, 300 ≤ j → K j = 45) (hV : ∀ j, V j ≤ 10000) (hB : B + 705 ≤ 2820) {σ : Sg} {p n : Nat} {ck : Nat → Nat} {cn : Nat → Nat → Nat} {Lw : Nat → Option LV} {c : List (Nat × Nat)} (I : CSM T P E K V L B σ p n ck cn Lw c) : ((clsP K V n (fun l => (Lw l).isSome) p).1 = 0 → ∀ Lw' : Nat → Option LV, (K p < 3 → Lw (K p) = none ∧ ∃ v, GN (clsP K V n (fun l => (Lw l).isSome) p).2.2 v ∧ Lw' = upF Lw (K p) (some v)) → (¬ K p < 3 → Lw' = Lw) → ∃ σ' c', f_X12_clause σ = some (nI 0, σ') ∧ fr Scm σ σ' ∧ frT B σ σ' ∧ CSM T P E K V L B σ' (clsP K V n (fun l => (Lw l).isSome) p).2.1 (n + 1) (upF ck n (K p)) (upF cn n (nth (clsP K V n (fun l => (Lw l).isSome) p).2.2)) Lw' c') ∧ ((clsP K V n (fun l => (Lw l).isSome) p).1 ≠ 0 → ∃ σ', f_X12_clause σ = some (nI (clsP K V n (fun l => (Lw l).isSome) p).1, σ') ∧ σ'.1 0 8 = nI (P (clsP K V n (fun l => (Lw l).isSome) p).2.1) ∧ fr Scm σ σ' ∧ frT B σ σ') := by
  obtain ⟨hT, hp, h12, h13, hcp, hC, hM, ⟨M, hM8, h19, hMb⟩, hL⟩ := I
  have so := m_sortOf hsp hK50 hT
  have k50 := hK50 p
  have n24 := hM.1
  have bad : ∀ f, f ≠ 0 → clsP K V n (fun l => (Lw l).isSome) p = (f, p, []) → f_X12_clause σ = some (nI f, σ) → ((clsP K V n (fun l => (Lw l).isSome) p).1 = 0 → ∀ Lw' : Nat → Option LV, (K p < 3 → Lw (K p) = none ∧ ∃ v, GN (clsP K V n (fun l => (Lw l).isSome) p).2.2 v ∧ Lw' = upF Lw (K p) (some v)) → (¬ K p < 3 → Lw' = Lw) → ∃ σ' c', f_X12_clause σ = some (nI 0, σ') ∧ fr Scm σ σ' ∧ frT B σ σ' ∧ CSM T P E K V L B σ' (clsP K V n (fun l => (Lw l).isSome) p).2.1 (n + 1) (upF ck n (K p)) (upF cn n (nth (clsP K V n (fun l => (Lw l).isSome) p).2.2)) Lw' c') ∧ ((clsP K V n (fun l => (Lw l).isSome) p).1 ≠ 0 → ∃ σ', f_X12_clause σ = some (nI (clsP K V n (fun l => (Lw l).isSome) p).1, σ') ∧ σ'.1 0 8 = nI (P (clsP K V n (fun l => (Lw l).isSome) p).2.1) ∧ fr Scm σ σ' ∧ frT B σ σ') := by
    intro f f0 e g
    rw [e]
    exact ⟨fun q => absurd q f0, fun _ => ⟨σ, g, hT.2.1, fr.rfl, fun _ _ => rfl⟩⟩
  by_cases k11 : 11 < K p
  · refine bad 1 (by decide) (if_pos k11) ?_
    unfold f_X12_clause
    rw [so, if_neg (show ¬ (K p ≤ 11) by omega), e_bnd, if_neg (show ¬ ((0 : Int32) ≤ -1) by decide)]
    rfl
  rw [if_pos (show K p ≤ 11 by omega)] at so
  have p300 : p < 300 := Nat.lt_of_not_le fun g => by have := hK _ g; omega
  have e29 : ∀ τ, τ.1 0 12 = nI B → τ.1 3 B = nI n → f_X12_clause_29 (nI (K p)) τ = if nI n = 24 then some (6, τ) else if 2 < nI (K p) then f_X12_clause_65 (nI (K p)) (nI n) τ else f_X12_clause_65 (nI (K p)) (nI n) (wI τ 0 19 ((τ.1 0 19) ||| (shl 1 (nI (K p))))) := by
    intro τ a1 a2
    unfold f_X12_clause_29
    rw [a1, grd_of (by rw [e_inb (by omega) (by decide)]; rfl), e_ix (by omega), a2]
    rfl
  have e65 : n < 24 → ∀ τ, NT T P E K V L τ p → τ.1 0 12 = nI B → ∃ v, NT T P E K V L v (p + 1) ∧ fr (fun x j => (x = 0 ∧ (j = 14 ∨ (7 ≤ j ∧ j ≤ 10))) ∨ (x = 3 ∧ j = B + 1 + 4 * n)) τ v ∧ v.1 0 14 = nI (K p) ∧ v.1 3 (B + 1 + 4 * n) = nI (K p) ∧ f_X12_clause_65 (nI (K p)) (nI n) τ = (bnd (f_X12_body (nI (K p)) (nI (B + 1 + 4 * n)) v) fun r9 σ8 => if r9 = 0 then (grd (inb (σ8.1 0 12) 2820 && (inb (σ8.1 0 12) 2820 && true)) <| ltσ (wI σ8 3 (ix (σ8.1 0 12)) ((σ8.1 3 (ix (σ8.1 0 12))) + 1)) fun σ10 => if (σ10.1 0 9) = 59 then (bndV (f_X12_nextToken σ10) fun σ13 => some (0, σ13)) else some (1, σ10)) else some (r9, σ8)) := by
    intro hn τ a1 a2
    obtain ⟨u, u1, u2, u3⟩ := hnx (wI τ 0 14 (nI (K p))) p (a1.of (fun j hj => e_ne2 (by omega)) (fun j => e_ne1 (by decide)) rfl)
    have u12 : u.1 0 12 = nI B := by
      rw [u3.1 _ _ (by omega), e_ne2 (by decide)]
      exact a2
    refine ⟨wI u 3 (B + 1 + 4 * n) (nI (K p)), u2.of (fun j hj => e_ne1 (by decide)) (fun j => e_ne1 (by decide)) rfl, ((fr.w (by omega)).trans (u3.mono (fun x j q => by omega))).trans (fr.w (by omega)), ?_, e_hit, ?_⟩
    · rw [e_ne1 (by decide), u3.1 _ _ (by omega), e_hit]
    · have ei : ((u.1 0 12) + 1) + (4 * nI n) = nI (B + 1 + 4 * n) := by
        rw [u12, mul4 n hn, show nI B + 1 = nI (B + 1) from nI_add _ _]
        exact nI_add _ _
      unfold f_X12_clause_65
      rw [e_lt, u1, e_bndV, ei, grd_of (by rw [e_inb (by omega) (by decide)]; rfl), e_ix (by omega), e_lt]
  by_cases k3 : K p < 3
  · have ge0 : (0 : Int32) ≤ nI (K p) := nI_le (a := 0) (by omega) (by omega)
    have no2 : ¬ ((2 : Int32) < nI (K p)) := fun q => by
      have := (nI_ltI (a := 2) (b := K p) (by decide) (by omega)).mp q
      omega
    have eC : f_X12_clause σ = if (Lw (K p)).isSome = true then some (4, σ) else f_X12_clause_29 (nI (K p)) σ := by
      unfold f_X12_clause
      rw [so, e_bnd, if_pos ge0, if_neg no2, h19, m_has (by omega) (by omega), e_bnd, hMb _ k3]
      by_cases x : (Lw (K p)).isSome = true
      · rw [if_pos x, if_neg (show ¬ (nI 1 = 0) by decide)]
        exact (if_pos x).symm
      · rw [if_neg x, if_pos (show nI 0 = 0 from rfl)]
        exact (if_neg x).symm
    by_cases x : (Lw (K p)).isSome = true
    · refine bad 4 (by decide) ?_ (by rw [eC, if_pos x]; rfl)
      unfold clsP
      rw [if_neg k11, if_pos ⟨k3, x⟩]
    have ln : Lw (K p) = none := by
      cases h : Lw (K p) with
      | none => rfl
      | some v =>
        rw [h] at x
        exact absurd rfl x
    by_cases y : n = 24
    · refine bad 6 (by decide) ?_ ?_
      · unfold clsP
        rw [if_neg k11, if_neg (fun q => x q.2), if_pos (by omega)]
      · rw [eC, if_neg x, e29 σ h12 hM.2.1, if_pos (show nI n = 24 by rw [y]; rfl)]
        rfl
    have hn : n < 24 := by omega
    have e : clsP K V n (fun l => (Lw l).isSome) p = nxR (wdP K 42) (sumP K (OA K V (K p) 300 8).1 300 (p + 1)) := by
      unfold clsP
      rw [if_neg k11, if_neg (fun q => x q.2), if_neg (by omega), if_pos k3]
    rw [if_neg x, e29 σ h12 hM.2.1, if_neg (show ¬ (nI n = 24) from fun q => y ((nI_eq (b := 24) (by omega) (by decide)).mp q)), if_neg no2, h19, or_t M hM8 _ k3] at eC
    obtain ⟨σ1, hσ1⟩ : ∃ σ1, σ1 = wI σ 0 19 (nI (M ||| 2 ^ (K p))) := ⟨_, rfl⟩
    have f1 : fr (fun a j => a = 0 ∧ j = 19) σ σ1 := by
      rw [hσ1]
      exact fr.w ⟨rfl, rfl⟩
    rw [← hσ1] at eC
    obtain ⟨v, v1, v2, v3, v4, v5⟩ := e65 hn σ1 (hT.of (fun j hj => f1.1 _ _ (by omega)) (fun j => f1.1 _ _ (by omega)) (by rw [hσ1]; rfl)) ((f1.1 _ _ (by omega)).trans h12)
    rw [v5] at eC
    have v12 : v.1 0 12 = nI B := by rw [v2.1 _ _ (by omega), f1.1 _ _ (by omega)]; exact h12
    have v13 : v.1 0 13 = nI c.length := by rw [v2.1 _ _ (by omega), f1.1 _ _ (by omega)]; exact h13
    have v19 : v.1 0 19 = nI (M ||| 2 ^ (K p)) := by rw [v2.1 _ _ (by omega), hσ1, e_hit]
    have vB : v.1 3 B = nI n := by rw [v2.1 _ _ (by omega), f1.1 _ _ (by omega)]; exact hM.2.1
    have A := m_lawC (lw := K p) (n := n) (σ := v) (p := p + 1) (c0 := c) hnx hK50 hK hV hB k3 hn (by omega) v1 v12 v13 v3 (hC.of (fun j h1 h2 => by rw [v2.1 _ _ (by omega), f1.1 _ _ (by omega)])) (by omega)
    have fb := fb_sumP (K := K) (N := 300) (fb_OA (K := K) (V := V) (lw := K p) (N := 300) 8).1 (p + 1)
    have fv : fr Scm σ v := (f1.mono (fun x j q => by omega)).trans (v2.mono (fun x j q => by omega))
    have tv : frT B σ v := fun j hj => by rw [v2.1 _ _ (by omega), f1.1 _ _ (by omega)]
    rw [e]
    obtain ⟨r, hr⟩ : ∃ r, r = sumP K (OA K V (K p) 300 8).1 300 (p + 1) := ⟨_, rfl⟩
    rw [← hr] at A fb ⊢
    by_cases z : r.1 = 0
    · obtain ⟨a1, a2, w, w1, w2, w3, w4, w5, w6, w7, w8⟩ := A.1 z
      have wB : w.1 3 B = nI n := by rw [w6 _ (by omega) (by omega) (by omega)]; exact vB
      have Q := m_tail (n := n) hnx hK50 hB z w2 (by rw [w5.1 _ _ (by omega)]; exact v12) wB (nI (K p)) (nI (B + 1 + 4 * n)) v w1 _ eC
      have fw : fr Scm σ w := fv.trans (w5.mono (fun x j q => by omega))
      have tw : frT B σ w := tv.trans (fun j hj => w6 _ (by omega) (by omega) (by omega))
      refine ⟨fun q => ?_, fun q => ?_⟩
      · intro Lw' hL1 _
        obtain ⟨s, s1, s2, s3, s4⟩ := Q.1 q
        obtain ⟨z1, z2, z3⟩ := nx_ok q
        have pay : (nxR (wdP K 42) r).2.2 = r.2.2 := by
          rw [z3, (wd_ok z2).1]
          exact List.append_nil _
        have pos : (nxR (wdP K 42) r).2.1 = r.2.1 + 1 := by
          rw [z3, (wd_ok z2).1]
        have p3 : r.2.1 < 300 := Nat.lt_of_not_le fun g => by
          have h1 := hK _ g
          rw [(wd_ok z2).2] at h1
          exact absurd h1 (by decide)
        obtain ⟨k0, vv, g1, g2⟩ := hL1 k3
        rw [pay] at g1
        rw [pay, g2]
        have o3 : ∀ j, (B + 1 ≤ j ∧ j < B + 1 + 4 * n) → s.1 3 j = σ.1 3 j := fun j h1 => by
          rw [s3.1 _ _ (by omega), w6 _ (by omega) (by omega) (by omega), v2.1 _ _ (by omega), f1.1 _ _ (by omega)]
        have o0 : ∀ j, ¬ (7 ≤ j ∧ j ≤ 10) → j ≠ 13 → ¬ (16 ≤ j ∧ j ≤ 18) → s.1 0 j = v.1 0 j := fun j h1 h2 h3 => by
          rw [s3.1 _ _ (by omega), w5.1 _ _ (by omega)]
        have ari0 : ari (K p) = 0 := if_pos k3
        have ln2 : (c ++ r.2.2).length = c.length + r.2.2.length := List.length_append
        refine ⟨s, c ++ r.2.2, s1, fw.trans (s3.mono (fun x j q => by omega)), tw.trans (fun j hj => s3.1 _ _ (by omega)), s2, by omega, (o0 _ (by decide) (by decide) (by decide)).trans v12, ?_, by omega, w4.of (fun j h1 h2 => s3.1 _ _ (by omega)), ?_, ⟨M ||| 2 ^ (K p), or_8 M hM8 _ k3, (o0 _ (by decide) (by decide) (by decide)).trans v19, fun l hl => ?_⟩, hL.add (d := r.2.2) (fun j h1 h2 => o3 j ⟨h1, h2⟩) rfl (fun l _ hl2 => upF_ne hl2) (fun _ => ⟨ln, vv, upF_hit, g1, ?_, ?_⟩)⟩
        · rw [ln2, s3.1 _ _ (by omega)]
          exact w3
        · refine hM.add hn (by omega) (fun j h1 h2 => o3 j ⟨h1, h2⟩) s4 ?_ (fun j hj => by rw [ari0] at hj; exact absurd hj (Nat.not_lt_zero _))
          rw [s3.1 _ _ (by omega), w6 _ (by omega) (by omega) (by omega)]
          exact v4
        · rw [or_b M hM8 _ k3 l hl, hMb l hl]
          by_cases g : l = K p
          · rw [g, upF_hit]
            simp
          · rw [upF_ne g]
            simp [g]
        · rw [s3.1 _ _ (by omega)]
          exact w7
        · rw [s3.1 _ _ (by omega)]
          exact w8
      · obtain ⟨s, s1, s2, s3⟩ := Q.2 q
        exact ⟨s, s1, s2, fw.trans (s3.mono (fun x j q => by omega)), tw.trans (fun j hj => s3.1 _ _ (by omega))⟩
    · obtain ⟨w, w1, w2, w3, w4⟩ := A.2 z
      rw [nx_bad z]
      refine ⟨fun q => absurd q z, fun _ => ⟨w, ?_, w2, fv.trans (w3.mono (fun x j q => by omega)), tv.trans w4⟩⟩
      rw [eC, w1, e_bnd, if_neg (show ¬ (nI r.1 = 0) from fun g => z ((nI_eq (b := 0) (by omega) (by decide)).mp g))]
  · have ge0 : (0 : Int32) ≤ nI (K p) := nI_le (a := 0) (by omega) (by omega)
    have is2 : (2 : Int32) < nI (K p) := nI_lt (a := 2) (by omega) (by omega)
    have eC : f_X12_clause σ = f_X12_clause_29 (nI (K p)) σ := by
      unfold f_X12_clause
      rw [so, e_bnd, if_pos ge0, if_pos is2]
    by_cases y : n = 24
    · refine bad 6 (by decide) ?_ ?_
      · unfold clsP
        rw [if_neg k11, if_neg (fun q => k3 q.1), if_pos (by omega)]
      · rw [eC, e29 σ h12 hM.2.1, if_pos (show nI n = 24 by rw [y]; rfl)]
        rfl
    have hn : n < 24 := by omega
    have e : clsP K V n (fun l => (Lw l).isSome) p = nxR (wdP K 42) (actP K V (K p) (p + 1)) := by
      unfold clsP
      rw [if_neg k11, if_neg (fun q => k3 q.1), if_neg (by omega), if_neg k3]
    rw [e29 σ h12 hM.2.1, if_neg (show ¬ (nI n = 24) from fun q => y ((nI_eq (b := 24) (by omega) (by decide)).mp q)), if_pos is2] at eC
    obtain ⟨v, v1, v2, v3, v4, v5⟩ := e65 hn σ hT h12
    rw [v5] at eC
    have A := m_body (b := B + 1 + 4 * n) hnx hK50 hK (by omega) (K p) (by omega) v1 (by omega)
    have v12 : v.1 0 12 = nI B := by rw [v2.1 _ _ (by omega)]; exact h12
    have vB : v.1 3 B = nI n := by rw [v2.1 _ _ (by omega)]; exact hM.2.1
    have fb := act_fb (K := K) (V := V) (kd := K p) (p := p + 1)
    have al := act_len (K := K) (V := V) (kd := K p) (p := p + 1)
    have ag := act_ge (K := K) (V := V) (kd := K p) (p := p + 1)
    have fv : fr Scm σ v := v2.mono (fun x j q => by omega)
    have tv : frT B σ v := fun j hj => v2.1 _ _ (by omega)
    rw [e]
    obtain ⟨r, hr⟩ : ∃ r, r = actP K V (K p) (p + 1) := ⟨_, rfl⟩
    rw [← hr] at A fb al ag ⊢
    by_cases z : r.1 = 0
    · obtain ⟨w, w1, w2, w3, w4, w5⟩ := A.1 z
      have al1 := al z (by omega)
      have ag1 := ag z
      have a3 := ari_3 (K p)
      have Q := m_tail (n := n) hnx hK50 hB z w2 (by rw [w4.1 _ _ (by omega)]; exact v12) (by rw [w4.1 _ _ (by omega)]; exact vB) (nI (K p)) (nI (B + 1 + 4 * n)) v w1 _ eC
      have fw : fr Scm σ w := fv.trans (w4.mono (fun x j q => by omega))
      have tw : frT B σ w := tv.trans (fun j hj => w4.1 _ _ (by omega))
      refine ⟨fun q => ?_, fun q => ?_⟩
      · intro Lw' _ hL2
        obtain ⟨s, s1, s2, s3, s4⟩ := Q.1 q
        obtain ⟨z1, z2, z3⟩ := nx_ok q
        have pay : (nxR (wdP K 42) r).2.2 = r.2.2 := by
          rw [z3, (wd_ok z2).1]
          exact List.append_nil _
        have pos : (nxR (wdP K 42) r).2.1 = r.2.1 + 1 := by
          rw [z3, (wd_ok z2).1]
        have p3 : r.2.1 < 300 := Nat.lt_of_not_le fun g => by
          have h1 := hK _ g
          rw [(wd_ok z2).2] at h1
          exact absurd h1 (by decide)
        rw [pay, hL2 k3]
        have o3 : ∀ j, j ≠ B → ¬ (B + 1 + 4 * n ≤ j ∧ j < B + 1 + 4 * n + 4) → s.1 3 j = σ.1 3 j := fun j h1 h2 => by
          rw [s3.1 _ _ (by omega), w4.1 _ _ (by omega), v2.1 _ _ (by omega)]
        have o0 : ∀ j, ¬ (7 ≤ j ∧ j ≤ 10) → j ≠ 14 → s.1 0 j = σ.1 0 j := fun j h1 h2 => by
          rw [s3.1 _ _ (by omega), w4.1 _ _ (by omega), v2.1 _ _ (by omega)]
        refine ⟨s, c, s1, fw.trans (s3.mono (fun x j q => by omega)), tw.trans (fun j hj => s3.1 _ _ (by omega)), s2, by omega, (o0 _ (by decide) (by decide)).trans h12, (o0 _ (by decide) (by decide)).trans h13, by omega, hC.of (fun j h1 h2 => o3 j (by omega) (by omega)), ?_, ⟨M, hM8, (o0 _ (by decide) (by decide)).trans h19, hMb⟩, hL.add (fun j h1 h2 => o3 j (by omega) (by omega)) (List.append_nil c).symm (fun _ _ _ => rfl) (fun g => absurd g k3)⟩
        refine hM.add hn (by omega) (fun j h1 h2 => o3 j (by omega) (by omega)) s4 ?_ (fun j hj => ?_)
        · rw [s3.1 _ _ (by omega), w4.1 _ _ (by omega)]
          exact v4
        · rw [s3.1 _ _ (by omega)]
          exact w5 j (by omega)
      · obtain ⟨s, s1, s2, s3⟩ := Q.2 q
        exact ⟨s, s1, s2, fw.trans (s3.mono (fun x j q => by omega)), tw.trans (fun j hj => s3.1 _ _ (by omega))⟩
    · obtain ⟨w, w1, w2, w3⟩ := A.2 z
      rw [nx_bad z]
      refine ⟨fun q => absurd q z, fun _ => ⟨w, ?_, w2, fv.trans (w3.mono (fun x j q => by omega)), tv.trans (fun j hj => w3.1 _ _ (by omega))⟩⟩
      rw [eC, w1, e_bnd, if_neg (show ¬ (nI r.1 = 0) from fun g => z ((nI_eq (b := 0) (by omega) (by decide)).mp g))]
