/-! text: the reference's clause -/
theorem or_t : ∀ M, M < 8 → ∀ k, k < 3 → (nI M ||| shl 1 (nI k)) = nI (M ||| 2 ^ k) := by decide +kernel
theorem or_8 : ∀ M, M < 8 → ∀ k, k < 3 → (M ||| 2 ^ k) < 8 := by decide +kernel
theorem or_b : ∀ M, M < 8 → ∀ k, k < 3 → ∀ l, l < 3 → (M ||| 2 ^ k).testBit l = (M.testBit l || decide (l = k)) := by decide +kernel
theorem act_fb {K V : Nat → Nat} {kd p : Nat} : (actP K V kd p).1 ≤ 5 := by
  have z : ∀ p, ((0, p, []) : PR).1 ≤ 5 := fun _ => Nat.zero_le _
  unfold actP
  repeat' split
  · exact fb_nx fb_num (fb_nx fb_wd (fb_nx fb_num (z _)))
  · exact fb_nx fb_num (fb_nx fb_wd (fb_nx fb_num (fb_nx fb_wd (fb_nx fb_num (z _)))))
  · exact fb_nx fb_num (fb_nx fb_wd (fb_nx fb_num (z _)))
  · exact fb_nx fb_num (z _)
  · exact fb_nx fb_num (z _)
theorem ari_3 (k : Nat) : ari k ≤ 3 := by
  unfold ari
  repeat' split
  all_goals omega
theorem act_len {K V : Nat → Nat} {kd p : Nat} (h : (actP K V kd p).1 = 0) (h3 : 3 ≤ kd) : (actP K V kd p).2.2.length = ari kd := by
  unfold actP at h ⊢
  unfold ari
  rw [if_neg (show ¬ (kd < 3) by omega)]
  by_cases a : kd = 3
  · rw [if_pos a] at h ⊢
    obtain ⟨x1, x2, x3⟩ := nx_ok h
    obtain ⟨y1, y2, y3⟩ := nx_ok x1
    obtain ⟨w1, w2, w3⟩ := nx_ok y1
    rw [if_pos a, x3, (num_ok x2).1, y3, (wd_ok y2).1, w3, (num_ok w2).1]
    rfl
  rw [if_neg a] at h ⊢
  rw [if_neg a]
  by_cases a : kd = 4
  · rw [if_pos a] at h ⊢
    obtain ⟨x1, x2, x3⟩ := nx_ok h
    obtain ⟨y1, y2, y3⟩ := nx_ok x1
    obtain ⟨w1, w2, w3⟩ := nx_ok y1
    obtain ⟨s1, s2, s3⟩ := nx_ok w1
    obtain ⟨t1, t2, t3⟩ := nx_ok s1
    rw [if_pos a, x3, (num_ok x2).1, y3, (wd_ok y2).1, w3, (num_ok w2).1, s3, (wd_ok s2).1, t3, (num_ok t2).1]
    rfl
  rw [if_neg a] at h ⊢
  rw [if_neg a]
  by_cases a : kd = 8
  · rw [if_pos a] at h ⊢
    obtain ⟨x1, x2, x3⟩ := nx_ok h
    obtain ⟨y1, y2, y3⟩ := nx_ok x1
    obtain ⟨w1, w2, w3⟩ := nx_ok y1
    rw [if_pos a, x3, (num_ok x2).1, y3, (wd_ok y2).1, w3, (num_ok w2).1]
    rfl
  rw [if_neg a] at h ⊢
  rw [if_neg a]
  by_cases a : kd = 11
  · rw [if_pos a] at h ⊢
    obtain ⟨x1, x2, x3⟩ := nx_ok h
    rw [x3, (num_ok x2).1]
    rfl
  rw [if_neg a] at h ⊢
  obtain ⟨x1, x2, x3⟩ := nx_ok h
  rw [x3, (num_ok x2).1]
  rfl
theorem m_tail {T P E K V : Nat → Nat} {L B n : Nat} (hnx : NX T P E K V L) (hK50 : ∀ j, K j ≤ 50) (hB : B + 705 ≤ 2820) {σ : Sg} {r : PR} (hr : r.1 = 0) (hT : NT T P E K V L σ r.2.1) (h12 : σ.1 0 12 = nI B) (hn : σ.1 3 B = nI n) (v1 b : Int32) (τ : Sg) (hb : f_X12_body v1 b τ = some (nI 0, σ)) : ∀ o, o = (bnd (f_X12_body v1 b τ) fun r9 σ8 => if r9 = 0 then (grd (inb (σ8.1 0 12) 2820 && (inb (σ8.1 0 12) 2820 && true)) <| ltσ (wI σ8 3 (ix (σ8.1 0 12)) ((σ8.1 3 (ix (σ8.1 0 12))) + 1)) fun σ10 => if (σ10.1 0 9) = 59 then (bndV (f_X12_nextToken σ10) fun σ13 => some (0, σ13)) else some (1, σ10)) else some (r9, σ8)) → ((nxR (wdP K 42) r).1 = 0 → ∃ σ', o = some (nI 0, σ') ∧ NT T P E K V L σ' (nxR (wdP K 42) r).2.1 ∧ fr (fun x j => (x = 3 ∧ j = B) ∨ (x = 0 ∧ 7 ≤ j ∧ j ≤ 10)) σ σ' ∧ σ'.1 3 B = nI (n + 1)) ∧ ((nxR (wdP K 42) r).1 ≠ 0 → ∃ σ', o = some (nI (nxR (wdP K 42) r).1, σ') ∧ σ'.1 0 8 = nI (P (nxR (wdP K 42) r).2.1) ∧ fr (fun x j => (x = 3 ∧ j = B) ∨ (x = 0 ∧ 7 ≤ j ∧ j ≤ 10)) σ σ') := by
  intro o ho
  have e : nxR (wdP K 42) r = bnR (wdP K 42 r.2.1) fun s d => (0, s, r.2.2 ++ d) := bnR_0 hr
  obtain ⟨τ', hτ⟩ : ∃ τ', τ' = wI σ 3 B (nI (n + 1)) := ⟨_, rfl⟩
  have fτ : fr (fun x j => x = 3 ∧ j = B) σ τ' := by
    rw [hτ]
    exact fr.w ⟨rfl, rfl⟩
  have tT : NT T P E K V L τ' r.2.1 := hT.of (fun j _ => fτ.1 _ _ (by omega)) (fun j => fτ.1 _ _ (by omega)) (by rw [hτ]; rfl)
  have t59 := m_tok tT.1 (hK50 _) (j := 42) (by decide)
  rw [hb, e_bnd, if_pos (show nI 0 = 0 from rfl), h12, grd_of (by rw [e_inb (by omega) (by decide)]; rfl), e_ix (by omega), hn, show (nI n + 1) = nI (n + 1) from nI_add _ _, e_lt, ← hτ] at ho
  by_cases z : K r.2.1 = 42
  · have en : wdP K 42 r.2.1 = (0, r.2.1 + 1, []) := if_pos z
    obtain ⟨u, u1, u2, u3⟩ := hnx τ' r.2.1 tT
    rw [if_pos (show τ'.1 0 9 = 59 from t59.symm ▸ z), u1, e_bndV] at ho
    rw [e, en]
    refine ⟨fun _ => ⟨u, ho, u2, (fτ.mono (fun x j q => by omega)).trans (u3.mono (fun x j q => by omega)), ?_⟩, fun q => absurd rfl q⟩
    rw [u3.1 _ _ (by omega), hτ, e_hit]
  · have en : wdP K 42 r.2.1 = (1, r.2.1, []) := if_neg z
    rw [if_neg (show ¬ (τ'.1 0 9 = 59) from fun q => z (t59 ▸ q))] at ho
    rw [e, en]
    exact ⟨fun q => absurd (show (1 : Nat) = 0 from q) (by decide), fun _ => ⟨τ', ho, tT.2.1, fτ.mono (fun x j q => by omega)⟩⟩
