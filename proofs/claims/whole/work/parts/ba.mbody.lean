/-! text: the reference's acts -/
theorem nx_bad {f : Nat → PR} {r : PR} (h : r.1 ≠ 0) : nxR f r = r := bnR_1 h
theorem as_wrd {T P E K V : Nat → Nat} {L b : Nat} (hnx : NX T P E K V L) (hK50 : ∀ j, K j ≤ 50) (hK : ∀ j, 300 ≤ j → K j = 45) (hb : b + 4 ≤ 2820) {σ0 σ : Sg} {r : PR} (k hi i : Nat) (hk : isW k) (hk1 : k ≠ 1) (hhi : hi < 10000) (hr : r.1 = 0) (hl : r.2.2.length = i) (hi3 : i < 3) (h : OKA T P E K V L b σ0 σ r) : AO T P E K V L b σ0 (nxR (numP K V 0 hi) (nxR (wdP K k) r)) (f_X12_worded (iL (pkw k : Nat)) (nI (b + 1 + i)) (nI hi) σ) := by
  have h' := h
  obtain ⟨hT, hp, hf, hc⟩ := h
  have e : nxR (wdP K k) r = bnR (wdP K k r.2.1) fun s d => (0, s, r.2.2 ++ d) := bnR_0 hr
  unfold f_X12_worded
  rw [m_isWord hT.1 hk hk1 (hK50 _), e_bnd]
  by_cases z : K r.2.1 = k
  · have k45 : k ≠ 45 := by
      unfold isW at hk
      omega
    have p300 : r.2.1 < 300 := Nat.lt_of_not_le fun g => k45 (z.symm.trans (hK _ g))
    have en : wdP K k r.2.1 = (0, r.2.1 + 1, []) := if_pos z
    have e2 : nxR (wdP K k) r = (0, r.2.1 + 1, r.2.2) := by
      rw [e, en]
      show ((0, r.2.1 + 1, r.2.2 ++ []) : PR) = _
      rw [List.append_nil]
    obtain ⟨u, u1, u2, u3⟩ := hnx σ r.2.1 hT
    rw [if_pos z, if_neg (show ¬ (nI 1 = 0) by decide), u1, e_bndV, e2]
    have A := as_fig (σ0 := σ0) (σ := u) (r := (0, r.2.1 + 1, r.2.2)) hnx hK50 hK hb 0 hi i (by decide) hhi rfl hl hi3 ⟨u2, by show r.2.1 + 1 ≤ 300; omega, hf.trans (u3.mono (fun x j q => by omega)), fun j hj => by rw [u3.1 _ _ (by omega)]; exact hc j hj⟩
    have z0 : (0 : Int32) = nI 0 := rfl
    refine ⟨fun q => ?_, fun q => ?_⟩
    · obtain ⟨v, v1, v2⟩ := A.1 q
      exact ⟨v, by rw [z0, v1, e_bnd], v2⟩
    · obtain ⟨v, v1, v2⟩ := A.2 q
      exact ⟨v, by rw [z0, v1, e_bnd], v2⟩
  · have en : wdP K k r.2.1 = (1, r.2.1, []) := if_neg z
    have e2 : nxR (wdP K k) r = (1, r.2.1, []) := by
      rw [e, en]
      rfl
    rw [if_neg z, if_pos (show nI 0 = 0 from rfl), e2, nx_bad (show (1 : Nat) ≠ 0 by decide)]
    exact ⟨fun q => absurd (show (1 : Nat) = 0 from q) (by decide), fun _ => ⟨σ, rfl, hT.2.1, hf⟩⟩
theorem as_pair {T P E K V : Nat → Nat} {L b p : Nat} (hnx : NX T P E K V L) (hK50 : ∀ j, K j ≤ 50) (hK : ∀ j, 300 ≤ j → K j = 45) (hb : b + 4 ≤ 2820) {σ : Sg} (k h1 h2 : Nat) (hk : isW k) (hk1 : k ≠ 1) (hh1 : h1 < 10000) (hh2 : h2 < 10000) (hT : NT T P E K V L σ p) (hp : p ≤ 300) : AO T P E K V L b σ (nxR (numP K V 0 h2) (nxR (wdP K k) (nxR (numP K V 0 h1) (0, p, [])))) (f_X12_pair (nI b) (nI h1) (iL (pkw k : Nat)) (nI h2) σ) := by
  have z0 : (0 : Int32) = nI 0 := rfl
  have b1 : nI b + 1 = nI (b + 1 + 0) := nI_add _ _
  have b2 : nI b + 2 = nI (b + 1 + 1) := nI_add _ _
  have A := as_fig (σ0 := σ) (σ := σ) (r := (0, p, [])) (V := V) hnx hK50 hK hb 0 h1 0 (by decide) hh1 rfl rfl (by decide) ⟨hT, hp, fr.rfl, fun j hj => absurd hj (Nat.not_lt_zero _)⟩
  unfold f_X12_pair f_X12_pair_31
  obtain ⟨r, hr⟩ : ∃ r, r = nxR (numP K V 0 h1) (0, p, []) := ⟨_, rfl⟩
  have ln : r.1 = 0 → r.2.2.length = 1 := by
    intro q
    rw [hr] at q ⊢
    obtain ⟨x1, x2, x3⟩ := nx_ok q
    rw [x3, (num_ok x2).1]
    rfl
  rw [← hr] at A ⊢
  rw [b1, b2, z0]
  by_cases q : r.1 = 0
  · obtain ⟨u, u1, u2⟩ := A.1 q
    have B := as_wrd (V := V) hnx hK50 hK hb k h2 1 hk hk1 hh2 q (ln q) (by decide) u2
    rw [u1, e_bnd, if_pos rfl]
    refine ⟨fun g => ?_, fun g => ?_⟩
    · obtain ⟨v, v1, v2⟩ := B.1 g
      exact ⟨v, by rw [v1, e_bnd], v2⟩
    · obtain ⟨v, v1, v2⟩ := B.2 g
      exact ⟨v, by rw [v1, e_bnd], v2⟩
  · obtain ⟨u, u1, u2⟩ := A.2 q
    have r5 : r.1 ≤ 5 := by
      rw [hr]
      unfold nxR numP
      refine fb_bnR (Nat.zero_le _) (fun s c => fb_bnR ?_ (fun _ _ => Nat.zero_le _))
      repeat' split
      all_goals exact fb_z (by decide)
    rw [u1, e_bnd, if_neg (show ¬ (nI r.1 = nI 0) from fun g => q ((nI_eq (b := 0) (by omega) (by decide)).mp g)), nx_bad (f := wdP K k) q, nx_bad q]
    exact ⟨fun g => absurd g q, fun _ => ⟨u, rfl, u2⟩⟩
theorem fb_nx {f : Nat → PR} {r : PR} (h : ∀ p, (f p).1 ≤ 5) (g : r.1 ≤ 5) : (nxR f r).1 ≤ 5 := fb_bnR g (fun s c => fb_bnR (h _) (fun _ _ => Nat.zero_le _))
theorem fb_num {K V : Nat → Nat} {lo hi : Nat} (p : Nat) : (numP K V lo hi p).1 ≤ 5 := by
  unfold numP
  repeat' split
  all_goals exact fb_z (by decide)
theorem fb_wd {K : Nat → Nat} {k : Nat} (p : Nat) : (wdP K k p).1 ≤ 5 := by
  unfold wdP
  split
  all_goals exact fb_z (by decide)
theorem m_body {T P E K V : Nat → Nat} {L b p : Nat} (hnx : NX T P E K V L) (hK50 : ∀ j, K j ≤ 50) (hK : ∀ j, 300 ≤ j → K j = 45) (hb : b + 4 ≤ 2820) {σ : Sg} (kd : Nat) (hkd : 3 ≤ kd ∧ kd ≤ 11) (hT : NT T P E K V L σ p) (hp : p ≤ 300) : AO T P E K V L b σ (actP K V kd p) (f_X12_body (nI kd) (nI b) σ) := by
  have z0 : (0 : Int32) = nI 0 := rfl
  have b1 : nI b + 1 = nI (b + 1 + 0) := nI_add _ _
  have ps : ∀ (r : PR) (o : Option (Int32 × Sg)), AO T P E K V L b σ r o → AO T P E K V L b σ r (bnd o fun r12 σ11 => some (r12, σ11)) := by
    intro r o A
    refine ⟨fun g => ?_, fun g => ?_⟩
    · obtain ⟨v, v1, v2⟩ := A.1 g
      exact ⟨v, by rw [v1, e_bnd], v2⟩
    · obtain ⟨v, v1, v2⟩ := A.2 g
      exact ⟨v, by rw [v1, e_bnd], v2⟩
  have one : ∀ lo hi, lo < 10000 → hi < 10000 → AO T P E K V L b σ (nxR (numP K V lo hi) (0, p, [])) (f_X12_figure (nI b + 1) (nI lo) (nI hi) σ) := fun lo hi h1 h2 => by
    rw [b1]
    exact as_fig (σ0 := σ) (σ := σ) (r := (0, p, [])) (V := V) hnx hK50 hK hb lo hi 0 h1 h2 rfl rfl (by decide) ⟨hT, hp, fr.rfl, fun j hj => absurd hj (Nat.not_lt_zero _)⟩
  unfold actP
  by_cases k3 : kd = 3
  · subst k3
    rw [if_pos rfl]
    have A := as_pair (V := V) hnx hK50 hK hb 20 9 9999 (by unfold isW; omega) (by decide) (by decide) (by decide) hT hp
    unfold f_X12_body
    rw [if_pos (show nI 3 = 3 from rfl), wd_20, e_bnd]
    exact ps _ _ A
  by_cases k4 : kd = 4
  · subst k4
    rw [if_neg (by decide), if_pos rfl]
    have A := as_pair (V := V) hnx hK50 hK hb 21 7 7 (by unfold isW; omega) (by decide) (by decide) (by decide) hT hp
    obtain ⟨r, hr⟩ : ∃ r, r = nxR (numP K V 0 7) (nxR (wdP K 21) (nxR (numP K V 0 7) (0, p, []))) := ⟨_, rfl⟩
    have r5 : r.1 ≤ 5 := by
      rw [hr]
      exact fb_nx fb_num (fb_nx fb_wd (fb_nx fb_num (Nat.zero_le _)))
    have ln : r.1 = 0 → r.2.2.length = 2 := by
      intro q
      rw [hr] at q ⊢
      obtain ⟨x1, x2, x3⟩ := nx_ok q
      obtain ⟨y1, y2, y3⟩ := nx_ok x1
      obtain ⟨w1, w2, w3⟩ := nx_ok y1
      rw [x3, (num_ok x2).1, y3, (wd_ok y2).1, w3, (num_ok w2).1]
      rfl
    rw [← hr] at A ⊢
    unfold f_X12_body f_X12_body_117
    rw [if_neg (show ¬ (nI 4 = 3) by decide), if_pos (show nI 4 = 4 from rfl), wd_21, e_bnd]
    by_cases q : r.1 = 0
    · obtain ⟨u, u1, u2⟩ := A.1 q
      have u1' : f_X12_pair (nI b) 7 (iL (pkw 21 : Nat)) 7 σ = some (nI 0, u) := u1
      have B := as_wrd (V := V) hnx hK50 hK hb 22 99 2 (by unfold isW; omega) (by decide) (by decide) q (ln q) (by decide) u2
      rw [u1', e_bnd, if_pos (show nI 0 = 0 from rfl), wd_22, e_bnd, show (nI b + 3) = nI (b + 1 + 2) from nI_add _ _]
      exact ps _ _ B
    · obtain ⟨u, u1, u2⟩ := A.2 q
      have u1' : f_X12_pair (nI b) 7 (iL (pkw 21 : Nat)) 7 σ = some (nI r.1, u) := u1
      rw [u1', e_bnd, if_neg (show ¬ (nI r.1 = 0) from fun g => q ((nI_eq (b := 0) (by omega) (by decide)).mp g)), nx_bad (f := wdP K 22) q, nx_bad q]
      exact ⟨fun g => absurd g q, fun _ => ⟨u, rfl, u2⟩⟩
  by_cases k8 : kd = 8
  · subst k8
    rw [if_neg (by decide), if_neg (by decide), if_pos rfl]
    have A := as_pair (V := V) hnx hK50 hK hb 23 7 7 (by unfold isW; omega) (by decide) (by decide) (by decide) hT hp
    unfold f_X12_body
    rw [if_neg (show ¬ (nI 8 = 3) by decide), if_neg (show ¬ (nI 8 = 4) by decide), if_neg (show ¬ (nI 8 = 5) by decide), if_neg (show ¬ (nI 8 = 6) by decide), if_neg (show ¬ (nI 8 = 7) by decide), if_pos (show nI 8 = 8 from rfl), wd_23, e_bnd]
    exact ps _ _ A
  by_cases k11 : kd = 11
  · subst k11
    rw [if_neg (by decide), if_neg (by decide), if_neg (by decide), if_pos rfl]
    have A := one 1 60 (by decide) (by decide)
    unfold f_X12_body
    rw [if_neg (show ¬ (nI 11 = 3) by decide), if_neg (show ¬ (nI 11 = 4) by decide), if_neg (show ¬ (nI 11 = 5) by decide), if_neg (show ¬ (nI 11 = 6) by decide), if_neg (show ¬ (nI 11 = 7) by decide), if_neg (show ¬ (nI 11 = 8) by decide), if_neg (show ¬ (nI 11 = 9) by decide), if_neg (show ¬ (nI 11 = 10) by decide), if_pos (show nI 11 = 11 from rfl)]
    exact ps _ _ A
  · rw [if_neg k3, if_neg k4, if_neg k8, if_neg k11]
    have A := one 0 7 (by decide) (by decide)
    have e : f_X12_body (nI kd) (nI b) σ = f_X12_body_150 (nI kd) (nI b) σ := by
      unfold f_X12_body
      have cs : kd = 5 ∨ kd = 6 ∨ kd = 7 ∨ kd = 9 ∨ kd = 10 := by omega
      rcases cs with rfl | rfl | rfl | rfl | rfl <;> rfl
    rw [e]
    unfold f_X12_body_150 f_X12_body_173
    rw [if_pos (show (2 : Int32) < nI kd from nI_lt (a := 2) (by omega) (by omega))]
    exact ps _ _ A
