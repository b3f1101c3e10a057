/-! text: both sides, clause by clause -/
theorem act_cb {K V : Nat → Nat} {kd p : Nat} (h : (actP K V kd p).1 = 0) (h3 : 3 ≤ kd) : ∀ j, j < ari kd → cnB kd j (nth (actP K V kd p).2.2 j) := by
  have a0 : nth [] = fun _ => 0 := by
    funext j
    cases j <;> rfl
  have al := act_len h h3
  intro j hj
  unfold actP at h ⊢
  unfold ari at hj
  rw [if_neg (show ¬ (kd < 3) by omega)] at hj
  unfold cnB
  by_cases a : kd = 3
  · rw [if_pos a] at h hj ⊢
    obtain ⟨x1, x2, x3⟩ := nx_ok h
    obtain ⟨y1, y2, y3⟩ := nx_ok x1
    obtain ⟨w1, w2, w3⟩ := nx_ok y1
    have b1 := (num_ok x2).2.2.2
    have b2 := (num_ok w2).2.2.2
    rw [y3, (wd_ok y2).1, w3, (num_ok w2).1] at b1
    rw [if_pos a, x3, (num_ok x2).1, y3, (wd_ok y2).1, w3, (num_ok w2).1]
    have cs : j = 0 ∨ j = 1 := by omega
    rcases cs with rfl | rfl
    · exact Nat.le_trans b2 (by decide)
    · exact b1
  rw [if_neg a] at h hj ⊢
  rw [if_neg a]
  by_cases a : kd = 4
  · rw [if_pos a] at h hj ⊢
    obtain ⟨x1, x2, x3⟩ := nx_ok h
    obtain ⟨y1, y2, y3⟩ := nx_ok x1
    obtain ⟨w1, w2, w3⟩ := nx_ok y1
    obtain ⟨s1, s2, s3⟩ := nx_ok w1
    obtain ⟨t1, t2, t3⟩ := nx_ok s1
    have b1 := (num_ok x2).2.2.2
    have b2 := (num_ok w2).2.2.2
    have b3 := (num_ok t2).2.2.2
    rw [y3, (wd_ok y2).1, w3, (num_ok w2).1, s3, (wd_ok s2).1, t3, (num_ok t2).1] at b1
    rw [s3, (wd_ok s2).1, t3, (num_ok t2).1] at b2
    rw [if_neg (show ¬ (kd = 11) by omega), x3, (num_ok x2).1, y3, (wd_ok y2).1, w3, (num_ok w2).1, s3, (wd_ok s2).1, t3, (num_ok t2).1]
    have cs : j = 0 ∨ j = 1 ∨ j = 2 := by omega
    rcases cs with rfl | rfl | rfl
    · rw [if_neg (show ¬ (kd = 4 ∧ 0 = 2) by omega)]
      exact b3
    · rw [if_neg (show ¬ (kd = 4 ∧ 1 = 2) by omega)]
      exact b2
    · rw [if_pos (show kd = 4 ∧ 2 = 2 from ⟨a, rfl⟩)]
      exact b1
  rw [if_neg a] at h hj ⊢
  have no4 : ¬ (kd = 4 ∧ j = 2) := fun q => a q.1
  by_cases a : kd = 8
  · rw [if_pos a] at h hj ⊢
    obtain ⟨x1, x2, x3⟩ := nx_ok h
    obtain ⟨y1, y2, y3⟩ := nx_ok x1
    obtain ⟨w1, w2, w3⟩ := nx_ok y1
    have b1 := (num_ok x2).2.2.2
    have b2 := (num_ok w2).2.2.2
    rw [y3, (wd_ok y2).1, w3, (num_ok w2).1] at b1
    rw [if_neg (show ¬ (kd = 11) by omega), if_neg no4, x3, (num_ok x2).1, y3, (wd_ok y2).1, w3, (num_ok w2).1]
    have cs : j = 0 ∨ j = 1 := by omega
    rcases cs with rfl | rfl
    · exact b2
    · exact b1
  rw [if_neg a] at h hj ⊢
  have j0 : j = 0 := by omega
  subst j0
  by_cases a : kd = 11
  · rw [if_pos a] at h ⊢
    obtain ⟨x1, x2, x3⟩ := nx_ok h
    rw [if_pos a, x3, (num_ok x2).1]
    exact ⟨(num_ok x2).2.2.1, (num_ok x2).2.2.2⟩
  rw [if_neg a] at h ⊢
  obtain ⟨x1, x2, x3⟩ := nx_ok h
  rw [if_neg a, if_neg no4, x3, (num_ok x2).1]
  exact (num_ok x2).2.2.2
def JT (T P E K V : Nat → Nat) (L m B : Nat) (σX σM : Sg) (p n : Nat) (ck : Nat → Nat) (cn : Nat → Nat → Nat) (Lw : Nat → Option LV) : Prop := (∃ s cX, CSX K V P m σX p s n ck cn Lw cX) ∧ (∃ c, CSM T P E K V L B σM p n ck cn Lw c) ∧ deps Lw ∧ CB n ck cn
theorem j_step {T P E K V : Nat → Nat} {L m B : Nat} (t : TK K V m) (hnx : NX T P E K V L) (hsp : SPX T P E K V L) (hB : B + 705 ≤ 2820) {σX σM : Sg} {p n : Nat} {ck : Nat → Nat} {cn : Nat → Nat → Nat} {Lw : Nat → Option LV} (J : JT T P E K V L m B σX σM p n ck cn Lw) : ∃ σX' σM', f_X3_clause σX = some σX' ∧ fr Scl σX σX' ∧ fr Scm σM σM' ∧ frT B σM σM' ∧ ((f_X12_clause σM = some (nI 0, σM') ∧ n < 24 ∧ ∃ q ck' cn' Lw', JT T P E K V L m B σX' σM' q (n + 1) ck' cn' Lw') ∨ ∃ f pl, f ≠ 0 ∧ f < 100 ∧ f_X12_clause σM = some (nI f, σM') ∧ FS σX' m f pl ∧ σM'.1 0 8 = nI pl) := by
  obtain ⟨⟨s, cX, hX⟩, ⟨c, hM⟩, hd, hb⟩ := J
  have x := x_clause t hX
  have y := m_clause hnx hsp t.2.2.1 (fun j hj => t.2.1 j (Nat.le_trans t.1 hj)) t.2.2.2 hB hM
  obtain ⟨r, hr⟩ : ∃ r, r = clsP K V n (fun l => (Lw l).isSome) p := ⟨_, rfl⟩
  rw [← hr] at x y
  by_cases z : r.1 = 0
  · obtain ⟨σX', s', dX, Lw', x1, x2, x3, x4, x5⟩ := x.1 z
    obtain ⟨σM', c', y1, y2, y3, y4⟩ := y.1 z Lw' (fun k => by
      obtain ⟨a, v, _, b, d⟩ := x4 k
      exact ⟨a, v, b, d⟩) x5
    have k11 : ¬ 11 < K p := fun g => by
      have e : clsP K V n (fun l => (Lw l).isSome) p = (1, p, []) := if_pos g
      rw [hr, e] at z
      exact absurd (show (1 : Nat) = 0 from z) (by decide)
    have n24 : n < 24 := by
      have := y4.2.2.2.2.2.2.1.1
      omega
    refine ⟨σX', σM', x1, x2, y2, y3, Or.inl ⟨y1, n24, r.2.1, _, _, Lw', ⟨s', dX, x3⟩, ⟨c', y4⟩, ?_, by omega, fun k hk => ?_⟩⟩
    · intro l v hv
      by_cases k3 : K p < 3
      · obtain ⟨_, w, w1, _, w2⟩ := x4 k3
        rw [w2] at hv
        by_cases g : l = K p
        · rw [g, upF_hit] at hv
          cases hv
          exact w1
        · rw [upF_ne g] at hv
          exact hd l v hv
      · rw [x5 k3] at hv
        exact hd l v hv
    · by_cases g : k = n
      · rw [g, upF_hit, upF_hit]
        refine ⟨by omega, fun j hj => ?_⟩
        by_cases k3 : K p < 3
        · rw [show ari (K p) = 0 from if_pos k3] at hj
          exact absurd hj (Nat.not_lt_zero _)
        · have no4 : ¬ (K p < 3 ∧ (Lw (K p)).isSome = true) := fun q => k3 q.1
          have e : clsP K V n (fun l => (Lw l).isSome) p = nxR (wdP K 42) (actP K V (K p) (p + 1)) := by
            unfold clsP
            rw [if_neg k11, if_neg no4, if_neg (by omega), if_neg k3]
          rw [hr, e] at z ⊢
          obtain ⟨z1, z2, z3⟩ := nx_ok z
          have pay : (nxR (wdP K 42) (actP K V (K p) (p + 1))).2.2 = (actP K V (K p) (p + 1)).2.2 := by
            rw [z3, (wd_ok z2).1]
            exact List.append_nil _
          rw [pay]
          exact act_cb z1 (by omega) j hj
      · rw [upF_ne g, upF_ne g]
        exact hb.2 k (by omega)
  · obtain ⟨σX', x1, x2, x3, x4⟩ := x.2 z
    obtain ⟨σM', y1, y2, y3, y4⟩ := y.2 z
    exact ⟨σX', σM', x1, x2, y3, y4, Or.inr ⟨r.1, P r.2.1, z, x3, y1, x4, y2⟩⟩
/-- the class's loop over the clauses -/
def xloop : Nat → Sg → Option Sg
  | 0, σ => some σ
  | k + 1, σ => bnd (f_X7_kind (σ.1 49 4) σ) fun r σ1 => if r = 45 then some σ1 else bndV (f_X3_clause σ1) (xloop k)
theorem j_loop {T P E K V : Nat → Nat} {L m B : Nat} (t : TK K V m) (hnx : NX T P E K V L) (hsp : SPX T P E K V L) (hB : B + 705 ≤ 2820) : ∀ (k n : Nat) (σX σM : Sg) (p : Nat) (ck : Nat → Nat) (cn : Nat → Nat → Nat) (Lw : Nat → Option LV) (fu : Nat), k + n = 25 → JT T P E K V L m B σX σM p n ck cn Lw → ∃ σX' σM' r, xloop k σX = some σX' ∧ f_X12_readText_43 (fu + k) σM = some (r, σM') ∧ fr Scl σX σX' ∧ fr Scm σM σM' ∧ frT B σM σM' ∧ ((r = nI 0 ∧ ∃ q n' ck' cn' Lw', JT T P E K V L m B σX' σM' q n' ck' cn' Lw') ∨ ∃ f pl, f ≠ 0 ∧ f < 100 ∧ r = nI f ∧ FS σX' m f pl ∧ σM'.1 0 8 = nI pl) := by
  intro k
  induction k with
  | zero =>
    intro n σX σM p ck cn Lw fu hk J
    have := J.2.2.2.1
    omega
  | succ k ih =>
    intro n σX σM p ck cn Lw fu hk J
    obtain ⟨⟨s, cX, hX⟩, ⟨c, hM⟩, hd, hb⟩ := id J
    obtain ⟨lw, hr⟩ := hX.2.1
    have hp := hX.2.2.1
    have m3 := t.1
    have k50 := t.2.2.1 p
    have kd := x_kindT t hX.1 (p := p) (by omega)
    have t0 := m_tok0 hM.1.1 k50
    by_cases z : K p = 45
    · refine ⟨σX, σM, nI 0, ?_, ?_, fr.rfl, fr.rfl, fun _ _ => rfl, Or.inl ⟨rfl, p, n, ck, cn, Lw, J⟩⟩
      · show bnd (f_X7_kind (σX.1 49 4) σX) _ = _
        rw [hr.2.2.1, kd, e_bnd, if_pos (show nI (K p) = 45 by rw [z]; rfl)]
      · show (if (σM.1 0 9) = 0 then _ else _) = _
        rw [if_pos (show σM.1 0 9 = 0 from t0.symm ▸ z)]
        rfl
    · obtain ⟨u, v, u1, u2, v2, v3, w⟩ := j_step t hnx hsp hB J
      have eX : xloop (k + 1) σX = xloop k u := by
        show bnd (f_X7_kind (σX.1 49 4) σX) _ = _
        rw [hr.2.2.1, kd, e_bnd, if_neg (show ¬ (nI (K p) = 45) from fun g => z ((nI_eq (b := 45) (by omega) (by decide)).mp g)), u1, e_bndV]
      have eM : f_X12_readText_43 (fu + (k + 1)) σM = bnd (f_X12_clause σM) fun r3 σ2 => if r3 = 0 then (f_X12_readText_43 (fu + k)) σ2 else some (r3, σ2) := by
        show (if (σM.1 0 9) = 0 then _ else _) = _
        rw [if_neg (show ¬ (σM.1 0 9 = 0) from fun g => z (t0 ▸ g))]
        rfl
      rcases w with ⟨w1, w2, q, ck', cn', Lw', w3⟩ | ⟨f, pl, f0, f1, w1, w2, w3⟩
      · obtain ⟨σX', σM', r, a1, a2, a3, a4, a5, a6⟩ := ih (n + 1) u v q ck' cn' Lw' fu (by omega) w3
        exact ⟨σX', σM', r, by rw [eX, a1], by rw [eM, w1, e_bnd, if_pos (show nI 0 = 0 from rfl), a2], u2.trans a3, v2.trans a4, v3.trans a5, a6⟩
      · refine ⟨u, v, nI f, ?_, ?_, u2, v2, v3, Or.inr ⟨f, pl, f0, f1, rfl, w2, w3⟩⟩
        · rw [eX]
          cases k with
          | zero => rfl
          | succ k =>
            have kd2 := x_kindT t (hX.1.ofc u2) (p := m) (by omega)
            rw [t.2.1 m (Nat.le_refl _)] at kd2
            show bnd (f_X7_kind (u.1 49 4) u) _ = _
            rw [w2.2.2.1, kd2, e_bnd, if_pos (show nI 45 = 45 from rfl)]
        · rw [eM, w1, e_bnd, if_neg (show ¬ (nI f = 0) from fun g => f0 ((nI_eq (b := 0) (by omega) (by decide)).mp g))]
