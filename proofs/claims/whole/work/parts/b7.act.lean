/-! text: an act, pure, and the class's -/
def nth : List (Nat × Nat) → Nat → Nat
  | [], _ => 0
  | x :: _, 0 => x.1
  | _ :: c, j + 1 => nth c j
def nxR (f : Nat → PR) (r : PR) : PR := bnR r fun q c => bnR (f q) fun s d => (0, s, c ++ d)
def numP (K V : Nat → Nat) (lo hi p : Nat) : PR := if K p = 43 then (if lo ≤ V p ∧ V p ≤ hi then (0, p + 1, [(V p, 0)]) else (2, p, [])) else (1, p, [])
def wdP (K : Nat → Nat) (k p : Nat) : PR := if K p = k then (0, p + 1, []) else (1, p, [])
def actP (K V : Nat → Nat) (kd p : Nat) : PR :=
  if kd = 3 then nxR (numP K V 0 9999) (nxR (wdP K 20) (nxR (numP K V 0 9) (0, p, [])))
  else if kd = 4 then nxR (numP K V 0 99) (nxR (wdP K 22) (nxR (numP K V 0 7) (nxR (wdP K 21) (nxR (numP K V 0 7) (0, p, [])))))
  else if kd = 8 then nxR (numP K V 0 7) (nxR (wdP K 23) (nxR (numP K V 0 7) (0, p, [])))
  else if kd = 11 then nxR (numP K V 1 60) (0, p, [])
  else nxR (numP K V 0 7) (0, p, [])
theorem nx_ok {f : Nat → PR} {r : PR} (h : (nxR f r).1 = 0) : r.1 = 0 ∧ (f r.2.1).1 = 0 ∧ nxR f r = (0, (f r.2.1).2.1, r.2.2 ++ (f r.2.1).2.2) := by
  by_cases z : r.1 = 0
  · have e : nxR f r = bnR (f r.2.1) fun s d => (0, s, r.2.2 ++ d) := bnR_0 z
    by_cases y : (f r.2.1).1 = 0
    · exact ⟨z, y, by rw [e]; exact bnR_0 y⟩
    · rw [e, bnR_1 y] at h
      exact absurd h y
  · have e : nxR f r = r := bnR_1 z
    rw [e] at h
    exact absurd h z
theorem num_ok {K V : Nat → Nat} {lo hi p : Nat} (h : (numP K V lo hi p).1 = 0) : numP K V lo hi p = (0, p + 1, [(V p, 0)]) ∧ K p = 43 ∧ lo ≤ V p ∧ V p ≤ hi := by
  unfold numP at h ⊢
  by_cases z : K p = 43
  · rw [if_pos z] at h ⊢
    by_cases y : lo ≤ V p ∧ V p ≤ hi
    · rw [if_pos y]
      exact ⟨rfl, z, y.1, y.2⟩
    · rw [if_neg y] at h
      exact absurd (show (2 : Nat) = 0 from h) (by decide)
  · rw [if_neg z] at h
    exact absurd (show (1 : Nat) = 0 from h) (by decide)
theorem wd_ok {K : Nat → Nat} {k p : Nat} (h : (wdP K k p).1 = 0) : wdP K k p = (0, p + 1, []) ∧ K p = k := by
  unfold wdP at h ⊢
  by_cases z : K p = k
  · rw [if_pos z]
    exact ⟨rfl, z⟩
  · rw [if_neg z] at h
    exact absurd (show (1 : Nat) = 0 from h) (by decide)
def AS (P : Nat → Nat) (m lw s : Nat) (cX : Nat → Nat × Nat) (σ : Sg) (r : PR) : Prop := (r.1 = 0 → RSr σ r.2.1 s lw ∧ r.2.1 ≤ m ∧ XC σ cX s) ∧ (r.1 ≠ 0 → r.1 < 100 ∧ FS σ m r.1 (P r.2.1))
theorem fok_num {σ : Sg} {K V P : Nat → Nat} {m f pl : Nat} (lo hi : Int32) (t : TK K V m) (hf : f ≠ 0 ∧ f < 100) (h : XTk σ K V P m) (r : FS σ m f pl) : ∃ v σ', f_X3_takeNumber lo hi σ = some (v, σ') ∧ fr Srd σ σ' ∧ FS σ' m f pl := by
  have m3 := t.1
  have r4 := r.2.2.1
  have kd := x_kindT t h (p := m) (by omega)
  have kn := x_numT t h (p := m) (by omega)
  rw [t.2.1 m (Nat.le_refl _)] at kd
  obtain ⟨u, u1, u2, u3⟩ := x_failF (g := nI 1) t h hf r
  have u1' : f_X3_fail 1 σ = some u := u1
  refine ⟨nI (V m), u, ?_, u2, u3⟩
  unfold f_X3_takeNumber f_X3_takeNumber_63
  rw [r4, kn, e_bnd, r4, kd, e_bnd, if_neg (show ¬ (nI 45 = 43) by decide), u1', e_bndV]
theorem as_num {σ : Sg} {K V P : Nat → Nat} {m lw s : Nat} {cX : Nat → Nat × Nat} {r : PR} (lo hi : Nat) (hlo : lo < 20000) (hhi : hi < 20000) (t : TK K V m) (hs : s ≤ 300) (h : XTk σ K V P m) (a : AS P m lw s cX σ r) : ∃ v σ', f_X3_takeNumber (nI lo) (nI hi) σ = some (v, σ') ∧ fr Srd σ σ' ∧ AS P m lw s cX σ' (nxR (numP K V lo hi) r) ∧ ((nxR (numP K V lo hi) r).1 = 0 → v = nI (V r.2.1)) := by
  by_cases z : r.1 = 0
  · have e : nxR (numP K V lo hi) r = bnR (numP K V lo hi r.2.1) fun s d => (0, s, r.2.2 ++ d) := bnR_0 z
    obtain ⟨a1, a2, a3⟩ := a.1 z
    rcases x_tnum t h a1 a2 hs hlo hhi with ⟨b1, b2, b3, b4⟩ | ⟨b1, b2, u, u1, u2, u3⟩ | ⟨b1, u, u1, u2, u3⟩
    · have en : numP K V lo hi r.2.1 = (0, r.2.1 + 1, [(V r.2.1, 0)]) := by
        unfold numP
        rw [if_pos b1, if_pos ⟨b2, b3⟩]
      rw [e, en]
      refine ⟨_, _, b4, fr.w (by omega), ⟨fun _ => ⟨a1.at, ?_, a3.w⟩, fun q => absurd rfl q⟩, fun _ => rfl⟩
      have := lt_m t b1 (by decide)
      show r.2.1 + 1 ≤ m
      omega
    · have en : numP K V lo hi r.2.1 = (2, r.2.1, []) := by
        unfold numP
        rw [if_pos b1, if_neg b2]
      rw [e, en]
      exact ⟨_, u, u1, u2, ⟨fun q => absurd (show (2 : Nat) = 0 from q) (by decide), fun _ => ⟨(by decide : (2 : Nat) < 100), u3⟩⟩, fun q => absurd (show (2 : Nat) = 0 from q) (by decide)⟩
    · have en : numP K V lo hi r.2.1 = (1, r.2.1, []) := by
        unfold numP
        rw [if_neg b1]
      rw [e, en]
      exact ⟨_, u, u1, u2, ⟨fun q => absurd (show (1 : Nat) = 0 from q) (by decide), fun _ => ⟨(by decide : (1 : Nat) < 100), u3⟩⟩, fun q => absurd (show (1 : Nat) = 0 from q) (by decide)⟩
  · have e : nxR (numP K V lo hi) r = r := bnR_1 z
    obtain ⟨b1, b2⟩ := a.2 z
    obtain ⟨v, u, u1, u2, u3⟩ := fok_num (nI lo) (nI hi) t ⟨z, b1⟩ h b2
    rw [e]
    exact ⟨v, u, u1, u2, ⟨fun q => absurd q z, fun _ => ⟨b1, u3⟩⟩, fun q => absurd q z⟩
theorem as_wd {σ : Sg} {K V P : Nat → Nat} {m lw s : Nat} {cX : Nat → Nat × Nat} {r : PR} (k : Nat) (hk : k ≠ 45 ∧ k < 100) (t : TK K V m) (hs : s ≤ 300) (h : XTk σ K V P m) (a : AS P m lw s cX σ r) : ∃ σ', f_X3_take (nI k) σ = some σ' ∧ fr Srd σ σ' ∧ AS P m lw s cX σ' (nxR (wdP K k) r) := by
  by_cases z : r.1 = 0
  · have e : nxR (wdP K k) r = bnR (wdP K k r.2.1) fun s d => (0, s, r.2.2 ++ d) := bnR_0 z
    obtain ⟨a1, a2, a3⟩ := a.1 z
    by_cases y : K r.2.1 = k
    · have en : wdP K k r.2.1 = (0, r.2.1 + 1, []) := if_pos y
      rw [e, en]
      refine ⟨_, x_take t h a1 a2 y, fr.w (by omega), ⟨fun _ => ⟨a1.at, ?_, a3.w⟩, fun q => absurd rfl q⟩⟩
      have := lt_m t y hk.1
      show r.2.1 + 1 ≤ m
      omega
    · have en : wdP K k r.2.1 = (1, r.2.1, []) := if_neg y
      obtain ⟨u, u1, u2, u3⟩ := x_takeN t h a1 a2 hs y hk.2
      rw [e, en]
      exact ⟨u, u1, u2, ⟨fun q => absurd (show (1 : Nat) = 0 from q) (by decide), fun _ => ⟨(by decide : (1 : Nat) < 100), u3⟩⟩⟩
  · have e : nxR (wdP K k) r = r := bnR_1 z
    obtain ⟨b1, b2⟩ := a.2 z
    obtain ⟨u, u1, u2, u3⟩ := fok_take (k := k) t hk σ r.1 _ ⟨z, b1⟩ h b2
    rw [e]
    exact ⟨u, u1, u2, ⟨fun q => absurd q z, fun _ => ⟨b1, u3⟩⟩⟩
theorem x_add {σ : Sg} {n : Nat} (hn : n < 24) (h6 : σ.1 49 6 = nI n) (k a b c : Int32) : ∃ σ', f_X3_addClause k a b c σ = some σ' ∧ fr (fun x j => (x = 54 ∧ 4 * n ≤ j ∧ j < 4 * n + 4) ∨ (x = 49 ∧ j = 6)) σ σ' ∧ σ'.1 49 6 = nI (n + 1) ∧ σ'.1 54 (4 * n) = k ∧ σ'.1 54 (4 * n + 1) = a ∧ σ'.1 54 (4 * n + 2) = b ∧ σ'.1 54 (4 * n + 3) = c := by
  refine ⟨wI (wI (wI (wI (wI σ 54 (4 * n) k) 54 (4 * n + 1) a) 54 (4 * n + 2) b) 54 (4 * n + 3) c) 49 6 (nI (n + 1)), ?_, ((((fr.w (by omega)).trans (fr.w (by omega))).trans (fr.w (by omega))).trans (fr.w (by omega))).trans (fr.w (by omega)), e_hit, ?_, ?_, ?_, ?_⟩
  · unfold f_X3_addClause f_X3_addClause_66
    simp (disch := omega) only [e_bnd, e_bndV, e_lt, e_grd, e_lit, e_le1, e_le2, e_lt1, e_lt2, e_eq1, e_eq2, e_inb, e_ix, nI_add, pk_mul, e_sub, e_b0, e_b1, e_bz, e_bz0, e_bz1, Bool.and_true, Bool.true_and, ↓reduceIte, not_true_eq_false, not_false_eq_true, decide_false, decide_true, and_self, and_true, true_and, and_false, false_and, Bool.false_eq_true, Bool.not_false, Bool.not_true, h6, e_ne1, show n * 4 = 4 * n by omega]
  · rw [e_ne1 (by decide), e_ne2 (by omega), e_ne2 (by omega), e_ne2 (by omega), e_hit]
  · rw [e_ne1 (by decide), e_ne2 (by omega), e_ne2 (by omega), e_hit]
  · rw [e_ne1 (by decide), e_ne2 (by omega), e_hit]
  · rw [e_ne1 (by decide), e_hit]
abbrev Sact (n : Nat) : Nat → Nat → Prop := fun x j => Srd x j ∨ (x = 54 ∧ 4 * n ≤ j ∧ j < 4 * n + 4) ∨ (x = 49 ∧ j = 6)
theorem AS.of {P : Nat → Nat} {m lw s n : Nat} {cX : Nat → Nat × Nat} {σ σ' : Sg} {r : PR} (h : AS P m lw s cX σ r) (f : fr (fun x j => (x = 54 ∧ 4 * n ≤ j ∧ j < 4 * n + 4) ∨ (x = 49 ∧ j = 6)) σ σ') : AS P m lw s cX σ' r := by
  refine ⟨fun z => ?_, fun z => ?_⟩
  · obtain ⟨⟨a1, a2, a3, a4, a5⟩, b, c⟩ := h.1 z
    refine ⟨⟨?_, ?_, ?_, ?_, ?_⟩, b, fun j hj => ?_⟩
    · rw [f.1 _ _ (by omega)]; exact a1
    · rw [f.1 _ _ (by omega)]; exact a2
    · rw [f.1 _ _ (by omega)]; exact a3
    · rw [f.1 _ _ (by omega)]; exact a4
    · rw [f.1 _ _ (by omega)]; exact a5
    · rw [f.1 _ _ (by omega), f.1 _ _ (by omega)]; exact c j hj
  · obtain ⟨b, a1, a2, a3, s, a4, a5⟩ := h.2 z
    refine ⟨b, ?_, ?_, ?_, s, a4, ?_⟩
    · rw [f.1 _ _ (by omega)]; exact a1
    · rw [f.1 _ _ (by omega)]; exact a2
    · rw [f.1 _ _ (by omega)]; exact a3
    · rw [f.1 _ _ (by omega)]; exact a5
theorem x_readAct {σ : Sg} {K V P : Nat → Nat} {m p lw s n kd : Nat} {cX : Nat → Nat × Nat} (hkd : 3 ≤ kd ∧ kd ≤ 11) (hn : n < 24) (h6 : σ.1 49 6 = nI n) (t : TK K V m) (hs : s ≤ 300) (h : XTk σ K V P m) (a : RSr σ p s lw) (hp : p ≤ m) (c : XC σ cX s) : ∃ σ', f_X3_readAct (nI kd) σ = some σ' ∧ fr (Sact n) σ σ' ∧ σ'.1 49 6 = nI (n + 1) ∧ AS P m lw s cX σ' (actP K V kd p) ∧ ((actP K V kd p).1 = 0 → σ'.1 54 (4 * n) = nI kd ∧ ∀ j, j < ari kd → σ'.1 54 (4 * n + 1 + j) = nI (nth (actP K V kd p).2.2 j)) := by
  have A0 : AS P m lw s cX σ (0, p, []) := ⟨fun _ => ⟨a, hp, c⟩, fun q => absurd rfl q⟩
  have fin : ∀ (r : PR) (τ : Sg) (v1 v2 v3 : Int32), fr Srd σ τ → AS P m lw s cX τ r → (r.1 = 0 → ∀ j, j < ari kd → (if j = 0 then v1 else if j = 1 then v2 else v3) = nI (nth r.2.2 j)) → ∃ σ', f_X3_readAct_170 (nI kd) v1 v2 v3 τ = some σ' ∧ fr (Sact n) σ σ' ∧ σ'.1 49 6 = nI (n + 1) ∧ AS P m lw s cX σ' r ∧ (r.1 = 0 → σ'.1 54 (4 * n) = nI kd ∧ ∀ j, j < ari kd → σ'.1 54 (4 * n + 1 + j) = nI (nth r.2.2 j)) := by
    intro r τ v1 v2 v3 f1 A1 hv
    obtain ⟨u, u1, u2, u3, u4, u5, u6, u7⟩ := x_add (σ := τ) hn (by rw [f1.1 _ _ (by omega)]; exact h6) (nI kd) v1 v2 v3
    refine ⟨u, ?_, (f1.mono (fun x j q => by omega)).trans (u2.mono (fun x j q => by omega)), u3, A1.of u2, fun z => ⟨u4, fun j hj => ?_⟩⟩
    · unfold f_X3_readAct_170
      rw [u1, e_bndV]
    · have ha : ari kd ≤ 3 := by
        unfold ari
        repeat' split
        all_goals omega
      have := hv z j hj
      have cs : j = 0 ∨ j = 1 ∨ j = 2 := by omega
      rcases cs with rfl | rfl | rfl
      · rw [← this, if_pos rfl]
        exact u5
      · rw [← this, if_neg (by decide), if_pos rfl]
        exact u6
      · rw [← this, if_neg (by decide), if_neg (by decide)]
        exact u7
  unfold actP
  by_cases k3 : kd = 3
  · subst k3
    obtain ⟨v1, s1, a1, b1, c1, d1⟩ := as_num (V := V) 0 9 (by decide) (by decide) t hs h A0
    obtain ⟨s2, a2, b2, c2⟩ := as_wd 20 (by decide) t hs (h.of b1) c1
    obtain ⟨v3, s3, a3, b3, c3, d3⟩ := as_num (V := V) 0 9999 (by decide) (by decide) t hs ((h.of b1).of b2) c2
    rw [if_pos rfl]
    have a1' : f_X3_takeNumber 0 9 σ = some (v1, s1) := a1
    have a2' : f_X3_take 20 s1 = some s2 := a2
    have a3' : f_X3_takeNumber 0 9999 s2 = some (v3, s3) := a3
    obtain ⟨u, u1, u2⟩ := fin _ s3 v1 v3 (-1) ((b1.trans b2).trans b3) c3 (fun z j hj => by
      obtain ⟨z2, z3, z4⟩ := nx_ok z
      obtain ⟨y2, y3, y4⟩ := nx_ok z2
      obtain ⟨x2, x3, x4⟩ := nx_ok y2
      have hj2 : j = 0 ∨ j = 1 := by
        have : j < 2 := hj
        omega
      have e1 := d1 y2
      have e3 := d3 z
      rw [z4, (num_ok z3).1, y4, (wd_ok y3).1, x4, (num_ok x3).1]
      rw [y4, (wd_ok y3).1, x4, (num_ok x3).1] at e3
      rcases hj2 with rfl | rfl
      · rw [if_pos rfl, e1]
        rfl
      · rw [if_neg (by decide), if_pos rfl, e3]
        rfl)
    refine ⟨u, ?_, u2⟩
    unfold f_X3_readAct
    rw [if_pos (show nI 3 = 3 from rfl), a1', e_bnd, a2', e_bndV, a3', e_bnd]
    exact u1
  by_cases k4 : kd = 4
  · subst k4
    obtain ⟨v1, s1, a1, b1, c1, d1⟩ := as_num (V := V) 0 7 (by decide) (by decide) t hs h A0
    obtain ⟨s2, a2, b2, c2⟩ := as_wd 21 (by decide) t hs (h.of b1) c1
    obtain ⟨v3, s3, a3, b3, c3, d3⟩ := as_num (V := V) 0 7 (by decide) (by decide) t hs ((h.of b1).of b2) c2
    obtain ⟨s4, a4, b4, c4⟩ := as_wd 22 (by decide) t hs (((h.of b1).of b2).of b3) c3
    obtain ⟨v5, s5, a5, b5, c5, d5⟩ := as_num (V := V) 0 99 (by decide) (by decide) t hs ((((h.of b1).of b2).of b3).of b4) c4
    rw [if_neg (by decide), if_pos rfl]
    have a1' : f_X3_takeNumber 0 7 σ = some (v1, s1) := a1
    have a2' : f_X3_take 21 s1 = some s2 := a2
    have a3' : f_X3_takeNumber 0 7 s2 = some (v3, s3) := a3
    have a4' : f_X3_take 22 s3 = some s4 := a4
    have a5' : f_X3_takeNumber 0 99 s4 = some (v5, s5) := a5
    obtain ⟨u, u1, u2⟩ := fin _ s5 v1 v3 v5 ((((b1.trans b2).trans b3).trans b4).trans b5) c5 (fun z j hj => by
      obtain ⟨z2, z3, z4⟩ := nx_ok z
      obtain ⟨y2, y3, y4⟩ := nx_ok z2
      obtain ⟨x2, x3, x4⟩ := nx_ok y2
      obtain ⟨w2, w3, w4⟩ := nx_ok x2
      obtain ⟨t2, t3, t4⟩ := nx_ok w2
      have hj2 : j = 0 ∨ j = 1 ∨ j = 2 := by
        have : j < 3 := hj
        omega
      have e1 := d1 w2
      have e3 := d3 y2
      have e5 := d5 z
      rw [z4, (num_ok z3).1, y4, (wd_ok y3).1, x4, (num_ok x3).1, w4, (wd_ok w3).1, t4, (num_ok t3).1]
      rw [y4, (wd_ok y3).1, x4, (num_ok x3).1, w4, (wd_ok w3).1, t4, (num_ok t3).1] at e5
      rw [w4, (wd_ok w3).1, t4, (num_ok t3).1] at e3
      rcases hj2 with rfl | rfl | rfl
      · rw [if_pos rfl, e1]
        rfl
      · rw [if_neg (by decide), if_pos rfl, e3]
        rfl
      · rw [if_neg (by decide), if_neg (by decide), e5]
        rfl)
    refine ⟨u, ?_, u2⟩
    unfold f_X3_readAct
    rw [if_neg (show ¬ (nI 4 = 3) by decide), if_pos (show nI 4 = 4 from rfl), a1', e_bnd, a2', e_bndV, a3', e_bnd, a4', e_bndV, a5', e_bnd]
    exact u1
  by_cases k8 : kd = 8
  · subst k8
    obtain ⟨v1, s1, a1, b1, c1, d1⟩ := as_num (V := V) 0 7 (by decide) (by decide) t hs h A0
    obtain ⟨s2, a2, b2, c2⟩ := as_wd 23 (by decide) t hs (h.of b1) c1
    obtain ⟨v3, s3, a3, b3, c3, d3⟩ := as_num (V := V) 0 7 (by decide) (by decide) t hs ((h.of b1).of b2) c2
    rw [if_neg (by decide), if_neg (by decide), if_pos rfl]
    have a1' : f_X3_takeNumber 0 7 σ = some (v1, s1) := a1
    have a2' : f_X3_take 23 s1 = some s2 := a2
    have a3' : f_X3_takeNumber 0 7 s2 = some (v3, s3) := a3
    obtain ⟨u, u1, u2⟩ := fin _ s3 v1 v3 (-1) ((b1.trans b2).trans b3) c3 (fun z j hj => by
      obtain ⟨z2, z3, z4⟩ := nx_ok z
      obtain ⟨y2, y3, y4⟩ := nx_ok z2
      obtain ⟨x2, x3, x4⟩ := nx_ok y2
      have hj2 : j = 0 ∨ j = 1 := by
        have : j < 2 := hj
        omega
      have e1 := d1 y2
      have e3 := d3 z
      rw [z4, (num_ok z3).1, y4, (wd_ok y3).1, x4, (num_ok x3).1]
      rw [y4, (wd_ok y3).1, x4, (num_ok x3).1] at e3
      rcases hj2 with rfl | rfl
      · rw [if_pos rfl, e1]
        rfl
      · rw [if_neg (by decide), if_pos rfl, e3]
        rfl)
    refine ⟨u, ?_, u2⟩
    unfold f_X3_readAct
    rw [if_neg (show ¬ (nI 8 = 3) by decide), if_neg (show ¬ (nI 8 = 4) by decide), if_neg (show ¬ (nI 8 = 5) by decide), if_neg (show ¬ (nI 8 = 6) by decide), if_neg (show ¬ (nI 8 = 7) by decide), if_pos (show nI 8 = 8 from rfl), a1', e_bnd, a2', e_bndV, a3', e_bnd]
    exact u1
  by_cases k11 : kd = 11
  · subst k11
    obtain ⟨v1, s1, a1, b1, c1, d1⟩ := as_num (V := V) 1 60 (by decide) (by decide) t hs h A0
    rw [if_neg (by decide), if_neg (by decide), if_neg (by decide), if_pos rfl]
    have a1' : f_X3_takeNumber 1 60 σ = some (v1, s1) := a1
    obtain ⟨u, u1, u2⟩ := fin _ s1 v1 (-1) (-1) b1 c1 (fun z j hj => by
      obtain ⟨z2, z3, z4⟩ := nx_ok z
      have hj2 : j = 0 := by
        have : j < 1 := hj
        omega
      have e1 := d1 z
      rw [z4, (num_ok z3).1, hj2, if_pos rfl, e1]
      rfl)
    refine ⟨u, ?_, u2⟩
    unfold f_X3_readAct
    rw [if_neg (show ¬ (nI 11 = 3) by decide), if_neg (show ¬ (nI 11 = 4) by decide), if_neg (show ¬ (nI 11 = 5) by decide), if_neg (show ¬ (nI 11 = 6) by decide), if_neg (show ¬ (nI 11 = 7) by decide), if_neg (show ¬ (nI 11 = 8) by decide), if_neg (show ¬ (nI 11 = 9) by decide), if_neg (show ¬ (nI 11 = 10) by decide), if_pos (show nI 11 = 11 from rfl), a1', e_bnd]
    exact u1
  · obtain ⟨v1, s1, a1, b1, c1, d1⟩ := as_num (V := V) 0 7 (by decide) (by decide) t hs h A0
    rw [if_neg k3, if_neg k4, if_neg k8, if_neg k11]
    have a1' : f_X3_takeNumber 0 7 σ = some (v1, s1) := a1
    obtain ⟨u, u1, u2⟩ := fin _ s1 v1 (-1) (-1) b1 c1 (fun z j hj => by
      obtain ⟨z2, z3, z4⟩ := nx_ok z
      have hj2 : j = 0 := by
        unfold ari at hj
        rw [if_neg (by omega), if_neg k3, if_neg k4, if_neg k8] at hj
        omega
      have e1 := d1 z
      rw [z4, (num_ok z3).1, hj2, if_pos rfl, e1]
      rfl)
    refine ⟨u, ?_, u2⟩
    have e : f_X3_readAct (nI kd) σ = f_X3_readAct_162 (nI kd) (-1) (-1) σ := by
      unfold f_X3_readAct
      have cs : kd = 5 ∨ kd = 6 ∨ kd = 7 ∨ kd = 9 ∨ kd = 10 := by omega
      rcases cs with rfl | rfl | rfl | rfl | rfl <;> rfl
    rw [e]
    unfold f_X3_readAct_162
    rw [a1', e_bnd]
    exact u1
