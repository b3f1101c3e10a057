/-! METHODS: image, back -/
theorem m_copy {σ : Sg} {qa qb : Nat} (h : qa ≠ qb) : f_X12_copy qa qb σ = some (wC σ qa 0 qb 0 1986) := by
  unfold f_X12_copy
  have e : ∀ N, 1986 < N → f_X12_copy_2 qa qb N (nI 0) (wC σ qa 0 qb 0 0) = some (wC σ qa 0 qb 0 1986) := fun N hN => lp (fun fu (q : Int32 × Sg) => f_X12_copy_2 qa qb fu q.1 q.2) (fun i => (nI i, wC σ qa 0 qb 0 i)) 1986 (r := some (wC σ qa 0 qb 0 1986)) (fun i hi fu => by
    dsimp only
    rw [f_X12_copy_2]
    have st := wC_step (k0 := qa) (s := 0) (k1 := qb) (d := 0) (n := i) (σ := σ)
    rw [Nat.zero_add] at st
    rw [← st]
    simp (disch := omega) only [e_bnd, e_bndV, e_lt, e_grd, e_lit, e_le1, e_le2, e_lt1, e_lt2, e_eq1, e_eq2, e_inb, e_ix, nI_add, pk_mul, e_sub, e_b0, e_b1, e_bz, e_bz0, e_bz1, Bool.and_true, Bool.true_and, ↓reduceIte, not_true_eq_false, not_false_eq_true, decide_false, decide_true, and_self, and_true, true_and, and_false, false_and, Bool.false_eq_true, Bool.not_false, Bool.not_true, wC_o]) (fun fu => by
    dsimp only
    rw [f_X12_copy_2]
    simp (disch := omega) only [e_bnd, e_bndV, e_lt, e_grd, e_lit, e_le1, e_le2, e_lt1, e_lt2, e_eq1, e_eq2, e_inb, e_ix, nI_add, pk_mul, e_sub, e_b0, e_b1, e_bz, e_bz0, e_bz1, Bool.and_true, Bool.true_and, ↓reduceIte, not_true_eq_false, not_false_eq_true, decide_false, decide_true, and_self, and_true, true_and, and_false, false_and, Bool.false_eq_true, Bool.not_false, Bool.not_true]) N hN
  rw [wC_0] at e
  have := e FU (by unfold FU; omega)
  simp (disch := omega) only [e_lit]
  exact this
def qS (σ : Sg) (k1 k0 i : Nat) : Sg := (σ.1, σ.2.1, fun a j => if a = k1 ∧ j < i then σ.2.2 k0 j else σ.2.2 a j)
theorem qS_0 {σ : Sg} {k1 k0 : Nat} : qS σ k1 k0 0 = σ := by
  refine Prod.ext rfl (Prod.ext rfl (funext fun a => funext fun j => ?_))
  show (if _ then _ else _) = _
  rw [if_neg (by omega)]
theorem qS_step {σ : Sg} {k1 k0 i : Nat} : wQ (qS σ k1 k0 i) k1 i (σ.2.2 k0 i) = qS σ k1 k0 (i + 1) := by
  refine Prod.ext rfl (Prod.ext rfl (funext fun a => funext fun j => ?_))
  show (if a = k1 ∧ j = i then _ else if a = k1 ∧ j < i then _ else _) = (if a = k1 ∧ j < i + 1 then _ else _)
  by_cases h1 : a = k1 ∧ j = i
  · rw [if_pos h1, if_pos (by omega), h1.2]
  · rw [if_neg h1]
    by_cases h2 : a = k1 ∧ j < i
    · rw [if_pos h2, if_pos (by omega)]
    · rw [if_neg h2, if_neg (by omega)]
/-- the cells of a Whole that count -/
def wcell (a j : Nat) : Prop := (a = 0 ∧ (j = 4 ∨ j = 5 ∨ j = 11 ∨ j = 14)) ∨ (a = 1 ∧ (j = 0 ∨ j = 5 ∨ j = 6 ∨ j = 7 ∨ j = 9)) ∨ (2 ≤ a ∧ a ≤ 5 ∧ j < 8) ∨ (a = 6 ∧ j < 30) ∨ (a = 8 ∧ j < 64) ∨ (a = 9 ∧ j < 8) ∨ (a = 10 ∧ (j = 1 ∨ j = 2)) ∨ (a = 11 ∧ j < 1770) ∨ (a = 13 ∧ j < 24) ∨ (14 ≤ a ∧ a ≤ 19 ∧ j < 8)
theorem XW.copy {σ σ' : Sg} {w v : Nat} {A : Nat → Nat} (h : XW σ v A) (s3 : A 3 ≤ 30) (e : ∀ a j, wcell a j → σ'.1 (w + a) j = σ.1 (v + a) j) : XW σ' w A := by
  unfold wcell at e
  obtain ⟨⟨h0, h5, h6, h7, hw, hk, hf, hh⟩, ⟨n9, nn⟩, ⟨r1, r2⟩, ⟨f, hf30, p1, p2, rows⟩, ⟨o1, o2, o3, o4, o5, o6, o7⟩⟩ := h
  have E : ∀ a j (x : Int32), ((a = 0 ∧ (j = 4 ∨ j = 5 ∨ j = 11 ∨ j = 14)) ∨ (a = 1 ∧ (j = 0 ∨ j = 5 ∨ j = 6 ∨ j = 7 ∨ j = 9)) ∨ (2 ≤ a ∧ a ≤ 5 ∧ j < 8) ∨ (a = 6 ∧ j < 30) ∨ (a = 8 ∧ j < 64) ∨ (a = 9 ∧ j < 8) ∨ (a = 10 ∧ (j = 1 ∨ j = 2)) ∨ (a = 11 ∧ j < 1770) ∨ (a = 13 ∧ j < 24) ∨ (14 ≤ a ∧ a ≤ 19 ∧ j < 8)) → σ.1 (v + a) j = x → σ'.1 (w + a) j = x := fun a j x hc hx => (e a j hc).trans hx
  refine ⟨⟨E 1 0 _ (by omega) h0, E 1 5 _ (by omega) h5, E 1 6 _ (by omega) h6, E 1 7 _ (by omega) h7, fun k hk2 => E 2 k _ (by omega) (hw k hk2), fun k hk2 => E 3 k _ (by omega) (hk k hk2), fun k hk2 => E 4 k _ (by omega) (hf k hk2), fun k hk2 => E 5 k _ (by omega) (hh k hk2)⟩, ⟨E 1 9 _ (by omega) n9, fun k hk2 => E 6 k _ (by omega) (nn k hk2)⟩, ⟨fun k hk2 => E 8 k _ (by omega) (r1 k hk2), fun k hk2 => E 9 k _ (by omega) (r2 k hk2)⟩, ⟨f, hf30, E 10 1 _ (by omega) p1, E 10 2 _ (by omega) p2, fun i hi => ?_⟩, ⟨E 0 4 _ (by omega) o1, E 0 5 _ (by omega) o2, E 0 11 _ (by omega) o3, E 0 14 _ (by omega) o4, fun k hk2 => E 14 k _ (by omega) (o5 k hk2), fun k hk2 => ⟨E 15 k _ (by omega) (o6 k hk2).1, E 16 k _ (by omega) (o6 k hk2).2.1, E 17 k _ (by omega) (o6 k hk2).2.2⟩, fun k hk2 => ⟨E 18 k _ (by omega) (o7 k hk2).1, E 19 k _ (by omega) (o7 k hk2).2⟩⟩⟩
  obtain ⟨q1, q2, q3⟩ := rows i hi
  exact ⟨fun k hk2 => E 11 _ _ (by omega) (q1 k hk2), fun k hk2 => ⟨E 11 _ _ (by omega) (q2 k hk2).1, E 11 _ _ (by omega) (q2 k hk2).2.1, E 11 _ _ (by omega) (q2 k hk2).2.2⟩, fun k hk2 => E 11 _ _ (by omega) (q3 k hk2)⟩
def cW (σ : Sg) (w v : Nat) : Sg :=
  let s1 := wI (wC (wI (wI (wI (wC (wC (wC (wC (wI σ (w + 1) 0 (σ.1 (v + 1) 0)) (v + 2) 0 (w + 2) 0 8) (v + 3) 0 (w + 3) 0 8) (v + 4) 0 (w + 4) 0 8) (v + 5) 0 (w + 5) 0 8) (w + 1) 5 (σ.1 (v + 1) 5)) (w + 1) 6 (σ.1 (v + 1) 6)) (w + 1) 7 (σ.1 (v + 1) 7)) (v + 6) 0 (w + 6) 0 30) (w + 1) 9 (σ.1 (v + 1) 9)
  let s2 := wC (wC s1 (v + 8) 0 (w + 8) 0 64) (v + 9) 0 (w + 9) 0 8
  let s3 := wI (wI (wC s2 (v + 11) 0 (w + 11) 0 1770) (w + 10) 1 (σ.1 (v + 10) 1)) (w + 10) 2 (σ.1 (v + 10) 2)
  let s4 := qS s3 (w + 12) (v + 12) 4
  let s5 := wC (wC (wC (wC (wC (wI (wI s4 w 4 (σ.1 v 4)) w 5 (σ.1 v 5)) (v + 13) 0 (w + 13) 0 24) (v + 14) 0 (w + 14) 0 8) (v + 15) 0 (w + 15) 0 8) (v + 16) 0 (w + 16) 0 8) (v + 17) 0 (w + 17) 0 8
  wI (wC (wC (wI s5 w 11 (σ.1 v 11)) (v + 18) 0 (w + 18) 0 8) (v + 19) 0 (w + 19) 0 8) w 14 (σ.1 v 14)
