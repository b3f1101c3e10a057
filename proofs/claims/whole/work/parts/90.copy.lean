/-! METHODS: image, back -/
theorem m_copy {σ : Sg} {qa qb : Nat} (h : qa ≠ qb) : f_X12_copy qa qb σ = some (wC σ qa 0 qb 0 1986) := by
  unfold f_X12_copy
  have e : ∀ N, 1986 < N → f_X12_copy_2 qa qb N (nI 0) (wC σ qa 0 qb 0 0) = some (wC σ qa 0 qb 0 1986) := fun N hN => lp (fun fu (q : Int32 × Sg) => f_X12_copy_2 qa qb fu q.1 q.2) (fun i => (nI i, wC σ qa 0 qb 0 i)) 1986 (r := some (wC σ qa 0 qb 0 1986)) (fun i hi fu => by
    dsimp only
    rw [f_X12_copy_2]
    have st := wC_step (k0 := qa) (s := 0) (k1 := qb) (d := 0) (n := i) (σ := σ)
    rw [Nat.zero_add] at st
    rw [← st]
    simp (disch := omega) only [e_bnd, e_bndV, e_lt, e_grd, e_lit, e_le1, e_le2, e_lt1, e_lt2, e_eq1, e_eq2, e_inb, e_ix, nI_add, pk_mul, e_sub, e_b0, e_b1, e_bz, e_bz0, e_bz1, Bool.and_true, Bool.true_and, ↓reduceIte, not_true_eq_false, not_false_eq_true, decide_false, decide_true, and_self, and_true, true_and, and_false, false_and, Bool.false_eq_true, Bool.not_false, Bool.not_true, wC_o]) (fun fu => by
    dsimp only
    rw [f_X12_copy_2]
    simp (disch := omega) only [e_bnd, e_bndV, e_lt, e_grd, e_lit, e_le1, e_le2, e_lt1, e_lt2, e_eq1, e_eq2, e_inb, e_ix, nI_add, pk_mul, e_sub, e_b0, e_b1, e_bz, e_bz0, e_bz1, Bool.and_true, Bool.true_and, ↓reduceIte, not_true_eq_false, not_false_eq_true, decide_false, decide_true, and_self, and_true, true_and, and_false, false_and, Bool.false_eq_true, Bool.not_false, Bool.not_true]) N hN
  rw [wC_0] at e
  have := e FU (by unfold FU; omega)
  simp (disch := omega) only [e_lit]
  exact this
def qS (σ : Sg) (k1 k0 i : Nat) : Sg := (σ.1, σ.2.1, fun a j => if a = k1 ∧ j < i then σ.2.2 k0 j else σ.2.2 a j)
theorem qS_0 {σ : Sg} {k1 k0 : Nat} : qS σ k1 k0 0 = σ := by
  refine Prod.ext rfl (Prod.ext rfl (funext fun a => funext fun j => ?_))
  show (if _ then _ else _) = _
  rw [if_neg (by omega)]
theorem qS_step {σ : Sg} {k1 k0 i : Nat} : wQ (qS σ k1 k0 i) k1 i (σ.2.2 k0 i) = qS σ k1 k0 (i + 1) := by
  refine Prod.ext rfl (Prod.ext rfl (funext fun a => funext fun j => ?_))
  show (if a = k1 ∧ j = i then _ else if a = k1 ∧ j < i then _ else _) = (if a = k1 ∧ j < i + 1 then _ else _)
  by_cases h1 : a = k1 ∧ j = i
  · rw [if_pos h1, if_pos (by omega), h1.2]
  · rw [if_neg h1]
    by_cases h2 : a = k1 ∧ j < i
    · rw [if_pos h2, if_pos (by omega)]
    · rw [if_neg h2, if_neg (by omega)]
/-- the cells of a Whole that count -/
def wcell (a j : Nat) : Prop := (a = 0 ∧ (j = 4 ∨ j = 5 ∨ j = 11 ∨ j = 14)) ∨ (a = 1 ∧ (j = 0 ∨ j = 5 ∨ j = 6 ∨ j = 7 ∨ j = 9)) ∨ (2 ≤ a ∧ a ≤ 5 ∧ j < 8) ∨ (a = 6 ∧ j < 30) ∨ (a = 8 ∧ j < 64) ∨ (a = 9 ∧ j < 8) ∨ (a = 10 ∧ (j = 1 ∨ j = 2)) ∨ (a = 11 ∧ j < 1770) ∨ (a = 13 ∧ j < 24) ∨ (14 ≤ a ∧ a ≤ 19 ∧ j < 8)
theorem XW.copy {σ σ' : Sg} {w v : Nat} {A : Nat → Nat} (h : XW σ v A) (s3 : A 3 ≤ 30) (e : ∀ a j, wcell a j → σ'.1 (w + a) j = σ.1 (v + a) j) : XW σ' w A := by
  unfold wcell at e
  obtain ⟨⟨h0, h5, h6, h7, hw, hk, hf, hh⟩, ⟨n9, nn⟩, ⟨r1, r2⟩, ⟨f, hf30, p1, p2, rows⟩, ⟨o1, o2, o3, o4, o5, o6, o7⟩⟩ := h
  have E : ∀ a j (x : Int32), ((a = 0 ∧ (j = 4 ∨ j = 5 ∨ j = 11 ∨ j = 14)) ∨ (a = 1 ∧ (j = 0 ∨ j = 5 ∨ j = 6 ∨ j = 7 ∨ j = 9)) ∨ (2 ≤ a ∧ a ≤ 5 ∧ j < 8) ∨ (a = 6 ∧ j < 30) ∨ (a = 8 ∧ j < 64) ∨ (a = 9 ∧ j < 8) ∨ (a = 10 ∧ (j = 1 ∨ j = 2)) ∨ (a = 11 ∧ j < 1770) ∨ (a = 13 ∧ j < 24) ∨ (14 ≤ a ∧ a ≤ 19 ∧ j < 8)) → σ.1 (v + a) j = x → σ'.1 (w + a) j = x := fun a j x hc hx => (e a j hc).trans hx
  refine ⟨⟨E 1 0 _ (by omega) h0, E 1 5 _ (by omega) h5, E 1 6 _ (by omega) h6, E 1 7 _ (by omega) h7, fun k hk2 => E 2 k _ (by omega) (hw k hk2), fun k hk2 => E 3 k _ (by omega) (hk k hk2), fun k hk2 => E 4 k _ (by omega) (hf k hk2), fun k hk2 => E 5 k _ (by omega) (hh k hk2)⟩, ⟨E 1 9 _ (by omega) n9, fun k hk2 => E 6 k _ (by omega) (nn k hk2)⟩, ⟨fun k hk2 => E 8 k _ (by omega) (r1 k hk2), fun k hk2 => E 9 k _ (by omega) (r2 k hk2)⟩, ⟨f, hf30, E 10 1 _ (by omega) p1, E 10 2 _ (by omega) p2, fun i hi => ?_⟩, ⟨E 0 4 _ (by omega) o1, E 0 5 _ (by omega) o2, E 0 11 _ (by omega) o3, E 0 14 _ (by omega) o4, fun k hk2 => E 14 k _ (by omega) (o5 k hk2), fun k hk2 => ⟨E 15 k _ (by omega) (o6 k hk2).1, E 16 k _ (by omega) (o6 k hk2).2.1, E 17 k _ (by omega) (o6 k hk2).2.2⟩, fun k hk2 => ⟨E 18 k _ (by omega) (o7 k hk2).1, E 19 k _ (by omega) (o7 k hk2).2⟩⟩⟩
  obtain ⟨q1, q2, q3⟩ := rows i hi
  exact ⟨fun k hk2 => E 11 _ _ (by omega) (q1 k hk2), fun k hk2 => ⟨E 11 _ _ (by omega) (q2 k hk2).1, E 11 _ _ (by omega) (q2 k hk2).2.1, E 11 _ _ (by omega) (q2 k hk2).2.2⟩, fun k hk2 => E 11 _ _ (by omega) (q3 k hk2)⟩
theorem x_copy8 {σ : Sg} {t v : Nat} (h : t + 5 < v ∨ v + 5 < t) : ∃ σ', f_X8_copyFrom t v σ = some σ' ∧ (∀ j, (j = 0 ∨ j = 5 ∨ j = 6 ∨ j = 7 ∨ j = 9) → σ'.1 t j = σ.1 v j) ∧ (∀ a, 1 ≤ a → a ≤ 4 → ∀ j, j < 8 → σ'.1 (t + a) j = σ.1 (v + a) j) ∧ (∀ j, j < 30 → σ'.1 (t + 5) j = σ.1 (v + 5) j) ∧ fr (fun a _ => t ≤ a ∧ a ≤ t + 5) σ σ' := by
  refine ⟨wI (wC (wI (wI (wI (wC (wC (wC (wC (wI σ t 0 (σ.1 v 0)) (v + 1) 0 (t + 1) 0 8) (v + 2) 0 (t + 2) 0 8) (v + 3) 0 (t + 3) 0 8) (v + 4) 0 (t + 4) 0 8) t 5 (σ.1 v 5)) t 6 (σ.1 v 6)) t 7 (σ.1 v 7)) (v + 5) 0 (t + 5) 0 30) t 9 (σ.1 v 9), ?_, fun j hj => ?_, fun a h1 h4 j hj => ?_, fun j hj => ?_, ?_⟩
  · unfold f_X8_copyFrom
    simp (disch := omega) only [e_bnd, e_bndV, e_lt, e_grd, e_lit, e_le1, e_le2, e_lt1, e_lt2, e_eq1, e_eq2, e_inb, e_ix, nI_add, pk_mul, e_sub, e_b0, e_b1, e_bz, e_bz0, e_bz1, Bool.and_true, Bool.true_and, ↓reduceIte, not_true_eq_false, not_false_eq_true, decide_false, decide_true, and_self, and_true, true_and, and_false, false_and, Bool.false_eq_true, Bool.not_false, Bool.not_true, e_cp, e_ne1, wC_o]
  · rcases hj with rfl | rfl | rfl | rfl | rfl
    · simp (disch := omega) only [e_ne2, e_hit, wC_o]
    · simp (disch := omega) only [e_ne2, e_hit, wC_o]
    · simp (disch := omega) only [e_ne2, e_hit, wC_o]
    · simp (disch := omega) only [e_ne2, e_hit, wC_o]
    · simp (disch := omega) only [e_hit]
  · have : a = 1 ∨ a = 2 ∨ a = 3 ∨ a = 4 := by omega
    rcases this with rfl | rfl | rfl | rfl
    · simp (disch := omega) only [e_ne1, wC_o, wC_in, Nat.zero_add, Nat.sub_zero]
    · simp (disch := omega) only [e_ne1, wC_o, wC_in, Nat.zero_add, Nat.sub_zero]
    · simp (disch := omega) only [e_ne1, wC_o, wC_in, Nat.zero_add, Nat.sub_zero]
    · simp (disch := omega) only [e_ne1, wC_o, wC_in, Nat.zero_add, Nat.sub_zero]
  · simp (disch := omega) only [e_ne1, wC_o, wC_in, Nat.zero_add, Nat.sub_zero]
  · refine ⟨fun a j hn => ?_, rfl⟩
    simp (disch := omega) only [e_ne1, wC_o]
theorem x_copy5 {σ : Sg} {t v : Nat} (h : t + 2 < v ∨ v + 2 < t) : ∃ σ', f_X5_copyFrom t v σ = some σ' ∧ (∀ j, j < 64 → σ'.1 (t + 1) j = σ.1 (v + 1) j) ∧ (∀ j, j < 8 → σ'.1 (t + 2) j = σ.1 (v + 2) j) ∧ fr (fun a _ => t ≤ a ∧ a ≤ t + 2) σ σ' := by
  refine ⟨wC (wC σ (v + 1) 0 (t + 1) 0 64) (v + 2) 0 (t + 2) 0 8, ?_, fun j hj => ?_, fun j hj => ?_, ?_⟩
  · unfold f_X5_copyFrom
    simp (disch := omega) only [e_bnd, e_bndV, e_lt, e_grd, e_lit, e_le1, e_le2, e_lt1, e_lt2, e_eq1, e_eq2, e_inb, e_ix, nI_add, pk_mul, e_sub, e_b0, e_b1, e_bz, e_bz0, e_bz1, Bool.and_true, Bool.true_and, ↓reduceIte, not_true_eq_false, not_false_eq_true, decide_false, decide_true, and_self, and_true, true_and, and_false, false_and, Bool.false_eq_true, Bool.not_false, Bool.not_true, e_cp]
  · simp (disch := omega) only [wC_o, wC_in, Nat.zero_add, Nat.sub_zero]
  · simp (disch := omega) only [wC_o, wC_in, Nat.zero_add, Nat.sub_zero]
  · refine ⟨fun a j hn => ?_, rfl⟩
    simp (disch := omega) only [wC_o]
theorem x_copy4 {σ : Sg} {t v : Nat} (h : t + 1 < v ∨ v + 1 < t) : ∃ σ', f_X4_copyFrom t v σ = some σ' ∧ (∀ j, j < 1770 → σ'.1 (t + 1) j = σ.1 (v + 1) j) ∧ (∀ j, (j = 1 ∨ j = 2) → σ'.1 t j = σ.1 v j) ∧ fr (fun a _ => t ≤ a ∧ a ≤ t + 1) σ σ' := by
  refine ⟨wI (wI (wC σ (v + 1) 0 (t + 1) 0 1770) t 1 (σ.1 v 1)) t 2 (σ.1 v 2), ?_, fun j hj => ?_, fun j hj => ?_, ?_⟩
  · unfold f_X4_copyFrom
    simp (disch := omega) only [e_bnd, e_bndV, e_lt, e_grd, e_lit, e_le1, e_le2, e_lt1, e_lt2, e_eq1, e_eq2, e_inb, e_ix, nI_add, pk_mul, e_sub, e_b0, e_b1, e_bz, e_bz0, e_bz1, Bool.and_true, Bool.true_and, ↓reduceIte, not_true_eq_false, not_false_eq_true, decide_false, decide_true, and_self, and_true, true_and, and_false, false_and, Bool.false_eq_true, Bool.not_false, Bool.not_true, e_cp, wC_o, e_ne1]
  · simp (disch := omega) only [e_ne1, wC_in, Nat.zero_add, Nat.sub_zero]
  · rcases hj with rfl | rfl
    · simp (disch := omega) only [e_ne2, e_hit]
    · simp (disch := omega) only [e_hit]
  · refine ⟨fun a j hn => ?_, rfl⟩
    simp (disch := omega) only [e_ne1, wC_o]
theorem x_copyR {σ : Sg} {w v : Nat} (h : w + 19 < v ∨ v + 19 < w) (hz : ∀ j, j < 8 → bz (σ.1 (v + 17) j) = true) : ∃ σ', f_X10_copyFrom_35 w v FU (nI 0) σ = some σ' ∧ (∀ j, (j = 4 ∨ j = 5 ∨ j = 11 ∨ j = 14) → σ'.1 w j = σ.1 v j) ∧ (∀ j, j < 24 → σ'.1 (w + 13) j = σ.1 (v + 13) j) ∧ (∀ a, 14 ≤ a → a ≤ 19 → ∀ j, j < 8 → σ'.1 (w + a) j = σ.1 (v + a) j) ∧ (∀ a j, ¬ (a = w ∨ (w + 12 ≤ a ∧ a ≤ w + 19)) → σ'.1 a j = σ.1 a j) ∧ (∀ i, i < 4 → σ'.2.2 (w + 12) i = σ.2.2 (v + 12) i) ∧ ∀ a j, a ≠ w + 12 → σ'.2.2 a j = σ.2.2 a j := by
  have hbz : bzs (σ.1 (v + 17)) 0 8 = true := by
    unfold bzs
    rw [List.all_eq_true]
    intro i hi
    rw [Nat.zero_add]
    exact hz i (List.mem_range.mp hi)
  have s1 : ∀ a j, (qS σ (w + 12) (v + 12) 4).1 a j = σ.1 a j := fun _ _ => rfl
  obtain ⟨q, hq⟩ : ∃ q, q = qS σ (w + 12) (v + 12) 4 := ⟨_, rfl⟩
  rw [← hq] at s1
  have hb2 : bzs (q.1 (v + 17)) 0 8 = true := by
    rw [show q.1 (v + 17) = σ.1 (v + 17) from funext (s1 (v + 17))]
    exact hbz
  refine ⟨wI (wC (wC (wI (wC (wC (wC (wC (wC (wI (wI q w 4 (σ.1 v 4)) w 5 (σ.1 v 5)) (v + 13) 0 (w + 13) 0 24) (v + 14) 0 (w + 14) 0 8) (v + 15) 0 (w + 15) 0 8) (v + 16) 0 (w + 16) 0 8) (v + 17) 0 (w + 17) 0 8) w 11 (σ.1 v 11)) (v + 18) 0 (w + 18) 0 8) (v + 19) 0 (w + 19) 0 8) w 14 (σ.1 v 14), ?_, fun j hj => ?_, fun j hj => ?_, fun a h1 h4 j hj => ?_, fun a j hn => ?_, fun i hi => ?_, fun a j hn => ?_⟩
  · have e := lp (fun fu (p : Int32 × Sg) => f_X10_copyFrom_35 w v fu p.1 p.2) (fun i => (nI i, qS σ (w + 12) (v + 12) i)) 4 (r := some (wI (wC (wC (wI (wC (wC (wC (wC (wC (wI (wI q w 4 (σ.1 v 4)) w 5 (σ.1 v 5)) (v + 13) 0 (w + 13) 0 24) (v + 14) 0 (w + 14) 0 8) (v + 15) 0 (w + 15) 0 8) (v + 16) 0 (w + 16) 0 8) (v + 17) 0 (w + 17) 0 8) w 11 (σ.1 v 11)) (v + 18) 0 (w + 18) 0 8) (v + 19) 0 (w + 19) 0 8) w 14 (σ.1 v 14))) (fun i hi fu => by
      dsimp only
      rw [f_X10_copyFrom_35, ← qS_step]
      have hl : ∀ {α : Type} (x : Option Nat) (k : Option Nat → Option α), ltT x k = k x := fun _ _ => rfl
      have hv : (qS σ (w + 12) (v + 12) i).2.2 (v + 12) i = σ.2.2 (v + 12) i := if_neg (by omega)
      simp (disch := omega) only [e_bnd, e_bndV, e_lt, e_grd, e_lit, e_le1, e_le2, e_lt1, e_lt2, e_eq1, e_eq2, e_inb, e_ix, nI_add, pk_mul, e_sub, e_b0, e_b1, e_bz, e_bz0, e_bz1, Bool.and_true, Bool.true_and, ↓reduceIte, not_true_eq_false, not_false_eq_true, decide_false, decide_true, and_self, and_true, true_and, and_false, false_and, Bool.false_eq_true, Bool.not_false, Bool.not_true, hl, hv]
      cases σ.2.2 (v + 12) i with
      | none => rfl
      | some k => rfl) (fun fu => by
      dsimp only
      rw [f_X10_copyFrom_35, ← hq]
      have hb3 : bzs ((wC (wC (wC (wC (wI (wI q w 4 (σ.1 v 4)) w 5 (σ.1 v 5)) (v + 13) 0 (w + 13) 0 24) (v + 14) 0 (w + 14) 0 8) (v + 15) 0 (w + 15) 0 8) (v + 16) 0 (w + 16) 0 8).1 (v + 17)) 0 8 = true := by
        rw [show (wC (wC (wC (wC (wI (wI q w 4 (σ.1 v 4)) w 5 (σ.1 v 5)) (v + 13) 0 (w + 13) 0 24) (v + 14) 0 (w + 14) 0 8) (v + 15) 0 (w + 15) 0 8) (v + 16) 0 (w + 16) 0 8).1 (v + 17) = q.1 (v + 17) from funext fun j => by rw [wC_o (by omega), wC_o (by omega), wC_o (by omega), wC_o (by omega), e_ne1 (by omega), e_ne1 (by omega)]]
        exact hb2
      simp (disch := omega) only [e_bnd, e_bndV, e_lt, e_grd, e_lit, e_le1, e_le2, e_lt1, e_lt2, e_eq1, e_eq2, e_inb, e_ix, nI_add, pk_mul, e_sub, e_b0, e_b1, e_bz, e_bz0, e_bz1, Bool.and_true, Bool.true_and, ↓reduceIte, not_true_eq_false, not_false_eq_true, decide_false, decide_true, and_self, and_true, true_and, and_false, false_and, Bool.false_eq_true, Bool.not_false, Bool.not_true, e_cp, wC_o, e_ne1, s1, hb3]) FU (by unfold FU; omega)
    rw [qS_0] at e
    exact e
  · rcases hj with rfl | rfl | rfl | rfl
    · simp (disch := omega) only [e_ne2, e_hit, wC_o]
    · simp (disch := omega) only [e_ne2, e_hit, wC_o]
    · simp (disch := omega) only [e_ne2, e_hit, wC_o]
    · simp (disch := omega) only [e_hit]
  · simp (disch := omega) only [e_ne1, wC_o, wC_in, Nat.zero_add, Nat.sub_zero, s1]
  · have : a = 14 ∨ a = 15 ∨ a = 16 ∨ a = 17 ∨ a = 18 ∨ a = 19 := by omega
    rcases this with rfl | rfl | rfl | rfl | rfl | rfl
    · simp (disch := omega) only [e_ne1, wC_o, wC_in, Nat.zero_add, Nat.sub_zero, s1]
    · simp (disch := omega) only [e_ne1, wC_o, wC_in, Nat.zero_add, Nat.sub_zero, s1]
    · simp (disch := omega) only [e_ne1, wC_o, wC_in, Nat.zero_add, Nat.sub_zero, s1]
    · simp (disch := omega) only [e_ne1, wC_o, wC_in, Nat.zero_add, Nat.sub_zero, s1]
    · simp (disch := omega) only [e_ne1, wC_o, wC_in, Nat.zero_add, Nat.sub_zero, s1]
    · simp (disch := omega) only [e_ne1, wC_o, wC_in, Nat.zero_add, Nat.sub_zero, s1]
  · simp (disch := omega) only [e_ne1, wC_o, s1]
  · show q.2.2 (w + 12) i = _
    rw [hq]
    exact if_pos ⟨rfl, hi⟩
  · show q.2.2 a j = _
    rw [hq]
    exact if_neg (fun z => hn z.1)
theorem x_copyFrom {σ : Sg} {w v : Nat} (h : w + 19 < v ∨ v + 19 < w) (hz : ∀ j, j < 8 → bz (σ.1 (v + 17) j) = true) : ∃ σ', f_X10_copyFrom w v σ = some σ' ∧ (∀ a j, wcell a j → σ'.1 (w + a) j = σ.1 (v + a) j) ∧ (∀ a j, ¬ (w ≤ a ∧ a ≤ w + 19) → σ'.1 a j = σ.1 a j) ∧ (∀ i, i < 4 → σ'.2.2 (w + 12) i = σ.2.2 (v + 12) i) ∧ ∀ a j, a ≠ w + 12 → σ'.2.2 a j = σ.2.2 a j := by
  obtain ⟨x1, a1, a2, a3, a4, a5⟩ := x_copy8 (σ := σ) (t := w + 1) (v := v + 1) (by omega)
  obtain ⟨x2, b1, b2, b3, b4⟩ := x_copy5 (σ := x1) (t := w + 7) (v := v + 7) (by omega)
  obtain ⟨x3, c1, c2, c3, c4⟩ := x_copy4 (σ := x2) (t := w + 10) (v := v + 10) (by omega)
  have o3 : ∀ a j, ¬ (w + 1 ≤ a ∧ a ≤ w + 11) → x3.1 a j = σ.1 a j := fun a j hn => by rw [c4.1 _ _ (by omega), b4.1 _ _ (by omega), a5.1 _ _ (by omega)]
  obtain ⟨x4, d1, d2, d3, d4, d5, d6, d7⟩ := x_copyR (σ := x3) h (fun j hj => by rw [o3 _ _ (by omega)]; exact hz j hj)
  have r3 : x3.2.2 = σ.2.2 := by rw [c4.2, b4.2, a5.2]
  refine ⟨x4, ?_, fun a j hw => ?_, fun a j hn => ?_, fun i hi => ?_, fun a j hn => ?_⟩
  · unfold f_X10_copyFrom
    simp (disch := omega) only [e_bnd, e_bndV, e_lt, e_grd, e_lit, e_le1, e_le2, e_lt1, e_lt2, e_eq1, e_eq2, e_inb, e_ix, nI_add, pk_mul, e_sub, e_b0, e_b1, e_bz, e_bz0, e_bz1, Bool.and_true, Bool.true_and, ↓reduceIte, not_true_eq_false, not_false_eq_true, decide_false, decide_true, and_self, and_true, true_and, and_false, false_and, Bool.false_eq_true, Bool.not_false, Bool.not_true, a1, b1, c1]
    exact d1
  · unfold wcell at hw
    rcases hw with ⟨rfl, hj⟩ | ⟨rfl, hj⟩ | ⟨q1, q2, hj⟩ | ⟨rfl, hj⟩ | ⟨rfl, hj⟩ | ⟨rfl, hj⟩ | ⟨rfl, hj⟩ | ⟨rfl, hj⟩ | ⟨rfl, hj⟩ | ⟨q1, q2, hj⟩
    · rw [Nat.add_zero, Nat.add_zero, d2 j hj, o3 _ _ (by omega)]
    · rw [d5 _ _ (by omega), c4.1 _ _ (by omega), b4.1 _ _ (by omega), a2 j hj]
    · rw [d5 _ _ (by omega), c4.1 _ _ (by omega), b4.1 _ _ (by omega), show w + a = w + 1 + (a - 1) by omega, a3 (a - 1) (by omega) (by omega) j hj, show v + 1 + (a - 1) = v + a by omega]
    · rw [d5 _ _ (by omega), c4.1 _ _ (by omega), b4.1 _ _ (by omega)]
      exact a4 j hj
    · rw [d5 _ _ (by omega), c4.1 _ _ (by omega)]
      exact (b2 j hj).trans (by rw [a5.1 _ _ (by omega)])
    · rw [d5 _ _ (by omega), c4.1 _ _ (by omega)]
      exact (b3 j hj).trans (by rw [a5.1 _ _ (by omega)])
    · rw [d5 _ _ (by omega), c3 j hj, b4.1 _ _ (by omega), a5.1 _ _ (by omega)]
    · rw [d5 _ _ (by omega)]
      exact (c2 j hj).trans (by rw [b4.1 _ _ (by omega), a5.1 _ _ (by omega)])
    · rw [d3 j hj, o3 _ _ (by omega)]
    · rw [d4 a q1 q2 j hj, o3 _ _ (by omega)]
  · rw [d5 _ _ (by omega), o3 _ _ (by omega)]
  · rw [d6 i hi, r3]
  · rw [d7 a j hn, r3]
theorem bz_le1 {n : Nat} (h : n ≤ 1) : bz (nI n) = true := by
  have : n = 0 ∨ n = 1 := by omega
  rcases this with rfl | rfl <;> rfl
theorem g_image {κ : Kd} {T : TD} : GO κ T f_X11_image f_X12_image := by
  intro σX σM ⟨A, B, I⟩
  obtain ⟨i1, i2, i3, i4, i5, i6, i7, i8⟩ := I
  have hz : ∀ j, j < 8 → bz (σX.1 (1 + 17) j) = true := fun j hj => by
    rw [(i3.2.2.2.2.2.2.2.2.2.1 j hj).2.2]
    exact bz_le1 (i1.2.2.2.2.2.2.2.2.2.1 j hj)
  obtain ⟨x, c1, c2, c3, c4, c5⟩ := x_copyFrom (σ := σX) (w := 21) (v := 1) (by omega) hz
  have x5 : x.1 2 5 = nI (A 6) := by
    rw [c3 _ _ (by omega)]
    exact i3.1.2.1
  have hm := m_copy (σ := σM) (qa := 1) (qb := 2) (by decide)
  obtain ⟨m, hm2⟩ : ∃ m, m = wC σM 1 0 2 0 1986 := ⟨_, rfl⟩
  rw [← hm2] at hm
  have m1 : ∀ a j, a ≠ 2 → m.1 a j = σM.1 a j := fun a j hn => by rw [hm2, wC_o (by omega)]
  have mm2 : ∀ j, j < 1986 → m.1 2 j = σM.1 1 j := fun j hj => by rw [hm2, wC_in (by omega), show 0 + (j - 0) = j by omega]
  have hM : MA m A := ⟨fun j a b c => by rw [m1 _ _ (by decide)]; exact i2.1 j a b c, by rw [m1 _ _ (by decide)]; exact i2.2⟩
  have r6 := hM.1 6 (by decide) (by decide) (by decide)
  have hMI : MI m A := ⟨fun j a b c => by rw [mm2 j a]; exact i2.1 j a b c, by rw [mm2 2 (by decide)]; exact i2.2⟩
  refine ⟨nI (A 6), x, m, ?_, ?_, A, A, i1, hM, i3.of (fun a j q => c3 a j (by omega)), i1, hMI, i3.copy i1.2.2.2.1.1 c2, ?_, ?_⟩
  · unfold f_X11_image
    simp (disch := omega) only [e_bnd, e_bndV, e_lt, e_grd, e_lit, e_le1, e_le2, e_lt1, e_lt2, e_eq1, e_eq2, e_inb, e_ix, nI_add, pk_mul, e_sub, e_b0, e_b1, e_bz, e_bz0, e_bz1, Bool.and_true, Bool.true_and, ↓reduceIte, not_true_eq_false, not_false_eq_true, decide_false, decide_true, and_self, and_true, true_and, and_false, false_and, Bool.false_eq_true, Bool.not_false, Bool.not_true, c1, x5]
  · unfold f_X12_image
    simp (disch := omega) only [e_bnd, e_bndV, e_lt, e_grd, e_lit, e_le1, e_le2, e_lt1, e_lt2, e_eq1, e_eq2, e_inb, e_ix, nI_add, pk_mul, e_sub, e_b0, e_b1, e_bz, e_bz0, e_bz1, Bool.and_true, Bool.true_and, ↓reduceIte, not_true_eq_false, not_false_eq_true, decide_false, decide_true, and_self, and_true, true_and, and_false, false_and, Bool.false_eq_true, Bool.not_false, Bool.not_true, hm, r6]
  · obtain ⟨h1, ⟨p, h2, h3, h4, h5⟩, h6, h7⟩ := i7
    refine ⟨fun k hk => ?_, ⟨p, h2, by rw [c3 _ _ (by omega)]; exact h3, by rw [m1 _ _ (by decide)]; exact h4, fun i hi => ?_⟩, by rw [c3 _ _ (by omega), c3 _ _ (by omega), c3 _ _ (by omega), m1 _ _ (by decide), m1 _ _ (by decide)]; exact h6, by rw [m1 _ _ (by decide)]; exact h7⟩
    · have e34 : x.1 34 k = σX.1 14 k := c2 13 k (Or.inr (Or.inr (Or.inr (Or.inr (Or.inr (Or.inr (Or.inr (Or.inr (Or.inl ⟨rfl, hk⟩)))))))))
      rw [c3 14 _ (by omega), e34, m1 1 _ (by decide), mm2 _ (by omega)]
      exact ⟨(h1 k hk).1, (h1 k hk).1, (h1 k hk).2.2.1, (h1 k hk).2.2.1⟩
    · rw [c3 _ _ (by omega), m1 _ _ (by decide)]; exact h5 i hi
  · obtain ⟨h0, h1, h2⟩ := i8
    refine ⟨h0, Nat.le_refl _, fun t ht => ?_⟩
    obtain ⟨g1, g2, ⟨g3, g4, g5, g6⟩, g7⟩ := h2 t ht
    have t4 := i1.2.2.2.2.1
    exact ⟨g1, g2, ⟨g3, by rw [c5 _ _ (by decide)]; exact g4, fun _ => (c4 t (by omega)).trans g4, g6.of g3 (fun a ha j => c3 a j (by omega))⟩, g7.of (fun j => m1 _ _ (by decide))⟩
/-- BACK: as many TEXTS as the image had -/
theorem g_back {κ : Kd} {T : TD} {σX σM : Sg} (J : Inv κ T σX σM) : ∃ r n σX' σM', f_X11_back σX = some (r, σX') ∧ f_X12_back σM = some (r, σM') ∧ Inv κ (n, T.2) σX' σM' := by
  obtain ⟨A, B, I⟩ := J
  obtain ⟨i1, i2, i3, i4, i5, i6, i7, i8⟩ := I
  have hz : ∀ j, j < 8 → bz (σX.1 (21 + 17) j) = true := fun j hj => by
    rw [(i6.2.2.2.2.2.2.2.2.2.1 j hj).2.2]
    exact bz_le1 (i4.2.2.2.2.2.2.2.2.2.1 j hj)
  obtain ⟨x, c1, c2, c3, c4, c5⟩ := x_copyFrom (σ := σX) (w := 1) (v := 21) (by omega) hz
  have W1 : XW x 1 B := i6.copy i4.2.2.2.1.1 c2
  have x5 : x.1 2 5 = nI (B 6) := W1.1.2.1
  have hm := m_copy (σ := σM) (qa := 2) (qb := 1) (by decide)
  obtain ⟨m, hm2⟩ : ∃ m, m = wC σM 2 0 1 0 1986 := ⟨_, rfl⟩
  rw [← hm2] at hm
  have m1 : ∀ a j, a ≠ 1 → m.1 a j = σM.1 a j := fun a j hn => by rw [hm2, wC_o (by omega)]
  have mm2 : ∀ j, j < 1986 → m.1 1 j = σM.1 2 j := fun j hj => by rw [hm2, wC_in (by omega), show 0 + (j - 0) = j by omega]
  have hM : MA m B := ⟨fun j a b c => by rw [mm2 j a]; exact i5.1 j a b c, by rw [mm2 2 (by decide)]; exact i5.2⟩
  have r6 := hM.1 6 (by decide) (by decide) (by decide)
  have hMI : MI m B := ⟨fun j a b c => by rw [m1 _ _ (by decide)]; exact i5.1 j a b c, by rw [m1 _ _ (by decide)]; exact i5.2⟩
  refine ⟨nI (B 6), B 1, x, m, ?_, ?_, B, B, i4, hM, W1, i4, hMI, i6.of (fun a j q => c3 a j (by omega)), ?_, ?_⟩
  · unfold f_X11_back
    simp (disch := omega) only [e_bnd, e_bndV, e_lt, e_grd, e_lit, e_le1, e_le2, e_lt1, e_lt2, e_eq1, e_eq2, e_inb, e_ix, nI_add, pk_mul, e_sub, e_b0, e_b1, e_bz, e_bz0, e_bz1, Bool.and_true, Bool.true_and, ↓reduceIte, not_true_eq_false, not_false_eq_true, decide_false, decide_true, and_self, and_true, true_and, and_false, false_and, Bool.false_eq_true, Bool.not_false, Bool.not_true, c1, x5]
  · unfold f_X12_back
    simp (disch := omega) only [e_bnd, e_bndV, e_lt, e_grd, e_lit, e_le1, e_le2, e_lt1, e_lt2, e_eq1, e_eq2, e_inb, e_ix, nI_add, pk_mul, e_sub, e_b0, e_b1, e_bz, e_bz0, e_bz1, Bool.and_true, Bool.true_and, ↓reduceIte, not_true_eq_false, not_false_eq_true, decide_false, decide_true, and_self, and_true, true_and, and_false, false_and, Bool.false_eq_true, Bool.not_false, Bool.not_true, hm, r6]
  · obtain ⟨h1, ⟨p, h2, h3, h4, h5⟩, h6, h7⟩ := i7
    refine ⟨fun k hk => ?_, ⟨p, h2, by rw [c3 _ _ (by omega)]; exact h3, by rw [m1 _ _ (by decide)]; exact h4, fun i hi => ?_⟩, by rw [c3 _ _ (by omega), c3 _ _ (by omega), c3 _ _ (by omega), m1 _ _ (by decide), m1 _ _ (by decide)]; exact h6, by rw [m1 _ _ (by decide)]; exact h7⟩
    · have e14 : x.1 14 k = σX.1 34 k := c2 13 k (Or.inr (Or.inr (Or.inr (Or.inr (Or.inr (Or.inr (Or.inr (Or.inr (Or.inl ⟨rfl, hk⟩)))))))))
      rw [c3 34 _ (by omega), e14, m1 2 _ (by decide), mm2 _ (by omega)]
      exact ⟨(h1 k hk).2.1, (h1 k hk).2.1, (h1 k hk).2.2.2, (h1 k hk).2.2.2⟩
    · rw [c3 _ _ (by omega), m1 _ _ (by decide)]; exact h5 i hi
  · obtain ⟨h0, h1, h2⟩ := i8
    refine ⟨rfl, Nat.le_refl _, fun t ht => ?_⟩
    obtain ⟨g1, g2, ⟨g3, g4, g5, g6⟩, g7⟩ := h2 t (by omega)
    have t4 := i4.2.2.2.2.1
    exact ⟨g1, g2, ⟨g3, (c4 t (by omega)).trans (g5 ht), fun _ => by rw [c5 _ _ (by decide)]; exact g5 ht, g6.of g3 (fun a ha j => c3 a j (by omega))⟩, g7.of (fun j => m1 _ _ (by decide))⟩
