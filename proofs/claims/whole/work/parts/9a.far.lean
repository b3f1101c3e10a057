/-! METHODS: far -/
/-- a loop with a continuation: the last state stands before the continuation -/
theorem lpR {ρ α β : Type} (G : ρ → Nat → α → Option β) (I : Nat → α → Prop) (n : Nat) (hs : ∀ i, i < n → ∀ s, I i s → ∃ s', I (i + 1) s' ∧ ∀ rec fu, G rec (fu + 1) s = G rec fu s') (s : α) (h0 : I 0 s) : ∃ s', I n s' ∧ ∀ rec fu, G rec (fu + n) s = G rec fu s' := by
  have h : ∀ i, i ≤ n → ∃ s', I i s' ∧ ∀ rec fu, G rec (fu + i) s = G rec fu s' := by
    intro i
    induction i with
    | zero => exact fun _ => ⟨s, h0, fun _ _ => rfl⟩
    | succ i ih =>
      intro hi
      obtain ⟨s1, h1, h2⟩ := ih (by omega)
      obtain ⟨s2, g1, g2⟩ := hs i (by omega) s1 h1
      exact ⟨s2, g1, fun rec fu => by rw [show fu + (i + 1) = (fu + 1) + i by omega, h2, g2]⟩
  exact h n (Nat.le_refl _)
theorem FU_n {n : Nat} (h : n < 3000) : ∃ f, FU = (f + 1) + n := ⟨FU - n - 1, by unfold FU; omega⟩
/-- the shortest ways, step by step -/
def st1 (D : Nat → Nat) (k i j : Nat) : Nat → Nat := up D (8 * i + j) (min (D (8 * i + j)) (D (8 * i + k) + D (8 * k + j)))
def rowf (D : Nat → Nat) (k i : Nat) : Nat → Nat → Nat
  | 0 => D
  | j + 1 => st1 (rowf D k i j) k i j
def colf (D : Nat → Nat) (n k : Nat) : Nat → Nat → Nat
  | 0 => D
  | i + 1 => rowf (colf D n k i) k i n
def flo (D : Nat → Nat) (n : Nat) : Nat → Nat → Nat
  | 0 => D
  | k + 1 => colf (flo D n k) n k n
theorem st1_id {D : Nat → Nat} {k i j : Nat} (h : D (8 * i + j) ≤ D (8 * i + k) + D (8 * k + j)) : st1 D k i j = D := by
  funext x
  unfold st1 up
  split
  · rename_i e
    rw [e]; omega
  · rfl
theorem rowf_id {D : Nat → Nat} {k i : Nat} (h : ∀ j, j < 8 → D (8 * i + j) ≤ D (8 * i + k) + D (8 * k + j)) : ∀ j, j ≤ 8 → rowf D k i j = D
  | 0, _ => rfl
  | j + 1, hj => by
    show st1 (rowf D k i j) k i j = D
    rw [rowf_id h j (by omega)]
    exact st1_id (h j (by omega))
theorem rowf_k {D : Nat → Nat} {k i : Nat} (hk : k < 8) : ∀ j, j ≤ 8 → rowf D k i j (8 * i + k) = D (8 * i + k)
  | 0, _ => rfl
  | j + 1, hj => by
    show up (rowf D k i j) (8 * i + j) _ (8 * i + k) = _
    have ih := rowf_k (D := D) (i := i) hk j (by omega)
    by_cases z : j = k
    · subst z
      rw [up_hit, ih]; omega
    · rw [up_ne (by omega)]; exact ih
def LE (D : Nat → Nat) : Prop := ∀ x, D x ≤ 1000000
theorem LE_st {D : Nat → Nat} {k i j : Nat} (h : LE D) : LE (st1 D k i j) := fun x => by
  unfold st1 up
  split
  · have := h (8 * i + j); omega
  · exact h x
theorem LE_row {D : Nat → Nat} {k i : Nat} (h : LE D) : ∀ j, LE (rowf D k i j)
  | 0 => h
  | j + 1 => LE_st (LE_row h j)
theorem LE_col {D : Nat → Nat} {n k : Nat} (h : LE D) : ∀ i, LE (colf D n k i)
  | 0 => h
  | i + 1 => LE_row (LE_col h i) n
theorem LE_flo {D : Nat → Nat} {n : Nat} (h : LE D) : ∀ k, LE (flo D n k)
  | 0 => h
  | k + 1 => LE_col (LE_flo h k) n
/-- no way leads from a house that isn't there -/
def OU (c : Nat) (D : Nat → Nat) : Prop := ∀ h e, h < 8 → e < 8 → h ≠ e → (c ≤ h ∨ c ≤ e) → D (8 * h + e) = 1000000
theorem tri {c : Nat} {D : Nat → Nat} (l : LE D) (o : OU c D) {k i j : Nat} (hk : k < 8) (hi : i < 8) (hj : j < 8) (q : c ≤ k ∨ c ≤ i ∨ c ≤ j) : D (8 * i + j) ≤ D (8 * i + k) + D (8 * k + j) := by
  by_cases z1 : i = k
  · subst z1; omega
  by_cases z2 : k = j
  · subst z2; omega
  have := l (8 * i + j)
  by_cases z : c ≤ k ∨ c ≤ i
  · have := o i k hi hk z1 (by omega)
    omega
  · have := o k j hk hj z2 (by omega)
    omega
theorem OU_st {c : Nat} {D : Nat → Nat} (l : LE D) (o : OU c D) {k i j : Nat} (hk : k < 8) (hi : i < 8) (hj : j < 8) : OU c (st1 D k i j) := by
  intro h e hh he hne q
  by_cases z : c ≤ i ∨ c ≤ j
  · rw [st1_id (tri l o hk hi hj (Or.inr z))]; exact o h e hh he hne q
  · unfold st1
    rw [up_ne (by omega)]; exact o h e hh he hne q
theorem OU_row {c : Nat} {D : Nat → Nat} (l : LE D) (o : OU c D) {k i : Nat} (hk : k < 8) (hi : i < 8) : ∀ j, j ≤ 8 → OU c (rowf D k i j)
  | 0, _ => o
  | j + 1, hj => OU_st (LE_row l j) (OU_row l o hk hi j (by omega)) hk hi (by omega)
theorem OU_col {c n : Nat} {D : Nat → Nat} (l : LE D) (o : OU c D) {k : Nat} (hn : n ≤ 8) (hk : k < 8) : ∀ i, i ≤ 8 → OU c (colf D n k i)
  | 0, _ => o
  | i + 1, hi => OU_row (LE_col l i) (OU_col l o hn hk i (by omega)) hk (by omega) n hn
theorem OU_flo {c n : Nat} {D : Nat → Nat} (l : LE D) (o : OU c D) (hn : n ≤ 8) : ∀ k, k ≤ 8 → OU c (flo D n k)
  | 0, _ => o
  | k + 1, hk => OU_col (LE_flo l k) (OU_flo l o hn k (by omega)) hn (by omega) n hn
theorem rowf_c {c : Nat} {D : Nat → Nat} (l : LE D) (o : OU c D) {k i : Nat} (hk : k < 8) (hi : i < 8) : ∀ d, c + d ≤ 8 → rowf D k i (c + d) = rowf D k i c
  | 0, _ => rfl
  | d + 1, h => by
    show st1 (rowf D k i (c + d)) k i (c + d) = _
    rw [rowf_c l o hk hi d (by omega)]
    exact st1_id (tri (LE_row l c) (OU_row l o hk hi c (by omega)) hk hi (by omega) (by omega))
theorem rowf_8 {c : Nat} {D : Nat → Nat} (l : LE D) (o : OU c D) {k i : Nat} (hk : k < 8) (hi : i < 8) (c8 : c ≤ 8) : rowf D k i 8 = rowf D k i c := by
  have := rowf_c l o hk hi (8 - c) (by omega)
  rw [show c + (8 - c) = 8 by omega] at this
  exact this
theorem colf_n {c : Nat} {D : Nat → Nat} (l : LE D) (o : OU c D) {k : Nat} (hk : k < 8) (c8 : c ≤ 8) : ∀ i, i ≤ 8 → colf D 8 k i = colf D c k i
  | 0, _ => rfl
  | i + 1, hi => by
    show rowf (colf D 8 k i) k i 8 = rowf (colf D c k i) k i c
    rw [colf_n l o hk c8 i (by omega)]
    exact rowf_8 (LE_col l i) (OU_col l o c8 hk i (by omega)) hk (by omega) c8
theorem colf_c {c : Nat} {D : Nat → Nat} (l : LE D) (o : OU c D) {k : Nat} (hk : k < 8) : ∀ d, c + d ≤ 8 → colf D c k (c + d) = colf D c k c
  | 0, _ => rfl
  | d + 1, h => by
    show rowf (colf D c k (c + d)) k (c + d) c = _
    rw [colf_c l o hk d (by omega)]
    exact rowf_id (fun j hj => tri (LE_col l c) (OU_col l o (by omega) hk c (by omega)) hk (by omega) hj (by omega)) c (by omega)
theorem colf_8 {c : Nat} {D : Nat → Nat} (l : LE D) (o : OU c D) {k : Nat} (hk : k < 8) (c8 : c ≤ 8) : colf D 8 k 8 = colf D c k c := by
  have := colf_c l o hk (8 - c) (by omega)
  rw [show c + (8 - c) = 8 by omega] at this
  rw [colf_n l o hk c8 8 (by omega)]
  exact this
theorem colf_no {c : Nat} {D : Nat → Nat} (l : LE D) (o : OU c D) {k : Nat} (hk : k < 8) (q : c ≤ k) (c8 : c ≤ 8) : ∀ i, i ≤ 8 → colf D c k i = D
  | 0, _ => rfl
  | i + 1, hi => by
    show rowf (colf D c k i) k i c = D
    rw [colf_no l o hk q c8 i (by omega)]
    exact rowf_id (fun j hj => tri l o hk (by omega) hj (by omega)) c c8
theorem flo_n {c : Nat} {D : Nat → Nat} (l : LE D) (o : OU c D) (c8 : c ≤ 8) : ∀ k, k ≤ 8 → flo D 8 k = flo D c k
  | 0, _ => rfl
  | k + 1, hk => by
    show colf (flo D 8 k) 8 k 8 = colf (flo D c k) c k c
    rw [flo_n l o c8 k (by omega)]
    exact colf_8 (LE_flo l k) (OU_flo l o c8 k (by omega)) (by omega) c8
theorem flo_c {c : Nat} {D : Nat → Nat} (l : LE D) (o : OU c D) : ∀ d, c + d ≤ 8 → flo D c (c + d) = flo D c c
  | 0, _ => rfl
  | d + 1, h => by
    show colf (flo D c (c + d)) c (c + d) c = _
    rw [flo_c l o d (by omega)]
    exact colf_no (LE_flo l c) (OU_flo l o (by omega) c (by omega)) (by omega) (by omega) (by omega) c (by omega)
theorem flo_8 {c : Nat} {D : Nat → Nat} (l : LE D) (o : OU c D) (c8 : c ≤ 8) : flo D 8 8 = flo D c c := by
  have := flo_c l o (8 - c) (by omega)
  rw [show c + (8 - c) = 8 by omega] at this
  rw [flo_n l o c8 8 (by omega)]
  exact this
/-- the streets alone: m = 0 by their lengths, else 1 each -/
def bs0 (A : Nat → Nat) (m x : Nat) : Nat := if A (50 + x) = 0 then 1000000 else if m = 0 then A (50 + x) else 1
def D0 (A : Nat → Nat) (m x : Nat) : Nat := if x < 64 then (if x % 9 = 0 then 0 else bs0 A m x) else 0
theorem bs0_le {A : Nat → Nat} (hR : BR A) {m x : Nat} (hx : x < 64) : bs0 A m x ≤ 1000000 := by
  unfold bs0
  have := (hR (x / 8) (x % 8) (by omega) (by omega)).1
  rw [show 50 + 8 * (x / 8) + x % 8 = 50 + x by omega] at this
  split
  · omega
  · split <;> omega
theorem D0_le {A : Nat → Nat} (hR : BR A) (m : Nat) : LE (D0 A m) := fun x => by
  unfold D0
  split
  · split
    · omega
    · exact bs0_le hR (by omega)
  · omega
theorem D0_ou {A : Nat → Nat} (hR : BR A) (m : Nat) : OU (A 0) (D0 A m) := fun h e hh he hne q => by
  unfold D0 bs0
  have z : A (50 + (8 * h + e)) = 0 := by
    obtain ⟨_, q2, q3, _⟩ := hR h e hh he
    rw [show 50 + (8 * h + e) = 50 + 8 * h + e by omega]
    rcases q with q | q
    · exact q3 q
    · rw [q2]; exact (hR e h he hh).2.2.1 q
  rw [if_pos (by omega), if_neg (by omega), if_pos z]
/-! the class -/
def LX (σ : Sg) (D : Nat → Nat) : Prop := ∀ x, x < 64 → σ.1 60 x = nI (D x)
abbrev S60 : Nat → Nat → Prop := fun a _ => a = 60
theorem LX.put {σ : Sg} {D : Nat → Nat} (h : LX σ D) (y n : Nat) : LX (wI σ 60 y (nI n)) (up D y n) := fun x hx => by
  by_cases z : x = y
  · subst z; rw [e_hit, up_hit]
  · rw [e_ne2 z, up_ne z]; exact h x hx
theorem x_row {σ : Sg} {D : Nat → Nat} (h : LX σ D) (l : LE D) {k i : Nat} (hk : k < 8) (hi : i < 8) : ∃ σ', (LX σ' (rowf D k i 8) ∧ fr S60 σ σ') ∧ ∀ rec, f_X9_shorten_23 rec FU (nI k) (nI i) (nI (D (8 * i + k))) (nI 0) σ = rec (nI k) (nI (i + 1)) σ' := by
  have lik := l (8 * i + k)
  by_cases z : 1000000 ≤ D (8 * i + k)
  · refine ⟨σ, ⟨?_, fr.rfl⟩, fun rec => ?_⟩
    · rw [rowf_id (fun j hj => by have := l (8 * i + j); omega) 8 (by omega)]; exact h
    · obtain ⟨f, hf⟩ := FU_n (n := 0) (by decide)
      rw [hf]
      show f_X9_shorten_23 rec (f + 1) _ _ _ _ _ = _
      rw [f_X9_shorten_23]
      simp (disch := omega) only [e_bnd, e_bndV, e_lt, e_grd, e_lit, e_le1, e_le2, e_lt1, e_lt2, e_eq1, e_eq2, e_inb, e_ix, nI_add, pk_mul, e_sub, e_b0, e_b1, e_bz, e_bz0, e_bz1, Bool.and_true, Bool.true_and, ↓reduceIte, not_true_eq_false, not_false_eq_true, decide_false, decide_true, and_self, and_true, true_and, and_false, false_and, Bool.false_eq_true, Bool.not_false, Bool.not_true, f_X9_shorten_86]
  · obtain ⟨s', ⟨g1, g2, g3⟩, g4⟩ := lpR (fun rec fu (q : Int32 × Sg) => f_X9_shorten_23 rec fu (nI k) (nI i) (nI (D (8 * i + k))) q.1 q.2) (fun j q => q.1 = nI j ∧ LX q.2 (rowf D k i j) ∧ fr S60 σ q.2) 8 (fun j hj q hq => by
      obtain ⟨v, s⟩ := q
      obtain ⟨q1, q2, q3⟩ := hq
      dsimp only at q1 q2 q3
      subst q1
      have lj := LE_row (k := k) (i := i) l j
      have rk := rowf_k (D := D) (i := i) hk j (by omega)
      have c1 := q2 (8 * i + j) (by omega)
      have c2 := q2 (8 * k + j) (by omega)
      have b1 := lj (8 * i + j)
      have b2 := lj (8 * k + j)
      refine ⟨(nI (j + 1), wI s 60 (8 * i + j) (nI (min (rowf D k i j (8 * i + j)) (rowf D k i j (8 * i + k) + rowf D k i j (8 * k + j))))), ⟨rfl, q2.put _ _, q3.trans (fr.w rfl)⟩, fun rec fu => ?_⟩
      dsimp only
      rw [f_X9_shorten_23, rk]
      simp (disch := omega) only [e_bnd, e_bndV, e_lt, e_grd, e_lit, e_le1, e_le2, e_lt1, e_lt2, e_eq1, e_eq2, e_inb, e_ix, nI_add, pk_mul, e_sub, e_b0, e_b1, e_bz, e_bz0, e_bz1, Bool.and_true, Bool.true_and, ↓reduceIte, not_true_eq_false, not_false_eq_true, decide_false, decide_true, and_self, and_true, true_and, and_false, false_and, Bool.false_eq_true, Bool.not_false, Bool.not_true, Nat.mul_comm i 8, Nat.mul_comm k 8, c1, c2, imin_I]) (nI 0, σ) ⟨rfl, h, fr.rfl⟩
    refine ⟨s'.2, ⟨g2, g3⟩, fun rec => ?_⟩
    obtain ⟨f, hf⟩ := FU_n (n := 8) (by decide)
    have e := g4 rec (f + 1)
    dsimp only at e
    rw [hf, e, g1, f_X9_shorten_23]
    simp (disch := omega) only [e_bnd, e_bndV, e_lt, e_grd, e_lit, e_le1, e_le2, e_lt1, e_lt2, e_eq1, e_eq2, e_inb, e_ix, nI_add, pk_mul, e_sub, e_b0, e_b1, e_bz, e_bz0, e_bz1, Bool.and_true, Bool.true_and, ↓reduceIte, not_true_eq_false, not_false_eq_true, decide_false, decide_true, and_self, and_true, true_and, and_false, false_and, Bool.false_eq_true, Bool.not_false, Bool.not_true, f_X9_shorten_86]
theorem x_shorten {σ : Sg} {D : Nat → Nat} (h : LX σ D) (l : LE D) {k : Nat} (hk : k < 8) : ∃ σ', (LX σ' (colf D 8 k 8) ∧ fr S60 σ σ') ∧ f_X9_shorten (nI k) σ = some σ' := by
  unfold f_X9_shorten
  simp (disch := omega) only [e_lit]
  refine lpI (fun fu (q : Int32 × Sg) => f_X9_shorten_2 fu (nI k) q.1 q.2) (fun i q => q.1 = nI i ∧ LX q.2 (colf D 8 k i) ∧ fr S60 σ q.2) 8 (fun r => ∃ σ', (LX σ' (colf D 8 k 8) ∧ fr S60 σ σ') ∧ r = some σ') (fun i hi q hq => ?_) (fun q hq fu => ?_) FU (by unfold FU; omega) (nI 0, σ) ⟨rfl, h, fr.rfl⟩
  · obtain ⟨v, s⟩ := q
    obtain ⟨q1, q2, q3⟩ := hq
    dsimp only at q1 q2 q3
    subst q1
    obtain ⟨s', ⟨g1, g2⟩, g3⟩ := x_row q2 (LE_col l i) hk hi
    have c1 := q2 (8 * i + k) (by omega)
    refine ⟨(nI (i + 1), s'), ⟨rfl, g1, q3.trans g2⟩, fun fu => ?_⟩
    dsimp only
    rw [f_X9_shorten_2]
    simp (disch := omega) only [e_bnd, e_bndV, e_lt, e_grd, e_lit, e_le1, e_le2, e_lt1, e_lt2, e_eq1, e_eq2, e_inb, e_ix, nI_add, pk_mul, e_sub, e_b0, e_b1, e_bz, e_bz0, e_bz1, Bool.and_true, Bool.true_and, ↓reduceIte, not_true_eq_false, not_false_eq_true, decide_false, decide_true, and_self, and_true, true_and, and_false, false_and, Bool.false_eq_true, Bool.not_false, Bool.not_true, Nat.mul_comm i 8, c1]
    exact g3 _
  · obtain ⟨v, s⟩ := q
    obtain ⟨q1, q2, q3⟩ := hq
    dsimp only at q1 q2 q3
    subst q1
    refine ⟨s, ⟨q2, q3⟩, ?_⟩
    dsimp only
    rw [f_X9_shorten_2]
    simp (disch := omega) only [e_bnd, e_bndV, e_lt, e_grd, e_lit, e_le1, e_le2, e_lt1, e_lt2, e_eq1, e_eq2, e_inb, e_ix, nI_add, pk_mul, e_sub, e_b0, e_b1, e_bz, e_bz0, e_bz1, Bool.and_true, Bool.true_and, ↓reduceIte, not_true_eq_false, not_false_eq_true, decide_false, decide_true, and_self, and_true, true_and, and_false, false_and, Bool.false_eq_true, Bool.not_false, Bool.not_true]
