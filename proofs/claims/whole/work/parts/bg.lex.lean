/-! text: the lexer, pure. T: the tape's bytes, L: how many -/
def isLt (b : Nat) : Bool := decide ((97 ≤ b ∧ b ≤ 122) ∨ (65 ≤ b ∧ b ≤ 90))
def isDg (b : Nat) : Bool := decide (48 ≤ b ∧ b ≤ 57)
def isBk (b : Nat) : Bool := decide (b = 32 ∨ b = 10)
def rnE (L : Nat) (T : Nat → Nat) (Q : Nat → Bool) : Nat → Nat → Nat
  | 0, i => i
  | f + 1, i => if i < L ∧ Q (T i) = true then rnE L T Q f (i + 1) else i
def skE (L : Nat) (T : Nat → Nat) (Q : Nat → Bool) (i : Nat) : Nat := rnE L T Q (L - i) i
theorem skE_step {L : Nat} {T : Nat → Nat} {Q : Nat → Bool} {i : Nat} (h : i < L) (q : Q (T i) = true) : skE L T Q i = skE L T Q (i + 1) := by
  unfold skE
  rw [show L - i = (L - (i + 1)) + 1 by omega]
  exact if_pos ⟨h, q⟩
theorem skE_stop {L : Nat} {T : Nat → Nat} {Q : Nat → Bool} {i : Nat} (h : ¬ (i < L ∧ Q (T i) = true)) : skE L T Q i = i := by
  unfold skE
  cases L - i with
  | zero => rfl
  | succ f => exact if_neg h
theorem skE_all {L : Nat} {T : Nat → Nat} {Q : Nat → Bool} : ∀ (d i : Nat), L - i = d → i ≤ skE L T Q i ∧ (i ≤ L → skE L T Q i ≤ L) ∧ ¬ (skE L T Q i < L ∧ Q (T (skE L T Q i)) = true) ∧ ∀ j, i ≤ j → j < skE L T Q i → Q (T j) = true
  | 0, i, h => by
    have e : skE L T Q i = i := skE_stop (by omega)
    rw [e]
    exact ⟨Nat.le_refl _, fun q => q, by omega, fun j a b => absurd b (by omega)⟩
  | d + 1, i, h => by
    by_cases z : Q (T i) = true
    · have e := skE_step (Q := Q) (T := T) (L := L) (i := i) (by omega) z
      obtain ⟨a, b, c, g⟩ := skE_all (L := L) (T := T) (Q := Q) d (i + 1) (by omega)
      rw [e]
      refine ⟨by omega, fun _ => b (by omega), c, fun j h1 h2 => ?_⟩
      by_cases y : j = i
      · rw [y]
        exact z
      · exact g j (by omega) h2
    · have e : skE L T Q i = i := skE_stop (fun q => z q.2)
      rw [e]
      exact ⟨Nat.le_refl _, fun q => q, fun q => z q.2, fun j a b => absurd b (by omega)⟩
/-- where the token at i ends -/
def tokE (L : Nat) (T : Nat → Nat) (i : Nat) : Nat :=
  if L ≤ i then i
  else if isLt (T i) = true then skE L T isLt (i + 1)
  else if isDg (T i) = true then skE L T isDg (i + 1)
  else if (T i = 60 ∨ T i = 62) ∧ i + 1 < L ∧ T (i + 1) = 61 then i + 2 else i + 1
theorem tokE_gt {L : Nat} {T : Nat → Nat} {i : Nat} (h : i < L) : i < tokE L T i ∧ tokE L T i ≤ L := by
  unfold tokE
  rw [if_neg (by omega)]
  by_cases a : isLt (T i) = true
  · rw [if_pos a]
    obtain ⟨x, y, _⟩ := skE_all (L := L) (T := T) (Q := isLt) _ (i + 1) rfl
    exact ⟨by omega, y (by omega)⟩
  rw [if_neg a]
  by_cases b : isDg (T i) = true
  · rw [if_pos b]
    obtain ⟨x, y, _⟩ := skE_all (L := L) (T := T) (Q := isDg) _ (i + 1) rfl
    exact ⟨by omega, y (by omega)⟩
  rw [if_neg b]
  by_cases c : (T i = 60 ∨ T i = 62) ∧ i + 1 < L ∧ T (i + 1) = 61
  · rw [if_pos c]
    omega
  · rw [if_neg c]
    omega
/-- where token j stands -/
def plc (L : Nat) (T : Nat → Nat) : Nat → Nat
  | 0 => skE L T isBk 0
  | j + 1 => skE L T isBk (tokE L T (plc L T j))
theorem plc_le {L : Nat} {T : Nat → Nat} : ∀ j, plc L T j ≤ L ∧ ¬ (plc L T j < L ∧ isBk (T (plc L T j)) = true)
  | 0 => by
    obtain ⟨_, y, z, _⟩ := skE_all (L := L) (T := T) (Q := isBk) _ 0 rfl
    exact ⟨y (Nat.zero_le _), z⟩
  | j + 1 => by
    obtain ⟨a, _⟩ := plc_le (L := L) (T := T) j
    have t : tokE L T (plc L T j) ≤ L := by
      by_cases z : plc L T j < L
      · exact (tokE_gt z).2
      · have e : tokE L T (plc L T j) = plc L T j := if_pos (by omega)
        omega
    obtain ⟨_, y, z, _⟩ := skE_all (L := L) (T := T) (Q := isBk) _ (tokE L T (plc L T j)) rfl
    exact ⟨y t, z⟩
theorem plc_end {L : Nat} {T : Nat → Nat} {j : Nat} (h : plc L T j = L) : plc L T (j + 1) = L := by
  have e : tokE L T (plc L T j) = plc L T j := if_pos (by omega)
  show skE L T isBk (tokE L T (plc L T j)) = L
  rw [e, h]
  exact skE_stop (by omega)
theorem plc_lt {L : Nat} {T : Nat → Nat} {j : Nat} (h : plc L T j < L) : plc L T j < plc L T (j + 1) := by
  obtain ⟨a, _⟩ := tokE_gt (T := T) h
  obtain ⟨x, _⟩ := skE_all (L := L) (T := T) (Q := isBk) _ (tokE L T (plc L T j)) rfl
  exact Nat.lt_of_lt_of_le a x
theorem plc_m {L : Nat} {T : Nat → Nat} : ∃ m, m ≤ L ∧ plc L T m = L ∧ ∀ j, j < m → plc L T j < L := by
  have G : ∀ k, (∃ m, m ≤ k ∧ plc L T m = L ∧ ∀ j, j < m → plc L T j < L) ∨ (k ≤ plc L T k ∧ ∀ j, j ≤ k → plc L T j < L) := by
    intro k
    induction k with
    | zero =>
      by_cases z : plc L T 0 = L
      · exact Or.inl ⟨0, Nat.le_refl _, z, fun j hj => absurd hj (Nat.not_lt_zero _)⟩
      · have := (plc_le (L := L) (T := T) 0).1
        exact Or.inr ⟨Nat.zero_le _, fun j hj => by rw [show j = 0 by omega]; omega⟩
    | succ k ih =>
      rcases ih with ⟨m, a, b, c⟩ | ⟨a, b⟩
      · exact Or.inl ⟨m, by omega, b, c⟩
      · have l := plc_lt (b k (Nat.le_refl _))
        by_cases z : plc L T (k + 1) = L
        · exact Or.inl ⟨k + 1, Nat.le_refl _, z, fun j hj => b j (by omega)⟩
        · have := (plc_le (L := L) (T := T) (k + 1)).1
          refine Or.inr ⟨by omega, fun j hj => ?_⟩
          by_cases y : j = k + 1
          · rw [y]
            omega
          · exact b j (by omega)
  rcases G L with g | ⟨a, b⟩
  · exact g
  · have := b L (Nat.le_refl _)
    omega
theorem plc_over {L : Nat} {T : Nat → Nat} {m : Nat} (h : plc L T m = L) : ∀ d, plc L T (m + d) = L
  | 0 => h
  | d + 1 => plc_end (plc_over h d)
/-- signs -/
def sgK (b : Nat) : Nat := if b = 60 then 30 else if b = 62 then 32 else if b = 61 then 34 else if b = 35 then 35 else if b = 43 then 36 else if b = 45 then 37 else if b = 42 then 38 else if b = 47 then 39 else if b = 40 then 40 else if b = 41 then 41 else if b = 59 then 42 else 44
/-- numbers, up to 10000 -/
def nmE (L : Nat) (T : Nat → Nat) : Nat → Nat → Nat → Nat
  | 0, _, v => v
  | f + 1, i, v => if i < L ∧ isDg (T i) = true then nmE L T f (i + 1) (min 10000 (v * 10 + T i - 48)) else v
def nmT (L : Nat) (T : Nat → Nat) (i v : Nat) : Nat := nmE L T (L - i) i v
theorem nmT_step {L : Nat} {T : Nat → Nat} {i v : Nat} (h : i < L) (q : isDg (T i) = true) : nmT L T i v = nmT L T (i + 1) (min 10000 (v * 10 + T i - 48)) := by
  unfold nmT
  rw [show L - i = (L - (i + 1)) + 1 by omega]
  exact if_pos ⟨h, q⟩
theorem nmT_stop {L : Nat} {T : Nat → Nat} {i v : Nat} (h : ¬ (i < L ∧ isDg (T i) = true)) : nmT L T i v = v := by
  unfold nmT
  cases L - i with
  | zero => rfl
  | succ f => exact if_neg h
theorem nmT_le {L : Nat} {T : Nat → Nat} : ∀ (d i v : Nat), L - i = d → v ≤ 10000 → nmT L T i v ≤ 10000
  | 0, i, v, h, hv => by
    rw [nmT_stop (by omega)]
    exact hv
  | d + 1, i, v, h, hv => by
    by_cases z : isDg (T i) = true
    · rw [nmT_step (by omega) z]
      exact nmT_le d (i + 1) _ (by omega) (Nat.min_le_left _ _)
    · rw [nmT_stop (fun q => z q.2)]
      exact hv
