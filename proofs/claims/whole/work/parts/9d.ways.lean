/-! round, again: the ways are the shortest, and finite where all hang together -/
theorem rowf_at {D : Nat → Nat} {k i : Nat} (hk : k < 8) : ∀ j, j ≤ 8 → ∀ a b, b < 8 → rowf D k i j (8 * a + b) = if a = i ∧ b < j then min (D (8 * i + b)) (D (8 * i + k) + D (8 * k + b)) else D (8 * a + b)
  | 0, _, a, b, _ => by
    rw [if_neg (by omega)]
    rfl
  | j + 1, hj, a, b, hb => by
    have ih := rowf_at (D := D) (i := i) hk j (by omega)
    have e1 : rowf D k i (j + 1) (8 * a + b) = up (rowf D k i j) (8 * i + j) (min (rowf D k i j (8 * i + j)) (rowf D k i j (8 * i + k) + rowf D k i j (8 * k + j))) (8 * a + b) := rfl
    have c1 := ih i j (by omega)
    rw [if_neg (by omega)] at c1
    have c2 := rowf_k (D := D) (i := i) hk j (by omega)
    have c3 := ih k j (by omega)
    rw [if_neg (by omega)] at c3
    rw [e1]
    by_cases z : 8 * a + b = 8 * i + j
    · have za : a = i := by omega
      have zb : b = j := by omega
      subst za zb
      rw [up_hit, c1, c2, c3, if_pos ⟨rfl, by omega⟩]
    · rw [up_ne z, ih a b hb]
      by_cases y : a = i ∧ b < j
      · rw [if_pos y, if_pos ⟨y.1, by omega⟩]
      · rw [if_neg y, if_neg (by omega)]
theorem colf_at {D : Nat → Nat} {n k : Nat} (hk : k < 8) (hn : n ≤ 8) : ∀ i, ∀ a b, b < 8 → colf D n k i (8 * a + b) = if a < i ∧ b < n then min (D (8 * a + b)) (D (8 * a + k) + D (8 * k + b)) else D (8 * a + b)
  | 0, a, b, _ => by
    rw [if_neg (by omega)]
    rfl
  | i + 1, a, b, hb => by
    have ih := colf_at (D := D) (n := n) hk hn i
    have e1 : colf D n k (i + 1) (8 * a + b) = rowf (colf D n k i) k i n (8 * a + b) := rfl
    have c1 := ih i b hb
    rw [if_neg (by omega)] at c1
    have c2 := ih i k hk
    rw [if_neg (by omega)] at c2
    have c3 := ih k b hb
    have c3' : colf D n k i (8 * k + b) = D (8 * k + b) := by
      rw [c3]
      by_cases z : k < i ∧ b < n
      · rw [if_pos z]; omega
      · rw [if_neg z]
    rw [e1, rowf_at hk n hn a b hb, c1, c2, c3', ih a b hb]
    by_cases z : a = i ∧ b < n
    · rw [if_pos z, if_pos ⟨by omega, z.2⟩, z.1]
    · rw [if_neg z]
      by_cases y : a < i ∧ b < n
      · rw [if_pos y, if_pos ⟨by omega, y.2⟩]
      · rw [if_neg y, if_neg (by omega)]
theorem flo_at {D : Nat → Nat} {n k : Nat} (hk : k < 8) (hn : n ≤ 8) {a b : Nat} (ha : a < n) (hb : b < n) : flo D n (k + 1) (8 * a + b) = min (flo D n k (8 * a + b)) (flo D n k (8 * a + k) + flo D n k (8 * k + b)) := by
  show colf (flo D n k) n k n (8 * a + b) = _
  rw [colf_at hk hn n a b (by omega), if_pos ⟨ha, hb⟩]
theorem flo_tri {D : Nat → Nat} {n : Nat} (hn : n ≤ 8) : ∀ k, k ≤ n → ∀ m i j, m < k → i < n → j < n → flo D n k (8 * i + j) ≤ flo D n k (8 * i + m) + flo D n k (8 * m + j)
  | 0, _, _, _, _, h, _, _ => absurd h (by omega)
  | k + 1, hk, m, i, j, hm, hi, hj => by
    rw [flo_at (by omega) hn hi hj, flo_at (by omega) hn hi (by omega : m < n), flo_at (by omega) hn (by omega : m < n) hj]
    by_cases z : m = k
    · subst z
      omega
    · have t1 := flo_tri (D := D) hn k (by omega) m i j (by omega) hi hj
      have t2 := flo_tri (D := D) hn k (by omega) m i k (by omega) hi (by omega)
      have t3 := flo_tri (D := D) hn k (by omega) m k j (by omega) (by omega) hj
      omega
theorem flo_dn {D : Nat → Nat} {n : Nat} (hn : n ≤ 8) {i j : Nat} (hi : i < n) (hj : j < n) : ∀ k, k ≤ n → flo D n k (8 * i + j) ≤ D (8 * i + j)
  | 0, _ => Nat.le_refl _
  | k + 1, hk => by
    rw [flo_at (by omega) hn hi hj]
    have := flo_dn (D := D) hn hi hj k (by omega)
    omega
theorem flo_val {D : Nat → Nat} {n : Nat} (hn : n ≤ 8) (h0 : ∀ i j, i < n → j < n → D (8 * i + j) ≤ 99 ∨ D (8 * i + j) = 1000000) : ∀ k, k ≤ n → ∀ i j, i < n → j < n → flo D n k (8 * i + j) ≤ 99 * 2 ^ k ∨ flo D n k (8 * i + j) = 1000000
  | 0, _, i, j, hi, hj => h0 i j hi hj
  | k + 1, hk, i, j, hi, hj => by
    have a1 := flo_val hn h0 k (by omega) i j hi hj
    have a2 := flo_val hn h0 k (by omega) i k hi (by omega)
    have a3 := flo_val hn h0 k (by omega) k j (by omega) hj
    have b : 2 ^ k ≤ 2 ^ 7 := Nat.pow_le_pow_right (by decide) (by omega)
    rw [flo_at (by omega) hn hi hj, Nat.pow_succ]
    omega
/-- the ways between houses -/
def wy (A : Nat → Nat) : Nat → Nat := flo (D0 A 0) (A 0) (A 0)
theorem D0_val {A : Nat → Nat} (hR : BR A) {m i j : Nat} (hm : m ≤ 1) (hi : i < 8) (hj : j < 8) : D0 A m (8 * i + j) ≤ 99 ∨ D0 A m (8 * i + j) = 1000000 := by
  unfold D0 bs0
  have b1 := (hR i j hi hj).1
  rw [if_pos (by omega), show 50 + (8 * i + j) = 50 + 8 * i + j by omega]
  split
  · omega
  · split
    · omega
    · split <;> omega
theorem wy_val {A : Nat → Nat} (hR : BR A) (c8 : A 0 ≤ 8) {i j : Nat} (hi : i < A 0) (hj : j < A 0) : wy A (8 * i + j) ≤ 25344 ∨ wy A (8 * i + j) = 1000000 := by
  have h := flo_val (D := D0 A 0) c8 (fun i j hi hj => D0_val hR (by decide) (by omega) (by omega)) (A 0) (Nat.le_refl _) i j hi hj
  have b : 2 ^ (A 0) ≤ 2 ^ 8 := Nat.pow_le_pow_right (by decide) c8
  unfold wy
  omega
theorem wy_tri {A : Nat → Nat} (c8 : A 0 ≤ 8) {i m j : Nat} (hi : i < A 0) (hm : m < A 0) (hj : j < A 0) : wy A (8 * i + j) ≤ wy A (8 * i + m) + wy A (8 * m + j) := flo_tri c8 (A 0) (Nat.le_refl _) m i j hm hi hj
/-- all that are joined have a way -/
theorem wy_co {A : Nat → Nat} (hR : BR A) (c8 : A 0 ≤ 8) {h e : Nat} (hh : h < A 0) (he : e < 8) (q : (co A (al (A 0)) h).testBit e = true) : wy A (8 * h + e) ≤ 25344 := by
  have ec : e < A 0 := al_in e he (co_sub (by rw [al_bit]; exact decide_eq_true hh) he q)
  obtain ⟨S, hS⟩ : ∃ S, S = mk 8 fun i => decide (i < A 0 ∧ wy A (8 * h + i) ≤ 25344) := ⟨_, rfl⟩
  have hb : ∀ i, i < 8 → (S.testBit i = true ↔ i < A 0 ∧ wy A (8 * h + i) ≤ 25344) := fun i hi => by
    rw [hS, mk_bit, decide_eq_true hi, Bool.true_and, decide_eq_true_eq]
  have d0 : wy A (8 * h + h) ≤ 25344 := by
    have := flo_dn (D := D0 A 0) c8 hh hh (A 0) (Nat.le_refl _)
    have z : D0 A 0 (8 * h + h) = 0 := by
      unfold D0
      rw [if_pos (by omega), if_pos (by omega)]
    unfold wy
    omega
  have c : CL A (al (A 0)) S := by
    intro m b hm hb8 h1 h2 h3
    obtain ⟨m1, m2⟩ := (hb m hm).mp h1
    have bc : b < A 0 := al_in b hb8 h3
    refine (hb b hb8).mpr ⟨bc, ?_⟩
    have t := wy_tri c8 hh m1 bc
    have v := wy_val hR c8 hh bc
    have u := flo_dn (D := D0 A 0) c8 m1 bc (A 0) (Nat.le_refl _)
    have w : D0 A 0 (8 * m + b) ≤ 99 := by
      unfold D0 bs0
      have b1 := (hR m b hm hb8).1
      rw [if_pos (by omega), show 50 + (8 * m + b) = 50 + 8 * m + b by omega, if_neg (show ¬ A (50 + 8 * m + b) = 0 by omega), if_pos rfl]
      split <;> omega
    have u' : wy A (8 * m + b) ≤ D0 A 0 (8 * m + b) := u
    omega
  exact ((hb e he).mp (co_min c ((hb h (by omega)).mpr ⟨hh, d0⟩) he q)).2
theorem wy_jo {A : Nat → Nat} (hR : BR A) (c8 : A 0 ≤ 8) (hj : jo A = 1) {h e : Nat} (hh : h < 8) (he : e < 8) (q1 : (jv A).testBit h = true) (q2 : (jv A).testBit e = true) : wy A (8 * h + e) ≤ 25344 := by
  have hl := jv_lt A
  obtain ⟨lo, l1, l2, l3⟩ := low_ex _ hl (bit_ne0 q1)
  have it := ng_iff hR l1 l2 l3 c8
  have le : ng A (jv A) (A 0) 0 (jv A) ≤ 1 := by
    unfold jo at hj
    by_cases z : ng A (jv A) (A 0) 0 (jv A) ≤ 1
    · exact z
    · rw [if_neg z] at hj
      exact absurd hj (by decide)
  have e1 := it.mp le
  have hc := jv_in hR h hh q1
  refine wy_co hR c8 hc he ?_
  rw [co_eq hR l1 hh (by rw [al_bit]; exact decide_eq_true (jv_in hR lo l1 l2)) (by rw [e1]; exact q1), e1]
  exact q2
theorem od_jv {A : Nat → Nat} {i : Nat} (hi : i < 8) (h : (od A).testBit i = true) : (jv A).testBit i = true := by
  unfold od oddp at h
  rw [mk_bit, decide_eq_true hi, Bool.true_and, decide_eq_true_eq] at h
  refine (jv_bit hi).mpr fun z => ?_
  rw [z, pc8_0] at h
  exact absurd h (by decide)
