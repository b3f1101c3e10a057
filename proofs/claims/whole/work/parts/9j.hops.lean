/-! began, whom: hops are the layers -/
def hp (A : Nat → Nat) : Nat → Nat := flo (D0 A 1) (A 0) (A 0)
/-- the houses within k hops of h -/
def ly (A : Nat → Nat) (h k : Nat) : Nat := cl A (al (A 0)) (2 ^ h) k
theorem ly_lt {A : Nat → Nat} {h : Nat} (hh : h < 8) (k : Nat) : ly A h k < 256 := cl_lt (two_lt hh) k
theorem ly_s {A : Nat → Nat} {h k e : Nat} (he : e < 8) : (ly A h (k + 1)).testBit e = true ↔ (ly A h k).testBit e = true ∨ (∃ m, m < 8 ∧ (ly A h k).testBit m = true ∧ 0 < A (50 + 8 * m + e)) ∧ (al (A 0)).testBit e = true := FR_bit he
theorem ly_0 {A : Nat → Nat} {h : Nat} : (ly A h 0).testBit h = true := by
  show (2 ^ h).testBit h = true
  rw [Nat.testBit_two_pow]
  exact decide_eq_true rfl
theorem ly_in {A : Nat → Nat} {h : Nat} (hh : h < A 0) : ∀ k e, e < 8 → (ly A h k).testBit e = true → e < A 0
  | 0, e, _, q => by
    have q2 : (2 ^ h).testBit e = true := q
    rw [Nat.testBit_two_pow] at q2
    rw [← of_decide_eq_true q2]; exact hh
  | k + 1, e, he, q => by
    rcases (ly_s he).mp q with q | q
    · exact ly_in hh k e he q
    · exact al_in e he q.2
theorem ly_add {A : Nat → Nat} {i m : Nat} {x : Nat} (hm : m < 8) (h : (ly A i x).testBit m = true) : ∀ y e, e < 8 → (ly A m y).testBit e = true → (ly A i (x + y)).testBit e = true
  | 0, e, _, q => by
    have q2 : (2 ^ m).testBit e = true := q
    rw [Nat.testBit_two_pow] at q2
    rw [← of_decide_eq_true q2]; exact h
  | y + 1, e, he, q => by
    refine (ly_s he).mpr ?_
    rcases (ly_s he).mp q with q | ⟨⟨a, a1, a2, a3⟩, q⟩
    · exact Or.inl (ly_add hm h y e he q)
    · exact Or.inr ⟨⟨a, a1, ly_add hm h y a a1 a2, a3⟩, q⟩
theorem ly_mono {A : Nat → Nat} {h k e : Nat} (he : e < 8) (q : (ly A h k).testBit e = true) : ∀ d, (ly A h (k + d)).testBit e = true
  | 0 => q
  | d + 1 => (ly_s he).mpr (Or.inl (ly_mono he q d))
theorem hp_tri {A : Nat → Nat} (c8 : A 0 ≤ 8) {i m j : Nat} (hi : i < A 0) (hm : m < A 0) (hj : j < A 0) : hp A (8 * i + j) ≤ hp A (8 * i + m) + hp A (8 * m + j) := flo_tri c8 (A 0) (Nat.le_refl _) m i j hm hi hj
theorem D0_0 {A : Nat → Nat} {m i : Nat} (hi : i < 8) : D0 A m (8 * i + i) = 0 := by
  unfold D0
  rw [if_pos (by omega), if_pos (by omega)]
theorem D0_1 {A : Nat → Nat} {i j : Nat} (hi : i < 8) (hj : j < 8) (hn : i ≠ j) : D0 A 1 (8 * i + j) = if A (50 + 8 * i + j) = 0 then 1000000 else 1 := by
  unfold D0 bs0
  rw [if_pos (by omega), if_neg (by omega), show 50 + (8 * i + j) = 50 + 8 * i + j by omega]
  split
  · rfl
  · rw [if_neg (by decide)]
theorem hp_of {A : Nat → Nat} (c8 : A 0 ≤ 8) {h : Nat} (hh : h < A 0) : ∀ k e, e < 8 → (ly A h k).testBit e = true → hp A (8 * h + e) ≤ k
  | 0, e, he, q => by
    have q2 : (2 ^ h).testBit e = true := q
    rw [Nat.testBit_two_pow] at q2
    have q3 := of_decide_eq_true q2
    subst q3
    have := flo_dn (D := D0 A 1) c8 hh hh (A 0) (Nat.le_refl _)
    rw [D0_0 he] at this
    exact this
  | k + 1, e, he, q => by
    rcases (ly_s he).mp q with q | ⟨⟨m, m1, m2, m3⟩, q⟩
    · have := hp_of c8 hh k e he q
      omega
    · have a := hp_of c8 hh k m m1 m2
      have mc := ly_in hh k m m1 m2
      have ec := al_in e he q
      have t := hp_tri c8 hh mc ec
      have u : hp A (8 * m + e) ≤ D0 A 1 (8 * m + e) := flo_dn (D := D0 A 1) c8 mc ec (A 0) (Nat.le_refl _)
      have w : D0 A 1 (8 * m + e) ≤ 1 := by
        by_cases z : m = e
        · subst z; rw [D0_0 he]; omega
        · rw [D0_1 m1 he z, if_neg (by omega)]; omega
      omega
theorem flo_ly {A : Nat → Nat} (c8 : A 0 ≤ 8) : ∀ k, k ≤ A 0 → ∀ i j, i < A 0 → j < A 0 → flo (D0 A 1) (A 0) k (8 * i + j) < 1000000 → (ly A i (flo (D0 A 1) (A 0) k (8 * i + j))).testBit j = true
  | 0, _, i, j, hi, hj, h => by
    have e : flo (D0 A 1) (A 0) 0 (8 * i + j) = D0 A 1 (8 * i + j) := rfl
    rw [e] at h ⊢
    by_cases z : i = j
    · subst z; rw [D0_0 (by omega)]; exact ly_0
    · rw [D0_1 (by omega) (by omega) z] at h ⊢
      by_cases y : A (50 + 8 * i + j) = 0
      · rw [if_pos y] at h; omega
      · rw [if_neg y]
        exact (ly_s (by omega)).mpr (Or.inr ⟨⟨i, by omega, ly_0, by omega⟩, by rw [al_bit]; exact decide_eq_true hj⟩)
  | k + 1, hk, i, j, hi, hj, h => by
    have ih := flo_ly c8 k (by omega)
    rw [flo_at (by omega) c8 hi hj] at h ⊢
    by_cases z : flo (D0 A 1) (A 0) k (8 * i + j) ≤ flo (D0 A 1) (A 0) k (8 * i + k) + flo (D0 A 1) (A 0) k (8 * k + j)
    · rw [show min (flo (D0 A 1) (A 0) k (8 * i + j)) (flo (D0 A 1) (A 0) k (8 * i + k) + flo (D0 A 1) (A 0) k (8 * k + j)) = flo (D0 A 1) (A 0) k (8 * i + j) by omega] at h ⊢
      exact ih i j hi hj h
    · rw [show min (flo (D0 A 1) (A 0) k (8 * i + j)) (flo (D0 A 1) (A 0) k (8 * i + k) + flo (D0 A 1) (A 0) k (8 * k + j)) = flo (D0 A 1) (A 0) k (8 * i + k) + flo (D0 A 1) (A 0) k (8 * k + j) by omega] at h ⊢
      exact ly_add (by omega) (ih i k hi (by omega) (by omega)) _ j (by omega) (ih k j (by omega) hj (by omega))
/-- within k hops: in the layer k -/
theorem hp_iff {A : Nat → Nat} (c8 : A 0 ≤ 8) {h e k : Nat} (hh : h < A 0) (he : e < A 0) (hk : k < 1000000) : (ly A h k).testBit e = true ↔ hp A (8 * h + e) ≤ k := by
  refine ⟨hp_of c8 hh k e (by omega), fun q => ?_⟩
  have a := flo_ly c8 (A 0) (Nat.le_refl _) h e hh he (by have : hp A (8 * h + e) < 1000000 := by omega
                                                          exact this)
  have b := ly_mono (by omega) a (k - hp A (8 * h + e))
  have e2 : flo (D0 A 1) (A 0) (A 0) (8 * h + e) = hp A (8 * h + e) := rfl
  rw [e2, show hp A (8 * h + e) + (k - hp A (8 * h + e)) = k by omega] at b
  exact b
theorem ly_7 {A : Nat → Nat} {h : Nat} (hh : h < 8) : FR A (al (A 0)) (ly A h 7) = ly A h 7 := by
  have p1 := pc8_two h hh
  rcases cl_or (A := A) (V := al (A 0)) (two_lt hh) (by omega) 7 with e | e
  · exact e
  · have hl := ly_lt (A := A) hh 7
    refine (pc8_inj hl (FR_lt hl) (fun i hi => FR_sub hi) ?_).symm
    have := pc8_le (FR A (al (A 0)) (ly A h 7))
    have e2 : 7 + 1 ≤ pc8 (ly A h 7) := e
    omega
/-- 7 hops at most, or none -/
theorem hp_val {A : Nat → Nat} (hR : BR A) (c8 : A 0 ≤ 8) {h e : Nat} (hh : h < A 0) (he : e < A 0) : hp A (8 * h + e) ≤ 7 ∨ hp A (8 * h + e) = 1000000 := by
  have le : hp A (8 * h + e) ≤ 1000000 := LE_flo (D0_le hR 1) (A 0) _
  by_cases z : hp A (8 * h + e) < 1000000
  · refine Or.inl ?_
    by_cases y : hp A (8 * h + e) ≤ 7
    · exact y
    have a := (hp_iff c8 hh he z).mpr (Nat.le_refl _)
    have s : ly A h (7 + (hp A (8 * h + e) - 7)) = ly A h 7 := cl_same (ly_7 (by omega)) _
    rw [show 7 + (hp A (8 * h + e) - 7) = hp A (8 * h + e) by omega] at s
    rw [s] at a
    exact (hp_iff c8 hh he (by decide)).mp a
  · exact Or.inr (by omega)
