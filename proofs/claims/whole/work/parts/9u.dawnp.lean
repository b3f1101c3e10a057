/-! dawn: the first of the best, pure -/
def setp (p : Nat → Int32) (h : Nat) (v : Int32) : Nat → Int32 := fun j => if j = h then v else p j
def sg (f : Nat → Nat) (nu : (Nat → Nat) → Nat × (Nat → Int32)) (h : Nat) (r : Nat → Nat) : Nat → Nat × (Nat → Int32)
  | 0 => (0, fun _ => -1)
  | g + 1 => if ((f h).testBit g = true ∧ 0 < r g) ∧ (sg f nu h r g).1 < 1 + (nu (dn r g)).1 then (1 + (nu (dn r g)).1, setp (nu (dn r g)).2 h (nI g)) else sg f nu h r g
def sol (f : Nat → Nat) : Nat → Nat → (Nat → Nat) → Nat × (Nat → Int32)
  | 0, _, _ => (0, fun _ => -1)
  | d + 1, h, r => if (sg f (sol f d (h + 1)) h r 8).1 < (sol f d (h + 1) r).1 then sol f d (h + 1) r else sg f (sol f d (h + 1)) h r 8
theorem sg_spec (f : Nat → Nat) (nu : (Nat → Nat) → Nat × (Nat → Int32)) (h : Nat) (r : Nat → Nat) : ∀ i, ((sg f nu h r i).1 = 0 ∧ (sg f nu h r i).2 = (fun _ => -1) ∧ ∀ g, g < i → ¬ ((f h).testBit g = true ∧ 0 < r g)) ∨ ∃ g, g < i ∧ ((f h).testBit g = true ∧ 0 < r g) ∧ (sg f nu h r i).1 = 1 + (nu (dn r g)).1 ∧ (sg f nu h r i).2 = setp (nu (dn r g)).2 h (nI g) ∧ (∀ k, k < i → ((f h).testBit k = true ∧ 0 < r k) → 1 + (nu (dn r k)).1 ≤ (sg f nu h r i).1) ∧ ∀ k, k < g → ((f h).testBit k = true ∧ 0 < r k) → 1 + (nu (dn r k)).1 < (sg f nu h r i).1
  | 0 => Or.inl ⟨rfl, rfl, fun g hg => absurd hg (by omega)⟩
  | i + 1 => by
    have ih := sg_spec f nu h r i
    by_cases z : ((f h).testBit i = true ∧ 0 < r i) ∧ (sg f nu h r i).1 < 1 + (nu (dn r i)).1
    · have e : sg f nu h r (i + 1) = (1 + (nu (dn r i)).1, setp (nu (dn r i)).2 h (nI i)) := if_pos z
      rw [e]
      refine Or.inr ⟨i, by omega, z.1, rfl, rfl, fun k hk fk => ?_, fun k hk fk => ?_⟩
      · dsimp only
        by_cases y : k = i
        · subst y; exact Nat.le_refl _
        · rcases ih with ⟨_, _, q⟩ | ⟨g, _, _, _, _, q, _⟩
          · exact absurd fk (q k (by omega))
          · have := q k (by omega) fk
            omega
      · dsimp only
        rcases ih with ⟨_, _, q⟩ | ⟨g, _, _, _, _, q, _⟩
        · exact absurd fk (q k (by omega))
        · have := q k (by omega) fk
          omega
    · have e : sg f nu h r (i + 1) = sg f nu h r i := if_neg z
      rw [e]
      rcases ih with ⟨q1, q2, q3⟩ | ⟨g, g1, g2, g3, g4, g5, g6⟩
      · refine Or.inl ⟨q1, q2, fun g hg fg => ?_⟩
        by_cases y : g = i
        · subst y
          exact z ⟨fg, by omega⟩
        · exact q3 g (by omega) fg
      · refine Or.inr ⟨g, by omega, g2, g3, g4, fun k hk fk => ?_, g6⟩
        by_cases y : k = i
        · subst y
          exact Nat.not_lt.mp (fun w => z ⟨fk, w⟩)
        · exact g5 k (by omega) fk
theorem sol_low (f : Nat → Nat) : ∀ d h r j, j < h → (sol f d h r).2 j = -1
  | 0, _, _, _, _ => rfl
  | d + 1, h, r, j, hj => by
    show (if (sg f (sol f d (h + 1)) h r 8).1 < (sol f d (h + 1) r).1 then sol f d (h + 1) r else sg f (sol f d (h + 1)) h r 8).2 j = -1
    split
    · exact sol_low f d (h + 1) r j (by omega)
    · rcases sg_spec f (sol f d (h + 1)) h r 8 with ⟨_, q, _⟩ | ⟨g, _, _, _, q, _⟩
      · rw [q]
      · rw [q]
        show (if j = h then nI g else _) = _
        rw [if_neg (by omega)]
        exact sol_low f d (h + 1) (dn r g) j (by omega)
theorem sol_zero (f : Nat → Nat) : ∀ d h r, (sol f d h r).1 = 0 → (sol f d h r).2 = fun _ => -1
  | 0, _, _, _ => rfl
  | d + 1, h, r, z => by
    change (if (sg f (sol f d (h + 1)) h r 8).1 < (sol f d (h + 1) r).1 then sol f d (h + 1) r else sg f (sol f d (h + 1)) h r 8).1 = 0 at z
    show (if (sg f (sol f d (h + 1)) h r 8).1 < (sol f d (h + 1) r).1 then sol f d (h + 1) r else sg f (sol f d (h + 1)) h r 8).2 = _
    by_cases y : (sg f (sol f d (h + 1)) h r 8).1 < (sol f d (h + 1) r).1
    · rw [if_pos y] at z
      omega
    · rw [if_neg y] at z ⊢
      rcases sg_spec f (sol f d (h + 1)) h r 8 with ⟨_, q, _⟩ | ⟨g, _, _, q, _⟩
      · exact q
      · omega
theorem sol_pick (f : Nat → Nat) (d h : Nat) (r : Nat → Nat) : (∃ g, g < 8 ∧ ((f h).testBit g = true ∧ 0 < r g) ∧ 1 + (sol f d (h + 1) (dn r g)).1 = (sol f (d + 1) h r).1 ∧ (∀ k, k < g → ((f h).testBit k = true ∧ 0 < r k) → 1 + (sol f d (h + 1) (dn r k)).1 ≠ (sol f (d + 1) h r).1) ∧ (sol f (d + 1) h r).2 = setp (sol f d (h + 1) (dn r g)).2 h (nI g)) ∨ ((∀ g, g < 8 → ((f h).testBit g = true ∧ 0 < r g) → 1 + (sol f d (h + 1) (dn r g)).1 ≠ (sol f (d + 1) h r).1) ∧ (sol f (d + 1) h r).1 = (sol f d (h + 1) r).1 ∧ (sol f (d + 1) h r).2 = (sol f d (h + 1) r).2) := by
  have e : sol f (d + 1) h r = if (sg f (sol f d (h + 1)) h r 8).1 < (sol f d (h + 1) r).1 then sol f d (h + 1) r else sg f (sol f d (h + 1)) h r 8 := rfl
  rw [e]
  have sp := sg_spec f (sol f d (h + 1)) h r 8
  by_cases y : (sg f (sol f d (h + 1)) h r 8).1 < (sol f d (h + 1) r).1
  · rw [if_pos y]
    refine Or.inr ⟨fun g hg fg => ?_, rfl, rfl⟩
    rcases sp with ⟨_, _, q⟩ | ⟨_, _, _, _, _, q, _⟩
    · exact absurd fg (q g hg)
    · have := q g hg fg
      omega
  · rw [if_neg y]
    rcases sp with ⟨q1, q2, q3⟩ | ⟨g, g1, g2, g3, g4, g5, g6⟩
    · refine Or.inr ⟨fun g hg fg => absurd fg (q3 g hg), by omega, ?_⟩
      rw [q2, sol_zero f d (h + 1) r (by omega)]
    · refine Or.inl ⟨g, g1, g2, g3.symm, fun k hk fk => ?_, g4⟩
      have := g6 k hk fk
      omega
/-- the takers from h on -/
def Oh (O h : Nat) : Nat := mk 8 fun i => O.testBit i && decide (h ≤ i)
theorem Oh_lt (O h : Nat) : Oh O h < 256 := mk8 _ (by decide)
theorem Oh_bit {O h i : Nat} (hi : i < 8) : (Oh O h).testBit i = (O.testBit i && decide (h ≤ i)) := by
  unfold Oh
  rw [mk_bit, decide_eq_true hi, Bool.true_and]
theorem Oh_1 {O h : Nat} (hh : h < 8) (q : O.testBit h = true) : Oh O h = Oh O (h + 1) ||| 2 ^ h := by
  refine bit_eq (Oh_lt _ _) (or_lt8 (Oh_lt _ _) (two_lt hh)) fun i hi => ?_
  rw [Nat.testBit_or, Oh_bit hi, Oh_bit hi, Nat.testBit_two_pow]
  by_cases z : h = i
  · subst z
    rw [q, decide_eq_true (Nat.le_refl _), decide_eq_true rfl, Bool.or_true, Bool.and_true]
  · rw [decide_eq_false z, Bool.or_false]
    congr 1
    by_cases y : h ≤ i
    · rw [decide_eq_true y, decide_eq_true (by omega)]
    · rw [decide_eq_false y, decide_eq_false (by omega)]
theorem Oh_0 {O h : Nat} (q : O.testBit h = false) : Oh O h = Oh O (h + 1) := by
  refine bit_eq (Oh_lt _ _) (Oh_lt _ _) fun i hi => ?_
  rw [Oh_bit hi, Oh_bit hi]
  by_cases z : h = i
  · subst z
    rw [q, Bool.false_and, Bool.false_and]
  · congr 1
    by_cases y : h ≤ i
    · rw [decide_eq_true y, decide_eq_true (by omega)]
    · rw [decide_eq_false y, decide_eq_false (by omega)]
theorem Oh_8 (O : Nat) : Oh O 8 = 0 := by
  refine bit_eq (Oh_lt _ _) (by decide) fun i hi => ?_
  rw [Oh_bit hi, decide_eq_false (by omega), Bool.and_false, Nat.zero_testBit]
theorem Oh_all {O : Nat} (hO : O < 256) : Oh O 0 = O := by
  refine bit_eq (Oh_lt _ _) hO fun i hi => ?_
  rw [Oh_bit hi, decide_eq_true (Nat.zero_le _), Bool.and_true]
theorem nu_D {f : Nat → Nat} {O : Nat} (hf : ∀ h, h < 8 → O.testBit h = false → f h = 0) : ∀ d h, h + d = 8 → ∀ r e, isD f r (Oh O h) e → ((sol f d h r).1 : Int) + e = pc8 (Oh O h)
  | 0, h, hd, r, e, hD => by
    have : h = 8 := by omega
    subst this
    rw [Oh_8] at hD ⊢
    have a := isD_0 hD
    have b := isD_le (by decide) hD
    rw [pc8_0] at b ⊢
    show (0 : Int) + e = _
    omega
  | d + 1, h, hd, r, e, hD => by
    have ih := nu_D hf d (h + 1) (by omega)
    have es : sol f (d + 1) h r = if (sg f (sol f d (h + 1)) h r 8).1 < (sol f d (h + 1) r).1 then sol f d (h + 1) r else sg f (sol f d (h + 1)) h r 8 := rfl
    have sp := sg_spec f (sol f d (h + 1)) h r 8
    have el := isD_le (Oh_lt O h) hD
    obtain ⟨c, hc⟩ := isD_ex f r (Oh O (h + 1))
    have i0 := ih r c hc
    cases q : O.testBit h with
    | true =>
      have eo := Oh_1 (by omega : h < 8) q
      have nb : (Oh O (h + 1)).testBit h = false := by rw [Oh_bit (by omega), decide_eq_false (by omega), Bool.and_false]
      have pa := pc8_add (by omega : h < 8) (Oh_lt O (h + 1)) nb
      rw [← eo] at pa
      rw [eo] at hD
      obtain ⟨k1, k2, k3⟩ := hall (by omega) (Oh_lt O (h + 1)) nb hc hD
      have up1 : ((sg f (sol f d (h + 1)) h r 8).1 : Int) + e ≤ pc8 (Oh O h) := by
        rcases sp with ⟨q1, _, _⟩ | ⟨g, g1, g2, g3, _⟩
        · omega
        · obtain ⟨b, hb⟩ := isD_ex f (dn r g) (Oh O (h + 1))
          have := ih _ _ hb
          have := k2 g b g1 g2.1 g2.2 hb
          omega
      have lo : e = c + 1 ∨ (pc8 (Oh O h) : Int) ≤ (sg f (sol f d (h + 1)) h r 8).1 + e := by
        rcases k3 with k3 | ⟨g, g1, g2, g3, g4⟩
        · exact Or.inl k3
        · right
          have i1 := ih _ _ g4
          rcases sp with ⟨_, _, q3⟩ | ⟨_, _, _, _, _, q5, _⟩
          · exact absurd ⟨g2, g3⟩ (q3 g g1)
          · have := q5 g g1 ⟨g2, g3⟩
            omega
      rw [es]
      split <;> omega
    | false =>
      have eo := Oh_0 q
      have fz := hf h (by omega) q
      rw [eo] at hD ⊢
      have := isD_uni hD hc
      rw [es]
      rcases sp with ⟨q1, _, _⟩ | ⟨g, g1, g2, g3, _⟩
      · split <;> omega
      · rw [fz, Nat.zero_testBit] at g2
        exact absurd g2.1 (by decide)
