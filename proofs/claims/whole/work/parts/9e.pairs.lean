/-! round, again: the pairs -/
def low (v : Nat) : Nat := ((List.range 8).find? (fun i => v.testBit i)).getD 8
theorem lw8_t : ∀ v, v < 256 → v ≠ 0 → low v < 8 ∧ v.testBit (low v) = true ∧ ∀ i, i < low v → v.testBit i = false := by decide +kernel
/-- v without two houses -/
def rst2 (v a b : Nat) : Nat := mi v (2 ^ a ||| 2 ^ b)
theorem rst2_lt {v : Nat} (h : v < 256) (a b : Nat) : rst2 v a b < 256 := mi_lt h
theorem two_bit {a i : Nat} : (2 ^ a).testBit i = decide (a = i) := Nat.testBit_two_pow
theorem rst2_bit {v a b i : Nat} (hi : i < 8) : (rst2 v a b).testBit i = (v.testBit i && !(decide (a = i) || decide (b = i))) := by
  unfold rst2
  rw [mi_bit hi, Nat.testBit_or, two_bit, two_bit]
theorem rst2_m {v a b : Nat} (h : v < 256) : mi (mi v (2 ^ a)) (2 ^ b) = rst2 v a b := by
  refine bit_eq (mi_lt (mi_lt h)) (rst2_lt h a b) fun i hi => ?_
  rw [mi_bit hi, mi_bit hi, rst2_bit hi, two_bit, two_bit, Bool.not_or, Bool.and_assoc]
theorem rst2_t : ∀ v, v < 256 → ∀ a, a < 8 → ∀ b, b < 8 → (v.testBit a && v.testBit b && !decide (a = b)) = true → (decide (pc8 (v &&& ((2 ^ a ||| 2 ^ b) ^^^ 255)) + 2 = pc8 v) && decide (v &&& ((2 ^ a ||| 2 ^ b) ^^^ 255) < v)) = true := by decide +kernel
theorem rst2_255 {v a b : Nat} (h : v < 256) : rst2 v a b = v &&& ((2 ^ a ||| 2 ^ b) ^^^ 255) := by
  refine bit_eq (rst2_lt h a b) (and_lt8 h) fun i hi => ?_
  have o : ∀ i, i < 8 → (255 : Nat).testBit i = true := by decide
  rw [rst2_bit hi, Nat.testBit_and, Nat.testBit_xor, o i hi, Nat.testBit_or, two_bit, two_bit, Bool.xor_true]
theorem rst2_pc {v a b : Nat} (h : v < 256) (ha : a < 8) (hb : b < 8) (q1 : v.testBit a = true) (q2 : v.testBit b = true) (n : a ≠ b) : pc8 (rst2 v a b) + 2 = pc8 v ∧ rst2 v a b < v := by
  rw [rst2_255 h]
  have := rst2_t v h a ha b hb (by rw [q1, q2, decide_eq_false n]; rfl)
  rw [Bool.and_eq_true, decide_eq_true_eq, decide_eq_true_eq] at this
  exact this
/-- the way to b and what is left -/
def wv (A : Nat → Nat) (P : Nat → Nat) (v e : Nat) : Nat := wy A (8 * low v + e) + P (rst2 v (low v) e)
def vl (A : Nat → Nat) (P : Nat → Nat) (v : Nat) : Nat → Nat
  | 0 => 1000000
  | e + 1 => if low v < e ∧ v.testBit e = true then min (vl A P v e) (wv A P v e) else vl A P v e
def PT (A : Nat → Nat) : Nat → Nat → Nat
  | 0 => fun _ => 0
  | i + 1 => up (PT A i) (i + 1) (vl A (PT A i) (i + 1) 8)
def PP (A : Nat → Nat) (v : Nat) : Nat := PT A v v
theorem PT_st (A : Nat → Nat) (v : Nat) : ∀ d, PT A (v + d) v = PP A v
  | 0 => rfl
  | d + 1 => by
    show up (PT A (v + d)) (v + d + 1) _ v = _
    rw [up_ne (by omega)]
    exact PT_st A v d
theorem PT_le {A : Nat → Nat} {v i : Nat} (h : v ≤ i) : PT A i v = PP A v := by
  have := PT_st A v (i - v)
  rw [show v + (i - v) = i by omega] at this
  exact this
theorem vl_congr {A P Q : Nat → Nat} {v : Nat} (hv : v < 256) (hn : v ≠ 0) (h : ∀ r, r < v → P r = Q r) : ∀ c, c ≤ 8 → vl A P v c = vl A Q v c
  | 0, _ => rfl
  | e + 1, hc => by
    show (if low v < e ∧ v.testBit e = true then min (vl A P v e) (wv A P v e) else vl A P v e) = (if low v < e ∧ v.testBit e = true then min (vl A Q v e) (wv A Q v e) else vl A Q v e)
    rw [vl_congr hv hn h e (by omega)]
    by_cases z : low v < e ∧ v.testBit e = true
    · obtain ⟨l1, l2, l3⟩ := lw8_t v hv hn
      have r := (rst2_pc hv l1 (by omega : e < 8) l2 z.2 (by omega)).2
      rw [if_pos z, if_pos z]
      unfold wv
      rw [h _ r]
    · rw [if_neg z, if_neg z]
theorem PP_0 (A : Nat → Nat) : PP A 0 = 0 := rfl
theorem PP_s {A : Nat → Nat} {v : Nat} (hv : v < 256) (hn : v ≠ 0) : PP A v = vl A (PP A) v 8 := by
  obtain ⟨i, rfl⟩ : ∃ i, v = i + 1 := ⟨v - 1, by omega⟩
  show up (PT A i) (i + 1) _ (i + 1) = _
  rw [up_hit]
  exact vl_congr hv hn (fun r hr => PT_le (by omega)) 8 (by omega)
theorem vl_le {A P : Nat → Nat} {v : Nat} : ∀ c, vl A P v c ≤ 1000000
  | 0 => Nat.le_refl _
  | e + 1 => by
    show (if low v < e ∧ v.testBit e = true then min (vl A P v e) (wv A P v e) else vl A P v e) ≤ _
    have := vl_le (A := A) (P := P) (v := v) e
    split <;> omega
theorem PP_le {A : Nat → Nat} {v : Nat} (hv : v < 256) : PP A v ≤ 1000000 := by
  by_cases z : v = 0
  · rw [z, PP_0]; omega
  · rw [PP_s hv z]; exact vl_le 8
/-- the first of those with whom it is least -/
def bp (A : Nat → Nat) (P : Nat → Nat) (v : Nat) : Nat → Option Nat
  | 0 => none
  | e + 1 => if low v < e ∧ v.testBit e = true then (match bp A P v e with
    | none => some e
    | some p => if wv A P v p ≤ wv A P v e then some p else some e) else bp A P v e
def bpI (A : Nat → Nat) (P : Nat → Nat) (v c : Nat) : Prop := (bp A P v c = none ∧ vl A P v c = 1000000 ∧ ∀ e, e < c → ¬ (low v < e ∧ v.testBit e = true)) ∨ ∃ p, bp A P v c = some p ∧ p < c ∧ low v < p ∧ v.testBit p = true ∧ vl A P v c = min 1000000 (wv A P v p) ∧ (∀ e, e < c → low v < e → v.testBit e = true → wv A P v p ≤ wv A P v e) ∧ ∀ e, e < p → low v < e → v.testBit e = true → wv A P v p < wv A P v e
theorem bp_ok {A P : Nat → Nat} {v : Nat} : ∀ c, bpI A P v c
  | 0 => Or.inl ⟨rfl, rfl, fun _ h => absurd h (by omega)⟩
  | c + 1 => by
    have e1 : bp A P v (c + 1) = if low v < c ∧ v.testBit c = true then (match bp A P v c with
      | none => some c
      | some p => if wv A P v p ≤ wv A P v c then some p else some c) else bp A P v c := rfl
    have e2 : vl A P v (c + 1) = if low v < c ∧ v.testBit c = true then min (vl A P v c) (wv A P v c) else vl A P v c := rfl
    unfold bpI
    rw [e1, e2]
    by_cases z : low v < c ∧ v.testBit c = true
    · rw [if_pos z, if_pos z]
      rcases bp_ok (A := A) (P := P) (v := v) c with ⟨b1, b2, b3⟩ | ⟨p, b1, b2, b3, b4, b5, b6, b7⟩
      · rw [b1, b2]
        refine Or.inr ⟨c, rfl, by omega, z.1, z.2, rfl, fun e h1 h2 h3 => ?_, fun e h1 h2 h3 => absurd ⟨h2, h3⟩ (b3 e h1)⟩
        by_cases y : e = c
        · subst y; exact Nat.le_refl _
        · exact absurd ⟨h2, h3⟩ (b3 e (by omega))
      · rw [b1, b5]
        dsimp only
        by_cases y : wv A P v p ≤ wv A P v c
        · rw [if_pos y]
          refine Or.inr ⟨p, rfl, by omega, b3, b4, by omega, fun e h1 h2 h3 => ?_, b7⟩
          by_cases x : e = c
          · subst x; exact y
          · exact b6 e (by omega) h2 h3
        · rw [if_neg y]
          refine Or.inr ⟨c, rfl, by omega, z.1, z.2, by omega, fun e h1 h2 h3 => ?_, fun e h1 h2 h3 => ?_⟩
          · by_cases x : e = c
            · subst x; exact Nat.le_refl _
            · have := b6 e (by omega) h2 h3
              omega
          · have := b6 e (by omega) h2 h3
            omega
    · rw [if_neg z, if_neg z]
      rcases bp_ok (A := A) (P := P) (v := v) c with ⟨b1, b2, b3⟩ | ⟨p, b1, b2, b3, b4, b5, b6, b7⟩
      · refine Or.inl ⟨b1, b2, fun e h1 h2 => ?_⟩
        by_cases x : e = c
        · subst x; exact z h2
        · exact b3 e (by omega) h2
      · refine Or.inr ⟨p, b1, by omega, b3, b4, b5, fun e h1 h2 h3 => ?_, b7⟩
        by_cases x : e = c
        · subst x; exact absurd ⟨h2, h3⟩ z
        · exact b6 e (by omega) h2 h3
/-- even sets of odd houses -/
def ev (A : Nat → Nat) (v : Nat) : Prop := (∀ i, i < 8 → v.testBit i = true → (od A).testBit i = true) ∧ pc8 v % 2 = 0
theorem ev_two : ∀ v, v < 256 → v ≠ 0 → pc8 v % 2 = 0 → ∃ e, e < 8 ∧ low v < e ∧ v.testBit e = true := by decide +kernel
theorem ev_rst {A : Nat → Nat} {v a b : Nat} (hv : v < 256) (ha : a < 8) (hb : b < 8) (q1 : v.testBit a = true) (q2 : v.testBit b = true) (n : a ≠ b) (h : ev A v) : ev A (rst2 v a b) := by
  refine ⟨fun i hi z => ?_, ?_⟩
  · rw [rst2_bit hi, Bool.and_eq_true] at z
    exact h.1 i hi z.1
  · have := (rst2_pc hv ha hb q1 q2 n).1
    have := h.2
    omega
theorem PP_fin {A : Nat → Nat} (hR : BR A) (c8 : A 0 ≤ 8) (hj : jo A = 1) : ∀ n v, v < n → v < 256 → ev A v → PP A v ≤ 25344 * pc8 v
  | 0, _, h, _, _ => absurd h (by omega)
  | n + 1, v, hvn, hv, he => by
    by_cases z : v = 0
    · rw [z, PP_0]; omega
    · obtain ⟨l1, l2, l3⟩ := lw8_t v hv z
      obtain ⟨e, e1, e2, e3⟩ := ev_two v hv z he.2
      obtain ⟨r1, r2⟩ := rst2_pc hv l1 e1 l2 e3 (by omega)
      have ih := PP_fin hR c8 hj n _ (by omega) (rst2_lt hv (low v) e) (ev_rst hv l1 e1 l2 e3 (by omega) he)
      have w := wy_jo hR c8 hj l1 e1 (od_jv l1 (he.1 _ l1 l2)) (od_jv e1 (he.1 _ e1 e3))
      have wve : wv A (PP A) v e = wy A (8 * low v + e) + PP A (rst2 v (low v) e) := rfl
      rw [PP_s hv z]
      rcases bp_ok (A := A) (P := PP A) (v := v) 8 with ⟨b1, b2, b3⟩ | ⟨p, b1, b2, b3, b4, b5, b6, b7⟩
      · exact absurd ⟨e2, e3⟩ (b3 e e1)
      · have := b6 e e1 e2 e3
        omega
/-- the class's partner is the reference's, and its sum the entry -/
theorem bp_PP {A : Nat → Nat} (hR : BR A) (c8 : A 0 ≤ 8) (hj : jo A = 1) {v : Nat} (hv : v < 256) (hn : v ≠ 0) (he : ev A v) : ∃ p, bp A (PP A) v 8 = some p ∧ p < 8 ∧ low v < p ∧ v.testBit p = true ∧ PP A v = wv A (PP A) v p ∧ PP A v ≤ 202752 ∧ ∀ e, e < p → low v < e → v.testBit e = true → wv A (PP A) v e ≠ PP A v := by
  have f := PP_fin hR c8 hj 256 v hv hv he
  have p8 := pc8_le v
  obtain ⟨e, e1, e2, e3⟩ := ev_two v hv hn he.2
  have s := PP_s (A := A) hv hn
  rcases bp_ok (A := A) (P := PP A) (v := v) 8 with ⟨b1, b2, b3⟩ | ⟨p, b1, b2, b3, b4, b5, b6, b7⟩
  · exact absurd ⟨e2, e3⟩ (b3 e e1)
  · refine ⟨p, b1, b2, b3, b4, by omega, by omega, fun e h1 h2 h3 q => ?_⟩
    have := b7 e h1 h2 h3
    omega
