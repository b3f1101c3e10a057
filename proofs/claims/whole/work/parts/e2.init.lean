/-! the two new objects stand in the relation -/
def σX0 : Sg := (fun a => if a = 1 ∨ a = 21 then (fun j => if j = 5 then -1 else 0) else if a = 2 ∨ a = 22 ∨ a = 41 then (fun j => if j = 7 then 163 else 0) else fun _ => 0, fun _ _ => 0, fun _ _ => none)
def A0f : Nat → Nat := fun j => if j = 8 then 163 else 0
def T0f : TD := (0, fun _ => 0, fun _ _ => none, fun _ => 0, fun _ _ => 0, fun _ _ _ => 0)
theorem A0_z {j : Nat} (h : j ≠ 8) : A0f j = 0 := if_neg h
theorem sX_z {a j : Nat} (h1 : ¬ (a = 1 ∨ a = 21)) (h2 : ¬ (a = 2 ∨ a = 22 ∨ a = 41)) : σX0.1 a j = nI 0 := by
  show (if a = 1 ∨ a = 21 then _ else _ : Nat → Int32) j = _
  rw [if_neg h1, if_neg h2]
  rfl
theorem sX_w {a j : Nat} (h : a = 1 ∨ a = 21) (hj : j ≠ 5) : σX0.1 a j = nI 0 := by
  show (if a = 1 ∨ a = 21 then _ else _ : Nat → Int32) j = _
  rw [if_pos h]
  exact if_neg hj
theorem sX_w5 {a : Nat} (h : a = 1 ∨ a = 21) : σX0.1 a 5 = -1 := by
  show (if a = 1 ∨ a = 21 then _ else _ : Nat → Int32) 5 = _
  rw [if_pos h]
  rfl
theorem sX_t {a j : Nat} (h : a = 2 ∨ a = 22 ∨ a = 41) (hj : j ≠ 7) : σX0.1 a j = nI 0 := by
  show (if a = 1 ∨ a = 21 then _ else _ : Nat → Int32) j = _
  rw [if_neg (by omega), if_pos h]
  exact if_neg hj
theorem sX_t7 {a : Nat} (h : a = 2 ∨ a = 22 ∨ a = 41) : σX0.1 a 7 = nI 163 := by
  show (if a = 1 ∨ a = 21 then _ else _ : Nat → Int32) 7 = _
  rw [if_neg (by omega), if_pos h]
  rfl
theorem sM_1 (j : Nat) : sM9.1 1 j = if j = 2 then -1 else nI (A0f j) := by
  show (wC sM1 1 0 2 0 1986).1 1 j = _
  rw [wC_off (by decide)]
  show (if (1 : Nat) = 1 ∧ j = 2 then (-1 : Int32) else (if (1 : Nat) = 1 ∧ j = 8 then 163 else (0 : Int32))) = _
  by_cases h2 : j = 2
  · rw [if_pos ⟨rfl, h2⟩, if_pos h2]
  · rw [if_neg (fun q => h2 q.2), if_neg h2]
    unfold A0f
    by_cases h8 : j = 8
    · rw [if_pos ⟨rfl, h8⟩, if_pos h8]
      rfl
    · rw [if_neg (fun q => h8 q.2), if_neg h8]
      rfl
theorem sM_2 {j : Nat} (hj : j < 1986) : sM9.1 2 j = sM9.1 1 j := by
  have e : sM9.1 1 j = sM1.1 1 j := by
    show (wC sM1 1 0 2 0 1986).1 1 j = _
    rw [wC_off (by decide)]
  rw [e]
  show (if (2 : Nat) = 2 ∧ 0 ≤ j ∧ j < 0 + 1986 then sM1.1 1 (0 + (j - 0)) else sM1.1 2 j) = _
  rw [if_pos ⟨rfl, Nat.zero_le _, by omega⟩, Nat.sub_zero, Nat.zero_add]
theorem bes0 : ∀ h, h < 8 → bes A0f h = 0 := by decide +kernel
theorem WF0 : WF A0f := by
  have z : ∀ j, j ≠ 8 → A0f j = 0 := fun j h => A0_z h
  refine ⟨⟨by decide, by decide, by decide, by decide, fun h hh => ?_⟩, ⟨by decide, fun i hi => by rw [z _ (by omega)]; decide⟩, fun h e hh he => ?_, ⟨by decide, fun i hi => absurd hi (by rw [z 3 (by decide)]; exact Nat.not_lt_zero _)⟩, by decide, by decide, by decide, by decide, fun i hi => absurd hi (by rw [z 4 (by decide)]; exact Nat.not_lt_zero _), fun i hi => by rw [z _ (by omega)]; decide, fun h hh => by rw [z _ (by omega)]; decide, fun i hi => absurd hi (by rw [z 5 (by decide)]; exact Nat.not_lt_zero _)⟩
  · rw [z (10 + 5 * h) (by omega), z (10 + 5 * h + 1) (by omega), z (10 + 5 * h + 2) (by omega), z (10 + 5 * h + 3) (by omega), z (10 + 5 * h + 4) (by omega)]
    decide
  · rw [z (50 + 8 * h + e) (by omega), z (50 + 8 * e + h) (by omega), z (50 + 8 * h + h) (by omega)]
    exact ⟨by decide, rfl, fun _ => rfl, rfl⟩
theorem XW0 {w : Nat} (hw : w = 1 ∨ w = 21) : XW σX0 w A0f := by
  have z : ∀ j, j ≠ 8 → A0f j = 0 := fun j h => A0_z h
  have t : w + 1 = 2 ∨ w + 1 = 22 ∨ w + 1 = 41 := by omega
  refine ⟨⟨?_, ?_, ?_, ?_, fun h hh => ?_, fun h hh => ?_, fun h hh => ?_, fun h hh => ?_⟩, ⟨?_, fun i hi => ?_⟩, ⟨fun i hi => ?_, fun h hh => ?_⟩, ⟨0, by decide, ?_, ?_, fun i hi => absurd hi (by rw [z 3 (by decide)]; exact Nat.not_lt_zero _)⟩, ?_, ?_, ?_, ?_, fun h hh => ?_, fun i hi => ⟨?_, ?_, ?_⟩, fun i hi => ⟨?_, ?_⟩⟩
  · rw [sX_t t (by decide), z _ (by decide)]
  · rw [sX_t t (by decide), z _ (by decide)]
  · rw [sX_t t (by decide), z _ (by decide)]
  · rw [sX_t7 t]
    rfl
  · rw [sX_z (by omega) (by omega), z _ (by omega)]
  · rw [sX_z (by omega) (by omega), z _ (by omega)]
  · rw [sX_z (by omega) (by omega), z _ (by omega)]
  · rw [sX_z (by omega) (by omega), z _ (by omega)]
  · rw [sX_t t (by decide), z _ (by decide)]
  · rw [sX_z (by omega) (by omega), z _ (by omega)]
  · rw [sX_z (by omega) (by omega), z _ (by omega)]
  · rw [sX_z (by omega) (by omega), bes0 h hh]
  · rw [sX_z (by omega) (by omega)]
  · rw [sX_z (by omega) (by omega), z _ (by decide)]
  · rw [sX_w hw (by decide), z _ (by decide)]
  · rw [sX_w5 hw, z _ (by decide)]
    decide
  · rw [sX_w hw (by decide), z _ (by decide)]
  · rw [sX_w hw (by decide), z _ (by decide)]
  · rw [sX_z (by omega) (by omega), z _ (by omega)]
  · rw [sX_z (by omega) (by omega), z _ (by omega)]
  · rw [sX_z (by omega) (by omega), z _ (by omega)]
  · rw [sX_z (by omega) (by omega), z _ (by omega)]
  · rw [sX_z (by omega) (by omega), z _ (by omega)]
  · rw [sX_z (by omega) (by omega), z _ (by omega)]
theorem Inv0 : Inv κX0 T0f σX0 sM9 := by
  have m0 : ∀ j, sM9.1 0 j = sM0.1 0 j := fun j => by
    show (wC sM1 1 0 2 0 1986).1 0 j = _
    rw [wC_off (by decide)]
    rfl
  refine ⟨A0f, A0f, WF0, ⟨fun j a b _ => by rw [sM_1, if_neg b], by rw [sM_1, if_pos rfl, A0_z (by decide)]; decide⟩, XW0 (Or.inl rfl), WF0, ⟨fun j a b _ => by rw [sM_2 a, sM_1, if_neg b], by rw [sM_2 (by decide), sM_1, if_pos rfl, A0_z (by decide)]; decide⟩, XW0 (Or.inr rfl), ⟨fun h hh => ?_, ⟨0, by decide, sX_z (by decide) (by decide), by rw [m0]; rfl, fun i hi => absurd hi (Nat.not_lt_zero _)⟩, Or.inl ⟨sX_z (by decide) (by decide), by rw [m0]; rfl, by rw [m0]; rfl⟩, by rw [m0]; rfl⟩, A0_z (by decide), Nat.le_refl _, fun t ht => absurd ht (by rw [A0_z (by decide)]; exact Nat.not_lt_zero _)⟩
  rw [sX_z (by omega) (by omega), sX_z (by omega) (by omega), sM_2 (by omega), sM_1, if_neg (by omega), A0_z (by omega)]
  refine ⟨rfl, rfl, ?_, ?_⟩
  · exact ⟨by decide, by decide⟩
  · exact ⟨by decide, by decide⟩
theorem KOK0 : KOK κX0 := by
  intro k q h
  have hl : k < 72 := (List.getElem?_eq_some_iff.mp h).1
  have g : ∀ k, k < 72 → ∀ q, κX0[k]? = some q → q.1 < 17 := by decide +kernel
  exact g k hl q h
