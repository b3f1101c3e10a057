/-! the world behind the reading -/
def ad6 (ad : Nat → Nat) (R r q1 q2 q3 q4 q5 : Nat) : Nat → Nat := fun k => if k = R then r else if k = R + 1 then q1 else if k = R + 2 then q2 else if k = R + 3 then q3 else if k = R + 4 then q4 else if k = R + 5 then q5 else ad k
/-- contents with the new cells' rows -/
def eSg (R : Nat) (σ : Sg) : Sg := (fun a j => if a < R then σ.1 a j else if a = R + 1 then σ.1 54 j else if a = R + 2 then σ.1 55 j else if a = R + 3 then σ.1 56 j else if a = R + 4 then σ.1 57 j else if a = R + 5 then σ.1 58 j else 0, σ.2)
theorem ad6_lt {ad : Nat → Nat} {R r q1 q2 q3 q4 q5 k : Nat} (h : k < R ∨ R + 6 ≤ k) : ad6 ad R r q1 q2 q3 q4 q5 k = ad k := by
  unfold ad6
  rw [if_neg (by omega), if_neg (by omega), if_neg (by omega), if_neg (by omega), if_neg (by omega), if_neg (by omega)]
theorem eSg_lt {R : Nat} {σ : Sg} {a : Nat} (h : a < R) : (eSg R σ).1 a = σ.1 a := by
  funext j
  exact if_pos h
theorem nK_Reg {κ : Kd} {n s : Nat} (h : Reg κ) : Reg (κ ++ nK n s) := by
  intro k c m hk hc j off code len hf
  by_cases hl : k < κ.length
  · rw [nK_old hl] at hk
    obtain ⟨n', h1, h2, h3⟩ := h k c m hk hc j off code len hf
    have hl2 : k + off < κ.length := (List.getElem?_eq_some_iff.mp h1).1
    exact ⟨n', by rw [nK_old hl2]; exact h1, h2, h3⟩
  · have hl3 : k < (κ ++ nK n s).length := (List.getElem?_eq_some_iff.mp hk).1
    rw [nK_len] at hl3
    obtain ⟨i, rfl⟩ : ∃ i, k = κ.length + i := ⟨k - κ.length, by omega⟩
    rw [nK_new] at hk
    have i6 : i < 6 := by omega
    have cs : i = 0 ∨ i = 1 ∨ i = 2 ∨ i = 3 ∨ i = 4 ∨ i = 5 := by omega
    rcases cs with rfl | rfl | rfl | rfl | rfl | rfl
    · cases hk
      have j5 : j < 5 := (List.getElem?_eq_some_iff.mp hf).1
      have cj : j = 0 ∨ j = 1 ∨ j = 2 ∨ j = 3 ∨ j = 4 := by omega
      rcases cj with rfl | rfl | rfl | rfl | rfl
      · cases hf
        exact ⟨4 * n, nK_new 1, by decide, fun m hm => by cases hm⟩
      · cases hf
        exact ⟨s, nK_new 2, by decide, fun m hm => by cases hm⟩
      · cases hf
        exact ⟨s, nK_new 3, by decide, fun m hm => by cases hm⟩
      · cases hf
        exact ⟨3, nK_new 4, by decide, fun m hm => by cases hm⟩
      · cases hf
        exact ⟨3, nK_new 5, by decide, fun m hm => by cases hm⟩
    all_goals
      cases hk
      exact absurd hc (by decide)
theorem nK_ok {κ : Kd} {n s : Nat} {σ σ' : Sg} (h : okσ κ σ) (e : ∀ a, a < κ.length → ∀ j t, σ'.2.2 a j = some t → σ.2.2 a j = some t ∨ t = κ.length) : okσ (κ ++ nK n s) σ' := by
  intro k m j t hk hj
  by_cases hl : k < κ.length
  · rw [nK_old hl] at hk
    rcases e k hl j t hj with h1 | h1
    · have h2 := h k m j t hk h1
      have hl2 : t < κ.length := (List.getElem?_eq_some_iff.mp h2).1
      rw [nK_old hl2]
      exact h2
    · rw [h1]
      exact nK_new 0
  · have hl3 : k < (κ ++ nK n s).length := (List.getElem?_eq_some_iff.mp hk).1
    rw [nK_len] at hl3
    obtain ⟨i, rfl⟩ : ∃ i, k = κ.length + i := ⟨k - κ.length, by omega⟩
    rw [nK_new] at hk
    have cs : i = 0 ∨ i = 1 ∨ i = 2 ∨ i = 3 ∨ i = 4 ∨ i = 5 := by omega
    rcases cs with rfl | rfl | rfl | rfl | rfl | rfl
    all_goals cases hk
theorem ce_old {ids : Ids} {ad ad' : Nat → Nat} {κ : Kd} {σ σ' : Sg} {k : Nat} {q : Nat × Nat} (hR : Reg κ) (hok : okσ κ σ) (hk : κ[k]? = some q) (h17 : q.1 < 17) (ha : ∀ j, j < κ.length → ad' j = ad j) (h1 : σ'.1 k = σ.1 k) (h2 : σ'.2 = σ.2) : ce ids ad' σ' k q = ce ids ad σ k q := by
  unfold ce
  rw [h1, h2]
  by_cases a13 : q.1 = 13
  · rw [if_pos a13, if_pos a13]
  rw [if_neg a13, if_neg a13]
  by_cases a14 : q.1 = 14
  · rw [if_pos a14, if_pos a14]
  rw [if_neg a14, if_neg a14]
  by_cases a15 : q.1 = 15
  · rw [if_pos a15, if_pos a15]
  rw [if_neg a15, if_neg a15]
  by_cases a16 : q.1 = 16
  · rw [if_pos a16, if_pos a16]
    have e : (fun j => (σ.2.2 k j).map ad') = (fun j => (σ.2.2 k j).map ad) := by
      funext j
      cases hj : σ.2.2 k j with
      | none => rfl
      | some t =>
        have h3 := hok k q.2 j t (by rw [hk, ← a16]) hj
        have hl : t < κ.length := (List.getElem?_eq_some_iff.mp h3).1
        show some (ad' t) = some (ad t)
        rw [ha t hl]
    rw [e]
  rw [if_neg a16, if_neg a16]
  have e : (flds q.1).mapIdx (fun j f => fv ad' σ' k j f) = (flds q.1).mapIdx (fun j f => fv ad σ k j f) := by
    apply List.ext_getElem?
    intro j
    rw [List.getElem?_mapIdx, List.getElem?_mapIdx]
    cases hf : (flds q.1)[j]? with
    | none => rfl
    | some f =>
      obtain ⟨t, off, code, len⟩ := f
      show some (fv ad' σ' k j (t, off, code, len)) = some (fv ad σ k j (t, off, code, len))
      unfold fv
      rw [h1, h2]
      by_cases t2 : t = 2
      · have c13 : q.1 < 13 := by
          refine Nat.lt_of_not_le fun hc => ?_
          omega
        subst t2
        obtain ⟨n', g1, _, _⟩ := hR k q.1 q.2 (by rw [hk]) c13 j off code len hf
        have hl : k + off < κ.length := (List.getElem?_eq_some_iff.mp g1).1
        rw [if_pos rfl, if_pos rfl, ha _ hl]
      · rw [if_neg t2, if_neg t2]
  rw [e]
def KOK (κ : Kd) : Prop := ∀ (k : Nat) (q : Nat × Nat), κ[k]? = some q → q.1 < 17
theorem nK_KOK {κ : Kd} {n s : Nat} (h : KOK κ) : KOK (κ ++ nK n s) := by
  intro k q hk
  by_cases hl : k < κ.length
  · rw [nK_old hl] at hk
    exact h k q hk
  · have hl3 : k < (κ ++ nK n s).length := (List.getElem?_eq_some_iff.mp hk).1
    rw [nK_len] at hl3
    obtain ⟨i, rfl⟩ : ∃ i, k = κ.length + i := ⟨k - κ.length, by omega⟩
    rw [nK_new] at hk
    have cs : i = 0 ∨ i = 1 ∨ i = 2 ∨ i = 3 ∨ i = 4 ∨ i = 5 := by omega
    rcases cs with rfl | rfl | rfl | rfl | rfl | rfl
    all_goals
      cases hk
      exact Nat.le_of_ble_eq_true rfl
/-- the same world by other addresses elsewhere -/
theorem aW_ad {ids : Ids} {ad ad' : Nat → Nat} {κ : Kd} {σ : Sg} (hR : Reg κ) (hok : okσ κ σ) (hk : KOK κ) (ha : ∀ j, j < κ.length → ad' j = ad j) : aW ids ad' κ σ = aW ids ad κ σ := by
  apply List.ext_getElem?
  intro k
  rw [aW_at, aW_at]
  cases h : κ[k]? with
  | none => rfl
  | some q =>
    have hl : k < κ.length := (List.getElem?_eq_some_iff.mp h).1
    show some (ad' k, ce ids ad' σ k q) = some (ad k, ce ids ad σ k q)
    rw [ce_old hR hok h (hk k q h) ha rfl rfl, ha k hl]
set_option maxHeartbeats 4000000 in
theorem ext_world {ids : Ids} {ad : Nat → Nat} {κ : Kd} {σ : Sg} {r q1 q2 q3 q4 q5 n s : Nat} (hR : Reg κ) (hok : okσ κ σ) (hk : KOK κ) : aW ids (ad6 ad κ.length r q1 q2 q3 q4 q5) (κ ++ nK n s) (eSg κ.length σ) = aW ids ad κ σ ++ nW ids r q1 q2 q3 q4 q5 σ n s := by
  apply List.ext_getElem?
  intro k
  by_cases hl : k < κ.length
  · rw [List.getElem?_append_left (by rw [aW_len]; exact hl), aW_at, aW_at, nK_old hl]
    cases h : κ[k]? with
    | none => rfl
    | some q =>
      show some (ad6 ad κ.length r q1 q2 q3 q4 q5 k, ce ids (ad6 ad κ.length r q1 q2 q3 q4 q5) (eSg κ.length σ) k q) = some (ad k, ce ids ad σ k q)
      rw [ce_old hR hok h (hk k q h) (fun j hj => ad6_lt (Or.inl hj)) (eSg_lt hl) rfl, ad6_lt (Or.inl hl)]
  · obtain ⟨i, rfl⟩ : ∃ i, k = κ.length + i := ⟨k - κ.length, by omega⟩
    rw [aW_at, nK_new, ext_new]
    by_cases i6 : i < 6
    · have a0 : ad6 ad κ.length r q1 q2 q3 q4 q5 (κ.length + 0) = r := if_pos rfl
      have a1 : ad6 ad κ.length r q1 q2 q3 q4 q5 (κ.length + 1) = q1 := by
        unfold ad6
        rw [if_neg (by omega), if_pos rfl]
      have a2 : ad6 ad κ.length r q1 q2 q3 q4 q5 (κ.length + 2) = q2 := by
        unfold ad6
        rw [if_neg (by omega), if_neg (by omega), if_pos rfl]
      have a3 : ad6 ad κ.length r q1 q2 q3 q4 q5 (κ.length + 3) = q3 := by
        unfold ad6
        rw [if_neg (by omega), if_neg (by omega), if_neg (by omega), if_pos rfl]
      have a4 : ad6 ad κ.length r q1 q2 q3 q4 q5 (κ.length + 4) = q4 := by
        unfold ad6
        rw [if_neg (by omega), if_neg (by omega), if_neg (by omega), if_neg (by omega), if_pos rfl]
      have a5 : ad6 ad κ.length r q1 q2 q3 q4 q5 (κ.length + 5) = q5 := by
        unfold ad6
        rw [if_neg (by omega), if_neg (by omega), if_neg (by omega), if_neg (by omega), if_neg (by omega), if_pos rfl]
      have s1 : (eSg κ.length σ).1 (κ.length + 1) = σ.1 54 := by
        funext j
        show (if κ.length + 1 < κ.length then _ else _) = _
        rw [if_neg (by omega), if_pos rfl]
      have s2 : (eSg κ.length σ).1 (κ.length + 2) = σ.1 55 := by
        funext j
        show (if κ.length + 2 < κ.length then _ else _) = _
        rw [if_neg (by omega), if_neg (by omega), if_pos rfl]
      have s3 : (eSg κ.length σ).1 (κ.length + 3) = σ.1 56 := by
        funext j
        show (if κ.length + 3 < κ.length then _ else _) = _
        rw [if_neg (by omega), if_neg (by omega), if_neg (by omega), if_pos rfl]
      have s4 : (eSg κ.length σ).1 (κ.length + 4) = σ.1 57 := by
        funext j
        show (if κ.length + 4 < κ.length then _ else _) = _
        rw [if_neg (by omega), if_neg (by omega), if_neg (by omega), if_neg (by omega), if_pos rfl]
      have s5 : (eSg κ.length σ).1 (κ.length + 5) = σ.1 58 := by
        funext j
        show (if κ.length + 5 < κ.length then _ else _) = _
        rw [if_neg (by omega), if_neg (by omega), if_neg (by omega), if_neg (by omega), if_neg (by omega), if_pos rfl]
      have cs : i = 0 ∨ i = 1 ∨ i = 2 ∨ i = 3 ∨ i = 4 ∨ i = 5 := by omega
      rcases cs with rfl | rfl | rfl | rfl | rfl | rfl
      · show some (ad6 ad κ.length r q1 q2 q3 q4 q5 (κ.length + 0), (Sum.inr (6, [Value.ref (ad6 ad κ.length r q1 q2 q3 q4 q5 (κ.length + 1)), Value.ref (ad6 ad κ.length r q1 q2 q3 q4 q5 (κ.length + 2)), Value.ref (ad6 ad κ.length r q1 q2 q3 q4 q5 (κ.length + 3)), Value.ref (ad6 ad κ.length r q1 q2 q3 q4 q5 (κ.length + 4)), Value.ref (ad6 ad κ.length r q1 q2 q3 q4 q5 (κ.length + 5))]) : va_E)) = _
        rw [a0, a1, a2, a3, a4, a5]
        rfl
      · show some (ad6 ad κ.length r q1 q2 q3 q4 q5 (κ.length + 1), (Sum.inl (ids.1, 4 * n, Sum.inl ((eSg κ.length σ).1 (κ.length + 1))) : va_E)) = _
        rw [a1, s1]
        rfl
      · show some (ad6 ad κ.length r q1 q2 q3 q4 q5 (κ.length + 2), (Sum.inl (ids.1, s, Sum.inl ((eSg κ.length σ).1 (κ.length + 2))) : va_E)) = _
        rw [a2, s2]
        rfl
      · show some (ad6 ad κ.length r q1 q2 q3 q4 q5 (κ.length + 3), (Sum.inl (ids.1, s, Sum.inl ((eSg κ.length σ).1 (κ.length + 3))) : va_E)) = _
        rw [a3, s3]
        rfl
      · show some (ad6 ad κ.length r q1 q2 q3 q4 q5 (κ.length + 4), (Sum.inl (ids.1, 3, Sum.inl ((eSg κ.length σ).1 (κ.length + 4))) : va_E)) = _
        rw [a4, s4]
        rfl
      · show some (ad6 ad κ.length r q1 q2 q3 q4 q5 (κ.length + 5), (Sum.inl (ids.1, 3, Sum.inl ((eSg κ.length σ).1 (κ.length + 5))) : va_E)) = _
        rw [a5, s5]
        rfl
    · have e1 : (nK n s)[i]? = none := List.getElem?_eq_none (by show 6 ≤ i; omega)
      have e2 : (nW ids r q1 q2 q3 q4 q5 σ n s)[i]? = none := List.getElem?_eq_none (by show 6 ≤ i; omega)
      rw [e1, e2]
      rfl
