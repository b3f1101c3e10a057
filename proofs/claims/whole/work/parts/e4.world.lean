/-! before the claim: the first world (printed by wip/whole/gen_claim.py) -/
set_option maxRecDepth 100000 in
set_option maxHeartbeats 8000000 in
theorem bw11_aW {ids : Ids} {a : Nat → Nat} : bw11 ids a = aW ids a κX0 σX0 := by
  apply List.ext_getElem?
  intro k
  rw [aW_at]
  by_cases hk : k < 72
  · match k, hk with
    | 0, _ =>
      show some ((a 0, Sum.inr (11, _)) : Nat × va_E) = some (a 0, ce ids a σX0 0 (11, 0))
      rw [ce_mI (by decide)]
      rfl
    | 1, _ =>
      show some ((a 1, Sum.inr (10, _)) : Nat × va_E) = some (a 1, ce ids a σX0 1 (10, 0))
      rw [ce_mI (by decide)]
      rfl
    | 2, _ =>
      show some ((a 2, Sum.inr (8, _)) : Nat × va_E) = some (a 2, ce ids a σX0 2 (8, 0))
      rw [ce_mI (by decide)]
      rfl
    | 3, _ => rfl
    | 4, _ => rfl
    | 5, _ => rfl
    | 6, _ => rfl
    | 7, _ => rfl
    | 8, _ =>
      show some ((a 8, Sum.inr (5, _)) : Nat × va_E) = some (a 8, ce ids a σX0 8 (5, 0))
      rw [ce_mI (by decide)]
      rfl
    | 9, _ => rfl
    | 10, _ => rfl
    | 11, _ =>
      show some ((a 11, Sum.inr (4, _)) : Nat × va_E) = some (a 11, ce ids a σX0 11 (4, 0))
      rw [ce_mI (by decide)]
      rfl
    | 12, _ => rfl
    | 13, _ => rfl
    | 14, _ => rfl
    | 15, _ => rfl
    | 16, _ => rfl
    | 17, _ => rfl
    | 18, _ => rfl
    | 19, _ => rfl
    | 20, _ => rfl
    | 21, _ =>
      show some ((a 21, Sum.inr (10, _)) : Nat × va_E) = some (a 21, ce ids a σX0 21 (10, 0))
      rw [ce_mI (by decide)]
      rfl
    | 22, _ =>
      show some ((a 22, Sum.inr (8, _)) : Nat × va_E) = some (a 22, ce ids a σX0 22 (8, 0))
      rw [ce_mI (by decide)]
      rfl
    | 23, _ => rfl
    | 24, _ => rfl
    | 25, _ => rfl
    | 26, _ => rfl
    | 27, _ => rfl
    | 28, _ =>
      show some ((a 28, Sum.inr (5, _)) : Nat × va_E) = some (a 28, ce ids a σX0 28 (5, 0))
      rw [ce_mI (by decide)]
      rfl
    | 29, _ => rfl
    | 30, _ => rfl
    | 31, _ =>
      show some ((a 31, Sum.inr (4, _)) : Nat × va_E) = some (a 31, ce ids a σX0 31 (4, 0))
      rw [ce_mI (by decide)]
      rfl
    | 32, _ => rfl
    | 33, _ => rfl
    | 34, _ => rfl
    | 35, _ => rfl
    | 36, _ => rfl
    | 37, _ => rfl
    | 38, _ => rfl
    | 39, _ => rfl
    | 40, _ => rfl
    | 41, _ =>
      show some ((a 41, Sum.inr (8, _)) : Nat × va_E) = some (a 41, ce ids a σX0 41 (8, 0))
      rw [ce_mI (by decide)]
      rfl
    | 42, _ => rfl
    | 43, _ => rfl
    | 44, _ => rfl
    | 45, _ => rfl
    | 46, _ => rfl
    | 47, _ =>
      show some ((a 47, Sum.inr (1, _)) : Nat × va_E) = some (a 47, ce ids a σX0 47 (1, 0))
      rw [ce_mI (by decide)]
      rfl
    | 48, _ => rfl
    | 49, _ =>
      show some ((a 49, Sum.inr (3, _)) : Nat × va_E) = some (a 49, ce ids a σX0 49 (3, 0))
      rw [ce_mI (by decide)]
      rfl
    | 50, _ =>
      show some ((a 50, Sum.inr (7, _)) : Nat × va_E) = some (a 50, ce ids a σX0 50 (7, 0))
      rw [ce_mI (by decide)]
      rfl
    | 51, _ => rfl
    | 52, _ => rfl
    | 53, _ => rfl
    | 54, _ => rfl
    | 55, _ => rfl
    | 56, _ => rfl
    | 57, _ => rfl
    | 58, _ => rfl
    | 59, _ =>
      show some ((a 59, Sum.inr (9, _)) : Nat × va_E) = some (a 59, ce ids a σX0 59 (9, 0))
      rw [ce_mI (by decide)]
      rfl
    | 60, _ => rfl
    | 61, _ => rfl
    | 62, _ =>
      show some ((a 62, Sum.inr (0, _)) : Nat × va_E) = some (a 62, ce ids a σX0 62 (0, 0))
      rw [ce_mI (by decide)]
      rfl
    | 63, _ => rfl
    | 64, _ => rfl
    | 65, _ => rfl
    | 66, _ => rfl
    | 67, _ =>
      show some ((a 67, Sum.inr (2, _)) : Nat × va_E) = some (a 67, ce ids a σX0 67 (2, 0))
      rw [ce_mI (by decide)]
      rfl
    | 68, _ => rfl
    | 69, _ => rfl
    | 70, _ => rfl
    | 71, _ => rfl
    | k + 72, h => omega
  · have e1 : (bw11 ids a)[k]? = none := List.getElem?_eq_none (by show 72 ≤ k; omega)
    have e2 : κX0[k]? = none := List.getElem?_eq_none (by show 72 ≤ k; omega)
    rw [e1, e2]
    rfl
theorem regX0 : Reg κX0 := by
  intro k c n hk hc j off code len hf
  have h2 : ∀ k, k < 72 → ∀ q, κX0[k]? = some q → q.1 < 13 → (flds q.1).all (fun f => !Nat.beq f.1 2 || (match κX0[k + f.2.1]? with | some q2 => Nat.beq q2.1 f.2.2.1 && Nat.blt f.2.2.1 20 && lq f.2.2.2 q2.2 | none => false)) = true := by decide +kernel
  have hl : k < 72 := (List.getElem?_eq_some_iff.mp hk).1
  have h3 := List.all_eq_true.mp (h2 k hl (c, n) hk hc) _ (List.mem_of_getElem? hf)
  dsimp only at h3
  cases hq : κX0[k + off]? with
  | none => rw [hq] at h3; simp at h3
  | some q =>
    rw [hq] at h3
    obtain ⟨q1, q2⟩ := q
    have h4 : ((Nat.beq q1 code && Nat.blt code 20) && lq len q2) = true := by
      rcases Bool.or_eq_true _ _ |>.mp h3 with h | h
      · exact absurd h (by decide)
      · exact h
    rw [Bool.and_eq_true, Bool.and_eq_true] at h4
    obtain ⟨⟨g1, g2⟩, g3⟩ := h4
    replace g1 := Nat.eq_of_beq_eq_true g1
    subst g1
    refine ⟨q2, rfl, Nat.blt_eq.mp g2, fun m hm => ?_⟩
    subst hm
    exact Nat.eq_of_beq_eq_true g3
theorem app_split {D : va_G} {W1 W2 : va_W} {H : Heap} {A : Nat → Prop} (hP : va_P D acl (W1 ++ W2) H) (hD : va_D A (W1 ++ W2)) : va_P D acl W1 H ∧ va_P D acl W2 H ∧ va_D A W1 ∧ va_D A W2 ∧ apart2 W1 W2 := by
  have l1 : ∀ (k : Nat) (x : Nat × va_E), W1[k]? = some x → (W1 ++ W2)[k]? = some x := fun k x h => by
    rw [List.getElem?_append_left (List.getElem?_eq_some_iff.mp h).1]
    exact h
  have l2 : ∀ (k : Nat) (x : Nat × va_E), W2[k]? = some x → (W1 ++ W2)[W1.length + k]? = some x := fun k x h => by
    rw [List.getElem?_append_right (Nat.le_add_right _ _), Nat.add_sub_cancel_left]
    exact h
  refine ⟨fun k x h => hP k x (l1 k x h), fun k x h => hP _ x (l2 k x h), ⟨fun i j p q hi hj h => hD.1 i j p q (l1 i p hi) (l1 j q hj) h, fun k x h => hD.2 k x (l1 k x h)⟩, ⟨fun i j p q hi hj h => ?_, fun k x h => hD.2 _ x (l2 k x h)⟩, fun i j p q hi hj h => ?_⟩
  · have := hD.1 _ _ p q (l2 i p hi) (l2 j q hj) h
    omega
  · have e := hD.1 _ _ p q (l1 i p hi) (l2 j q hj) h
    have := (List.getElem?_eq_some_iff.mp hi).1
    omega
theorem gi_init {w : Cond} (h : w ∈ WS) : GoodIn lw_tbl (w :: WS) := by
  intro x hx
  have hx2 : x ∈ WS := by
    rcases List.mem_cons.mp hx with rfl | hx
    · exact h
    · exact hx
  exact ⟨(List.mem_filter.mp hx2).1, good_of_word (ws_good _ hx2)⟩
