/-! text: the class's tokens -/
def kdA (L : Nat) (T : Nat → Nat) (i : Nat) : Nat :=
  if L ≤ i then 45
  else if isLt (T i) = true then wordK (tkB T (tokE L T i - i) i)
  else if isDg (T i) = true then 43
  else if (T i = 60 ∨ T i = 62) ∧ i + 1 < L ∧ T (i + 1) = 61 then sgK (T i) + 1 else sgK (T i)
def nmA (L : Nat) (T : Nat → Nat) (i : Nat) : Nat :=
  if L ≤ i then 0
  else if isLt (T i) = true then 0
  else if isDg (T i) = true then nmT L T (i + 1) (T i - 48) else 0
theorem sgK_50 (b : Nat) : sgK b + 1 ≤ 50 := by
  unfold sgK
  repeat' split
  all_goals decide
theorem kdA_50 {L : Nat} {T : Nat → Nat} (i : Nat) : kdA L T i ≤ 50 := by
  have s := sgK_50 (T i)
  have w := wordK_50 (tkB T (tokE L T i - i) i)
  unfold kdA
  repeat' split
  all_goals omega
theorem nmA_le {L : Nat} {T : Nat → Nat} (h : ∀ i, i < L → T i < 256) (i : Nat) : nmA L T i ≤ 10000 := by
  unfold nmA
  by_cases a : L ≤ i
  · rw [if_pos a]
    exact Nat.zero_le _
  rw [if_neg a]
  by_cases b : isLt (T i) = true
  · rw [if_pos b]
    exact Nat.zero_le _
  rw [if_neg b]
  by_cases c : isDg (T i) = true
  · rw [if_pos c]
    have := h i (by omega)
    exact nmT_le _ _ _ rfl (by omega)
  · rw [if_neg c]
    exact Nat.zero_le _
theorem x_isLetter {b : Nat} (hb : b < 256) (σ : Sg) : f_X7_isLetter (nI b) σ = some (if isLt b = true then nI 1 else nI 0, σ) := by
  unfold f_X7_isLetter f_X7_isLetter_22 f_X7_isLetter_27 isLt
  rw [x_within, e_bnd]
  by_cases p : 97 ≤ b ∧ b ≤ 122
  · rw [if_pos (show (97 : Int32) ≤ nI b ∧ nI b ≤ 122 from ⟨nI_le (a := 97) p.1 (by omega), nI_le (b := 122) p.2 (by decide)⟩), if_neg (show ¬ (nI 1 = 0) by decide), grd_of (by decide), if_pos (decide_eq_true (Or.inl p))]
    rfl
  · rw [if_neg (show ¬ ((97 : Int32) ≤ nI b ∧ nI b ≤ 122) from fun q => p ⟨(nI_leI (a := 97) (by decide) (by omega)).mp q.1, (nI_leI (b := 122) (by omega) (by decide)).mp q.2⟩), if_pos (show nI 0 = 0 from rfl), x_within, e_bnd]
    by_cases r : 65 ≤ b ∧ b ≤ 90
    · rw [if_pos (show (65 : Int32) ≤ nI b ∧ nI b ≤ 90 from ⟨nI_le (a := 65) r.1 (by omega), nI_le (b := 90) r.2 (by decide)⟩), if_neg (show ¬ (nI 1 = 0) by decide), grd_of (by decide), if_pos (decide_eq_true (Or.inr r))]
      rfl
    · rw [if_neg (show ¬ ((65 : Int32) ≤ nI b ∧ nI b ≤ 90) from fun q => r ⟨(nI_leI (a := 65) (by decide) (by omega)).mp q.1, (nI_leI (b := 90) (by omega) (by decide)).mp q.2⟩), if_pos (show nI 0 = 0 from rfl), grd_of (by decide), if_neg (fun q => (of_decide_eq_true q).elim p r)]
      rfl
theorem x_isDigit {b : Nat} (hb : b < 256) (σ : Sg) : f_X7_isDigit (nI b) σ = some (if isDg b = true then nI 1 else nI 0, σ) := by
  unfold f_X7_isDigit isDg
  rw [x_within, e_bnd]
  by_cases p : 48 ≤ b ∧ b ≤ 57
  · rw [if_pos (show (48 : Int32) ≤ nI b ∧ nI b ≤ 57 from ⟨nI_le (a := 48) p.1 (by omega), nI_le (b := 57) p.2 (by decide)⟩), if_pos (decide_eq_true p), grd_of (by decide)]
  · rw [if_neg (show ¬ ((48 : Int32) ≤ nI b ∧ nI b ≤ 57) from fun q => p ⟨(nI_leI (a := 48) (by decide) (by omega)).mp q.1, (nI_leI (b := 57) (by omega) (by decide)).mp q.2⟩), if_neg (fun q => p (of_decide_eq_true q)), grd_of (by decide)]
def TKN (L : Nat) (T : Nat → Nat) (σ : Sg) (c : Nat) : Prop := σ.1 50 3 = nI c ∧ ∀ j, j < c → σ.1 51 j = nI (kdA L T (plc L T j)) ∧ σ.1 52 j = nI (nmA L T (plc L T j)) ∧ σ.1 53 j = nI (plc L T j)
abbrev Stk : Nat → Nat → Prop := fun a j => (a = 50 ∧ j = 3) ∨ a = 51 ∨ a = 52 ∨ a = 53
theorem x_addT {L : Nat} {T : Nat → Nat} {σ : Sg} {c : Nat} (h : TKN L T σ c) (hc : c < 301) : ∃ σ', f_X7_add (nI (kdA L T (plc L T c))) (nI (nmA L T (plc L T c))) (nI (plc L T c)) σ = some σ' ∧ TKN L T σ' (c + 1) ∧ fr Stk σ σ' := by
  refine ⟨wI (wI (wI (wI σ 51 c (nI (kdA L T (plc L T c)))) 52 c (nI (nmA L T (plc L T c)))) 53 c (nI (plc L T c))) 50 3 (nI (c + 1)), ?_, ⟨e_hit, fun j hj => ?_⟩, (((fr.w (by omega)).trans (fr.w (by omega))).trans (fr.w (by omega))).trans (fr.w (by omega))⟩
  · have h3 := h.1
    unfold f_X7_add f_X7_add_52
    rw [h3, if_neg (show ¬ ((301 : Int32) ≤ nI c) from nI_ge (b := 301) hc (by decide)), grd_of (by rw [e_inb (by omega) (by decide)]; rfl), e_ix (by omega), e_lt, e_ne1 (by decide), h3, grd_of (by rw [e_inb (by omega) (by decide)]; rfl), e_ix (by omega), e_lt, e_ne1 (by decide), e_ne1 (by decide), h3, grd_of (by rw [e_inb (by omega) (by decide)]; rfl), e_ix (by omega), e_lt, e_ne1 (by decide), e_ne1 (by decide), e_ne1 (by decide), h3, e_lt, show nI c + 1 = nI (c + 1) from nI_add _ _]
  · by_cases y : j = c
    · rw [y]
      refine ⟨?_, ?_, ?_⟩
      · rw [e_ne1 (by decide), e_ne1 (by decide), e_ne1 (by decide), e_hit]
      · rw [e_ne1 (by decide), e_ne1 (by decide), e_hit]
      · rw [e_ne1 (by decide), e_hit]
    · obtain ⟨a, b, d⟩ := h.2 j (by omega)
      refine ⟨?_, ?_, ?_⟩
      · rw [e_ne1 (by decide), e_ne1 (by decide), e_ne1 (by decide), e_ne2 y]
        exact a
      · rw [e_ne1 (by decide), e_ne1 (by decide), e_ne2 y, e_ne1 (by decide)]
        exact b
      · rw [e_ne1 (by decide), e_ne2 y, e_ne1 (by decide), e_ne1 (by decide)]
        exact d
