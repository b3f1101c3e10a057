/-! text: the reference's pile -/
def PLK (σ : Sg) : List Nat → Prop
  | [] => True
  | o :: q => σ.1 5 q.length = nI o ∧ o ≤ 43 ∧ PLK σ q
theorem PLK.of {σ σ' : Sg} : ∀ {q : List Nat}, PLK σ q → (∀ j, j < q.length → σ'.1 5 j = σ.1 5 j) → PLK σ' q
  | [], _, _ => trivial
  | o :: q, h, e => ⟨by rw [e _ (by simp only [List.length_cons]; omega)]; exact h.1, h.2.1, h.2.2.of (fun j hj => e j (by simp only [List.length_cons]; omega))⟩
def oc : List Nat → Nat
  | [] => 0
  | o :: q => (if rkO o = 7 ∨ o = 20 ∨ 40 ≤ o then 1 else 0) + oc q
theorem m_rank {o : Nat} (h : o ≤ 43) (σ : Sg) : f_X12_rank (nI o) σ = some (nI (rkO o), σ) := by
  have ne : ∀ w, w < 100 → o ≠ w → ¬ (nI o = nI w) := fun w hw g y => g ((nI_eq (by omega) (by omega)).mp y)
  unfold f_X12_rank f_X12_rank_77 f_X12_rank_60 f_X12_rank_77 rkO
  by_cases a : 40 ≤ o
  · rw [if_neg (show ¬ (nI o < 40) from nI_nlt (b := 40) a (by omega)), if_pos a]
    rfl
  rw [if_pos (show nI o < 40 from nI_lt (b := 40) (by omega) (by omega)), if_neg a]
  by_cases b : o = 22
  · rw [if_pos (show nI o = 22 by rw [b]; rfl), if_pos b]
    rfl
  rw [if_neg (show ¬ (nI o = 22) from ne 22 (by decide) b), if_neg b]
  by_cases c : o = 21
  · rw [if_pos (show nI o = 21 by rw [c]; rfl), if_pos c]
    rfl
  rw [if_neg (show ¬ (nI o = 21) from ne 21 (by decide) c), if_neg c]
  by_cases d : o = 20
  · rw [if_pos (show nI o = 20 by rw [d]; rfl), if_pos d]
    rfl
  rw [if_neg (show ¬ (nI o = 20) from ne 20 (by decide) d), if_neg d]
  by_cases e : 10 ≤ o
  · rw [if_neg (show ¬ (nI o < 10) from nI_nlt (b := 10) e (by omega)), if_pos e]
    rfl
  rw [if_pos (show nI o < 10 from nI_lt (b := 10) (by omega) (by omega)), if_neg e]
  by_cases f : o = 4
  · rw [if_pos (show nI o = 4 by rw [f]; rfl), if_pos (Or.inl f)]
    rfl
  rw [if_neg (show ¬ (nI o = 4) from ne 4 (by decide) f)]
  by_cases g : o = 2
  · rw [if_pos (show nI o = 2 by rw [g]; rfl), if_pos (Or.inr g)]
    rfl
  rw [if_neg (show ¬ (nI o = 2) from ne 2 (by decide) g), if_neg (show ¬ (o = 4 ∨ o = 2) by omega)]
  by_cases i : 7 ≤ o
  · rw [if_neg (show ¬ (nI o < 7) from nI_nlt (b := 7) i (by omega)), if_pos i]
    rfl
  rw [if_pos (show nI o < 7 from nI_lt (b := 7) (by omega) (by omega)), if_neg i]
  rfl
/-- pile, opens, what is written -/
def SET (σ : Sg) (B : Nat) (X : PS) : Prop := σ.1 0 12 = nI B ∧ σ.1 0 13 = nI X.2.2.length ∧ σ.1 0 16 = nI X.1.length ∧ σ.1 0 17 = nI X.2.1 ∧ PLK σ X.1 ∧ CD σ (B + 97) 0 X.2.2 ∧ X.2.1 = oc X.1
abbrev Sem : Nat → Nat → Prop := fun a j => a = 3 ∨ (a = 0 ∧ j = 13)
theorem CD_app {σ : Sg} {b : Nat} {o : Nat × Nat} : ∀ {c : List (Nat × Nat)} {i : Nat}, CD σ b i c → σ.1 3 (b + 2 * (i + c.length)) = nI o.1 → σ.1 3 (b + 2 * (i + c.length) + 1) = nI o.2 → o.2 ≤ 10000 → CD σ b i (c ++ [o])
  | [], i, _, h1, h2, h3 => ⟨h1, h2, h3, trivial⟩
  | x :: c, i, h, h1, h2, h3 => by
    simp only [List.length_cons] at h1 h2
    refine ⟨h.1, h.2.1, h.2.2.1, CD_app (c := c) (i := i + 1) h.2.2.2 ?_ ?_ h3⟩
    · rw [show i + 1 + c.length = i + (c.length + 1) by omega]; exact h1
    · rw [show i + 1 + c.length = i + (c.length + 1) by omega]; exact h2
theorem m_emit {σ : Sg} {B o a : Nat} {c : List (Nat × Nat)} (h12 : σ.1 0 12 = nI B) (h13 : σ.1 0 13 = nI c.length) (hC : CD σ (B + 97) 0 c) (hb : B + 97 + 2 * c.length + 1 < 2820) (ha : a ≤ 10000) : ∃ σ', f_X12_emit (nI o) (nI a) σ = some σ' ∧ fr (fun x j => (x = 3 ∧ (j = B + 97 + 2 * c.length ∨ j = B + 97 + 2 * c.length + 1)) ∨ (x = 0 ∧ j = 13)) σ σ' ∧ σ'.1 0 13 = nI (c.length + 1) ∧ CD σ' (B + 97) 0 (c ++ [(o, a)]) := by
  refine ⟨wI (wI (wI σ 3 (B + 97 + 2 * c.length) (nI o)) 3 (B + 97 + 2 * c.length + 1) (nI a)) 0 13 (nI (c.length + 1)), ?_, ((fr.w (by omega)).trans (fr.w (by omega))).trans (fr.w (by omega)), e_hit, ?_⟩
  · unfold f_X12_emit
    clear hC
    simp (disch := omega) only [e_bnd, e_bndV, e_lt, e_grd, e_lit, e_le1, e_le2, e_lt1, e_lt2, e_eq1, e_eq2, e_inb, e_ix, nI_add, pk_mul, e_sub, e_b0, e_b1, e_bz, e_bz0, e_bz1, Bool.and_true, Bool.true_and, ↓reduceIte, not_true_eq_false, not_false_eq_true, decide_false, decide_true, and_self, and_true, true_and, and_false, false_and, Bool.false_eq_true, Bool.not_false, Bool.not_true, h12, h13, e_ne1]
  · refine CD_app (hC.of (fun j _ hj => ?_)) ?_ ?_ ha
    · rw [e_ne1 (by decide), e_ne2 (by omega), e_ne2 (by omega)]
    · rw [Nat.zero_add, e_ne1 (by decide), e_ne2 (by omega), e_hit]
    · rw [Nat.zero_add, e_ne1 (by decide), e_hit]
abbrev Sst2 : Nat → Nat → Prop := fun a j => a = 3 ∨ (a = 0 ∧ (j = 13 ∨ j = 16 ∨ j = 17))
/-- what is written lies from B + 97 on -/
def frB (B : Nat) (σ σ' : Sg) : Prop := ∀ j, (j < B + 97 ∨ B + 705 ≤ j) → σ'.1 3 j = σ.1 3 j
theorem frB.trans {B : Nat} {a b c : Sg} (h : frB B a b) (g : frB B b c) : frB B a c := fun j hj => (g j hj).trans (h j hj)
theorem m_settle0 {B l : Nat} (hB : B + 705 ≤ 2820) (hl : 1 ≤ l ∧ l ≤ 7) : ∀ (q : List Nat) (n : Nat) (c : List (Nat × Nat)) (fu : Nat) (σ : Sg), q.length < fu → SET σ B (q, n, c) → c.length + q.length ≤ 304 → q.length ≤ 150 → ∃ σ', f_X12_settle_0 fu (nI l) σ = some σ' ∧ fr Sst2 σ σ' ∧ frB B σ σ' ∧ SET σ' B (stl l q n c) := by
  intro q
  induction q with
  | nil =>
    intro n c fu σ hf hS hc hq
    obtain ⟨f, rfl⟩ : ∃ f, fu = f + 1 := ⟨fu - 1, by omega⟩
    have h16 : σ.1 0 16 = nI 0 := hS.2.2.1
    refine ⟨σ, ?_, fr.rfl, fun _ _ => rfl, hS⟩
    rw [f_X12_settle_0, h16]
    exact if_pos (by decide)
  | cons o q ih =>
    intro n c fu σ hf hS hc hq
    obtain ⟨f, rfl⟩ : ∃ f, fu = f + 1 := ⟨fu - 1, by omega⟩
    simp only [List.length_cons] at hc hq hf
    obtain ⟨h12, h13, h16, h17, hP, hC, hn⟩ := hS
    dsimp only at h12 h13 h16 h17 hP hC hn
    simp only [List.length_cons] at h16
    obtain ⟨p1, p2, p3⟩ := hP
    have rk := m_rank p2 σ
    have rb : rkO o ≤ 7 := by
      unfold rkO
      repeat' split
      all_goals omega
    by_cases z : l ≤ rkO o
    · obtain ⟨u, u1, u2, u3, u4⟩ := m_emit (σ := wI σ 0 16 (nI q.length)) (B := B) (o := o) (a := 0) (c := c) (by rw [e_ne2 (by decide)]; exact h12) (by rw [e_ne2 (by decide)]; exact h13) (hC.of (fun j _ _ => e_ne1 (by decide))) (by omega) (by decide)
      have u16 : u.1 0 16 = nI q.length := by rw [u2.1 _ _ (by omega), e_hit]
      have u5 : u.1 5 q.length = nI o := by rw [u2.1 _ _ (by omega), e_ne1 (by decide)]; exact p1
      have u17 : u.1 0 17 = nI n := by rw [u2.1 _ _ (by omega), e_ne2 (by decide)]; exact h17
      have rk2 := m_rank p2 u
      have frU : frB B σ u := fun j hj => by rw [u2.1 _ _ (by omega), e_ne1 (by decide)]
      have fU : fr Sst2 σ u := (fr.w (S := Sst2) (by omega)).trans (u2.mono (fun a j w => by omega))
      rw [stl_hi z]
      have oco : oc (o :: q) = (if rkO o = 7 ∨ o = 20 ∨ 40 ≤ o then 1 else 0) + oc q := rfl
      by_cases w : rkO o = 7 ∨ o = 20
      · have n1 : n = 1 + oc q := by
          rw [hn, oco, if_pos (by omega)]
        obtain ⟨s, s1, s2, s3, s4⟩ := ih (n - 1) (c ++ [(o, 0)]) f (wI u 0 17 (nI (n - 1))) (by omega) ⟨by rw [e_ne2 (by decide), u2.1 _ _ (by omega), e_ne2 (by decide)]; exact h12, by rw [e_ne2 (by decide), List.length_append]; exact u3, by rw [e_ne2 (by decide)]; exact u16, e_hit, p3.of (fun j hj => by rw [e_ne1 (by decide), u2.1 _ _ (by omega), e_ne1 (by decide)]), u4.of (fun j _ _ => e_ne1 (by decide)), by show n - 1 = oc q; omega⟩ (by rw [List.length_append]; simp only [List.length_cons, List.length_nil]; omega) (by omega)
        refine ⟨s, ?_, (fU.trans (fr.w (by omega))).trans s2, (frU.trans (fun j _ => e_ne1 (by decide))).trans s3, by rw [if_pos w]; exact s4⟩
        have oclen : oc q ≤ 300 := by
          have : ∀ q : List Nat, oc q ≤ q.length := by
            intro q
            induction q with
            | nil => exact Nat.le_refl _
            | cons a q ih =>
              show (if _ then 1 else 0) + oc q ≤ q.length + 1
              split <;> omega
          have := this q
          omega
        rw [f_X12_settle_0]
        clear ih hC u4 s2 s3 s4 fU frU u2 p3 hn
        by_cases w7 : rkO o = 7
        · rw [w7] at rk rk2
          simp (disch := omega) only [e_bnd, e_bndV, e_lt, e_grd, e_lit, e_le1, e_le2, e_lt1, e_lt2, e_eq1, e_eq2, e_inb, e_ix, nI_add, pk_mul, e_sub, e_b0, e_b1, e_bz, e_bz0, e_bz1, Bool.and_true, Bool.true_and, ↓reduceIte, not_true_eq_false, not_false_eq_true, decide_false, decide_true, and_self, and_true, true_and, and_false, false_and, Bool.false_eq_true, Bool.not_false, Bool.not_true, h16, p1, rk, Nat.add_sub_cancel, e_hit, e_ne1, u1, u16, u5, rk2, u17, f_X12_settle_80]
          exact s1
        · have o20 : o = 20 := by omega
          subst o20
          simp (disch := omega) only [e_bnd, e_bndV, e_lt, e_grd, e_lit, e_le1, e_le2, e_lt1, e_lt2, e_eq1, e_eq2, e_inb, e_ix, nI_add, pk_mul, e_sub, e_b0, e_b1, e_bz, e_bz0, e_bz1, Bool.and_true, Bool.true_and, ↓reduceIte, not_true_eq_false, not_false_eq_true, decide_false, decide_true, and_self, and_true, true_and, and_false, false_and, Bool.false_eq_true, Bool.not_false, Bool.not_true, h16, p1, rk, Nat.add_sub_cancel, e_hit, e_ne1, u1, u16, u5, rk2, u17, f_X12_settle_80]
          exact s1
      · have o40 : o < 40 := by
          refine Nat.lt_of_not_le fun g => ?_
          have : rkO o = 0 := if_pos g
          omega
        obtain ⟨s, s1, s2, s3, s4⟩ := ih n (c ++ [(o, 0)]) f u (by omega) ⟨by rw [u2.1 _ _ (by omega), e_ne2 (by decide)]; exact h12, by rw [List.length_append]; exact u3, u16, u17, p3.of (fun j hj => by rw [u2.1 _ _ (by omega), e_ne1 (by decide)]), u4, by show n = oc q; rw [hn, oco, if_neg (by omega)]; omega⟩ (by rw [List.length_append]; simp only [List.length_cons, List.length_nil]; omega) (by omega)
        refine ⟨s, ?_, fU.trans s2, frU.trans s3, by rw [if_neg w]; exact s4⟩
        rw [f_X12_settle_0]
        clear ih hC u4 s2 s3 s4 fU frU u2 p3 hn
        simp (disch := omega) only [e_bnd, e_bndV, e_lt, e_grd, e_lit, e_le1, e_le2, e_lt1, e_lt2, e_eq1, e_eq2, e_inb, e_ix, nI_add, pk_mul, e_sub, e_b0, e_b1, e_bz, e_bz0, e_bz1, Bool.and_true, Bool.true_and, ↓reduceIte, not_true_eq_false, not_false_eq_true, decide_false, decide_true, and_self, and_true, true_and, and_false, false_and, Bool.false_eq_true, Bool.not_false, Bool.not_true, h16, p1, rk, Nat.add_sub_cancel, e_hit, e_ne1, u1, u16, u5, rk2, u17]
        exact s1
    · have e : stl l (o :: q) n c = (o :: q, n, c) := if_neg z
      rw [e]
      refine ⟨σ, ?_, fr.rfl, fun _ _ => rfl, h12, h13, h16, h17, ⟨p1, p2, p3⟩, hC, hn⟩
      rw [f_X12_settle_0]
      clear ih hC p3 hn
      simp (disch := omega) only [e_bnd, e_bndV, e_lt, e_grd, e_lit, e_le1, e_le2, e_lt1, e_lt2, e_eq1, e_eq2, e_inb, e_ix, nI_add, pk_mul, e_sub, e_b0, e_b1, e_bz, e_bz0, e_bz1, Bool.and_true, Bool.true_and, ↓reduceIte, not_true_eq_false, not_false_eq_true, decide_false, decide_true, and_self, and_true, true_and, and_false, false_and, Bool.false_eq_true, Bool.not_false, Bool.not_true, h16, p1, rk, Nat.add_sub_cancel, f_X12_settle_93]
theorem sub1 (x : Int32) : x - 1 = x + -1 := Int32.sub_eq_add_neg x 1
def opI : List Nat → Int32
  | [] => -1
  | o :: q => if 40 ≤ o then nI q.length else opI q
theorem m_openAt7 : ∀ (q : List Nat) (fu : Nat) (σ : Sg), PLK σ q → q.length ≤ 150 → q.length < fu → f_X12_openAt_7 fu (nI q.length + -1) σ = some (opI q, σ) := by
  intro q
  induction q with
  | nil =>
    intro fu σ _ _ hf
    obtain ⟨f, rfl⟩ : ∃ f, fu = f + 1 := ⟨fu - 1, by omega⟩
    rw [f_X12_openAt_7]
    exact if_pos (by decide)
  | cons o q ih =>
    intro fu σ h hq hf
    obtain ⟨f, rfl⟩ : ∃ f, fu = f + 1 := ⟨fu - 1, by omega⟩
    simp only [List.length_cons] at hq hf ⊢
    rw [dec1, f_X12_openAt_7, if_neg (nI_pos (by omega)), grd_of (by rw [e_inb (by omega) (by decide)]; rfl), e_ix (by omega), h.1]
    by_cases z : 40 ≤ o
    · rw [if_pos (show (40 : Int32) ≤ nI o from nI_le (a := 40) z (by have := h.2.1; omega))]
      show some (nI q.length, σ) = some ((if 40 ≤ o then nI q.length else opI q), σ)
      rw [if_pos z]
    · have := h.2.1
      rw [if_neg (show ¬ ((40 : Int32) ≤ nI o) from nI_ge (b := 40) (by omega) (by omega)), ih f σ h.2.2 (by omega) (by omega)]
      show some (opI q, σ) = some ((if 40 ≤ o then nI q.length else opI q), σ)
      rw [if_neg z]
theorem opI_spec : ∀ (q : List Nat) (σ : Sg), PLK σ q → q.length ≤ 150 → (opn q = 0 ∧ opI q = -1) ∨ (40 ≤ opn q ∧ opn q ≤ 43 ∧ ∃ i, i < q.length ∧ opI q = nI i ∧ σ.1 5 i = nI (opn q))
  | [], _, _, _ => Or.inl ⟨rfl, rfl⟩
  | o :: q, σ, h, hq => by
    simp only [List.length_cons] at hq ⊢
    by_cases z : 40 ≤ o
    · right
      rw [opn_hi z]
      exact ⟨z, h.2.1, q.length, by omega, if_pos z, h.1⟩
    · rw [opn_op (by omega)]
      have e : opI (o :: q) = opI q := if_neg z
      rw [e]
      rcases opI_spec q σ h.2.2 (by omega) with ⟨a, b⟩ | ⟨a, b, i, c, d⟩
      · exact Or.inl ⟨a, b⟩
      · exact Or.inr ⟨a, b, i, by omega, d⟩
theorem m_openAt {σ : Sg} {q : List Nat} (h16 : σ.1 0 16 = nI q.length) (h : PLK σ q) (hq : q.length ≤ 150) : f_X12_openAt σ = some (opI q, σ) := by
  unfold f_X12_openAt
  rw [h16, sub1]
  exact m_openAt7 q FU σ h hq (by unfold FU; omega)
theorem m_openNow {σ : Sg} {q : List Nat} (h16 : σ.1 0 16 = nI q.length) (h : PLK σ q) (hq : q.length ≤ 150) : f_X12_openNow σ = some (if opn q = 0 then -1 else nI (opn q), σ) := by
  have oa := m_openAt h16 h hq
  unfold f_X12_openNow f_X12_openNow_20
  rw [oa, e_bnd]
  rcases opI_spec q σ h hq with ⟨a, b⟩ | ⟨a, b, i, c, d, e⟩
  · rw [b, if_neg (by decide), if_pos a]
  · rw [d, if_pos (nI_pos' (by omega)), oa, e_bnd, d, grd_of (by rw [e_inb (by omega) (by decide)]; rfl), e_ix (by omega), e, if_neg (by omega)]
theorem m_isCmp7 : ∀ (q : List Nat) (fu : Nat) (σ : Sg), PLK σ q → q.length ≤ 150 → q.length < fu → f_X12_isCompared_7 fu (nI q.length + -1) σ = some (if cmpd q = true then nI 1 else nI 0, σ) := by
  intro q
  induction q with
  | nil =>
    intro fu σ _ _ hf
    obtain ⟨f, rfl⟩ : ∃ f, fu = f + 1 := ⟨fu - 1, by omega⟩
    rw [f_X12_isCompared_7, if_pos (by decide)]
    unfold f_X12_isCompared_30
    rw [if_pos (by decide)]
    rfl
  | cons o q ih =>
    intro fu σ h hq hf
    obtain ⟨f, rfl⟩ : ∃ f, fu = f + 1 := ⟨fu - 1, by omega⟩
    simp only [List.length_cons] at hq hf ⊢
    have rk := m_rank h.2.1 σ
    have rb : rkO o ≤ 7 := by
      unfold rkO
      repeat' split
      all_goals omega
    rw [dec1, f_X12_isCompared_7, if_neg (nI_pos (by omega)), grd_of (by rw [e_inb (by omega) (by decide)]; rfl), e_ix (by omega), h.1, rk, e_bnd]
    have ec : cmpd (o :: q) = if 4 < rkO o then cmpd q else decide (rkO o = 4) := rfl
    rw [ec]
    by_cases z : 4 < rkO o
    · rw [if_neg (show ¬ (nI (rkO o) ≤ 4) from nI_ge (a := 4) z (by omega)), ih f σ h.2.2 (by omega) (by omega), if_pos z]
    · rw [if_pos (show nI (rkO o) ≤ 4 from nI_le (b := 4) (by omega) (by omega)), if_neg z]
      unfold f_X12_isCompared_30
      rw [if_neg (nI_pos (by omega)), grd_of (by rw [e_inb (by omega) (by decide)]; rfl), e_ix (by omega), h.1, rk, e_bnd]
      by_cases y : rkO o = 4
      · rw [if_pos (show nI (rkO o) = 4 by rw [y]; rfl), decide_eq_true y]
        rfl
      · rw [if_neg (show ¬ (nI (rkO o) = 4) from fun g => y ((nI_eq (b := 4) (by omega) (by decide)).mp g)), decide_eq_false y]
        rfl
theorem m_isCmp {σ : Sg} {q : List Nat} (h16 : σ.1 0 16 = nI q.length) (h : PLK σ q) (hq : q.length ≤ 150) : f_X12_isCompared σ = some (if cmpd q = true then nI 1 else nI 0, σ) := by
  unfold f_X12_isCompared
  rw [h16, sub1]
  exact m_isCmp7 q FU σ h hq (by unfold FU; omega)
theorem m_isAsk {σ : Sg} {q : List Nat} (h16 : σ.1 0 16 = nI q.length) (h : PLK σ q) (hq : q.length ≤ 150) : f_X12_isAskAhead σ = some (if askA q = true then nI 1 else nI 0, σ) := by
  have on := m_openNow h16 h hq
  unfold f_X12_isAskAhead
  rw [on, e_bnd]
  by_cases z : opn q = 41
  · rw [if_neg (show ¬ (opn q = 0) by omega), if_pos (show nI (opn q) = 41 by rw [z]; rfl)]
    cases q with
    | nil => exact absurd z (by decide)
    | cons o q =>
      simp only [List.length_cons] at h16 hq
      have rb : rkO o ≤ 7 := by
        unfold rkO
        repeat' split
        all_goals omega
      have rk := m_rank h.2.1 σ
      have h2 := h.2.1
      have ea : askA (o :: q) = decide (40 ≤ o ∨ (1 ≤ rkO o ∧ rkO o ≤ 3)) := by
        unfold askA
        rw [decide_eq_true z, Bool.true_and]
        rfl
      rw [ea, h16, sub1, dec1, grd_of (by rw [e_inb (by omega) (by decide)]; rfl), e_ix (by omega), h.1]
      by_cases y : 40 ≤ o
      · rw [if_pos (show (40 : Int32) ≤ nI o from nI_le (a := 40) y (by omega)), decide_eq_true (Or.inl y)]
        rfl
      · rw [if_neg (show ¬ ((40 : Int32) ≤ nI o) from nI_ge (b := 40) (by omega) (by omega)), grd_of (by rw [e_inb (by omega) (by decide)]; rfl), rk, e_bnd, m_isIn]
        by_cases x : 1 ≤ rkO o ∧ rkO o ≤ 3
        · rw [if_pos (show (1 : Int32) ≤ nI (rkO o) ∧ nI (rkO o) ≤ 3 from ⟨nI_le (a := 1) x.1 (by omega), nI_le (b := 3) x.2 (by omega)⟩), e_bnd, if_neg (by decide), decide_eq_true (Or.inr x)]
          rfl
        · rw [if_neg (show ¬ ((1 : Int32) ≤ nI (rkO o) ∧ nI (rkO o) ≤ 3) from fun g => x ⟨(nI_leI (a := 1) (by omega) (by omega)).mp g.1, (nI_leI (b := 3) (by omega) (by omega)).mp g.2⟩), e_bnd, if_pos (by rfl), decide_eq_false (by omega)]
          rfl
  · have ea : askA q = false := askA_no z
    rw [ea]
    by_cases y : opn q = 0
    · rw [if_pos y, if_neg (by decide)]
      rfl
    · rw [if_neg y]
      rcases opI_spec q σ h hq with ⟨a, b⟩ | ⟨a, b, i, c, d, e⟩
      · exact absurd a y
      · rw [if_neg (show ¬ (nI (opn q) = 41) from fun g => z ((nI_eq (b := 41) (by omega) (by decide)).mp g))]
        rfl
