/-! text: the reference's steps are the pile machine's -/
def NT (T P E K V : Nat → Nat) (L : Nat) (σ : Sg) (p : Nat) : Prop := TM σ (K p) (V p) ∧ σ.1 0 8 = nI (P p) ∧ σ.1 0 7 = nI (E p) ∧ σ.1 0 4 = nI L ∧ ∀ i, i < L → σ.1 4 i = nI (T i)
abbrev Snt : Nat → Nat → Prop := fun a j => a = 0 ∧ 7 ≤ j ∧ j ≤ 10
def NX (T P E K V : Nat → Nat) (L : Nat) : Prop := ∀ σ p, NT T P E K V L σ p → ∃ σ', f_X12_nextToken σ = some σ' ∧ NT T P E K V L σ' (p + 1) ∧ fr Snt σ σ'
theorem NT.of {T P E K V : Nat → Nat} {L : Nat} {σ σ' : Sg} {p : Nat} (h : NT T P E K V L σ p) (e : ∀ j, (7 ≤ j ∧ j ≤ 10) ∨ j = 4 → σ'.1 0 j = σ.1 0 j) (e4 : ∀ j, σ'.1 4 j = σ.1 4 j) (eL : σ'.2.1 = σ.2.1) : NT T P E K V L σ' p := ⟨h.1.of (e _ (by omega)) (e _ (by omega)) (by rw [eL]), by rw [e _ (by omega)]; exact h.2.1, by rw [e _ (by omega)]; exact h.2.2.1, by rw [e _ (by omega)]; exact h.2.2.2.1, fun i hi => by rw [e4]; exact h.2.2.2.2 i hi⟩
/-- the longs stay: all that the pile does -/
def L2 (σ σ' : Sg) : Prop := σ'.2.1 = σ.2.1
theorem emit_L {x y : Int32} {σ σ' : Sg} (h : f_X12_emit x y σ = some σ') : L2 σ σ' := by
  unfold f_X12_emit at h
  obtain ⟨_, h⟩ := grd_some h
  obtain ⟨s1, e1, h⟩ := ltσ_some h
  obtain ⟨_, h⟩ := grd_some h
  obtain ⟨s2, e2, h⟩ := ltσ_some h
  obtain ⟨s3, e3, h⟩ := ltσ_some h
  cases h
  rw [e3, e2, e1]
  rfl
theorem rank_L {x r : Int32} {σ σ' : Sg} (h : f_X12_rank x σ = some (r, σ')) : σ' = σ := by
  unfold f_X12_rank f_X12_rank_60 f_X12_rank_77 at h
  repeat' split at h
  all_goals (cases h; rfl)
theorem settle_L : ∀ (fu : Nat) (l : Int32) (σ σ' : Sg), f_X12_settle_0 fu l σ = some σ' → L2 σ σ'
  | 0, _, _, _, h => by cases h
  | fu + 1, l, σ, σ', h0 => by
    rw [f_X12_settle_0] at h0
    by_cases c : σ.1 0 16 ≤ 0
    · rw [if_pos c] at h0
      cases h0
      rfl
    · rw [if_neg c] at h0
      obtain ⟨_, h1⟩ := grd_some h0
      obtain ⟨r, s, e, h2⟩ := bnd_some h1
      have es := rank_L e
      rw [es] at h2
      by_cases d : r < l
      · rw [if_pos d] at h2
        cases h2
        rfl
      · rw [if_neg d] at h2
        obtain ⟨s1, e1, h3⟩ := ltσ_some h2
        obtain ⟨_, h4⟩ := grd_some h3
        obtain ⟨s2, e2, h5⟩ := bndV_some h4
        obtain ⟨_, h6⟩ := grd_some h5
        obtain ⟨r3, s3, e3, h7⟩ := bnd_some h6
        have es3 := rank_L e3
        rw [es3] at h7
        have k2 : L2 σ s2 := by
          have := emit_L e2
          unfold L2 at this ⊢
          rw [this, e1]
          rfl
        have go : ∀ s4, L2 σ s4 → f_X12_settle_0 fu l s4 = some σ' → L2 σ σ' := fun s4 g1 g2 => by
          have := settle_L fu l s4 σ' g2
          unfold L2 at this g1 ⊢
          rw [this, g1]
        by_cases f : r3 = 7
        · rw [if_pos f] at h7
          unfold f_X12_settle_80 at h7
          obtain ⟨s4, e4, h8⟩ := ltσ_some h7
          exact go s4 (by rw [e4]; exact k2) h8
        · rw [if_neg f] at h7
          obtain ⟨_, h8⟩ := grd_some h7
          by_cases g : s2.1 5 (ix (s2.1 0 16)) = 20
          · rw [if_pos g] at h8
            unfold f_X12_settle_80 at h8
            obtain ⟨s4, e4, h9⟩ := ltσ_some h8
            exact go s4 (by rw [e4]; exact k2) h9
          · rw [if_neg g] at h8
            exact go s2 k2 h8
theorem m_settle {B l : Nat} (hB : B + 705 ≤ 2820) (hl : 1 ≤ l ∧ l ≤ 7) {X : PS} {σ : Sg} (hS : SET σ B X) (hc : X.2.2.length + X.1.length ≤ 304) (hq : X.1.length ≤ 150) : ∃ σ', f_X12_settle (nI l) σ = some σ' ∧ fr Sst2 σ σ' ∧ frB B σ σ' ∧ SET σ' B (st l X) ∧ L2 σ σ' := by
  obtain ⟨u, u1, u2, u3, u4⟩ := m_settle0 hB hl X.1 X.2.1 X.2.2 FU σ (by unfold FU; omega) hS hc hq
  exact ⟨u, u1, u2, u3, u4, settle_L FU _ σ u u1⟩
theorem stl_len {l : Nat} : ∀ (q : List Nat) (n : Nat) (c : List (Nat × Nat)), (stl l q n c).1.length + (stl l q n c).2.2.length = q.length + c.length
  | [], _, _ => rfl
  | o :: q, n, c => by
    by_cases z : l ≤ rkO o
    · rw [stl_hi z, stl_len q]
      simp only [List.length_append, List.length_cons, List.length_nil]
      omega
    · have e : stl l (o :: q) n c = (o :: q, n, c) := if_neg z
      rw [e]
def PMS (T P E K V : Nat → Nat) (L : Nat) (σ : Sg) (B lw : Nat) (S : MS) : Prop := NT T P E K V L σ S.2.1 ∧ SET σ B S.2.2 ∧ σ.1 0 14 = nI lw ∧ σ.1 0 18 = (if S.1 = true then nI 1 else nI 0) ∧ S.2.2.2.2.length + S.2.2.1.length ≤ S.2.1
abbrev Smp : Nat → Nat → Prop := fun a j => a = 3 ∨ a = 5 ∨ (a = 0 ∧ ((7 ≤ j ∧ j ≤ 10) ∨ j = 13 ∨ (16 ≤ j ∧ j ≤ 18)))
theorem m_waits {T P E K V : Nat → Nat} {L o : Nat} (hnx : NX T P E K V L) {σ : Sg} {p : Nat} {q : List Nat} (hT : NT T P E K V L σ p) (h16 : σ.1 0 16 = nI q.length) (hq : q.length < 160) : ∃ σ', f_X12_waits (nI o) σ = some (nI 0, σ') ∧ NT T P E K V L σ' (p + 1) ∧ σ'.1 5 q.length = nI o ∧ σ'.1 0 16 = nI (q.length + 1) ∧ fr (fun a j => (a = 5 ∧ j = q.length) ∨ (a = 0 ∧ ((7 ≤ j ∧ j ≤ 10) ∨ j = 16))) σ σ' := by
  obtain ⟨u, u1, u2, u3⟩ := hnx (wI (wI σ 5 q.length (nI o)) 0 16 (nI (q.length + 1))) p (hT.of (fun j hj => by rw [e_ne2 (by omega), e_ne1 (by decide)]) (fun j => by rw [e_ne1 (by decide), e_ne1 (by decide)]) rfl)
  refine ⟨u, ?_, u2, ?_, ?_, ((fr.w (by omega)).trans (fr.w (by omega))).trans (u3.mono (fun a j w => by omega))⟩
  · unfold f_X12_waits
    clear hT u2 u3
    simp (disch := omega) only [e_bnd, e_bndV, e_lt, e_grd, e_lit, e_le1, e_le2, e_lt1, e_lt2, e_eq1, e_eq2, e_inb, e_ix, nI_add, pk_mul, e_sub, e_b0, e_b1, e_bz, e_bz0, e_bz1, Bool.and_true, Bool.true_and, ↓reduceIte, not_true_eq_false, not_false_eq_true, decide_false, decide_true, and_self, and_true, true_and, and_false, false_and, Bool.false_eq_true, Bool.not_false, Bool.not_true, h16, e_ne1, u1]
  · rw [u3.1 _ _ (by omega), e_ne1 (by decide), e_hit]
  · rw [u3.1 _ _ (by omega), e_hit]
theorem SET_push {σ σ' : Sg} {B o m : Nat} {X : PS} (h : SET σ B X) (f : fr (fun a j => (a = 5 ∧ j = X.1.length) ∨ (a = 0 ∧ ((7 ≤ j ∧ j ≤ 10) ∨ j = 16 ∨ j = 17))) σ σ') (h5 : σ'.1 5 X.1.length = nI o) (h16 : σ'.1 0 16 = nI (X.1.length + 1)) (h17 : σ'.1 0 17 = nI m) (ho : o ≤ 43) (hm : m = oc (o :: X.1)) : SET σ' B (o :: X.1, m, X.2.2) := by
  obtain ⟨a1, a2, a3, a4, a5, a6, a7⟩ := h
  exact ⟨by rw [f.1 _ _ (by omega)]; exact a1, by rw [f.1 _ _ (by omega)]; exact a2, h16, h17, ⟨h5, ho, a5.of (fun j hj => f.1 _ _ (by omega))⟩, a6.of (fun j _ _ => f.1 _ _ (by omega)), hm⟩
theorem m_opened {T P E K V : Nat → Nat} {L B lw o p : Nat} (hnx : NX T P E K V L) {σ : Sg} {X : PS} (h : PMS T P E K V L σ B lw (false, p, X)) (hq : X.1.length ≤ 150) (ho : o = 40 ∨ o = 4 ∨ o = 2 ∨ o = 41 ∨ o = 20) : ((opd o p X).1 = 0 → ∃ σ', f_X12_opened (nI o) σ = some (nI 0, σ') ∧ PMS T P E K V L σ' B lw (opd o p X).2 ∧ fr Smp σ σ' ∧ frB B σ σ') ∧ ((opd o p X).1 ≠ 0 → f_X12_opened (nI o) σ = some (nI ((opd o p X).1 - 10), σ)) := by
  obtain ⟨hT, hS, h14, h18, hl⟩ := h
  dsimp only at hT hS h18 hl
  have h17 := hS.2.2.2.1
  have h16 := hS.2.2.1
  have hoc := hS.2.2.2.2.2.2
  have ob : oc X.1 ≤ 200 := by
    have : ∀ q : List Nat, oc q ≤ q.length := by
      intro q
      induction q with
      | nil => exact Nat.le_refl _
      | cons a q ih =>
        show (if _ then 1 else 0) + oc q ≤ q.length + 1
        split <;> omega
    have := this X.1
    omega
  by_cases z : X.2.1 = 8
  · have e : opd o p X = (13, false, p, X) := if_pos z
    rw [e]
    refine ⟨fun q => absurd (show (13 : Nat) = 0 from q) (by decide), fun _ => ?_⟩
    unfold f_X12_opened
    rw [h17, if_pos (show nI X.2.1 = 8 by rw [z]; rfl)]
    rfl
  · have e : opd o p X = (0, false, p + 1, o :: X.1, X.2.1 + 1, X.2.2) := if_neg z
    rw [e]
    refine ⟨fun _ => ?_, fun q => absurd rfl q⟩
    obtain ⟨u, u1, u2, u3, u4, u5⟩ := m_waits (o := o) hnx (σ := wI σ 0 17 (nI (X.2.1 + 1))) (p := p) (q := X.1) (hT.of (fun j hj => e_ne2 (by omega)) (fun j => e_ne1 (by decide)) rfl) (by rw [e_ne2 (by decide)]; exact h16) (by omega)
    have f : fr (fun a j => (a = 5 ∧ j = X.1.length) ∨ (a = 0 ∧ ((7 ≤ j ∧ j ≤ 10) ∨ j = 16 ∨ j = 17))) σ u := (fr.w (by omega)).trans (u5.mono (fun a j w => by omega))
    refine ⟨u, ?_, ⟨u2, SET_push hS f u3 u4 (by rw [u5.1 _ _ (by omega), e_hit]) (by omega) ?_, by rw [f.1 _ _ (by omega)]; exact h14, by rw [f.1 _ _ (by omega)]; exact h18, ?_⟩, f.mono (fun a j w => by omega), fun j _ => f.1 _ _ (by omega)⟩
    · unfold f_X12_opened
      rw [h17, if_neg (show ¬ (nI X.2.1 = 8) from fun q => z ((nI_eq (b := 8) (by omega) (by decide)).mp q)), e_lt, show (nI X.2.1 + 1) = nI (X.2.1 + 1) from nI_add _ _, u1, e_bnd]
    · show X.2.1 + 1 = (if rkO o = 7 ∨ o = 20 ∨ 40 ≤ o then 1 else 0) + oc X.1
      have : rkO o = 7 ∨ o = 20 ∨ 40 ≤ o := by
        rcases ho with rfl | rfl | rfl | rfl | rfl
        · exact Or.inr (Or.inr (by decide))
        · exact Or.inl rfl
        · exact Or.inl rfl
        · exact Or.inr (Or.inr (by decide))
        · exact Or.inr (Or.inl rfl)
      rw [if_pos this]
      omega
    · show X.2.2.length + (X.1.length + 1) ≤ p + 1
      omega
theorem m_waitsP {T P E K V : Nat → Nat} {L B lw o p : Nat} (hnx : NX T P E K V L) {σ : Sg} {X : PS} {w : Bool} (hT : NT T P E K V L σ p) (hS : SET σ B X) (h14 : σ.1 0 14 = nI lw) (hl : X.2.2.length + X.1.length ≤ p) (hq : X.1.length ≤ 150) (ho : o < 40 ∧ o ≠ 20 ∧ rkO o ≠ 7) : ∃ σ', f_X12_waits (nI o) σ = some (nI 0, σ') ∧ NT T P E K V L σ' (p + 1) ∧ SET σ' B (o :: X.1, X.2.1, X.2.2) ∧ σ'.1 0 14 = nI lw ∧ σ'.1 0 18 = σ.1 0 18 ∧ fr Smp σ σ' ∧ frB B σ σ' := by
  obtain ⟨u, u1, u2, u3, u4, u5⟩ := m_waits (o := o) hnx hT hS.2.2.1 (by omega)
  have f : fr (fun a j => (a = 5 ∧ j = X.1.length) ∨ (a = 0 ∧ ((7 ≤ j ∧ j ≤ 10) ∨ j = 16 ∨ j = 17))) σ u := u5.mono (fun a j w => by omega)
  refine ⟨u, u1, u2, SET_push hS f u3 u4 (by rw [u5.1 _ _ (by omega)]; exact hS.2.2.2.1) (by omega) ?_, by rw [f.1 _ _ (by omega)]; exact h14, f.1 _ _ (by omega), f.mono (fun a j w => by omega), fun j _ => f.1 _ _ (by omega)⟩
  show X.2.1 = (if rkO o = 7 ∨ o = 20 ∨ 40 ≤ o then 1 else 0) + oc X.1
  rw [if_neg (by omega), Nat.zero_add]
  exact hS.2.2.2.2.2.2
