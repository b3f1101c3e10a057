/-! text: the reference's clauses -/
def CLM (σ : Sg) (B n : Nat) (ck : Nat → Nat) (cn : Nat → Nat → Nat) : Prop := n ≤ 24 ∧ σ.1 3 B = nI n ∧ ∀ k, k < n → σ.1 3 (B + 1 + 4 * k) = nI (ck k) ∧ ck k ≤ 11 ∧ ∀ j, j < ari (ck k) → σ.1 3 (B + 1 + 4 * k + 1 + j) = nI (cn k j)
def LWN (σ : Sg) (B n : Nat) (ck : Nat → Nat) (Lw : Nat → Option LV) (c : List (Nat × Nat)) : Prop := ∀ l, l < 3 → (Lw l = none ∧ ∀ k, k < n → ck k ≠ l) ∨ ∃ v k d pre post, Lw l = some v ∧ k < n ∧ ck k = l ∧ (∀ j, j < k → ck j ≠ l) ∧ σ.1 3 (B + 1 + 4 * k + 1) = nI (List.length (α := Nat × Nat) pre) ∧ σ.1 3 (B + 1 + 4 * k + 2) = nI (pre.length + d.length) ∧ c = pre ++ (d ++ post) ∧ GN d v
def CSM (T P E K V : Nat → Nat) (L B : Nat) (σ : Sg) (p n : Nat) (ck : Nat → Nat) (cn : Nat → Nat → Nat) (Lw : Nat → Option LV) (c : List (Nat × Nat)) : Prop := NT T P E K V L σ p ∧ p ≤ 300 ∧ σ.1 0 12 = nI B ∧ σ.1 0 13 = nI c.length ∧ c.length ≤ p ∧ CD σ (B + 97) 0 c ∧ CLM σ B n ck cn ∧ (∃ M, M < 8 ∧ σ.1 0 19 = nI M ∧ ∀ l, l < 3 → M.testBit l = (Lw l).isSome) ∧ LWN σ B n ck Lw c
abbrev Scm : Nat → Nat → Prop := fun x j => x = 3 ∨ x = 5 ∨ (x = 0 ∧ ((7 ≤ j ∧ j ≤ 10) ∨ j = 13 ∨ j = 14 ∨ (16 ≤ j ∧ j ≤ 19)))
def frT (B : Nat) (σ σ' : Sg) : Prop := ∀ j, (j < B ∨ B + 705 ≤ j) → σ'.1 3 j = σ.1 3 j
theorem frT.trans {B : Nat} {a b c : Sg} (h : frT B a b) (g : frT B b c) : frT B a c := fun j hj => (g j hj).trans (h j hj)
theorem m_lawC {T P E K V : Nat → Nat} {L B lw n : Nat} (hnx : NX T P E K V L) (hK50 : ∀ j, K j ≤ 50) (hK : ∀ j, 300 ≤ j → K j = 45) (hV : ∀ j, V j ≤ 10000) (hB : B + 705 ≤ 2820) (hlw : lw < 3) (hn : n < 24) {σ : Sg} {p : Nat} {c0 : List (Nat × Nat)} (hp : p ≤ 300) (hT : NT T P E K V L σ p) (h12 : σ.1 0 12 = nI B) (h13 : σ.1 0 13 = nI c0.length) (h14 : σ.1 0 14 = nI lw) (hC : CD σ (B + 97) 0 c0) (hc : c0.length ≤ p) : ((sumP K (OA K V lw 300 8).1 300 p).1 = 0 → (sumP K (OA K V lw 300 8).1 300 p).2.1 ≤ 300 ∧ c0.length + (sumP K (OA K V lw 300 8).1 300 p).2.2.length ≤ (sumP K (OA K V lw 300 8).1 300 p).2.1 ∧ ∃ σ', f_X12_body (nI lw) (nI (B + 1 + 4 * n)) σ = some (nI 0, σ') ∧ NT T P E K V L σ' (sumP K (OA K V lw 300 8).1 300 p).2.1 ∧ σ'.1 0 13 = nI (c0.length + (sumP K (OA K V lw 300 8).1 300 p).2.2.length) ∧ CD σ' (B + 97) 0 (c0 ++ (sumP K (OA K V lw 300 8).1 300 p).2.2) ∧ fr Smp σ σ' ∧ (∀ j, (j < B + 97 ∨ B + 705 ≤ j) → j ≠ B + 1 + 4 * n + 1 → j ≠ B + 1 + 4 * n + 2 → σ'.1 3 j = σ.1 3 j) ∧ σ'.1 3 (B + 1 + 4 * n + 1) = nI c0.length ∧ σ'.1 3 (B + 1 + 4 * n + 2) = nI (c0.length + (sumP K (OA K V lw 300 8).1 300 p).2.2.length)) ∧ ((sumP K (OA K V lw 300 8).1 300 p).1 ≠ 0 → ∃ σ', f_X12_body (nI lw) (nI (B + 1 + 4 * n)) σ = some (nI (sumP K (OA K V lw 300 8).1 300 p).1, σ') ∧ σ'.1 0 8 = nI (P (sumP K (OA K V lw 300 8).1 300 p).2.1) ∧ fr Smp σ σ' ∧ frT B σ σ') := by
  have e : f_X12_body (nI lw) (nI (B + 1 + 4 * n)) σ = bnd (f_X12_lawClause (nI (B + 1 + 4 * n)) σ) fun r6 σ5 => some (r6, σ5) := by
    have cs : lw = 0 ∨ lw = 1 ∨ lw = 2 := by omega
    rcases cs with rfl | rfl | rfl <;> rfl
  obtain ⟨τ, hτ⟩ : ∃ τ, τ = wI σ 3 (B + 1 + 4 * n + 1) (nI c0.length) := ⟨_, rfl⟩
  have fτ : fr (fun x j => x = 3 ∧ j = B + 1 + 4 * n + 1) σ τ := by
    rw [hτ]
    exact fr.w ⟨rfl, rfl⟩
  have o0 : ∀ j, τ.1 0 j = σ.1 0 j := fun j => fτ.1 _ _ (by omega)
  have S := m_summed (σ := τ) (p := p) (c0 := c0) hnx hK50 hK hV hB hlw hp (hT.of (fun j _ => o0 j) (fun j => fτ.1 _ _ (by omega)) (by rw [hτ]; rfl)) ((o0 _).trans h12) ((o0 _).trans h13) ((o0 _).trans h14) (hC.of (fun j hj1 _ => fτ.1 _ _ (by omega))) hc
  have el : ∀ (r : Int32) (u : Sg), f_X12_summed τ = some (r, u) → f_X12_body (nI lw) (nI (B + 1 + 4 * n)) σ = some (r, wI u 3 (B + 1 + 4 * n + 2) (u.1 0 13)) := by
    intro r u h
    rw [e]
    unfold f_X12_lawClause
    rw [show (nI (B + 1 + 4 * n) + 1) = nI (B + 1 + 4 * n + 1) from nI_add _ _, show (nI (B + 1 + 4 * n) + 2) = nI (B + 1 + 4 * n + 2) from nI_add _ _, grd_of (by rw [e_inb (by omega) (by decide)]; rfl), e_ix (by omega), h13, e_lt, ← hτ, h, e_bnd, grd_of (by rw [e_inb (by omega) (by decide)]; rfl), e_ix (by omega), e_lt, e_bnd]
  obtain ⟨r, hr⟩ : ∃ r, r = sumP K (OA K V lw 300 8).1 300 p := ⟨_, rfl⟩
  rw [← hr] at S ⊢
  refine ⟨fun z => ?_, fun z => ?_⟩
  · obtain ⟨s1, s2, u, u1, u2, u3, u4, u5, u6⟩ := S.1 z
    refine ⟨s1, s2, _, el _ u u1, u2.of (fun j _ => e_ne1 (by decide)) (fun j => e_ne1 (by decide)) rfl, by rw [e_ne1 (by decide)]; exact u3, u4.of (fun j _ _ => e_ne2 (by omega)), ((fτ.mono (fun x j q => by omega)).trans u5).trans (fr.w (by omega)), fun j hj1 hj2 hj3 => ?_, ?_, ?_⟩
    · rw [e_ne2 hj3, u6 j hj1, fτ.1 _ _ (by omega)]
    · rw [e_ne2 (by omega), u6 _ (by omega), hτ, e_hit]
    · rw [e_hit]
      exact u3
  · obtain ⟨u, u1, u2, u3, u4⟩ := S.2 z
    refine ⟨_, el _ u u1, by rw [e_ne1 (by decide)]; exact u2, ((fτ.mono (fun x j q => by omega)).trans u3).trans (fr.w (by omega)), fun j hj => ?_⟩
    rw [e_ne2 (by omega), u4 j (by omega), fτ.1 _ _ (by omega)]
