/-! dawn: who gives to one; the method -/
abbrev S12 : Nat → Nat → Prop := fun a _ => a = 12
theorem RM.of {σ σ' : Sg} {A r : Nat → Nat} (h : RM σ A r) (e : ∀ j, σ'.1 12 j = σ.1 12 j) : RM σ' A r := fun g hg => by rw [e]; exact h g hg
theorem nu_given {A r : Nat → Nat} {T d h : Nat} {v : Nat} (hd : h + d = 8) (hT : T = Oh (fires A 0 0) h) (hv : isD (mayO A) r T v) : pc8 T - v = (sol (mayO A) d h r).1 := by
  subst hT
  have := nu_D (f := mayO A) (O := fires A 0 0) (fun k _ q => by
    unfold mayO
    rw [if_neg (by rw [q]; decide)]) d h hd r v hv
  omega
theorem Oh_fires {A : Nat → Nat} {h : Nat} : ∀ k, k < 8 → (Oh (fires A 0 0) h).testBit k = true → (fires A 0 0).testBit k = true := fun k hk q => by
  rw [Oh_bit hk, Bool.and_eq_true] at q
  exact q.1
theorem m_giverOf {σ : Sg} {A r : Nat → Nat} {E : Nat} (hM : MA σ A) (c8 : A 0 ≤ 8) (hRR : BR A) (hE : E ≤ 8) (hr : ∀ g, g < 8 → r g ≤ E) (hR : RM σ A r) {d h : Nat} (hd : h + (d + 1) = 8) (hO : (fires A 0 0).testBit h = true) {D : Nat} (hD : D = (sol (mayO A) (d + 1) h r).1) : ∃ p σ', f_X12_giverOf (nI h) (nI (Oh (fires A 0 0) (h + 1))) (nI D) σ = some (p, σ') ∧ fr S12 σ σ' ∧ ((∃ g, g < 8 ∧ p = nI g ∧ ((mayO A h).testBit g = true ∧ 0 < r g) ∧ 1 + (sol (mayO A) d (h + 1) (dn r g)).1 = D ∧ (∀ k, k < g → ((mayO A h).testBit k = true ∧ 0 < r k) → 1 + (sol (mayO A) d (h + 1) (dn r k)).1 ≠ D) ∧ RM σ' A (dn r g)) ∨ (p = -1 ∧ (∀ g, g < 8 → ((mayO A h).testBit g = true ∧ 0 < r g) → 1 + (sol (mayO A) d (h + 1) (dn r g)).1 ≠ D) ∧ RM σ' A r)) := by
  have hm : mayO A h = bes A h &&& mayG A := if_pos hO
  have main : ∀ (j i : Nat), i + j = A 0 → ∀ τ, fr S12 σ τ → RM τ A r → (∀ k, k < i → ((mayO A h).testBit k = true ∧ 0 < r k) → 1 + (sol (mayO A) d (h + 1) (dn r k)).1 ≠ D) → ∀ fu, j < fu → ∃ p σ', f_X12_giverOf_3 fu (nI h) (nI (Oh (fires A 0 0) (h + 1))) (nI D) (nI i) τ = some (p, σ') ∧ fr S12 σ σ' ∧ ((∃ g, g < 8 ∧ p = nI g ∧ ((mayO A h).testBit g = true ∧ 0 < r g) ∧ 1 + (sol (mayO A) d (h + 1) (dn r g)).1 = D ∧ (∀ k, k < g → ((mayO A h).testBit k = true ∧ 0 < r k) → 1 + (sol (mayO A) d (h + 1) (dn r k)).1 ≠ D) ∧ RM σ' A (dn r g)) ∨ (p = -1 ∧ (∀ g, g < 8 → ((mayO A h).testBit g = true ∧ 0 < r g) → 1 + (sol (mayO A) d (h + 1) (dn r g)).1 ≠ D) ∧ RM σ' A r)) := by
    intro j
    induction j with
    | zero =>
      intro i hi τ f1 f2 no fu hf
      obtain ⟨f, rfl⟩ : ∃ f, fu = f + 1 := ⟨fu - 1, by omega⟩
      have hMt : MA τ A := hM.of f1 (by intro a j q; omega)
      have rt := hMt.1 0 (by decide) (by decide) (by decide)
      refine ⟨-1, τ, ?_, f1, Or.inr ⟨rfl, fun g hg fe => ?_, f2⟩⟩
      · rw [f_X12_giverOf_3]
        clear hR hr hRR no f1 f2 hMt hM
        simp (disch := omega) only [e_bnd, e_bndV, e_lt, e_grd, e_lit, e_le1, e_le2, e_lt1, e_lt2, e_eq1, e_eq2, e_inb, e_ix, nI_add, pk_mul, e_sub, e_b0, e_b1, e_bz, e_bz0, e_bz1, Bool.and_true, Bool.true_and, ↓reduceIte, not_true_eq_false, not_false_eq_true, decide_false, decide_true, and_self, and_true, true_and, and_false, false_and, Bool.false_eq_true, Bool.not_false, Bool.not_true, rt]
      · refine no g ?_ fe
        have := fe.1
        rw [hm, Nat.testBit_and, Bool.and_eq_true] at this
        have := mayG_in this.2
        omega
    | succ j ih =>
      intro i hi τ f1 f2 no fu hf
      obtain ⟨f, rfl⟩ : ∃ f, fu = f + 1 := ⟨fu - 1, by omega⟩
      have hMt : MA τ A := hM.of f1 (by intro a j q; omega)
      have rt := hMt.1 0 (by decide) (by decide) (by decide)
      have mb := m_beside hMt c8 hRR (h := h) (by omega)
      have mh := m_has (bes_lt A h) (by omega : i < 9) τ
      have r12 := f2 i (by omega)
      have ri := hr i (by omega)
      have skip : ¬ ((mayO A h).testBit i = true ∧ 0 < r i) → (∀ k, k < i + 1 → ((mayO A h).testBit k = true ∧ 0 < r k) → 1 + (sol (mayO A) d (h + 1) (dn r k)).1 ≠ D) := fun z k hk fe => by
        by_cases y : k = i
        · subst y; exact absurd fe z
        · exact no k (by omega) fe
      by_cases b1 : (bes A h).testBit i = true
      · rw [if_pos b1] at mh
        by_cases b2 : (mayG A).testBit i = true ∧ 0 < r i
        · rw [if_pos b2.1] at r12
          have fe : (mayO A h).testBit i = true ∧ 0 < r i := ⟨by rw [hm, Nat.testBit_and, b1, b2.1]; rfl, b2.2⟩
          have M2 : MA (wI τ 12 i (nI (r i - 1))) A := hMt.put0 (by decide)
          have R2 : RM (wI τ 12 i (nI (r i - 1))) A (dn r i) := fun g hg => by
            unfold dn
            by_cases y : g = i
            · subst y
              rw [e_hit, if_pos b2.1, up_hit]
            · rw [e_ne2 y, up_ne y]
              exact f2 g hg
          obtain ⟨v, v1, v2⟩ := m_givenOf M2 c8 hRR hE (dn_le hr i) R2 (Oh_lt (fires A 0 0) (h + 1)) Oh_fires
          rw [nu_given (d := d) (h := h + 1) (by omega) rfl v1] at v2
          have sl := sol_le (mayO A) d (h + 1) (dn r i)
          have sd := sol_le (mayO A) (d + 1) h r
          by_cases y : 1 + (sol (mayO A) d (h + 1) (dn r i)).1 = D
          · refine ⟨nI i, wI τ 12 i (nI (r i - 1)), ?_, f1.trans (fr.w rfl), Or.inl ⟨i, by omega, rfl, fe, y, no, R2⟩⟩
            rw [f_X12_giverOf_3]
            rw [← y]
            clear hR hr hRR no f1 f2 hMt hM ih M2 R2 v1 skip hD y
            simp (disch := omega) only [e_bnd, e_bndV, e_lt, e_grd, e_lit, e_le1, e_le2, e_lt1, e_lt2, e_eq1, e_eq2, e_inb, e_ix, nI_add, pk_mul, e_sub, e_b0, e_b1, e_bz, e_bz0, e_bz1, Bool.and_true, Bool.true_and, ↓reduceIte, not_true_eq_false, not_false_eq_true, decide_false, decide_true, and_self, and_true, true_and, and_false, false_and, Bool.false_eq_true, Bool.not_false, Bool.not_true, rt, mb, mh, r12, v2]
          · have R3 : RM (wI (wI τ 12 i (nI (r i - 1))) 12 i (nI (r i))) A r := fun g hg => by
              by_cases z : g = i
              · subst z
                rw [e_hit, if_pos b2.1]
              · rw [e_ne2 z, e_ne2 z]
                exact f2 g hg
            obtain ⟨p, u, u1, u2⟩ := ih (i + 1) (by omega) (wI (wI τ 12 i (nI (r i - 1))) 12 i (nI (r i))) (f1.trans ((fr.w (S := S12) rfl).trans (fr.w (S := S12) rfl))) R3 (fun k hk fk => by
              by_cases z : k = i
              · subst z; exact y
              · exact no k (by omega) fk) f (by omega)
            refine ⟨p, u, ?_, u2⟩
            rw [f_X12_giverOf_3]
            have ne : ¬ (nI (1 + (sol (mayO A) d (h + 1) (dn r i)).1) = nI D) := fun q => y ((nI_eq (by omega) (by omega)).mp q)
            clear hR hr hRR no f1 f2 hMt hM ih M2 R2 R3 v1 skip hD y u2
            simp (disch := omega) only [e_bnd, e_bndV, e_lt, e_grd, e_lit, e_le1, e_le2, e_lt1, e_lt2, e_eq1, e_eq2, e_inb, e_ix, nI_add, pk_mul, e_sub, e_b0, e_b1, e_bz, e_bz0, e_bz1, Bool.and_true, Bool.true_and, ↓reduceIte, not_true_eq_false, not_false_eq_true, decide_false, decide_true, and_self, and_true, true_and, and_false, false_and, Bool.false_eq_true, Bool.not_false, Bool.not_true, rt, mb, mh, r12, v2, e_hit, ne, f_X12_giverOf_76]
            rw [show r i - 1 + 1 = r i by omega]
            exact u1
        · have z : ¬ ((mayO A h).testBit i = true ∧ 0 < r i) := fun q => b2 ⟨by
            have := q.1
            rw [hm, Nat.testBit_and, Bool.and_eq_true] at this
            exact this.2, q.2⟩
          have r12z : τ.1 12 i = nI 0 := by
            rw [r12]
            by_cases y : (mayG A).testBit i = true
            · rw [if_pos y, show r i = 0 from Nat.eq_zero_of_not_pos (fun w => b2 ⟨y, w⟩)]
            · rw [if_neg y]
          obtain ⟨p, u, u1, u2⟩ := ih (i + 1) (by omega) τ f1 f2 (skip z) f (by omega)
          refine ⟨p, u, ?_, u2⟩
          rw [f_X12_giverOf_3]
          clear hR hr hRR no f1 f2 hMt hM ih skip hD u2 r12
          simp (disch := omega) only [e_bnd, e_bndV, e_lt, e_grd, e_lit, e_le1, e_le2, e_lt1, e_lt2, e_eq1, e_eq2, e_inb, e_ix, nI_add, pk_mul, e_sub, e_b0, e_b1, e_bz, e_bz0, e_bz1, Bool.and_true, Bool.true_and, ↓reduceIte, not_true_eq_false, not_false_eq_true, decide_false, decide_true, and_self, and_true, true_and, and_false, false_and, Bool.false_eq_true, Bool.not_false, Bool.not_true, rt, mb, mh, r12z, f_X12_giverOf_76]
          exact u1
      · have z : ¬ ((mayO A h).testBit i = true ∧ 0 < r i) := fun q => b1 (by
          have := q.1
          rw [hm, Nat.testBit_and, Bool.and_eq_true] at this
          exact this.1)
        rw [if_neg b1] at mh
        obtain ⟨p, u, u1, u2⟩ := ih (i + 1) (by omega) τ f1 f2 (skip z) f (by omega)
        refine ⟨p, u, ?_, u2⟩
        rw [f_X12_giverOf_3]
        clear hR hr hRR no f1 f2 hMt hM ih skip hD u2 r12
        simp (disch := omega) only [e_bnd, e_bndV, e_lt, e_grd, e_lit, e_le1, e_le2, e_lt1, e_lt2, e_eq1, e_eq2, e_inb, e_ix, nI_add, pk_mul, e_sub, e_b0, e_b1, e_bz, e_bz0, e_bz1, Bool.and_true, Bool.true_and, ↓reduceIte, not_true_eq_false, not_false_eq_true, decide_false, decide_true, and_self, and_true, true_and, and_false, false_and, Bool.false_eq_true, Bool.not_false, Bool.not_true, rt, mb, mh, f_X12_giverOf_76]
        exact u1
  unfold f_X12_giverOf
  simp (disch := omega) only [e_lit]
  exact main (A 0) 0 (by omega) σ fr.rfl hR (fun k hk => absurd hk (by omega)) FU (by unfold FU; omega)
theorem Oh_tk {O h : Nat} (hO : O < 256) (hh : h < 8) : nI (Oh O h) &&& (nI (2 ^ h) ^^^ (-1 : Int32)) = nI (Oh O (h + 1)) := by
  have x : ∀ h, h < 8 → ∀ m, m < 256 → nI m &&& (nI (2 ^ h) ^^^ (-1 : Int32)) = nI (m &&& (255 ^^^ 2 ^ h)) := by decide +kernel
  rw [x h hh _ (Oh_lt _ _)]
  congr 1
  show tkh h (Oh O h) = _
  refine bit_eq (tk_lt (Oh_lt _ _)) (Oh_lt _ _) fun i hi => ?_
  rw [tk_bit hh hi, Oh_bit hi, Oh_bit hi, Bool.and_assoc]
  congr 1
  by_cases z : i = h
  · subst z
    rw [decide_eq_false (show ¬ (i ≠ i) from fun y => y rfl), Bool.and_false, decide_eq_false (by omega)]
  · rw [decide_eq_true z, Bool.and_true]
    by_cases y : h ≤ i
    · rw [decide_eq_true y, decide_eq_true (by omega)]
    · rw [decide_eq_false y, decide_eq_false (by omega)]
theorem m_dawn91 {σ : Sg} {A : Nat → Nat} {E e : Nat} (hM : MA σ A) (c8 : A 0 ≤ 8) (hRR : BR A) (hE : E ≤ 8) (he : e < 8) (hO : (fires A 0 0).testBit e = true) (R : Nat → Int32) : ∀ (d h : Nat), h + d = 8 → h ≤ e + 1 → ∀ (τ : Sg) (r : Nat → Nat) (v : Int32), fr S12 σ τ → (∀ g, g < 8 → r g ≤ E) → RM τ A r → (∀ j, h ≤ j → j < 8 → R j = (sol (mayO A) d h r).2 j) → (h = e + 1 → v = R e) → ∀ fu, d < fu → ∃ σ', f_X12_dawn_91 fu (nI e) (nI (Oh (fires A 0 0) h)) (nI (sol (mayO A) d h r).1) v (nI h) τ = some (R e, σ') ∧ fr S12 σ σ' := by
  intro d
  induction d with
  | zero =>
    intro h hd hh τ r v f1 hr f2 hp hv fu hf
    obtain ⟨f, rfl⟩ : ∃ f, fu = f + 1 := ⟨fu - 1, by omega⟩
    refine ⟨τ, ?_, f1⟩
    rw [← hv (by omega), f_X12_dawn_91]
    clear hRR hr f2 hp
    simp (disch := omega) only [e_bnd, e_bndV, e_lt, e_grd, e_lit, e_le1, e_le2, e_lt1, e_lt2, e_eq1, e_eq2, e_inb, e_ix, nI_add, pk_mul, e_sub, e_b0, e_b1, e_bz, e_bz0, e_bz1, Bool.and_true, Bool.true_and, ↓reduceIte, not_true_eq_false, not_false_eq_true, decide_false, decide_true, and_self, and_true, true_and, and_false, false_and, Bool.false_eq_true, Bool.not_false, Bool.not_true]
  | succ d ih =>
    intro h hd hh τ r v f1 hr f2 hp hv fu hf
    obtain ⟨f, rfl⟩ : ∃ f, fu = f + 1 := ⟨fu - 1, by omega⟩
    by_cases z : h = e + 1
    · refine ⟨τ, ?_, f1⟩
      rw [← hv z, f_X12_dawn_91]
      clear hRR hr f2 hp hv ih
      simp (disch := omega) only [e_bnd, e_bndV, e_lt, e_grd, e_lit, e_le1, e_le2, e_lt1, e_lt2, e_eq1, e_eq2, e_inb, e_ix, nI_add, pk_mul, e_sub, e_b0, e_b1, e_bz, e_bz0, e_bz1, Bool.and_true, Bool.true_and, ↓reduceIte, not_true_eq_false, not_false_eq_true, decide_false, decide_true, and_self, and_true, true_and, and_false, false_and, Bool.false_eq_true, Bool.not_false, Bool.not_true]
    · have hMt : MA τ A := hM.of f1 (by intro a j q; omega)
      have mh := m_has (Oh_lt (fires A 0 0) h) (by omega : h < 9) τ
      have bit : (Oh (fires A 0 0) h).testBit h = (fires A 0 0).testBit h := by rw [Oh_bit (by omega), decide_eq_true (Nat.le_refl _), Bool.and_true]
      rw [bit] at mh
      have sd := sol_le (mayO A) (d + 1) h r
      have pk := sol_pick (mayO A) d h r
      by_cases y : (fires A 0 0).testBit h = true
      · rw [if_pos y] at mh
        have ot : nI (Oh (fires A 0 0) h) &&& (nI (2 ^ h) ^^^ -nI 1) = nI (Oh (fires A 0 0) (h + 1)) := Oh_tk (O := fires A 0 0) (mk8 _ c8) (h := h) (by omega)
        have sh := sh1 h (by omega)
        obtain ⟨p, u, u1, u2, u3⟩ := m_giverOf hMt c8 hRR hE hr f2 (d := d) (h := h) (by omega) y rfl
        rcases u3 with ⟨g, g1, g2, g3, g4, g5, g6⟩ | ⟨g2, g3, g6⟩
        · subst g2
          rcases pk with ⟨k, k1, k2, k3, k4, k5⟩ | ⟨k1, _, _⟩
          · have kg : k = g := by
              rcases Nat.lt_trichotomy k g with w | w | w
              · exact absurd k3 (g5 k w k2)
              · exact w
              · exact absurd g4 (k4 g w g3)
            subst kg
            obtain ⟨s, s1, s2⟩ := ih (h + 1) (by omega) (by omega) u (dn r k) (nI k) (f1.trans u2) (dn_le hr k) g6 (fun j j1 j2 => by
              rw [hp j (by omega) j2, k5]
              exact if_neg (by omega)) (fun w => by
              rw [show e = h by omega, hp h (Nat.le_refl _) (by omega), k5]
              exact (if_pos rfl).symm) f (by omega)
            refine ⟨s, ?_, s2⟩
            have el : (sol (mayO A) (d + 1) h r).1 - 1 = (sol (mayO A) d (h + 1) (dn r k)).1 := by omega
            rw [f_X12_dawn_91]
            have nk : ¬ (nI k = -nI 1) := by
              have := e_m1n k (by omega)
              intro w
              rw [this] at w
              exact w
            have lt : ¬ (nI e < nI h) := nI_nlt (by omega) (by omega)
            rw [if_neg lt, mh, e_bnd, if_neg (by decide), show (1 : Int32) = nI 1 from rfl, sh, ot, u1, e_bnd, if_neg nk]
            unfold f_X12_dawn_142 f_X12_dawn_145
            rw [show (nI (sol (mayO A) (d + 1) h r).1 - nI 1) = nI (sol (mayO A) d (h + 1) (dn r k)).1 by rw [e_sub (by omega), el], show (nI h + 1) = nI (h + 1) from nI_add _ _]
            exact s1
          · exact absurd g4 (k1 g g1 g3)
        · subst g2
          rcases pk with ⟨k, k1, k2, k3, k4, k5⟩ | ⟨k1, k2, k3⟩
          · exact absurd k3 (g3 k k1 k2)
          · obtain ⟨s, s1, s2⟩ := ih (h + 1) (by omega) (by omega) u r (-1) (f1.trans u2) hr g6 (fun j j1 j2 => by
              rw [hp j (by omega) j2, k3]) (fun w => by
              rw [show e = h by omega, hp h (Nat.le_refl _) (by omega), k3]
              exact (sol_low (mayO A) d (h + 1) r h (by omega)).symm) f (by omega)
            refine ⟨s, ?_, s2⟩
            rw [f_X12_dawn_91]
            have lt : ¬ (nI e < nI h) := nI_nlt (by omega) (by omega)
            rw [if_neg lt, mh, e_bnd, if_neg (by decide), show (1 : Int32) = nI 1 from rfl, sh, ot, u1, e_bnd, if_pos (show (-1 : Int32) = -nI 1 from rfl)]
            unfold f_X12_dawn_142 f_X12_dawn_145
            rw [show (nI (sol (mayO A) (d + 1) h r).1 - 0) = nI (sol (mayO A) d (h + 1) r).1 by rw [show (0 : Int32) = nI 0 from rfl, e_sub (by omega), k2, Nat.sub_zero], show (nI h + 1) = nI (h + 1) from nI_add _ _]
            exact s1
      · rw [if_neg y] at mh
        have mz : mayO A h = 0 := if_neg y
        rcases pk with ⟨k, k1, k2, _⟩ | ⟨_, k2, k3⟩
        · rw [mz, Nat.zero_testBit] at k2
          exact absurd k2.1 (by decide)
        · obtain ⟨s, s1, s2⟩ := ih (h + 1) (by omega) (by omega) τ r v f1 hr f2 (fun j j1 j2 => by
            rw [hp j (by omega) j2, k3]) (fun w => by
            exfalso
            rw [show h = e by omega] at y
            exact y hO) f (by omega)
          refine ⟨s, ?_, s2⟩
          rw [f_X12_dawn_91]
          have lt : ¬ (nI e < nI h) := nI_nlt (by omega) (by omega)
          rw [if_neg lt, mh, e_bnd, if_pos (show nI 0 = 0 from rfl)]
          unfold f_X12_dawn_145
          rw [Oh_0 (Bool.eq_false_iff.mpr y), k2, show (1 : Int32) = nI 1 from rfl, nI_add]
          exact s1
