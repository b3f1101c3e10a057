/-! began: the class's interval -/
def ea (A : Nat → Nat) (h : Nat) : Nat → Nat
  | 0 => 0
  | i + 1 => if A (138 + 3 * i + 2) = 1 then max (ea A h i) (A (138 + 3 * i + 1) - hp A (8 * h + A (138 + 3 * i))) else max (ea A h i) (A (138 + 3 * i + 1) + 1 - hp A (8 * h + A (138 + 3 * i)))
def la (A : Nat → Nat) (h : Nat) : Nat → Int
  | 0 => 99
  | i + 1 => if A (138 + 3 * i + 2) = 1 then min (la A h i) ((A (138 + 3 * i + 1) : Int) - (hp A (8 * h + A (138 + 3 * i)) : Int)) else la A h i
theorem ea_le {A : Nat → Nat} {h : Nat} (hS : ∀ i, i < A 4 → A (138 + 3 * i) < A 0 ∧ A (138 + 3 * i + 1) ≤ 99) : ∀ i, i ≤ A 4 → ea A h i ≤ 100
  | 0, _ => Nat.zero_le _
  | i + 1, hi => by
    have ih := ea_le (h := h) hS i (by omega)
    have s := (hS i (by omega)).2
    unfold ea
    split <;> omega
theorem la_le {A : Nat → Nat} (hR : BR A) {h : Nat} (hS : ∀ i, i < A 4 → A (138 + 3 * i) < A 0 ∧ A (138 + 3 * i + 1) ≤ 99) : ∀ i, i ≤ A 4 → -1000000 ≤ la A h i ∧ la A h i ≤ 99
  | 0, _ => (by decide : (-1000000 : Int) ≤ 99 ∧ (99 : Int) ≤ 99)
  | i + 1, hi => by
    have ih := la_le hR (h := h) hS i (by omega)
    have s := (hS i (by omega)).2
    have b1 := hp_le hR (8 * h + A (138 + 3 * i))
    unfold la
    split <;> omega
theorem iI_max {a b : Int} (ha : -2147483648 ≤ a ∧ a < 2147483648) (hb : -2147483648 ≤ b ∧ b < 2147483648) : imax (iI a) (iI b) = iI (max a b) := by
  have q := iI_lt ha hb
  unfold imax
  by_cases z : a < b
  · rw [if_pos (q ▸ z), show max a b = b by omega]
  · rw [if_neg (fun y => z (q ▸ y)), show max a b = a by omega]
theorem iI_min {a b : Int} (ha : -2147483648 ≤ a ∧ a < 2147483648) (hb : -2147483648 ≤ b ∧ b < 2147483648) : imin (iI a) (iI b) = iI (min a b) := by
  have q := iI_lt hb ha
  unfold imin
  by_cases z : b < a
  · rw [if_pos (q ▸ z), show min a b = b by omega]
  · rw [if_neg (fun y => z (q ▸ y)), show min a b = a by omega]
abbrev S67 : Nat → Nat → Prop := fun a j => a = 67 ∧ (j = 2 ∨ j = 3)
theorem x_between {σ : Sg} {A : Nat → Nat} (hH : ∀ x, x < 64 → σ.1 60 x = nI (hp A x)) {h e : Nat} (hh : h < 8) (he : e < 8) : f_X9_between (nI h) (nI e) σ = some (nI (hp A (8 * h + e)), σ) := by
  have q := hH (h * 8 + e) (by omega)
  have e8 : h * 8 + e = 8 * h + e := by omega
  rw [← e8]
  unfold f_X9_between
  simp (disch := omega) only [e_bnd, e_bndV, e_lt, e_grd, e_lit, e_le1, e_le2, e_lt1, e_lt2, e_eq1, e_eq2, e_inb, e_ix, nI_add, pk_mul, e_sub, e_b0, e_b1, e_bz, e_bz0, e_bz1, Bool.and_true, Bool.true_and, ↓reduceIte, not_true_eq_false, not_false_eq_true, decide_false, decide_true, and_self, and_true, true_and, and_false, false_and, Bool.false_eq_true, Bool.not_false, Bool.not_true, q]
theorem x_narrow {σ : Sg} {A : Nat → Nat} (hO : XO σ 1 A) (hW : WF A) (hH : ∀ x, x < 64 → σ.1 60 x = nI (hp A x)) {h : Nat} (hh : h < 8) : ∃ σ', (σ'.1 67 2 = nI (ea A h (A 4)) ∧ σ'.1 67 3 = iI (la A h (A 4)) ∧ fr S67 σ σ' ∧ σ'.2 = σ.2) ∧ f_X2_narrow 1 (nI h) σ = some σ' := by
  have c8 := hW.1.1
  have hR := hW.2.2.1
  have a8 := hW.2.2.2.2.2.2.1
  have hS := hW.2.2.2.2.2.2.2.2.1
  have hC := hW.2.2.2.2.2.2.2.2.2.1
  have o4 := hO.2.2.1
  have oS := hO.2.2.2.2.2.1
  unfold f_X2_narrow
  simp (disch := omega) only [e_lit, e_lt]
  refine lpI (fun fu (q : Int32 × Sg) => f_X2_narrow_14 1 fu (nI h) q.1 q.2) (fun i q => q.1 = nI i ∧ q.2.1 67 2 = nI (ea A h i) ∧ q.2.1 67 3 = iI (la A h i) ∧ fr S67 σ q.2 ∧ q.2.2 = σ.2) (A 4) (fun r => ∃ σ', (σ'.1 67 2 = nI (ea A h (A 4)) ∧ σ'.1 67 3 = iI (la A h (A 4)) ∧ fr S67 σ σ' ∧ σ'.2 = σ.2) ∧ r = some σ') (fun i hi q hq => ?_) (fun q hq fu => ?_) FU (by unfold FU; omega) (nI 0, wI (wI σ 67 2 (nI 0)) 67 3 (nI 99)) ⟨rfl, ?_, ?_, (fr.w ⟨rfl, Or.inl rfl⟩).trans (fr.w ⟨rfl, Or.inr rfl⟩), rfl⟩
  · obtain ⟨v, t⟩ := q
    obtain ⟨q1, q2, q3, q4, q5⟩ := hq
    dsimp only at q1 q2 q3 q4 q5
    subst q1
    have h4 : t.1 1 11 = nI (A 4) := by rw [q4.1 _ _ (by omega)]; exact o4
    have s0 : t.1 16 i = nI (A (138 + 3 * i)) := by rw [q4.1 _ _ (by omega)]; exact (oS i (by omega)).1
    have s1 : t.1 17 i = nI (A (138 + 3 * i + 1)) := by rw [q4.1 _ _ (by omega)]; exact (oS i (by omega)).2.1
    have s2 : t.1 18 i = nI (A (138 + 3 * i + 2)) := by rw [q4.1 _ _ (by omega)]; exact (oS i (by omega)).2.2
    have hHt : ∀ x, x < 64 → t.1 60 x = nI (hp A x) := fun x hx => by rw [q4.1 _ _ (by omega)]; exact hH x hx
    obtain ⟨b1, b2⟩ := hS i hi
    have b3 := hC i (by omega)
    have be := x_between hHt (h := h) (e := A (138 + 3 * i)) hh (by omega)
    have bp := hp_le hR (8 * h + A (138 + 3 * i))
    have bl := la_le hR (h := h) hS i (by omega)
    have bE := ea_le (h := h) hS i (by omega)
    clear hH hHt hS hC oS hO hW hR
    have hM1 : nI (A (138 + 3 * i + 1)) - nI (hp A (8 * h + A (138 + 3 * i))) = iI ((A (138 + 3 * i + 1) : Int) - (hp A (8 * h + A (138 + 3 * i)) : Int)) := by rw [← iI_n, ← iI_n, iI_sub]
    have hM2 : iI ((A (138 + 3 * i + 1) : Int) - (hp A (8 * h + A (138 + 3 * i)) : Int)) + nI 1 = iI ((A (138 + 3 * i + 1) : Int) - (hp A (8 * h + A (138 + 3 * i)) : Int) + 1) := by rw [← iI_n, iI_add]; rfl
    by_cases z : A (138 + 3 * i + 2) = 1
    · have ee : ea A h (i + 1) = max (ea A h i) (A (138 + 3 * i + 1) - hp A (8 * h + A (138 + 3 * i))) := if_pos z
      have el : la A h (i + 1) = min (la A h i) ((A (138 + 3 * i + 1) : Int) - (hp A (8 * h + A (138 + 3 * i)) : Int)) := if_pos z
      refine ⟨(nI (i + 1), wI (wI t 67 2 (nI (ea A h (i + 1)))) 67 3 (iI (la A h (i + 1)))), ⟨rfl, ?_, e_hit, (q4.trans (fr.w ⟨rfl, Or.inl rfl⟩)).trans (fr.w ⟨rfl, Or.inr rfl⟩), q5⟩, fun fu => ?_⟩
      · rw [e_ne2 (by decide), e_hit]
      · have m1 : imax (nI (ea A h i)) (iI ((A (138 + 3 * i + 1) : Int) - (hp A (8 * h + A (138 + 3 * i)) : Int))) = nI (ea A h (i + 1)) := by
          rw [← iI_n, iI_max (by omega) (by omega), ← iI_n]
          congr 1
          omega
        have m2 : imin (iI (la A h i)) (iI ((A (138 + 3 * i + 1) : Int) - (hp A (8 * h + A (138 + 3 * i)) : Int))) = iI (la A h (i + 1)) := by
          rw [iI_min (by omega) (by omega), el]
        dsimp only
        rw [f_X2_narrow_14]
        clear ee el q4
        simp (disch := omega) only [e_bnd, e_bndV, e_lt, e_grd, e_lit, e_le1, e_le2, e_lt1, e_lt2, e_eq1, e_eq2, e_inb, e_ix, nI_add, pk_mul, e_sub, e_b0, e_b1, e_bz, e_bz0, e_bz1, Bool.and_true, Bool.true_and, ↓reduceIte, not_true_eq_false, not_false_eq_true, decide_false, decide_true, and_self, and_true, true_and, and_false, false_and, Bool.false_eq_true, Bool.not_false, Bool.not_true, h4, s0, s1, s2, be, z, q2, q3, hM1, m1, e_ne2, m2, f_X2_narrow_103]
    · have ee : ea A h (i + 1) = max (ea A h i) (A (138 + 3 * i + 1) + 1 - hp A (8 * h + A (138 + 3 * i))) := if_neg z
      have el : la A h (i + 1) = la A h i := if_neg z
      have z0 : A (138 + 3 * i + 2) = 0 := by omega
      refine ⟨(nI (i + 1), wI t 67 2 (nI (ea A h (i + 1)))), ⟨rfl, e_hit, ?_, q4.trans (fr.w ⟨rfl, Or.inl rfl⟩), q5⟩, fun fu => ?_⟩
      · rw [e_ne2 (by decide), el]; exact q3
      · have m1 : imax (nI (ea A h i)) (iI ((A (138 + 3 * i + 1) : Int) - (hp A (8 * h + A (138 + 3 * i)) : Int) + 1)) = nI (ea A h (i + 1)) := by
          rw [← iI_n, iI_max (by omega) (by omega), ← iI_n]
          congr 1
          omega
        dsimp only
        rw [f_X2_narrow_14]
        clear ee el q4
        simp (disch := omega) only [e_bnd, e_bndV, e_lt, e_grd, e_lit, e_le1, e_le2, e_lt1, e_lt2, e_eq1, e_eq2, e_inb, e_ix, nI_add, pk_mul, e_sub, e_b0, e_b1, e_bz, e_bz0, e_bz1, Bool.and_true, Bool.true_and, ↓reduceIte, not_true_eq_false, not_false_eq_true, decide_false, decide_true, and_self, and_true, true_and, and_false, false_and, Bool.false_eq_true, Bool.not_false, Bool.not_true, h4, s0, s1, s2, be, z0, q2, q3, hM1, hM2, m1, f_X2_narrow_103]
  · obtain ⟨v, t⟩ := q
    obtain ⟨q1, q2, q3, q4, q5⟩ := hq
    dsimp only at q1 q2 q3 q4 q5
    subst q1
    have h4 : t.1 1 11 = nI (A 4) := by rw [q4.1 _ _ (by omega)]; exact o4
    refine ⟨t, ⟨q2, q3, q4, q5⟩, ?_⟩
    clear hH hS hC oS hO hW hR
    dsimp only
    rw [f_X2_narrow_14]
    simp (disch := omega) only [e_bnd, e_bndV, e_lt, e_grd, e_lit, e_le1, e_le2, e_lt1, e_lt2, e_eq1, e_eq2, e_inb, e_ix, nI_add, pk_mul, e_sub, e_b0, e_b1, e_bz, e_bz0, e_bz1, Bool.and_true, Bool.true_and, ↓reduceIte, not_true_eq_false, not_false_eq_true, decide_false, decide_true, and_self, and_true, true_and, and_false, false_and, Bool.false_eq_true, Bool.not_false, Bool.not_true, h4]
  · rw [e_ne2 (by decide), e_hit]
    rfl
  · rw [e_hit]
    rfl
theorem bgs_iff {A : Nat → Nat} {h t : Nat} : ∀ d i, bgs A h t d i = true ↔ ∀ j, i ≤ j → j < i + d → bg A h t j = true
  | 0, i => ⟨fun _ j h1 h2 => absurd h2 (by omega), fun _ => rfl⟩
  | d + 1, i => by
    have e : bgs A h t (d + 1) i = (bg A h t i && bgs A h t d (i + 1)) := rfl
    rw [e, Bool.and_eq_true, bgs_iff d (i + 1)]
    constructor
    · rintro ⟨a, b⟩ j h1 h2
      by_cases z : j = i
      · subst z; exact a
      · exact b j (by omega) (by omega)
    · intro a
      exact ⟨a i (by omega) (by omega), fun j h1 h2 => a j (by omega) (by omega)⟩
theorem el_iff {A : Nat → Nat} {h t : Nat} (ht : t < 100) : ∀ k, (ea A h k ≤ t ∧ (t : Int) ≤ la A h k) ↔ ∀ j, j < k → bg A h t j = true
  | 0 => ⟨fun _ j hj => absurd hj (by omega), fun _ => ⟨Nat.zero_le _, show (t : Int) ≤ 99 by omega⟩⟩
  | k + 1 => by
    have ih := el_iff (A := A) (h := h) ht k
    have hb : bg A h t k = if A (138 + 3 * k + 2) = 1 then decide (t + hp A (8 * h + A (138 + 3 * k)) = A (138 + 3 * k + 1)) else decide (A (138 + 3 * k + 1) < t + hp A (8 * h + A (138 + 3 * k))) := rfl
    have sp : (∀ j, j < k + 1 → bg A h t j = true) ↔ (∀ j, j < k → bg A h t j = true) ∧ bg A h t k = true := by
      constructor
      · intro a
        exact ⟨fun j hj => a j (by omega), a k (by omega)⟩
      · rintro ⟨a, b⟩ j hj
        by_cases z : j = k
        · subst z; exact b
        · exact a j (by omega)
    rw [sp, ← ih, hb]
    clear ih sp hb
    by_cases z : A (138 + 3 * k + 2) = 1
    · have ee : ea A h (k + 1) = max (ea A h k) (A (138 + 3 * k + 1) - hp A (8 * h + A (138 + 3 * k))) := if_pos z
      have el : la A h (k + 1) = min (la A h k) ((A (138 + 3 * k + 1) : Int) - (hp A (8 * h + A (138 + 3 * k)) : Int)) := if_pos z
      rw [if_pos z, ee, el, decide_eq_true_eq]
      omega
    · have ee : ea A h (k + 1) = max (ea A h k) (A (138 + 3 * k + 1) + 1 - hp A (8 * h + A (138 + 3 * k))) := if_neg z
      have el : la A h (k + 1) = la A h k := if_neg z
      rw [if_neg z, ee, el, decide_eq_true_eq]
      omega
theorem bgs_el {A : Nat → Nat} {h t : Nat} (ht : t < 100) : bgs A h t (A 4) 0 = true ↔ ea A h (A 4) ≤ t ∧ (t : Int) ≤ la A h (A 4) := by
  rw [bgs_iff, el_iff ht]
  exact ⟨fun a j hj => a j (by omega) (by omega), fun a j _ hj => a j (by omega)⟩
theorem ct_el {A : Nat → Nat} {h : Nat} : ∀ t, t ≤ 100 → ct A h t = min t (la A h (A 4) + 1).toNat - ea A h (A 4)
  | 0, _ => by
    show 0 = _
    omega
  | t + 1, ht => by
    have ih := ct_el (A := A) (h := h) t (by omega)
    have q := bgs_el (A := A) (h := h) (t := t) (by omega)
    show (if bgs A h t (A 4) 0 = true then ct A h t + 1 else ct A h t) = _
    by_cases z : bgs A h t (A 4) 0 = true
    · rw [if_pos z]
      have := q.mp z
      omega
    · rw [if_neg z]
      have : ¬ (ea A h (A 4) ≤ t ∧ (t : Int) ≤ la A h (A 4)) := fun y => z (q.mpr y)
      omega
theorem x_hoursFrom {σ : Sg} {A : Nat → Nat} (hO : XO σ 1 A) (hW : WF A) (hH : ∀ x, x < 64 → σ.1 60 x = nI (hp A x)) {h N : Nat} (hh : h < 8) (hN : N = 100) : ∃ σ', fr S67 σ σ' ∧ f_X2_hoursFrom 1 (nI h) σ = some (nI (ct A h N), σ') := by
  obtain ⟨s, ⟨a1, a2, a3, _⟩, a4⟩ := x_narrow hO hW hH hh
  refine ⟨s, a3, ?_⟩
  have hR := hW.2.2.1
  have hS := hW.2.2.2.2.2.2.2.2.1
  have bl := la_le hR (h := h) hS (A 4) (Nat.le_refl _)
  have bE := ea_le (h := h) hS (A 4) (Nat.le_refl _)
  have e := ct_el (A := A) (h := h) N (by omega)
  have m : imax (nI 0) (iI (la A h (A 4)) - nI (ea A h (A 4)) + nI 1) = nI (ct A h N) := by
    rw [← iI_n, ← iI_n, ← iI_n, iI_sub, iI_add, iI_max (by omega) (by omega), ← iI_n]
    congr 1
    omega
  unfold f_X2_hoursFrom
  rw [a4]
  simp (disch := omega) only [e_bndV, e_lit, a1, a2, m]
theorem x_began63 {σ : Sg} {A : Nat → Nat} (hO : XO σ 1 A) (hW : WF A) (x0 : σ.1 2 0 = nI (A 0)) (hH : ∀ x, x < 64 → σ.1 60 x = nI (hp A x)) {N : Nat} (hN : N = 100) : ∃ σ', fr S67 σ σ' ∧ f_X11_began_63 FU (nI 0) (nI 0) σ = some (nI (mk (A 0) fun h => decide (0 < ct A h N)), σ') := by
  have c8 := hW.1.1
  refine lpI (fun fu (q : Int32 × Int32 × Sg) => f_X11_began_63 fu q.1 q.2.1 q.2.2) (fun i q => q.1 = nI (mk i fun h => decide (0 < ct A h N)) ∧ q.2.1 = nI i ∧ fr S67 σ q.2.2) (A 0) (fun r => ∃ σ', fr S67 σ σ' ∧ r = some (nI (mk (A 0) fun h => decide (0 < ct A h N)), σ')) (fun i hi q hq => ?_) (fun q hq fu => ?_) FU (by unfold FU; omega) (nI 0, nI 0, σ) ⟨rfl, rfl, fr.rfl⟩
  · obtain ⟨v, w, t⟩ := q
    obtain ⟨q1, q2, q3⟩ := hq
    dsimp only at q1 q2 q3
    subst q1 q2
    have y0 : t.1 2 0 = nI (A 0) := by rw [q3.1 _ _ (by omega)]; exact x0
    obtain ⟨s, a1, a2⟩ := x_hoursFrom (σ := t) (hO.of (fun a j q => q3.1 _ _ (by omega))) hW (fun x hx => by rw [q3.1 _ _ (by omega)]; exact hH x hx) (h := i) (by omega) hN
    refine ⟨(nI (mk (i + 1) fun h => decide (0 < ct A h N)), nI (i + 1), s), ⟨rfl, rfl, q3.trans a1⟩, fun fu => ?_⟩
    have le := ct_le A i N
    clear hH hW hO
    dsimp only
    rw [f_X11_began_63]
    by_cases z : 0 < ct A i N
    · rw [mk_1 (by rw [decide_eq_true z])]
      simp (disch := omega) only [e_bnd, e_bndV, e_lt, e_grd, e_lit, e_le1, e_le2, e_lt1, e_lt2, e_eq1, e_eq2, e_inb, e_ix, nI_add, pk_mul, e_sub, e_b0, e_b1, e_bz, e_bz0, e_bz1, Bool.and_true, Bool.true_and, ↓reduceIte, not_true_eq_false, not_false_eq_true, decide_false, decide_true, and_self, and_true, true_and, and_false, false_and, Bool.false_eq_true, Bool.not_false, Bool.not_true, y0, a2, f_X11_began_102, sh1, or_I]
    · rw [mk_0 (by rw [decide_eq_false z])]
      simp (disch := omega) only [e_bnd, e_bndV, e_lt, e_grd, e_lit, e_le1, e_le2, e_lt1, e_lt2, e_eq1, e_eq2, e_inb, e_ix, nI_add, pk_mul, e_sub, e_b0, e_b1, e_bz, e_bz0, e_bz1, Bool.and_true, Bool.true_and, ↓reduceIte, not_true_eq_false, not_false_eq_true, decide_false, decide_true, and_self, and_true, true_and, and_false, false_and, Bool.false_eq_true, Bool.not_false, Bool.not_true, y0, a2, f_X11_began_102]
  · obtain ⟨v, w, t⟩ := q
    obtain ⟨q1, q2, q3⟩ := hq
    dsimp only at q1 q2 q3
    subst q1 q2
    have y0 : t.1 2 0 = nI (A 0) := by rw [q3.1 _ _ (by omega)]; exact x0
    refine ⟨t, q3, ?_⟩
    clear hH hW hO
    dsimp only
    rw [f_X11_began_63]
    simp (disch := omega) only [e_bnd, e_bndV, e_lt, e_grd, e_lit, e_le1, e_le2, e_lt1, e_lt2, e_eq1, e_eq2, e_inb, e_ix, nI_add, pk_mul, e_sub, e_b0, e_b1, e_bz, e_bz0, e_bz1, Bool.and_true, Bool.true_and, ↓reduceIte, not_true_eq_false, not_false_eq_true, decide_false, decide_true, and_self, and_true, true_and, and_false, false_and, Bool.false_eq_true, Bool.not_false, Bool.not_true, y0]
theorem g_began {κ : Kd} {T : TD} (v : Int32) : GO κ T (f_X11_began v) (f_X12_began v) := by
  intro σX σM ⟨A, B, I⟩
  obtain ⟨N, hN⟩ : ∃ N : Nat, N = 100 := ⟨100, rfl⟩
  have hM := I.2.1
  have hW := I.1
  have c8 := I.1.1.1
  have hR := I.1.2.2.1
  have hO := I.2.2.1.2.2.2.2
  have x0 : σX.1 2 0 = nI (A 0) := I.2.2.1.1.1
  obtain ⟨s, ⟨a1, a2⟩, a3⟩ := x_hops (σ := σX) I.xr hR c8
  have hOs : XO s 1 A := hO.of (fun a j q => a2.1 _ _ (by omega))
  have y0 : s.1 2 0 = nI (A 0) := by rw [a2.1 _ _ (by omega)]; exact x0
  obtain ⟨m, ⟨b1, b2⟩, b3⟩ := m_layHops hM c8 hR
  have hMm : MA m A := hM.of b2 (by intro a j q; omega)
  have gX : ∀ t, fr S67 s t → fr scrX σX t := fun t f => (a2.mono (fun a j q => by omega)).trans (f.mono (fun a j q => by omega))
  have gM : fr scrM σM m := b2.mono (fun a j q => by omega)
  unfold f_X11_began f_X12_began
  by_cases hv : v = -1
  · subst hv
    obtain ⟨t, t1, t2⟩ := x_began63 hOs hW y0 a1 hN
    have m1 := m_began35 hMm hW b1 hN
    refine ⟨nI (mk (A 0) fun h => decide (0 < ct A h N)), t, m, ?_, ?_, A, B, I.scr (gX t t1) gM⟩
    · rw [if_pos rfl]
      unfold f_X11_began_22
      rw [show f_X9_measure 8 1 σX = some s from a3, e_bndV, if_pos rfl]
      exact t2
    · rw [if_pos rfl]
      unfold f_X12_began_16
      rw [b3, e_bndV, if_pos rfl]
      exact m1
  · rcases I.told v with ⟨e1, e2, _⟩ | ⟨h, hh, rfl, e1, e2⟩
    · refine I.q (r := -2) ?_ ?_
      · rw [if_neg hv, e1]
        rfl
      · rw [if_neg hv, e2]
        rfl
    · obtain ⟨t, t1, t2⟩ := x_hoursFrom hOs hW a1 (h := h) (by omega) hN
      have m1 := m_hoursOf hMm hW hh b1 hN
      refine ⟨nI (ct A h N), t, m, ?_, ?_, A, B, I.scr (gX t t1) gM⟩
      · rw [if_neg hv, e1]
        show f_X11_began_22 (nI h) σX = _
        unfold f_X11_began_22
        rw [show f_X9_measure 8 1 σX = some s from a3, e_bndV, if_neg hv, t2, e_bnd]
      · rw [if_neg hv, e2]
        show f_X12_began_16 (nI h) σM = _
        unfold f_X12_began_16
        rw [b3, e_bndV, if_neg hv, m1, e_bnd]
