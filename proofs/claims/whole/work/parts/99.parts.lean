/-! METHODS: parts, stone -/
def mi (a b : Nat) : Nat := a &&& (b ^^^ 4294967295)
theorem xm1 (a b : Nat) : nI a &&& (nI b ^^^ -nI 1) = nI (mi a b) := by
  rw [show (-nI 1 : Int32) = nI 4294967295 by decide, xor_I, and_I]
  rfl
theorem mi_lt {a b : Nat} (h : a < 256) : mi a b < 256 := and_lt8 h
theorem ones_bit : ∀ i, i < 8 → (4294967295 : Nat).testBit i = true := by decide +kernel
theorem mi_bit {a b i : Nat} (hi : i < 8) : (mi a b).testBit i = (a.testBit i && !b.testBit i) := by
  unfold mi
  rw [Nat.testBit_and, Nat.testBit_xor, ones_bit i hi, Bool.xor_true]
theorem mi_0 {a : Nat} (h : a < 256) : mi a 0 = a := bit_eq (mi_lt h) h fun i hi => by
  rw [mi_bit hi, Nat.zero_testBit, Bool.not_false, Bool.and_true]
def al (N : Nat) : Nat := 2 ^ N - 1
theorem all_t : ∀ c, c < 16 → shl (nI 1) (nI c) - nI 1 = nI (al c) := by decide +kernel
theorem al_lt : ∀ c, c < 9 → al c < 256 := by decide
theorem al_bit (c i : Nat) : (al c).testBit i = decide (i < c) := Nat.testBit_two_pow_sub_one c i
theorem x_all {σ : Sg} {A : Nat → Nat} (h : XT σ 2 A) (c8 : A 0 ≤ 8) : f_X8_all 2 σ = some (nI (al (A 0)), σ) := by
  have h0 := h.1
  unfold f_X8_all
  simp (disch := omega) only [e_lit, h0, all_t]
theorem m_all {σ : Sg} {A : Nat → Nat} (h : MA σ A) (c8 : A 0 ≤ 8) : f_X12_all σ = some (nI (al (A 0)), σ) := by
  have r0 := h.1 0 (by decide) (by decide) (by decide)
  unfold f_X12_all
  simp (disch := omega) only [e_bnd, e_bndV, e_lt, e_grd, e_lit, e_le1, e_le2, e_lt1, e_lt2, e_eq1, e_eq2, e_inb, e_ix, nI_add, pk_mul, e_sub, e_b0, e_b1, e_bz, e_bz0, e_bz1, Bool.and_true, Bool.true_and, ↓reduceIte, not_true_eq_false, not_false_eq_true, decide_false, decide_true, and_self, and_true, true_and, and_false, false_and, Bool.false_eq_true, Bool.not_false, Bool.not_true, r0, all_t]
/-- L is what is left of V when the houses below h, and all that are joined to them, are gone -/
def RZ (A : Nat → Nat) (V h L : Nat) : Prop := L < 256 ∧ (∀ i, i < 8 → L.testBit i = true → V.testBit i = true) ∧ CL A V L ∧ (∀ i, i < 8 → i < h → L.testBit i = false) ∧ ∀ i, i < 8 → V.testBit i = true → L.testBit i = false → ∃ g, g < h ∧ g < 8 ∧ V.testBit g = true ∧ (co A V g).testBit i = true
theorem RZ_0 {A : Nat → Nat} {V : Nat} (h : V < 256) : RZ A V 0 V := ⟨h, fun _ _ z => z, fun _ _ _ _ _ _ z => z, fun _ _ z => absurd z (by omega), fun i _ z y => by rw [z] at y; exact absurd y (by decide)⟩
theorem RZ_n {A : Nat → Nat} {V h L : Nat} (r : RZ A V h L) (q : L.testBit h = false) : RZ A V (h + 1) L := by
  obtain ⟨r1, r2, r3, r4, r5⟩ := r
  refine ⟨r1, r2, r3, fun i hi hl => ?_, fun i hi z y => ?_⟩
  · by_cases z : i = h
    · subst z; exact q
    · exact r4 i hi (by omega)
  · obtain ⟨g, g1, g2⟩ := r5 i hi z y
    exact ⟨g, by omega, g2⟩
theorem RZ_co {A : Nat → Nat} {V h L : Nat} (r : RZ A V h L) (hh : h < 8) (q : L.testBit h = true) : co A L h = co A V h := co_part hh r.2.2.1 r.2.1 q
theorem RZ_y {A : Nat → Nat} (hR : BR A) {V h L : Nat} (r : RZ A V h L) (hh : h < 8) (q : L.testBit h = true) : RZ A V (h + 1) (mi L (co A V h)) := by
  have e := RZ_co r hh q
  obtain ⟨r1, r2, r3, r4, r5⟩ := r
  have hV := r2 h hh q
  refine ⟨mi_lt r1, fun i hi z => ?_, ?_, fun i hi hl => ?_, fun i hi z y => ?_⟩
  · rw [mi_bit hi, Bool.and_eq_true] at z
    exact r2 i hi z.1
  · intro a b ha hb h1 h2 h3
    have d := CL_rest hR (V := L) (D := co A L h) (L := mi L (co A V h)) (co_cl hh) (fun i hi z => co_sub q hi z) (fun i hi => by rw [mi_bit hi, e])
    have h1' := h1
    rw [mi_bit ha, Bool.and_eq_true] at h1'
    exact d a b ha hb h1 h2 (r3 a b ha hb h1'.1 h2 h3)
  · rw [mi_bit hi]
    by_cases z : i = h
    · subst z
      rw [co_has hh, Bool.not_true, Bool.and_false]
    · rw [r4 i hi (by omega), Bool.false_and]
  · rw [mi_bit hi] at y
    by_cases w : L.testBit i = true
    · rw [w, Bool.true_and, Bool.not_eq_false'] at y
      exact ⟨h, by omega, hh, hV, y⟩
    · obtain ⟨g, g1, g2⟩ := r5 i hi z (Bool.eq_false_iff.mpr w)
      exact ⟨g, by omega, g2⟩
theorem RZ_low {A : Nat → Nat} {V h L : Nat} (r : RZ A V h L) (hh : h < 8) : L % 2 ^ h = 0 := by
  refine Nat.eq_of_testBit_eq fun i => ?_
  rw [Nat.testBit_mod_two_pow, Nat.zero_testBit]
  by_cases z : i < h
  · rw [r.2.2.2.1 i (by omega) z, Bool.and_false]
  · rw [decide_eq_false z, Bool.false_and]
theorem RZ_end {A : Nat → Nat} {V N L : Nat} (hN : ∀ i, i < 8 → V.testBit i = true → i < N) (r : RZ A V N L) : L = 0 := by
  refine bit_eq r.1 (by decide) fun i hi => ?_
  rw [Nat.zero_testBit]
  cases q : L.testBit i with
  | false => rfl
  | true =>
    have := r.2.2.2.1 i hi (hN i hi (r.2.1 i hi q))
    rw [q] at this
    exact absurd this (by decide)
theorem bit_ne0 {L h : Nat} (q : L.testBit h = true) : L ≠ 0 := fun z => by
  rw [z, Nat.zero_testBit] at q
  exact absurd q (by decide)
/-- how many parts -/
def ng (A : Nat → Nat) (V : Nat) : Nat → Nat → Nat → Nat
  | 0, _, _ => 0
  | d + 1, h, L => if L.testBit h = true then 1 + ng A V d (h + 1) (mi L (co A V h)) else ng A V d (h + 1) L
theorem x_groups7 {σ : Sg} {t : Nat} {A : Nat → Nat} (hR : XR σ t A) (hB : BR A) {V N : Nat} (hN : ∀ i, i < 8 → V.testBit i = true → i < N) (h8 : N ≤ 8) : ∀ d h L c, h + d = N → RZ A V h L → c ≤ h → ∀ fu, d < fu → f_X5_groups_7 t fu (nI c) (nI L) (nI c) σ = some (nI (c + ng A V d h L), σ)
  | 0, h, L, c, hd, r, hc, fu, hf => by
    obtain ⟨f, rfl⟩ : ∃ f, fu = f + 1 := ⟨fu - 1, by omega⟩
    have e := RZ_end hN (show RZ A V N L by rw [← hd]; exact r)
    have e1 : c + ng A V 0 h L = c := rfl
    subst e
    rw [e1, f_X5_groups_7]
    by_cases z : 8 ≤ c
    · simp (disch := omega) only [e_bnd, e_bndV, e_lt, e_grd, e_lit, e_le1, e_le2, e_lt1, e_lt2, e_eq1, e_eq2, e_inb, e_ix, nI_add, pk_mul, e_sub, e_b0, e_b1, e_bz, e_bz0, e_bz1, Bool.and_true, Bool.true_and, ↓reduceIte, not_true_eq_false, not_false_eq_true, decide_false, decide_true, and_self, and_true, true_and, and_false, false_and, Bool.false_eq_true, Bool.not_false, Bool.not_true, f_X5_groups_37]
    · simp (disch := omega) only [e_bnd, e_bndV, e_lt, e_grd, e_lit, e_le1, e_le2, e_lt1, e_lt2, e_eq1, e_eq2, e_inb, e_ix, nI_add, pk_mul, e_sub, e_b0, e_b1, e_bz, e_bz0, e_bz1, Bool.and_true, Bool.true_and, ↓reduceIte, not_true_eq_false, not_false_eq_true, decide_false, decide_true, and_self, and_true, true_and, and_false, false_and, Bool.false_eq_true, Bool.not_false, Bool.not_true, f_X5_groups_37]
  | d + 1, h, L, c, hd, r, hc, fu, hf => by
    obtain ⟨f, rfl⟩ : ∃ f, fu = f + 1 := ⟨fu - 1, by omega⟩
    have hh : h < 8 := by omega
    have e1 : ng A V (d + 1) h L = if L.testBit h = true then 1 + ng A V d (h + 1) (mi L (co A V h)) else ng A V d (h + 1) L := rfl
    rw [e1]
    by_cases q : L.testBit h = true
    · have hg := x_group hR r.1 hh q (RZ_low r hh)
      rw [RZ_co r hh q] at hg
      have hne := bit_ne0 q
      have hl := r.1
      have ih := x_groups7 hR hB hN h8 d (h + 1) _ (c + 1) (by omega) (RZ_y hB r hh q) (by omega) f (by omega)
      rw [if_pos q, f_X5_groups_7]
      simp (disch := omega) only [e_bnd, e_bndV, e_lt, e_grd, e_lit, e_le1, e_le2, e_lt1, e_lt2, e_eq1, e_eq2, e_inb, e_ix, nI_add, pk_mul, e_sub, e_b0, e_b1, e_bz, e_bz0, e_bz1, Bool.and_true, Bool.true_and, ↓reduceIte, not_true_eq_false, not_false_eq_true, decide_false, decide_true, and_self, and_true, true_and, and_false, false_and, Bool.false_eq_true, Bool.not_false, Bool.not_true, hg, xm1]
      rw [ih, Nat.add_assoc]
    · rw [if_neg q]
      exact x_groups7 hR hB hN h8 d (h + 1) L c (by omega) (RZ_n r (Bool.eq_false_iff.mpr q)) (by omega) (f + 1) (by omega)
theorem x_groups {σ : Sg} {t : Nat} {A : Nat → Nat} (hR : XR σ t A) (hB : BR A) {V N : Nat} (hV : V < 256) (hN : ∀ i, i < 8 → V.testBit i = true → i < N) (h8 : N ≤ 8) : f_X5_groups t (nI V) σ = some (nI (ng A V N 0 V), σ) := by
  have := x_groups7 hR hB hN h8 N 0 V 0 (by omega) (RZ_0 hV) (by omega) FU (by unfold FU; omega)
  rw [Nat.zero_add] at this
  exact this
theorem m_parts9 {σ : Sg} {A : Nat → Nat} (hM : MA σ A) (hB : BT A) (hR : BR A) : ∀ d h L c, h + d = A 0 → L < 256 → ∀ fu, d < fu → f_X12_parts_9 fu (nI c) (nI L) (nI h) σ = some (nI (c + ng A (al (A 0)) d h L), σ)
  | 0, h, L, c, hd, hl, fu, hf => by
    obtain ⟨f, rfl⟩ : ∃ f, fu = f + 1 := ⟨fu - 1, by omega⟩
    have c8 := hB.1
    have r0 := hM.1 0 (by decide) (by decide) (by decide)
    have e1 : c + ng A (al (A 0)) 0 h L = c := rfl
    rw [e1, f_X12_parts_9]
    simp (disch := omega) only [e_bnd, e_bndV, e_lt, e_grd, e_lit, e_le1, e_le2, e_lt1, e_lt2, e_eq1, e_eq2, e_inb, e_ix, nI_add, pk_mul, e_sub, e_b0, e_b1, e_bz, e_bz0, e_bz1, Bool.and_true, Bool.true_and, ↓reduceIte, not_true_eq_false, not_false_eq_true, decide_false, decide_true, and_self, and_true, true_and, and_false, false_and, Bool.false_eq_true, Bool.not_false, Bool.not_true, r0]
  | d + 1, h, L, c, hd, hl, fu, hf => by
    obtain ⟨f, rfl⟩ : ∃ f, fu = f + 1 := ⟨fu - 1, by omega⟩
    have c8 := hB.1
    have r0 := hM.1 0 (by decide) (by decide) (by decide)
    have hh : h < 8 := by omega
    have e1 : ng A (al (A 0)) (d + 1) h L = if L.testBit h = true then 1 + ng A (al (A 0)) d (h + 1) (mi L (co A (al (A 0)) h)) else ng A (al (A 0)) d (h + 1) L := rfl
    have mh := m_has hl (by omega : h < 9) σ
    have ma := m_all hM c8
    have mg := m_heapOf hM hB hR (V := al (A 0)) hh
    rw [e1]
    by_cases q : L.testBit h = true
    · have ih := m_parts9 hM hB hR d (h + 1) _ (c + 1) (by omega) (mi_lt (b := co A (al (A 0)) h) hl) f (by omega)
      rw [if_pos q] at mh ⊢
      rw [f_X12_parts_9]
      simp (disch := omega) only [e_bnd, e_bndV, e_lt, e_grd, e_lit, e_le1, e_le2, e_lt1, e_lt2, e_eq1, e_eq2, e_inb, e_ix, nI_add, pk_mul, e_sub, e_b0, e_b1, e_bz, e_bz0, e_bz1, Bool.and_true, Bool.true_and, ↓reduceIte, not_true_eq_false, not_false_eq_true, decide_false, decide_true, and_self, and_true, true_and, and_false, false_and, Bool.false_eq_true, Bool.not_false, Bool.not_true, r0, mh, ma, mg, xm1, f_X12_parts_47]
      rw [ih, Nat.add_assoc]
    · have ih := m_parts9 hM hB hR d (h + 1) L c (by omega) hl f (by omega)
      rw [if_neg q] at mh ⊢
      rw [f_X12_parts_9]
      simp (disch := omega) only [e_bnd, e_bndV, e_lt, e_grd, e_lit, e_le1, e_le2, e_lt1, e_lt2, e_eq1, e_eq2, e_inb, e_ix, nI_add, pk_mul, e_sub, e_b0, e_b1, e_bz, e_bz0, e_bz1, Bool.and_true, Bool.true_and, ↓reduceIte, not_true_eq_false, not_false_eq_true, decide_false, decide_true, and_self, and_true, true_and, and_false, false_and, Bool.false_eq_true, Bool.not_false, Bool.not_true, r0, mh, f_X12_parts_47]
      exact ih
theorem al_in {N : Nat} : ∀ i, i < 8 → (al N).testBit i = true → i < N := fun i _ z => by
  rw [al_bit] at z
  exact of_decide_eq_true z
theorem g_parts {κ : Kd} {T : TD} : GO κ T f_X11_parts f_X12_parts := by
  intro σX σM ⟨A, B, I⟩
  have hM := I.2.1
  have hB := I.1.1
  have c8 := hB.1
  have hR := I.1.2.2.1
  have xa := x_all I.2.2.1.1 c8
  have ma := m_all hM c8
  have xg := x_groups I.xr hR (al_lt (A 0) (by omega)) al_in c8
  have mg := m_parts9 hM hB hR (A 0) 0 (al (A 0)) 0 (by omega) (al_lt (A 0) (by omega)) FU (by unfold FU; omega)
  rw [Nat.zero_add] at mg
  unfold f_X11_parts f_X12_parts
  refine I.q (r := nI (ng A (al (A 0)) (A 0) 0 (al (A 0)))) ?_ ?_
  · simp (disch := omega) only [e_bnd, e_bndV, e_lt, e_grd, e_lit, e_le1, e_le2, e_lt1, e_lt2, e_eq1, e_eq2, e_inb, e_ix, nI_add, pk_mul, e_sub, e_b0, e_b1, e_bz, e_bz0, e_bz1, Bool.and_true, Bool.true_and, ↓reduceIte, not_true_eq_false, not_false_eq_true, decide_false, decide_true, and_self, and_true, true_and, and_false, false_and, Bool.false_eq_true, Bool.not_false, Bool.not_true, xa, xg]
  · simp (disch := omega) only [e_bnd, e_bndV, e_lt, e_grd, e_lit, e_le1, e_le2, e_lt1, e_lt2, e_eq1, e_eq2, e_inb, e_ix, nI_add, pk_mul, e_sub, e_b0, e_b1, e_bz, e_bz0, e_bz1, Bool.and_true, Bool.true_and, ↓reduceIte, not_true_eq_false, not_false_eq_true, decide_false, decide_true, and_self, and_true, true_and, and_false, false_and, Bool.false_eq_true, Bool.not_false, Bool.not_true, ma]
    exact mg
/-- the greatest part -/
def gt (A : Nat → Nat) (V : Nat) : Nat → Nat → Nat → Nat
  | 0, _, b => b
  | d + 1, h, b => gt A V d (h + 1) (if V.testBit h = true ∧ b < pc8 (co A V h) then pc8 (co A V h) else b)
theorem gt_le {A : Nat → Nat} {V : Nat} : ∀ d h b, b ≤ 8 → gt A V d h b ≤ 8
  | 0, _, _, hb => hb
  | d + 1, h, b, hb => by
    refine gt_le d (h + 1) _ ?_
    split
    · exact pc8_le _
    · exact hb
theorem m_largest4 {σ : Sg} {A : Nat → Nat} (hM : MA σ A) (hB : BT A) (hR : BR A) {V : Nat} (hV : V < 256) : ∀ d h b, h + d = A 0 → b ≤ 8 → ∀ fu, d < fu → f_X12_largest_4 fu (nI V) (nI b) (nI h) σ = some (nI (gt A V d h b), σ)
  | 0, h, b, hd, hb, fu, hf => by
    obtain ⟨f, rfl⟩ : ∃ f, fu = f + 1 := ⟨fu - 1, by omega⟩
    have c8 := hB.1
    have r0 := hM.1 0 (by decide) (by decide) (by decide)
    have e1 : gt A V 0 h b = b := rfl
    rw [e1, f_X12_largest_4]
    simp (disch := omega) only [e_bnd, e_bndV, e_lt, e_grd, e_lit, e_le1, e_le2, e_lt1, e_lt2, e_eq1, e_eq2, e_inb, e_ix, nI_add, pk_mul, e_sub, e_b0, e_b1, e_bz, e_bz0, e_bz1, Bool.and_true, Bool.true_and, ↓reduceIte, not_true_eq_false, not_false_eq_true, decide_false, decide_true, and_self, and_true, true_and, and_false, false_and, Bool.false_eq_true, Bool.not_false, Bool.not_true, r0]
  | d + 1, h, b, hd, hb, fu, hf => by
    obtain ⟨f, rfl⟩ : ∃ f, fu = f + 1 := ⟨fu - 1, by omega⟩
    have c8 := hB.1
    have r0 := hM.1 0 (by decide) (by decide) (by decide)
    have hh : h < 8 := by omega
    have e1 : gt A V (d + 1) h b = gt A V d (h + 1) (if V.testBit h = true ∧ b < pc8 (co A V h) then pc8 (co A V h) else b) := rfl
    have mh := m_has hV (by omega : h < 9) σ
    have mg := m_heapOf hM hB hR (V := V) hh
    have mb := f_bits_eq (co_lt (A := A) (V := V) hh) σ
    have p8 := pc8_le (co A V h)
    rw [e1]
    by_cases q : V.testBit h = true
    · rw [if_pos q] at mh
      by_cases w : b < pc8 (co A V h)
      · have ih := m_largest4 hM hB hR hV d (h + 1) (pc8 (co A V h)) (by omega) p8 f (by omega)
        rw [if_pos ⟨q, w⟩, f_X12_largest_4]
        simp (disch := omega) only [e_bnd, e_bndV, e_lt, e_grd, e_lit, e_le1, e_le2, e_lt1, e_lt2, e_eq1, e_eq2, e_inb, e_ix, nI_add, pk_mul, e_sub, e_b0, e_b1, e_bz, e_bz0, e_bz1, Bool.and_true, Bool.true_and, ↓reduceIte, not_true_eq_false, not_false_eq_true, decide_false, decide_true, and_self, and_true, true_and, and_false, false_and, Bool.false_eq_true, Bool.not_false, Bool.not_true, r0, mh, mg, mb, f_X12_largest_45]
        exact ih
      · have ih := m_largest4 hM hB hR hV d (h + 1) b (by omega) hb f (by omega)
        rw [if_neg (fun z => w z.2), f_X12_largest_4]
        simp (disch := omega) only [e_bnd, e_bndV, e_lt, e_grd, e_lit, e_le1, e_le2, e_lt1, e_lt2, e_eq1, e_eq2, e_inb, e_ix, nI_add, pk_mul, e_sub, e_b0, e_b1, e_bz, e_bz0, e_bz1, Bool.and_true, Bool.true_and, ↓reduceIte, not_true_eq_false, not_false_eq_true, decide_false, decide_true, and_self, and_true, true_and, and_false, false_and, Bool.false_eq_true, Bool.not_false, Bool.not_true, r0, mh, mg, mb, f_X12_largest_45]
        exact ih
    · have ih := m_largest4 hM hB hR hV d (h + 1) b (by omega) hb f (by omega)
      rw [if_neg q] at mh
      rw [if_neg (fun z => q z.1), f_X12_largest_4]
      simp (disch := omega) only [e_bnd, e_bndV, e_lt, e_grd, e_lit, e_le1, e_le2, e_lt1, e_lt2, e_eq1, e_eq2, e_inb, e_ix, nI_add, pk_mul, e_sub, e_b0, e_b1, e_bz, e_bz0, e_bz1, Bool.and_true, Bool.true_and, ↓reduceIte, not_true_eq_false, not_false_eq_true, decide_false, decide_true, and_self, and_true, true_and, and_false, false_and, Bool.false_eq_true, Bool.not_false, Bool.not_true, r0, mh, f_X12_largest_45]
      exact ih
theorem m_largest {σ : Sg} {A : Nat → Nat} (hM : MA σ A) (hB : BT A) (hR : BR A) {V : Nat} (hV : V < 256) : f_X12_largest (nI V) σ = some (nI (gt A V (A 0) 0 0), σ) :=
  m_largest4 hM hB hR hV (A 0) 0 0 (by omega) (by omega) FU (by have := hB.1; unfold FU; omega)
theorem x_greatest7 {σ : Sg} {t : Nat} {A : Nat → Nat} (hR : XR σ t A) (hB : BR A) {V N : Nat} (hN : ∀ i, i < 8 → V.testBit i = true → i < N) (h8 : N ≤ 8) : ∀ d h L c b, h + d = N → RZ A V h L → c ≤ h → b ≤ 8 → (∀ g, g < h → g < 8 → V.testBit g = true → pc8 (co A V g) ≤ b) → ∀ fu, d < fu → f_X5_greatest_7 t fu (nI b) (nI L) (nI c) σ = some (nI (gt A V d h b), σ)
  | 0, h, L, c, b, hd, r, hc, hb, hg, fu, hf => by
    obtain ⟨f, rfl⟩ : ∃ f, fu = f + 1 := ⟨fu - 1, by omega⟩
    have e := RZ_end hN (show RZ A V N L by rw [← hd]; exact r)
    have e1 : gt A V 0 h b = b := rfl
    subst e
    rw [e1, f_X5_greatest_7]
    clear hg
    by_cases z : 8 ≤ c
    · simp (disch := omega) only [e_bnd, e_bndV, e_lt, e_grd, e_lit, e_le1, e_le2, e_lt1, e_lt2, e_eq1, e_eq2, e_inb, e_ix, nI_add, pk_mul, e_sub, e_b0, e_b1, e_bz, e_bz0, e_bz1, Bool.and_true, Bool.true_and, ↓reduceIte, not_true_eq_false, not_false_eq_true, decide_false, decide_true, and_self, and_true, true_and, and_false, false_and, Bool.false_eq_true, Bool.not_false, Bool.not_true, f_X5_greatest_48]
    · simp (disch := omega) only [e_bnd, e_bndV, e_lt, e_grd, e_lit, e_le1, e_le2, e_lt1, e_lt2, e_eq1, e_eq2, e_inb, e_ix, nI_add, pk_mul, e_sub, e_b0, e_b1, e_bz, e_bz0, e_bz1, Bool.and_true, Bool.true_and, ↓reduceIte, not_true_eq_false, not_false_eq_true, decide_false, decide_true, and_self, and_true, true_and, and_false, false_and, Bool.false_eq_true, Bool.not_false, Bool.not_true, f_X5_greatest_48]
  | d + 1, h, L, c, b, hd, r, hc, hb, hg, fu, hf => by
    obtain ⟨f, rfl⟩ : ∃ f, fu = f + 1 := ⟨fu - 1, by omega⟩
    have hh : h < 8 := by omega
    have e1 : gt A V (d + 1) h b = gt A V d (h + 1) (if V.testBit h = true ∧ b < pc8 (co A V h) then pc8 (co A V h) else b) := rfl
    have p8 := pc8_le (co A V h)
    rw [e1]
    by_cases q : L.testBit h = true
    · have hx := x_group hR r.1 hh q (RZ_low r hh)
      rw [RZ_co r hh q] at hx
      have hne := bit_ne0 q
      have hl := r.1
      have hV := r.2.1 h hh q
      have hbc := f_bitCount_eq (co_lt (A := A) (V := V) hh) σ
      have hm := imax_I (a := b) (b := pc8 (co A V h)) (by omega) (by omega)
      rw [show max b (pc8 (co A V h)) = if b < pc8 (co A V h) then pc8 (co A V h) else b by split <;> omega] at hm
      have ih := x_greatest7 hR hB hN h8 d (h + 1) _ (c + 1) (if b < pc8 (co A V h) then pc8 (co A V h) else b) (by omega) (RZ_y hB r hh q) (by omega) (by split <;> omega) (fun g g1 g2 g3 => by
        by_cases z : g = h
        · subst z
          by_cases y : b < pc8 (co A V g)
          · rw [if_pos y]; exact Nat.le_refl _
          · rw [if_neg y]; omega
        · have := hg g (by omega) g2 g3
          split <;> omega) f (by omega)
      have e2 : (if V.testBit h = true ∧ b < pc8 (co A V h) then pc8 (co A V h) else b) = if b < pc8 (co A V h) then pc8 (co A V h) else b := by
        simp only [hV, true_and]
      rw [e2, f_X5_greatest_7]
      clear hg
      simp (disch := omega) only [e_bnd, e_bndV, e_lt, e_grd, e_lit, e_le1, e_le2, e_lt1, e_lt2, e_eq1, e_eq2, e_inb, e_ix, nI_add, pk_mul, e_sub, e_b0, e_b1, e_bz, e_bz0, e_bz1, Bool.and_true, Bool.true_and, ↓reduceIte, not_true_eq_false, not_false_eq_true, decide_false, decide_true, and_self, and_true, true_and, and_false, false_and, Bool.false_eq_true, Bool.not_false, Bool.not_true, hx, hbc, hm, xm1]
      exact ih
    · have q' := Bool.eq_false_iff.mpr q
      have le : V.testBit h = true → pc8 (co A V h) ≤ b := fun z => by
        obtain ⟨g, g1, g2, g3, g4⟩ := r.2.2.2.2 h hh z q'
        rw [co_eq hB g2 hh g3 g4]
        exact hg g g1 g2 g3
      rw [if_neg (fun z => by have := le z.1; omega)]
      refine x_greatest7 hR hB hN h8 d (h + 1) L c b (by omega) (RZ_n r q') (by omega) hb (fun g g1 g2 g3 => ?_) (f + 1) (by omega)
      by_cases z : g = h
      · subst z; exact le g3
      · exact hg g (by omega) g2 g3
theorem x_greatest {σ : Sg} {t : Nat} {A : Nat → Nat} (hR : XR σ t A) (hB : BR A) {V N : Nat} (hV : V < 256) (hN : ∀ i, i < 8 → V.testBit i = true → i < N) (h8 : N ≤ 8) : f_X5_greatest t (nI V) σ = some (nI (gt A V N 0 0), σ) :=
  x_greatest7 hR hB hN h8 N 0 V 0 0 (by omega) (RZ_0 hV) (by omega) (by omega) (fun g z => absurd z (by omega)) FU (by unfold FU; omega)
/-- the greatest part that is left without the houses of s -/
def lf (A : Nat → Nat) (s : Nat) : Nat := gt A (mi (al (A 0)) s) (A 0) 0 0
theorem lf_le (A : Nat → Nat) (s : Nat) : lf A s ≤ 8 := gt_le _ _ _ (by decide)
theorem x_lf {σ : Sg} {t : Nat} {A : Nat → Nat} (hR : XR σ t A) (hB : BR A) (c8 : A 0 ≤ 8) (s : Nat) : f_X5_greatest t (nI (mi (al (A 0)) s)) σ = some (nI (lf A s), σ) :=
  x_greatest hR hB (mi_lt (al_lt (A 0) (by omega))) (fun i hi z => by
    rw [mi_bit hi, Bool.and_eq_true] at z
    exact al_in i hi z.1) c8
theorem m_lf {σ : Sg} {A : Nat → Nat} (hM : MA σ A) (hB : BT A) (hR : BR A) (s : Nat) : f_X12_largest (nI (mi (al (A 0)) s)) σ = some (nI (lf A s), σ) :=
  m_largest hM hB hR (mi_lt (al_lt (A 0) (by have := hB.1; omega)))
abbrev tk (A : Nat → Nat) (k s : Nat) (q : Nat × Nat) : Prop := pc8 s ≤ k ∧ (lf A s < q.2 ∨ (lf A s = q.2 ∧ pc8 s < pc8 q.1))
def sst (A : Nat → Nat) (k : Nat) : Nat → Nat × Nat
  | 0 => (0, lf A 0)
  | i + 1 => if tk A k (i + 1) (sst A k i) then (i + 1, lf A (i + 1)) else sst A k i
theorem sst_ok (A : Nat → Nat) (k : Nat) : ∀ i, i < 256 → (sst A k i).1 < 256 ∧ (sst A k i).2 = lf A (sst A k i).1
  | 0, _ => ⟨(by decide : 0 < 256), rfl⟩
  | i + 1, h => by
    show (if _ then _ else _ : Nat × Nat).1 < 256 ∧ (if _ then _ else _ : Nat × Nat).2 = lf A (if _ then _ else _ : Nat × Nat).1
    split
    · exact ⟨h, rfl⟩
    · exact sst_ok A k i (by omega)
theorem x_stone {σ : Sg} {A : Nat → Nat} (hT : XT σ 2 A) (hR : XR σ 8 A) (hB : BR A) (c8 : A 0 ≤ 8) {k : Nat} (hk : k ≤ 8) : f_X11_stoneSet (nI k) σ = some (nI (sst A k (al (A 0))).1, σ) := by
  have xa := x_all hT c8
  have hl := al_lt (A 0) (by omega)
  have x0 := x_lf hR hB c8 0
  rw [mi_0 hl] at x0
  have key : f_X11_stoneSet_29 FU (nI k) (nI (al (A 0))) (nI 0) (nI (lf A 0)) (nI (0 + 1)) σ = some (nI (sst A k (al (A 0))).1, σ) := by
    refine lp (fun fu (q : Int32 × Int32 × Int32) => f_X11_stoneSet_29 fu (nI k) (nI (al (A 0))) q.1 q.2.1 q.2.2 σ) (fun i => (nI (sst A k i).1, nI (sst A k i).2, nI (i + 1))) (al (A 0)) (fun i hi fu => ?_) (fun fu => ?_) FU (by unfold FU; omega)
    · obtain ⟨o1, o2⟩ := sst_ok A k i (by omega)
      have b1 := lf_le A (sst A k i).1
      rw [← o2] at b1
      have e1 : sst A k (i + 1) = if tk A k (i + 1) (sst A k i) then (i + 1, lf A (i + 1)) else sst A k i := rfl
      have p1 := pc8_le (i + 1)
      have p2 := pc8_le (sst A k i).1
      have b2 := lf_le A (i + 1)
      have xb := f_bitCount_eq (by omega : i + 1 < 256) σ
      have xb2 := f_bitCount_eq o1 σ
      have xl := x_lf hR hB c8 (i + 1)
      dsimp only
      rw [f_X11_stoneSet_29, e1]
      clear e1 o2
      by_cases q1 : k < pc8 (i + 1)
      · rw [if_neg (fun z : tk A k (i + 1) (sst A k i) => by have := z.1; omega)]
        simp (disch := omega) only [e_bnd, e_bndV, e_lt, e_grd, e_lit, e_le1, e_le2, e_lt1, e_lt2, e_eq1, e_eq2, e_inb, e_ix, nI_add, pk_mul, e_sub, e_b0, e_b1, e_bz, e_bz0, e_bz1, Bool.and_true, Bool.true_and, ↓reduceIte, not_true_eq_false, not_false_eq_true, decide_false, decide_true, and_self, and_true, true_and, and_false, false_and, Bool.false_eq_true, Bool.not_false, Bool.not_true, xb, f_X11_stoneSet_96]
      · by_cases q2 : lf A (i + 1) < (sst A k i).2
        · rw [if_pos (show tk A k (i + 1) (sst A k i) from ⟨by omega, Or.inl q2⟩)]
          simp (disch := omega) only [e_bnd, e_bndV, e_lt, e_grd, e_lit, e_le1, e_le2, e_lt1, e_lt2, e_eq1, e_eq2, e_inb, e_ix, nI_add, pk_mul, e_sub, e_b0, e_b1, e_bz, e_bz0, e_bz1, Bool.and_true, Bool.true_and, ↓reduceIte, not_true_eq_false, not_false_eq_true, decide_false, decide_true, and_self, and_true, true_and, and_false, false_and, Bool.false_eq_true, Bool.not_false, Bool.not_true, xb, xl, xm1, f_X11_stoneSet_96, f_X11_stoneSet_89]
        · by_cases q3 : lf A (i + 1) = (sst A k i).2
          · by_cases q4 : pc8 (i + 1) < pc8 (sst A k i).1
            · rw [if_pos (show tk A k (i + 1) (sst A k i) from ⟨by omega, Or.inr ⟨q3, q4⟩⟩)]
              simp (disch := omega) only [e_bnd, e_bndV, e_lt, e_grd, e_lit, e_le1, e_le2, e_lt1, e_lt2, e_eq1, e_eq2, e_inb, e_ix, nI_add, pk_mul, e_sub, e_b0, e_b1, e_bz, e_bz0, e_bz1, Bool.and_true, Bool.true_and, ↓reduceIte, not_true_eq_false, not_false_eq_true, decide_false, decide_true, and_self, and_true, true_and, and_false, false_and, Bool.false_eq_true, Bool.not_false, Bool.not_true, xb, xl, xb2, xm1, f_X11_stoneSet_96, f_X11_stoneSet_89]
            · rw [if_neg (fun z : tk A k (i + 1) (sst A k i) => z.2.elim (fun y => q2 y) (fun y => q4 y.2))]
              simp (disch := omega) only [e_bnd, e_bndV, e_lt, e_grd, e_lit, e_le1, e_le2, e_lt1, e_lt2, e_eq1, e_eq2, e_inb, e_ix, nI_add, pk_mul, e_sub, e_b0, e_b1, e_bz, e_bz0, e_bz1, Bool.and_true, Bool.true_and, ↓reduceIte, not_true_eq_false, not_false_eq_true, decide_false, decide_true, and_self, and_true, true_and, and_false, false_and, Bool.false_eq_true, Bool.not_false, Bool.not_true, xb, xl, xb2, xm1, f_X11_stoneSet_96, f_X11_stoneSet_89]
          · rw [if_neg (fun z : tk A k (i + 1) (sst A k i) => z.2.elim (fun y => q2 y) (fun y => q3 y.1))]
            simp (disch := omega) only [e_bnd, e_bndV, e_lt, e_grd, e_lit, e_le1, e_le2, e_lt1, e_lt2, e_eq1, e_eq2, e_inb, e_ix, nI_add, pk_mul, e_sub, e_b0, e_b1, e_bz, e_bz0, e_bz1, Bool.and_true, Bool.true_and, ↓reduceIte, not_true_eq_false, not_false_eq_true, decide_false, decide_true, and_self, and_true, true_and, and_false, false_and, Bool.false_eq_true, Bool.not_false, Bool.not_true, xb, xl, xm1, f_X11_stoneSet_96, f_X11_stoneSet_89]
    · dsimp only
      rw [f_X11_stoneSet_29]
      simp (disch := omega) only [e_bnd, e_bndV, e_lt, e_grd, e_lit, e_le1, e_le2, e_lt1, e_lt2, e_eq1, e_eq2, e_inb, e_ix, nI_add, pk_mul, e_sub, e_b0, e_b1, e_bz, e_bz0, e_bz1, Bool.and_true, Bool.true_and, ↓reduceIte, not_true_eq_false, not_false_eq_true, decide_false, decide_true, and_self, and_true, true_and, and_false, false_and, Bool.false_eq_true, Bool.not_false, Bool.not_true]
  unfold f_X11_stoneSet
  simp (disch := omega) only [e_bnd, e_bndV, e_lt, e_grd, e_lit, e_le1, e_le2, e_lt1, e_lt2, e_eq1, e_eq2, e_inb, e_ix, nI_add, pk_mul, e_sub, e_b0, e_b1, e_bz, e_bz0, e_bz1, Bool.and_true, Bool.true_and, ↓reduceIte, not_true_eq_false, not_false_eq_true, decide_false, decide_true, and_self, and_true, true_and, and_false, false_and, Bool.false_eq_true, Bool.not_false, Bool.not_true, xa, x0]
  exact key
theorem m_stone {σ : Sg} {A : Nat → Nat} (hM : MA σ A) (hB : BT A) (hR : BR A) {k : Nat} (hk : k ≤ 8) (v2 : Int32) : f_X12_stone_27 FU (nI k) v2 (nI 0) (nI (lf A 0)) (nI (0 + 1)) σ = some (if v2 = nI 0 then nI (sst A k (al (A 0))).1 else nI (sst A k (al (A 0))).2, σ) := by
  have c8 := hB.1
  have ma := m_all hM c8
  have hl := al_lt (A 0) (by omega)
  refine lp (fun fu (q : Int32 × Int32 × Int32) => f_X12_stone_27 fu (nI k) v2 q.1 q.2.1 q.2.2 σ) (fun i => (nI (sst A k i).1, nI (sst A k i).2, nI (i + 1))) (al (A 0)) (fun i hi fu => ?_) (fun fu => ?_) FU (by unfold FU; omega)
  · obtain ⟨o1, o2⟩ := sst_ok A k i (by omega)
    have b1 := lf_le A (sst A k i).1
    rw [← o2] at b1
    have e1 : sst A k (i + 1) = if tk A k (i + 1) (sst A k i) then (i + 1, lf A (i + 1)) else sst A k i := rfl
    have p1 := pc8_le (i + 1)
    have p2 := pc8_le (sst A k i).1
    have b2 := lf_le A (i + 1)
    have xb := f_bits_eq (by omega : i + 1 < 256) σ
    have xb2 := f_bits_eq o1 σ
    have xl := m_lf hM hB hR (i + 1)
    dsimp only
    rw [f_X12_stone_27, e1]
    clear e1 o2
    by_cases q1 : k < pc8 (i + 1)
    · rw [if_neg (fun z : tk A k (i + 1) (sst A k i) => by have := z.1; omega)]
      simp (disch := omega) only [e_bnd, e_bndV, e_lt, e_grd, e_lit, e_le1, e_le2, e_lt1, e_lt2, e_eq1, e_eq2, e_inb, e_ix, nI_add, pk_mul, e_sub, e_b0, e_b1, e_bz, e_bz0, e_bz1, Bool.and_true, Bool.true_and, ↓reduceIte, not_true_eq_false, not_false_eq_true, decide_false, decide_true, and_self, and_true, true_and, and_false, false_and, Bool.false_eq_true, Bool.not_false, Bool.not_true, ma, xb, f_X12_stone_99]
    · by_cases q2 : lf A (i + 1) < (sst A k i).2
      · rw [if_pos (show tk A k (i + 1) (sst A k i) from ⟨by omega, Or.inl q2⟩)]
        simp (disch := omega) only [e_bnd, e_bndV, e_lt, e_grd, e_lit, e_le1, e_le2, e_lt1, e_lt2, e_eq1, e_eq2, e_inb, e_ix, nI_add, pk_mul, e_sub, e_b0, e_b1, e_bz, e_bz0, e_bz1, Bool.and_true, Bool.true_and, ↓reduceIte, not_true_eq_false, not_false_eq_true, decide_false, decide_true, and_self, and_true, true_and, and_false, false_and, Bool.false_eq_true, Bool.not_false, Bool.not_true, ma, xb, xl, xm1, f_X12_stone_99, f_X12_stone_92]
      · by_cases q3 : lf A (i + 1) = (sst A k i).2
        · by_cases q4 : pc8 (i + 1) < pc8 (sst A k i).1
          · rw [if_pos (show tk A k (i + 1) (sst A k i) from ⟨by omega, Or.inr ⟨q3, q4⟩⟩)]
            simp (disch := omega) only [e_bnd, e_bndV, e_lt, e_grd, e_lit, e_le1, e_le2, e_lt1, e_lt2, e_eq1, e_eq2, e_inb, e_ix, nI_add, pk_mul, e_sub, e_b0, e_b1, e_bz, e_bz0, e_bz1, Bool.and_true, Bool.true_and, ↓reduceIte, not_true_eq_false, not_false_eq_true, decide_false, decide_true, and_self, and_true, true_and, and_false, false_and, Bool.false_eq_true, Bool.not_false, Bool.not_true, ma, xb, xl, xb2, xm1, f_X12_stone_99, f_X12_stone_92]
          · rw [if_neg (fun z : tk A k (i + 1) (sst A k i) => z.2.elim (fun y => q2 y) (fun y => q4 y.2))]
            simp (disch := omega) only [e_bnd, e_bndV, e_lt, e_grd, e_lit, e_le1, e_le2, e_lt1, e_lt2, e_eq1, e_eq2, e_inb, e_ix, nI_add, pk_mul, e_sub, e_b0, e_b1, e_bz, e_bz0, e_bz1, Bool.and_true, Bool.true_and, ↓reduceIte, not_true_eq_false, not_false_eq_true, decide_false, decide_true, and_self, and_true, true_and, and_false, false_and, Bool.false_eq_true, Bool.not_false, Bool.not_true, ma, xb, xl, xb2, xm1, f_X12_stone_99, f_X12_stone_92]
        · rw [if_neg (fun z : tk A k (i + 1) (sst A k i) => z.2.elim (fun y => q2 y) (fun y => q3 y.1))]
          simp (disch := omega) only [e_bnd, e_bndV, e_lt, e_grd, e_lit, e_le1, e_le2, e_lt1, e_lt2, e_eq1, e_eq2, e_inb, e_ix, nI_add, pk_mul, e_sub, e_b0, e_b1, e_bz, e_bz0, e_bz1, Bool.and_true, Bool.true_and, ↓reduceIte, not_true_eq_false, not_false_eq_true, decide_false, decide_true, and_self, and_true, true_and, and_false, false_and, Bool.false_eq_true, Bool.not_false, Bool.not_true, ma, xb, xl, xm1, f_X12_stone_99, f_X12_stone_92]
  · dsimp only
    rw [f_X12_stone_27]
    by_cases z : v2 = nI 0
    · rw [if_pos z]
      simp (disch := omega) only [e_bnd, e_bndV, e_lt, e_grd, e_lit, e_le1, e_le2, e_lt1, e_lt2, e_eq1, e_eq2, e_inb, e_ix, nI_add, pk_mul, e_sub, e_b0, e_b1, e_bz, e_bz0, e_bz1, Bool.and_true, Bool.true_and, ↓reduceIte, not_true_eq_false, not_false_eq_true, decide_false, decide_true, and_self, and_true, true_and, and_false, false_and, Bool.false_eq_true, Bool.not_false, Bool.not_true, ma, z, f_X12_stone_115]
    · rw [if_neg z]
      simp (disch := omega) only [e_bnd, e_bndV, e_lt, e_grd, e_lit, e_le1, e_le2, e_lt1, e_lt2, e_eq1, e_eq2, e_inb, e_ix, nI_add, pk_mul, e_sub, e_b0, e_b1, e_bz, e_bz0, e_bz1, Bool.and_true, Bool.true_and, ↓reduceIte, not_true_eq_false, not_false_eq_true, decide_false, decide_true, and_self, and_true, true_and, and_false, false_and, Bool.false_eq_true, Bool.not_false, Bool.not_true, ma, z, f_X12_stone_115]
theorem g_stone {κ : Kd} {T : TD} (v w : Int32) : GO κ T (f_X11_stone v w) (f_X12_stone v w) := by
  intro σX σM ⟨A, B, I⟩
  have hM := I.2.1
  have hB := I.1.1
  have c8 := hB.1
  have hR := I.1.2.2.1
  have hl := al_lt (A 0) (by omega)
  unfold f_X11_stone f_X12_stone f_X11_stone_50
  rcases rng v 0 8 (by decide) (by decide) with hn | ⟨k, _, hk, rfl⟩
  · exact I.q (r := -1) (by simp (disch := omega) only [e_bnd, e_bndV, e_lt, e_grd, e_lit, e_le1, e_le2, e_lt1, e_lt2, e_eq1, e_eq2, e_inb, e_ix, nI_add, pk_mul, e_sub, e_b0, e_b1, e_bz, e_bz0, e_bz1, Bool.and_true, Bool.true_and, ↓reduceIte, not_true_eq_false, not_false_eq_true, decide_false, decide_true, and_self, and_true, true_and, and_false, false_and, Bool.false_eq_true, Bool.not_false, Bool.not_true, x_within, hn]) (by simp (disch := omega) only [e_bnd, e_bndV, e_lt, e_grd, e_lit, e_le1, e_le2, e_lt1, e_lt2, e_eq1, e_eq2, e_inb, e_ix, nI_add, pk_mul, e_sub, e_b0, e_b1, e_bz, e_bz0, e_bz1, Bool.and_true, Bool.true_and, ↓reduceIte, not_true_eq_false, not_false_eq_true, decide_false, decide_true, and_self, and_true, true_and, and_false, false_and, Bool.false_eq_true, Bool.not_false, Bool.not_true, m_isIn, hn])
  have xa := x_all I.2.2.1.1 c8
  have ma := m_all hM c8
  have xs := x_stone I.2.2.1.1 I.xr hR c8 hk
  have ms := m_stone hM hB hR hk w
  have m0 := m_lf hM hB hR 0
  rw [mi_0 hl] at m0
  obtain ⟨o1, o2⟩ := sst_ok A k (al (A 0)) hl
  have xl := x_lf I.xr hR c8 (sst A k (al (A 0))).1
  rw [← o2] at xl
  by_cases z : w = nI 0
  · rw [if_pos z] at ms
    refine I.q (r := nI (sst A k (al (A 0))).1) ?_ ?_
    · simp (disch := omega) only [e_bnd, e_bndV, e_lt, e_grd, e_lit, e_le1, e_le2, e_lt1, e_lt2, e_eq1, e_eq2, e_inb, e_ix, nI_add, pk_mul, e_sub, e_b0, e_b1, e_bz, e_bz0, e_bz1, Bool.and_true, Bool.true_and, ↓reduceIte, not_true_eq_false, not_false_eq_true, decide_false, decide_true, and_self, and_true, true_and, and_false, false_and, Bool.false_eq_true, Bool.not_false, Bool.not_true, x_within, xs, z]
    · simp (disch := omega) only [e_bnd, e_bndV, e_lt, e_grd, e_lit, e_le1, e_le2, e_lt1, e_lt2, e_eq1, e_eq2, e_inb, e_ix, nI_add, pk_mul, e_sub, e_b0, e_b1, e_bz, e_bz0, e_bz1, Bool.and_true, Bool.true_and, ↓reduceIte, not_true_eq_false, not_false_eq_true, decide_false, decide_true, and_self, and_true, true_and, and_false, false_and, Bool.false_eq_true, Bool.not_false, Bool.not_true, m_isIn, ma, m0]
      exact ms
  · rw [if_neg z] at ms
    refine I.q (r := nI (sst A k (al (A 0))).2) ?_ ?_
    · simp (disch := omega) only [e_bnd, e_bndV, e_lt, e_grd, e_lit, e_le1, e_le2, e_lt1, e_lt2, e_eq1, e_eq2, e_inb, e_ix, nI_add, pk_mul, e_sub, e_b0, e_b1, e_bz, e_bz0, e_bz1, Bool.and_true, Bool.true_and, ↓reduceIte, not_true_eq_false, not_false_eq_true, decide_false, decide_true, and_self, and_true, true_and, and_false, false_and, Bool.false_eq_true, Bool.not_false, Bool.not_true, x_within, xs, z, xa, xm1, xl]
    · simp (disch := omega) only [e_bnd, e_bndV, e_lt, e_grd, e_lit, e_le1, e_le2, e_lt1, e_lt2, e_eq1, e_eq2, e_inb, e_ix, nI_add, pk_mul, e_sub, e_b0, e_b1, e_bz, e_bz0, e_bz1, Bool.and_true, Bool.true_and, ↓reduceIte, not_true_eq_false, not_false_eq_true, decide_false, decide_true, and_self, and_true, true_and, and_false, false_and, Bool.false_eq_true, Bool.not_false, Bool.not_true, m_isIn, ma, m0]
      exact ms
