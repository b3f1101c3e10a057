/-! what is joined within a set of houses -/
theorem pc8_sum : ∀ n, n < 256 → pc8 n = (n.testBit 0).toNat + (n.testBit 1).toNat + (n.testBit 2).toNat + (n.testBit 3).toNat + (n.testBit 4).toNat + (n.testBit 5).toNat + (n.testBit 6).toNat + (n.testBit 7).toNat := by decide +kernel
theorem pc8_two : ∀ h, h < 8 → pc8 (2 ^ h) = 1 := by decide +kernel
theorem toNat_le {a b : Bool} (h : a = true → b = true) : a.toNat ≤ b.toNat := by
  cases a with
  | false => exact Nat.zero_le _
  | true => rw [h rfl]; exact Nat.le_refl _
theorem pc8_mono {s t : Nat} (hs : s < 256) (ht : t < 256) (h : ∀ i, i < 8 → s.testBit i = true → t.testBit i = true) : pc8 s ≤ pc8 t := by
  rw [pc8_sum s hs, pc8_sum t ht]
  have h0 := toNat_le (h 0 (by decide))
  have h1 := toNat_le (h 1 (by decide))
  have h2 := toNat_le (h 2 (by decide))
  have h3 := toNat_le (h 3 (by decide))
  have h4 := toNat_le (h 4 (by decide))
  have h5 := toNat_le (h 5 (by decide))
  have h6 := toNat_le (h 6 (by decide))
  have h7 := toNat_le (h 7 (by decide))
  omega
theorem toNat_eq {a b : Bool} (h : a.toNat = b.toNat) : a = b := by cases a <;> cases b <;> first | rfl | exact absurd h (by decide)
theorem pc8_inj {s t : Nat} (hs : s < 256) (ht : t < 256) (h : ∀ i, i < 8 → s.testBit i = true → t.testBit i = true) (e : pc8 t ≤ pc8 s) : s = t := by
  rw [pc8_sum s hs, pc8_sum t ht] at e
  have h0 := toNat_le (h 0 (by decide))
  have h1 := toNat_le (h 1 (by decide))
  have h2 := toNat_le (h 2 (by decide))
  have h3 := toNat_le (h 3 (by decide))
  have h4 := toNat_le (h 4 (by decide))
  have h5 := toNat_le (h 5 (by decide))
  have h6 := toNat_le (h 6 (by decide))
  have h7 := toNat_le (h 7 (by decide))
  refine bit_eq hs ht fun i hi => toNat_eq ?_
  rcases (by omega : i = 0 ∨ i = 1 ∨ i = 2 ∨ i = 3 ∨ i = 4 ∨ i = 5 ∨ i = 6 ∨ i = 7) with rfl | rfl | rfl | rfl | rfl | rfl | rfl | rfl <;> omega
/-- one turn -/
def FR (A : Nat → Nat) (V s : Nat) : Nat := s ||| (nb A s 8 &&& V)
def cl (A : Nat → Nat) (V s : Nat) : Nat → Nat
  | 0 => s
  | k + 1 => FR A V (cl A V s k)
/-- the houses that are joined to h within V -/
def co (A : Nat → Nat) (V h : Nat) : Nat := cl A V (2 ^ h) 8
def CL (A : Nat → Nat) (V s : Nat) : Prop := ∀ h e, h < 8 → e < 8 → s.testBit h = true → 0 < A (50 + 8 * h + e) → V.testBit e = true → s.testBit e = true
theorem FR_lt {A : Nat → Nat} {V s : Nat} (h : s < 256) : FR A V s < 256 := or_lt8 h (and_lt8 (nb_lt _ _ _))
theorem cl_lt {A : Nat → Nat} {V s : Nat} (h : s < 256) : ∀ k, cl A V s k < 256
  | 0 => h
  | k + 1 => FR_lt (cl_lt h k)
theorem FR_bit {A : Nat → Nat} {V s e : Nat} (he : e < 8) : (FR A V s).testBit e = true ↔ s.testBit e = true ∨ (∃ h, h < 8 ∧ s.testBit h = true ∧ 0 < A (50 + 8 * h + e)) ∧ V.testBit e = true := by
  unfold FR
  rw [Nat.testBit_or, Nat.testBit_and, nb_bit he]
  simp only [Bool.or_eq_true, Bool.and_eq_true, decide_eq_true_eq]
theorem FR_sub {A : Nat → Nat} {V s e : Nat} (he : e < 8) (h : s.testBit e = true) : (FR A V s).testBit e = true := (FR_bit he).mpr (Or.inl h)
theorem FR_CL {A : Nat → Nat} {V s : Nat} (h : FR A V s = s) : CL A V s := by
  intro a e ha he h1 h2 h3
  rw [← h]
  exact (FR_bit he).mpr (Or.inr ⟨⟨a, ha, h1, h2⟩, h3⟩)
theorem cl_or {A : Nat → Nat} {V s : Nat} (hs : s < 256) (h1 : 1 ≤ pc8 s) : ∀ k, FR A V (cl A V s k) = cl A V s k ∨ k + 1 ≤ pc8 (cl A V s k)
  | 0 => Or.inr h1
  | k + 1 => by
    rcases cl_or hs h1 k with e | e
    · refine Or.inl ?_
      show FR A V (FR A V (cl A V s k)) = FR A V (cl A V s k)
      rw [e, e]
    · by_cases q : FR A V (cl A V s k) = cl A V s k
      · refine Or.inl ?_
        show FR A V (FR A V (cl A V s k)) = FR A V (cl A V s k)
        rw [q, q]
      · refine Or.inr ?_
        have hl := cl_lt (A := A) (V := V) hs k
        by_cases z : pc8 (FR A V (cl A V s k)) ≤ pc8 (cl A V s k)
        · exact absurd (pc8_inj hl (FR_lt hl) (fun i hi => FR_sub hi) z).symm q
        · show _ ≤ pc8 (FR A V (cl A V s k))
          omega
theorem cl_fix {A : Nat → Nat} {V h : Nat} (hh : h < 8) : FR A V (co A V h) = co A V h := by
  have p1 := pc8_two h hh
  have hs : 2 ^ h < 256 := Nat.pow_lt_pow_right (by decide) (by omega : h < 8)
  rcases cl_or (A := A) (V := V) hs (by omega) 8 with e | e
  · exact e
  · have := pc8_le (cl A V (2 ^ h) 8)
    omega
theorem two_lt {h : Nat} (hh : h < 8) : 2 ^ h < 256 := Nat.pow_lt_pow_right (by decide) hh
theorem co_lt {A : Nat → Nat} {V h : Nat} (hh : h < 8) : co A V h < 256 := cl_lt (two_lt hh) 8
theorem co_cl {A : Nat → Nat} {V h : Nat} (hh : h < 8) : CL A V (co A V h) := FR_CL (cl_fix hh)
theorem cl_has {A : Nat → Nat} {V s e : Nat} (he : e < 8) (h : s.testBit e = true) : ∀ k, (cl A V s k).testBit e = true
  | 0 => h
  | k + 1 => FR_sub he (cl_has he h k)
theorem co_has {A : Nat → Nat} {V h : Nat} (hh : h < 8) : (co A V h).testBit h = true := cl_has hh (by rw [Nat.testBit_two_pow]; exact decide_eq_true rfl) 8
theorem cl_min {A : Nat → Nat} {V h t : Nat} (c : CL A V t) (ht : t.testBit h = true) : ∀ k e, e < 8 → (cl A V (2 ^ h) k).testBit e = true → t.testBit e = true
  | 0, e, _, q => by
    have q2 : (2 ^ h).testBit e = true := q
    rw [Nat.testBit_two_pow] at q2
    rw [← of_decide_eq_true q2]; exact ht
  | k + 1, e, he, q => by
    rcases (FR_bit he).mp q with q | ⟨⟨a, ha, h1, h2⟩, h3⟩
    · exact cl_min c ht k e he q
    · exact c a e ha he (cl_min c ht k a ha h1) h2 h3
theorem co_min {A : Nat → Nat} {V h t e : Nat} (c : CL A V t) (ht : t.testBit h = true) (he : e < 8) (q : (co A V h).testBit e = true) : t.testBit e = true := cl_min c ht 8 e he q
theorem co_sub {A : Nat → Nat} {V h e : Nat} (hV : V.testBit h = true) (he : e < 8) (q : (co A V h).testBit e = true) : V.testBit e = true := co_min (fun _ _ _ _ _ _ z => z) hV he q
theorem co_ext {A : Nat → Nat} {V W h : Nat} (hh : h < 8) (e : ∀ i, i < 8 → (co A V h).testBit i = (co A W h).testBit i) : co A V h = co A W h := bit_eq (co_lt hh) (co_lt hh) e
/-- the neighbours are neighbours both ways -/
theorem sym {A : Nat → Nat} (hR : BR A) {h e : Nat} (hh : h < 8) (he : e < 8) (q : 0 < A (50 + 8 * h + e)) : 0 < A (50 + 8 * e + h) := by
  rw [← (hR h e hh he).2.1]; exact q
/-- what is left when a closed set goes is closed -/
theorem CL_rest {A : Nat → Nat} (hR : BR A) {V D L : Nat} (c : CL A V D) (hD : ∀ i, i < 8 → D.testBit i = true → V.testBit i = true) (hL : ∀ i, i < 8 → L.testBit i = (V.testBit i && !D.testBit i)) : CL A V L := by
  intro h e hh he h1 h2 h3
  rw [hL e he, h3]
  rw [hL h hh] at h1
  simp only [Bool.and_eq_true, Bool.not_eq_true'] at h1
  cases q : D.testBit e with
  | false => rfl
  | true =>
    have := c e h he hh q (sym hR hh he h2) h1.1
    rw [this] at h1
    exact absurd h1.2 (by decide)
/-- within a closed part the joined are the same -/
theorem co_part {A : Nat → Nat} {V L h : Nat} (hh : h < 8) (c : CL A V L) (hL : ∀ i, i < 8 → L.testBit i = true → V.testBit i = true) (hb : L.testBit h = true) : co A L h = co A V h := by
  refine bit_eq (co_lt hh) (co_lt hh) fun i hi => ?_
  rw [Bool.eq_iff_iff]
  constructor
  · refine co_min (fun a e ha he h1 h2 h3 => ?_) (co_has hh) hi
    exact co_cl hh a e ha he h1 h2 (hL e he h3)
  · refine co_min (fun a e ha he h1 h2 h3 => ?_) (co_has hh) hi
    exact co_cl hh a e ha he h1 h2 (c a e ha he (co_sub hb ha h1) h2 h3)
theorem co_eq {A : Nat → Nat} (hR : BR A) {V g h : Nat} (hg : g < 8) (hh : h < 8) (hV : V.testBit g = true) (hb : (co A V g).testBit h = true) : co A V h = co A V g := by
  have hhV := co_sub hV hh hb
  have back : (co A V h).testBit g = true := by
    cases q : (co A V h).testBit g with
    | true => rfl
    | false =>
      obtain ⟨L, hL⟩ : ∃ L, L = mk 8 fun i => V.testBit i && !(co A V h).testBit i := ⟨_, rfl⟩
      have hLb : ∀ i, i < 8 → L.testBit i = (V.testBit i && !(co A V h).testBit i) := fun i hi => by
        rw [hL, mk_bit, decide_eq_true hi, Bool.true_and]
      have c := CL_rest hR (co_cl (A := A) (V := V) hh) (fun i hi z => co_sub hhV hi z) hLb
      have := co_min c (h := g) (by rw [hLb g hg, q, hV]; rfl) hh hb
      rw [hLb h hh, co_has hh, hhV] at this
      exact absurd this (by decide)
  refine bit_eq (co_lt hh) (co_lt hg) fun i hi => ?_
  rw [Bool.eq_iff_iff]
  exact ⟨co_min (co_cl hg) hb hi, co_min (co_cl hh) back hi⟩
/-! the class's way -/
theorem cl_same {A : Nat → Nat} {V s k : Nat} (e : FR A V (cl A V s k) = cl A V s k) : ∀ d, cl A V s (k + d) = cl A V s k
  | 0 => rfl
  | d + 1 => by
    show FR A V (cl A V s (k + d)) = _
    rw [cl_same e d, e]
theorem x_group7 {σ : Sg} {t : Nat} {A : Nat → Nat} (hR : XR σ t A) {V s : Nat} (hs : s < 256) : ∀ d k, k + d = 8 → ∀ fu, d < fu → f_X5_group_7 t fu (nI V) (nI (cl A V s k)) (nI k) σ = some (nI (cl A V s 8), σ)
  | 0, k, hk, fu, hf => by
    obtain ⟨f, rfl⟩ : ∃ f, fu = f + 1 := ⟨fu - 1, by omega⟩
    rw [show k = 8 by omega, f_X5_group_7]
    simp (disch := omega) only [e_bnd, e_bndV, e_lt, e_grd, e_lit, e_le1, e_le2, e_lt1, e_lt2, e_eq1, e_eq2, e_inb, e_ix, nI_add, pk_mul, e_sub, e_b0, e_b1, e_bz, e_bz0, e_bz1, Bool.and_true, Bool.true_and, ↓reduceIte, not_true_eq_false, not_false_eq_true, decide_false, decide_true, and_self, and_true, true_and, and_false, false_and, Bool.false_eq_true, Bool.not_false, Bool.not_true, f_X5_group_42]
  | d + 1, k, hk, fu, hf => by
    obtain ⟨f, rfl⟩ : ∃ f, fu = f + 1 := ⟨fu - 1, by omega⟩
    have hl := cl_lt (A := A) (V := V) hs k
    have hl1 := FR_lt (A := A) (V := V) hl
    have hb := x_besideAll hR hl
    have e : cl A V s k ||| (nb A (cl A V s k) 8 &&& V) = FR A V (cl A V s k) := rfl
    have ih := x_group7 hR hs (V := V) d (k + 1) (by omega) f (by omega)
    rw [f_X5_group_7]
    by_cases q : FR A V (cl A V s k) = cl A V s k
    · have hs8 := cl_same q (8 - k)
      rw [show k + (8 - k) = 8 by omega] at hs8
      rw [hs8]
      simp (disch := omega) only [e_bnd, e_bndV, e_lt, e_grd, e_lit, e_le1, e_le2, e_lt1, e_lt2, e_eq1, e_eq2, e_inb, e_ix, nI_add, pk_mul, e_sub, e_b0, e_b1, e_bz, e_bz0, e_bz1, Bool.and_true, Bool.true_and, ↓reduceIte, not_true_eq_false, not_false_eq_true, decide_false, decide_true, and_self, and_true, true_and, and_false, false_and, Bool.false_eq_true, Bool.not_false, Bool.not_true, hb, and_I, or_I, e, q, f_X5_group_42]
    · simp (disch := omega) only [e_bnd, e_bndV, e_lt, e_grd, e_lit, e_le1, e_le2, e_lt1, e_lt2, e_eq1, e_eq2, e_inb, e_ix, nI_add, pk_mul, e_sub, e_b0, e_b1, e_bz, e_bz0, e_bz1, Bool.and_true, Bool.true_and, ↓reduceIte, not_true_eq_false, not_false_eq_true, decide_false, decide_true, and_self, and_true, true_and, and_false, false_and, Bool.false_eq_true, Bool.not_false, Bool.not_true, hb, and_I, or_I, e, q]
      exact ih
theorem low_t : ∀ v, v < 256 → ∀ h, h < 8 → v.testBit h = true → v % 2 ^ h = 0 → nI v &&& (-nI v) = nI (2 ^ h) := by decide +kernel
theorem x_group {σ : Sg} {t : Nat} {A : Nat → Nat} (hR : XR σ t A) {V h : Nat} (hV : V < 256) (hh : h < 8) (hb : V.testBit h = true) (hl : V % 2 ^ h = 0) : f_X5_group t (nI V) σ = some (nI (co A V h), σ) := by
  unfold f_X5_group
  rw [low_t V hV h hh hb hl]
  exact x_group7 hR (two_lt hh) 8 0 (by decide) FU (by unfold FU; omega)
/-! the reference's way -/
def gp (A : Nat → Nat) (V s : Nat) : Nat → Nat
  | 0 => s
  | i + 1 => if (gp A V s i).testBit i = true then gp A V s i ||| (bes A i &&& V) else gp A V s i
def gc (A : Nat → Nat) (V N s : Nat) : Nat → Nat
  | 0 => s
  | k + 1 => gp A V (gc A V N s k) N
theorem gp_lt {A : Nat → Nat} {V s : Nat} (h : s < 256) : ∀ i, gp A V s i < 256
  | 0 => h
  | i + 1 => by
    show (if _ then _ else _) < 256
    split
    · exact or_lt8 (gp_lt h i) (and_lt8 (bes_lt _ _))
    · exact gp_lt h i
theorem gp_sub {A : Nat → Nat} {V s e : Nat} (h : s.testBit e = true) : ∀ i, (gp A V s i).testBit e = true
  | 0 => h
  | i + 1 => by
    show (if _ then _ else _ : Nat).testBit e = true
    split
    · rw [Nat.testBit_or, gp_sub h i]; rfl
    · exact gp_sub h i
theorem gp_edge {A : Nat → Nat} {V s a e : Nat} (he : e < 8) (h1 : s.testBit a = true) (h2 : 0 < A (50 + 8 * a + e)) (h3 : V.testBit e = true) : ∀ i, a < i → (gp A V s i).testBit e = true
  | 0, h => absurd h (by omega)
  | i + 1, h => by
    show (if _ then _ else _ : Nat).testBit e = true
    by_cases z : a = i
    · subst z
      rw [if_pos (gp_sub h1 a), Nat.testBit_or, Nat.testBit_and, bes_bit _ _ _ he, decide_eq_true h2, h3, Bool.and_true, Bool.or_true]
    · have ih := gp_edge he h1 h2 h3 i (by omega)
      split
      · rw [Nat.testBit_or, ih]; rfl
      · exact ih
theorem gp_min {A : Nat → Nat} {V s t : Nat} (c : CL A V t) (hs : ∀ e, e < 8 → s.testBit e = true → t.testBit e = true) : ∀ i, i ≤ 8 → ∀ e, e < 8 → (gp A V s i).testBit e = true → t.testBit e = true
  | 0, _, e, he, q => hs e he q
  | i + 1, hi, e, he, q => by
    have ih := gp_min c hs i (by omega)
    have q2 : (if (gp A V s i).testBit i = true then gp A V s i ||| (bes A i &&& V) else gp A V s i).testBit e = true := q
    by_cases z : (gp A V s i).testBit i = true
    · rw [if_pos z, Nat.testBit_or, Nat.testBit_and, bes_bit _ _ _ he] at q2
      simp only [Bool.or_eq_true, Bool.and_eq_true, decide_eq_true_eq] at q2
      rcases q2 with q2 | ⟨q2, q3⟩
      · exact ih e he q2
      · exact c i e (by omega) he (ih i (by omega) z) q2 q3
    · rw [if_neg z] at q2
      exact ih e he q2
theorem gc_lt {A : Nat → Nat} {V N s : Nat} (h : s < 256) : ∀ k, gc A V N s k < 256
  | 0 => h
  | k + 1 => gp_lt (gc_lt h k) N
theorem gc_co {A : Nat → Nat} (hR : BR A) (c8 : A 0 ≤ 8) {V h : Nat} (hh : h < 8) : gc A V (A 0) (2 ^ h) 8 = co A V h := by
  have up1 : ∀ k e, e < 8 → (cl A V (2 ^ h) k).testBit e = true → (gc A V (A 0) (2 ^ h) k).testBit e = true := by
    intro k
    induction k with
    | zero => exact fun e _ q => q
    | succ k ih =>
      intro e he q
      rcases (FR_bit he).mp q with q | ⟨⟨a, ha, h1, h2⟩, h3⟩
      · exact gp_sub (ih e he q) _
      · refine gp_edge he (ih a ha h1) h2 h3 _ ?_
        by_cases z : a < A 0
        · exact z
        · have := (hR a e ha he).2.2.1 (by omega)
          omega
  have dn : ∀ k e, e < 8 → (gc A V (A 0) (2 ^ h) k).testBit e = true → (co A V h).testBit e = true := by
    intro k
    induction k with
    | zero => exact fun e he q => cl_has he q 8
    | succ k ih => exact fun e he q => gp_min (co_cl hh) ih (A 0) c8 e he q
  refine bit_eq (gc_lt (two_lt hh) 8) (co_lt hh) fun i hi => ?_
  rw [Bool.eq_iff_iff]
  exact ⟨dn 8 i hi, up1 8 i hi⟩
theorem m_heapOf {σ : Sg} {A : Nat → Nat} (hM : MA σ A) (hB : BT A) (hR : BR A) {V h : Nat} (hh : h < 8) : f_X12_heapOf (nI h) (nI V) σ = some (nI (co A V h), σ) := by
  have c8 := hB.1
  have r0 := hM.1 0 (by decide) (by decide) (by decide)
  have inner : ∀ (f : Nat) (s k : Nat), s < 256 → f_X12_heapOf_17 (f_X12_heapOf_7 f) FU (nI V) (nI s) (nI k) (nI 0) σ = f_X12_heapOf_7 f (nI V) (nI (gp A V s (A 0))) (nI (k + 1)) σ := by
    intro f s k hs
    refine lp (fun fu (q : Int32 × Int32) => f_X12_heapOf_17 (f_X12_heapOf_7 f) fu (nI V) q.1 (nI k) q.2 σ) (fun i => (nI (gp A V s i), nI i)) (A 0) (fun i hi fu => ?_) (fun fu => ?_) FU (by unfold FU; omega)
    · dsimp only
      rw [f_X12_heapOf_17]
      have hg := gp_lt (A := A) (V := V) hs i
      have mh := m_has hg (by omega : i < 9) σ
      have e1 : gp A V s (i + 1) = if (gp A V s i).testBit i = true then gp A V s i ||| (bes A i &&& V) else gp A V s i := rfl
      rw [e1]
      by_cases q : (gp A V s i).testBit i = true
      · rw [if_pos q] at mh ⊢
        simp (disch := omega) only [e_bnd, e_bndV, e_lt, e_grd, e_lit, e_le1, e_le2, e_lt1, e_lt2, e_eq1, e_eq2, e_inb, e_ix, nI_add, pk_mul, e_sub, e_b0, e_b1, e_bz, e_bz0, e_bz1, Bool.and_true, Bool.true_and, ↓reduceIte, not_true_eq_false, not_false_eq_true, decide_false, decide_true, and_self, and_true, true_and, and_false, false_and, Bool.false_eq_true, Bool.not_false, Bool.not_true, r0, mh, m_beside hM c8 hR, and_I, or_I, f_X12_heapOf_48]
      · rw [if_neg q] at mh ⊢
        simp (disch := omega) only [e_bnd, e_bndV, e_lt, e_grd, e_lit, e_le1, e_le2, e_lt1, e_lt2, e_eq1, e_eq2, e_inb, e_ix, nI_add, pk_mul, e_sub, e_b0, e_b1, e_bz, e_bz0, e_bz1, Bool.and_true, Bool.true_and, ↓reduceIte, not_true_eq_false, not_false_eq_true, decide_false, decide_true, and_self, and_true, true_and, and_false, false_and, Bool.false_eq_true, Bool.not_false, Bool.not_true, r0, mh, f_X12_heapOf_48]
    · dsimp only
      rw [f_X12_heapOf_17]
      simp (disch := omega) only [e_bnd, e_bndV, e_lt, e_grd, e_lit, e_le1, e_le2, e_lt1, e_lt2, e_eq1, e_eq2, e_inb, e_ix, nI_add, pk_mul, e_sub, e_b0, e_b1, e_bz, e_bz0, e_bz1, Bool.and_true, Bool.true_and, ↓reduceIte, not_true_eq_false, not_false_eq_true, decide_false, decide_true, and_self, and_true, true_and, and_false, false_and, Bool.false_eq_true, Bool.not_false, Bool.not_true, r0]
  rw [← gc_co hR c8 hh]
  unfold f_X12_heapOf
  simp (disch := omega) only [e_lit, sh1]
  have h0 : gc A V (A 0) (2 ^ h) 0 = 2 ^ h := rfl
  rw [← h0]
  refine lp (fun fu (q : Int32 × Int32) => f_X12_heapOf_7 fu (nI V) q.1 q.2 σ) (fun k => (nI (gc A V (A 0) (2 ^ h) k), nI k)) 8 (fun k hk fu => ?_) (fun fu => ?_) FU (by unfold FU; omega)
  · dsimp only
    rw [f_X12_heapOf_7]
    have := inner fu (gc A V (A 0) (2 ^ h) k) k (gc_lt (two_lt hh) k)
    simp (disch := omega) only [e_bnd, e_bndV, e_lt, e_grd, e_lit, e_le1, e_le2, e_lt1, e_lt2, e_eq1, e_eq2, e_inb, e_ix, nI_add, pk_mul, e_sub, e_b0, e_b1, e_bz, e_bz0, e_bz1, Bool.and_true, Bool.true_and, ↓reduceIte, not_true_eq_false, not_false_eq_true, decide_false, decide_true, and_self, and_true, true_and, and_false, false_and, Bool.false_eq_true, Bool.not_false, Bool.not_true]
    exact this
  · dsimp only
    rw [f_X12_heapOf_7]
    simp (disch := omega) only [e_bnd, e_bndV, e_lt, e_grd, e_lit, e_le1, e_le2, e_lt1, e_lt2, e_eq1, e_eq2, e_inb, e_ix, nI_add, pk_mul, e_sub, e_b0, e_b1, e_bz, e_bz0, e_bz1, Bool.and_true, Bool.true_and, ↓reduceIte, not_true_eq_false, not_false_eq_true, decide_false, decide_true, and_self, and_true, true_and, and_false, false_and, Bool.false_eq_true, Bool.not_false, Bool.not_true, h0]
