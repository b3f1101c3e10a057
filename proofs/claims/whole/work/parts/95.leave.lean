/-! METHODS: leave -/
theorem cnt_congr {p q : Nat → Bool} : ∀ n, (∀ i, i < n → p i = q i) → cnt p n = cnt q n
  | 0, _ => rfl
  | n + 1, h => by
    show cnt p n + _ = cnt q n + _
    rw [cnt_congr n (fun i hi => h i (by omega)), h n (by omega)]
theorem cnt_mono {p q : Nat → Bool} : ∀ n, (∀ i, i < n → p i = true → q i = true) → cnt p n ≤ cnt q n
  | 0, _ => Nat.le_refl _
  | n + 1, h => by
    have e := cnt_mono n (fun i hi => h i (by omega))
    have e2 := h n (by omega)
    show cnt p n + _ ≤ cnt q n + _
    cases hp : p n with
    | true => rw [e2 hp]; omega
    | false => simp only [Bool.false_eq_true, if_false]; omega
theorem cnt_plus {p q : Nat → Bool} {b : Nat} (hb : p b = false) (hq : q b = true) : ∀ n, b < n → (∀ i, i < n → i ≠ b → q i = p i) → cnt q n = cnt p n + 1
  | 0, h, _ => absurd h (by omega)
  | n + 1, h, e => by
    by_cases z : b = n
    · subst z
      rw [cnt_1 hq, cnt_0 hb, cnt_congr b (fun i hi => e i (by omega) (by omega))]
    · have := cnt_plus hb hq n (by omega) (fun i hi hne => e i (by omega) hne)
      show cnt q n + _ = cnt p n + _ + 1
      rw [e n (by omega) (fun y => z y.symm), this]
      omega
theorem cnt_all {p : Nat → Bool} : ∀ n, (∀ i, i < n → p i = true) → cnt p n = n
  | 0, _ => rfl
  | n + 1, h => by
    rw [cnt_1 (h n (by omega)), cnt_all n (fun i hi => h i (by omega))]
/-- e is ahead of h -/
def bef (A : Nat → Nat) (e h : Nat) : Prop := A (162 + h) < A (162 + e) ∨ (A (162 + e) = A (162 + h) ∧ e < h)
def befB (A : Nat → Nat) (h e : Nat) : Bool := decide (A (162 + h) < A (162 + e) ∨ (A (162 + e) = A (162 + h) ∧ e < h))
def rk (A : Nat → Nat) (h : Nat) : Nat := cnt (befB A h) (A 0)
theorem befB_iff {A : Nat → Nat} {h e : Nat} : befB A h e = true ↔ bef A e h := decide_eq_true_iff
theorem bef_tot {A : Nat → Nat} {e h : Nat} (hne : e ≠ h) : bef A e h ∨ bef A h e := by
  unfold bef
  omega
theorem bef_asym {A : Nat → Nat} {e h : Nat} (h1 : bef A e h) : ¬ bef A h e := by
  unfold bef at *
  omega
theorem bef_trans {A : Nat → Nat} {a b c : Nat} (h1 : bef A a b) (h2 : bef A b c) : bef A a c := by
  unfold bef at *
  omega
theorem rk_lt {A : Nat → Nat} {a b : Nat} (ha : a < A 0) (h : bef A a b) : rk A a < rk A b := by
  unfold rk
  have h1 : cnt (befB A a) (A 0) + 1 = cnt (fun e => befB A a e || decide (e = a)) (A 0) := by
    refine (cnt_plus (b := a) ?_ (by simp) (A 0) ha (fun i hi hne => by simp [hne])).symm
    have : ¬ bef A a a := fun q => bef_asym q q
    unfold befB
    exact decide_eq_false this
  have h2 : cnt (fun e => befB A a e || decide (e = a)) (A 0) ≤ cnt (befB A b) (A 0) := by
    refine cnt_mono _ (fun i hi hp => ?_)
    rcases Bool.or_eq_true _ _ |>.mp hp with q | q
    · exact befB_iff.mpr (bef_trans (befB_iff.mp q) h)
    · have := of_decide_eq_true q
      subst this
      exact befB_iff.mpr h
  omega
theorem rk_cnt {A : Nat → Nat} {h : Nat} (hh : h < A 0) : rk A h < A 0 := by
  unfold rk
  have h1 : cnt (befB A h) (A 0) + 1 = cnt (fun e => befB A h e || decide (e = h)) (A 0) := by
    refine (cnt_plus (b := h) ?_ (by simp) (A 0) hh (fun i hi hne => by simp [hne])).symm
    exact decide_eq_false (fun q : bef A h h => bef_asym q q)
  have := cnt_le (fun e => befB A h e || decide (e = h)) (A 0)
  omega
/-- the highest bidder of those that are left out of S -/
def hbS (A : Nat → Nat) (S : Nat) : Nat → Option Nat
  | 0 => none
  | i + 1 => if S.testBit i = true then hbS A S i else match hbS A S i with
    | none => some i
    | some b => if A (162 + b) < A (162 + i) then some i else some b
theorem hbS_spec {A : Nat → Nat} {S : Nat} : ∀ i, (match hbS A S i with
    | none => ∀ e, e < i → S.testBit e = true
    | some b => b < i ∧ S.testBit b = false ∧ ∀ e, e < i → S.testBit e = false → e ≠ b → bef A b e)
  | 0 => fun e he => absurd he (by omega)
  | i + 1 => by
    have ih := hbS_spec (A := A) (S := S) i
    unfold hbS
    by_cases q : S.testBit i = true
    · rw [if_pos q]
      cases hb : hbS A S i with
      | none =>
        rw [hb] at ih
        intro e he
        by_cases z : e = i
        · subst z; exact q
        · exact ih e (by omega)
      | some b =>
        rw [hb] at ih
        obtain ⟨h1, h2, h3⟩ := ih
        refine ⟨by omega, h2, fun e he hs hne => h3 e ?_ hs hne⟩
        have : e ≠ i := fun z => by subst z; rw [q] at hs; cases hs
        omega
    · rw [if_neg q]
      have qf : S.testBit i = false := by
        cases z : S.testBit i with
        | true => exact absurd z q
        | false => rfl
      cases hb : hbS A S i with
      | none =>
        rw [hb] at ih
        refine ⟨by omega, qf, fun e he hs hne => ?_⟩
        rw [ih e (by omega)] at hs
        cases hs
      | some b =>
        rw [hb] at ih
        obtain ⟨h1, h2, h3⟩ := ih
        dsimp only
        by_cases c : A (162 + b) < A (162 + i)
        · rw [if_pos c]
          refine ⟨by omega, qf, fun e he hs hne => ?_⟩
          by_cases z : e = b
          · subst z; exact Or.inl c
          · exact bef_trans (Or.inl c) (h3 e (by omega) hs z)
        · rw [if_neg c]
          refine ⟨by omega, h2, fun e he hs hne => ?_⟩
          by_cases z : e = i
          · subst z
            unfold bef
            omega
          · exact h3 e (by omega) hs hne
theorem hbS_t {A : Nat → Nat} {S i : Nat} (q : S.testBit i = true) : hbS A S (i + 1) = hbS A S i := if_pos q
theorem hbS_n {A : Nat → Nat} {S i : Nat} (q : S.testBit i = false) (h : hbS A S i = none) : hbS A S (i + 1) = some i := by
  rw [hbS, if_neg (by rw [q]; decide), h]
theorem hbS_s1 {A : Nat → Nat} {S i b : Nat} (q : S.testBit i = false) (h : hbS A S i = some b) (c : A (162 + b) < A (162 + i)) : hbS A S (i + 1) = some i := by
  rw [hbS, if_neg (by rw [q]; decide), h]
  exact if_pos c
theorem hbS_s2 {A : Nat → Nat} {S i b : Nat} (q : S.testBit i = false) (h : hbS A S i = some b) (c : ¬ A (162 + b) < A (162 + i)) : hbS A S (i + 1) = some b := by
  rw [hbS, if_neg (by rw [q]; decide), h]
  exact if_neg c
def hbI : Option Nat → Int32
  | none => -1
  | some b => nI b
theorem x_highest {κ : Kd} {T : TD} {σX σM : Sg} {A B : Nat → Nat} (I : I2 κ T σX σM A B) {S : Nat} (hS : S < 256) : f_X11_highestBidder (nI S) σX = some (hbI (hbS A S (A 0)), σX) := by
  have c8 := I.1.1.1
  have x0 : σX.1 2 0 = nI (A 0) := I.2.2.1.1.1
  have xb : ∀ h, h < 8 → σX.1 15 h = nI (A (162 + h)) := I.2.2.1.2.2.2.2.2.2.2.2.1
  have bb := I.1.2.2.2.2.2.2.2.2.2.2.1
  unfold f_X11_highestBidder
  refine lp (fun fu (q : Int32 × Int32) => f_X11_highestBidder_4 fu (nI S) q.1 q.2 σX) (fun i => (hbI (hbS A S i), nI i)) (A 0) (fun i hi fu => ?_) (fun fu => ?_) FU (by unfold FU; omega)
  · have sp := hbS_spec (A := A) (S := S) i
    have z0 : (shr (nI S) (nI i) &&& nI 1 = nI 0) = (S.testBit i = false) := e_hb0 hS (by omega)
    dsimp only
    rw [f_X11_highestBidder_4]
    cases q : S.testBit i with
    | true =>
      rw [q] at z0
      rw [hbS_t q]
      have z1 : (shr (nI S) (nI i) &&& nI 1 = nI 0) = False := by rw [z0]; exact eq_false (by decide)
      simp (disch := omega) only [e_bnd, e_bndV, e_lt, e_grd, e_lit, e_le1, e_le2, e_lt1, e_lt2, e_eq1, e_eq2, e_inb, e_ix, nI_add, pk_mul, e_sub, e_b0, e_b1, e_bz, e_bz0, e_bz1, Bool.and_true, Bool.true_and, ↓reduceIte, not_true_eq_false, not_false_eq_true, decide_false, decide_true, and_self, and_true, true_and, and_false, false_and, Bool.false_eq_true, Bool.not_false, Bool.not_true, x0, z1, f_X11_highestBidder_31, f_X11_highestBidder_66]
    | false =>
      rw [q] at z0
      have z1 : (shr (nI S) (nI i) &&& nI 1 = nI 0) = True := by rw [z0]; exact eq_true rfl
      cases hb : hbS A S i with
      | none =>
        have hm : hbI none = -nI 1 := rfl
        have hi2 : hbI (some i) = nI i := rfl
        rw [hbS_n q hb]
        simp (disch := omega) only [e_bnd, e_bndV, e_lt, e_grd, e_lit, e_le1, e_le2, e_lt1, e_lt2, e_eq1, e_eq2, e_inb, e_ix, nI_add, pk_mul, e_sub, e_b0, e_b1, e_bz, e_bz0, e_bz1, Bool.and_true, Bool.true_and, ↓reduceIte, not_true_eq_false, not_false_eq_true, decide_false, decide_true, and_self, and_true, true_and, and_false, false_and, Bool.false_eq_true, Bool.not_false, Bool.not_true, x0, z1, f_X11_highestBidder_31, hm, hi2, f_X11_highestBidder_64, f_X11_highestBidder_66]
      | some b =>
        rw [hb] at sp
        have hbi : b < i := sp.1
        have h1 := bb b (by omega)
        have h2 := bb i (by omega)
        have hm : hbI (some b) = nI b := rfl
        have hi2 : hbI (some i) = nI i := rfl
        have hne : (nI b = -nI 1) = False := e_m1n b (by omega)
        by_cases c : A (162 + b) < A (162 + i)
        · rw [hbS_s1 q hb c]
          simp (disch := omega) only [e_bnd, e_bndV, e_lt, e_grd, e_lit, e_le1, e_le2, e_lt1, e_lt2, e_eq1, e_eq2, e_inb, e_ix, nI_add, pk_mul, e_sub, e_b0, e_b1, e_bz, e_bz0, e_bz1, Bool.and_true, Bool.true_and, ↓reduceIte, not_true_eq_false, not_false_eq_true, decide_false, decide_true, and_self, and_true, true_and, and_false, false_and, Bool.false_eq_true, Bool.not_false, Bool.not_true, x0, z1, f_X11_highestBidder_31, hm, hi2, hne, xb, f_X11_highestBidder_64, f_X11_highestBidder_66]
        · rw [hbS_s2 q hb c]
          simp (disch := omega) only [e_bnd, e_bndV, e_lt, e_grd, e_lit, e_le1, e_le2, e_lt1, e_lt2, e_eq1, e_eq2, e_inb, e_ix, nI_add, pk_mul, e_sub, e_b0, e_b1, e_bz, e_bz0, e_bz1, Bool.and_true, Bool.true_and, ↓reduceIte, not_true_eq_false, not_false_eq_true, decide_false, decide_true, and_self, and_true, true_and, and_false, false_and, Bool.false_eq_true, Bool.not_false, Bool.not_true, x0, z1, f_X11_highestBidder_31, hm, hne, xb, f_X11_highestBidder_66]
  · dsimp only
    rw [f_X11_highestBidder_4]
    simp (disch := omega) only [e_bnd, e_bndV, e_lt, e_grd, e_lit, e_le1, e_le2, e_lt1, e_lt2, e_eq1, e_eq2, e_inb, e_ix, nI_add, pk_mul, e_sub, e_b0, e_b1, e_bz, e_bz0, e_bz1, Bool.and_true, Bool.true_and, ↓reduceIte, not_true_eq_false, not_false_eq_true, decide_false, decide_true, and_self, and_true, true_and, and_false, false_and, Bool.false_eq_true, Bool.not_false, Bool.not_true, x0]
def lvS (A : Nat → Nat) (k : Nat) : Nat := mk (A 0) fun h => decide (rk A h < k)
/-- after k have got it, the next is of rank k -/
theorem lv_next {A : Nat → Nat} {k : Nat} (hc : cnt (fun h => decide (rk A h < k)) (A 0) = min k (A 0)) : (k < A 0 → ∃ b, hbS A (lvS A k) (A 0) = some b ∧ b < A 0 ∧ rk A b = k ∧ ∀ h, h < A 0 → rk A h = k → h = b) ∧ (A 0 ≤ k → hbS A (lvS A k) (A 0) = none) := by
  have sp := hbS_spec (A := A) (S := lvS A k) (A 0)
  have hbit : ∀ h, h < A 0 → (lvS A k).testBit h = decide (rk A h < k) := fun h hh => by
    unfold lvS
    rw [mk_bit]
    simp [hh]
  refine ⟨fun hk => ?_, fun hk => ?_⟩
  · cases hb : hbS A (lvS A k) (A 0) with
    | none =>
      rw [hb] at sp
      have : cnt (fun h => decide (rk A h < k)) (A 0) = A 0 := cnt_all _ (fun i hi => by rw [← hbit i hi]; exact sp i hi)
      omega
    | some b =>
      rw [hb] at sp
      obtain ⟨h1, h2, h3⟩ := sp
      rw [hbit b h1] at h2
      have h2' : ¬ rk A b < k := of_decide_eq_false h2
      have hr : rk A b = cnt (fun h => decide (rk A h < k)) (A 0) := by
        unfold rk
        refine cnt_congr _ (fun e he => ?_)
        show befB A b e = decide (rk A e < k)
        by_cases q : rk A e < k
        · rw [decide_eq_true q]
          refine befB_iff.mpr ?_
          by_cases z : e = b
          · subst z; exact absurd q h2'
          · rcases bef_tot z with y | y
            · exact y
            · have := rk_lt h1 y
              omega
        · rw [decide_eq_false q]
          refine decide_eq_false (fun y : bef A e b => ?_)
          have z : e ≠ b := fun z => by subst z; exact bef_asym y y
          exact bef_asym y (h3 e he (by rw [hbit e he]; exact decide_eq_false q) z)
      refine ⟨b, rfl, h1, by omega, fun h hh hk2 => ?_⟩
      by_cases z : h = b
      · exact z
      · rcases bef_tot z with y | y
        · have := rk_lt hh y
          omega
        · have := rk_lt h1 y
          omega
  · cases hb : hbS A (lvS A k) (A 0) with
    | none => rfl
    | some b =>
      rw [hb] at sp
      obtain ⟨h1, h2, h3⟩ := sp
      rw [hbit b h1] at h2
      have := rk_cnt h1
      exact absurd (by omega) (of_decide_eq_false h2)
theorem lv_cnt {A : Nat → Nat} : ∀ k, cnt (fun h => decide (rk A h < k)) (A 0) = min k (A 0)
  | 0 => by
    rw [Nat.zero_min]
    have : cnt (fun h => decide (rk A h < 0)) (A 0) = cnt (fun _ => false) (A 0) := cnt_congr _ (fun i _ => decide_eq_false (by omega))
    rw [this]
    have z : ∀ n, cnt (fun _ => false) n = 0 := fun n => by
      induction n with
      | zero => rfl
      | succ n ih => rw [cnt_0 rfl, ih]
    exact z _
  | k + 1 => by
    have ih := lv_cnt (A := A) k
    obtain ⟨n1, n2⟩ := lv_next ih
    by_cases hk : k < A 0
    · obtain ⟨b, _, hb, hr, hu⟩ := n1 hk
      rw [cnt_plus (p := fun h => decide (rk A h < k)) (q := fun h => decide (rk A h < k + 1)) (b := b) (decide_eq_false (by omega)) (decide_eq_true (by omega)) (A 0) hb (fun i hi hne => ?_), ih]
      · clear n1 n2 hu
        omega
      · have : rk A i ≠ k := fun q => hne (hu i hi q)
        clear n1 n2 hu
        congr 1
        apply propext
        omega
    · clear n1 n2
      rw [← ih.trans (show min k (A 0) = min (k + 1) (A 0) by omega)]
      refine cnt_congr _ (fun i hi => ?_)
      have := rk_cnt hi
      rw [decide_eq_true (by omega), decide_eq_true (by omega)]
theorem lv_step {A : Nat → Nat} {k b : Nat} (c8 : A 0 ≤ 8) (hb : b < A 0) (hr : rk A b = k) (hu : ∀ h, h < A 0 → rk A h = k → h = b) : lvS A k ||| 2 ^ b = lvS A (k + 1) := by
  have p8 : 2 ^ b < 256 := Nat.pow_lt_pow_right (m := b) (n := 8) (by decide) (by omega)
  refine bit_eq (or_lt8 (mk8 _ c8) p8) (mk8 _ c8) fun i hi => ?_
  rw [Nat.testBit_or]
  unfold lvS
  rw [mk_bit, mk_bit, Nat.testBit_two_pow]
  by_cases q : i < A 0
  · simp only [q, decide_true, Bool.true_and]
    rw [← Bool.decide_or]
    congr 1
    apply propext
    constructor
    · rintro (h | h)
      · omega
      · subst h; omega
    · intro h
      by_cases z : rk A i < k
      · exact Or.inl z
      · exact Or.inr (hu i q (by omega)).symm
  · have : b ≠ i := by omega
    simp [q, this]
theorem m_ahead {σM : Sg} {A : Nat → Nat} (hM : MA σM A) (c8 : A 0 ≤ 8) (bb : ∀ h, h < 8 → A (162 + h) ≤ 99) {h : Nat} (hh : h < A 0) : f_X12_ahead (nI h) σM = some (nI (rk A h), σM) := by
  have r0 := hM.1 0 (by decide) (by decide) (by decide)
  have rh := hM.1 (162 + h) (by omega) (by omega) (by omega)
  have b1 := bb h (by omega)
  unfold f_X12_ahead
  refine lp (fun fu (q : Int32 × Int32) => f_X12_ahead_4 fu (nI h) q.1 q.2 σM) (fun i => (nI (cnt (befB A h) i), nI i)) (A 0) (fun i hi fu => ?_) (fun fu => ?_) FU (by unfold FU; omega)
  · have ri := hM.1 (162 + i) (by omega) (by omega) (by omega)
    have b2 := bb i (by omega)
    dsimp only
    rw [f_X12_ahead_4]
    by_cases q : A (162 + h) < A (162 + i)
    · rw [cnt_1 (befB_iff.mpr (Or.inl q))]
      simp (disch := omega) only [e_bnd, e_bndV, e_lt, e_grd, e_lit, e_le1, e_le2, e_lt1, e_lt2, e_eq1, e_eq2, e_inb, e_ix, nI_add, pk_mul, e_sub, e_b0, e_b1, e_bz, e_bz0, e_bz1, Bool.and_true, Bool.true_and, ↓reduceIte, not_true_eq_false, not_false_eq_true, decide_false, decide_true, and_self, and_true, true_and, and_false, false_and, Bool.false_eq_true, Bool.not_false, Bool.not_true, r0, rh, ri, f_X12_ahead_66, f_X12_ahead_71]
    · by_cases q2 : A (162 + i) = A (162 + h)
      · by_cases q3 : i < h
        · rw [cnt_1 (befB_iff.mpr (Or.inr ⟨q2, q3⟩))]
          simp (disch := omega) only [e_bnd, e_bndV, e_lt, e_grd, e_lit, e_le1, e_le2, e_lt1, e_lt2, e_eq1, e_eq2, e_inb, e_ix, nI_add, pk_mul, e_sub, e_b0, e_b1, e_bz, e_bz0, e_bz1, Bool.and_true, Bool.true_and, ↓reduceIte, not_true_eq_false, not_false_eq_true, decide_false, decide_true, and_self, and_true, true_and, and_false, false_and, Bool.false_eq_true, Bool.not_false, Bool.not_true, r0, rh, ri, q2, f_X12_ahead_66, f_X12_ahead_71]
        · rw [cnt_0 (decide_eq_false (by omega))]
          simp (disch := omega) only [e_bnd, e_bndV, e_lt, e_grd, e_lit, e_le1, e_le2, e_lt1, e_lt2, e_eq1, e_eq2, e_inb, e_ix, nI_add, pk_mul, e_sub, e_b0, e_b1, e_bz, e_bz0, e_bz1, Bool.and_true, Bool.true_and, ↓reduceIte, not_true_eq_false, not_false_eq_true, decide_false, decide_true, and_self, and_true, true_and, and_false, false_and, Bool.false_eq_true, Bool.not_false, Bool.not_true, r0, rh, ri, q2, f_X12_ahead_70, f_X12_ahead_71, Nat.add_zero]
      · rw [cnt_0 (decide_eq_false (by omega))]
        simp (disch := omega) only [e_bnd, e_bndV, e_lt, e_grd, e_lit, e_le1, e_le2, e_lt1, e_lt2, e_eq1, e_eq2, e_inb, e_ix, nI_add, pk_mul, e_sub, e_b0, e_b1, e_bz, e_bz0, e_bz1, Bool.and_true, Bool.true_and, ↓reduceIte, not_true_eq_false, not_false_eq_true, decide_false, decide_true, and_self, and_true, true_and, and_false, false_and, Bool.false_eq_true, Bool.not_false, Bool.not_true, r0, rh, ri, f_X12_ahead_70, f_X12_ahead_71, Nat.add_zero]
  · dsimp only
    rw [f_X12_ahead_4]
    simp (disch := omega) only [e_bnd, e_bndV, e_lt, e_grd, e_lit, e_le1, e_le2, e_lt1, e_lt2, e_eq1, e_eq2, e_inb, e_ix, nI_add, pk_mul, e_sub, e_b0, e_b1, e_bz, e_bz0, e_bz1, Bool.and_true, Bool.true_and, ↓reduceIte, not_true_eq_false, not_false_eq_true, decide_false, decide_true, and_self, and_true, true_and, and_false, false_and, Bool.false_eq_true, Bool.not_false, Bool.not_true, r0]
    rfl
/-- what is paid: the bid of the one of rank k -/
def pay (A : Nat → Nat) (k : Nat) : Nat → Nat
  | 0 => 0
  | i + 1 => if rk A i = k then A (162 + i) else pay A k i
theorem pay_at {A : Nat → Nat} {k b : Nat} (hr : rk A b = k) (hu : ∀ h, h < A 0 → rk A h = k → h = b) : ∀ i, i ≤ A 0 → pay A k i = if b < i then A (162 + b) else 0
  | 0, _ => by rw [if_neg (by omega)]; rfl
  | i + 1, h => by
    unfold pay
    have ih := pay_at hr hu i (by omega)
    by_cases q : rk A i = k
    · have := hu i (by omega) q
      subst this
      rw [if_pos q, if_pos (by omega)]
    · rw [if_neg q, ih]
      have : i ≠ b := fun z => q (by rw [z]; exact hr)
      by_cases z : b < i
      · rw [if_pos z, if_pos (by omega)]
      · rw [if_neg z, if_neg (by omega)]
theorem pay_0 {A : Nat → Nat} {k : Nat} (hk : A 0 ≤ k) : ∀ i, i ≤ A 0 → pay A k i = 0
  | 0, _ => rfl
  | i + 1, h => by
    unfold pay
    have := rk_cnt (A := A) (h := i) (by omega)
    rw [if_neg (by omega)]
    exact pay_0 hk i (by omega)
theorem g_leave {κ : Kd} {T : TD} (v u : Int32) (hu : u = nI 0 ∨ u = nI 1) : GO κ T (f_X11_leave v u) (f_X12_leave v u) := by
  intro σX σM ⟨A, B, I⟩
  have hM := I.2.1
  have c8 := I.1.1.1
  have r0 := hM.1 0 (by decide) (by decide) (by decide)
  have xb : ∀ h, h < 8 → σX.1 15 h = nI (A (162 + h)) := I.2.2.1.2.2.2.2.2.2.2.2.1
  have bb := I.1.2.2.2.2.2.2.2.2.2.2.1
  unfold f_X11_leave f_X12_leave
  rcases rng v 0 8 (by decide) (by decide) with hn | ⟨k, _, hk, rfl⟩
  · refine I.q (r := -1) ?_ ?_
    · simp (disch := omega) only [e_bnd, e_bndV, e_lt, e_grd, e_lit, e_le1, e_le2, e_lt1, e_lt2, e_eq1, e_eq2, e_inb, e_ix, nI_add, pk_mul, e_sub, e_b0, e_b1, e_bz, e_bz0, e_bz1, Bool.and_true, Bool.true_and, ↓reduceIte, not_true_eq_false, not_false_eq_true, decide_false, decide_true, and_self, and_true, true_and, and_false, false_and, Bool.false_eq_true, Bool.not_false, Bool.not_true, x_within, hn]
    · simp (disch := omega) only [e_bnd, e_bndV, e_lt, e_grd, e_lit, e_le1, e_le2, e_lt1, e_lt2, e_eq1, e_eq2, e_inb, e_ix, nI_add, pk_mul, e_sub, e_b0, e_b1, e_bz, e_bz0, e_bz1, Bool.and_true, Bool.true_and, ↓reduceIte, not_true_eq_false, not_false_eq_true, decide_false, decide_true, and_self, and_true, true_and, and_false, false_and, Bool.false_eq_true, Bool.not_false, Bool.not_true, m_isIn, hn]
  have hlv : ∀ i, lvS A i < 256 := fun i => mk8 _ c8
  have xres : f_X11_leave_17 FU (nI k) u (nI 0) (nI 0) σX = some (if u = nI 0 then nI (lvS A k) else nI (pay A k (A 0)), σX) := by
    have l0 : lvS A 0 = 0 := by
      refine bit_eq (hlv 0) (by decide) fun i hi => ?_
      unfold lvS
      rw [mk_bit]
      simp
    refine (lp (fun fu (q : Int32 × Int32) => f_X11_leave_17 fu (nI k) u q.1 q.2 σX) (fun i => (nI (lvS A i), nI i)) k (fun i hi fu => ?_) (fun fu => ?_) FU (by unfold FU; omega) : f_X11_leave_17 FU (nI k) u (nI (lvS A 0)) (nI 0) σX = _) |> fun z => by
      rw [l0] at z
      exact z
    · dsimp only
      have hh := x_highest I (hlv i)
      obtain ⟨n1, n2⟩ := lv_next (A := A) (lv_cnt i)
      rw [f_X11_leave_17]
      by_cases q : i < A 0
      · obtain ⟨b, y1, y2, y3, y4⟩ := n1 q
        rw [y1] at hh
        have hbv : hbI (some b) = nI b := rfl
        have hne : (nI b = -nI 1) = False := e_m1n b (by omega)
        rw [← lv_step c8 y2 y3 y4]
        simp (disch := omega) only [e_bnd, e_bndV, e_lt, e_grd, e_lit, e_le1, e_le2, e_lt1, e_lt2, e_eq1, e_eq2, e_inb, e_ix, nI_add, pk_mul, e_sub, e_b0, e_b1, e_bz, e_bz0, e_bz1, Bool.and_true, Bool.true_and, ↓reduceIte, not_true_eq_false, not_false_eq_true, decide_false, decide_true, and_self, and_true, true_and, and_false, false_and, Bool.false_eq_true, Bool.not_false, Bool.not_true, hh, hbv, hne, f_X11_leave_45, sh1, or_I]
      · rw [n2 (by omega)] at hh
        have hbv : hbI none = -nI 1 := rfl
        have e : lvS A (i + 1) = lvS A i := by
          unfold lvS
          refine mk_congr fun h hh2 => ?_
          have := rk_cnt hh2
          rw [decide_eq_true (by omega), decide_eq_true (by omega)]
        rw [e]
        simp (disch := omega) only [e_bnd, e_bndV, e_lt, e_grd, e_lit, e_le1, e_le2, e_lt1, e_lt2, e_eq1, e_eq2, e_inb, e_ix, nI_add, pk_mul, e_sub, e_b0, e_b1, e_bz, e_bz0, e_bz1, Bool.and_true, Bool.true_and, ↓reduceIte, not_true_eq_false, not_false_eq_true, decide_false, decide_true, and_self, and_true, true_and, and_false, false_and, Bool.false_eq_true, Bool.not_false, Bool.not_true, hh, hbv, f_X11_leave_45, or_I, Nat.or_zero]
    · dsimp only
      have hh := x_highest I (hlv k)
      obtain ⟨n1, n2⟩ := lv_next (A := A) (lv_cnt k)
      rw [f_X11_leave_17]
      rcases hu with rfl | rfl
      · rw [show (if nI 0 = nI 0 then nI (lvS A k) else nI (pay A k (A 0))) = nI (lvS A k) from if_pos rfl]
        simp (disch := omega) only [e_bnd, e_bndV, e_lt, e_grd, e_lit, e_le1, e_le2, e_lt1, e_lt2, e_eq1, e_eq2, e_inb, e_ix, nI_add, pk_mul, e_sub, e_b0, e_b1, e_bz, e_bz0, e_bz1, Bool.and_true, Bool.true_and, ↓reduceIte, not_true_eq_false, not_false_eq_true, decide_false, decide_true, and_self, and_true, true_and, and_false, false_and, Bool.false_eq_true, Bool.not_false, Bool.not_true]
      · rw [show (if nI 1 = nI 0 then nI (lvS A k) else nI (pay A k (A 0))) = nI (pay A k (A 0)) from if_neg (by decide)]
        by_cases q : k < A 0
        · obtain ⟨b, y1, y2, y3, y4⟩ := n1 q
          rw [y1] at hh
          have hbv : hbI (some b) = nI b := rfl
          rw [pay_at y3 y4 _ (Nat.le_refl _), if_pos y2]
          simp (disch := omega) only [e_bnd, e_bndV, e_lt, e_grd, e_lit, e_le1, e_le2, e_lt1, e_lt2, e_eq1, e_eq2, e_inb, e_ix, nI_add, pk_mul, e_sub, e_b0, e_b1, e_bz, e_bz0, e_bz1, Bool.and_true, Bool.true_and, ↓reduceIte, not_true_eq_false, not_false_eq_true, decide_false, decide_true, and_self, and_true, true_and, and_false, false_and, Bool.false_eq_true, Bool.not_false, Bool.not_true, hh, hbv, x_within, xb, f_X11_leave_91]
        · rw [n2 (by omega)] at hh
          have hbv : hbI none = -nI 1 := rfl
          rw [pay_0 (by omega) _ (Nat.le_refl _)]
          have hw : ¬ (nI 0 ≤ -nI 1 ∧ -nI 1 ≤ nI 7) := fun z => absurd z.1 (by decide)
          simp (disch := omega) only [e_bnd, e_bndV, e_lt, e_grd, e_lit, e_le1, e_le2, e_lt1, e_lt2, e_eq1, e_eq2, e_inb, e_ix, nI_add, pk_mul, e_sub, e_b0, e_b1, e_bz, e_bz0, e_bz1, Bool.and_true, Bool.true_and, ↓reduceIte, not_true_eq_false, not_false_eq_true, decide_false, decide_true, and_self, and_true, true_and, and_false, false_and, Bool.false_eq_true, Bool.not_false, Bool.not_true, hh, hbv, x_within, hw, f_X11_leave_91]
  have mres : f_X12_leave_20 FU (nI k) u (nI 0) (nI 0) (nI 0) σM = some (if u = nI 0 then nI (lvS A k) else nI (pay A k (A 0)), σM) := by
    refine lp (fun fu (q : Int32 × Int32 × Int32) => f_X12_leave_20 fu (nI k) u q.1 q.2.1 q.2.2 σM) (fun i => (nI (mk i fun h => decide (rk A h < k)), nI (pay A k i), nI i)) (A 0) (fun i hi fu => ?_) (fun fu => ?_) FU (by unfold FU; omega)
    · have ha := m_ahead hM c8 bb hi
      have hc := rk_cnt hi
      have ri := hM.1 (162 + i) (by omega) (by omega) (by omega)
      have b2 := bb i (by omega)
      dsimp only
      rw [f_X12_leave_20]
      by_cases q : rk A i < k
      · rw [mk_1 (decide_eq_true q), show pay A k (i + 1) = pay A k i from if_neg (by omega)]
        simp (disch := omega) only [e_bnd, e_bndV, e_lt, e_grd, e_lit, e_le1, e_le2, e_lt1, e_lt2, e_eq1, e_eq2, e_inb, e_ix, nI_add, pk_mul, e_sub, e_b0, e_b1, e_bz, e_bz0, e_bz1, Bool.and_true, Bool.true_and, ↓reduceIte, not_true_eq_false, not_false_eq_true, decide_false, decide_true, and_self, and_true, true_and, and_false, false_and, Bool.false_eq_true, Bool.not_false, Bool.not_true, r0, ha, f_X12_leave_50, f_X12_leave_75, sh1, or_I]
      · rw [mk_0 (decide_eq_false q)]
        by_cases q2 : rk A i = k
        · rw [show pay A k (i + 1) = A (162 + i) from if_pos q2]
          simp (disch := omega) only [e_bnd, e_bndV, e_lt, e_grd, e_lit, e_le1, e_le2, e_lt1, e_lt2, e_eq1, e_eq2, e_inb, e_ix, nI_add, pk_mul, e_sub, e_b0, e_b1, e_bz, e_bz0, e_bz1, Bool.and_true, Bool.true_and, ↓reduceIte, not_true_eq_false, not_false_eq_true, decide_false, decide_true, and_self, and_true, true_and, and_false, false_and, Bool.false_eq_true, Bool.not_false, Bool.not_true, r0, ha, q2, ri, f_X12_leave_50, f_X12_leave_75, or_I, Nat.or_zero]
        · rw [show pay A k (i + 1) = pay A k i from if_neg q2]
          simp (disch := omega) only [e_bnd, e_bndV, e_lt, e_grd, e_lit, e_le1, e_le2, e_lt1, e_lt2, e_eq1, e_eq2, e_inb, e_ix, nI_add, pk_mul, e_sub, e_b0, e_b1, e_bz, e_bz0, e_bz1, Bool.and_true, Bool.true_and, ↓reduceIte, not_true_eq_false, not_false_eq_true, decide_false, decide_true, and_self, and_true, true_and, and_false, false_and, Bool.false_eq_true, Bool.not_false, Bool.not_true, r0, ha, f_X12_leave_50, f_X12_leave_75, or_I, Nat.or_zero]
    · dsimp only
      rw [f_X12_leave_20]
      rcases hu with rfl | rfl
      · rw [show (if nI 0 = nI 0 then nI (lvS A k) else nI (pay A k (A 0))) = nI (lvS A k) from if_pos rfl]
        simp (disch := omega) only [e_bnd, e_bndV, e_lt, e_grd, e_lit, e_le1, e_le2, e_lt1, e_lt2, e_eq1, e_eq2, e_inb, e_ix, nI_add, pk_mul, e_sub, e_b0, e_b1, e_bz, e_bz0, e_bz1, Bool.and_true, Bool.true_and, ↓reduceIte, not_true_eq_false, not_false_eq_true, decide_false, decide_true, and_self, and_true, true_and, and_false, false_and, Bool.false_eq_true, Bool.not_false, Bool.not_true, r0, f_X12_leave_91]
        rfl
      · rw [show (if nI 1 = nI 0 then nI (lvS A k) else nI (pay A k (A 0))) = nI (pay A k (A 0)) from if_neg (by decide)]
        simp (disch := omega) only [e_bnd, e_bndV, e_lt, e_grd, e_lit, e_le1, e_le2, e_lt1, e_lt2, e_eq1, e_eq2, e_inb, e_ix, nI_add, pk_mul, e_sub, e_b0, e_b1, e_bz, e_bz0, e_bz1, Bool.and_true, Bool.true_and, ↓reduceIte, not_true_eq_false, not_false_eq_true, decide_false, decide_true, and_self, and_true, true_and, and_false, false_and, Bool.false_eq_true, Bool.not_false, Bool.not_true, r0, f_X12_leave_91]
  refine I.q (r := if u = nI 0 then nI (lvS A k) else nI (pay A k (A 0))) ?_ ?_
  · simp (disch := omega) only [e_bnd, e_bndV, e_lt, e_grd, e_lit, e_le1, e_le2, e_lt1, e_lt2, e_eq1, e_eq2, e_inb, e_ix, nI_add, pk_mul, e_sub, e_b0, e_b1, e_bz, e_bz0, e_bz1, Bool.and_true, Bool.true_and, ↓reduceIte, not_true_eq_false, not_false_eq_true, decide_false, decide_true, and_self, and_true, true_and, and_false, false_and, Bool.false_eq_true, Bool.not_false, Bool.not_true, x_within]
    exact xres
  · simp (disch := omega) only [e_bnd, e_bndV, e_lt, e_grd, e_lit, e_le1, e_le2, e_lt1, e_lt2, e_eq1, e_eq2, e_inb, e_ix, nI_add, pk_mul, e_sub, e_b0, e_b1, e_bz, e_bz0, e_bz1, Bool.and_true, Bool.true_and, ↓reduceIte, not_true_eq_false, not_false_eq_true, decide_false, decide_true, and_self, and_true, true_and, and_false, false_and, Bool.false_eq_true, Bool.not_false, Bool.not_true, m_isIn]
    exact mres
