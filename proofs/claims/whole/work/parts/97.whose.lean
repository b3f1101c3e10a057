/-! METHODS: whose -/
def alr (p : Nat → Bool) : Nat → Nat → Bool
  | _, 0 => true
  | k, d + 1 => p k && alr p (k + 1) d
theorem alr_1 {p : Nat → Bool} {k d : Nat} (h : p k = true) : alr p k (d + 1) = alr p (k + 1) d := by
  show (p k && _) = _
  rw [h, Bool.true_and]
theorem alr_0 {p : Nat → Bool} {k d : Nat} (h : p k = false) : alr p k (d + 1) = false := by
  show (p k && _) = _
  rw [h, Bool.false_and]
def okC (A : Nat → Nat) (L : Nat → Option LV) (k : Nat) : Bool := decide (rt (L 0) 0 A (A (170 + 2 * k)) (pc8 (bes A (A (170 + 2 * k)) &&& fires A 3 3)) = A (170 + 2 * k + 1))
theorem x_cools {κ : Kd} {r : Nat} {L : Nat → Option LV} {A : Nat → Nat} {σ0 : Sg} (hRX : RX κ σ0 (some r) L) (hB : BT A) (hc : ∀ i, i < A 5 → A (170 + 2 * i) < A 0 ∧ A (170 + 2 * i + 1) ≤ 9) (h5 : A 5 ≤ 8) : ∀ (d k : Nat), d + k = A 5 → ∀ σ, XT σ 2 A → XR σ 8 A → XO σ 1 A → (∀ a, 72 ≤ a → ∀ j, σ.1 a j = σ0.1 a j) → ∃ x, fr (fun a _ => a = 47 ∨ a = 48) σ x ∧ ∀ fu, d < fu → f_X11_coolsAsTold_2 κ fu (some r) (nI k) σ = some (if alr (okC A L) k d = true then nI 1 else nI 0, x) := by
  intro d
  induction d with
  | zero =>
    intro k hk σ hX hR hO ht
    have o5 : σ.1 1 14 = nI (A 5) := hO.2.2.2.1
    have hk2 : k = A 5 := by omega
    refine ⟨σ, fr.rfl, fun fu hf => ?_⟩
    obtain ⟨f, rfl⟩ : ∃ f, fu = f + 1 := ⟨fu - 1, by omega⟩
    rw [f_X11_coolsAsTold_2, o5, if_pos (nI_le (by omega) (by omega)), if_pos (show alr (okC A L) k 0 = true from rfl)]
    rfl
  | succ d ih =>
    intro k hk σ hX hR hO ht
    have o5 : σ.1 1 14 = nI (A 5) := hO.2.2.2.1
    have oh : σ.1 19 k = nI (A (170 + 2 * k)) := (hO.2.2.2.2.2.2 k (by omega)).1
    have c8 := hB.1
    obtain ⟨z1, z2⟩ := hc k (by omega)
    have hfl : fires A 3 3 < 256 := mk8 _ c8
    have hby := x_housesBy hX hB (lo := 3) (hi := 3) (by decide) (by decide)
    have hn := x_near hR (h := A (170 + 2 * k)) (by omega) hfl
    obtain ⟨x1, r1, r2⟩ := hRX σ 2 A 0 (A (170 + 2 * k)) (pc8 (bes A (A (170 + 2 * k)) &&& fires A 3 3)) (fun a ha j => ht a ha.1 j) (by decide) hX hB (by decide) z1 (pc8_le _)
    have hle : rt (L 0) 0 A (A (170 + 2 * k)) (pc8 (bes A (A (170 + 2 * k)) &&& fires A 3 3)) ≤ 9 := rt0_le (L 0) (ltop 0) _ A _ _
    have ob : x1.1 20 k = nI (A (170 + 2 * k + 1)) := (r2.1 _ _ (by omega)).trans (hO.2.2.2.2.2.2 k (by omega)).2
    obtain ⟨R, hR1⟩ : ∃ R, R = rt (L 0) 0 A (A (170 + 2 * k)) (pc8 (bes A (A (170 + 2 * k)) &&& fires A 3 3)) := ⟨_, rfl⟩
    rw [← hR1] at r1 hle
    cases q : okC A L k with
    | true =>
      have e : R = A (170 + 2 * k + 1) := by rw [hR1]; exact of_decide_eq_true q
      obtain ⟨x, g1, g2⟩ := ih (k + 1) (by omega) x1 (hX.of (fun a j q _ => r2.1 _ _ (by omega))) (hR.of (fun a j q => r2.1 _ _ (by omega))) (hO.of (fun a j q => r2.1 _ _ (by omega))) (fun a ha j => (r2.1 _ _ (by omega)).trans (ht a ha j))
      refine ⟨x, r2.trans g1, fun fu hf => ?_⟩
      obtain ⟨f, rfl⟩ : ∃ f, fu = f + 1 := ⟨fu - 1, by omega⟩
      rw [f_X11_coolsAsTold_2, alr_1 q]
      simp (disch := omega) only [e_bnd, e_bndV, e_lt, e_grd, e_lit, e_le1, e_le2, e_lt1, e_lt2, e_eq1, e_eq2, e_inb, e_ix, nI_add, pk_mul, e_sub, e_b0, e_b1, e_bz, e_bz0, e_bz1, Bool.and_true, Bool.true_and, ↓reduceIte, not_true_eq_false, not_false_eq_true, decide_false, decide_true, and_self, and_true, true_and, and_false, false_and, Bool.false_eq_true, Bool.not_false, Bool.not_true, o5, f_X1_rateToday, oh, hby, hn, r1, ob]
      exact g2 f (by omega)
    | false =>
      have e : R ≠ A (170 + 2 * k + 1) := by rw [hR1]; exact of_decide_eq_false q
      refine ⟨x1, r2, fun fu hf => ?_⟩
      obtain ⟨f, rfl⟩ : ∃ f, fu = f + 1 := ⟨fu - 1, by omega⟩
      rw [f_X11_coolsAsTold_2, alr_0 q]
      simp (disch := omega) only [e_bnd, e_bndV, e_lt, e_grd, e_lit, e_le1, e_le2, e_lt1, e_lt2, e_eq1, e_eq2, e_inb, e_ix, nI_add, pk_mul, e_sub, e_b0, e_b1, e_bz, e_bz0, e_bz1, Bool.and_true, Bool.true_and, ↓reduceIte, not_true_eq_false, not_false_eq_true, decide_false, decide_true, and_self, and_true, true_and, and_false, false_and, Bool.false_eq_true, Bool.not_false, Bool.not_true, o5, f_X1_rateToday, oh, hby, hn, r1, ob]
theorem m_whose28 {t : Nat} {L : Nat → Option LV} {A : Nat → Nat} {s0 : Sg} (hS : SAY s0 (nI t) L) (hB : BT A) (hBR : BR A) (hc : ∀ i, i < A 5 → A (170 + 2 * i) < A 0 ∧ A (170 + 2 * i + 1) ≤ 9) (h5 : A 5 ≤ 8) (v : Int32) : ∀ (d k : Nat), d + k = A 5 → ∀ (σ : Sg) (b : Bool), MA σ A → σ.1 0 23 = nI (fires A 3 3) → (∀ j, σ.1 3 j = s0.1 3 j) → ∃ m, fr zN σ m ∧ ∀ (rec : Int32 → Int32 → Sg → Option (Int32 × Sg)) fu, d < fu → f_X12_whose_28 rec fu v (nI t) (if b then nI 1 else nI 0) (nI k) σ = f_X12_whose_103 rec (nI t) v (if (b && alr (okC A L) k d) = true then shl (nI 1) (nI t) else nI 0) m := by
  intro d
  induction d with
  | zero =>
    intro k hk σ b hM hs ht
    have r5 := hM.1 5 (by decide) (by decide) (by decide)
    have hk2 : k = A 5 := by omega
    refine ⟨σ, fr.rfl, fun rec fu hf => ?_⟩
    obtain ⟨f, rfl⟩ : ∃ f, fu = f + 1 := ⟨fu - 1, by omega⟩
    rw [f_X12_whose_28]
    cases b with
    | true =>
      have e : (true && alr (okC A L) k 0) = true := rfl
      rw [if_pos e]
      simp (disch := omega) only [e_bnd, e_bndV, e_lt, e_grd, e_lit, e_le1, e_le2, e_lt1, e_lt2, e_eq1, e_eq2, e_inb, e_ix, nI_add, pk_mul, e_sub, e_b0, e_b1, e_bz, e_bz0, e_bz1, Bool.and_true, Bool.true_and, ↓reduceIte, not_true_eq_false, not_false_eq_true, decide_false, decide_true, and_self, and_true, true_and, and_false, false_and, Bool.false_eq_true, Bool.not_false, Bool.not_true, r5]
    | false =>
      have e : ¬ (false && alr (okC A L) k 0) = true := by rw [Bool.false_and]; decide
      rw [if_neg e]
      simp (disch := omega) only [e_bnd, e_bndV, e_lt, e_grd, e_lit, e_le1, e_le2, e_lt1, e_lt2, e_eq1, e_eq2, e_inb, e_ix, nI_add, pk_mul, e_sub, e_b0, e_b1, e_bz, e_bz0, e_bz1, Bool.and_true, Bool.true_and, ↓reduceIte, not_true_eq_false, not_false_eq_true, decide_false, decide_true, and_self, and_true, true_and, and_false, false_and, Bool.false_eq_true, Bool.not_false, Bool.not_true, r5]
  | succ d ih =>
    intro k hk σ b hM hs ht
    have r5 := hM.1 5 (by decide) (by decide) (by decide)
    have c8 := hB.1
    obtain ⟨z1, z2⟩ := hc k (by omega)
    have hfl : fires A 3 3 < 256 := mk8 _ c8
    have rh := hM.1 (170 + 2 * k) (by omega) (by omega) (by omega)
    cases b with
    | false =>
      obtain ⟨m, g1, g2⟩ := ih (k + 1) (by omega) σ false hM hs ht
      refine ⟨m, g1, fun rec fu hf => ?_⟩
      obtain ⟨f, rfl⟩ : ∃ f, fu = f + 1 := ⟨fu - 1, by omega⟩
      have := g2 rec f (by omega)
      rw [Bool.false_and] at this ⊢
      rw [f_X12_whose_28]
      simp (disch := omega) only [e_bnd, e_bndV, e_lt, e_grd, e_lit, e_le1, e_le2, e_lt1, e_lt2, e_eq1, e_eq2, e_inb, e_ix, nI_add, pk_mul, e_sub, e_b0, e_b1, e_bz, e_bz0, e_bz1, Bool.and_true, Bool.true_and, ↓reduceIte, not_true_eq_false, not_false_eq_true, decide_false, decide_true, and_self, and_true, true_and, and_false, false_and, Bool.false_eq_true, Bool.not_false, Bool.not_true, r5, f_X12_whose_83, f_X12_whose_84]
      simp only [Bool.false_eq_true, if_false] at this
      exact this
    | true =>
      obtain ⟨m1, r1, r2⟩ := m_coolsOf hM hB hBR (hS.tx ht) z1 hfl hs
      have hle : rt (L 0) 0 A (A (170 + 2 * k)) (pc8 (bes A (A (170 + 2 * k)) &&& fires A 3 3)) ≤ 9 := rt0_le (L 0) (ltop 0) _ A _ _
      have M1 := hM.of r2 (by intro a j q; omega)
      have rb := M1.1 (170 + 2 * k + 1) (by omega) (by omega) (by omega)
      obtain ⟨R, hR1⟩ : ∃ R, R = rt (L 0) 0 A (A (170 + 2 * k)) (pc8 (bes A (A (170 + 2 * k)) &&& fires A 3 3)) := ⟨_, rfl⟩
      rw [← hR1] at r1 hle
      obtain ⟨m, g1, g2⟩ := ih (k + 1) (by omega) m1 (okC A L k) M1 (by rw [r2.1 _ _ (by omega)]; exact hs) (fun j => (r2.1 _ _ (by omega)).trans (ht j))
      refine ⟨m, r2.trans g1, fun rec fu hf => ?_⟩
      obtain ⟨f, rfl⟩ : ∃ f, fu = f + 1 := ⟨fu - 1, by omega⟩
      have := g2 rec f (by omega)
      rw [f_X12_whose_28, Bool.true_and]
      cases q : okC A L k with
      | true =>
        have e : R = A (170 + 2 * k + 1) := by rw [hR1]; exact of_decide_eq_true q
        rw [q, Bool.true_and] at this
        rw [alr_1 q]
        simp (disch := omega) only [e_bnd, e_bndV, e_lt, e_grd, e_lit, e_le1, e_le2, e_lt1, e_lt2, e_eq1, e_eq2, e_inb, e_ix, nI_add, pk_mul, e_sub, e_b0, e_b1, e_bz, e_bz0, e_bz1, Bool.and_true, Bool.true_and, ↓reduceIte, not_true_eq_false, not_false_eq_true, decide_false, decide_true, and_self, and_true, true_and, and_false, false_and, Bool.false_eq_true, Bool.not_false, Bool.not_true, r5, rh, r1, rb, e, f_X12_whose_84]
        simp only [if_true] at this
        exact this
      | false =>
        have e : R ≠ A (170 + 2 * k + 1) := by rw [hR1]; exact of_decide_eq_false q
        rw [q, Bool.false_and] at this
        rw [alr_0 q]
        simp (disch := omega) only [e_bnd, e_bndV, e_lt, e_grd, e_lit, e_le1, e_le2, e_lt1, e_lt2, e_eq1, e_eq2, e_inb, e_ix, nI_add, pk_mul, e_sub, e_b0, e_b1, e_bz, e_bz0, e_bz1, Bool.and_true, Bool.true_and, ↓reduceIte, not_true_eq_false, not_false_eq_true, decide_false, decide_true, and_self, and_true, true_and, and_false, false_and, Bool.false_eq_true, Bool.not_false, Bool.not_true, r5, rh, r1, rb, f_X12_whose_83, f_X12_whose_84]
        simp only [Bool.false_eq_true, if_false] at this
        exact this
theorem g_whose {κ : Kd} {T : TD} : GO κ T (f_X11_whose κ) f_X12_whose := by
  intro σX σM ⟨A, B, I⟩
  have hM := I.2.1
  have hB := I.1.1
  have c8 := hB.1
  have hBR := I.1.2.2.1
  have a4 := I.1.2.2.2.2.1
  have h5 := I.1.2.2.2.2.2.2.2.1
  have hc := I.1.2.2.2.2.2.2.2.2.2.2.2
  have hO := I.2.2.1.2.2.2.2
  have o1 : σX.1 1 4 = nI (A 1) := hO.1
  obtain ⟨i0, i1, i2⟩ := I.2.2.2.2.2.2.2
  have hl : ∀ {α : Type} (x : Option Nat) (k : Option Nat → Option α), ltT x k = k x := fun _ _ => rfl
  have hall := m_allOf hM hB (f := 3) (by decide)
  obtain ⟨p, hp⟩ : ∃ p : Nat → Bool, p = fun t => alr (okC A (T.2.2.1 t)) 0 (A 5) := ⟨_, rfl⟩
  have hX : ∃ x, f_X11_whose_4 κ FU (nI 0) (nI 0) σX = some (nI (mk (A 1) p), x) ∧ fr (fun a _ => a = 47 ∨ a = 48) σX x := by
    refine lpI (fun fu (s : Int32 × Int32 × Sg) => f_X11_whose_4 κ fu s.1 s.2.1 s.2.2) (fun i s => s.1 = nI (mk i p) ∧ s.2.1 = nI i ∧ fr (fun a _ => a = 47 ∨ a = 48) σX s.2.2) (A 1) (fun y => ∃ x, y = some (nI (mk (A 1) p), x) ∧ fr (fun a _ => a = 47 ∨ a = 48) σX x) (fun i hi s hs => ?_) (fun s hs fu => ?_) FU (by unfold FU; omega) (nI 0, nI 0, σX) ⟨rfl, rfl, fr.rfl⟩
    · obtain ⟨v1, v2, s⟩ := s
      dsimp only at hs
      obtain ⟨q1, q2, hf⟩ := hs
      obtain ⟨_, _, ⟨g3, g4, _, g6⟩, _⟩ := i2 i hi
      obtain ⟨x, y1, y2⟩ := x_cools g6.1 hB hc h5 (A 5) 0 rfl s (I.2.2.1.1.of (fun a j q _ => hf.1 _ _ (by omega))) (I.xr.of (fun a j q => hf.1 _ _ (by omega))) (hO.of (fun a j q => hf.1 _ _ (by omega))) (fun a ha j => hf.1 _ _ (by omega))
      have y2' := y2 FU (by unfold FU; omega)
      have o1' : s.1 1 4 = nI (A 1) := (hf.1 _ _ (by omega)).trans o1
      have g4' : s.2.2 (1 + 12) i = some (T.2.1 i) := by rw [hf.2]; exact g4
      refine ⟨(nI (mk (i + 1) p), nI (i + 1), x), ⟨rfl, rfl, hf.trans y1⟩, fun fu => ?_⟩
      dsimp only
      rw [q1, q2, f_X11_whose_4]
      unfold f_X10_textOf f_X10_textOf_28 f_X10_textOf_29 f_X11_coolsAsTold
      cases q : p i with
      | true =>
        rw [hp] at q
        rw [if_pos q] at y2'
        rw [mk_1 (p := p) (by rw [hp]; exact q)]
        simp (disch := omega) only [e_bnd, e_bndV, e_lt, e_grd, e_lit, e_le1, e_le2, e_lt1, e_lt2, e_eq1, e_eq2, e_inb, e_ix, nI_add, pk_mul, e_sub, e_b0, e_b1, e_bz, e_bz0, e_bz1, Bool.and_true, Bool.true_and, ↓reduceIte, not_true_eq_false, not_false_eq_true, decide_false, decide_true, and_self, and_true, true_and, and_false, false_and, Bool.false_eq_true, Bool.not_false, Bool.not_true, o1', x_within, hl, g4', y2', f_X11_whose_36, sh1, or_I]
      | false =>
        rw [hp] at q
        dsimp only at q
        rw [if_neg (by rw [q]; decide)] at y2'
        rw [mk_0 (p := p) (by rw [hp]; exact q)]
        simp (disch := omega) only [e_bnd, e_bndV, e_lt, e_grd, e_lit, e_le1, e_le2, e_lt1, e_lt2, e_eq1, e_eq2, e_inb, e_ix, nI_add, pk_mul, e_sub, e_b0, e_b1, e_bz, e_bz0, e_bz1, Bool.and_true, Bool.true_and, ↓reduceIte, not_true_eq_false, not_false_eq_true, decide_false, decide_true, and_self, and_true, true_and, and_false, false_and, Bool.false_eq_true, Bool.not_false, Bool.not_true, o1', x_within, hl, g4', y2', f_X11_whose_36]
    · obtain ⟨v1, v2, s⟩ := s
      dsimp only at hs
      obtain ⟨q1, q2, hf⟩ := hs
      have o1' : s.1 1 4 = nI (A 1) := (hf.1 _ _ (by omega)).trans o1
      refine ⟨s, ?_, hf⟩
      dsimp only
      rw [q1, q2, f_X11_whose_4]
      simp (disch := omega) only [e_bnd, e_bndV, e_lt, e_grd, e_lit, e_le1, e_le2, e_lt1, e_lt2, e_eq1, e_eq2, e_inb, e_ix, nI_add, pk_mul, e_sub, e_b0, e_b1, e_bz, e_bz0, e_bz1, Bool.and_true, Bool.true_and, ↓reduceIte, not_true_eq_false, not_false_eq_true, decide_false, decide_true, and_self, and_true, true_and, and_false, false_and, Bool.false_eq_true, Bool.not_false, Bool.not_true, o1']
  obtain ⟨s0, hs0⟩ : ∃ s0, s0 = wI σM 0 23 (nI (fires A 3 3)) := ⟨_, rfl⟩
  have f0 : fr scrM σM s0 := by rw [hs0]; exact fr.w (by omega)
  have hMm : ∃ m, f_X12_whose_13 FU (nI 0) (nI 0) s0 = some (nI (mk (A 1) p), m) ∧ fr zN s0 m := by
    refine lpI (fun fu (s : Int32 × Int32 × Sg) => f_X12_whose_13 fu s.1 s.2.1 s.2.2) (fun i s => s.1 = nI (mk i p) ∧ s.2.1 = nI i ∧ fr zN s0 s.2.2) (A 1) (fun y => ∃ m, y = some (nI (mk (A 1) p), m) ∧ fr zN s0 m) (fun i hi s hs => ?_) (fun s hs fu => ?_) FU (by unfold FU; omega) (nI 0, nI 0, s0) ⟨rfl, rfl, fr.rfl⟩
    · obtain ⟨v1, v2, s⟩ := s
      dsimp only at hs
      obtain ⟨q1, q2, hf⟩ := hs
      obtain ⟨_, _, _, ⟨hS, _⟩⟩ := i2 i hi
      have M1 : MA s A := (hM.of f0 (by intro a j q; omega)).of hf (by intro a j q; omega)
      have r1 := M1.1 1 (by decide) (by decide) (by decide)
      obtain ⟨m, y1, y2⟩ := m_whose28 hS hB hBR hc h5 (nI (mk i p)) (A 5) 0 rfl s true M1 (by rw [hf.1 _ _ (by omega), hs0, e_hit]) (fun j => by rw [hf.1 _ _ (by omega), f0.1 _ _ (by omega)])
      refine ⟨(nI (mk (i + 1) p), nI (i + 1), m), ⟨rfl, rfl, hf.trans y1⟩, fun fu => ?_⟩
      have y3 := y2 (f_X12_whose_13 fu) FU (by unfold FU; omega)
      simp only [if_true, Bool.true_and] at y3
      dsimp only
      rw [q1, q2, f_X12_whose_13]
      cases q : p i with
      | true =>
        rw [hp] at q
        rw [if_pos q] at y3
        rw [mk_1 (p := p) (by rw [hp]; exact q)]
        simp (disch := omega) only [e_bnd, e_bndV, e_lt, e_grd, e_lit, e_le1, e_le2, e_lt1, e_lt2, e_eq1, e_eq2, e_inb, e_ix, nI_add, pk_mul, e_sub, e_b0, e_b1, e_bz, e_bz0, e_bz1, Bool.and_true, Bool.true_and, ↓reduceIte, not_true_eq_false, not_false_eq_true, decide_false, decide_true, and_self, and_true, true_and, and_false, false_and, Bool.false_eq_true, Bool.not_false, Bool.not_true, r1, y3, f_X12_whose_103, sh1, or_I]
      | false =>
        rw [hp] at q
        dsimp only at q
        rw [if_neg (by rw [q]; decide)] at y3
        rw [mk_0 (p := p) (by rw [hp]; exact q)]
        simp (disch := omega) only [e_bnd, e_bndV, e_lt, e_grd, e_lit, e_le1, e_le2, e_lt1, e_lt2, e_eq1, e_eq2, e_inb, e_ix, nI_add, pk_mul, e_sub, e_b0, e_b1, e_bz, e_bz0, e_bz1, Bool.and_true, Bool.true_and, ↓reduceIte, not_true_eq_false, not_false_eq_true, decide_false, decide_true, and_self, and_true, true_and, and_false, false_and, Bool.false_eq_true, Bool.not_false, Bool.not_true, r1, y3, f_X12_whose_103, or_I, Nat.or_zero]
    · obtain ⟨v1, v2, s⟩ := s
      dsimp only at hs
      obtain ⟨q1, q2, hf⟩ := hs
      have M1 : MA s A := (hM.of f0 (by intro a j q; omega)).of hf (by intro a j q; omega)
      have r1 := M1.1 1 (by decide) (by decide) (by decide)
      refine ⟨s, ?_, hf⟩
      dsimp only
      rw [q1, q2, f_X12_whose_13]
      simp (disch := omega) only [e_bnd, e_bndV, e_lt, e_grd, e_lit, e_le1, e_le2, e_lt1, e_lt2, e_eq1, e_eq2, e_inb, e_ix, nI_add, pk_mul, e_sub, e_b0, e_b1, e_bz, e_bz0, e_bz1, Bool.and_true, Bool.true_and, ↓reduceIte, not_true_eq_false, not_false_eq_true, decide_false, decide_true, and_self, and_true, true_and, and_false, false_and, Bool.false_eq_true, Bool.not_false, Bool.not_true, r1]
  obtain ⟨x, h1, h2⟩ := hX
  obtain ⟨m, h3, h4⟩ := hMm
  refine ⟨nI (mk (A 1) p), x, m, ?_, ?_, A, B, I.scr (h2.mono (fun a j q => by omega)) (f0.trans (h4.mono (fun a j q => by omega)))⟩
  · unfold f_X11_whose
    exact h1
  · unfold f_X12_whose
    simp (disch := omega) only [e_bnd, e_bndV, e_lt, e_grd, e_lit, e_le1, e_le2, e_lt1, e_lt2, e_eq1, e_eq2, e_inb, e_ix, nI_add, pk_mul, e_sub, e_b0, e_b1, e_bz, e_bz0, e_bz1, Bool.and_true, Bool.true_and, ↓reduceIte, not_true_eq_false, not_false_eq_true, decide_false, decide_true, and_self, and_true, true_and, and_false, false_and, Bool.false_eq_true, Bool.not_false, Bool.not_true, hall]
    rw [← hs0]
    exact h3
