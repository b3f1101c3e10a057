/-! the class: an HOUR, house by house -/
theorem same_wrb {b : Bool} {A B : Nat → Nat} (h : same A B) (hb : BNb b B) (k w : Nat) : same A (wrb b B k w) := by
  unfold wrb
  split
  · rename_i q
    exact h.trans (same_wr (hb q).1 k w)
  · exact h
theorem same_put {A B : Nat → Nat} (h : same A B) {k v : Nat} (hk : (7 ≤ k ∧ k < 10) ∨ (10 ≤ k ∧ k < 50 ∧ k % 5 < 2)) : same A (up B k v) := h.trans (same_up hk)
theorem cool_same {b : Bool} {Lw : Nat → Option LV} {A : Nat → Nat} (hb : BNb b A) {h : Nat} (hh : h < 8) (n : Nat) : same A (coolA b Lw A h n) := by
  unfold coolA
  split
  · split
    · exact same_wrb (same_put (same_put (same.refl A) (by omega)) (by omega)) (fun q => BN_up (BN_up (hb q) (by omega)) (by omega)) h 2
    · exact same_put (same.refl A) (by omega)
  · exact same.refl A
theorem cool_b {b : Bool} {Lw : Nat → Option LV} {A : Nat → Nat} (hb : BNb b A) (h6 : A 6 ≤ 9999) {h : Nat} (hh : h < 8) (n : Nat) : BNb b (coolA b Lw A h n) := by
  intro q
  subst q
  unfold coolA wrb
  split
  · split
    · simp only [if_true]
      exact BN_wr (BN_up (BN_up (hb rfl) (by omega)) (by omega)) (by rw [up_ne (by omega), up_ne (by omega)]; exact h6) hh (by decide)
    · exact BN_up (hb rfl) (by omega)
  · exact hb rfl
theorem cat_same {b : Bool} {Lw : Nat → Option LV} {A : Nat → Nat} (hb : BNb b A) {h : Nat} (hh : h < 8) (n : Nat) : same A (catA b Lw A h n).1 := by
  unfold catA
  split
  · exact same.refl A
  · split
    · exact same_wrb (same_put (same_put (same.refl A) (by omega)) (by omega)) (fun q => BN_up (BN_up (hb q) (by omega)) (by omega)) h 3
    · exact same_put (same.refl A) (by omega)
theorem live_same {b : Bool} {Lw : Nat → Option LV} {A : Nat → Nat} {bu : Nat} (hb : BNb b A) (h6 : A 6 ≤ 9999) {h : Nat} (hh : h < 8) : same A (liveA b Lw bu A h).1 := by
  unfold liveA
  split
  · exact same_wrb (same_put (same_put (same.refl A) (by omega)) (by omega)) (fun q => BN_up (BN_up (hb q) (by omega)) (by omega)) h 4
  · exact (cool_same hb hh _).trans (cat_same (cool_b hb h6 hh _) hh _)
theorem cat_le {b : Bool} {Lw : Nat → Option LV} {A : Nat → Nat} (h n : Nat) : (catA b Lw A h n).2 ≤ 1 := by
  unfold catA
  split
  · exact Nat.zero_le _
  · split
    · exact Nat.le_refl _
    · exact Nat.zero_le _
theorem live_le {b : Bool} {Lw : Nat → Option LV} {A : Nat → Nat} (bu h : Nat) : (liveA b Lw bu A h).2 ≤ 1 := by
  unfold liveA
  split
  · exact Nat.zero_le _
  · exact cat_le _ _
theorem lives_le {b : Bool} {Lw : Nat → Option LV} {A : Nat → Nat} (bu i : Nat) : (livesA b Lw bu A i).2 ≤ i := by
  induction i with
  | zero => exact Nat.le_refl _
  | succ i ih =>
    have := live_le (b := b) (Lw := Lw) (A := (livesA b Lw bu A i).1) bu i
    show _ + _ ≤ _
    omega
theorem pc8_le (n : Nat) : pc8 n ≤ 8 := by
  unfold pc8
  exact Nat.le_trans (List.length_filter_le _ _) (by simp)
theorem bit_one {m h : Nat} (hm : m < 256) (hh : h < 9) : (shr (nI m) (nI h) &&& nI 1 = nI 1) = (m.testBit h = true) := e_hb hm hh
theorem hx_pass {κ : Kd} {r : Option Nat} {Lw : Nat → Option LV} {b : Bool} {σ : Sg} {t s : Nat} {A : Nat → Nat} (H : HX b σ t A) (hR : RX κ σ r Lw) (hd : deps Lw) (ht : t + 5 < 47) (hS : XR σ s A) (hs : (s + 2 < t ∨ t + 5 < s + 1) ∧ s + 2 < 47) (h6 : A 6 < 9999) : ∃ σ', f_X1_pass κ t s r σ = some (nI (passA b Lw A).2, σ') ∧ HX b σ' t (passA b Lw A).1 ∧ fr (zL t) σ σ' ∧ ∀ j, j ≠ 6 → ¬ (7 ≤ j ∧ j < 10) → ¬ (10 ≤ j ∧ j < 50 ∧ j % 5 < 2) → ¬ (1956 ≤ j ∧ j < 1986) → (passA b Lw A).1 j = A j := by
  have d8 : A 8 % 10 ≤ 9 := by omega
  have H1 : HX b (wI (wI σ t 7 (nI (nxt (A 8)))) t 6 (nI (A 8 % 10))) t (windA A) := (H.drawn (A 8)).wind d8
  have hc := H1.2.1.1
  have w0 : windA A 0 = A 0 := by
    unfold windA
    rw [up_ne (by decide), up_ne (by decide)]
  have w6 : windA A 6 = A 6 := by
    unfold windA
    rw [up_ne (by decide), up_ne (by decide)]
  have hbu : fires (windA A) 3 3 < 256 := mk8 _ hc
  have f1 : fr (zL t) σ (wI (wI σ t 7 (nI (nxt (A 8)))) t 6 (nI (A 8 % 10))) := (fr.w (by omega)).trans (fr.w (by omega))
  have sw : same A (windA A) := same_put (same_put (same.refl A) (by omega)) (by omega)
  unfold f_X1_pass
  obtain ⟨σ1, hσ1⟩ : ∃ σ1, σ1 = wI (wI σ t 7 (nI (nxt (A 8)))) t 6 (nI (A 8 % 10)) := ⟨_, rfl⟩
  rw [← hσ1] at H1 f1
  obtain ⟨bu, hbu1⟩ : ∃ bu, bu = fires (windA A) 3 3 := ⟨_, rfl⟩
  rw [← hbu1] at hbu
  have main := lpI (fun fu (q : Int32 × Int32 × Sg) => f_X1_pass_22 κ t s fu r (nI bu) q.1 q.2.1 q.2.2)
    (fun i q => q.1 = nI (livesA b Lw bu (windA A) i).2 ∧ q.2.1 = nI i ∧ HX b q.2.2 t (livesA b Lw bu (windA A) i).1 ∧ fr (zL t) σ q.2.2 ∧ same A (livesA b Lw bu (windA A) i).1)
    (A 0) (fun x => ∃ σ', x = some (nI (passA b Lw A).2, σ') ∧ HX b σ' t (passA b Lw A).1 ∧ fr (zL t) σ σ' ∧ ∀ j, j ≠ 6 → ¬ (7 ≤ j ∧ j < 10) → ¬ (10 ≤ j ∧ j < 50 ∧ j % 5 < 2) → ¬ (1956 ≤ j ∧ j < 1986) → (passA b Lw A).1 j = A j)
    (fun i hi q hq => by
      obtain ⟨v5, v6, σi⟩ := q
      obtain ⟨rfl, rfl, Hi, fi, si⟩ := hq
      dsimp only at Hi fi
      have s6 := si 6 (by omega) (by omega) (by omega)
      have c0 : (livesA b Lw bu (windA A) i).1 0 = A 0 := si 0 (by omega) (by omega) (by omega)
      have i8 : i < 8 := by omega
      have hT0 := Hi.1.1
      rw [c0] at hT0
      have hle := lives_le (b := b) (Lw := Lw) (A := windA A) bu i
      have hXR : XR σi s (livesA b Lw bu (windA A) i).1 := by
        refine ⟨fun k hk => ?_, fun k hk => ?_⟩
        · rw [fi.1 _ _ (by omega), si _ (by omega) (by omega) (by omega)]; exact hS.1 k hk
        · rw [fi.1 _ _ (by omega), bes_same si hk]; exact hS.2 k hk
      have ss := si.trans (live_same (Lw := Lw) (bu := bu) Hi.2.2.2 Hi.2.1.2.1 i8)
      by_cases hb : bu.testBit i = true
      · obtain ⟨σa, a1, a2, a3⟩ := hx_set Hi (h := i) (f := 4) (x := 0) i8 (by decide) (by decide)
        obtain ⟨σb, b1, b2, b3⟩ := hx_note a2 (h := i) (w := 4) i8 (by decide)
        have hl : liveA b Lw bu (livesA b Lw bu (windA A) i).1 i = (wrb b (up (up (livesA b Lw bu (windA A) i).1 (10 + 5 * i) 4) (10 + 5 * i + 1) 0) i 4, 0) := if_pos hb
        refine ⟨(nI (livesA b Lw bu (windA A) (i + 1)).2, nI (i + 1), σb), ⟨rfl, rfl, ?_, (fi.trans (a3.mono (fun a j q => by omega))).trans (b3.mono (fun a j q => by omega)), ss⟩, fun fu => ?_⟩
        · show HX b σb t (liveA b Lw bu (livesA b Lw bu (windA A) i).1 i).1
          rw [hl]; exact b2
        · dsimp only
          rw [f_X1_pass_22]
          simp (disch := omega) only [e_bnd, e_bndV, e_lt, e_grd, e_lit, e_le1, e_le2, e_lt1, e_lt2, e_eq1, e_eq2, e_inb, e_ix, nI_add, pk_mul, e_sub, e_b0, e_b1, e_bz, e_bz0, e_bz1, Bool.and_true, Bool.true_and, ↓reduceIte, not_true_eq_false, not_false_eq_true, decide_false, decide_true, and_self, and_true, true_and, and_false, false_and, Bool.false_eq_true, Bool.not_false, Bool.not_true, hT0, e_hb, hb, a1, b1, f_X1_pass_82]
          rw [show (livesA b Lw bu (windA A) (i + 1)).2 = (livesA b Lw bu (windA A) i).2 + (liveA b Lw bu (livesA b Lw bu (windA A) i).1 i).2 from rfl, hl]
          rfl
      · have hl : liveA b Lw bu (livesA b Lw bu (windA A) i).1 i = catA b Lw (coolA b Lw (livesA b Lw bu (windA A) i).1 i (pc8 (bes (livesA b Lw bu (windA A) i).1 i &&& bu))) i (pc8 (bes (livesA b Lw bu (windA A) i).1 i &&& bu)) := if_neg hb
        obtain ⟨σb, b1, b2, b3⟩ := hx_catches Hi (hR.tx (fun a ha j => fi.1 a j (by omega))) hd ht (h := i) (near := pc8 (bes (livesA b Lw bu (windA A) i).1 i &&& bu)) (by rw [c0]; exact hi) (pc8_le _)
        have hcl := cat_le (b := b) (Lw := Lw) (A := coolA b Lw (livesA b Lw bu (windA A) i).1 i (pc8 (bes (livesA b Lw bu (windA A) i).1 i &&& bu))) i (pc8 (bes (livesA b Lw bu (windA A) i).1 i &&& bu))
        refine ⟨(nI (livesA b Lw bu (windA A) (i + 1)).2, nI (i + 1), σb), ⟨rfl, rfl, ?_, fi.trans b3, ss⟩, fun fu => ?_⟩
        · show HX b σb t (liveA b Lw bu (livesA b Lw bu (windA A) i).1 i).1
          rw [hl]; exact b2
        · dsimp only
          rw [f_X1_pass_22, show (livesA b Lw bu (windA A) (i + 1)).2 = (livesA b Lw bu (windA A) i).2 + (liveA b Lw bu (livesA b Lw bu (windA A) i).1 i).2 from rfl, hl]
          by_cases hz : (catA b Lw (coolA b Lw (livesA b Lw bu (windA A) i).1 i (pc8 (bes (livesA b Lw bu (windA A) i).1 i &&& bu))) i (pc8 (bes (livesA b Lw bu (windA A) i).1 i &&& bu))).2 = 0
          · simp (disch := omega) only [e_bnd, e_bndV, e_lt, e_grd, e_lit, e_le1, e_le2, e_lt1, e_lt2, e_eq1, e_eq2, e_inb, e_ix, nI_add, pk_mul, e_sub, e_b0, e_b1, e_bz, e_bz0, e_bz1, Bool.and_true, Bool.true_and, ↓reduceIte, not_true_eq_false, not_false_eq_true, decide_false, decide_true, and_self, and_true, true_and, and_false, false_and, Bool.false_eq_true, Bool.not_false, Bool.not_true, hT0, e_hb, hb, x_near hXR, b1, hz, f_X1_pass_82, Nat.add_zero]
          · have hz1 : (catA b Lw (coolA b Lw (livesA b Lw bu (windA A) i).1 i (pc8 (bes (livesA b Lw bu (windA A) i).1 i &&& bu))) i (pc8 (bes (livesA b Lw bu (windA A) i).1 i &&& bu))).2 = 1 := by omega
            simp (disch := omega) only [e_bnd, e_bndV, e_lt, e_grd, e_lit, e_le1, e_le2, e_lt1, e_lt2, e_eq1, e_eq2, e_inb, e_ix, nI_add, pk_mul, e_sub, e_b0, e_b1, e_bz, e_bz0, e_bz1, Bool.and_true, Bool.true_and, ↓reduceIte, not_true_eq_false, not_false_eq_true, decide_false, decide_true, and_self, and_true, true_and, and_false, false_and, Bool.false_eq_true, Bool.not_false, Bool.not_true, hT0, e_hb, hb, x_near hXR, b1, hz1, f_X1_pass_82])
    (fun q hq fu => by
      obtain ⟨v5, v6, σi⟩ := q
      obtain ⟨rfl, rfl, Hi, fi, si⟩ := hq
      dsimp only at Hi fi
      have s6 := si 6 (by omega) (by omega) (by omega)
      have c0 : (livesA b Lw bu (windA A) (A 0)).1 0 = A 0 := si 0 (by omega) (by omega) (by omega)
      have hT0 := Hi.1.1
      have hT5 := Hi.1.2.1
      rw [c0] at hT0
      rw [s6] at hT5
      refine ⟨wI σi t 5 (nI (A 6 + 1)), ?_, ?_, fi.trans (fr.w (by omega)), fun j q6 q7 q8 q9 => ?_⟩
      · dsimp only
        rw [f_X1_pass_22]
        simp (disch := omega) only [e_bnd, e_bndV, e_lt, e_grd, e_lit, e_le1, e_le2, e_lt1, e_lt2, e_eq1, e_eq2, e_inb, e_ix, nI_add, pk_mul, e_sub, e_b0, e_b1, e_bz, e_bz0, e_bz1, Bool.and_true, Bool.true_and, ↓reduceIte, not_true_eq_false, not_false_eq_true, decide_false, decide_true, and_self, and_true, true_and, and_false, false_and, Bool.false_eq_true, Bool.not_false, Bool.not_true, hT0, hT5]
        rw [hbu1]
        rfl
      · have := Hi.clock (x := A 6 + 1) (by omega)
        rw [hbu1] at this
        exact this
      · unfold passA
        rw [← hbu1]
        exact (up_ne q6).trans (si j q7 q8 q9))
    FU (by unfold FU; omega) (nI 0, nI 0, σ1) ⟨rfl, rfl, H1, f1, sw⟩
  obtain ⟨σ', e1, e2, e3⟩ := main
  refine ⟨σ', ?_, e2, e3⟩
  have hh := x_housesBy H1.1 H1.2.1 (lo := 3) (hi := 3) (by decide) (by decide)
  rw [← hbu1] at hh
  simp (disch := omega) only [e_bnd, e_bndV, e_lt, e_grd, e_lit, e_le1, e_le2, e_lt1, e_lt2, e_eq1, e_eq2, e_inb, e_ix, nI_add, pk_mul, e_sub, e_b0, e_b1, e_bz, e_bz0, e_bz1, Bool.and_true, Bool.true_and, ↓reduceIte, not_true_eq_false, not_false_eq_true, decide_false, decide_true, and_self, and_true, true_and, and_false, false_and, Bool.false_eq_true, Bool.not_false, Bool.not_true, hx_draw H]
  rw [← hσ1]
  simp (disch := omega) only [e_bnd, e_bndV, e_lt, e_grd, e_lit, e_le1, e_le2, e_lt1, e_lt2, e_eq1, e_eq2, e_inb, e_ix, nI_add, pk_mul, e_sub, e_b0, e_b1, e_bz, e_bz0, e_bz1, Bool.and_true, Bool.true_and, ↓reduceIte, not_true_eq_false, not_false_eq_true, decide_false, decide_true, and_self, and_true, true_and, and_false, false_and, Bool.false_eq_true, Bool.not_false, Bool.not_true, hh]
  exact e1
