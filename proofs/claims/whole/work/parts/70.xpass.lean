/-! the class: an HOUR -/
/-- a TEXT's own rows -/
def RG (r : Option Nat) (a : Nat) : Prop := ∃ x, r = some x ∧ x + 1 ≤ a ∧ a ≤ x + 5
def RX (κ : Kd) (σ0 : Sg) (r : Option Nat) (Lw : Nat → Option LV) : Prop := ∀ (σ : Sg) (t : Nat) (A : Nat → Nat) (l h near : Nat), (∀ a, 72 ≤ a ∧ RG r a → ∀ j, σ.1 a j = σ0.1 a j) → t + 5 < 47 → XT σ t A → BT A → l < 3 → h < A 0 → near ≤ 8 → ∃ σ', f_X1_rate κ t r (nI l) (nI h) (nI near) σ = some (nI (rt (Lw l) l A h near), σ') ∧ fr (fun a _ => a = 47 ∨ a = 48) σ σ'
theorem RX.tx {κ : Kd} {σ0 σ1 : Sg} {r : Option Nat} {Lw : Nat → Option LV} (h : RX κ σ0 r Lw) (e : ∀ a, 72 ≤ a → ∀ j, σ1.1 a j = σ0.1 a j) : RX κ σ1 r Lw := fun σ t A l k n h1 => h σ t A l k n (fun a ha j => (h1 a ha j).trans (e a ha.1 j))
abbrev zT (t : Nat) : Nat → Nat → Prop := fun a _ => t ≤ a ∧ a ≤ t + 5
abbrev zL (t : Nat) : Nat → Nat → Prop := fun a _ => (t ≤ a ∧ a ≤ t + 5) ∨ a = 47 ∨ a = 48
def XNb (b : Bool) (σ : Sg) (t : Nat) (A : Nat → Nat) : Prop := (b = true → XN σ t A) ∧ ∃ n, n ≤ 30 ∧ σ.1 t 9 = nI n
def HX (b : Bool) (σ : Sg) (t : Nat) (A : Nat → Nat) : Prop := XT σ t A ∧ BT A ∧ XNb b σ t A ∧ BNb b A
theorem XNb.of {b : Bool} {σ σ' : Sg} {t : Nat} {A B : Nat → Nat} (h : XNb b σ t A) (h9 : σ'.1 t 9 = σ.1 t 9) (h5 : ∀ i, i < 30 → σ'.1 (t + 5) i = σ.1 (t + 5) i) (hA : ∀ j, (j = 9 ∨ 1956 ≤ j) → B j = A j) : XNb b σ' t B := by
  refine ⟨fun hb => ⟨by rw [h9, hA _ (by omega)]; exact (h.1 hb).1, fun i hi => by rw [h5 i hi, hA _ (by omega)]; exact (h.1 hb).2 i hi⟩, ?_⟩
  rw [h9]
  exact h.2
theorem hx_note {b : Bool} {σ : Sg} {t : Nat} {A : Nat → Nat} (H : HX b σ t A) {h w : Nat} (hh : h < 8) (hw : w < 8) : ∃ σ', f_X8_note t (nI h) (nI w) σ = some σ' ∧ HX b σ' t (wrb b A h w) ∧ fr (zT t) σ σ' := by
  obtain ⟨hX, hB, hN, hb⟩ := H
  cases b with
  | true =>
    obtain ⟨σ', e1, e2, e3⟩ := x_note (hN.1 rfl) (hb rfl).1 hX.2.1 hB.2.1 hh hw
    have hb2 := BN_wr (hb rfl) hB.2.1 hh hw
    refine ⟨σ', e1, ⟨?_, BT_wr hB (hb rfl).1 h w, ⟨fun _ => e2, _, hb2.1, e2.1⟩, fun _ => hb2⟩, e3.mono (fun a j q => by omega)⟩
    exact (hX.of (fun a j q1 q2 => e3.1 a j (by omega))).congr (fun j hj => (wr_off (hb rfl).1 (by omega) (by omega)).symm)
  | false =>
    obtain ⟨n, hn, n9⟩ := hN.2
    obtain ⟨σ', e1, e2, e3⟩ := x_note0 n9 hn hX.2.1 hB.2.1 hh hw
    refine ⟨σ', e1, ⟨?_, hB, ⟨fun q => absurd q (by decide), e2⟩, fun q => absurd q (by decide)⟩, e3.mono (fun a j q => by omega)⟩
    exact hX.of (fun a j q1 q2 => e3.1 a j (by omega))
theorem HX.fire {b : Bool} {σ : Sg} {t : Nat} {A : Nat → Nat} (H : HX b σ t A) {h v : Nat} (hh : h < 8) (hv : v ≤ 4) : HX b (wI σ (t + 3) h (nI v)) t (up A (10 + 5 * h) v) :=
  ⟨H.1.fire hh v, H.2.1.fire hv, H.2.2.1.of (by rw [e_ne1 (by omega)]) (fun i hi => by rw [e_ne1 (by omega)]) (fun j hj => up_ne (by omega)), fun q => BN_up (H.2.2.2 q) (by omega)⟩
theorem HX.heat {b : Bool} {σ : Sg} {t : Nat} {A : Nat → Nat} (H : HX b σ t A) {h v : Nat} (hh : h < 8) (hv : v ≤ 9) : HX b (wI σ (t + 4) h (nI v)) t (up A (10 + 5 * h + 1) v) :=
  ⟨H.1.heat hh v, H.2.1.heat hv, H.2.2.1.of (by rw [e_ne1 (by omega)]) (fun i hi => by rw [e_ne1 (by omega)]) (fun j hj => up_ne (by omega)), fun q => BN_up (H.2.2.2 q) (by omega)⟩
theorem HX.coins {b : Bool} {σ : Sg} {t : Nat} {A : Nat → Nat} (H : HX b σ t A) {h v : Nat} (hh : h < 8) (hv : v ≤ 9999) : HX b (wI σ (t + 2) h (nI v)) t (up A (10 + 5 * h + 2) v) :=
  ⟨H.1.coins hh v, H.2.1.coins hv, H.2.2.1.of (by rw [e_ne1 (by omega)]) (fun i hi => by rw [e_ne1 (by omega)]) (fun j hj => up_ne (by omega)), fun q => BN_up (H.2.2.2 q) (by omega)⟩
theorem HX.drawn {b : Bool} {σ : Sg} {t : Nat} {A : Nat → Nat} (H : HX b σ t A) (x : Nat) : HX b (wI σ t 7 (nI (nxt x))) t (up A 8 (nxt x)) :=
  ⟨H.1.drawn _, H.2.1.drawn _, H.2.2.1.of (by rw [e_ne2 (by omega)]) (fun i hi => by rw [e_ne1 (by omega)]) (fun j hj => up_ne (by omega)), fun q => BN_up (H.2.2.2 q) (by omega)⟩
theorem HX.wind {b : Bool} {σ : Sg} {t : Nat} {A : Nat → Nat} (H : HX b σ t A) {x : Nat} (hx : x ≤ 9) : HX b (wI σ t 6 (nI x)) t (up A 7 x) :=
  ⟨H.1.wind _, H.2.1.wind hx, H.2.2.1.of (by rw [e_ne2 (by omega)]) (fun i hi => by rw [e_ne1 (by omega)]) (fun j hj => up_ne (by omega)), fun q => BN_up (H.2.2.2 q) (by omega)⟩
theorem HX.clock {b : Bool} {σ : Sg} {t : Nat} {A : Nat → Nat} (H : HX b σ t A) {x : Nat} (hx : x ≤ 9999) : HX b (wI σ t 5 (nI x)) t (up A 6 x) :=
  ⟨H.1.clock _, H.2.1.clock hx, H.2.2.1.of (by rw [e_ne2 (by omega)]) (fun i hi => by rw [e_ne1 (by omega)]) (fun j hj => up_ne (by omega)), fun q => BN_up (H.2.2.2 q) (by omega)⟩
theorem HX.of {b : Bool} {σ σ' : Sg} {t : Nat} {A : Nat → Nat} (H : HX b σ t A) {S : Nat → Nat → Prop} (f : fr S σ σ') (h : ∀ a j, S a j → a < t ∨ t + 5 < a) : HX b σ' t A :=
  ⟨H.1.of (fun a j q _ => f.1 a j (fun q2 => by have := h a j q2; omega)), H.2.1, H.2.2.1.of (f.1 _ _ (fun q2 => by have := h _ _ q2; omega)) (fun i _ => f.1 _ _ (fun q2 => by have := h _ _ q2; omega)) (fun _ _ => rfl), H.2.2.2⟩
theorem hx_set {b : Bool} {σ : Sg} {t : Nat} {A : Nat → Nat} (H : HX b σ t A) {h f x : Nat} (hh : h < 8) (hf : f ≤ 4) (hx : x ≤ 9) : ∃ σ', f_X8_set t (nI h) (nI f) (nI x) σ = some σ' ∧ HX b σ' t (up (up A (10 + 5 * h) f) (10 + 5 * h + 1) x) ∧ fr (zT t) σ σ' := by
  refine ⟨_, ?_, (H.fire hh hf).heat hh hx, (fr.w (by omega)).trans (fr.w (by omega))⟩
  unfold f_X8_set
  simp (disch := omega) only [e_bnd, e_bndV, e_lt, e_grd, e_lit, e_le1, e_le2, e_lt1, e_lt2, e_eq1, e_eq2, e_inb, e_ix, nI_add, pk_mul, e_sub, e_b0, e_b1, e_bz, e_bz0, e_bz1, Bool.and_true, Bool.true_and, ↓reduceIte, not_true_eq_false, not_false_eq_true, decide_false, decide_true, and_self, and_true, true_and, and_false, false_and, Bool.false_eq_true, Bool.not_false, Bool.not_true]
theorem hx_draw {b : Bool} {σ : Sg} {t : Nat} {A : Nat → Nat} (H : HX b σ t A) : f_X8_draw t σ = some (nI (A 8 % 10), wI σ t 7 (nI (nxt (A 8)))) := by
  have h8 := H.1.2.2.2.1
  have b8 := H.2.1.2.2.2.1
  unfold f_X8_draw f_X8_nextX nxt
  simp (disch := omega) only [e_bnd, e_bndV, e_lt, e_grd, e_lit, e_le1, e_le2, e_lt1, e_lt2, e_eq1, e_eq2, e_inb, e_ix, nI_add, pk_mul, e_sub, e_b0, e_b1, e_bz, e_bz0, e_bz1, Bool.and_true, Bool.true_and, ↓reduceIte, not_true_eq_false, not_false_eq_true, decide_false, decide_true, and_self, and_true, true_and, and_false, false_and, Bool.false_eq_true, Bool.not_false, Bool.not_true, h8, rem_I, dz_I]
theorem imin_I {a b : Nat} (ha : a < 2147483648) (hb : b < 2147483648) : imin (nI a) (nI b) = nI (min a b) := by
  unfold imin
  by_cases h : b < a
  · rw [if_pos (nI_lt h ha), Nat.min_eq_right (by omega)]
  · rw [if_neg (nI_nlt (by omega) hb), Nat.min_eq_left (by omega)]
theorem imax_I {a b : Nat} (ha : a < 2147483648) (hb : b < 2147483648) : imax (nI a) (nI b) = nI (max a b) := by
  unfold imax
  by_cases h : a < b
  · rw [if_pos (nI_lt h hb), Nat.max_eq_right (by omega)]
  · rw [if_neg (nI_nlt (by omega) ha), Nat.max_eq_left (by omega)]
theorem imax_0 {a : Nat} (ha : a < 2147483648) : imax (nI 0) (nI a) = nI a := by rw [imax_I (by decide) ha, Nat.max_eq_right (by omega)]
theorem imax_sub {a b : Nat} (ha : a < 1073741824) (hb : b < 1073741824) : imax (nI 0) (nI a - nI b) = nI (a - b) := by
  by_cases h : b ≤ a
  · rw [e_sub h, imax_I (by decide) (by omega), Nat.max_eq_right (by omega)]
  · unfold imax
    have := pk_sneg (a := a) (b := b) hb (by omega)
    rw [if_neg (fun q => absurd (Int32.lt_trans q this) (by decide)), show a - b = 0 by omega]
theorem lt_sub {a b : Nat} (ha : a < 1073741824) (hb : b < 1073741824) : (nI 0 < nI a - nI b) = (b < a) := by
  by_cases h : b ≤ a
  · rw [e_sub h, e_ltt (by decide) (by omega)]
    exact propext ⟨fun q => by omega, fun q => by omega⟩
  · have := pk_sneg (a := a) (b := b) hb (by omega)
    exact propext ⟨fun q => absurd (Int32.lt_trans q this) (by decide), fun q => by omega⟩
theorem hx_cat84 {κ : Kd} {r : Option Nat} {Lw : Nat → Option LV} {b : Bool} {σ : Sg} {t : Nat} {A : Nat → Nat} (H : HX b σ t A) (hR : RX κ σ r Lw) (hd : deps Lw) (ht : t + 5 < 47) {h near : Nat} (hh : h < A 0) (hn : near ≤ 8) (hc : ¬ (A (10 + 5 * h) = 4 ∨ (near = 0 ∧ A (10 + 5 * h) ≠ 2))) : ∃ σ', f_X1_catches_84 κ t r (nI h) (nI near) σ = some (nI (catA b Lw A h near).2, σ') ∧ HX b σ' t (catA b Lw A h near).1 ∧ fr (zL t) σ σ' := by
  have h8 : h < 8 := Nat.lt_of_lt_of_le hh H.2.1.1
  have H1 := H.drawn (A 8)
  obtain ⟨σ2, r1, r2⟩ := hR (wI σ t 7 (nI (nxt (A 8)))) t (up A 8 (nxt (A 8))) 1 h near (fun a ha j => by rw [e_ne1 (by omega)]) ht H1.1 H1.2.1 (by decide) (by rw [up_ne (by decide)]; exact hh) hn
  rw [rt_dep hd 1 (A := up A 8 (nxt (A 8))) (B := A) (fun j hj => up_ne (by unfold lcell at hj; omega)) h8] at r1
  have H2 : HX b σ2 t (up A 8 (nxt (A 8))) := H1.of r2 (fun a j q => by omega)
  have hle := rt0_le (Lw 1) (ltop 1) (lwo 1 A h near) A h near
  change rt (Lw 1) 1 A h near ≤ 10 at hle
  unfold f_X1_catches_84 catA
  rw [if_neg hc]
  by_cases hl : A 8 % 10 < rt (Lw 1) 1 A h near
  · obtain ⟨σ3, n1, n2, n3⟩ := hx_note (H2.fire (v := 3) h8 (by decide)) h8 (w := 3) (by decide)
    refine ⟨σ3, ?_, ?_, ?_⟩
    · simp (disch := omega) only [e_bnd, e_bndV, e_lt, e_grd, e_lit, e_le1, e_le2, e_lt1, e_lt2, e_eq1, e_eq2, e_inb, e_ix, nI_add, pk_mul, e_sub, e_b0, e_b1, e_bz, e_bz0, e_bz1, Bool.and_true, Bool.true_and, ↓reduceIte, not_true_eq_false, not_false_eq_true, decide_false, decide_true, and_self, and_true, true_and, and_false, false_and, Bool.false_eq_true, Bool.not_false, Bool.not_true, hx_draw H, r1, n1, hl]
    · rw [if_pos hl]; exact n2
    · exact (((fr.w (by omega)).trans (r2.mono (fun a j q => by omega))).trans (fr.w (by omega))).trans (n3.mono (fun a j q => by omega))
  · refine ⟨σ2, ?_, ?_, ?_⟩
    · simp (disch := omega) only [e_bnd, e_bndV, e_lt, e_grd, e_lit, e_le1, e_le2, e_lt1, e_lt2, e_eq1, e_eq2, e_inb, e_ix, nI_add, pk_mul, e_sub, e_b0, e_b1, e_bz, e_bz0, e_bz1, Bool.and_true, Bool.true_and, ↓reduceIte, not_true_eq_false, not_false_eq_true, decide_false, decide_true, and_self, and_true, true_and, and_false, false_and, Bool.false_eq_true, Bool.not_false, Bool.not_true, hx_draw H, r1, hl]
    · rw [if_neg hl]; exact H2
    · exact (fr.w (by omega)).trans (r2.mono (fun a j q => by omega))
theorem hx_cat57 {κ : Kd} {r : Option Nat} {Lw : Nat → Option LV} {b : Bool} {σ : Sg} {t : Nat} {A : Nat → Nat} (H : HX b σ t A) (hR : RX κ σ r Lw) (hd : deps Lw) (ht : t + 5 < 47) {h near : Nat} (hh : h < A 0) (hn : near ≤ 8) : ∃ σ', f_X1_catches_57 κ t r (nI h) (nI near) σ = some (nI (catA b Lw A h near).2, σ') ∧ HX b σ' t (catA b Lw A h near).1 ∧ fr (zL t) σ σ' := by
  have h8 : h < 8 := Nat.lt_of_lt_of_le hh H.2.1.1
  have hf := H.1.2.2.2.2.2.2.1
  have hb := (H.2.1.2.2.2.2 h h8).1
  unfold f_X1_catches_57 f_X1_catches_82
  by_cases hc : A (10 + 5 * h) = 4 ∨ (near = 0 ∧ A (10 + 5 * h) ≠ 2)
  · refine ⟨σ, ?_, ?_, fr.rfl⟩
    · unfold catA
      rw [if_pos hc]
      by_cases h4 : A (10 + 5 * h) = 4
      · simp (disch := omega) only [e_bnd, e_bndV, e_lt, e_grd, e_lit, e_le1, e_le2, e_lt1, e_lt2, e_eq1, e_eq2, e_inb, e_ix, nI_add, pk_mul, e_sub, e_b0, e_b1, e_bz, e_bz0, e_bz1, Bool.and_true, Bool.true_and, ↓reduceIte, not_true_eq_false, not_false_eq_true, decide_false, decide_true, and_self, and_true, true_and, and_false, false_and, Bool.false_eq_true, Bool.not_false, Bool.not_true, hf, h4]
      · have h5 : near = 0 ∧ A (10 + 5 * h) ≠ 2 := hc.resolve_left h4
        have h6 := h5.2
        simp (disch := omega) only [e_bnd, e_bndV, e_lt, e_grd, e_lit, e_le1, e_le2, e_lt1, e_lt2, e_eq1, e_eq2, e_inb, e_ix, nI_add, pk_mul, e_sub, e_b0, e_b1, e_bz, e_bz0, e_bz1, Bool.and_true, Bool.true_and, ↓reduceIte, not_true_eq_false, not_false_eq_true, decide_false, decide_true, and_self, and_true, true_and, and_false, false_and, Bool.false_eq_true, Bool.not_false, Bool.not_true, hf, h4, h5.1, h6]
    · unfold catA
      rw [if_pos hc]
      exact H
  · obtain ⟨σ', e1, e2, e3⟩ := hx_cat84 H hR hd ht hh hn hc
    refine ⟨σ', ?_, e2, e3⟩
    by_cases h0 : near = 0
    · have h2 : A (10 + 5 * h) = 2 := by omega
      subst h0
      simp (disch := omega) only [e_bnd, e_bndV, e_lt, e_grd, e_lit, e_le1, e_le2, e_lt1, e_lt2, e_eq1, e_eq2, e_inb, e_ix, nI_add, pk_mul, e_sub, e_b0, e_b1, e_bz, e_bz0, e_bz1, Bool.and_true, Bool.true_and, ↓reduceIte, not_true_eq_false, not_false_eq_true, decide_false, decide_true, and_self, and_true, true_and, and_false, false_and, Bool.false_eq_true, Bool.not_false, Bool.not_true, hf, h2, e1]
    · simp (disch := omega) only [e_bnd, e_bndV, e_lt, e_grd, e_lit, e_le1, e_le2, e_lt1, e_lt2, e_eq1, e_eq2, e_inb, e_ix, nI_add, pk_mul, e_sub, e_b0, e_b1, e_bz, e_bz0, e_bz1, Bool.and_true, Bool.true_and, ↓reduceIte, not_true_eq_false, not_false_eq_true, decide_false, decide_true, and_self, and_true, true_and, and_false, false_and, Bool.false_eq_true, Bool.not_false, Bool.not_true, hf, e1]
theorem hx_catches {κ : Kd} {r : Option Nat} {Lw : Nat → Option LV} {b : Bool} {σ : Sg} {t : Nat} {A : Nat → Nat} (H : HX b σ t A) (hR : RX κ σ r Lw) (hd : deps Lw) (ht : t + 5 < 47) {h near : Nat} (hh : h < A 0) (hn : near ≤ 8) : ∃ σ', f_X1_catches κ t r (nI h) (nI near) σ = some (nI (catA b Lw (coolA b Lw A h near) h near).2, σ') ∧ HX b σ' t (catA b Lw (coolA b Lw A h near) h near).1 ∧ fr (zL t) σ σ' := by
  have h8 : h < 8 := Nat.lt_of_lt_of_le hh H.2.1.1
  have hht := H.1.2.2.2.2.2.2.2
  have hb := H.2.1.2.2.2.2 h h8
  have hk := x_keeps H.1 H.2.1 h8
  unfold f_X1_catches coolA
  by_cases hf : A (10 + 5 * h) = 1 ∨ A (10 + 5 * h) = 2
  · rw [if_pos hf] at hk ⊢
    obtain ⟨σ2, r1, r2⟩ := hR σ t A 0 h near (fun _ _ _ => rfl) ht H.1 H.2.1 (by decide) hh hn
    have H2 := H.of r2 (fun a j q => by omega)
    have hle := rt0_le (Lw 0) (ltop 0) (lwo 0 A h near) A h near
    change rt (Lw 0) 0 A h near ≤ 9 at hle
    by_cases hz : A (10 + 5 * h + 1) - rt (Lw 0) 0 A h near = 0
    · rw [if_pos hz]
      have H3 := (H2.heat (v := 0) h8 (by decide)).fire (v := 0) h8 (by decide)
      obtain ⟨σ3, n1, n2, n3⟩ := hx_note H3 h8 (w := 2) (by decide)
      have f3 : fr (zL t) σ σ3 := (((r2.mono (fun a j q => by omega)).trans (fr.w (by omega))).trans (fr.w (by omega))).trans (n3.mono (fun a j q => by omega))
      have h03 : wrb b (up (up A (10 + 5 * h + 1) 0) (10 + 5 * h) 0) h 2 0 = A 0 := by
        unfold wrb
        split
        · rename_i hb1
          rw [wr_off (by rw [up_ne (by omega), up_ne (by omega)]; exact (H.2.2.2 hb1).1) (by decide) (by decide), up_ne (by omega), up_ne (by omega)]
        · rw [up_ne (by omega), up_ne (by omega)]
      obtain ⟨σ4, e1, e2, e3⟩ := hx_cat57 n2 (hR.tx (fun a ha j => f3.1 a j (by omega))) hd ht (h := h) (near := near) (by rw [h03]; exact hh) hn
      refine ⟨σ4, ?_, e2, f3.trans e3⟩
      have hz2 : ¬ rt (Lw 0) 0 A h near < A (10 + 5 * h + 1) := by omega
      simp (disch := omega) only [e_bnd, e_bndV, e_lt, e_grd, e_lit, e_le1, e_le2, e_lt1, e_lt2, e_eq1, e_eq2, e_inb, e_ix, nI_add, pk_mul, e_sub, e_b0, e_b1, e_bz, e_bz0, e_bz1, Bool.and_true, Bool.true_and, ↓reduceIte, not_true_eq_false, not_false_eq_true, decide_false, decide_true, and_self, and_true, true_and, and_false, false_and, Bool.false_eq_true, Bool.not_false, Bool.not_true, hk, r1, hht, imax_sub, lt_sub, hz, hz2, n1, e1]
    · rw [if_neg hz]
      have H3 := H2.heat (v := A (10 + 5 * h + 1) - rt (Lw 0) 0 A h near) h8 (by omega)
      have f3 : fr (zL t) σ _ := (r2.mono (fun a j q => by omega)).trans (fr.w (S := zL t) (k := t + 4) (i := h) (v := nI (A (10 + 5 * h + 1) - rt (Lw 0) 0 A h near)) (by omega))
      obtain ⟨σ4, e1, e2, e3⟩ := hx_cat57 H3 (hR.tx (fun a ha j => f3.1 a j (by omega))) hd ht (h := h) (near := near) (by rw [up_ne (by omega)]; exact hh) hn
      refine ⟨σ4, ?_, e2, f3.trans e3⟩
      have hz2 : rt (Lw 0) 0 A h near < A (10 + 5 * h + 1) := by omega
      simp (disch := omega) only [e_bnd, e_bndV, e_lt, e_grd, e_lit, e_le1, e_le2, e_lt1, e_lt2, e_eq1, e_eq2, e_inb, e_ix, nI_add, pk_mul, e_sub, e_b0, e_b1, e_bz, e_bz0, e_bz1, Bool.and_true, Bool.true_and, ↓reduceIte, not_true_eq_false, not_false_eq_true, decide_false, decide_true, and_self, and_true, true_and, and_false, false_and, Bool.false_eq_true, Bool.not_false, Bool.not_true, hk, r1, hht, imax_sub, lt_sub, imax_0, hz2, e1]
  · rw [if_neg hf] at hk ⊢
    obtain ⟨σ4, e1, e2, e3⟩ := hx_cat57 H hR hd ht hh hn
    refine ⟨σ4, ?_, e2, e3⟩
    simp (disch := omega) only [e_bnd, e_bndV, e_lt, e_grd, e_lit, e_le1, e_le2, e_lt1, e_lt2, e_eq1, e_eq2, e_inb, e_ix, nI_add, pk_mul, e_sub, e_b0, e_b1, e_bz, e_bz0, e_bz1, Bool.and_true, Bool.true_and, ↓reduceIte, not_true_eq_false, not_false_eq_true, decide_false, decide_true, and_self, and_true, true_and, and_false, false_and, Bool.false_eq_true, Bool.not_false, Bool.not_true, hk, e1]
