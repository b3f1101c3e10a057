/-! METHODS: winters -/
/-- the two towns are one town, while a STEP goes on; K: as it began -/
def DI (σX σM : Sg) (tx : Int32) (K A : Nat → Nat) : Prop := HX true σX 2 A ∧ XR σX 8 A ∧ (∃ c bu, HM true σM A c bu tx) ∧ ∀ j, (j < 6 ∨ (50 ≤ j ∧ j < 1956) ∨ (10 ≤ j ∧ j < 50 ∧ j % 5 = 4)) → A j = K j
abbrev zDX : Nat → Nat → Prop := zSX
abbrev zDM : Nat → Nat → Prop := zSM
def rul (r : Option Nat) (σ0 : Sg) : Prop := ∀ s : Sg, s.1 1 4 = σ0.1 1 4 → s.1 1 5 = σ0.1 1 5 → s.2.2 = σ0.2.2 → f_X10_rule 1 s = some (r, s)
theorem XR.mv {σ σ' : Sg} {A A' : Nat → Nat} (h : XR σ 8 A) (f : fr zSX σ σ') (e : ∀ j, (j < 6 ∨ (50 ≤ j ∧ j < 1956) ∨ (10 ≤ j ∧ j < 50 ∧ j % 5 = 4)) → A' j = A j) : XR σ' 8 A' := (h.of (fun a j q => f.1 _ _ (by omega))).congr (fun j h1 h2 => e j (by omega))
theorem HM.c {σ : Sg} {A : Nat → Nat} {c : Int32} {bu : Nat} {tx : Int32} (H : HM true σ A c bu tx) : PM σ A := ⟨H.1, H.2.1, H.2.2.2.2.1 rfl, H.2.2.2.1⟩
theorem PM.hm2 {σ : Sg} {A : Nat → Nat} {tx : Int32} (H : PM σ A) (hR : BR A) (h : σ.1 1 2 = tx) : ∃ c bu, HM true σ A c bu tx := by
  obtain ⟨bu, h2⟩ := H.hm hR
  rw [h] at h2
  exact ⟨_, bu, h2⟩
theorem x_can5 {σ : Sg} {A : Nat → Nat} (hX : XT σ 2 A) (hB : BT A) {h : Nat} (hh : h < A 0) (w : Int32) : f_X8_can 2 (nI 5) (nI h) w 8 σ = some (if A (10 + 5 * h) = 0 then nI 1 else nI 0, σ) := by
  have c8 := hB.1
  have hf := hX.2.2.2.2.2.2.1
  have hb := (hB.2.2.2.2 h (by omega)).1
  have t1 := x_told1 hX.1 c8 hh
  unfold f_X8_can f_X8_can_58
  by_cases q : A (10 + 5 * h) = 0
  · rw [if_pos q]
    simp (disch := omega) only [e_bnd, e_bndV, e_lt, e_grd, e_lit, e_le1, e_le2, e_lt1, e_lt2, e_eq1, e_eq2, e_inb, e_ix, nI_add, pk_mul, e_sub, e_b0, e_b1, e_bz, e_bz0, e_bz1, Bool.and_true, Bool.true_and, ↓reduceIte, not_true_eq_false, not_false_eq_true, decide_false, decide_true, and_self, and_true, true_and, and_false, false_and, Bool.false_eq_true, Bool.not_false, Bool.not_true, t1, hf, q]
  · rw [if_neg q]
    simp (disch := omega) only [e_bnd, e_bndV, e_lt, e_grd, e_lit, e_le1, e_le2, e_lt1, e_lt2, e_eq1, e_eq2, e_inb, e_ix, nI_add, pk_mul, e_sub, e_b0, e_b1, e_bz, e_bz0, e_bz1, Bool.and_true, Bool.true_and, ↓reduceIte, not_true_eq_false, not_false_eq_true, decide_false, decide_true, and_self, and_true, true_and, and_false, false_and, Bool.false_eq_true, Bool.not_false, Bool.not_true, t1, hf]
theorem x_can6 {σ : Sg} {A : Nat → Nat} (hX : XT σ 2 A) (hB : BT A) {h : Nat} (hh : h < A 0) (w : Int32) : f_X8_can 2 (nI 6) (nI h) w 8 σ = some (if A (10 + 5 * h) = 2 then nI 1 else nI 0, σ) := by
  have c8 := hB.1
  have hf := hX.2.2.2.2.2.2.1
  have hb := (hB.2.2.2.2 h (by omega)).1
  have t1 := x_told1 hX.1 c8 hh
  unfold f_X8_can f_X8_can_74
  by_cases q : A (10 + 5 * h) = 2
  · rw [if_pos q]
    simp (disch := omega) only [e_bnd, e_bndV, e_lt, e_grd, e_lit, e_le1, e_le2, e_lt1, e_lt2, e_eq1, e_eq2, e_inb, e_ix, nI_add, pk_mul, e_sub, e_b0, e_b1, e_bz, e_bz0, e_bz1, Bool.and_true, Bool.true_and, ↓reduceIte, not_true_eq_false, not_false_eq_true, decide_false, decide_true, and_self, and_true, true_and, and_false, false_and, Bool.false_eq_true, Bool.not_false, Bool.not_true, t1, hf, q]
  · rw [if_neg q]
    simp (disch := omega) only [e_bnd, e_bndV, e_lt, e_grd, e_lit, e_le1, e_le2, e_lt1, e_lt2, e_eq1, e_eq2, e_inb, e_ix, nI_add, pk_mul, e_sub, e_b0, e_b1, e_bz, e_bz0, e_bz1, Bool.and_true, Bool.true_and, ↓reduceIte, not_true_eq_false, not_false_eq_true, decide_false, decide_true, and_self, and_true, true_and, and_false, false_and, Bool.false_eq_true, Bool.not_false, Bool.not_true, t1, hf]
theorem x_can7 {σ : Sg} {A : Nat → Nat} (hX : XT σ 2 A) (hB : BT A) {h : Nat} (hh : h < A 0) (w : Int32) : f_X8_can 2 (nI 7) (nI h) w 8 σ = some (if A (10 + 5 * h) = 1 then nI 1 else nI 0, σ) := by
  have c8 := hB.1
  have hf := hX.2.2.2.2.2.2.1
  have hb := (hB.2.2.2.2 h (by omega)).1
  have t1 := x_told1 hX.1 c8 hh
  unfold f_X8_can f_X8_can_90
  by_cases q : A (10 + 5 * h) = 1
  · rw [if_pos q]
    simp (disch := omega) only [e_bnd, e_bndV, e_lt, e_grd, e_lit, e_le1, e_le2, e_lt1, e_lt2, e_eq1, e_eq2, e_inb, e_ix, nI_add, pk_mul, e_sub, e_b0, e_b1, e_bz, e_bz0, e_bz1, Bool.and_true, Bool.true_and, ↓reduceIte, not_true_eq_false, not_false_eq_true, decide_false, decide_true, and_self, and_true, true_and, and_false, false_and, Bool.false_eq_true, Bool.not_false, Bool.not_true, t1, hf, q]
  · rw [if_neg q]
    simp (disch := omega) only [e_bnd, e_bndV, e_lt, e_grd, e_lit, e_le1, e_le2, e_lt1, e_lt2, e_eq1, e_eq2, e_inb, e_ix, nI_add, pk_mul, e_sub, e_b0, e_b1, e_bz, e_bz0, e_bz1, Bool.and_true, Bool.true_and, ↓reduceIte, not_true_eq_false, not_false_eq_true, decide_false, decide_true, and_self, and_true, true_and, and_false, false_and, Bool.false_eq_true, Bool.not_false, Bool.not_true, t1, hf]
theorem x_can9 {σ : Sg} {A : Nat → Nat} (hX : XT σ 2 A) (hB : BT A) {h : Nat} (hh : h < A 0) (w : Int32) : f_X8_can 2 (nI 9) (nI h) w 8 σ = some (if A (10 + 5 * h) = 3 then nI 1 else nI 0, σ) := by
  have c8 := hB.1
  have hf := hX.2.2.2.2.2.2.1
  have hb := (hB.2.2.2.2 h (by omega)).1
  have t1 := x_told1 hX.1 c8 hh
  unfold f_X8_can f_X8_can_106
  by_cases q : A (10 + 5 * h) = 3
  · rw [if_pos q]
    simp (disch := omega) only [e_bnd, e_bndV, e_lt, e_grd, e_lit, e_le1, e_le2, e_lt1, e_lt2, e_eq1, e_eq2, e_inb, e_ix, nI_add, pk_mul, e_sub, e_b0, e_b1, e_bz, e_bz0, e_bz1, Bool.and_true, Bool.true_and, ↓reduceIte, not_true_eq_false, not_false_eq_true, decide_false, decide_true, and_self, and_true, true_and, and_false, false_and, Bool.false_eq_true, Bool.not_false, Bool.not_true, t1, hf, q]
  · rw [if_neg q]
    simp (disch := omega) only [e_bnd, e_bndV, e_lt, e_grd, e_lit, e_le1, e_le2, e_lt1, e_lt2, e_eq1, e_eq2, e_inb, e_ix, nI_add, pk_mul, e_sub, e_b0, e_b1, e_bz, e_bz0, e_bz1, Bool.and_true, Bool.true_and, ↓reduceIte, not_true_eq_false, not_false_eq_true, decide_false, decide_true, and_self, and_true, true_and, and_false, false_and, Bool.false_eq_true, Bool.not_false, Bool.not_true, t1, hf]
theorem x_act6 {σ : Sg} {A : Nat → Nat} (H : HX true σ 2 A) {h : Nat} (h8 : h < 8) (w : Int32) : ∃ σ', f_X8_act 2 (nI 6) (nI h) w σ = some σ' ∧ HX true σ' 2 (up A (10 + 5 * h) 1) ∧ fr (zT 2) σ σ' := by
  have kh : A (10 + 5 * h + 1) ≤ 9 := (H.2.1.2.2.2.2 h h8).2.1
  have xh : σ.1 (2 + 4) h = nI (A (10 + 5 * h + 1)) := H.1.2.2.2.2.2.2.2 h h8
  obtain ⟨x2, s1, s2, s3'⟩ := hx_set H (h := h) (f := 1) (x := A (10 + 5 * h + 1)) h8 (by decide) kh
  have hid : up (up A (10 + 5 * h) 1) (10 + 5 * h + 1) (A (10 + 5 * h + 1)) = up A (10 + 5 * h) 1 := by
    funext j
    by_cases q : j = 10 + 5 * h + 1
    · subst q; rw [up_hit, up_ne (by omega)]
    · rw [up_ne q]
  rw [hid] at s2
  refine ⟨x2, ?_, s2, s3'⟩
  unfold f_X8_act f_X8_act_119
  simp (disch := omega) only [e_bnd, e_bndV, e_lt, e_grd, e_lit, e_le1, e_le2, e_lt1, e_lt2, e_eq1, e_eq2, e_inb, e_ix, nI_add, pk_mul, e_sub, e_b0, e_b1, e_bz, e_bz0, e_bz1, Bool.and_true, Bool.true_and, ↓reduceIte, not_true_eq_false, not_false_eq_true, decide_false, decide_true, and_self, and_true, true_and, and_false, false_and, Bool.false_eq_true, Bool.not_false, Bool.not_true, xh, s1]
theorem x_act7 {σ : Sg} {A : Nat → Nat} (H : HX true σ 2 A) {h : Nat} (h8 : h < 8) (w : Int32) : ∃ σ', f_X8_act 2 (nI 7) (nI h) w σ = some σ' ∧ HX true σ' 2 (up A (10 + 5 * h) 2) ∧ fr (zT 2) σ σ' := by
  have kh : A (10 + 5 * h + 1) ≤ 9 := (H.2.1.2.2.2.2 h h8).2.1
  have xh : σ.1 (2 + 4) h = nI (A (10 + 5 * h + 1)) := H.1.2.2.2.2.2.2.2 h h8
  obtain ⟨x2, s1, s2, s3'⟩ := hx_set H (h := h) (f := 2) (x := A (10 + 5 * h + 1)) h8 (by decide) kh
  have hid : up (up A (10 + 5 * h) 2) (10 + 5 * h + 1) (A (10 + 5 * h + 1)) = up A (10 + 5 * h) 2 := by
    funext j
    by_cases q : j = 10 + 5 * h + 1
    · subst q; rw [up_hit, up_ne (by omega)]
    · rw [up_ne q]
  rw [hid] at s2
  refine ⟨x2, ?_, s2, s3'⟩
  unfold f_X8_act f_X8_act_119
  simp (disch := omega) only [e_bnd, e_bndV, e_lt, e_grd, e_lit, e_le1, e_le2, e_lt1, e_lt2, e_eq1, e_eq2, e_inb, e_ix, nI_add, pk_mul, e_sub, e_b0, e_b1, e_bz, e_bz0, e_bz1, Bool.and_true, Bool.true_and, ↓reduceIte, not_true_eq_false, not_false_eq_true, decide_false, decide_true, and_self, and_true, true_and, and_false, false_and, Bool.false_eq_true, Bool.not_false, Bool.not_true, xh, s1]
theorem x_act5 {σ : Sg} {A : Nat → Nat} (H : HX true σ 2 A) {h : Nat} (h8 : h < 8) (w : Int32) : ∃ σ', f_X8_act 2 (nI 5) (nI h) w σ = some σ' ∧ HX true σ' 2 (wr (up (up A (10 + 5 * h) 2) (10 + 5 * h + 1) 9) h 0) ∧ fr (zT 2) σ σ' := by
  obtain ⟨x2, s1, s2, s3⟩ := hx_set H (h := h) (f := 2) (x := 9) h8 (by decide) (by decide)
  obtain ⟨x3, t1, t2, t3⟩ := hx_note s2 (h := h) (w := 0) h8 (by decide)
  refine ⟨x3, ?_, t2, s3.trans t3⟩
  unfold f_X8_act f_X8_act_119
  simp (disch := omega) only [e_bnd, e_bndV, e_lt, e_grd, e_lit, e_le1, e_le2, e_lt1, e_lt2, e_eq1, e_eq2, e_inb, e_ix, nI_add, pk_mul, e_sub, e_b0, e_b1, e_bz, e_bz0, e_bz1, Bool.and_true, Bool.true_and, ↓reduceIte, not_true_eq_false, not_false_eq_true, decide_false, decide_true, and_self, and_true, true_and, and_false, false_and, Bool.false_eq_true, Bool.not_false, Bool.not_true, s1, t1]
theorem x_act9 {σ : Sg} {A : Nat → Nat} (H : HX true σ 2 A) {h : Nat} (h8 : h < 8) (w : Int32) : ∃ σ', f_X8_act 2 (nI 9) (nI h) w σ = some σ' ∧ HX true σ' 2 (up (up A (10 + 5 * h) 0) (10 + 5 * h + 1) 0) ∧ fr (zT 2) σ σ' := by
  obtain ⟨x2, s1, s2, s3⟩ := hx_set H (h := h) (f := 0) (x := 0) h8 (by decide) (by decide)
  refine ⟨x2, ?_, s2, s3⟩
  unfold f_X8_act f_X8_act_119
  simp (disch := omega) only [e_bnd, e_bndV, e_lt, e_grd, e_lit, e_le1, e_le2, e_lt1, e_lt2, e_eq1, e_eq2, e_inb, e_ix, nI_add, pk_mul, e_sub, e_b0, e_b1, e_bz, e_bz0, e_bz1, Bool.and_true, Bool.true_and, ↓reduceIte, not_true_eq_false, not_false_eq_true, decide_false, decide_true, and_self, and_true, true_and, and_false, false_and, Bool.false_eq_true, Bool.not_false, Bool.not_true, s1]
theorem m_isSo {σ : Sg} {A : Nat → Nat} (hM : MA σ A) (hB : BT A) {h f : Nat} (hh : h < A 0) (hf : f < 9) : f_X12_isSo (nI h) (nI f) σ = some (if A (10 + 5 * h) = f then nI 1 else nI 0, σ) := by
  have c8 := hB.1
  have hb := (hB.2.2.2.2 h (by omega)).1
  have t1 := m_isHouse1 hM c8 hh
  unfold f_X12_isSo f_X12_isSo_22 f_X12_isSo_23
  by_cases q : A (10 + 5 * h) = f
  · rw [if_pos q]
    simp (disch := omega) only [e_bnd, e_bndV, e_lt, e_grd, e_lit, e_le1, e_le2, e_lt1, e_lt2, e_eq1, e_eq2, e_inb, e_ix, nI_add, pk_mul, e_sub, e_b0, e_b1, e_bz, e_bz0, e_bz1, Bool.and_true, Bool.true_and, ↓reduceIte, not_true_eq_false, not_false_eq_true, decide_false, decide_true, and_self, and_true, true_and, and_false, false_and, Bool.false_eq_true, Bool.not_false, Bool.not_true, t1, m_get hM, Nat.add_zero, q]
  · rw [if_neg q]
    simp (disch := omega) only [e_bnd, e_bndV, e_lt, e_grd, e_lit, e_le1, e_le2, e_lt1, e_lt2, e_eq1, e_eq2, e_inb, e_ix, nI_add, pk_mul, e_sub, e_b0, e_b1, e_bz, e_bz0, e_bz1, Bool.and_true, Bool.true_and, ↓reduceIte, not_true_eq_false, not_false_eq_true, decide_false, decide_true, and_self, and_true, true_and, and_false, false_and, Bool.false_eq_true, Bool.not_false, Bool.not_true, t1, m_get hM, Nat.add_zero]
theorem pm_light {σ : Sg} {A : Nat → Nat} (M : PM σ A) {h : Nat} (h8 : h < 8) : ∃ σ', f_X12_lightNow (nI h) σ = some σ' ∧ PM σ' (wr (up (up A (10 + 5 * h) 2) (10 + 5 * h + 1) 9) h 0) ∧ fr (fun a j => a = 1 ∧ ((10 ≤ j ∧ j < 50) ∨ j = 9 ∨ 1956 ≤ j)) σ σ' := by
  have M2 := M.upd (j := 10 + 5 * h) (v := 2) (by omega) (M.2.1.fire (by decide))
  have M3 := M2.upd (j := 10 + 5 * h + 1) (v := 9) (by omega) (M2.2.1.heat (by decide))
  obtain ⟨m4, u1, u2, u3⟩ := pm_write M3 (h := h) (w := 0) h8 (by decide)
  refine ⟨m4, ?_, u2, ((fr.w (by omega)).trans (fr.w (by omega))).trans (u3.mono (fun a j q => by omega))⟩
  unfold f_X12_lightNow
  simp (disch := omega) only [e_bnd, e_bndV, e_lt, e_grd, e_lit, e_le1, e_le2, e_lt1, e_lt2, e_eq1, e_eq2, e_inb, e_ix, nI_add, pk_mul, e_sub, e_b0, e_b1, e_bz, e_bz0, e_bz1, Bool.and_true, Bool.true_and, ↓reduceIte, not_true_eq_false, not_false_eq_true, decide_false, decide_true, and_self, and_true, true_and, and_false, false_and, Bool.false_eq_true, Bool.not_false, Bool.not_true, m_put, Nat.add_zero]
  simp (disch := omega) only [e_bnd, e_bndV, e_lt, e_grd, e_lit, e_le1, e_le2, e_lt1, e_lt2, e_eq1, e_eq2, e_inb, e_ix, nI_add, pk_mul, e_sub, e_b0, e_b1, e_bz, e_bz0, e_bz1, Bool.and_true, Bool.true_and, ↓reduceIte, not_true_eq_false, not_false_eq_true, decide_false, decide_true, and_self, and_true, true_and, and_false, false_and, Bool.false_eq_true, Bool.not_false, Bool.not_true, u1]
theorem DI.mk2 {σX σM x2 m2 : Sg} {tx : Int32} {K A A2 : Nat → Nat} (D : DI σX σM tx K A) (H2 : HX true x2 2 A2) (M2 : PM m2 A2) (fX : fr zSX σX x2) (fM : fr zSM σM m2) (e : ∀ j, (j < 6 ∨ (50 ≤ j ∧ j < 1956) ∨ (10 ≤ j ∧ j < 50 ∧ j % 5 = 4)) → A2 j = A j) : DI x2 m2 tx K A2 := by
  obtain ⟨H, hXR, ⟨c, bu, HMm⟩, hs⟩ := D
  refine ⟨H2, hXR.mv fX e, M2.hm2 (BR_of HMm.2.2.1 (fun j hj => e j (by omega))) ?_, fun j hj => (e j hj).trans (hs j hj)⟩
  rw [fM.1 _ _ (by omega)]
  exact HMm.2.2.2.2.2.2.2
/-- what one number of a winter brings about, on both sides -/
theorem di_draw {κ : Kd} {r : Option Nat} {Lw : Nat → Option LV} {σ0 s0 : Sg} {tx : Int32} {K A : Nat → Nat} {σX σM : Sg} (D : DI σX σM tx K A) (hr : rul r σ0) (hRX : RX κ σ0 r Lw) (hSM : SAY s0 tx Lw) (hd : deps Lw) (eX : fr zSX σ0 σX) (eM : fr zSM s0 σM) {x : Nat} (hx : x < 30497) : ∃ x2 m2 A2, f_X11_befallByDraw κ (nI x) σX = some x2 ∧ f_X12_happens (nI x) σM = some m2 ∧ DI x2 m2 tx K A2 ∧ fr zSX σX x2 ∧ fr zSM σM m2 := by
  have D0 := D
  obtain ⟨H, hXR, ⟨c, bu, HMm⟩, hs⟩ := D
  have hM := HMm.1
  have hB := H.2.1
  have c8 := hB.1
  have hBR := HMm.2.2.1
  have hN := H.2.2.2 rfl
  have c6 := hB.2.1
  have r0 := hM.1 0 (by decide) (by decide) (by decide)
  have r6 := hM.1 6 (by decide) (by decide) (by decide)
  have x0 : σX.1 2 0 = nI (A 0) := H.1.1
  have x5 : σX.1 2 5 = nI (A 6) := H.1.2.1
  have hr1 := hr σX (eX.1 _ _ (by omega)) (eX.1 _ _ (by omega)) eX.2
  have hR1 : RX κ σX r Lw := hRX.tx (fun a ha j => eX.1 _ _ (by omega))
  have hS1 : SAY σM tx Lw := hSM.tx (fun j => eM.1 _ _ (by omega))
  have htx := HMm.2.2.2.2.2.2.2
  have hk8 : x % 8 < 8 := Nat.mod_lt _ (by decide)
  unfold f_X11_befallByDraw f_X11_befallByDraw_56 f_X11_befallByDraw_77 f_X11_befallByDraw_177 f_X12_happens f_X12_happens_26 f_X12_happens_209
  by_cases h7 : x % 8 = 7
  · by_cases h9 : A 6 < 9999
    · obtain ⟨x2, a1, a2, a3, a4⟩ := hx_pass H hR1 hd (by decide) hXR (by decide) h9
      obtain ⟨m2, bu', b0, b1, b2, b3⟩ := hm_pass HMm hS1 hd h9
      have e : ∀ j, (j < 6 ∨ (50 ≤ j ∧ j < 1956) ∨ (10 ≤ j ∧ j < 50 ∧ j % 5 = 4)) → (passA true Lw A).1 j = A j := fun j hj => a4 j (by omega) (by omega) (by omega) (by omega)
      have fX : fr zSX σX x2 := a3.mono (fun a j q => by omega)
      refine ⟨x2, m2, _, ?_, ?_, ⟨a2, hXR.mv fX e, ⟨_, _, b2⟩, fun j hj => (e j hj).trans (hs j hj)⟩, fX, b3.mono (fun a j q => by omega)⟩
      · simp (disch := omega) only [e_bnd, e_bndV, e_lt, e_grd, e_lit, e_le1, e_le2, e_lt1, e_lt2, e_eq1, e_eq2, e_inb, e_ix, nI_add, pk_mul, e_sub, e_b0, e_b1, e_bz, e_bz0, e_bz1, Bool.and_true, Bool.true_and, ↓reduceIte, not_true_eq_false, not_false_eq_true, decide_false, decide_true, and_self, and_true, true_and, and_false, false_and, Bool.false_eq_true, Bool.not_false, Bool.not_true, rem_I, dz_I, h7, x5, hr1, a1]
      · simp (disch := omega) only [e_bnd, e_bndV, e_lt, e_grd, e_lit, e_le1, e_le2, e_lt1, e_lt2, e_eq1, e_eq2, e_inb, e_ix, nI_add, pk_mul, e_sub, e_b0, e_b1, e_bz, e_bz0, e_bz1, Bool.and_true, Bool.true_and, ↓reduceIte, not_true_eq_false, not_false_eq_true, decide_false, decide_true, and_self, and_true, true_and, and_false, false_and, Bool.false_eq_true, Bool.not_false, Bool.not_true, rem_I, dz_I, h7, r6, b1]
    · refine ⟨σX, σM, A, ?_, ?_, ⟨H, hXR, ⟨c, bu, HMm⟩, hs⟩, fr.rfl, fr.rfl⟩
      · simp (disch := omega) only [e_bnd, e_bndV, e_lt, e_grd, e_lit, e_le1, e_le2, e_lt1, e_lt2, e_eq1, e_eq2, e_inb, e_ix, nI_add, pk_mul, e_sub, e_b0, e_b1, e_bz, e_bz0, e_bz1, Bool.and_true, Bool.true_and, ↓reduceIte, not_true_eq_false, not_false_eq_true, decide_false, decide_true, and_self, and_true, true_and, and_false, false_and, Bool.false_eq_true, Bool.not_false, Bool.not_true, rem_I, dz_I, h7, x5]
      · simp (disch := omega) only [e_bnd, e_bndV, e_lt, e_grd, e_lit, e_le1, e_le2, e_lt1, e_lt2, e_eq1, e_eq2, e_inb, e_ix, nI_add, pk_mul, e_sub, e_b0, e_b1, e_bz, e_bz0, e_bz1, Bool.and_true, Bool.true_and, ↓reduceIte, not_true_eq_false, not_false_eq_true, decide_false, decide_true, and_self, and_true, true_and, and_false, false_and, Bool.false_eq_true, Bool.not_false, Bool.not_true, rem_I, dz_I, h7, r6]
  by_cases h0 : A 0 = 0
  · refine ⟨σX, σM, A, ?_, ?_, ⟨H, hXR, ⟨c, bu, HMm⟩, hs⟩, fr.rfl, fr.rfl⟩
    · simp (disch := omega) only [e_bnd, e_bndV, e_lt, e_grd, e_lit, e_le1, e_le2, e_lt1, e_lt2, e_eq1, e_eq2, e_inb, e_ix, nI_add, pk_mul, e_sub, e_b0, e_b1, e_bz, e_bz0, e_bz1, Bool.and_true, Bool.true_and, ↓reduceIte, not_true_eq_false, not_false_eq_true, decide_false, decide_true, and_self, and_true, true_and, and_false, false_and, Bool.false_eq_true, Bool.not_false, Bool.not_true, rem_I, dz_I, x0, h0]
    · simp (disch := omega) only [e_bnd, e_bndV, e_lt, e_grd, e_lit, e_le1, e_le2, e_lt1, e_lt2, e_eq1, e_eq2, e_inb, e_ix, nI_add, pk_mul, e_sub, e_b0, e_b1, e_bz, e_bz0, e_bz1, Bool.and_true, Bool.true_and, ↓reduceIte, not_true_eq_false, not_false_eq_true, decide_false, decide_true, and_self, and_true, true_and, and_false, false_and, Bool.false_eq_true, Bool.not_false, Bool.not_true, rem_I, dz_I, r0, h0]
  have hh : x % A 0 < A 0 := Nat.mod_lt _ (by omega)
  have hk : x / 8 % A 0 < A 0 := Nat.mod_lt _ (by omega)
  obtain ⟨h, hhx⟩ : ∃ h, h = x % A 0 := ⟨_, rfl⟩
  obtain ⟨k, hkx⟩ : ∃ k, k = x / 8 % A 0 := ⟨_, rfl⟩
  rw [← hhx] at hh
  rw [← hkx] at hk
  have t1 := x_told1 H.1.1 c8 hh
  have t2 := m_isHouse1 hM c8 hh
  have hf := H.1.2.2.2.2.2.2.1
  have hht := H.1.2.2.2.2.2.2.2
  have hb := hB.2.2.2.2 h (by omega)
  have Mp := HMm.c
  have h9' := hN.1
  have hrem : ∀ n, n < 8 → x % 8 = n → jrem (nI x) (nI 8) = nI n := fun n _ q => by rw [rem_I (by omega) (by decide) (by decide), q]
  have hhJ : jrem (nI x) (nI (A 0)) = nI h := by rw [rem_I (by omega) (by omega) (by omega), hhx]
  have hkJ : jrem (nI x / nI 8) (nI (A 0)) = nI k := by rw [pk_div (by omega) (by decide) (by decide), rem_I (by omega) (by omega) (by omega), hkx]
  have dzA : (!decide (nI (A 0) = nI 0)) = true := dz_I (by omega) (by omega)
  have dz8 : (!decide (nI 8 = nI 0)) = true := dz_I (by decide) (by decide)
  have hcs : x % 8 = 0 ∨ x % 8 = 1 ∨ x % 8 = 2 ∨ x % 8 = 3 ∨ x % 8 = 4 ∨ x % 8 = 5 ∨ x % 8 = 6 := by omega
  have hfr : ∀ a j, (zT 2) a j → zSX a j := fun a j q => by omega
  rcases hcs with q | q | q | q | q | q | q
  · have hj := hrem 0 (by decide) q
    have hc := x_can5 H.1 hB hh (nI k)
    have hs2 := m_isSo hM hB (f := 0) hh (by decide)
    by_cases hq : A (10 + 5 * h) = 0
    · rw [if_pos hq] at hc hs2
      obtain ⟨x2, a1, a2, a3⟩ := x_act5 H (h := h) (by omega) (nI k)
      obtain ⟨m2, b1, M2, b3⟩ := pm_light Mp (h := h) (by omega)
      refine ⟨x2, _, _, ?_, ?_, D0.mk2 a2 M2 (a3.mono hfr) (b3.mono (fun a j q => by omega)) (fun j hj2 => ?_), a3.mono hfr, (b3.mono (fun a j q => by omega))⟩
      · simp (disch := omega) only [e_bnd, e_bndV, e_lt, e_grd, e_lit, e_le1, e_le2, e_lt1, e_lt2, e_eq1, e_eq2, e_inb, e_ix, nI_add, pk_mul, e_sub, e_b0, e_b1, e_bz, e_bz0, e_bz1, Bool.and_true, Bool.true_and, ↓reduceIte, not_true_eq_false, not_false_eq_true, decide_false, decide_true, and_self, and_true, true_and, and_false, false_and, Bool.false_eq_true, Bool.not_false, Bool.not_true, hj, x0, hhJ, hkJ, dzA, dz8, f_X11_actOfDraw, hc, a1]
      · simp (disch := omega) only [e_bnd, e_bndV, e_lt, e_grd, e_lit, e_le1, e_le2, e_lt1, e_lt2, e_eq1, e_eq2, e_inb, e_ix, nI_add, pk_mul, e_sub, e_b0, e_b1, e_bz, e_bz0, e_bz1, Bool.and_true, Bool.true_and, ↓reduceIte, not_true_eq_false, not_false_eq_true, decide_false, decide_true, and_self, and_true, true_and, and_false, false_and, Bool.false_eq_true, Bool.not_false, Bool.not_true, hj, r0, hhJ, hkJ, dzA, dz8, hs2, m_put, Nat.add_zero, b1]
      · rw [wr_off (by rw [up_ne (by omega), up_ne (by omega)]; exact h9') (by omega) (by omega), up_ne (by omega), up_ne (by omega)]
    · rw [if_neg hq] at hc hs2
      refine ⟨σX, σM, A, ?_, ?_, D0, fr.rfl, fr.rfl⟩
      · simp (disch := omega) only [e_bnd, e_bndV, e_lt, e_grd, e_lit, e_le1, e_le2, e_lt1, e_lt2, e_eq1, e_eq2, e_inb, e_ix, nI_add, pk_mul, e_sub, e_b0, e_b1, e_bz, e_bz0, e_bz1, Bool.and_true, Bool.true_and, ↓reduceIte, not_true_eq_false, not_false_eq_true, decide_false, decide_true, and_self, and_true, true_and, and_false, false_and, Bool.false_eq_true, Bool.not_false, Bool.not_true, hj, x0, hhJ, hkJ, dzA, dz8, f_X11_actOfDraw, hc]
      · simp (disch := omega) only [e_bnd, e_bndV, e_lt, e_grd, e_lit, e_le1, e_le2, e_lt1, e_lt2, e_eq1, e_eq2, e_inb, e_ix, nI_add, pk_mul, e_sub, e_b0, e_b1, e_bz, e_bz0, e_bz1, Bool.and_true, Bool.true_and, ↓reduceIte, not_true_eq_false, not_false_eq_true, decide_false, decide_true, and_self, and_true, true_and, and_false, false_and, Bool.false_eq_true, Bool.not_false, Bool.not_true, hj, r0, hhJ, hkJ, dzA, dz8, hs2]
  · have hj := hrem 1 (by decide) q
    have hc := x_can5 H.1 hB hh (nI k)
    have hs2 := m_isSo hM hB (f := 0) hh (by decide)
    by_cases hq : A (10 + 5 * h) = 0
    · rw [if_pos hq] at hc hs2
      obtain ⟨x2, a1, a2, a3⟩ := x_act5 H (h := h) (by omega) (nI k)
      obtain ⟨m2, b1, M2, b3⟩ := pm_light Mp (h := h) (by omega)
      refine ⟨x2, _, _, ?_, ?_, D0.mk2 a2 M2 (a3.mono hfr) (b3.mono (fun a j q => by omega)) (fun j hj2 => ?_), a3.mono hfr, (b3.mono (fun a j q => by omega))⟩
      · simp (disch := omega) only [e_bnd, e_bndV, e_lt, e_grd, e_lit, e_le1, e_le2, e_lt1, e_lt2, e_eq1, e_eq2, e_inb, e_ix, nI_add, pk_mul, e_sub, e_b0, e_b1, e_bz, e_bz0, e_bz1, Bool.and_true, Bool.true_and, ↓reduceIte, not_true_eq_false, not_false_eq_true, decide_false, decide_true, and_self, and_true, true_and, and_false, false_and, Bool.false_eq_true, Bool.not_false, Bool.not_true, hj, x0, hhJ, hkJ, dzA, dz8, f_X11_actOfDraw, hc, a1]
      · simp (disch := omega) only [e_bnd, e_bndV, e_lt, e_grd, e_lit, e_le1, e_le2, e_lt1, e_lt2, e_eq1, e_eq2, e_inb, e_ix, nI_add, pk_mul, e_sub, e_b0, e_b1, e_bz, e_bz0, e_bz1, Bool.and_true, Bool.true_and, ↓reduceIte, not_true_eq_false, not_false_eq_true, decide_false, decide_true, and_self, and_true, true_and, and_false, false_and, Bool.false_eq_true, Bool.not_false, Bool.not_true, hj, r0, hhJ, hkJ, dzA, dz8, hs2, m_put, Nat.add_zero, b1]
      · rw [wr_off (by rw [up_ne (by omega), up_ne (by omega)]; exact h9') (by omega) (by omega), up_ne (by omega), up_ne (by omega)]
    · rw [if_neg hq] at hc hs2
      refine ⟨σX, σM, A, ?_, ?_, D0, fr.rfl, fr.rfl⟩
      · simp (disch := omega) only [e_bnd, e_bndV, e_lt, e_grd, e_lit, e_le1, e_le2, e_lt1, e_lt2, e_eq1, e_eq2, e_inb, e_ix, nI_add, pk_mul, e_sub, e_b0, e_b1, e_bz, e_bz0, e_bz1, Bool.and_true, Bool.true_and, ↓reduceIte, not_true_eq_false, not_false_eq_true, decide_false, decide_true, and_self, and_true, true_and, and_false, false_and, Bool.false_eq_true, Bool.not_false, Bool.not_true, hj, x0, hhJ, hkJ, dzA, dz8, f_X11_actOfDraw, hc]
      · simp (disch := omega) only [e_bnd, e_bndV, e_lt, e_grd, e_lit, e_le1, e_le2, e_lt1, e_lt2, e_eq1, e_eq2, e_inb, e_ix, nI_add, pk_mul, e_sub, e_b0, e_b1, e_bz, e_bz0, e_bz1, Bool.and_true, Bool.true_and, ↓reduceIte, not_true_eq_false, not_false_eq_true, decide_false, decide_true, and_self, and_true, true_and, and_false, false_and, Bool.false_eq_true, Bool.not_false, Bool.not_true, hj, r0, hhJ, hkJ, dzA, dz8, hs2]
  · have hj := hrem 2 (by decide) q
    have hc := x_can6 H.1 hB hh (nI k)
    have hs2 := m_isSo hM hB (f := 2) hh (by decide)
    by_cases hq : A (10 + 5 * h) = 2
    · rw [if_pos hq] at hc hs2
      obtain ⟨x2, a1, a2, a3⟩ := x_act6 H (h := h) (by omega) (nI k)
      have M2 := Mp.upd (j := 10 + 5 * h) (v := 1) (by omega) (hB.fire (by decide))
      refine ⟨x2, _, _, ?_, ?_, D0.mk2 a2 M2 (a3.mono hfr) (fr.w (by omega)) (fun j hj2 => ?_), a3.mono hfr, (fr.w (by omega))⟩
      · simp (disch := omega) only [e_bnd, e_bndV, e_lt, e_grd, e_lit, e_le1, e_le2, e_lt1, e_lt2, e_eq1, e_eq2, e_inb, e_ix, nI_add, pk_mul, e_sub, e_b0, e_b1, e_bz, e_bz0, e_bz1, Bool.and_true, Bool.true_and, ↓reduceIte, not_true_eq_false, not_false_eq_true, decide_false, decide_true, and_self, and_true, true_and, and_false, false_and, Bool.false_eq_true, Bool.not_false, Bool.not_true, hj, x0, hhJ, hkJ, dzA, dz8, f_X11_actOfDraw, hc, a1]
      · simp (disch := omega) only [e_bnd, e_bndV, e_lt, e_grd, e_lit, e_le1, e_le2, e_lt1, e_lt2, e_eq1, e_eq2, e_inb, e_ix, nI_add, pk_mul, e_sub, e_b0, e_b1, e_bz, e_bz0, e_bz1, Bool.and_true, Bool.true_and, ↓reduceIte, not_true_eq_false, not_false_eq_true, decide_false, decide_true, and_self, and_true, true_and, and_false, false_and, Bool.false_eq_true, Bool.not_false, Bool.not_true, hj, r0, hhJ, hkJ, dzA, dz8, hs2, m_put, Nat.add_zero]
      · rw [up_ne (by omega)]
    · rw [if_neg hq] at hc hs2
      refine ⟨σX, σM, A, ?_, ?_, D0, fr.rfl, fr.rfl⟩
      · simp (disch := omega) only [e_bnd, e_bndV, e_lt, e_grd, e_lit, e_le1, e_le2, e_lt1, e_lt2, e_eq1, e_eq2, e_inb, e_ix, nI_add, pk_mul, e_sub, e_b0, e_b1, e_bz, e_bz0, e_bz1, Bool.and_true, Bool.true_and, ↓reduceIte, not_true_eq_false, not_false_eq_true, decide_false, decide_true, and_self, and_true, true_and, and_false, false_and, Bool.false_eq_true, Bool.not_false, Bool.not_true, hj, x0, hhJ, hkJ, dzA, dz8, f_X11_actOfDraw, hc]
      · simp (disch := omega) only [e_bnd, e_bndV, e_lt, e_grd, e_lit, e_le1, e_le2, e_lt1, e_lt2, e_eq1, e_eq2, e_inb, e_ix, nI_add, pk_mul, e_sub, e_b0, e_b1, e_bz, e_bz0, e_bz1, Bool.and_true, Bool.true_and, ↓reduceIte, not_true_eq_false, not_false_eq_true, decide_false, decide_true, and_self, and_true, true_and, and_false, false_and, Bool.false_eq_true, Bool.not_false, Bool.not_true, hj, r0, hhJ, hkJ, dzA, dz8, hs2]
  · have hj := hrem 3 (by decide) q
    have hc := x_can7 H.1 hB hh (nI k)
    have hs2 := m_isSo hM hB (f := 1) hh (by decide)
    by_cases hq : A (10 + 5 * h) = 1
    · rw [if_pos hq] at hc hs2
      obtain ⟨x2, a1, a2, a3⟩ := x_act7 H (h := h) (by omega) (nI k)
      have M2 := Mp.upd (j := 10 + 5 * h) (v := 2) (by omega) (hB.fire (by decide))
      refine ⟨x2, _, _, ?_, ?_, D0.mk2 a2 M2 (a3.mono hfr) (fr.w (by omega)) (fun j hj2 => ?_), a3.mono hfr, (fr.w (by omega))⟩
      · simp (disch := omega) only [e_bnd, e_bndV, e_lt, e_grd, e_lit, e_le1, e_le2, e_lt1, e_lt2, e_eq1, e_eq2, e_inb, e_ix, nI_add, pk_mul, e_sub, e_b0, e_b1, e_bz, e_bz0, e_bz1, Bool.and_true, Bool.true_and, ↓reduceIte, not_true_eq_false, not_false_eq_true, decide_false, decide_true, and_self, and_true, true_and, and_false, false_and, Bool.false_eq_true, Bool.not_false, Bool.not_true, hj, x0, hhJ, hkJ, dzA, dz8, f_X11_actOfDraw, hc, a1]
      · simp (disch := omega) only [e_bnd, e_bndV, e_lt, e_grd, e_lit, e_le1, e_le2, e_lt1, e_lt2, e_eq1, e_eq2, e_inb, e_ix, nI_add, pk_mul, e_sub, e_b0, e_b1, e_bz, e_bz0, e_bz1, Bool.and_true, Bool.true_and, ↓reduceIte, not_true_eq_false, not_false_eq_true, decide_false, decide_true, and_self, and_true, true_and, and_false, false_and, Bool.false_eq_true, Bool.not_false, Bool.not_true, hj, r0, hhJ, hkJ, dzA, dz8, hs2, m_put, Nat.add_zero]
      · rw [up_ne (by omega)]
    · rw [if_neg hq] at hc hs2
      refine ⟨σX, σM, A, ?_, ?_, D0, fr.rfl, fr.rfl⟩
      · simp (disch := omega) only [e_bnd, e_bndV, e_lt, e_grd, e_lit, e_le1, e_le2, e_lt1, e_lt2, e_eq1, e_eq2, e_inb, e_ix, nI_add, pk_mul, e_sub, e_b0, e_b1, e_bz, e_bz0, e_bz1, Bool.and_true, Bool.true_and, ↓reduceIte, not_true_eq_false, not_false_eq_true, decide_false, decide_true, and_self, and_true, true_and, and_false, false_and, Bool.false_eq_true, Bool.not_false, Bool.not_true, hj, x0, hhJ, hkJ, dzA, dz8, f_X11_actOfDraw, hc]
      · simp (disch := omega) only [e_bnd, e_bndV, e_lt, e_grd, e_lit, e_le1, e_le2, e_lt1, e_lt2, e_eq1, e_eq2, e_inb, e_ix, nI_add, pk_mul, e_sub, e_b0, e_b1, e_bz, e_bz0, e_bz1, Bool.and_true, Bool.true_and, ↓reduceIte, not_true_eq_false, not_false_eq_true, decide_false, decide_true, and_self, and_true, true_and, and_false, false_and, Bool.false_eq_true, Bool.not_false, Bool.not_true, hj, r0, hhJ, hkJ, dzA, dz8, hs2]
  · have hj := hrem 4 (by decide) q
    have hcX := x_can8 H.1 hB hXR hh hk
    have hcM := m_canFetch hM hB hBR hh hk
    by_cases hq : A (10 + 5 * h) = 0 ∧ (A (10 + 5 * k) = 1 ∨ A (10 + 5 * k) = 2) ∧ 2 ≤ A (10 + 5 * k + 1) ∧ 0 < A (50 + 8 * h + k)
    · rw [if_pos hq] at hcX hcM
      obtain ⟨x2, a1, a2, a3⟩ := hx_act8 H (h := h) (k := k) (by omega) (by omega) (by omega)
      obtain ⟨m2, b1, b2, b3⟩ := pm_fetchNow Mp (h := h) (k := k) (by omega) (by omega) (by omega)
      refine ⟨x2, m2, _, ?_, ?_, D0.mk2 a2 b2 (a3.mono hfr) (b3.mono (fun a j q => by omega)) (fun j hj2 => ?_), a3.mono hfr, b3.mono (fun a j q => by omega)⟩
      · simp (disch := omega) only [e_bnd, e_bndV, e_lt, e_grd, e_lit, e_le1, e_le2, e_lt1, e_lt2, e_eq1, e_eq2, e_inb, e_ix, nI_add, pk_mul, e_sub, e_b0, e_b1, e_bz, e_bz0, e_bz1, Bool.and_true, Bool.true_and, ↓reduceIte, not_true_eq_false, not_false_eq_true, decide_false, decide_true, and_self, and_true, true_and, and_false, false_and, Bool.false_eq_true, Bool.not_false, Bool.not_true, hj, x0, hhJ, hkJ, dzA, dz8, f_X11_actOfDraw, hcX, a1]
      · simp (disch := omega) only [e_bnd, e_bndV, e_lt, e_grd, e_lit, e_le1, e_le2, e_lt1, e_lt2, e_eq1, e_eq2, e_inb, e_ix, nI_add, pk_mul, e_sub, e_b0, e_b1, e_bz, e_bz0, e_bz1, Bool.and_true, Bool.true_and, ↓reduceIte, not_true_eq_false, not_false_eq_true, decide_false, decide_true, and_self, and_true, true_and, and_false, false_and, Bool.false_eq_true, Bool.not_false, Bool.not_true, hj, r0, hhJ, hkJ, dzA, dz8, hcM, b1]
      · rw [wr_off (by rw [up_ne (by omega), up_ne (by omega), up_ne (by omega)]; exact h9') (by omega) (by omega), up_ne (by omega), up_ne (by omega), up_ne (by omega)]
    · rw [if_neg hq] at hcX hcM
      refine ⟨σX, σM, A, ?_, ?_, D0, fr.rfl, fr.rfl⟩
      · simp (disch := omega) only [e_bnd, e_bndV, e_lt, e_grd, e_lit, e_le1, e_le2, e_lt1, e_lt2, e_eq1, e_eq2, e_inb, e_ix, nI_add, pk_mul, e_sub, e_b0, e_b1, e_bz, e_bz0, e_bz1, Bool.and_true, Bool.true_and, ↓reduceIte, not_true_eq_false, not_false_eq_true, decide_false, decide_true, and_self, and_true, true_and, and_false, false_and, Bool.false_eq_true, Bool.not_false, Bool.not_true, hj, x0, hhJ, hkJ, dzA, dz8, f_X11_actOfDraw, hcX]
      · simp (disch := omega) only [e_bnd, e_bndV, e_lt, e_grd, e_lit, e_le1, e_le2, e_lt1, e_lt2, e_eq1, e_eq2, e_inb, e_ix, nI_add, pk_mul, e_sub, e_b0, e_b1, e_bz, e_bz0, e_bz1, Bool.and_true, Bool.true_and, ↓reduceIte, not_true_eq_false, not_false_eq_true, decide_false, decide_true, and_self, and_true, true_and, and_false, false_and, Bool.false_eq_true, Bool.not_false, Bool.not_true, hj, r0, hhJ, hkJ, dzA, dz8, hcM]
  · have hj := hrem 5 (by decide) q
    have hc := x_can9 H.1 hB hh (nI k)
    have hs2 := m_isSo hM hB (f := 3) hh (by decide)
    by_cases hq : A (10 + 5 * h) = 3
    · rw [if_pos hq] at hc hs2
      obtain ⟨x2, a1, a2, a3⟩ := x_act9 H (h := h) (by omega) (nI k)
      have M1 := Mp.upd (j := 10 + 5 * h) (v := 0) (by omega) (hB.fire (by decide))
      have M2 := M1.upd (j := 10 + 5 * h + 1) (v := 0) (by omega) (M1.2.1.heat (by decide))
      refine ⟨x2, _, _, ?_, ?_, D0.mk2 a2 M2 (a3.mono hfr) ((fr.w (by omega)).trans (fr.w (by omega))) (fun j hj2 => ?_), a3.mono hfr, ((fr.w (by omega)).trans (fr.w (by omega)))⟩
      · simp (disch := omega) only [e_bnd, e_bndV, e_lt, e_grd, e_lit, e_le1, e_le2, e_lt1, e_lt2, e_eq1, e_eq2, e_inb, e_ix, nI_add, pk_mul, e_sub, e_b0, e_b1, e_bz, e_bz0, e_bz1, Bool.and_true, Bool.true_and, ↓reduceIte, not_true_eq_false, not_false_eq_true, decide_false, decide_true, and_self, and_true, true_and, and_false, false_and, Bool.false_eq_true, Bool.not_false, Bool.not_true, hj, x0, hhJ, hkJ, dzA, dz8, f_X11_actOfDraw, hc, a1]
      · simp (disch := omega) only [e_bnd, e_bndV, e_lt, e_grd, e_lit, e_le1, e_le2, e_lt1, e_lt2, e_eq1, e_eq2, e_inb, e_ix, nI_add, pk_mul, e_sub, e_b0, e_b1, e_bz, e_bz0, e_bz1, Bool.and_true, Bool.true_and, ↓reduceIte, not_true_eq_false, not_false_eq_true, decide_false, decide_true, and_self, and_true, true_and, and_false, false_and, Bool.false_eq_true, Bool.not_false, Bool.not_true, hj, r0, hhJ, hkJ, dzA, dz8, hs2, m_put, Nat.add_zero]
      · rw [up_ne (by omega), up_ne (by omega)]
    · rw [if_neg hq] at hc hs2
      refine ⟨σX, σM, A, ?_, ?_, D0, fr.rfl, fr.rfl⟩
      · simp (disch := omega) only [e_bnd, e_bndV, e_lt, e_grd, e_lit, e_le1, e_le2, e_lt1, e_lt2, e_eq1, e_eq2, e_inb, e_ix, nI_add, pk_mul, e_sub, e_b0, e_b1, e_bz, e_bz0, e_bz1, Bool.and_true, Bool.true_and, ↓reduceIte, not_true_eq_false, not_false_eq_true, decide_false, decide_true, and_self, and_true, true_and, and_false, false_and, Bool.false_eq_true, Bool.not_false, Bool.not_true, hj, x0, hhJ, hkJ, dzA, dz8, f_X11_actOfDraw, hc]
      · simp (disch := omega) only [e_bnd, e_bndV, e_lt, e_grd, e_lit, e_le1, e_le2, e_lt1, e_lt2, e_eq1, e_eq2, e_inb, e_ix, nI_add, pk_mul, e_sub, e_b0, e_b1, e_bz, e_bz0, e_bz1, Bool.and_true, Bool.true_and, ↓reduceIte, not_true_eq_false, not_false_eq_true, decide_false, decide_true, and_self, and_true, true_and, and_false, false_and, Bool.false_eq_true, Bool.not_false, Bool.not_true, hj, r0, hhJ, hkJ, dzA, dz8, hs2]
  · have hj := hrem 6 (by decide) q
    obtain ⟨vx1, vx2⟩ := hx_visit H hR1 hXR hh
    obtain ⟨vm1, vm2⟩ := hm_visit HMm hS1 hh
    by_cases hq : visC A h
    · obtain ⟨x2, a1, a2, a3⟩ := vx1 hq
      obtain ⟨m2, b1, b2, b3⟩ := vm1 hq
      refine ⟨x2, m2, _, ?_, ?_, D0.mk2 a2 b2.c (a3.mono (fun a j q => by omega)) (b3.mono (fun a j q => by omega)) (fun j hj2 => visA_off h9' (by omega) hj2), a3.mono (fun a j q => by omega), b3.mono (fun a j q => by omega)⟩
      · simp (disch := omega) only [e_bnd, e_bndV, e_lt, e_grd, e_lit, e_le1, e_le2, e_lt1, e_lt2, e_eq1, e_eq2, e_inb, e_ix, nI_add, pk_mul, e_sub, e_b0, e_b1, e_bz, e_bz0, e_bz1, Bool.and_true, Bool.true_and, ↓reduceIte, not_true_eq_false, not_false_eq_true, decide_false, decide_true, and_self, and_true, true_and, and_false, false_and, Bool.false_eq_true, Bool.not_false, Bool.not_true, hj, x0, hhJ, hkJ, dzA, dz8, hr1, a1]
      · simp (disch := omega) only [e_bnd, e_bndV, e_lt, e_grd, e_lit, e_le1, e_le2, e_lt1, e_lt2, e_eq1, e_eq2, e_inb, e_ix, nI_add, pk_mul, e_sub, e_b0, e_b1, e_bz, e_bz0, e_bz1, Bool.and_true, Bool.true_and, ↓reduceIte, not_true_eq_false, not_false_eq_true, decide_false, decide_true, and_self, and_true, true_and, and_false, false_and, Bool.false_eq_true, Bool.not_false, Bool.not_true, hj, r0, hhJ, hkJ, dzA, dz8, b1]
    · have v1 := vx2 hq
      have v2 := vm2 hq
      refine ⟨σX, σM, A, ?_, ?_, D0, fr.rfl, fr.rfl⟩
      · simp (disch := omega) only [e_bnd, e_bndV, e_lt, e_grd, e_lit, e_le1, e_le2, e_lt1, e_lt2, e_eq1, e_eq2, e_inb, e_ix, nI_add, pk_mul, e_sub, e_b0, e_b1, e_bz, e_bz0, e_bz1, Bool.and_true, Bool.true_and, ↓reduceIte, not_true_eq_false, not_false_eq_true, decide_false, decide_true, and_self, and_true, true_and, and_false, false_and, Bool.false_eq_true, Bool.not_false, Bool.not_true, hj, x0, hhJ, hkJ, dzA, dz8, hr1, v1]
      · simp (disch := omega) only [e_bnd, e_bndV, e_lt, e_grd, e_lit, e_le1, e_le2, e_lt1, e_lt2, e_eq1, e_eq2, e_inb, e_ix, nI_add, pk_mul, e_sub, e_b0, e_b1, e_bz, e_bz0, e_bz1, Bool.and_true, Bool.true_and, ↓reduceIte, not_true_eq_false, not_false_eq_true, decide_false, decide_true, and_self, and_true, true_and, and_false, false_and, Bool.false_eq_true, Bool.not_false, Bool.not_true, hj, r0, hhJ, hkJ, dzA, dz8, v2]
theorem g_winters {κ : Kd} {T : TD} (v w : Int32) : GO κ T (f_X11_winters κ v w) (f_X12_winters v w) := by
  intro σX σM ⟨A, B, I⟩
  have s3 := I.1.2.2.2.1.1
  unfold f_X11_winters f_X11_winters_21 f_X12_winters f_X12_winters_21
  rcases rng v 0 9999 (by decide) (by decide) with hn | ⟨a, _, ha, rfl⟩
  · exact ⟨-1, σX, σM, by simp (disch := omega) only [e_bnd, e_bndV, e_lt, e_grd, e_lit, e_le1, e_le2, e_lt1, e_lt2, e_eq1, e_eq2, e_inb, e_ix, nI_add, pk_mul, e_sub, e_b0, e_b1, e_bz, e_bz0, e_bz1, Bool.and_true, Bool.true_and, ↓reduceIte, not_true_eq_false, not_false_eq_true, decide_false, decide_true, and_self, and_true, true_and, and_false, false_and, Bool.false_eq_true, Bool.not_false, Bool.not_true, x_within, hn], by simp (disch := omega) only [e_bnd, e_bndV, e_lt, e_grd, e_lit, e_le1, e_le2, e_lt1, e_lt2, e_eq1, e_eq2, e_inb, e_ix, nI_add, pk_mul, e_sub, e_b0, e_b1, e_bz, e_bz0, e_bz1, Bool.and_true, Bool.true_and, ↓reduceIte, not_true_eq_false, not_false_eq_true, decide_false, decide_true, and_self, and_true, true_and, and_false, false_and, Bool.false_eq_true, Bool.not_false, Bool.not_true, m_isIn, hn], A, B, I⟩
  rcases rng w 1 40 (by decide) (by decide) with hn | ⟨n, h1, hn, rfl⟩
  · exact ⟨-1, σX, σM, by simp (disch := omega) only [e_bnd, e_bndV, e_lt, e_grd, e_lit, e_le1, e_le2, e_lt1, e_lt2, e_eq1, e_eq2, e_inb, e_ix, nI_add, pk_mul, e_sub, e_b0, e_b1, e_bz, e_bz0, e_bz1, Bool.and_true, Bool.true_and, ↓reduceIte, not_true_eq_false, not_false_eq_true, decide_false, decide_true, and_self, and_true, true_and, and_false, false_and, Bool.false_eq_true, Bool.not_false, Bool.not_true, x_within, hn], by simp (disch := omega) only [e_bnd, e_bndV, e_lt, e_grd, e_lit, e_le1, e_le2, e_lt1, e_lt2, e_eq1, e_eq2, e_inb, e_ix, nI_add, pk_mul, e_sub, e_b0, e_b1, e_bz, e_bz0, e_bz1, Bool.and_true, Bool.true_and, ↓reduceIte, not_true_eq_false, not_false_eq_true, decide_false, decide_true, and_self, and_true, true_and, and_false, false_and, Bool.false_eq_true, Bool.not_false, Bool.not_true, m_isIn, hn], A, B, I⟩
  obtain ⟨r, Lw, hr, hRX, hSM, hd⟩ := I.rule
  obtain ⟨x1, m1, k1, k2, H, hP, M, fX, fM⟩ := I.step
  have hRX1 : RX κ x1 r Lw := hRX.tx (fun a ha j => fX.1 _ _ (by omega))
  have t12 : m1.1 1 2 = σM.1 1 2 := fM.1 _ _ (by omega)
  have hSM1 : SAY m1 (σM.1 1 2) Lw := hSM.tx (fun j => fM.1 _ _ (by omega))
  have hru : rul r x1 := fun s q1 q2 q3 => hr s (by rw [q1]; exact fX.1 _ _ (by omega)) (by rw [q2]; exact fX.1 _ _ (by omega)) (by rw [q3]; exact fX.2)
  have hBR := BR_keep I.1.2.2.1 s3
  have hXR := XR_keep I.2.2.1.2.2.1 fX s3
  have b8 : BT (up (keepA A) 8 (a * 2 + 163)) := by
    obtain ⟨b0, b6, b7, b8, bh⟩ := H.2.1
    refine ⟨by rw [up_ne (by omega)]; exact b0, by rw [up_ne (by omega)]; exact b6, by rw [up_ne (by omega)]; exact b7, by rw [up_hit]; omega, fun h hh => ?_⟩
    rw [up_ne (by omega), up_ne (by omega), up_ne (by omega), up_ne (by omega), up_ne (by omega)]
    exact bh h hh
  have H0 : HX true (wI x1 2 7 (nI (a * 2 + 163))) 2 (up (keepA A) 8 (a * 2 + 163)) :=
    ⟨H.1.drawn _, b8, H.2.2.1.of (by rw [e_ne2 (by omega)]) (fun i hi => by rw [e_ne1 (by omega)]) (fun j hj => up_ne (by omega)), fun q => BN_up (H.2.2.2 q) (by omega)⟩
  have M0 : PM (wI m1 1 8 (nI (a * 2 + 163))) (up (keepA A) 8 (a * 2 + 163)) :=
    ⟨M.1.put (by decide) _, b8, BN_up M.2.2.1 (by decide), by rw [e_ne1 (by decide)]; exact M.2.2.2⟩
  have D0 : DI (wI x1 2 7 (nI (a * 2 + 163))) (wI m1 1 8 (nI (a * 2 + 163))) (σM.1 1 2) (keepA A) (up (keepA A) 8 (a * 2 + 163)) :=
    ⟨H0, (hXR.of (fun b j q => by rw [e_ne1 (by omega)])).congr (fun j h1 h2 => up_ne (by omega)), M0.hm2 (BR_up hBR (by decide)) (by rw [e_ne2 (by decide)]; exact t12), fun j hj => up_ne (by omega)⟩
  have loop : ∀ (d j : Nat), d + j = n → ∀ (σx σm : Sg) (A' : Nat → Nat), DI σx σm (σM.1 1 2) (keepA A) A' → fr zSX x1 σx → fr zSM m1 σm → ∃ x m A2, (∀ fu, d < fu → f_X11_winters_59 κ fu (nI n) (nI j) σx = some (nI (A2 6), x)) ∧ (∀ fu, d < fu → f_X12_winters_43 fu (nI n) (nI j) σm = some (nI (A2 6), m)) ∧ DI x m (σM.1 1 2) (keepA A) A2 ∧ fr zSX x1 x ∧ fr zSM m1 m := by
    intro d
    induction d with
    | zero =>
      intro j hj σx σm A' D eX eM
      have hj2 : j = n := by omega
      subst hj2
      have q5 : σx.1 2 5 = nI (A' 6) := D.1.1.2.1
      obtain ⟨c, bu, HMm⟩ := D.2.2.1
      have q6 := HMm.1.1 6 (by decide) (by decide) (by decide)
      refine ⟨σx, σm, A', fun fu hf => ?_, fun fu hf => ?_, D, eX, eM⟩
      · obtain ⟨f, rfl⟩ : ∃ f, fu = f + 1 := ⟨fu - 1, by omega⟩
        rw [f_X11_winters_59]
        simp (disch := omega) only [e_bnd, e_bndV, e_lt, e_grd, e_lit, e_le1, e_le2, e_lt1, e_lt2, e_eq1, e_eq2, e_inb, e_ix, nI_add, pk_mul, e_sub, e_b0, e_b1, e_bz, e_bz0, e_bz1, Bool.and_true, Bool.true_and, ↓reduceIte, not_true_eq_false, not_false_eq_true, decide_false, decide_true, and_self, and_true, true_and, and_false, false_and, Bool.false_eq_true, Bool.not_false, Bool.not_true, q5]
      · obtain ⟨f, rfl⟩ : ∃ f, fu = f + 1 := ⟨fu - 1, by omega⟩
        rw [f_X12_winters_43]
        simp (disch := omega) only [e_bnd, e_bndV, e_lt, e_grd, e_lit, e_le1, e_le2, e_lt1, e_lt2, e_eq1, e_eq2, e_inb, e_ix, nI_add, pk_mul, e_sub, e_b0, e_b1, e_bz, e_bz0, e_bz1, Bool.and_true, Bool.true_and, ↓reduceIte, not_true_eq_false, not_false_eq_true, decide_false, decide_true, and_self, and_true, true_and, and_false, false_and, Bool.false_eq_true, Bool.not_false, Bool.not_true, q6]
    | succ d ih =>
      intro j hj σx σm A' D eX eM
      obtain ⟨c, bu, HMm⟩ := D.2.2.1
      have q8 : σx.1 2 7 = nI (A' 8) := D.1.1.2.2.2.1
      have p8 := HMm.1.1 8 (by decide) (by decide) (by decide)
      have b8 := D.1.2.1.2.2.2.1
      have H1 := D.1.drawn (A' 8)
      have M1 : PM (wI σm 1 8 (nI (nxt (A' 8)))) (up A' 8 (nxt (A' 8))) := (HMm.upd (by omega) (HMm.2.1.drawn _)).c
      have D1 := D.mk2 H1 M1 (fr.w (by omega)) (fr.w (by omega)) (fun j hj => up_ne (by omega))
      have eX1 := eX.trans (fr.w (S := zSX) (k := 2) (i := 7) (v := nI (nxt (A' 8))) (by omega))
      have eM1 := eM.trans (fr.w (S := zSM) (k := 1) (i := 8) (v := nI (nxt (A' 8))) (by omega))
      obtain ⟨x2, m2, A2, d1, d2, d3, d4, d5⟩ := di_draw D1 hru hRX1 hSM1 hd eX1 eM1 b8
      obtain ⟨x, m, A3, g1, g2, g3, g4, g5⟩ := ih (j + 1) (by omega) x2 m2 A2 d3 (eX1.trans d4) (eM1.trans d5)
      have hnx : f_X8_nextX 2 σx = some (nI (A' 8), wI σx 2 7 (nI (nxt (A' 8)))) := by
        unfold f_X8_nextX nxt
        simp (disch := omega) only [e_bnd, e_bndV, e_lt, e_grd, e_lit, e_le1, e_le2, e_lt1, e_lt2, e_eq1, e_eq2, e_inb, e_ix, nI_add, pk_mul, e_sub, e_b0, e_b1, e_bz, e_bz0, e_bz1, Bool.and_true, Bool.true_and, ↓reduceIte, not_true_eq_false, not_false_eq_true, decide_false, decide_true, and_self, and_true, true_and, and_false, false_and, Bool.false_eq_true, Bool.not_false, Bool.not_true, q8, rem_I, dz_I]
      refine ⟨x, m, A3, fun fu hf => ?_, fun fu hf => ?_, g3, g4, g5⟩
      · obtain ⟨f, rfl⟩ : ∃ f, fu = f + 1 := ⟨fu - 1, by omega⟩
        rw [f_X11_winters_59]
        simp (disch := omega) only [e_bnd, e_bndV, e_lt, e_grd, e_lit, e_le1, e_le2, e_lt1, e_lt2, e_eq1, e_eq2, e_inb, e_ix, nI_add, pk_mul, e_sub, e_b0, e_b1, e_bz, e_bz0, e_bz1, Bool.and_true, Bool.true_and, ↓reduceIte, not_true_eq_false, not_false_eq_true, decide_false, decide_true, and_self, and_true, true_and, and_false, false_and, Bool.false_eq_true, Bool.not_false, Bool.not_true, hnx, d1]
        exact g1 f (by omega)
      · obtain ⟨f, rfl⟩ : ∃ f, fu = f + 1 := ⟨fu - 1, by omega⟩
        rw [f_X12_winters_43]
        simp (disch := omega) only [e_bnd, e_bndV, e_lt, e_grd, e_lit, e_le1, e_le2, e_lt1, e_lt2, e_eq1, e_eq2, e_inb, e_ix, nI_add, pk_mul, e_sub, e_b0, e_b1, e_bz, e_bz0, e_bz1, Bool.and_true, Bool.true_and, ↓reduceIte, not_true_eq_false, not_false_eq_true, decide_false, decide_true, and_self, and_true, true_and, and_false, false_and, Bool.false_eq_true, Bool.not_false, Bool.not_true, p8, m_anew HMm.1 b8, d2]
        exact g2 f (by omega)
  obtain ⟨x, m, A2, g1, g2, g3, g4, g5⟩ := loop n 0 (by omega) _ _ _ D0 (fr.w (by omega)) (fr.w (by omega))
  obtain ⟨c, bu, HMm⟩ := g3.2.2.1
  refine ⟨nI (A2 6), x, m, ?_, ?_, A2, B, I.fin fX fM hP g4 g5 HMm.1 g3.1 g3.2.2.2⟩
  · have := g1 FU (by unfold FU; omega)
    simp (disch := omega) only [e_bnd, e_bndV, e_lt, e_grd, e_lit, e_le1, e_le2, e_lt1, e_lt2, e_eq1, e_eq2, e_inb, e_ix, nI_add, pk_mul, e_sub, e_b0, e_b1, e_bz, e_bz0, e_bz1, Bool.and_true, Bool.true_and, ↓reduceIte, not_true_eq_false, not_false_eq_true, decide_false, decide_true, and_self, and_true, true_and, and_false, false_and, Bool.false_eq_true, Bool.not_false, Bool.not_true, x_within, k1]
    exact this
  · have := g2 FU (by unfold FU; omega)
    simp (disch := omega) only [e_bnd, e_bndV, e_lt, e_grd, e_lit, e_le1, e_le2, e_lt1, e_lt2, e_eq1, e_eq2, e_inb, e_ix, nI_add, pk_mul, e_sub, e_b0, e_b1, e_bz, e_bz0, e_bz1, Bool.and_true, Bool.true_and, ↓reduceIte, not_true_eq_false, not_false_eq_true, decide_false, decide_true, and_self, and_true, true_and, and_false, false_and, Bool.false_eq_true, Bool.not_false, Bool.not_true, m_isIn, k2]
    exact this
