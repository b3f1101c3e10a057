/-! METHODS: warden, hour -/
def visF (Lw : Nat → Option LV) (A : Nat → Nat) (h : Nat) : Nat := min (rt (Lw 2) 2 A h (pc8 (bes A h &&& fires A 3 3))) (A (10 + 5 * h + 2))
def visA (Lw : Nat → Option LV) (A : Nat → Nat) (h : Nat) : Nat → Nat := wr (up (up A (10 + 5 * h + 2) (A (10 + 5 * h + 2) - visF Lw A h)) (10 + 5 * h) 1) h 5
def visC (A : Nat → Nat) (h : Nat) : Prop := (20 ≤ A 6 % 24 ∨ A 6 % 24 < 6) ∧ A (10 + 5 * h) = 2
theorem hx_visit {κ : Kd} {r : Option Nat} {Lw : Nat → Option LV} {σ : Sg} {A : Nat → Nat} (H : HX true σ 2 A) (hR : RX κ σ r Lw) (hS : XR σ 8 A) {h : Nat} (hh : h < A 0) : (visC A h → ∃ σ', f_X1_visit κ 2 8 r (nI h) σ = some (nI (visF Lw A h), σ') ∧ HX true σ' 2 (visA Lw A h) ∧ fr (zL 2) σ σ') ∧ (¬ visC A h → f_X1_visit κ 2 8 r (nI h) σ = some (-1, σ)) := by
  have c8 := H.2.1.1
  have h8 : h < 8 := by omega
  have hf := H.1.2.2.2.2.2.2.1
  have hk := H.1.2.2.2.2.2.1
  have hb := H.2.1.2.2.2.2 h h8
  have hbell := x_bell H.1 H.2.1
  have hby := x_housesBy H.1 H.2.1 (lo := 3) (hi := 3) (by decide) (by decide)
  have hfl : fires A 3 3 < 256 := mk8 _ c8
  have hn := x_near hS h8 hfl
  obtain ⟨σ1, r1, r2⟩ := hR σ 2 A 2 h (pc8 (bes A h &&& fires A 3 3)) (fun _ _ _ => rfl) (by decide) H.1 H.2.1 (by decide) hh (pc8_le _)
  have hle : rt (Lw 2) 2 A h (pc8 (bes A h &&& fires A 3 3)) ≤ 9999 := rt0_le (Lw 2) (ltop 2) _ A h _
  unfold f_X1_visit f_X1_visit_18
  refine ⟨fun hc => ?_, fun hc => ?_⟩
  · rw [if_pos hc.1] at hbell
    have H1 := H.of r2 (fun a j q => by omega)
    have hvl : visF Lw A h ≤ A (10 + 5 * h + 2) := Nat.min_le_right _ _
    have H2 := (H1.coins (v := A (10 + 5 * h + 2) - visF Lw A h) h8 (by omega)).fire (v := 1) h8 (by decide)
    obtain ⟨σ3, n1, n2, n3⟩ := hx_note H2 (h := h) (w := 5) h8 (by decide)
    have k1 := H1.1.2.2.2.2.2.1
    refine ⟨σ3, ?_, n2, (((r2.mono (fun a j q => by omega)).trans (fr.w (by omega))).trans (fr.w (by omega))).trans (n3.mono (fun a j q => by omega))⟩
    have hc2 := hc.2
    have hv : min (rt (Lw 2) 2 A h (pc8 (bes A h &&& fires A 3 3))) (A (10 + 5 * h + 2)) = visF Lw A h := rfl
    simp (disch := omega) only [e_bnd, e_bndV, e_lt, e_grd, e_lit, e_le1, e_le2, e_lt1, e_lt2, e_eq1, e_eq2, e_inb, e_ix, nI_add, pk_mul, e_sub, e_b0, e_b1, e_bz, e_bz0, e_bz1, Bool.and_true, Bool.true_and, ↓reduceIte, not_true_eq_false, not_false_eq_true, decide_false, decide_true, and_self, and_true, true_and, and_false, false_and, Bool.false_eq_true, Bool.not_false, Bool.not_true, hbell, hf, hc2, hby, hn, r1, k1, imin_I, hv, n1]
  · by_cases hb1 : 20 ≤ A 6 % 24 ∨ A 6 % 24 < 6
    · rw [if_pos hb1] at hbell
      have h2 : ¬ A (10 + 5 * h) = 2 := fun q => hc ⟨hb1, q⟩
      simp (disch := omega) only [e_bnd, e_bndV, e_lt, e_grd, e_lit, e_le1, e_le2, e_lt1, e_lt2, e_eq1, e_eq2, e_inb, e_ix, nI_add, pk_mul, e_sub, e_b0, e_b1, e_bz, e_bz0, e_bz1, Bool.and_true, Bool.true_and, ↓reduceIte, not_true_eq_false, not_false_eq_true, decide_false, decide_true, and_self, and_true, true_and, and_false, false_and, Bool.false_eq_true, Bool.not_false, Bool.not_true, hbell, hf]
    · rw [if_neg hb1] at hbell
      simp (disch := omega) only [e_bnd, e_bndV, e_lt, e_grd, e_lit, e_le1, e_le2, e_lt1, e_lt2, e_eq1, e_eq2, e_inb, e_ix, nI_add, pk_mul, e_sub, e_b0, e_b1, e_bz, e_bz0, e_bz1, Bool.and_true, Bool.true_and, ↓reduceIte, not_true_eq_false, not_false_eq_true, decide_false, decide_true, and_self, and_true, true_and, and_false, false_and, Bool.false_eq_true, Bool.not_false, Bool.not_true, hbell]
theorem hm_visit {Lw : Nat → Option LV} {σ : Sg} {A : Nat → Nat} {c : Int32} {bu : Nat} {tx : Int32} (H : HM true σ A c bu tx) (hS : SAY σ tx Lw) {h : Nat} (hh : h < A 0) : (visC A h → ∃ σ', f_X12_wardenNow (nI h) σ = some (nI (visF Lw A h), σ') ∧ HM true σ' (visA Lw A h) c (fires A 3 3) tx ∧ fr zP σ σ') ∧ (¬ visC A h → f_X12_wardenNow (nI h) σ = some (-1, σ)) := by
  have c8 := H.2.1.1
  have h8 : h < 8 := by omega
  have hb := H.2.1.2.2.2.2 h h8
  have hbell := m_isBell H.1 H.2.1
  have hall := m_allOf H.1 H.2.1 (f := 3) (by decide)
  have hfl : fires A 3 3 < 256 := mk8 _ c8
  unfold f_X12_wardenNow f_X12_wardenNow_17
  refine ⟨fun hc => ?_, fun hc => ?_⟩
  · rw [if_pos hc.1] at hbell
    have H0 : HM true (wI σ 0 23 (nI (fires A 3 3))) A c (fires A 3 3) tx := by
      obtain ⟨h1, h2, h3, h4, h5, h6, h7, h8⟩ := H
      exact ⟨h1.put0 (by decide), h2, h3, by rw [e_ne2 (by decide)]; exact h4, h5, by rw [e_ne2 (by decide)]; exact h6, e_hit, by rw [e_ne1 (by decide)]; exact h8⟩
    have htx := H0.2.2.2.2.2.2.2
    obtain ⟨σ1, r1, r2⟩ := m_fineOf H0.1 H0.2.1 H0.2.2.1 (Lw := Lw) (by rw [htx]; exact hS.tx (fun j => by rw [e_ne1 (by decide)])) hh hfl H0.2.2.2.2.2.2.1
    have hle : rt (Lw 2) 2 A h (pc8 (bes A h &&& fires A 3 3)) ≤ 9999 := rt0_le (Lw 2) (ltop 2) _ A h _
    have H1 := H0.of r2
    have hvl : visF Lw A h ≤ A (10 + 5 * h + 2) := Nat.min_le_right _ _
    have H2 := H1.upd (j := 10 + 5 * h + 2) (v := A (10 + 5 * h + 2) - visF Lw A h) (by omega) (H1.2.1.coins (by omega))
    have H3 := H2.upd (j := 10 + 5 * h) (v := 1) (by omega) (H2.2.1.fire (by decide))
    obtain ⟨σ4, n1, n2, n3⟩ := hm_write H3 (h := h) (w := 5) h8 (by decide)
    refine ⟨σ4, ?_, n2, ((((fr.w (by omega)).trans (r2.mono (fun a j q => by omega))).trans (fr.w (by omega))).trans (fr.w (by omega))).trans (n3.mono (fun a j q => by omega))⟩
    have hc2 := hc.2
    have hv : min (rt (Lw 2) 2 A h (pc8 (bes A h &&& fires A 3 3))) (A (10 + 5 * h + 2)) = visF Lw A h := rfl
    simp (disch := omega) only [e_bnd, e_bndV, e_lt, e_grd, e_lit, e_le1, e_le2, e_lt1, e_lt2, e_eq1, e_eq2, e_inb, e_ix, nI_add, pk_mul, e_sub, e_b0, e_b1, e_bz, e_bz0, e_bz1, Bool.and_true, Bool.true_and, ↓reduceIte, not_true_eq_false, not_false_eq_true, decide_false, decide_true, and_self, and_true, true_and, and_false, false_and, Bool.false_eq_true, Bool.not_false, Bool.not_true, hbell, m_get H.1, Nat.add_zero, hc2, hall, r1, m_get H1.1, m_cutN, hv, m_put]
    simp (disch := omega) only [e_bnd, e_bndV, e_lt, e_grd, e_lit, e_le1, e_le2, e_lt1, e_lt2, e_eq1, e_eq2, e_inb, e_ix, nI_add, pk_mul, e_sub, e_b0, e_b1, e_bz, e_bz0, e_bz1, Bool.and_true, Bool.true_and, ↓reduceIte, not_true_eq_false, not_false_eq_true, decide_false, decide_true, and_self, and_true, true_and, and_false, false_and, Bool.false_eq_true, Bool.not_false, Bool.not_true, n1]
  · by_cases hb1 : 20 ≤ A 6 % 24 ∨ A 6 % 24 < 6
    · rw [if_pos hb1] at hbell
      have h2 : ¬ A (10 + 5 * h) = 2 := fun q => hc ⟨hb1, q⟩
      simp (disch := omega) only [e_bnd, e_bndV, e_lt, e_grd, e_lit, e_le1, e_le2, e_lt1, e_lt2, e_eq1, e_eq2, e_inb, e_ix, nI_add, pk_mul, e_sub, e_b0, e_b1, e_bz, e_bz0, e_bz1, Bool.and_true, Bool.true_and, ↓reduceIte, not_true_eq_false, not_false_eq_true, decide_false, decide_true, and_self, and_true, true_and, and_false, false_and, Bool.false_eq_true, Bool.not_false, Bool.not_true, hbell, m_get H.1, Nat.add_zero]
    · rw [if_neg hb1] at hbell
      simp (disch := omega) only [e_bnd, e_bndV, e_lt, e_grd, e_lit, e_le1, e_le2, e_lt1, e_lt2, e_eq1, e_eq2, e_inb, e_ix, nI_add, pk_mul, e_sub, e_b0, e_b1, e_bz, e_bz0, e_bz1, Bool.and_true, Bool.true_and, ↓reduceIte, not_true_eq_false, not_false_eq_true, decide_false, decide_true, and_self, and_true, true_and, and_false, false_and, Bool.false_eq_true, Bool.not_false, Bool.not_true, hbell]
theorem visA_off {Lw : Nat → Option LV} {A : Nat → Nat} {h j : Nat} (h9 : A 9 ≤ 30) (hh : h < 8) (hj : j < 6 ∨ (50 ≤ j ∧ j < 1956) ∨ (10 ≤ j ∧ j < 50 ∧ j % 5 = 4)) : visA Lw A h j = A j := by
  unfold visA
  rw [wr_off (by rw [up_ne (by omega), up_ne (by omega)]; exact h9) (by omega) (by omega), up_ne (by omega), up_ne (by omega)]
theorem PM.hm {σ : Sg} {A : Nat → Nat} (H : PM σ A) (hR : BR A) : ∃ bu, HM true σ A (σ.1 0 25) bu (σ.1 1 2) :=
  ⟨(σ.1 0 23).toBitVec.toNat, H.1, H.2.1, hR, H.2.2.2, fun _ => H.2.2.1, rfl, Int32.toBitVec_inj.1 (show (σ.1 0 23).toBitVec = BitVec.ofNat 32 (σ.1 0 23).toBitVec.toNat by rw [BitVec.ofNat_toNat, BitVec.setWidth_eq]), rfl⟩
theorem BR_keep {A : Nat → Nat} (hR : BR A) (s3 : A 3 ≤ 30) : BR (keepA A) := BR_of hR (fun j hj => kA_off s3 (by omega))
theorem XR_keep {σ σ' : Sg} {A : Nat → Nat} (h : XR σ 8 A) (f : fr (aS 11) σ σ') (s3 : A 3 ≤ 30) : XR σ' 8 (keepA A) := (h.of (fun a j q => f.1 _ _ (by omega))).congr (fun j h1 h2 => kA_off s3 (by omega))
theorem g_warden {κ : Kd} {T : TD} (v : Int32) : GO κ T (f_X11_warden κ v) (f_X12_warden v) := by
  intro σX σM ⟨A, B, I⟩
  have s3 := I.1.2.2.2.1.1
  unfold f_X11_warden f_X12_warden
  rcases I.told v with ⟨e1, e2, _⟩ | ⟨h, hh, rfl, e1, e2⟩
  · exact ⟨-2, σX, σM, by simp (disch := omega) only [e_bnd, e_bndV, e_lt, e_grd, e_lit, e_le1, e_le2, e_lt1, e_lt2, e_eq1, e_eq2, e_inb, e_ix, nI_add, pk_mul, e_sub, e_b0, e_b1, e_bz, e_bz0, e_bz1, Bool.and_true, Bool.true_and, ↓reduceIte, not_true_eq_false, not_false_eq_true, decide_false, decide_true, and_self, and_true, true_and, and_false, false_and, Bool.false_eq_true, Bool.not_false, Bool.not_true, e1], by simp (disch := omega) only [e_bnd, e_bndV, e_lt, e_grd, e_lit, e_le1, e_le2, e_lt1, e_lt2, e_eq1, e_eq2, e_inb, e_ix, nI_add, pk_mul, e_sub, e_b0, e_b1, e_bz, e_bz0, e_bz1, Bool.and_true, Bool.true_and, ↓reduceIte, not_true_eq_false, not_false_eq_true, decide_false, decide_true, and_self, and_true, true_and, and_false, false_and, Bool.false_eq_true, Bool.not_false, Bool.not_true, e2], A, B, I⟩
  have c8 := I.1.1.1
  obtain ⟨r, Lw, hr, hRX, hSM, hd⟩ := I.rule
  obtain ⟨x1, m1, k1, k2, H, hP, M, fX, fM⟩ := I.step
  have hr1 := hr x1 (fX.1 _ _ (by omega)) (fX.1 _ _ (by omega)) fX.2
  have hK0 : keepA A 0 = A 0 := kA_off s3 (by decide)
  have hRX1 : RX κ x1 r Lw := hRX.tx (fun a ha j => fX.1 _ _ (by omega))
  have t12 : m1.1 1 2 = σM.1 1 2 := fM.1 _ _ (by omega)
  have hSM1 : SAY m1 (m1.1 1 2) Lw := by rw [t12]; exact hSM.tx (fun j => fM.1 _ _ (by omega))
  obtain ⟨bu, HM1⟩ := M.hm (BR_keep I.1.2.2.1 s3)
  have hXR := XR_keep I.2.2.1.2.2.1 fX s3
  obtain ⟨vx1, vx2⟩ := hx_visit H hRX1 hXR (h := h) (by rw [hK0]; exact hh)
  obtain ⟨vm1, vm2⟩ := hm_visit HM1 hSM1 (h := h) (by rw [hK0]; exact hh)
  by_cases hc : visC (keepA A) h
  · obtain ⟨x2, a1, a2, a3⟩ := vx1 hc
    obtain ⟨m2, b1, b2, b3⟩ := vm1 hc
    refine ⟨nI (visF Lw (keepA A) h), x2, m2, ?_, ?_, _, B, I.fin fX fM hP (a3.mono (fun a j q => by omega)) (b3.mono (fun a j q => by omega)) b2.1 a2 (fun j hj => visA_off (H.2.2.2 rfl).1 (by omega) hj)⟩
    · simp (disch := omega) only [e_bnd, e_bndV, e_lt, e_grd, e_lit, e_le1, e_le2, e_lt1, e_lt2, e_eq1, e_eq2, e_inb, e_ix, nI_add, pk_mul, e_sub, e_b0, e_b1, e_bz, e_bz0, e_bz1, Bool.and_true, Bool.true_and, ↓reduceIte, not_true_eq_false, not_false_eq_true, decide_false, decide_true, and_self, and_true, true_and, and_false, false_and, Bool.false_eq_true, Bool.not_false, Bool.not_true, e1, k1, hr1, a1]
    · simp (disch := omega) only [e_bnd, e_bndV, e_lt, e_grd, e_lit, e_le1, e_le2, e_lt1, e_lt2, e_eq1, e_eq2, e_inb, e_ix, nI_add, pk_mul, e_sub, e_b0, e_b1, e_bz, e_bz0, e_bz1, Bool.and_true, Bool.true_and, ↓reduceIte, not_true_eq_false, not_false_eq_true, decide_false, decide_true, and_self, and_true, true_and, and_false, false_and, Bool.false_eq_true, Bool.not_false, Bool.not_true, e2, k2, b1]
  · refine ⟨-1, x1, m1, ?_, ?_, _, B, I.fin fX fM hP fr.rfl fr.rfl M.1 H (fun j hj => rfl)⟩
    · simp (disch := omega) only [e_bnd, e_bndV, e_lt, e_grd, e_lit, e_le1, e_le2, e_lt1, e_lt2, e_eq1, e_eq2, e_inb, e_ix, nI_add, pk_mul, e_sub, e_b0, e_b1, e_bz, e_bz0, e_bz1, Bool.and_true, Bool.true_and, ↓reduceIte, not_true_eq_false, not_false_eq_true, decide_false, decide_true, and_self, and_true, true_and, and_false, false_and, Bool.false_eq_true, Bool.not_false, Bool.not_true, e1, k1, hr1, vx2 hc]
    · simp (disch := omega) only [e_bnd, e_bndV, e_lt, e_grd, e_lit, e_le1, e_le2, e_lt1, e_lt2, e_eq1, e_eq2, e_inb, e_ix, nI_add, pk_mul, e_sub, e_b0, e_b1, e_bz, e_bz0, e_bz1, Bool.and_true, Bool.true_and, ↓reduceIte, not_true_eq_false, not_false_eq_true, decide_false, decide_true, and_self, and_true, true_and, and_false, false_and, Bool.false_eq_true, Bool.not_false, Bool.not_true, e2, k2, vm2 hc]
/-- one HOUR of both, a STEP of its own -/
theorem I2.hour1 {κ : Kd} {T : TD} {σX σM : Sg} {A B : Nat → Nat} (I : I2 κ T σX σM A B) (h6 : A 6 < 9999) : ∃ x1 m1 r x2 m2 A' n, f_X4_keep 11 2 σX = some x1 ∧ f_X10_rule 1 x1 = some (r, x1) ∧ f_X1_pass κ 2 8 r x1 = some (nI n, x2) ∧ f_X12_keep σM = some m1 ∧ f_X12_pass m1 = some m2 ∧ I2 κ T x2 m2 A' B ∧ A' 6 = A 6 + 1 ∧ m2.1 0 25 = σM.1 0 25 + nI n ∧ (∀ j, j = 0 ∨ j = 1 ∨ j = 2 → A' j = A j) ∧ x2.2.2 = σX.2.2 ∧ (∀ a, 72 ≤ a → ∀ j, x2.1 a j = σX.1 a j) ∧ ∀ j, m2.1 3 j = σM.1 3 j := by
  have s3 := I.1.2.2.2.1.1
  have c8 := I.1.1.1
  obtain ⟨r, Lw, hr, hRX, hSM, hd⟩ := I.rule
  obtain ⟨x1, m1, k1, k2, H, hP, M, fX, fM⟩ := I.step
  have hr1 := hr x1 (fX.1 _ _ (by omega)) (fX.1 _ _ (by omega)) fX.2
  have hK6 : keepA A 6 = A 6 := kA_off s3 (by decide)
  have hRX1 : RX κ x1 r Lw := hRX.tx (fun a ha j => fX.1 _ _ (by omega))
  have t12 : m1.1 1 2 = σM.1 1 2 := fM.1 _ _ (by omega)
  have hSM1 : SAY m1 (m1.1 1 2) Lw := by rw [t12]; exact hSM.tx (fun j => fM.1 _ _ (by omega))
  obtain ⟨bu, HM1⟩ := M.hm (BR_keep I.1.2.2.1 s3)
  have hXR := XR_keep I.2.2.1.2.2.1 fX s3
  obtain ⟨x2, a1, a2, a3, a4⟩ := hx_pass H hRX1 hd (by decide) hXR (by decide) (by rw [hK6]; exact h6)
  obtain ⟨m2, bu', b0, b1, b2, b3⟩ := hm_pass HM1 hSM1 hd (by rw [hK6]; exact h6)
  have e6 : (passA true Lw (keepA A)).1 6 = A 6 + 1 := by
    have q : (passA true Lw (keepA A)).1 6 = keepA A 6 + 1 := by
      unfold passA
      dsimp only
      exact up_hit
    rw [q, hK6]
  refine ⟨x1, m1, r, x2, m2, (passA true Lw (keepA A)).1, (passA true Lw (keepA A)).2, k1, hr1, a1, k2, b1, I.fin fX fM hP (a3.mono (fun a j q => by omega)) (b3.mono (fun a j q => by omega)) b2.1 a2 (fun j hj => a4 j (by omega) (by omega) (by omega) (by omega)), e6, ?_, fun j hj => ?_, ?_, fun a ha j => ?_, fun j => ?_⟩
  · rw [b2.2.2.2.2.2.1, fM.1 _ _ (by omega)]
  · rw [a4 j (by omega) (by omega) (by omega) (by omega), kA_off s3 (by omega)]
  · rw [a3.2, fX.2]
  · rw [a3.1 _ _ (by omega), fX.1 _ _ (by omega)]
  · rw [b3.1 _ _ (by omega), fM.1 _ _ (by omega)]
