/-! METHODS: foretold, out -/
theorem lives_off {Lw : Nat → Option LV} {bu : Nat} {A : Nat → Nat} : ∀ i, i ≤ 8 → ∀ j, ¬ (7 ≤ j ∧ j < 50) → (livesA false Lw bu A i).1 j = A j := by
  intro i
  induction i with
  | zero => intro _ j _; rfl
  | succ i ih =>
    intro hi j hj
    have e := ih (by omega) j hj
    show (liveA false Lw bu (livesA false Lw bu A i).1 i).1 j = A j
    have cool : ∀ (X : Nat → Nat) n, coolA false Lw X i n j = X j := by
      intro X n
      unfold coolA wrb
      split
      · split
        · rw [if_neg (by decide), up_ne (by omega), up_ne (by omega)]
        · rw [up_ne (by omega)]
      · rfl
    have cat : ∀ (X : Nat → Nat) n, (catA false Lw X i n).1 j = X j := by
      intro X n
      unfold catA wrb
      split
      · rfl
      · split
        · dsimp only
          rw [if_neg (by decide), up_ne (by omega), up_ne (by omega)]
        · exact up_ne (by omega)
    unfold liveA
    split
    · unfold wrb
      dsimp only
      rw [if_neg (by decide), up_ne (by omega), up_ne (by omega)]
      exact e
    · rw [cat, cool]
      exact e
theorem pass_off {Lw : Nat → Option LV} {A : Nat → Nat} (c8 : A 0 ≤ 8) {j : Nat} (hj : ¬ (6 ≤ j ∧ j < 50)) : (passA false Lw A).1 j = A j := by
  unfold passA
  dsimp only
  rw [up_ne (by omega), lives_off _ c8 j (by omega)]
  unfold windA
  rw [up_ne (by omega), up_ne (by omega)]
theorem pass_6 {b : Bool} {Lw : Nat → Option LV} {A : Nat → Nat} : (passA b Lw A).1 6 = A 6 + 1 := by
  unfold passA
  dsimp only
  exact up_hit
theorem m_setAside {σ : Sg} : f_X12_setAside σ = some (wI (wC σ 1 6 9 6 44) 0 24 (nI 0)) := by
  unfold f_X12_setAside
  have e := lp (fun fu (q : Int32 × Sg) => f_X12_setAside_3 fu q.1 q.2) (fun i => (nI (6 + i), wC σ 1 6 9 6 i)) 44 (r := some (wI (wC σ 1 6 9 6 44) 0 24 (nI 0))) (fun i hi fu => by
    dsimp only
    rw [f_X12_setAside_3, ← wC_step]
    simp (disch := omega) only [e_bnd, e_bndV, e_lt, e_grd, e_lit, e_le1, e_le2, e_lt1, e_lt2, e_eq1, e_eq2, e_inb, e_ix, nI_add, pk_mul, e_sub, e_b0, e_b1, e_bz, e_bz0, e_bz1, Bool.and_true, Bool.true_and, ↓reduceIte, not_true_eq_false, not_false_eq_true, decide_false, decide_true, and_self, and_true, true_and, and_false, false_and, Bool.false_eq_true, Bool.not_false, Bool.not_true, wC_o, show 6 + i + 1 = 6 + (i + 1) by omega]) (fun fu => by
    dsimp only
    rw [f_X12_setAside_3]
    simp (disch := omega) only [e_bnd, e_bndV, e_lt, e_grd, e_lit, e_le1, e_le2, e_lt1, e_lt2, e_eq1, e_eq2, e_inb, e_ix, nI_add, pk_mul, e_sub, e_b0, e_b1, e_bz, e_bz0, e_bz1, Bool.and_true, Bool.true_and, ↓reduceIte, not_true_eq_false, not_false_eq_true, decide_false, decide_true, and_self, and_true, true_and, and_false, false_and, Bool.false_eq_true, Bool.not_false, Bool.not_true]) FU (by unfold FU; omega)
  rw [wC_0] at e
  simp (disch := omega) only [e_lit]
  exact e
theorem m_putBack {σ : Sg} : f_X12_putBack σ = some (wI (wC σ 9 6 1 6 44) 0 24 (nI 1)) := by
  unfold f_X12_putBack
  have e := lp (fun fu (q : Int32 × Sg) => f_X12_putBack_3 fu q.1 q.2) (fun i => (nI (6 + i), wC σ 9 6 1 6 i)) 44 (r := some (wI (wC σ 9 6 1 6 44) 0 24 (nI 1))) (fun i hi fu => by
    dsimp only
    rw [f_X12_putBack_3, ← wC_step]
    simp (disch := omega) only [e_bnd, e_bndV, e_lt, e_grd, e_lit, e_le1, e_le2, e_lt1, e_lt2, e_eq1, e_eq2, e_inb, e_ix, nI_add, pk_mul, e_sub, e_b0, e_b1, e_bz, e_bz0, e_bz1, Bool.and_true, Bool.true_and, ↓reduceIte, not_true_eq_false, not_false_eq_true, decide_false, decide_true, and_self, and_true, true_and, and_false, false_and, Bool.false_eq_true, Bool.not_false, Bool.not_true, wC_o, show 6 + i + 1 = 6 + (i + 1) by omega]) (fun fu => by
    dsimp only
    rw [f_X12_putBack_3]
    simp (disch := omega) only [e_bnd, e_bndV, e_lt, e_grd, e_lit, e_le1, e_le2, e_lt1, e_lt2, e_eq1, e_eq2, e_inb, e_ix, nI_add, pk_mul, e_sub, e_b0, e_b1, e_bz, e_bz0, e_bz1, Bool.and_true, Bool.true_and, ↓reduceIte, not_true_eq_false, not_false_eq_true, decide_false, decide_true, and_self, and_true, true_and, and_false, false_and, Bool.false_eq_true, Bool.not_false, Bool.not_true]) FU (by unfold FU; omega)
  rw [wC_0] at e
  simp (disch := omega) only [e_lit]
  exact e
/-- the town ahead, on both sides; A0: the town itself -/
def AI (σX σM : Sg) (tx : Int32) (A0 A : Nat → Nat) : Prop := HX false σX 41 A ∧ XR σX 8 A ∧ (∃ c bu, HM false σM A c bu tx) ∧ (∀ j, ¬ (6 ≤ j ∧ j < 50) → A j = A0 j) ∧ ∀ j, 6 ≤ j → j < 50 → σM.1 9 j = nI (A0 j)
abbrev zAX : Nat → Nat → Prop := fun a _ => 41 ≤ a ∧ a ≤ 48
abbrev zAM : Nat → Nat → Prop := fun a j => (a = 1 ∧ ((6 ≤ j ∧ j < 50) ∨ 1956 ≤ j)) ∨ a = 6 ∨ a = 8 ∨ a = 9 ∨ (a = 0 ∧ (j = 23 ∨ j = 24 ∨ j = 25))
theorem ai_start {κ : Kd} {T : TD} {σX σM : Sg} {A B : Nat → Nat} (I : I2 κ T σX σM A B) : ∃ x m, f_X8_copyFrom 41 2 σX = some x ∧ f_X12_setAside σM = some m ∧ AI x m (σM.1 1 2) A A ∧ fr zAX σX x ∧ fr zAM σM m := by
  obtain ⟨x, c1, c2, c3, c4, c5⟩ := x_copy8 (σ := σX) (t := 41) (v := 2) (by omega)
  obtain ⟨h0, h5, h6, h7, hw, hk, hf, hh⟩ := I.2.2.1.1
  obtain ⟨n9, nn⟩ := I.2.2.1.2.1
  have hX : XT x 41 A := ⟨(c2 0 (by omega)).trans h0, (c2 5 (by omega)).trans h5, (c2 6 (by omega)).trans h6, (c2 7 (by omega)).trans h7, fun k hk2 => (c3 1 (by omega) (by omega) k hk2).trans (hw k hk2), fun k hk2 => (c3 2 (by omega) (by omega) k hk2).trans (hk k hk2), fun k hk2 => (c3 3 (by omega) (by omega) k hk2).trans (hf k hk2), fun k hk2 => (c3 4 (by omega) (by omega) k hk2).trans (hh k hk2)⟩
  have hM : MA (wI (wC σM 1 6 9 6 44) 0 24 (nI 0)) A := ⟨fun j a b c => by rw [e_ne1 (by decide), wC_o (by omega)]; exact I.2.1.1 j a b c, by rw [e_ne1 (by decide), wC_o (by omega)]; exact I.2.1.2⟩
  refine ⟨x, _, c1, m_setAside, ⟨⟨hX, I.1.1, ⟨fun q => absurd q (by decide), A 9, I.1.2.1.1, (c2 9 (by omega)).trans n9⟩, fun q => absurd q (by decide)⟩, I.xr.of (fun a j q => c5.1 _ _ (by omega)), ⟨_, ((wI (wC σM 1 6 9 6 44) 0 24 (nI 0)).1 0 23).toBitVec.toNat, hM, I.1.1, I.1.2.2.1, e_hit, fun q => absurd q (by decide), rfl, Int32.toBitVec_inj.1 (show ((wI (wC σM 1 6 9 6 44) 0 24 (nI 0)).1 0 23).toBitVec = BitVec.ofNat 32 ((wI (wC σM 1 6 9 6 44) 0 24 (nI 0)).1 0 23).toBitVec.toNat by rw [BitVec.ofNat_toNat, BitVec.setWidth_eq]), by rw [e_ne1 (by decide), wC_o (by omega)]⟩, fun _ _ => rfl, fun j h1 h2 => ?_⟩, c5.mono (fun a j q => by omega), ⟨fun a j hn => ?_, rfl⟩⟩
  · rw [e_ne1 (by decide), wC_in (by omega), show 6 + (j - 6) = j by omega]
    exact I.2.1.1 j (by omega) (by omega) (by omega)
  · rw [wI_rd, if_neg (by omega), wC_o (by omega)]
theorem ai_pass {κ : Kd} {r : Option Nat} {Lw : Nat → Option LV} {σ0 s0 σX σM : Sg} {tx : Int32} {A0 A : Nat → Nat} (D : AI σX σM tx A0 A) (hRX : RX κ σ0 r Lw) (hSM : SAY s0 tx Lw) (hd : deps Lw) (eX : fr zAX σ0 σX) (eM : fr zAM s0 σM) (h6 : A 6 < 9999) : ∃ x2 m2 n A2, f_X1_pass κ 41 8 r σX = some (n, x2) ∧ f_X12_pass σM = some m2 ∧ AI x2 m2 tx A0 A2 ∧ A2 6 = A 6 + 1 ∧ fr zAX σX x2 ∧ fr zAM σM m2 := by
  obtain ⟨H, hXR, ⟨c, bu, HMm⟩, hs, ha⟩ := D
  obtain ⟨x2, a1, a2, a3, a4⟩ := hx_pass H (hRX.tx (fun a hq j => eX.1 _ _ (by omega))) hd (by decide) hXR (by decide) h6
  obtain ⟨m2, bu', b0, b1, b2, b3⟩ := hm_pass HMm (hSM.tx (fun j => eM.1 _ _ (by omega))) hd h6
  have off := fun j hj => pass_off (Lw := Lw) (A := A) H.2.1.1 (j := j) hj
  refine ⟨x2, m2, _, _, a1, b1, ⟨a2, (hXR.of (fun a j q => a3.1 _ _ (by omega))).congr (fun j h1 h2 => off j (by omega)), ⟨_, bu', b2⟩, fun j hj => (off j hj).trans (hs j hj), fun j h1 h2 => ?_⟩, pass_6, a3.mono (fun a j q => by omega), b3.mono (fun a j q => by omega)⟩
  rw [b3.1 _ _ (by omega)]
  exact ha j h1 h2
def AMn (σM : Sg) (tx : Int32) (A0 A : Nat → Nat) : Prop := (∃ c bu, HM false σM A c bu tx) ∧ (∀ j, ¬ (6 ≤ j ∧ j < 50) → A j = A0 j) ∧ ∀ j, 6 ≤ j → j < 50 → σM.1 9 j = nI (A0 j)
theorem ai_end {κ : Kd} {T : TD} {σX σM x m : Sg} {A B A2 : Nat → Nat} (I : I2 κ T σX σM A B) (D : AMn m (σM.1 1 2) A A2) (eX : fr zAX σX x) (eM : fr zAM σM m) : ∃ m2, f_X12_putBack m = some m2 ∧ I2 κ T x m2 A B := by
  obtain ⟨⟨c, bu, HMm⟩, hs, ha⟩ := D
  refine ⟨_, m_putBack, I.town (eX.mono (fun a j q => by omega)) ?_ ?_ (I.2.2.1.1.of (fun a j q _ => eX.1 _ _ (by omega))) (I.2.2.1.2.1.of (fun a j q => eX.1 _ _ (by omega))) (I.2.2.1.2.2.2.1.of (fun a j q => eX.1 _ _ (by omega))) ⟨I.1.1, I.1.2.1, I.1.2.2.2.1⟩ (fun _ _ => rfl) (Nat.le_refl _)⟩
  · refine ⟨fun a j hn => ?_, eM.2⟩
    by_cases q : a = 0 ∧ j = 24
    · obtain ⟨rfl, rfl⟩ := q
      rw [e_hit]
      exact I.2.2.2.2.2.2.1.2.2.2.symm
    · rw [wI_rd, if_neg q, wC_o (by omega), eM.1 _ _ (by omega)]
  · refine ⟨fun j h1 h2 h3 => ?_, ?_⟩
    · rw [e_ne1 (by decide)]
      by_cases q : 6 ≤ j ∧ j < 50
      · rw [wC_in (by omega), show 6 + (j - 6) = j by omega]
        exact ha j q.1 q.2
      · rw [wC_o (by omega), HMm.1.1 j h1 h2 h3, hs j q]
    · rw [e_ne1 (by decide), wC_o (by omega), HMm.1.2, hs 2 (by omega)]
theorem g_foretold {κ : Kd} {T : TD} (v w u : Int32) : GO κ T (f_X11_foretold κ v w u) (f_X12_foretold v w u) := by
  intro σX σM ⟨A, B, I⟩
  obtain ⟨r, Lw, hr, hRX, hSM, hd⟩ := I.rule
  unfold f_X11_foretold f_X11_foretold_38 f_X12_foretold f_X12_foretold_32
  rcases rng v 1 60 (by decide) (by decide) with hn | ⟨n, hn1, hn, rfl⟩
  · refine I.q (r := -1) ?_ ?_
    · simp (disch := omega) only [e_bnd, e_bndV, e_lt, e_grd, e_lit, e_le1, e_le2, e_lt1, e_lt2, e_eq1, e_eq2, e_inb, e_ix, nI_add, pk_mul, e_sub, e_b0, e_b1, e_bz, e_bz0, e_bz1, Bool.and_true, Bool.true_and, ↓reduceIte, not_true_eq_false, not_false_eq_true, decide_false, decide_true, and_self, and_true, true_and, and_false, false_and, Bool.false_eq_true, Bool.not_false, Bool.not_true, x_within, hn]
    · simp (disch := omega) only [e_bnd, e_bndV, e_lt, e_grd, e_lit, e_le1, e_le2, e_lt1, e_lt2, e_eq1, e_eq2, e_inb, e_ix, nI_add, pk_mul, e_sub, e_b0, e_b1, e_bz, e_bz0, e_bz1, Bool.and_true, Bool.true_and, ↓reduceIte, not_true_eq_false, not_false_eq_true, decide_false, decide_true, and_self, and_true, true_and, and_false, false_and, Bool.false_eq_true, Bool.not_false, Bool.not_true, m_isIn, hn]
  rcases rng u 0 2 (by decide) (by decide) with hu | ⟨k, _, hk, rfl⟩
  · refine I.q (r := -1) ?_ ?_
    · simp (disch := omega) only [e_bnd, e_bndV, e_lt, e_grd, e_lit, e_le1, e_le2, e_lt1, e_lt2, e_eq1, e_eq2, e_inb, e_ix, nI_add, pk_mul, e_sub, e_b0, e_b1, e_bz, e_bz0, e_bz1, Bool.and_true, Bool.true_and, ↓reduceIte, not_true_eq_false, not_false_eq_true, decide_false, decide_true, and_self, and_true, true_and, and_false, false_and, Bool.false_eq_true, Bool.not_false, Bool.not_true, x_within, hu]
    · simp (disch := omega) only [e_bnd, e_bndV, e_lt, e_grd, e_lit, e_le1, e_le2, e_lt1, e_lt2, e_eq1, e_eq2, e_inb, e_ix, nI_add, pk_mul, e_sub, e_b0, e_b1, e_bz, e_bz0, e_bz1, Bool.and_true, Bool.true_and, ↓reduceIte, not_true_eq_false, not_false_eq_true, decide_false, decide_true, and_self, and_true, true_and, and_false, false_and, Bool.false_eq_true, Bool.not_false, Bool.not_true, m_isIn, hu]
  obtain ⟨x0, m0, s1, s2, D0, e1, e2⟩ := ai_start I
  have loop : ∀ (d j : Nat), d + j = n → ∀ (σx σm : Sg) (A' : Nat → Nat), AI σx σm (σM.1 1 2) A A' → fr zAX σX σx → fr zAM σM σm → ∃ x m A2, (∀ fu, d < fu → f_X11_foretold_57 κ fu (nI n) w (nI k) (nI j) σx = f_X11_foretold_108 κ w (nI k) x) ∧ (∀ fu, d < fu → f_X12_foretold_41 fu (nI n) w (nI k) (nI j) σm = f_X12_foretold_41 1 (nI n) w (nI k) (nI n) m) ∧ AI x m (σM.1 1 2) A A2 ∧ fr zAX σX x ∧ fr zAM σM m := by
    intro d
    induction d with
    | zero =>
      intro j hj σx σm A' D eX eM
      have hj2 : j = n := by omega
      subst hj2
      refine ⟨σx, σm, A', fun fu hf => ?_, fun fu hf => ?_, D, eX, eM⟩
      · obtain ⟨f, rfl⟩ : ∃ f, fu = f + 1 := ⟨fu - 1, by omega⟩
        rw [f_X11_foretold_57, if_pos (Int32.le_refl _)]
      · obtain ⟨f, rfl⟩ : ∃ f, fu = f + 1 := ⟨fu - 1, by omega⟩
        rw [f_X12_foretold_41, if_pos (Int32.le_refl _), show (1 : Nat) = 0 + 1 from rfl, f_X12_foretold_41, if_pos (Int32.le_refl _)]
    | succ d ih =>
      intro j hj σx σm A' D eX eM
      have q5 : σx.1 41 5 = nI (A' 6) := D.1.1.2.1
      obtain ⟨c, bu, HMm⟩ := D.2.2.1
      have q6 := HMm.1.1 6 (by decide) (by decide) (by decide)
      have b6 := D.1.2.1.2.1
      by_cases h9 : A' 6 < 9999
      · obtain ⟨x2, m2, z, A2, p1, p2, p3, p4, p5, p6⟩ := ai_pass D hRX hSM hd eX eM h9
        obtain ⟨x, m, A3, g1, g2, g3, g4, g5⟩ := ih (j + 1) (by omega) x2 m2 A2 p3 (eX.trans p5) (eM.trans p6)
        have hrx := hr σx (eX.1 _ _ (by omega)) (eX.1 _ _ (by omega)) eX.2
        refine ⟨x, m, A3, fun fu hf => ?_, fun fu hf => ?_, g3, g4, g5⟩
        · obtain ⟨f, rfl⟩ : ∃ f, fu = f + 1 := ⟨fu - 1, by omega⟩
          rw [f_X11_foretold_57]
          simp (disch := omega) only [e_bnd, e_bndV, e_lt, e_grd, e_lit, e_le1, e_le2, e_lt1, e_lt2, e_eq1, e_eq2, e_inb, e_ix, nI_add, pk_mul, e_sub, e_b0, e_b1, e_bz, e_bz0, e_bz1, Bool.and_true, Bool.true_and, ↓reduceIte, not_true_eq_false, not_false_eq_true, decide_false, decide_true, and_self, and_true, true_and, and_false, false_and, Bool.false_eq_true, Bool.not_false, Bool.not_true, q5, hrx, p1]
          exact g1 f (by omega)
        · obtain ⟨f, rfl⟩ : ∃ f, fu = f + 1 := ⟨fu - 1, by omega⟩
          rw [f_X12_foretold_41, if_neg (nI_ge (by omega) (by omega))]
          have hq : ¬ (9999 : Int32) ≤ nI (A' 6) := nI_ge (a := A' 6) (b := 9999) (by omega) (by decide)
          rw [grd_of (by decide), show ix 6 = 6 by decide, q6, if_neg hq, p2, e_bndV]
          unfold f_X12_foretold_64
          rw [nI_1]
          exact g2 f (by omega)
      · obtain ⟨x, m, A3, g1, g2, g3, g4, g5⟩ := ih (j + 1) (by omega) σx σm A' D eX eM
        have g1' := g1 (d + 1) (by omega)
        have hx9 : nI 9999 ≤ σx.1 41 5 := by rw [q5]; exact nI_le (by omega) (by omega)
        have e57 : ∀ f j', f_X11_foretold_57 κ (f + 1) (nI n) w (nI k) (nI j') σx = f_X11_foretold_108 κ w (nI k) σx := fun f j' => by
          rw [f_X11_foretold_57]
          split
          · rfl
          · exact if_pos hx9
        rw [e57] at g1'
        refine ⟨x, m, A3, fun fu hf => ?_, fun fu hf => ?_, g3, g4, g5⟩
        · obtain ⟨f, rfl⟩ : ∃ f, fu = f + 1 := ⟨fu - 1, by omega⟩
          rw [e57, g1']
        · obtain ⟨f, rfl⟩ : ∃ f, fu = f + 1 := ⟨fu - 1, by omega⟩
          rw [f_X12_foretold_41, if_neg (nI_ge (by omega) (by omega))]
          have hq : (9999 : Int32) ≤ nI (A' 6) := nI_le (a := 9999) (b := A' 6) (by omega) (by omega)
          rw [grd_of (by decide), show ix 6 = 6 by decide, q6, if_pos hq]
          unfold f_X12_foretold_64
          rw [nI_1]
          exact g2 f (by omega)
  obtain ⟨x, m, A2, g1, g2, g3, g4, g5⟩ := loop n 0 (by omega) x0 m0 A D0 e1 e2
  obtain ⟨m2, b1, I2'⟩ := ai_end I g3.2.2 g4 g5
  obtain ⟨H, hXR, ⟨c, bu, HMm⟩, hs, ha⟩ := g3
  have gX := g1 FU (by unfold FU; omega)
  have gM := g2 FU (by unfold FU; omega)
  have fin : ∀ (res : Int32), f_X11_foretold_108 κ w (nI k) x = some (res, x) → f_X12_foretold_41 1 (nI n) w (nI k) (nI n) m = some (res, m2) → (¬ 2 ≤ k → ∃ h, h < A 0 ∧ w = nI h) → ∃ r' σX' σM', (bnd (f_X11_within (nI n) 1 60 σX) fun r17 σ16 => if r17 = 0 then some (-1, σ16) else bnd (f_X11_within (nI k) 0 2 σ16) fun r20 σ19 => if r20 = 0 then some (-1, σ19) else if 2 ≤ nI k then f_X11_foretold_40 κ (nI n) w (nI k) σ19 else bnd (f_X8_told 2 w σ19) fun r23 σ22 => if r23 = 0 then some (-1, σ22) else f_X11_foretold_40 κ (nI n) w (nI k) σ22) = some (r', σX') ∧ (bnd (f_X12_isIn (nI n) 1 60 σM) fun r18 σ17 => if r18 = 0 then some (-1, σ17) else bnd (f_X12_isIn (nI k) 0 2 σ17) fun r21 σ20 => if r21 = 0 then some (-1, σ20) else if 2 ≤ nI k then f_X12_foretold_34 (nI n) w (nI k) σ20 else bnd (f_X12_isHouse w σ20) fun r24 σ23 => if r24 = 0 then some (-1, σ23) else f_X12_foretold_34 (nI n) w (nI k) σ23) = some (r', σM') ∧ Inv κ T σX' σM' := by
    intro res q1 q2 q3
    have k1 : f_X11_foretold_40 κ (nI n) w (nI k) σX = some (res, x) := by
      unfold f_X11_foretold_40
      rw [s1, e_bndV]
      exact gX.trans q1
    have k2 : f_X12_foretold_34 (nI n) w (nI k) σM = some (res, m2) := by
      unfold f_X12_foretold_34
      rw [s2, e_bndV]
      exact gM.trans q2
    by_cases h2 : 2 ≤ k
    · exact ⟨res, x, m2, by simp (disch := omega) only [e_bnd, e_bndV, e_lt, e_grd, e_lit, e_le1, e_le2, e_lt1, e_lt2, e_eq1, e_eq2, e_inb, e_ix, nI_add, pk_mul, e_sub, e_b0, e_b1, e_bz, e_bz0, e_bz1, Bool.and_true, Bool.true_and, ↓reduceIte, not_true_eq_false, not_false_eq_true, decide_false, decide_true, and_self, and_true, true_and, and_false, false_and, Bool.false_eq_true, Bool.not_false, Bool.not_true, x_within, k1], by simp (disch := omega) only [e_bnd, e_bndV, e_lt, e_grd, e_lit, e_le1, e_le2, e_lt1, e_lt2, e_eq1, e_eq2, e_inb, e_ix, nI_add, pk_mul, e_sub, e_b0, e_b1, e_bz, e_bz0, e_bz1, Bool.and_true, Bool.true_and, ↓reduceIte, not_true_eq_false, not_false_eq_true, decide_false, decide_true, and_self, and_true, true_and, and_false, false_and, Bool.false_eq_true, Bool.not_false, Bool.not_true, m_isIn, k2], A, B, I2'⟩
    · obtain ⟨h, hh, rfl⟩ := q3 h2
      have t1 := x_told1 I.2.2.1.1.1 I.1.1.1 hh
      have t2 := m_isHouse1 I.2.1 I.1.1.1 hh
      exact ⟨res, x, m2, by simp (disch := omega) only [e_bnd, e_bndV, e_lt, e_grd, e_lit, e_le1, e_le2, e_lt1, e_lt2, e_eq1, e_eq2, e_inb, e_ix, nI_add, pk_mul, e_sub, e_b0, e_b1, e_bz, e_bz0, e_bz1, Bool.and_true, Bool.true_and, ↓reduceIte, not_true_eq_false, not_false_eq_true, decide_false, decide_true, and_self, and_true, true_and, and_false, false_and, Bool.false_eq_true, Bool.not_false, Bool.not_true, x_within, t1, k1], by simp (disch := omega) only [e_bnd, e_bndV, e_lt, e_grd, e_lit, e_le1, e_le2, e_lt1, e_lt2, e_eq1, e_eq2, e_inb, e_ix, nI_add, pk_mul, e_sub, e_b0, e_b1, e_bz, e_bz0, e_bz1, Bool.and_true, Bool.true_and, ↓reduceIte, not_true_eq_false, not_false_eq_true, decide_false, decide_true, and_self, and_true, true_and, and_false, false_and, Bool.false_eq_true, Bool.not_false, Bool.not_true, m_isIn, t2, k2], A, B, I2'⟩
  have hend : f_X12_foretold_41 1 (nI n) w (nI k) (nI n) m = if nI k = 2 then (bnd (f_X12_allOf 4 m) fun r8 σ7 => bnd (f_X12_bits r8 σ7) fun r11 σ10 => f_X12_foretold_92 r11 σ10) else (bnd (f_X12_get w (nI k) m) fun r5 σ4 => f_X12_foretold_92 r5 σ4) := by
    rw [show (1 : Nat) = 0 + 1 from rfl, f_X12_foretold_41, if_pos (Int32.le_refl _)]
  have c8 := H.2.1.1
  by_cases h2 : k = 2
  · subst h2
    have hfl : fires A2 4 4 < 256 := mk8 _ c8
    have hby := x_housesBy H.1 H.2.1 (lo := 4) (hi := 4) (by decide) (by decide)
    have hal := m_allOf HMm.1 HMm.2.1 (f := 4) (by decide)
    refine fin (nI (pc8 (fires A2 4 4))) ?_ ?_ (fun q => absurd (Nat.le_refl 2) q)
    · unfold f_X11_foretold_108
      simp (disch := omega) only [e_bnd, e_bndV, e_lt, e_grd, e_lit, e_le1, e_le2, e_lt1, e_lt2, e_eq1, e_eq2, e_inb, e_ix, nI_add, pk_mul, e_sub, e_b0, e_b1, e_bz, e_bz0, e_bz1, Bool.and_true, Bool.true_and, ↓reduceIte, not_true_eq_false, not_false_eq_true, decide_false, decide_true, and_self, and_true, true_and, and_false, false_and, Bool.false_eq_true, Bool.not_false, Bool.not_true, hby, f_bitCount_eq]
    · rw [hend]
      unfold f_X12_foretold_92
      simp (disch := omega) only [e_bnd, e_bndV, e_lt, e_grd, e_lit, e_le1, e_le2, e_lt1, e_lt2, e_eq1, e_eq2, e_inb, e_ix, nI_add, pk_mul, e_sub, e_b0, e_b1, e_bz, e_bz0, e_bz1, Bool.and_true, Bool.true_and, ↓reduceIte, not_true_eq_false, not_false_eq_true, decide_false, decide_true, and_self, and_true, true_and, and_false, false_and, Bool.false_eq_true, Bool.not_false, Bool.not_true, hal, f_bits_eq, b1]
  · rcases I.told w with ⟨t1, t2, _⟩ | ⟨h, hh, rfl, t1, t2⟩
    · refine I.q (r := -1) ?_ ?_
      · simp (disch := omega) only [e_bnd, e_bndV, e_lt, e_grd, e_lit, e_le1, e_le2, e_lt1, e_lt2, e_eq1, e_eq2, e_inb, e_ix, nI_add, pk_mul, e_sub, e_b0, e_b1, e_bz, e_bz0, e_bz1, Bool.and_true, Bool.true_and, ↓reduceIte, not_true_eq_false, not_false_eq_true, decide_false, decide_true, and_self, and_true, true_and, and_false, false_and, Bool.false_eq_true, Bool.not_false, Bool.not_true, x_within, t1]
      · simp (disch := omega) only [e_bnd, e_bndV, e_lt, e_grd, e_lit, e_le1, e_le2, e_lt1, e_lt2, e_eq1, e_eq2, e_inb, e_ix, nI_add, pk_mul, e_sub, e_b0, e_b1, e_bz, e_bz0, e_bz1, Bool.and_true, Bool.true_and, ↓reduceIte, not_true_eq_false, not_false_eq_true, decide_false, decide_true, and_self, and_true, true_and, and_false, false_and, Bool.false_eq_true, Bool.not_false, Bool.not_true, m_isIn, t2]
    · have h8 : h < 8 := by have := I.1.1.1; omega
      have xf : x.1 44 h = nI (A2 (10 + 5 * h)) := H.1.2.2.2.2.2.2.1 h h8
      have xh : x.1 45 h = nI (A2 (10 + 5 * h + 1)) := H.1.2.2.2.2.2.2.2 h h8
      refine fin (nI (A2 (10 + 5 * h + k))) ?_ ?_ (fun _ => ⟨h, hh, rfl⟩)
      · unfold f_X11_foretold_108 f_X11_foretold_151
        have : k = 0 ∨ k = 1 := by omega
        rcases this with rfl | rfl
        · simp (disch := omega) only [e_bnd, e_bndV, e_lt, e_grd, e_lit, e_le1, e_le2, e_lt1, e_lt2, e_eq1, e_eq2, e_inb, e_ix, nI_add, pk_mul, e_sub, e_b0, e_b1, e_bz, e_bz0, e_bz1, Bool.and_true, Bool.true_and, ↓reduceIte, not_true_eq_false, not_false_eq_true, decide_false, decide_true, and_self, and_true, true_and, and_false, false_and, Bool.false_eq_true, Bool.not_false, Bool.not_true, xf, Nat.add_zero]
        · simp (disch := omega) only [e_bnd, e_bndV, e_lt, e_grd, e_lit, e_le1, e_le2, e_lt1, e_lt2, e_eq1, e_eq2, e_inb, e_ix, nI_add, pk_mul, e_sub, e_b0, e_b1, e_bz, e_bz0, e_bz1, Bool.and_true, Bool.true_and, ↓reduceIte, not_true_eq_false, not_false_eq_true, decide_false, decide_true, and_self, and_true, true_and, and_false, false_and, Bool.false_eq_true, Bool.not_false, Bool.not_true, xh]
      · rw [hend]
        unfold f_X12_foretold_92
        simp (disch := omega) only [e_bnd, e_bndV, e_lt, e_grd, e_lit, e_le1, e_le2, e_lt1, e_lt2, e_eq1, e_eq2, e_inb, e_ix, nI_add, pk_mul, e_sub, e_b0, e_b1, e_bz, e_bz0, e_bz1, Bool.and_true, Bool.true_and, ↓reduceIte, not_true_eq_false, not_false_eq_true, decide_false, decide_true, and_self, and_true, true_and, and_false, false_and, Bool.false_eq_true, Bool.not_false, Bool.not_true, m_get HMm.1, b1]
theorem g_out {κ : Kd} {T : TD} (v : Int32) : GO κ T (f_X11_out κ v) (f_X12_out v) := by
  intro σX σM ⟨A, B, I⟩
  obtain ⟨r, Lw, hr, hRX, hSM, hd⟩ := I.rule
  unfold f_X11_out f_X12_out
  rcases I.told v with ⟨e1, e2, _⟩ | ⟨h, hh, rfl, e1, e2⟩
  · refine I.q (r := -1) ?_ ?_
    · simp (disch := omega) only [e_bnd, e_bndV, e_lt, e_grd, e_lit, e_le1, e_le2, e_lt1, e_lt2, e_eq1, e_eq2, e_inb, e_ix, nI_add, pk_mul, e_sub, e_b0, e_b1, e_bz, e_bz0, e_bz1, Bool.and_true, Bool.true_and, ↓reduceIte, not_true_eq_false, not_false_eq_true, decide_false, decide_true, and_self, and_true, true_and, and_false, false_and, Bool.false_eq_true, Bool.not_false, Bool.not_true, e1]
    · simp (disch := omega) only [e_bnd, e_bndV, e_lt, e_grd, e_lit, e_le1, e_le2, e_lt1, e_lt2, e_eq1, e_eq2, e_inb, e_ix, nI_add, pk_mul, e_sub, e_b0, e_b1, e_bz, e_bz0, e_bz1, Bool.and_true, Bool.true_and, ↓reduceIte, not_true_eq_false, not_false_eq_true, decide_false, decide_true, and_self, and_true, true_and, and_false, false_and, Bool.false_eq_true, Bool.not_false, Bool.not_true, e2]
  have h8 : h < 8 := by have := I.1.1.1; omega
  obtain ⟨x0, m0, s1, s2, D0, f1, f2⟩ := ai_start I
  have loop : ∀ (d j : Nat), d + j = 60 → ∀ (σx σm : Sg) (A' : Nat → Nat), AI σx σm (σM.1 1 2) A A' → fr zAX σX σx → fr zAM σM σm → ∃ x m A2 res, (∀ fu, d + 1 < fu → f_X11_out_32 κ fu (nI h) (nI j) σx = some (res, x)) ∧ (∀ fu, d < fu → f_X12_out_16 fu (nI h) (nI j) σm = f_X12_out_68 res m) ∧ AMn m (σM.1 1 2) A A2 ∧ fr zAX σX x ∧ fr zAM σM m := by
    intro d
    induction d with
    | zero =>
      intro j hj σx σm A' D eX eM
      have hj2 : j = 60 := by omega
      subst hj2
      obtain ⟨c, bu, HMm⟩ := D.2.2.1
      have xf : σx.1 44 h = nI (A' (10 + 5 * h)) := D.1.1.2.2.2.2.2.2.1 h h8
      have q5 : σx.1 41 5 = nI (A' 6) := D.1.1.2.1
      have bf := (D.1.2.1.2.2.2.2 h h8).1
      have b6 := D.1.2.1.2.1
      have hmx : ∀ f, f_X12_out_16 (f + 1) (nI h) (nI 60) σm = f_X12_out_54 (nI h) (nI 60) σm := fun f => by
        rw [f_X12_out_16]
        exact if_pos (Int32.le_refl _)
      have hlt : ¬ (60 : Int32) < nI 60 := Int32.lt_irrefl
      by_cases hz : A' (10 + 5 * h) = 0
      · refine ⟨σx, σm, A', nI 60, fun fu hf => ?_, fun fu hf => ?_, D.2.2, eX, eM⟩
        · obtain ⟨f, rfl⟩ : ∃ f, fu = f + 1 := ⟨fu - 1, by omega⟩
          rw [f_X11_out_32]
          simp (disch := omega) only [e_bnd, e_bndV, e_lt, e_grd, e_lit, e_le1, e_le2, e_lt1, e_lt2, e_eq1, e_eq2, e_inb, e_ix, nI_add, pk_mul, e_sub, e_b0, e_b1, e_bz, e_bz0, e_bz1, Bool.and_true, Bool.true_and, ↓reduceIte, not_true_eq_false, not_false_eq_true, decide_false, decide_true, and_self, and_true, true_and, and_false, false_and, Bool.false_eq_true, Bool.not_false, Bool.not_true, xf, hz]
        · obtain ⟨f, rfl⟩ : ∃ f, fu = f + 1 := ⟨fu - 1, by omega⟩
          rw [hmx]
          unfold f_X12_out_54
          simp (disch := omega) only [e_bnd, e_bndV, e_lt, e_grd, e_lit, e_le1, e_le2, e_lt1, e_lt2, e_eq1, e_eq2, e_inb, e_ix, nI_add, pk_mul, e_sub, e_b0, e_b1, e_bz, e_bz0, e_bz1, Bool.and_true, Bool.true_and, ↓reduceIte, not_true_eq_false, not_false_eq_true, decide_false, decide_true, and_self, and_true, true_and, and_false, false_and, Bool.false_eq_true, Bool.not_false, Bool.not_true, m_get HMm.1, Nat.add_zero, hz]
      · by_cases h9 : A' 6 < 9999
        · obtain ⟨x2, m2, z, A2, p1, p2, p3, p4, p5, p6⟩ := ai_pass D hRX hSM hd eX eM h9
          have hrx := hr σx (eX.1 _ _ (by omega)) (eX.1 _ _ (by omega)) eX.2
          refine ⟨x2, σm, A', -1, fun fu hf => ?_, fun fu hf => ?_, D.2.2, eX.trans p5, eM⟩
          · obtain ⟨f, rfl⟩ : ∃ f, fu = f + 1 := ⟨fu - 1, by omega⟩
            obtain ⟨f, rfl⟩ : ∃ f', f = f' + 1 := ⟨f - 1, by omega⟩
            rw [f_X11_out_32]
            simp (disch := omega) only [e_bnd, e_bndV, e_lt, e_grd, e_lit, e_le1, e_le2, e_lt1, e_lt2, e_eq1, e_eq2, e_inb, e_ix, nI_add, pk_mul, e_sub, e_b0, e_b1, e_bz, e_bz0, e_bz1, Bool.and_true, Bool.true_and, ↓reduceIte, not_true_eq_false, not_false_eq_true, decide_false, decide_true, and_self, and_true, true_and, and_false, false_and, Bool.false_eq_true, Bool.not_false, Bool.not_true, xf, q5, hrx, p1]
            rw [f_X11_out_32]
            simp (disch := omega) only [e_bnd, e_bndV, e_lt, e_grd, e_lit, e_le1, e_le2, e_lt1, e_lt2, e_eq1, e_eq2, e_inb, e_ix, nI_add, pk_mul, e_sub, e_b0, e_b1, e_bz, e_bz0, e_bz1, Bool.and_true, Bool.true_and, ↓reduceIte, not_true_eq_false, not_false_eq_true, decide_false, decide_true, and_self, and_true, true_and, and_false, false_and, Bool.false_eq_true, Bool.not_false, Bool.not_true]
          · obtain ⟨f, rfl⟩ : ∃ f, fu = f + 1 := ⟨fu - 1, by omega⟩
            rw [hmx]
            unfold f_X12_out_54
            simp (disch := omega) only [e_bnd, e_bndV, e_lt, e_grd, e_lit, e_le1, e_le2, e_lt1, e_lt2, e_eq1, e_eq2, e_inb, e_ix, nI_add, pk_mul, e_sub, e_b0, e_b1, e_bz, e_bz0, e_bz1, Bool.and_true, Bool.true_and, ↓reduceIte, not_true_eq_false, not_false_eq_true, decide_false, decide_true, and_self, and_true, true_and, and_false, false_and, Bool.false_eq_true, Bool.not_false, Bool.not_true, m_get HMm.1, Nat.add_zero]
        · refine ⟨σx, σm, A', -1, fun fu hf => ?_, fun fu hf => ?_, D.2.2, eX, eM⟩
          · obtain ⟨f, rfl⟩ : ∃ f, fu = f + 1 := ⟨fu - 1, by omega⟩
            rw [f_X11_out_32]
            simp (disch := omega) only [e_bnd, e_bndV, e_lt, e_grd, e_lit, e_le1, e_le2, e_lt1, e_lt2, e_eq1, e_eq2, e_inb, e_ix, nI_add, pk_mul, e_sub, e_b0, e_b1, e_bz, e_bz0, e_bz1, Bool.and_true, Bool.true_and, ↓reduceIte, not_true_eq_false, not_false_eq_true, decide_false, decide_true, and_self, and_true, true_and, and_false, false_and, Bool.false_eq_true, Bool.not_false, Bool.not_true, xf, q5]
          · obtain ⟨f, rfl⟩ : ∃ f, fu = f + 1 := ⟨fu - 1, by omega⟩
            rw [hmx]
            unfold f_X12_out_54
            simp (disch := omega) only [e_bnd, e_bndV, e_lt, e_grd, e_lit, e_le1, e_le2, e_lt1, e_lt2, e_eq1, e_eq2, e_inb, e_ix, nI_add, pk_mul, e_sub, e_b0, e_b1, e_bz, e_bz0, e_bz1, Bool.and_true, Bool.true_and, ↓reduceIte, not_true_eq_false, not_false_eq_true, decide_false, decide_true, and_self, and_true, true_and, and_false, false_and, Bool.false_eq_true, Bool.not_false, Bool.not_true, m_get HMm.1, Nat.add_zero]
    | succ d ih =>
      intro j hj σx σm A' D eX eM
      have hj60 : j < 60 := by omega
      obtain ⟨c, bu, HMm⟩ := D.2.2.1
      have xf : σx.1 44 h = nI (A' (10 + 5 * h)) := D.1.1.2.2.2.2.2.2.1 h h8
      have q5 : σx.1 41 5 = nI (A' 6) := D.1.1.2.1
      have q6 := HMm.1.1 6 (by decide) (by decide) (by decide)
      have bf := (D.1.2.1.2.2.2.2 h h8).1
      have b6 := D.1.2.1.2.1
      by_cases hz : A' (10 + 5 * h) = 0
      · refine ⟨σx, σm, A', nI j, fun fu hf => ?_, fun fu hf => ?_, D.2.2, eX, eM⟩
        · obtain ⟨f, rfl⟩ : ∃ f, fu = f + 1 := ⟨fu - 1, by omega⟩
          rw [f_X11_out_32]
          simp (disch := omega) only [e_bnd, e_bndV, e_lt, e_grd, e_lit, e_le1, e_le2, e_lt1, e_lt2, e_eq1, e_eq2, e_inb, e_ix, nI_add, pk_mul, e_sub, e_b0, e_b1, e_bz, e_bz0, e_bz1, Bool.and_true, Bool.true_and, ↓reduceIte, not_true_eq_false, not_false_eq_true, decide_false, decide_true, and_self, and_true, true_and, and_false, false_and, Bool.false_eq_true, Bool.not_false, Bool.not_true, xf, hz]
        · obtain ⟨f, rfl⟩ : ∃ f, fu = f + 1 := ⟨fu - 1, by omega⟩
          have h54 : f_X12_out_54 (nI h) (nI j) σm = f_X12_out_68 (nI j) σm := by
            unfold f_X12_out_54
            simp (disch := omega) only [e_bnd, e_bndV, e_lt, e_grd, e_lit, e_le1, e_le2, e_lt1, e_lt2, e_eq1, e_eq2, e_inb, e_ix, nI_add, pk_mul, e_sub, e_b0, e_b1, e_bz, e_bz0, e_bz1, Bool.and_true, Bool.true_and, ↓reduceIte, not_true_eq_false, not_false_eq_true, decide_false, decide_true, and_self, and_true, true_and, and_false, false_and, Bool.false_eq_true, Bool.not_false, Bool.not_true, m_get HMm.1, Nat.add_zero, hz]
          rw [f_X12_out_16]
          by_cases h9 : A' 6 < 9999
          · simp (disch := omega) only [e_bnd, e_bndV, e_lt, e_grd, e_lit, e_le1, e_le2, e_lt1, e_lt2, e_eq1, e_eq2, e_inb, e_ix, nI_add, pk_mul, e_sub, e_b0, e_b1, e_bz, e_bz0, e_bz1, Bool.and_true, Bool.true_and, ↓reduceIte, not_true_eq_false, not_false_eq_true, decide_false, decide_true, and_self, and_true, true_and, and_false, false_and, Bool.false_eq_true, Bool.not_false, Bool.not_true, q6, m_get HMm.1, Nat.add_zero, hz, h54]
          · simp (disch := omega) only [e_bnd, e_bndV, e_lt, e_grd, e_lit, e_le1, e_le2, e_lt1, e_lt2, e_eq1, e_eq2, e_inb, e_ix, nI_add, pk_mul, e_sub, e_b0, e_b1, e_bz, e_bz0, e_bz1, Bool.and_true, Bool.true_and, ↓reduceIte, not_true_eq_false, not_false_eq_true, decide_false, decide_true, and_self, and_true, true_and, and_false, false_and, Bool.false_eq_true, Bool.not_false, Bool.not_true, q6, h54]
      · by_cases h9 : A' 6 < 9999
        · obtain ⟨x2, m2, z, A2, p1, p2, p3, p4, p5, p6⟩ := ai_pass D hRX hSM hd eX eM h9
          obtain ⟨x, m, A3, res, g1, g2, g3, g4, g5⟩ := ih (j + 1) (by omega) x2 m2 A2 p3 (eX.trans p5) (eM.trans p6)
          have hrx := hr σx (eX.1 _ _ (by omega)) (eX.1 _ _ (by omega)) eX.2
          refine ⟨x, m, A3, res, fun fu hf => ?_, fun fu hf => ?_, g3, g4, g5⟩
          · obtain ⟨f, rfl⟩ : ∃ f, fu = f + 1 := ⟨fu - 1, by omega⟩
            rw [f_X11_out_32]
            simp (disch := omega) only [e_bnd, e_bndV, e_lt, e_grd, e_lit, e_le1, e_le2, e_lt1, e_lt2, e_eq1, e_eq2, e_inb, e_ix, nI_add, pk_mul, e_sub, e_b0, e_b1, e_bz, e_bz0, e_bz1, Bool.and_true, Bool.true_and, ↓reduceIte, not_true_eq_false, not_false_eq_true, decide_false, decide_true, and_self, and_true, true_and, and_false, false_and, Bool.false_eq_true, Bool.not_false, Bool.not_true, xf, q5, hrx, p1]
            exact g1 f (by omega)
          · obtain ⟨f, rfl⟩ : ∃ f, fu = f + 1 := ⟨fu - 1, by omega⟩
            rw [f_X12_out_16]
            simp (disch := omega) only [e_bnd, e_bndV, e_lt, e_grd, e_lit, e_le1, e_le2, e_lt1, e_lt2, e_eq1, e_eq2, e_inb, e_ix, nI_add, pk_mul, e_sub, e_b0, e_b1, e_bz, e_bz0, e_bz1, Bool.and_true, Bool.true_and, ↓reduceIte, not_true_eq_false, not_false_eq_true, decide_false, decide_true, and_self, and_true, true_and, and_false, false_and, Bool.false_eq_true, Bool.not_false, Bool.not_true, q6, m_get HMm.1, Nat.add_zero, p2]
            exact g2 f (by omega)
        · refine ⟨σx, σm, A', -1, fun fu hf => ?_, fun fu hf => ?_, D.2.2, eX, eM⟩
          · obtain ⟨f, rfl⟩ : ∃ f, fu = f + 1 := ⟨fu - 1, by omega⟩
            rw [f_X11_out_32]
            simp (disch := omega) only [e_bnd, e_bndV, e_lt, e_grd, e_lit, e_le1, e_le2, e_lt1, e_lt2, e_eq1, e_eq2, e_inb, e_ix, nI_add, pk_mul, e_sub, e_b0, e_b1, e_bz, e_bz0, e_bz1, Bool.and_true, Bool.true_and, ↓reduceIte, not_true_eq_false, not_false_eq_true, decide_false, decide_true, and_self, and_true, true_and, and_false, false_and, Bool.false_eq_true, Bool.not_false, Bool.not_true, xf, q5]
          · obtain ⟨f, rfl⟩ : ∃ f, fu = f + 1 := ⟨fu - 1, by omega⟩
            have h54 : f_X12_out_54 (nI h) (nI j) σm = f_X12_out_68 (-1) σm := by
              unfold f_X12_out_54
              simp (disch := omega) only [e_bnd, e_bndV, e_lt, e_grd, e_lit, e_le1, e_le2, e_lt1, e_lt2, e_eq1, e_eq2, e_inb, e_ix, nI_add, pk_mul, e_sub, e_b0, e_b1, e_bz, e_bz0, e_bz1, Bool.and_true, Bool.true_and, ↓reduceIte, not_true_eq_false, not_false_eq_true, decide_false, decide_true, and_self, and_true, true_and, and_false, false_and, Bool.false_eq_true, Bool.not_false, Bool.not_true, m_get HMm.1, Nat.add_zero]
            rw [f_X12_out_16, ← h54]
            simp (disch := omega) only [e_bnd, e_bndV, e_lt, e_grd, e_lit, e_le1, e_le2, e_lt1, e_lt2, e_eq1, e_eq2, e_inb, e_ix, nI_add, pk_mul, e_sub, e_b0, e_b1, e_bz, e_bz0, e_bz1, Bool.and_true, Bool.true_and, ↓reduceIte, not_true_eq_false, not_false_eq_true, decide_false, decide_true, and_self, and_true, true_and, and_false, false_and, Bool.false_eq_true, Bool.not_false, Bool.not_true, q6]
  obtain ⟨x, m, A2, res, g1, g2, g3, g4, g5⟩ := loop 60 0 (by omega) x0 m0 A D0 f1 f2
  obtain ⟨m2, b1, I2'⟩ := ai_end I g3 g4 g5
  have gX := g1 FU (by unfold FU; omega)
  have gM := g2 FU (by unfold FU; omega)
  refine ⟨res, x, m2, ?_, ?_, A, B, I2'⟩
  · simp (disch := omega) only [e_bnd, e_bndV, e_lt, e_grd, e_lit, e_le1, e_le2, e_lt1, e_lt2, e_eq1, e_eq2, e_inb, e_ix, nI_add, pk_mul, e_sub, e_b0, e_b1, e_bz, e_bz0, e_bz1, Bool.and_true, Bool.true_and, ↓reduceIte, not_true_eq_false, not_false_eq_true, decide_false, decide_true, and_self, and_true, true_and, and_false, false_and, Bool.false_eq_true, Bool.not_false, Bool.not_true, e1, s1]
    exact gX
  · simp (disch := omega) only [e_bnd, e_bndV, e_lt, e_grd, e_lit, e_le1, e_le2, e_lt1, e_lt2, e_eq1, e_eq2, e_inb, e_ix, nI_add, pk_mul, e_sub, e_b0, e_b1, e_bz, e_bz0, e_bz1, Bool.and_true, Bool.true_and, ↓reduceIte, not_true_eq_false, not_false_eq_true, decide_false, decide_true, and_self, and_true, true_and, and_false, false_and, Bool.false_eq_true, Bool.not_false, Bool.not_true, e2, s2]
    rw [gM]
    unfold f_X12_out_68
    simp (disch := omega) only [e_bnd, e_bndV, e_lt, e_grd, e_lit, e_le1, e_le2, e_lt1, e_lt2, e_eq1, e_eq2, e_inb, e_ix, nI_add, pk_mul, e_sub, e_b0, e_b1, e_bz, e_bz0, e_bz1, Bool.and_true, Bool.true_and, ↓reduceIte, not_true_eq_false, not_false_eq_true, decide_false, decide_true, and_self, and_true, true_and, and_false, false_and, Bool.false_eq_true, Bool.not_false, Bool.not_true, b1]
