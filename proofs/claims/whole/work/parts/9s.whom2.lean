/-! whom: the class -/
def LB (σ : Sg) (M : Nat → Nat) : Prop := ∀ e, e < 8 → σ.2.1 68 e = nL (M e % 2 ^ 64) ∧ σ.2.1 69 e = nL (M e / 2 ^ 64)
theorem wL_1 {σ : Sg} {k i : Nat} {v : Int64} : (wL σ k i v).1 = σ.1 := rfl
theorem wL_2 {σ : Sg} {k i : Nat} {v : Int64} : (wL σ k i v).2.2 = σ.2.2 := rfl
theorem wL_h {σ : Sg} {k i : Nat} {v : Int64} : (wL σ k i v).2.1 k i = v := if_pos ⟨rfl, rfl⟩
theorem wL_n {σ : Sg} {k i a j : Nat} {v : Int64} (h : ¬ (a = k ∧ j = i)) : (wL σ k i v).2.1 a j = σ.2.1 a j := if_neg h
theorem LB_put {σ : Sg} {M : Nat → Nat} (h : LB σ M) {i k : Nat} (hk : k < 64) : LB (wL σ 68 i (nL (M i % 2 ^ 64) ||| nL (2 ^ k))) (up M i (M i ||| 2 ^ k)) := by
  intro e he
  have p : 2 ^ k < 2 ^ 64 := Nat.pow_lt_pow_right (by decide) hk
  by_cases z : e = i
  · subst z
    rw [wL_h, wL_n (by omega), up_hit, nL_or, Nat.or_mod_two_pow, Nat.or_div_two_pow, Nat.mod_eq_of_lt p, Nat.div_eq_of_lt p, Nat.or_zero]
    exact ⟨rfl, (h e he).2⟩
  · rw [wL_n (by omega), wL_n (by omega), up_ne z]
    exact h e he
theorem LB_put2 {σ : Sg} {M : Nat → Nat} (h : LB σ M) {i k : Nat} (hk : 64 ≤ k) : LB (wL σ 69 i (nL (M i / 2 ^ 64) ||| nL (2 ^ (k - 64)))) (up M i (M i ||| 2 ^ k)) := by
  intro e he
  have p : 2 ^ k = 2 ^ 64 * 2 ^ (k - 64) := by rw [← Nat.pow_add]; congr 1; omega
  by_cases z : e = i
  · subst z
    rw [wL_h, wL_n (by omega), up_hit, nL_or, Nat.or_mod_two_pow, Nat.or_div_two_pow, p, Nat.mul_mod_right, Nat.mul_div_cancel_left _ (by decide), Nat.or_zero]
    exact ⟨(h e he).1, rfl⟩
  · rw [wL_n (by omega), wL_n (by omega), up_ne z]
    exact h e he
def mkA (A : Nat → Nat) (h t i : Nat) (M : Nat → Nat) : Nat → Nat := fun e => if e < i then M e ||| 2 ^ an A e h t else M e
theorem mkA_s (A : Nat → Nat) (h t i : Nat) (M : Nat → Nat) : mkA A h t (i + 1) M = up (mkA A h t i M) i (mkA A h t i M i ||| 2 ^ an A i h t) := by
  funext e
  unfold mkA up
  by_cases z : e = i
  · subst z
    rw [if_pos (by omega), if_pos rfl, if_neg (by omega)]
  · rw [if_neg z]
    dsimp only
    by_cases y : e < i
    · rw [if_pos y, if_pos (by omega)]
    · rw [if_neg y, if_neg (by omega)]
theorem x_markAll {σ : Sg} {A : Nat → Nat} (hW : WF A) (x0 : σ.1 2 0 = nI (A 0)) (hH : ∀ x, x < 64 → σ.1 60 x = nI (hp A x)) {h t : Nat} (hh : h < A 0) (ht : t < 100) {M : Nat → Nat} (hL : LB σ M) : ∃ σ', (LB σ' (mkA A h t (A 0) M) ∧ σ'.1 = σ.1 ∧ σ'.2.2 = σ.2.2) ∧ f_X2_markAll 1 (nI h) (nI t) σ = some σ' := by
  have c8 := hW.1.1
  have hR := hW.2.2.1
  unfold f_X2_markAll
  simp (disch := omega) only [e_lit]
  refine lpI (fun fu (q : Int32 × Sg) => f_X2_markAll_3 1 fu (nI h) (nI t) q.1 q.2) (fun i q => q.1 = nI i ∧ LB q.2 (mkA A h t i M) ∧ q.2.1 = σ.1 ∧ q.2.2.2 = σ.2.2) (A 0) (fun r => ∃ σ', (LB σ' (mkA A h t (A 0) M) ∧ σ'.1 = σ.1 ∧ σ'.2.2 = σ.2.2) ∧ r = some σ') (fun i hi q hq => ?_) (fun q hq fu => ?_) FU (by unfold FU; omega) (nI 0, σ) ⟨rfl, ?_, rfl, rfl⟩
  · obtain ⟨v, s⟩ := q
    obtain ⟨q0, q1, q2, q3⟩ := hq
    dsimp only at q0 q1 q2 q3
    subst q0
    have y0 : s.1 2 0 = nI (A 0) := by rw [q2]; exact x0
    have be := x_between (σ := s) (fun x hx => by rw [q2]; exact hH x hx) (h := h) (e := i) (by omega) (by omega)
    have hv := hp_val hR c8 hh hi
    obtain ⟨l1, l2⟩ := q1 i (by omega)
    by_cases z : an A i h t < 64
    · refine ⟨(nI (i + 1), wL s 68 i (nL (mkA A h t i M i % 2 ^ 64) ||| nL (2 ^ an A i h t))), ⟨rfl, ?_, q2, q3⟩, fun fu => ?_⟩
      · rw [mkA_s]
        exact LB_put q1 z
      · have x : hp A (8 * h + i) ≤ 7 := by
          rcases hv with x | x
          · exact x
          · have : an A i h t = 107 := if_pos x
            omega
        have ea : an A i h t = t + hp A (8 * h + i) := if_neg (by omega)
        have ls := lsh1 _ z
        rw [ea] at z ls ⊢
        dsimp only
        rw [f_X2_markAll_3]
        rw [← l1]
        clear hH hW hR q1 q2 q3 l1 l2 ea
        simp only [show (1 : Int64) = nL 1 from rfl] at ls
        simp (disch := omega) only [e_bnd, e_bndV, e_lt, e_grd, e_lit, e_le1, e_le2, e_lt1, e_lt2, e_eq1, e_eq2, e_inb, e_ix, nI_add, pk_mul, e_sub, e_b0, e_b1, e_bz, e_bz0, e_bz1, Bool.and_true, Bool.true_and, ↓reduceIte, not_true_eq_false, not_false_eq_true, decide_false, decide_true, and_self, and_true, true_and, and_false, false_and, Bool.false_eq_true, Bool.not_false, Bool.not_true, y0, be, f_X2_markAll_41, f_X2_markAll_84]
        rw [show (1 : Int64) = nL 1 from rfl, ls]
    · refine ⟨(nI (i + 1), wL s 69 i (nL (mkA A h t i M i / 2 ^ 64) ||| nL (2 ^ (an A i h t - 64)))), ⟨rfl, ?_, q2, q3⟩, fun fu => ?_⟩
      · rw [mkA_s]
        exact LB_put2 q1 (by omega)
      · rcases hv with x | x
        · have ea : an A i h t = t + hp A (8 * h + i) := if_neg (by omega)
          have ls := lsh1 (t + hp A (8 * h + i) - 64) (by omega)
          rw [ea] at z ⊢
          dsimp only
          rw [f_X2_markAll_3]
          rw [← l2]
          clear hH hW hR q1 q2 q3 l1 l2 ea
          simp only [show (1 : Int64) = nL 1 from rfl] at ls
          simp (disch := omega) only [e_bnd, e_bndV, e_lt, e_grd, e_lit, e_le1, e_le2, e_lt1, e_lt2, e_eq1, e_eq2, e_inb, e_ix, nI_add, pk_mul, e_sub, e_b0, e_b1, e_bz, e_bz0, e_bz1, Bool.and_true, Bool.true_and, ↓reduceIte, not_true_eq_false, not_false_eq_true, decide_false, decide_true, and_self, and_true, true_and, and_false, false_and, Bool.false_eq_true, Bool.not_false, Bool.not_true, y0, be, f_X2_markAll_41, f_X2_markAll_84]
          rw [show (1 : Int64) = nL 1 from rfl, ls]
        · have ea : an A i h t = 107 := if_pos x
          have ls := lsh1 (107 - 64) (by omega)
          rw [ea]
          dsimp only
          rw [f_X2_markAll_3]
          rw [← l2]
          clear hH hW hR q1 q2 q3 l1 l2 ea
          simp only [show (1 : Int64) = nL 1 from rfl] at ls
          simp (disch := omega) only [e_bnd, e_bndV, e_lt, e_grd, e_lit, e_le1, e_le2, e_lt1, e_lt2, e_eq1, e_eq2, e_inb, e_ix, nI_add, pk_mul, e_sub, e_b0, e_b1, e_bz, e_bz0, e_bz1, Bool.and_true, Bool.true_and, ↓reduceIte, not_true_eq_false, not_false_eq_true, decide_false, decide_true, and_self, and_true, true_and, and_false, false_and, Bool.false_eq_true, Bool.not_false, Bool.not_true, y0, be, x, f_X2_markAll_41, f_X2_markAll_84]
          rw [show (1 : Int64) = nL 1 from rfl, ls]
  · obtain ⟨v, s⟩ := q
    obtain ⟨q0, q1, q2, q3⟩ := hq
    dsimp only at q0 q1 q2 q3
    subst q0
    have y0 : s.1 2 0 = nI (A 0) := by rw [q2]; exact x0
    refine ⟨s, ⟨q1, q2, q3⟩, ?_⟩
    dsimp only
    rw [f_X2_markAll_3]
    clear hH hW hR q1 q2 q3
    simp (disch := omega) only [e_bnd, e_bndV, e_lt, e_grd, e_lit, e_le1, e_le2, e_lt1, e_lt2, e_eq1, e_eq2, e_inb, e_ix, nI_add, pk_mul, e_sub, e_b0, e_b1, e_bz, e_bz0, e_bz1, Bool.and_true, Bool.true_and, ↓reduceIte, not_true_eq_false, not_false_eq_true, decide_false, decide_true, and_self, and_true, true_and, and_false, false_and, Bool.false_eq_true, Bool.not_false, Bool.not_true, y0]
  · have : mkA A h t 0 M = M := by
      funext e
      exact if_neg (by omega)
    rw [this]
    exact hL
theorem mw_skip {A : Nat → Nat} {e h a m : Nat} : ∀ d, (∀ t, a ≤ t → t < a + d → ¬ bgs A h t (A 4) 0 = true) → mw A e h (a + d) m = mw A e h a m
  | 0, _ => rfl
  | d + 1, q => by
    have e1 : mw A e h (a + (d + 1)) m = if bgs A h (a + d) (A 4) 0 = true then mw A e h (a + d) m ||| 2 ^ an A e h (a + d) else mw A e h (a + d) m := rfl
    rw [e1, if_neg (q _ (by omega) (by omega))]
    exact mw_skip d (fun t h1 h2 => q t h1 (by omega))
def cutA (A : Nat → Nat) (M : Nat → Nat) (M' : Nat → Nat) : Nat → Nat := fun e => if e < A 0 then M' e else M e
theorem x_gather54 {σ : Sg} {A : Nat → Nat} (hW : WF A) (x0 : σ.1 2 0 = nI (A 0)) (hH : ∀ x, x < 64 → σ.1 60 x = nI (hp A x)) {h N : Nat} (hh : h < A 0) (hN : N = 100) (e3 : σ.1 67 3 = iI (la A h (A 4))) {M : Nat → Nat} (hL : LB σ M) : ∃ σ', (LB σ' (cutA A M fun e => mw A e h N (M e)) ∧ σ'.1 = σ.1 ∧ σ'.2.2 = σ.2.2) ∧ ∀ rec, f_X2_gather_54 1 rec FU (nI h) (nI (ea A h (A 4))) σ = rec (nI (h + 1)) σ' := by
  have c8 := hW.1.1
  have hR := hW.2.2.1
  have hS := hW.2.2.2.2.2.2.2.2.1
  have bl := la_le hR (h := h) hS (A 4) (Nat.le_refl _)
  have bE := ea_le (h := h) hS (A 4) (Nat.le_refl _)
  have hL0 : LB σ (cutA A M fun e => mw A e h (ea A h (A 4) + 0) (M e)) := by
    have e1 : (cutA A M fun e => mw A e h (ea A h (A 4) + 0) (M e)) = M := by
      funext e
      unfold cutA
      by_cases y : e < A 0
      · rw [if_pos y]
        have := mw_skip (A := A) (e := e) (h := h) (a := 0) (m := M e) (ea A h (A 4)) (fun t h1 h2 z => by
          have := (bgs_el (A := A) (h := h) (t := t) (by omega)).mp z
          omega)
        rw [Nat.zero_add] at this
        exact this
      · rw [if_neg y]
    rw [e1]
    exact hL
  obtain ⟨s', ⟨g0, g1, g2, g3⟩, g4⟩ := lpR (fun rec fu (q : Int32 × Sg) => f_X2_gather_54 1 rec fu (nI h) q.1 q.2) (fun i q => q.1 = nI (ea A h (A 4) + i) ∧ LB q.2 (cutA A M fun e => mw A e h (ea A h (A 4) + i) (M e)) ∧ q.2.1 = σ.1 ∧ q.2.2.2 = σ.2.2) ((la A h (A 4) + 1).toNat - ea A h (A 4)) (fun i hi q hq => by
    obtain ⟨v, s⟩ := q
    obtain ⟨q0, q1, q2, q3⟩ := hq
    dsimp only at q0 q1 q2 q3
    subst q0
    have y0 : s.1 2 0 = nI (A 0) := by rw [q2]; exact x0
    have y3 : s.1 67 3 = iI (la A h (A 4)) := by rw [q2]; exact e3
    obtain ⟨t, ⟨b1, b2, b3⟩, b4⟩ := x_markAll (σ := s) hW y0 (fun x hx => by rw [q2]; exact hH x hx) hh (t := ea A h (A 4) + i) (by omega) q1
    refine ⟨(nI (ea A h (A 4) + (i + 1)), t), ⟨rfl, ?_, b2.trans q2, b3.trans q3⟩, fun rec fu => ?_⟩
    · have z : bgs A h (ea A h (A 4) + i) (A 4) 0 = true := (bgs_el (by omega)).mpr ⟨by omega, by omega⟩
      have e1 : (mkA A h (ea A h (A 4) + i) (A 0) (cutA A M fun e => mw A e h (ea A h (A 4) + i) (M e))) = cutA A M fun e => mw A e h (ea A h (A 4) + (i + 1)) (M e) := by
        funext e
        unfold mkA cutA
        by_cases y : e < A 0
        · rw [if_pos y, if_pos y, if_pos y]
          exact (if_pos z : mw A e h (ea A h (A 4) + i + 1) (M e) = _).symm
        · rw [if_neg y, if_neg y, if_neg y]
      rw [← e1]
      exact b1
    · have c : ¬ (iI (la A h (A 4)) < nI (ea A h (A 4) + i)) := by
        rw [← iI_n, iI_lt (by omega) (by omega)]
        omega
      dsimp only
      rw [f_X2_gather_54, y3, if_neg c, b4, e_bndV]
      rw [e_lit, nI_add]
      rfl) (nI (ea A h (A 4)), σ) ⟨rfl, hL0, rfl, rfl⟩
  · refine ⟨s'.2, ⟨?_, g2, g3⟩, fun rec => ?_⟩
    · have e1 : (cutA A M fun e => mw A e h N (M e)) = cutA A M fun e => mw A e h (ea A h (A 4) + ((la A h (A 4) + 1).toNat - ea A h (A 4))) (M e) := by
        funext e
        unfold cutA
        by_cases y : e < A 0
        · rw [if_pos y, if_pos y]
          dsimp only
          by_cases k : ea A h (A 4) ≤ 99
          · have := mw_skip (A := A) (e := e) (h := h) (a := ea A h (A 4) + ((la A h (A 4) + 1).toNat - ea A h (A 4))) (m := M e) (N - (ea A h (A 4) + ((la A h (A 4) + 1).toNat - ea A h (A 4)))) (fun t h1 h2 z => by
              have := (bgs_el (A := A) (h := h) (t := t) (by omega)).mp z
              omega)
            rw [← this]
            congr 1
            omega
          · congr 1
            omega
        · rw [if_neg y, if_neg y]
      rw [e1]
      exact g1
    · obtain ⟨f, hf⟩ := FU_n (n := (la A h (A 4) + 1).toNat - ea A h (A 4)) (by omega)
      have e4 := g4 rec (f + 1)
      have y3 : s'.2.1 67 3 = iI (la A h (A 4)) := by rw [g2]; exact e3
      dsimp only at e4
      have c : iI (la A h (A 4)) < nI (ea A h (A 4) + ((la A h (A 4) + 1).toNat - ea A h (A 4))) := by
        rw [← iI_n, iI_lt (by omega) (by omega)]
        omega
      rw [hf, e4, g0, f_X2_gather_54, y3, if_pos c, e_lit, nI_add]
abbrev S67b : Nat → Nat → Prop := fun a _ => a = 67
theorem x_gather30 {σ : Sg} {A : Nat → Nat} (hO : XO σ 1 A) (hW : WF A) (x0 : σ.1 2 0 = nI (A 0)) (hH : ∀ x, x < 64 → σ.1 60 x = nI (hp A x)) {N : Nat} (hN : N = 100) (hL : LB σ (fun _ => 0)) : ∃ σ', (LB σ' (cutA A (fun _ => 0) fun e => ms A e N (A 0)) ∧ fr S67 σ σ') ∧ f_X2_gather_30 1 FU (nI 0) σ = some σ' := by
  have c8 := hW.1.1
  refine lpI (fun fu (q : Int32 × Sg) => f_X2_gather_30 1 fu q.1 q.2) (fun i q => q.1 = nI i ∧ LB q.2 (cutA A (fun _ => 0) fun e => ms A e N i) ∧ fr S67 σ q.2) (A 0) (fun r => ∃ σ', (LB σ' (cutA A (fun _ => 0) fun e => ms A e N (A 0)) ∧ fr S67 σ σ') ∧ r = some σ') (fun i hi q hq => ?_) (fun q hq fu => ?_) FU (by unfold FU; omega) (nI 0, σ) ⟨rfl, ?_, fr.rfl⟩
  · obtain ⟨v, s⟩ := q
    obtain ⟨q0, q1, q2⟩ := hq
    dsimp only at q0 q1 q2
    subst q0
    have y0 : s.1 2 0 = nI (A 0) := by rw [q2.1 _ _ (by omega)]; exact x0
    have hHs : ∀ x, x < 64 → s.1 60 x = nI (hp A x) := fun x hx => by rw [q2.1 _ _ (by omega)]; exact hH x hx
    obtain ⟨t, ⟨a1, a2, a3, a4⟩, a5⟩ := x_narrow (σ := s) (hO.of (fun a j q => q2.1 _ _ (by omega))) hW hHs (h := i) (by omega)
    have q1t : LB t (cutA A (fun _ => 0) fun e => ms A e N i) := by
      intro e he
      rw [a4]
      exact q1 e he
    obtain ⟨u, ⟨b1, b2, b3⟩, b4⟩ := x_gather54 (σ := t) hW (by rw [a3.1 _ _ (by omega)]; exact y0) (fun x hx => by rw [a3.1 _ _ (by omega)]; exact hHs x hx) hi hN a2 q1t
    refine ⟨(nI (i + 1), u), ⟨rfl, ?_, q2.trans (a3.trans ⟨fun a j _ => by rw [b2], b3⟩)⟩, fun fu => ?_⟩
    · have e1 : (cutA A (cutA A (fun _ => 0) fun e => ms A e N i) fun e => mw A e i N ((cutA A (fun _ => 0) fun e => ms A e N i) e)) = cutA A (fun _ => 0) fun e => ms A e N (i + 1) := by
        funext e
        unfold cutA
        by_cases y : e < A 0
        · simp only [if_pos y]
          rfl
        · simp only [if_neg y]
      rw [← e1]
      exact b1
    · have b := b4 (f_X2_gather_30 1 fu)
      dsimp only
      rw [f_X2_gather_30]
      clear hH hHs hW hO q1 q1t q2 a3 b1 b2 b3 b4 hL
      simp (disch := omega) only [e_bnd, e_bndV, e_lt, e_grd, e_lit, e_le1, e_le2, e_lt1, e_lt2, e_eq1, e_eq2, e_inb, e_ix, nI_add, pk_mul, e_sub, e_b0, e_b1, e_bz, e_bz0, e_bz1, Bool.and_true, Bool.true_and, ↓reduceIte, not_true_eq_false, not_false_eq_true, decide_false, decide_true, and_self, and_true, true_and, and_false, false_and, Bool.false_eq_true, Bool.not_false, Bool.not_true, y0, a5, a1]
      exact b
  · obtain ⟨v, s⟩ := q
    obtain ⟨q0, q1, q2⟩ := hq
    dsimp only at q0 q1 q2
    subst q0
    have y0 : s.1 2 0 = nI (A 0) := by rw [q2.1 _ _ (by omega)]; exact x0
    refine ⟨s, ⟨q1, q2⟩, ?_⟩
    dsimp only
    rw [f_X2_gather_30]
    clear hH hW hO q1 q2 hL
    simp (disch := omega) only [e_bnd, e_bndV, e_lt, e_grd, e_lit, e_le1, e_le2, e_lt1, e_lt2, e_eq1, e_eq2, e_inb, e_ix, nI_add, pk_mul, e_sub, e_b0, e_b1, e_bz, e_bz0, e_bz1, Bool.and_true, Bool.true_and, ↓reduceIte, not_true_eq_false, not_false_eq_true, decide_false, decide_true, and_self, and_true, true_and, and_false, false_and, Bool.false_eq_true, Bool.not_false, Bool.not_true, y0]
  · have : (cutA A (fun _ => 0) fun e => ms A e N 0) = fun _ => 0 := by
      funext e
      unfold cutA
      exact ite_self _
    rw [this]
    exact hL
theorem x_gather {σ : Sg} {A : Nat → Nat} (hO : XO σ 1 A) (hW : WF A) (x0 : σ.1 2 0 = nI (A 0)) (hH : ∀ x, x < 64 → σ.1 60 x = nI (hp A x)) {N : Nat} (hN : N = 100) : ∃ σ', (LB σ' (cutA A (fun _ => 0) fun e => ms A e N (A 0)) ∧ fr S67 σ σ') ∧ f_X2_gather 1 σ = some σ' := by
  have c8 := hW.1.1
  unfold f_X2_gather
  simp (disch := omega) only [e_lit]
  refine lpI (fun fu (q : Int32 × Sg) => f_X2_gather_2 1 fu q.1 q.2) (fun i q => q.1 = nI i ∧ (∀ e, e < i → q.2.2.1 68 e = nL 0 ∧ q.2.2.1 69 e = nL 0) ∧ q.2.1 = σ.1 ∧ q.2.2.2 = σ.2.2) 8 (fun r => ∃ σ', (LB σ' (cutA A (fun _ => 0) fun e => ms A e N (A 0)) ∧ fr S67 σ σ') ∧ r = some σ') (fun i hi q hq => ?_) (fun q hq fu => ?_) FU (by unfold FU; omega) (nI 0, σ) ⟨rfl, fun e he => absurd he (by omega), rfl, rfl⟩
  · obtain ⟨v, s⟩ := q
    obtain ⟨q0, q1, q2, q3⟩ := hq
    dsimp only at q0 q1 q2 q3
    subst q0
    refine ⟨(nI (i + 1), wL (wL s 68 i 0) 69 i 0), ⟨rfl, fun e he => ?_, q2, q3⟩, fun fu => ?_⟩
    · dsimp only
      by_cases y : e = i
      · subst y
        rw [wL_h, wL_n (by omega), wL_h]
        exact ⟨rfl, rfl⟩
      · rw [wL_n (by omega), wL_n (by omega), wL_n (by omega), wL_n (by omega)]
        exact q1 e (by omega)
    · dsimp only
      rw [f_X2_gather_2]
      clear hH hW hO q1 q2 q3
      simp (disch := omega) only [e_bnd, e_bndV, e_lt, e_grd, e_lit, e_le1, e_le2, e_lt1, e_lt2, e_eq1, e_eq2, e_inb, e_ix, nI_add, pk_mul, e_sub, e_b0, e_b1, e_bz, e_bz0, e_bz1, Bool.and_true, Bool.true_and, ↓reduceIte, not_true_eq_false, not_false_eq_true, decide_false, decide_true, and_self, and_true, true_and, and_false, false_and, Bool.false_eq_true, Bool.not_false, Bool.not_true]
  · obtain ⟨v, s⟩ := q
    obtain ⟨q0, q1, q2, q3⟩ := hq
    dsimp only at q0 q1 q2 q3
    subst q0
    obtain ⟨t, ⟨b1, b2⟩, b3⟩ := x_gather30 (σ := s) (hO.of (fun a j _ => by rw [q2])) hW (by rw [q2]; exact x0) (fun x hx => by rw [q2]; exact hH x hx) hN (fun e he => by
      show _ = nL (0 % 2 ^ 64) ∧ _ = nL (0 / 2 ^ 64)
      rw [Nat.zero_mod, Nat.zero_div]
      exact q1 e he)
    refine ⟨t, ⟨b1, fr.trans (⟨fun a j _ => by rw [q2], q3⟩ : fr S67 σ s) b2⟩, ?_⟩
    dsimp only
    rw [f_X2_gather_2]
    clear hH hW hO q1 q2 q3
    simp (disch := omega) only [e_bnd, e_bndV, e_lt, e_grd, e_lit, e_le1, e_le2, e_lt1, e_lt2, e_eq1, e_eq2, e_inb, e_ix, nI_add, pk_mul, e_sub, e_b0, e_b1, e_bz, e_bz0, e_bz1, Bool.and_true, Bool.true_and, ↓reduceIte, not_true_eq_false, not_false_eq_true, decide_false, decide_true, and_self, and_true, true_and, and_false, false_and, Bool.false_eq_true, Bool.not_false, Bool.not_true]
    exact b3
theorem mw_lt {A : Nat → Nat} (hR : BR A) (c8 : A 0 ≤ 8) {e h m : Nat} (he : e < A 0) (hh : h < A 0) (hm : m < 2 ^ 128) : ∀ t, t ≤ 100 → mw A e h t m < 2 ^ 128
  | 0, _ => hm
  | t + 1, ht => by
    have ih := mw_lt hR c8 he hh hm t (by omega)
    have a := an_lt hR c8 hh he (t := t) (by omega)
    unfold mw
    split
    · exact Nat.or_lt_two_pow ih (Nat.pow_lt_pow_right (by decide) (by omega))
    · exact ih
theorem ms_lt {A : Nat → Nat} (hR : BR A) (c8 : A 0 ≤ 8) {e N : Nat} (hN : N = 100) (he : e < A 0) : ∀ i, i ≤ A 0 → ms A e N i < 2 ^ 128
  | 0, _ => Nat.two_pow_pos 128
  | i + 1, hi => mw_lt hR c8 he (by omega) (ms_lt hR c8 hN he i (by omega)) N (by omega)
theorem cd_mod : ∀ n m, cd n (m % 2 ^ n) = cd n m
  | 0, _ => rfl
  | n + 1, m => by
    show (m % 2 ^ (n + 1)) % 2 + cd n ((m % 2 ^ (n + 1)) / 2) = m % 2 + cd n (m / 2)
    have e1 : (m % 2 ^ (n + 1)) % 2 = m % 2 := by
      rw [Nat.pow_succ]
      exact Nat.mod_mul_left_mod m (2 ^ n) 2
    have e2 : (m % 2 ^ (n + 1)) / 2 = (m / 2) % 2 ^ n := by
      rw [Nat.pow_succ, Nat.mul_comm]
      exact Nat.mod_mul_right_div_self m 2 (2 ^ n)
    rw [e1, e2, cd_mod n]
theorem x_unlike {σ : Sg} {M : Nat → Nat} (hL : LB σ M) {e : Nat} (he : e < 8) (hm : M e < 2 ^ 128) : f_X2_unlike (nI e) σ = some (nI (cd 128 (M e)), σ) := by
  obtain ⟨l1, l2⟩ := hL e he
  have b1 := bitCount64 (x := M e % 2 ^ 64) (Nat.mod_lt _ (by decide)) σ
  have b2 := bitCount64 (x := M e / 2 ^ 64) (Nat.div_lt_of_lt_mul (by rw [← Nat.pow_add]; exact hm)) σ
  have e1 : cd 64 (M e % 2 ^ 64) + cd 64 (M e / 2 ^ 64) = cd 128 (M e) := by
    rw [cd_mod, show (128 : Nat) = 64 + 64 from rfl, cd_add 64 64]
  unfold f_X2_unlike
  rw [← e1]
  clear hm
  simp (disch := omega) only [e_bnd, e_bndV, e_lt, e_grd, e_lit, e_le1, e_le2, e_lt1, e_lt2, e_eq1, e_eq2, e_inb, e_ix, nI_add, pk_mul, e_sub, e_b0, e_b1, e_bz, e_bz0, e_bz1, Bool.and_true, Bool.true_and, ↓reduceIte, not_true_eq_false, not_false_eq_true, decide_false, decide_true, and_self, and_true, true_and, and_false, false_and, Bool.false_eq_true, Bool.not_false, Bool.not_true, l1, b1, l2, b2]
theorem x_whom36 {σ : Sg} {A : Nat → Nat} (hW : WF A) (x0 : σ.1 2 0 = nI (A 0)) {N K : Nat} (hN : N = 100) (hK : K = 128) (hL : LB σ (cutA A (fun _ => 0) fun e => ms A e N (A 0))) : f_X11_whom_36 FU (-1) (nI 0) (nI 0) σ = some ((wb A N K (A 0)).1, σ) := by
  have c8 := hW.1.1
  have hR := hW.2.2.1
  refine lp (fun fu (q : Int32 × Int32 × Int32) => f_X11_whom_36 fu q.1 q.2.1 q.2.2 σ) (fun i => ((wb A N K i).1, nI (wb A N K i).2, nI i)) (A 0) (fun i hi fu => ?_) (fun fu => ?_) FU (by unfold FU; omega)
  · have ec : (cutA A (fun _ => 0) fun e => ms A e N (A 0)) i = ms A i N (A 0) := if_pos hi
    have un := x_unlike hL (e := i) (by omega) (by rw [ec]; exact ms_lt hR c8 hN hi _ (Nat.le_refl _))
    rw [ec, ← hK] at un
    have l1 := wb_le A N K i
    have l2 := cd_le K (ms A i N (A 0))
    dsimp only
    rw [f_X11_whom_36]
    have ew : wb A N K (i + 1) = if (wb A N K i).2 < cd K (ms A i N (A 0)) then (nI i, cd K (ms A i N (A 0))) else wb A N K i := rfl
    clear hW hL hR ec
    by_cases z : (wb A N K i).2 < cd K (ms A i N (A 0))
    · rw [if_pos z] at ew
      rw [ew]
      clear ew
      simp (disch := omega) only [e_bnd, e_bndV, e_lt, e_grd, e_lit, e_le1, e_le2, e_lt1, e_lt2, e_eq1, e_eq2, e_inb, e_ix, nI_add, pk_mul, e_sub, e_b0, e_b1, e_bz, e_bz0, e_bz1, Bool.and_true, Bool.true_and, ↓reduceIte, not_true_eq_false, not_false_eq_true, decide_false, decide_true, and_self, and_true, true_and, and_false, false_and, Bool.false_eq_true, Bool.not_false, Bool.not_true, x0, un, f_X11_whom_71]
    · rw [if_neg z] at ew
      rw [ew]
      clear ew
      simp (disch := omega) only [e_bnd, e_bndV, e_lt, e_grd, e_lit, e_le1, e_le2, e_lt1, e_lt2, e_eq1, e_eq2, e_inb, e_ix, nI_add, pk_mul, e_sub, e_b0, e_b1, e_bz, e_bz0, e_bz1, Bool.and_true, Bool.true_and, ↓reduceIte, not_true_eq_false, not_false_eq_true, decide_false, decide_true, and_self, and_true, true_and, and_false, false_and, Bool.false_eq_true, Bool.not_false, Bool.not_true, x0, un, f_X11_whom_71]
  · dsimp only
    rw [f_X11_whom_36]
    clear hW hL hR
    simp (disch := omega) only [e_bnd, e_bndV, e_lt, e_grd, e_lit, e_le1, e_le2, e_lt1, e_lt2, e_eq1, e_eq2, e_inb, e_ix, nI_add, pk_mul, e_sub, e_b0, e_b1, e_bz, e_bz0, e_bz1, Bool.and_true, Bool.true_and, ↓reduceIte, not_true_eq_false, not_false_eq_true, decide_false, decide_true, and_self, and_true, true_and, and_false, false_and, Bool.false_eq_true, Bool.not_false, Bool.not_true, x0]
theorem g_whom {κ : Kd} {T : TD} : GO κ T f_X11_whom f_X12_whom := by
  intro σX σM ⟨A, B, I⟩
  obtain ⟨N, hN⟩ : ∃ N : Nat, N = 100 := ⟨100, rfl⟩
  obtain ⟨K, hK⟩ : ∃ K : Nat, K = 128 := ⟨128, rfl⟩
  have hM := I.2.1
  have hW := I.1
  have c8 := I.1.1.1
  have hR := I.1.2.2.1
  have hO := I.2.2.1.2.2.2.2
  have x0 : σX.1 2 0 = nI (A 0) := I.2.2.1.1.1
  obtain ⟨s, ⟨a1, a2⟩, a3⟩ := x_hops (σ := σX) I.xr hR c8
  have hOs : XO s 1 A := hO.of (fun a j q => a2.1 _ _ (by omega))
  have y0 : s.1 2 0 = nI (A 0) := by rw [a2.1 _ _ (by omega)]; exact x0
  obtain ⟨m, ⟨b1, b2⟩, b3⟩ := m_layHops hM c8 hR
  have hMm : MA m A := hM.of b2 (by intro a j q; omega)
  obtain ⟨u, ⟨c1, c2⟩, c3⟩ := x_gather hOs hW y0 a1 hN
  obtain ⟨w, d1, d2⟩ := m_whom10 hMm hW b1 hN hK
  have e1 := x_whom36 hW (by rw [c2.1 _ _ (by omega)]; exact y0) hN hK c1
  refine ⟨(wb A N K (A 0)).1, u, w, ?_, ?_, A, B, I.scr ((a2.mono (fun a j q => by omega)).trans (c2.mono (fun a j q => by omega))) ((b2.mono (fun a j q => by omega)).trans (d1.mono (fun a j q => by omega)))⟩
  · unfold f_X11_whom
    rw [show (1 : Int32) = nI 1 from rfl, a3, e_bndV, c3, e_bndV]
    exact e1
  · unfold f_X12_whom
    rw [b3, e_bndV]
    exact d2
