/-! dawn: the class -/
def DX (σ : Sg) (f : Nat → Nat) (E ask : Nat) : Prop := (∀ h, h < 8 → σ.1 66 h = nI (f h)) ∧ σ.1 62 6 = nI E ∧ σ.1 62 5 = nI ask
def DR (σ : Sg) (E : Nat) (r : Nat → Nat) : Prop := ∀ g, g < 8 → σ.1 65 g = nI (E - r g)
def DB (σ : Sg) (X : Nat × (Nat → Int32)) : Prop := σ.1 62 1 = nI X.1 ∧ ∀ j, j < 8 → σ.1 63 j = X.2 j
def nw (X : Nat × (Nat → Int32)) (v : Nat) (q : Nat → Int32) : Nat × (Nat → Int32) := if X.1 < v then (v, q) else X
def nz (X : Nat × (Nat → Int32)) (g a : Nat) (q : Nat → Int32) : Nat × (Nat → Int32) := if 0 < a ∧ X.1 < g + a then (g + a, q) else X
theorem nz_le {X : Nat × (Nat → Int32)} {g a n : Nat} {q : Nat → Int32} (h : X.1 ≤ n) (h2 : g + a ≤ n) : (nz X g a q).1 ≤ n := by
  unfold nz
  split
  · exact h2
  · exact h
theorem nw_1 {X : Nat × (Nat → Int32)} {g a v : Nat} {q q' : Nat → Int32} (h : a < 1 + v) : nw (nz X g a q) (g + 1 + v) q' = nz X g (1 + v) q' := by
  unfold nw nz
  by_cases w : 0 < a ∧ X.1 < g + a
  · rw [if_pos w, if_pos (show g + a < g + 1 + v by omega), if_pos (by omega), show g + (1 + v) = g + 1 + v by omega]
  · rw [if_neg w]
    by_cases y : X.1 < g + 1 + v
    · rw [if_pos y, if_pos (by omega), show g + (1 + v) = g + 1 + v by omega]
    · rw [if_neg y, if_neg (by omega)]
theorem nw_2 {X : Nat × (Nat → Int32)} {g a v : Nat} {q q' : Nat → Int32} (h : ¬ a < 1 + v) : nw (nz X g a q) (g + 1 + v) q' = nz X g a q := by
  unfold nw nz
  by_cases w : 0 < a ∧ X.1 < g + a
  · rw [if_pos w, if_neg (show ¬ g + a < g + 1 + v by omega)]
  · rw [if_neg w, if_neg (by omega)]
theorem nw_3 {X : Nat × (Nat → Int32)} {g a v : Nat} {q q' : Nat → Int32} (h : a < v) : nw (nz X g a q) (g + v) q' = nw X (g + v) q' := by
  unfold nw nz
  by_cases w : 0 < a ∧ X.1 < g + a
  · rw [if_pos w, if_pos (show g + a < g + v by omega), if_pos (by omega)]
  · rw [if_neg w]
theorem nw_4 {X : Nat × (Nat → Int32)} {g a v : Nat} {q q' : Nat → Int32} (h : ¬ a < v) (e : a = 0 → q' = q) : nw (nz X g a q) (g + v) q' = nw X (g + a) q := by
  unfold nw nz
  by_cases w : 0 < a ∧ X.1 < g + a
  · rw [if_pos w, if_neg (show ¬ g + a < g + v by omega), if_pos w.2]
  · rw [if_neg w]
    by_cases z : a = 0
    · rw [e z, z, show v = 0 by omega]
    · rw [if_neg (by omega), if_neg (by omega)]
def DC (σ : Sg) (h : Nat) (c : Nat → Int32) : Prop := ∀ j, j < h → σ.1 64 j = c j
def mix (h : Nat) (c p : Nat → Int32) : Nat → Int32 := fun j => if j < h then c j else p j
abbrev Sdw : Nat → Nat → Prop := fun a j => (a = 62 ∧ j = 1) ∨ a = 63 ∨ a = 64 ∨ a = 65
theorem DX.of {σ σ' : Sg} {f : Nat → Nat} {E ask : Nat} (h : DX σ f E ask) (g : fr Sdw σ σ') : DX σ' f E ask := ⟨fun k hk => by rw [g.1 _ _ (by omega)]; exact h.1 k hk, by rw [g.1 _ _ (by omega)]; exact h.2.1, by rw [g.1 _ _ (by omega)]; exact h.2.2⟩
theorem pc8_sh : ∀ a, a < 256 → ∀ h, h < 8 → pc8 (a / 2 ^ h) = (a.testBit h).toNat + pc8 (a / 2 ^ (h + 1)) := by decide +kernel
theorem sol_le (f : Nat → Nat) : ∀ d h r, (sol f d h r).1 ≤ d
  | 0, _, _ => Nat.le_refl _
  | d + 1, h, r => by
    show (if (sg f (sol f d (h + 1)) h r 8).1 < (sol f d (h + 1) r).1 then sol f d (h + 1) r else sg f (sol f d (h + 1)) h r 8).1 ≤ d + 1
    split
    · have := sol_le f d (h + 1) r
      omega
    · rcases sg_spec f (sol f d (h + 1)) h r 8 with ⟨q, _⟩ | ⟨g, _, _, q, _⟩
      · omega
      · have := sol_le f d (h + 1) (dn r g)
        omega
theorem sol_ask {f : Nat → Nat} {ask : Nat} (ha : ask < 256) (hk : ∀ h, h < 8 → f h ≠ 0 → ask.testBit h = true) : ∀ d h, h + d = 8 → ∀ r, (sol f d h r).1 ≤ pc8 (ask / 2 ^ h)
  | 0, _, _, _ => Nat.zero_le _
  | d + 1, h, hd, r => by
    have ih := sol_ask ha hk d (h + 1) (by omega)
    have e := pc8_sh ask ha h (by omega)
    show (if (sg f (sol f d (h + 1)) h r 8).1 < (sol f d (h + 1) r).1 then sol f d (h + 1) r else sg f (sol f d (h + 1)) h r 8).1 ≤ _
    split
    · have := ih r
      omega
    · rcases sg_spec f (sol f d (h + 1)) h r 8 with ⟨q, _⟩ | ⟨g, _, fe, q, _⟩
      · omega
      · have i2 := ih (dn r g)
        have nz : f h ≠ 0 := fun z => by
          rw [z, Nat.zero_testBit] at fe
          exact absurd fe.1 (by decide)
        rw [hk h (by omega) nz, Bool.toNat_true] at e
        omega
theorem mix_set {h : Nat} {c p : Nat → Int32} {v : Int32} : mix (h + 1) (setp c h v) p = mix h c (setp p h v) := by
  funext j
  unfold mix setp
  by_cases z : j = h
  · subst z
    rw [if_pos (by omega), if_pos rfl, if_neg (by omega), if_pos rfl]
  · rw [if_neg z, if_neg z]
    by_cases y : j < h
    · rw [if_pos (by omega), if_pos y]
    · rw [if_neg (by omega), if_neg y]
theorem DC_set {σ : Sg} {h : Nat} {c : Nat → Int32} {v : Int32} (q : DC σ h c) : DC (wI σ 64 h v) (h + 1) (setp c h v) := fun j hj => by
  unfold setp
  by_cases z : j = h
  · subst z
    rw [if_pos rfl, e_hit]
  · rw [if_neg z, e_ne2 z]
    exact q j (by omega)
theorem dn_le {E : Nat} {r : Nat → Nat} (h : ∀ g, g < 8 → r g ≤ E) (k : Nat) : ∀ g, g < 8 → dn r k g ≤ E := fun g hg => by
  unfold dn up
  have := h g hg
  split
  · subst g; omega
  · exact this
theorem x_choose {f : Nat → Nat} {E ask : Nat} (hE : 1 ≤ E ∧ E ≤ 8) (ha : ask < 256) (hf : ∀ h, h < 8 → f h < 256) (hk : ∀ h, h < 8 → f h ≠ 0 → ask.testBit h = true) : ∀ d h, h + d = 8 → ∀ n, 2 * d + 1 ≤ n → ∀ (σ : Sg) (r : Nat → Nat) (X : Nat × (Nat → Int32)) (c : Nat → Int32) (got : Nat), (∀ g, g < 8 → r g ≤ E) → got ≤ h → X.1 ≤ 8 → DX σ f E ask → DR σ E r → DB σ X → DC σ h c → ∃ σ', f_SCC0 n 0 (nI h) (nI got) σ = some σ' ∧ DR σ' E r ∧ DB σ' (nw X (got + (sol f d h r).1) (mix h c (sol f d h r).2)) ∧ DC σ' h c ∧ fr Sdw σ σ' := by
  intro d
  induction d with
  | zero =>
    intro h hd n hn σ r X c got hr hg hm h1 h2 h3 h4
    have h8 : h = 8 := by omega
    subst h8
    obtain ⟨n', rfl⟩ : ∃ k, n = k + 1 := ⟨n - 1, by omega⟩
    have x5 := h1.2.2
    have x1 := h3.1
    have ez : ask / 2 ^ 8 = 0 := Nat.div_eq_of_lt ha
    have bc := f_bitCount_eq (n := 0) (by decide) σ
    rw [pc8_0] at bc
    have es := shr_I (n := ask) (k := 8) (by omega) (by decide)
    rw [ez] at es
    have e0 : (sol f 0 8 r).1 = 0 := rfl
    rw [e0]
    unfold f_SCC0 b_X0_choose
    by_cases z : X.1 < got + 0
    · have en : nw X (got + 0) (mix 8 c (sol f 0 8 r).2) = (got + 0, mix 8 c (sol f 0 8 r).2) := if_pos z
      rw [en]
      refine ⟨wC (wI σ 62 1 (nI got)) 64 0 63 0 8, ?_, fun g hg => ?_, ⟨?_, fun j hj => ?_⟩, fun j hj => ?_, ?_⟩
      · clear h1 h2 h3 h4 hr hf hk
        simp (disch := omega) only [e_bnd, e_bndV, e_lt, e_grd, e_lit, e_le1, e_le2, e_lt1, e_lt2, e_eq1, e_eq2, e_inb, e_ix, nI_add, pk_mul, e_sub, e_b0, e_b1, e_bz, e_bz0, e_bz1, Bool.and_true, Bool.true_and, ↓reduceIte, not_true_eq_false, not_false_eq_true, decide_false, decide_true, and_self, and_true, true_and, and_false, false_and, Bool.false_eq_true, Bool.not_false, Bool.not_true, x5, x1, es, bc, Nat.add_zero]
        rfl
      · rw [wC_rd, if_neg (by omega), e_ne1 (by decide)]
        exact h2 g hg
      · rw [wC_rd, if_neg (by omega), e_hit]
        rfl
      · rw [wC_rd, if_pos (by omega), e_ne1 (by decide), show 0 + (j - 0) = j by omega]
        show _ = if j < 8 then c j else _
        rw [if_pos hj]
        exact h4 j hj
      · rw [wC_rd, if_neg (by omega), e_ne1 (by decide)]
        exact h4 j hj
      · exact (fr.w (Or.inl ⟨rfl, rfl⟩)).trans (fr.c (fun j => Or.inr (Or.inl rfl)))
    · refine ⟨σ, ?_, h2, ?_, h4, fr.rfl⟩
      · clear h1 h2 h3 h4 hr hf hk
        simp (disch := omega) only [e_bnd, e_bndV, e_lt, e_grd, e_lit, e_le1, e_le2, e_lt1, e_lt2, e_eq1, e_eq2, e_inb, e_ix, nI_add, pk_mul, e_sub, e_b0, e_b1, e_bz, e_bz0, e_bz1, Bool.and_true, Bool.true_and, ↓reduceIte, not_true_eq_false, not_false_eq_true, decide_false, decide_true, and_self, and_true, true_and, and_false, false_and, Bool.false_eq_true, Bool.not_false, Bool.not_true, x5, x1, es, bc, Nat.add_zero]
      · have en : nw X (got + 0) (mix 8 c (sol f 0 8 r).2) = X := if_neg z
        rw [en]
        exact h3
  | succ d ihd =>
    intro h hd n hn σ r X c got hr hg hm h1 h2 h3 h4
    obtain ⟨n', rfl⟩ : ∃ k, n = k + 1 + 1 := ⟨n - 2, by omega⟩
    have ih := ihd (h + 1) (by omega) n' (by omega)
    have x5 := h1.2.2
    have x1 := h3.1
    have hq : ask / 2 ^ h < 256 := Nat.lt_of_le_of_lt (Nat.div_le_self _ _) ha
    have bc := f_bitCount_eq hq σ
    have es := shr_I (n := ask) (k := h) (by omega) (by omega)
    have sa := sol_ask ha hk (d + 1) h hd r
    have p8 := pc8_le (ask / 2 ^ h)
    have ss : sol f (d + 1) h r = if (sg f (sol f d (h + 1)) h r 8).1 < (sol f d (h + 1) r).1 then sol f d (h + 1) r else sg f (sol f d (h + 1)) h r 8 := rfl
    by_cases z : X.1 < got + pc8 (ask / 2 ^ h)
    · have main : ∃ σ', f_X0_chooseFor_2 (f_SCC0 n') FU (nI h) (nI got) (nI 0) σ = some σ' ∧ DR σ' E r ∧ DB σ' (nw X (got + (sol f (d + 1) h r).1) (mix h c (sol f (d + 1) h r).2)) ∧ DC σ' h c ∧ fr Sdw σ σ' := by
        refine lpI (fun fu (q : Int32 × Sg) => f_X0_chooseFor_2 (f_SCC0 n') fu (nI h) (nI got) q.1 q.2) (fun i q => q.1 = nI i ∧ DR q.2 E r ∧ DB q.2 (nz X got (sg f (sol f d (h + 1)) h r i).1 (mix h c (sg f (sol f d (h + 1)) h r i).2)) ∧ DC q.2 h c ∧ fr Sdw σ q.2) 8 (fun R => ∃ σ', R = some σ' ∧ DR σ' E r ∧ DB σ' (nw X (got + (sol f (d + 1) h r).1) (mix h c (sol f (d + 1) h r).2)) ∧ DC σ' h c ∧ fr Sdw σ σ') (fun i hi q hq => ?_) (fun q hq fu => ?_) FU (by unfold FU; omega) (nI 0, σ) ⟨rfl, h2, ?_, h4, fr.rfl⟩
        · obtain ⟨v, t⟩ := q
          obtain ⟨q0, q1, q2, q3, q4⟩ := hq
          dsimp only at q0 q1 q2 q3 q4
          subst q0
          have t1 := h1.of q4
          have y6 := t1.2.1
          have y66 := t1.1 h (by omega)
          have y65 := q1 i hi
          have ri := hr i hi
          obtain ⟨P, hP⟩ : ∃ P, P = sg f (sol f d (h + 1)) h r i := ⟨_, rfl⟩
          have ex : sg f (sol f d (h + 1)) h r (i + 1) = if ((f h).testBit i = true ∧ 0 < r i) ∧ P.1 < 1 + (sol f d (h + 1) (dn r i)).1 then (1 + (sol f d (h + 1) (dn r i)).1, setp (sol f d (h + 1) (dn r i)).2 h (nI i)) else P := by rw [hP]; rfl
          rw [← hP] at q2
          have bP : P.1 ≤ d + 1 := by
            rw [hP]
            rcases sg_spec f (sol f d (h + 1)) h r i with ⟨w, _⟩ | ⟨g, _, _, w, _⟩
            · omega
            · have := sol_le f d (h + 1) (dn r g)
              omega
          rw [ex]
          by_cases y : (f h).testBit i = true
          · have hb := e_hbT (hf h (by omega)) (by omega : i < 9) y
            by_cases x : 0 < r i
            · obtain ⟨u, u1, u2, u3, u4, u5⟩ := ih (wI (wI t 65 i (nI (E - r i + 1))) 64 h (nI i)) (dn r i) (nz X got P.1 (mix h c P.2)) (setp c h (nI i)) (got + 1) (dn_le hr i) (by omega) (nz_le hm (by omega)) (t1.of ((fr.w (by omega)).trans (fr.w (by omega)))) (fun g hg => by
                rw [e_ne1 (by decide)]
                unfold dn
                by_cases w : g = i
                · subst w
                  rw [e_hit, up_hit, show E - (r g - 1) = E - r g + 1 by omega]
                · rw [e_ne2 w, up_ne w]
                  exact q1 g hg) ⟨by rw [e_ne1 (by decide), e_ne1 (by decide)]; exact q2.1, fun j hj => by rw [e_ne1 (by decide), e_ne1 (by decide)]; exact q2.2 j hj⟩ (DC_set (fun j hj => by rw [e_ne1 (by decide)]; exact q3 j hj))
              have yu : u.1 65 i = nI (E - r i + 1) := by
                rw [u2 i hi]
                unfold dn
                rw [up_hit, show E - (r i - 1) = E - r i + 1 by omega]
              refine ⟨(nI (i + 1), wI u 65 i (nI (E - r i))), ⟨rfl, fun g hg => ?_, ?_, fun j hj => ?_, ?_⟩, fun fu => ?_⟩
              · dsimp only
                by_cases w : g = i
                · subst w; rw [e_hit]
                · rw [e_ne2 w, u2 g hg]
                  unfold dn
                  rw [up_ne w]
              · rw [mix_set] at u3
                have u3' : DB (wI u 65 i (nI (E - r i))) (nw (nz X got P.1 (mix h c P.2)) (got + 1 + (sol f d (h + 1) (dn r i)).1) (mix h c (setp (sol f d (h + 1) (dn r i)).2 h (nI i)))) := ⟨by rw [e_ne1 (by decide)]; exact u3.1, fun j hj => by rw [e_ne1 (by decide)]; exact u3.2 j hj⟩
                by_cases w : P.1 < 1 + (sol f d (h + 1) (dn r i)).1
                · have ep : (if ((f h).testBit i = true ∧ 0 < r i) ∧ P.1 < 1 + (sol f d (h + 1) (dn r i)).1 then (1 + (sol f d (h + 1) (dn r i)).1, setp (sol f d (h + 1) (dn r i)).2 h (nI i)) else P) = (1 + (sol f d (h + 1) (dn r i)).1, setp (sol f d (h + 1) (dn r i)).2 h (nI i)) := if_pos ⟨⟨y, x⟩, w⟩
                  rw [nw_1 w] at u3'
                  rw [ep]
                  exact u3'
                · have ep : (if ((f h).testBit i = true ∧ 0 < r i) ∧ P.1 < 1 + (sol f d (h + 1) (dn r i)).1 then (1 + (sol f d (h + 1) (dn r i)).1, setp (sol f d (h + 1) (dn r i)).2 h (nI i)) else P) = P := if_neg (fun k => w k.2)
                  rw [nw_2 w] at u3'
                  rw [ep]
                  exact u3'
              · rw [e_ne1 (by decide), u4 j (by omega)]
                exact if_neg (by omega)
              · exact ((q4.trans ((fr.w (by omega)).trans (fr.w (by omega)))).trans u5).trans (fr.w (by omega))
              · dsimp only
                rw [f_X0_chooseFor_2]
                clear ih ex hP h1 h2 h3 h4 t1 q1 q2 q3 q4 u2 u3 u4 u5 hf hk hr
                simp (disch := omega) only [e_bnd, e_bndV, e_lt, e_grd, e_lit, e_le1, e_le2, e_lt1, e_lt2, e_eq1, e_eq2, e_inb, e_ix, nI_add, pk_mul, e_sub, e_b0, e_b1, e_bz, e_bz0, e_bz1, Bool.and_true, Bool.true_and, ↓reduceIte, not_true_eq_false, not_false_eq_true, decide_false, decide_true, and_self, and_true, true_and, and_false, false_and, Bool.false_eq_true, Bool.not_false, Bool.not_true, y66, hb, y6, y65, u1, yu, f_X0_chooseFor_72, Nat.add_sub_cancel]
            · refine ⟨(nI (i + 1), t), ⟨rfl, q1, ?_, q3, q4⟩, fun fu => ?_⟩
              · have ep : (if ((f h).testBit i = true ∧ 0 < r i) ∧ P.1 < 1 + (sol f d (h + 1) (dn r i)).1 then (1 + (sol f d (h + 1) (dn r i)).1, setp (sol f d (h + 1) (dn r i)).2 h (nI i)) else P) = P := if_neg (fun k => x k.1.2)
                rw [ep]
                exact q2
              · dsimp only
                rw [f_X0_chooseFor_2]
                clear ih ex hP h1 h2 h3 h4 t1 q1 q2 q3 q4 hf hk hr
                simp (disch := omega) only [e_bnd, e_bndV, e_lt, e_grd, e_lit, e_le1, e_le2, e_lt1, e_lt2, e_eq1, e_eq2, e_inb, e_ix, nI_add, pk_mul, e_sub, e_b0, e_b1, e_bz, e_bz0, e_bz1, Bool.and_true, Bool.true_and, ↓reduceIte, not_true_eq_false, not_false_eq_true, decide_false, decide_true, and_self, and_true, true_and, and_false, false_and, Bool.false_eq_true, Bool.not_false, Bool.not_true, y66, hb, y6, y65, f_X0_chooseFor_72]
          · have hb := e_hbF (hf h (by omega)) (by omega : i < 9) (Bool.eq_false_iff.mpr y)
            refine ⟨(nI (i + 1), t), ⟨rfl, q1, ?_, q3, q4⟩, fun fu => ?_⟩
            · have ep : (if ((f h).testBit i = true ∧ 0 < r i) ∧ P.1 < 1 + (sol f d (h + 1) (dn r i)).1 then (1 + (sol f d (h + 1) (dn r i)).1, setp (sol f d (h + 1) (dn r i)).2 h (nI i)) else P) = P := if_neg (fun k => y k.1.1)
              rw [ep]
              exact q2
            · dsimp only
              rw [f_X0_chooseFor_2]
              clear ih ex hP h1 h2 h3 h4 t1 q1 q2 q3 q4 hf hk hr
              simp (disch := omega) only [e_bnd, e_bndV, e_lt, e_grd, e_lit, e_le1, e_le2, e_lt1, e_lt2, e_eq1, e_eq2, e_inb, e_ix, nI_add, pk_mul, e_sub, e_b0, e_b1, e_bz, e_bz0, e_bz1, Bool.and_true, Bool.true_and, ↓reduceIte, not_true_eq_false, not_false_eq_true, decide_false, decide_true, and_self, and_true, true_and, and_false, false_and, Bool.false_eq_true, Bool.not_false, Bool.not_true, y66, hb, f_X0_chooseFor_72]
        · obtain ⟨v, t⟩ := q
          obtain ⟨q0, q1, q2, q3, q4⟩ := hq
          dsimp only at q0 q1 q2 q3 q4
          subst q0
          have t1 := h1.of q4
          obtain ⟨P, hP⟩ : ∃ P, P = sg f (sol f d (h + 1)) h r 8 := ⟨_, rfl⟩
          obtain ⟨V, hV⟩ : ∃ V, V = sol f d (h + 1) r := ⟨_, rfl⟩
          rw [← hP] at q2
          have bP : P.1 ≤ d + 1 := by
            rw [hP]
            rcases sg_spec f (sol f d (h + 1)) h r 8 with ⟨w, _⟩ | ⟨g, _, _, w, _⟩
            · omega
            · have := sol_le f d (h + 1) (dn r g)
              omega
          have cP : P.1 = 0 → P.2 = fun _ => -1 := fun w => by
            rw [hP] at w ⊢
            rcases sg_spec f (sol f d (h + 1)) h r 8 with ⟨_, k, _⟩ | ⟨g, _, _, k, _⟩
            · exact k
            · omega
          have cV : V.1 = 0 → V.2 = fun _ => -1 := fun w => by
            rw [hV] at w ⊢
            exact sol_zero f d (h + 1) r w
          have low : setp V.2 h (-1) = V.2 := by
            funext j
            unfold setp
            by_cases w : j = h
            · subst w
              rw [if_pos rfl, hV]
              exact (sol_low f d (j + 1) r j (by omega)).symm
            · rw [if_neg w]
          obtain ⟨u, u1, u2, u3, u4, u5⟩ := ih (wI t 64 h (-1)) r (nz X got P.1 (mix h c P.2)) (setp c h (-1)) got hr (by omega) (nz_le hm (by omega)) (t1.of (fr.w (by omega))) (fun g hg => by
            rw [e_ne1 (by decide)]
            exact q1 g hg) ⟨by rw [e_ne1 (by decide)]; exact q2.1, fun j hj => by rw [e_ne1 (by decide)]; exact q2.2 j hj⟩ (DC_set q3)
          refine ⟨u, ?_, u2, ?_, fun j hj => ?_, (q4.trans (fr.w (by omega))).trans u5⟩
          · dsimp only
            rw [f_X0_chooseFor_2]
            clear ih hP hV h1 h2 h3 h4 t1 q1 q2 q3 q4 u2 u3 u4 u5 hf hk hr cP cV low ss
            rw [if_pos (by decide), grd_of (by rw [e_inb (by omega) (by decide)]; rfl), e_lt, e_ix (by omega), show nI h + 1 = nI (h + 1) from nI_add _ _, u1, e_bndV]
          · rw [mix_set, ← hV, low] at u3
            rw [ss, ← hP, ← hV]
            by_cases w : P.1 < V.1
            · rw [nw_3 w] at u3
              rw [if_pos w]
              exact u3
            · rw [nw_4 w (fun k => by rw [cP k, cV (by omega)])] at u3
              rw [if_neg w]
              exact u3
          · rw [u4 j (by omega)]
            exact if_neg (by omega)
        · exact h3
      obtain ⟨u, u1, u2⟩ := main
      refine ⟨u, ?_, u2⟩
      show b_X0_choose (f_SCC0 (n' + 1)) (nI h) (nI got) σ = some u
      have e1 : f_SCC0 (n' + 1) 1 (nI h) (nI got) σ = some u := by
        unfold f_SCC0 b_X0_chooseFor
        simp only [e_lit]
        exact u1
      unfold b_X0_choose
      clear ih h1 h2 h3 h4 hf hk hr u2 ss
      simp (disch := omega) only [e_bnd, e_bndV, e_lt, e_grd, e_lit, e_le1, e_le2, e_lt1, e_lt2, e_eq1, e_eq2, e_inb, e_ix, nI_add, pk_mul, e_sub, e_b0, e_b1, e_bz, e_bz0, e_bz1, Bool.and_true, Bool.true_and, ↓reduceIte, not_true_eq_false, not_false_eq_true, decide_false, decide_true, and_self, and_true, true_and, and_false, false_and, Bool.false_eq_true, Bool.not_false, Bool.not_true, x5, x1, es, bc, e1]
    · refine ⟨σ, ?_, h2, ?_, h4, fr.rfl⟩
      · show b_X0_choose (f_SCC0 (n' + 1)) (nI h) (nI got) σ = some σ
        unfold b_X0_choose
        clear ih h1 h2 h3 h4 hf hk hr ss
        simp (disch := omega) only [e_bnd, e_bndV, e_lt, e_grd, e_lit, e_le1, e_le2, e_lt1, e_lt2, e_eq1, e_eq2, e_inb, e_ix, nI_add, pk_mul, e_sub, e_b0, e_b1, e_bz, e_bz0, e_bz1, Bool.and_true, Bool.true_and, ↓reduceIte, not_true_eq_false, not_false_eq_true, decide_false, decide_true, and_self, and_true, true_and, and_false, false_and, Bool.false_eq_true, Bool.not_false, Bool.not_true, x5, x1, es, bc]
      · have en : nw X (got + (sol f (d + 1) h r).1) (mix h c (sol f (d + 1) h r).2) = X := if_neg (by omega)
        rw [en]
        exact h3
