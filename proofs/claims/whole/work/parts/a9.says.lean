/-! text: the reference works its code out -/
def STL (σ : Sg) : List Int → Prop
  | [] => True
  | x :: s => σ.2.1 7 s.length = iL x ∧ STL σ s
def STB (σ : Sg) : List Bool → Prop
  | [] => True
  | b :: s => σ.1 8 s.length = (if b = true then nI 1 else nI 0) ∧ STB σ s
theorem STL.of {σ σ' : Sg} : ∀ {s : List Int}, STL σ s → (∀ j, j < s.length → σ'.2.1 7 j = σ.2.1 7 j) → STL σ' s
  | [], _, _ => trivial
  | x :: s, h, e => ⟨by rw [e _ (by simp only [List.length_cons]; omega)]; exact h.1, h.2.of (fun j hj => e j (by simp only [List.length_cons]; omega))⟩
theorem STB.of {σ σ' : Sg} : ∀ {s : List Bool}, STB σ s → (∀ j, j < s.length → σ'.1 8 j = σ.1 8 j) → STB σ' s
  | [], _, _ => trivial
  | x :: s, h, e => ⟨by rw [e _ (by simp only [List.length_cons]; omega)]; exact h.1, h.2.of (fun j hj => e j (by simp only [List.length_cons]; omega))⟩
theorem m_clip {z : Int} (h : -1099511627776 ≤ z ∧ z ≤ 1099511627776) (σ : Sg) : f_X12_clip (iL z) σ = some (iL (clp z), σ) := by
  have c1 : (lg_cmp (iL z) 1000000 ≤ 0) = (z ≤ 1000000) := (cmp_le (x := iL z) (y := 1000000)).trans (iL_le (b := 1000000) (by omega) (by decide))
  have c2 : (0 ≤ lg_cmp (iL z) (-1000000)) = (-1000000 ≤ z) := by
    rw [show (-1000000 : Int64) = iL (-1000000) by decide]
    exact (cmp_ge (x := iL z) (y := iL (-1000000))).trans (iL_le (a := -1000000) (by decide) (by omega))
  unfold f_X12_clip f_X12_clip_29 clp
  by_cases a : z ≤ 1000000
  · rw [if_pos (c1.mpr a)]
    by_cases b : -1000000 ≤ z
    · rw [if_pos (c2.mpr b), show max (-1000000) (min 1000000 z) = z by omega]
    · rw [if_neg (fun q => b (c2.mp q)), show max (-1000000) (min 1000000 z) = -1000000 by omega]
      rfl
  · rw [if_neg (fun q => a (c1.mp q)), show max (-1000000) (min 1000000 z) = 1000000 by omega]
    rfl
theorem m_two {x y : Int} {o : Nat} (ho : 5 ≤ o ∧ o ≤ 8) (hx : -1000000 ≤ x ∧ x ≤ 1000000) (hy : -1000000 ≤ y ∧ y ≤ 1000000) (σ : Sg) : f_X12_two (nI o) (iL x) (iL y) σ = some (iL (op2 o x y), σ) := by
  have cs : o = 5 ∨ o = 6 ∨ o = 7 ∨ o = 8 := by omega
  rcases cs with rfl | rfl | rfl | rfl
  · show (bnd (f_X12_clip (iL x + iL y) σ) fun r3 σ2 => some (r3, σ2)) = some (iL (clp (x + y)), σ)
    rw [iL_add, m_clip (by omega), e_bnd]
  · show (bnd (f_X12_clip (iL x - iL y) σ) fun r3 σ2 => some (r3, σ2)) = some (iL (clp (x - y)), σ)
    rw [iL_sub, m_clip (by omega), e_bnd]
  · show (bnd (f_X12_clip (iL x * iL y) σ) fun r3 σ2 => some (r3, σ2)) = some (iL (clp (x * y)), σ)
    rw [iL_mul, m_clip (mul_b hx hy), e_bnd]
  · show (if (lg_cmp (iL y) 0) = 0 then f_X12_two_65 0 σ else grd ((!decide (iL y = 0)) && true) <| bnd (f_X12_clip (iL x / iL y) σ) fun r12 σ11 => f_X12_two_65 r12 σ11) = some (iL (if y = 0 then 0 else clp (x.tdiv y)), σ)
    have c : (lg_cmp (iL y) 0 = 0) = (y = 0) := (cmp_eq (x := iL y) (y := 0)).trans (iL_eq (b := 0) (by omega) (by decide))
    by_cases w : y = 0
    · rw [if_pos (c.mpr w), if_pos w]
      rfl
    · have nz : ¬ (iL y = 0) := fun q => w ((iL_eq (b := 0) (by omega) (by decide)).mp q)
      have tb := tdiv_b (y := y) hx
      rw [if_neg (fun q => w (c.mp q)), if_neg w, grd_of (by rw [decide_eq_false nz]; rfl), iL_div (by omega) (by omega), m_clip (by omega), e_bnd]
      rfl
theorem m_asked {x y : Int} {o : Nat} (ho : 10 ≤ o ∧ o ≤ 15) (hx : -1000000 ≤ x ∧ x ≤ 1000000) (hy : -1000000 ≤ y ∧ y ≤ 1000000) (σ : Sg) : f_X12_isAsked (nI o) (iL x) (iL y) σ = some (if cmW o x y = true then nI 1 else nI 0, σ) := by
  have z1 : f_X12_isAsked_111 1 σ = some (nI 1, σ) := rfl
  have z0 : f_X12_isAsked_111 0 σ = some (nI 0, σ) := rfl
  have cge : (0 ≤ lg_cmp (iL x) (iL y)) = (y ≤ x) := (cmp_ge (x := iL x) (y := iL y)).trans (iL_le (by omega) (by omega))
  have cgt : (0 < lg_cmp (iL x) (iL y)) = (y < x) := (cmp_gt (x := iL x) (y := iL y)).trans (iL_lt (by omega) (by omega))
  have cle : (lg_cmp (iL x) (iL y) ≤ 0) = (x ≤ y) := (cmp_le (x := iL x) (y := iL y)).trans (iL_le (by omega) (by omega))
  have clt : (lg_cmp (iL x) (iL y) < 0) = (x < y) := (cmp_lt (x := iL x) (y := iL y)).trans (iL_lt (by omega) (by omega))
  have ceq : (lg_cmp (iL x) (iL y) = 0) = (x = y) := (cmp_eq (x := iL x) (y := iL y)).trans (iL_eq (by omega) (by omega))
  have cs : o = 10 ∨ o = 11 ∨ o = 12 ∨ o = 13 ∨ o = 14 ∨ o = 15 := by omega
  rcases cs with rfl | rfl | rfl | rfl | rfl | rfl
  · show (if 0 ≤ lg_cmp (iL x) (iL y) then f_X12_isAsked_111 0 σ else f_X12_isAsked_111 1 σ) = some (if decide (x < y) = true then nI 1 else nI 0, σ)
    by_cases w : x < y
    · rw [if_neg (fun q => absurd (cge.mp q) (by omega)), decide_eq_true w]
      exact z1
    · rw [if_pos (cge.mpr (by omega)), decide_eq_false w]
      exact z0
  · show (if 0 < lg_cmp (iL x) (iL y) then f_X12_isAsked_111 0 σ else f_X12_isAsked_111 1 σ) = some (if decide (x ≤ y) = true then nI 1 else nI 0, σ)
    by_cases w : x ≤ y
    · rw [if_neg (fun q => absurd (cgt.mp q) (by omega)), decide_eq_true w]
      exact z1
    · rw [if_pos (cgt.mpr (by omega)), decide_eq_false w]
      exact z0
  · show (if lg_cmp (iL x) (iL y) ≤ 0 then f_X12_isAsked_111 0 σ else f_X12_isAsked_111 1 σ) = some (if decide (y < x) = true then nI 1 else nI 0, σ)
    by_cases w : y < x
    · rw [if_neg (fun q => absurd (cle.mp q) (by omega)), decide_eq_true w]
      exact z1
    · rw [if_pos (cle.mpr (by omega)), decide_eq_false w]
      exact z0
  · show (if lg_cmp (iL x) (iL y) < 0 then f_X12_isAsked_111 0 σ else f_X12_isAsked_111 1 σ) = some (if decide (y ≤ x) = true then nI 1 else nI 0, σ)
    by_cases w : y ≤ x
    · rw [if_neg (fun q => absurd (clt.mp q) (by omega)), decide_eq_true w]
      exact z1
    · rw [if_pos (clt.mpr (by omega)), decide_eq_false w]
      exact z0
  · show (if lg_cmp (iL x) (iL y) = 0 then f_X12_isAsked_111 1 σ else f_X12_isAsked_111 0 σ) = some (if decide (x = y) = true then nI 1 else nI 0, σ)
    by_cases w : x = y
    · rw [if_pos (ceq.mpr w), decide_eq_true w]
      exact z1
    · rw [if_neg (fun q => w (ceq.mp q)), decide_eq_false w]
      exact z0
  · show (if lg_cmp (iL x) (iL y) = 0 then f_X12_isAsked_111 0 σ else f_X12_isAsked_111 1 σ) = some (if decide (x ≠ y) = true then nI 1 else nI 0, σ)
    by_cases w : x = y
    · rw [if_pos (ceq.mpr w), decide_eq_false (fun q => q w)]
      exact z0
    · rw [if_neg (fun q => w (ceq.mp q)), decide_eq_true w]
      exact z1
theorem m_warm {σ : Sg} {A : Nat → Nat} (hM : MA σ A) (hB : BT A) {x : Int} (hx : -1000000 ≤ x ∧ x ≤ 1000000) : f_X12_warmOf (iL x) σ = some (iL (wmV A x), σ) := by
  have c8 := hB.1
  have r0 := hM.1 0 (by decide) (by decide) (by decide)
  have clt : (lg_cmp (iL x) 0 < 0) = (x < 0) := (cmp_lt (x := iL x) (y := 0)).trans (iL_lt (b := 0) (by omega) (by decide))
  have cge : (0 ≤ lg_cmp (iL x) (iL (A 0 : Int))) = ((A 0 : Int) ≤ x) := (cmp_ge (x := iL x) (y := iL (A 0 : Int))).trans (iL_le (by omega) (by omega))
  unfold f_X12_warmOf wmV
  by_cases a : x < 0
  · rw [if_pos (clt.mpr a), if_neg (by omega)]
    rfl
  · have i0 : ix 0 = 0 := by decide
    rw [if_neg (fun q => a (clt.mp q)), grd_of (by decide), i0, r0, nI_lL (by omega)]
    by_cases b : (A 0 : Int) ≤ x
    · rw [if_pos (cge.mpr b), if_neg (by omega)]
      rfl
    · have xn : x = ((x.toNat : Nat) : Int) := by omega
      have g := m_get hM (h := x.toNat) (w := 1) (by omega) (by decide)
      have hb := (hB.2.2.2.2 x.toNat (by omega)).2.1
      have e1 : (iL x).toInt32 = nI x.toNat := by
        rw [iL_i (by omega), ← iI_n, ← xn]
      have g' : f_X12_get (nI x.toNat) 1 σ = some (nI (A (10 + 5 * x.toNat + 1)), σ) := g
      rw [if_neg (fun q => b (cge.mp q)), if_pos (by omega), e1, g', e_bnd, nI_lL (by omega)]
      rfl
theorem m_nm {σ : Sg} {A : Nat → Nat} (hB : BT A) {h near i : Nat} (hN : NM σ A h near) (hh : h < 8) (hn : near ≤ 8) (hi : i ≤ 8) : Int32.toInt64 (σ.1 6 i) = iL (nmV A h near i) := by
  obtain ⟨_, b6, b7, _, bh⟩ := hB
  obtain ⟨q0, q1, q2, q3, _⟩ := bh h hh
  obtain ⟨n0, n1, n2, n3, n4, n5, n6, n7, n8⟩ := hN
  have cs : i = 0 ∨ i = 1 ∨ i = 2 ∨ i = 3 ∨ i = 4 ∨ i = 5 ∨ i = 6 ∨ i = 7 ∨ i = 8 := by omega
  have hs : ∀ w, hsV A h w = (A (10 + 5 * h + w) : Int) := fun w => if_pos hh
  rcases cs with rfl | rfl | rfl | rfl | rfl | rfl | rfl | rfl | rfl
  · rw [n0, nI_lL (by omega)]
    rfl
  · rw [n1]
    show _ = iL (if 20 ≤ A 6 % 24 ∨ A 6 % 24 < 6 then 1 else 0)
    by_cases z : 20 ≤ A 6 % 24 ∨ A 6 % 24 < 6
    · rw [if_pos z, if_pos z]
      rfl
    · rw [if_neg z, if_neg z]
      rfl
  · rw [n2, nI_lL (by omega)]
    rfl
  · rw [n3, nI_lL (by omega)]
    rfl
  · rw [n4, nI_lL (by omega)]
    show _ = iL (hsV A h 3)
    rw [hs]
  · rw [n5, nI_lL (by omega)]
    show _ = iL (hsV A h 0)
    rw [hs]
    rfl
  · rw [n6, nI_lL (by omega)]
    show _ = iL (hsV A h 1)
    rw [hs]
  · rw [n7, nI_lL (by omega)]
    rfl
  · rw [n8, nI_lL (by omega)]
    show _ = iL (hsV A h 2)
    rw [hs]
theorem tdiv2 (x : Int) : x - x.tdiv 2 * 2 = 0 ↔ x % 2 = 0 := by
  by_cases h : 0 ≤ x
  · rw [Int.tdiv_eq_ediv_of_nonneg h]
    omega
  · have e : x.tdiv 2 = -((-x) / 2) := by
      have q := Int.neg_tdiv (-x) 2
      rw [Int.neg_neg, Int.tdiv_eq_ediv_of_nonneg (a := -x) (by omega)] at q
      exact q
    rw [e]
    omega
theorem m_oddc {x : Int} (hx : -1000000 ≤ x ∧ x ≤ 1000000) : (lg_cmp (jlrem (iL x) 2) 0 = 0) = (x % 2 = 0) := by
  have tb := tdiv_b (y := 2) hx
  have e : jlrem (iL x) 2 = iL (x - x.tdiv 2 * 2) := by
    unfold jlrem
    rw [show (2 : Int64) = iL 2 from rfl, iL_div (by omega) (by decide), iL_mul, iL_sub]
  rw [e]
  exact ((cmp_eq (y := 0)).trans (iL_eq (b := 0) (by omega) (by decide))).trans (propext (tdiv2 x))
def CD (σ : Sg) (b i : Nat) : List (Nat × Nat) → Prop
  | [] => True
  | o :: c => σ.1 3 (b + 2 * i) = nI o.1 ∧ σ.1 3 (b + 2 * i + 1) = nI o.2 ∧ o.2 ≤ 10000 ∧ CD σ b (i + 1) c
theorem CD.of {σ σ' : Sg} {b : Nat} : ∀ {c : List (Nat × Nat)} {i : Nat}, CD σ b i c → (∀ j, b + 2 * i ≤ j → j < b + 2 * (i + c.length) → σ'.1 3 j = σ.1 3 j) → CD σ' b i c
  | [], _, _, _ => trivial
  | o :: c, i, h, e => by
    simp only [List.length_cons] at e
    exact ⟨by rw [e _ (by omega) (by omega)]; exact h.1, by rw [e _ (by omega) (by omega)]; exact h.2.1, h.2.2.1, h.2.2.2.of (fun j h1 h2 => e j (by omega) (by omega))⟩
theorem dec1n (j : Nat) : nI (j + 1) + -nI 1 = nI j := dec1 j
theorem wL_hit {σ : Sg} {k i : Nat} {v : Int64} : (wL σ k i v).2.1 k i = v := if_pos ⟨rfl, rfl⟩
abbrev S8 : Nat → Nat → Prop := fun a _ => a = 8
theorem fr_wL {S : Nat → Nat → Prop} {σ : Sg} {k i : Nat} {v : Int64} : fr S σ (wL σ k i v) := ⟨fun _ _ _ => rfl, rfl⟩
theorem m_sum38 {x b : Nat} {A : Nat → Nat} {h near : Nat} {v : Int} {ts' : List Bool} (hx : x + 2 < 2820) (hB : BT A) (hh : h < 8) (hn : near ≤ 8) : ∀ c i vs ts fu σ, rnM A h near c (vs, ts) = some ([v], ts') → CD σ b i c → b + 2 * (i + c.length) ≤ 2820 → σ.1 3 (x + 2) = nI (i + c.length) → c.length < fu → vs.length + c.length ≤ 329 → ts.length + c.length ≤ 329 → STL σ vs → BD vs → STB σ ts → NM σ A h near → MA σ A → ∃ σ', f_X12_summedUp_38 fu (nI x) (nI b) (nI vs.length) (nI ts.length) (nI i) σ = some (iL v, σ') ∧ fr S8 σ σ' ∧ -1000000 ≤ v ∧ v ≤ 1000000 := by
  intro c
  induction c with
  | nil =>
    intro i vs ts fu σ hr hC hb hx2 hf hl1 hl2 hS hD hT hN hM
    obtain ⟨f, rfl⟩ : ∃ f, fu = f + 1 := ⟨fu - 1, by omega⟩
    change some (vs, ts) = some ([v], ts') at hr
    cases hr
    have h7 : σ.2.1 7 0 = iL v := hS.1
    refine ⟨σ, ?_, fr.rfl, hD.1⟩
    simp only [List.length_nil, Nat.add_zero] at hx2 hb
    rw [f_X12_summedUp_38]
    clear hN hM hS hD hT hC
    simp (disch := omega) only [e_bnd, e_bndV, e_lt, e_grd, e_lit, e_le1, e_le2, e_lt1, e_lt2, e_eq1, e_eq2, e_inb, e_ix, nI_add, pk_mul, e_sub, e_b0, e_b1, e_bz, e_bz0, e_bz1, Bool.and_true, Bool.true_and, ↓reduceIte, not_true_eq_false, not_false_eq_true, decide_false, decide_true, and_self, and_true, true_and, and_false, false_and, Bool.false_eq_true, Bool.not_false, Bool.not_true, hx2, h7]
  | cons o c ih =>
    intro i vs ts fu σ hr hC hb hx2 hf hl1 hl2 hS hD hT hN hM
    obtain ⟨f, rfl⟩ : ∃ f, fu = f + 1 := ⟨fu - 1, by omega⟩
    obtain ⟨O, a⟩ := o
    obtain ⟨c0, c1, ca, hC'⟩ := hC
    dsimp only at c0 c1 ca
    simp only [List.length_cons] at hx2 hf hl1 hl2 hb
    change (stM A h near (O, a) (vs, ts)).bind (rnM A h near c) = some ([v], ts') at hr
    have go : ∀ vs1 ts1 σ1, stM A h near (O, a) (vs, ts) = some (vs1, ts1) → fr S8 σ σ1 → vs1.length ≤ vs.length + 1 → ts1.length ≤ ts.length + 1 → STL σ1 vs1 → BD vs1 → STB σ1 ts1 → ∃ σ', f_X12_summedUp_38 f (nI x) (nI b) (nI vs1.length) (nI ts1.length) (nI (i + 1)) σ1 = some (iL v, σ') ∧ fr S8 σ σ' ∧ -1000000 ≤ v ∧ v ≤ 1000000 := by
      intro vs1 ts1 σ1 e1 e2 e3 e4 e5 e6 e7
      rw [e1] at hr
      have nm : NM σ1 A h near := by
        obtain ⟨n0, n1, n2, n3, n4, n5, n6, n7, n8⟩ := hN
        exact ⟨by rw [e2.1 _ _ (by omega)]; exact n0, by rw [e2.1 _ _ (by omega)]; exact n1, by rw [e2.1 _ _ (by omega)]; exact n2, by rw [e2.1 _ _ (by omega)]; exact n3, by rw [e2.1 _ _ (by omega)]; exact n4, by rw [e2.1 _ _ (by omega)]; exact n5, by rw [e2.1 _ _ (by omega)]; exact n6, by rw [e2.1 _ _ (by omega)]; exact n7, by rw [e2.1 _ _ (by omega)]; exact n8⟩
      obtain ⟨u, u1, u2, u3⟩ := ih (i + 1) vs1 ts1 f σ1 hr (hC'.of (fun j _ _ => e2.1 _ _ (by omega))) (by omega) (by rw [e2.1 _ _ (by omega), hx2]; congr 1; omega) (by omega) (by omega) (by omega) e5 e6 e7 nm (hM.of e2 (by intro a j q; omega))
      exact ⟨u, u1, e2.trans u2, u3⟩
    have cs : O = 0 ∨ O = 1 ∨ O = 3 ∨ O = 4 ∨ O = 2 ∨ (5 ≤ O ∧ O < 10) ∨ (10 ≤ O ∧ O < 16) ∨ O = 16 ∨ O = 17 ∨ O = 20 ∨ O = 21 ∨ O = 22 ∨ stM A h near (O, a) (vs, ts) = none := by
      have : O = 0 ∨ O = 1 ∨ O = 3 ∨ O = 4 ∨ O = 2 ∨ (5 ≤ O ∧ O < 10) ∨ (10 ≤ O ∧ O < 16) ∨ O = 16 ∨ O = 17 ∨ O = 20 ∨ O = 21 ∨ O = 22 ∨ (O = 18 ∨ O = 19 ∨ 23 ≤ O) := by omega
      rcases this with q | q | q | q | q | q | q | q | q | q | q | q | q
      · exact Or.inl q
      · exact Or.inr (Or.inl q)
      · exact Or.inr (Or.inr (Or.inl q))
      · exact Or.inr (Or.inr (Or.inr (Or.inl q)))
      · exact Or.inr (Or.inr (Or.inr (Or.inr (Or.inl q))))
      · exact Or.inr (Or.inr (Or.inr (Or.inr (Or.inr (Or.inl q)))))
      · exact Or.inr (Or.inr (Or.inr (Or.inr (Or.inr (Or.inr (Or.inl q))))))
      · exact Or.inr (Or.inr (Or.inr (Or.inr (Or.inr (Or.inr (Or.inr (Or.inl q)))))))
      · exact Or.inr (Or.inr (Or.inr (Or.inr (Or.inr (Or.inr (Or.inr (Or.inr (Or.inl q))))))))
      · exact Or.inr (Or.inr (Or.inr (Or.inr (Or.inr (Or.inr (Or.inr (Or.inr (Or.inr (Or.inl q)))))))))
      · exact Or.inr (Or.inr (Or.inr (Or.inr (Or.inr (Or.inr (Or.inr (Or.inr (Or.inr (Or.inr (Or.inl q))))))))))
      · exact Or.inr (Or.inr (Or.inr (Or.inr (Or.inr (Or.inr (Or.inr (Or.inr (Or.inr (Or.inr (Or.inr (Or.inl q)))))))))))
      · refine Or.inr (Or.inr (Or.inr (Or.inr (Or.inr (Or.inr (Or.inr (Or.inr (Or.inr (Or.inr (Or.inr (Or.inr ?_)))))))))))
        unfold stM
        dsimp only
        rw [if_neg (by omega), if_neg (by omega), if_neg (by omega), if_neg (by omega), if_neg (by omega), if_neg (by omega), if_neg (by omega), if_neg (by omega), if_neg (by omega), if_neg (by omega), if_neg (by omega)]
    rw [f_X12_summedUp_38]
    rcases cs with rfl | rfl | rfl | rfl | rfl | q | q | q | q | rfl | rfl | rfl | q
    · by_cases ha : a ≤ 9999
      · have r := go ((a : Int) :: vs) ts (wL σ 7 vs.length (iL a)) (if_pos ha) fr_wL (by simp) (by omega) ⟨wL_hit, hS.of (fun j hj => wL_n (by omega))⟩ ⟨by omega, hD⟩ (hT.of (fun j hj => rfl))
        simp only [List.length_cons] at r
        clear go ih hN hM hS hD hT hC' hr
        simp (disch := omega) only [e_bnd, e_bndV, e_lt, e_grd, e_lit, e_le1, e_le2, e_lt1, e_lt2, e_eq1, e_eq2, e_inb, e_ix, nI_add, pk_mul, e_sub, e_b0, e_b1, e_bz, e_bz0, e_bz1, Bool.and_true, Bool.true_and, ↓reduceIte, not_true_eq_false, not_false_eq_true, decide_false, decide_true, and_self, and_true, true_and, and_false, false_and, Bool.false_eq_true, Bool.not_false, Bool.not_true, hx2, c0, c1, nI_lL, f_X12_summedUp_112, f_X12_summedUp_431]
        exact r
      · have : stM A h near (0, a) (vs, ts) = none := if_neg ha
        rw [this] at hr
        cases hr
    · by_cases ha : a ≤ 8
      · have nv := m_nm hB hN hh hn ha
        have r := go (nmV A h near a :: vs) ts (wL σ 7 vs.length (iL (nmV A h near a))) (if_pos ha) fr_wL (by simp) (by omega) ⟨wL_hit, hS.of (fun j hj => wL_n (by omega))⟩ ⟨nmV_b hB hh hn a, hD⟩ (hT.of (fun j hj => rfl))
        simp only [List.length_cons] at r
        clear go ih hN hM hS hD hT hC' hr
        simp (disch := omega) only [e_bnd, e_bndV, e_lt, e_grd, e_lit, e_le1, e_le2, e_lt1, e_lt2, e_eq1, e_eq2, e_inb, e_ix, nI_add, pk_mul, e_sub, e_b0, e_b1, e_bz, e_bz0, e_bz1, Bool.and_true, Bool.true_and, ↓reduceIte, not_true_eq_false, not_false_eq_true, decide_false, decide_true, and_self, and_true, true_and, and_false, false_and, Bool.false_eq_true, Bool.not_false, Bool.not_true, hx2, c0, c1, nv, f_X12_summedUp_112, f_X12_summedUp_431]
        exact r
      · have : stM A h near (1, a) (vs, ts) = none := if_neg ha
        rw [this] at hr
        cases hr
    · cases vs with
      | nil => cases hr
      | cons y vs =>
        cases vs with
        | nil => cases hr
        | cons w vs =>
          cases ts with
          | nil => cases hr
          | cons d ts =>
            simp only [List.length_cons] at hl1 hl2
            have hT1 := hT.1
            cases d with
            | true =>
              have r := go (w :: vs) ts σ rfl fr.rfl (by simp only [List.length_cons]; omega) (by simp only [List.length_cons]; omega) hS.2 hD.2 hT.2
              simp only [List.length_cons] at r
              clear go ih hN hM hS hD hT hC' hr
              rw [if_pos rfl] at hT1
              simp only [List.length_cons]
              simp (disch := omega) only [e_bnd, e_bndV, e_lt, e_grd, e_lit, e_le1, e_le2, e_lt1, e_lt2, e_eq1, e_eq2, e_inb, e_ix, nI_add, pk_mul, e_sub, e_b0, e_b1, e_bz, e_bz0, e_bz1, Bool.and_true, Bool.true_and, ↓reduceIte, not_true_eq_false, not_false_eq_true, decide_false, decide_true, and_self, and_true, true_and, and_false, false_and, Bool.false_eq_true, Bool.not_false, Bool.not_true, hx2, c0, c1, dec1n, hT1, f_X12_summedUp_431, Nat.add_sub_cancel]
              exact r
            | false =>
              have hS1 := hS.1
              have r := go (y :: vs) ts (wL σ 7 vs.length (iL y)) rfl fr_wL (by simp only [List.length_cons]; omega) (by simp only [List.length_cons]; omega) ⟨wL_hit, hS.2.2.of (fun j hj => wL_n (by omega))⟩ ⟨hD.1, hD.2.2⟩ (hT.2.of (fun j hj => rfl))
              simp only [List.length_cons] at r hS1
              clear go ih hN hM hS hD hT hC' hr
              rw [if_neg (by decide)] at hT1
              simp only [List.length_cons]
              simp (disch := omega) only [e_bnd, e_bndV, e_lt, e_grd, e_lit, e_le1, e_le2, e_lt1, e_lt2, e_eq1, e_eq2, e_inb, e_ix, nI_add, pk_mul, e_sub, e_b0, e_b1, e_bz, e_bz0, e_bz1, Bool.and_true, Bool.true_and, ↓reduceIte, not_true_eq_false, not_false_eq_true, decide_false, decide_true, and_self, and_true, true_and, and_false, false_and, Bool.false_eq_true, Bool.not_false, Bool.not_true, hx2, c0, c1, dec1n, hT1, hS1, f_X12_summedUp_431, Nat.add_sub_cancel]
              exact r
    · cases vs with
      | nil => cases hr
      | cons y vs =>
        simp only [List.length_cons] at hl1
        have hS1 := hS.1
        have r := go (-y :: vs) ts (wL σ 7 vs.length (iL (-y))) rfl fr_wL (by simp only [List.length_cons]; omega) (by omega) ⟨wL_hit, hS.2.of (fun j hj => wL_n (by omega))⟩ ⟨by have := hD.1; omega, hD.2⟩ (hT.of (fun j hj => rfl))
        simp only [List.length_cons] at r
        clear go ih hN hM hS hD hT hC' hr
        simp only [List.length_cons]
        simp (disch := omega) only [e_bnd, e_bndV, e_lt, e_grd, e_lit, e_le1, e_le2, e_lt1, e_lt2, e_eq1, e_eq2, e_inb, e_ix, nI_add, pk_mul, e_sub, e_b0, e_b1, e_bz, e_bz0, e_bz1, Bool.and_true, Bool.true_and, ↓reduceIte, not_true_eq_false, not_false_eq_true, decide_false, decide_true, and_self, and_true, true_and, and_false, false_and, Bool.false_eq_true, Bool.not_false, Bool.not_true, hx2, c0, c1, hS1, iL_neg, f_X12_summedUp_206, f_X12_summedUp_431, Nat.add_sub_cancel]
        exact r
    · cases vs with
      | nil => cases hr
      | cons y vs =>
        simp only [List.length_cons] at hl1
        have hS1 := hS.1
        have wv := m_warm hM hB hD.1
        have wb := on1_b hB 47 hD.1
        have r := go (wmV A y :: vs) ts (wL σ 7 vs.length (iL (wmV A y))) rfl fr_wL (by simp only [List.length_cons]; omega) (by omega) ⟨wL_hit, hS.2.of (fun j hj => wL_n (by omega))⟩ ⟨wb, hD.2⟩ (hT.of (fun j hj => rfl))
        simp only [List.length_cons] at r
        clear go ih hN hM hS hD hT hC' hr
        simp only [List.length_cons]
        simp (disch := omega) only [e_bnd, e_bndV, e_lt, e_grd, e_lit, e_le1, e_le2, e_lt1, e_lt2, e_eq1, e_eq2, e_inb, e_ix, nI_add, pk_mul, e_sub, e_b0, e_b1, e_bz, e_bz0, e_bz1, Bool.and_true, Bool.true_and, ↓reduceIte, not_true_eq_false, not_false_eq_true, decide_false, decide_true, and_self, and_true, true_and, and_false, false_and, Bool.false_eq_true, Bool.not_false, Bool.not_true, hx2, c0, c1, hS1, wv, f_X12_summedUp_206, f_X12_summedUp_431, Nat.add_sub_cancel]
        exact r
    · have sE : ∀ l, stM A h near (O, a) l = (match l with | (y :: x :: vs, ts) => some (op2 O x y :: vs, ts) | _ => none) := fun l => by
        unfold stM
        dsimp only
        rw [if_neg (by omega), if_neg (by omega), if_neg (by omega), if_neg (by omega), if_neg (by omega), if_pos q.2]
        obtain ⟨l1, l2⟩ := l
        cases l1 with
        | nil => rfl
        | cons y l1 => cases l1 <;> rfl
      cases vs with
      | nil =>
        rw [sE] at hr
        cases hr
      | cons y vs =>
        cases vs with
        | nil =>
          rw [sE] at hr
          cases hr
        | cons w vs =>
          simp only [List.length_cons] at hl1
          have hS1 := hS.1
          have hS2 := hS.2.1
          simp only [List.length_cons] at hS1
          by_cases o9 : O = 9
          · subst o9
            have ob := on2_b 40 w y
            have e9 : op2 9 w y = op2 8 w y := rfl
            have tw : f_X12_two (nI 9) (iL w) (iL y) σ = some (iL (op2 9 w y), σ) := m_two (o := 8) (by decide) hD.2.1 hD.1 σ
            have r := go (op2 9 w y :: vs) ts (wL σ 7 vs.length (iL (op2 9 w y))) (sE _) fr_wL (by simp only [List.length_cons]; omega) (by omega) ⟨wL_hit, hS.2.2.of (fun j hj => wL_n (by omega))⟩ ⟨ob, hD.2.2⟩ (hT.of (fun j hj => rfl))
            simp only [List.length_cons] at r
            clear go ih hN hM hS hD hT hC' hr sE
            simp only [List.length_cons]
            simp (disch := omega) only [e_bnd, e_bndV, e_lt, e_grd, e_lit, e_le1, e_le2, e_lt1, e_lt2, e_eq1, e_eq2, e_inb, e_ix, nI_add, pk_mul, e_sub, e_b0, e_b1, e_bz, e_bz0, e_bz1, Bool.and_true, Bool.true_and, ↓reduceIte, not_true_eq_false, not_false_eq_true, decide_false, decide_true, and_self, and_true, true_and, and_false, false_and, Bool.false_eq_true, Bool.not_false, Bool.not_true, hx2, c0, c1, dec1n, hS1, hS2, tw, f_X12_summedUp_431, Nat.add_sub_cancel]
            exact r
          · have ob := on2_b (O + 31) w y
            have e9 : on2 (O + 31) w y = op2 O w y := by
              unfold on2
              rw [if_neg (by omega), if_neg (by omega), if_neg (by omega)]
              rfl
            rw [e9] at ob
            have tw := m_two (o := O) (by omega) hD.2.1 hD.1 σ
            have r := go (op2 O w y :: vs) ts (wL σ 7 vs.length (iL (op2 O w y))) (sE _) fr_wL (by simp only [List.length_cons]; omega) (by omega) ⟨wL_hit, hS.2.2.of (fun j hj => wL_n (by omega))⟩ ⟨ob, hD.2.2⟩ (hT.of (fun j hj => rfl))
            simp only [List.length_cons] at r
            clear go ih hN hM hS hD hT hC' hr sE e9
            simp only [List.length_cons]
            simp (disch := omega) only [e_bnd, e_bndV, e_lt, e_grd, e_lit, e_le1, e_le2, e_lt1, e_lt2, e_eq1, e_eq2, e_inb, e_ix, nI_add, pk_mul, e_sub, e_b0, e_b1, e_bz, e_bz0, e_bz1, Bool.and_true, Bool.true_and, ↓reduceIte, not_true_eq_false, not_false_eq_true, decide_false, decide_true, and_self, and_true, true_and, and_false, false_and, Bool.false_eq_true, Bool.not_false, Bool.not_true, hx2, c0, c1, dec1n, hS1, hS2, tw, f_X12_summedUp_431, Nat.add_sub_cancel]
            exact r
    · have sE : ∀ l, stM A h near (O, a) l = (match l with | (y :: x :: vs, ts) => some (vs, cmW O x y :: ts) | _ => none) := fun l => by
        unfold stM
        dsimp only
        rw [if_neg (by omega), if_neg (by omega), if_neg (by omega), if_neg (by omega), if_neg (by omega), if_neg (by omega), if_pos q.2]
        obtain ⟨l1, l2⟩ := l
        cases l1 with
        | nil => rfl
        | cons y l1 => cases l1 <;> rfl
      cases vs with
      | nil =>
        rw [sE] at hr
        cases hr
      | cons y vs =>
        cases vs with
        | nil =>
          rw [sE] at hr
          cases hr
        | cons w vs =>
          simp only [List.length_cons] at hl1
          have hS1 := hS.1
          have hS2 := hS.2.1
          simp only [List.length_cons] at hS1
          have tw := m_asked (o := O) (by omega) hD.2.1 hD.1 σ
          have r := go vs (cmW O w y :: ts) (wI σ 8 ts.length (if cmW O w y = true then nI 1 else nI 0)) (sE _) (fr.w rfl) (by simp only [List.length_cons]; omega) (by simp only [List.length_cons]; omega) (hS.2.2.of (fun j hj => rfl)) hD.2.2 ⟨e_hit, hT.of (fun j hj => e_ne2 (by omega))⟩
          simp only [List.length_cons] at r
          clear go ih hN hM hS hD hT hC' hr sE
          simp only [List.length_cons]
          simp (disch := omega) only [e_bnd, e_bndV, e_lt, e_grd, e_lit, e_le1, e_le2, e_lt1, e_lt2, e_eq1, e_eq2, e_inb, e_ix, nI_add, pk_mul, e_sub, e_b0, e_b1, e_bz, e_bz0, e_bz1, Bool.and_true, Bool.true_and, ↓reduceIte, not_true_eq_false, not_false_eq_true, decide_false, decide_true, and_self, and_true, true_and, and_false, false_and, Bool.false_eq_true, Bool.not_false, Bool.not_true, hx2, c0, c1, dec1n, hS1, hS2, tw, f_X12_summedUp_274, f_X12_summedUp_355, f_X12_summedUp_431, show ∀ n : Nat, n + 1 + 1 - 2 = n from fun n => by omega]
          exact r
    · subst q
      cases vs with
      | nil => cases hr
      | cons y vs =>
        simp only [List.length_cons] at hl1
        have hS1 := hS.1
        have oc : (lg_cmp (jlrem (iL y) 2) 0 = nI 0) = (y % 2 = 0) := m_oddc hD.1
        have r := go vs ((decide (y % 2 = 0) == decide (16 = 17)) :: ts) (wI σ 8 ts.length (if (decide (y % 2 = 0) == decide (16 = 17)) = true then nI 1 else nI 0)) rfl (fr.w rfl) (by simp only [List.length_cons]; omega) (by simp only [List.length_cons]; omega) (hS.2.of (fun j hj => rfl)) hD.2 ⟨e_hit, hT.of (fun j hj => e_ne2 (by omega))⟩
        simp only [List.length_cons] at r
        clear go ih hN hM hS hD hT hC' hr
        simp only [List.length_cons]
        by_cases w : y % 2 = 0
        · rw [decide_eq_true w, show (if (true == decide (16 = 17)) = true then nI 1 else nI 0) = nI 0 from rfl] at r
          simp (disch := omega) only [e_bnd, e_bndV, e_lt, e_grd, e_lit, e_le1, e_le2, e_lt1, e_lt2, e_eq1, e_eq2, e_inb, e_ix, nI_add, pk_mul, e_sub, e_b0, e_b1, e_bz, e_bz0, e_bz1, Bool.and_true, Bool.true_and, ↓reduceIte, not_true_eq_false, not_false_eq_true, decide_false, decide_true, and_self, and_true, true_and, and_false, false_and, Bool.false_eq_true, Bool.not_false, Bool.not_true, hx2, c0, c1, hS1, oc, w, show (!decide ((2 : Int64) = 0)) = true from by decide, f_X12_summedUp_274, f_X12_summedUp_311, f_X12_summedUp_323, f_X12_summedUp_355, f_X12_summedUp_431, Nat.add_sub_cancel]
          exact r
        · rw [decide_eq_false w, show (if (false == decide (16 = 17)) = true then nI 1 else nI 0) = nI 1 from rfl] at r
          simp (disch := omega) only [e_bnd, e_bndV, e_lt, e_grd, e_lit, e_le1, e_le2, e_lt1, e_lt2, e_eq1, e_eq2, e_inb, e_ix, nI_add, pk_mul, e_sub, e_b0, e_b1, e_bz, e_bz0, e_bz1, Bool.and_true, Bool.true_and, ↓reduceIte, not_true_eq_false, not_false_eq_true, decide_false, decide_true, and_self, and_true, true_and, and_false, false_and, Bool.false_eq_true, Bool.not_false, Bool.not_true, hx2, c0, c1, hS1, oc, w, show (!decide ((2 : Int64) = 0)) = true from by decide, f_X12_summedUp_274, f_X12_summedUp_311, f_X12_summedUp_323, f_X12_summedUp_355, f_X12_summedUp_431, Nat.add_sub_cancel]
          exact r
    · subst q
      cases vs with
      | nil => cases hr
      | cons y vs =>
        simp only [List.length_cons] at hl1
        have hS1 := hS.1
        have oc : (lg_cmp (jlrem (iL y) 2) 0 = nI 0) = (y % 2 = 0) := m_oddc hD.1
        have r := go vs ((decide (y % 2 = 0) == decide (17 = 17)) :: ts) (wI σ 8 ts.length (if (decide (y % 2 = 0) == decide (17 = 17)) = true then nI 1 else nI 0)) rfl (fr.w rfl) (by simp only [List.length_cons]; omega) (by simp only [List.length_cons]; omega) (hS.2.of (fun j hj => rfl)) hD.2 ⟨e_hit, hT.of (fun j hj => e_ne2 (by omega))⟩
        simp only [List.length_cons] at r
        clear go ih hN hM hS hD hT hC' hr
        simp only [List.length_cons]
        by_cases w : y % 2 = 0
        · rw [decide_eq_true w, show (if (true == decide True) = true then nI 1 else nI 0) = nI 1 from rfl] at r
          simp (disch := omega) only [e_bnd, e_bndV, e_lt, e_grd, e_lit, e_le1, e_le2, e_lt1, e_lt2, e_eq1, e_eq2, e_inb, e_ix, nI_add, pk_mul, e_sub, e_b0, e_b1, e_bz, e_bz0, e_bz1, Bool.and_true, Bool.true_and, ↓reduceIte, not_true_eq_false, not_false_eq_true, decide_false, decide_true, and_self, and_true, true_and, and_false, false_and, Bool.false_eq_true, Bool.not_false, Bool.not_true, hx2, c0, c1, hS1, oc, w, show (!decide ((2 : Int64) = 0)) = true from by decide, f_X12_summedUp_274, f_X12_summedUp_311, f_X12_summedUp_323, f_X12_summedUp_355, f_X12_summedUp_431, Nat.add_sub_cancel]
          exact r
        · rw [decide_eq_false w, show (if (false == decide True) = true then nI 1 else nI 0) = nI 0 from rfl] at r
          simp (disch := omega) only [e_bnd, e_bndV, e_lt, e_grd, e_lit, e_le1, e_le2, e_lt1, e_lt2, e_eq1, e_eq2, e_inb, e_ix, nI_add, pk_mul, e_sub, e_b0, e_b1, e_bz, e_bz0, e_bz1, Bool.and_true, Bool.true_and, ↓reduceIte, not_true_eq_false, not_false_eq_true, decide_false, decide_true, and_self, and_true, true_and, and_false, false_and, Bool.false_eq_true, Bool.not_false, Bool.not_true, hx2, c0, c1, hS1, oc, w, show (!decide ((2 : Int64) = 0)) = true from by decide, f_X12_summedUp_274, f_X12_summedUp_311, f_X12_summedUp_323, f_X12_summedUp_355, f_X12_summedUp_431, Nat.add_sub_cancel]
          exact r
    · cases ts with
      | nil => cases vs <;> cases hr
      | cons d ts =>
        simp only [List.length_cons] at hl2
        have hT1 := hT.1
        have r := go vs ((!d) :: ts) (wI σ 8 ts.length (if (!d) = true then nI 1 else nI 0)) (by cases vs <;> rfl) (fr.w rfl) (by omega) (by simp only [List.length_cons]; omega) (hS.of (fun j hj => rfl)) hD ⟨e_hit, hT.2.of (fun j hj => e_ne2 (by omega))⟩
        simp only [List.length_cons] at r
        clear go ih hN hM hS hD hT hC' hr
        simp only [List.length_cons]
        cases d with
        | true =>
          rw [if_pos rfl] at hT1
          simp (disch := omega) only [e_bnd, e_bndV, e_lt, e_grd, e_lit, e_le1, e_le2, e_lt1, e_lt2, e_eq1, e_eq2, e_inb, e_ix, nI_add, pk_mul, e_sub, e_b0, e_b1, e_bz, e_bz0, e_bz1, Bool.and_true, Bool.true_and, ↓reduceIte, not_true_eq_false, not_false_eq_true, decide_false, decide_true, and_self, and_true, true_and, and_false, false_and, Bool.false_eq_true, Bool.not_false, Bool.not_true, hx2, c0, c1, hT1, f_X12_summedUp_394, f_X12_summedUp_431, Nat.add_sub_cancel]
          exact r
        | false =>
          rw [if_neg (by decide)] at hT1
          simp (disch := omega) only [e_bnd, e_bndV, e_lt, e_grd, e_lit, e_le1, e_le2, e_lt1, e_lt2, e_eq1, e_eq2, e_inb, e_ix, nI_add, pk_mul, e_sub, e_b0, e_b1, e_bz, e_bz0, e_bz1, Bool.and_true, Bool.true_and, ↓reduceIte, not_true_eq_false, not_false_eq_true, decide_false, decide_true, and_self, and_true, true_and, and_false, false_and, Bool.false_eq_true, Bool.not_false, Bool.not_true, hx2, c0, c1, hT1, f_X12_summedUp_394, f_X12_summedUp_431, Nat.add_sub_cancel]
          exact r
    · cases ts with
      | nil => cases vs <;> cases hr
      | cons e ts =>
        cases ts with
        | nil => cases vs <;> cases hr
        | cons d ts =>
          simp only [List.length_cons] at hl2
          have hT1 := hT.1
          have hT2 := hT.2.1
          simp only [List.length_cons] at hT1
          have r := go vs ((d && e) :: ts) (wI σ 8 ts.length (if (d && e) = true then nI 1 else nI 0)) (by cases vs <;> rfl) (fr.w rfl) (by omega) (by simp only [List.length_cons]; omega) (hS.of (fun j hj => rfl)) hD ⟨e_hit, hT.2.2.of (fun j hj => e_ne2 (by omega))⟩
          simp only [List.length_cons] at r
          clear go ih hN hM hS hD hT hC' hr
          simp only [List.length_cons]
          cases d with
          | true =>
            cases e with
            | true =>
              rw [if_pos rfl] at hT1
              rw [if_pos rfl] at hT2
              rw [show (if (true && true) = true then nI 1 else nI 0) = nI 1 from rfl] at r
              simp (disch := omega) only [e_bnd, e_bndV, e_lt, e_grd, e_lit, e_le1, e_le2, e_lt1, e_lt2, e_eq1, e_eq2, e_inb, e_ix, nI_add, pk_mul, e_sub, e_b0, e_b1, e_bz, e_bz0, e_bz1, Bool.and_true, Bool.true_and, ↓reduceIte, not_true_eq_false, not_false_eq_true, decide_false, decide_true, and_self, and_true, true_and, and_false, false_and, Bool.false_eq_true, Bool.not_false, Bool.not_true, hx2, c0, c1, dec1n, hT1, hT2, f_X12_joined, f_X12_joined_18, f_X12_joined_30, f_X12_joined_35, f_X12_summedUp_431, Nat.add_sub_cancel]
              exact r
            | false =>
              rw [if_neg (by decide)] at hT1
              rw [if_pos rfl] at hT2
              rw [show (if (true && false) = true then nI 1 else nI 0) = nI 0 from rfl] at r
              simp (disch := omega) only [e_bnd, e_bndV, e_lt, e_grd, e_lit, e_le1, e_le2, e_lt1, e_lt2, e_eq1, e_eq2, e_inb, e_ix, nI_add, pk_mul, e_sub, e_b0, e_b1, e_bz, e_bz0, e_bz1, Bool.and_true, Bool.true_and, ↓reduceIte, not_true_eq_false, not_false_eq_true, decide_false, decide_true, and_self, and_true, true_and, and_false, false_and, Bool.false_eq_true, Bool.not_false, Bool.not_true, hx2, c0, c1, dec1n, hT1, hT2, f_X12_joined, f_X12_joined_18, f_X12_joined_30, f_X12_joined_35, f_X12_summedUp_431, Nat.add_sub_cancel]
              exact r
          | false =>
            cases e with
            | true =>
              rw [if_pos rfl] at hT1
              rw [if_neg (by decide)] at hT2
              rw [show (if (false && true) = true then nI 1 else nI 0) = nI 0 from rfl] at r
              simp (disch := omega) only [e_bnd, e_bndV, e_lt, e_grd, e_lit, e_le1, e_le2, e_lt1, e_lt2, e_eq1, e_eq2, e_inb, e_ix, nI_add, pk_mul, e_sub, e_b0, e_b1, e_bz, e_bz0, e_bz1, Bool.and_true, Bool.true_and, ↓reduceIte, not_true_eq_false, not_false_eq_true, decide_false, decide_true, and_self, and_true, true_and, and_false, false_and, Bool.false_eq_true, Bool.not_false, Bool.not_true, hx2, c0, c1, dec1n, hT1, hT2, f_X12_joined, f_X12_joined_18, f_X12_joined_30, f_X12_joined_35, f_X12_summedUp_431, Nat.add_sub_cancel]
              exact r
            | false =>
              rw [if_neg (by decide)] at hT1
              rw [if_neg (by decide)] at hT2
              rw [show (if (false && false) = true then nI 1 else nI 0) = nI 0 from rfl] at r
              simp (disch := omega) only [e_bnd, e_bndV, e_lt, e_grd, e_lit, e_le1, e_le2, e_lt1, e_lt2, e_eq1, e_eq2, e_inb, e_ix, nI_add, pk_mul, e_sub, e_b0, e_b1, e_bz, e_bz0, e_bz1, Bool.and_true, Bool.true_and, ↓reduceIte, not_true_eq_false, not_false_eq_true, decide_false, decide_true, and_self, and_true, true_and, and_false, false_and, Bool.false_eq_true, Bool.not_false, Bool.not_true, hx2, c0, c1, dec1n, hT1, hT2, f_X12_joined, f_X12_joined_18, f_X12_joined_30, f_X12_joined_35, f_X12_summedUp_431, Nat.add_sub_cancel]
              exact r
    · cases ts with
      | nil => cases vs <;> cases hr
      | cons e ts =>
        cases ts with
        | nil => cases vs <;> cases hr
        | cons d ts =>
          simp only [List.length_cons] at hl2
          have hT1 := hT.1
          have hT2 := hT.2.1
          simp only [List.length_cons] at hT1
          have r := go vs ((d || e) :: ts) (wI σ 8 ts.length (if (d || e) = true then nI 1 else nI 0)) (by cases vs <;> rfl) (fr.w rfl) (by omega) (by simp only [List.length_cons]; omega) (hS.of (fun j hj => rfl)) hD ⟨e_hit, hT.2.2.of (fun j hj => e_ne2 (by omega))⟩
          simp only [List.length_cons] at r
          clear go ih hN hM hS hD hT hC' hr
          simp only [List.length_cons]
          cases d with
          | true =>
            cases e with
            | true =>
              rw [if_pos rfl] at hT1
              rw [if_pos rfl] at hT2
              rw [show (if (true || true) = true then nI 1 else nI 0) = nI 1 from rfl] at r
              simp (disch := omega) only [e_bnd, e_bndV, e_lt, e_grd, e_lit, e_le1, e_le2, e_lt1, e_lt2, e_eq1, e_eq2, e_inb, e_ix, nI_add, pk_mul, e_sub, e_b0, e_b1, e_bz, e_bz0, e_bz1, Bool.and_true, Bool.true_and, ↓reduceIte, not_true_eq_false, not_false_eq_true, decide_false, decide_true, and_self, and_true, true_and, and_false, false_and, Bool.false_eq_true, Bool.not_false, Bool.not_true, hx2, c0, c1, dec1n, hT1, hT2, f_X12_joined, f_X12_joined_18, f_X12_joined_30, f_X12_joined_35, f_X12_summedUp_431, Nat.add_sub_cancel]
              exact r
            | false =>
              rw [if_neg (by decide)] at hT1
              rw [if_pos rfl] at hT2
              rw [show (if (true || false) = true then nI 1 else nI 0) = nI 1 from rfl] at r
              simp (disch := omega) only [e_bnd, e_bndV, e_lt, e_grd, e_lit, e_le1, e_le2, e_lt1, e_lt2, e_eq1, e_eq2, e_inb, e_ix, nI_add, pk_mul, e_sub, e_b0, e_b1, e_bz, e_bz0, e_bz1, Bool.and_true, Bool.true_and, ↓reduceIte, not_true_eq_false, not_false_eq_true, decide_false, decide_true, and_self, and_true, true_and, and_false, false_and, Bool.false_eq_true, Bool.not_false, Bool.not_true, hx2, c0, c1, dec1n, hT1, hT2, f_X12_joined, f_X12_joined_18, f_X12_joined_30, f_X12_joined_35, f_X12_summedUp_431, Nat.add_sub_cancel]
              exact r
          | false =>
            cases e with
            | true =>
              rw [if_pos rfl] at hT1
              rw [if_neg (by decide)] at hT2
              rw [show (if (false || true) = true then nI 1 else nI 0) = nI 1 from rfl] at r
              simp (disch := omega) only [e_bnd, e_bndV, e_lt, e_grd, e_lit, e_le1, e_le2, e_lt1, e_lt2, e_eq1, e_eq2, e_inb, e_ix, nI_add, pk_mul, e_sub, e_b0, e_b1, e_bz, e_bz0, e_bz1, Bool.and_true, Bool.true_and, ↓reduceIte, not_true_eq_false, not_false_eq_true, decide_false, decide_true, and_self, and_true, true_and, and_false, false_and, Bool.false_eq_true, Bool.not_false, Bool.not_true, hx2, c0, c1, dec1n, hT1, hT2, f_X12_joined, f_X12_joined_18, f_X12_joined_30, f_X12_joined_35, f_X12_summedUp_431, Nat.add_sub_cancel]
              exact r
            | false =>
              rw [if_neg (by decide)] at hT1
              rw [if_neg (by decide)] at hT2
              rw [show (if (false || false) = true then nI 1 else nI 0) = nI 0 from rfl] at r
              simp (disch := omega) only [e_bnd, e_bndV, e_lt, e_grd, e_lit, e_le1, e_le2, e_lt1, e_lt2, e_eq1, e_eq2, e_inb, e_ix, nI_add, pk_mul, e_sub, e_b0, e_b1, e_bz, e_bz0, e_bz1, Bool.and_true, Bool.true_and, ↓reduceIte, not_true_eq_false, not_false_eq_true, decide_false, decide_true, and_self, and_true, true_and, and_false, false_and, Bool.false_eq_true, Bool.not_false, Bool.not_true, hx2, c0, c1, dec1n, hT1, hT2, f_X12_joined, f_X12_joined_18, f_X12_joined_30, f_X12_joined_35, f_X12_summedUp_431, Nat.add_sub_cancel]
              exact r
    · rw [q] at hr
      cases hr
/-- what is needed of the reference's TEXT t -/
def LWM (σ : Sg) (t n : Nat) (ck : Nat → Nat) (Lw : Nat → Option LV) : Prop := t < 4 ∧ n ≤ 24 ∧ σ.1 3 (705 * t) = nI n ∧ (∀ k, k < n → σ.1 3 (705 * t + 1 + 4 * k) = nI (ck k) ∧ ck k ≤ 11) ∧ ∀ l, l < 3 → (Lw l = none ∧ ∀ k, k < n → ck k ≠ l) ∨ ∃ v k s c, Lw l = some v ∧ k < n ∧ ck k = l ∧ (∀ j, j < k → ck j ≠ l) ∧ σ.1 3 (705 * t + 1 + 4 * k + 1) = nI s ∧ σ.1 3 (705 * t + 1 + 4 * k + 2) = nI (s + c.length) ∧ CD σ (705 * t + 97) s c ∧ GN c v ∧ s + c.length ≤ 304
theorem SAY_of {σ0 : Sg} {t n : Nat} {ck : Nat → Nat} {Lw : Nat → Option LV} (L : LWM σ0 t n ck Lw) : SAY σ0 (nI t) Lw := by
  intro σ A l h near wo e0 hM hB hN hl hh hn hw
  obtain ⟨t4, n24, l1, l2, l3⟩ := L
  have eR : ∀ j, 705 * t ≤ j → j < 705 * t + 705 → σ.1 3 j = σ0.1 3 j := fun j h1 h2 => e0 j ⟨t, rfl, t4, h1, h2⟩
  have c8 := hB.1
  have r0 : σ.1 3 (705 * t) = nI n := by rw [eR _ (by omega) (by omega)]; exact l1
  have rk1 : ∀ k, k < n → σ.1 3 (705 * t + 1 + 4 * k) = nI (ck k) := fun k hk => by rw [eR _ (by omega) (by omega)]; exact (l2 k hk).1
  have tl : ltop l ≤ 9999 := by
    unfold ltop
    repeat' split
    all_goals omega
  have end_ : ∀ τ, ∃ σ', f_X12_says_63 (nI wo) (nI (ltop l)) τ = some (nI (min wo (ltop l)), σ') ∧ fr (fun a _ => a = 8) τ σ' := fun τ => by
    refine ⟨τ, ?_, fr.rfl⟩
    unfold f_X12_says_63
    rw [show (0 : Int32) = nI 0 from rfl, m_cutN (by omega) (by omega), e_bnd]
  rcases l3 l hl with ⟨q1, q2⟩ | ⟨v, k0, s, c, q1, q2, q3, q4, q5, q6, q7, q8, q9⟩
  · rw [q1]
    obtain ⟨u, u1, u2⟩ := end_ σ
    refine ⟨u, ?_, u2⟩
    have main : f_X12_says_3 FU (nI t) (nI l) (nI wo) (nI (ltop l)) (nI 0) σ = some (nI (min wo (ltop l)), u) := by
      refine lp (fun fu (q : Int32) => f_X12_says_3 fu (nI t) (nI l) (nI wo) (nI (ltop l)) q σ) (fun i => nI i) n (fun i hi fu => ?_) (fun fu => ?_) FU (by unfold FU; omega)
      · have rk := rk1 i hi
        have cb := (l2 i hi).2
        have cn := q2 i hi
        rw [f_X12_says_3]
        clear hM hN hB eR e0 l2 l3 rk1 q2 end_ u1 u2
        simp (disch := omega) only [e_bnd, e_bndV, e_lt, e_grd, e_lit, e_le1, e_le2, e_lt1, e_lt2, e_eq1, e_eq2, e_inb, e_ix, nI_add, pk_mul, e_sub, e_b0, e_b1, e_bz, e_bz0, e_bz1, Bool.and_true, Bool.true_and, ↓reduceIte, not_true_eq_false, not_false_eq_true, decide_false, decide_true, and_self, and_true, true_and, and_false, false_and, Bool.false_eq_true, Bool.not_false, Bool.not_true, r0, rk]
      · rw [f_X12_says_3]
        clear hM hN hB eR e0 l2 l3 rk1 q2 end_ u2
        simp (disch := omega) only [e_bnd, e_bndV, e_lt, e_grd, e_lit, e_le1, e_le2, e_lt1, e_lt2, e_eq1, e_eq2, e_inb, e_ix, nI_add, pk_mul, e_sub, e_b0, e_b1, e_bz, e_bz0, e_bz1, Bool.and_true, Bool.true_and, ↓reduceIte, not_true_eq_false, not_false_eq_true, decide_false, decide_true, and_self, and_true, true_and, and_false, false_and, Bool.false_eq_true, Bool.not_false, Bool.not_true, r0]
        exact u1
    exact main
  · rw [q1]
    have hN' := hN
    obtain ⟨u, u1, u2, u3⟩ := m_sum38 (x := 705 * t + 1 + 4 * k0) (b := 705 * t + 97) (A := A) (h := h) (near := near) (v := v A h near) (ts' := []) (by omega) hB (by omega) hn c s [] [] FU σ (q8 A h near [] []) (q7.of (fun j _ _ => eR j (by omega) (by omega))) (by omega) (by rw [eR _ (by omega) (by omega)]; exact q6) (by unfold FU; omega) (by simp only [List.length_nil]; omega) (by simp only [List.length_nil]; omega) trivial trivial trivial hN hM
    refine ⟨u, ?_, u2⟩
    have q5' : σ.1 3 (705 * t + 1 + 4 * k0 + 1) = nI s := by rw [eR _ (by omega) (by omega)]; exact q5
    have u1' : f_X12_summedUp_38 FU (nI (705 * t + 1 + 4 * k0)) (nI (705 * t + 97)) (nI 0) (nI 0) (nI s) σ = some (iL (v A h near), u) := u1
    have su : f_X12_summedUp (nI t) (nI k0) σ = some (iL (v A h near), u) := by
      unfold f_X12_summedUp
      clear hM hN hN' hB eR e0 l2 l3 rk1 q4 end_ u2 q7 u1
      simp (disch := omega) only [e_bnd, e_bndV, e_lt, e_grd, e_lit, e_le1, e_le2, e_lt1, e_lt2, e_eq1, e_eq2, e_inb, e_ix, nI_add, pk_mul, e_sub, e_b0, e_b1, e_bz, e_bz0, e_bz1, Bool.and_true, Bool.true_and, ↓reduceIte, not_true_eq_false, not_false_eq_true, decide_false, decide_true, and_self, and_true, true_and, and_false, false_and, Bool.false_eq_true, Bool.not_false, Bool.not_true, q5']
      exact u1'
    have main : f_X12_says_3 FU (nI t) (nI l) (nI wo) (nI (ltop l)) (nI 0) σ = some (nI (min (v A h near).toNat (ltop l)), u) := by
      refine lp (fun fu (q : Int32) => f_X12_says_3 fu (nI t) (nI l) (nI wo) (nI (ltop l)) q σ) (fun i => nI i) k0 (fun i hi fu => ?_) (fun fu => ?_) FU (by unfold FU; omega)
      · have rk := rk1 i (by omega)
        have cb := (l2 i (by omega)).2
        have cn := q4 i hi
        rw [f_X12_says_3]
        clear hM hN hN' hB eR e0 l2 l3 rk1 q4 end_ u1 u2 q7 su u1'
        simp (disch := omega) only [e_bnd, e_bndV, e_lt, e_grd, e_lit, e_le1, e_le2, e_lt1, e_lt2, e_eq1, e_eq2, e_inb, e_ix, nI_add, pk_mul, e_sub, e_b0, e_b1, e_bz, e_bz0, e_bz1, Bool.and_true, Bool.true_and, ↓reduceIte, not_true_eq_false, not_false_eq_true, decide_false, decide_true, and_self, and_true, true_and, and_false, false_and, Bool.false_eq_true, Bool.not_false, Bool.not_true, r0, rk]
      · have rk := rk1 k0 q2
        have mc := m_cut (z := v A h near) (m := ltop l) (by omega) (by omega) u
        rw [f_X12_says_3]
        rw [q3] at rk
        clear hM hN hN' hB eR e0 l2 l3 rk1 q4 end_ u1 u2 q7 u1'
        simp (disch := omega) only [e_bnd, e_bndV, e_lt, e_grd, e_lit, e_le1, e_le2, e_lt1, e_lt2, e_eq1, e_eq2, e_inb, e_ix, nI_add, pk_mul, e_sub, e_b0, e_b1, e_bz, e_bz0, e_bz1, Bool.and_true, Bool.true_and, ↓reduceIte, not_true_eq_false, not_false_eq_true, decide_false, decide_true, and_self, and_true, true_and, and_false, false_and, Bool.false_eq_true, Bool.not_false, Bool.not_true, r0, rk, su, mc]
    exact main
