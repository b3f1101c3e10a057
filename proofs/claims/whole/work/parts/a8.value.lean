/-! text: the class works its code out -/
def STK (σ : Sg) : List Int → Prop
  | [] => True
  | x :: s => σ.1 48 s.length = iI x ∧ STK σ s
def BD : List Int → Prop
  | [] => True
  | x :: s => (-1000000 ≤ x ∧ x ≤ 1000000) ∧ BD s
def ST (σ : Sg) (s : List Int) : Prop := σ.1 47 1 = nI s.length ∧ STK σ s ∧ BD s
abbrev S48 : Nat → Nat → Prop := fun a _ => a = 47 ∨ a = 48
theorem STK.of {σ σ' : Sg} : ∀ {s : List Int}, STK σ s → (∀ j, j < s.length → σ'.1 48 j = σ.1 48 j) → STK σ' s
  | [], _, _ => trivial
  | x :: s, h, e => ⟨by rw [e _ (by simp only [List.length_cons]; omega)]; exact h.1, h.2.of (fun j hj => e j (by simp only [List.length_cons]; omega))⟩
theorem x_push {σ : Sg} {s : List Int} {x : Int} (h : ST σ s) (hl : s.length < 300) (hx : -1000000 ≤ x ∧ x ≤ 1000000) : ∃ σ', f_X1_push (iI x) σ = some σ' ∧ fr S48 σ σ' ∧ ST σ' (x :: s) := by
  obtain ⟨h1, h2, h3⟩ := h
  refine ⟨wI (wI σ 48 s.length (iI x)) 47 1 (nI (s.length + 1)), ?_, (fr.w (by omega)).trans (fr.w (by omega)), e_hit, ⟨?_, ?_⟩, hx, h3⟩
  · unfold f_X1_push f_X1_push_39
    clear h2 h3
    simp (disch := omega) only [e_bnd, e_bndV, e_lt, e_grd, e_lit, e_le1, e_le2, e_lt1, e_lt2, e_eq1, e_eq2, e_inb, e_ix, nI_add, pk_mul, e_sub, e_b0, e_b1, e_bz, e_bz0, e_bz1, Bool.and_true, Bool.true_and, ↓reduceIte, not_true_eq_false, not_false_eq_true, decide_false, decide_true, and_self, and_true, true_and, and_false, false_and, Bool.false_eq_true, Bool.not_false, Bool.not_true, h1, e_ne1]
  · rw [e_ne1 (by decide), e_hit]
  · exact h2.of (fun j hj => by rw [e_ne1 (by decide), e_ne2 (by omega)])
theorem x_pop {σ : Sg} {s : List Int} {x : Int} (h : ST σ (x :: s)) (hl : s.length < 300) : f_X1_pop σ = some (iI x, wI σ 47 1 (nI s.length)) ∧ ST (wI σ 47 1 (nI s.length)) s ∧ (-1000000 ≤ x ∧ x ≤ 1000000) := by
  obtain ⟨h1, h2, h3⟩ := h
  obtain ⟨k1, k2⟩ := h2
  have h1' : σ.1 47 1 = nI (s.length + 1) := h1
  refine ⟨?_, ⟨e_hit, k2.of (fun j hj => e_ne1 (by decide)), h3.2⟩, h3.1⟩
  unfold f_X1_pop
  clear h1 k2 h3
  simp (disch := omega) only [e_bnd, e_bndV, e_lt, e_grd, e_lit, e_le1, e_le2, e_lt1, e_lt2, e_eq1, e_eq2, e_inb, e_ix, nI_add, pk_mul, e_sub, e_b0, e_b1, e_bz, e_bz0, e_bz1, Bool.and_true, Bool.true_and, ↓reduceIte, not_true_eq_false, not_false_eq_true, decide_false, decide_true, and_self, and_true, true_and, and_false, false_and, Bool.false_eq_true, Bool.not_false, Bool.not_true, h1', e_hit, Nat.add_sub_cancel, e_ne1, k1]
theorem clampL {z : Int} (h : -1099511627776 ≤ z ∧ z ≤ 1099511627776) : (lmax (-1000000) (lmin 1000000 (iL z))).toInt32 = iI (clp z) := by
  have a : lmin 1000000 (iL z) = iL (min 1000000 z) := by
    unfold lmin
    have q : (iL z < (1000000 : Int64)) = (z < 1000000) := iL_lt (b := 1000000) (by omega) (by decide)
    by_cases y : z < 1000000
    · rw [if_pos (q ▸ y), show min 1000000 z = z by omega]
    · rw [if_neg (fun w => y (q ▸ w)), show min 1000000 z = 1000000 by omega]
      rfl
  have b : lmax (-1000000) (iL (min 1000000 z)) = iL (clp z) := by
    unfold lmax
    have q : (iL (min 1000000 z) < (-1000000 : Int64)) = (min 1000000 z < -1000000) := iL_lt (b := -1000000) (by omega) (by decide)
    unfold clp
    by_cases y : min 1000000 z < -1000000
    · rw [if_pos (q ▸ y), show max (-1000000) (min 1000000 z) = -1000000 by omega]
      rfl
    · rw [if_neg (fun w => y (q ▸ w)), show max (-1000000) (min 1000000 z) = min 1000000 z by omega]
  rw [a, b]
  exact iL_i (by unfold clp; omega)
theorem clp_b (z : Int) : -1000000 ≤ clp z ∧ clp z ≤ 1000000 := by unfold clp; omega
theorem clp_id {z : Int} (h : -1000000 ≤ z ∧ z ≤ 1000000) : clp z = z := by unfold clp; omega
theorem on2_b (o : Nat) (x y : Int) : -1000000 ≤ on2 o x y ∧ on2 o x y ≤ 1000000 := by
  unfold on2 op2
  have c1 := clp_b (x + y)
  have c2 := clp_b (x - y)
  have c3 := clp_b (x * y)
  have c4 := clp_b (x.tdiv y)
  repeat' split
  all_goals omega
theorem tdiv_b {x y : Int} (h : -1000000 ≤ x ∧ x ≤ 1000000) : -1000000 ≤ x.tdiv y ∧ x.tdiv y ≤ 1000000 := by
  have a : (x.tdiv y).natAbs ≤ x.natAbs := by
    rw [Int.natAbs_tdiv]
    exact Nat.div_le_self _ _
  omega
theorem mul_b {x y : Int} (h : -1000000 ≤ x ∧ x ≤ 1000000) (g : -1000000 ≤ y ∧ y ≤ 1000000) : -1099511627776 ≤ x * y ∧ x * y ≤ 1099511627776 := by
  have a := Int.natAbs_mul x y
  have b : x.natAbs * y.natAbs ≤ 1000000 * 1000000 := Nat.mul_le_mul (by omega) (by omega)
  omega
theorem x_two {x y : Int} {o : Nat} (ho : 28 ≤ o ∧ o ≤ 39) (hx : -1000000 ≤ x ∧ x ≤ 1000000) (hy : -1000000 ≤ y ∧ y ≤ 1000000) (hb : ¬ (o < 30 ∧ ¬ ((x = 0 ∨ x = 1) ∧ (y = 0 ∨ y = 1)))) (σ : Sg) : f_X1_ofTwo (nI o) (iI x) (iI y) σ = some (iI (on2 o x y), σ) := by
  have ly := iI_l (z := x) (by omega)
  have lz := iI_l (z := y) (by omega)
  have z1 : f_X1_ofTwo_209 1 σ = some (iI 1, σ) := rfl
  have z0 : f_X1_ofTwo_209 0 σ = some (iI 0, σ) := rfl
  have le1 : (iI y ≤ iI x) = (y ≤ x) := iI_le (by omega) (by omega)
  have lt1 : (iI y < iI x) = (y < x) := iI_lt (by omega) (by omega)
  have le2 : (iI x ≤ iI y) = (x ≤ y) := iI_le (by omega) (by omega)
  have lt2 : (iI x < iI y) = (x < y) := iI_lt (by omega) (by omega)
  have eq1 : (iI x = iI y) = (x = y) := iI_eq (by omega) (by omega)
  have eq0 : (iI y = 0) = (y = 0) := iI_eq (b := 0) (by omega) (by decide)
  have cs : o = 28 ∨ o = 29 ∨ o = 30 ∨ o = 31 ∨ o = 32 ∨ o = 33 ∨ o = 34 ∨ o = 35 ∨ o = 36 ∨ o = 37 ∨ o = 38 ∨ o = 39 := by omega
  rcases cs with rfl | rfl | rfl | rfl | rfl | rfl | rfl | rfl | rfl | rfl | rfl | rfl
  · have hb' : (x = 0 ∨ x = 1) ∧ (y = 0 ∨ y = 1) := Classical.byContradiction fun q => hb ⟨by decide, q⟩
    rcases hb' with ⟨rfl | rfl, rfl | rfl⟩ <;> rfl
  · have hb' : (x = 0 ∨ x = 1) ∧ (y = 0 ∨ y = 1) := Classical.byContradiction fun q => hb ⟨by decide, q⟩
    rcases hb' with ⟨rfl | rfl, rfl | rfl⟩ <;> rfl
  · show (if iI y ≤ iI x then f_X1_ofTwo_209 0 σ else f_X1_ofTwo_209 1 σ) = some (iI (if decide (x < y) = true then 1 else 0), σ)
    by_cases w : x < y
    · rw [if_neg (fun q => absurd (le1 ▸ q) (by omega)), decide_eq_true w]
      exact z1
    · rw [if_pos (le1 ▸ (by omega : y ≤ x)), decide_eq_false w]
      exact z0
  · show (if iI y < iI x then f_X1_ofTwo_209 0 σ else f_X1_ofTwo_209 1 σ) = some (iI (if decide (x ≤ y) = true then 1 else 0), σ)
    by_cases w : x ≤ y
    · rw [if_neg (fun q => absurd (lt1 ▸ q) (by omega)), decide_eq_true w]
      exact z1
    · rw [if_pos (lt1 ▸ (by omega : y < x)), decide_eq_false w]
      exact z0
  · show (if iI x ≤ iI y then f_X1_ofTwo_209 0 σ else f_X1_ofTwo_209 1 σ) = some (iI (if decide (y < x) = true then 1 else 0), σ)
    by_cases w : y < x
    · rw [if_neg (fun q => absurd (le2 ▸ q) (by omega)), decide_eq_true w]
      exact z1
    · rw [if_pos (le2 ▸ (by omega : x ≤ y)), decide_eq_false w]
      exact z0
  · show (if iI x < iI y then f_X1_ofTwo_209 0 σ else f_X1_ofTwo_209 1 σ) = some (iI (if decide (y ≤ x) = true then 1 else 0), σ)
    by_cases w : y ≤ x
    · rw [if_neg (fun q => absurd (lt2 ▸ q) (by omega)), decide_eq_true w]
      exact z1
    · rw [if_pos (lt2 ▸ (by omega : x < y)), decide_eq_false w]
      exact z0
  · show (if iI x = iI y then f_X1_ofTwo_209 1 σ else f_X1_ofTwo_209 0 σ) = some (iI (if decide (x = y) = true then 1 else 0), σ)
    by_cases w : x = y
    · rw [if_pos (by rw [w]), decide_eq_true w]
      exact z1
    · rw [if_neg (fun q => w (eq1 ▸ q)), decide_eq_false w]
      exact z0
  · show (if iI x = iI y then f_X1_ofTwo_209 0 σ else f_X1_ofTwo_209 1 σ) = some (iI (if decide (x ≠ y) = true then 1 else 0), σ)
    by_cases w : x = y
    · rw [if_pos (by rw [w]), decide_eq_false (fun q => q w)]
      exact z0
    · rw [if_neg (fun q => w (eq1 ▸ q)), decide_eq_true w]
      exact z1
  · show some (Int64.toInt32 (lmax (-1000000) (lmin 1000000 ((iI x).toInt64 + (iI y).toInt64))), σ) = some (iI (clp (x + y)), σ)
    rw [ly, lz, iL_add, clampL (by omega)]
  · show some (Int64.toInt32 (lmax (-1000000) (lmin 1000000 ((iI x).toInt64 - (iI y).toInt64))), σ) = some (iI (clp (x - y)), σ)
    rw [ly, lz, iL_sub, clampL (by omega)]
  · show some (Int64.toInt32 (lmax (-1000000) (lmin 1000000 ((iI x).toInt64 * (iI y).toInt64))), σ) = some (iI (clp (x * y)), σ)
    rw [ly, lz, iL_mul, clampL (mul_b hx hy)]
  · show (if iI y = 0 then f_X1_ofTwo_209 0 σ else grd ((!decide (iI y = 0)) && true) <| f_X1_ofTwo_209 (Int32.toInt64 (iI x / iI y)) σ) = some (iI (if y = 0 then 0 else clp (x.tdiv y)), σ)
    by_cases w : y = 0
    · rw [if_pos (by rw [w]; rfl), if_pos w]
      exact z0
    · have nz : ¬ (iI y = 0) := fun q => w (eq0 ▸ q)
      have tb := tdiv_b (y := y) hx
      rw [if_neg nz, if_neg w, grd_of (by rw [decide_eq_false nz]; rfl), iI_div (by omega) (by omega), iI_l (by omega)]
      show some (Int64.toInt32 (lmax (-1000000) (lmin 1000000 (iL (x.tdiv y)))), σ) = _
      rw [clampL (by omega)]
theorem iI_and1 (x : Int) : iI x &&& 1 = iI (if x % 2 = 0 then 0 else 1) := by
  apply Int32.toBitVec_inj.1
  show BitVec.ofInt 32 x &&& 1#32 = BitVec.ofInt 32 _
  apply BitVec.eq_of_toNat_eq
  rw [BitVec.toNat_and, BitVec.toNat_ofInt, show (1#32 : BitVec 32).toNat = 1 from rfl, Nat.and_one_is_mod]
  by_cases w : x % 2 = 0
  · rw [if_pos w]
    show _ = 0
    omega
  · rw [if_neg w]
    show _ = 1
    omega
theorem iI_nand1 (x : Int) : (iI x ^^^ -1) &&& 1 = iI (if x % 2 = 0 then 1 else 0) := by
  have e : (iI x ^^^ -1) = iI (-x - 1) := by
    have q : iI x ^^^ -1 = ~~~ (iI x) := by
      apply Int32.toBitVec_inj.1
      show BitVec.ofInt 32 x ^^^ BitVec.allOnes 32 = ~~~ BitVec.ofInt 32 x
      exact BitVec.xor_allOnes
    rw [q, Int32.not_eq_neg_sub, iI_neg]
    show iI (-x) - nI 1 = _
    rw [← iI_n, iI_sub]
    rfl
  rw [e, iI_and1]
  by_cases w : x % 2 = 0
  · rw [if_pos w, if_neg (show ¬ ((-x - 1) % 2 = 0) by omega)]
  · rw [if_neg w, if_pos (show (-x - 1) % 2 = 0 by omega)]
theorem on1_b {A : Nat → Nat} (hB : BT A) (o : Nat) {x : Int} (h : -1000000 ≤ x ∧ x ≤ 1000000) : -1000000 ≤ on1 A o x ∧ on1 A o x ≤ 1000000 := by
  have w : 0 ≤ wmV A x ∧ wmV A x ≤ 9 := by
    unfold wmV
    by_cases z : 0 ≤ x ∧ x < (A 0 : Int) ∧ x < 8
    · have := (hB.2.2.2.2 x.toNat (by omega)).2.1
      rw [if_pos z]
      omega
    · rw [if_neg z]
      omega
  unfold on1
  repeat' split
  all_goals omega
theorem x_onOne {σ : Sg} {t : Nat} {A : Nat → Nat} (hX : XT σ t A) (hB : BT A) {x : Int} {o : Nat} (ho : 46 ≤ o ∧ o ≤ 50) (hx : -1000000 ≤ x ∧ x ≤ 1000000) : f_X1_ofOne t (nI o) (iI x) σ = some (iI (on1 A o x), σ) := by
  have c8 := hB.1
  have cs : o = 46 ∨ o = 47 ∨ o = 48 ∨ o = 49 ∨ o = 50 := by omega
  rcases cs with rfl | rfl | rfl | rfl | rfl
  · show some (-iI x, σ) = some (iI (-x), σ)
    rw [iI_neg]
  · show (bnd (f_X8_told t (iI x) σ) fun r3 σ2 => if r3 = 0 then f_X1_ofOne_57 t 0 σ2 else grd (inb (iI x) 8 && true) <| f_X1_ofOne_57 t (σ2.1 (t + 4) (ix (iI x))) σ2) = some (iI (wmV A x), σ)
    rcases x_told hX.1 c8 (iI x) with ⟨e1, e2⟩ | ⟨h, h1, h2, e1⟩
    · rw [e1, e_bnd, if_pos (by rfl)]
      have : ¬ (0 ≤ x ∧ x < (A 0 : Int) ∧ x < 8) := fun q => e2 x.toNat (by omega) (by rw [← iI_n]; congr 1; omega)
      unfold wmV
      rw [if_neg this]
      rfl
    · have hxe : x = (h : Int) := by
        rw [← iI_n] at h2
        have q : (iI x = iI (h : Int)) = (x = (h : Int)) := iI_eq (by omega) (by omega)
        exact q.mp h2
      subst hxe
      have hh : (0 : Int) ≤ h ∧ (h : Int) < (A 0 : Int) ∧ (h : Int) < 8 := by omega
      have h4 := hX.2.2.2.2.2.2.2 h (by omega)
      rw [e1, e_bnd, if_neg (by decide), iI_n, grd_of (by rw [e_inb (by omega) (by decide)]; rfl), e_ix (by omega), h4]
      unfold wmV
      rw [if_pos hh, show ((h : Int).toNat) = h by omega, iI_n]
      rfl
  · show (if iI x = 0 then f_X1_ofOne_67 t 1 σ else f_X1_ofOne_67 t 0 σ) = some (iI (if x = 0 then 1 else 0), σ)
    have eq0 : (iI x = 0) = (x = 0) := iI_eq (b := 0) (by omega) (by decide)
    by_cases w : x = 0
    · rw [if_pos (by rw [w]; rfl), if_pos w]
      rfl
    · rw [if_neg (fun q => w (eq0 ▸ q)), if_neg w]
      rfl
  · show some (iI x &&& 1, σ) = some (iI (if x % 2 = 0 then 0 else 1), σ)
    rw [iI_and1]
  · show some ((iI x ^^^ -1) &&& 1, σ) = some (iI (if x % 2 = 0 then 1 else 0), σ)
    rw [iI_nand1]
theorem nmV_b {A : Nat → Nat} (hB : BT A) {h near : Nat} (hh : h < 8) (hn : near ≤ 8) (i : Nat) : -1000000 ≤ nmV A h near i ∧ nmV A h near i ≤ 1000000 := by
  obtain ⟨_, b6, b7, _, bh⟩ := hB
  obtain ⟨q0, q1, q2, q3, _⟩ := bh h hh
  unfold nmV hsV
  rw [if_pos hh, if_pos hh, if_pos hh, if_pos hh, show A (10 + 5 * h + 0) = A (10 + 5 * h) from rfl]
  repeat' split
  all_goals omega
theorem x_named {σ : Sg} {t : Nat} {A : Nat → Nat} (hX : XT σ t A) (hB : BT A) {h near i : Nat} (hh : h < 8) (hn : near ≤ 8) (hi : i ≤ 8) : f_X1_named t (nI (11 + i)) (nI h) (nI near) σ = some (iI (nmV A h near i), σ) := by
  have bl := x_bell hX hB
  obtain ⟨x0, x5, x6, x7, w, cn, f, ht⟩ := hX
  have w := w h hh
  have cn := cn h hh
  have f := f h hh
  have ht := ht h hh
  have g : (inb (nI h) 8 && true) = true := by rw [e_inb hh (by decide)]; rfl
  have ih : ix (nI h) = h := e_ix (by omega)
  have cs : i = 0 ∨ i = 1 ∨ i = 2 ∨ i = 3 ∨ i = 4 ∨ i = 5 ∨ i = 6 ∨ i = 7 ∨ i = 8 := by omega
  rcases cs with rfl | rfl | rfl | rfl | rfl | rfl | rfl | rfl | rfl
  · show some (σ.1 t 5, σ) = some (iI (A 6 : Int), σ)
    rw [x5, iI_n]
  · show (bnd (f_X8_bell t σ) fun r3 σ2 => if r3 = 0 then f_X1_named_69 t 0 σ2 else f_X1_named_69 t 1 σ2) = some (iI (if 20 ≤ A 6 % 24 ∨ A 6 % 24 < 6 then 1 else 0), σ)
    rw [bl, e_bnd]
    by_cases z : 20 ≤ A 6 % 24 ∨ A 6 % 24 < 6
    · rw [if_pos z, if_pos z]
      rfl
    · rw [if_neg z, if_neg z]
      rfl
  · show some (σ.1 t 6, σ) = some (iI (A 7 : Int), σ)
    rw [x6, iI_n]
  · show some (nI h, σ) = some (iI (h : Int), σ)
    rw [iI_n]
  · show grd (inb (nI h) 8 && true) (some (σ.1 (t + 1) (ix (nI h)), σ)) = some (iI (hsV A h 3), σ)
    unfold hsV
    rw [grd_of g, ih, w, if_pos hh, iI_n]
  · show grd (inb (nI h) 8 && true) (some (σ.1 (t + 3) (ix (nI h)), σ)) = some (iI (hsV A h 0), σ)
    unfold hsV
    rw [grd_of g, ih, f, if_pos hh, iI_n]
    rfl
  · show grd (inb (nI h) 8 && true) (some (σ.1 (t + 4) (ix (nI h)), σ)) = some (iI (hsV A h 1), σ)
    unfold hsV
    rw [grd_of g, ih, ht, if_pos hh, iI_n]
  · show some (nI near, σ) = some (iI (near : Int), σ)
    rw [iI_n]
  · show grd (inb (nI h) 8 && true) (some (σ.1 (t + 2) (ix (nI h)), σ)) = some (iI (hsV A h 2), σ)
    unfold hsV
    rw [grd_of g, ih, cn, if_pos hh, iI_n]
def CX (κ : Kd) (σ : Sg) (x : Nat) (cX : Nat → Nat × Nat) (E : Nat) : Prop := lenOf κ (x + 2) = E ∧ lenOf κ (x + 3) = E ∧ E ≤ 300 ∧ ∀ j, j < E → σ.1 (x + 2) j = nI (cX j).1 ∧ σ.1 (x + 3) j = nI (cX j).2 ∧ (cX j).1 ≤ 50 ∧ (cX j).2 ≤ 10000
theorem CX.ofR {κ : Kd} {σ σ' : Sg} {x : Nat} {cX : Nat → Nat × Nat} {E : Nat} (h : CX κ σ x cX E) (e : ∀ a, x + 1 ≤ a → a ≤ x + 5 → ∀ j, σ'.1 a j = σ.1 a j) : CX κ σ' x cX E := ⟨h.1, h.2.1, h.2.2.1, fun j hj => by rw [e _ (by omega) (by omega), e _ (by omega) (by omega)]; exact h.2.2.2 j hj⟩
theorem CX.of {κ : Kd} {σ σ' : Sg} {x : Nat} {cX : Nat → Nat × Nat} {E : Nat} (h : CX κ σ x cX E) (hx : 72 ≤ x) (e : ∀ a, 72 ≤ a → ∀ j, σ'.1 a j = σ.1 a j) : CX κ σ' x cX E := ⟨h.1, h.2.1, h.2.2.1, fun j hj => by rw [e _ (by omega), e _ (by omega)]; exact h.2.2.2 j hj⟩
theorem x_sign {κ : Kd} {σ : Sg} {x E p : Nat} {cX : Nat → Nat × Nat} (h : CX κ σ x cX E) (hp : p < E) : f_X6_sign κ x (nI p) σ = some (nI (cX p).1, σ) ∧ f_X6_argument κ x (nI p) σ = some (nI (cX p).2, σ) := by
  obtain ⟨h1, h2, h3, h4⟩ := h
  obtain ⟨c1, c2, _⟩ := h4 p hp
  have n1 : ¬ (Int32.ofNat E ≤ nI p) := nI_ge (by omega) (by omega)
  have g : (inb (nI p) E && true) = true := by rw [e_inb hp (by omega)]; rfl
  unfold f_X6_sign f_X6_sign_23 f_X6_argument f_X6_argument_23
  rw [h1, h2, if_neg (nI_pos (by omega)), if_neg (nI_pos (by omega)), if_neg n1, if_neg n1, grd_of g, grd_of g, e_ix (by omega), c1, c2]
  exact ⟨rfl, rfl⟩
theorem x_val26 {κ : Kd} {t x E : Nat} {A : Nat → Nat} {h near e : Nat} {cX : Nat → Nat × Nat} {v : Int} (hx : 72 ≤ x) (ht : t + 5 < 47) (hB : BT A) (hh : h < 8) (hn : near ≤ 8) (he : e ≤ E) : ∀ n p s left fu σ, evX cX A h near e n p s = some [v] → p ≤ e → e ≤ p + left → left ≤ 300 → n < fu → ST σ s → s.length ≤ p → XT σ t A → CX κ σ x cX E → ∃ σ', f_X1_value_26 κ t x fu (nI h) (nI near) (nI p) (nI e) (nI left) σ = some (iI v, σ') ∧ fr S48 σ σ' ∧ -1000000 ≤ v ∧ v ≤ 1000000 := by
  have fin : ∀ p left fu σ, p = e → p ≤ 300 → ST σ [v] → ∃ σ', f_X1_value_26 κ t x (fu + 1) (nI h) (nI near) (nI p) (nI e) (nI left) σ = some (iI v, σ') ∧ fr S48 σ σ' ∧ -1000000 ≤ v ∧ v ≤ 1000000 := by
    intro p left fu σ hp h3 hs
    obtain ⟨p1, _, p3⟩ := x_pop hs (by decide)
    refine ⟨wI σ 47 1 (nI ([] : List Int).length), ?_, fr.w (Or.inl rfl), p3⟩
    have ev : f_X1_value_195 κ t x σ = some (iI v, wI σ 47 1 (nI ([] : List Int).length)) := by
      unfold f_X1_value_195
      rw [p1, e_bnd]
    rw [f_X1_value_26]
    by_cases z : nI left ≤ 0
    · rw [if_pos z]
      exact ev
    · rw [if_neg z, if_pos (by rw [hp]; exact nI_le (Nat.le_refl _) (by omega))]
      exact ev
  intro n
  induction n with
  | zero =>
    intro p s left fu σ hev hp hl h3 hf hs hsl hX hC
    obtain ⟨f, rfl⟩ : ∃ f, fu = f + 1 := ⟨fu - 1, by omega⟩
    change (if p = e then some s else none) = some [v] at hev
    by_cases z : p = e
    · rw [if_pos z] at hev
      cases hev
      exact fin p left f σ z (by have := hC.2.2.1; omega) hs
    · rw [if_neg z] at hev
      cases hev
  | succ n ih =>
    intro p s left fu σ hev hp hl h3 hf hs hsl hX hC
    obtain ⟨f, rfl⟩ : ∃ f, fu = f + 1 := ⟨fu - 1, by omega⟩
    have E3 := hC.2.2.1
    change (if p = e then some s else if e < p then none else (stX cX A h near p s).bind (fun q => evX cX A h near e n q.1 q.2)) = some [v] at hev
    by_cases z : p = e
    · rw [if_pos z] at hev
      cases hev
      exact fin p left f σ z (by omega) hs
    · rw [if_neg z, if_neg (by omega)] at hev
      obtain ⟨cc1, cc2, cc3, cc4⟩ := hC.2.2.2 p (by omega)
      obtain ⟨s1, s2⟩ := x_sign hC (p := p) (by omega)
      have nl : ¬ (nI left ≤ 0) := nI_ge (a := 0) (by omega) (by omega)
      have ne : ¬ (nI e ≤ nI p) := nI_ge (by omega) (by omega)
      obtain ⟨l', rfl⟩ : ∃ l', left = l' + 1 := ⟨left - 1, by omega⟩
      have NE : ∀ w, w < 100 → (cX p).1 ≠ w → ¬ (nI (cX p).1 = nI w) := fun w hw g y => g ((nI_eq (by omega) (by omega)).mp y)
      have head : f_X1_value_26 κ t x (f + 1) (nI h) (nI near) (nI p) (nI e) (nI (l' + 1)) σ = (if nI (cX p).1 = 43 then bndV (f_X1_push (nI (cX p).2) σ) fun σ38 => f_X1_value_189 κ t x (f_X1_value_26 κ t x f) (nI h) (nI near) (nI p + 1) (nI e) (nI (l' + 1)) σ38 else if nI (cX p).1 = 26 then f_X1_value_189 κ t x (f_X1_value_26 κ t x f) (nI h) (nI near) (nI (cX p).2) (nI e) (nI (l' + 1)) σ else if nI (cX p).1 = 24 then bnd (f_X1_pop σ) fun r36 σ35 => if r36 = 0 then f_X1_value_108 κ t x (f_X1_value_26 κ t x f) (nI h) (nI near) (nI e) (nI (l' + 1)) (nI (cX p).2) σ35 else f_X1_value_108 κ t x (f_X1_value_26 κ t x f) (nI h) (nI near) (nI e) (nI (l' + 1)) (nI p + 1) σ35 else if nI (cX p).1 < 11 then f_X1_value_144 κ t x (f_X1_value_26 κ t x f) (nI h) (nI near) (nI p + 1) (nI e) (nI (l' + 1)) (nI (cX p).1) σ else if 19 < nI (cX p).1 then f_X1_value_144 κ t x (f_X1_value_26 κ t x f) (nI h) (nI near) (nI p + 1) (nI e) (nI (l' + 1)) (nI (cX p).1) σ else bnd (f_X1_named t (nI (cX p).1) (nI h) (nI near) σ) fun r31 σ30 => bndV (f_X1_push r31 σ30) fun σ33 => f_X1_value_189 κ t x (f_X1_value_26 κ t x f) (nI h) (nI near) (nI p + 1) (nI e) (nI (l' + 1)) σ33) := by
        rw [f_X1_value_26, if_neg nl, if_neg ne, s1, e_bnd, s2, e_bnd]
      rw [head]
      have go : ∀ (q : Nat) (s' : List Int) (σ1 : Sg), stX cX A h near p s = some (q, s') → ST σ1 s' → s'.length ≤ q → fr S48 σ σ1 → ∃ σ', f_X1_value_26 κ t x f (nI h) (nI near) (nI q) (nI e) (nI l') σ1 = some (iI v, σ') ∧ fr S48 σ σ' ∧ -1000000 ≤ v ∧ v ≤ 1000000 := by
        intro q s' σ1 e1 e2 e3 e4
        rw [e1] at hev
        have gt := stX_gt e1
        change evX cX A h near e n q s' = some [v] at hev
        have qe : q ≤ e := by
          refine Nat.le_of_not_lt fun w => ?_
          cases n with
          | zero =>
            change (if q = e then some s' else none) = some [v] at hev
            rw [if_neg (by omega)] at hev
            cases hev
          | succ n =>
            change (if q = e then some s' else if e < q then none else _) = some [v] at hev
            rw [if_neg (by omega), if_pos w] at hev
            cases hev
        obtain ⟨u, u1, u2, u3⟩ := ih q s' l' f σ1 hev qe (by omega) (by omega) (by omega) e2 e3 (hX.of (fun a j q _ => e4.1 _ _ (by omega))) (hC.of hx (fun a ha j => e4.1 _ _ (by omega)))
        exact ⟨u, u1, e4.trans u2, u3⟩
      have rec1 : ∀ (q : Nat) (σ1 : Sg), f_X1_value_189 κ t x (f_X1_value_26 κ t x f) (nI h) (nI near) (nI q) (nI e) (nI (l' + 1)) σ1 = f_X1_value_26 κ t x f (nI h) (nI near) (nI q) (nI e) (nI l') σ1 := by
        intro q σ1
        unfold f_X1_value_189
        rw [dec1]
      have p1 : nI p + 1 = nI (p + 1) := nI_add _ _
      rw [p1]
      by_cases c1 : (cX p).1 = 43
      · rw [if_pos (by rw [c1]; rfl)]
        by_cases c : (cX p).2 ≤ 9999
        · obtain ⟨u, u1, u2, u3⟩ := x_push (x := ((cX p).2 : Int)) hs (by omega) (by omega)
          rw [iI_n] at u1
          rw [u1, e_bndV, rec1]
          refine go (p + 1) _ u ?_ u3 (by simp only [List.length_cons]; omega) u2
          unfold stX
          rw [if_pos c1, if_pos c]
        · exfalso
          have : stX cX A h near p s = none := by
            unfold stX
            rw [if_pos c1, if_neg c]
          rw [this] at hev
          cases hev
      rw [if_neg (show ¬ (nI (cX p).1 = 43) from NE 43 (by decide) c1)]
      by_cases c2 : (cX p).1 = 26
      · rw [if_pos (by rw [c2]; rfl), rec1]
        by_cases c : p < (cX p).2
        · refine go (cX p).2 s σ ?_ hs (by omega) fr.rfl
          unfold stX
          rw [if_neg c1, if_pos c2, if_pos c]
        · exfalso
          have : stX cX A h near p s = none := by
            unfold stX
            rw [if_neg c1, if_pos c2, if_neg c]
          rw [this] at hev
          cases hev
      rw [if_neg (show ¬ (nI (cX p).1 = 26) from NE 26 (by decide) c2)]
      by_cases c3 : (cX p).1 = 24
      · rw [if_pos (by rw [c3]; rfl)]
        cases s with
        | nil =>
          exfalso
          have : stX cX A h near p [] = none := by
            unfold stX
            rw [if_neg c1, if_neg c2, if_pos c3]
          rw [this] at hev
          cases hev
        | cons y s =>
          simp only [List.length_cons] at hsl
          obtain ⟨q1, q2, q3⟩ := x_pop hs (by omega)
          have stE : stX cX A h near p (y :: s) = (if y = 0 then (if p < (cX p).2 then some ((cX p).2, s) else none) else some (p + 1, s)) := by
            unfold stX
            rw [if_neg c1, if_neg c2, if_pos c3]
          rw [q1, e_bnd]
          unfold f_X1_value_108
          have eq0 : (iI y = 0) = (y = 0) := iI_eq (b := 0) (by omega) (by decide)
          by_cases w : y = 0
          · rw [if_pos (by rw [w]; rfl), rec1]
            rw [if_pos w] at stE
            by_cases c : p < (cX p).2
            · rw [if_pos c] at stE
              exact go _ _ _ stE q2 (by omega) (fr.w (by omega))
            · rw [if_neg c] at stE
              rw [stE] at hev
              cases hev
          · rw [if_neg (fun q => w (eq0.mp q)), rec1]
            rw [if_neg w] at stE
            exact go _ _ _ stE q2 (by omega) (fr.w (by omega))
      rw [if_neg (show ¬ (nI (cX p).1 = 24) from NE 24 (by decide) c3)]
      by_cases c4 : 11 ≤ (cX p).1 ∧ (cX p).1 ≤ 19
      · rw [if_neg (show ¬ (nI (cX p).1 < 11) from nI_nlt (b := 11) c4.1 (by omega)), if_neg (show ¬ (19 < nI (cX p).1) from nI_nlt (a := 19) c4.2 (by omega))]
        have nm := x_named hX hB hh hn (i := (cX p).1 - 11) (by omega)
        rw [show 11 + ((cX p).1 - 11) = (cX p).1 by omega] at nm
        obtain ⟨u, u1, u2, u3⟩ := x_push (x := nmV A h near ((cX p).1 - 11)) hs (by omega) (nmV_b hB hh hn _)
        rw [nm, e_bnd, u1, e_bndV, rec1]
        refine go (p + 1) _ u ?_ u3 (by simp only [List.length_cons]; omega) u2
        unfold stX
        rw [if_neg c1, if_neg c2, if_neg c3, if_pos c4]
      have e5 : ∀ a b : Option (Int32 × Sg), (if nI (cX p).1 < 11 then a else if 19 < nI (cX p).1 then a else b) = a := by
        intro a b
        by_cases g : (cX p).1 < 11
        · exact if_pos (nI_lt (b := 11) g (by omega))
        · rw [if_neg (show ¬ (nI (cX p).1 < 11) from nI_nlt (b := 11) (by omega) (by omega))]
          exact if_pos (nI_lt (a := 19) (by omega) (by omega))
      rw [e5]
      unfold f_X1_value_144
      by_cases c5 : 46 ≤ (cX p).1 ∧ (cX p).1 ≤ 50
      · rw [if_neg (show ¬ (nI (cX p).1 < 46) from nI_nlt (b := 46) c5.1 (by omega))]
        cases s with
        | nil =>
          exfalso
          have : stX cX A h near p [] = none := by
            unfold stX
            rw [if_neg c1, if_neg c2, if_neg c3, if_neg c4, if_pos c5]
          rw [this] at hev
          cases hev
        | cons y s =>
          simp only [List.length_cons] at hsl
          obtain ⟨q1, q2, q3⟩ := x_pop hs (by omega)
          have on := x_onOne (σ := wI σ 47 1 (nI s.length)) (hX.of (fun a j q _ => e_ne1 (by omega))) hB c5 q3
          obtain ⟨u, u1, u2, u3⟩ := x_push (x := on1 A (cX p).1 y) q2 (by omega) (on1_b hB _ q3)
          rw [q1, e_bnd, on, e_bnd, u1, e_bndV, rec1]
          refine go (p + 1) _ u ?_ u3 (by simp only [List.length_cons]; omega) ((fr.w (by omega)).trans u2)
          unfold stX
          rw [if_neg c1, if_neg c2, if_neg c3, if_neg c4, if_pos c5]
      by_cases c6 : 28 ≤ (cX p).1 ∧ (cX p).1 ≤ 39
      · rw [if_pos (show nI (cX p).1 < 46 from nI_lt (b := 46) (by omega) (by omega))]
        have bad : ∀ l, (match l with | y :: x :: s' => if (cX p).1 < 30 ∧ ¬ ((x = 0 ∨ x = 1) ∧ (y = 0 ∨ y = 1)) then none else some (p + 1, on2 (cX p).1 x y :: s') | _ => none : Option (Nat × List Int)) = stX cX A h near p l := fun l => by
          unfold stX
          rw [if_neg c1, if_neg c2, if_neg c3, if_neg c4, if_neg c5, if_pos c6]
          cases l with
          | nil => rfl
          | cons y s => cases s <;> rfl
        cases s with
        | nil =>
          rw [← bad] at hev
          cases hev
        | cons y s =>
          cases s with
          | nil =>
            rw [← bad] at hev
            cases hev
          | cons w s =>
            simp only [List.length_cons] at hsl
            obtain ⟨q1, q2, q3⟩ := x_pop hs (by simp only [List.length_cons]; omega)
            obtain ⟨r1, r2, r3⟩ := x_pop q2 (by omega)
            have stE := bad (y :: w :: s)
            by_cases g : (cX p).1 < 30 ∧ ¬ ((w = 0 ∨ w = 1) ∧ (y = 0 ∨ y = 1))
            · exfalso
              rw [← stE] at hev
              dsimp only at hev
              rw [if_pos g] at hev
              cases hev
            · dsimp only at stE
              rw [if_neg g] at stE
              have tw := x_two c6 r3 q3 g (wI (wI σ 47 1 (nI (w :: s).length)) 47 1 (nI s.length))
              obtain ⟨u, u1, u2, u3⟩ := x_push (x := on2 (cX p).1 w y) r2 (by omega) (on2_b _ _ _)
              rw [q1, e_bnd, r1, e_bnd, tw, e_bnd, u1, e_bndV, rec1]
              exact go (p + 1) _ u stE.symm u3 (by simp only [List.length_cons]; omega) ((fr.w (by omega)).trans ((fr.w (by omega)).trans u2))
      · exfalso
        have : stX cX A h near p s = none := by
          unfold stX
          rw [if_neg c1, if_neg c2, if_neg c3, if_neg c4, if_neg c5, if_neg c6]
        rw [this] at hev
        cases hev
/-- what is needed of the class's TEXT at x -/
def LWX (κ : Kd) (σ : Sg) (x : Nat) (cX : Nat → Nat × Nat) (E : Nat) (Lw : Nat → Option LV) : Prop := CX κ σ x cX E ∧ lenOf κ (x + 4) = 3 ∧ lenOf κ (x + 5) = 3 ∧ ∀ l, l < 3 → (Lw l = none ∧ σ.1 (x + 4) l = -1) ∨ ∃ v s e, Lw l = some v ∧ σ.1 (x + 4) l = nI s ∧ σ.1 (x + 5) l = nI e ∧ e ≤ E ∧ SEG cX s e v
theorem min_I {a b : Int} (ha : -2147483648 ≤ a ∧ a < 2147483648) (hb : -2147483648 ≤ b ∧ b < 2147483648) : imin (iI a) (iI b) = iI (min a b) := iI_min ha hb
theorem RX_of {κ : Kd} {σ0 : Sg} {x E : Nat} {cX : Nat → Nat × Nat} {Lw : Nat → Option LV} (hx : 72 ≤ x) (L : LWX κ σ0 x cX E Lw) : RX κ σ0 (some x) Lw := by
  intro σ t A l h near e0 ht hX hB hl hh hn
  obtain ⟨l1, l2, l3, l4⟩ := L
  have eR : ∀ a, x + 1 ≤ a → a ≤ x + 5 → ∀ j, σ.1 a j = σ0.1 a j := fun a h1 h2 j => e0 a ⟨by omega, x, rfl, h1, h2⟩ j
  have hC := l1.ofR eR
  have c8 := hB.1
  have h8 : h < 8 := by omega
  obtain ⟨top, ht1⟩ : ∃ top, top = ltop l := ⟨_, rfl⟩
  have tb : top ≤ 9999 := by
    rw [ht1]
    unfold ltop
    repeat' split
    all_goals omega
  have r1 : f_X1_rate κ t (some x) (nI l) (nI h) (nI near) σ = f_X1_rate_22 κ t (some x) (nI l) (nI h) (nI near) (nI top) σ := by
    have cs : l = 0 ∨ l = 1 ∨ l = 2 := by omega
    unfold f_X1_rate
    rw [ht1]
    rcases cs with rfl | rfl | rfl <;> rfl
  have fs : f_X6_firstSign κ x (nI l) σ = some (σ0.1 (x + 4) l, σ) := by
    unfold f_X6_firstSign f_X6_firstSign_23
    rw [l2, if_neg (nI_pos (by omega)), if_neg (show ¬ (Int32.ofNat 3 ≤ nI l) from nI_ge (b := 3) hl (by decide)), grd_of (by rw [e_inb hl (by decide)]; rfl), e_ix (by omega), eR _ (by omega) (by omega)]
  have bs : f_X6_behindSigns κ x (nI l) (wI σ 47 1 0) = some (σ0.1 (x + 5) l, wI σ 47 1 0) := by
    unfold f_X6_behindSigns f_X6_behindSigns_23
    rw [l3, if_neg (nI_pos (by omega)), if_neg (show ¬ (Int32.ofNat 3 ≤ nI l) from nI_ge (b := 3) hl (by decide)), grd_of (by rw [e_inb hl (by decide)]; rfl), e_ix (by omega), e_ne1 (by omega), eR _ (by omega) (by omega)]
  have fs' : f_X6_firstSign κ x (nI l) (wI σ 47 1 0) = some (σ0.1 (x + 4) l, wI σ 47 1 0) := by
    unfold f_X6_firstSign f_X6_firstSign_23
    rw [l2, if_neg (nI_pos (by omega)), if_neg (show ¬ (Int32.ofNat 3 ≤ nI l) from nI_ge (b := 3) hl (by decide)), grd_of (by rw [e_inb hl (by decide)]; rfl), e_ix (by omega), e_ne1 (by omega), eR _ (by omega) (by omega)]
  rw [r1]
  show ∃ σ', (bnd (f_X6_firstSign κ x (nI l) σ) fun r7 σ6 => if r7 = (-1) then f_X1_rate_37 κ t (nI l) (nI h) (nI near) (nI top) σ6 else bnd (f_X1_value κ t x (nI l) (nI h) (nI near) σ6) fun r10 σ9 => f_X1_rate_60 κ t (nI top) r10 σ9) = some (nI (rt (Lw l) l A h near), σ') ∧ fr (fun a _ => a = 47 ∨ a = 48) σ σ'
  rw [fs, e_bnd]
  rcases l4 l hl with ⟨e1, e2⟩ | ⟨v, s, e, e1, e2, e3, e4, e5⟩
  · refine ⟨σ, ?_, fr.rfl⟩
    have wo := x_without hX hB hl h8 hn
    have wb : lwo l A h near ≤ 1000 := by
      obtain ⟨b1, b2, b3, b4, b5⟩ := hB.2.2.2.2 h h8
      unfold lwo
      repeat' split
      all_goals omega
    rw [if_pos e2, e1]
    unfold f_X1_rate_37 f_X1_rate_60
    rw [wo, e_bnd]
    show some (imax 0 (imin (nI top) (nI (lwo l A h near))), σ) = some (nI (min (lwo l A h near) (ltop l)), σ)
    rw [imin_I (by omega) (by omega), show (0 : Int32) = nI 0 from rfl, imax_0 (by omega), ht1, Nat.min_comm]
  · have nm : ¬ (nI s = -1) := by
      have l6 := e5.1
      have := hC.2.2.1
      intro w
      rw [show (-1 : Int32) = -nI 1 from rfl, e_m1n s (by omega)] at w
      exact w
    have E3 := hC.2.2.1
    have ls := e5.1
    rw [e2, if_neg nm, e1]
    have stk : ST (wI σ 47 1 0) [] := ⟨e_hit, trivial, trivial⟩
    obtain ⟨u, u1, u2, u3⟩ := x_val26 (κ := κ) (t := t) (x := x) (E := E) (A := A) (h := h) (near := near) (e := e) (cX := cX) (v := v A h near) hx ht hB h8 hn e4 (e - s) s [] (e - s) FU (wI σ 47 1 0) (e5.2 A h near []) ls (by omega) (by omega) (by unfold FU; omega) stk (Nat.zero_le _) (hX.of (fun a j q _ => e_ne1 (by omega))) (hC.of hx (fun a ha j => e_ne1 (by omega)))
    refine ⟨u, ?_, (fr.w (S := fun a _ => a = 47 ∨ a = 48) (Or.inl rfl)).trans u2⟩
    have ev : f_X1_value κ t x (nI l) (nI h) (nI near) σ = some (iI (v A h near), u) := by
      unfold f_X1_value
      rw [e_lt, fs', e_bnd, bs, e_bnd, e2, e3, e_sub ls]
      exact u1
    rw [ev, e_bnd]
    show some (imax 0 (imin (nI top) (iI (v A h near))), u) = some (nI (min (v A h near).toNat (ltop l)), u)
    rw [← iI_n top, iI_min (by omega) (by omega), show (0 : Int32) = iI 0 from rfl, iI_max (by omega) (by omega), ← ht1, ← iI_n]
    congr 3
    omega
