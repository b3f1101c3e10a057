/-! reading the functions over contents -/
theorem grd_of {α : Type} {c : Bool} {x : Option α} (h : c = true) : grd c x = x := by subst h; rfl
theorem bnd_of {α β : Type} {x : Option (α × Sg)} {k : α → Sg → Option β} {r : α} {s : Sg} (h : x = some (r, s)) : bnd x k = k r s := by subst h; rfl
theorem bndV_of {β : Type} {x : Option Sg} {k : Sg → Option β} {s : Sg} (h : x = some s) : bndV x k = k s := by subst h; rfl
theorem wI_rd {σ : Sg} {k i a j : Nat} {v : Int32} : (wI σ k i v).1 a j = if a = k ∧ j = i then v else σ.1 a j := rfl
theorem wI_rd2 {σ : Sg} {k i : Nat} {v : Int32} : (wI σ k i v).2 = σ.2 := rfl
theorem wC_rd {σ : Sg} {k0 sp k1 dp n a j : Nat} : (wC σ k0 sp k1 dp n).1 a j = if a = k1 ∧ dp ≤ j ∧ j < dp + n then σ.1 k0 (sp + (j - dp)) else σ.1 a j := rfl
theorem ix_nI {n : Nat} (h : n < 2 ^ 31) : ix (nI n) = n := nI_clamp h
theorem inb_nI {n N : Nat} (h : n < N) (hN : N < 2 ^ 31) : inb (nI n) N = true := by
  unfold inb
  rw [ix_nI (by omega)]
  have h1 : ¬ nI n < 0 := nI_pos (by omega)
  have h2 : ¬ N ≤ n := by omega
  simp [h1, h2]
theorem inb_of {x : Int32} {N : Nat} (h0 : ¬ x < 0) (h : x.toNatClampNeg < N) : inb x N = true := by
  unfold inb ix
  have h2 : ¬ N ≤ x.toNatClampNeg := by omega
  simp [h0, h2]
/-- within, isIn: no state -/
theorem f_within_eq (v lo hi : Int32) (σ : Sg) : f_X11_within v lo hi σ = some (if lo ≤ v ∧ v ≤ hi then 1 else 0, σ) := by
  unfold f_X11_within f_X11_within_15
  by_cases h1 : v < lo
  · rw [if_pos h1]
    unfold f_X11_within_14 f_X11_within_15
    have h2 : ¬ lo ≤ v := Int32.not_le.mpr h1
    simp [h2, grd, bz_0]
  · rw [if_neg h1]
    have h2 : lo ≤ v := Int32.not_lt.mp h1
    by_cases h3 : hi < v
    · rw [if_pos h3]
      unfold f_X11_within_14 f_X11_within_15
      have h4 : ¬ v ≤ hi := Int32.not_le.mpr h3
      simp [h4, grd, bz_0]
    · rw [if_neg h3]
      have h4 : v ≤ hi := Int32.not_lt.mp h3
      simp [h2, h4, grd, bz_1]
theorem f_isIn_eq (v lo hi : Int32) (σ : Sg) : f_X12_isIn v lo hi σ = some (if lo ≤ v ∧ v ≤ hi then 1 else 0, σ) := by
  unfold f_X12_isIn f_X12_isIn_15
  by_cases h1 : v < lo
  · rw [if_pos h1]
    unfold f_X12_isIn_14 f_X12_isIn_15
    have h2 : ¬ lo ≤ v := Int32.not_le.mpr h1
    simp [h2, grd, bz_0]
  · rw [if_neg h1]
    have h2 : lo ≤ v := Int32.not_lt.mp h1
    by_cases h3 : hi < v
    · rw [if_pos h3]
      unfold f_X12_isIn_14 f_X12_isIn_15
      have h4 : ¬ v ≤ hi := Int32.not_le.mpr h3
      simp [h4, grd, bz_0]
    · rw [if_neg h3]
      have h4 : v ≤ hi := Int32.not_lt.mp h3
      simp [h2, h4, grd, bz_1]
/-- how many bits of a number below 256 -/
def pc8 (n : Nat) : Nat := ((List.range 8).filter (fun i => n.testBit i)).length
def σ00 : Sg := (fun _ _ => 0, fun _ _ => 0, fun _ _ => none)
theorem f_bitCount_eq {n : Nat} (h : n < 256) (σ : Sg) : f_J6_bitCount_0f7a4 (nI n) σ = some (nI (pc8 n), σ) := by
  have h1 : ∀ n, n < 256 → (f_J6_bitCount_0f7a4 (nI n) σ00).map (·.1) = some (nI (pc8 n)) := by decide +kernel
  have h2 : f_J6_bitCount_0f7a4 (nI n) σ = ((f_J6_bitCount_0f7a4 (nI n) σ00).map (·.1)).bind (fun r => some (r, σ)) := rfl
  rw [h2, h1 n h]
  rfl
theorem f_bits4_any : ∀ (fu : Nat) (v1 v2 : Int32) (σ : Sg), f_X12_bits_4 fu v1 v2 σ = ((f_X12_bits_4 fu v1 v2 σ00).map (·.1)).bind (fun r => some (r, σ)) := by
  intro fu
  induction fu with
  | zero => intro v1 v2 σ; rfl
  | succ fu ih =>
    intro v1 v2 σ
    unfold f_X12_bits_4
    by_cases h : v2 = 0
    · rw [if_pos h, if_pos h]
      rfl
    · rw [if_neg h, if_neg h]
      exact ih _ _ σ
theorem f_bits_eq {n : Nat} (h : n < 256) (σ : Sg) : f_X12_bits (nI n) σ = some (nI (pc8 n), σ) := by
  have h1 : ∀ n, n < 256 → (f_X12_bits_4 40 0 (nI n) σ00).map (·.1) = some (nI (pc8 n)) := by decide +kernel
  have hm : ∀ (fu : Nat) (v1 v2 : Int32) (σ : Sg) (q : Int32 × Sg) (j : Nat), f_X12_bits_4 fu v1 v2 σ = some q → f_X12_bits_4 (fu + j) v1 v2 σ = some q := by
    intro fu
    induction fu with
    | zero => intro v1 v2 σ q j h; cases h
    | succ fu ih =>
      intro v1 v2 σ q j h
      rw [show fu + 1 + j = (fu + j) + 1 by omega]
      unfold f_X12_bits_4 at h ⊢
      by_cases hz : v2 = 0
      · rw [if_pos hz] at h ⊢
        exact h
      · rw [if_neg hz] at h ⊢
        exact ih _ _ _ _ j h
  have h2 : f_X12_bits_4 40 0 (nI n) σ = some (nI (pc8 n), σ) := by
    rw [f_bits4_any, h1 n h]
    rfl
  exact hm 40 _ _ _ _ 3960 h2
theorem f_has_eq (v k : Int32) (σ : Sg) : f_X12_has v k σ = some (if shr v k &&& 1 = 1 then 1 else 0, σ) := by
  unfold f_X12_has f_X12_has_14
  by_cases h : shr v k &&& 1 = 1
  · simp [h, grd, bz_1]
  · simp [h, grd, bz_0]
theorem f_get_eq {h w : Nat} (hh : h < 8) (hw : w < 5) (σ : Sg) : f_X12_get (nI h) (nI w) σ = some (σ.1 1 (10 + 5 * h + w), σ) := by
  unfold f_X12_get
  have e : (10 + 5 * nI h) + nI w = nI (10 + 5 * h + w) := by
    have e1 : (10 : Int32) = nI 10 := rfl
    have e2 : (5 : Int32) = nI 5 := rfl
    rw [e1, e2, pk_mul, nI_add, nI_add]
  rw [e]
  rw [grd_of (by rw [inb_nI (by omega) (by decide)]; rfl), ix_nI (by omega)]
