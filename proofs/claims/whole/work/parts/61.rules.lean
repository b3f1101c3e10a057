/-! rules for simp over the functions of contents -/
theorem e_bnd {α β : Type} {r : α} {s : Sg} {k : α → Sg → Option β} : bnd (some (r, s)) k = k r s := Eq.trans rfl rfl
theorem e_bndV {β : Type} {s : Sg} {k : Sg → Option β} : bndV (some s) k = k s := Eq.trans rfl rfl
theorem e_lt {α : Type} {s : Sg} {k : Sg → Option α} : ltσ s k = k s := Eq.trans rfl rfl
theorem e_grd {α : Type} {x : Option α} : grd true x = x := Eq.trans rfl rfl
theorem e_lit (n : Nat) : (OfNat.ofNat n : Int32) = nI n := Eq.trans rfl rfl
theorem e_le1 {a b : Nat} (h : a ≤ b) (hb : b < 2147483648) : (nI a ≤ nI b) = True := eq_true (nI_le h hb)
theorem e_le2 {a b : Nat} (h : b < a) (hb : a < 2147483648) : (nI a ≤ nI b) = False := eq_false (nI_ge h hb)
theorem e_lt1 {a b : Nat} (h : a < b) (hb : b < 2147483648) : (nI a < nI b) = True := eq_true (nI_lt h hb)
theorem e_lt2 {a b : Nat} (h : b ≤ a) (hb : a < 2147483648) : (nI a < nI b) = False := eq_false (nI_nlt h hb)
theorem e_eq1 {a b : Nat} (h : a = b) : (nI a = nI b) = True := eq_true (congrArg nI h)
theorem e_eq2 {a b : Nat} (h : a ≠ b) (ha : a < 2147483648) (hb : b < 2147483648) : (nI a = nI b) = False := eq_false (fun q => h ((nI_eq ha hb).mp q))
theorem e_le {a b : Nat} (ha : a < 2147483648) (hb : b < 2147483648) : (nI a ≤ nI b) = (a ≤ b) := propext (nI_leI ha hb)
theorem e_ltt {a b : Nat} (ha : a < 2147483648) (hb : b < 2147483648) : (nI a < nI b) = (a < b) := propext (nI_ltI ha hb)
theorem e_eq {a b : Nat} (ha : a < 2147483648) (hb : b < 2147483648) : (nI a = nI b) = (a = b) := propext (nI_eq ha hb)
theorem e_inb {n N : Nat} (h : n < N) (hN : N < 2147483648) : inb (nI n) N = true := inb_nI h hN
theorem e_ix {n : Nat} (h : n < 2147483648) : ix (nI n) = n := ix_nI h
theorem e_sub {a b : Nat} (h : b ≤ a) : nI a - nI b = nI (a - b) := pk_sub h
theorem e_b0 {c : Prop} [Decidable c] : ((if c then nI 1 else nI 0) = nI 0) = ¬ c := by
  by_cases h : c
  · rw [if_pos h]
    exact propext ⟨fun q => absurd q (by decide), fun q => absurd h q⟩
  · rw [if_neg h]
    exact propext ⟨fun _ => h, fun _ => rfl⟩
theorem e_b1 {c : Prop} [Decidable c] : ((if c then nI 1 else nI 0) = nI 1) = c := by
  by_cases h : c
  · rw [if_pos h]
    exact propext ⟨fun _ => h, fun _ => rfl⟩
  · rw [if_neg h]
    exact propext ⟨fun q => absurd q (by decide), fun q => absurd q h⟩
theorem e_bz {c : Prop} [Decidable c] : bz (if c then nI 1 else nI 0) = true := by
  by_cases h : c
  · rw [if_pos h]; rfl
  · rw [if_neg h]; rfl
theorem e_bz0 : bz (nI 0) = true := rfl
theorem e_bz1 : bz (nI 1) = true := rfl
theorem e_hit {σ : Sg} {k i : Nat} {v : Int32} : (wI σ k i v).1 k i = v := by rw [wI_rd, if_pos ⟨rfl, rfl⟩]
theorem e_hit2 {σ : Sg} {k i a j : Nat} {v : Int32} (h : a = k) (h2 : j = i) : (wI σ k i v).1 a j = v := by rw [wI_rd, if_pos ⟨h, h2⟩]
theorem e_ne1 {σ : Sg} {k i a j : Nat} {v : Int32} (h : a ≠ k) : (wI σ k i v).1 a j = σ.1 a j := by rw [wI_rd, if_neg (fun q => h q.1)]
theorem e_ne2 {σ : Sg} {k i a j : Nat} {v : Int32} (h : j ≠ i) : (wI σ k i v).1 a j = σ.1 a j := by rw [wI_rd, if_neg (fun q => h q.2)]
/-- a loop whose states are known -/
theorem lp {α β : Type} (F : Nat → α → Option β) (st : Nat → α) (n : Nat) {r : Option β} (hs : ∀ i, i < n → ∀ fu, F (fu + 1) (st i) = F fu (st (i + 1))) (hl : ∀ fu, F (fu + 1) (st n) = r) (N : Nat) (hN : n < N) : F N (st 0) = r := by
  have h : ∀ i, i ≤ n → ∀ fu, F (fu + i + 1) (st (n - i)) = r := by
    intro i
    induction i with
    | zero => intro _ fu; exact hl fu
    | succ i ih =>
      intro hi fu
      have e := hs (n - (i + 1)) (by omega) (fu + i + 1)
      rw [show fu + (i + 1) + 1 = (fu + i + 1) + 1 by omega, e, show n - (i + 1) + 1 = n - i by omega]
      exact ih (by omega) fu
  have e := h n (Nat.le_refl _) (N - n - 1)
  rw [show N - n - 1 + n + 1 = N by omega, Nat.sub_self] at e
  exact e
/-- a loop with an invariant -/
theorem lpI {α β : Type} (F : Nat → α → Option β) (I : Nat → α → Prop) (n : Nat) (Q : Option β → Prop) (hs : ∀ i, i < n → ∀ s, I i s → ∃ s', I (i + 1) s' ∧ ∀ fu, F (fu + 1) s = F fu s') (hl : ∀ s, I n s → ∀ fu, Q (F (fu + 1) s)) (N : Nat) (hN : n < N) (s : α) (h0 : I 0 s) : Q (F N s) := by
  have h : ∀ i, i ≤ n → ∀ s, I (n - i) s → ∀ fu, Q (F (fu + i + 1) s) := by
    intro i
    induction i with
    | zero => intro _ s hI fu; exact hl s hI fu
    | succ i ih =>
      intro hi s hI fu
      obtain ⟨s', h1, h2⟩ := hs (n - (i + 1)) (by omega) s hI
      rw [show fu + (i + 1) + 1 = (fu + i + 1) + 1 by omega, h2 (fu + i + 1)]
      exact ih (by omega) s' (by rw [show n - i = n - (i + 1) + 1 by omega]; exact h1) fu
  have e := h n (Nat.le_refl _) s (by rw [Nat.sub_self]; exact h0) (N - n - 1)
  rw [show N - n - 1 + n + 1 = N by omega] at e
  exact e
/-! sets of houses below n by a property, as a mask -/
def mk : Nat → (Nat → Bool) → Nat
  | 0, _ => 0
  | n + 1, p => mk n p ||| (if p n then 2 ^ n else 0)
theorem mk_lt (n : Nat) (p : Nat → Bool) : mk n p < 2 ^ n := by
  induction n with
  | zero => exact Nat.one_pos
  | succ n ih =>
    unfold mk
    have e : 2 ^ (n + 1) = 2 ^ n + 2 ^ n := by rw [Nat.pow_succ]; omega
    refine Nat.or_lt_two_pow (by omega) ?_
    have := Nat.two_pow_pos n
    split <;> omega
theorem mk_bit (n : Nat) (p : Nat → Bool) (i : Nat) : (mk n p).testBit i = (decide (i < n) && p i) := by
  induction n with
  | zero => simp [mk]
  | succ n ih =>
    unfold mk
    rw [Nat.testBit_or, ih]
    by_cases h : i = n
    · subst h
      cases hp : p i
      · simp
      · simp [Nat.testBit_two_pow_self]
    · have e : (if p n = true then 2 ^ n else 0).testBit i = false := by
        split
        · exact Nat.testBit_two_pow_of_ne (fun q => h q.symm)
        · simp
      rw [e]
      have : (i < n) = (i < n + 1) := propext ⟨fun q => by omega, fun q => by omega⟩
      simp [this]
theorem mk8 {n : Nat} (p : Nat → Bool) (h : n ≤ 8) : mk n p < 256 := Nat.lt_of_lt_of_le (mk_lt n p) (Nat.pow_le_pow_right (by decide) h)
theorem bit_eq {a b : Nat} (ha : a < 256) (hb : b < 256) (h : ∀ i, i < 8 → a.testBit i = b.testBit i) : a = b := by
  apply Nat.eq_of_testBit_eq
  intro i
  by_cases hi : i < 8
  · exact h i hi
  · rw [Nat.testBit_lt_two_pow (i := i) (Nat.lt_of_lt_of_le ha (Nat.pow_le_pow_right (n := 2) (i := 8) (by decide) (by omega))), Nat.testBit_lt_two_pow (i := i) (Nat.lt_of_lt_of_le hb (Nat.pow_le_pow_right (n := 2) (i := 8) (by decide) (by omega)))]
theorem mk_congr {n : Nat} {p q : Nat → Bool} (h : ∀ i, i < n → p i = q i) : mk n p = mk n q := by
  induction n with
  | zero => rfl
  | succ n ih =>
    unfold mk
    rw [ih (fun i hi => h i (by omega)), h n (by omega)]
theorem mk_1 {n : Nat} {p : Nat → Bool} (h : p n = true) : mk (n + 1) p = mk n p ||| 2 ^ n := by
  show mk n p ||| _ = _
  rw [if_pos h]
theorem mk_0 {n : Nat} {p : Nat → Bool} (h : p n = false) : mk (n + 1) p = mk n p := by
  show mk n p ||| _ = _
  rw [if_neg (by rw [h]; decide), Nat.or_zero]
theorem sh1 : ∀ h, h < 16 → shl (nI 1) (nI h) = nI (2 ^ h) := by decide +kernel
theorem or_I (a b : Nat) : nI a ||| nI b = nI (a ||| b) := by
  apply Int32.toBitVec_inj.1
  show BitVec.ofNat 32 a ||| BitVec.ofNat 32 b = BitVec.ofNat 32 (a ||| b)
  apply BitVec.eq_of_getLsbD_eq
  intro i hi
  simp [hi]
theorem and_I (a b : Nat) : nI a &&& nI b = nI (a &&& b) := by
  apply Int32.toBitVec_inj.1
  show BitVec.ofNat 32 a &&& BitVec.ofNat 32 b = BitVec.ofNat 32 (a &&& b)
  apply BitVec.eq_of_getLsbD_eq
  intro i hi
  simp [hi]
theorem xor_I (a b : Nat) : nI a ^^^ nI b = nI (a ^^^ b) := by
  apply Int32.toBitVec_inj.1
  show BitVec.ofNat 32 a ^^^ BitVec.ofNat 32 b = BitVec.ofNat 32 (a ^^^ b)
  apply BitVec.eq_of_getLsbD_eq
  intro i hi
  simp [hi]
theorem hb_t : ∀ m, m < 256 → ∀ h, h < 9 → (shr (nI m) (nI h) &&& nI 1 = nI 1 ↔ m.testBit h = true) := by decide +kernel
theorem e_hb {m h : Nat} (hm : m < 256) (hh : h < 9) : (shr (nI m) (nI h) &&& nI 1 = nI 1) = (m.testBit h = true) := propext (hb_t m hm h hh)
theorem e_hb0 {m h : Nat} (hm : m < 256) (hh : h < 9) : (shr (nI m) (nI h) &&& nI 1 = nI 0) = (m.testBit h = false) := by
  have h2 : ∀ m, m < 256 → ∀ h, h < 9 → (shr (nI m) (nI h) &&& nI 1 = nI 0 ↔ m.testBit h = false) := by decide +kernel
  exact propext (h2 m hm h hh)
theorem rem_I {a d : Nat} (ha : a < 2147483648) (h0 : 0 < d) (hd : d < 2147483648) : jrem (nI a) (nI d) = nI (a % d) := pk_rem ha h0 hd
theorem dz_I {d : Nat} (h0 : 0 < d) (hd : d < 2147483648) : (!decide (nI d = 0)) = true := by
  rw [decide_eq_false (nI_ne0 h0 hd)]
  rfl
