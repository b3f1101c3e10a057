/-! whom: Long.bitCount -/
def nL (n : Nat) : Int64 := Int64.ofNat n
theorem nL_and (a b : Nat) : nL a &&& nL b = nL (a &&& b) := by
  apply Int64.toBitVec_inj.1
  show BitVec.ofNat 64 a &&& BitVec.ofNat 64 b = BitVec.ofNat 64 (a &&& b)
  apply BitVec.eq_of_getLsbD_eq
  intro i hi
  simp [hi]
theorem nL_or (a b : Nat) : nL a ||| nL b = nL (a ||| b) := by
  apply Int64.toBitVec_inj.1
  show BitVec.ofNat 64 a ||| BitVec.ofNat 64 b = BitVec.ofNat 64 (a ||| b)
  apply BitVec.eq_of_getLsbD_eq
  intro i hi
  simp [hi]
theorem nL_iL (n : Nat) : nL n = iL (n : Int) := (Int64.ofInt_eq_ofNat).symm
theorem nL_add (a b : Nat) : nL a + nL b = nL (a + b) := by
  rw [nL_iL, nL_iL, nL_iL, iL_add]
  rfl
theorem nL_sub {a b : Nat} (h : b ≤ a) : nL a - nL b = nL (a - b) := by
  rw [nL_iL, nL_iL, nL_iL, iL_sub]
  congr 1
  omega
theorem l_s : ∀ n, n < 64 → (((nI n).toInt64.toUInt64 &&& Int64.toUInt64 63).toBitVec % 64).toNat = n := by decide +kernel
theorem nL_shr {a k : Nat} (ha : a < 2 ^ 64) (hk : k < 64) : lushr (nL a) (nI k) = nL (a / 2 ^ k) := by
  apply Int64.toBitVec_inj.1
  show BitVec.ofNat 64 a >>> (((nI k).toInt64.toUInt64 &&& Int64.toUInt64 63).toBitVec % 64) = BitVec.ofNat 64 (a / 2 ^ k)
  apply BitVec.eq_of_toNat_eq
  rw [BitVec.ushiftRight_eq', BitVec.toNat_ushiftRight, l_s k hk, BitVec.toNat_ofNat, BitVec.toNat_ofNat, Nat.mod_eq_of_lt ha, Nat.shiftRight_eq_div_pow, Nat.mod_eq_of_lt]
  exact Nat.lt_of_le_of_lt (Nat.div_le_self _ _) ha
theorem nL_i (a : Nat) : (nL a).toInt32 = nI a := Int64.toInt32_ofNat'
theorem lsh1 : ∀ k, k < 64 → lshl 1 (nI k) = nL (2 ^ k) := by decide +kernel
def cd : Nat → Nat → Nat
  | 0, _ => 0
  | n + 1, m => m % 2 + cd n (m / 2)
theorem cd_add : ∀ a b m, cd (a + b) m = cd a m + cd b (m / 2 ^ a)
  | 0, b, m => by rw [Nat.zero_add, Nat.pow_zero, Nat.div_one]; exact (Nat.zero_add _).symm
  | a + 1, b, m => by
    rw [show a + 1 + b = (a + b) + 1 by omega]
    show m % 2 + cd (a + b) (m / 2) = (m % 2 + cd a (m / 2)) + _
    rw [cd_add a b (m / 2), Nat.div_div_eq_div_mul, Nat.pow_succ, Nat.mul_comm 2, Nat.add_assoc]
theorem cd_8 (m : Nat) : cd 8 m = pc8 (m % 256) := by
  have h : ∀ l, l < 256 → cd 8 l = pc8 l := by decide +kernel
  rw [← h _ (Nat.mod_lt _ (by decide))]
  simp only [cd]
  omega
theorem cd_0 : ∀ n, cd n 0 = 0
  | 0 => rfl
  | n + 1 => by
    show 0 % 2 + cd n (0 / 2) = 0
    rw [Nat.zero_div, cd_0 n]
theorem cd_le : ∀ n m, cd n m ≤ n
  | 0, _ => Nat.le_refl _
  | n + 1, m => by
    have := cd_le n (m / 2)
    show m % 2 + cd n (m / 2) ≤ n + 1
    omega
theorem cd_or : ∀ n k m, k < n → cd n (m ||| 2 ^ k) = if m.testBit k = true then cd n m else cd n m + 1
  | 0, k, m, h => absurd h (by omega)
  | n + 1, 0, m, _ => by
    show (m ||| 2 ^ 0) % 2 + cd n ((m ||| 2 ^ 0) / 2) = if m.testBit 0 = true then m % 2 + cd n (m / 2) else m % 2 + cd n (m / 2) + 1
    have e1 : (m ||| 2 ^ 0) / 2 = m / 2 := by
      have := Nat.or_div_two_pow (a := m) (b := 2 ^ 0) (n := 1)
      rw [Nat.pow_one] at this
      rw [this]
      show m / 2 ||| 0 = _
      exact Nat.or_zero _
    have e2 : (m ||| 2 ^ 0) % 2 = 1 := by
      have := Nat.or_mod_two_pow (a := m) (b := 2 ^ 0) (n := 1)
      rw [Nat.pow_one] at this
      rw [this]
      rcases Nat.mod_two_eq_zero_or_one m with z | z <;> rw [z] <;> rfl
    rw [e1, e2]
    have tz : m.testBit 0 = decide (m % 2 = 1) := Nat.testBit_zero m
    by_cases z : m % 2 = 1
    · rw [if_pos (by rw [tz]; exact decide_eq_true z)]
      omega
    · rw [if_neg (by rw [tz]; exact fun q => z (of_decide_eq_true q))]
      omega
  | n + 1, k + 1, m, h => by
    show (m ||| 2 ^ (k + 1)) % 2 + cd n ((m ||| 2 ^ (k + 1)) / 2) = if m.testBit (k + 1) = true then m % 2 + cd n (m / 2) else m % 2 + cd n (m / 2) + 1
    have p : 2 ^ (k + 1) / 2 = 2 ^ k := by rw [Nat.pow_succ]; omega
    have p2 : 2 ^ (k + 1) % 2 = 0 := by rw [Nat.pow_succ]; omega
    have e1 : (m ||| 2 ^ (k + 1)) / 2 = m / 2 ||| 2 ^ k := by
      have := Nat.or_div_two_pow (a := m) (b := 2 ^ (k + 1)) (n := 1)
      rw [Nat.pow_one] at this
      rw [this, p]
    have e2 : (m ||| 2 ^ (k + 1)) % 2 = m % 2 := by
      have := Nat.or_mod_two_pow (a := m) (b := 2 ^ (k + 1)) (n := 1)
      rw [Nat.pow_one] at this
      rw [this, p2, Nat.or_zero]
    rw [e1, e2, cd_or n k (m / 2) (by omega), Nat.testBit_succ]
    split <;> omega
theorem and_cat {a b M m : Nat} (hb : b < 256) (hm : m < 256) : (256 * a + b) &&& (256 * M + m) = 256 * (a &&& M) + (b &&& m) := by
  have h1 := Nat.and_div_two_pow (a := 256 * a + b) (b := 256 * M + m) (n := 8)
  have h2 := Nat.and_mod_two_pow (a := 256 * a + b) (b := 256 * M + m) (n := 8)
  rw [show (2 : Nat) ^ 8 = 256 from rfl] at h1 h2
  rw [show (256 * a + b) / 256 = a by omega, show (256 * M + m) / 256 = M by omega] at h1
  rw [show (256 * a + b) % 256 = b by omega, show (256 * M + m) % 256 = m by omega] at h2
  omega
def msk (b : Nat) : Nat → Nat
  | 0 => 0
  | n + 1 => 256 * msk b n + b
def bc1 (n x : Nat) : Nat := x - (x / 2 &&& msk 85 n)
def bc2 (n a : Nat) : Nat := (a &&& msk 51 n) + (a / 4 &&& msk 51 n)
def bc3 (n b : Nat) : Nat := b + b / 16 &&& msk 15 n
theorem m51 (n y : Nat) : (y &&& msk 51 n) % 16 ≤ 3 := by
  have h2 := Nat.and_mod_two_pow (a := y) (b := msk 51 n) (n := 4)
  rw [show (2 : Nat) ^ 4 = 16 from rfl] at h2
  rw [h2]
  refine Nat.le_trans Nat.and_le_right ?_
  cases n with
  | zero => decide
  | succ n =>
    show (256 * msk 51 n + 51) % 16 ≤ 3
    omega
theorem bc1_cat {n h l : Nat} (hl : l < 256) : bc1 (n + 1) (256 * h + l) = 256 * bc1 n h + (l - (l / 2 &&& 85)) := by
  have d : ∀ c, c < 2 → ∀ l, l < 256 → (128 * c + l / 2) &&& 85 = l / 2 &&& 85 := by decide +kernel
  have e1 : (256 * h + l) / 2 = 256 * (h / 2) + (128 * (h % 2) + l / 2) := by omega
  unfold bc1
  rw [e1]
  show 256 * h + l - ((256 * (h / 2) + (128 * (h % 2) + l / 2)) &&& (256 * msk 85 n + 85)) = _
  rw [and_cat (by omega) (by decide), d _ (by omega) _ hl]
  have q1 : h / 2 &&& msk 85 n ≤ h / 2 := Nat.and_le_left
  have q2 : l / 2 &&& 85 ≤ l / 2 := Nat.and_le_left
  omega
theorem bc2_cat {n h l : Nat} (hl : l < 256) : bc2 (n + 1) (256 * h + l) = 256 * bc2 n h + ((l &&& 51) + (l / 4 &&& 51)) := by
  have d : ∀ c, c < 4 → ∀ l, l < 256 → (64 * c + l / 4) &&& 51 = l / 4 &&& 51 := by decide +kernel
  have e1 : (256 * h + l) / 4 = 256 * (h / 4) + (64 * (h % 4) + l / 4) := by omega
  unfold bc2
  rw [e1]
  show ((256 * h + l) &&& (256 * msk 51 n + 51)) + ((256 * (h / 4) + (64 * (h % 4) + l / 4)) &&& (256 * msk 51 n + 51)) = _
  rw [and_cat hl (by decide), and_cat (by omega) (by decide), d _ (by omega) _ hl]
  omega
theorem bc3_cat {n h l : Nat} (hl : l ≤ 102) (hh : h % 16 ≤ 6) : bc3 (n + 1) (256 * h + l) = 256 * bc3 n h + ((l + l / 16) % 16) := by
  have e1 : 256 * h + l + (256 * h + l) / 16 = 256 * (h + h / 16) + (16 * (h % 16) + l / 16 + l) := by omega
  unfold bc3
  rw [e1]
  show (256 * (h + h / 16) + (16 * (h % 16) + l / 16 + l)) &&& (256 * msk 15 n + 15) = _
  rw [and_cat (by omega) (by decide), Nat.and_two_pow_sub_one_eq_mod _ 4]
  omega
theorem bc_byte : ∀ l, l < 256 → (((l - (l / 2 &&& 85)) &&& 51) + ((l - (l / 2 &&& 85)) / 4 &&& 51) + (((l - (l / 2 &&& 85)) &&& 51) + ((l - (l / 2 &&& 85)) / 4 &&& 51)) / 16) % 16 = pc8 l ∧ ((l - (l / 2 &&& 85)) &&& 51) + ((l - (l / 2 &&& 85)) / 4 &&& 51) ≤ 102 := by decide +kernel
theorem bc_cat {n h l : Nat} (hl : l < 256) : bc3 (n + 1) (bc2 (n + 1) (bc1 (n + 1) (256 * h + l))) = 256 * bc3 n (bc2 n (bc1 n h)) + pc8 l := by
  obtain ⟨b1, b2⟩ := bc_byte l hl
  have n16 : bc2 n (bc1 n h) % 16 ≤ 6 := by
    have q1 := m51 n (bc1 n h)
    have q2 := m51 n (bc1 n h / 4)
    unfold bc2
    omega
  rw [bc1_cat hl, bc2_cat (by omega), bc3_cat b2 n16, b1]
def dgs : Nat → Nat → Nat
  | 0, _ => 0
  | n + 1, x => 256 * dgs n (x / 256) + pc8 (x % 256)
theorem bc_dg : ∀ n x, x < 256 ^ n → bc3 n (bc2 n (bc1 n x)) = dgs n x
  | 0, x, h => by
    have : x = 0 := by rw [Nat.pow_zero] at h; omega
    subst this
    decide
  | n + 1, x, h => by
    have e := bc_cat (n := n) (h := x / 256) (l := x % 256) (Nat.mod_lt _ (by decide))
    rw [show 256 * (x / 256) + x % 256 = x by omega] at e
    rw [e, bc_dg n (x / 256) (by rw [Nat.pow_succ] at h; exact Nat.div_lt_of_lt_mul (by rw [Nat.mul_comm]; exact h))]
    rfl
theorem sum8 {p0 p1 p2 p3 p4 p5 p6 p7 y z w v : Nat} (h0 : p0 ≤ 8) (h1 : p1 ≤ 8) (h2 : p2 ≤ 8) (h3 : p3 ≤ 8) (h4 : p4 ≤ 8) (h5 : p5 ≤ 8) (h6 : p6 ≤ 8) (h7 : p7 ≤ 8) (hy : y = 256 * (256 * (256 * (256 * (256 * (256 * (256 * p7 + p6) + p5) + p4) + p3) + p2) + p1) + p0) (hz : z = y + y / 256) (hw : w = z + z / 65536) (hv : v = w + w / 4294967296) : v % 128 = p0 + p1 + p2 + p3 + p4 + p5 + p6 + p7 ∧ v < 2 ^ 64 := by
  obtain ⟨a7, e7⟩ : ∃ a, a = p7 := ⟨_, rfl⟩
  obtain ⟨a6, e6⟩ : ∃ a, a = 256 * a7 + p6 := ⟨_, rfl⟩
  obtain ⟨a5, e5⟩ : ∃ a, a = 256 * a6 + p5 := ⟨_, rfl⟩
  obtain ⟨a4, e4⟩ : ∃ a, a = 256 * a5 + p4 := ⟨_, rfl⟩
  obtain ⟨a3, e3⟩ : ∃ a, a = 256 * a4 + p3 := ⟨_, rfl⟩
  obtain ⟨a2, e2⟩ : ∃ a, a = 256 * a3 + p2 := ⟨_, rfl⟩
  obtain ⟨a1, e1⟩ : ∃ a, a = 256 * a2 + p1 := ⟨_, rfl⟩
  rw [← e7, ← e6, ← e5, ← e4, ← e3, ← e2, ← e1] at hy
  have yl : y < 2 ^ 60 := by
    have b7 : a7 < 9 := by omega
    have b6 : a6 < 2 ^ 12 := by clear hy hz hw hv e1 e2 e3 e4 e5; omega
    have b5 : a5 < 2 ^ 20 := by clear hy hz hw hv e1 e2 e3 e4 e6; omega
    have b4 : a4 < 2 ^ 28 := by clear hy hz hw hv e1 e2 e3 e5 e6; omega
    have b3 : a3 < 2 ^ 36 := by clear hy hz hw hv e1 e2 e4 e5 e6; omega
    have b2 : a2 < 2 ^ 44 := by clear hy hz hw hv e1 e3 e4 e5 e6; omega
    have b1 : a1 < 2 ^ 52 := by clear hy hz hw hv e2 e3 e4 e5 e6; omega
    clear hz hw hv e1 e2 e3 e4 e5 e6
    omega
  have y1 : y / 256 = a1 := by clear hz hw hv e1 e2 e3 e4 e5 e6 e7; omega
  rw [y1] at hz
  have z1 : z / 65536 = a2 + a3 := by clear hw hv e4 e5 e6 e7 y1; omega
  rw [z1] at hw
  have w1 : w / 4294967296 = a4 + a5 + a6 + a7 := by
    obtain ⟨c1, f1⟩ : ∃ c, c = a1 + a2 + a3 + a4 := ⟨_, rfl⟩
    obtain ⟨c2, f2⟩ : ∃ c, c = a2 + a3 + a4 + a5 := ⟨_, rfl⟩
    obtain ⟨c3, f3⟩ : ∃ c, c = a3 + a4 + a5 + a6 := ⟨_, rfl⟩
    obtain ⟨c4, f4⟩ : ∃ c, c = a4 + a5 + a6 + a7 := ⟨_, rfl⟩
    rw [← f4]
    have g0 : w = 256 * c1 + (p0 + p1 + p2 + p3) := by clear hv y1 z1 e4 e5 e6 e7 f2 f3 f4; omega
    have g1 : c1 = 256 * c2 + (p1 + p2 + p3 + p4) := by clear hv hw hz hy y1 z1 e5 e6 e7 f3 f4 g0; omega
    have g2 : c2 = 256 * c3 + (p2 + p3 + p4 + p5) := by clear hv hw hz hy y1 z1 e1 e6 e7 f1 f4 g0 g1; omega
    have g3 : c3 = 256 * c4 + (p3 + p4 + p5 + p6) := by clear hv hw hz hy y1 z1 e1 e2 e7 f1 f2 g0 g1 g2; omega
    clear hv hw hz hy y1 z1 e1 e2 e3 e4 e5 e6 e7 f1 f2 f3 f4 yl
    omega
  rw [w1] at hv
  have v0 : v = 256 * (a1 + a2 + a3 + a4 + a5 + a6 + a7) + (p0 + p1 + p2 + p3 + p4 + p5 + p6 + p7) := by
    clear y1 z1 w1 yl
    omega
  have vl : v < 2 ^ 64 := by
    clear e2 e3 e4 e5 e6 e7 v0
    omega
  clear hy hz hw hv e1 e2 e3 e4 e5 e6 e7 y1 z1 w1 yl
  exact ⟨by omega, vl⟩
theorem bitCount64 {x : Nat} (hx : x < 2 ^ 64) (σ : Sg) : f_J13_bitCount_95d88 (nL x) σ = some (nI (cd 64 x), σ) := by
  have m85 : (6148914691236517205 : Int64) = nL (msk 85 8) := by decide +kernel
  have m51 : (3689348814741910323 : Int64) = nL (msk 51 8) := by decide +kernel
  have m15 : (1085102592571150095 : Int64) = nL (msk 15 8) := by decide +kernel
  have l1 : bc1 8 x ≤ x := Nat.sub_le _ _
  have l2 : bc2 8 (bc1 8 x) < 2 ^ 64 := by
    have q1 : bc1 8 x &&& msk 51 8 ≤ msk 51 8 := Nat.and_le_right
    have q2 : bc1 8 x / 4 &&& msk 51 8 ≤ msk 51 8 := Nat.and_le_right
    have q3 : msk 51 8 = 3689348814741910323 := by decide
    unfold bc2
    omega
  have e1 : nL x - ((lushr (nL x) 1) &&& 6148914691236517205) = nL (bc1 8 x) := by
    rw [m85, show (1 : Int32) = nI 1 from rfl, nL_shr hx (by decide), nL_and, nL_sub]
    · rfl
    · exact Nat.le_trans Nat.and_le_left (Nat.div_le_self _ _)
  have e2 : (nL (bc1 8 x) &&& 3689348814741910323) + ((lushr (nL (bc1 8 x)) 2) &&& 3689348814741910323) = nL (bc2 8 (bc1 8 x)) := by
    rw [m51, show (2 : Int32) = nI 2 from rfl, nL_shr (by omega) (by decide), nL_and, nL_and, nL_add]
    rfl
  obtain ⟨y, hy⟩ : ∃ y, y = dgs 8 x := ⟨_, rfl⟩
  have e3 : (nL (bc2 8 (bc1 8 x)) + (lushr (nL (bc2 8 (bc1 8 x))) 4)) &&& 1085102592571150095 = nL y := by
    rw [m15, show (4 : Int32) = nI 4 from rfl, nL_shr l2 (by decide), nL_add, nL_and, hy, ← bc_dg 8 x (by rw [show (256 : Nat) ^ 8 = 2 ^ 64 by decide]; exact hx)]
    rfl
  have ey : y = 256 * (256 * (256 * (256 * (256 * (256 * (256 * pc8 (x / 256 / 256 / 256 / 256 / 256 / 256 / 256 % 256) + pc8 (x / 256 / 256 / 256 / 256 / 256 / 256 % 256)) + pc8 (x / 256 / 256 / 256 / 256 / 256 % 256)) + pc8 (x / 256 / 256 / 256 / 256 % 256)) + pc8 (x / 256 / 256 / 256 % 256)) + pc8 (x / 256 / 256 % 256)) + pc8 (x / 256 % 256)) + pc8 (x % 256) := by
    rw [hy]
    simp only [dgs, Nat.mul_zero, Nat.zero_add]
  have ec : cd 64 x = pc8 (x % 256) + pc8 (x / 256 % 256) + pc8 (x / 256 / 256 % 256) + pc8 (x / 256 / 256 / 256 % 256) + pc8 (x / 256 / 256 / 256 / 256 % 256) + pc8 (x / 256 / 256 / 256 / 256 / 256 % 256) + pc8 (x / 256 / 256 / 256 / 256 / 256 / 256 % 256) + pc8 (x / 256 / 256 / 256 / 256 / 256 / 256 / 256 % 256) := by
    have s : ∀ n m, cd (8 + n) m = pc8 (m % 256) + cd n (m / 256) := fun n m => by rw [cd_add, cd_8]
    rw [s 56, s 48, s 40, s 32, s 24, s 16, s 8, s 0]
    show _ + (_ + (_ + (_ + (_ + (_ + (_ + (_ + 0))))))) = _
    omega
  have b : ∀ m, pc8 (m % 256) ≤ 8 := fun m => pc8_le _
  obtain ⟨z, hz⟩ : ∃ z, z = y + y / 256 := ⟨_, rfl⟩
  obtain ⟨w, hw⟩ : ∃ w, w = z + z / 65536 := ⟨_, rfl⟩
  obtain ⟨v, hv⟩ : ∃ v, v = w + w / 4294967296 := ⟨_, rfl⟩
  obtain ⟨r, rv⟩ := sum8 (b _) (b _) (b _) (b _) (b _) (b _) (b _) (b _) ey hz hw hv
  have ly : y < 2 ^ 64 := by omega
  have lz : z < 2 ^ 64 := by omega
  have lw : w < 2 ^ 64 := by omega
  have e4 : nL y + (lushr (nL y) 8) = nL z := by
    rw [show (8 : Int32) = nI 8 from rfl, nL_shr ly (by decide), nL_add, hz]
  have e5 : nL z + (lushr (nL z) 16) = nL w := by
    rw [show (16 : Int32) = nI 16 from rfl, nL_shr lz (by decide), nL_add, hw]
  have e6 : nL w + (lushr (nL w) 32) = nL v := by
    rw [show (32 : Int32) = nI 32 from rfl, nL_shr lw (by decide), nL_add, hv]
  have e7 : (Int64.toInt32 (nL v)) &&& 127 = nI (cd 64 x) := by
    rw [nL_i, show (127 : Int32) = nI 127 from rfl, and_I, Nat.and_two_pow_sub_one_eq_mod _ 7, show (2 : Nat) ^ 7 = 128 from rfl, r, ec]
  unfold f_J13_bitCount_95d88
  rw [e1, e2, e3, e4, e5, e6, e7]
