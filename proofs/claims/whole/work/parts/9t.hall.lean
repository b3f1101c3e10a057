/-! dawn: who is given to, pure -/
def un (f : Nat → Nat) (S : Nat) : Nat → Nat
  | 0 => 0
  | i + 1 => un f S i ||| (if S.testBit i then f i else 0)
theorem un_bit {f : Nat → Nat} {S e : Nat} : ∀ i, (un f S i).testBit e = true ↔ ∃ h, h < i ∧ S.testBit h = true ∧ (f h).testBit e = true
  | 0 => by
    constructor
    · intro q
      change (0 : Nat).testBit e = true at q
      rw [Nat.zero_testBit] at q
      exact absurd q (by decide)
    · rintro ⟨h, h1, _⟩
      omega
  | i + 1 => by
    show (un f S i ||| _).testBit e = true ↔ _
    rw [Nat.testBit_or, Bool.or_eq_true, un_bit i]
    constructor
    · rintro (⟨h, h1, h2, h3⟩ | q)
      · exact ⟨h, by omega, h2, h3⟩
      · by_cases z : S.testBit i = true
        · rw [if_pos z] at q
          exact ⟨i, by omega, z, q⟩
        · rw [if_neg z, Nat.zero_testBit] at q
          exact absurd q (by decide)
    · rintro ⟨h, h1, h2, h3⟩
      by_cases z : h = i
      · subst z
        rw [if_pos h2]
        exact Or.inr h3
      · exact Or.inl ⟨h, by omega, h2, h3⟩
def cp (r : Nat → Nat) (m : Nat) : Nat → Nat
  | 0 => 0
  | i + 1 => cp r m i + (if m.testBit i = true then r i else 0)
theorem cp_mono {r : Nat → Nat} {m n : Nat} : ∀ i, (∀ g, g < i → m.testBit g = true → n.testBit g = true) → cp r m i ≤ cp r n i
  | 0, _ => Nat.le_refl _
  | i + 1, h => by
    have ih := cp_mono (r := r) i (fun g hg => h g (by omega))
    have := h i (by omega)
    show cp r m i + _ ≤ cp r n i + _
    by_cases z : m.testBit i = true
    · rw [if_pos z, if_pos (this z)]
      omega
    · rw [if_neg z]
      omega
theorem cp_congr {r s : Nat → Nat} {m n : Nat} : ∀ i, (∀ g, g < i → (if m.testBit g = true then r g else 0) = if n.testBit g = true then s g else 0) → cp r m i = cp s n i
  | 0, _ => rfl
  | i + 1, h => by
    show cp r m i + _ = cp s n i + _
    rw [cp_congr i (fun g hg => h g (by omega)), h i (by omega)]
theorem cp_or {r : Nat → Nat} {a b : Nat} : ∀ i, cp r (a ||| b) i + cp r (a &&& b) i = cp r a i + cp r b i
  | 0 => rfl
  | i + 1 => by
    have ih := cp_or (r := r) (a := a) (b := b) i
    show cp r (a ||| b) i + _ + (cp r (a &&& b) i + _) = cp r a i + _ + (cp r b i + _)
    rw [Nat.testBit_or, Nat.testBit_and]
    cases a.testBit i <;> cases b.testBit i <;> simp <;> omega
def dn (r : Nat → Nat) (g : Nat) : Nat → Nat := up r g (r g - 1)
theorem cp_dn {r : Nat → Nat} {m g : Nat} (h : 0 < r g) : ∀ i, cp (dn r g) m i + (if m.testBit g = true ∧ g < i then 1 else 0) = cp r m i
  | 0 => by
    rw [if_neg (by omega)]
    rfl
  | i + 1 => by
    have ih := cp_dn (m := m) h i
    show cp (dn r g) m i + (if m.testBit i = true then dn r g i else 0) + _ = cp r m i + (if m.testBit i = true then r i else 0)
    by_cases z : i = g
    · subst z
      have e : dn r i i = r i - 1 := up_hit
      rw [if_neg (by omega)] at ih
      rw [e]
      by_cases y : m.testBit i = true
      · rw [if_pos y, if_pos y, if_pos ⟨y, by omega⟩]
        omega
      · rw [if_neg y, if_neg y, if_neg (fun q => y q.1)]
        omega
    · have e : dn r g i = r i := up_ne z
      have e2 : (if m.testBit g = true ∧ g < i + 1 then 1 else 0) = (if m.testBit g = true ∧ g < i then (1 : Nat) else 0) := by
        have : (g < i + 1) = (g < i) := propext ⟨fun _ => by omega, fun _ => by omega⟩
        simp only [this]
      rw [e, e2]
      omega
theorem pc8_or {a b : Nat} (ha : a < 256) (hb : b < 256) : pc8 (a ||| b) + pc8 (a &&& b) = pc8 a + pc8 b := by
  have h : ∀ x y : Bool, (x || y).toNat + (x && y).toNat = x.toNat + y.toNat := by decide
  rw [pc8_sum _ (or_lt8 ha hb), pc8_sum _ (and_lt8 ha), pc8_sum _ ha, pc8_sum _ hb]
  simp only [Nat.testBit_or, Nat.testBit_and]
  have h0 := h (a.testBit 0) (b.testBit 0)
  have h1 := h (a.testBit 1) (b.testBit 1)
  have h2 := h (a.testBit 2) (b.testBit 2)
  have h3 := h (a.testBit 3) (b.testBit 3)
  have h4 := h (a.testBit 4) (b.testBit 4)
  have h5 := h (a.testBit 5) (b.testBit 5)
  have h6 := h (a.testBit 6) (b.testBit 6)
  have h7 := h (a.testBit 7) (b.testBit 7)
  omega
def df (f r : Nat → Nat) (S : Nat) : Int := (pc8 S : Int) - (cp r (un f S 8) 8 : Int)
def sb (S T : Nat) : Prop := ∀ i, i < 8 → S.testBit i = true → T.testBit i = true
theorem un_or (f : Nat → Nat) (a b : Nat) : un f (a ||| b) 8 = un f a 8 ||| un f b 8 := by
  apply Nat.eq_of_testBit_eq
  intro e
  rw [Bool.eq_iff_iff, Nat.testBit_or, Bool.or_eq_true, un_bit, un_bit, un_bit]
  constructor
  · rintro ⟨h, h1, h2, h3⟩
    rw [Nat.testBit_or, Bool.or_eq_true] at h2
    rcases h2 with q | q
    · exact Or.inl ⟨h, h1, q, h3⟩
    · exact Or.inr ⟨h, h1, q, h3⟩
  · rintro (⟨h, h1, h2, h3⟩ | ⟨h, h1, h2, h3⟩)
    · exact ⟨h, h1, by rw [Nat.testBit_or, h2]; rfl, h3⟩
    · exact ⟨h, h1, by rw [Nat.testBit_or, h2, Bool.or_true], h3⟩
theorem df_super {f r : Nat → Nat} {a b : Nat} (ha : a < 256) (hb : b < 256) : df f r a + df f r b ≤ df f r (a ||| b) + df f r (a &&& b) := by
  have p := pc8_or ha hb
  have c := cp_or (r := r) (a := un f a 8) (b := un f b 8) 8
  rw [← un_or] at c
  have m : cp r (un f (a &&& b) 8) 8 ≤ cp r (un f a 8 &&& un f b 8) 8 := cp_mono 8 (fun g _ q => by
    rw [un_bit] at q
    obtain ⟨h, h1, h2, h3⟩ := q
    rw [Nat.testBit_and, Bool.and_eq_true] at h2
    rw [Nat.testBit_and, Bool.and_eq_true, un_bit, un_bit]
    exact ⟨⟨h, h1, h2.1, h3⟩, ⟨h, h1, h2.2, h3⟩⟩)
  unfold df
  omega
def isD (f r : Nat → Nat) (T : Nat) (d : Int) : Prop := (∀ S, S < 256 → sb S T → df f r S ≤ d) ∧ ∃ S, S < 256 ∧ sb S T ∧ df f r S = d
theorem isD_uni {f r : Nat → Nat} {T : Nat} {d e : Int} (h : isD f r T d) (g : isD f r T e) : d = e := by
  obtain ⟨h1, S, s1, s2, s3⟩ := h
  obtain ⟨g1, R, r1, r2, r3⟩ := g
  have := h1 R r1 r2
  have := g1 S s1 s2
  omega
theorem df_0 (f r : Nat → Nat) : df f r 0 = 0 := by
  have e : un f 0 8 = 0 := by
    apply Nat.eq_of_testBit_eq
    intro e
    rw [Nat.zero_testBit]
    refine Bool.eq_false_iff.mpr fun q => ?_
    obtain ⟨h, _, h2, _⟩ := (un_bit 8).mp q
    rw [Nat.zero_testBit] at h2
    exact absurd h2 (by decide)
  have c : ∀ i, cp r 0 i = 0 := by
    intro i
    induction i with
    | zero => rfl
    | succ i ih =>
      show cp r 0 i + (if (0 : Nat).testBit i = true then r i else 0) = 0
      rw [ih, Nat.zero_testBit]
      rfl
  unfold df
  rw [e, c, pc8_0]
  rfl
theorem sb_0 (T : Nat) : sb 0 T := fun i _ q => by
  rw [Nat.zero_testBit] at q
  exact absurd q (by decide)
theorem isD_ex (f r : Nat → Nat) (T : Nat) : ∃ d, isD f r T d := by
  have h : ∀ n, ∃ d : Int, (∀ S, S < n + 1 → S < 256 → sb S T → df f r S ≤ d) ∧ ∃ S, S < 256 ∧ sb S T ∧ df f r S = d := by
    intro n
    induction n with
    | zero =>
      refine ⟨0, fun S h1 _ _ => ?_, 0, by decide, sb_0 T, df_0 f r⟩
      have : S = 0 := by omega
      subst this
      rw [df_0]
      exact Int.le_refl _
    | succ n ih =>
      obtain ⟨d, d1, d2⟩ := ih
      by_cases z : n + 1 < 256 ∧ sb (n + 1) T ∧ d < df f r (n + 1)
      · refine ⟨df f r (n + 1), fun S h1 h2 h3 => ?_, n + 1, z.1, z.2.1, rfl⟩
        by_cases y : S = n + 1
        · subst y; exact Int.le_refl _
        · have := d1 S (by omega) h2 h3
          have := z.2.2
          omega
      · refine ⟨d, fun S h1 h2 h3 => ?_, d2⟩
        by_cases y : S = n + 1
        · subst y
          refine Int.not_lt.mp (fun q => z ⟨h2, h3, q⟩)
        · exact d1 S (by omega) h2 h3
  obtain ⟨d, d1, d2⟩ := h 255
  exact ⟨d, fun S h1 h2 => d1 S (by omega) h1 h2, d2⟩
theorem isD_0 {f r : Nat → Nat} {T : Nat} {d : Int} (h : isD f r T d) : 0 ≤ d := by
  have := h.1 0 (by decide) (sb_0 T)
  rw [df_0] at this
  exact this
theorem isD_le {f r : Nat → Nat} {T : Nat} (hT : T < 256) {d : Int} (h : isD f r T d) : d ≤ pc8 T := by
  obtain ⟨_, S, s1, s2, s3⟩ := h
  have := pc8_mono s1 hT s2
  unfold df at s3
  omega
def tkh (h S : Nat) : Nat := S &&& (255 ^^^ 2 ^ h)
theorem tk_lt {h S : Nat} (hS : S < 256) : tkh h S < 256 := and_lt8 hS
theorem tk_bit {h S e : Nat} (hh : h < 8) (he : e < 8) : (tkh h S).testBit e = (S.testBit e && decide (e ≠ h)) := by
  have q : ∀ h, h < 8 → ∀ e, e < 8 → (255 ^^^ 2 ^ h).testBit e = decide (e ≠ h) := by decide +kernel
  unfold tkh
  rw [Nat.testBit_and, q h hh e he]
theorem tk_or {h S : Nat} (hh : h < 8) (hS : S < 256) (q : S.testBit h = true) : S = tkh h S ||| 2 ^ h := by
  refine bit_eq hS (or_lt8 (tk_lt hS) (two_lt hh)) fun i hi => ?_
  rw [Nat.testBit_or, tk_bit hh hi, Nat.testBit_two_pow]
  by_cases z : i = h
  · subst z
    rw [q, decide_eq_true rfl, Bool.or_true]
  · rw [decide_eq_true z, decide_eq_false (fun y => z y.symm), Bool.and_true, Bool.or_false]
theorem pc8_add {h S : Nat} (hh : h < 8) (hS : S < 256) (q : S.testBit h = false) : pc8 (S ||| 2 ^ h) = pc8 S + 1 := by
  have e := pc8_or hS (two_lt hh)
  have z : S &&& 2 ^ h = 0 := by
    refine bit_eq (and_lt8 hS) (by decide) fun i _ => ?_
    rw [Nat.testBit_and, Nat.testBit_two_pow, Nat.zero_testBit]
    by_cases y : h = i
    · subst y; rw [q]; rfl
    · rw [decide_eq_false y, Bool.and_false]
  rw [z, pc8_0, pc8_two h hh] at e
  exact e
theorem tk_no {h S : Nat} (hh : h < 8) : (tkh h S).testBit h = false := by
  rw [tk_bit hh hh, decide_eq_false (fun y => y rfl), Bool.and_false]
theorem sb_tk {h S T : Nat} (hh : h < 8) (s : sb S (T ||| 2 ^ h)) : sb (tkh h S) T := by
  intro i hi q
  rw [tk_bit hh hi, Bool.and_eq_true] at q
  have := s i hi q.1
  rw [Nat.testBit_or, Nat.testBit_two_pow, decide_eq_false (fun y => of_decide_eq_true q.2 y.symm), Bool.or_false] at this
  exact this
/-- one that is added -/
theorem hall {f r : Nat → Nat} {T h : Nat} (hh : h < 8) (hT : T < 256) (hn : T.testBit h = false) {d e : Int} (hd : isD f r T d) (he : isD f r (T ||| 2 ^ h) e) : e ≤ d + 1 ∧ (∀ g c, g < 8 → (f h).testBit g = true → 0 < r g → isD f (dn r g) T c → e ≤ c) ∧ (e = d + 1 ∨ ∃ g, g < 8 ∧ (f h).testBit g = true ∧ 0 < r g ∧ isD f (dn r g) T e) := by
  have split : ∀ S, S < 256 → sb S (T ||| 2 ^ h) → S.testBit h = true → (pc8 S : Int) = pc8 (tkh h S) + 1 := fun S s1 s2 s3 => by
    have e1 := pc8_add hh (tk_lt (h := h) s1) (tk_no hh)
    rw [← tk_or hh s1 s3] at e1
    omega
  have keep : ∀ S, S < 256 → sb S (T ||| 2 ^ h) → ¬ S.testBit h = true → sb S T := fun S s1 s2 s3 => by
    intro i hi q
    have := s2 i hi q
    rw [Nat.testBit_or, Nat.testBit_two_pow, decide_eq_false (fun y => s3 (by rw [y]; exact q)), Bool.or_false] at this
    exact this
  have unm : ∀ S, S.testBit h = true → ∀ g, (un f (tkh h S) 8).testBit g = true → (un f S 8).testBit g = true := fun S _ g q => by
    rw [un_bit] at q ⊢
    obtain ⟨k, k1, k2, k3⟩ := q
    rw [tk_bit hh k1, Bool.and_eq_true] at k2
    exact ⟨k, k1, k2.1, k3⟩
  have A1 : e ≤ d + 1 := by
    obtain ⟨_, S, s1, s2, s3⟩ := he
    by_cases z : S.testBit h = true
    · have p := split S s1 s2 z
      have q := hd.1 (tkh h S) (tk_lt s1) (sb_tk hh s2)
      have m : cp r (un f (tkh h S) 8) 8 ≤ cp r (un f S 8) 8 := cp_mono 8 (fun g _ y => unm S z g y)
      unfold df at s3 q
      omega
    · have q := hd.1 S s1 (keep S s1 s2 z)
      omega
  have A2 : ∀ g c, g < 8 → (f h).testBit g = true → 0 < r g → isD f (dn r g) T c → e ≤ c := by
    intro g c hg g1 g2 hc
    obtain ⟨_, S, s1, s2, s3⟩ := he
    by_cases z : S.testBit h = true
    · have p := split S s1 s2 z
      have q := hc.1 (tkh h S) (tk_lt s1) (sb_tk hh s2)
      have m : cp (dn r g) (un f (tkh h S) 8) 8 ≤ cp (dn r g) (un f S 8) 8 := cp_mono 8 (fun g _ y => unm S z g y)
      have n := cp_dn (m := un f S 8) g2 8
      rw [if_pos ⟨(un_bit 8).mpr ⟨h, hh, z, g1⟩, hg⟩] at n
      unfold df at s3 q
      omega
    · have q := hc.1 S s1 (keep S s1 s2 z)
      have n := cp_dn (m := un f S 8) g2 8
      unfold df at s3 q
      split at n <;> omega
  refine ⟨A1, A2, ?_⟩
  by_cases z : e = d + 1
  · exact Or.inl z
  · refine Or.inr (Classical.byContradiction fun no => ?_)
    have le : d ≤ e := by
      obtain ⟨_, S, s1, s2, s3⟩ := hd
      rw [← s3]
      refine he.1 S s1 (fun i hi q => ?_)
      rw [Nat.testBit_or, s2 i hi q]
      rfl
    have ed : e = d := by omega
    subst ed
    have tight : ∀ n, n ≤ 8 → ∃ U, U < 256 ∧ sb U T ∧ df f r U = e ∧ ∀ g, g < n → (f h).testBit g = true → 0 < r g → (un f U 8).testBit g = true := by
      intro n
      induction n with
      | zero =>
        intro _
        obtain ⟨_, S, s1, s2, s3⟩ := hd
        exact ⟨S, s1, s2, s3, fun g hg => absurd hg (by omega)⟩
      | succ n ih =>
        intro hn8
        obtain ⟨U, u1, u2, u3, u4⟩ := ih (by omega)
        by_cases y : (f h).testBit n = true ∧ 0 < r n
        · obtain ⟨c, hc⟩ := isD_ex f (dn r n) T
          have ce := A2 n c (by omega) y.1 y.2 hc
          have cn : c ≠ e := fun q => no ⟨n, by omega, y.1, y.2, by rw [← q]; exact hc⟩
          obtain ⟨_, V, v1, v2, v3⟩ := hc
          have dv := hd.1 V v1 v2
          have nv := cp_dn (m := un f V 8) y.2 8
          have inN : (un f V 8).testBit n = true := by
            refine Classical.byContradiction fun q => ?_
            rw [if_neg (fun w => q w.1)] at nv
            unfold df at v3 dv
            omega
          rw [if_pos ⟨inN, by omega⟩] at nv
          have tv : df f r V = e := by
            unfold df at v3 dv ⊢
            omega
          have su := df_super (f := f) (r := r) u1 v1
          have bo : sb (U ||| V) T := fun i hi q => by
            rw [Nat.testBit_or, Bool.or_eq_true] at q
            rcases q with q | q
            · exact u2 i hi q
            · exact v2 i hi q
          have ba : sb (U &&& V) T := fun i hi q => by
            rw [Nat.testBit_and, Bool.and_eq_true] at q
            exact u2 i hi q.1
          have d1 := hd.1 _ (or_lt8 u1 v1) bo
          have d2 := hd.1 _ (and_lt8 (b := V) u1) ba
          refine ⟨U ||| V, or_lt8 u1 v1, bo, by omega, fun g hg g1 g2 => ?_⟩
          rw [un_or, Nat.testBit_or, Bool.or_eq_true]
          by_cases x : g = n
          · subst x; exact Or.inr inN
          · exact Or.inl (u4 g (by omega) g1 g2)
        · refine ⟨U, u1, u2, u3, fun g hg g1 g2 => ?_⟩
          by_cases x : g = n
          · subst x; exact absurd ⟨g1, g2⟩ y
          · exact u4 g (by omega) g1 g2
    obtain ⟨U, u1, u2, u3, u4⟩ := tight 8 (Nat.le_refl _)
    have uh : U.testBit h = false := Bool.eq_false_iff.mpr (fun q => by
      have := u2 h hh q
      rw [hn] at this
      exact absurd this (by decide))
    have bU : sb (U ||| 2 ^ h) (T ||| 2 ^ h) := fun i hi q => by
      rw [Nat.testBit_or, Bool.or_eq_true] at q ⊢
      rcases q with q | q
      · exact Or.inl (u2 i hi q)
      · exact Or.inr q
    have fin := he.1 _ (or_lt8 u1 (two_lt hh)) bU
    have p := pc8_add hh u1 uh
    have c : cp r (un f (U ||| 2 ^ h) 8) 8 = cp r (un f U 8) 8 := cp_congr 8 (fun g hg => by
      by_cases x : (un f U 8).testBit g = true
      · rw [un_or, Nat.testBit_or, x]
        rfl
      · rw [if_neg x]
        by_cases y : (un f (U ||| 2 ^ h) 8).testBit g = true
        · rw [if_pos y]
          rw [un_or, Nat.testBit_or, Bool.or_eq_true, un_bit (S := 2 ^ h)] at y
          rcases y with y | ⟨k, k1, k2, k3⟩
          · exact absurd y x
          · rw [Nat.testBit_two_pow, decide_eq_true_eq] at k2
            subst k2
            exact Nat.eq_zero_of_not_pos (fun w => x (u4 g hg k3 w))
        · rw [if_neg y])
    unfold df at fin u3
    omega
