/-! text: the class's words -/
def nwt (j : Nat) : Nat := if j = 3 then 6 else if j = 4 then 4 else 8
def fs (j : Nat) : Nat := if j = 4 then 47 else 8 * j
theorem x_chr_t : ∀ j, j < 5 → ∀ w, w < nwt j → ∀ k, k < 8 → inb (nI (8 * w + k)) (lenS.getD j 0) = true ∧ i2c (((bytS.getD j []).getD (ix (nI (8 * w + k))) 0) &&& 255) = nI (nbt (wdB (fs j + w)) k) ∧ chz (nI (nbt (wdB (fs j + w)) k)) = true ∧ 8 * w + k < lenS.getD j 0 := by decide +kernel
theorem x_len_t : ∀ j, j < 5 → lenS.getD j 0 = 8 * nwt j ∧ nwt j ≤ 8 ∧ 4 ≤ nwt j ∧ shr (Int32.ofNat (lenS.getD j 0)) 0 = nI (8 * nwt j) ∧ (nI (8 * nwt j) / 8 = nI (nwt j)) ∧ fs j + nwt j ≤ 51 := by decide +kernel
theorem x_chr {j w k : Nat} (hj : j < 5) (hw : w < nwt j) (hk : k < 8) (σ : Sg) : f_J0_charAt_5068e j (nI (8 * w + k)) σ = some (nI (nbt (wdB (fs j + w)) k), σ) := by
  obtain ⟨a, b, c, d⟩ := x_chr_t j hj w hw k hk
  obtain ⟨e1, e2, _⟩ := x_len_t j hj
  have n1 : ¬ ((1 : Int32) = 0) := by decide
  have lt : nI (8 * w + k) < Int32.ofNat (lenS.getD j 0) := nI_lt (b := lenS.getD j 0) d (by omega)
  unfold f_J0_charAt_5068e f_J0_isLatin1_aae02 f_J0_isLatin1_aae02_18 f_J1_charAt_3b067 f_J0_checkIndex_df160 f_J3_checkIndex_8e157
  rw [if_neg n1, if_pos (show (0 : Int32) = 0 from rfl), grd_of (by decide), e_bnd, if_neg n1, if_neg (nI_pos (n := 8 * w + k) (by omega)), if_pos lt, e_bnd, e_bndV, grd_of a, b, grd_of c, e_bnd, grd_of c]
theorem x_len {j : Nat} (hj : j < 5) (σ : Sg) : f_J0_length_8abf5 j σ = some (nI (8 * nwt j), σ) := by
  obtain ⟨_, _, _, e, _⟩ := x_len_t j hj
  unfold f_J0_length_8abf5 f_J0_coder_7d493 f_J0_coder_7d493_14
  rw [if_neg (show ¬ ((1 : Int32) = 0) by decide), grd_of (by decide), e_bnd, e]
theorem x_isWord {T : Nat → Nat} {j w i e : Nat} (hj : j < 5) (hw : w < nwt j) (hi : i < e) (he : e ≤ 300) {σ : Sg} (hT : ∀ k, i ≤ k → k < e → σ.1 70 k = nI (T k) ∧ T k < 256 ∧ T k ≠ 32) : f_X7_isWord j (nI (w * 8)) (nI i) (nI e) σ = some (if wdB (fs j + w) = tkB T (e - i) i then nI 1 else nI 0, σ) := by
  obtain ⟨l1, l2, l3, l4, l5, l6⟩ := x_len_t j hj
  obtain ⟨z1, z2⟩ := wdB_32 (fs j + w) (by omega)
  have sb : nI e - nI i = nI (e - i) := e_sub (by omega)
  unfold f_X7_isWord f_X7_isWord_24
  rw [sb]
  by_cases g : 8 ≤ e - i
  · rw [if_pos (show (8 : Int32) ≤ nI (e - i) from nI_le (a := 8) g (by omega)), if_neg (fun q => by
      have := congrArg List.length q
      rw [tkB_len] at this
      omega)]
    rfl
  rw [if_neg (show ¬ ((8 : Int32) ≤ nI (e - i)) from nI_ge (b := 8) (by omega) (by decide)), if_neg (nI_pos (n := w * 8) (by omega)), x_len hj, e_bnd, if_pos (show nI (w * 8) ≤ nI (8 * nwt j) - 8 from by
    rw [show nI (8 * nwt j) - 8 = nI (8 * nwt j - 8) from e_sub (b := 8) (by omega)]
    exact nI_le (by omega) (by omega))]
  have st : ∀ k, k < 8 → ∀ fu, f_X7_isWord_29 j (fu + 1) (nI (w * 8)) (nI i) (nI e) (nI k) σ = if nbt (wdB (fs j + w)) k = nbt (tkB T (e - i) i) k then f_X7_isWord_29 j fu (nI (w * 8)) (nI i) (nI e) (nI (k + 1)) σ else some (0, σ) := by
    intro k hk fu
    have c65 : ∀ v : Nat, v < 256 → f_X7_isWord_65 j (f_X7_isWord_29 j fu) (nI (w * 8)) (nI i) (nI e) (nI k) (nI v) σ = if nbt (wdB (fs j + w)) k = v then f_X7_isWord_29 j fu (nI (w * 8)) (nI i) (nI e) (nI (k + 1)) σ else some (0, σ) := by
      intro v hv
      have nb2 : nbt (wdB (fs j + w)) k < 256 := by
        have t : ∀ x, x ≤ 50 → ∀ k, k < 8 → nbt (wdB x) k < 256 := by decide +kernel
        exact t _ (by omega) k hk
      unfold f_X7_isWord_65
      rw [show nI (w * 8) + nI k = nI (8 * w + k) by rw [nI_add, Nat.mul_comm], x_chr hj hw hk, e_bnd]
      by_cases q : nbt (wdB (fs j + w)) k = v
      · rw [if_pos (by rw [q]), if_pos q, show nI k + 1 = nI (k + 1) from nI_add _ _]
      · rw [if_neg (fun z => q ((nI_eq (by omega) (by omega)).mp z)), if_neg q]
    show (if (8 : Int32) ≤ nI k then _ else _) = _
    rw [if_neg (show ¬ ((8 : Int32) ≤ nI k) from nI_ge (b := 8) hk (by decide)), show nI i + nI k = nI (i + k) from nI_add _ _, nbt_tkB]
    by_cases x : k < e - i
    · obtain ⟨t1, t2, t3⟩ := hT (i + k) (by omega) (by omega)
      rw [if_neg (show ¬ (nI e ≤ nI (i + k)) from nI_ge (by omega) (by omega)), if_neg (show ¬ ((300 : Int32) ≤ nI (i + k)) from nI_ge (b := 300) (by omega) (by decide)), grd_of (by rw [e_inb (by omega) (by decide)]; rfl), e_ix (by omega), t1, c65 _ t2, if_pos x]
    · rw [if_pos (show nI e ≤ nI (i + k) from nI_le (by omega) (by omega)), if_neg x]
      exact c65 32 (by decide)
  have all : ∀ d k, k + d = 8 → ∀ fu, d < fu → ((∀ x, x < 8 → k ≤ x → nbt (wdB (fs j + w)) x = nbt (tkB T (e - i) i) x) → f_X7_isWord_29 j fu (nI (w * 8)) (nI i) (nI e) (nI k) σ = some (nI 1, σ)) ∧ (¬ (∀ x, x < 8 → k ≤ x → nbt (wdB (fs j + w)) x = nbt (tkB T (e - i) i) x) → f_X7_isWord_29 j fu (nI (w * 8)) (nI i) (nI e) (nI k) σ = some (nI 0, σ)) := by
    intro d
    induction d with
    | zero =>
      intro k hk fu hfu
      obtain ⟨f, rfl⟩ : ∃ f, fu = f + 1 := ⟨fu - 1, by omega⟩
      refine ⟨fun _ => ?_, fun g2 => absurd (fun x h1 h2 => absurd h1 (by omega)) g2⟩
      rw [show k = 8 by omega]
      rfl
    | succ d ih =>
      intro k hk fu hfu
      obtain ⟨f, rfl⟩ : ∃ f, fu = f + 1 := ⟨fu - 1, by omega⟩
      rw [st k (by omega) f]
      obtain ⟨ih1, ih2⟩ := ih (k + 1) (by omega) f (by omega)
      by_cases q : nbt (wdB (fs j + w)) k = nbt (tkB T (e - i) i) k
      · rw [if_pos q]
        refine ⟨fun y => ih1 (fun x h1 h2 => y x h1 (by omega)), fun y => ih2 (fun g2 => y (fun x h1 h2 => ?_))⟩
        by_cases g3 : x = k
        · rw [g3]
          exact q
        · exact g2 x h1 (by omega)
      · rw [if_neg q]
        exact ⟨fun y => absurd (y k (by omega) (Nat.le_refl _)) q, fun _ => rfl⟩
  have z0 : (0 : Int32) = nI 0 := rfl
  obtain ⟨al1, al2⟩ := all 8 0 rfl FU (by unfold FU; omega)
  rw [z0]
  by_cases y : wdB (fs j + w) = tkB T (e - i) i
  · rw [if_pos y]
    exact al1 (fun x _ _ => by rw [y])
  · rw [if_neg y]
    refine al2 (fun q => y (nbt_ext 8 _ _ z2 (fun b hb => ?_) (by omega) (by rw [tkB_len]; omega) (fun k hk => q k hk (Nat.zero_le _))))
    have mem : ∀ n i, (∀ k, i ≤ k → k < i + n → T k ≠ 32) → ∀ b ∈ tkB T n i, b ≠ 32 := by
      intro n
      induction n with
      | zero => intro i _ b hb; exact absurd hb List.not_mem_nil
      | succ n ih =>
        intro i h b hb
        rcases List.mem_cons.mp hb with rfl | hb
        · exact h i (Nat.le_refl _) (by omega)
        · exact ih (i + 1) (fun k h1 h2 => h k (by omega) (by omega)) b hb
    exact mem (e - i) i (fun k h1 h2 => (hT k h1 (by omega)).2.2) b hb
theorem fn2_50 {n f : Nat} {bs : List Nat} (h : f + n ≤ 51) : fn2 n f bs ≤ 50 := by
  rcases fn2_v n f bs with g | ⟨_, g, _⟩ <;> omega
theorem x_wordIn {T : Nat → Nat} {j i e : Nat} (hj : j < 5) (hi : i < e) (he : e ≤ 300) {σ : Sg} (hT : ∀ k, i ≤ k → k < e → σ.1 70 k = nI (T k) ∧ T k < 256 ∧ T k ≠ 32) : f_X7_wordIn j (nI (fs j)) (nI i) (nI e) σ = some (nI (fn2 (nwt j) (fs j) (tkB T (e - i) i)), σ) := by
  obtain ⟨l1, l2, l3, l4, l5, l6⟩ := x_len_t j hj
  have all : ∀ d w, w + d = nwt j → ∀ fu, d < fu → f_X7_wordIn_3 j fu (nI (fs j)) (nI i) (nI e) (nI w) σ = some (nI (fn2 d (fs j + w) (tkB T (e - i) i)), σ) := by
    intro d
    induction d with
    | zero =>
      intro w hw fu hfu
      obtain ⟨f, rfl⟩ : ∃ f, fu = f + 1 := ⟨fu - 1, by omega⟩
      show bnd (f_J0_length_8abf5 j σ) _ = _
      rw [x_len hj, e_bnd, grd_of (by decide), l5, if_pos (show nI (nwt j) ≤ nI w from nI_le (by omega) (by omega))]
      rfl
    | succ d ih =>
      intro w hw fu hfu
      obtain ⟨f, rfl⟩ : ∃ f, fu = f + 1 := ⟨fu - 1, by omega⟩
      show bnd (f_J0_length_8abf5 j σ) _ = _
      rw [x_len hj, e_bnd, grd_of (by decide), l5, if_neg (show ¬ (nI (nwt j) ≤ nI w) from nI_ge (by omega) (by omega)), show nI w * 8 = nI (w * 8) from pk_mul _ 8, x_isWord hj (by omega) hi he hT, e_bnd]
      have e2 : fn2 (d + 1) (fs j + w) (tkB T (e - i) i) = if wdB (fs j + w) = tkB T (e - i) i then fs j + w else fn2 d (fs j + w + 1) (tkB T (e - i) i) := rfl
      rw [e2]
      by_cases y : wdB (fs j + w) = tkB T (e - i) i
      · rw [if_pos y, if_neg (show ¬ (nI 1 = 0) by decide), if_pos y, nI_add]
      · rw [if_neg y, if_pos (show nI 0 = 0 from rfl), if_neg y, show nI w + 1 = nI (w + 1) from nI_add _ _]
        exact ih (w + 1) (by omega) f (by omega)
  have := all (nwt j) 0 (Nat.zero_add _) FU (by unfold FU; omega)
  unfold f_X7_wordIn
  exact this
theorem x_wordAt {T : Nat → Nat} {i e : Nat} (hi : i < e) (he : e ≤ 300) {σ : Sg} (hT : ∀ k, i ≤ k → k < e → σ.1 70 k = nI (T k) ∧ T k < 256 ∧ T k ≠ 32) : f_X7_wordAt (nI i) (nI e) σ = some (nI (wordK (tkB T (e - i) i)), σ) := by
  obtain ⟨bs, hbs⟩ : ∃ bs, bs = tkB T (e - i) i := ⟨_, rfl⟩
  have w0 : f_X7_wordIn 0 0 (nI i) (nI e) σ = some (nI (fn2 8 0 bs), σ) := by rw [hbs]; exact x_wordIn (j := 0) (by decide) hi he hT
  have w1 : f_X7_wordIn 1 8 (nI i) (nI e) σ = some (nI (fn2 8 8 bs), σ) := by rw [hbs]; exact x_wordIn (j := 1) (by decide) hi he hT
  have w2 : f_X7_wordIn 2 16 (nI i) (nI e) σ = some (nI (fn2 8 16 bs), σ) := by rw [hbs]; exact x_wordIn (j := 2) (by decide) hi he hT
  have w3 : f_X7_wordIn 3 24 (nI i) (nI e) σ = some (nI (fn2 6 24 bs), σ) := by rw [hbs]; exact x_wordIn (j := 3) (by decide) hi he hT
  have w4 : f_X7_wordIn 4 47 (nI i) (nI e) σ = some (nI (fn2 4 47 bs), σ) := by rw [hbs]; exact x_wordIn (j := 4) (by decide) hi he hT
  rw [← hbs]
  have q : ∀ r, r ≤ 50 → (nI r = 44 ↔ r = 44) := fun r h => nI_eq (b := 44) (by omega) (by decide)
  have o50 : ∀ a b, a ≤ 50 → b ≤ 50 → or44 a b ≤ 50 := by
    intro a b h g
    unfold or44
    split <;> omega
  have a0 := fn2_50 (n := 8) (f := 0) (bs := bs) (by decide)
  have a1 := fn2_50 (n := 8) (f := 8) (bs := bs) (by decide)
  have a2 := fn2_50 (n := 8) (f := 16) (bs := bs) (by decide)
  have a3 := fn2_50 (n := 6) (f := 24) (bs := bs) (by decide)
  have s72 : ∀ r, r ≤ 50 → f_X7_wordAt_72 (nI i) (nI e) (nI r) σ = some (nI (or44 r (fn2 4 47 bs)), σ) := by
    intro r h
    unfold f_X7_wordAt_72 f_X7_wordAt_93 or44
    by_cases y : r = 44
    · rw [if_pos ((q r h).mpr y), w4, e_bnd, if_pos y]
    · rw [if_neg (fun z => y ((q r h).mp z)), if_neg y]
  have s51 : ∀ r, r ≤ 50 → f_X7_wordAt_51 (nI i) (nI e) (nI r) σ = some (nI (or44 (or44 r (fn2 6 24 bs)) (fn2 4 47 bs)), σ) := by
    intro r h
    unfold f_X7_wordAt_51
    by_cases y : r = 44
    · rw [if_pos ((q r h).mpr y), w3, e_bnd, s72 _ a3]
      show _ = some (nI (or44 (if r = 44 then fn2 6 24 bs else r) (fn2 4 47 bs)), σ)
      rw [if_pos y]
    · rw [if_neg (fun z => y ((q r h).mp z)), s72 _ h]
      show _ = some (nI (or44 (if r = 44 then fn2 6 24 bs else r) (fn2 4 47 bs)), σ)
      rw [if_neg y]
  have s30 : ∀ r, r ≤ 50 → f_X7_wordAt_30 (nI i) (nI e) (nI r) σ = some (nI (or44 (or44 (or44 r (fn2 8 16 bs)) (fn2 6 24 bs)) (fn2 4 47 bs)), σ) := by
    intro r h
    unfold f_X7_wordAt_30
    by_cases y : r = 44
    · rw [if_pos ((q r h).mpr y), w2, e_bnd, s51 _ a2]
      show _ = some (nI (or44 (or44 (if r = 44 then fn2 8 16 bs else r) (fn2 6 24 bs)) (fn2 4 47 bs)), σ)
      rw [if_pos y]
    · rw [if_neg (fun z => y ((q r h).mp z)), s51 _ h]
      show _ = some (nI (or44 (or44 (if r = 44 then fn2 8 16 bs else r) (fn2 6 24 bs)) (fn2 4 47 bs)), σ)
      rw [if_neg y]
  unfold f_X7_wordAt wordK
  rw [w0, e_bnd]
  by_cases y : fn2 8 0 bs = 44
  · rw [if_pos ((q _ a0).mpr y), w1, e_bnd, s30 _ a1]
    show _ = some (nI (or44 (or44 (or44 (if fn2 8 0 bs = 44 then fn2 8 8 bs else fn2 8 0 bs) (fn2 8 16 bs)) (fn2 6 24 bs)) (fn2 4 47 bs)), σ)
    rw [if_pos y]
  · rw [if_neg (fun z => y ((q _ a0).mp z)), s30 _ a0]
    show _ = some (nI (or44 (or44 (or44 (if fn2 8 0 bs = 44 then fn2 8 8 bs else fn2 8 0 bs) (fn2 8 16 bs)) (fn2 6 24 bs)) (fn2 4 47 bs)), σ)
    rw [if_neg y]
