/-! text: the packed word tells the word -/
theorem isLt_b {b : Nat} (h : isLt b = true) : 65 ≤ b ∧ b ≤ 122 := by
  have := of_decide_eq_true h
  omega
theorem pw_run {L : Nat} {T : Nat → Nat} : ∀ d k w s, s + d ≤ 7 → w < 256 ^ s → (∀ x, k ≤ x → x < k + d → x < L ∧ isLt (T x) = true) → pwT L T k w = pwT L T (k + d) (pkB (tkB T d k) w)
  | 0, _, _, _, _, _, _ => rfl
  | d + 1, k, w, s, hs, hw, h => by
    obtain ⟨h1, h2⟩ := h k (Nat.le_refl _) (by omega)
    obtain ⟨_, b2⟩ := isLt_b h2
    have p : 256 ^ s ≤ 256 ^ 6 := Nat.pow_le_pow_right (by decide) (by omega)
    have c : (256 : Nat) ^ 6 = 281474976710656 := by decide
    rw [pwT_step h1 h2, if_pos (by omega), pw_run d (k + 1) (256 * w + T k) (s + 1) (by omega) (by rw [Nat.pow_succ]; omega) (fun x a b => h x (by omega) (by omega)), show k + 1 + d = k + (d + 1) by omega]
    rfl
theorem pw_60 {L : Nat} {T : Nat → Nat} : ∀ d k, L - k = d → pwT L T k 1152921504606846976 = 1152921504606846976
  | 0, k, h => pwT_stop (by omega)
  | d + 1, k, h => by
    by_cases z : isLt (T k) = true
    · rw [pwT_step (by omega) z, if_neg (by decide)]
      exact pw_60 d (k + 1) (by omega)
    · exact pwT_stop (fun q => z q.2)
theorem tkB_b {T : Nat → Nat} {Q : Nat → Prop} : ∀ n i, (∀ k, i ≤ k → k < i + n → Q (T k)) → ∀ b ∈ tkB T n i, Q b
  | 0, _, _, b, hb => absurd hb List.not_mem_nil
  | n + 1, i, h, b, hb => by
    rcases List.mem_cons.mp hb with rfl | hb
    · exact h i (Nat.le_refl _) (by omega)
    · exact tkB_b n (i + 1) (fun k h1 h2 => h k (by omega) (by omega)) b hb
theorem pw_word {L : Nat} {T : Nat → Nat} {i : Nat} (hi : i < L) (hl : isLt (T i) = true) : pwT L T i 0 < 4611686018427387904 ∧ ∀ j, isW j → j ≠ 1 → (pwT L T i 0 = pkw j ↔ wordK (tkB T (skE L T isLt i - i) i) = j) := by
  obtain ⟨e, he⟩ : ∃ e, e = skE L T isLt i := ⟨_, rfl⟩
  obtain ⟨a1, a2, a3, a4⟩ := skE_all (L := L) (T := T) (Q := isLt) _ i rfl
  rw [← he] at a1 a2 a3 a4 ⊢
  have e1 : i < e := by
    refine Nat.lt_of_le_of_ne a1 fun g => ?_
    rw [← g] at a3
    exact a3 ⟨hi, hl⟩
  have eL := a2 (by omega)
  have bb : ∀ n, n ≤ e - i → ∀ b ∈ tkB T n i, 0 < b ∧ b < 256 := fun n hn => tkB_b n i (fun k h1 h2 => by
    have := isLt_b (a4 k h1 (by omega))
    omega)
  have j50 : ∀ j, isW j → j ≤ 50 := fun j h => by
    unfold isW at h
    omega
  by_cases z : e - i ≤ 7
  · have w : pwT L T i 0 = pkB (tkB T (e - i) i) 0 := by
      rw [pw_run (e - i) i 0 0 (by omega) (by decide) (fun x h1 h2 => ⟨by omega, a4 x h1 (by omega)⟩), show i + (e - i) = e by omega]
      exact pwT_stop a3
    have hi2 := pk_hi (tkB T (e - i) i) 0 (fun b hb => (bb _ (Nat.le_refl _) b hb).2)
    rw [tkB_len, Nat.zero_add, Nat.one_mul] at hi2
    have p : 256 ^ (e - i) ≤ 256 ^ 7 := Nat.pow_le_pow_right (by decide) z
    have c : (256 : Nat) ^ 7 = 72057594037927936 := by decide
    rw [w]
    refine ⟨by omega, fun j hj hj1 => ?_⟩
    obtain ⟨q1, _, q3⟩ := pkw_pk j (j50 j hj)
    rw [wordK_iff hj, q1]
    exact ⟨fun g => (pk_inj (bb _ (Nat.le_refl _)) q3 g).symm, fun g => by rw [g]⟩
  · have w : pwT L T i 0 = 1152921504606846976 := by
      rw [pw_run 7 i 0 0 (by decide) (by decide) (fun x h1 h2 => ⟨by omega, a4 x h1 (by omega)⟩)]
      have lo := pk_lo (tkB T 6 (i + 1)) (T i)
      rw [tkB_len] at lo
      have c : (256 : Nat) ^ 6 = 281474976710656 := by decide
      have b1 := (isLt_b hl).1
      have e7 : pkB (tkB T 7 i) 0 = pkB (tkB T 6 (i + 1)) (T i) := by
        show pkB (tkB T 6 (i + 1)) (256 * 0 + T i) = _
        rw [Nat.mul_zero, Nat.zero_add]
      rw [e7, pwT_step (k := i + 7) (by omega) (a4 (i + 7) (by omega) (by omega)), if_neg (by omega)]
      exact pw_60 _ _ rfl
    rw [w]
    refine ⟨by decide, fun j hj hj1 => ⟨fun g => ?_, fun g => ?_⟩⟩
    · have := (pkw_pk j (j50 j hj)).2.1 hj1
      omega
    · have q := (wordK_iff hj).mp g
      have l := (wdB_32 j (j50 j hj)).1
      rw [q, tkB_len] at l
      omega
