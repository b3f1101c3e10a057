/-! text: words -/
def wdB (k : Nat) : List Nat := match k with
  | 0 => [99, 111, 111, 108, 115]
  | 1 => [115, 112, 114, 101, 97, 100, 115]
  | 2 => [102, 105, 110, 101]
  | 3 => [104, 111, 117, 115, 101]
  | 4 => [115, 116, 114, 101, 101, 116]
  | 5 => [108, 105, 103, 104, 116]
  | 6 => [99, 111, 118, 101, 114]
  | 7 => [111, 112, 101, 110]
  | 8 => [102, 101, 116, 99, 104]
  | 9 => [113, 117, 101, 110, 99, 104]
  | 10 => [119, 97, 114, 100, 101, 110]
  | 11 => [104, 111, 117, 114]
  | 12 => [98, 101, 108, 108]
  | 13 => [119, 105, 110, 100]
  | 14 => [119, 104, 111]
  | 15 => [119, 111, 111, 100]
  | 16 => [102, 105, 114, 101]
  | 17 => [104, 101, 97, 116]
  | 18 => [110, 101, 97, 114]
  | 19 => [112, 117, 114, 115, 101]
  | 20 => [99, 111, 105, 110, 115]
  | 21 => [116, 111]
  | 22 => [111, 102]
  | 23 => [102, 114, 111, 109]
  | 24 => [105, 102]
  | 25 => [116, 104, 101, 110]
  | 26 => [101, 108, 115, 101]
  | 27 => [101, 110, 100]
  | 28 => [97, 110, 100]
  | 29 => [111, 114]
  | 47 => [119, 97, 114, 109]
  | 48 => [110, 111, 116]
  | 49 => [111, 100, 100]
  | 50 => [101, 118, 101, 110]
  | _ => []
def fn2 : Nat → Nat → List Nat → Nat
  | 0, _, _ => 44
  | n + 1, f, bs => if wdB f = bs then f else fn2 n (f + 1) bs
def or44 (a b : Nat) : Nat := if a = 44 then b else a
def wordK (bs : List Nat) : Nat := or44 (or44 (or44 (or44 (fn2 8 0 bs) (fn2 8 8 bs)) (fn2 8 16 bs)) (fn2 6 24 bs)) (fn2 4 47 bs)
theorem fn2_v : ∀ (n f : Nat) (bs : List Nat), fn2 n f bs = 44 ∨ (f ≤ fn2 n f bs ∧ fn2 n f bs < f + n ∧ wdB (fn2 n f bs) = bs)
  | 0, _, _ => Or.inl rfl
  | n + 1, f, bs => by
    by_cases z : wdB f = bs
    · have e : fn2 (n + 1) f bs = f := if_pos z
      rw [e]
      exact Or.inr ⟨Nat.le_refl _, by omega, z⟩
    · have e : fn2 (n + 1) f bs = fn2 n (f + 1) bs := if_neg z
      rw [e]
      rcases fn2_v n (f + 1) bs with h | ⟨a, b, c⟩
      · exact Or.inl h
      · exact Or.inr ⟨by omega, by omega, c⟩
theorem or44_v {a b : Nat} {Q : Nat → Prop} (h : a = 44 ∨ Q a) (g : b = 44 ∨ Q b) : or44 a b = 44 ∨ Q (or44 a b) := by
  unfold or44
  by_cases z : a = 44
  · rw [if_pos z]
    exact g
  · rw [if_neg z]
    exact Or.inr (h.resolve_left z)
theorem wordK_v (bs : List Nat) : wordK bs = 44 ∨ (isW (wordK bs) ∧ wdB (wordK bs) = bs) := by
  have f : ∀ n f, (n + f ≤ 30 ∨ (47 ≤ f ∧ n + f ≤ 51)) → fn2 n f bs = 44 ∨ (isW (fn2 n f bs) ∧ wdB (fn2 n f bs) = bs) := by
    intro n f h
    rcases fn2_v n f bs with g | ⟨a, b, c⟩
    · exact Or.inl g
    · exact Or.inr ⟨by unfold isW; omega, c⟩
  unfold wordK
  exact or44_v (Q := fun r => isW r ∧ wdB r = bs) (or44_v (Q := fun r => isW r ∧ wdB r = bs) (or44_v (Q := fun r => isW r ∧ wdB r = bs) (or44_v (Q := fun r => isW r ∧ wdB r = bs) (f 8 0 (by omega)) (f 8 8 (by omega))) (f 8 16 (by omega))) (f 6 24 (by omega))) (f 4 47 (by omega))
theorem wordK_t : ∀ k, k ≤ 50 → (k ≤ 29 ∨ 47 ≤ k) → wordK (wdB k) = k := by decide +kernel
theorem wordK_iff {bs : List Nat} {k : Nat} (h : isW k) : wordK bs = k ↔ wdB k = bs := by
  constructor
  · intro e
    rcases wordK_v bs with g | ⟨_, g⟩
    · rw [e] at g
      unfold isW at h
      omega
    · rw [e] at g
      exact g
  · intro e
    rw [← e]
    refine wordK_t k ?_ ?_
    · unfold isW at h
      omega
    · unfold isW at h
      omega
theorem wordK_50 (bs : List Nat) : wordK bs ≤ 50 := by
  rcases wordK_v bs with g | ⟨g, _⟩
  · omega
  · unfold isW at g
    omega
def tkB (T : Nat → Nat) : Nat → Nat → List Nat
  | 0, _ => []
  | n + 1, i => T i :: tkB T n (i + 1)
def nbt : List Nat → Nat → Nat
  | [], _ => 32
  | b :: _, 0 => b
  | _ :: bs, i + 1 => nbt bs i
theorem tkB_len {T : Nat → Nat} : ∀ (n i : Nat), (tkB T n i).length = n
  | 0, _ => rfl
  | n + 1, i => by
    show (tkB T n (i + 1)).length + 1 = n + 1
    rw [tkB_len n (i + 1)]
theorem nbt_tkB {T : Nat → Nat} : ∀ (n i k : Nat), nbt (tkB T n i) k = if k < n then T (i + k) else 32
  | 0, i, k => by
    rw [if_neg (Nat.not_lt_zero _)]
    rfl
  | n + 1, i, 0 => by
    rw [if_pos (by omega)]
    rfl
  | n + 1, i, k + 1 => by
    show nbt (tkB T n (i + 1)) k = _
    rw [nbt_tkB n (i + 1) k]
    by_cases z : k < n
    · rw [if_pos z, if_pos (by omega), show i + 1 + k = i + (k + 1) by omega]
    · rw [if_neg z, if_neg (by omega)]
theorem nbt_ext : ∀ (n : Nat) (xs ys : List Nat), (∀ b ∈ xs, b ≠ 32) → (∀ b ∈ ys, b ≠ 32) → xs.length ≤ n → ys.length ≤ n → (∀ k, k < n → nbt xs k = nbt ys k) → xs = ys
  | _, [], [], _, _, _, _, _ => rfl
  | 0, _ :: _, _, _, _, h, _, _ => absurd h (by simp)
  | 0, [], _ :: _, _, _, _, h, _ => absurd h (by simp)
  | n + 1, x :: xs, [], hx, _, _, _, e => absurd (e 0 (by omega)) (hx x (List.mem_cons_self ..))
  | n + 1, [], y :: ys, _, hy, _, _, e => absurd (e 0 (by omega)).symm (hy y (List.mem_cons_self ..))
  | n + 1, x :: xs, y :: ys, hx, hy, h1, h2, e => by
    have e0 : x = y := e 0 (by omega)
    have es := nbt_ext n xs ys (fun b hb => hx b (List.mem_cons_of_mem _ hb)) (fun b hb => hy b (List.mem_cons_of_mem _ hb)) (Nat.le_of_succ_le_succ h1) (Nat.le_of_succ_le_succ h2) (fun k hk => e (k + 1) (by omega))
    rw [e0, es]
theorem wdB_32 : ∀ k, k ≤ 50 → (wdB k).length < 8 ∧ ∀ b ∈ wdB k, b ≠ 32 := by decide +kernel
