/-! text: a word packed into a long -/
def pkB : List Nat → Nat → Nat
  | [], w => w
  | b :: bs, w => pkB bs (256 * w + b)
theorem pk_lo : ∀ (bs : List Nat) (w : Nat), w * 256 ^ bs.length ≤ pkB bs w
  | [], w => by
    show w * 256 ^ 0 ≤ w
    rw [Nat.pow_zero, Nat.mul_one]
    exact Nat.le_refl _
  | b :: bs, w => by
    show w * 256 ^ (bs.length + 1) ≤ pkB bs (256 * w + b)
    refine Nat.le_trans ?_ (pk_lo bs (256 * w + b))
    rw [Nat.pow_succ, Nat.mul_comm (256 ^ bs.length) 256, ← Nat.mul_assoc]
    exact Nat.mul_le_mul_right _ (by omega)
theorem pk_hi : ∀ (bs : List Nat) (w : Nat), (∀ b ∈ bs, b < 256) → pkB bs w < (w + 1) * 256 ^ bs.length
  | [], w, _ => by
    show w < (w + 1) * 256 ^ 0
    rw [Nat.pow_zero, Nat.mul_one]
    exact Nat.lt_succ_self _
  | b :: bs, w, h => by
    show pkB bs (256 * w + b) < (w + 1) * 256 ^ (bs.length + 1)
    have hb := h b (List.mem_cons_self ..)
    refine Nat.lt_of_lt_of_le (pk_hi bs (256 * w + b) (fun x hx => h x (List.mem_cons_of_mem _ hx))) ?_
    rw [Nat.pow_succ, Nat.mul_comm (256 ^ bs.length) 256, ← Nat.mul_assoc]
    exact Nat.mul_le_mul_right _ (by omega)
theorem pk_same : ∀ (xs ys : List Nat) (w v : Nat), xs.length = ys.length → (∀ b ∈ xs, b < 256) → (∀ b ∈ ys, b < 256) → pkB xs w = pkB ys v → w = v ∧ xs = ys
  | [], [], _, _, _, _, _, e => ⟨e, rfl⟩
  | [], _ :: _, _, _, h, _, _, _ => absurd h (by simp)
  | _ :: _, [], _, _, h, _, _, _ => absurd h (by simp)
  | x :: xs, y :: ys, w, v, h, hx, hy, e => by
    have h1 := hx x (List.mem_cons_self ..)
    have h2 := hy y (List.mem_cons_self ..)
    obtain ⟨a, b⟩ := pk_same xs ys (256 * w + x) (256 * v + y) (Nat.succ.inj h) (fun b hb => hx b (List.mem_cons_of_mem _ hb)) (fun b hb => hy b (List.mem_cons_of_mem _ hb)) e
    have c : x = y := by omega
    exact ⟨by omega, by rw [c, b]⟩
theorem pk_len {xs ys : List Nat} (hx : ∀ b ∈ xs, b < 256) (hy : ∀ b ∈ ys, 0 < b) (e : pkB xs 0 = pkB ys 0) : ys.length ≤ xs.length := by
  refine Nat.le_of_not_lt fun g => ?_
  cases ys with
  | nil => exact absurd g (Nat.not_lt_zero _)
  | cons y ys =>
    have h1 := pk_hi xs 0 hx
    have h2 := pk_lo ys y
    have h0 := hy y (List.mem_cons_self ..)
    have e2 : pkB (y :: ys) 0 = pkB ys y := by
      show pkB ys (256 * 0 + y) = _
      rw [Nat.mul_zero, Nat.zero_add]
    rw [e2] at e
    have l : xs.length ≤ ys.length := Nat.le_of_lt_succ g
    have p : 256 ^ xs.length ≤ 256 ^ ys.length := Nat.pow_le_pow_right (by decide) l
    have q : 1 * 256 ^ ys.length ≤ y * 256 ^ ys.length := Nat.mul_le_mul_right _ h0
    rw [Nat.one_mul] at q
    rw [Nat.zero_add, Nat.one_mul] at h1
    omega
theorem pk_inj {xs ys : List Nat} (hx : ∀ b ∈ xs, 0 < b ∧ b < 256) (hy : ∀ b ∈ ys, 0 < b ∧ b < 256) (e : pkB xs 0 = pkB ys 0) : xs = ys := (pk_same xs ys 0 0 (Nat.le_antisymm (pk_len (fun b h => (hy b h).2) (fun b h => (hx b h).1) e.symm) (pk_len (fun b h => (hx b h).2) (fun b h => (hy b h).1) e)) (fun b h => (hx b h).2) (fun b h => (hy b h).2) e).2
theorem pkw_pk : ∀ j, j ≤ 50 → pkw j = pkB (wdB j) 0 ∧ (j ≠ 1 → pkw j < 281474976710656) ∧ ∀ b ∈ wdB j, 0 < b ∧ b < 256 := by decide +kernel
/-- what the reference packs -/
def pwE (L : Nat) (T : Nat → Nat) : Nat → Nat → Nat → Nat
  | 0, _, w => w
  | f + 1, k, w => if k < L ∧ isLt (T k) = true then pwE L T f (k + 1) (if w < 281474976710656 then 256 * w + T k else 1152921504606846976) else w
def pwT (L : Nat) (T : Nat → Nat) (k w : Nat) : Nat := pwE L T (L - k) k w
theorem pwT_step {L : Nat} {T : Nat → Nat} {k w : Nat} (h : k < L) (q : isLt (T k) = true) : pwT L T k w = pwT L T (k + 1) (if w < 281474976710656 then 256 * w + T k else 1152921504606846976) := by
  unfold pwT
  rw [show L - k = (L - (k + 1)) + 1 by omega]
  exact if_pos ⟨h, q⟩
theorem pwT_stop {L : Nat} {T : Nat → Nat} {k w : Nat} (h : ¬ (k < L ∧ isLt (T k) = true)) : pwT L T k w = w := by
  unfold pwT
  cases L - k with
  | zero => rfl
  | succ f => exact if_neg h
