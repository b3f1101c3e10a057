/-! what a law says, and an HOUR by it -/
abbrev LV : Type := (Nat → Nat) → Nat → Nat → Int
def ltop (l : Nat) : Nat := if l = 0 then 9 else if l = 1 then 10 else 9999
def lwo (l : Nat) (A : Nat → Nat) (h near : Nat) : Nat := if l = 0 then (if A (10 + 5 * h) = 2 then 3 else 1) else if l = 1 then (if A (10 + 5 * h) = 2 then A (10 + 5 * h + 3) / 2 + near else A (10 + 5 * h + 3) / 4) else 10
def rt0 (w : Option LV) (top wo : Nat) (A : Nat → Nat) (h near : Nat) : Nat := match w with
  | none => min wo top
  | some v => min (v A h near).toNat top
def rt (w : Option LV) (l : Nat) (A : Nat → Nat) (h near : Nat) : Nat := rt0 w (ltop l) (lwo l A h near) A h near
theorem rt0_le (w : Option LV) (top wo : Nat) (A : Nat → Nat) (h near : Nat) : rt0 w top wo A h near ≤ top := by
  unfold rt0
  split <;> exact Nat.min_le_right _ _
/-- the cells that a law may look at -/
def lcell (j : Nat) : Prop := j = 0 ∨ j = 6 ∨ j = 7 ∨ (10 ≤ j ∧ j < 50)
def dep (v : LV) : Prop := ∀ A B : Nat → Nat, (∀ j, lcell j → A j = B j) → v A = v B
def deps (Lw : Nat → Option LV) : Prop := ∀ l v, Lw l = some v → dep v
theorem rt_dep {Lw : Nat → Option LV} (hd : deps Lw) (l : Nat) {A B : Nat → Nat} (h : ∀ j, lcell j → A j = B j) {k : Nat} (hk : k < 8) (n : Nat) : rt (Lw l) l A k n = rt (Lw l) l B k n := by
  have e : lwo l A k n = lwo l B k n := by
    unfold lwo
    rw [h (10 + 5 * k) (Or.inr (Or.inr (Or.inr (by omega)))), h (10 + 5 * k + 3) (Or.inr (Or.inr (Or.inr (by omega))))]
  unfold rt rt0
  rw [e]
  cases hl : Lw l with
  | none => rfl
  | some v => dsimp only; rw [hd l v hl A B h]
def wrb (b : Bool) (A : Nat → Nat) (h w : Nat) : Nat → Nat := if b then wr A h w else A
def nxt (x : Nat) : Nat := (x * 397 + 277) % 30497
def coolA (b : Bool) (Lw : Nat → Option LV) (A : Nat → Nat) (h near : Nat) : Nat → Nat := if A (10 + 5 * h) = 1 ∨ A (10 + 5 * h) = 2 then (if A (10 + 5 * h + 1) - rt (Lw 0) 0 A h near = 0 then wrb b (up (up A (10 + 5 * h + 1) 0) (10 + 5 * h) 0) h 2 else up A (10 + 5 * h + 1) (A (10 + 5 * h + 1) - rt (Lw 0) 0 A h near)) else A
def catA (b : Bool) (Lw : Nat → Option LV) (B : Nat → Nat) (h near : Nat) : (Nat → Nat) × Nat := if B (10 + 5 * h) = 4 ∨ (near = 0 ∧ B (10 + 5 * h) ≠ 2) then (B, 0) else if B 8 % 10 < rt (Lw 1) 1 B h near then (wrb b (up (up B 8 (nxt (B 8))) (10 + 5 * h) 3) h 3, 1) else (up B 8 (nxt (B 8)), 0)
def liveA (b : Bool) (Lw : Nat → Option LV) (bu : Nat) (A : Nat → Nat) (h : Nat) : (Nat → Nat) × Nat := if bu.testBit h then (wrb b (up (up A (10 + 5 * h) 4) (10 + 5 * h + 1) 0) h 4, 0) else catA b Lw (coolA b Lw A h (pc8 (bes A h &&& bu))) h (pc8 (bes A h &&& bu))
def livesA (b : Bool) (Lw : Nat → Option LV) (bu : Nat) (A : Nat → Nat) : Nat → (Nat → Nat) × Nat
  | 0 => (A, 0)
  | i + 1 => ((liveA b Lw bu (livesA b Lw bu A i).1 i).1, (livesA b Lw bu A i).2 + (liveA b Lw bu (livesA b Lw bu A i).1 i).2)
def windA (A : Nat → Nat) : Nat → Nat := up (up A 8 (nxt (A 8))) 7 (A 8 % 10)
def passA (b : Bool) (Lw : Nat → Option LV) (A : Nat → Nat) : (Nat → Nat) × Nat := (up (livesA b Lw (fires (windA A) 3 3) (windA A) (A 0)).1 6 (A 6 + 1), (livesA b Lw (fires (windA A) 3 3) (windA A) (A 0)).2)
/-- what an hour leaves: houses, streets and all but wind, x, fire, heat and the book -/
def same (A B : Nat → Nat) : Prop := ∀ j, ¬ (7 ≤ j ∧ j < 10) → ¬ (10 ≤ j ∧ j < 50 ∧ j % 5 < 2) → ¬ (1956 ≤ j ∧ j < 1986) → B j = A j
theorem same.refl (A : Nat → Nat) : same A A := fun _ _ _ _ => rfl
theorem same.trans {A B C : Nat → Nat} (h : same A B) (g : same B C) : same A C := fun j a b c => (g j a b c).trans (h j a b c)
theorem same_up {A : Nat → Nat} {k v : Nat} (h : (7 ≤ k ∧ k < 10) ∨ (10 ≤ k ∧ k < 50 ∧ k % 5 < 2)) : same A (up A k v) := fun j a b _ => up_ne (fun q => by subst q; omega)
theorem same_wr {A : Nat → Nat} (h9 : A 9 ≤ 30) (h w : Nat) : same A (wr A h w) := fun j a _ c => wr_off h9 (by omega) (by omega)
theorem bes_same {A B : Nat → Nat} (h : same A B) {k : Nat} (hk : k < 8) : bes B k = bes A k := by
  unfold bes
  refine mk_congr fun e he => ?_
  rw [h (50 + 8 * k + e) (by omega) (by omega) (by omega)]
def BNb (b : Bool) (A : Nat → Nat) : Prop := b = true → BN A
theorem BT.fire {A : Nat → Nat} (hB : BT A) {h v : Nat} (hv : v ≤ 4) : BT (up A (10 + 5 * h) v) := by
  obtain ⟨a, b, c, d, e⟩ := hB
  refine ⟨by rw [up_ne (by omega)]; exact a, by rw [up_ne (by omega)]; exact b, by rw [up_ne (by omega)]; exact c, by rw [up_ne (by omega)]; exact d, fun k hk => ?_⟩
  obtain ⟨e0, e1, e2, e3, e4⟩ := e k hk
  refine ⟨?_, by rw [up_ne (by omega)]; exact e1, by rw [up_ne (by omega)]; exact e2, by rw [up_ne (by omega)]; exact e3, by rw [up_ne (by omega)]; exact e4⟩
  unfold up
  split <;> omega
theorem BT.heat {A : Nat → Nat} (hB : BT A) {h v : Nat} (hv : v ≤ 9) : BT (up A (10 + 5 * h + 1) v) := by
  obtain ⟨a, b, c, d, e⟩ := hB
  refine ⟨by rw [up_ne (by omega)]; exact a, by rw [up_ne (by omega)]; exact b, by rw [up_ne (by omega)]; exact c, by rw [up_ne (by omega)]; exact d, fun k hk => ?_⟩
  obtain ⟨e0, e1, e2, e3, e4⟩ := e k hk
  refine ⟨by rw [up_ne (by omega)]; exact e0, ?_, by rw [up_ne (by omega)]; exact e2, by rw [up_ne (by omega)]; exact e3, by rw [up_ne (by omega)]; exact e4⟩
  unfold up
  split <;> omega
theorem BT.coins {A : Nat → Nat} (hB : BT A) {h v : Nat} (hv : v ≤ 9999) : BT (up A (10 + 5 * h + 2) v) := by
  obtain ⟨a, b, c, d, e⟩ := hB
  refine ⟨by rw [up_ne (by omega)]; exact a, by rw [up_ne (by omega)]; exact b, by rw [up_ne (by omega)]; exact c, by rw [up_ne (by omega)]; exact d, fun k hk => ?_⟩
  obtain ⟨e0, e1, e2, e3, e4⟩ := e k hk
  refine ⟨by rw [up_ne (by omega)]; exact e0, by rw [up_ne (by omega)]; exact e1, ?_, by rw [up_ne (by omega)]; exact e3, by rw [up_ne (by omega)]; exact e4⟩
  unfold up
  split <;> omega
theorem BT.cong {A B : Nat → Nat} (hB : BT A) (h : ∀ j, (j = 0 ∨ (6 ≤ j ∧ j < 9) ∨ (10 ≤ j ∧ j < 50)) → B j = A j) : BT B := by
  obtain ⟨a, b, c, d, e⟩ := hB
  refine ⟨by rw [h _ (by omega)]; exact a, by rw [h _ (by omega)]; exact b, by rw [h _ (by omega)]; exact c, by rw [h _ (by omega)]; exact d, fun k hk => ?_⟩
  rw [h _ (by omega), h (10 + 5 * k + 1) (by omega), h (10 + 5 * k + 2) (by omega), h (10 + 5 * k + 3) (by omega), h (10 + 5 * k + 4) (by omega)]
  exact e k hk
theorem BT_wr {A : Nat → Nat} (hB : BT A) (h9 : A 9 ≤ 30) (h w : Nat) : BT (wr A h w) := hB.cong (fun j hj => wr_off h9 (by omega) (by omega))
theorem BT.drawn {A : Nat → Nat} (hB : BT A) (x : Nat) : BT (up A 8 (nxt x)) := by
  obtain ⟨a, b, c, d, e⟩ := hB
  refine ⟨by rw [up_ne (by omega)]; exact a, by rw [up_ne (by omega)]; exact b, by rw [up_ne (by omega)]; exact c, by rw [up_hit]; exact Nat.mod_lt _ (by decide), fun k hk => ?_⟩
  rw [up_ne (by omega), up_ne (by omega), up_ne (by omega), up_ne (by omega), up_ne (by omega)]
  exact e k hk
theorem BT.wind {A : Nat → Nat} (hB : BT A) {x : Nat} (hx : x ≤ 9) : BT (up A 7 x) := by
  obtain ⟨a, b, c, d, e⟩ := hB
  refine ⟨by rw [up_ne (by omega)]; exact a, by rw [up_ne (by omega)]; exact b, by rw [up_hit]; exact hx, by rw [up_ne (by omega)]; exact d, fun k hk => ?_⟩
  rw [up_ne (by omega), up_ne (by omega), up_ne (by omega), up_ne (by omega), up_ne (by omega)]
  exact e k hk
theorem BT.clock {A : Nat → Nat} (hB : BT A) {x : Nat} (hx : x ≤ 9999) : BT (up A 6 x) := by
  obtain ⟨a, b, c, d, e⟩ := hB
  refine ⟨by rw [up_ne (by omega)]; exact a, by rw [up_hit]; exact hx, by rw [up_ne (by omega)]; exact c, by rw [up_ne (by omega)]; exact d, fun k hk => ?_⟩
  rw [up_ne (by omega), up_ne (by omega), up_ne (by omega), up_ne (by omega), up_ne (by omega)]
  exact e k hk
theorem BN_up {A : Nat → Nat} (hB : BN A) {k v : Nat} (h : k ≠ 9 ∧ k < 1956) : BN (up A k v) := ⟨by rw [up_ne (by omega)]; exact hB.1, fun i hi => by rw [up_ne (by omega)]; exact hB.2 i hi⟩
theorem BN_wr {A : Nat → Nat} (hB : BN A) (h6 : A 6 ≤ 9999) {h w : Nat} (hh : h < 8) (hw : w < 8) : BN (wr A h w) := by
  obtain ⟨b9, bb⟩ := hB
  unfold wr
  by_cases hl : A 9 < 30
  · rw [if_pos hl]
    refine ⟨by rw [up_hit]; omega, fun i hi => ?_⟩
    rw [up_ne (by omega)]
    unfold up
    split
    · omega
    · exact bb i hi
  · rw [if_neg hl]
    refine ⟨by dsimp only; rw [if_neg (by decide), if_neg (by decide)]; exact b9, fun i hi => ?_⟩
    dsimp only
    split
    · omega
    · split
      · have := bb (i + 1) (by omega)
        rw [show 1956 + i + 1 = 1956 + (i + 1) by omega]
        exact this
      · exact bb i hi
