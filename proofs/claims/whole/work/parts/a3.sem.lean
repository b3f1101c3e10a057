/-! text: what code says, pure: the postfix code of the reference, the class's with jumps -/
def clp (z : Int) : Int := max (-1000000) (min 1000000 z)
def op2 (o : Nat) (x y : Int) : Int := if o = 5 then clp (x + y) else if o = 6 then clp (x - y) else if o = 7 then clp (x * y) else if y = 0 then 0 else clp (x.tdiv y)
def cmW (o : Nat) (x y : Int) : Bool := if o = 10 then decide (x < y) else if o = 11 then decide (x ≤ y) else if o = 12 then decide (y < x) else if o = 13 then decide (y ≤ x) else if o = 14 then decide (x = y) else decide (x ≠ y)
def wmV (A : Nat → Nat) (x : Int) : Int := if 0 ≤ x ∧ x < A 0 ∧ x < 8 then (A (10 + 5 * x.toNat + 1) : Int) else 0
def hsV (A : Nat → Nat) (h w : Nat) : Int := if h < 8 then (A (10 + 5 * h + w) : Int) else 0
def nmV (A : Nat → Nat) (h near i : Nat) : Int := if i = 0 then A 6 else if i = 1 then (if 20 ≤ A 6 % 24 ∨ A 6 % 24 < 6 then 1 else 0) else if i = 2 then A 7 else if i = 3 then h else if i = 4 then hsV A h 3 else if i = 5 then hsV A h 0 else if i = 6 then hsV A h 1 else if i = 7 then near else hsV A h 2
abbrev VT : Type := List Int × List Bool
def stM (A : Nat → Nat) (h near : Nat) (oa : Nat × Nat) (X : VT) : Option VT :=
  if oa.1 = 0 then (if oa.2 ≤ 9999 then some ((oa.2 : Int) :: X.1, X.2) else none)
  else if oa.1 = 1 then (if oa.2 ≤ 8 then some (nmV A h near oa.2 :: X.1, X.2) else none)
  else if oa.1 = 3 then (match X with | (y :: x :: vs, b :: ts) => some ((if b then x else y) :: vs, ts) | _ => none)
  else if oa.1 = 4 then (match X with | (x :: vs, ts) => some (-x :: vs, ts) | _ => none)
  else if oa.1 = 2 then (match X with | (x :: vs, ts) => some (wmV A x :: vs, ts) | _ => none)
  else if oa.1 < 10 then (match X with | (y :: x :: vs, ts) => some (op2 oa.1 x y :: vs, ts) | _ => none)
  else if oa.1 < 16 then (match X with | (y :: x :: vs, ts) => some (vs, cmW oa.1 x y :: ts) | _ => none)
  else if oa.1 < 18 then (match X with | (x :: vs, ts) => some (vs, (decide (x % 2 = 0) == decide (oa.1 = 17)) :: ts) | _ => none)
  else if oa.1 = 20 then (match X with | (vs, b :: ts) => some (vs, (!b) :: ts) | _ => none)
  else if oa.1 = 21 then (match X with | (vs, c :: b :: ts) => some (vs, (b && c) :: ts) | _ => none)
  else if oa.1 = 22 then (match X with | (vs, c :: b :: ts) => some (vs, (b || c) :: ts) | _ => none)
  else none
def rnM (A : Nat → Nat) (h near : Nat) : List (Nat × Nat) → VT → Option VT
  | [], X => some X
  | o :: c, X => (stM A h near o X).bind (rnM A h near c)
theorem rnM_app {A : Nat → Nat} {h near : Nat} : ∀ (c d : List (Nat × Nat)) (X : VT), rnM A h near (c ++ d) X = (rnM A h near c X).bind (rnM A h near d)
  | [], _, _ => rfl
  | o :: c, d, X => by
    show (stM A h near o X).bind (rnM A h near (c ++ d)) = ((stM A h near o X).bind (rnM A h near c)).bind (rnM A h near d)
    cases stM A h near o X with
    | none => rfl
    | some Y => exact rnM_app c d Y
abbrev LB2 : Type := (Nat → Nat) → Nat → Nat → Bool
def GN (c : List (Nat × Nat)) (v : LV) : Prop := ∀ A h near vs ts, rnM A h near c (vs, ts) = some (v A h near :: vs, ts)
def GB (c : List (Nat × Nat)) (b : LB2) : Prop := ∀ A h near vs ts, rnM A h near c (vs, ts) = some (vs, b A h near :: ts)
theorem GN_num {a : Nat} (h : a ≤ 9999) : GN [(0, a)] (fun _ _ _ => (a : Int)) := fun A k n vs ts => by
  show (stM A k n (0, a) (vs, ts)).bind _ = _
  have : stM A k n (0, a) (vs, ts) = some ((a : Int) :: vs, ts) := by
    unfold stM
    rw [if_pos rfl, if_pos h]
  rw [this]
  rfl
theorem GN_name {i : Nat} (h : i ≤ 8) : GN [(1, i)] (fun A k n => nmV A k n i) := fun A k n vs ts => by
  show (stM A k n (1, i) (vs, ts)).bind _ = _
  have : stM A k n (1, i) (vs, ts) = some (nmV A k n i :: vs, ts) := by
    unfold stM
    rw [if_neg (show ¬ (1 = 0) by decide), if_pos rfl, if_pos h]
  rw [this]
  rfl
theorem GN_neg {c : List (Nat × Nat)} {v : LV} (g : GN c v) : GN (c ++ [(4, 0)]) (fun A k n => -v A k n) := fun A k n vs ts => by
  rw [rnM_app, g]
  rfl
theorem GN_warm {c : List (Nat × Nat)} {v : LV} (g : GN c v) : GN (c ++ [(2, 0)]) (fun A k n => wmV A (v A k n)) := fun A k n vs ts => by
  rw [rnM_app, g]
  rfl
theorem GN_two {c d : List (Nat × Nat)} {v w : LV} {o : Nat} (ho : 5 ≤ o ∧ o ≤ 8) (g : GN c v) (f : GN d w) : GN (c ++ d ++ [(o, 0)]) (fun A k n => op2 o (v A k n) (w A k n)) := fun A k n vs ts => by
  rw [rnM_app, rnM_app, g, Option.bind_some, f, Option.bind_some]
  show (stM A k n (o, 0) _).bind _ = _
  have : stM A k n (o, 0) (w A k n :: v A k n :: vs, ts) = some (op2 o (v A k n) (w A k n) :: vs, ts) := by
    unfold stM
    dsimp only
    rw [if_neg (by omega), if_neg (by omega), if_neg (by omega), if_neg (by omega), if_neg (by omega), if_pos (by omega)]
  rw [this]
  rfl
theorem GB_cmp {c d : List (Nat × Nat)} {v w : LV} {o : Nat} (ho : 10 ≤ o ∧ o ≤ 15) (g : GN c v) (f : GN d w) : GB (c ++ d ++ [(o, 0)]) (fun A k n => cmW o (v A k n) (w A k n)) := fun A k n vs ts => by
  rw [rnM_app, rnM_app, g, Option.bind_some, f, Option.bind_some]
  show (stM A k n (o, 0) _).bind _ = _
  have : stM A k n (o, 0) (w A k n :: v A k n :: vs, ts) = some (vs, cmW o (v A k n) (w A k n) :: ts) := by
    unfold stM
    dsimp only
    rw [if_neg (by omega), if_neg (by omega), if_neg (by omega), if_neg (by omega), if_neg (by omega), if_neg (by omega), if_pos (by omega)]
  rw [this]
  rfl
theorem GB_odd {c : List (Nat × Nat)} {v : LV} {o : Nat} (ho : o = 16 ∨ o = 17) (g : GN c v) : GB (c ++ [(o, 0)]) (fun A k n => decide (v A k n % 2 = 0) == decide (o = 17)) := fun A k n vs ts => by
  rw [rnM_app, g, Option.bind_some]
  show (stM A k n (o, 0) _).bind _ = _
  have : stM A k n (o, 0) (v A k n :: vs, ts) = some (vs, (decide (v A k n % 2 = 0) == decide (o = 17)) :: ts) := by
    unfold stM
    dsimp only
    rw [if_neg (by omega), if_neg (by omega), if_neg (by omega), if_neg (by omega), if_neg (by omega), if_neg (by omega), if_neg (by omega), if_pos (by omega)]
  rw [this]
  rfl
theorem GB_not {c : List (Nat × Nat)} {b : LB2} (g : GB c b) : GB (c ++ [(20, 0)]) (fun A k n => !b A k n) := fun A k n vs ts => by
  rw [rnM_app, g]
  rfl
theorem GB_and {c d : List (Nat × Nat)} {b e : LB2} (g : GB c b) (f : GB d e) : GB (c ++ d ++ [(21, 0)]) (fun A k n => b A k n && e A k n) := fun A k n vs ts => by
  rw [rnM_app, rnM_app, g, Option.bind_some, f]
  rfl
theorem GB_or {c d : List (Nat × Nat)} {b e : LB2} (g : GB c b) (f : GB d e) : GB (c ++ d ++ [(22, 0)]) (fun A k n => b A k n || e A k n) := fun A k n vs ts => by
  rw [rnM_app, rnM_app, g, Option.bind_some, f]
  rfl
theorem GN_sel {c d e : List (Nat × Nat)} {b : LB2} {v w : LV} (g : GB c b) (f : GN d v) (i : GN e w) : GN (c ++ d ++ e ++ [(3, 0)]) (fun A k n => if b A k n then v A k n else w A k n) := fun A k n vs ts => by
  rw [rnM_app, rnM_app, rnM_app, g, Option.bind_some, f, Option.bind_some, i]
  rfl
/-! the class's code -/
def on1 (A : Nat → Nat) (o : Nat) (x : Int) : Int := if o = 46 then -x else if o = 47 then wmV A x else if o = 48 then (if x = 0 then 1 else 0) else if o = 49 then (if x % 2 = 0 then 0 else 1) else (if x % 2 = 0 then 1 else 0)
def on2 (o : Nat) (x y : Int) : Int := if o = 28 then (if x = 1 ∧ y = 1 then 1 else 0) else if o = 29 then (if x = 0 ∧ y = 0 then 0 else 1) else if o < 36 then (if cmW (o - 20) x y = true then 1 else 0) else op2 (o - 31) x y
def stX (cX : Nat → Nat × Nat) (A : Nat → Nat) (h near p : Nat) (s : List Int) : Option (Nat × List Int) :=
  if (cX p).1 = 43 then (if (cX p).2 ≤ 9999 then some (p + 1, ((cX p).2 : Int) :: s) else none)
  else if (cX p).1 = 26 then (if p < (cX p).2 then some ((cX p).2, s) else none)
  else if (cX p).1 = 24 then (match s with | x :: s' => if x = 0 then (if p < (cX p).2 then some ((cX p).2, s') else none) else some (p + 1, s') | _ => none)
  else if 11 ≤ (cX p).1 ∧ (cX p).1 ≤ 19 then some (p + 1, nmV A h near ((cX p).1 - 11) :: s)
  else if 46 ≤ (cX p).1 ∧ (cX p).1 ≤ 50 then (match s with | x :: s' => some (p + 1, on1 A (cX p).1 x :: s') | _ => none)
  else if 28 ≤ (cX p).1 ∧ (cX p).1 ≤ 39 then (match s with | y :: x :: s' => if (cX p).1 < 30 ∧ ¬ ((x = 0 ∨ x = 1) ∧ (y = 0 ∨ y = 1)) then none else some (p + 1, on2 (cX p).1 x y :: s') | _ => none)
  else none
/-- from p on to e, n steps at most -/
def evX (cX : Nat → Nat × Nat) (A : Nat → Nat) (h near e : Nat) : Nat → Nat → List Int → Option (List Int)
  | 0, p, s => if p = e then some s else none
  | n + 1, p, s => if p = e then some s else if e < p then none else (stX cX A h near p s).bind (fun q => evX cX A h near e n q.1 q.2)
theorem stX_gt {cX : Nat → Nat × Nat} {A : Nat → Nat} {h near p : Nat} {s : List Int} {q : Nat × List Int} (e : stX cX A h near p s = some q) : p < q.1 := by
  unfold stX at e
  by_cases c1 : (cX p).1 = 43
  · rw [if_pos c1] at e
    by_cases c : (cX p).2 ≤ 9999
    · rw [if_pos c] at e; cases e; exact Nat.lt_succ_self p
    · rw [if_neg c] at e; cases e
  rw [if_neg c1] at e
  by_cases c2 : (cX p).1 = 26
  · rw [if_pos c2] at e
    by_cases c : p < (cX p).2
    · rw [if_pos c] at e; cases e; exact c
    · rw [if_neg c] at e; cases e
  rw [if_neg c2] at e
  by_cases c3 : (cX p).1 = 24
  · rw [if_pos c3] at e
    cases s with
    | nil => cases e
    | cons x s =>
      change (if x = 0 then (if p < (cX p).2 then some ((cX p).2, s) else none) else some (p + 1, s)) = some q at e
      by_cases d : x = 0
      · rw [if_pos d] at e
        by_cases c : p < (cX p).2
        · rw [if_pos c] at e; cases e; exact c
        · rw [if_neg c] at e; cases e
      · rw [if_neg d] at e; cases e; exact Nat.lt_succ_self p
  rw [if_neg c3] at e
  by_cases c4 : 11 ≤ (cX p).1 ∧ (cX p).1 ≤ 19
  · rw [if_pos c4] at e; cases e; exact Nat.lt_succ_self p
  rw [if_neg c4] at e
  by_cases c5 : 46 ≤ (cX p).1 ∧ (cX p).1 ≤ 50
  · rw [if_pos c5] at e
    cases s with
    | nil => cases e
    | cons x s => cases e; exact Nat.lt_succ_self p
  rw [if_neg c5] at e
  by_cases c6 : 28 ≤ (cX p).1 ∧ (cX p).1 ≤ 39
  · rw [if_pos c6] at e
    cases s with
    | nil => cases e
    | cons y s =>
      cases s with
      | nil => cases e
      | cons x s =>
        change (if (cX p).1 < 30 ∧ ¬ ((x = 0 ∨ x = 1) ∧ (y = 0 ∨ y = 1)) then none else some (p + 1, on2 (cX p).1 x y :: s)) = some q at e
        by_cases c : (cX p).1 < 30 ∧ ¬ ((x = 0 ∨ x = 1) ∧ (y = 0 ∨ y = 1))
        · rw [if_pos c] at e; cases e
        · rw [if_neg c] at e; cases e; exact Nat.lt_succ_self p
  rw [if_neg c6] at e
  cases e
theorem stX_congr {cX dX : Nat → Nat × Nat} {A : Nat → Nat} {h near p : Nat} {s : List Int} (e : dX p = cX p) : stX dX A h near p s = stX cX A h near p s := by
  unfold stX
  rw [e]
theorem evX_congr {cX dX : Nat → Nat × Nat} {A : Nat → Nat} {h near e : Nat} : ∀ n p s, (∀ j, p ≤ j → j < e → dX j = cX j) → evX dX A h near e n p s = evX cX A h near e n p s
  | 0, _, _, _ => rfl
  | n + 1, p, s, g => by
    show (if p = e then some s else if e < p then none else (stX dX A h near p s).bind (fun q => evX dX A h near e n q.1 q.2)) = (if p = e then some s else if e < p then none else (stX cX A h near p s).bind (fun q => evX cX A h near e n q.1 q.2))
    by_cases z : p = e
    · rw [if_pos z, if_pos z]
    · rw [if_neg z, if_neg z]
      by_cases y : e < p
      · rw [if_pos y, if_pos y]
      · rw [if_neg y, if_neg y, stX_congr (g p (Nat.le_refl _) (by omega))]
        cases w : stX cX A h near p s with
        | none => rfl
        | some q =>
          have := stX_gt w
          exact evX_congr n q.1 q.2 (fun j j1 j2 => g j (by omega) j2)
theorem evX_more {cX : Nat → Nat × Nat} {A : Nat → Nat} {h near e : Nat} {r : List Int} : ∀ n d p s, evX cX A h near e n p s = some r → evX cX A h near e (n + d) p s = some r
  | 0, 0, _, _, g => g
  | 0, d + 1, p, s, g => by
    change (if p = e then some s else none) = some r at g
    rw [Nat.zero_add]
    show (if p = e then some s else _) = some r
    by_cases z : p = e
    · rw [if_pos z] at g ⊢
      exact g
    · rw [if_neg z] at g
      cases g
  | n + 1, d, p, s, g => by
    rw [show n + 1 + d = (n + d) + 1 by omega]
    change (if p = e then some s else if e < p then none else (stX cX A h near p s).bind (fun q => evX cX A h near e n q.1 q.2)) = some r at g
    show (if p = e then some s else if e < p then none else (stX cX A h near p s).bind (fun q => evX cX A h near e (n + d) q.1 q.2)) = some r
    by_cases z : p = e
    · rw [if_pos z] at g ⊢
      exact g
    · rw [if_neg z] at g ⊢
      by_cases y : e < p
      · rw [if_pos y] at g
        cases g
      · rw [if_neg y] at g ⊢
        cases w : stX cX A h near p s with
        | none =>
          rw [w] at g
          cases g
        | some q =>
          rw [w] at g
          exact evX_more n d q.1 q.2 g
theorem evX_seq {cX : Nat → Nat × Nat} {A : Nat → Nat} {h near e E m : Nat} {t r : List Int} (hE : e ≤ E) (g2 : evX cX A h near E m e t = some r) : ∀ n p s, evX cX A h near e n p s = some t → evX cX A h near E (n + m) p s = some r
  | 0, p, s, g => by
    change (if p = e then some s else none) = some t at g
    by_cases z : p = e
    · rw [if_pos z] at g
      cases g
      rw [z, Nat.zero_add]
      exact g2
    · rw [if_neg z] at g
      cases g
  | n + 1, p, s, g => by
    change (if p = e then some s else if e < p then none else (stX cX A h near p s).bind (fun q => evX cX A h near e n q.1 q.2)) = some t at g
    by_cases z : p = e
    · rw [if_pos z] at g
      cases g
      rw [z, Nat.add_comm]
      exact evX_more m (n + 1) e _ g2
    · rw [if_neg z] at g
      by_cases y : e < p
      · rw [if_pos y] at g
        cases g
      · rw [if_neg y] at g
        rw [show n + 1 + m = (n + m) + 1 by omega]
        show (if p = E then some s else if E < p then none else (stX cX A h near p s).bind (fun q => evX cX A h near E (n + m) q.1 q.2)) = some r
        rw [if_neg (by omega), if_neg (by omega)]
        cases w : stX cX A h near p s with
        | none =>
          rw [w] at g
          cases g
        | some q =>
          rw [w] at g
          exact evX_seq hE g2 n q.1 q.2 g
theorem evX_one {cX : Nat → Nat × Nat} {A : Nat → Nat} {h near e p : Nat} {s t : List Int} (hp : p < e) (g : stX cX A h near p s = some (e, t)) : evX cX A h near e 1 p s = some t := by
  show (if p = e then some s else if e < p then none else (stX cX A h near p s).bind (fun q => evX cX A h near e 0 q.1 q.2)) = some t
  rw [if_neg (by omega), if_neg (by omega), g]
  exact if_pos rfl
def SEG (cX : Nat → Nat × Nat) (s e : Nat) (v : LV) : Prop := s ≤ e ∧ ∀ A h near l, evX cX A h near e (e - s) s l = some (v A h near :: l)
theorem SEG.congr {cX dX : Nat → Nat × Nat} {s e : Nat} {v : LV} (g : SEG cX s e v) (h : ∀ j, s ≤ j → j < e → dX j = cX j) : SEG dX s e v := ⟨g.1, fun A k n l => by rw [evX_congr _ _ _ h]; exact g.2 A k n l⟩
def b01 (b : LB2) : LV := fun A h n => if b A h n = true then 1 else 0
theorem SEG_one {cX : Nat → Nat × Nat} {s : Nat} {v : LV} (g : ∀ A h n l, stX cX A h n s l = some (s + 1, v A h n :: l)) : SEG cX s (s + 1) v := ⟨by omega, fun A h n l => by
  rw [show s + 1 - s = 1 by omega]
  exact evX_one (by omega) (g A h n l)⟩
theorem SEG_num {cX : Nat → Nat × Nat} {s a : Nat} (h : cX s = (43, a)) (ha : a ≤ 9999) : SEG cX s (s + 1) (fun _ _ _ => (a : Int)) := SEG_one (fun A k n l => by
  unfold stX
  rw [h, if_pos rfl, if_pos ha])
theorem SEG_name {cX : Nat → Nat × Nat} {s k a : Nat} (h : cX s = (k, a)) (hk : 11 ≤ k ∧ k ≤ 19) : SEG cX s (s + 1) (fun A h n => nmV A h n (k - 11)) := SEG_one (fun A u n l => by
  unfold stX
  rw [h]
  dsimp only
  rw [if_neg (by omega), if_neg (by omega), if_neg (by omega), if_pos hk])
theorem SEG_on1 {cX : Nat → Nat × Nat} {s e o a : Nat} {v : LV} (g : SEG cX s e v) (h : cX e = (o, a)) (ho : 46 ≤ o ∧ o ≤ 50) : SEG cX s (e + 1) (fun A k n => on1 A o (v A k n)) := ⟨by have := g.1; omega, fun A k n l => by
  have st : stX cX A k n e (v A k n :: l) = some (e + 1, on1 A o (v A k n) :: l) := by
    unfold stX
    rw [h]
    dsimp only
    rw [if_neg (by omega), if_neg (by omega), if_neg (by omega), if_neg (by omega), if_pos ho]
  have := evX_seq (by omega) (evX_one (by omega) st) _ _ _ (g.2 A k n l)
  have l1 := g.1
  rw [show e + 1 - s = e - s + 1 by omega]
  exact this⟩
theorem SEG_on2 {cX : Nat → Nat × Nat} {s e f o a : Nat} {v w : LV} (g : SEG cX s e v) (g2 : SEG cX e f w) (h : cX f = (o, a)) (ho : 28 ≤ o ∧ o ≤ 39) (hb : o < 30 → ∀ A k n, (v A k n = 0 ∨ v A k n = 1) ∧ (w A k n = 0 ∨ w A k n = 1)) : SEG cX s (f + 1) (fun A k n => on2 o (v A k n) (w A k n)) := ⟨by have := g.1; have := g2.1; omega, fun A k n l => by
  have st : stX cX A k n f (w A k n :: v A k n :: l) = some (f + 1, on2 o (v A k n) (w A k n) :: l) := by
    unfold stX
    rw [h]
    dsimp only
    rw [if_neg (by omega), if_neg (by omega), if_neg (by omega), if_neg (by omega), if_neg (by omega), if_pos ho, if_neg (fun q => q.2 (hb q.1 A k n))]
  have l1 := g.1
  have l2 := g2.1
  have t1 := evX_seq (by omega) (evX_one (by omega) st) _ _ _ (g2.2 A k n (v A k n :: l))
  have t2 := evX_seq (by omega) t1 _ _ _ (g.2 A k n l)
  rw [show f + 1 - s = e - s + (f - e + 1) by omega]
  exact t2⟩
theorem SEG_if {cX : Nat → Nat × Nat} {s e m t : Nat} {b : LB2} {v w : LV} (g : SEG cX s e (b01 b)) (h1 : cX e = (24, m + 1)) (g2 : SEG cX (e + 1) m v) (h2 : cX m = (26, t)) (g3 : SEG cX (m + 1) t w) : SEG cX s t (fun A k n => if b A k n then v A k n else w A k n) := ⟨by have := g.1; have := g2.1; have := g3.1; omega, fun A k n l => by
  have l1 := g.1
  have l2 := g2.1
  have l3 := g3.1
  have c1 : ∀ x : Int, stX cX A k n e (x :: l) = if x = 0 then some (m + 1, l) else some (e + 1, l) := fun x => by
    unfold stX
    rw [h1]
    dsimp only
    rw [if_neg (by decide), if_neg (by decide), if_pos rfl, if_pos (show e < m + 1 by omega)]
  have r := g.2 A k n l
  unfold b01 at r
  show evX cX A k n t (t - s) s l = some ((if b A k n = true then v A k n else w A k n) :: l)
  by_cases z : b A k n = true
  · rw [if_pos z] at r ⊢
    have s1 : evX cX A k n (e + 1) 1 e (1 :: l) = some l := evX_one (by omega) (by rw [c1 1, if_neg (by decide)])
    have s2 : stX cX A k n m (v A k n :: l) = some (t, v A k n :: l) := by
      unfold stX
      rw [h2]
      dsimp only
      rw [if_neg (by decide), if_pos rfl, if_pos (by omega)]
    have t1 := evX_seq (E := t) (by omega) (evX_one (by omega) s2) _ _ _ (g2.2 A k n l)
    have t2 := evX_seq (E := t) (by omega) t1 _ _ _ s1
    have t3 := evX_seq (E := t) (by omega) t2 _ _ _ r
    have := evX_more _ (t - s - (e - s + (1 + (m - (e + 1) + 1)))) _ _ t3
    rw [show e - s + (1 + (m - (e + 1) + 1)) + (t - s - (e - s + (1 + (m - (e + 1) + 1)))) = t - s by omega] at this
    exact this
  · rw [if_neg z] at r ⊢
    have s1 : evX cX A k n (m + 1) 1 e (0 :: l) = some l := evX_one (by omega) (by rw [c1 0, if_pos rfl])
    have t2 := evX_seq (E := t) (by omega) (g3.2 A k n l) _ _ _ s1
    have t3 := evX_seq (E := t) (by omega) t2 _ _ _ r
    have := evX_more _ (t - s - (e - s + (1 + (t - (m + 1))))) _ _ t3
    rw [show e - s + (1 + (t - (m + 1))) + (t - s - (e - s + (1 + (t - (m + 1))))) = t - s by omega] at this
    exact this⟩
