/-! text: the parser, pure. Tokens: kinds K, numbers V. A result: a fault (0: none), where, the postfix code -/
abbrev PR : Type := Nat × Nat × List (Nat × Nat)
def bnR (r : PR) (k : Nat → List (Nat × Nat) → PR) : PR := if r.1 = 0 then k r.2.1 r.2.2 else r
def oneL (K V : Nat → Nat) (lw : Nat) (ar : Nat → PR) (p : Nat) : PR :=
  if K p = 43 then (if 9999 < V p then (2, p, []) else (0, p + 1, [(0, V p)]))
  else if 11 ≤ K p ∧ K p ≤ 19 then (if K p = 19 ∧ lw ≠ 2 then (5, p, []) else (0, p + 1, [(1, K p - 11)]))
  else if K p = 40 ∨ K p = 37 ∨ K p = 47 ∨ K p = 24 then ar p else (1, p, [])
def prodT (K : Nat → Nat) (o : Nat → PR) : Nat → Nat → List (Nat × Nat) → PR
  | 0, p, c => (0, p, c)
  | n + 1, p, c => if K p = 38 ∨ K p = 39 then bnR (o (p + 1)) (fun q d => prodT K o n q (c ++ d ++ [(K p - 31, 0)])) else (0, p, c)
def prodP (K : Nat → Nat) (o : Nat → PR) (N p : Nat) : PR := bnR (o p) (fun q c => prodT K o N q c)
def sumT (K : Nat → Nat) (o : Nat → PR) (N : Nat) : Nat → Nat → List (Nat × Nat) → PR
  | 0, p, c => (0, p, c)
  | n + 1, p, c => if K p = 36 ∨ K p = 37 then bnR (prodP K o N (p + 1)) (fun q d => sumT K o N n q (c ++ d ++ [(K p - 31, 0)])) else (0, p, c)
def sumP (K : Nat → Nat) (o : Nat → PR) (N p : Nat) : PR := bnR (prodP K o N p) (fun q c => sumT K o N N q c)
def askP (K : Nat → Nat) (o a : Nat → PR) (N r p : Nat) : PR :=
  if K p = 48 then (if r = 0 then (3, p, []) else bnR (a (p + 1)) (fun q c => (0, q, c ++ [(20, 0)])))
  else if K p = 49 ∨ K p = 50 then bnR (sumP K o N (p + 1)) (fun q c => (0, q, c ++ [(K p - 33, 0)]))
  else bnR (sumP K o N p) (fun q c => if 30 ≤ K q ∧ K q ≤ 35 then bnR (sumP K o N (q + 1)) (fun s d => (0, s, c ++ d ++ [(K q - 20, 0)])) else (1, q, []))
def manyT (K : Nat → Nat) (k w : Nat) (a : Nat → PR) : Nat → Nat → List (Nat × Nat) → PR
  | 0, p, c => (0, p, c)
  | n + 1, p, c => if K p = k then bnR (a (p + 1)) (fun q d => manyT K k w a n q (c ++ d ++ [(w, 0)])) else (0, p, c)
def manyP (K : Nat → Nat) (k w : Nat) (a : Nat → PR) (N p : Nat) : PR := bnR (a p) (fun q c => manyT K k w a N q c)
def eithP (K : Nat → Nat) (a : Nat → PR) (N p : Nat) : PR := manyP K 29 22 (manyP K 28 21 a N) N p
def chP (K : Nat → Nat) (o a : Nat → PR) (N p : Nat) : PR :=
  bnR (eithP K a N p) fun q c => if K q = 25 then bnR (sumP K o N (q + 1)) (fun s d => if K s = 26 then bnR (sumP K o N (s + 1)) (fun u e => if K u = 27 then (0, u + 1, c ++ d ++ e ++ [(3, 0)]) else (1, u, [])) else (1, s, [])) else (1, q, [])
def arP (K : Nat → Nat) (o a : Nat → PR) (N p : Nat) : PR :=
  if K p = 40 then bnR (sumP K o N (p + 1)) (fun q c => if K q = 41 then (0, q + 1, c) else (1, q, []))
  else if K p = 37 then bnR (o (p + 1)) (fun q c => (0, q, c ++ [(4, 0)]))
  else if K p = 47 then bnR (o (p + 1)) (fun q c => (0, q, c ++ [(2, 0)]))
  else chP K o a N (p + 1)
def OA (K V : Nat → Nat) (lw N : Nat) : Nat → (Nat → PR) × (Nat → PR)
  | 0 => (oneL K V lw (fun p => (3, p, [])), askP K (oneL K V lw (fun p => (3, p, []))) (fun p => (0, p, [])) N 0)
  | r + 1 => (oneL K V lw (arP K (OA K V lw N r).1 (OA K V lw N r).2 N), askP K (oneL K V lw (arP K (OA K V lw N r).1 (OA K V lw N r).2 N)) (OA K V lw N r).2 N (r + 1))
theorem bnR_0 {r : PR} {k : Nat → List (Nat × Nat) → PR} (h : r.1 = 0) : bnR r k = k r.2.1 r.2.2 := if_pos h
theorem bnR_1 {r : PR} {k : Nat → List (Nat × Nat) → PR} (h : r.1 ≠ 0) : bnR r k = r := if_neg h
/-! the pile machine, pure -/
abbrev PS : Type := List Nat × Nat × List (Nat × Nat)
def rkO (o : Nat) : Nat := if 40 ≤ o then 0 else if o = 22 then 1 else if o = 21 then 2 else if o = 20 then 3 else if 10 ≤ o then 4 else if o = 4 ∨ o = 2 then 7 else if 7 ≤ o then 6 else 5
def stl (l : Nat) : List Nat → Nat → List (Nat × Nat) → PS
  | [], n, c => ([], n, c)
  | o :: p, n, c => if l ≤ rkO o then stl l p (if rkO o = 7 ∨ o = 20 then n - 1 else n) (c ++ [(o, 0)]) else (o :: p, n, c)
abbrev st (l : Nat) (X : PS) : PS := stl l X.1 X.2.1 X.2.2
def opn : List Nat → Nat
  | [] => 0
  | o :: p => if 40 ≤ o then o else opn p
def cmpd : List Nat → Bool
  | [] => false
  | o :: p => if 4 < rkO o then cmpd p else decide (rkO o = 4)
def setO (v : Nat) : List Nat → List Nat
  | [] => []
  | o :: p => if 40 ≤ o then v :: p else o :: setO v p
def topA : List Nat → Bool
  | [] => false
  | o :: _ => decide (40 ≤ o ∨ (1 ≤ rkO o ∧ rkO o ≤ 3))
def askA (p : List Nat) : Bool := decide (opn p = 41) && topA p
/-- a state: whole?, the token, pile, opens, out -/
abbrev MS : Type := Bool × Nat × PS
def opd (o : Nat) (p : Nat) (X : PS) : Nat × MS := if X.2.1 = 8 then (13, false, p, X) else (0, false, p + 1, o :: X.1, X.2.1 + 1, X.2.2)
def wts (o : Nat) (p : Nat) (X : PS) : Nat × MS := (0, false, p + 1, o :: X.1, X.2.1, X.2.2)
def bgn (K V : Nat → Nat) (lw : Nat) (p : Nat) (X : PS) : Nat × MS :=
  if K p = 43 ∧ 9999 < V p then (12, false, p, X)
  else if K p = 19 ∧ lw ≠ 2 then (15, false, p, X)
  else if K p = 43 then (0, true, p + 1, stl 7 X.1 X.2.1 (X.2.2 ++ [(0, V p)]))
  else if 11 ≤ K p ∧ K p ≤ 19 then (0, true, p + 1, stl 7 X.1 X.2.1 (X.2.2 ++ [(1, K p - 11)]))
  else if K p = 40 then opd 40 p X
  else if K p = 37 then opd 4 p X
  else if K p = 47 then opd 2 p X
  else if K p = 24 then opd 41 p X
  else if askA X.1 = false then (11, false, p, X)
  else if K p = 48 then opd 20 p X
  else if K p = 49 then wts 16 p X
  else if K p = 50 then wts 17 p X
  else (11, false, p, X)
/-- what stands between: 0 none -/
def btw (k : Nat) (q : List Nat) : Nat :=
  if 36 ≤ k ∧ k ≤ 39 then k - 31
  else if opn q ≠ 41 then 0
  else if cmpd q = false then (if 30 ≤ k ∧ k ≤ 35 then k - 20 else 0)
  else if k = 28 then 21 else if k = 29 then 22 else 0
/-- what an open part goes on with: 0 nothing, 1 its end -/
def prt (k : Nat) (q : List Nat) : Nat :=
  if opn q = 40 then (if k = 41 then 1 else 0)
  else if opn q = 41 then (if k = 25 ∧ cmpd q = true then 42 else 0)
  else if opn q = 42 then (if k = 26 then 43 else 0)
  else if opn q = 43 then (if k = 27 then 1 else 0)
  else 0
def bhd (K : Nat → Nat) (p : Nat) (X : PS) : Nat × MS :=
  if btw (K p) X.1 ≠ 0 then (0, false, p + 1, btw (K p) X.1 :: (st (if rkO (btw (K p) X.1) = 4 then 5 else rkO (btw (K p) X.1)) X).1, (st (if rkO (btw (K p) X.1) = 4 then 5 else rkO (btw (K p) X.1)) X).2)
  else if prt (K p) X.1 = 0 then (if opn X.1 = 0 then (1, true, p, st 1 X) else (11, true, p, X))
  else if prt (K p) X.1 = 1 then (0, true, p + 1, stl 7 (st 1 X).1.tail ((st 1 X).2.1 - 1) ((st 1 X).2.2 ++ (if opn X.1 = 43 then [(3, 0)] else [])))
  else (0, false, p + 1, setO (prt (K p) X.1) (st 1 X).1, (st 1 X).2)
def mst (K V : Nat → Nat) (lw : Nat) (S : MS) : Nat × MS := if 150 < S.2.2.1.length then (99, S) else if S.1 = true then bhd K S.2.1 S.2.2 else bgn K V lw S.2.1 S.2.2
def rn (K V : Nat → Nat) (lw : Nat) : Nat → MS → Nat × MS
  | 0, S => (0, S)
  | k + 1, S => if (mst K V lw S).1 = 0 then rn K V lw k (mst K V lw S).2 else mst K V lw S
theorem rn_add {K V : Nat → Nat} {lw : Nat} : ∀ (a b : Nat) (S S' : MS), rn K V lw a S = (0, S') → rn K V lw (a + b) S = rn K V lw b S'
  | 0, b, S, S', h => by
    rw [Nat.zero_add]
    have : S = S' := congrArg (fun x => x.2) h
    rw [this]
  | a + 1, b, S, S', h => by
    rw [show a + 1 + b = (a + b) + 1 by omega]
    change (if (mst K V lw S).1 = 0 then rn K V lw a (mst K V lw S).2 else mst K V lw S) = (0, S') at h
    show (if (mst K V lw S).1 = 0 then rn K V lw (a + b) (mst K V lw S).2 else mst K V lw S) = _
    by_cases z : (mst K V lw S).1 = 0
    · rw [if_pos z] at h ⊢
      exact rn_add a b _ _ h
    · rw [if_neg z] at h
      exact absurd (congrArg (fun x => x.1) h) z
/-! settling -/
theorem stl_lo {l : Nat} {p : List Nat} (h : ∀ o q, p = o :: q → rkO o < l) (n : Nat) (c : List (Nat × Nat)) : stl l p n c = (p, n, c) := by
  cases p with
  | nil => rfl
  | cons o q => exact if_neg (by have := h o q rfl; omega)
theorem stl_hi {l o : Nat} {p : List Nat} {n : Nat} {c : List (Nat × Nat)} (h : l ≤ rkO o) : stl l (o :: p) n c = stl l p (if rkO o = 7 ∨ o = 20 then n - 1 else n) (c ++ [(o, 0)]) := if_pos h
theorem stl_stl {a b : Nat} (h : a ≤ b) : ∀ (p : List Nat) (n : Nat) (c : List (Nat × Nat)), st a (stl b p n c) = stl a p n c
  | [], _, _ => rfl
  | o :: p, n, c => by
    by_cases z : b ≤ rkO o
    · rw [stl_hi z, stl_hi (by omega)]
      exact stl_stl h p _ _
    · have e : stl b (o :: p) n c = (o :: p, n, c) := if_neg z
      rw [e]
theorem opn_stl {l : Nat} (hl : 1 ≤ l) : ∀ (p : List Nat) (n : Nat) (c : List (Nat × Nat)), opn (stl l p n c).1 = opn p
  | [], _, _ => rfl
  | o :: p, n, c => by
    by_cases z : l ≤ rkO o
    · rw [stl_hi z, opn_stl hl p]
      have : ¬ 40 ≤ o := fun q => by
        have : rkO o = 0 := if_pos q
        omega
      exact (if_neg this).symm
    · have e : stl l (o :: p) n c = (o :: p, n, c) := if_neg z
      rw [e]
theorem cmpd_stl : ∀ (p : List Nat) (n : Nat) (c : List (Nat × Nat)), cmpd (stl 5 p n c).1 = cmpd p
  | [], _, _ => rfl
  | o :: p, n, c => by
    by_cases z : 5 ≤ rkO o
    · rw [stl_hi z, cmpd_stl p]
      exact (if_pos (by omega)).symm
    · have e : stl 5 (o :: p) n c = (o :: p, n, c) := if_neg z
      rw [e]
theorem len_stl {l : Nat} : ∀ (p : List Nat) (n : Nat) (c : List (Nat × Nat)), (stl l p n c).1.length ≤ p.length
  | [], _, _ => Nat.le_refl _
  | o :: p, n, c => by
    by_cases z : l ≤ rkO o
    · rw [stl_hi z]
      exact Nat.le_succ_of_le (len_stl p _ _)
    · have e : stl l (o :: p) n c = (o :: p, n, c) := if_neg z
      rw [e]
      exact Nat.le_refl _
