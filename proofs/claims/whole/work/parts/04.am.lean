/-! THE ABSTRACT MACHINE: values, contents, worlds of fixed shape; one step of straight code; the judgement AW -/
abbrev AV : Type := Int32 ⊕ (Int64 ⊕ Option (Nat × Nat × Nat))
abbrev aI (x : Int32) : AV := Sum.inl x
abbrev aL (x : Int64) : AV := Sum.inr (Sum.inl x)
abbrev aR (c n k : Nat) : AV := Sum.inr (Sum.inr (some (c, n, k)))
abbrev aN : AV := Sum.inr (Sum.inr none)
def aT (r : Option Nat) : AV := Sum.inr (Sum.inr (r.map fun k => (6, 0, k)))
def cv (ad : Nat → Nat) : AV → Value
  | .inl x => .int x
  | .inr (.inl x) => .long x
  | .inr (.inr (some q)) => .ref (ad q.2.2)
  | .inr (.inr none) => .null
abbrev Sg : Type := (Nat → Nat → Int32) × (Nat → Nat → Int64) × (Nat → Nat → Option Nat)
def wI (σ : Sg) (k i : Nat) (v : Int32) : Sg := (fun a j => if a = k ∧ j = i then v else σ.1 a j, σ.2)
def wL (σ : Sg) (k i : Nat) (v : Int64) : Sg := (σ.1, fun a j => if a = k ∧ j = i then v else σ.2.1 a j, σ.2.2)
def wQ (σ : Sg) (k i : Nat) (v : Option Nat) : Sg := (σ.1, σ.2.1, fun a j => if a = k ∧ j = i then v else σ.2.2 a j)
abbrev Kd : Type := List (Nat × Nat)
abbrev Ids : Type := ClassId × ClassId × ClassId × ClassId
def fv (ad : Nat → Nat) (σ : Sg) (k j : Nat) (f : FK) : Value := if f.1 = 2 then .ref (ad (k + f.2.1)) else if f.1 = 1 then .long (σ.2.1 k j) else .int (σ.1 k j)
def ce (ids : Ids) (ad : Nat → Nat) (σ : Sg) (k : Nat) (q : Nat × Nat) : va_E :=
  if q.1 = 13 then .inl (ids.1, q.2, .inl (σ.1 k))
  else if q.1 = 14 then .inl (ids.2.1, q.2, .inr (.inl (σ.2.1 k)))
  else if q.1 = 15 then .inl (ids.2.2.1, q.2, .inl (σ.1 k))
  else if q.1 = 16 then .inl (ids.2.2.2, q.2, .inr (.inr (.inr (.inr (fun j => (σ.2.2 k j).map ad)))))
  else .inr (q.1, (flds q.1).mapIdx (fun j f => fv ad σ k j f))
def aW (ids : Ids) (ad : Nat → Nat) (κ : Kd) (σ : Sg) : va_W := κ.mapIdx (fun k q => (ad k, ce ids ad σ k q))
def atys (ids : Ids) : List (ClassId × FieldType) := [(ids.1, .int), (ids.2.1, .long), (ids.2.2.1, .boolean), (ids.2.2.2, .object RX6)]
/-- strings: the literal n of the six, at SB + n; its bytes at SV + n -/
def SB : Nat := 1000000
def SV : Nat := 2000000
def SF : Nat := 3000000
def sad (c n : Nat) : Nat := if c = 20 then SB + n else if c = 21 then SV + n else SF
def okv (κ : Kd) : AV → Prop
  | .inr (.inr (some q)) => if 20 ≤ q.1 then q.2.1 < 6 ∧ q.2.2 = sad q.1 q.2.1 else κ[q.2.2]? = some (q.1, q.2.1)
  | _ => True
theorem okv_at {κ : Kd} {c n k : Nat} (h : okv κ (aR c n k)) (hc : c < 20) : κ[k]? = some (c, n) := by
  have h2 : (if 20 ≤ c then n < 6 ∧ k = sad c n else κ[k]? = some (c, n)) := h
  rw [if_neg (by omega)] at h2
  exact h2
theorem okv_str {κ : Kd} {c n k : Nat} (h : okv κ (aR c n k)) (hc : 20 ≤ c) : n < 6 ∧ k = sad c n := by
  have h2 : (if 20 ≤ c then n < 6 ∧ k = sad c n else κ[k]? = some (c, n)) := h
  rw [if_pos hc] at h2
  exact h2
theorem okv_lit {κ : Kd} {c n : Nat} (hc : 20 ≤ c) (hn : n < 6) : okv κ (aR c n (sad c n)) := by
  show (if 20 ≤ c then n < 6 ∧ sad c n = sad c n else κ[sad c n]? = some (c, n))
  rw [if_pos hc]
  exact ⟨hn, rfl⟩
theorem okv_of {κ : Kd} {c n k : Nat} (h : κ[k]? = some (c, n)) (hc : c < 20) : okv κ (aR c n k) := by
  show (if 20 ≤ c then n < 6 ∧ k = sad c n else κ[k]? = some (c, n))
  rw [if_neg (by omega)]
  exact h
def txS : List String := ["cools   spreads fine    house   street  light   cover   open    ", "fetch   quench  warden  hour    bell    wind    who     wood    ", "fire    heat    near    purse   coins   to      of      from    ", "if      then    else    end     and     or      ", "warm    not     odd     even    ", "< > =#+-*/();"]
def ixS : List Nat := [64, 70, 72, 74, 76, 57]
def lenS : List Nat := [64, 64, 64, 48, 32, 13]
def bytS : List (List Int32) := [[99, 111, 111, 108, 115, 32, 32, 32, 115, 112, 114, 101, 97, 100, 115, 32, 102, 105, 110, 101, 32, 32, 32, 32, 104, 111, 117, 115, 101, 32, 32, 32, 115, 116, 114, 101, 101, 116, 32, 32, 108, 105, 103, 104, 116, 32, 32, 32, 99, 111, 118, 101, 114, 32, 32, 32, 111, 112, 101, 110, 32, 32, 32, 32], [102, 101, 116, 99, 104, 32, 32, 32, 113, 117, 101, 110, 99, 104, 32, 32, 119, 97, 114, 100, 101, 110, 32, 32, 104, 111, 117, 114, 32, 32, 32, 32, 98, 101, 108, 108, 32, 32, 32, 32, 119, 105, 110, 100, 32, 32, 32, 32, 119, 104, 111, 32, 32, 32, 32, 32, 119, 111, 111, 100, 32, 32, 32, 32], [102, 105, 114, 101, 32, 32, 32, 32, 104, 101, 97, 116, 32, 32, 32, 32, 110, 101, 97, 114, 32, 32, 32, 32, 112, 117, 114, 115, 101, 32, 32, 32, 99, 111, 105, 110, 115, 32, 32, 32, 116, 111, 32, 32, 32, 32, 32, 32, 111, 102, 32, 32, 32, 32, 32, 32, 102, 114, 111, 109, 32, 32, 32, 32], [105, 102, 32, 32, 32, 32, 32, 32, 116, 104, 101, 110, 32, 32, 32, 32, 101, 108, 115, 101, 32, 32, 32, 32, 101, 110, 100, 32, 32, 32, 32, 32, 97, 110, 100, 32, 32, 32, 32, 32, 111, 114, 32, 32, 32, 32, 32, 32], [119, 97, 114, 109, 32, 32, 32, 32, 110, 111, 116, 32, 32, 32, 32, 32, 111, 100, 100, 32, 32, 32, 32, 32, 101, 118, 101, 110, 32, 32, 32, 32], [60, 32, 62, 32, 61, 35, 43, 45, 42, 47, 40, 41, 59]]
def nestW : List (String × Nat × MethodName) := [(RX8, 58, yX11_within), (RX7, 53, yX11_within), (RX3, 97, yX11_within), (RX10, 90, yX11_within)]
/-- what is known beside the tables: links to a nest mate's private method, the string literals -/
def XK (ad : Nat → Nat) (A : Nat → Prop) (U : State) (H : Heap) : Prop :=
  (∀ q ∈ nestW, va_Nw (.methodLinkNest q.1 q.2.1 q.2.2 "CoverFires") U) ∧ vk_S 6 lenS bytS (fun j => ad (SB + j)) (fun j => ad (SV + j)) A U H ∧ (∀ j, j < 6 → vk_R RX7 (ixS.getD j 0) (txS.getD j "") (ad (SB + j)) U) ∧ va_Z "java/lang/String" "COMPACT_STRINGS" "Z" (.int 1) A U H ∧ (va_Z "jdk/internal/util/Preconditions" "SIOOBE_FORMATTER" "Ljava/util/function/BiFunction;" .null A U H ∨ va_Z "jdk/internal/util/Preconditions" "SIOOBE_FORMATTER" "Ljava/util/function/BiFunction;" (.ref (ad SF)) A U H)
theorem XK.call {ad : Nat → Nat} {A A' : Nat → Prop} {s U : State} {H : Heap} {locs : List Loc} (h : XK ad A s s.heap) (hS : va_S A s.heap H locs) (hA : ∀ q, A' q → A q) (hU : U.heap = H) (hW : s.WarmedH U.vm) : XK ad A' U U.heap := by
  obtain ⟨h1, h2, h3, h4, h5⟩ := h
  rw [hU]
  exact ⟨fun q hq => (h1 q hq).warmM hW, ((h2.kept hS.2.1).narrow hA).moved hW.alike, fun j hj => (h3 j hj).warm hW, ((h4.kept hS.2.1).narrow hA).moved hW.alike, h5.imp (fun h => ((h.kept hS.2.1).narrow hA).moved hW.alike) (fun h => ((h.kept hS.2.1).narrow hA).moved hW.alike)⟩
theorem XK.same {ad : Nat → Nat} {A : Nat → Prop} {u U : State} {H : Heap} (h : XK ad A u H) (hv : u.vm = U.vm) : XK ad A U H := by
  obtain ⟨h1, h2, h3, h4, h5⟩ := h
  have ha : u.vm.Alike U.vm := by rw [hv]; exact Vm.Alike.refl _
  exact ⟨fun q hq => (h1 q hq).same rfl hv, h2.moved ha, fun j hj => (h3 j hj).same hv.symm, h4.moved ha, h5.imp (fun h => h.moved ha) (fun h => h.moved ha)⟩
def okσ (κ : Kd) (σ : Sg) : Prop := ∀ k n j t : Nat, κ[k]? = some (16, n) → σ.2.2 k j = some t → κ[t]? = some (6, 0)
def Reg (κ : Kd) : Prop := ∀ k c n : Nat, κ[k]? = some (c, n) → c < 13 → ∀ (j off code : Nat) (len : Option Nat), (flds c)[j]? = some (2, off, code, len) → ∃ n', κ[k + off]? = some (code, n') ∧ code < 20 ∧ ∀ m, len = some m → n' = m
def lenOf (κ : Kd) (k : Nat) : Nat := ((κ[k]?).getD (0, 0)).2
def ix (i : Int32) : Nat := i.toNatClampNeg
def inb (i : Int32) (n : Nat) : Bool := !(decide (i < 0) || decide (n ≤ ix i))
theorem inb_in {i : Int32} {n : Nat} (h : inb i n = true) : vp_in i n := by
  unfold inb ix at h
  intro q
  rcases q with q | q <;> simp [q] at h
def bz (x : Int32) : Bool := decide (x = 0) || decide (x = 1)
def jrem (x y : Int32) : Int32 := x - x / y * y
def shl (x y : Int32) : Int32 := x <<< (y &&& 31)
def shr (x y : Int32) : Int32 := x >>> (y &&& 31)
def ushr (x y : Int32) : Int32 := (x.toUInt32 >>> (y.toUInt32 &&& Int32.toUInt32 31)).toInt32
def lshl (x : Int64) (y : Int32) : Int64 := x <<< (y.toInt64 &&& 63)
def lshr (x : Int64) (y : Int32) : Int64 := x >>> (y.toInt64 &&& 63)
def lushr (x : Int64) (y : Int32) : Int64 := (x.toUInt64 >>> (y.toInt64.toUInt64 &&& Int64.toUInt64 63)).toInt64
def jlrem (x y : Int64) : Int64 := x - x / y * y
def i2c (x : Int32) : Int32 := (x.toUInt32 % 65536).toInt32
def i2b (x : Int32) : Int32 := x.toInt8.toInt32
/-! programs: name, bytes, locals, answer; the class's field links (index, class, slot), constants -/
abbrev AP : Type := MethodName × ByteArray × Nat × Option FieldType × List (Nat × Nat × Nat) × List (Nat × Int32) × List (Nat × Int64)
abbrev Ax : Type := Nat × Nat × FK × Int32 × Int64
abbrev ASt : Type := List (Option AV) × List AV × Sg
def clr1 (L : List (Option AV)) (n : Nat) : List (Option AV) := match n with
  | 0 => L
  | m + 1 => match L[m]? with
    | some (some (.inr (.inl _))) => L.set m none
    | _ => L
def psh (v : AV) (st : ASt) : Option (Bool × ASt) := some (true, st.1, v :: st.2.1, st.2.2)
def ldI (n : Nat) (st : ASt) : Option (Bool × ASt) := match st.1[n]? with
  | some (some (.inl x)) => some (true, st.1, aI x :: st.2.1, st.2.2)
  | _ => none
def ldL (n : Nat) (st : ASt) : Option (Bool × ASt) := match st.1[n]? with
  | some (some (.inr (.inl x))) => some (true, st.1, aL x :: st.2.1, st.2.2)
  | _ => none
def ldA (n : Nat) (st : ASt) : Option (Bool × ASt) := match st.1[n]? with
  | some (some (.inr (.inr r))) => some (true, st.1, .inr (.inr r) :: st.2.1, st.2.2)
  | _ => none
def stI (n : Nat) (st : ASt) : Option (Bool × ASt) := match st.2.1 with
  | .inl x :: r => match Nat.blt n st.1.length with
    | true => some (true, (clr1 st.1 n).set n (some (aI x)), r, st.2.2)
    | false => none
  | _ => none
def stL (n : Nat) (st : ASt) : Option (Bool × ASt) := match st.2.1 with
  | .inr (.inl x) :: r => match Nat.blt (n + 1) st.1.length with
    | true => some (true, ((clr1 st.1 n).set n (some (aL x))).set (n + 1) none, r, st.2.2)
    | false => none
  | _ => none
def stA (n : Nat) (st : ASt) : Option (Bool × ASt) := match st.2.1 with
  | .inr (.inr x) :: r => match Nat.blt n st.1.length with
    | true => some (true, (clr1 st.1 n).set n (some (.inr (.inr x))), r, st.2.2)
    | false => none
  | _ => none
def bI (f : Int32 → Int32 → Int32) (st : ASt) : Option (Bool × ASt) := match st.2.1 with
  | .inl y :: .inl x :: r => some (true, st.1, aI (f x y) :: r, st.2.2)
  | _ => none
def bL (f : Int64 → Int64 → Int64) (st : ASt) : Option (Bool × ASt) := match st.2.1 with
  | .inr (.inl y) :: .inr (.inl x) :: r => some (true, st.1, aL (f x y) :: r, st.2.2)
  | _ => none
def dI (f : Int32 → Int32 → Int32) (st : ASt) : Option (Bool × ASt) := match st.2.1 with
  | .inl y :: .inl x :: r => some (!decide (y = 0), st.1, aI (f x y) :: r, st.2.2)
  | _ => none
def dL (f : Int64 → Int64 → Int64) (st : ASt) : Option (Bool × ASt) := match st.2.1 with
  | .inr (.inl y) :: .inr (.inl x) :: r => some (!decide (y = 0), st.1, aL (f x y) :: r, st.2.2)
  | _ => none
def hL (f : Int64 → Int32 → Int64) (st : ASt) : Option (Bool × ASt) := match st.2.1 with
  | .inl y :: .inr (.inl x) :: r => some (true, st.1, aL (f x y) :: r, st.2.2)
  | _ => none
def gfv (κ : Kd) (σ : Sg) (k j : Nat) (f : FK) : AV := match f with
  | (2, off, code, some n) => aR code n (k + off)
  | (2, off, code, none) => aR code (lenOf κ (k + off)) (k + off)
  | (1, _, _, _) => aL (σ.2.1 k j)
  | _ => aI (σ.1 k j)
def a1 (κ : Kd) (i : Instr) (x : Ax) (st : ASt) : Option (Bool × ASt) := match i with
  | .aconst_null => psh aN st
  | .iconst _ => psh (aI x.2.2.2.1) st
  | .bipush _ => psh (aI x.2.2.2.1) st
  | .sipush _ => psh (aI x.2.2.2.1) st
  | .ldc _ => psh (aI x.2.2.2.1) st
  | .ldc_w _ => psh (aI x.2.2.2.1) st
  | .lconst _ => psh (aL x.2.2.2.2) st
  | .ldc2_w _ => psh (aL x.2.2.2.2) st
  | .iload_n k => ldI k.val st
  | .iload n => ldI n st
  | .lload_n k => ldL k.val st
  | .lload n => ldL n st
  | .aload_n k => ldA k.val st
  | .aload n => ldA n st
  | .istore_n k => stI k.val st
  | .istore n => stI n st
  | .lstore_n k => stL k.val st
  | .lstore n => stL n st
  | .astore_n k => stA k.val st
  | .astore n => stA n st
  | .iadd => bI (· + ·) st
  | .isub => bI (· - ·) st
  | .imul => bI (· * ·) st
  | .iand => bI (· &&& ·) st
  | .ior => bI (· ||| ·) st
  | .ixor => bI (· ^^^ ·) st
  | .ishl => bI shl st
  | .ishr => bI shr st
  | .iushr => bI ushr st
  | .idiv => dI (· / ·) st
  | .irem => dI jrem st
  | .ladd => bL (· + ·) st
  | .lsub => bL (· - ·) st
  | .lmul => bL (· * ·) st
  | .land => bL (· &&& ·) st
  | .lor => bL (· ||| ·) st
  | .ldiv => dL (· / ·) st
  | .lrem => dL jlrem st
  | .lshl => hL lshl st
  | .lshr => hL lshr st
  | .lushr => hL lushr st
  | .ineg => match st.2.1 with
    | .inl y :: r => some (true, st.1, aI (-y) :: r, st.2.2)
    | _ => none
  | .lneg => match st.2.1 with
    | .inr (.inl y) :: r => some (true, st.1, aL (-y) :: r, st.2.2)
    | _ => none
  | .i2l => match st.2.1 with
    | .inl y :: r => some (true, st.1, aL y.toInt64 :: r, st.2.2)
    | _ => none
  | .l2i => match st.2.1 with
    | .inr (.inl y) :: r => some (true, st.1, aI y.toInt32 :: r, st.2.2)
    | _ => none
  | .i2c => match st.2.1 with
    | .inl y :: r => some (true, st.1, aI (i2c y) :: r, st.2.2)
    | _ => none
  | .i2b => match st.2.1 with
    | .inl y :: r => some (true, st.1, aI (i2b y) :: r, st.2.2)
    | _ => none
  | .lcmp => match st.2.1 with
    | .inr (.inl y) :: .inr (.inl z) :: r => some (true, st.1, aI (lg_cmp z y) :: r, st.2.2)
    | _ => none
  | .iinc n _ => match st.1[n]? with
    | some (some (.inl z)) => some (true, (clr1 st.1 n).set n (some (aI (z + x.2.2.2.1))), st.2.1, st.2.2)
    | _ => none
  | .dup => match st.2.1 with
    | .inl y :: r => some (true, st.1, .inl y :: .inl y :: r, st.2.2)
    | .inr (.inr y) :: r => some (true, st.1, .inr (.inr y) :: .inr (.inr y) :: r, st.2.2)
    | _ => none
  | .dup2 => match st.2.1 with
    | .inl y :: .inr (.inr z) :: r => some (true, st.1, .inl y :: .inr (.inr z) :: .inl y :: .inr (.inr z) :: r, st.2.2)
    | .inl y :: .inl z :: r => some (true, st.1, .inl y :: .inl z :: .inl y :: .inl z :: r, st.2.2)
    | _ => none
  | .dup_x1 => match st.2.1 with
    | .inl y :: .inr (.inr z) :: r => some (true, st.1, .inl y :: .inr (.inr z) :: .inl y :: r, st.2.2)
    | _ => none
  | .pop => match st.2.1 with
    | .inl _ :: r => some (true, st.1, r, st.2.2)
    | .inr (.inr _) :: r => some (true, st.1, r, st.2.2)
    | _ => none
  | .getfield _ => match st.2.1 with
    | .inr (.inr (some (c, _, k))) :: r => match Nat.beq c x.1 with
      | true => some (true, st.1, gfv κ st.2.2 k x.2.1 x.2.2.1 :: r, st.2.2)
      | false => none
    | _ => none
  | .putfield _ => match st.2.1 with
    | .inl y :: .inr (.inr (some (c, _, k))) :: r => match Nat.beq c x.1 with
      | true => match x.2.2.1.1 with
        | 0 => some (true, st.1, r, wI st.2.2 k x.2.1 y)
        | 3 => some (bz y, st.1, r, wI st.2.2 k x.2.1 y)
        | _ => none
      | false => none
    | .inr (.inl y) :: .inr (.inr (some (c, _, k))) :: r => match Nat.beq c x.1 with
      | true => match x.2.2.1.1 with
        | 1 => some (true, st.1, r, wL st.2.2 k x.2.1 y)
        | _ => none
      | false => none
    | _ => none
  | .iaload => match st.2.1 with
    | .inl y :: .inr (.inr (some (13, n, k))) :: r => some (inb y n, st.1, aI (st.2.2.1 k (ix y)) :: r, st.2.2)
    | _ => none
  | .baload => match st.2.1 with
    | .inl y :: .inr (.inr (some (15, n, k))) :: r => some (inb y n, st.1, aI (st.2.2.1 k (ix y)) :: r, st.2.2)
    | _ => none
  | .laload => match st.2.1 with
    | .inl y :: .inr (.inr (some (14, n, k))) :: r => some (inb y n, st.1, aL (st.2.2.2.1 k (ix y)) :: r, st.2.2)
    | _ => none
  | .aaload => match st.2.1 with
    | .inl y :: .inr (.inr (some (16, n, k))) :: r => some (inb y n, st.1, aT (st.2.2.2.2 k (ix y)) :: r, st.2.2)
    | _ => none
  | .iastore => match st.2.1 with
    | .inl v :: .inl y :: .inr (.inr (some (13, n, k))) :: r => some (inb y n, st.1, r, wI st.2.2 k (ix y) v)
    | _ => none
  | .bastore => match st.2.1 with
    | .inl v :: .inl y :: .inr (.inr (some (15, n, k))) :: r => some (inb y n && bz v, st.1, r, wI st.2.2 k (ix y) v)
    | _ => none
  | .lastore => match st.2.1 with
    | .inr (.inl v) :: .inl y :: .inr (.inr (some (14, n, k))) :: r => some (inb y n, st.1, r, wL st.2.2 k (ix y) v)
    | _ => none
  | .aastore => match st.2.1 with
    | .inr (.inr (some (6, 0, t))) :: .inl y :: .inr (.inr (some (16, n, k))) :: r => some (inb y n, st.1, r, wQ st.2.2 k (ix y) (some t))
    | .inr (.inr none) :: .inl y :: .inr (.inr (some (16, n, k))) :: r => some (inb y n, st.1, r, wQ st.2.2 k (ix y) none)
    | _ => none
  | .arraylength => match st.2.1 with
    | .inr (.inr (some (13, n, _))) :: r => some (true, st.1, aI (Int32.ofNat n) :: r, st.2.2)
    | _ => none
  | _ => none
def gall : List Bool → Bool
  | [] => true
  | g :: r => g && gall r
/-- which instructions have a condition -/
def hasG (i : Instr) (x : Ax) : Bool := match i with
  | .idiv => true
  | .irem => true
  | .ldiv => true
  | .lrem => true
  | .iaload => true
  | .baload => true
  | .laload => true
  | .aaload => true
  | .iastore => true
  | .bastore => true
  | .lastore => true
  | .aastore => true
  | .putfield _ => Nat.beq x.2.2.1.1 3
  | _ => false
def aseq (κ : Kd) : List (Instr × Nat × Ax) → ASt → Option (List Bool × ASt)
  | [], st => some ([], st)
  | (i, _, x) :: r, st => match a1 κ i x st with
    | none => none
    | some (g, st1) => match aseq κ r st1 with
      | none => none
      | some (g2, st2) => match hasG i x with
        | true => some (g :: g2, st2)
        | false => match g with
          | true => some (g2, st2)
          | false => none
def ilen (i : Instr) : Nat := match i with
  | .bipush _ | .ldc _ | .iload _ | .lload _ | .aload _ | .istore _ | .lstore _ | .astore _ => 2
  | .sipush _ | .ldc_w _ | .ldc2_w _ | .iinc _ _ | .getfield _ | .putfield _ => 3
  | _ => 1
def chk1 (P : AP) (pc : Nat) (i : Instr) (n : Nat) (x : Ax) : Bool := decide (decode P.2.1 pc = .ok (i, n)) && Nat.beq n (ilen i) && (match i with
  | .iconst m => decide (Int32.ofInt m = x.2.2.2.1)
  | .bipush m => decide ((Int8.ofInt m).toInt32 = x.2.2.2.1)
  | .sipush m => decide ((Int16.ofInt m).toInt32 = x.2.2.2.1)
  | .ldc j => decide ((j, x.2.2.2.1) ∈ P.2.2.2.2.2.1)
  | .ldc_w j => decide ((j, x.2.2.2.1) ∈ P.2.2.2.2.2.1)
  | .lconst m => decide (Int64.ofNat m.val = x.2.2.2.2)
  | .ldc2_w j => decide ((j, x.2.2.2.2) ∈ P.2.2.2.2.2.2)
  | .iinc _ m => decide (Int32.ofInt m = x.2.2.2.1)
  | .getfield j => decide ((j, x.1, x.2.1) ∈ P.2.2.2.2.1) && decide ((flds x.1)[x.2.1]? = some x.2.2.1)
  | .putfield j => decide ((j, x.1, x.2.1) ∈ P.2.2.2.2.1) && decide ((flds x.1)[x.2.1]? = some x.2.2.1)
  | _ => true)
def chk (P : AP) : Nat → List (Instr × Nat × Ax) → Nat → Bool
  | pc, [], e => Nat.beq pc e
  | pc, (i, n, x) :: r, e => chk1 P pc i n x && chk P (pc + n) r e
def ccd (P : AP) : Cond := .code P.1 P.2.1 P.2.2.1 P.2.2.2.1
/-- what the tables must say of a program: its code, its field links, its constants -/
def POK (P : AP) : Prop := ccd P ∈ WS ∧ plainName P.1.cls = true ∧ (∀ e ∈ P.2.2.2.2.1, e.2.1 < 13 ∧ e.2.2 < (cN e.2.1).2.2 ∧ Cond.fieldLink P.1.cls e.1 ((cN e.2.1).2.1 e.2.2).1 ((cN e.2.1).2.1 e.2.2).2.1 ((cN e.2.1).2.1 e.2.2).2.2.1 ∈ WS) ∧ (∀ e ∈ P.2.2.2.2.2.1, Cond.constant P.1.cls e.1 e.2 ∈ WS) ∧ (∀ e ∈ P.2.2.2.2.2.2, Cond.constantLong P.1.cls e.1 e.2 ∈ WS)
def rmA (d : Nat) : Room := { frames := d, cells := 0, slots := 0, locals := 40 * d }
abbrev Out : Type := Option AV × Sg
def aQ (ids : Ids) (D : va_G) (ad : Nat → Nat) (κ : Kd) (A : Nat → Prop) (out : Out) : Array Value → State → Outcome → State → Prop := fun _ st oc t => (oc = .returned (out.1.map (cv ad)) ∧ va_P D acl (aW ids ad κ out.2) t.heap ∧ va_K D acl (atys ids) t) ∧ va_F A st t
def okOut (κ : Kd) (out : Out) : Prop := okσ κ out.2 ∧ ∀ v, out.1 = some v → okv κ v
def lrel (ad : Nat → Nat) (nL : Nat) (ls : Array Slot) (L : List (Option AV)) : Prop := ls.size = nL ∧ L.length = nL ∧ lv_wf ls ∧ ∀ (i : Nat) (v : AV), L[i]? = some (some v) → ls[i]? = some (.val (cv ad v))
def Fx (P : AP) (p : Program) (s : State) (m : MethodId) (args : Array Value) (meth : Method) (c : Code) (D : va_G) (ids : Ids) (A : Nat → Prop) (ad : Nat → Nat) : Prop :=
  p.tables.exec = Jvm.exec ∧ c.code = P.2.1 ∧ meth.sig.returnType = P.2.2.2.1 ∧ c.maxLocals = P.2.2.1 ∧ s.vm.findClass P.1.cls = some m.cls ∧ (∀ w ∈ ccd P :: WS, w.before args s = true) ∧ meth.locks = false ∧ va_K D acl (atys ids) s ∧ (∀ q, s.heap.size ≤ q → A q) ∧ XK ad A s s.heap
def AWm (κ : Kd) (P : AP) (d : Nat) (out : Out) (pc : Nat) (L : List (Option AV)) (stk : List AV) (σ : Sg) : Prop :=
  ∀ (l : Launch) (p : Program) (e : Env) (s : State) (m : MethodId) (args : Array Value) (below : List Frame) (meth : Method) (c : Code) (D : va_G) (ids : Ids) (ad : Nat → Nat) (A : Nat → Prop) (H : Heap) (locs : List Loc) (ls : Array Slot),
    Fx P p s m args meth c D ids A ad → va_P D acl (aW ids ad κ σ) H → va_D A (aW ids ad κ σ) → va_S A s.heap H locs → lrel ad P.2.2.1 ls L →
    W p l e (rmA d) s m args below meth c H locs 0 0 (MQ below (aQ ids D ad κ A out) args s 0 0 A) (F0 m pc ls (stk.map (cv ad)))
def AW (κ : Kd) (P : AP) (d : Nat) (out : Out) (pc : Nat) (L : List (Option AV)) (stk : List AV) (σ : Sg) : Prop :=
  POK P → Reg κ → okσ κ σ → (∀ v, some v ∈ L → okv κ v) → (∀ v ∈ stk, okv κ v) → okOut κ out ∧ AWm κ P d out pc L stk σ
